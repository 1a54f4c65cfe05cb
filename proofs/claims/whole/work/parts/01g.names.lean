theorem dX8_changeBy_69 : decode cX8_changeBy 69 = .ok (.iaload, 1) := by decide +kernel
theorem dX8_changeBy_70 : decode cX8_changeBy 70 = .ok (.iastore, 1) := by decide +kernel
theorem dX8_changeBy_71 : decode cX8_changeBy 71 = .ok (.aload_n 0, 1) := by decide +kernel
theorem dX8_changeBy_72 : decode cX8_changeBy 72 = .ok (.getfield 53, 3) := by decide +kernel
theorem dX8_changeBy_75 : decode cX8_changeBy 75 = .ok (.iconst 4, 1) := by decide +kernel
theorem dX8_changeBy_76 : decode cX8_changeBy 76 = .ok (.iload_n 3, 1) := by decide +kernel
theorem dX8_changeBy_77 : decode cX8_changeBy 77 = .ok (.imul, 1) := by decide +kernel
theorem dX8_changeBy_78 : decode cX8_changeBy 78 = .ok (.iconst 2, 1) := by decide +kernel
theorem dX8_changeBy_79 : decode cX8_changeBy 79 = .ok (.iadd, 1) := by decide +kernel
theorem dX8_changeBy_80 : decode cX8_changeBy 80 = .ok (.aload_n 0, 1) := by decide +kernel
theorem dX8_changeBy_81 : decode cX8_changeBy 81 = .ok (.getfield 31, 3) := by decide +kernel
theorem dX8_changeBy_84 : decode cX8_changeBy 84 = .ok (.iload_n 3, 1) := by decide +kernel
theorem dX8_changeBy_85 : decode cX8_changeBy 85 = .ok (.iaload, 1) := by decide +kernel
theorem dX8_changeBy_86 : decode cX8_changeBy 86 = .ok (.iastore, 1) := by decide +kernel
theorem dX8_changeBy_87 : decode cX8_changeBy 87 = .ok (.aload_n 0, 1) := by decide +kernel
theorem dX8_changeBy_88 : decode cX8_changeBy 88 = .ok (.getfield 53, 3) := by decide +kernel
theorem dX8_changeBy_91 : decode cX8_changeBy 91 = .ok (.iconst 4, 1) := by decide +kernel
theorem dX8_changeBy_92 : decode cX8_changeBy 92 = .ok (.iload_n 3, 1) := by decide +kernel
theorem dX8_changeBy_93 : decode cX8_changeBy 93 = .ok (.imul, 1) := by decide +kernel
theorem dX8_changeBy_94 : decode cX8_changeBy 94 = .ok (.iconst 3, 1) := by decide +kernel
theorem dX8_changeBy_95 : decode cX8_changeBy 95 = .ok (.iadd, 1) := by decide +kernel
theorem dX8_changeBy_96 : decode cX8_changeBy 96 = .ok (.aload_n 0, 1) := by decide +kernel
theorem dX8_changeBy_97 : decode cX8_changeBy 97 = .ok (.getfield 34, 3) := by decide +kernel
theorem dX8_changeBy_100 : decode cX8_changeBy 100 = .ok (.iload_n 3, 1) := by decide +kernel
theorem dX8_changeBy_101 : decode cX8_changeBy 101 = .ok (.iaload, 1) := by decide +kernel
theorem dX8_changeBy_102 : decode cX8_changeBy 102 = .ok (.iastore, 1) := by decide +kernel
theorem dX8_changeBy_103 : decode cX8_changeBy 103 = .ok (.iinc 3 1, 3) := by decide +kernel
theorem dX8_changeBy_106 : decode cX8_changeBy 106 = .ok (.goto (-75), 3) := by decide +kernel
theorem dX8_changeBy_109 : decode cX8_changeBy 109 = .ok (.aload_n 0, 1) := by decide +kernel
theorem dX8_changeBy_110 : decode cX8_changeBy 110 = .ok (.getfield 7, 3) := by decide +kernel
theorem dX8_changeBy_113 : decode cX8_changeBy 113 = .ok (.iconst 5, 1) := by decide +kernel
theorem dX8_changeBy_114 : decode cX8_changeBy 114 = .ok (.iload_n 1, 1) := by decide +kernel
theorem dX8_changeBy_115 : decode cX8_changeBy 115 = .ok (.iadd, 1) := by decide +kernel
theorem dX8_changeBy_116 : decode cX8_changeBy 116 = .ok (.iaload, 1) := by decide +kernel
theorem dX8_changeBy_117 : decode cX8_changeBy 117 = .ok (.istore_n 3, 1) := by decide +kernel
theorem dX8_changeBy_118 : decode cX8_changeBy 118 = .ok (.aload_n 0, 1) := by decide +kernel
theorem dX8_changeBy_119 : decode cX8_changeBy 119 = .ok (.getfield 7, 3) := by decide +kernel
theorem dX8_changeBy_122 : decode cX8_changeBy 122 = .ok (.iconst 5, 1) := by decide +kernel
theorem dX8_changeBy_123 : decode cX8_changeBy 123 = .ok (.iload_n 1, 1) := by decide +kernel
theorem dX8_changeBy_124 : decode cX8_changeBy 124 = .ok (.iadd, 1) := by decide +kernel
theorem dX8_changeBy_125 : decode cX8_changeBy 125 = .ok (.iload_n 2, 1) := by decide +kernel
theorem dX8_changeBy_126 : decode cX8_changeBy 126 = .ok (.iastore, 1) := by decide +kernel
theorem dX8_changeBy_127 : decode cX8_changeBy 127 = .ok (.aload_n 0, 1) := by decide +kernel
theorem dX8_changeBy_128 : decode cX8_changeBy 128 = .ok (.invokevirtual 149, 3) := by decide +kernel
theorem dX8_changeBy_131 : decode cX8_changeBy 131 = .ok (.aload_n 0, 1) := by decide +kernel
theorem dX8_changeBy_132 : decode cX8_changeBy 132 = .ok (.getfield 7, 3) := by decide +kernel
theorem dX8_changeBy_135 : decode cX8_changeBy 135 = .ok (.iconst 5, 1) := by decide +kernel
theorem dX8_changeBy_136 : decode cX8_changeBy 136 = .ok (.iload_n 1, 1) := by decide +kernel
theorem dX8_changeBy_137 : decode cX8_changeBy 137 = .ok (.iadd, 1) := by decide +kernel
theorem dX8_changeBy_138 : decode cX8_changeBy 138 = .ok (.iload_n 3, 1) := by decide +kernel
theorem dX8_changeBy_139 : decode cX8_changeBy 139 = .ok (.iastore, 1) := by decide +kernel
theorem dX8_changeBy_140 : decode cX8_changeBy 140 = .ok (.iconst 0, 1) := by decide +kernel
theorem dX8_changeBy_141 : decode cX8_changeBy 141 = .ok (.istore 4, 2) := by decide +kernel
theorem dX8_changeBy_143 : decode cX8_changeBy 143 = .ok (.iconst 0, 1) := by decide +kernel
theorem dX8_changeBy_144 : decode cX8_changeBy 144 = .ok (.istore 5, 2) := by decide +kernel
theorem dX8_changeBy_146 : decode cX8_changeBy 146 = .ok (.iload 5, 2) := by decide +kernel
theorem dX8_changeBy_148 : decode cX8_changeBy 148 = .ok (.aload_n 0, 1) := by decide +kernel
theorem dX8_changeBy_149 : decode cX8_changeBy 149 = .ok (.getfield 7, 3) := by decide +kernel
theorem dX8_changeBy_152 : decode cX8_changeBy 152 = .ok (.iconst 0, 1) := by decide +kernel
theorem dX8_changeBy_153 : decode cX8_changeBy 153 = .ok (.iaload, 1) := by decide +kernel
theorem dX8_changeBy_154 : decode cX8_changeBy 154 = .ok (.if_icmp .ge 103, 3) := by decide +kernel
theorem dX8_changeBy_157 : decode cX8_changeBy 157 = .ok (.iload 4, 2) := by decide +kernel
theorem dX8_changeBy_159 : decode cX8_changeBy 159 = .ok (.aload_n 0, 1) := by decide +kernel
theorem dX8_changeBy_160 : decode cX8_changeBy 160 = .ok (.getfield 25, 3) := by decide +kernel
theorem dX8_changeBy_163 : decode cX8_changeBy 163 = .ok (.iload 5, 2) := by decide +kernel
theorem dX8_changeBy_165 : decode cX8_changeBy 165 = .ok (.iaload, 1) := by decide +kernel
theorem dX8_changeBy_166 : decode cX8_changeBy 166 = .ok (.aload_n 0, 1) := by decide +kernel
theorem dX8_changeBy_167 : decode cX8_changeBy 167 = .ok (.getfield 53, 3) := by decide +kernel
theorem dX8_changeBy_170 : decode cX8_changeBy 170 = .ok (.iconst 4, 1) := by decide +kernel
theorem dX8_changeBy_171 : decode cX8_changeBy 171 = .ok (.iload 5, 2) := by decide +kernel
theorem dX8_changeBy_173 : decode cX8_changeBy 173 = .ok (.imul, 1) := by decide +kernel
theorem dX8_changeBy_174 : decode cX8_changeBy 174 = .ok (.iaload, 1) := by decide +kernel
theorem dX8_changeBy_175 : decode cX8_changeBy 175 = .ok (.isub, 1) := by decide +kernel
theorem dX8_changeBy_176 : decode cX8_changeBy 176 = .ok (.invokestatic 165, 3) := by decide +kernel
theorem dX8_changeBy_179 : decode cX8_changeBy 179 = .ok (.aload_n 0, 1) := by decide +kernel
theorem dX8_changeBy_180 : decode cX8_changeBy 180 = .ok (.getfield 28, 3) := by decide +kernel
theorem dX8_changeBy_183 : decode cX8_changeBy 183 = .ok (.iload 5, 2) := by decide +kernel
theorem dX8_changeBy_185 : decode cX8_changeBy 185 = .ok (.iaload, 1) := by decide +kernel
theorem dX8_changeBy_186 : decode cX8_changeBy 186 = .ok (.aload_n 0, 1) := by decide +kernel
theorem dX8_changeBy_187 : decode cX8_changeBy 187 = .ok (.getfield 53, 3) := by decide +kernel
theorem dX8_changeBy_190 : decode cX8_changeBy 190 = .ok (.iconst 4, 1) := by decide +kernel
theorem dX8_changeBy_191 : decode cX8_changeBy 191 = .ok (.iload 5, 2) := by decide +kernel
theorem dX8_changeBy_193 : decode cX8_changeBy 193 = .ok (.imul, 1) := by decide +kernel
theorem dX8_changeBy_194 : decode cX8_changeBy 194 = .ok (.iconst 1, 1) := by decide +kernel
theorem dX8_changeBy_195 : decode cX8_changeBy 195 = .ok (.iadd, 1) := by decide +kernel
theorem dX8_changeBy_196 : decode cX8_changeBy 196 = .ok (.iaload, 1) := by decide +kernel
theorem dX8_changeBy_197 : decode cX8_changeBy 197 = .ok (.isub, 1) := by decide +kernel
theorem dX8_changeBy_198 : decode cX8_changeBy 198 = .ok (.invokestatic 165, 3) := by decide +kernel
theorem dX8_changeBy_201 : decode cX8_changeBy 201 = .ok (.iadd, 1) := by decide +kernel
theorem dX8_changeBy_202 : decode cX8_changeBy 202 = .ok (.aload_n 0, 1) := by decide +kernel
theorem dX8_changeBy_203 : decode cX8_changeBy 203 = .ok (.getfield 31, 3) := by decide +kernel
theorem dX8_changeBy_206 : decode cX8_changeBy 206 = .ok (.iload 5, 2) := by decide +kernel
theorem dX8_changeBy_208 : decode cX8_changeBy 208 = .ok (.iaload, 1) := by decide +kernel
theorem dX8_changeBy_209 : decode cX8_changeBy 209 = .ok (.aload_n 0, 1) := by decide +kernel
theorem dX8_changeBy_210 : decode cX8_changeBy 210 = .ok (.getfield 53, 3) := by decide +kernel
theorem dX8_changeBy_213 : decode cX8_changeBy 213 = .ok (.iconst 4, 1) := by decide +kernel
theorem dX8_changeBy_214 : decode cX8_changeBy 214 = .ok (.iload 5, 2) := by decide +kernel
theorem dX8_changeBy_216 : decode cX8_changeBy 216 = .ok (.imul, 1) := by decide +kernel
theorem dX8_changeBy_217 : decode cX8_changeBy 217 = .ok (.iconst 2, 1) := by decide +kernel
theorem dX8_changeBy_218 : decode cX8_changeBy 218 = .ok (.iadd, 1) := by decide +kernel
theorem dX8_changeBy_219 : decode cX8_changeBy 219 = .ok (.iaload, 1) := by decide +kernel
theorem dX8_changeBy_220 : decode cX8_changeBy 220 = .ok (.isub, 1) := by decide +kernel
theorem dX8_changeBy_221 : decode cX8_changeBy 221 = .ok (.invokestatic 165, 3) := by decide +kernel
theorem dX8_changeBy_224 : decode cX8_changeBy 224 = .ok (.iadd, 1) := by decide +kernel
theorem dX8_changeBy_225 : decode cX8_changeBy 225 = .ok (.aload_n 0, 1) := by decide +kernel
theorem dX8_changeBy_226 : decode cX8_changeBy 226 = .ok (.getfield 34, 3) := by decide +kernel
theorem dX8_changeBy_229 : decode cX8_changeBy 229 = .ok (.iload 5, 2) := by decide +kernel
theorem dX8_changeBy_231 : decode cX8_changeBy 231 = .ok (.iaload, 1) := by decide +kernel
theorem dX8_changeBy_232 : decode cX8_changeBy 232 = .ok (.aload_n 0, 1) := by decide +kernel
theorem dX8_changeBy_233 : decode cX8_changeBy 233 = .ok (.getfield 53, 3) := by decide +kernel
theorem dX8_changeBy_236 : decode cX8_changeBy 236 = .ok (.iconst 4, 1) := by decide +kernel
theorem dX8_changeBy_237 : decode cX8_changeBy 237 = .ok (.iload 5, 2) := by decide +kernel
theorem dX8_changeBy_239 : decode cX8_changeBy 239 = .ok (.imul, 1) := by decide +kernel
theorem dX8_changeBy_240 : decode cX8_changeBy 240 = .ok (.iconst 3, 1) := by decide +kernel
theorem dX8_changeBy_241 : decode cX8_changeBy 241 = .ok (.iadd, 1) := by decide +kernel
theorem dX8_changeBy_242 : decode cX8_changeBy 242 = .ok (.iaload, 1) := by decide +kernel
theorem dX8_changeBy_243 : decode cX8_changeBy 243 = .ok (.isub, 1) := by decide +kernel
theorem dX8_changeBy_244 : decode cX8_changeBy 244 = .ok (.invokestatic 165, 3) := by decide +kernel
theorem dX8_changeBy_247 : decode cX8_changeBy 247 = .ok (.iadd, 1) := by decide +kernel
theorem dX8_changeBy_248 : decode cX8_changeBy 248 = .ok (.iadd, 1) := by decide +kernel
theorem dX8_changeBy_249 : decode cX8_changeBy 249 = .ok (.istore 4, 2) := by decide +kernel
theorem dX8_changeBy_251 : decode cX8_changeBy 251 = .ok (.iinc 5 1, 3) := by decide +kernel
theorem dX8_changeBy_254 : decode cX8_changeBy 254 = .ok (.goto (-108), 3) := by decide +kernel
theorem dX8_changeBy_257 : decode cX8_changeBy 257 = .ok (.iload 4, 2) := by decide +kernel
theorem dX8_changeBy_259 : decode cX8_changeBy 259 = .ok (.ireturn, 1) := by decide +kernel
set_option maxRecDepth 20000 in
theorem ggX8_errorCount_X8_within : GoodIn wsX8_errorCount wsX8_within := goodIn_r _ [5] (by decide +kernel) (by decide +kernel)
set_option maxRecDepth 20000 in
theorem gX8_errorCount_X8_within : GoodIn wsX8_errorCount (va_wsS RX8 56 yX8_within wsX8_within) := goodIn_app (goodIn_of _ (by decide +kernel)) ggX8_errorCount_X8_within
set_option maxRecDepth 20000 in
theorem ggX8_errorCount_X8_fails : GoodIn wsX8_errorCount wsX8_fails := goodIn_r _ [9, 1, 10, 11, 12, 13, 14, 15, 16, 17, 18, 19, 20, 21, 22, 23, 24, 25, 26, 27] (by decide +kernel) (by decide +kernel)
set_option maxRecDepth 20000 in
theorem gX8_errorCount_X8_fails : GoodIn wsX8_errorCount (wsV RX8 64 RX8 yX8_fails wsX8_fails) := goodIn_app (goodIn_of _ (by decide +kernel)) ggX8_errorCount_X8_fails
theorem dX8_errorCount_0 : decode cX8_errorCount 0 = .ok (.iload_n 1, 1) := by decide +kernel
theorem dX8_errorCount_1 : decode cX8_errorCount 1 = .ok (.iconst 0, 1) := by decide +kernel
theorem dX8_errorCount_2 : decode cX8_errorCount 2 = .ok (.iconst 2, 1) := by decide +kernel
theorem dX8_errorCount_3 : decode cX8_errorCount 3 = .ok (.invokestatic 56, 3) := by decide +kernel
theorem dX8_errorCount_6 : decode cX8_errorCount 6 = .ok (.ifCond .eq 12, 3) := by decide +kernel
theorem dX8_errorCount_9 : decode cX8_errorCount 9 = .ok (.aload_n 0, 1) := by decide +kernel
theorem dX8_errorCount_10 : decode cX8_errorCount 10 = .ok (.getfield 16, 3) := by decide +kernel
theorem dX8_errorCount_13 : decode cX8_errorCount 13 = .ok (.iload_n 1, 1) := by decide +kernel
theorem dX8_errorCount_14 : decode cX8_errorCount 14 = .ok (.iaload, 1) := by decide +kernel
theorem dX8_errorCount_15 : decode cX8_errorCount 15 = .ok (.goto 9, 3) := by decide +kernel
theorem dX8_errorCount_18 : decode cX8_errorCount 18 = .ok (.aload_n 0, 1) := by decide +kernel
theorem dX8_errorCount_19 : decode cX8_errorCount 19 = .ok (.bipush (-2), 2) := by decide +kernel
theorem dX8_errorCount_21 : decode cX8_errorCount 21 = .ok (.invokevirtual 64, 3) := by decide +kernel
theorem dX8_errorCount_24 : decode cX8_errorCount 24 = .ok (.ireturn, 1) := by decide +kernel
theorem dX8_mix_0 : decode cX8_mix 0 = .ok (.aload_n 0, 1) := by decide +kernel
theorem dX8_mix_1 : decode cX8_mix 1 = .ok (.ldc2_w 168, 3) := by decide +kernel
theorem dX8_mix_4 : decode cX8_mix 4 = .ok (.aload_n 0, 1) := by decide +kernel
theorem dX8_mix_5 : decode cX8_mix 5 = .ok (.getfield 170, 3) := by decide +kernel
theorem dX8_mix_8 : decode cX8_mix 8 = .ok (.lmul, 1) := by decide +kernel
theorem dX8_mix_9 : decode cX8_mix 9 = .ok (.iload_n 1, 1) := by decide +kernel
theorem dX8_mix_10 : decode cX8_mix 10 = .ok (.i2l, 1) := by decide +kernel
theorem dX8_mix_11 : decode cX8_mix 11 = .ok (.ladd, 1) := by decide +kernel
theorem dX8_mix_12 : decode cX8_mix 12 = .ok (.putfield 170, 3) := by decide +kernel
theorem dX8_mix_15 : decode cX8_mix 15 = .ok (.return_, 1) := by decide +kernel
set_option maxRecDepth 20000 in
theorem ggX8_digest_X8_mix : GoodIn wsX8_digest wsX8_mix := goodIn_r _ [16, 17, 2, 120, 121, 122, 123, 124, 125, 126, 127, 128, 129, 130, 131, 132, 133, 134, 135, 136, 137] (by decide +kernel) (by decide +kernel)
set_option maxRecDepth 20000 in
theorem gX8_digest_X8_mix : GoodIn wsX8_digest (wsV RX8 176 RX8 yX8_mix wsX8_mix) := goodIn_app (goodIn_of _ (by decide +kernel)) ggX8_digest_X8_mix
set_option maxRecDepth 20000 in
theorem ggX8_digest_X8_lays : GoodIn wsX8_digest wsX8_lays := goodIn_r _ [21, 5, 6, 11, 22, 23, 24, 15, 25, 26, 27, 28, 29, 30, 31, 32, 33, 34, 35, 36, 37, 7, 8, 9, 10, 38, 39, 40, 41, 42, 43, 44, 45, 46, 47, 48, 49, 50, 51, 52, 53, 54, 55, 56, 57, 58, 59, 60, 61, 62, 63, 64, 65, 66, 67, 68, 69, 70, 71, 72, 73, 74, 75, 76, 77, 78, 79, 80, 81, 82, 83, 84, 85, 86, 87, 88, 89, 90, 91, 92, 93, 94, 95, 96, 97, 98, 99, 120, 121, 122, 123, 124, 125, 126, 127, 128, 129, 130, 131, 132, 133, 134, 135, 136, 137] (by decide +kernel) (by decide +kernel)
set_option maxRecDepth 20000 in
theorem gX8_digest_X8_lays : GoodIn wsX8_digest (wsV RX8 149 RX8 yX8_lays wsX8_lays) := goodIn_app (goodIn_of _ (by decide +kernel)) ggX8_digest_X8_lays
set_option maxRecDepth 20000 in
theorem ggX8_digest_X8_pixels : GoodIn wsX8_digest wsX8_pixels := goodIn_r _ [103, 5, 9, 10, 26, 27, 28, 15, 29, 120, 121, 122, 123, 124, 125, 126, 127, 128, 129, 130, 131, 132, 133, 134, 135, 136, 137] (by decide +kernel) (by decide +kernel)
set_option maxRecDepth 20000 in
theorem gX8_digest_X8_pixels : GoodIn wsX8_digest (wsV RX8 152 RX8 yX8_pixels wsX8_pixels) := goodIn_app (goodIn_of _ (by decide +kernel)) ggX8_digest_X8_pixels
set_option maxRecDepth 20000 in
theorem ggX8_digest_X8_aspects : GoodIn wsX8_digest wsX8_aspects := goodIn_r _ [107, 5, 9, 10, 26, 27, 28, 15, 29, 108, 109, 110, 111, 112, 113, 114, 115, 116, 117, 118, 119, 120, 121, 122, 123, 124, 125, 126, 127, 128, 129, 130, 131, 132, 133, 134, 135, 136, 137] (by decide +kernel) (by decide +kernel)
set_option maxRecDepth 20000 in
theorem gX8_digest_X8_aspects : GoodIn wsX8_digest (wsV RX8 161 RX8 yX8_aspects wsX8_aspects) := goodIn_app (goodIn_of _ (by decide +kernel)) ggX8_digest_X8_aspects
theorem dX8_digest_0 : decode cX8_digest 0 = .ok (.aload_n 0, 1) := by decide +kernel
theorem dX8_digest_1 : decode cX8_digest 1 = .ok (.ldc2_w 174, 3) := by decide +kernel
theorem dX8_digest_4 : decode cX8_digest 4 = .ok (.putfield 170, 3) := by decide +kernel
theorem dX8_digest_7 : decode cX8_digest 7 = .ok (.iconst 0, 1) := by decide +kernel
theorem dX8_digest_8 : decode cX8_digest 8 = .ok (.istore_n 1, 1) := by decide +kernel
theorem dX8_digest_9 : decode cX8_digest 9 = .ok (.iload_n 1, 1) := by decide +kernel
theorem dX8_digest_10 : decode cX8_digest 10 = .ok (.iconst 3, 1) := by decide +kernel
theorem dX8_digest_11 : decode cX8_digest 11 = .ok (.if_icmp .ge 19, 3) := by decide +kernel
theorem dX8_digest_14 : decode cX8_digest 14 = .ok (.aload_n 0, 1) := by decide +kernel
theorem dX8_digest_15 : decode cX8_digest 15 = .ok (.aload_n 0, 1) := by decide +kernel
theorem dX8_digest_16 : decode cX8_digest 16 = .ok (.getfield 16, 3) := by decide +kernel
theorem dX8_digest_19 : decode cX8_digest 19 = .ok (.iload_n 1, 1) := by decide +kernel
theorem dX8_digest_20 : decode cX8_digest 20 = .ok (.iaload, 1) := by decide +kernel
theorem dX8_digest_21 : decode cX8_digest 21 = .ok (.invokevirtual 176, 3) := by decide +kernel
theorem dX8_digest_24 : decode cX8_digest 24 = .ok (.iinc 1 1, 3) := by decide +kernel
theorem dX8_digest_27 : decode cX8_digest 27 = .ok (.goto (-18), 3) := by decide +kernel
theorem dX8_digest_30 : decode cX8_digest 30 = .ok (.aload_n 0, 1) := by decide +kernel
theorem dX8_digest_31 : decode cX8_digest 31 = .ok (.aload_n 0, 1) := by decide +kernel
theorem dX8_digest_32 : decode cX8_digest 32 = .ok (.getfield 60, 3) := by decide +kernel
theorem dX8_digest_35 : decode cX8_digest 35 = .ok (.invokevirtual 176, 3) := by decide +kernel
theorem dX8_digest_38 : decode cX8_digest 38 = .ok (.iconst 1, 1) := by decide +kernel
theorem dX8_digest_39 : decode cX8_digest 39 = .ok (.istore_n 1, 1) := by decide +kernel
theorem dX8_digest_40 : decode cX8_digest 40 = .ok (.iload_n 1, 1) := by decide +kernel
theorem dX8_digest_41 : decode cX8_digest 41 = .ok (.iconst 4, 1) := by decide +kernel
theorem dX8_digest_42 : decode cX8_digest 42 = .ok (.if_icmp .gt 19, 3) := by decide +kernel
theorem dX8_digest_45 : decode cX8_digest 45 = .ok (.aload_n 0, 1) := by decide +kernel
theorem dX8_digest_46 : decode cX8_digest 46 = .ok (.aload_n 0, 1) := by decide +kernel
theorem dX8_digest_47 : decode cX8_digest 47 = .ok (.getfield 7, 3) := by decide +kernel
theorem dX8_digest_50 : decode cX8_digest 50 = .ok (.iload_n 1, 1) := by decide +kernel
theorem dX8_digest_51 : decode cX8_digest 51 = .ok (.iaload, 1) := by decide +kernel
theorem dX8_digest_52 : decode cX8_digest 52 = .ok (.invokevirtual 176, 3) := by decide +kernel
theorem dX8_digest_55 : decode cX8_digest 55 = .ok (.iinc 1 1, 3) := by decide +kernel
theorem dX8_digest_58 : decode cX8_digest 58 = .ok (.goto (-18), 3) := by decide +kernel
theorem dX8_digest_61 : decode cX8_digest 61 = .ok (.aload_n 0, 1) := by decide +kernel
theorem dX8_digest_62 : decode cX8_digest 62 = .ok (.aload_n 0, 1) := by decide +kernel
theorem dX8_digest_63 : decode cX8_digest 63 = .ok (.getfield 7, 3) := by decide +kernel
theorem dX8_digest_66 : decode cX8_digest 66 = .ok (.iconst 0, 1) := by decide +kernel
theorem dX8_digest_67 : decode cX8_digest 67 = .ok (.iaload, 1) := by decide +kernel
theorem dX8_digest_68 : decode cX8_digest 68 = .ok (.invokevirtual 176, 3) := by decide +kernel
theorem dX8_digest_71 : decode cX8_digest 71 = .ok (.aload_n 0, 1) := by decide +kernel
theorem dX8_digest_72 : decode cX8_digest 72 = .ok (.invokevirtual 149, 3) := by decide +kernel
theorem dX8_digest_75 : decode cX8_digest 75 = .ok (.iconst 0, 1) := by decide +kernel
theorem dX8_digest_76 : decode cX8_digest 76 = .ok (.istore_n 1, 1) := by decide +kernel
theorem dX8_digest_77 : decode cX8_digest 77 = .ok (.iload_n 1, 1) := by decide +kernel
theorem dX8_digest_78 : decode cX8_digest 78 = .ok (.aload_n 0, 1) := by decide +kernel
theorem dX8_digest_79 : decode cX8_digest 79 = .ok (.getfield 7, 3) := by decide +kernel
theorem dX8_digest_82 : decode cX8_digest 82 = .ok (.iconst 0, 1) := by decide +kernel
theorem dX8_digest_83 : decode cX8_digest 83 = .ok (.iaload, 1) := by decide +kernel
theorem dX8_digest_84 : decode cX8_digest 84 = .ok (.if_icmp .ge 102, 3) := by decide +kernel
theorem dX8_digest_87 : decode cX8_digest 87 = .ok (.aload_n 0, 1) := by decide +kernel
theorem dX8_digest_88 : decode cX8_digest 88 = .ok (.aload_n 0, 1) := by decide +kernel
theorem dX8_digest_89 : decode cX8_digest 89 = .ok (.getfield 7, 3) := by decide +kernel
theorem dX8_digest_92 : decode cX8_digest 92 = .ok (.iconst 5, 1) := by decide +kernel
theorem dX8_digest_93 : decode cX8_digest 93 = .ok (.iload_n 1, 1) := by decide +kernel
theorem dX8_digest_94 : decode cX8_digest 94 = .ok (.iadd, 1) := by decide +kernel
theorem dX8_digest_95 : decode cX8_digest 95 = .ok (.iaload, 1) := by decide +kernel
theorem dX8_digest_96 : decode cX8_digest 96 = .ok (.invokevirtual 176, 3) := by decide +kernel
theorem dX8_digest_99 : decode cX8_digest 99 = .ok (.aload_n 0, 1) := by decide +kernel
theorem dX8_digest_100 : decode cX8_digest 100 = .ok (.aload_n 0, 1) := by decide +kernel
theorem dX8_digest_101 : decode cX8_digest 101 = .ok (.getfield 41, 3) := by decide +kernel
theorem dX8_digest_104 : decode cX8_digest 104 = .ok (.iload_n 1, 1) := by decide +kernel
theorem dX8_digest_105 : decode cX8_digest 105 = .ok (.iaload, 1) := by decide +kernel
theorem dX8_digest_106 : decode cX8_digest 106 = .ok (.invokevirtual 176, 3) := by decide +kernel
theorem dX8_digest_109 : decode cX8_digest 109 = .ok (.aload_n 0, 1) := by decide +kernel
theorem dX8_digest_110 : decode cX8_digest 110 = .ok (.aload_n 0, 1) := by decide +kernel
theorem dX8_digest_111 : decode cX8_digest 111 = .ok (.getfield 7, 3) := by decide +kernel
theorem dX8_digest_114 : decode cX8_digest 114 = .ok (.bipush 29, 2) := by decide +kernel
theorem dX8_digest_116 : decode cX8_digest 116 = .ok (.iload_n 1, 1) := by decide +kernel
theorem dX8_digest_117 : decode cX8_digest 117 = .ok (.iadd, 1) := by decide +kernel
theorem dX8_digest_118 : decode cX8_digest 118 = .ok (.iaload, 1) := by decide +kernel
theorem dX8_digest_119 : decode cX8_digest 119 = .ok (.invokevirtual 176, 3) := by decide +kernel
theorem dX8_digest_122 : decode cX8_digest 122 = .ok (.aload_n 0, 1) := by decide +kernel
theorem dX8_digest_123 : decode cX8_digest 123 = .ok (.aload_n 0, 1) := by decide +kernel
theorem dX8_digest_124 : decode cX8_digest 124 = .ok (.getfield 25, 3) := by decide +kernel
theorem dX8_digest_127 : decode cX8_digest 127 = .ok (.iload_n 1, 1) := by decide +kernel
theorem dX8_digest_128 : decode cX8_digest 128 = .ok (.iaload, 1) := by decide +kernel
theorem dX8_digest_129 : decode cX8_digest 129 = .ok (.invokevirtual 176, 3) := by decide +kernel
theorem dX8_digest_132 : decode cX8_digest 132 = .ok (.aload_n 0, 1) := by decide +kernel
theorem dX8_digest_133 : decode cX8_digest 133 = .ok (.aload_n 0, 1) := by decide +kernel
theorem dX8_digest_134 : decode cX8_digest 134 = .ok (.getfield 28, 3) := by decide +kernel
theorem dX8_digest_137 : decode cX8_digest 137 = .ok (.iload_n 1, 1) := by decide +kernel
theorem dX8_digest_138 : decode cX8_digest 138 = .ok (.iaload, 1) := by decide +kernel
theorem dX8_digest_139 : decode cX8_digest 139 = .ok (.invokevirtual 176, 3) := by decide +kernel
theorem dX8_digest_142 : decode cX8_digest 142 = .ok (.aload_n 0, 1) := by decide +kernel
theorem dX8_digest_143 : decode cX8_digest 143 = .ok (.aload_n 0, 1) := by decide +kernel
theorem dX8_digest_144 : decode cX8_digest 144 = .ok (.getfield 31, 3) := by decide +kernel
theorem dX8_digest_147 : decode cX8_digest 147 = .ok (.iload_n 1, 1) := by decide +kernel
theorem dX8_digest_148 : decode cX8_digest 148 = .ok (.iaload, 1) := by decide +kernel
theorem dX8_digest_149 : decode cX8_digest 149 = .ok (.invokevirtual 176, 3) := by decide +kernel
theorem dX8_digest_152 : decode cX8_digest 152 = .ok (.aload_n 0, 1) := by decide +kernel
theorem dX8_digest_153 : decode cX8_digest 153 = .ok (.aload_n 0, 1) := by decide +kernel
theorem dX8_digest_154 : decode cX8_digest 154 = .ok (.getfield 34, 3) := by decide +kernel
theorem dX8_digest_157 : decode cX8_digest 157 = .ok (.iload_n 1, 1) := by decide +kernel
theorem dX8_digest_158 : decode cX8_digest 158 = .ok (.iaload, 1) := by decide +kernel
theorem dX8_digest_159 : decode cX8_digest 159 = .ok (.invokevirtual 176, 3) := by decide +kernel
theorem dX8_digest_162 : decode cX8_digest 162 = .ok (.aload_n 0, 1) := by decide +kernel
theorem dX8_digest_163 : decode cX8_digest 163 = .ok (.aload_n 0, 1) := by decide +kernel
theorem dX8_digest_164 : decode cX8_digest 164 = .ok (.getfield 37, 3) := by decide +kernel
theorem dX8_digest_167 : decode cX8_digest 167 = .ok (.iload_n 1, 1) := by decide +kernel
theorem dX8_digest_168 : decode cX8_digest 168 = .ok (.baload, 1) := by decide +kernel
theorem dX8_digest_169 : decode cX8_digest 169 = .ok (.ifCond .eq 7, 3) := by decide +kernel
theorem dX8_digest_172 : decode cX8_digest 172 = .ok (.iconst 1, 1) := by decide +kernel
theorem dX8_digest_173 : decode cX8_digest 173 = .ok (.goto 4, 3) := by decide +kernel
theorem dX8_digest_176 : decode cX8_digest 176 = .ok (.iconst 0, 1) := by decide +kernel
theorem dX8_digest_177 : decode cX8_digest 177 = .ok (.invokevirtual 176, 3) := by decide +kernel
theorem dX8_digest_180 : decode cX8_digest 180 = .ok (.iinc 1 1, 3) := by decide +kernel
theorem dX8_digest_183 : decode cX8_digest 183 = .ok (.goto (-106), 3) := by decide +kernel
theorem dX8_digest_186 : decode cX8_digest 186 = .ok (.aload_n 0, 1) := by decide +kernel
theorem dX8_digest_187 : decode cX8_digest 187 = .ok (.aload_n 0, 1) := by decide +kernel
theorem dX8_digest_188 : decode cX8_digest 188 = .ok (.invokevirtual 152, 3) := by decide +kernel
theorem dX8_digest_191 : decode cX8_digest 191 = .ok (.invokevirtual 176, 3) := by decide +kernel
theorem dX8_digest_194 : decode cX8_digest 194 = .ok (.aload_n 0, 1) := by decide +kernel
theorem dX8_digest_195 : decode cX8_digest 195 = .ok (.aload_n 0, 1) := by decide +kernel
theorem dX8_digest_196 : decode cX8_digest 196 = .ok (.iconst 1, 1) := by decide +kernel
theorem dX8_digest_197 : decode cX8_digest 197 = .ok (.invokevirtual 161, 3) := by decide +kernel
theorem dX8_digest_200 : decode cX8_digest 200 = .ok (.invokevirtual 176, 3) := by decide +kernel
theorem dX8_digest_203 : decode cX8_digest 203 = .ok (.aload_n 0, 1) := by decide +kernel
theorem dX8_digest_204 : decode cX8_digest 204 = .ok (.aload_n 0, 1) := by decide +kernel
theorem dX8_digest_205 : decode cX8_digest 205 = .ok (.iconst 0, 1) := by decide +kernel
theorem dX8_digest_206 : decode cX8_digest 206 = .ok (.invokevirtual 161, 3) := by decide +kernel
theorem dX8_digest_209 : decode cX8_digest 209 = .ok (.invokevirtual 176, 3) := by decide +kernel
theorem dX8_digest_212 : decode cX8_digest 212 = .ok (.aload_n 0, 1) := by decide +kernel
theorem dX8_digest_213 : decode cX8_digest 213 = .ok (.getfield 170, 3) := by decide +kernel
theorem dX8_digest_216 : decode cX8_digest 216 = .ok (.lreturn, 1) := by decide +kernel
theorem dJxf58ca_isNaN_12338_0 : decode cJxf58ca_isNaN_12338 0 = .ok (.fload_n 0, 1) := by decide +kernel
theorem dJxf58ca_isNaN_12338_1 : decode cJxf58ca_isNaN_12338 1 = .ok (.fload_n 0, 1) := by decide +kernel
theorem dJxf58ca_isNaN_12338_2 : decode cJxf58ca_isNaN_12338 2 = .ok (.fcmp .l, 1) := by decide +kernel
theorem dJxf58ca_isNaN_12338_3 : decode cJxf58ca_isNaN_12338 3 = .ok (.ifCond .eq 7, 3) := by decide +kernel
theorem dJxf58ca_isNaN_12338_6 : decode cJxf58ca_isNaN_12338 6 = .ok (.iconst 1, 1) := by decide +kernel
theorem dJxf58ca_isNaN_12338_7 : decode cJxf58ca_isNaN_12338 7 = .ok (.goto 4, 3) := by decide +kernel
theorem dJxf58ca_isNaN_12338_10 : decode cJxf58ca_isNaN_12338 10 = .ok (.iconst 0, 1) := by decide +kernel
theorem dJxf58ca_isNaN_12338_11 : decode cJxf58ca_isNaN_12338 11 = .ok (.ireturn, 1) := by decide +kernel
set_option maxRecDepth 20000 in
theorem ggJxf58ca_floatToIntBits_5c35a_Jxf58ca_isNaN_12338 : GoodIn wsJxf58ca_floatToIntBits_5c35a wsJxf58ca_isNaN_12338 := goodIn_r _ [9] (by decide +kernel) (by decide +kernel)
set_option maxRecDepth 20000 in
theorem gJxf58ca_floatToIntBits_5c35a_Jxf58ca_isNaN_12338 : GoodIn wsJxf58ca_floatToIntBits_5c35a (va_wsS RJxf58ca 59 yJxf58ca_isNaN_12338 wsJxf58ca_isNaN_12338) := goodIn_app (goodIn_of _ (by decide +kernel)) ggJxf58ca_floatToIntBits_5c35a_Jxf58ca_isNaN_12338
theorem dJxf58ca_floatToIntBits_5c35a_0 : decode cJxf58ca_floatToIntBits_5c35a 0 = .ok (.fload_n 0, 1) := by decide +kernel
theorem dJxf58ca_floatToIntBits_5c35a_1 : decode cJxf58ca_floatToIntBits_5c35a 1 = .ok (.invokestatic 59, 3) := by decide +kernel
theorem dJxf58ca_floatToIntBits_5c35a_4 : decode cJxf58ca_floatToIntBits_5c35a 4 = .ok (.ifCond .ne 8, 3) := by decide +kernel
theorem dJxf58ca_floatToIntBits_5c35a_7 : decode cJxf58ca_floatToIntBits_5c35a 7 = .ok (.fload_n 0, 1) := by decide +kernel
theorem dJxf58ca_floatToIntBits_5c35a_8 : decode cJxf58ca_floatToIntBits_5c35a 8 = .ok (.invokestatic 74, 3) := by decide +kernel
theorem dJxf58ca_floatToIntBits_5c35a_11 : decode cJxf58ca_floatToIntBits_5c35a 11 = .ok (.ireturn, 1) := by decide +kernel
theorem dJxf58ca_floatToIntBits_5c35a_12 : decode cJxf58ca_floatToIntBits_5c35a 12 = .ok (.ldc 77, 2) := by decide +kernel
theorem dJxf58ca_floatToIntBits_5c35a_14 : decode cJxf58ca_floatToIntBits_5c35a 14 = .ok (.ireturn, 1) := by decide +kernel
theorem dJ9_abs_0f7a4_0 : decode cJ9_abs_0f7a4 0 = .ok (.iload_n 0, 1) := by decide +kernel
theorem dJ9_abs_0f7a4_1 : decode cJ9_abs_0f7a4 1 = .ok (.ifCond .ge 8, 3) := by decide +kernel
theorem dJ9_abs_0f7a4_4 : decode cJ9_abs_0f7a4 4 = .ok (.iload_n 0, 1) := by decide +kernel
theorem dJ9_abs_0f7a4_5 : decode cJ9_abs_0f7a4 5 = .ok (.ineg, 1) := by decide +kernel
theorem dJ9_abs_0f7a4_6 : decode cJ9_abs_0f7a4 6 = .ok (.goto 4, 3) := by decide +kernel
theorem dJ9_abs_0f7a4_9 : decode cJ9_abs_0f7a4 9 = .ok (.iload_n 0, 1) := by decide +kernel
theorem dJ9_abs_0f7a4_10 : decode cJ9_abs_0f7a4 10 = .ok (.ireturn, 1) := by decide +kernel
theorem dJ9_max_7cf53_0 : decode cJ9_max_7cf53 0 = .ok (.iload_n 0, 1) := by decide +kernel
theorem dJ9_max_7cf53_1 : decode cJ9_max_7cf53 1 = .ok (.iload_n 1, 1) := by decide +kernel
theorem dJ9_max_7cf53_2 : decode cJ9_max_7cf53 2 = .ok (.if_icmp .lt 7, 3) := by decide +kernel
theorem dJ9_max_7cf53_5 : decode cJ9_max_7cf53 5 = .ok (.iload_n 0, 1) := by decide +kernel
theorem dJ9_max_7cf53_6 : decode cJ9_max_7cf53 6 = .ok (.goto 4, 3) := by decide +kernel
theorem dJ9_max_7cf53_9 : decode cJ9_max_7cf53 9 = .ok (.iload_n 1, 1) := by decide +kernel
theorem dJ9_max_7cf53_10 : decode cJ9_max_7cf53 10 = .ok (.ireturn, 1) := by decide +kernel
theorem dJ9_min_7cf53_0 : decode cJ9_min_7cf53 0 = .ok (.iload_n 0, 1) := by decide +kernel
theorem dJ9_min_7cf53_1 : decode cJ9_min_7cf53 1 = .ok (.iload_n 1, 1) := by decide +kernel
theorem dJ9_min_7cf53_2 : decode cJ9_min_7cf53 2 = .ok (.if_icmp .gt 7, 3) := by decide +kernel
theorem dJ9_min_7cf53_5 : decode cJ9_min_7cf53 5 = .ok (.iload_n 0, 1) := by decide +kernel
theorem dJ9_min_7cf53_6 : decode cJ9_min_7cf53 6 = .ok (.goto 4, 3) := by decide +kernel
theorem dJ9_min_7cf53_9 : decode cJ9_min_7cf53 9 = .ok (.iload_n 1, 1) := by decide +kernel
theorem dJ9_min_7cf53_10 : decode cJ9_min_7cf53 10 = .ok (.ireturn, 1) := by decide +kernel
set_option maxRecDepth 20000 in
theorem ggL_law_X7_init : GoodIn wsL_law wsX7_init := goodIn_r _ [8, 9, 10, 11, 12, 13, 14, 15, 16, 17, 18, 19, 20, 21, 22, 23, 24, 25, 26, 27, 28, 29, 30, 31, 32, 33, 34, 35, 36, 37, 38, 39, 40, 41, 42, 43, 44, 45, 46, 47, 48, 49, 50, 51, 52, 53, 54, 55, 56, 57, 58, 59, 60, 61, 62, 63, 64, 65, 66, 67, 68, 69, 70, 71, 72, 73, 74, 75, 76, 77, 78, 79, 80, 81, 82, 83, 84, 85, 86, 87, 88, 89, 90, 91, 92, 93, 94, 95, 96, 97, 98, 99, 100, 101, 102, 103, 104, 105, 106, 107, 108, 109, 110, 111, 112, 113, 114, 115, 116, 117, 118, 119, 120, 121, 122, 123, 124, 125, 126, 127, 128, 129, 130, 131, 132, 133, 134, 135, 136, 137, 138, 139, 140, 141, 142, 143, 144, 145, 146, 147, 148, 149, 150, 151, 152, 153, 154, 155, 156, 157, 158, 159, 160, 161, 162, 163, 164, 165, 166, 167, 168, 169, 170, 171, 172, 173, 174, 175, 176, 177, 178, 179, 180, 181, 182, 183, 184, 185, 186, 187, 188, 189, 190, 191, 192, 193, 194, 195, 196, 197, 198, 199, 200, 201, 202, 203, 204, 205, 206, 207, 208, 209, 210, 211, 212, 213, 214, 215, 216, 217, 218, 219, 220, 221, 222, 223, 224, 225, 226, 227, 228, 229, 230, 231, 232, 233, 234, 235, 236, 237, 238, 239, 240, 241, 740, 741, 742, 743, 744, 745, 746, 714, 715, 716, 717, 718, 719, 720, 721, 747, 748, 749, 750, 751, 752, 753, 754, 755, 756, 757, 758, 759, 760, 761, 762, 763, 764, 765, 766, 767, 768, 769, 770, 771, 772, 773, 774, 775, 776, 777] (by decide +kernel) (by decide +kernel)
set_option maxRecDepth 20000 in
theorem gL_law_X7_init : GoodIn wsL_law (wsX7_init) := ggL_law_X7_init
set_option maxRecDepth 20000 in
theorem ggL_law_X8_init : GoodIn wsL_law wsX8_init := goodIn_r _ [244, 245, 10, 11, 30, 246, 247, 248, 249, 250, 251, 252, 253, 254, 43, 255, 256, 257, 258, 259, 260, 722, 723, 724, 725, 726, 727, 728, 729, 730, 731, 732, 733, 734, 735, 736, 737, 738, 739] (by decide +kernel) (by decide +kernel)
set_option maxRecDepth 20000 in
theorem gL_law_X8_init : GoodIn wsL_law (wsX8_init) := ggL_law_X8_init
set_option maxRecDepth 20000 in
theorem ggL_law_X7_addNode : GoodIn wsL_law wsX7_addNode := goodIn_r _ [264, 15, 265, 23, 19, 266, 267, 268, 14, 269, 33, 270, 271, 2, 272, 273, 274, 275, 276, 277, 278, 279, 280, 281, 282, 283, 284, 285, 22, 286, 93, 287, 288, 289, 290, 291, 292, 31, 293, 294, 295, 296, 32, 34, 35, 36, 37, 297, 298, 299, 300, 95, 96, 97, 18, 98, 48, 99, 100, 44, 101, 49, 102, 103, 104, 105, 42, 50, 106, 51, 107, 108, 109, 110, 41, 111, 112, 113, 114, 115, 116, 117, 118, 47, 119, 59, 60, 61, 62, 120, 121, 122, 123, 124, 55, 125, 126, 127, 128, 129, 130, 131, 132, 54, 133, 134, 71, 135, 136, 137, 70, 138, 139, 140, 141, 142, 143, 144, 145, 146, 147, 148, 149, 150, 151, 152, 153, 154, 66, 67, 155, 156, 157, 158, 72, 159, 160, 161, 162, 163, 164, 165, 166, 76, 167, 168, 169, 170, 75, 171, 172, 173, 174, 175, 176, 85, 177, 178, 179, 180, 87, 86, 181, 182, 183, 184, 185, 186, 187, 188, 189, 77, 190, 78, 191, 192, 193, 194, 195, 196, 197, 198, 199, 200, 201, 202, 203, 204, 205, 206, 207, 208, 209, 210, 211, 212, 213, 214, 215, 216, 217, 218, 219, 220, 221, 222, 223, 224, 225, 226, 227, 228, 229, 230, 231, 232, 233, 234, 235, 236, 237, 238, 239, 240, 241, 714, 715, 716, 717, 718, 719, 720, 721, 740, 741, 742, 743, 744, 745, 746, 755, 756, 757, 747, 748, 749, 750, 751, 752, 753, 754, 758, 759, 760, 761, 762, 763, 764, 765, 766, 767, 768, 769, 770, 771, 772, 773, 774, 775, 776, 777] (by decide +kernel) (by decide +kernel)
set_option maxRecDepth 20000 in
theorem gL_law_X7_addNode : GoodIn wsL_law (wsV RL 13 RX7 yX7_addNode wsX7_addNode) := goodIn_app (goodIn_of _ (by decide +kernel)) ggL_law_X7_addNode
set_option maxRecDepth 20000 in
theorem ggL_law_X8_addNode : GoodIn wsL_law wsX8_addNode := goodIn_r _ [304, 246, 305, 306, 307, 5, 308, 309, 310, 311, 312, 313, 314, 315, 248, 316, 317, 318, 319, 320, 247, 722, 723, 724, 725, 726, 727, 728, 729, 730, 731, 732, 733, 734, 735, 736, 737, 738, 739] (by decide +kernel) (by decide +kernel)
set_option maxRecDepth 20000 in
theorem gL_law_X8_addNode : GoodIn wsL_law (wsV RL 17 RX8 yX8_addNode wsX8_addNode) := goodIn_app (goodIn_of _ (by decide +kernel)) ggL_law_X8_addNode
set_option maxRecDepth 20000 in
theorem ggL_law_X7_setSize : GoodIn wsL_law wsX7_setSize := goodIn_r _ [324, 15, 23, 325, 19, 266, 267, 268, 14, 269, 33, 270, 271, 2, 272, 273, 274, 275, 276, 277, 283, 284, 285, 22, 286, 93, 287, 288, 289, 290, 291, 292, 31, 293, 294, 295, 296, 32, 34, 35, 36, 37, 95, 96, 97, 18, 98, 48, 99, 100, 44, 101, 49, 102, 103, 104, 105, 42, 50, 106, 51, 107, 108, 109, 110, 41, 111, 112, 113, 114, 115, 116, 117, 118, 47, 119, 59, 60, 61, 62, 120, 121, 122, 123, 124, 55, 125, 126, 127, 128, 129, 130, 131, 132, 54, 133, 134, 71, 135, 136, 137, 70, 138, 139, 140, 141, 142, 143, 144, 145, 146, 147, 148, 149, 150, 151, 152, 153, 154, 66, 67, 155, 156, 157, 158, 72, 159, 160, 161, 162, 163, 164, 165, 166, 76, 167, 168, 169, 170, 75, 171, 172, 173, 174, 175, 176, 85, 177, 178, 179, 180, 87, 86, 181, 182, 183, 184, 185, 186, 187, 188, 189, 77, 190, 78, 191, 192, 193, 194, 195, 196, 197, 198, 199, 200, 201, 202, 203, 204, 205, 206, 207, 208, 209, 210, 211, 212, 213, 214, 215, 216, 217, 218, 219, 220, 221, 222, 223, 224, 225, 226, 227, 228, 229, 230, 231, 232, 233, 234, 235, 236, 237, 238, 239, 240, 241, 714, 715, 716, 717, 718, 719, 720, 721, 740, 741, 742, 743, 744, 745, 746, 755, 756, 757, 747, 748, 749, 750, 751, 752, 753, 754, 758, 759, 760, 761, 762, 763, 764, 765, 766, 767, 768, 769, 770, 771, 772, 773, 774, 775, 776, 777] (by decide +kernel) (by decide +kernel)
set_option maxRecDepth 20000 in
theorem gL_law_X7_setSize : GoodIn wsL_law (wsV RL 18 RX7 yX7_setSize wsX7_setSize) := goodIn_app (goodIn_of _ (by decide +kernel)) ggL_law_X7_setSize
set_option maxRecDepth 20000 in
theorem ggL_law_X8_setSize : GoodIn wsL_law wsX8_setSize := goodIn_r _ [329, 305, 306, 307, 5, 308, 246, 309, 310, 311, 330, 331, 332, 333, 316, 317, 318, 319, 320, 247, 312, 313, 314, 315, 248, 722, 723, 724, 725, 726, 727, 728, 729, 730, 731, 732, 733, 734, 735, 736, 737, 738, 739] (by decide +kernel) (by decide +kernel)
set_option maxRecDepth 20000 in
theorem gL_law_X8_setSize : GoodIn wsL_law (wsV RL 21 RX8 yX8_setSize wsX8_setSize) := goodIn_app (goodIn_of _ (by decide +kernel)) ggL_law_X8_setSize
set_option maxRecDepth 20000 in
theorem ggL_law_X7_removeLeaf : GoodIn wsL_law wsX7_removeLeaf := goodIn_r _ [337, 15, 19, 23, 265, 266, 267, 268, 14, 269, 33, 273, 274, 275, 2, 276, 277, 338, 113, 114, 18, 115, 51, 339, 340, 341, 342, 343, 283, 284, 285, 22, 286, 93, 287, 288, 289, 290, 291, 292, 31, 293, 294, 295, 296, 32, 34, 35, 36, 37, 344, 345, 346, 347, 95, 96, 97, 98, 48, 99, 100, 44, 101, 49, 102, 103, 104, 105, 42, 50, 106, 107, 108, 109, 110, 41, 111, 112, 116, 117, 118, 47, 119, 59, 60, 61, 62, 120, 121, 122, 123, 124, 55, 125, 126, 127, 128, 129, 130, 131, 132, 54, 133, 134, 71, 135, 136, 137, 70, 138, 139, 140, 141, 142, 143, 144, 145, 146, 147, 148, 149, 150, 151, 152, 153, 154, 66, 67, 155, 156, 157, 158, 72, 159, 160, 161, 162, 163, 164, 165, 166, 76, 167, 168, 169, 170, 75, 171, 172, 173, 174, 175, 176, 85, 177, 178, 179, 180, 87, 86, 181, 182, 183, 184, 185, 186, 187, 188, 189, 77, 190, 78, 191, 192, 193, 194, 195, 196, 197, 198, 199, 200, 201, 202, 203, 204, 205, 206, 207, 208, 209, 210, 211, 212, 213, 214, 215, 216, 217, 218, 219, 220, 221, 222, 223, 224, 225, 226, 227, 228, 229, 230, 231, 232, 233, 234, 235, 236, 237, 238, 239, 240, 241, 714, 715, 716, 717, 718, 719, 720, 721, 740, 741, 742, 743, 744, 745, 746, 747, 748, 749, 750, 751, 752, 753, 754, 755, 756, 757, 758, 759, 760, 761, 762, 763, 764, 765, 766, 767, 768, 769, 770, 771, 772, 773, 774, 775, 776, 777] (by decide +kernel) (by decide +kernel)
set_option maxRecDepth 20000 in
theorem gL_law_X7_removeLeaf : GoodIn wsL_law (wsV RL 22 RX7 yX7_removeLeaf wsX7_removeLeaf) := goodIn_app (goodIn_of _ (by decide +kernel)) ggL_law_X7_removeLeaf
set_option maxRecDepth 20000 in
theorem ggL_law_X8_removeLeaf : GoodIn wsL_law wsX8_removeLeaf := goodIn_r _ [351, 246, 305, 306, 307, 5, 308, 309, 310, 311, 312, 313, 314, 315, 248, 352, 353, 354, 355, 316, 317, 318, 319, 320, 247, 722, 723, 724, 725, 726, 727, 728, 729, 730, 731, 732, 733, 734, 735, 736, 737, 738, 739] (by decide +kernel) (by decide +kernel)
set_option maxRecDepth 20000 in
theorem gL_law_X8_removeLeaf : GoodIn wsL_law (wsV RL 26 RX8 yX8_removeLeaf wsX8_removeLeaf) := goodIn_app (goodIn_of _ (by decide +kernel)) ggL_law_X8_removeLeaf
set_option maxRecDepth 20000 in
theorem ggL_law_X7_setParent : GoodIn wsL_law wsX7_setParent := goodIn_r _ [359, 15, 23, 360, 19, 266, 267, 268, 14, 269, 33, 273, 274, 275, 2, 276, 277, 361, 362, 363, 364, 32, 339, 340, 341, 342, 343, 283, 284, 285, 22, 286, 93, 287, 288, 289, 290, 291, 292, 31, 293, 294, 295, 296, 34, 35, 36, 37, 95, 96, 97, 18, 98, 48, 99, 100, 44, 101, 49, 102, 103, 104, 105, 42, 50, 106, 51, 107, 108, 109, 110, 41, 111, 112, 113, 114, 115, 116, 117, 118, 47, 119, 59, 60, 61, 62, 120, 121, 122, 123, 124, 55, 125, 126, 127, 128, 129, 130, 131, 132, 54, 133, 134, 71, 135, 136, 137, 70, 138, 139, 140, 141, 142, 143, 144, 145, 146, 147, 148, 149, 150, 151, 152, 153, 154, 66, 67, 155, 156, 157, 158, 72, 159, 160, 161, 162, 163, 164, 165, 166, 76, 167, 168, 169, 170, 75, 171, 172, 173, 174, 175, 176, 85, 177, 178, 179, 180, 87, 86, 181, 182, 183, 184, 185, 186, 187, 188, 189, 77, 190, 78, 191, 192, 193, 194, 195, 196, 197, 198, 199, 200, 201, 202, 203, 204, 205, 206, 207, 208, 209, 210, 211, 212, 213, 214, 215, 216, 217, 218, 219, 220, 221, 222, 223, 224, 225, 226, 227, 228, 229, 230, 231, 232, 233, 234, 235, 236, 237, 238, 239, 240, 241, 714, 715, 716, 717, 718, 719, 720, 721, 740, 741, 742, 743, 744, 745, 746, 755, 756, 757, 747, 748, 749, 750, 751, 752, 753, 754, 758, 759, 760, 761, 762, 763, 764, 765, 766, 767, 768, 769, 770, 771, 772, 773, 774, 775, 776, 777] (by decide +kernel) (by decide +kernel)
set_option maxRecDepth 20000 in
theorem gL_law_X7_setParent : GoodIn wsL_law (wsV RL 27 RX7 yX7_setParent wsX7_setParent) := goodIn_app (goodIn_of _ (by decide +kernel)) ggL_law_X7_setParent
set_option maxRecDepth 20000 in
theorem ggL_law_X8_setParent : GoodIn wsL_law wsX8_setParent := goodIn_r _ [368, 305, 306, 307, 5, 308, 246, 309, 310, 311, 312, 313, 314, 315, 248, 369, 370, 371, 372, 330, 331, 332, 333, 316, 317, 318, 319, 320, 247, 722, 723, 724, 725, 726, 727, 728, 729, 730, 731, 732, 733, 734, 735, 736, 737, 738, 739] (by decide +kernel) (by decide +kernel)
set_option maxRecDepth 20000 in
theorem gL_law_X8_setParent : GoodIn wsL_law (wsV RL 30 RX8 yX8_setParent wsX8_setParent) := goodIn_app (goodIn_of _ (by decide +kernel)) ggL_law_X8_setParent
set_option maxRecDepth 20000 in
theorem ggL_law_X7_setCanvas : GoodIn wsL_law wsX7_setCanvas := goodIn_r _ [376, 23, 15, 377, 378, 19, 379, 380, 2, 381, 273, 274, 275, 276, 277, 283, 284, 285, 22, 286, 93, 287, 288, 289, 290, 291, 14, 292, 31, 293, 294, 295, 296, 32, 33, 34, 35, 36, 37, 95, 96, 97, 18, 98, 48, 99, 100, 44, 101, 49, 102, 103, 104, 105, 42, 50, 106, 51, 107, 108, 109, 110, 41, 111, 112, 113, 114, 115, 116, 117, 118, 47, 119, 59, 60, 61, 62, 120, 121, 122, 123, 124, 55, 125, 126, 127, 128, 129, 130, 131, 132, 54, 133, 134, 71, 135, 136, 137, 70, 138, 139, 140, 141, 142, 143, 144, 145, 146, 147, 148, 149, 150, 151, 152, 153, 154, 66, 67, 155, 156, 157, 158, 72, 159, 160, 161, 162, 163, 164, 165, 166, 76, 167, 168, 169, 170, 75, 171, 172, 173, 174, 175, 176, 85, 177, 178, 179, 180, 87, 86, 181, 182, 183, 184, 185, 186, 187, 188, 189, 77, 190, 78, 191, 192, 193, 194, 195, 196, 197, 198, 199, 200, 201, 202, 203, 204, 205, 206, 207, 208, 209, 210, 211, 212, 213, 214, 215, 216, 217, 218, 219, 220, 221, 222, 223, 224, 225, 226, 227, 228, 229, 230, 231, 232, 233, 234, 235, 236, 237, 238, 239, 240, 241, 714, 715, 716, 717, 718, 719, 720, 721, 740, 741, 742, 743, 744, 745, 746, 755, 756, 757, 747, 748, 749, 750, 751, 752, 753, 754, 758, 759, 760, 761, 762, 763, 764, 765, 766, 767, 768, 769, 770, 771, 772, 773, 774, 775, 776, 777] (by decide +kernel) (by decide +kernel)
set_option maxRecDepth 20000 in
theorem gL_law_X7_setCanvas : GoodIn wsL_law (wsV RL 31 RX7 yX7_setCanvas wsX7_setCanvas) := goodIn_app (goodIn_of _ (by decide +kernel)) ggL_law_X7_setCanvas
set_option maxRecDepth 20000 in
theorem ggL_law_X8_setCanvas : GoodIn wsL_law wsX8_setCanvas := goodIn_r _ [385, 246, 309, 310, 5, 311, 312, 313, 314, 315, 248, 316, 317, 318, 319, 320, 247, 722, 723, 724, 725, 726, 727, 728, 729, 730, 731, 732, 733, 734, 735, 736, 737, 738, 739] (by decide +kernel) (by decide +kernel)
set_option maxRecDepth 20000 in
theorem gL_law_X8_setCanvas : GoodIn wsL_law (wsV RL 34 RX8 yX8_setCanvas wsX8_setCanvas) := goodIn_app (goodIn_of _ (by decide +kernel)) ggL_law_X8_setCanvas
set_option maxRecDepth 20000 in
theorem ggL_law_X7_setPadding : GoodIn wsL_law wsX7_setPadding := goodIn_r _ [389, 23, 15, 390, 19, 273, 274, 275, 2, 276, 277, 283, 284, 285, 22, 286, 93, 287, 288, 289, 290, 291, 14, 292, 31, 293, 294, 295, 296, 32, 33, 34, 35, 36, 37, 95, 96, 97, 18, 98, 48, 99, 100, 44, 101, 49, 102, 103, 104, 105, 42, 50, 106, 51, 107, 108, 109, 110, 41, 111, 112, 113, 114, 115, 116, 117, 118, 47, 119, 59, 60, 61, 62, 120, 121, 122, 123, 124, 55, 125, 126, 127, 128, 129, 130, 131, 132, 54, 133, 134, 71, 135, 136, 137, 70, 138, 139, 140, 141, 142, 143, 144, 145, 146, 147, 148, 149, 150, 151, 152, 153, 154, 66, 67, 155, 156, 157, 158, 72, 159, 160, 161, 162, 163, 164, 165, 166, 76, 167, 168, 169, 170, 75, 171, 172, 173, 174, 175, 176, 85, 177, 178, 179, 180, 87, 86, 181, 182, 183, 184, 185, 186, 187, 188, 189, 77, 190, 78, 191, 192, 193, 194, 195, 196, 197, 198, 199, 200, 201, 202, 203, 204, 205, 206, 207, 208, 209, 210, 211, 212, 213, 214, 215, 216, 217, 218, 219, 220, 221, 222, 223, 224, 225, 226, 227, 228, 229, 230, 231, 232, 233, 234, 235, 236, 237, 238, 239, 240, 241, 714, 715, 716, 717, 718, 719, 720, 721, 740, 741, 742, 743, 744, 745, 746, 755, 756, 757, 747, 748, 749, 750, 751, 752, 753, 754, 758, 759, 760, 761, 762, 763, 764, 765, 766, 767, 768, 769, 770, 771, 772, 773, 774, 775, 776, 777] (by decide +kernel) (by decide +kernel)
set_option maxRecDepth 20000 in
theorem gL_law_X7_setPadding : GoodIn wsL_law (wsV RL 35 RX7 yX7_setPadding wsX7_setPadding) := goodIn_app (goodIn_of _ (by decide +kernel)) ggL_law_X7_setPadding
set_option maxRecDepth 20000 in
theorem ggL_law_X8_setPadding : GoodIn wsL_law wsX8_setPadding := goodIn_r _ [394, 309, 310, 5, 311, 330, 331, 332, 333, 246, 316, 317, 318, 319, 320, 247, 312, 313, 314, 315, 248, 722, 723, 724, 725, 726, 727, 728, 729, 730, 731, 732, 733, 734, 735, 736, 737, 738, 739] (by decide +kernel) (by decide +kernel)
set_option maxRecDepth 20000 in
theorem gL_law_X8_setPadding : GoodIn wsL_law (wsV RL 38 RX8 yX8_setPadding wsX8_setPadding) := goodIn_app (goodIn_of _ (by decide +kernel)) ggL_law_X8_setPadding
set_option maxRecDepth 20000 in
theorem ggL_law_X7_setMode : GoodIn wsL_law wsX7_setMode := goodIn_r _ [398, 23, 15, 399, 19, 273, 274, 275, 2, 276, 277, 283, 284, 285, 22, 286, 93, 287, 288, 289, 290, 291, 14, 292, 31, 293, 294, 295, 296, 32, 33, 34, 35, 36, 37, 95, 96, 97, 18, 98, 48, 99, 100, 44, 101, 49, 102, 103, 104, 105, 42, 50, 106, 51, 107, 108, 109, 110, 41, 111, 112, 113, 114, 115, 116, 117, 118, 47, 119, 59, 60, 61, 62, 120, 121, 122, 123, 124, 55, 125, 126, 127, 128, 129, 130, 131, 132, 54, 133, 134, 71, 135, 136, 137, 70, 138, 139, 140, 141, 142, 143, 144, 145, 146, 147, 148, 149, 150, 151, 152, 153, 154, 66, 67, 155, 156, 157, 158, 72, 159, 160, 161, 162, 163, 164, 165, 166, 76, 167, 168, 169, 170, 75, 171, 172, 173, 174, 175, 176, 85, 177, 178, 179, 180, 87, 86, 181, 182, 183, 184, 185, 186, 187, 188, 189, 77, 190, 78, 191, 192, 193, 194, 195, 196, 197, 198, 199, 200, 201, 202, 203, 204, 205, 206, 207, 208, 209, 210, 211, 212, 213, 214, 215, 216, 217, 218, 219, 220, 221, 222, 223, 224, 225, 226, 227, 228, 229, 230, 231, 232, 233, 234, 235, 236, 237, 238, 239, 240, 241, 714, 715, 716, 717, 718, 719, 720, 721, 740, 741, 742, 743, 744, 745, 746, 755, 756, 757, 747, 748, 749, 750, 751, 752, 753, 754, 758, 759, 760, 761, 762, 763, 764, 765, 766, 767, 768, 769, 770, 771, 772, 773, 774, 775, 776, 777] (by decide +kernel) (by decide +kernel)
set_option maxRecDepth 20000 in
theorem gL_law_X7_setMode : GoodIn wsL_law (wsV RL 39 RX7 yX7_setMode wsX7_setMode) := goodIn_app (goodIn_of _ (by decide +kernel)) ggL_law_X7_setMode
set_option maxRecDepth 20000 in
theorem ggL_law_X8_setMode : GoodIn wsL_law wsX8_setMode := goodIn_r _ [403, 309, 310, 5, 311, 330, 331, 332, 333, 246, 316, 317, 318, 319, 320, 247, 312, 313, 314, 315, 248, 722, 723, 724, 725, 726, 727, 728, 729, 730, 731, 732, 733, 734, 735, 736, 737, 738, 739] (by decide +kernel) (by decide +kernel)
set_option maxRecDepth 20000 in
theorem gL_law_X8_setMode : GoodIn wsL_law (wsV RL 42 RX8 yX8_setMode wsX8_setMode) := goodIn_app (goodIn_of _ (by decide +kernel)) ggL_law_X8_setMode
set_option maxRecDepth 20000 in
theorem ggL_law_X7_nodeCount : GoodIn wsL_law wsX7_nodeCount := goodIn_r _ [407, 15, 265, 714, 715, 716, 717, 718, 719, 720, 721, 740, 741, 742, 743, 744, 745, 746] (by decide +kernel) (by decide +kernel)
set_option maxRecDepth 20000 in
theorem gL_law_X7_nodeCount : GoodIn wsL_law (wsV RL 43 RX7 yX7_nodeCount wsX7_nodeCount) := goodIn_app (goodIn_of _ (by decide +kernel)) ggL_law_X7_nodeCount
set_option maxRecDepth 20000 in
theorem ggL_law_X8_nodeCount : GoodIn wsL_law wsX8_nodeCount := goodIn_r _ [411, 246, 722, 723, 724, 725, 726, 727, 728, 729, 730, 731, 732, 733, 734, 735, 736, 737, 738, 739] (by decide +kernel) (by decide +kernel)
set_option maxRecDepth 20000 in
theorem gL_law_X8_nodeCount : GoodIn wsL_law (wsV RL 47 RX8 yX8_nodeCount wsX8_nodeCount) := goodIn_app (goodIn_of _ (by decide +kernel)) ggL_law_X8_nodeCount
set_option maxRecDepth 20000 in
theorem ggL_law_X7_size : GoodIn wsL_law wsX7_size := goodIn_r _ [415, 15, 19, 416, 266, 267, 268, 14, 269, 33, 273, 274, 275, 2, 276, 277, 714, 715, 716, 717, 718, 719, 720, 721, 747, 748, 749, 750, 751, 752, 753, 754, 740, 741, 742, 743, 744, 745, 746] (by decide +kernel) (by decide +kernel)
set_option maxRecDepth 20000 in
theorem gL_law_X7_size : GoodIn wsL_law (wsV RL 48 RX7 yX7_size wsX7_size) := goodIn_app (goodIn_of _ (by decide +kernel)) ggL_law_X7_size
set_option maxRecDepth 20000 in
theorem ggL_law_X8_size : GoodIn wsL_law wsX8_size := goodIn_r _ [420, 305, 306, 307, 5, 308, 246, 309, 310, 311, 421, 422, 423, 424, 352, 353, 354, 355, 369, 370, 371, 372, 312, 313, 314, 315, 248, 722, 723, 724, 725, 726, 727, 728, 729, 730, 731, 732, 733, 734, 735, 736, 737, 738, 739] (by decide +kernel) (by decide +kernel)
set_option maxRecDepth 20000 in
theorem gL_law_X8_size : GoodIn wsL_law (wsV RL 51 RX8 yX8_size wsX8_size) := goodIn_app (goodIn_of _ (by decide +kernel)) ggL_law_X8_size
set_option maxRecDepth 20000 in
theorem ggL_law_X7_parent : GoodIn wsL_law wsX7_parent := goodIn_r _ [428, 15, 360, 266, 267, 268, 14, 269, 33, 273, 274, 275, 2, 276, 277, 714, 715, 716, 717, 718, 719, 720, 721, 740, 741, 742, 743, 744, 745, 746] (by decide +kernel) (by decide +kernel)
set_option maxRecDepth 20000 in
theorem gL_law_X7_parent : GoodIn wsL_law (wsV RL 52 RX7 yX7_parent wsX7_parent) := goodIn_app (goodIn_of _ (by decide +kernel)) ggL_law_X7_parent
set_option maxRecDepth 20000 in
theorem ggL_law_X8_parent : GoodIn wsL_law wsX8_parent := goodIn_r _ [432, 246, 305, 306, 307, 5, 308, 309, 310, 311, 312, 313, 314, 315, 248, 722, 723, 724, 725, 726, 727, 728, 729, 730, 731, 732, 733, 734, 735, 736, 737, 738, 739] (by decide +kernel) (by decide +kernel)
set_option maxRecDepth 20000 in
theorem gL_law_X8_parent : GoodIn wsL_law (wsV RL 55 RX8 yX8_parent wsX8_parent) := goodIn_app (goodIn_of _ (by decide +kernel)) ggL_law_X8_parent
set_option maxRecDepth 20000 in
theorem ggL_law_X7_depth : GoodIn wsL_law wsX7_depth := goodIn_r _ [436, 15, 19, 437, 266, 267, 268, 14, 269, 33, 273, 274, 275, 2, 276, 277, 714, 715, 716, 717, 718, 719, 720, 721, 747, 748, 749, 750, 751, 752, 753, 754, 740, 741, 742, 743, 744, 745, 746] (by decide +kernel) (by decide +kernel)
set_option maxRecDepth 20000 in
theorem gL_law_X7_depth : GoodIn wsL_law (wsV RL 56 RX7 yX7_depth wsX7_depth) := goodIn_app (goodIn_of _ (by decide +kernel)) ggL_law_X7_depth
set_option maxRecDepth 20000 in
theorem ggL_law_X8_depth : GoodIn wsL_law wsX8_depth := goodIn_r _ [441, 305, 306, 307, 5, 308, 246, 309, 310, 311, 442, 443, 444, 445, 312, 313, 314, 315, 248, 722, 723, 724, 725, 726, 727, 728, 729, 730, 731, 732, 733, 734, 735, 736, 737, 738, 739] (by decide +kernel) (by decide +kernel)
set_option maxRecDepth 20000 in
theorem gL_law_X8_depth : GoodIn wsL_law (wsV RL 59 RX8 yX8_depth wsX8_depth) := goodIn_app (goodIn_of _ (by decide +kernel)) ggL_law_X8_depth
set_option maxRecDepth 20000 in
theorem ggL_law_X7_leafCount : GoodIn wsL_law wsX7_leafCount := goodIn_r _ [449, 15, 265, 19, 338, 113, 114, 18, 115, 51, 714, 715, 716, 717, 718, 719, 720, 721, 740, 741, 742, 743, 744, 745, 746, 747, 748, 749, 750, 751, 752, 753, 754] (by decide +kernel) (by decide +kernel)
set_option maxRecDepth 20000 in
theorem gL_law_X7_leafCount : GoodIn wsL_law (wsV RL 60 RX7 yX7_leafCount wsX7_leafCount) := goodIn_app (goodIn_of _ (by decide +kernel)) ggL_law_X7_leafCount
set_option maxRecDepth 20000 in
theorem ggL_law_X8_leafCount : GoodIn wsL_law wsX8_leafCount := goodIn_r _ [453, 454, 455, 456, 5, 457, 246, 352, 353, 354, 355, 722, 723, 724, 725, 726, 727, 728, 729, 730, 731, 732, 733, 734, 735, 736, 737, 738, 739] (by decide +kernel) (by decide +kernel)
set_option maxRecDepth 20000 in
theorem gL_law_X8_leafCount : GoodIn wsL_law (wsV RL 63 RX8 yX8_leafCount wsX8_leafCount) := goodIn_app (goodIn_of _ (by decide +kernel)) ggL_law_X8_leafCount
set_option maxRecDepth 20000 in
theorem ggL_law_X7_x : GoodIn wsL_law wsX7_x := goodIn_r _ [461, 15, 19, 462, 463, 266, 267, 268, 14, 269, 33, 273, 274, 275, 2, 276, 277, 714, 715, 716, 717, 718, 719, 720, 721, 747, 748, 749, 750, 751, 752, 753, 754, 758, 759, 760, 761, 740, 741, 742, 743, 744, 745, 746] (by decide +kernel) (by decide +kernel)
set_option maxRecDepth 20000 in
theorem gL_law_X7_x : GoodIn wsL_law (wsV RL 64 RX7 yX7_x wsX7_x) := goodIn_app (goodIn_of _ (by decide +kernel)) ggL_law_X7_x
set_option maxRecDepth 20000 in
theorem ggL_law_X8_x : GoodIn wsL_law wsX8_x := goodIn_r _ [467, 251, 468, 469, 470, 5, 471, 246, 256, 255, 421, 422, 423, 424, 352, 353, 354, 355, 369, 370, 371, 372, 472, 473, 474, 475, 252, 253, 254, 442, 443, 444, 445, 476, 477, 478, 479, 480, 257, 481, 482, 483, 484, 485, 486, 487, 488, 250, 489, 490, 491, 492, 249, 493, 494, 495, 496, 497, 498, 499, 500, 258, 259, 501, 502, 503, 504, 505, 506, 507, 508, 509, 510, 511, 512, 513, 514, 515, 516, 517, 518, 519, 520, 521, 522, 523, 524, 525, 526, 527, 528, 305, 306, 307, 308, 309, 310, 311, 312, 313, 314, 315, 248, 722, 723, 724, 725, 726, 727, 728, 729, 730, 731, 732, 733, 734, 735, 736, 737, 738, 739] (by decide +kernel) (by decide +kernel)
set_option maxRecDepth 20000 in
theorem gL_law_X8_x : GoodIn wsL_law (wsV RL 67 RX8 yX8_x wsX8_x) := goodIn_app (goodIn_of _ (by decide +kernel)) ggL_law_X8_x
set_option maxRecDepth 20000 in
theorem ggL_law_X7_y : GoodIn wsL_law wsX7_y := goodIn_r _ [532, 15, 19, 462, 533, 266, 267, 268, 14, 269, 33, 273, 274, 275, 2, 276, 277, 714, 715, 716, 717, 718, 719, 720, 721, 747, 748, 749, 750, 751, 752, 753, 754, 758, 759, 760, 761, 740, 741, 742, 743, 744, 745, 746] (by decide +kernel) (by decide +kernel)
set_option maxRecDepth 20000 in
theorem gL_law_X7_y : GoodIn wsL_law (wsV RL 68 RX7 yX7_y wsX7_y) := goodIn_app (goodIn_of _ (by decide +kernel)) ggL_law_X7_y
set_option maxRecDepth 20000 in
theorem ggL_law_X8_y : GoodIn wsL_law wsX8_y := goodIn_r _ [537, 252, 468, 469, 470, 5, 471, 246, 256, 255, 421, 422, 423, 424, 352, 353, 354, 355, 369, 370, 371, 372, 472, 473, 474, 475, 251, 253, 254, 442, 443, 444, 445, 476, 477, 478, 479, 480, 257, 481, 482, 483, 484, 485, 486, 487, 488, 250, 489, 490, 491, 492, 249, 493, 494, 495, 496, 497, 498, 499, 500, 258, 259, 501, 502, 503, 504, 505, 506, 507, 508, 509, 510, 511, 512, 513, 514, 515, 516, 517, 518, 519, 520, 521, 522, 523, 524, 525, 526, 527, 528, 305, 306, 307, 308, 309, 310, 311, 312, 313, 314, 315, 248, 722, 723, 724, 725, 726, 727, 728, 729, 730, 731, 732, 733, 734, 735, 736, 737, 738, 739] (by decide +kernel) (by decide +kernel)
set_option maxRecDepth 20000 in
theorem gL_law_X8_y : GoodIn wsL_law (wsV RL 71 RX8 yX8_y wsX8_y) := goodIn_app (goodIn_of _ (by decide +kernel)) ggL_law_X8_y
set_option maxRecDepth 20000 in
theorem ggL_law_X7_width : GoodIn wsL_law wsX7_width := goodIn_r _ [541, 15, 19, 462, 542, 266, 267, 268, 14, 269, 33, 273, 274, 275, 2, 276, 277, 714, 715, 716, 717, 718, 719, 720, 721, 747, 748, 749, 750, 751, 752, 753, 754, 758, 759, 760, 761, 740, 741, 742, 743, 744, 745, 746] (by decide +kernel) (by decide +kernel)
set_option maxRecDepth 20000 in
theorem gL_law_X7_width : GoodIn wsL_law (wsV RL 72 RX7 yX7_width wsX7_width) := goodIn_app (goodIn_of _ (by decide +kernel)) ggL_law_X7_width
set_option maxRecDepth 20000 in
theorem ggL_law_X8_width : GoodIn wsL_law wsX8_width := goodIn_r _ [546, 253, 468, 469, 470, 5, 471, 246, 256, 255, 421, 422, 423, 424, 352, 353, 354, 355, 369, 370, 371, 372, 472, 473, 474, 475, 251, 252, 254, 442, 443, 444, 445, 476, 477, 478, 479, 480, 257, 481, 482, 483, 484, 485, 486, 487, 488, 250, 489, 490, 491, 492, 249, 493, 494, 495, 496, 497, 498, 499, 500, 258, 259, 501, 502, 503, 504, 505, 506, 507, 508, 509, 510, 511, 512, 513, 514, 515, 516, 517, 518, 519, 520, 521, 522, 523, 524, 525, 526, 527, 528, 305, 306, 307, 308, 309, 310, 311, 312, 313, 314, 315, 248, 722, 723, 724, 725, 726, 727, 728, 729, 730, 731, 732, 733, 734, 735, 736, 737, 738, 739] (by decide +kernel) (by decide +kernel)
set_option maxRecDepth 20000 in
theorem gL_law_X8_width : GoodIn wsL_law (wsV RL 75 RX8 yX8_width wsX8_width) := goodIn_app (goodIn_of _ (by decide +kernel)) ggL_law_X8_width
set_option maxRecDepth 20000 in
theorem ggL_law_X7_height : GoodIn wsL_law wsX7_height := goodIn_r _ [550, 15, 19, 462, 551, 266, 267, 268, 14, 269, 33, 273, 274, 275, 2, 276, 277, 714, 715, 716, 717, 718, 719, 720, 721, 747, 748, 749, 750, 751, 752, 753, 754, 758, 759, 760, 761, 740, 741, 742, 743, 744, 745, 746] (by decide +kernel) (by decide +kernel)
set_option maxRecDepth 20000 in
theorem gL_law_X7_height : GoodIn wsL_law (wsV RL 76 RX7 yX7_height wsX7_height) := goodIn_app (goodIn_of _ (by decide +kernel)) ggL_law_X7_height
set_option maxRecDepth 20000 in
theorem ggL_law_X8_height : GoodIn wsL_law wsX8_height := goodIn_r _ [555, 254, 468, 469, 470, 5, 471, 246, 256, 255, 421, 422, 423, 424, 352, 353, 354, 355, 369, 370, 371, 372, 472, 473, 474, 475, 251, 252, 253, 442, 443, 444, 445, 476, 477, 478, 479, 480, 257, 481, 482, 483, 484, 485, 486, 487, 488, 250, 489, 490, 491, 492, 249, 493, 494, 495, 496, 497, 498, 499, 500, 258, 259, 501, 502, 503, 504, 505, 506, 507, 508, 509, 510, 511, 512, 513, 514, 515, 516, 517, 518, 519, 520, 521, 522, 523, 524, 525, 526, 527, 528, 305, 306, 307, 308, 309, 310, 311, 312, 313, 314, 315, 248, 722, 723, 724, 725, 726, 727, 728, 729, 730, 731, 732, 733, 734, 735, 736, 737, 738, 739] (by decide +kernel) (by decide +kernel)
set_option maxRecDepth 20000 in
theorem gL_law_X8_height : GoodIn wsL_law (wsV RL 79 RX8 yX8_height wsX8_height) := goodIn_app (goodIn_of _ (by decide +kernel)) ggL_law_X8_height
set_option maxRecDepth 20000 in
theorem ggL_law_X7_isHidden : GoodIn wsL_law wsX7_isHidden := goodIn_r _ [559, 15, 266, 267, 268, 14, 269, 33, 560, 561, 562, 2, 563, 19, 564, 273, 274, 275, 276, 277, 714, 715, 716, 717, 718, 719, 720, 721, 740, 741, 742, 743, 744, 745, 746, 747, 748, 749, 750, 751, 752, 753, 754] (by decide +kernel) (by decide +kernel)
set_option maxRecDepth 20000 in
theorem gL_law_X7_isHidden : GoodIn wsL_law (wsV RL 80 RX7 yX7_isHidden wsX7_isHidden) := goodIn_app (goodIn_of _ (by decide +kernel)) ggL_law_X7_isHidden
set_option maxRecDepth 20000 in
theorem ggL_law_X8_isHidden : GoodIn wsL_law wsX8_isHidden := goodIn_r _ [568, 255, 468, 469, 470, 5, 471, 246, 256, 421, 422, 423, 424, 352, 353, 354, 355, 369, 370, 371, 372, 472, 473, 474, 475, 251, 252, 253, 254, 442, 443, 444, 445, 476, 477, 478, 479, 480, 257, 481, 482, 483, 484, 485, 486, 487, 488, 250, 489, 490, 491, 492, 249, 493, 494, 495, 496, 497, 498, 499, 500, 258, 259, 501, 502, 503, 504, 505, 506, 507, 508, 509, 510, 511, 512, 513, 514, 515, 516, 517, 518, 519, 520, 521, 522, 523, 524, 525, 526, 527, 528, 305, 306, 307, 308, 309, 310, 311, 312, 313, 314, 315, 248, 722, 723, 724, 725, 726, 727, 728, 729, 730, 731, 732, 733, 734, 735, 736, 737, 738, 739] (by decide +kernel) (by decide +kernel)
set_option maxRecDepth 20000 in
theorem gL_law_X8_isHidden : GoodIn wsL_law (wsV RL 83 RX8 yX8_isHidden wsX8_isHidden) := goodIn_app (goodIn_of _ (by decide +kernel)) ggL_law_X8_isHidden
set_option maxRecDepth 20000 in
theorem ggL_law_X7_nodeAt : GoodIn wsL_law wsX7_nodeAt := goodIn_r _ [572, 15, 377, 378, 265, 19, 462, 437, 273, 274, 275, 2, 276, 277, 573, 574, 575, 47, 576, 59, 61, 60, 62, 714, 715, 716, 717, 718, 719, 720, 721, 740, 741, 742, 743, 744, 745, 746, 747, 748, 749, 750, 751, 752, 753, 754, 758, 759, 760, 761] (by decide +kernel) (by decide +kernel)
set_option maxRecDepth 20000 in
theorem gL_law_X7_nodeAt : GoodIn wsL_law (wsV RL 84 RX7 yX7_nodeAt wsX7_nodeAt) := goodIn_app (goodIn_of _ (by decide +kernel)) ggL_law_X7_nodeAt
set_option maxRecDepth 20000 in
theorem ggL_law_X8_nodeAt : GoodIn wsL_law wsX8_nodeAt := goodIn_r _ [580, 246, 251, 253, 252, 254, 309, 310, 5, 311, 312, 313, 314, 315, 248, 468, 469, 470, 471, 256, 255, 421, 422, 423, 424, 352, 353, 354, 355, 369, 370, 371, 372, 472, 473, 474, 475, 442, 443, 444, 445, 476, 477, 478, 479, 480, 257, 481, 482, 483, 484, 485, 486, 487, 488, 250, 489, 490, 491, 492, 249, 493, 494, 495, 496, 497, 498, 499, 500, 258, 259, 501, 502, 503, 504, 505, 506, 507, 508, 509, 510, 511, 512, 513, 514, 515, 516, 517, 518, 519, 520, 521, 522, 523, 524, 525, 526, 527, 528, 722, 723, 724, 725, 726, 727, 728, 729, 730, 731, 732, 733, 734, 735, 736, 737, 738, 739] (by decide +kernel) (by decide +kernel)
set_option maxRecDepth 20000 in
theorem gL_law_X8_nodeAt : GoodIn wsL_law (wsV RL 87 RX8 yX8_nodeAt wsX8_nodeAt) := goodIn_app (goodIn_of _ (by decide +kernel)) ggL_law_X8_nodeAt
set_option maxRecDepth 20000 in
theorem ggL_law_X7_leafPixels : GoodIn wsL_law wsX7_leafPixels := goodIn_r _ [584, 15, 265, 19, 462, 338, 113, 114, 18, 115, 51, 585, 586, 587, 47, 588, 61, 62, 714, 715, 716, 717, 718, 719, 720, 721, 740, 741, 742, 743, 744, 745, 746, 747, 748, 749, 750, 751, 752, 753, 754, 758, 759, 760, 761] (by decide +kernel) (by decide +kernel)
set_option maxRecDepth 20000 in
theorem gL_law_X7_leafPixels : GoodIn wsL_law (wsV RL 88 RX7 yX7_leafPixels wsX7_leafPixels) := goodIn_app (goodIn_of _ (by decide +kernel)) ggL_law_X7_leafPixels
set_option maxRecDepth 20000 in
theorem ggL_law_X8_leafPixels : GoodIn wsL_law wsX8_leafPixels := goodIn_r _ [592, 468, 469, 470, 5, 471, 246, 256, 255, 421, 422, 423, 424, 352, 353, 354, 355, 369, 370, 371, 372, 472, 473, 474, 475, 251, 252, 253, 254, 442, 443, 444, 445, 476, 477, 478, 479, 480, 257, 481, 482, 483, 484, 485, 486, 487, 488, 250, 489, 490, 491, 492, 249, 493, 494, 495, 496, 497, 498, 499, 500, 258, 259, 501, 502, 503, 504, 505, 506, 507, 508, 509, 510, 511, 512, 513, 514, 515, 516, 517, 518, 519, 520, 521, 522, 523, 524, 525, 526, 527, 528, 593, 594, 595, 596, 722, 723, 724, 725, 726, 727, 728, 729, 730, 731, 732, 733, 734, 735, 736, 737, 738, 739] (by decide +kernel) (by decide +kernel)
set_option maxRecDepth 20000 in
theorem gL_law_X8_leafPixels : GoodIn wsL_law (wsV RL 91 RX8 yX8_leafPixels wsX8_leafPixels) := goodIn_app (goodIn_of _ (by decide +kernel)) ggL_law_X8_leafPixels
set_option maxRecDepth 20000 in
theorem ggL_law_X7_worstAspect : GoodIn wsL_law wsX7_worstAspect := goodIn_r _ [600, 15, 265, 19, 462, 601, 602, 603, 18, 604, 48, 112, 113, 114, 115, 51, 605, 586, 587, 47, 588, 61, 62, 606, 607, 608, 609, 610, 611, 228, 612, 613, 227, 229, 614, 615, 2, 616, 617, 618, 714, 715, 716, 717, 718, 719, 720, 721, 740, 741, 742, 743, 744, 745, 746, 747, 748, 749, 750, 751, 752, 753, 754, 758, 759, 760, 761] (by decide +kernel) (by decide +kernel)
set_option maxRecDepth 20000 in
theorem gL_law_X7_worstAspect : GoodIn wsL_law (wsV RL 92 RX7 yX7_worstAspect wsX7_worstAspect) := goodIn_app (goodIn_of _ (by decide +kernel)) ggL_law_X7_worstAspect
set_option maxRecDepth 20000 in
theorem ggL_law_X8_worstAspect : GoodIn wsL_law wsX8_worstAspect := goodIn_r _ [622, 468, 469, 470, 5, 471, 246, 256, 255, 421, 422, 423, 424, 352, 353, 354, 355, 369, 370, 371, 372, 472, 473, 474, 475, 251, 252, 253, 254, 442, 443, 444, 445, 476, 477, 478, 479, 480, 257, 481, 482, 483, 484, 485, 486, 487, 488, 250, 489, 490, 491, 492, 249, 493, 494, 495, 496, 497, 498, 499, 500, 258, 259, 501, 502, 503, 504, 505, 506, 507, 508, 509, 510, 511, 512, 513, 514, 515, 516, 517, 518, 519, 520, 521, 522, 523, 524, 525, 526, 527, 528, 623, 624, 625, 626, 627, 628, 629, 630, 631, 632, 633, 634, 635, 636, 637, 638, 722, 723, 724, 725, 726, 727, 728, 729, 730, 731, 732, 733, 734, 735, 736, 737, 738, 739] (by decide +kernel) (by decide +kernel)
set_option maxRecDepth 20000 in
theorem gL_law_X8_worstAspect : GoodIn wsL_law (wsV RL 95 RX8 yX8_worstAspect wsX8_worstAspect) := goodIn_app (goodIn_of _ (by decide +kernel)) ggL_law_X8_worstAspect
set_option maxRecDepth 20000 in
theorem ggL_law_X7_averageAspect : GoodIn wsL_law wsX7_averageAspect := goodIn_r _ [642, 15, 265, 19, 462, 601, 602, 603, 18, 604, 48, 112, 113, 114, 115, 51, 605, 586, 587, 47, 588, 61, 62, 606, 607, 608, 609, 610, 611, 228, 612, 613, 227, 229, 614, 615, 2, 616, 617, 618, 714, 715, 716, 717, 718, 719, 720, 721, 740, 741, 742, 743, 744, 745, 746, 747, 748, 749, 750, 751, 752, 753, 754, 758, 759, 760, 761] (by decide +kernel) (by decide +kernel)
set_option maxRecDepth 20000 in
theorem gL_law_X7_averageAspect : GoodIn wsL_law (wsV RL 96 RX7 yX7_averageAspect wsX7_averageAspect) := goodIn_app (goodIn_of _ (by decide +kernel)) ggL_law_X7_averageAspect
set_option maxRecDepth 20000 in
theorem ggL_law_X8_averageAspect : GoodIn wsL_law wsX8_averageAspect := goodIn_r _ [646, 468, 469, 470, 5, 471, 246, 256, 255, 421, 422, 423, 424, 352, 353, 354, 355, 369, 370, 371, 372, 472, 473, 474, 475, 251, 252, 253, 254, 442, 443, 444, 445, 476, 477, 478, 479, 480, 257, 481, 482, 483, 484, 485, 486, 487, 488, 250, 489, 490, 491, 492, 249, 493, 494, 495, 496, 497, 498, 499, 500, 258, 259, 501, 502, 503, 504, 505, 506, 507, 508, 509, 510, 511, 512, 513, 514, 515, 516, 517, 518, 519, 520, 521, 522, 523, 524, 525, 526, 527, 528, 623, 624, 625, 626, 627, 628, 629, 630, 631, 632, 633, 634, 635, 636, 637, 638, 722, 723, 724, 725, 726, 727, 728, 729, 730, 731, 732, 733, 734, 735, 736, 737, 738, 739] (by decide +kernel) (by decide +kernel)
set_option maxRecDepth 20000 in
theorem gL_law_X8_averageAspect : GoodIn wsL_law (wsV RL 99 RX8 yX8_averageAspect wsX8_averageAspect) := goodIn_app (goodIn_of _ (by decide +kernel)) ggL_law_X8_averageAspect
set_option maxRecDepth 20000 in
theorem ggL_law_X7_changeBy : GoodIn wsL_law wsX7_changeBy := goodIn_r _ [650, 15, 24, 325, 25, 265, 19, 462, 266, 267, 268, 14, 269, 33, 270, 271, 2, 272, 273, 274, 275, 276, 277, 651, 290, 291, 292, 31, 293, 294, 295, 296, 32, 34, 35, 36, 37, 95, 96, 97, 18, 98, 48, 99, 100, 44, 101, 49, 102, 103, 104, 105, 42, 50, 106, 51, 107, 108, 109, 110, 41, 111, 112, 113, 114, 115, 116, 117, 118, 47, 119, 59, 60, 61, 62, 120, 121, 122, 123, 124, 55, 125, 126, 127, 128, 129, 130, 131, 132, 54, 133, 134, 71, 135, 136, 137, 70, 138, 139, 140, 141, 142, 143, 144, 145, 146, 147, 148, 149, 150, 151, 152, 153, 154, 66, 67, 155, 156, 157, 158, 72, 159, 160, 161, 162, 163, 164, 165, 166, 76, 167, 168, 169, 170, 75, 171, 172, 173, 174, 175, 176, 85, 177, 178, 179, 180, 87, 86, 181, 182, 183, 184, 185, 186, 187, 188, 189, 77, 190, 78, 191, 192, 193, 194, 195, 196, 197, 198, 199, 200, 201, 202, 203, 204, 205, 206, 207, 208, 209, 210, 211, 212, 213, 214, 215, 216, 217, 218, 219, 220, 221, 222, 223, 224, 225, 226, 227, 228, 229, 230, 231, 232, 233, 234, 235, 236, 237, 238, 239, 240, 241, 652, 653, 654, 655, 656, 657, 658, 714, 715, 716, 717, 718, 719, 720, 721, 740, 741, 742, 743, 744, 745, 746, 747, 748, 749, 750, 751, 752, 753, 754, 758, 759, 760, 761, 762, 763, 764, 765, 766, 767, 768, 769, 770, 771, 772, 773, 774, 775, 776, 777] (by decide +kernel) (by decide +kernel)
set_option maxRecDepth 20000 in
theorem gL_law_X7_changeBy : GoodIn wsL_law (wsV RL 100 RX7 yX7_changeBy wsX7_changeBy) := goodIn_app (goodIn_of _ (by decide +kernel)) ggL_law_X7_changeBy
set_option maxRecDepth 20000 in
theorem ggL_law_X8_changeBy : GoodIn wsL_law wsX8_changeBy := goodIn_r _ [662, 246, 260, 251, 252, 253, 254, 305, 306, 307, 5, 308, 309, 310, 311, 312, 313, 314, 315, 248, 468, 469, 470, 471, 256, 255, 421, 422, 423, 424, 352, 353, 354, 355, 369, 370, 371, 372, 472, 473, 474, 475, 442, 443, 444, 445, 476, 477, 478, 479, 480, 257, 481, 482, 483, 484, 485, 486, 487, 488, 250, 489, 490, 491, 492, 249, 493, 494, 495, 496, 497, 498, 499, 500, 258, 259, 501, 502, 503, 504, 505, 506, 507, 508, 509, 510, 511, 512, 513, 514, 515, 516, 517, 518, 519, 520, 521, 522, 523, 524, 525, 526, 527, 528, 663, 664, 665, 722, 723, 724, 725, 726, 727, 728, 729, 730, 731, 732, 733, 734, 735, 736, 737, 738, 739] (by decide +kernel) (by decide +kernel)
set_option maxRecDepth 20000 in
theorem gL_law_X8_changeBy : GoodIn wsL_law (wsV RL 103 RX8 yX8_changeBy wsX8_changeBy) := goodIn_app (goodIn_of _ (by decide +kernel)) ggL_law_X8_changeBy
set_option maxRecDepth 20000 in
theorem ggL_law_X7_undo : GoodIn wsL_law wsX7_undo := goodIn_r _ [669, 23, 670, 15, 19, 339, 340, 341, 2, 342, 343, 671, 672, 673, 22, 674, 288, 287, 93, 289, 290, 291, 14, 292, 31, 293, 294, 295, 296, 32, 33, 34, 35, 36, 37, 95, 96, 97, 18, 98, 48, 99, 100, 44, 101, 49, 102, 103, 104, 105, 42, 50, 106, 51, 107, 108, 109, 110, 41, 111, 112, 113, 114, 115, 116, 117, 118, 47, 119, 59, 60, 61, 62, 120, 121, 122, 123, 124, 55, 125, 126, 127, 128, 129, 130, 131, 132, 54, 133, 134, 71, 135, 136, 137, 70, 138, 139, 140, 141, 142, 143, 144, 145, 146, 147, 148, 149, 150, 151, 152, 153, 154, 66, 67, 155, 156, 157, 158, 72, 159, 160, 161, 162, 163, 164, 165, 166, 76, 167, 168, 169, 170, 75, 171, 172, 173, 174, 175, 176, 85, 177, 178, 179, 180, 87, 86, 181, 182, 183, 184, 185, 186, 187, 188, 189, 77, 190, 78, 191, 192, 193, 194, 195, 196, 197, 198, 199, 200, 201, 202, 203, 204, 205, 206, 207, 208, 209, 210, 211, 212, 213, 214, 215, 216, 217, 218, 219, 220, 221, 222, 223, 224, 225, 226, 227, 228, 229, 230, 231, 232, 233, 234, 235, 236, 237, 238, 239, 240, 241, 714, 715, 716, 717, 718, 719, 720, 721, 755, 756, 757, 740, 741, 742, 743, 744, 745, 746, 747, 748, 749, 750, 751, 752, 753, 754, 758, 759, 760, 761, 762, 763, 764, 765, 766, 767, 768, 769, 770, 771, 772, 773, 774, 775, 776, 777] (by decide +kernel) (by decide +kernel)
set_option maxRecDepth 20000 in
theorem gL_law_X7_undo : GoodIn wsL_law (wsV RL 104 RX7 yX7_undo wsX7_undo) := goodIn_app (goodIn_of _ (by decide +kernel)) ggL_law_X7_undo
set_option maxRecDepth 20000 in
theorem ggL_law_X8_undo : GoodIn wsL_law wsX8_undo := goodIn_r _ [678, 320, 246, 247, 312, 313, 314, 5, 315, 248, 722, 723, 724, 725, 726, 727, 728, 729, 730, 731, 732, 733, 734, 735, 736, 737, 738, 739] (by decide +kernel) (by decide +kernel)
set_option maxRecDepth 20000 in
theorem gL_law_X8_undo : GoodIn wsL_law (wsV RL 107 RX8 yX8_undo wsX8_undo) := goodIn_app (goodIn_of _ (by decide +kernel)) ggL_law_X8_undo
set_option maxRecDepth 20000 in
theorem ggL_law_X7_errorCount : GoodIn wsL_law wsX7_errorCount := goodIn_r _ [682, 277, 343, 282, 273, 274, 275, 2, 276, 714, 715, 716, 717, 718, 719, 720, 721] (by decide +kernel) (by decide +kernel)
set_option maxRecDepth 20000 in
theorem gL_law_X7_errorCount : GoodIn wsL_law (wsV RL 108 RX7 yX7_errorCount wsX7_errorCount) := goodIn_app (goodIn_of _ (by decide +kernel)) ggL_law_X7_errorCount
set_option maxRecDepth 20000 in
theorem ggL_law_X8_errorCount : GoodIn wsL_law wsX8_errorCount := goodIn_r _ [686, 248, 309, 310, 5, 311, 312, 313, 314, 315, 722, 723, 724, 725, 726, 727, 728, 729, 730, 731, 732, 733, 734, 735, 736, 737, 738, 739] (by decide +kernel) (by decide +kernel)
set_option maxRecDepth 20000 in
theorem gL_law_X8_errorCount : GoodIn wsL_law (wsV RL 111 RX8 yX8_errorCount wsX8_errorCount) := goodIn_app (goodIn_of _ (by decide +kernel)) ggL_law_X8_errorCount
set_option maxRecDepth 20000 in
theorem ggL_law_X7_digest : GoodIn wsL_law wsX7_digest := goodIn_r _ [690, 691, 277, 343, 282, 23, 670, 15, 377, 378, 390, 399, 265, 692, 693, 2, 694, 695, 696, 697, 698, 699, 325, 19, 416, 360, 462, 463, 533, 542, 551, 560, 561, 562, 563, 564, 700, 582, 583, 584, 338, 113, 114, 18, 115, 51, 585, 586, 587, 47, 588, 61, 62, 701, 598, 599, 600, 601, 602, 603, 604, 48, 112, 605, 606, 607, 608, 609, 610, 611, 228, 612, 613, 227, 229, 614, 615, 616, 617, 618, 702, 640, 641, 642, 714, 715, 716, 717, 718, 719, 720, 721, 755, 756, 757, 740, 741, 742, 743, 744, 745, 746, 747, 748, 749, 750, 751, 752, 753, 754, 758, 759, 760, 761] (by decide +kernel) (by decide +kernel)
set_option maxRecDepth 20000 in
theorem gL_law_X7_digest : GoodIn wsL_law (wsV RL 112 RX7 yX7_digest wsX7_digest) := goodIn_app (goodIn_of _ (by decide +kernel)) ggL_law_X7_digest
set_option maxRecDepth 20000 in
theorem ggL_law_X8_digest : GoodIn wsL_law wsX8_digest := goodIn_r _ [706, 707, 708, 248, 320, 246, 256, 251, 252, 253, 254, 255, 709, 710, 711, 5, 712, 713, 468, 469, 470, 471, 421, 422, 423, 424, 352, 353, 354, 355, 369, 370, 371, 372, 472, 473, 474, 475, 442, 443, 444, 445, 476, 477, 478, 479, 480, 257, 481, 482, 483, 484, 485, 486, 487, 488, 250, 489, 490, 491, 492, 249, 493, 494, 495, 496, 497, 498, 499, 500, 258, 259, 501, 502, 503, 504, 505, 506, 507, 508, 509, 510, 511, 512, 513, 514, 515, 516, 517, 518, 519, 520, 521, 522, 523, 524, 525, 526, 527, 528, 593, 594, 595, 596, 623, 624, 625, 626, 627, 628, 629, 630, 631, 632, 633, 634, 635, 636, 637, 638, 722, 723, 724, 725, 726, 727, 728, 729, 730, 731, 732, 733, 734, 735, 736, 737, 738, 739] (by decide +kernel) (by decide +kernel)
set_option maxRecDepth 20000 in
theorem gL_law_X8_digest : GoodIn wsL_law (wsV RL 116 RX8 yX8_digest wsX8_digest) := goodIn_app (goodIn_of _ (by decide +kernel)) ggL_law_X8_digest
theorem dL_law_0 : decode cL_law 0 = .ok (.new 7, 3) := by decide +kernel
theorem dL_law_3 : decode cL_law 3 = .ok (.dup, 1) := by decide +kernel
theorem dL_law_4 : decode cL_law 4 = .ok (.invokespecial 9, 3) := by decide +kernel
theorem dL_law_7 : decode cL_law 7 = .ok (.astore_n 1, 1) := by decide +kernel
theorem dL_law_8 : decode cL_law 8 = .ok (.new 10, 3) := by decide +kernel
theorem dL_law_11 : decode cL_law 11 = .ok (.dup, 1) := by decide +kernel
theorem dL_law_12 : decode cL_law 12 = .ok (.invokespecial 12, 3) := by decide +kernel
theorem dL_law_15 : decode cL_law 15 = .ok (.astore_n 2, 1) := by decide +kernel
theorem dL_law_16 : decode cL_law 16 = .ok (.iconst 0, 1) := by decide +kernel
theorem dL_law_17 : decode cL_law 17 = .ok (.istore_n 3, 1) := by decide +kernel
theorem dL_law_18 : decode cL_law 18 = .ok (.iload_n 3, 1) := by decide +kernel
theorem dL_law_19 : decode cL_law 19 = .ok (.aload_n 0, 1) := by decide +kernel
theorem dL_law_20 : decode cL_law 20 = .ok (.arraylength, 1) := by decide +kernel
theorem dL_law_21 : decode cL_law 21 = .ok (.iconst 3, 1) := by decide +kernel
theorem dL_law_22 : decode cL_law 22 = .ok (.isub, 1) := by decide +kernel
theorem dL_law_23 : decode cL_law 23 = .ok (.if_icmp .gt 697, 3) := by decide +kernel
theorem dL_law_26 : decode cL_law 26 = .ok (.aload_n 0, 1) := by decide +kernel
theorem dL_law_27 : decode cL_law 27 = .ok (.iload_n 3, 1) := by decide +kernel
theorem dL_law_28 : decode cL_law 28 = .ok (.iaload, 1) := by decide +kernel
theorem dL_law_29 : decode cL_law 29 = .ok (.bipush 31, 2) := by decide +kernel
theorem dL_law_31 : decode cL_law 31 = .ok (.iand, 1) := by decide +kernel
theorem dL_law_32 : decode cL_law 32 = .ok (.tableswitch 682 0 24 #[116, 149, 182, 205, 238, 271, 294, 317, 330, 353, 376, 399, 412, 435, 458, 481, 504, 527, 560, 573, 586, 599, 632, 645, 668], 116) := by decide +kernel
theorem dL_law_148 : decode cL_law 148 = .ok (.aload_n 1, 1) := by decide +kernel
theorem dL_law_149 : decode cL_law 149 = .ok (.aload_n 0, 1) := by decide +kernel
theorem dL_law_150 : decode cL_law 150 = .ok (.iload_n 3, 1) := by decide +kernel
theorem dL_law_151 : decode cL_law 151 = .ok (.iconst 1, 1) := by decide +kernel
theorem dL_law_152 : decode cL_law 152 = .ok (.iadd, 1) := by decide +kernel
theorem dL_law_153 : decode cL_law 153 = .ok (.iaload, 1) := by decide +kernel
theorem dL_law_154 : decode cL_law 154 = .ok (.aload_n 0, 1) := by decide +kernel
theorem dL_law_155 : decode cL_law 155 = .ok (.iload_n 3, 1) := by decide +kernel
theorem dL_law_156 : decode cL_law 156 = .ok (.iconst 2, 1) := by decide +kernel
theorem dL_law_157 : decode cL_law 157 = .ok (.iadd, 1) := by decide +kernel
theorem dL_law_158 : decode cL_law 158 = .ok (.iaload, 1) := by decide +kernel
theorem dL_law_159 : decode cL_law 159 = .ok (.invokevirtual 13, 3) := by decide +kernel
theorem dL_law_162 : decode cL_law 162 = .ok (.aload_n 2, 1) := by decide +kernel
theorem dL_law_163 : decode cL_law 163 = .ok (.aload_n 0, 1) := by decide +kernel
theorem dL_law_164 : decode cL_law 164 = .ok (.iload_n 3, 1) := by decide +kernel
theorem dL_law_165 : decode cL_law 165 = .ok (.iconst 1, 1) := by decide +kernel
theorem dL_law_166 : decode cL_law 166 = .ok (.iadd, 1) := by decide +kernel
theorem dL_law_167 : decode cL_law 167 = .ok (.iaload, 1) := by decide +kernel
theorem dL_law_168 : decode cL_law 168 = .ok (.aload_n 0, 1) := by decide +kernel
theorem dL_law_169 : decode cL_law 169 = .ok (.iload_n 3, 1) := by decide +kernel
theorem dL_law_170 : decode cL_law 170 = .ok (.iconst 2, 1) := by decide +kernel
theorem dL_law_171 : decode cL_law 171 = .ok (.iadd, 1) := by decide +kernel
theorem dL_law_172 : decode cL_law 172 = .ok (.iaload, 1) := by decide +kernel
theorem dL_law_173 : decode cL_law 173 = .ok (.invokevirtual 17, 3) := by decide +kernel
theorem dL_law_176 : decode cL_law 176 = .ok (.if_icmp .eq 538, 3) := by decide +kernel
theorem dL_law_179 : decode cL_law 179 = .ok (.iconst 0, 1) := by decide +kernel
theorem dL_law_180 : decode cL_law 180 = .ok (.ireturn, 1) := by decide +kernel
theorem dL_law_181 : decode cL_law 181 = .ok (.aload_n 1, 1) := by decide +kernel
theorem dL_law_182 : decode cL_law 182 = .ok (.aload_n 0, 1) := by decide +kernel
theorem dL_law_183 : decode cL_law 183 = .ok (.iload_n 3, 1) := by decide +kernel
theorem dL_law_184 : decode cL_law 184 = .ok (.iconst 1, 1) := by decide +kernel
theorem dL_law_185 : decode cL_law 185 = .ok (.iadd, 1) := by decide +kernel
theorem dL_law_186 : decode cL_law 186 = .ok (.iaload, 1) := by decide +kernel
theorem dL_law_187 : decode cL_law 187 = .ok (.aload_n 0, 1) := by decide +kernel
theorem dL_law_188 : decode cL_law 188 = .ok (.iload_n 3, 1) := by decide +kernel
theorem dL_law_189 : decode cL_law 189 = .ok (.iconst 2, 1) := by decide +kernel
theorem dL_law_190 : decode cL_law 190 = .ok (.iadd, 1) := by decide +kernel
theorem dL_law_191 : decode cL_law 191 = .ok (.iaload, 1) := by decide +kernel
theorem dL_law_192 : decode cL_law 192 = .ok (.invokevirtual 18, 3) := by decide +kernel
theorem dL_law_195 : decode cL_law 195 = .ok (.aload_n 2, 1) := by decide +kernel
theorem dL_law_196 : decode cL_law 196 = .ok (.aload_n 0, 1) := by decide +kernel
theorem dL_law_197 : decode cL_law 197 = .ok (.iload_n 3, 1) := by decide +kernel
theorem dL_law_198 : decode cL_law 198 = .ok (.iconst 1, 1) := by decide +kernel
theorem dL_law_199 : decode cL_law 199 = .ok (.iadd, 1) := by decide +kernel
theorem dL_law_200 : decode cL_law 200 = .ok (.iaload, 1) := by decide +kernel
theorem dL_law_201 : decode cL_law 201 = .ok (.aload_n 0, 1) := by decide +kernel
theorem dL_law_202 : decode cL_law 202 = .ok (.iload_n 3, 1) := by decide +kernel
theorem dL_law_203 : decode cL_law 203 = .ok (.iconst 2, 1) := by decide +kernel
theorem dL_law_204 : decode cL_law 204 = .ok (.iadd, 1) := by decide +kernel
theorem dL_law_205 : decode cL_law 205 = .ok (.iaload, 1) := by decide +kernel
theorem dL_law_206 : decode cL_law 206 = .ok (.invokevirtual 21, 3) := by decide +kernel
theorem dL_law_209 : decode cL_law 209 = .ok (.if_icmp .eq 505, 3) := by decide +kernel
theorem dL_law_212 : decode cL_law 212 = .ok (.iconst 0, 1) := by decide +kernel
theorem dL_law_213 : decode cL_law 213 = .ok (.ireturn, 1) := by decide +kernel
theorem dL_law_214 : decode cL_law 214 = .ok (.aload_n 1, 1) := by decide +kernel
theorem dL_law_215 : decode cL_law 215 = .ok (.aload_n 0, 1) := by decide +kernel
theorem dL_law_216 : decode cL_law 216 = .ok (.iload_n 3, 1) := by decide +kernel
theorem dL_law_217 : decode cL_law 217 = .ok (.iconst 1, 1) := by decide +kernel
theorem dL_law_218 : decode cL_law 218 = .ok (.iadd, 1) := by decide +kernel
theorem dL_law_219 : decode cL_law 219 = .ok (.iaload, 1) := by decide +kernel
theorem dL_law_220 : decode cL_law 220 = .ok (.invokevirtual 22, 3) := by decide +kernel
theorem dL_law_223 : decode cL_law 223 = .ok (.aload_n 2, 1) := by decide +kernel
theorem dL_law_224 : decode cL_law 224 = .ok (.aload_n 0, 1) := by decide +kernel
theorem dL_law_225 : decode cL_law 225 = .ok (.iload_n 3, 1) := by decide +kernel
theorem dL_law_226 : decode cL_law 226 = .ok (.iconst 1, 1) := by decide +kernel
theorem dL_law_227 : decode cL_law 227 = .ok (.iadd, 1) := by decide +kernel
theorem dL_law_228 : decode cL_law 228 = .ok (.iaload, 1) := by decide +kernel
theorem dL_law_229 : decode cL_law 229 = .ok (.invokevirtual 26, 3) := by decide +kernel
theorem dL_law_232 : decode cL_law 232 = .ok (.if_icmp .eq 482, 3) := by decide +kernel
theorem dL_law_235 : decode cL_law 235 = .ok (.iconst 0, 1) := by decide +kernel
theorem dL_law_236 : decode cL_law 236 = .ok (.ireturn, 1) := by decide +kernel
theorem dL_law_237 : decode cL_law 237 = .ok (.aload_n 1, 1) := by decide +kernel
theorem dL_law_238 : decode cL_law 238 = .ok (.aload_n 0, 1) := by decide +kernel
theorem dL_law_239 : decode cL_law 239 = .ok (.iload_n 3, 1) := by decide +kernel
theorem dL_law_240 : decode cL_law 240 = .ok (.iconst 1, 1) := by decide +kernel
theorem dL_law_241 : decode cL_law 241 = .ok (.iadd, 1) := by decide +kernel
theorem dL_law_242 : decode cL_law 242 = .ok (.iaload, 1) := by decide +kernel
theorem dL_law_243 : decode cL_law 243 = .ok (.aload_n 0, 1) := by decide +kernel
theorem dL_law_244 : decode cL_law 244 = .ok (.iload_n 3, 1) := by decide +kernel
theorem dL_law_245 : decode cL_law 245 = .ok (.iconst 2, 1) := by decide +kernel
theorem dL_law_246 : decode cL_law 246 = .ok (.iadd, 1) := by decide +kernel
theorem dL_law_247 : decode cL_law 247 = .ok (.iaload, 1) := by decide +kernel
theorem dL_law_248 : decode cL_law 248 = .ok (.invokevirtual 27, 3) := by decide +kernel
theorem dL_law_251 : decode cL_law 251 = .ok (.aload_n 2, 1) := by decide +kernel
theorem dL_law_252 : decode cL_law 252 = .ok (.aload_n 0, 1) := by decide +kernel
theorem dL_law_253 : decode cL_law 253 = .ok (.iload_n 3, 1) := by decide +kernel
theorem dL_law_254 : decode cL_law 254 = .ok (.iconst 1, 1) := by decide +kernel
theorem dL_law_255 : decode cL_law 255 = .ok (.iadd, 1) := by decide +kernel
theorem dL_law_256 : decode cL_law 256 = .ok (.iaload, 1) := by decide +kernel
theorem dL_law_257 : decode cL_law 257 = .ok (.aload_n 0, 1) := by decide +kernel
theorem dL_law_258 : decode cL_law 258 = .ok (.iload_n 3, 1) := by decide +kernel
theorem dL_law_259 : decode cL_law 259 = .ok (.iconst 2, 1) := by decide +kernel
theorem dL_law_260 : decode cL_law 260 = .ok (.iadd, 1) := by decide +kernel
theorem dL_law_261 : decode cL_law 261 = .ok (.iaload, 1) := by decide +kernel
theorem dL_law_262 : decode cL_law 262 = .ok (.invokevirtual 30, 3) := by decide +kernel
theorem dL_law_265 : decode cL_law 265 = .ok (.if_icmp .eq 449, 3) := by decide +kernel
theorem dL_law_268 : decode cL_law 268 = .ok (.iconst 0, 1) := by decide +kernel
theorem dL_law_269 : decode cL_law 269 = .ok (.ireturn, 1) := by decide +kernel
theorem dL_law_270 : decode cL_law 270 = .ok (.aload_n 1, 1) := by decide +kernel
theorem dL_law_271 : decode cL_law 271 = .ok (.aload_n 0, 1) := by decide +kernel
theorem dL_law_272 : decode cL_law 272 = .ok (.iload_n 3, 1) := by decide +kernel
theorem dL_law_273 : decode cL_law 273 = .ok (.iconst 1, 1) := by decide +kernel
theorem dL_law_274 : decode cL_law 274 = .ok (.iadd, 1) := by decide +kernel
theorem dL_law_275 : decode cL_law 275 = .ok (.iaload, 1) := by decide +kernel
theorem dL_law_276 : decode cL_law 276 = .ok (.aload_n 0, 1) := by decide +kernel
theorem dL_law_277 : decode cL_law 277 = .ok (.iload_n 3, 1) := by decide +kernel
theorem dL_law_278 : decode cL_law 278 = .ok (.iconst 2, 1) := by decide +kernel
theorem dL_law_279 : decode cL_law 279 = .ok (.iadd, 1) := by decide +kernel
theorem dL_law_280 : decode cL_law 280 = .ok (.iaload, 1) := by decide +kernel
theorem dL_law_281 : decode cL_law 281 = .ok (.invokevirtual 31, 3) := by decide +kernel
theorem dL_law_284 : decode cL_law 284 = .ok (.aload_n 2, 1) := by decide +kernel
theorem dL_law_285 : decode cL_law 285 = .ok (.aload_n 0, 1) := by decide +kernel
theorem dL_law_286 : decode cL_law 286 = .ok (.iload_n 3, 1) := by decide +kernel
theorem dL_law_287 : decode cL_law 287 = .ok (.iconst 1, 1) := by decide +kernel
theorem dL_law_288 : decode cL_law 288 = .ok (.iadd, 1) := by decide +kernel
theorem dL_law_289 : decode cL_law 289 = .ok (.iaload, 1) := by decide +kernel
theorem dL_law_290 : decode cL_law 290 = .ok (.aload_n 0, 1) := by decide +kernel
theorem dL_law_291 : decode cL_law 291 = .ok (.iload_n 3, 1) := by decide +kernel
theorem dL_law_292 : decode cL_law 292 = .ok (.iconst 2, 1) := by decide +kernel
theorem dL_law_293 : decode cL_law 293 = .ok (.iadd, 1) := by decide +kernel
theorem dL_law_294 : decode cL_law 294 = .ok (.iaload, 1) := by decide +kernel
theorem dL_law_295 : decode cL_law 295 = .ok (.invokevirtual 34, 3) := by decide +kernel
theorem dL_law_298 : decode cL_law 298 = .ok (.if_icmp .eq 416, 3) := by decide +kernel
theorem dL_law_301 : decode cL_law 301 = .ok (.iconst 0, 1) := by decide +kernel
theorem dL_law_302 : decode cL_law 302 = .ok (.ireturn, 1) := by decide +kernel
theorem dL_law_303 : decode cL_law 303 = .ok (.aload_n 1, 1) := by decide +kernel
theorem dL_law_304 : decode cL_law 304 = .ok (.aload_n 0, 1) := by decide +kernel
theorem dL_law_305 : decode cL_law 305 = .ok (.iload_n 3, 1) := by decide +kernel
theorem dL_law_306 : decode cL_law 306 = .ok (.iconst 1, 1) := by decide +kernel
theorem dL_law_307 : decode cL_law 307 = .ok (.iadd, 1) := by decide +kernel
theorem dL_law_308 : decode cL_law 308 = .ok (.iaload, 1) := by decide +kernel
theorem dL_law_309 : decode cL_law 309 = .ok (.invokevirtual 35, 3) := by decide +kernel
theorem dL_law_312 : decode cL_law 312 = .ok (.aload_n 2, 1) := by decide +kernel
theorem dL_law_313 : decode cL_law 313 = .ok (.aload_n 0, 1) := by decide +kernel
theorem dL_law_314 : decode cL_law 314 = .ok (.iload_n 3, 1) := by decide +kernel
theorem dL_law_315 : decode cL_law 315 = .ok (.iconst 1, 1) := by decide +kernel
theorem dL_law_316 : decode cL_law 316 = .ok (.iadd, 1) := by decide +kernel
theorem dL_law_317 : decode cL_law 317 = .ok (.iaload, 1) := by decide +kernel
theorem dL_law_318 : decode cL_law 318 = .ok (.invokevirtual 38, 3) := by decide +kernel
theorem dL_law_321 : decode cL_law 321 = .ok (.if_icmp .eq 393, 3) := by decide +kernel
theorem dL_law_324 : decode cL_law 324 = .ok (.iconst 0, 1) := by decide +kernel
theorem dL_law_325 : decode cL_law 325 = .ok (.ireturn, 1) := by decide +kernel
theorem dL_law_326 : decode cL_law 326 = .ok (.aload_n 1, 1) := by decide +kernel
theorem dL_law_327 : decode cL_law 327 = .ok (.aload_n 0, 1) := by decide +kernel
theorem dL_law_328 : decode cL_law 328 = .ok (.iload_n 3, 1) := by decide +kernel
theorem dL_law_329 : decode cL_law 329 = .ok (.iconst 1, 1) := by decide +kernel
theorem dL_law_330 : decode cL_law 330 = .ok (.iadd, 1) := by decide +kernel
theorem dL_law_331 : decode cL_law 331 = .ok (.iaload, 1) := by decide +kernel
theorem dL_law_332 : decode cL_law 332 = .ok (.invokevirtual 39, 3) := by decide +kernel
theorem dL_law_335 : decode cL_law 335 = .ok (.aload_n 2, 1) := by decide +kernel
theorem dL_law_336 : decode cL_law 336 = .ok (.aload_n 0, 1) := by decide +kernel
theorem dL_law_337 : decode cL_law 337 = .ok (.iload_n 3, 1) := by decide +kernel
theorem dL_law_338 : decode cL_law 338 = .ok (.iconst 1, 1) := by decide +kernel
theorem dL_law_339 : decode cL_law 339 = .ok (.iadd, 1) := by decide +kernel
theorem dL_law_340 : decode cL_law 340 = .ok (.iaload, 1) := by decide +kernel
theorem dL_law_341 : decode cL_law 341 = .ok (.invokevirtual 42, 3) := by decide +kernel
theorem dL_law_344 : decode cL_law 344 = .ok (.if_icmp .eq 370, 3) := by decide +kernel
theorem dL_law_347 : decode cL_law 347 = .ok (.iconst 0, 1) := by decide +kernel
theorem dL_law_348 : decode cL_law 348 = .ok (.ireturn, 1) := by decide +kernel
theorem dL_law_349 : decode cL_law 349 = .ok (.aload_n 1, 1) := by decide +kernel
theorem dL_law_350 : decode cL_law 350 = .ok (.invokevirtual 43, 3) := by decide +kernel
theorem dL_law_353 : decode cL_law 353 = .ok (.aload_n 2, 1) := by decide +kernel
theorem dL_law_354 : decode cL_law 354 = .ok (.invokevirtual 47, 3) := by decide +kernel
theorem dL_law_357 : decode cL_law 357 = .ok (.if_icmp .eq 357, 3) := by decide +kernel
theorem dL_law_360 : decode cL_law 360 = .ok (.iconst 0, 1) := by decide +kernel
theorem dL_law_361 : decode cL_law 361 = .ok (.ireturn, 1) := by decide +kernel
theorem dL_law_362 : decode cL_law 362 = .ok (.aload_n 1, 1) := by decide +kernel
theorem dL_law_363 : decode cL_law 363 = .ok (.aload_n 0, 1) := by decide +kernel
theorem dL_law_364 : decode cL_law 364 = .ok (.iload_n 3, 1) := by decide +kernel
theorem dL_law_365 : decode cL_law 365 = .ok (.iconst 1, 1) := by decide +kernel
theorem dL_law_366 : decode cL_law 366 = .ok (.iadd, 1) := by decide +kernel
theorem dL_law_367 : decode cL_law 367 = .ok (.iaload, 1) := by decide +kernel
theorem dL_law_368 : decode cL_law 368 = .ok (.invokevirtual 48, 3) := by decide +kernel
theorem dL_law_371 : decode cL_law 371 = .ok (.aload_n 2, 1) := by decide +kernel
theorem dL_law_372 : decode cL_law 372 = .ok (.aload_n 0, 1) := by decide +kernel
theorem dL_law_373 : decode cL_law 373 = .ok (.iload_n 3, 1) := by decide +kernel
theorem dL_law_374 : decode cL_law 374 = .ok (.iconst 1, 1) := by decide +kernel
theorem dL_law_375 : decode cL_law 375 = .ok (.iadd, 1) := by decide +kernel
theorem dL_law_376 : decode cL_law 376 = .ok (.iaload, 1) := by decide +kernel
theorem dL_law_377 : decode cL_law 377 = .ok (.invokevirtual 51, 3) := by decide +kernel
theorem dL_law_380 : decode cL_law 380 = .ok (.if_icmp .eq 334, 3) := by decide +kernel
theorem dL_law_383 : decode cL_law 383 = .ok (.iconst 0, 1) := by decide +kernel
theorem dL_law_384 : decode cL_law 384 = .ok (.ireturn, 1) := by decide +kernel
theorem dL_law_385 : decode cL_law 385 = .ok (.aload_n 1, 1) := by decide +kernel
theorem dL_law_386 : decode cL_law 386 = .ok (.aload_n 0, 1) := by decide +kernel
theorem dL_law_387 : decode cL_law 387 = .ok (.iload_n 3, 1) := by decide +kernel
theorem dL_law_388 : decode cL_law 388 = .ok (.iconst 1, 1) := by decide +kernel
theorem dL_law_389 : decode cL_law 389 = .ok (.iadd, 1) := by decide +kernel
theorem dL_law_390 : decode cL_law 390 = .ok (.iaload, 1) := by decide +kernel
theorem dL_law_391 : decode cL_law 391 = .ok (.invokevirtual 52, 3) := by decide +kernel
theorem dL_law_394 : decode cL_law 394 = .ok (.aload_n 2, 1) := by decide +kernel
theorem dL_law_395 : decode cL_law 395 = .ok (.aload_n 0, 1) := by decide +kernel
theorem dL_law_396 : decode cL_law 396 = .ok (.iload_n 3, 1) := by decide +kernel
theorem dL_law_397 : decode cL_law 397 = .ok (.iconst 1, 1) := by decide +kernel
theorem dL_law_398 : decode cL_law 398 = .ok (.iadd, 1) := by decide +kernel
theorem dL_law_399 : decode cL_law 399 = .ok (.iaload, 1) := by decide +kernel
theorem dL_law_400 : decode cL_law 400 = .ok (.invokevirtual 55, 3) := by decide +kernel
theorem dL_law_403 : decode cL_law 403 = .ok (.if_icmp .eq 311, 3) := by decide +kernel
theorem dL_law_406 : decode cL_law 406 = .ok (.iconst 0, 1) := by decide +kernel
theorem dL_law_407 : decode cL_law 407 = .ok (.ireturn, 1) := by decide +kernel
theorem dL_law_408 : decode cL_law 408 = .ok (.aload_n 1, 1) := by decide +kernel
theorem dL_law_409 : decode cL_law 409 = .ok (.aload_n 0, 1) := by decide +kernel
theorem dL_law_410 : decode cL_law 410 = .ok (.iload_n 3, 1) := by decide +kernel
theorem dL_law_411 : decode cL_law 411 = .ok (.iconst 1, 1) := by decide +kernel
theorem dL_law_412 : decode cL_law 412 = .ok (.iadd, 1) := by decide +kernel
theorem dL_law_413 : decode cL_law 413 = .ok (.iaload, 1) := by decide +kernel
theorem dL_law_414 : decode cL_law 414 = .ok (.invokevirtual 56, 3) := by decide +kernel
theorem dL_law_417 : decode cL_law 417 = .ok (.aload_n 2, 1) := by decide +kernel
theorem dL_law_418 : decode cL_law 418 = .ok (.aload_n 0, 1) := by decide +kernel
theorem dL_law_419 : decode cL_law 419 = .ok (.iload_n 3, 1) := by decide +kernel
theorem dL_law_420 : decode cL_law 420 = .ok (.iconst 1, 1) := by decide +kernel
theorem dL_law_421 : decode cL_law 421 = .ok (.iadd, 1) := by decide +kernel
theorem dL_law_422 : decode cL_law 422 = .ok (.iaload, 1) := by decide +kernel
theorem dL_law_423 : decode cL_law 423 = .ok (.invokevirtual 59, 3) := by decide +kernel
theorem dL_law_426 : decode cL_law 426 = .ok (.if_icmp .eq 288, 3) := by decide +kernel
theorem dL_law_429 : decode cL_law 429 = .ok (.iconst 0, 1) := by decide +kernel
theorem dL_law_430 : decode cL_law 430 = .ok (.ireturn, 1) := by decide +kernel
theorem dL_law_431 : decode cL_law 431 = .ok (.aload_n 1, 1) := by decide +kernel
theorem dL_law_432 : decode cL_law 432 = .ok (.invokevirtual 60, 3) := by decide +kernel
theorem dL_law_435 : decode cL_law 435 = .ok (.aload_n 2, 1) := by decide +kernel
theorem dL_law_436 : decode cL_law 436 = .ok (.invokevirtual 63, 3) := by decide +kernel
theorem dL_law_439 : decode cL_law 439 = .ok (.if_icmp .eq 275, 3) := by decide +kernel
theorem dL_law_442 : decode cL_law 442 = .ok (.iconst 0, 1) := by decide +kernel
theorem dL_law_443 : decode cL_law 443 = .ok (.ireturn, 1) := by decide +kernel
theorem dL_law_444 : decode cL_law 444 = .ok (.aload_n 1, 1) := by decide +kernel
theorem dL_law_445 : decode cL_law 445 = .ok (.aload_n 0, 1) := by decide +kernel
theorem dL_law_446 : decode cL_law 446 = .ok (.iload_n 3, 1) := by decide +kernel
theorem dL_law_447 : decode cL_law 447 = .ok (.iconst 1, 1) := by decide +kernel
theorem dL_law_448 : decode cL_law 448 = .ok (.iadd, 1) := by decide +kernel
theorem dL_law_449 : decode cL_law 449 = .ok (.iaload, 1) := by decide +kernel
theorem dL_law_450 : decode cL_law 450 = .ok (.invokevirtual 64, 3) := by decide +kernel
theorem dL_law_453 : decode cL_law 453 = .ok (.aload_n 2, 1) := by decide +kernel
theorem dL_law_454 : decode cL_law 454 = .ok (.aload_n 0, 1) := by decide +kernel
theorem dL_law_455 : decode cL_law 455 = .ok (.iload_n 3, 1) := by decide +kernel
theorem dL_law_456 : decode cL_law 456 = .ok (.iconst 1, 1) := by decide +kernel
theorem dL_law_457 : decode cL_law 457 = .ok (.iadd, 1) := by decide +kernel
theorem dL_law_458 : decode cL_law 458 = .ok (.iaload, 1) := by decide +kernel
theorem dL_law_459 : decode cL_law 459 = .ok (.invokevirtual 67, 3) := by decide +kernel
theorem dL_law_462 : decode cL_law 462 = .ok (.if_icmp .eq 252, 3) := by decide +kernel
theorem dL_law_465 : decode cL_law 465 = .ok (.iconst 0, 1) := by decide +kernel
theorem dL_law_466 : decode cL_law 466 = .ok (.ireturn, 1) := by decide +kernel
theorem dL_law_467 : decode cL_law 467 = .ok (.aload_n 1, 1) := by decide +kernel
theorem dL_law_468 : decode cL_law 468 = .ok (.aload_n 0, 1) := by decide +kernel
theorem dL_law_469 : decode cL_law 469 = .ok (.iload_n 3, 1) := by decide +kernel
theorem dL_law_470 : decode cL_law 470 = .ok (.iconst 1, 1) := by decide +kernel
theorem dL_law_471 : decode cL_law 471 = .ok (.iadd, 1) := by decide +kernel
theorem dL_law_472 : decode cL_law 472 = .ok (.iaload, 1) := by decide +kernel
theorem dL_law_473 : decode cL_law 473 = .ok (.invokevirtual 68, 3) := by decide +kernel
theorem dL_law_476 : decode cL_law 476 = .ok (.aload_n 2, 1) := by decide +kernel
theorem dL_law_477 : decode cL_law 477 = .ok (.aload_n 0, 1) := by decide +kernel
theorem dL_law_478 : decode cL_law 478 = .ok (.iload_n 3, 1) := by decide +kernel
theorem dL_law_479 : decode cL_law 479 = .ok (.iconst 1, 1) := by decide +kernel
theorem dL_law_480 : decode cL_law 480 = .ok (.iadd, 1) := by decide +kernel
theorem dL_law_481 : decode cL_law 481 = .ok (.iaload, 1) := by decide +kernel
theorem dL_law_482 : decode cL_law 482 = .ok (.invokevirtual 71, 3) := by decide +kernel
theorem dL_law_485 : decode cL_law 485 = .ok (.if_icmp .eq 229, 3) := by decide +kernel
theorem dL_law_488 : decode cL_law 488 = .ok (.iconst 0, 1) := by decide +kernel
theorem dL_law_489 : decode cL_law 489 = .ok (.ireturn, 1) := by decide +kernel
theorem dL_law_490 : decode cL_law 490 = .ok (.aload_n 1, 1) := by decide +kernel
theorem dL_law_491 : decode cL_law 491 = .ok (.aload_n 0, 1) := by decide +kernel
theorem dL_law_492 : decode cL_law 492 = .ok (.iload_n 3, 1) := by decide +kernel
theorem dL_law_493 : decode cL_law 493 = .ok (.iconst 1, 1) := by decide +kernel
theorem dL_law_494 : decode cL_law 494 = .ok (.iadd, 1) := by decide +kernel
theorem dL_law_495 : decode cL_law 495 = .ok (.iaload, 1) := by decide +kernel
theorem dL_law_496 : decode cL_law 496 = .ok (.invokevirtual 72, 3) := by decide +kernel
theorem dL_law_499 : decode cL_law 499 = .ok (.aload_n 2, 1) := by decide +kernel
theorem dL_law_500 : decode cL_law 500 = .ok (.aload_n 0, 1) := by decide +kernel
theorem dL_law_501 : decode cL_law 501 = .ok (.iload_n 3, 1) := by decide +kernel
theorem dL_law_502 : decode cL_law 502 = .ok (.iconst 1, 1) := by decide +kernel
theorem dL_law_503 : decode cL_law 503 = .ok (.iadd, 1) := by decide +kernel
theorem dL_law_504 : decode cL_law 504 = .ok (.iaload, 1) := by decide +kernel
theorem dL_law_505 : decode cL_law 505 = .ok (.invokevirtual 75, 3) := by decide +kernel
theorem dL_law_508 : decode cL_law 508 = .ok (.if_icmp .eq 206, 3) := by decide +kernel
theorem dL_law_511 : decode cL_law 511 = .ok (.iconst 0, 1) := by decide +kernel
theorem dL_law_512 : decode cL_law 512 = .ok (.ireturn, 1) := by decide +kernel
theorem dL_law_513 : decode cL_law 513 = .ok (.aload_n 1, 1) := by decide +kernel
theorem dL_law_514 : decode cL_law 514 = .ok (.aload_n 0, 1) := by decide +kernel
theorem dL_law_515 : decode cL_law 515 = .ok (.iload_n 3, 1) := by decide +kernel
theorem dL_law_516 : decode cL_law 516 = .ok (.iconst 1, 1) := by decide +kernel
theorem dL_law_517 : decode cL_law 517 = .ok (.iadd, 1) := by decide +kernel
theorem dL_law_518 : decode cL_law 518 = .ok (.iaload, 1) := by decide +kernel
theorem dL_law_519 : decode cL_law 519 = .ok (.invokevirtual 76, 3) := by decide +kernel
theorem dL_law_522 : decode cL_law 522 = .ok (.aload_n 2, 1) := by decide +kernel
theorem dL_law_523 : decode cL_law 523 = .ok (.aload_n 0, 1) := by decide +kernel
theorem dL_law_524 : decode cL_law 524 = .ok (.iload_n 3, 1) := by decide +kernel
theorem dL_law_525 : decode cL_law 525 = .ok (.iconst 1, 1) := by decide +kernel
theorem dL_law_526 : decode cL_law 526 = .ok (.iadd, 1) := by decide +kernel
theorem dL_law_527 : decode cL_law 527 = .ok (.iaload, 1) := by decide +kernel
theorem dL_law_528 : decode cL_law 528 = .ok (.invokevirtual 79, 3) := by decide +kernel
theorem dL_law_531 : decode cL_law 531 = .ok (.if_icmp .eq 183, 3) := by decide +kernel
theorem dL_law_534 : decode cL_law 534 = .ok (.iconst 0, 1) := by decide +kernel
theorem dL_law_535 : decode cL_law 535 = .ok (.ireturn, 1) := by decide +kernel
theorem dL_law_536 : decode cL_law 536 = .ok (.aload_n 1, 1) := by decide +kernel
theorem dL_law_537 : decode cL_law 537 = .ok (.aload_n 0, 1) := by decide +kernel
theorem dL_law_538 : decode cL_law 538 = .ok (.iload_n 3, 1) := by decide +kernel
theorem dL_law_539 : decode cL_law 539 = .ok (.iconst 1, 1) := by decide +kernel
theorem dL_law_540 : decode cL_law 540 = .ok (.iadd, 1) := by decide +kernel
theorem dL_law_541 : decode cL_law 541 = .ok (.iaload, 1) := by decide +kernel
theorem dL_law_542 : decode cL_law 542 = .ok (.invokevirtual 80, 3) := by decide +kernel
theorem dL_law_545 : decode cL_law 545 = .ok (.aload_n 2, 1) := by decide +kernel
theorem dL_law_546 : decode cL_law 546 = .ok (.aload_n 0, 1) := by decide +kernel
theorem dL_law_547 : decode cL_law 547 = .ok (.iload_n 3, 1) := by decide +kernel
theorem dL_law_548 : decode cL_law 548 = .ok (.iconst 1, 1) := by decide +kernel
theorem dL_law_549 : decode cL_law 549 = .ok (.iadd, 1) := by decide +kernel
theorem dL_law_550 : decode cL_law 550 = .ok (.iaload, 1) := by decide +kernel
theorem dL_law_551 : decode cL_law 551 = .ok (.invokevirtual 83, 3) := by decide +kernel
theorem dL_law_554 : decode cL_law 554 = .ok (.if_icmp .eq 160, 3) := by decide +kernel
theorem dL_law_557 : decode cL_law 557 = .ok (.iconst 0, 1) := by decide +kernel
theorem dL_law_558 : decode cL_law 558 = .ok (.ireturn, 1) := by decide +kernel
theorem dL_law_559 : decode cL_law 559 = .ok (.aload_n 1, 1) := by decide +kernel
theorem dL_law_560 : decode cL_law 560 = .ok (.aload_n 0, 1) := by decide +kernel
theorem dL_law_561 : decode cL_law 561 = .ok (.iload_n 3, 1) := by decide +kernel
theorem dL_law_562 : decode cL_law 562 = .ok (.iconst 1, 1) := by decide +kernel
theorem dL_law_563 : decode cL_law 563 = .ok (.iadd, 1) := by decide +kernel
theorem dL_law_564 : decode cL_law 564 = .ok (.iaload, 1) := by decide +kernel
theorem dL_law_565 : decode cL_law 565 = .ok (.aload_n 0, 1) := by decide +kernel
theorem dL_law_566 : decode cL_law 566 = .ok (.iload_n 3, 1) := by decide +kernel
theorem dL_law_567 : decode cL_law 567 = .ok (.iconst 2, 1) := by decide +kernel
theorem dL_law_568 : decode cL_law 568 = .ok (.iadd, 1) := by decide +kernel
theorem dL_law_569 : decode cL_law 569 = .ok (.iaload, 1) := by decide +kernel
theorem dL_law_570 : decode cL_law 570 = .ok (.invokevirtual 84, 3) := by decide +kernel
theorem dL_law_573 : decode cL_law 573 = .ok (.aload_n 2, 1) := by decide +kernel
theorem dL_law_574 : decode cL_law 574 = .ok (.aload_n 0, 1) := by decide +kernel
theorem dL_law_575 : decode cL_law 575 = .ok (.iload_n 3, 1) := by decide +kernel
theorem dL_law_576 : decode cL_law 576 = .ok (.iconst 1, 1) := by decide +kernel
theorem dL_law_577 : decode cL_law 577 = .ok (.iadd, 1) := by decide +kernel
theorem dL_law_578 : decode cL_law 578 = .ok (.iaload, 1) := by decide +kernel
theorem dL_law_579 : decode cL_law 579 = .ok (.aload_n 0, 1) := by decide +kernel
theorem dL_law_580 : decode cL_law 580 = .ok (.iload_n 3, 1) := by decide +kernel
theorem dL_law_581 : decode cL_law 581 = .ok (.iconst 2, 1) := by decide +kernel
theorem dL_law_582 : decode cL_law 582 = .ok (.iadd, 1) := by decide +kernel
theorem dL_law_583 : decode cL_law 583 = .ok (.iaload, 1) := by decide +kernel
theorem dL_law_584 : decode cL_law 584 = .ok (.invokevirtual 87, 3) := by decide +kernel
theorem dL_law_587 : decode cL_law 587 = .ok (.if_icmp .eq 127, 3) := by decide +kernel
theorem dL_law_590 : decode cL_law 590 = .ok (.iconst 0, 1) := by decide +kernel
theorem dL_law_591 : decode cL_law 591 = .ok (.ireturn, 1) := by decide +kernel
theorem dL_law_592 : decode cL_law 592 = .ok (.aload_n 1, 1) := by decide +kernel
theorem dL_law_593 : decode cL_law 593 = .ok (.invokevirtual 88, 3) := by decide +kernel
theorem dL_law_596 : decode cL_law 596 = .ok (.aload_n 2, 1) := by decide +kernel
theorem dL_law_597 : decode cL_law 597 = .ok (.invokevirtual 91, 3) := by decide +kernel
theorem dL_law_600 : decode cL_law 600 = .ok (.if_icmp .eq 114, 3) := by decide +kernel
theorem dL_law_603 : decode cL_law 603 = .ok (.iconst 0, 1) := by decide +kernel
theorem dL_law_604 : decode cL_law 604 = .ok (.ireturn, 1) := by decide +kernel
theorem dL_law_605 : decode cL_law 605 = .ok (.aload_n 1, 1) := by decide +kernel
theorem dL_law_606 : decode cL_law 606 = .ok (.invokevirtual 92, 3) := by decide +kernel
theorem dL_law_609 : decode cL_law 609 = .ok (.aload_n 2, 1) := by decide +kernel
theorem dL_law_610 : decode cL_law 610 = .ok (.invokevirtual 95, 3) := by decide +kernel
theorem dL_law_613 : decode cL_law 613 = .ok (.if_icmp .eq 101, 3) := by decide +kernel
theorem dL_law_616 : decode cL_law 616 = .ok (.iconst 0, 1) := by decide +kernel
theorem dL_law_617 : decode cL_law 617 = .ok (.ireturn, 1) := by decide +kernel
theorem dL_law_618 : decode cL_law 618 = .ok (.aload_n 1, 1) := by decide +kernel
theorem dL_law_619 : decode cL_law 619 = .ok (.invokevirtual 96, 3) := by decide +kernel
theorem dL_law_622 : decode cL_law 622 = .ok (.aload_n 2, 1) := by decide +kernel
theorem dL_law_623 : decode cL_law 623 = .ok (.invokevirtual 99, 3) := by decide +kernel
theorem dL_law_626 : decode cL_law 626 = .ok (.if_icmp .eq 88, 3) := by decide +kernel
theorem dL_law_629 : decode cL_law 629 = .ok (.iconst 0, 1) := by decide +kernel
theorem dL_law_630 : decode cL_law 630 = .ok (.ireturn, 1) := by decide +kernel
theorem dL_law_631 : decode cL_law 631 = .ok (.aload_n 1, 1) := by decide +kernel
theorem dL_law_632 : decode cL_law 632 = .ok (.aload_n 0, 1) := by decide +kernel
theorem dL_law_633 : decode cL_law 633 = .ok (.iload_n 3, 1) := by decide +kernel
theorem dL_law_634 : decode cL_law 634 = .ok (.iconst 1, 1) := by decide +kernel
theorem dL_law_635 : decode cL_law 635 = .ok (.iadd, 1) := by decide +kernel
theorem dL_law_636 : decode cL_law 636 = .ok (.iaload, 1) := by decide +kernel
theorem dL_law_637 : decode cL_law 637 = .ok (.aload_n 0, 1) := by decide +kernel
theorem dL_law_638 : decode cL_law 638 = .ok (.iload_n 3, 1) := by decide +kernel
theorem dL_law_639 : decode cL_law 639 = .ok (.iconst 2, 1) := by decide +kernel
theorem dL_law_640 : decode cL_law 640 = .ok (.iadd, 1) := by decide +kernel
theorem dL_law_641 : decode cL_law 641 = .ok (.iaload, 1) := by decide +kernel
theorem dL_law_642 : decode cL_law 642 = .ok (.invokevirtual 100, 3) := by decide +kernel
theorem dL_law_645 : decode cL_law 645 = .ok (.aload_n 2, 1) := by decide +kernel
theorem dL_law_646 : decode cL_law 646 = .ok (.aload_n 0, 1) := by decide +kernel
theorem dL_law_647 : decode cL_law 647 = .ok (.iload_n 3, 1) := by decide +kernel
theorem dL_law_648 : decode cL_law 648 = .ok (.iconst 1, 1) := by decide +kernel
theorem dL_law_649 : decode cL_law 649 = .ok (.iadd, 1) := by decide +kernel
theorem dL_law_650 : decode cL_law 650 = .ok (.iaload, 1) := by decide +kernel
theorem dL_law_651 : decode cL_law 651 = .ok (.aload_n 0, 1) := by decide +kernel
theorem dL_law_652 : decode cL_law 652 = .ok (.iload_n 3, 1) := by decide +kernel
theorem dL_law_653 : decode cL_law 653 = .ok (.iconst 2, 1) := by decide +kernel
theorem dL_law_654 : decode cL_law 654 = .ok (.iadd, 1) := by decide +kernel
theorem dL_law_655 : decode cL_law 655 = .ok (.iaload, 1) := by decide +kernel
theorem dL_law_656 : decode cL_law 656 = .ok (.invokevirtual 103, 3) := by decide +kernel
theorem dL_law_659 : decode cL_law 659 = .ok (.if_icmp .eq 55, 3) := by decide +kernel
theorem dL_law_662 : decode cL_law 662 = .ok (.iconst 0, 1) := by decide +kernel
theorem dL_law_663 : decode cL_law 663 = .ok (.ireturn, 1) := by decide +kernel
theorem dL_law_664 : decode cL_law 664 = .ok (.aload_n 1, 1) := by decide +kernel
theorem dL_law_665 : decode cL_law 665 = .ok (.invokevirtual 104, 3) := by decide +kernel
theorem dL_law_668 : decode cL_law 668 = .ok (.aload_n 2, 1) := by decide +kernel
theorem dL_law_669 : decode cL_law 669 = .ok (.invokevirtual 107, 3) := by decide +kernel
theorem dL_law_672 : decode cL_law 672 = .ok (.if_icmp .eq 42, 3) := by decide +kernel
theorem dL_law_675 : decode cL_law 675 = .ok (.iconst 0, 1) := by decide +kernel
theorem dL_law_676 : decode cL_law 676 = .ok (.ireturn, 1) := by decide +kernel
theorem dL_law_677 : decode cL_law 677 = .ok (.aload_n 1, 1) := by decide +kernel
theorem dL_law_678 : decode cL_law 678 = .ok (.aload_n 0, 1) := by decide +kernel
theorem dL_law_679 : decode cL_law 679 = .ok (.iload_n 3, 1) := by decide +kernel
theorem dL_law_680 : decode cL_law 680 = .ok (.iconst 1, 1) := by decide +kernel
theorem dL_law_681 : decode cL_law 681 = .ok (.iadd, 1) := by decide +kernel
theorem dL_law_682 : decode cL_law 682 = .ok (.iaload, 1) := by decide +kernel
theorem dL_law_683 : decode cL_law 683 = .ok (.invokevirtual 108, 3) := by decide +kernel
theorem dL_law_686 : decode cL_law 686 = .ok (.aload_n 2, 1) := by decide +kernel
theorem dL_law_687 : decode cL_law 687 = .ok (.aload_n 0, 1) := by decide +kernel
theorem dL_law_688 : decode cL_law 688 = .ok (.iload_n 3, 1) := by decide +kernel
theorem dL_law_689 : decode cL_law 689 = .ok (.iconst 1, 1) := by decide +kernel
theorem dL_law_690 : decode cL_law 690 = .ok (.iadd, 1) := by decide +kernel
theorem dL_law_691 : decode cL_law 691 = .ok (.iaload, 1) := by decide +kernel
theorem dL_law_692 : decode cL_law 692 = .ok (.invokevirtual 111, 3) := by decide +kernel
theorem dL_law_695 : decode cL_law 695 = .ok (.if_icmp .eq 19, 3) := by decide +kernel
theorem dL_law_698 : decode cL_law 698 = .ok (.iconst 0, 1) := by decide +kernel
theorem dL_law_699 : decode cL_law 699 = .ok (.ireturn, 1) := by decide +kernel
theorem dL_law_700 : decode cL_law 700 = .ok (.aload_n 1, 1) := by decide +kernel
theorem dL_law_701 : decode cL_law 701 = .ok (.invokevirtual 112, 3) := by decide +kernel
theorem dL_law_704 : decode cL_law 704 = .ok (.aload_n 2, 1) := by decide +kernel
theorem dL_law_705 : decode cL_law 705 = .ok (.invokevirtual 116, 3) := by decide +kernel
theorem dL_law_708 : decode cL_law 708 = .ok (.lcmp, 1) := by decide +kernel
theorem dL_law_709 : decode cL_law 709 = .ok (.ifCond .eq 5, 3) := by decide +kernel
theorem dL_law_712 : decode cL_law 712 = .ok (.iconst 0, 1) := by decide +kernel
theorem dL_law_713 : decode cL_law 713 = .ok (.ireturn, 1) := by decide +kernel
theorem dL_law_714 : decode cL_law 714 = .ok (.iinc 3 3, 3) := by decide +kernel
theorem dL_law_717 : decode cL_law 717 = .ok (.goto (-699), 3) := by decide +kernel
theorem dL_law_720 : decode cL_law 720 = .ok (.iconst 1, 1) := by decide +kernel
theorem dL_law_721 : decode cL_law 721 = .ok (.ireturn, 1) := by decide +kernel
abbrev vwCl : List vw_C := [(RX0, TX0, 4), (RX1, TX1, 8), (RX2, TX2, 8), (RX3, TX3, 4), (RX4, TX4, 4), (RX5, TX5, 7), (RX6, TX6, 3), (RX7, TX7, 8), (RX8, TX8, 18)]
