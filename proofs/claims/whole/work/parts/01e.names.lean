set_option maxRecDepth 20000 in
theorem gX7_digest_X7_worstAspect : GoodIn wsX7_digest (wsV RX7 179 RX7 yX7_worstAspect wsX7_worstAspect) := goodIn_app (goodIn_of _ (by decide +kernel)) ggX7_digest_X7_worstAspect
set_option maxRecDepth 20000 in
theorem ggX7_digest_X7_averageAspect : GoodIn wsX7_digest wsX7_averageAspect := goodIn_r _ [83, 7, 12, 23, 26, 57, 58, 59, 43, 60, 61, 62, 41, 42, 44, 45, 63, 47, 48, 49, 50, 51, 52, 64, 65, 66, 67, 68, 69, 70, 71, 72, 73, 74, 75, 76, 15, 77, 78, 79, 84, 85, 86, 87, 88, 89, 90, 91, 95, 96, 97, 98, 99, 100, 101, 102, 103, 104, 105, 106, 107, 108, 109, 110, 111, 112, 113] (by decide +kernel) (by decide +kernel)
set_option maxRecDepth 20000 in
theorem gX7_digest_X7_averageAspect : GoodIn wsX7_digest (wsV RX7 182 RX7 yX7_averageAspect wsX7_averageAspect) := goodIn_app (goodIn_of _ (by decide +kernel)) ggX7_digest_X7_averageAspect
theorem dX7_digest_0 : decode cX7_digest 0 = .ok (.ldc2_w 167, 3) := by decide +kernel
theorem dX7_digest_3 : decode cX7_digest 3 = .ok (.lstore_n 1, 1) := by decide +kernel
theorem dX7_digest_4 : decode cX7_digest 4 = .ok (.lload_n 1, 1) := by decide +kernel
theorem dX7_digest_5 : decode cX7_digest 5 = .ok (.aload_n 0, 1) := by decide +kernel
theorem dX7_digest_6 : decode cX7_digest 6 = .ok (.getfield 158, 3) := by decide +kernel
theorem dX7_digest_9 : decode cX7_digest 9 = .ok (.invokestatic 169, 3) := by decide +kernel
theorem dX7_digest_12 : decode cX7_digest 12 = .ok (.lstore_n 1, 1) := by decide +kernel
theorem dX7_digest_13 : decode cX7_digest 13 = .ok (.lload_n 1, 1) := by decide +kernel
theorem dX7_digest_14 : decode cX7_digest 14 = .ok (.aload_n 0, 1) := by decide +kernel
theorem dX7_digest_15 : decode cX7_digest 15 = .ok (.getfield 161, 3) := by decide +kernel
theorem dX7_digest_18 : decode cX7_digest 18 = .ok (.invokestatic 169, 3) := by decide +kernel
theorem dX7_digest_21 : decode cX7_digest 21 = .ok (.lstore_n 1, 1) := by decide +kernel
theorem dX7_digest_22 : decode cX7_digest 22 = .ok (.lload_n 1, 1) := by decide +kernel
theorem dX7_digest_23 : decode cX7_digest 23 = .ok (.aload_n 0, 1) := by decide +kernel
theorem dX7_digest_24 : decode cX7_digest 24 = .ok (.getfield 164, 3) := by decide +kernel
theorem dX7_digest_27 : decode cX7_digest 27 = .ok (.invokestatic 169, 3) := by decide +kernel
theorem dX7_digest_30 : decode cX7_digest 30 = .ok (.lstore_n 1, 1) := by decide +kernel
theorem dX7_digest_31 : decode cX7_digest 31 = .ok (.lload_n 1, 1) := by decide +kernel
theorem dX7_digest_32 : decode cX7_digest 32 = .ok (.aload_n 0, 1) := by decide +kernel
theorem dX7_digest_33 : decode cX7_digest 33 = .ok (.getfield 26, 3) := by decide +kernel
theorem dX7_digest_36 : decode cX7_digest 36 = .ok (.getfield 154, 3) := by decide +kernel
theorem dX7_digest_39 : decode cX7_digest 39 = .ok (.invokestatic 169, 3) := by decide +kernel
theorem dX7_digest_42 : decode cX7_digest 42 = .ok (.lstore_n 1, 1) := by decide +kernel
theorem dX7_digest_43 : decode cX7_digest 43 = .ok (.lload_n 1, 1) := by decide +kernel
theorem dX7_digest_44 : decode cX7_digest 44 = .ok (.aload_n 0, 1) := by decide +kernel
theorem dX7_digest_45 : decode cX7_digest 45 = .ok (.getfield 10, 3) := by decide +kernel
theorem dX7_digest_48 : decode cX7_digest 48 = .ok (.getfield 89, 3) := by decide +kernel
theorem dX7_digest_51 : decode cX7_digest 51 = .ok (.invokestatic 169, 3) := by decide +kernel
theorem dX7_digest_54 : decode cX7_digest 54 = .ok (.lstore_n 1, 1) := by decide +kernel
theorem dX7_digest_55 : decode cX7_digest 55 = .ok (.lload_n 1, 1) := by decide +kernel
theorem dX7_digest_56 : decode cX7_digest 56 = .ok (.aload_n 0, 1) := by decide +kernel
theorem dX7_digest_57 : decode cX7_digest 57 = .ok (.getfield 10, 3) := by decide +kernel
theorem dX7_digest_60 : decode cX7_digest 60 = .ok (.getfield 92, 3) := by decide +kernel
theorem dX7_digest_63 : decode cX7_digest 63 = .ok (.invokestatic 169, 3) := by decide +kernel
theorem dX7_digest_66 : decode cX7_digest 66 = .ok (.lstore_n 1, 1) := by decide +kernel
theorem dX7_digest_67 : decode cX7_digest 67 = .ok (.lload_n 1, 1) := by decide +kernel
theorem dX7_digest_68 : decode cX7_digest 68 = .ok (.aload_n 0, 1) := by decide +kernel
theorem dX7_digest_69 : decode cX7_digest 69 = .ok (.getfield 10, 3) := by decide +kernel
theorem dX7_digest_72 : decode cX7_digest 72 = .ok (.getfield 95, 3) := by decide +kernel
theorem dX7_digest_75 : decode cX7_digest 75 = .ok (.invokestatic 169, 3) := by decide +kernel
theorem dX7_digest_78 : decode cX7_digest 78 = .ok (.lstore_n 1, 1) := by decide +kernel
theorem dX7_digest_79 : decode cX7_digest 79 = .ok (.lload_n 1, 1) := by decide +kernel
theorem dX7_digest_80 : decode cX7_digest 80 = .ok (.aload_n 0, 1) := by decide +kernel
theorem dX7_digest_81 : decode cX7_digest 81 = .ok (.getfield 10, 3) := by decide +kernel
theorem dX7_digest_84 : decode cX7_digest 84 = .ok (.getfield 98, 3) := by decide +kernel
theorem dX7_digest_87 : decode cX7_digest 87 = .ok (.invokestatic 169, 3) := by decide +kernel
theorem dX7_digest_90 : decode cX7_digest 90 = .ok (.lstore_n 1, 1) := by decide +kernel
theorem dX7_digest_91 : decode cX7_digest 91 = .ok (.lload_n 1, 1) := by decide +kernel
theorem dX7_digest_92 : decode cX7_digest 92 = .ok (.aload_n 0, 1) := by decide +kernel
theorem dX7_digest_93 : decode cX7_digest 93 = .ok (.getfield 10, 3) := by decide +kernel
theorem dX7_digest_96 : decode cX7_digest 96 = .ok (.getfield 51, 3) := by decide +kernel
theorem dX7_digest_99 : decode cX7_digest 99 = .ok (.invokestatic 169, 3) := by decide +kernel
theorem dX7_digest_102 : decode cX7_digest 102 = .ok (.lstore_n 1, 1) := by decide +kernel
theorem dX7_digest_103 : decode cX7_digest 103 = .ok (.iconst 0, 1) := by decide +kernel
theorem dX7_digest_104 : decode cX7_digest 104 = .ok (.istore_n 3, 1) := by decide +kernel
theorem dX7_digest_105 : decode cX7_digest 105 = .ok (.iload_n 3, 1) := by decide +kernel
theorem dX7_digest_106 : decode cX7_digest 106 = .ok (.aload_n 0, 1) := by decide +kernel
theorem dX7_digest_107 : decode cX7_digest 107 = .ok (.getfield 10, 3) := by decide +kernel
theorem dX7_digest_110 : decode cX7_digest 110 = .ok (.getfield 51, 3) := by decide +kernel
theorem dX7_digest_113 : decode cX7_digest 113 = .ok (.if_icmp .ge 16, 3) := by decide +kernel
theorem dX7_digest_116 : decode cX7_digest 116 = .ok (.aload_n 0, 1) := by decide +kernel
theorem dX7_digest_117 : decode cX7_digest 117 = .ok (.lload_n 1, 1) := by decide +kernel
theorem dX7_digest_118 : decode cX7_digest 118 = .ok (.iload_n 3, 1) := by decide +kernel
theorem dX7_digest_119 : decode cX7_digest 119 = .ok (.invokevirtual 173, 3) := by decide +kernel
theorem dX7_digest_122 : decode cX7_digest 122 = .ok (.lstore_n 1, 1) := by decide +kernel
theorem dX7_digest_123 : decode cX7_digest 123 = .ok (.iinc 3 1, 3) := by decide +kernel
theorem dX7_digest_126 : decode cX7_digest 126 = .ok (.goto (-21), 3) := by decide +kernel
theorem dX7_digest_129 : decode cX7_digest 129 = .ok (.lload_n 1, 1) := by decide +kernel
theorem dX7_digest_130 : decode cX7_digest 130 = .ok (.aload_n 0, 1) := by decide +kernel
theorem dX7_digest_131 : decode cX7_digest 131 = .ok (.invokevirtual 176, 3) := by decide +kernel
theorem dX7_digest_134 : decode cX7_digest 134 = .ok (.invokestatic 169, 3) := by decide +kernel
theorem dX7_digest_137 : decode cX7_digest 137 = .ok (.lstore_n 1, 1) := by decide +kernel
theorem dX7_digest_138 : decode cX7_digest 138 = .ok (.lload_n 1, 1) := by decide +kernel
theorem dX7_digest_139 : decode cX7_digest 139 = .ok (.aload_n 0, 1) := by decide +kernel
theorem dX7_digest_140 : decode cX7_digest 140 = .ok (.invokevirtual 179, 3) := by decide +kernel
theorem dX7_digest_143 : decode cX7_digest 143 = .ok (.invokestatic 169, 3) := by decide +kernel
theorem dX7_digest_146 : decode cX7_digest 146 = .ok (.lstore_n 1, 1) := by decide +kernel
theorem dX7_digest_147 : decode cX7_digest 147 = .ok (.lload_n 1, 1) := by decide +kernel
theorem dX7_digest_148 : decode cX7_digest 148 = .ok (.aload_n 0, 1) := by decide +kernel
theorem dX7_digest_149 : decode cX7_digest 149 = .ok (.invokevirtual 182, 3) := by decide +kernel
theorem dX7_digest_152 : decode cX7_digest 152 = .ok (.invokestatic 169, 3) := by decide +kernel
theorem dX7_digest_155 : decode cX7_digest 155 = .ok (.lreturn, 1) := by decide +kernel
set_option maxRecDepth 20000 in
theorem ggX7_mixNode_X7_mix : GoodIn wsX7_mixNode wsX7_mix := goodIn_r _ [14, 15] (by decide +kernel) (by decide +kernel)
set_option maxRecDepth 20000 in
theorem gX7_mixNode_X7_mix : GoodIn wsX7_mixNode (va_wsS RX7 169 yX7_mix wsX7_mix) := goodIn_app (goodIn_of _ (by decide +kernel)) ggX7_mixNode_X7_mix
set_option maxRecDepth 20000 in
theorem ggX7_mixNode_X7_hiddenFlag : GoodIn wsX7_mixNode wsX7_hiddenFlag := goodIn_r _ [19, 3, 20, 21, 22, 23, 24, 25, 26, 27, 28, 36, 37, 38, 39, 40, 41, 42, 43] (by decide +kernel) (by decide +kernel)
set_option maxRecDepth 20000 in
theorem gX7_mixNode_X7_hiddenFlag : GoodIn wsX7_mixNode (wsV RX7 125 RX7 yX7_hiddenFlag wsX7_hiddenFlag) := goodIn_app (goodIn_of _ (by decide +kernel)) ggX7_mixNode_X7_hiddenFlag
theorem dX7_mixNode_0 : decode cX7_mixNode 0 = .ok (.lload_n 1, 1) := by decide +kernel
theorem dX7_mixNode_1 : decode cX7_mixNode 1 = .ok (.aload_n 0, 1) := by decide +kernel
theorem dX7_mixNode_2 : decode cX7_mixNode 2 = .ok (.getfield 10, 3) := by decide +kernel
theorem dX7_mixNode_5 : decode cX7_mixNode 5 = .ok (.getfield 65, 3) := by decide +kernel
theorem dX7_mixNode_8 : decode cX7_mixNode 8 = .ok (.iload_n 3, 1) := by decide +kernel
theorem dX7_mixNode_9 : decode cX7_mixNode 9 = .ok (.iaload, 1) := by decide +kernel
theorem dX7_mixNode_10 : decode cX7_mixNode 10 = .ok (.invokestatic 169, 3) := by decide +kernel
theorem dX7_mixNode_13 : decode cX7_mixNode 13 = .ok (.lstore 4, 2) := by decide +kernel
theorem dX7_mixNode_15 : decode cX7_mixNode 15 = .ok (.lload 4, 2) := by decide +kernel
theorem dX7_mixNode_17 : decode cX7_mixNode 17 = .ok (.aload_n 0, 1) := by decide +kernel
theorem dX7_mixNode_18 : decode cX7_mixNode 18 = .ok (.getfield 19, 3) := by decide +kernel
theorem dX7_mixNode_21 : decode cX7_mixNode 21 = .ok (.getfield 101, 3) := by decide +kernel
theorem dX7_mixNode_24 : decode cX7_mixNode 24 = .ok (.iload_n 3, 1) := by decide +kernel
theorem dX7_mixNode_25 : decode cX7_mixNode 25 = .ok (.iaload, 1) := by decide +kernel
theorem dX7_mixNode_26 : decode cX7_mixNode 26 = .ok (.invokestatic 169, 3) := by decide +kernel
theorem dX7_mixNode_29 : decode cX7_mixNode 29 = .ok (.lstore 4, 2) := by decide +kernel
theorem dX7_mixNode_31 : decode cX7_mixNode 31 = .ok (.lload 4, 2) := by decide +kernel
theorem dX7_mixNode_33 : decode cX7_mixNode 33 = .ok (.aload_n 0, 1) := by decide +kernel
theorem dX7_mixNode_34 : decode cX7_mixNode 34 = .ok (.getfield 10, 3) := by decide +kernel
theorem dX7_mixNode_37 : decode cX7_mixNode 37 = .ok (.getfield 83, 3) := by decide +kernel
theorem dX7_mixNode_40 : decode cX7_mixNode 40 = .ok (.iload_n 3, 1) := by decide +kernel
theorem dX7_mixNode_41 : decode cX7_mixNode 41 = .ok (.iaload, 1) := by decide +kernel
theorem dX7_mixNode_42 : decode cX7_mixNode 42 = .ok (.invokestatic 169, 3) := by decide +kernel
theorem dX7_mixNode_45 : decode cX7_mixNode 45 = .ok (.lstore 4, 2) := by decide +kernel
theorem dX7_mixNode_47 : decode cX7_mixNode 47 = .ok (.lload 4, 2) := by decide +kernel
theorem dX7_mixNode_49 : decode cX7_mixNode 49 = .ok (.aload_n 0, 1) := by decide +kernel
theorem dX7_mixNode_50 : decode cX7_mixNode 50 = .ok (.getfield 19, 3) := by decide +kernel
theorem dX7_mixNode_53 : decode cX7_mixNode 53 = .ok (.getfield 107, 3) := by decide +kernel
theorem dX7_mixNode_56 : decode cX7_mixNode 56 = .ok (.getfield 111, 3) := by decide +kernel
theorem dX7_mixNode_59 : decode cX7_mixNode 59 = .ok (.iload_n 3, 1) := by decide +kernel
theorem dX7_mixNode_60 : decode cX7_mixNode 60 = .ok (.iaload, 1) := by decide +kernel
theorem dX7_mixNode_61 : decode cX7_mixNode 61 = .ok (.invokestatic 169, 3) := by decide +kernel
theorem dX7_mixNode_64 : decode cX7_mixNode 64 = .ok (.lstore 4, 2) := by decide +kernel
theorem dX7_mixNode_66 : decode cX7_mixNode 66 = .ok (.lload 4, 2) := by decide +kernel
theorem dX7_mixNode_68 : decode cX7_mixNode 68 = .ok (.aload_n 0, 1) := by decide +kernel
theorem dX7_mixNode_69 : decode cX7_mixNode 69 = .ok (.getfield 19, 3) := by decide +kernel
theorem dX7_mixNode_72 : decode cX7_mixNode 72 = .ok (.getfield 107, 3) := by decide +kernel
theorem dX7_mixNode_75 : decode cX7_mixNode 75 = .ok (.getfield 116, 3) := by decide +kernel
theorem dX7_mixNode_78 : decode cX7_mixNode 78 = .ok (.iload_n 3, 1) := by decide +kernel
theorem dX7_mixNode_79 : decode cX7_mixNode 79 = .ok (.iaload, 1) := by decide +kernel
theorem dX7_mixNode_80 : decode cX7_mixNode 80 = .ok (.invokestatic 169, 3) := by decide +kernel
theorem dX7_mixNode_83 : decode cX7_mixNode 83 = .ok (.lstore 4, 2) := by decide +kernel
theorem dX7_mixNode_85 : decode cX7_mixNode 85 = .ok (.lload 4, 2) := by decide +kernel
theorem dX7_mixNode_87 : decode cX7_mixNode 87 = .ok (.aload_n 0, 1) := by decide +kernel
theorem dX7_mixNode_88 : decode cX7_mixNode 88 = .ok (.getfield 19, 3) := by decide +kernel
theorem dX7_mixNode_91 : decode cX7_mixNode 91 = .ok (.getfield 107, 3) := by decide +kernel
theorem dX7_mixNode_94 : decode cX7_mixNode 94 = .ok (.getfield 119, 3) := by decide +kernel
theorem dX7_mixNode_97 : decode cX7_mixNode 97 = .ok (.iload_n 3, 1) := by decide +kernel
theorem dX7_mixNode_98 : decode cX7_mixNode 98 = .ok (.iaload, 1) := by decide +kernel
theorem dX7_mixNode_99 : decode cX7_mixNode 99 = .ok (.invokestatic 169, 3) := by decide +kernel
theorem dX7_mixNode_102 : decode cX7_mixNode 102 = .ok (.lstore 4, 2) := by decide +kernel
theorem dX7_mixNode_104 : decode cX7_mixNode 104 = .ok (.lload 4, 2) := by decide +kernel
theorem dX7_mixNode_106 : decode cX7_mixNode 106 = .ok (.aload_n 0, 1) := by decide +kernel
theorem dX7_mixNode_107 : decode cX7_mixNode 107 = .ok (.getfield 19, 3) := by decide +kernel
theorem dX7_mixNode_110 : decode cX7_mixNode 110 = .ok (.getfield 107, 3) := by decide +kernel
theorem dX7_mixNode_113 : decode cX7_mixNode 113 = .ok (.getfield 122, 3) := by decide +kernel
theorem dX7_mixNode_116 : decode cX7_mixNode 116 = .ok (.iload_n 3, 1) := by decide +kernel
theorem dX7_mixNode_117 : decode cX7_mixNode 117 = .ok (.iaload, 1) := by decide +kernel
theorem dX7_mixNode_118 : decode cX7_mixNode 118 = .ok (.invokestatic 169, 3) := by decide +kernel
theorem dX7_mixNode_121 : decode cX7_mixNode 121 = .ok (.lstore 4, 2) := by decide +kernel
theorem dX7_mixNode_123 : decode cX7_mixNode 123 = .ok (.lload 4, 2) := by decide +kernel
theorem dX7_mixNode_125 : decode cX7_mixNode 125 = .ok (.aload_n 0, 1) := by decide +kernel
theorem dX7_mixNode_126 : decode cX7_mixNode 126 = .ok (.iload_n 3, 1) := by decide +kernel
theorem dX7_mixNode_127 : decode cX7_mixNode 127 = .ok (.invokevirtual 125, 3) := by decide +kernel
theorem dX7_mixNode_130 : decode cX7_mixNode 130 = .ok (.invokestatic 169, 3) := by decide +kernel
theorem dX7_mixNode_133 : decode cX7_mixNode 133 = .ok (.lreturn, 1) := by decide +kernel
theorem dX7_mix_0 : decode cX7_mix 0 = .ok (.ldc2_w 185, 3) := by decide +kernel
theorem dX7_mix_3 : decode cX7_mix 3 = .ok (.lload_n 0, 1) := by decide +kernel
theorem dX7_mix_4 : decode cX7_mix 4 = .ok (.lmul, 1) := by decide +kernel
theorem dX7_mix_5 : decode cX7_mix 5 = .ok (.iload_n 2, 1) := by decide +kernel
theorem dX7_mix_6 : decode cX7_mix 6 = .ok (.i2l, 1) := by decide +kernel
theorem dX7_mix_7 : decode cX7_mix 7 = .ok (.ladd, 1) := by decide +kernel
theorem dX7_mix_8 : decode cX7_mix 8 = .ok (.lreturn, 1) := by decide +kernel
theorem dX7_hiddenFlag_0 : decode cX7_hiddenFlag 0 = .ok (.aload_n 0, 1) := by decide +kernel
theorem dX7_hiddenFlag_1 : decode cX7_hiddenFlag 1 = .ok (.getfield 19, 3) := by decide +kernel
theorem dX7_hiddenFlag_4 : decode cX7_hiddenFlag 4 = .ok (.getfield 187, 3) := by decide +kernel
theorem dX7_hiddenFlag_7 : decode cX7_hiddenFlag 7 = .ok (.iload_n 1, 1) := by decide +kernel
theorem dX7_hiddenFlag_8 : decode cX7_hiddenFlag 8 = .ok (.baload, 1) := by decide +kernel
theorem dX7_hiddenFlag_9 : decode cX7_hiddenFlag 9 = .ok (.ifCond .eq 7, 3) := by decide +kernel
theorem dX7_hiddenFlag_12 : decode cX7_hiddenFlag 12 = .ok (.iconst 1, 1) := by decide +kernel
theorem dX7_hiddenFlag_13 : decode cX7_hiddenFlag 13 = .ok (.goto 4, 3) := by decide +kernel
theorem dX7_hiddenFlag_16 : decode cX7_hiddenFlag 16 = .ok (.iconst 0, 1) := by decide +kernel
theorem dX7_hiddenFlag_17 : decode cX7_hiddenFlag 17 = .ok (.ireturn, 1) := by decide +kernel
theorem dX7_failInvalid_0 : decode cX7_failInvalid 0 = .ok (.aload_n 0, 1) := by decide +kernel
theorem dX7_failInvalid_1 : decode cX7_failInvalid 1 = .ok (.dup, 1) := by decide +kernel
theorem dX7_failInvalid_2 : decode cX7_failInvalid 2 = .ok (.getfield 158, 3) := by decide +kernel
theorem dX7_failInvalid_5 : decode cX7_failInvalid 5 = .ok (.iconst 1, 1) := by decide +kernel
theorem dX7_failInvalid_6 : decode cX7_failInvalid 6 = .ok (.iadd, 1) := by decide +kernel
theorem dX7_failInvalid_7 : decode cX7_failInvalid 7 = .ok (.putfield 158, 3) := by decide +kernel
theorem dX7_failInvalid_10 : decode cX7_failInvalid 10 = .ok (.bipush (-2), 2) := by decide +kernel
theorem dX7_failInvalid_12 : decode cX7_failInvalid 12 = .ok (.ireturn, 1) := by decide +kernel
theorem dX7_failRejected_0 : decode cX7_failRejected 0 = .ok (.aload_n 0, 1) := by decide +kernel
theorem dX7_failRejected_1 : decode cX7_failRejected 1 = .ok (.dup, 1) := by decide +kernel
theorem dX7_failRejected_2 : decode cX7_failRejected 2 = .ok (.getfield 161, 3) := by decide +kernel
theorem dX7_failRejected_5 : decode cX7_failRejected 5 = .ok (.iconst 1, 1) := by decide +kernel
theorem dX7_failRejected_6 : decode cX7_failRejected 6 = .ok (.iadd, 1) := by decide +kernel
theorem dX7_failRejected_7 : decode cX7_failRejected 7 = .ok (.putfield 161, 3) := by decide +kernel
theorem dX7_failRejected_10 : decode cX7_failRejected 10 = .ok (.bipush (-3), 2) := by decide +kernel
theorem dX7_failRejected_12 : decode cX7_failRejected 12 = .ok (.ireturn, 1) := by decide +kernel
theorem dX7_failFull_0 : decode cX7_failFull 0 = .ok (.aload_n 0, 1) := by decide +kernel
theorem dX7_failFull_1 : decode cX7_failFull 1 = .ok (.dup, 1) := by decide +kernel
theorem dX7_failFull_2 : decode cX7_failFull 2 = .ok (.getfield 164, 3) := by decide +kernel
theorem dX7_failFull_5 : decode cX7_failFull 5 = .ok (.iconst 1, 1) := by decide +kernel
theorem dX7_failFull_6 : decode cX7_failFull 6 = .ok (.iadd, 1) := by decide +kernel
theorem dX7_failFull_7 : decode cX7_failFull 7 = .ok (.putfield 164, 3) := by decide +kernel
theorem dX7_failFull_10 : decode cX7_failFull 10 = .ok (.bipush (-4), 2) := by decide +kernel
theorem dX7_failFull_12 : decode cX7_failFull 12 = .ok (.ireturn, 1) := by decide +kernel
theorem dX7_isSize_0 : decode cX7_isSize 0 = .ok (.iload_n 0, 1) := by decide +kernel
theorem dX7_isSize_1 : decode cX7_isSize 1 = .ok (.iconst 1, 1) := by decide +kernel
theorem dX7_isSize_2 : decode cX7_isSize 2 = .ok (.if_icmp .lt 13, 3) := by decide +kernel
theorem dX7_isSize_5 : decode cX7_isSize 5 = .ok (.iload_n 0, 1) := by decide +kernel
theorem dX7_isSize_6 : decode cX7_isSize 6 = .ok (.bipush 99, 2) := by decide +kernel
theorem dX7_isSize_8 : decode cX7_isSize 8 = .ok (.if_icmp .gt 7, 3) := by decide +kernel
theorem dX7_isSize_11 : decode cX7_isSize 11 = .ok (.iconst 1, 1) := by decide +kernel
theorem dX7_isSize_12 : decode cX7_isSize 12 = .ok (.goto 4, 3) := by decide +kernel
theorem dX7_isSize_15 : decode cX7_isSize 15 = .ok (.iconst 0, 1) := by decide +kernel
theorem dX7_isSize_16 : decode cX7_isSize 16 = .ok (.ireturn, 1) := by decide +kernel
theorem dX7_isSide_0 : decode cX7_isSide 0 = .ok (.iload_n 0, 1) := by decide +kernel
theorem dX7_isSide_1 : decode cX7_isSide 1 = .ok (.iconst 1, 1) := by decide +kernel
theorem dX7_isSide_2 : decode cX7_isSide 2 = .ok (.if_icmp .lt 14, 3) := by decide +kernel
theorem dX7_isSide_5 : decode cX7_isSide 5 = .ok (.iload_n 0, 1) := by decide +kernel
theorem dX7_isSide_6 : decode cX7_isSide 6 = .ok (.sipush 200, 3) := by decide +kernel
theorem dX7_isSide_9 : decode cX7_isSide 9 = .ok (.if_icmp .gt 7, 3) := by decide +kernel
theorem dX7_isSide_12 : decode cX7_isSide 12 = .ok (.iconst 1, 1) := by decide +kernel
theorem dX7_isSide_13 : decode cX7_isSide 13 = .ok (.goto 4, 3) := by decide +kernel
theorem dX7_isSide_16 : decode cX7_isSide 16 = .ok (.iconst 0, 1) := by decide +kernel
theorem dX7_isSide_17 : decode cX7_isSide 17 = .ok (.ireturn, 1) := by decide +kernel
theorem dX7_floatBits_0 : decode cX7_floatBits 0 = .ok (.fload_n 0, 1) := by decide +kernel
theorem dX7_floatBits_1 : decode cX7_floatBits 1 = .ok (.fstore_n 1, 1) := by decide +kernel
theorem dX7_floatBits_2 : decode cX7_floatBits 2 = .ok (.iconst 0, 1) := by decide +kernel
theorem dX7_floatBits_3 : decode cX7_floatBits 3 = .ok (.istore_n 2, 1) := by decide +kernel
theorem dX7_floatBits_4 : decode cX7_floatBits 4 = .ok (.fload_n 1, 1) := by decide +kernel
theorem dX7_floatBits_5 : decode cX7_floatBits 5 = .ok (.fconst 2, 1) := by decide +kernel
theorem dX7_floatBits_6 : decode cX7_floatBits 6 = .ok (.fcmp .l, 1) := by decide +kernel
theorem dX7_floatBits_7 : decode cX7_floatBits 7 = .ok (.ifCond .lt 19, 3) := by decide +kernel
theorem dX7_floatBits_10 : decode cX7_floatBits 10 = .ok (.iload_n 2, 1) := by decide +kernel
theorem dX7_floatBits_11 : decode cX7_floatBits 11 = .ok (.bipush 127, 2) := by decide +kernel
theorem dX7_floatBits_13 : decode cX7_floatBits 13 = .ok (.if_icmp .ge 13, 3) := by decide +kernel
theorem dX7_floatBits_16 : decode cX7_floatBits 16 = .ok (.fload_n 1, 1) := by decide +kernel
theorem dX7_floatBits_17 : decode cX7_floatBits 17 = .ok (.fconst 2, 1) := by decide +kernel
theorem dX7_floatBits_18 : decode cX7_floatBits 18 = .ok (.fdiv, 1) := by decide +kernel
theorem dX7_floatBits_19 : decode cX7_floatBits 19 = .ok (.fstore_n 1, 1) := by decide +kernel
theorem dX7_floatBits_20 : decode cX7_floatBits 20 = .ok (.iinc 2 1, 3) := by decide +kernel
theorem dX7_floatBits_23 : decode cX7_floatBits 23 = .ok (.goto (-19), 3) := by decide +kernel
theorem dX7_floatBits_26 : decode cX7_floatBits 26 = .ok (.fload_n 1, 1) := by decide +kernel
theorem dX7_floatBits_27 : decode cX7_floatBits 27 = .ok (.ldc 191, 2) := by decide +kernel
theorem dX7_floatBits_29 : decode cX7_floatBits 29 = .ok (.fmul, 1) := by decide +kernel
theorem dX7_floatBits_30 : decode cX7_floatBits 30 = .ok (.f2i, 1) := by decide +kernel
theorem dX7_floatBits_31 : decode cX7_floatBits 31 = .ok (.ldc 192, 2) := by decide +kernel
theorem dX7_floatBits_33 : decode cX7_floatBits 33 = .ok (.isub, 1) := by decide +kernel
theorem dX7_floatBits_34 : decode cX7_floatBits 34 = .ok (.istore_n 3, 1) := by decide +kernel
theorem dX7_floatBits_35 : decode cX7_floatBits 35 = .ok (.bipush 127, 2) := by decide +kernel
theorem dX7_floatBits_37 : decode cX7_floatBits 37 = .ok (.iload_n 2, 1) := by decide +kernel
theorem dX7_floatBits_38 : decode cX7_floatBits 38 = .ok (.iadd, 1) := by decide +kernel
theorem dX7_floatBits_39 : decode cX7_floatBits 39 = .ok (.bipush 23, 2) := by decide +kernel
theorem dX7_floatBits_41 : decode cX7_floatBits 41 = .ok (.ishl, 1) := by decide +kernel
theorem dX7_floatBits_42 : decode cX7_floatBits 42 = .ok (.iload_n 3, 1) := by decide +kernel
theorem dX7_floatBits_43 : decode cX7_floatBits 43 = .ok (.iadd, 1) := by decide +kernel
theorem dX7_floatBits_44 : decode cX7_floatBits 44 = .ok (.ireturn, 1) := by decide +kernel
theorem dX8_init_0 : decode cX8_init 0 = .ok (.aload_n 0, 1) := by decide +kernel
theorem dX8_init_1 : decode cX8_init 1 = .ok (.invokespecial 1, 3) := by decide +kernel
theorem dX8_init_4 : decode cX8_init 4 = .ok (.aload_n 0, 1) := by decide +kernel
theorem dX8_init_5 : decode cX8_init 5 = .ok (.bipush 53, 2) := by decide +kernel
theorem dX8_init_7 : decode cX8_init 7 = .ok (.newarray .int, 2) := by decide +kernel
theorem dX8_init_9 : decode cX8_init 9 = .ok (.putfield 7, 3) := by decide +kernel
theorem dX8_init_12 : decode cX8_init 12 = .ok (.aload_n 0, 1) := by decide +kernel
theorem dX8_init_13 : decode cX8_init 13 = .ok (.sipush 212, 3) := by decide +kernel
theorem dX8_init_16 : decode cX8_init 16 = .ok (.newarray .int, 2) := by decide +kernel
theorem dX8_init_18 : decode cX8_init 18 = .ok (.putfield 13, 3) := by decide +kernel
theorem dX8_init_21 : decode cX8_init 21 = .ok (.aload_n 0, 1) := by decide +kernel
theorem dX8_init_22 : decode cX8_init 22 = .ok (.iconst 3, 1) := by decide +kernel
theorem dX8_init_23 : decode cX8_init 23 = .ok (.newarray .int, 2) := by decide +kernel
theorem dX8_init_25 : decode cX8_init 25 = .ok (.putfield 16, 3) := by decide +kernel
theorem dX8_init_28 : decode cX8_init 28 = .ok (.aload_n 0, 1) := by decide +kernel
theorem dX8_init_29 : decode cX8_init 29 = .ok (.bipush 24, 2) := by decide +kernel
theorem dX8_init_31 : decode cX8_init 31 = .ok (.newarray .int, 2) := by decide +kernel
theorem dX8_init_33 : decode cX8_init 33 = .ok (.putfield 19, 3) := by decide +kernel
theorem dX8_init_36 : decode cX8_init 36 = .ok (.aload_n 0, 1) := by decide +kernel
theorem dX8_init_37 : decode cX8_init 37 = .ok (.bipush 24, 2) := by decide +kernel
theorem dX8_init_39 : decode cX8_init 39 = .ok (.newarray .int, 2) := by decide +kernel
theorem dX8_init_41 : decode cX8_init 41 = .ok (.putfield 22, 3) := by decide +kernel
theorem dX8_init_44 : decode cX8_init 44 = .ok (.aload_n 0, 1) := by decide +kernel
theorem dX8_init_45 : decode cX8_init 45 = .ok (.bipush 24, 2) := by decide +kernel
theorem dX8_init_47 : decode cX8_init 47 = .ok (.newarray .int, 2) := by decide +kernel
theorem dX8_init_49 : decode cX8_init 49 = .ok (.putfield 25, 3) := by decide +kernel
theorem dX8_init_52 : decode cX8_init 52 = .ok (.aload_n 0, 1) := by decide +kernel
theorem dX8_init_53 : decode cX8_init 53 = .ok (.bipush 24, 2) := by decide +kernel
theorem dX8_init_55 : decode cX8_init 55 = .ok (.newarray .int, 2) := by decide +kernel
theorem dX8_init_57 : decode cX8_init 57 = .ok (.putfield 28, 3) := by decide +kernel
theorem dX8_init_60 : decode cX8_init 60 = .ok (.aload_n 0, 1) := by decide +kernel
theorem dX8_init_61 : decode cX8_init 61 = .ok (.bipush 24, 2) := by decide +kernel
theorem dX8_init_63 : decode cX8_init 63 = .ok (.newarray .int, 2) := by decide +kernel
theorem dX8_init_65 : decode cX8_init 65 = .ok (.putfield 31, 3) := by decide +kernel
theorem dX8_init_68 : decode cX8_init 68 = .ok (.aload_n 0, 1) := by decide +kernel
theorem dX8_init_69 : decode cX8_init 69 = .ok (.bipush 24, 2) := by decide +kernel
theorem dX8_init_71 : decode cX8_init 71 = .ok (.newarray .int, 2) := by decide +kernel
theorem dX8_init_73 : decode cX8_init 73 = .ok (.putfield 34, 3) := by decide +kernel
theorem dX8_init_76 : decode cX8_init 76 = .ok (.aload_n 0, 1) := by decide +kernel
theorem dX8_init_77 : decode cX8_init 77 = .ok (.bipush 24, 2) := by decide +kernel
theorem dX8_init_79 : decode cX8_init 79 = .ok (.newarray .boolean, 2) := by decide +kernel
theorem dX8_init_81 : decode cX8_init 81 = .ok (.putfield 37, 3) := by decide +kernel
theorem dX8_init_84 : decode cX8_init 84 = .ok (.aload_n 0, 1) := by decide +kernel
theorem dX8_init_85 : decode cX8_init 85 = .ok (.bipush 24, 2) := by decide +kernel
theorem dX8_init_87 : decode cX8_init 87 = .ok (.newarray .int, 2) := by decide +kernel
theorem dX8_init_89 : decode cX8_init 89 = .ok (.putfield 41, 3) := by decide +kernel
theorem dX8_init_92 : decode cX8_init 92 = .ok (.aload_n 0, 1) := by decide +kernel
theorem dX8_init_93 : decode cX8_init 93 = .ok (.bipush 24, 2) := by decide +kernel
theorem dX8_init_95 : decode cX8_init 95 = .ok (.newarray .int, 2) := by decide +kernel
theorem dX8_init_97 : decode cX8_init 97 = .ok (.putfield 44, 3) := by decide +kernel
theorem dX8_init_100 : decode cX8_init 100 = .ok (.aload_n 0, 1) := by decide +kernel
theorem dX8_init_101 : decode cX8_init 101 = .ok (.bipush 25, 2) := by decide +kernel
theorem dX8_init_103 : decode cX8_init 103 = .ok (.newarray .int, 2) := by decide +kernel
theorem dX8_init_105 : decode cX8_init 105 = .ok (.putfield 47, 3) := by decide +kernel
theorem dX8_init_108 : decode cX8_init 108 = .ok (.aload_n 0, 1) := by decide +kernel
theorem dX8_init_109 : decode cX8_init 109 = .ok (.bipush 24, 2) := by decide +kernel
theorem dX8_init_111 : decode cX8_init 111 = .ok (.newarray .int, 2) := by decide +kernel
theorem dX8_init_113 : decode cX8_init 113 = .ok (.putfield 50, 3) := by decide +kernel
theorem dX8_init_116 : decode cX8_init 116 = .ok (.aload_n 0, 1) := by decide +kernel
theorem dX8_init_117 : decode cX8_init 117 = .ok (.bipush 96, 2) := by decide +kernel
theorem dX8_init_119 : decode cX8_init 119 = .ok (.newarray .int, 2) := by decide +kernel
theorem dX8_init_121 : decode cX8_init 121 = .ok (.putfield 53, 3) := by decide +kernel
theorem dX8_init_124 : decode cX8_init 124 = .ok (.aload_n 0, 1) := by decide +kernel
theorem dX8_init_125 : decode cX8_init 125 = .ok (.getfield 7, 3) := by decide +kernel
theorem dX8_init_128 : decode cX8_init 128 = .ok (.iconst 0, 1) := by decide +kernel
theorem dX8_init_129 : decode cX8_init 129 = .ok (.iconst 1, 1) := by decide +kernel
theorem dX8_init_130 : decode cX8_init 130 = .ok (.iastore, 1) := by decide +kernel
theorem dX8_init_131 : decode cX8_init 131 = .ok (.aload_n 0, 1) := by decide +kernel
theorem dX8_init_132 : decode cX8_init 132 = .ok (.getfield 7, 3) := by decide +kernel
theorem dX8_init_135 : decode cX8_init 135 = .ok (.iconst 1, 1) := by decide +kernel
theorem dX8_init_136 : decode cX8_init 136 = .ok (.bipush 100, 2) := by decide +kernel
theorem dX8_init_138 : decode cX8_init 138 = .ok (.iastore, 1) := by decide +kernel
theorem dX8_init_139 : decode cX8_init 139 = .ok (.aload_n 0, 1) := by decide +kernel
theorem dX8_init_140 : decode cX8_init 140 = .ok (.getfield 7, 3) := by decide +kernel
theorem dX8_init_143 : decode cX8_init 143 = .ok (.iconst 2, 1) := by decide +kernel
theorem dX8_init_144 : decode cX8_init 144 = .ok (.bipush 60, 2) := by decide +kernel
theorem dX8_init_146 : decode cX8_init 146 = .ok (.iastore, 1) := by decide +kernel
theorem dX8_init_147 : decode cX8_init 147 = .ok (.aload_n 0, 1) := by decide +kernel
theorem dX8_init_148 : decode cX8_init 148 = .ok (.getfield 7, 3) := by decide +kernel
theorem dX8_init_151 : decode cX8_init 151 = .ok (.iconst 4, 1) := by decide +kernel
theorem dX8_init_152 : decode cX8_init 152 = .ok (.iconst 1, 1) := by decide +kernel
theorem dX8_init_153 : decode cX8_init 153 = .ok (.iastore, 1) := by decide +kernel
theorem dX8_init_154 : decode cX8_init 154 = .ok (.aload_n 0, 1) := by decide +kernel
theorem dX8_init_155 : decode cX8_init 155 = .ok (.getfield 7, 3) := by decide +kernel
theorem dX8_init_158 : decode cX8_init 158 = .ok (.iconst 5, 1) := by decide +kernel
theorem dX8_init_159 : decode cX8_init 159 = .ok (.iconst 1, 1) := by decide +kernel
theorem dX8_init_160 : decode cX8_init 160 = .ok (.iastore, 1) := by decide +kernel
theorem dX8_init_161 : decode cX8_init 161 = .ok (.aload_n 0, 1) := by decide +kernel
theorem dX8_init_162 : decode cX8_init 162 = .ok (.getfield 7, 3) := by decide +kernel
theorem dX8_init_165 : decode cX8_init 165 = .ok (.bipush 29, 2) := by decide +kernel
theorem dX8_init_167 : decode cX8_init 167 = .ok (.iconst (-1), 1) := by decide +kernel
theorem dX8_init_168 : decode cX8_init 168 = .ok (.iastore, 1) := by decide +kernel
theorem dX8_init_169 : decode cX8_init 169 = .ok (.return_, 1) := by decide +kernel
theorem dX8_within_0 : decode cX8_within 0 = .ok (.iload_n 0, 1) := by decide +kernel
theorem dX8_within_1 : decode cX8_within 1 = .ok (.iload_n 1, 1) := by decide +kernel
theorem dX8_within_2 : decode cX8_within 2 = .ok (.if_icmp .lt 12, 3) := by decide +kernel
theorem dX8_within_5 : decode cX8_within 5 = .ok (.iload_n 0, 1) := by decide +kernel
theorem dX8_within_6 : decode cX8_within 6 = .ok (.iload_n 2, 1) := by decide +kernel
theorem dX8_within_7 : decode cX8_within 7 = .ok (.if_icmp .gt 7, 3) := by decide +kernel
theorem dX8_within_10 : decode cX8_within 10 = .ok (.iconst 1, 1) := by decide +kernel
theorem dX8_within_11 : decode cX8_within 11 = .ok (.goto 4, 3) := by decide +kernel
theorem dX8_within_14 : decode cX8_within 14 = .ok (.iconst 0, 1) := by decide +kernel
theorem dX8_within_15 : decode cX8_within 15 = .ok (.ireturn, 1) := by decide +kernel
theorem dX8_fails_0 : decode cX8_fails 0 = .ok (.aload_n 0, 1) := by decide +kernel
theorem dX8_fails_1 : decode cX8_fails 1 = .ok (.getfield 16, 3) := by decide +kernel
theorem dX8_fails_4 : decode cX8_fails 4 = .ok (.bipush (-2), 2) := by decide +kernel
theorem dX8_fails_6 : decode cX8_fails 6 = .ok (.iload_n 1, 1) := by decide +kernel
theorem dX8_fails_7 : decode cX8_fails 7 = .ok (.isub, 1) := by decide +kernel
theorem dX8_fails_8 : decode cX8_fails 8 = .ok (.dup2, 1) := by decide +kernel
theorem dX8_fails_9 : decode cX8_fails 9 = .ok (.iaload, 1) := by decide +kernel
theorem dX8_fails_10 : decode cX8_fails 10 = .ok (.iconst 1, 1) := by decide +kernel
theorem dX8_fails_11 : decode cX8_fails 11 = .ok (.iadd, 1) := by decide +kernel
theorem dX8_fails_12 : decode cX8_fails 12 = .ok (.iastore, 1) := by decide +kernel
theorem dX8_fails_13 : decode cX8_fails 13 = .ok (.iload_n 1, 1) := by decide +kernel
theorem dX8_fails_14 : decode cX8_fails 14 = .ok (.ireturn, 1) := by decide +kernel
set_option maxRecDepth 20000 in
theorem ggX8_isNode_X8_within : GoodIn wsX8_isNode wsX8_within := goodIn_r _ [5] (by decide +kernel) (by decide +kernel)
set_option maxRecDepth 20000 in
theorem gX8_isNode_X8_within : GoodIn wsX8_isNode (va_wsS RX8 56 yX8_within wsX8_within) := goodIn_app (goodIn_of _ (by decide +kernel)) ggX8_isNode_X8_within
theorem dX8_isNode_0 : decode cX8_isNode 0 = .ok (.iload_n 1, 1) := by decide +kernel
theorem dX8_isNode_1 : decode cX8_isNode 1 = .ok (.iconst 0, 1) := by decide +kernel
theorem dX8_isNode_2 : decode cX8_isNode 2 = .ok (.aload_n 0, 1) := by decide +kernel
theorem dX8_isNode_3 : decode cX8_isNode 3 = .ok (.getfield 7, 3) := by decide +kernel
theorem dX8_isNode_6 : decode cX8_isNode 6 = .ok (.iconst 0, 1) := by decide +kernel
theorem dX8_isNode_7 : decode cX8_isNode 7 = .ok (.iaload, 1) := by decide +kernel
theorem dX8_isNode_8 : decode cX8_isNode 8 = .ok (.iconst 1, 1) := by decide +kernel
theorem dX8_isNode_9 : decode cX8_isNode 9 = .ok (.isub, 1) := by decide +kernel
theorem dX8_isNode_10 : decode cX8_isNode 10 = .ok (.invokestatic 56, 3) := by decide +kernel
theorem dX8_isNode_13 : decode cX8_isNode 13 = .ok (.ireturn, 1) := by decide +kernel
theorem dX8_saves_0 : decode cX8_saves 0 = .ok (.aload_n 0, 1) := by decide +kernel
theorem dX8_saves_1 : decode cX8_saves 1 = .ok (.getfield 60, 3) := by decide +kernel
theorem dX8_saves_4 : decode cX8_saves 4 = .ok (.iconst 4, 1) := by decide +kernel
theorem dX8_saves_5 : decode cX8_saves 5 = .ok (.if_icmp .ne 43, 3) := by decide +kernel
theorem dX8_saves_8 : decode cX8_saves 8 = .ok (.iconst 0, 1) := by decide +kernel
theorem dX8_saves_9 : decode cX8_saves 9 = .ok (.istore_n 1, 1) := by decide +kernel
theorem dX8_saves_10 : decode cX8_saves 10 = .ok (.iload_n 1, 1) := by decide +kernel
theorem dX8_saves_11 : decode cX8_saves 11 = .ok (.sipush 159, 3) := by decide +kernel
theorem dX8_saves_14 : decode cX8_saves 14 = .ok (.if_icmp .ge 24, 3) := by decide +kernel
theorem dX8_saves_17 : decode cX8_saves 17 = .ok (.aload_n 0, 1) := by decide +kernel
theorem dX8_saves_18 : decode cX8_saves 18 = .ok (.getfield 13, 3) := by decide +kernel
theorem dX8_saves_21 : decode cX8_saves 21 = .ok (.iload_n 1, 1) := by decide +kernel
theorem dX8_saves_22 : decode cX8_saves 22 = .ok (.aload_n 0, 1) := by decide +kernel
theorem dX8_saves_23 : decode cX8_saves 23 = .ok (.getfield 13, 3) := by decide +kernel
theorem dX8_saves_26 : decode cX8_saves 26 = .ok (.iload_n 1, 1) := by decide +kernel
theorem dX8_saves_27 : decode cX8_saves 27 = .ok (.bipush 53, 2) := by decide +kernel
theorem dX8_saves_29 : decode cX8_saves 29 = .ok (.iadd, 1) := by decide +kernel
theorem dX8_saves_30 : decode cX8_saves 30 = .ok (.iaload, 1) := by decide +kernel
theorem dX8_saves_31 : decode cX8_saves 31 = .ok (.iastore, 1) := by decide +kernel
theorem dX8_saves_32 : decode cX8_saves 32 = .ok (.iinc 1 1, 3) := by decide +kernel
theorem dX8_saves_35 : decode cX8_saves 35 = .ok (.goto (-25), 3) := by decide +kernel
theorem dX8_saves_38 : decode cX8_saves 38 = .ok (.aload_n 0, 1) := by decide +kernel
theorem dX8_saves_39 : decode cX8_saves 39 = .ok (.dup, 1) := by decide +kernel
theorem dX8_saves_40 : decode cX8_saves 40 = .ok (.getfield 60, 3) := by decide +kernel
theorem dX8_saves_43 : decode cX8_saves 43 = .ok (.iconst 1, 1) := by decide +kernel
theorem dX8_saves_44 : decode cX8_saves 44 = .ok (.isub, 1) := by decide +kernel
theorem dX8_saves_45 : decode cX8_saves 45 = .ok (.putfield 60, 3) := by decide +kernel
theorem dX8_saves_48 : decode cX8_saves 48 = .ok (.iconst 0, 1) := by decide +kernel
theorem dX8_saves_49 : decode cX8_saves 49 = .ok (.istore_n 1, 1) := by decide +kernel
theorem dX8_saves_50 : decode cX8_saves 50 = .ok (.iload_n 1, 1) := by decide +kernel
theorem dX8_saves_51 : decode cX8_saves 51 = .ok (.bipush 53, 2) := by decide +kernel
theorem dX8_saves_53 : decode cX8_saves 53 = .ok (.if_icmp .ge 29, 3) := by decide +kernel
theorem dX8_saves_56 : decode cX8_saves 56 = .ok (.aload_n 0, 1) := by decide +kernel
theorem dX8_saves_57 : decode cX8_saves 57 = .ok (.getfield 13, 3) := by decide +kernel
theorem dX8_saves_60 : decode cX8_saves 60 = .ok (.bipush 53, 2) := by decide +kernel
theorem dX8_saves_62 : decode cX8_saves 62 = .ok (.aload_n 0, 1) := by decide +kernel
theorem dX8_saves_63 : decode cX8_saves 63 = .ok (.getfield 60, 3) := by decide +kernel
theorem dX8_saves_66 : decode cX8_saves 66 = .ok (.imul, 1) := by decide +kernel
theorem dX8_saves_67 : decode cX8_saves 67 = .ok (.iload_n 1, 1) := by decide +kernel
theorem dX8_saves_68 : decode cX8_saves 68 = .ok (.iadd, 1) := by decide +kernel
theorem dX8_saves_69 : decode cX8_saves 69 = .ok (.aload_n 0, 1) := by decide +kernel
theorem dX8_saves_70 : decode cX8_saves 70 = .ok (.getfield 7, 3) := by decide +kernel
theorem dX8_saves_73 : decode cX8_saves 73 = .ok (.iload_n 1, 1) := by decide +kernel
theorem dX8_saves_74 : decode cX8_saves 74 = .ok (.iaload, 1) := by decide +kernel
theorem dX8_saves_75 : decode cX8_saves 75 = .ok (.iastore, 1) := by decide +kernel
theorem dX8_saves_76 : decode cX8_saves 76 = .ok (.iinc 1 1, 3) := by decide +kernel
theorem dX8_saves_79 : decode cX8_saves 79 = .ok (.goto (-29), 3) := by decide +kernel
theorem dX8_saves_82 : decode cX8_saves 82 = .ok (.aload_n 0, 1) := by decide +kernel
theorem dX8_saves_83 : decode cX8_saves 83 = .ok (.dup, 1) := by decide +kernel
theorem dX8_saves_84 : decode cX8_saves 84 = .ok (.getfield 60, 3) := by decide +kernel
theorem dX8_saves_87 : decode cX8_saves 87 = .ok (.iconst 1, 1) := by decide +kernel
theorem dX8_saves_88 : decode cX8_saves 88 = .ok (.iadd, 1) := by decide +kernel
theorem dX8_saves_89 : decode cX8_saves 89 = .ok (.putfield 60, 3) := by decide +kernel
theorem dX8_saves_92 : decode cX8_saves 92 = .ok (.return_, 1) := by decide +kernel
set_option maxRecDepth 20000 in
theorem ggX8_undo_X8_fails : GoodIn wsX8_undo wsX8_fails := goodIn_r _ [8, 9, 10, 11, 12, 13, 14, 15, 16, 17, 18, 19, 20, 21, 22, 23, 24, 25, 26, 27] (by decide +kernel) (by decide +kernel)
set_option maxRecDepth 20000 in
theorem gX8_undo_X8_fails : GoodIn wsX8_undo (wsV RX8 64 RX8 yX8_fails wsX8_fails) := goodIn_app (goodIn_of _ (by decide +kernel)) ggX8_undo_X8_fails
theorem dX8_undo_0 : decode cX8_undo 0 = .ok (.aload_n 0, 1) := by decide +kernel
theorem dX8_undo_1 : decode cX8_undo 1 = .ok (.getfield 60, 3) := by decide +kernel
theorem dX8_undo_4 : decode cX8_undo 4 = .ok (.ifCond .ne 10, 3) := by decide +kernel
theorem dX8_undo_7 : decode cX8_undo 7 = .ok (.aload_n 0, 1) := by decide +kernel
theorem dX8_undo_8 : decode cX8_undo 8 = .ok (.bipush (-3), 2) := by decide +kernel
theorem dX8_undo_10 : decode cX8_undo 10 = .ok (.invokevirtual 64, 3) := by decide +kernel
theorem dX8_undo_13 : decode cX8_undo 13 = .ok (.ireturn, 1) := by decide +kernel
theorem dX8_undo_14 : decode cX8_undo 14 = .ok (.aload_n 0, 1) := by decide +kernel
theorem dX8_undo_15 : decode cX8_undo 15 = .ok (.dup, 1) := by decide +kernel
theorem dX8_undo_16 : decode cX8_undo 16 = .ok (.getfield 60, 3) := by decide +kernel
theorem dX8_undo_19 : decode cX8_undo 19 = .ok (.iconst 1, 1) := by decide +kernel
theorem dX8_undo_20 : decode cX8_undo 20 = .ok (.isub, 1) := by decide +kernel
theorem dX8_undo_21 : decode cX8_undo 21 = .ok (.putfield 60, 3) := by decide +kernel
theorem dX8_undo_24 : decode cX8_undo 24 = .ok (.iconst 0, 1) := by decide +kernel
theorem dX8_undo_25 : decode cX8_undo 25 = .ok (.istore_n 1, 1) := by decide +kernel
theorem dX8_undo_26 : decode cX8_undo 26 = .ok (.iload_n 1, 1) := by decide +kernel
theorem dX8_undo_27 : decode cX8_undo 27 = .ok (.bipush 53, 2) := by decide +kernel
theorem dX8_undo_29 : decode cX8_undo 29 = .ok (.if_icmp .ge 29, 3) := by decide +kernel
theorem dX8_undo_32 : decode cX8_undo 32 = .ok (.aload_n 0, 1) := by decide +kernel
theorem dX8_undo_33 : decode cX8_undo 33 = .ok (.getfield 7, 3) := by decide +kernel
theorem dX8_undo_36 : decode cX8_undo 36 = .ok (.iload_n 1, 1) := by decide +kernel
theorem dX8_undo_37 : decode cX8_undo 37 = .ok (.aload_n 0, 1) := by decide +kernel
theorem dX8_undo_38 : decode cX8_undo 38 = .ok (.getfield 13, 3) := by decide +kernel
theorem dX8_undo_41 : decode cX8_undo 41 = .ok (.bipush 53, 2) := by decide +kernel
theorem dX8_undo_43 : decode cX8_undo 43 = .ok (.aload_n 0, 1) := by decide +kernel
theorem dX8_undo_44 : decode cX8_undo 44 = .ok (.getfield 60, 3) := by decide +kernel
theorem dX8_undo_47 : decode cX8_undo 47 = .ok (.imul, 1) := by decide +kernel
theorem dX8_undo_48 : decode cX8_undo 48 = .ok (.iload_n 1, 1) := by decide +kernel
theorem dX8_undo_49 : decode cX8_undo 49 = .ok (.iadd, 1) := by decide +kernel
theorem dX8_undo_50 : decode cX8_undo 50 = .ok (.iaload, 1) := by decide +kernel
theorem dX8_undo_51 : decode cX8_undo 51 = .ok (.iastore, 1) := by decide +kernel
theorem dX8_undo_52 : decode cX8_undo 52 = .ok (.iinc 1 1, 3) := by decide +kernel
theorem dX8_undo_55 : decode cX8_undo 55 = .ok (.goto (-29), 3) := by decide +kernel
theorem dX8_undo_58 : decode cX8_undo 58 = .ok (.aload_n 0, 1) := by decide +kernel
theorem dX8_undo_59 : decode cX8_undo 59 = .ok (.getfield 60, 3) := by decide +kernel
theorem dX8_undo_62 : decode cX8_undo 62 = .ok (.ireturn, 1) := by decide +kernel
theorem dX8_childMany_0 : decode cX8_childMany 0 = .ok (.iconst 0, 1) := by decide +kernel
theorem dX8_childMany_1 : decode cX8_childMany 1 = .ok (.istore_n 2, 1) := by decide +kernel
theorem dX8_childMany_2 : decode cX8_childMany 2 = .ok (.iconst 0, 1) := by decide +kernel
theorem dX8_childMany_3 : decode cX8_childMany 3 = .ok (.istore_n 3, 1) := by decide +kernel
theorem dX8_childMany_4 : decode cX8_childMany 4 = .ok (.iload_n 3, 1) := by decide +kernel
theorem dX8_childMany_5 : decode cX8_childMany 5 = .ok (.aload_n 0, 1) := by decide +kernel
theorem dX8_childMany_6 : decode cX8_childMany 6 = .ok (.getfield 7, 3) := by decide +kernel
theorem dX8_childMany_9 : decode cX8_childMany 9 = .ok (.iconst 0, 1) := by decide +kernel
theorem dX8_childMany_10 : decode cX8_childMany 10 = .ok (.iaload, 1) := by decide +kernel
theorem dX8_childMany_11 : decode cX8_childMany 11 = .ok (.if_icmp .ge 30, 3) := by decide +kernel
theorem dX8_childMany_14 : decode cX8_childMany 14 = .ok (.iload_n 2, 1) := by decide +kernel
theorem dX8_childMany_15 : decode cX8_childMany 15 = .ok (.aload_n 0, 1) := by decide +kernel
theorem dX8_childMany_16 : decode cX8_childMany 16 = .ok (.getfield 7, 3) := by decide +kernel
theorem dX8_childMany_19 : decode cX8_childMany 19 = .ok (.bipush 29, 2) := by decide +kernel
theorem dX8_childMany_21 : decode cX8_childMany 21 = .ok (.iload_n 3, 1) := by decide +kernel
theorem dX8_childMany_22 : decode cX8_childMany 22 = .ok (.iadd, 1) := by decide +kernel
theorem dX8_childMany_23 : decode cX8_childMany 23 = .ok (.iaload, 1) := by decide +kernel
theorem dX8_childMany_24 : decode cX8_childMany 24 = .ok (.iload_n 1, 1) := by decide +kernel
theorem dX8_childMany_25 : decode cX8_childMany 25 = .ok (.if_icmp .ne 7, 3) := by decide +kernel
theorem dX8_childMany_28 : decode cX8_childMany 28 = .ok (.iconst 1, 1) := by decide +kernel
theorem dX8_childMany_29 : decode cX8_childMany 29 = .ok (.goto 4, 3) := by decide +kernel
theorem dX8_childMany_32 : decode cX8_childMany 32 = .ok (.iconst 0, 1) := by decide +kernel
theorem dX8_childMany_33 : decode cX8_childMany 33 = .ok (.iadd, 1) := by decide +kernel
theorem dX8_childMany_34 : decode cX8_childMany 34 = .ok (.istore_n 2, 1) := by decide +kernel
theorem dX8_childMany_35 : decode cX8_childMany 35 = .ok (.iinc 3 1, 3) := by decide +kernel
theorem dX8_childMany_38 : decode cX8_childMany 38 = .ok (.goto (-34), 3) := by decide +kernel
theorem dX8_childMany_41 : decode cX8_childMany 41 = .ok (.iload_n 2, 1) := by decide +kernel
theorem dX8_childMany_42 : decode cX8_childMany 42 = .ok (.ireturn, 1) := by decide +kernel
set_option maxRecDepth 20000 in
theorem ggX8_sizeOf_X8_childMany : GoodIn wsX8_sizeOf wsX8_childMany := goodIn_r _ [6, 1, 11, 12, 13, 14, 15, 16, 17, 18, 19, 20, 21, 22, 23, 24, 25, 26, 27, 28] (by decide +kernel) (by decide +kernel)
set_option maxRecDepth 20000 in
theorem gX8_sizeOf_X8_childMany : GoodIn wsX8_sizeOf (wsV RX8 68 RX8 yX8_childMany wsX8_childMany) := goodIn_app (goodIn_of _ (by decide +kernel)) ggX8_sizeOf_X8_childMany
set_option maxRecDepth 20000 in
theorem ggX8_sizeOf_X8_isUnder : GoodIn wsX8_sizeOf wsX8_isUnder := goodIn_r _ [10, 1, 11, 12, 13, 14, 15, 16, 17, 18, 19, 20, 21, 22, 23, 24, 25, 26, 27, 28] (by decide +kernel) (by decide +kernel)
set_option maxRecDepth 20000 in
theorem gX8_sizeOf_X8_isUnder : GoodIn wsX8_sizeOf (wsV RX8 71 RX8 yX8_isUnder wsX8_isUnder) := goodIn_app (goodIn_of _ (by decide +kernel)) ggX8_sizeOf_X8_isUnder
theorem dX8_sizeOf_0 : decode cX8_sizeOf 0 = .ok (.iconst 0, 1) := by decide +kernel
theorem dX8_sizeOf_1 : decode cX8_sizeOf 1 = .ok (.istore_n 2, 1) := by decide +kernel
theorem dX8_sizeOf_2 : decode cX8_sizeOf 2 = .ok (.iconst 0, 1) := by decide +kernel
theorem dX8_sizeOf_3 : decode cX8_sizeOf 3 = .ok (.istore_n 3, 1) := by decide +kernel
theorem dX8_sizeOf_4 : decode cX8_sizeOf 4 = .ok (.iload_n 3, 1) := by decide +kernel
theorem dX8_sizeOf_5 : decode cX8_sizeOf 5 = .ok (.aload_n 0, 1) := by decide +kernel
theorem dX8_sizeOf_6 : decode cX8_sizeOf 6 = .ok (.getfield 7, 3) := by decide +kernel
theorem dX8_sizeOf_9 : decode cX8_sizeOf 9 = .ok (.iconst 0, 1) := by decide +kernel
theorem dX8_sizeOf_10 : decode cX8_sizeOf 10 = .ok (.iaload, 1) := by decide +kernel
theorem dX8_sizeOf_11 : decode cX8_sizeOf 11 = .ok (.if_icmp .ge 41, 3) := by decide +kernel
theorem dX8_sizeOf_14 : decode cX8_sizeOf 14 = .ok (.iload_n 2, 1) := by decide +kernel
theorem dX8_sizeOf_15 : decode cX8_sizeOf 15 = .ok (.aload_n 0, 1) := by decide +kernel
theorem dX8_sizeOf_16 : decode cX8_sizeOf 16 = .ok (.iload_n 3, 1) := by decide +kernel
theorem dX8_sizeOf_17 : decode cX8_sizeOf 17 = .ok (.invokevirtual 68, 3) := by decide +kernel
theorem dX8_sizeOf_20 : decode cX8_sizeOf 20 = .ok (.ifCond .ne 23, 3) := by decide +kernel
theorem dX8_sizeOf_23 : decode cX8_sizeOf 23 = .ok (.aload_n 0, 1) := by decide +kernel
theorem dX8_sizeOf_24 : decode cX8_sizeOf 24 = .ok (.iload_n 3, 1) := by decide +kernel
theorem dX8_sizeOf_25 : decode cX8_sizeOf 25 = .ok (.iload_n 1, 1) := by decide +kernel
theorem dX8_sizeOf_26 : decode cX8_sizeOf 26 = .ok (.invokevirtual 71, 3) := by decide +kernel
theorem dX8_sizeOf_29 : decode cX8_sizeOf 29 = .ok (.ifCond .eq 14, 3) := by decide +kernel
theorem dX8_sizeOf_32 : decode cX8_sizeOf 32 = .ok (.aload_n 0, 1) := by decide +kernel
theorem dX8_sizeOf_33 : decode cX8_sizeOf 33 = .ok (.getfield 7, 3) := by decide +kernel
theorem dX8_sizeOf_36 : decode cX8_sizeOf 36 = .ok (.iconst 5, 1) := by decide +kernel
theorem dX8_sizeOf_37 : decode cX8_sizeOf 37 = .ok (.iload_n 3, 1) := by decide +kernel
theorem dX8_sizeOf_38 : decode cX8_sizeOf 38 = .ok (.iadd, 1) := by decide +kernel
theorem dX8_sizeOf_39 : decode cX8_sizeOf 39 = .ok (.iaload, 1) := by decide +kernel
theorem dX8_sizeOf_40 : decode cX8_sizeOf 40 = .ok (.goto 4, 3) := by decide +kernel
theorem dX8_sizeOf_43 : decode cX8_sizeOf 43 = .ok (.iconst 0, 1) := by decide +kernel
theorem dX8_sizeOf_44 : decode cX8_sizeOf 44 = .ok (.iadd, 1) := by decide +kernel
theorem dX8_sizeOf_45 : decode cX8_sizeOf 45 = .ok (.istore_n 2, 1) := by decide +kernel
theorem dX8_sizeOf_46 : decode cX8_sizeOf 46 = .ok (.iinc 3 1, 3) := by decide +kernel
theorem dX8_sizeOf_49 : decode cX8_sizeOf 49 = .ok (.goto (-45), 3) := by decide +kernel
theorem dX8_sizeOf_52 : decode cX8_sizeOf 52 = .ok (.iload_n 2, 1) := by decide +kernel
theorem dX8_sizeOf_53 : decode cX8_sizeOf 53 = .ok (.ireturn, 1) := by decide +kernel
theorem dX8_isUnder_0 : decode cX8_isUnder 0 = .ok (.iload_n 1, 1) := by decide +kernel
theorem dX8_isUnder_1 : decode cX8_isUnder 1 = .ok (.istore_n 3, 1) := by decide +kernel
theorem dX8_isUnder_2 : decode cX8_isUnder 2 = .ok (.iload_n 3, 1) := by decide +kernel
theorem dX8_isUnder_3 : decode cX8_isUnder 3 = .ok (.iload_n 2, 1) := by decide +kernel
theorem dX8_isUnder_4 : decode cX8_isUnder 4 = .ok (.if_icmp .eq 21, 3) := by decide +kernel
theorem dX8_isUnder_7 : decode cX8_isUnder 7 = .ok (.iload_n 3, 1) := by decide +kernel
theorem dX8_isUnder_8 : decode cX8_isUnder 8 = .ok (.iconst (-1), 1) := by decide +kernel
theorem dX8_isUnder_9 : decode cX8_isUnder 9 = .ok (.if_icmp .eq 16, 3) := by decide +kernel
theorem dX8_isUnder_12 : decode cX8_isUnder 12 = .ok (.aload_n 0, 1) := by decide +kernel
theorem dX8_isUnder_13 : decode cX8_isUnder 13 = .ok (.getfield 7, 3) := by decide +kernel
theorem dX8_isUnder_16 : decode cX8_isUnder 16 = .ok (.bipush 29, 2) := by decide +kernel
theorem dX8_isUnder_18 : decode cX8_isUnder 18 = .ok (.iload_n 3, 1) := by decide +kernel
theorem dX8_isUnder_19 : decode cX8_isUnder 19 = .ok (.iadd, 1) := by decide +kernel
theorem dX8_isUnder_20 : decode cX8_isUnder 20 = .ok (.iaload, 1) := by decide +kernel
theorem dX8_isUnder_21 : decode cX8_isUnder 21 = .ok (.istore_n 3, 1) := by decide +kernel
theorem dX8_isUnder_22 : decode cX8_isUnder 22 = .ok (.goto (-20), 3) := by decide +kernel
theorem dX8_isUnder_25 : decode cX8_isUnder 25 = .ok (.iload_n 3, 1) := by decide +kernel
theorem dX8_isUnder_26 : decode cX8_isUnder 26 = .ok (.iload_n 2, 1) := by decide +kernel
theorem dX8_isUnder_27 : decode cX8_isUnder 27 = .ok (.if_icmp .ne 7, 3) := by decide +kernel
theorem dX8_isUnder_30 : decode cX8_isUnder 30 = .ok (.iconst 1, 1) := by decide +kernel
theorem dX8_isUnder_31 : decode cX8_isUnder 31 = .ok (.goto 4, 3) := by decide +kernel
theorem dX8_isUnder_34 : decode cX8_isUnder 34 = .ok (.iconst 0, 1) := by decide +kernel
theorem dX8_isUnder_35 : decode cX8_isUnder 35 = .ok (.ireturn, 1) := by decide +kernel
theorem dX8_depthOf_0 : decode cX8_depthOf 0 = .ok (.iconst 0, 1) := by decide +kernel
theorem dX8_depthOf_1 : decode cX8_depthOf 1 = .ok (.istore_n 2, 1) := by decide +kernel
theorem dX8_depthOf_2 : decode cX8_depthOf 2 = .ok (.iload_n 1, 1) := by decide +kernel
theorem dX8_depthOf_3 : decode cX8_depthOf 3 = .ok (.istore_n 3, 1) := by decide +kernel
theorem dX8_depthOf_4 : decode cX8_depthOf 4 = .ok (.iload_n 3, 1) := by decide +kernel
theorem dX8_depthOf_5 : decode cX8_depthOf 5 = .ok (.ifCond .eq 19, 3) := by decide +kernel
theorem dX8_depthOf_8 : decode cX8_depthOf 8 = .ok (.iinc 2 1, 3) := by decide +kernel
theorem dX8_depthOf_11 : decode cX8_depthOf 11 = .ok (.aload_n 0, 1) := by decide +kernel
theorem dX8_depthOf_12 : decode cX8_depthOf 12 = .ok (.getfield 7, 3) := by decide +kernel
theorem dX8_depthOf_15 : decode cX8_depthOf 15 = .ok (.bipush 29, 2) := by decide +kernel
theorem dX8_depthOf_17 : decode cX8_depthOf 17 = .ok (.iload_n 3, 1) := by decide +kernel
theorem dX8_depthOf_18 : decode cX8_depthOf 18 = .ok (.iadd, 1) := by decide +kernel
theorem dX8_depthOf_19 : decode cX8_depthOf 19 = .ok (.iaload, 1) := by decide +kernel
theorem dX8_depthOf_20 : decode cX8_depthOf 20 = .ok (.istore_n 3, 1) := by decide +kernel
theorem dX8_depthOf_21 : decode cX8_depthOf 21 = .ok (.goto (-17), 3) := by decide +kernel
theorem dX8_depthOf_24 : decode cX8_depthOf 24 = .ok (.iload_n 2, 1) := by decide +kernel
theorem dX8_depthOf_25 : decode cX8_depthOf 25 = .ok (.ireturn, 1) := by decide +kernel
set_option maxRecDepth 20000 in
theorem ggX8_addNode_X8_isNode : GoodIn wsX8_addNode wsX8_isNode := goodIn_r _ [6, 1, 7, 8, 5, 9, 21, 22, 23, 24, 25, 26, 27, 28, 29, 30, 31, 32, 33, 34, 35, 36, 37, 38] (by decide +kernel) (by decide +kernel)
set_option maxRecDepth 20000 in
theorem gX8_addNode_X8_isNode : GoodIn wsX8_addNode (wsV RX8 75 RX8 yX8_isNode wsX8_isNode) := goodIn_app (goodIn_of _ (by decide +kernel)) ggX8_addNode_X8_isNode
set_option maxRecDepth 20000 in
theorem ggX8_addNode_X8_within : GoodIn wsX8_addNode wsX8_within := goodIn_r _ [9] (by decide +kernel) (by decide +kernel)
set_option maxRecDepth 20000 in
theorem gX8_addNode_X8_within : GoodIn wsX8_addNode (va_wsS RX8 56 yX8_within wsX8_within) := goodIn_app (goodIn_of _ (by decide +kernel)) ggX8_addNode_X8_within
set_option maxRecDepth 20000 in
theorem ggX8_addNode_X8_fails : GoodIn wsX8_addNode wsX8_fails := goodIn_r _ [13, 14, 21, 22, 23, 24, 25, 26, 27, 28, 29, 30, 31, 32, 33, 34, 35, 36, 37, 38] (by decide +kernel) (by decide +kernel)
set_option maxRecDepth 20000 in
theorem gX8_addNode_X8_fails : GoodIn wsX8_addNode (wsV RX8 64 RX8 yX8_fails wsX8_fails) := goodIn_app (goodIn_of _ (by decide +kernel)) ggX8_addNode_X8_fails
set_option maxRecDepth 20000 in
theorem ggX8_addNode_X8_saves : GoodIn wsX8_addNode wsX8_saves := goodIn_r _ [18, 19, 20, 1, 21, 22, 23, 24, 25, 26, 27, 28, 29, 30, 31, 32, 33, 34, 35, 36, 37, 38] (by decide +kernel) (by decide +kernel)
set_option maxRecDepth 20000 in
theorem gX8_addNode_X8_saves : GoodIn wsX8_addNode (wsV RX8 79 RX8 yX8_saves wsX8_saves) := goodIn_app (goodIn_of _ (by decide +kernel)) ggX8_addNode_X8_saves
theorem dX8_addNode_0 : decode cX8_addNode 0 = .ok (.aload_n 0, 1) := by decide +kernel
theorem dX8_addNode_1 : decode cX8_addNode 1 = .ok (.iload_n 1, 1) := by decide +kernel
theorem dX8_addNode_2 : decode cX8_addNode 2 = .ok (.invokevirtual 75, 3) := by decide +kernel
theorem dX8_addNode_5 : decode cX8_addNode 5 = .ok (.ifCond .eq 13, 3) := by decide +kernel
theorem dX8_addNode_8 : decode cX8_addNode 8 = .ok (.iload_n 2, 1) := by decide +kernel
theorem dX8_addNode_9 : decode cX8_addNode 9 = .ok (.iconst 1, 1) := by decide +kernel
theorem dX8_addNode_10 : decode cX8_addNode 10 = .ok (.bipush 99, 2) := by decide +kernel
theorem dX8_addNode_12 : decode cX8_addNode 12 = .ok (.invokestatic 56, 3) := by decide +kernel
theorem dX8_addNode_15 : decode cX8_addNode 15 = .ok (.ifCond .ne 10, 3) := by decide +kernel
theorem dX8_addNode_18 : decode cX8_addNode 18 = .ok (.aload_n 0, 1) := by decide +kernel
theorem dX8_addNode_19 : decode cX8_addNode 19 = .ok (.bipush (-2), 2) := by decide +kernel
theorem dX8_addNode_21 : decode cX8_addNode 21 = .ok (.invokevirtual 64, 3) := by decide +kernel
theorem dX8_addNode_24 : decode cX8_addNode 24 = .ok (.ireturn, 1) := by decide +kernel
theorem dX8_addNode_25 : decode cX8_addNode 25 = .ok (.aload_n 0, 1) := by decide +kernel
theorem dX8_addNode_26 : decode cX8_addNode 26 = .ok (.getfield 7, 3) := by decide +kernel
theorem dX8_addNode_29 : decode cX8_addNode 29 = .ok (.iconst 0, 1) := by decide +kernel
theorem dX8_addNode_30 : decode cX8_addNode 30 = .ok (.iaload, 1) := by decide +kernel
theorem dX8_addNode_31 : decode cX8_addNode 31 = .ok (.bipush 24, 2) := by decide +kernel
theorem dX8_addNode_33 : decode cX8_addNode 33 = .ok (.if_icmp .ne 10, 3) := by decide +kernel
theorem dX8_addNode_36 : decode cX8_addNode 36 = .ok (.aload_n 0, 1) := by decide +kernel
theorem dX8_addNode_37 : decode cX8_addNode 37 = .ok (.bipush (-4), 2) := by decide +kernel
theorem dX8_addNode_39 : decode cX8_addNode 39 = .ok (.invokevirtual 64, 3) := by decide +kernel
theorem dX8_addNode_42 : decode cX8_addNode 42 = .ok (.ireturn, 1) := by decide +kernel
theorem dX8_addNode_43 : decode cX8_addNode 43 = .ok (.aload_n 0, 1) := by decide +kernel
theorem dX8_addNode_44 : decode cX8_addNode 44 = .ok (.invokevirtual 79, 3) := by decide +kernel
theorem dX8_addNode_47 : decode cX8_addNode 47 = .ok (.aload_n 0, 1) := by decide +kernel
theorem dX8_addNode_48 : decode cX8_addNode 48 = .ok (.getfield 7, 3) := by decide +kernel
theorem dX8_addNode_51 : decode cX8_addNode 51 = .ok (.iconst 5, 1) := by decide +kernel
theorem dX8_addNode_52 : decode cX8_addNode 52 = .ok (.aload_n 0, 1) := by decide +kernel
theorem dX8_addNode_53 : decode cX8_addNode 53 = .ok (.getfield 7, 3) := by decide +kernel
theorem dX8_addNode_56 : decode cX8_addNode 56 = .ok (.iconst 0, 1) := by decide +kernel
theorem dX8_addNode_57 : decode cX8_addNode 57 = .ok (.iaload, 1) := by decide +kernel
theorem dX8_addNode_58 : decode cX8_addNode 58 = .ok (.iadd, 1) := by decide +kernel
theorem dX8_addNode_59 : decode cX8_addNode 59 = .ok (.iload_n 2, 1) := by decide +kernel
theorem dX8_addNode_60 : decode cX8_addNode 60 = .ok (.iastore, 1) := by decide +kernel
theorem dX8_addNode_61 : decode cX8_addNode 61 = .ok (.aload_n 0, 1) := by decide +kernel
theorem dX8_addNode_62 : decode cX8_addNode 62 = .ok (.getfield 7, 3) := by decide +kernel
theorem dX8_addNode_65 : decode cX8_addNode 65 = .ok (.bipush 29, 2) := by decide +kernel
theorem dX8_addNode_67 : decode cX8_addNode 67 = .ok (.aload_n 0, 1) := by decide +kernel
theorem dX8_addNode_68 : decode cX8_addNode 68 = .ok (.getfield 7, 3) := by decide +kernel
theorem dX8_addNode_71 : decode cX8_addNode 71 = .ok (.iconst 0, 1) := by decide +kernel
theorem dX8_addNode_72 : decode cX8_addNode 72 = .ok (.iaload, 1) := by decide +kernel
theorem dX8_addNode_73 : decode cX8_addNode 73 = .ok (.iadd, 1) := by decide +kernel
theorem dX8_addNode_74 : decode cX8_addNode 74 = .ok (.iload_n 1, 1) := by decide +kernel
theorem dX8_addNode_75 : decode cX8_addNode 75 = .ok (.iastore, 1) := by decide +kernel
theorem dX8_addNode_76 : decode cX8_addNode 76 = .ok (.aload_n 0, 1) := by decide +kernel
theorem dX8_addNode_77 : decode cX8_addNode 77 = .ok (.getfield 7, 3) := by decide +kernel
theorem dX8_addNode_80 : decode cX8_addNode 80 = .ok (.iconst 0, 1) := by decide +kernel
theorem dX8_addNode_81 : decode cX8_addNode 81 = .ok (.dup2, 1) := by decide +kernel
theorem dX8_addNode_82 : decode cX8_addNode 82 = .ok (.iaload, 1) := by decide +kernel
theorem dX8_addNode_83 : decode cX8_addNode 83 = .ok (.iconst 1, 1) := by decide +kernel
theorem dX8_addNode_84 : decode cX8_addNode 84 = .ok (.iadd, 1) := by decide +kernel
theorem dX8_addNode_85 : decode cX8_addNode 85 = .ok (.iastore, 1) := by decide +kernel
theorem dX8_addNode_86 : decode cX8_addNode 86 = .ok (.aload_n 0, 1) := by decide +kernel
theorem dX8_addNode_87 : decode cX8_addNode 87 = .ok (.getfield 7, 3) := by decide +kernel
theorem dX8_addNode_90 : decode cX8_addNode 90 = .ok (.iconst 0, 1) := by decide +kernel
theorem dX8_addNode_91 : decode cX8_addNode 91 = .ok (.iaload, 1) := by decide +kernel
theorem dX8_addNode_92 : decode cX8_addNode 92 = .ok (.iconst 1, 1) := by decide +kernel
theorem dX8_addNode_93 : decode cX8_addNode 93 = .ok (.isub, 1) := by decide +kernel
theorem dX8_addNode_94 : decode cX8_addNode 94 = .ok (.ireturn, 1) := by decide +kernel
set_option maxRecDepth 20000 in
theorem ggX8_changes_X8_saves : GoodIn wsX8_changes wsX8_saves := goodIn_r _ [6, 7, 8, 1, 9, 10, 11, 12, 13, 14, 15, 16, 17, 18, 19, 20, 21, 22, 23, 24, 25, 26] (by decide +kernel) (by decide +kernel)
set_option maxRecDepth 20000 in
theorem gX8_changes_X8_saves : GoodIn wsX8_changes (wsV RX8 79 RX8 yX8_saves wsX8_saves) := goodIn_app (goodIn_of _ (by decide +kernel)) ggX8_changes_X8_saves
theorem dX8_changes_0 : decode cX8_changes 0 = .ok (.aload_n 0, 1) := by decide +kernel
theorem dX8_changes_1 : decode cX8_changes 1 = .ok (.invokevirtual 79, 3) := by decide +kernel
theorem dX8_changes_4 : decode cX8_changes 4 = .ok (.aload_n 0, 1) := by decide +kernel
theorem dX8_changes_5 : decode cX8_changes 5 = .ok (.getfield 7, 3) := by decide +kernel
theorem dX8_changes_8 : decode cX8_changes 8 = .ok (.iload_n 1, 1) := by decide +kernel
theorem dX8_changes_9 : decode cX8_changes 9 = .ok (.iaload, 1) := by decide +kernel
theorem dX8_changes_10 : decode cX8_changes 10 = .ok (.istore_n 3, 1) := by decide +kernel
theorem dX8_changes_11 : decode cX8_changes 11 = .ok (.aload_n 0, 1) := by decide +kernel
theorem dX8_changes_12 : decode cX8_changes 12 = .ok (.getfield 7, 3) := by decide +kernel
theorem dX8_changes_15 : decode cX8_changes 15 = .ok (.iload_n 1, 1) := by decide +kernel
theorem dX8_changes_16 : decode cX8_changes 16 = .ok (.iload_n 2, 1) := by decide +kernel
theorem dX8_changes_17 : decode cX8_changes 17 = .ok (.iastore, 1) := by decide +kernel
theorem dX8_changes_18 : decode cX8_changes 18 = .ok (.iload_n 3, 1) := by decide +kernel
theorem dX8_changes_19 : decode cX8_changes 19 = .ok (.ireturn, 1) := by decide +kernel
set_option maxRecDepth 20000 in
theorem ggX8_setSize_X8_isNode : GoodIn wsX8_setSize wsX8_isNode := goodIn_r _ [5, 6, 7, 8, 4, 9, 25, 26, 27, 28, 29, 30, 31, 32, 33, 34, 35, 36, 37, 38, 39, 40, 41, 42] (by decide +kernel) (by decide +kernel)
set_option maxRecDepth 20000 in
theorem gX8_setSize_X8_isNode : GoodIn wsX8_setSize (wsV RX8 75 RX8 yX8_isNode wsX8_isNode) := goodIn_app (goodIn_of _ (by decide +kernel)) ggX8_setSize_X8_isNode
set_option maxRecDepth 20000 in
theorem ggX8_setSize_X8_within : GoodIn wsX8_setSize wsX8_within := goodIn_r _ [9] (by decide +kernel) (by decide +kernel)
set_option maxRecDepth 20000 in
theorem gX8_setSize_X8_within : GoodIn wsX8_setSize (va_wsS RX8 56 yX8_within wsX8_within) := goodIn_app (goodIn_of _ (by decide +kernel)) ggX8_setSize_X8_within
set_option maxRecDepth 20000 in
theorem ggX8_setSize_X8_changes : GoodIn wsX8_setSize wsX8_changes := goodIn_r _ [13, 6, 14, 15, 16, 4, 17, 18, 19, 25, 26, 27, 28, 29, 30, 31, 32, 33, 34, 35, 36, 37, 38, 39, 40, 41, 42] (by decide +kernel) (by decide +kernel)
set_option maxRecDepth 20000 in
theorem gX8_setSize_X8_changes : GoodIn wsX8_setSize (wsV RX8 82 RX8 yX8_changes wsX8_changes) := goodIn_app (goodIn_of _ (by decide +kernel)) ggX8_setSize_X8_changes
set_option maxRecDepth 20000 in
theorem ggX8_setSize_X8_fails : GoodIn wsX8_setSize wsX8_fails := goodIn_r _ [23, 24, 25, 26, 27, 28, 29, 30, 31, 32, 33, 34, 35, 36, 37, 38, 39, 40, 41, 42] (by decide +kernel) (by decide +kernel)
set_option maxRecDepth 20000 in
theorem gX8_setSize_X8_fails : GoodIn wsX8_setSize (wsV RX8 64 RX8 yX8_fails wsX8_fails) := goodIn_app (goodIn_of _ (by decide +kernel)) ggX8_setSize_X8_fails
theorem dX8_setSize_0 : decode cX8_setSize 0 = .ok (.aload_n 0, 1) := by decide +kernel
theorem dX8_setSize_1 : decode cX8_setSize 1 = .ok (.iload_n 1, 1) := by decide +kernel
theorem dX8_setSize_2 : decode cX8_setSize 2 = .ok (.invokevirtual 75, 3) := by decide +kernel
theorem dX8_setSize_5 : decode cX8_setSize 5 = .ok (.ifCond .eq 24, 3) := by decide +kernel
theorem dX8_setSize_8 : decode cX8_setSize 8 = .ok (.iload_n 2, 1) := by decide +kernel
theorem dX8_setSize_9 : decode cX8_setSize 9 = .ok (.iconst 1, 1) := by decide +kernel
theorem dX8_setSize_10 : decode cX8_setSize 10 = .ok (.bipush 99, 2) := by decide +kernel
theorem dX8_setSize_12 : decode cX8_setSize 12 = .ok (.invokestatic 56, 3) := by decide +kernel
theorem dX8_setSize_15 : decode cX8_setSize 15 = .ok (.ifCond .eq 14, 3) := by decide +kernel
theorem dX8_setSize_18 : decode cX8_setSize 18 = .ok (.aload_n 0, 1) := by decide +kernel
theorem dX8_setSize_19 : decode cX8_setSize 19 = .ok (.iconst 5, 1) := by decide +kernel
theorem dX8_setSize_20 : decode cX8_setSize 20 = .ok (.iload_n 1, 1) := by decide +kernel
theorem dX8_setSize_21 : decode cX8_setSize 21 = .ok (.iadd, 1) := by decide +kernel
theorem dX8_setSize_22 : decode cX8_setSize 22 = .ok (.iload_n 2, 1) := by decide +kernel
theorem dX8_setSize_23 : decode cX8_setSize 23 = .ok (.invokevirtual 82, 3) := by decide +kernel
theorem dX8_setSize_26 : decode cX8_setSize 26 = .ok (.goto 9, 3) := by decide +kernel
theorem dX8_setSize_29 : decode cX8_setSize 29 = .ok (.aload_n 0, 1) := by decide +kernel
theorem dX8_setSize_30 : decode cX8_setSize 30 = .ok (.bipush (-2), 2) := by decide +kernel
theorem dX8_setSize_32 : decode cX8_setSize 32 = .ok (.invokevirtual 64, 3) := by decide +kernel
theorem dX8_setSize_35 : decode cX8_setSize 35 = .ok (.ireturn, 1) := by decide +kernel
set_option maxRecDepth 20000 in
theorem ggX8_removeLeaf_X8_isNode : GoodIn wsX8_removeLeaf wsX8_isNode := goodIn_r _ [6, 1, 7, 8, 5, 9, 25, 26, 27, 28, 29, 30, 31, 32, 33, 34, 35, 36, 37, 38, 39, 40, 41, 42] (by decide +kernel) (by decide +kernel)
set_option maxRecDepth 20000 in
theorem gX8_removeLeaf_X8_isNode : GoodIn wsX8_removeLeaf (wsV RX8 75 RX8 yX8_isNode wsX8_isNode) := goodIn_app (goodIn_of _ (by decide +kernel)) ggX8_removeLeaf_X8_isNode
set_option maxRecDepth 20000 in
theorem ggX8_removeLeaf_X8_fails : GoodIn wsX8_removeLeaf wsX8_fails := goodIn_r _ [13, 14, 25, 26, 27, 28, 29, 30, 31, 32, 33, 34, 35, 36, 37, 38, 39, 40, 41, 42] (by decide +kernel) (by decide +kernel)
set_option maxRecDepth 20000 in
theorem gX8_removeLeaf_X8_fails : GoodIn wsX8_removeLeaf (wsV RX8 64 RX8 yX8_fails wsX8_fails) := goodIn_app (goodIn_of _ (by decide +kernel)) ggX8_removeLeaf_X8_fails
set_option maxRecDepth 20000 in
theorem ggX8_removeLeaf_X8_childMany : GoodIn wsX8_removeLeaf wsX8_childMany := goodIn_r _ [18, 1, 25, 26, 27, 28, 29, 30, 31, 32, 33, 34, 35, 36, 37, 38, 39, 40, 41, 42] (by decide +kernel) (by decide +kernel)
set_option maxRecDepth 20000 in
theorem gX8_removeLeaf_X8_childMany : GoodIn wsX8_removeLeaf (wsV RX8 68 RX8 yX8_childMany wsX8_childMany) := goodIn_app (goodIn_of _ (by decide +kernel)) ggX8_removeLeaf_X8_childMany
set_option maxRecDepth 20000 in
theorem ggX8_removeLeaf_X8_saves : GoodIn wsX8_removeLeaf wsX8_saves := goodIn_r _ [22, 23, 24, 1, 25, 26, 27, 28, 29, 30, 31, 32, 33, 34, 35, 36, 37, 38, 39, 40, 41, 42] (by decide +kernel) (by decide +kernel)
set_option maxRecDepth 20000 in
theorem gX8_removeLeaf_X8_saves : GoodIn wsX8_removeLeaf (wsV RX8 79 RX8 yX8_saves wsX8_saves) := goodIn_app (goodIn_of _ (by decide +kernel)) ggX8_removeLeaf_X8_saves
theorem dX8_removeLeaf_0 : decode cX8_removeLeaf 0 = .ok (.aload_n 0, 1) := by decide +kernel
theorem dX8_removeLeaf_1 : decode cX8_removeLeaf 1 = .ok (.iload_n 1, 1) := by decide +kernel
theorem dX8_removeLeaf_2 : decode cX8_removeLeaf 2 = .ok (.invokevirtual 75, 3) := by decide +kernel
theorem dX8_removeLeaf_5 : decode cX8_removeLeaf 5 = .ok (.ifCond .ne 10, 3) := by decide +kernel
theorem dX8_removeLeaf_8 : decode cX8_removeLeaf 8 = .ok (.aload_n 0, 1) := by decide +kernel
theorem dX8_removeLeaf_9 : decode cX8_removeLeaf 9 = .ok (.bipush (-2), 2) := by decide +kernel
theorem dX8_removeLeaf_11 : decode cX8_removeLeaf 11 = .ok (.invokevirtual 64, 3) := by decide +kernel
theorem dX8_removeLeaf_14 : decode cX8_removeLeaf 14 = .ok (.ireturn, 1) := by decide +kernel
theorem dX8_removeLeaf_15 : decode cX8_removeLeaf 15 = .ok (.iload_n 1, 1) := by decide +kernel
theorem dX8_removeLeaf_16 : decode cX8_removeLeaf 16 = .ok (.ifCond .eq 11, 3) := by decide +kernel
theorem dX8_removeLeaf_19 : decode cX8_removeLeaf 19 = .ok (.aload_n 0, 1) := by decide +kernel
theorem dX8_removeLeaf_20 : decode cX8_removeLeaf 20 = .ok (.iload_n 1, 1) := by decide +kernel
theorem dX8_removeLeaf_21 : decode cX8_removeLeaf 21 = .ok (.invokevirtual 68, 3) := by decide +kernel
theorem dX8_removeLeaf_24 : decode cX8_removeLeaf 24 = .ok (.ifCond .le 10, 3) := by decide +kernel
theorem dX8_removeLeaf_27 : decode cX8_removeLeaf 27 = .ok (.aload_n 0, 1) := by decide +kernel
theorem dX8_removeLeaf_28 : decode cX8_removeLeaf 28 = .ok (.bipush (-3), 2) := by decide +kernel
theorem dX8_removeLeaf_30 : decode cX8_removeLeaf 30 = .ok (.invokevirtual 64, 3) := by decide +kernel
theorem dX8_removeLeaf_33 : decode cX8_removeLeaf 33 = .ok (.ireturn, 1) := by decide +kernel
theorem dX8_removeLeaf_34 : decode cX8_removeLeaf 34 = .ok (.aload_n 0, 1) := by decide +kernel
theorem dX8_removeLeaf_35 : decode cX8_removeLeaf 35 = .ok (.invokevirtual 79, 3) := by decide +kernel
theorem dX8_removeLeaf_38 : decode cX8_removeLeaf 38 = .ok (.aload_n 0, 1) := by decide +kernel
theorem dX8_removeLeaf_39 : decode cX8_removeLeaf 39 = .ok (.getfield 7, 3) := by decide +kernel
theorem dX8_removeLeaf_42 : decode cX8_removeLeaf 42 = .ok (.iconst 0, 1) := by decide +kernel
theorem dX8_removeLeaf_43 : decode cX8_removeLeaf 43 = .ok (.dup2, 1) := by decide +kernel
theorem dX8_removeLeaf_44 : decode cX8_removeLeaf 44 = .ok (.iaload, 1) := by decide +kernel
theorem dX8_removeLeaf_45 : decode cX8_removeLeaf 45 = .ok (.iconst 1, 1) := by decide +kernel
theorem dX8_removeLeaf_46 : decode cX8_removeLeaf 46 = .ok (.isub, 1) := by decide +kernel
theorem dX8_removeLeaf_47 : decode cX8_removeLeaf 47 = .ok (.iastore, 1) := by decide +kernel
theorem dX8_removeLeaf_48 : decode cX8_removeLeaf 48 = .ok (.iload_n 1, 1) := by decide +kernel
theorem dX8_removeLeaf_49 : decode cX8_removeLeaf 49 = .ok (.istore_n 2, 1) := by decide +kernel
theorem dX8_removeLeaf_50 : decode cX8_removeLeaf 50 = .ok (.iload_n 2, 1) := by decide +kernel
theorem dX8_removeLeaf_51 : decode cX8_removeLeaf 51 = .ok (.aload_n 0, 1) := by decide +kernel
theorem dX8_removeLeaf_52 : decode cX8_removeLeaf 52 = .ok (.getfield 7, 3) := by decide +kernel
theorem dX8_removeLeaf_55 : decode cX8_removeLeaf 55 = .ok (.iconst 0, 1) := by decide +kernel
theorem dX8_removeLeaf_56 : decode cX8_removeLeaf 56 = .ok (.iaload, 1) := by decide +kernel
theorem dX8_removeLeaf_57 : decode cX8_removeLeaf 57 = .ok (.if_icmp .ge 47, 3) := by decide +kernel
theorem dX8_removeLeaf_60 : decode cX8_removeLeaf 60 = .ok (.aload_n 0, 1) := by decide +kernel
theorem dX8_removeLeaf_61 : decode cX8_removeLeaf 61 = .ok (.getfield 7, 3) := by decide +kernel
theorem dX8_removeLeaf_64 : decode cX8_removeLeaf 64 = .ok (.iconst 5, 1) := by decide +kernel
theorem dX8_removeLeaf_65 : decode cX8_removeLeaf 65 = .ok (.iload_n 2, 1) := by decide +kernel
theorem dX8_removeLeaf_66 : decode cX8_removeLeaf 66 = .ok (.iadd, 1) := by decide +kernel
theorem dX8_removeLeaf_67 : decode cX8_removeLeaf 67 = .ok (.aload_n 0, 1) := by decide +kernel
theorem dX8_removeLeaf_68 : decode cX8_removeLeaf 68 = .ok (.getfield 7, 3) := by decide +kernel
theorem dX8_removeLeaf_71 : decode cX8_removeLeaf 71 = .ok (.iconst 5, 1) := by decide +kernel
theorem dX8_removeLeaf_72 : decode cX8_removeLeaf 72 = .ok (.iload_n 2, 1) := by decide +kernel
theorem dX8_removeLeaf_73 : decode cX8_removeLeaf 73 = .ok (.iadd, 1) := by decide +kernel
theorem dX8_removeLeaf_74 : decode cX8_removeLeaf 74 = .ok (.iconst 1, 1) := by decide +kernel
theorem dX8_removeLeaf_75 : decode cX8_removeLeaf 75 = .ok (.iadd, 1) := by decide +kernel
theorem dX8_removeLeaf_76 : decode cX8_removeLeaf 76 = .ok (.iaload, 1) := by decide +kernel
theorem dX8_removeLeaf_77 : decode cX8_removeLeaf 77 = .ok (.iastore, 1) := by decide +kernel
theorem dX8_removeLeaf_78 : decode cX8_removeLeaf 78 = .ok (.aload_n 0, 1) := by decide +kernel
theorem dX8_removeLeaf_79 : decode cX8_removeLeaf 79 = .ok (.getfield 7, 3) := by decide +kernel
theorem dX8_removeLeaf_82 : decode cX8_removeLeaf 82 = .ok (.bipush 29, 2) := by decide +kernel
theorem dX8_removeLeaf_84 : decode cX8_removeLeaf 84 = .ok (.iload_n 2, 1) := by decide +kernel
theorem dX8_removeLeaf_85 : decode cX8_removeLeaf 85 = .ok (.iadd, 1) := by decide +kernel
theorem dX8_removeLeaf_86 : decode cX8_removeLeaf 86 = .ok (.aload_n 0, 1) := by decide +kernel
theorem dX8_removeLeaf_87 : decode cX8_removeLeaf 87 = .ok (.getfield 7, 3) := by decide +kernel
theorem dX8_removeLeaf_90 : decode cX8_removeLeaf 90 = .ok (.bipush 29, 2) := by decide +kernel
theorem dX8_removeLeaf_92 : decode cX8_removeLeaf 92 = .ok (.iload_n 2, 1) := by decide +kernel
theorem dX8_removeLeaf_93 : decode cX8_removeLeaf 93 = .ok (.iadd, 1) := by decide +kernel
theorem dX8_removeLeaf_94 : decode cX8_removeLeaf 94 = .ok (.iconst 1, 1) := by decide +kernel
theorem dX8_removeLeaf_95 : decode cX8_removeLeaf 95 = .ok (.iadd, 1) := by decide +kernel
theorem dX8_removeLeaf_96 : decode cX8_removeLeaf 96 = .ok (.iaload, 1) := by decide +kernel
theorem dX8_removeLeaf_97 : decode cX8_removeLeaf 97 = .ok (.iastore, 1) := by decide +kernel
theorem dX8_removeLeaf_98 : decode cX8_removeLeaf 98 = .ok (.iinc 2 1, 3) := by decide +kernel
theorem dX8_removeLeaf_101 : decode cX8_removeLeaf 101 = .ok (.goto (-51), 3) := by decide +kernel
theorem dX8_removeLeaf_104 : decode cX8_removeLeaf 104 = .ok (.iconst 0, 1) := by decide +kernel
theorem dX8_removeLeaf_105 : decode cX8_removeLeaf 105 = .ok (.istore_n 2, 1) := by decide +kernel
theorem dX8_removeLeaf_106 : decode cX8_removeLeaf 106 = .ok (.iload_n 2, 1) := by decide +kernel
theorem dX8_removeLeaf_107 : decode cX8_removeLeaf 107 = .ok (.aload_n 0, 1) := by decide +kernel
theorem dX8_removeLeaf_108 : decode cX8_removeLeaf 108 = .ok (.getfield 7, 3) := by decide +kernel
theorem dX8_removeLeaf_111 : decode cX8_removeLeaf 111 = .ok (.iconst 0, 1) := by decide +kernel
theorem dX8_removeLeaf_112 : decode cX8_removeLeaf 112 = .ok (.iaload, 1) := by decide +kernel
theorem dX8_removeLeaf_113 : decode cX8_removeLeaf 113 = .ok (.if_icmp .ge 39, 3) := by decide +kernel
theorem dX8_removeLeaf_116 : decode cX8_removeLeaf 116 = .ok (.aload_n 0, 1) := by decide +kernel
theorem dX8_removeLeaf_117 : decode cX8_removeLeaf 117 = .ok (.getfield 7, 3) := by decide +kernel
theorem dX8_removeLeaf_120 : decode cX8_removeLeaf 120 = .ok (.bipush 29, 2) := by decide +kernel
theorem dX8_removeLeaf_122 : decode cX8_removeLeaf 122 = .ok (.iload_n 2, 1) := by decide +kernel
theorem dX8_removeLeaf_123 : decode cX8_removeLeaf 123 = .ok (.iadd, 1) := by decide +kernel
theorem dX8_removeLeaf_124 : decode cX8_removeLeaf 124 = .ok (.dup2, 1) := by decide +kernel
theorem dX8_removeLeaf_125 : decode cX8_removeLeaf 125 = .ok (.iaload, 1) := by decide +kernel
theorem dX8_removeLeaf_126 : decode cX8_removeLeaf 126 = .ok (.aload_n 0, 1) := by decide +kernel
theorem dX8_removeLeaf_127 : decode cX8_removeLeaf 127 = .ok (.getfield 7, 3) := by decide +kernel
theorem dX8_removeLeaf_130 : decode cX8_removeLeaf 130 = .ok (.bipush 29, 2) := by decide +kernel
theorem dX8_removeLeaf_132 : decode cX8_removeLeaf 132 = .ok (.iload_n 2, 1) := by decide +kernel
theorem dX8_removeLeaf_133 : decode cX8_removeLeaf 133 = .ok (.iadd, 1) := by decide +kernel
theorem dX8_removeLeaf_134 : decode cX8_removeLeaf 134 = .ok (.iaload, 1) := by decide +kernel
theorem dX8_removeLeaf_135 : decode cX8_removeLeaf 135 = .ok (.iload_n 1, 1) := by decide +kernel
theorem dX8_removeLeaf_136 : decode cX8_removeLeaf 136 = .ok (.if_icmp .le 7, 3) := by decide +kernel
theorem dX8_removeLeaf_139 : decode cX8_removeLeaf 139 = .ok (.iconst 1, 1) := by decide +kernel
theorem dX8_removeLeaf_140 : decode cX8_removeLeaf 140 = .ok (.goto 4, 3) := by decide +kernel
theorem dX8_removeLeaf_143 : decode cX8_removeLeaf 143 = .ok (.iconst 0, 1) := by decide +kernel
theorem dX8_removeLeaf_144 : decode cX8_removeLeaf 144 = .ok (.isub, 1) := by decide +kernel
theorem dX8_removeLeaf_145 : decode cX8_removeLeaf 145 = .ok (.iastore, 1) := by decide +kernel
theorem dX8_removeLeaf_146 : decode cX8_removeLeaf 146 = .ok (.iinc 2 1, 3) := by decide +kernel
theorem dX8_removeLeaf_149 : decode cX8_removeLeaf 149 = .ok (.goto (-43), 3) := by decide +kernel
theorem dX8_removeLeaf_152 : decode cX8_removeLeaf 152 = .ok (.aload_n 0, 1) := by decide +kernel
theorem dX8_removeLeaf_153 : decode cX8_removeLeaf 153 = .ok (.getfield 7, 3) := by decide +kernel
theorem dX8_removeLeaf_156 : decode cX8_removeLeaf 156 = .ok (.iconst 0, 1) := by decide +kernel
theorem dX8_removeLeaf_157 : decode cX8_removeLeaf 157 = .ok (.iaload, 1) := by decide +kernel
theorem dX8_removeLeaf_158 : decode cX8_removeLeaf 158 = .ok (.ireturn, 1) := by decide +kernel
set_option maxRecDepth 20000 in
theorem ggX8_setParent_X8_isNode : GoodIn wsX8_setParent wsX8_isNode := goodIn_r _ [5, 6, 7, 8, 4, 9, 29, 30, 31, 32, 33, 34, 35, 36, 37, 38, 39, 40, 41, 42, 43, 44, 45, 46] (by decide +kernel) (by decide +kernel)
set_option maxRecDepth 20000 in
theorem gX8_setParent_X8_isNode : GoodIn wsX8_setParent (wsV RX8 75 RX8 yX8_isNode wsX8_isNode) := goodIn_app (goodIn_of _ (by decide +kernel)) ggX8_setParent_X8_isNode
set_option maxRecDepth 20000 in
theorem ggX8_setParent_X8_fails : GoodIn wsX8_setParent wsX8_fails := goodIn_r _ [13, 14, 29, 30, 31, 32, 33, 34, 35, 36, 37, 38, 39, 40, 41, 42, 43, 44, 45, 46] (by decide +kernel) (by decide +kernel)
set_option maxRecDepth 20000 in
theorem gX8_setParent_X8_fails : GoodIn wsX8_setParent (wsV RX8 64 RX8 yX8_fails wsX8_fails) := goodIn_app (goodIn_of _ (by decide +kernel)) ggX8_setParent_X8_fails
set_option maxRecDepth 20000 in
theorem ggX8_setParent_X8_isUnder : GoodIn wsX8_setParent wsX8_isUnder := goodIn_r _ [18, 6, 29, 30, 31, 32, 33, 34, 35, 36, 37, 38, 39, 40, 41, 42, 43, 44, 45, 46] (by decide +kernel) (by decide +kernel)
set_option maxRecDepth 20000 in
theorem gX8_setParent_X8_isUnder : GoodIn wsX8_setParent (wsV RX8 71 RX8 yX8_isUnder wsX8_isUnder) := goodIn_app (goodIn_of _ (by decide +kernel)) ggX8_setParent_X8_isUnder
set_option maxRecDepth 20000 in
theorem ggX8_setParent_X8_changes : GoodIn wsX8_setParent wsX8_changes := goodIn_r _ [22, 6, 23, 24, 25, 4, 26, 27, 28, 29, 30, 31, 32, 33, 34, 35, 36, 37, 38, 39, 40, 41, 42, 43, 44, 45, 46] (by decide +kernel) (by decide +kernel)
set_option maxRecDepth 20000 in
theorem gX8_setParent_X8_changes : GoodIn wsX8_setParent (wsV RX8 82 RX8 yX8_changes wsX8_changes) := goodIn_app (goodIn_of _ (by decide +kernel)) ggX8_setParent_X8_changes
theorem dX8_setParent_0 : decode cX8_setParent 0 = .ok (.aload_n 0, 1) := by decide +kernel
theorem dX8_setParent_1 : decode cX8_setParent 1 = .ok (.iload_n 1, 1) := by decide +kernel
theorem dX8_setParent_2 : decode cX8_setParent 2 = .ok (.invokevirtual 75, 3) := by decide +kernel
theorem dX8_setParent_5 : decode cX8_setParent 5 = .ok (.ifCond .eq 11, 3) := by decide +kernel
theorem dX8_setParent_8 : decode cX8_setParent 8 = .ok (.aload_n 0, 1) := by decide +kernel
theorem dX8_setParent_9 : decode cX8_setParent 9 = .ok (.iload_n 2, 1) := by decide +kernel
theorem dX8_setParent_10 : decode cX8_setParent 10 = .ok (.invokevirtual 75, 3) := by decide +kernel
theorem dX8_setParent_13 : decode cX8_setParent 13 = .ok (.ifCond .ne 10, 3) := by decide +kernel
theorem dX8_setParent_16 : decode cX8_setParent 16 = .ok (.aload_n 0, 1) := by decide +kernel
theorem dX8_setParent_17 : decode cX8_setParent 17 = .ok (.bipush (-2), 2) := by decide +kernel
theorem dX8_setParent_19 : decode cX8_setParent 19 = .ok (.invokevirtual 64, 3) := by decide +kernel
theorem dX8_setParent_22 : decode cX8_setParent 22 = .ok (.ireturn, 1) := by decide +kernel
theorem dX8_setParent_23 : decode cX8_setParent 23 = .ok (.iload_n 1, 1) := by decide +kernel
theorem dX8_setParent_24 : decode cX8_setParent 24 = .ok (.ifCond .eq 12, 3) := by decide +kernel
theorem dX8_setParent_27 : decode cX8_setParent 27 = .ok (.aload_n 0, 1) := by decide +kernel
theorem dX8_setParent_28 : decode cX8_setParent 28 = .ok (.iload_n 2, 1) := by decide +kernel
theorem dX8_setParent_29 : decode cX8_setParent 29 = .ok (.iload_n 1, 1) := by decide +kernel
theorem dX8_setParent_30 : decode cX8_setParent 30 = .ok (.invokevirtual 71, 3) := by decide +kernel
theorem dX8_setParent_33 : decode cX8_setParent 33 = .ok (.ifCond .eq 10, 3) := by decide +kernel
theorem dX8_setParent_36 : decode cX8_setParent 36 = .ok (.aload_n 0, 1) := by decide +kernel
theorem dX8_setParent_37 : decode cX8_setParent 37 = .ok (.bipush (-3), 2) := by decide +kernel
theorem dX8_setParent_39 : decode cX8_setParent 39 = .ok (.invokevirtual 64, 3) := by decide +kernel
theorem dX8_setParent_42 : decode cX8_setParent 42 = .ok (.ireturn, 1) := by decide +kernel
theorem dX8_setParent_43 : decode cX8_setParent 43 = .ok (.aload_n 0, 1) := by decide +kernel
theorem dX8_setParent_44 : decode cX8_setParent 44 = .ok (.bipush 29, 2) := by decide +kernel
theorem dX8_setParent_46 : decode cX8_setParent 46 = .ok (.iload_n 1, 1) := by decide +kernel
theorem dX8_setParent_47 : decode cX8_setParent 47 = .ok (.iadd, 1) := by decide +kernel
theorem dX8_setParent_48 : decode cX8_setParent 48 = .ok (.iload_n 2, 1) := by decide +kernel
theorem dX8_setParent_49 : decode cX8_setParent 49 = .ok (.invokevirtual 82, 3) := by decide +kernel
theorem dX8_setParent_52 : decode cX8_setParent 52 = .ok (.ireturn, 1) := by decide +kernel
set_option maxRecDepth 20000 in
theorem ggX8_setCanvas_X8_within : GoodIn wsX8_setCanvas wsX8_within := goodIn_r _ [5] (by decide +kernel) (by decide +kernel)
set_option maxRecDepth 20000 in
theorem gX8_setCanvas_X8_within : GoodIn wsX8_setCanvas (va_wsS RX8 56 yX8_within wsX8_within) := goodIn_app (goodIn_of _ (by decide +kernel)) ggX8_setCanvas_X8_within
set_option maxRecDepth 20000 in
theorem ggX8_setCanvas_X8_fails : GoodIn wsX8_setCanvas wsX8_fails := goodIn_r _ [9, 10, 17, 18, 19, 20, 21, 22, 23, 24, 25, 26, 27, 28, 29, 30, 31, 32, 33, 34] (by decide +kernel) (by decide +kernel)
set_option maxRecDepth 20000 in
theorem gX8_setCanvas_X8_fails : GoodIn wsX8_setCanvas (wsV RX8 64 RX8 yX8_fails wsX8_fails) := goodIn_app (goodIn_of _ (by decide +kernel)) ggX8_setCanvas_X8_fails
set_option maxRecDepth 20000 in
theorem ggX8_setCanvas_X8_saves : GoodIn wsX8_setCanvas wsX8_saves := goodIn_r _ [14, 15, 16, 1, 17, 18, 19, 20, 21, 22, 23, 24, 25, 26, 27, 28, 29, 30, 31, 32, 33, 34] (by decide +kernel) (by decide +kernel)
set_option maxRecDepth 20000 in
theorem gX8_setCanvas_X8_saves : GoodIn wsX8_setCanvas (wsV RX8 79 RX8 yX8_saves wsX8_saves) := goodIn_app (goodIn_of _ (by decide +kernel)) ggX8_setCanvas_X8_saves
theorem dX8_setCanvas_0 : decode cX8_setCanvas 0 = .ok (.iload_n 1, 1) := by decide +kernel
theorem dX8_setCanvas_1 : decode cX8_setCanvas 1 = .ok (.iconst 1, 1) := by decide +kernel
theorem dX8_setCanvas_2 : decode cX8_setCanvas 2 = .ok (.sipush 200, 3) := by decide +kernel
theorem dX8_setCanvas_5 : decode cX8_setCanvas 5 = .ok (.invokestatic 56, 3) := by decide +kernel
theorem dX8_setCanvas_8 : decode cX8_setCanvas 8 = .ok (.ifCond .eq 14, 3) := by decide +kernel
theorem dX8_setCanvas_11 : decode cX8_setCanvas 11 = .ok (.iload_n 2, 1) := by decide +kernel
theorem dX8_setCanvas_12 : decode cX8_setCanvas 12 = .ok (.iconst 1, 1) := by decide +kernel
theorem dX8_setCanvas_13 : decode cX8_setCanvas 13 = .ok (.sipush 200, 3) := by decide +kernel
theorem dX8_setCanvas_16 : decode cX8_setCanvas 16 = .ok (.invokestatic 56, 3) := by decide +kernel
theorem dX8_setCanvas_19 : decode cX8_setCanvas 19 = .ok (.ifCond .ne 10, 3) := by decide +kernel
theorem dX8_setCanvas_22 : decode cX8_setCanvas 22 = .ok (.aload_n 0, 1) := by decide +kernel
theorem dX8_setCanvas_23 : decode cX8_setCanvas 23 = .ok (.bipush (-2), 2) := by decide +kernel
theorem dX8_setCanvas_25 : decode cX8_setCanvas 25 = .ok (.invokevirtual 64, 3) := by decide +kernel
theorem dX8_setCanvas_28 : decode cX8_setCanvas 28 = .ok (.ireturn, 1) := by decide +kernel
theorem dX8_setCanvas_29 : decode cX8_setCanvas 29 = .ok (.aload_n 0, 1) := by decide +kernel
theorem dX8_setCanvas_30 : decode cX8_setCanvas 30 = .ok (.invokevirtual 79, 3) := by decide +kernel
theorem dX8_setCanvas_33 : decode cX8_setCanvas 33 = .ok (.sipush 1000, 3) := by decide +kernel
theorem dX8_setCanvas_36 : decode cX8_setCanvas 36 = .ok (.aload_n 0, 1) := by decide +kernel
theorem dX8_setCanvas_37 : decode cX8_setCanvas 37 = .ok (.getfield 7, 3) := by decide +kernel
theorem dX8_setCanvas_40 : decode cX8_setCanvas 40 = .ok (.iconst 1, 1) := by decide +kernel
theorem dX8_setCanvas_41 : decode cX8_setCanvas 41 = .ok (.iaload, 1) := by decide +kernel
theorem dX8_setCanvas_42 : decode cX8_setCanvas 42 = .ok (.imul, 1) := by decide +kernel
theorem dX8_setCanvas_43 : decode cX8_setCanvas 43 = .ok (.aload_n 0, 1) := by decide +kernel
theorem dX8_setCanvas_44 : decode cX8_setCanvas 44 = .ok (.getfield 7, 3) := by decide +kernel
theorem dX8_setCanvas_47 : decode cX8_setCanvas 47 = .ok (.iconst 2, 1) := by decide +kernel
theorem dX8_setCanvas_48 : decode cX8_setCanvas 48 = .ok (.iaload, 1) := by decide +kernel
theorem dX8_setCanvas_49 : decode cX8_setCanvas 49 = .ok (.iadd, 1) := by decide +kernel
theorem dX8_setCanvas_50 : decode cX8_setCanvas 50 = .ok (.istore_n 3, 1) := by decide +kernel
theorem dX8_setCanvas_51 : decode cX8_setCanvas 51 = .ok (.aload_n 0, 1) := by decide +kernel
theorem dX8_setCanvas_52 : decode cX8_setCanvas 52 = .ok (.getfield 7, 3) := by decide +kernel
theorem dX8_setCanvas_55 : decode cX8_setCanvas 55 = .ok (.iconst 1, 1) := by decide +kernel
theorem dX8_setCanvas_56 : decode cX8_setCanvas 56 = .ok (.iload_n 1, 1) := by decide +kernel
theorem dX8_setCanvas_57 : decode cX8_setCanvas 57 = .ok (.iastore, 1) := by decide +kernel
theorem dX8_setCanvas_58 : decode cX8_setCanvas 58 = .ok (.aload_n 0, 1) := by decide +kernel
theorem dX8_setCanvas_59 : decode cX8_setCanvas 59 = .ok (.getfield 7, 3) := by decide +kernel
theorem dX8_setCanvas_62 : decode cX8_setCanvas 62 = .ok (.iconst 2, 1) := by decide +kernel
theorem dX8_setCanvas_63 : decode cX8_setCanvas 63 = .ok (.iload_n 2, 1) := by decide +kernel
theorem dX8_setCanvas_64 : decode cX8_setCanvas 64 = .ok (.iastore, 1) := by decide +kernel
theorem dX8_setCanvas_65 : decode cX8_setCanvas 65 = .ok (.iload_n 3, 1) := by decide +kernel
theorem dX8_setCanvas_66 : decode cX8_setCanvas 66 = .ok (.ireturn, 1) := by decide +kernel
set_option maxRecDepth 20000 in
theorem ggX8_setPadding_X8_within : GoodIn wsX8_setPadding wsX8_within := goodIn_r _ [4] (by decide +kernel) (by decide +kernel)
set_option maxRecDepth 20000 in
theorem gX8_setPadding_X8_within : GoodIn wsX8_setPadding (va_wsS RX8 56 yX8_within wsX8_within) := goodIn_app (goodIn_of _ (by decide +kernel)) ggX8_setPadding_X8_within
set_option maxRecDepth 20000 in
theorem ggX8_setPadding_X8_changes : GoodIn wsX8_setPadding wsX8_changes := goodIn_r _ [8, 9, 10, 11, 12, 3, 13, 14, 15, 21, 22, 23, 24, 25, 26, 27, 28, 29, 30, 31, 32, 33, 34, 35, 36, 37, 38] (by decide +kernel) (by decide +kernel)
set_option maxRecDepth 20000 in
theorem gX8_setPadding_X8_changes : GoodIn wsX8_setPadding (wsV RX8 82 RX8 yX8_changes wsX8_changes) := goodIn_app (goodIn_of _ (by decide +kernel)) ggX8_setPadding_X8_changes
set_option maxRecDepth 20000 in
theorem ggX8_setPadding_X8_fails : GoodIn wsX8_setPadding wsX8_fails := goodIn_r _ [19, 20, 21, 22, 23, 24, 25, 26, 27, 28, 29, 30, 31, 32, 33, 34, 35, 36, 37, 38] (by decide +kernel) (by decide +kernel)
set_option maxRecDepth 20000 in
theorem gX8_setPadding_X8_fails : GoodIn wsX8_setPadding (wsV RX8 64 RX8 yX8_fails wsX8_fails) := goodIn_app (goodIn_of _ (by decide +kernel)) ggX8_setPadding_X8_fails
theorem dX8_setPadding_0 : decode cX8_setPadding 0 = .ok (.iload_n 1, 1) := by decide +kernel
theorem dX8_setPadding_1 : decode cX8_setPadding 1 = .ok (.iconst 0, 1) := by decide +kernel
theorem dX8_setPadding_2 : decode cX8_setPadding 2 = .ok (.iconst 3, 1) := by decide +kernel
theorem dX8_setPadding_3 : decode cX8_setPadding 3 = .ok (.invokestatic 56, 3) := by decide +kernel
theorem dX8_setPadding_6 : decode cX8_setPadding 6 = .ok (.ifCond .eq 12, 3) := by decide +kernel
theorem dX8_setPadding_9 : decode cX8_setPadding 9 = .ok (.aload_n 0, 1) := by decide +kernel
theorem dX8_setPadding_10 : decode cX8_setPadding 10 = .ok (.iconst 3, 1) := by decide +kernel
theorem dX8_setPadding_11 : decode cX8_setPadding 11 = .ok (.iload_n 1, 1) := by decide +kernel
theorem dX8_setPadding_12 : decode cX8_setPadding 12 = .ok (.invokevirtual 82, 3) := by decide +kernel
theorem dX8_setPadding_15 : decode cX8_setPadding 15 = .ok (.goto 9, 3) := by decide +kernel
theorem dX8_setPadding_18 : decode cX8_setPadding 18 = .ok (.aload_n 0, 1) := by decide +kernel
theorem dX8_setPadding_19 : decode cX8_setPadding 19 = .ok (.bipush (-2), 2) := by decide +kernel
theorem dX8_setPadding_21 : decode cX8_setPadding 21 = .ok (.invokevirtual 64, 3) := by decide +kernel
theorem dX8_setPadding_24 : decode cX8_setPadding 24 = .ok (.ireturn, 1) := by decide +kernel
set_option maxRecDepth 20000 in
theorem ggX8_setMode_X8_within : GoodIn wsX8_setMode wsX8_within := goodIn_r _ [4] (by decide +kernel) (by decide +kernel)
set_option maxRecDepth 20000 in
theorem gX8_setMode_X8_within : GoodIn wsX8_setMode (va_wsS RX8 56 yX8_within wsX8_within) := goodIn_app (goodIn_of _ (by decide +kernel)) ggX8_setMode_X8_within
set_option maxRecDepth 20000 in
theorem ggX8_setMode_X8_changes : GoodIn wsX8_setMode wsX8_changes := goodIn_r _ [8, 9, 10, 11, 12, 3, 13, 14, 15, 21, 22, 23, 24, 25, 26, 27, 28, 29, 30, 31, 32, 33, 34, 35, 36, 37, 38] (by decide +kernel) (by decide +kernel)
set_option maxRecDepth 20000 in
theorem gX8_setMode_X8_changes : GoodIn wsX8_setMode (wsV RX8 82 RX8 yX8_changes wsX8_changes) := goodIn_app (goodIn_of _ (by decide +kernel)) ggX8_setMode_X8_changes
set_option maxRecDepth 20000 in
theorem ggX8_setMode_X8_fails : GoodIn wsX8_setMode wsX8_fails := goodIn_r _ [19, 20, 21, 22, 23, 24, 25, 26, 27, 28, 29, 30, 31, 32, 33, 34, 35, 36, 37, 38] (by decide +kernel) (by decide +kernel)
set_option maxRecDepth 20000 in
theorem gX8_setMode_X8_fails : GoodIn wsX8_setMode (wsV RX8 64 RX8 yX8_fails wsX8_fails) := goodIn_app (goodIn_of _ (by decide +kernel)) ggX8_setMode_X8_fails
theorem dX8_setMode_0 : decode cX8_setMode 0 = .ok (.iload_n 1, 1) := by decide +kernel
theorem dX8_setMode_1 : decode cX8_setMode 1 = .ok (.iconst 0, 1) := by decide +kernel
theorem dX8_setMode_2 : decode cX8_setMode 2 = .ok (.iconst 2, 1) := by decide +kernel
theorem dX8_setMode_3 : decode cX8_setMode 3 = .ok (.invokestatic 56, 3) := by decide +kernel
theorem dX8_setMode_6 : decode cX8_setMode 6 = .ok (.ifCond .eq 12, 3) := by decide +kernel
theorem dX8_setMode_9 : decode cX8_setMode 9 = .ok (.aload_n 0, 1) := by decide +kernel
theorem dX8_setMode_10 : decode cX8_setMode 10 = .ok (.iconst 4, 1) := by decide +kernel
theorem dX8_setMode_11 : decode cX8_setMode 11 = .ok (.iload_n 1, 1) := by decide +kernel
theorem dX8_setMode_12 : decode cX8_setMode 12 = .ok (.invokevirtual 82, 3) := by decide +kernel
theorem dX8_setMode_15 : decode cX8_setMode 15 = .ok (.goto 9, 3) := by decide +kernel
theorem dX8_setMode_18 : decode cX8_setMode 18 = .ok (.aload_n 0, 1) := by decide +kernel
theorem dX8_setMode_19 : decode cX8_setMode 19 = .ok (.bipush (-2), 2) := by decide +kernel
theorem dX8_setMode_21 : decode cX8_setMode 21 = .ok (.invokevirtual 64, 3) := by decide +kernel
theorem dX8_setMode_24 : decode cX8_setMode 24 = .ok (.ireturn, 1) := by decide +kernel
theorem dX8_nodeCount_0 : decode cX8_nodeCount 0 = .ok (.aload_n 0, 1) := by decide +kernel
theorem dX8_nodeCount_1 : decode cX8_nodeCount 1 = .ok (.getfield 7, 3) := by decide +kernel
theorem dX8_nodeCount_4 : decode cX8_nodeCount 4 = .ok (.iconst 0, 1) := by decide +kernel
theorem dX8_nodeCount_5 : decode cX8_nodeCount 5 = .ok (.iaload, 1) := by decide +kernel
theorem dX8_nodeCount_6 : decode cX8_nodeCount 6 = .ok (.ireturn, 1) := by decide +kernel
set_option maxRecDepth 20000 in
theorem ggX8_size_X8_isNode : GoodIn wsX8_size wsX8_isNode := goodIn_r _ [5, 6, 7, 8, 4, 9, 27, 28, 29, 30, 31, 32, 33, 34, 35, 36, 37, 38, 39, 40, 41, 42, 43, 44] (by decide +kernel) (by decide +kernel)
set_option maxRecDepth 20000 in
theorem gX8_size_X8_isNode : GoodIn wsX8_size (wsV RX8 75 RX8 yX8_isNode wsX8_isNode) := goodIn_app (goodIn_of _ (by decide +kernel)) ggX8_size_X8_isNode
set_option maxRecDepth 20000 in
theorem ggX8_size_X8_sizeOf : GoodIn wsX8_size wsX8_sizeOf := goodIn_r _ [13, 6, 14, 15, 16, 4, 17, 18, 19, 20, 21, 27, 28, 29, 30, 31, 32, 33, 34, 35, 36, 37, 38, 39, 40, 41, 42, 43, 44] (by decide +kernel) (by decide +kernel)
set_option maxRecDepth 20000 in
theorem gX8_size_X8_sizeOf : GoodIn wsX8_size (wsV RX8 86 RX8 yX8_sizeOf wsX8_sizeOf) := goodIn_app (goodIn_of _ (by decide +kernel)) ggX8_size_X8_sizeOf
set_option maxRecDepth 20000 in
theorem ggX8_size_X8_fails : GoodIn wsX8_size wsX8_fails := goodIn_r _ [25, 26, 27, 28, 29, 30, 31, 32, 33, 34, 35, 36, 37, 38, 39, 40, 41, 42, 43, 44] (by decide +kernel) (by decide +kernel)
set_option maxRecDepth 20000 in
theorem gX8_size_X8_fails : GoodIn wsX8_size (wsV RX8 64 RX8 yX8_fails wsX8_fails) := goodIn_app (goodIn_of _ (by decide +kernel)) ggX8_size_X8_fails
theorem dX8_size_0 : decode cX8_size 0 = .ok (.aload_n 0, 1) := by decide +kernel
theorem dX8_size_1 : decode cX8_size 1 = .ok (.iload_n 1, 1) := by decide +kernel
theorem dX8_size_2 : decode cX8_size 2 = .ok (.invokevirtual 75, 3) := by decide +kernel
theorem dX8_size_5 : decode cX8_size 5 = .ok (.ifCond .eq 11, 3) := by decide +kernel
theorem dX8_size_8 : decode cX8_size 8 = .ok (.aload_n 0, 1) := by decide +kernel
theorem dX8_size_9 : decode cX8_size 9 = .ok (.iload_n 1, 1) := by decide +kernel
theorem dX8_size_10 : decode cX8_size 10 = .ok (.invokevirtual 86, 3) := by decide +kernel
theorem dX8_size_13 : decode cX8_size 13 = .ok (.goto 9, 3) := by decide +kernel
theorem dX8_size_16 : decode cX8_size 16 = .ok (.aload_n 0, 1) := by decide +kernel
theorem dX8_size_17 : decode cX8_size 17 = .ok (.bipush (-2), 2) := by decide +kernel
theorem dX8_size_19 : decode cX8_size 19 = .ok (.invokevirtual 64, 3) := by decide +kernel
theorem dX8_size_22 : decode cX8_size 22 = .ok (.ireturn, 1) := by decide +kernel
set_option maxRecDepth 20000 in
theorem ggX8_parent_X8_isNode : GoodIn wsX8_parent wsX8_isNode := goodIn_r _ [6, 1, 7, 8, 5, 9, 15, 16, 17, 18, 19, 20, 21, 22, 23, 24, 25, 26, 27, 28, 29, 30, 31, 32] (by decide +kernel) (by decide +kernel)
set_option maxRecDepth 20000 in
theorem gX8_parent_X8_isNode : GoodIn wsX8_parent (wsV RX8 75 RX8 yX8_isNode wsX8_isNode) := goodIn_app (goodIn_of _ (by decide +kernel)) ggX8_parent_X8_isNode
set_option maxRecDepth 20000 in
theorem ggX8_parent_X8_fails : GoodIn wsX8_parent wsX8_fails := goodIn_r _ [13, 14, 15, 16, 17, 18, 19, 20, 21, 22, 23, 24, 25, 26, 27, 28, 29, 30, 31, 32] (by decide +kernel) (by decide +kernel)
set_option maxRecDepth 20000 in
theorem gX8_parent_X8_fails : GoodIn wsX8_parent (wsV RX8 64 RX8 yX8_fails wsX8_fails) := goodIn_app (goodIn_of _ (by decide +kernel)) ggX8_parent_X8_fails
theorem dX8_parent_0 : decode cX8_parent 0 = .ok (.aload_n 0, 1) := by decide +kernel
theorem dX8_parent_1 : decode cX8_parent 1 = .ok (.iload_n 1, 1) := by decide +kernel
theorem dX8_parent_2 : decode cX8_parent 2 = .ok (.invokevirtual 75, 3) := by decide +kernel
theorem dX8_parent_5 : decode cX8_parent 5 = .ok (.ifCond .eq 15, 3) := by decide +kernel
theorem dX8_parent_8 : decode cX8_parent 8 = .ok (.aload_n 0, 1) := by decide +kernel
theorem dX8_parent_9 : decode cX8_parent 9 = .ok (.getfield 7, 3) := by decide +kernel
theorem dX8_parent_12 : decode cX8_parent 12 = .ok (.bipush 29, 2) := by decide +kernel
theorem dX8_parent_14 : decode cX8_parent 14 = .ok (.iload_n 1, 1) := by decide +kernel
theorem dX8_parent_15 : decode cX8_parent 15 = .ok (.iadd, 1) := by decide +kernel
theorem dX8_parent_16 : decode cX8_parent 16 = .ok (.iaload, 1) := by decide +kernel
theorem dX8_parent_17 : decode cX8_parent 17 = .ok (.goto 9, 3) := by decide +kernel
theorem dX8_parent_20 : decode cX8_parent 20 = .ok (.aload_n 0, 1) := by decide +kernel
theorem dX8_parent_21 : decode cX8_parent 21 = .ok (.bipush (-2), 2) := by decide +kernel
theorem dX8_parent_23 : decode cX8_parent 23 = .ok (.invokevirtual 64, 3) := by decide +kernel
theorem dX8_parent_26 : decode cX8_parent 26 = .ok (.ireturn, 1) := by decide +kernel
set_option maxRecDepth 20000 in
theorem ggX8_depth_X8_isNode : GoodIn wsX8_depth wsX8_isNode := goodIn_r _ [5, 6, 7, 8, 4, 9, 19, 20, 21, 22, 23, 24, 25, 26, 27, 28, 29, 30, 31, 32, 33, 34, 35, 36] (by decide +kernel) (by decide +kernel)
set_option maxRecDepth 20000 in
theorem gX8_depth_X8_isNode : GoodIn wsX8_depth (wsV RX8 75 RX8 yX8_isNode wsX8_isNode) := goodIn_app (goodIn_of _ (by decide +kernel)) ggX8_depth_X8_isNode
set_option maxRecDepth 20000 in
theorem ggX8_depth_X8_depthOf : GoodIn wsX8_depth wsX8_depthOf := goodIn_r _ [13, 6, 19, 20, 21, 22, 23, 24, 25, 26, 27, 28, 29, 30, 31, 32, 33, 34, 35, 36] (by decide +kernel) (by decide +kernel)
set_option maxRecDepth 20000 in
theorem gX8_depth_X8_depthOf : GoodIn wsX8_depth (wsV RX8 89 RX8 yX8_depthOf wsX8_depthOf) := goodIn_app (goodIn_of _ (by decide +kernel)) ggX8_depth_X8_depthOf
set_option maxRecDepth 20000 in
theorem ggX8_depth_X8_fails : GoodIn wsX8_depth wsX8_fails := goodIn_r _ [17, 18, 19, 20, 21, 22, 23, 24, 25, 26, 27, 28, 29, 30, 31, 32, 33, 34, 35, 36] (by decide +kernel) (by decide +kernel)
set_option maxRecDepth 20000 in
theorem gX8_depth_X8_fails : GoodIn wsX8_depth (wsV RX8 64 RX8 yX8_fails wsX8_fails) := goodIn_app (goodIn_of _ (by decide +kernel)) ggX8_depth_X8_fails
theorem dX8_depth_0 : decode cX8_depth 0 = .ok (.aload_n 0, 1) := by decide +kernel
theorem dX8_depth_1 : decode cX8_depth 1 = .ok (.iload_n 1, 1) := by decide +kernel
theorem dX8_depth_2 : decode cX8_depth 2 = .ok (.invokevirtual 75, 3) := by decide +kernel
theorem dX8_depth_5 : decode cX8_depth 5 = .ok (.ifCond .eq 11, 3) := by decide +kernel
theorem dX8_depth_8 : decode cX8_depth 8 = .ok (.aload_n 0, 1) := by decide +kernel
theorem dX8_depth_9 : decode cX8_depth 9 = .ok (.iload_n 1, 1) := by decide +kernel
theorem dX8_depth_10 : decode cX8_depth 10 = .ok (.invokevirtual 89, 3) := by decide +kernel
theorem dX8_depth_13 : decode cX8_depth 13 = .ok (.goto 9, 3) := by decide +kernel
theorem dX8_depth_16 : decode cX8_depth 16 = .ok (.aload_n 0, 1) := by decide +kernel
theorem dX8_depth_17 : decode cX8_depth 17 = .ok (.bipush (-2), 2) := by decide +kernel
theorem dX8_depth_19 : decode cX8_depth 19 = .ok (.invokevirtual 64, 3) := by decide +kernel
theorem dX8_depth_22 : decode cX8_depth 22 = .ok (.ireturn, 1) := by decide +kernel
set_option maxRecDepth 20000 in
theorem ggX8_leaves_X8_childMany : GoodIn wsX8_leaves wsX8_childMany := goodIn_r _ [6, 1, 7, 8, 9, 10, 11, 12, 13, 14, 15, 16, 17, 18, 19, 20, 21, 22, 23, 24] (by decide +kernel) (by decide +kernel)
set_option maxRecDepth 20000 in
theorem gX8_leaves_X8_childMany : GoodIn wsX8_leaves (wsV RX8 68 RX8 yX8_childMany wsX8_childMany) := goodIn_app (goodIn_of _ (by decide +kernel)) ggX8_leaves_X8_childMany
theorem dX8_leaves_0 : decode cX8_leaves 0 = .ok (.iconst 0, 1) := by decide +kernel
theorem dX8_leaves_1 : decode cX8_leaves 1 = .ok (.istore_n 1, 1) := by decide +kernel
theorem dX8_leaves_2 : decode cX8_leaves 2 = .ok (.iconst 0, 1) := by decide +kernel
theorem dX8_leaves_3 : decode cX8_leaves 3 = .ok (.istore_n 2, 1) := by decide +kernel
theorem dX8_leaves_4 : decode cX8_leaves 4 = .ok (.iload_n 2, 1) := by decide +kernel
theorem dX8_leaves_5 : decode cX8_leaves 5 = .ok (.aload_n 0, 1) := by decide +kernel
theorem dX8_leaves_6 : decode cX8_leaves 6 = .ok (.getfield 7, 3) := by decide +kernel
theorem dX8_leaves_9 : decode cX8_leaves 9 = .ok (.iconst 0, 1) := by decide +kernel
theorem dX8_leaves_10 : decode cX8_leaves 10 = .ok (.iaload, 1) := by decide +kernel
theorem dX8_leaves_11 : decode cX8_leaves 11 = .ok (.if_icmp .ge 25, 3) := by decide +kernel
theorem dX8_leaves_14 : decode cX8_leaves 14 = .ok (.iload_n 1, 1) := by decide +kernel
theorem dX8_leaves_15 : decode cX8_leaves 15 = .ok (.aload_n 0, 1) := by decide +kernel
theorem dX8_leaves_16 : decode cX8_leaves 16 = .ok (.iload_n 2, 1) := by decide +kernel
theorem dX8_leaves_17 : decode cX8_leaves 17 = .ok (.invokevirtual 68, 3) := by decide +kernel
theorem dX8_leaves_20 : decode cX8_leaves 20 = .ok (.ifCond .ne 7, 3) := by decide +kernel
theorem dX8_leaves_23 : decode cX8_leaves 23 = .ok (.iconst 1, 1) := by decide +kernel
theorem dX8_leaves_24 : decode cX8_leaves 24 = .ok (.goto 4, 3) := by decide +kernel
theorem dX8_leaves_27 : decode cX8_leaves 27 = .ok (.iconst 0, 1) := by decide +kernel
theorem dX8_leaves_28 : decode cX8_leaves 28 = .ok (.iadd, 1) := by decide +kernel
theorem dX8_leaves_29 : decode cX8_leaves 29 = .ok (.istore_n 1, 1) := by decide +kernel
theorem dX8_leaves_30 : decode cX8_leaves 30 = .ok (.iinc 2 1, 3) := by decide +kernel
theorem dX8_leaves_33 : decode cX8_leaves 33 = .ok (.goto (-29), 3) := by decide +kernel
theorem dX8_leaves_36 : decode cX8_leaves 36 = .ok (.iload_n 1, 1) := by decide +kernel
theorem dX8_leaves_37 : decode cX8_leaves 37 = .ok (.ireturn, 1) := by decide +kernel
set_option maxRecDepth 20000 in
theorem ggX8_leafCount_X8_leaves : GoodIn wsX8_leafCount wsX8_leaves := goodIn_r _ [5, 6, 7, 8, 9, 4, 10, 11, 12, 13, 14, 15, 16, 17, 18, 19, 20, 21, 22, 23, 24, 25, 26, 27, 28] (by decide +kernel) (by decide +kernel)
set_option maxRecDepth 20000 in
theorem gX8_leafCount_X8_leaves : GoodIn wsX8_leafCount (wsV RX8 92 RX8 yX8_leaves wsX8_leaves) := goodIn_app (goodIn_of _ (by decide +kernel)) ggX8_leafCount_X8_leaves
theorem dX8_leafCount_0 : decode cX8_leafCount 0 = .ok (.aload_n 0, 1) := by decide +kernel
theorem dX8_leafCount_1 : decode cX8_leafCount 1 = .ok (.invokevirtual 92, 3) := by decide +kernel
theorem dX8_leafCount_4 : decode cX8_leafCount 4 = .ok (.ireturn, 1) := by decide +kernel
theorem dX8_parts_0 : decode cX8_parts 0 = .ok (.iconst 0, 1) := by decide +kernel
theorem dX8_parts_1 : decode cX8_parts 1 = .ok (.istore_n 3, 1) := by decide +kernel
theorem dX8_parts_2 : decode cX8_parts 2 = .ok (.iconst 0, 1) := by decide +kernel
theorem dX8_parts_3 : decode cX8_parts 3 = .ok (.istore 4, 2) := by decide +kernel
theorem dX8_parts_5 : decode cX8_parts 5 = .ok (.iload 4, 2) := by decide +kernel
theorem dX8_parts_7 : decode cX8_parts 7 = .ok (.iload_n 2, 1) := by decide +kernel
theorem dX8_parts_8 : decode cX8_parts 8 = .ok (.if_icmp .ge 19, 3) := by decide +kernel
theorem dX8_parts_11 : decode cX8_parts 11 = .ok (.iload_n 3, 1) := by decide +kernel
theorem dX8_parts_12 : decode cX8_parts 12 = .ok (.aload_n 0, 1) := by decide +kernel
theorem dX8_parts_13 : decode cX8_parts 13 = .ok (.getfield 19, 3) := by decide +kernel
theorem dX8_parts_16 : decode cX8_parts 16 = .ok (.iload 4, 2) := by decide +kernel
theorem dX8_parts_18 : decode cX8_parts 18 = .ok (.iaload, 1) := by decide +kernel
theorem dX8_parts_19 : decode cX8_parts 19 = .ok (.iadd, 1) := by decide +kernel
theorem dX8_parts_20 : decode cX8_parts 20 = .ok (.istore_n 3, 1) := by decide +kernel
theorem dX8_parts_21 : decode cX8_parts 21 = .ok (.iinc 4 1, 3) := by decide +kernel
theorem dX8_parts_24 : decode cX8_parts 24 = .ok (.goto (-19), 3) := by decide +kernel
theorem dX8_parts_27 : decode cX8_parts 27 = .ok (.iload_n 1, 1) := by decide +kernel
theorem dX8_parts_28 : decode cX8_parts 28 = .ok (.istore 4, 2) := by decide +kernel
theorem dX8_parts_30 : decode cX8_parts 30 = .ok (.iconst 0, 1) := by decide +kernel
theorem dX8_parts_31 : decode cX8_parts 31 = .ok (.istore 5, 2) := by decide +kernel
theorem dX8_parts_33 : decode cX8_parts 33 = .ok (.iload 5, 2) := by decide +kernel
theorem dX8_parts_35 : decode cX8_parts 35 = .ok (.iload_n 2, 1) := by decide +kernel
theorem dX8_parts_36 : decode cX8_parts 36 = .ok (.if_icmp .ge 39, 3) := by decide +kernel
theorem dX8_parts_39 : decode cX8_parts 39 = .ok (.aload_n 0, 1) := by decide +kernel
theorem dX8_parts_40 : decode cX8_parts 40 = .ok (.getfield 22, 3) := by decide +kernel
theorem dX8_parts_43 : decode cX8_parts 43 = .ok (.iload 5, 2) := by decide +kernel
theorem dX8_parts_45 : decode cX8_parts 45 = .ok (.aload_n 0, 1) := by decide +kernel
theorem dX8_parts_46 : decode cX8_parts 46 = .ok (.getfield 19, 3) := by decide +kernel
theorem dX8_parts_49 : decode cX8_parts 49 = .ok (.iload 5, 2) := by decide +kernel
theorem dX8_parts_51 : decode cX8_parts 51 = .ok (.iaload, 1) := by decide +kernel
theorem dX8_parts_52 : decode cX8_parts 52 = .ok (.iload_n 1, 1) := by decide +kernel
theorem dX8_parts_53 : decode cX8_parts 53 = .ok (.imul, 1) := by decide +kernel
theorem dX8_parts_54 : decode cX8_parts 54 = .ok (.iload_n 3, 1) := by decide +kernel
theorem dX8_parts_55 : decode cX8_parts 55 = .ok (.idiv, 1) := by decide +kernel
theorem dX8_parts_56 : decode cX8_parts 56 = .ok (.iastore, 1) := by decide +kernel
theorem dX8_parts_57 : decode cX8_parts 57 = .ok (.iload 4, 2) := by decide +kernel
theorem dX8_parts_59 : decode cX8_parts 59 = .ok (.aload_n 0, 1) := by decide +kernel
theorem dX8_parts_60 : decode cX8_parts 60 = .ok (.getfield 22, 3) := by decide +kernel
theorem dX8_parts_63 : decode cX8_parts 63 = .ok (.iload 5, 2) := by decide +kernel
theorem dX8_parts_65 : decode cX8_parts 65 = .ok (.iaload, 1) := by decide +kernel
theorem dX8_parts_66 : decode cX8_parts 66 = .ok (.isub, 1) := by decide +kernel
theorem dX8_parts_67 : decode cX8_parts 67 = .ok (.istore 4, 2) := by decide +kernel
theorem dX8_parts_69 : decode cX8_parts 69 = .ok (.iinc 5 1, 3) := by decide +kernel
theorem dX8_parts_72 : decode cX8_parts 72 = .ok (.goto (-39), 3) := by decide +kernel
theorem dX8_parts_75 : decode cX8_parts 75 = .ok (.iconst 0, 1) := by decide +kernel
theorem dX8_parts_76 : decode cX8_parts 76 = .ok (.istore 5, 2) := by decide +kernel
theorem dX8_parts_78 : decode cX8_parts 78 = .ok (.iload 4, 2) := by decide +kernel
theorem dX8_parts_80 : decode cX8_parts 80 = .ok (.ifCond .le 109, 3) := by decide +kernel
theorem dX8_parts_83 : decode cX8_parts 83 = .ok (.iconst (-1), 1) := by decide +kernel
theorem dX8_parts_84 : decode cX8_parts 84 = .ok (.istore 6, 2) := by decide +kernel
theorem dX8_parts_86 : decode cX8_parts 86 = .ok (.iconst 0, 1) := by decide +kernel
theorem dX8_parts_87 : decode cX8_parts 87 = .ok (.istore 7, 2) := by decide +kernel
theorem dX8_parts_89 : decode cX8_parts 89 = .ok (.iload 7, 2) := by decide +kernel
theorem dX8_parts_91 : decode cX8_parts 91 = .ok (.iload_n 2, 1) := by decide +kernel
theorem dX8_parts_92 : decode cX8_parts 92 = .ok (.if_icmp .ge 71, 3) := by decide +kernel
theorem dX8_parts_95 : decode cX8_parts 95 = .ok (.iload 5, 2) := by decide +kernel
theorem dX8_parts_97 : decode cX8_parts 97 = .ok (.iload 7, 2) := by decide +kernel
theorem dX8_parts_99 : decode cX8_parts 99 = .ok (.ishr, 1) := by decide +kernel
theorem dX8_parts_100 : decode cX8_parts 100 = .ok (.iconst 1, 1) := by decide +kernel
theorem dX8_parts_101 : decode cX8_parts 101 = .ok (.iand, 1) := by decide +kernel
theorem dX8_parts_102 : decode cX8_parts 102 = .ok (.ifCond .ne 7, 3) := by decide +kernel
theorem dX8_parts_105 : decode cX8_parts 105 = .ok (.iconst 1, 1) := by decide +kernel
theorem dX8_parts_106 : decode cX8_parts 106 = .ok (.goto 4, 3) := by decide +kernel
theorem dX8_parts_109 : decode cX8_parts 109 = .ok (.iconst 0, 1) := by decide +kernel
theorem dX8_parts_110 : decode cX8_parts 110 = .ok (.istore 8, 2) := by decide +kernel
theorem dX8_parts_112 : decode cX8_parts 112 = .ok (.iload 8, 2) := by decide +kernel
theorem dX8_parts_114 : decode cX8_parts 114 = .ok (.ifCond .eq 39, 3) := by decide +kernel
theorem dX8_parts_117 : decode cX8_parts 117 = .ok (.iload 6, 2) := by decide +kernel
theorem dX8_parts_119 : decode cX8_parts 119 = .ok (.iconst (-1), 1) := by decide +kernel
theorem dX8_parts_120 : decode cX8_parts 120 = .ok (.if_icmp .eq 28, 3) := by decide +kernel
theorem dX8_parts_123 : decode cX8_parts 123 = .ok (.aload_n 0, 1) := by decide +kernel
theorem dX8_parts_124 : decode cX8_parts 124 = .ok (.getfield 19, 3) := by decide +kernel
theorem dX8_parts_127 : decode cX8_parts 127 = .ok (.iload 7, 2) := by decide +kernel
theorem dX8_parts_129 : decode cX8_parts 129 = .ok (.iaload, 1) := by decide +kernel
theorem dX8_parts_130 : decode cX8_parts 130 = .ok (.iload_n 1, 1) := by decide +kernel
theorem dX8_parts_131 : decode cX8_parts 131 = .ok (.imul, 1) := by decide +kernel
theorem dX8_parts_132 : decode cX8_parts 132 = .ok (.iload_n 3, 1) := by decide +kernel
theorem dX8_parts_133 : decode cX8_parts 133 = .ok (.irem, 1) := by decide +kernel
theorem dX8_parts_134 : decode cX8_parts 134 = .ok (.aload_n 0, 1) := by decide +kernel
theorem dX8_parts_135 : decode cX8_parts 135 = .ok (.getfield 19, 3) := by decide +kernel
theorem dX8_parts_138 : decode cX8_parts 138 = .ok (.iload 6, 2) := by decide +kernel
theorem dX8_parts_140 : decode cX8_parts 140 = .ok (.iaload, 1) := by decide +kernel
theorem dX8_parts_141 : decode cX8_parts 141 = .ok (.iload_n 1, 1) := by decide +kernel
theorem dX8_parts_142 : decode cX8_parts 142 = .ok (.imul, 1) := by decide +kernel
theorem dX8_parts_143 : decode cX8_parts 143 = .ok (.iload_n 3, 1) := by decide +kernel
theorem dX8_parts_144 : decode cX8_parts 144 = .ok (.irem, 1) := by decide +kernel
theorem dX8_parts_145 : decode cX8_parts 145 = .ok (.if_icmp .le 8, 3) := by decide +kernel
theorem dX8_parts_148 : decode cX8_parts 148 = .ok (.iload 7, 2) := by decide +kernel
theorem dX8_parts_150 : decode cX8_parts 150 = .ok (.goto 5, 3) := by decide +kernel
theorem dX8_parts_153 : decode cX8_parts 153 = .ok (.iload 6, 2) := by decide +kernel
theorem dX8_parts_155 : decode cX8_parts 155 = .ok (.istore 6, 2) := by decide +kernel
theorem dX8_parts_157 : decode cX8_parts 157 = .ok (.iinc 7 1, 3) := by decide +kernel
theorem dX8_parts_160 : decode cX8_parts 160 = .ok (.goto (-71), 3) := by decide +kernel
theorem dX8_parts_163 : decode cX8_parts 163 = .ok (.iload 5, 2) := by decide +kernel
theorem dX8_parts_165 : decode cX8_parts 165 = .ok (.iconst 1, 1) := by decide +kernel
theorem dX8_parts_166 : decode cX8_parts 166 = .ok (.iload 6, 2) := by decide +kernel
theorem dX8_parts_168 : decode cX8_parts 168 = .ok (.ishl, 1) := by decide +kernel
theorem dX8_parts_169 : decode cX8_parts 169 = .ok (.ior, 1) := by decide +kernel
theorem dX8_parts_170 : decode cX8_parts 170 = .ok (.istore 5, 2) := by decide +kernel
theorem dX8_parts_172 : decode cX8_parts 172 = .ok (.aload_n 0, 1) := by decide +kernel
theorem dX8_parts_173 : decode cX8_parts 173 = .ok (.getfield 22, 3) := by decide +kernel
theorem dX8_parts_176 : decode cX8_parts 176 = .ok (.iload 6, 2) := by decide +kernel
theorem dX8_parts_178 : decode cX8_parts 178 = .ok (.dup2, 1) := by decide +kernel
theorem dX8_parts_179 : decode cX8_parts 179 = .ok (.iaload, 1) := by decide +kernel
theorem dX8_parts_180 : decode cX8_parts 180 = .ok (.iconst 1, 1) := by decide +kernel
theorem dX8_parts_181 : decode cX8_parts 181 = .ok (.iadd, 1) := by decide +kernel
theorem dX8_parts_182 : decode cX8_parts 182 = .ok (.iastore, 1) := by decide +kernel
theorem dX8_parts_183 : decode cX8_parts 183 = .ok (.iinc 4 (-1), 3) := by decide +kernel
theorem dX8_parts_186 : decode cX8_parts 186 = .ok (.goto (-108), 3) := by decide +kernel
theorem dX8_parts_189 : decode cX8_parts 189 = .ok (.return_, 1) := by decide +kernel
theorem dX8_puts_0 : decode cX8_puts 0 = .ok (.aload_n 0, 1) := by decide +kernel
theorem dX8_puts_1 : decode cX8_puts 1 = .ok (.getfield 25, 3) := by decide +kernel
theorem dX8_puts_4 : decode cX8_puts 4 = .ok (.iload_n 1, 1) := by decide +kernel
theorem dX8_puts_5 : decode cX8_puts 5 = .ok (.iload_n 2, 1) := by decide +kernel
theorem dX8_puts_6 : decode cX8_puts 6 = .ok (.iastore, 1) := by decide +kernel
theorem dX8_puts_7 : decode cX8_puts 7 = .ok (.aload_n 0, 1) := by decide +kernel
theorem dX8_puts_8 : decode cX8_puts 8 = .ok (.getfield 28, 3) := by decide +kernel
theorem dX8_puts_11 : decode cX8_puts 11 = .ok (.iload_n 1, 1) := by decide +kernel
theorem dX8_puts_12 : decode cX8_puts 12 = .ok (.iload_n 3, 1) := by decide +kernel
theorem dX8_puts_13 : decode cX8_puts 13 = .ok (.iastore, 1) := by decide +kernel
theorem dX8_puts_14 : decode cX8_puts 14 = .ok (.aload_n 0, 1) := by decide +kernel
theorem dX8_puts_15 : decode cX8_puts 15 = .ok (.getfield 31, 3) := by decide +kernel
theorem dX8_puts_18 : decode cX8_puts 18 = .ok (.iload_n 1, 1) := by decide +kernel
theorem dX8_puts_19 : decode cX8_puts 19 = .ok (.iload 4, 2) := by decide +kernel
theorem dX8_puts_21 : decode cX8_puts 21 = .ok (.iastore, 1) := by decide +kernel
theorem dX8_puts_22 : decode cX8_puts 22 = .ok (.aload_n 0, 1) := by decide +kernel
theorem dX8_puts_23 : decode cX8_puts 23 = .ok (.getfield 34, 3) := by decide +kernel
theorem dX8_puts_26 : decode cX8_puts 26 = .ok (.iload_n 1, 1) := by decide +kernel
theorem dX8_puts_27 : decode cX8_puts 27 = .ok (.iload 5, 2) := by decide +kernel
theorem dX8_puts_29 : decode cX8_puts 29 = .ok (.iastore, 1) := by decide +kernel
theorem dX8_puts_30 : decode cX8_puts 30 = .ok (.return_, 1) := by decide +kernel
theorem dX8_laysChildren_0 : decode cX8_laysChildren 0 = .ok (.aload_n 0, 1) := by decide +kernel
theorem dX8_laysChildren_1 : decode cX8_laysChildren 1 = .ok (.iconst 0, 1) := by decide +kernel
theorem dX8_laysChildren_2 : decode cX8_laysChildren 2 = .ok (.putfield 96, 3) := by decide +kernel
theorem dX8_laysChildren_5 : decode cX8_laysChildren 5 = .ok (.iconst 0, 1) := by decide +kernel
theorem dX8_laysChildren_6 : decode cX8_laysChildren 6 = .ok (.istore_n 2, 1) := by decide +kernel
theorem dX8_laysChildren_7 : decode cX8_laysChildren 7 = .ok (.iload_n 2, 1) := by decide +kernel
theorem dX8_laysChildren_8 : decode cX8_laysChildren 8 = .ok (.aload_n 0, 1) := by decide +kernel
theorem dX8_laysChildren_9 : decode cX8_laysChildren 9 = .ok (.getfield 7, 3) := by decide +kernel
theorem dX8_laysChildren_12 : decode cX8_laysChildren 12 = .ok (.iconst 0, 1) := by decide +kernel
theorem dX8_laysChildren_13 : decode cX8_laysChildren 13 = .ok (.iaload, 1) := by decide +kernel
theorem dX8_laysChildren_14 : decode cX8_laysChildren 14 = .ok (.if_icmp .ge 42, 3) := by decide +kernel
theorem dX8_laysChildren_17 : decode cX8_laysChildren 17 = .ok (.aload_n 0, 1) := by decide +kernel
theorem dX8_laysChildren_18 : decode cX8_laysChildren 18 = .ok (.getfield 7, 3) := by decide +kernel
theorem dX8_laysChildren_21 : decode cX8_laysChildren 21 = .ok (.bipush 29, 2) := by decide +kernel
theorem dX8_laysChildren_23 : decode cX8_laysChildren 23 = .ok (.iload_n 2, 1) := by decide +kernel
theorem dX8_laysChildren_24 : decode cX8_laysChildren 24 = .ok (.iadd, 1) := by decide +kernel
theorem dX8_laysChildren_25 : decode cX8_laysChildren 25 = .ok (.iaload, 1) := by decide +kernel
theorem dX8_laysChildren_26 : decode cX8_laysChildren 26 = .ok (.iload_n 1, 1) := by decide +kernel
theorem dX8_laysChildren_27 : decode cX8_laysChildren 27 = .ok (.if_icmp .ne 23, 3) := by decide +kernel
theorem dX8_laysChildren_30 : decode cX8_laysChildren 30 = .ok (.aload_n 0, 1) := by decide +kernel
theorem dX8_laysChildren_31 : decode cX8_laysChildren 31 = .ok (.getfield 44, 3) := by decide +kernel
theorem dX8_laysChildren_34 : decode cX8_laysChildren 34 = .ok (.aload_n 0, 1) := by decide +kernel
theorem dX8_laysChildren_35 : decode cX8_laysChildren 35 = .ok (.getfield 96, 3) := by decide +kernel
theorem dX8_laysChildren_38 : decode cX8_laysChildren 38 = .ok (.iload_n 2, 1) := by decide +kernel
theorem dX8_laysChildren_39 : decode cX8_laysChildren 39 = .ok (.iastore, 1) := by decide +kernel
theorem dX8_laysChildren_40 : decode cX8_laysChildren 40 = .ok (.aload_n 0, 1) := by decide +kernel
theorem dX8_laysChildren_41 : decode cX8_laysChildren 41 = .ok (.dup, 1) := by decide +kernel
theorem dX8_laysChildren_42 : decode cX8_laysChildren 42 = .ok (.getfield 96, 3) := by decide +kernel
theorem dX8_laysChildren_45 : decode cX8_laysChildren 45 = .ok (.iconst 1, 1) := by decide +kernel
theorem dX8_laysChildren_46 : decode cX8_laysChildren 46 = .ok (.iadd, 1) := by decide +kernel
theorem dX8_laysChildren_47 : decode cX8_laysChildren 47 = .ok (.putfield 96, 3) := by decide +kernel
theorem dX8_laysChildren_50 : decode cX8_laysChildren 50 = .ok (.iinc 2 1, 3) := by decide +kernel
theorem dX8_laysChildren_53 : decode cX8_laysChildren 53 = .ok (.goto (-46), 3) := by decide +kernel
theorem dX8_laysChildren_56 : decode cX8_laysChildren 56 = .ok (.return_, 1) := by decide +kernel
theorem dX8_laysSizes_0 : decode cX8_laysSizes 0 = .ok (.iconst 0, 1) := by decide +kernel
theorem dX8_laysSizes_1 : decode cX8_laysSizes 1 = .ok (.istore_n 3, 1) := by decide +kernel
theorem dX8_laysSizes_2 : decode cX8_laysSizes 2 = .ok (.iload_n 3, 1) := by decide +kernel
theorem dX8_laysSizes_3 : decode cX8_laysSizes 3 = .ok (.iload_n 2, 1) := by decide +kernel
theorem dX8_laysSizes_4 : decode cX8_laysSizes 4 = .ok (.if_icmp .ge 28, 3) := by decide +kernel
theorem dX8_laysSizes_7 : decode cX8_laysSizes 7 = .ok (.aload_n 0, 1) := by decide +kernel
theorem dX8_laysSizes_8 : decode cX8_laysSizes 8 = .ok (.getfield 19, 3) := by decide +kernel
theorem dX8_laysSizes_11 : decode cX8_laysSizes 11 = .ok (.iload_n 3, 1) := by decide +kernel
theorem dX8_laysSizes_12 : decode cX8_laysSizes 12 = .ok (.aload_n 0, 1) := by decide +kernel
theorem dX8_laysSizes_13 : decode cX8_laysSizes 13 = .ok (.getfield 41, 3) := by decide +kernel
theorem dX8_laysSizes_16 : decode cX8_laysSizes 16 = .ok (.aload_n 0, 1) := by decide +kernel
theorem dX8_laysSizes_17 : decode cX8_laysSizes 17 = .ok (.getfield 44, 3) := by decide +kernel
theorem dX8_laysSizes_20 : decode cX8_laysSizes 20 = .ok (.iload_n 1, 1) := by decide +kernel
theorem dX8_laysSizes_21 : decode cX8_laysSizes 21 = .ok (.iload_n 3, 1) := by decide +kernel
theorem dX8_laysSizes_22 : decode cX8_laysSizes 22 = .ok (.iadd, 1) := by decide +kernel
theorem dX8_laysSizes_23 : decode cX8_laysSizes 23 = .ok (.iaload, 1) := by decide +kernel
theorem dX8_laysSizes_24 : decode cX8_laysSizes 24 = .ok (.iaload, 1) := by decide +kernel
theorem dX8_laysSizes_25 : decode cX8_laysSizes 25 = .ok (.iastore, 1) := by decide +kernel
theorem dX8_laysSizes_26 : decode cX8_laysSizes 26 = .ok (.iinc 3 1, 3) := by decide +kernel
theorem dX8_laysSizes_29 : decode cX8_laysSizes 29 = .ok (.goto (-27), 3) := by decide +kernel
theorem dX8_laysSizes_32 : decode cX8_laysSizes 32 = .ok (.return_, 1) := by decide +kernel
theorem dX8_sumOf_0 : decode cX8_sumOf 0 = .ok (.iconst 0, 1) := by decide +kernel
theorem dX8_sumOf_1 : decode cX8_sumOf 1 = .ok (.istore_n 3, 1) := by decide +kernel
theorem dX8_sumOf_2 : decode cX8_sumOf 2 = .ok (.iconst 0, 1) := by decide +kernel
theorem dX8_sumOf_3 : decode cX8_sumOf 3 = .ok (.istore 4, 2) := by decide +kernel
theorem dX8_sumOf_5 : decode cX8_sumOf 5 = .ok (.iload 4, 2) := by decide +kernel
theorem dX8_sumOf_7 : decode cX8_sumOf 7 = .ok (.iload_n 2, 1) := by decide +kernel
theorem dX8_sumOf_8 : decode cX8_sumOf 8 = .ok (.if_icmp .ge 26, 3) := by decide +kernel
theorem dX8_sumOf_11 : decode cX8_sumOf 11 = .ok (.iload_n 3, 1) := by decide +kernel
theorem dX8_sumOf_12 : decode cX8_sumOf 12 = .ok (.aload_n 0, 1) := by decide +kernel
theorem dX8_sumOf_13 : decode cX8_sumOf 13 = .ok (.getfield 41, 3) := by decide +kernel
theorem dX8_sumOf_16 : decode cX8_sumOf 16 = .ok (.aload_n 0, 1) := by decide +kernel
theorem dX8_sumOf_17 : decode cX8_sumOf 17 = .ok (.getfield 44, 3) := by decide +kernel
theorem dX8_sumOf_20 : decode cX8_sumOf 20 = .ok (.iload_n 1, 1) := by decide +kernel
theorem dX8_sumOf_21 : decode cX8_sumOf 21 = .ok (.iload 4, 2) := by decide +kernel
theorem dX8_sumOf_23 : decode cX8_sumOf 23 = .ok (.iadd, 1) := by decide +kernel
theorem dX8_sumOf_24 : decode cX8_sumOf 24 = .ok (.iaload, 1) := by decide +kernel
theorem dX8_sumOf_25 : decode cX8_sumOf 25 = .ok (.iaload, 1) := by decide +kernel
