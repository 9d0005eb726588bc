theorem dX9_passes_135 : decode cX9_passes 135 = .ok (.bipush 96, 2) := by decide +kernel
theorem dX9_passes_137 : decode cX9_passes 137 = .ok (.invokestatic 123, 3) := by decide +kernel
theorem dX9_passes_140 : decode cX9_passes 140 = .ok (.iaload, 1) := by decide +kernel
theorem dX9_passes_141 : decode cX9_passes 141 = .ok (.isub, 1) := by decide +kernel
theorem dX9_passes_142 : decode cX9_passes 142 = .ok (.istore 7, 2) := by decide +kernel
theorem dX9_passes_144 : decode cX9_passes 144 = .ok (.iload 7, 2) := by decide +kernel
theorem dX9_passes_146 : decode cX9_passes 146 = .ok (.ifCond .ge 7, 3) := by decide +kernel
theorem dX9_passes_149 : decode cX9_passes 149 = .ok (.iconst 0, 1) := by decide +kernel
theorem dX9_passes_150 : decode cX9_passes 150 = .ok (.goto 5, 3) := by decide +kernel
theorem dX9_passes_153 : decode cX9_passes 153 = .ok (.iload 7, 2) := by decide +kernel
theorem dX9_passes_155 : decode cX9_passes 155 = .ok (.ireturn, 1) := by decide +kernel
set_option maxRecDepth 20000 in
theorem ggX9_spreads_X9_areBeside : GoodIn wsX9_spreads wsX9_areBeside := goodIn_r _ [7, 8, 9, 6, 10] (by decide +kernel) (by decide +kernel)
set_option maxRecDepth 20000 in
theorem gX9_spreads_X9_areBeside : GoodIn wsX9_spreads (va_wsS RX9 120 yX9_areBeside wsX9_areBeside) := goodIn_app (goodIn_of _ (by decide +kernel)) ggX9_spreads_X9_areBeside
set_option maxRecDepth 20000 in
theorem ggX9_spreads_X9_passes : GoodIn wsX9_spreads wsX9_passes := goodIn_r _ [14, 1, 15, 16, 17, 18, 6, 19, 8, 9, 10, 20, 21, 22, 23, 24, 25, 26, 27, 28, 29, 30, 31, 32, 33, 34, 35, 36, 37, 38, 39, 40, 41, 42, 43, 44, 45, 46] (by decide +kernel) (by decide +kernel)
set_option maxRecDepth 20000 in
theorem gX9_spreads_X9_passes : GoodIn wsX9_spreads (wsV RX9 160 RX9 yX9_passes wsX9_passes) := goodIn_app (goodIn_of _ (by decide +kernel)) ggX9_spreads_X9_passes
theorem dX9_spreads_0 : decode cX9_spreads 0 = .ok (.bipush 48, 2) := by decide +kernel
theorem dX9_spreads_2 : decode cX9_spreads 2 = .ok (.iload_n 1, 1) := by decide +kernel
theorem dX9_spreads_3 : decode cX9_spreads 3 = .ok (.imul, 1) := by decide +kernel
theorem dX9_spreads_4 : decode cX9_spreads 4 = .ok (.istore 4, 2) := by decide +kernel
theorem dX9_spreads_6 : decode cX9_spreads 6 = .ok (.iconst 0, 1) := by decide +kernel
theorem dX9_spreads_7 : decode cX9_spreads 7 = .ok (.istore 5, 2) := by decide +kernel
theorem dX9_spreads_9 : decode cX9_spreads 9 = .ok (.iload 5, 2) := by decide +kernel
theorem dX9_spreads_11 : decode cX9_spreads 11 = .ok (.aload_n 0, 1) := by decide +kernel
theorem dX9_spreads_12 : decode cX9_spreads 12 = .ok (.getfield 134, 3) := by decide +kernel
theorem dX9_spreads_15 : decode cX9_spreads 15 = .ok (.aload_n 0, 1) := by decide +kernel
theorem dX9_spreads_16 : decode cX9_spreads 16 = .ok (.getfield 137, 3) := by decide +kernel
theorem dX9_spreads_19 : decode cX9_spreads 19 = .ok (.imul, 1) := by decide +kernel
theorem dX9_spreads_20 : decode cX9_spreads 20 = .ok (.if_icmp .ge 30, 3) := by decide +kernel
theorem dX9_spreads_23 : decode cX9_spreads 23 = .ok (.aload_n 0, 1) := by decide +kernel
theorem dX9_spreads_24 : decode cX9_spreads 24 = .ok (.getfield 32, 3) := by decide +kernel
theorem dX9_spreads_27 : decode cX9_spreads 27 = .ok (.iload 4, 2) := by decide +kernel
theorem dX9_spreads_29 : decode cX9_spreads 29 = .ok (.iload 5, 2) := by decide +kernel
theorem dX9_spreads_31 : decode cX9_spreads 31 = .ok (.iadd, 1) := by decide +kernel
theorem dX9_spreads_32 : decode cX9_spreads 32 = .ok (.iload 5, 2) := by decide +kernel
theorem dX9_spreads_34 : decode cX9_spreads 34 = .ok (.iload_n 2, 1) := by decide +kernel
theorem dX9_spreads_35 : decode cX9_spreads 35 = .ok (.if_icmp .ne 7, 3) := by decide +kernel
theorem dX9_spreads_38 : decode cX9_spreads 38 = .ok (.iload_n 3, 1) := by decide +kernel
theorem dX9_spreads_39 : decode cX9_spreads 39 = .ok (.goto 4, 3) := by decide +kernel
theorem dX9_spreads_42 : decode cX9_spreads 42 = .ok (.iconst 0, 1) := by decide +kernel
theorem dX9_spreads_43 : decode cX9_spreads 43 = .ok (.iastore, 1) := by decide +kernel
theorem dX9_spreads_44 : decode cX9_spreads 44 = .ok (.iinc 5 1, 3) := by decide +kernel
theorem dX9_spreads_47 : decode cX9_spreads 47 = .ok (.goto (-38), 3) := by decide +kernel
theorem dX9_spreads_50 : decode cX9_spreads 50 = .ok (.iconst 1, 1) := by decide +kernel
theorem dX9_spreads_51 : decode cX9_spreads 51 = .ok (.istore 5, 2) := by decide +kernel
theorem dX9_spreads_53 : decode cX9_spreads 53 = .ok (.iload 5, 2) := by decide +kernel
theorem dX9_spreads_55 : decode cX9_spreads 55 = .ok (.ifCond .eq 169, 3) := by decide +kernel
theorem dX9_spreads_58 : decode cX9_spreads 58 = .ok (.iconst 0, 1) := by decide +kernel
theorem dX9_spreads_59 : decode cX9_spreads 59 = .ok (.istore 5, 2) := by decide +kernel
theorem dX9_spreads_61 : decode cX9_spreads 61 = .ok (.iconst 0, 1) := by decide +kernel
theorem dX9_spreads_62 : decode cX9_spreads 62 = .ok (.istore 6, 2) := by decide +kernel
theorem dX9_spreads_64 : decode cX9_spreads 64 = .ok (.iload 6, 2) := by decide +kernel
theorem dX9_spreads_66 : decode cX9_spreads 66 = .ok (.aload_n 0, 1) := by decide +kernel
theorem dX9_spreads_67 : decode cX9_spreads 67 = .ok (.getfield 134, 3) := by decide +kernel
theorem dX9_spreads_70 : decode cX9_spreads 70 = .ok (.aload_n 0, 1) := by decide +kernel
theorem dX9_spreads_71 : decode cX9_spreads 71 = .ok (.getfield 137, 3) := by decide +kernel
theorem dX9_spreads_74 : decode cX9_spreads 74 = .ok (.imul, 1) := by decide +kernel
theorem dX9_spreads_75 : decode cX9_spreads 75 = .ok (.if_icmp .ge 146, 3) := by decide +kernel
theorem dX9_spreads_78 : decode cX9_spreads 78 = .ok (.iconst 0, 1) := by decide +kernel
theorem dX9_spreads_79 : decode cX9_spreads 79 = .ok (.istore 7, 2) := by decide +kernel
theorem dX9_spreads_81 : decode cX9_spreads 81 = .ok (.iload 7, 2) := by decide +kernel
theorem dX9_spreads_83 : decode cX9_spreads 83 = .ok (.aload_n 0, 1) := by decide +kernel
theorem dX9_spreads_84 : decode cX9_spreads 84 = .ok (.getfield 134, 3) := by decide +kernel
theorem dX9_spreads_87 : decode cX9_spreads 87 = .ok (.aload_n 0, 1) := by decide +kernel
theorem dX9_spreads_88 : decode cX9_spreads 88 = .ok (.getfield 137, 3) := by decide +kernel
theorem dX9_spreads_91 : decode cX9_spreads 91 = .ok (.imul, 1) := by decide +kernel
theorem dX9_spreads_92 : decode cX9_spreads 92 = .ok (.if_icmp .ge 123, 3) := by decide +kernel
theorem dX9_spreads_95 : decode cX9_spreads 95 = .ok (.aload_n 0, 1) := by decide +kernel
theorem dX9_spreads_96 : decode cX9_spreads 96 = .ok (.getfield 32, 3) := by decide +kernel
theorem dX9_spreads_99 : decode cX9_spreads 99 = .ok (.iload 4, 2) := by decide +kernel
theorem dX9_spreads_101 : decode cX9_spreads 101 = .ok (.iload 6, 2) := by decide +kernel
theorem dX9_spreads_103 : decode cX9_spreads 103 = .ok (.iadd, 1) := by decide +kernel
theorem dX9_spreads_104 : decode cX9_spreads 104 = .ok (.iaload, 1) := by decide +kernel
theorem dX9_spreads_105 : decode cX9_spreads 105 = .ok (.ifCond .le 104, 3) := by decide +kernel
theorem dX9_spreads_108 : decode cX9_spreads 108 = .ok (.iload 6, 2) := by decide +kernel
theorem dX9_spreads_110 : decode cX9_spreads 110 = .ok (.iload 7, 2) := by decide +kernel
theorem dX9_spreads_112 : decode cX9_spreads 112 = .ok (.aload_n 0, 1) := by decide +kernel
theorem dX9_spreads_113 : decode cX9_spreads 113 = .ok (.getfield 134, 3) := by decide +kernel
theorem dX9_spreads_116 : decode cX9_spreads 116 = .ok (.invokestatic 120, 3) := by decide +kernel
theorem dX9_spreads_119 : decode cX9_spreads 119 = .ok (.ifCond .eq 90, 3) := by decide +kernel
theorem dX9_spreads_122 : decode cX9_spreads 122 = .ok (.aload_n 0, 1) := by decide +kernel
theorem dX9_spreads_123 : decode cX9_spreads 123 = .ok (.aload_n 0, 1) := by decide +kernel
theorem dX9_spreads_124 : decode cX9_spreads 124 = .ok (.getfield 32, 3) := by decide +kernel
theorem dX9_spreads_127 : decode cX9_spreads 127 = .ok (.iload 4, 2) := by decide +kernel
theorem dX9_spreads_129 : decode cX9_spreads 129 = .ok (.iload 6, 2) := by decide +kernel
theorem dX9_spreads_131 : decode cX9_spreads 131 = .ok (.iadd, 1) := by decide +kernel
theorem dX9_spreads_132 : decode cX9_spreads 132 = .ok (.iaload, 1) := by decide +kernel
theorem dX9_spreads_133 : decode cX9_spreads 133 = .ok (.iload 6, 2) := by decide +kernel
theorem dX9_spreads_135 : decode cX9_spreads 135 = .ok (.iload 7, 2) := by decide +kernel
theorem dX9_spreads_137 : decode cX9_spreads 137 = .ok (.invokevirtual 160, 3) := by decide +kernel
theorem dX9_spreads_140 : decode cX9_spreads 140 = .ok (.istore 8, 2) := by decide +kernel
theorem dX9_spreads_142 : decode cX9_spreads 142 = .ok (.iload 5, 2) := by decide +kernel
theorem dX9_spreads_144 : decode cX9_spreads 144 = .ok (.ifCond .ne 18, 3) := by decide +kernel
theorem dX9_spreads_147 : decode cX9_spreads 147 = .ok (.iload 8, 2) := by decide +kernel
theorem dX9_spreads_149 : decode cX9_spreads 149 = .ok (.aload_n 0, 1) := by decide +kernel
theorem dX9_spreads_150 : decode cX9_spreads 150 = .ok (.getfield 32, 3) := by decide +kernel
theorem dX9_spreads_153 : decode cX9_spreads 153 = .ok (.iload 4, 2) := by decide +kernel
theorem dX9_spreads_155 : decode cX9_spreads 155 = .ok (.iload 7, 2) := by decide +kernel
theorem dX9_spreads_157 : decode cX9_spreads 157 = .ok (.iadd, 1) := by decide +kernel
theorem dX9_spreads_158 : decode cX9_spreads 158 = .ok (.iaload, 1) := by decide +kernel
theorem dX9_spreads_159 : decode cX9_spreads 159 = .ok (.if_icmp .le 7, 3) := by decide +kernel
theorem dX9_spreads_162 : decode cX9_spreads 162 = .ok (.iconst 1, 1) := by decide +kernel
theorem dX9_spreads_163 : decode cX9_spreads 163 = .ok (.goto 4, 3) := by decide +kernel
theorem dX9_spreads_166 : decode cX9_spreads 166 = .ok (.iconst 0, 1) := by decide +kernel
theorem dX9_spreads_167 : decode cX9_spreads 167 = .ok (.istore 5, 2) := by decide +kernel
theorem dX9_spreads_169 : decode cX9_spreads 169 = .ok (.aload_n 0, 1) := by decide +kernel
theorem dX9_spreads_170 : decode cX9_spreads 170 = .ok (.getfield 32, 3) := by decide +kernel
theorem dX9_spreads_173 : decode cX9_spreads 173 = .ok (.iload 4, 2) := by decide +kernel
theorem dX9_spreads_175 : decode cX9_spreads 175 = .ok (.iload 7, 2) := by decide +kernel
theorem dX9_spreads_177 : decode cX9_spreads 177 = .ok (.iadd, 1) := by decide +kernel
theorem dX9_spreads_178 : decode cX9_spreads 178 = .ok (.iload 8, 2) := by decide +kernel
theorem dX9_spreads_180 : decode cX9_spreads 180 = .ok (.aload_n 0, 1) := by decide +kernel
theorem dX9_spreads_181 : decode cX9_spreads 181 = .ok (.getfield 32, 3) := by decide +kernel
theorem dX9_spreads_184 : decode cX9_spreads 184 = .ok (.iload 4, 2) := by decide +kernel
theorem dX9_spreads_186 : decode cX9_spreads 186 = .ok (.iload 7, 2) := by decide +kernel
theorem dX9_spreads_188 : decode cX9_spreads 188 = .ok (.iadd, 1) := by decide +kernel
theorem dX9_spreads_189 : decode cX9_spreads 189 = .ok (.iaload, 1) := by decide +kernel
theorem dX9_spreads_190 : decode cX9_spreads 190 = .ok (.if_icmp .le 8, 3) := by decide +kernel
theorem dX9_spreads_193 : decode cX9_spreads 193 = .ok (.iload 8, 2) := by decide +kernel
theorem dX9_spreads_195 : decode cX9_spreads 195 = .ok (.goto 13, 3) := by decide +kernel
theorem dX9_spreads_198 : decode cX9_spreads 198 = .ok (.aload_n 0, 1) := by decide +kernel
theorem dX9_spreads_199 : decode cX9_spreads 199 = .ok (.getfield 32, 3) := by decide +kernel
theorem dX9_spreads_202 : decode cX9_spreads 202 = .ok (.iload 4, 2) := by decide +kernel
theorem dX9_spreads_204 : decode cX9_spreads 204 = .ok (.iload 7, 2) := by decide +kernel
theorem dX9_spreads_206 : decode cX9_spreads 206 = .ok (.iadd, 1) := by decide +kernel
theorem dX9_spreads_207 : decode cX9_spreads 207 = .ok (.iaload, 1) := by decide +kernel
theorem dX9_spreads_208 : decode cX9_spreads 208 = .ok (.iastore, 1) := by decide +kernel
theorem dX9_spreads_209 : decode cX9_spreads 209 = .ok (.iinc 7 1, 3) := by decide +kernel
theorem dX9_spreads_212 : decode cX9_spreads 212 = .ok (.goto (-131), 3) := by decide +kernel
theorem dX9_spreads_215 : decode cX9_spreads 215 = .ok (.iinc 6 1, 3) := by decide +kernel
theorem dX9_spreads_218 : decode cX9_spreads 218 = .ok (.goto (-154), 3) := by decide +kernel
theorem dX9_spreads_221 : decode cX9_spreads 221 = .ok (.goto (-168), 3) := by decide +kernel
theorem dX9_spreads_224 : decode cX9_spreads 224 = .ok (.return_, 1) := by decide +kernel
set_option maxRecDepth 20000 in
theorem ggX9_spreadsAll_X9_spreads : GoodIn wsX9_spreadsAll wsX9_spreads := goodIn_r _ [7, 8, 9, 10, 11, 12, 6, 13, 14, 15, 16, 17, 18, 19, 20, 21, 22, 23, 24, 25, 26, 27, 28, 29, 30, 31, 32, 33, 34, 35, 36, 37, 38, 39, 40, 41, 42, 43, 44, 45, 46, 47, 48, 49, 50, 51, 52] (by decide +kernel) (by decide +kernel)
set_option maxRecDepth 20000 in
theorem gX9_spreadsAll_X9_spreads : GoodIn wsX9_spreadsAll (wsV RX9 164 RX9 yX9_spreads wsX9_spreads) := goodIn_app (goodIn_of _ (by decide +kernel)) ggX9_spreadsAll_X9_spreads
theorem dX9_spreadsAll_0 : decode cX9_spreadsAll 0 = .ok (.iconst 0, 1) := by decide +kernel
theorem dX9_spreadsAll_1 : decode cX9_spreadsAll 1 = .ok (.istore_n 1, 1) := by decide +kernel
theorem dX9_spreadsAll_2 : decode cX9_spreadsAll 2 = .ok (.iload_n 1, 1) := by decide +kernel
theorem dX9_spreadsAll_3 : decode cX9_spreadsAll 3 = .ok (.aload_n 0, 1) := by decide +kernel
theorem dX9_spreadsAll_4 : decode cX9_spreadsAll 4 = .ok (.getfield 140, 3) := by decide +kernel
theorem dX9_spreadsAll_7 : decode cX9_spreadsAll 7 = .ok (.if_icmp .ge 32, 3) := by decide +kernel
theorem dX9_spreadsAll_10 : decode cX9_spreadsAll 10 = .ok (.aload_n 0, 1) := by decide +kernel
theorem dX9_spreadsAll_11 : decode cX9_spreadsAll 11 = .ok (.iload_n 1, 1) := by decide +kernel
theorem dX9_spreadsAll_12 : decode cX9_spreadsAll 12 = .ok (.aload_n 0, 1) := by decide +kernel
theorem dX9_spreadsAll_13 : decode cX9_spreadsAll 13 = .ok (.getfield 26, 3) := by decide +kernel
theorem dX9_spreadsAll_16 : decode cX9_spreadsAll 16 = .ok (.iconst 4, 1) := by decide +kernel
theorem dX9_spreadsAll_17 : decode cX9_spreadsAll 17 = .ok (.iload_n 1, 1) := by decide +kernel
theorem dX9_spreadsAll_18 : decode cX9_spreadsAll 18 = .ok (.imul, 1) := by decide +kernel
theorem dX9_spreadsAll_19 : decode cX9_spreadsAll 19 = .ok (.iaload, 1) := by decide +kernel
theorem dX9_spreadsAll_20 : decode cX9_spreadsAll 20 = .ok (.aload_n 0, 1) := by decide +kernel
theorem dX9_spreadsAll_21 : decode cX9_spreadsAll 21 = .ok (.getfield 26, 3) := by decide +kernel
theorem dX9_spreadsAll_24 : decode cX9_spreadsAll 24 = .ok (.iconst 4, 1) := by decide +kernel
theorem dX9_spreadsAll_25 : decode cX9_spreadsAll 25 = .ok (.iload_n 1, 1) := by decide +kernel
theorem dX9_spreadsAll_26 : decode cX9_spreadsAll 26 = .ok (.imul, 1) := by decide +kernel
theorem dX9_spreadsAll_27 : decode cX9_spreadsAll 27 = .ok (.iconst 1, 1) := by decide +kernel
theorem dX9_spreadsAll_28 : decode cX9_spreadsAll 28 = .ok (.iadd, 1) := by decide +kernel
theorem dX9_spreadsAll_29 : decode cX9_spreadsAll 29 = .ok (.iaload, 1) := by decide +kernel
theorem dX9_spreadsAll_30 : decode cX9_spreadsAll 30 = .ok (.invokevirtual 164, 3) := by decide +kernel
theorem dX9_spreadsAll_33 : decode cX9_spreadsAll 33 = .ok (.iinc 1 1, 3) := by decide +kernel
theorem dX9_spreadsAll_36 : decode cX9_spreadsAll 36 = .ok (.goto (-34), 3) := by decide +kernel
theorem dX9_spreadsAll_39 : decode cX9_spreadsAll 39 = .ok (.return_, 1) := by decide +kernel
set_option maxRecDepth 20000 in
theorem ggX9_loud_X9_isWorker : GoodIn wsX9_loud wsX9_isWorker := goodIn_r _ [8, 9, 10, 11, 7, 12, 38, 39, 40, 41, 42, 43, 44, 45, 46, 47, 48, 49, 50, 51, 52, 53, 54, 55, 56, 57, 58, 59, 60, 61, 62, 63, 64] (by decide +kernel) (by decide +kernel)
set_option maxRecDepth 20000 in
theorem gX9_loud_X9_isWorker : GoodIn wsX9_loud (wsV RX9 154 RX9 yX9_isWorker wsX9_isWorker) := goodIn_app (goodIn_of _ (by decide +kernel)) ggX9_loud_X9_isWorker
set_option maxRecDepth 20000 in
theorem ggX9_loud_X9_isYard : GoodIn wsX9_loud wsX9_isYard := goodIn_r _ [16, 17, 18, 10, 11, 7, 12, 38, 39, 40, 41, 42, 43, 44, 45, 46, 47, 48, 49, 50, 51, 52, 53, 54, 55, 56, 57, 58, 59, 60, 61, 62, 63, 64] (by decide +kernel) (by decide +kernel)
set_option maxRecDepth 20000 in
theorem gX9_loud_X9_isYard : GoodIn wsX9_loud (wsV RX9 146 RX9 yX9_isYard wsX9_isYard) := goodIn_app (goodIn_of _ (by decide +kernel)) ggX9_loud_X9_isYard
set_option maxRecDepth 20000 in
theorem ggX9_loud_X9_spreads : GoodIn wsX9_loud wsX9_spreads := goodIn_r _ [22, 17, 18, 3, 23, 24, 7, 25, 26, 27, 28, 29, 30, 31, 32, 33, 34, 35, 36, 37, 38, 39, 40, 41, 42, 43, 44, 45, 46, 47, 48, 49, 50, 51, 52, 53, 54, 55, 56, 57, 58, 59, 60, 61, 62, 63, 64] (by decide +kernel) (by decide +kernel)
set_option maxRecDepth 20000 in
theorem gX9_loud_X9_spreads : GoodIn wsX9_loud (wsV RX9 164 RX9 yX9_spreads wsX9_spreads) := goodIn_app (goodIn_of _ (by decide +kernel)) ggX9_loud_X9_spreads
theorem dX9_loud_0 : decode cX9_loud 0 = .ok (.aload_n 0, 1) := by decide +kernel
theorem dX9_loud_1 : decode cX9_loud 1 = .ok (.iconst 0, 1) := by decide +kernel
theorem dX9_loud_2 : decode cX9_loud 2 = .ok (.putfield 45, 3) := by decide +kernel
theorem dX9_loud_5 : decode cX9_loud 5 = .ok (.aload_n 0, 1) := by decide +kernel
theorem dX9_loud_6 : decode cX9_loud 6 = .ok (.iload_n 1, 1) := by decide +kernel
theorem dX9_loud_7 : decode cX9_loud 7 = .ok (.invokevirtual 154, 3) := by decide +kernel
theorem dX9_loud_10 : decode cX9_loud 10 = .ok (.ifCond .eq 11, 3) := by decide +kernel
theorem dX9_loud_13 : decode cX9_loud 13 = .ok (.aload_n 0, 1) := by decide +kernel
theorem dX9_loud_14 : decode cX9_loud 14 = .ok (.iload_n 2, 1) := by decide +kernel
theorem dX9_loud_15 : decode cX9_loud 15 = .ok (.invokevirtual 146, 3) := by decide +kernel
theorem dX9_loud_18 : decode cX9_loud 18 = .ok (.ifCond .ne 5, 3) := by decide +kernel
theorem dX9_loud_21 : decode cX9_loud 21 = .ok (.iconst (-1), 1) := by decide +kernel
theorem dX9_loud_22 : decode cX9_loud 22 = .ok (.ireturn, 1) := by decide +kernel
theorem dX9_loud_23 : decode cX9_loud 23 = .ok (.aload_n 0, 1) := by decide +kernel
theorem dX9_loud_24 : decode cX9_loud 24 = .ok (.iload_n 1, 1) := by decide +kernel
theorem dX9_loud_25 : decode cX9_loud 25 = .ok (.aload_n 0, 1) := by decide +kernel
theorem dX9_loud_26 : decode cX9_loud 26 = .ok (.getfield 26, 3) := by decide +kernel
theorem dX9_loud_29 : decode cX9_loud 29 = .ok (.iconst 4, 1) := by decide +kernel
theorem dX9_loud_30 : decode cX9_loud 30 = .ok (.iload_n 1, 1) := by decide +kernel
theorem dX9_loud_31 : decode cX9_loud 31 = .ok (.imul, 1) := by decide +kernel
theorem dX9_loud_32 : decode cX9_loud 32 = .ok (.iaload, 1) := by decide +kernel
theorem dX9_loud_33 : decode cX9_loud 33 = .ok (.aload_n 0, 1) := by decide +kernel
theorem dX9_loud_34 : decode cX9_loud 34 = .ok (.getfield 26, 3) := by decide +kernel
theorem dX9_loud_37 : decode cX9_loud 37 = .ok (.iconst 4, 1) := by decide +kernel
theorem dX9_loud_38 : decode cX9_loud 38 = .ok (.iload_n 1, 1) := by decide +kernel
theorem dX9_loud_39 : decode cX9_loud 39 = .ok (.imul, 1) := by decide +kernel
theorem dX9_loud_40 : decode cX9_loud 40 = .ok (.iconst 1, 1) := by decide +kernel
theorem dX9_loud_41 : decode cX9_loud 41 = .ok (.iadd, 1) := by decide +kernel
theorem dX9_loud_42 : decode cX9_loud 42 = .ok (.iaload, 1) := by decide +kernel
theorem dX9_loud_43 : decode cX9_loud 43 = .ok (.invokevirtual 164, 3) := by decide +kernel
theorem dX9_loud_46 : decode cX9_loud 46 = .ok (.aload_n 0, 1) := by decide +kernel
theorem dX9_loud_47 : decode cX9_loud 47 = .ok (.getfield 32, 3) := by decide +kernel
theorem dX9_loud_50 : decode cX9_loud 50 = .ok (.bipush 48, 2) := by decide +kernel
theorem dX9_loud_52 : decode cX9_loud 52 = .ok (.iload_n 1, 1) := by decide +kernel
theorem dX9_loud_53 : decode cX9_loud 53 = .ok (.imul, 1) := by decide +kernel
theorem dX9_loud_54 : decode cX9_loud 54 = .ok (.iload_n 2, 1) := by decide +kernel
theorem dX9_loud_55 : decode cX9_loud 55 = .ok (.iadd, 1) := by decide +kernel
theorem dX9_loud_56 : decode cX9_loud 56 = .ok (.iaload, 1) := by decide +kernel
theorem dX9_loud_57 : decode cX9_loud 57 = .ok (.ireturn, 1) := by decide +kernel
theorem dX9_heardBy_0 : decode cX9_heardBy 0 = .ok (.iconst 0, 1) := by decide +kernel
theorem dX9_heardBy_1 : decode cX9_heardBy 1 = .ok (.istore 4, 2) := by decide +kernel
theorem dX9_heardBy_3 : decode cX9_heardBy 3 = .ok (.iconst 0, 1) := by decide +kernel
theorem dX9_heardBy_4 : decode cX9_heardBy 4 = .ok (.istore 5, 2) := by decide +kernel
theorem dX9_heardBy_6 : decode cX9_heardBy 6 = .ok (.iload 5, 2) := by decide +kernel
theorem dX9_heardBy_8 : decode cX9_heardBy 8 = .ok (.aload_n 0, 1) := by decide +kernel
theorem dX9_heardBy_9 : decode cX9_heardBy 9 = .ok (.getfield 140, 3) := by decide +kernel
theorem dX9_heardBy_12 : decode cX9_heardBy 12 = .ok (.if_icmp .ge 69, 3) := by decide +kernel
theorem dX9_heardBy_15 : decode cX9_heardBy 15 = .ok (.iload_n 2, 1) := by decide +kernel
theorem dX9_heardBy_16 : decode cX9_heardBy 16 = .ok (.iload 5, 2) := by decide +kernel
theorem dX9_heardBy_18 : decode cX9_heardBy 18 = .ok (.ishr, 1) := by decide +kernel
theorem dX9_heardBy_19 : decode cX9_heardBy 19 = .ok (.iconst 1, 1) := by decide +kernel
theorem dX9_heardBy_20 : decode cX9_heardBy 20 = .ok (.iand, 1) := by decide +kernel
theorem dX9_heardBy_21 : decode cX9_heardBy 21 = .ok (.iconst 1, 1) := by decide +kernel
theorem dX9_heardBy_22 : decode cX9_heardBy 22 = .ok (.if_icmp .ne 24, 3) := by decide +kernel
theorem dX9_heardBy_25 : decode cX9_heardBy 25 = .ok (.iload_n 3, 1) := by decide +kernel
theorem dX9_heardBy_26 : decode cX9_heardBy 26 = .ok (.ifCond .eq 16, 3) := by decide +kernel
theorem dX9_heardBy_29 : decode cX9_heardBy 29 = .ok (.aload_n 0, 1) := by decide +kernel
theorem dX9_heardBy_30 : decode cX9_heardBy 30 = .ok (.getfield 26, 3) := by decide +kernel
theorem dX9_heardBy_33 : decode cX9_heardBy 33 = .ok (.iconst 4, 1) := by decide +kernel
theorem dX9_heardBy_34 : decode cX9_heardBy 34 = .ok (.iload 5, 2) := by decide +kernel
theorem dX9_heardBy_36 : decode cX9_heardBy 36 = .ok (.imul, 1) := by decide +kernel
theorem dX9_heardBy_37 : decode cX9_heardBy 37 = .ok (.iaload, 1) := by decide +kernel
theorem dX9_heardBy_38 : decode cX9_heardBy 38 = .ok (.iload_n 1, 1) := by decide +kernel
theorem dX9_heardBy_39 : decode cX9_heardBy 39 = .ok (.if_icmp .eq 7, 3) := by decide +kernel
theorem dX9_heardBy_42 : decode cX9_heardBy 42 = .ok (.iconst 1, 1) := by decide +kernel
theorem dX9_heardBy_43 : decode cX9_heardBy 43 = .ok (.goto 4, 3) := by decide +kernel
theorem dX9_heardBy_46 : decode cX9_heardBy 46 = .ok (.iconst 0, 1) := by decide +kernel
theorem dX9_heardBy_47 : decode cX9_heardBy 47 = .ok (.istore 6, 2) := by decide +kernel
theorem dX9_heardBy_49 : decode cX9_heardBy 49 = .ok (.iload 4, 2) := by decide +kernel
theorem dX9_heardBy_51 : decode cX9_heardBy 51 = .ok (.iload 6, 2) := by decide +kernel
theorem dX9_heardBy_53 : decode cX9_heardBy 53 = .ok (.ifCond .eq 18, 3) := by decide +kernel
theorem dX9_heardBy_56 : decode cX9_heardBy 56 = .ok (.aload_n 0, 1) := by decide +kernel
theorem dX9_heardBy_57 : decode cX9_heardBy 57 = .ok (.getfield 32, 3) := by decide +kernel
theorem dX9_heardBy_60 : decode cX9_heardBy 60 = .ok (.bipush 48, 2) := by decide +kernel
theorem dX9_heardBy_62 : decode cX9_heardBy 62 = .ok (.iload 5, 2) := by decide +kernel
theorem dX9_heardBy_64 : decode cX9_heardBy 64 = .ok (.imul, 1) := by decide +kernel
theorem dX9_heardBy_65 : decode cX9_heardBy 65 = .ok (.iload_n 1, 1) := by decide +kernel
theorem dX9_heardBy_66 : decode cX9_heardBy 66 = .ok (.iadd, 1) := by decide +kernel
theorem dX9_heardBy_67 : decode cX9_heardBy 67 = .ok (.iaload, 1) := by decide +kernel
theorem dX9_heardBy_68 : decode cX9_heardBy 68 = .ok (.goto 4, 3) := by decide +kernel
theorem dX9_heardBy_71 : decode cX9_heardBy 71 = .ok (.iconst 0, 1) := by decide +kernel
theorem dX9_heardBy_72 : decode cX9_heardBy 72 = .ok (.iadd, 1) := by decide +kernel
theorem dX9_heardBy_73 : decode cX9_heardBy 73 = .ok (.istore 4, 2) := by decide +kernel
theorem dX9_heardBy_75 : decode cX9_heardBy 75 = .ok (.iinc 5 1, 3) := by decide +kernel
theorem dX9_heardBy_78 : decode cX9_heardBy 78 = .ok (.goto (-72), 3) := by decide +kernel
theorem dX9_heardBy_81 : decode cX9_heardBy 81 = .ok (.iload 4, 2) := by decide +kernel
theorem dX9_heardBy_83 : decode cX9_heardBy 83 = .ok (.ireturn, 1) := by decide +kernel
set_option maxRecDepth 20000 in
theorem ggX9_heard_X9_isYard : GoodIn wsX9_heard wsX9_isYard := goodIn_r _ [6, 7, 8, 9, 10, 5, 11, 42, 43, 44, 45, 46, 47, 48, 49, 50, 51, 52, 53, 54, 55, 56, 57, 58, 59, 60, 61, 62, 63, 64, 65, 66, 67, 68] (by decide +kernel) (by decide +kernel)
set_option maxRecDepth 20000 in
theorem gX9_heard_X9_isYard : GoodIn wsX9_heard (wsV RX9 146 RX9 yX9_isYard wsX9_isYard) := goodIn_app (goodIn_of _ (by decide +kernel)) ggX9_heard_X9_isYard
set_option maxRecDepth 20000 in
theorem ggX9_heard_X9_spreadsAll : GoodIn wsX9_heard wsX9_spreadsAll := goodIn_r _ [15, 16, 17, 18, 19, 20, 5, 21, 7, 8, 22, 23, 24, 25, 26, 27, 28, 29, 30, 31, 32, 33, 34, 35, 36, 37, 42, 43, 44, 45, 46, 47, 48, 49, 50, 51, 52, 53, 54, 55, 56, 57, 58, 59, 60, 61, 62, 63, 64, 65, 66, 67, 68] (by decide +kernel) (by decide +kernel)
set_option maxRecDepth 20000 in
theorem gX9_heard_X9_spreadsAll : GoodIn wsX9_heard (wsV RX9 168 RX9 yX9_spreadsAll wsX9_spreadsAll) := goodIn_app (goodIn_of _ (by decide +kernel)) ggX9_heard_X9_spreadsAll
set_option maxRecDepth 20000 in
theorem ggX9_heard_X9_heardBy : GoodIn wsX9_heard wsX9_heardBy := goodIn_r _ [41, 16, 17, 22, 42, 43, 44, 45, 46, 47, 48, 49, 50, 51, 52, 53, 54, 55, 56, 57, 58, 59, 60, 61, 62, 63, 64, 65, 66, 67, 68] (by decide +kernel) (by decide +kernel)
set_option maxRecDepth 20000 in
theorem gX9_heard_X9_heardBy : GoodIn wsX9_heard (wsV RX9 171 RX9 yX9_heardBy wsX9_heardBy) := goodIn_app (goodIn_of _ (by decide +kernel)) ggX9_heard_X9_heardBy
theorem dX9_heard_0 : decode cX9_heard 0 = .ok (.aload_n 0, 1) := by decide +kernel
theorem dX9_heard_1 : decode cX9_heard 1 = .ok (.iconst 0, 1) := by decide +kernel
theorem dX9_heard_2 : decode cX9_heard 2 = .ok (.putfield 45, 3) := by decide +kernel
theorem dX9_heard_5 : decode cX9_heard 5 = .ok (.aload_n 0, 1) := by decide +kernel
theorem dX9_heard_6 : decode cX9_heard 6 = .ok (.iload_n 1, 1) := by decide +kernel
theorem dX9_heard_7 : decode cX9_heard 7 = .ok (.invokevirtual 146, 3) := by decide +kernel
theorem dX9_heard_10 : decode cX9_heard 10 = .ok (.ifCond .ne 5, 3) := by decide +kernel
theorem dX9_heard_13 : decode cX9_heard 13 = .ok (.iconst (-1), 1) := by decide +kernel
theorem dX9_heard_14 : decode cX9_heard 14 = .ok (.ireturn, 1) := by decide +kernel
theorem dX9_heard_15 : decode cX9_heard 15 = .ok (.aload_n 0, 1) := by decide +kernel
theorem dX9_heard_16 : decode cX9_heard 16 = .ok (.invokevirtual 168, 3) := by decide +kernel
theorem dX9_heard_19 : decode cX9_heard 19 = .ok (.aload_n 0, 1) := by decide +kernel
theorem dX9_heard_20 : decode cX9_heard 20 = .ok (.iload_n 1, 1) := by decide +kernel
theorem dX9_heard_21 : decode cX9_heard 21 = .ok (.iload_n 2, 1) := by decide +kernel
theorem dX9_heard_22 : decode cX9_heard 22 = .ok (.iconst 0, 1) := by decide +kernel
theorem dX9_heard_23 : decode cX9_heard 23 = .ok (.invokevirtual 171, 3) := by decide +kernel
theorem dX9_heard_26 : decode cX9_heard 26 = .ok (.ireturn, 1) := by decide +kernel
set_option maxRecDepth 20000 in
theorem ggX9_brokenBy_X9_holds : GoodIn wsX9_brokenBy wsX9_holds := goodIn_r _ [7, 2, 8, 9, 6, 10, 18, 19, 20, 21, 22, 23, 24, 25, 26, 27, 28, 29, 30, 31, 32, 33, 34, 35, 36, 37, 38, 39, 40, 41, 42, 43, 44] (by decide +kernel) (by decide +kernel)
set_option maxRecDepth 20000 in
theorem gX9_brokenBy_X9_holds : GoodIn wsX9_brokenBy (wsV RX9 157 RX9 yX9_holds wsX9_holds) := goodIn_app (goodIn_of _ (by decide +kernel)) ggX9_brokenBy_X9_holds
set_option maxRecDepth 20000 in
theorem ggX9_brokenBy_X9_heardBy : GoodIn wsX9_brokenBy wsX9_heardBy := goodIn_r _ [14, 15, 16, 17, 18, 19, 20, 21, 22, 23, 24, 25, 26, 27, 28, 29, 30, 31, 32, 33, 34, 35, 36, 37, 38, 39, 40, 41, 42, 43, 44] (by decide +kernel) (by decide +kernel)
set_option maxRecDepth 20000 in
theorem gX9_brokenBy_X9_heardBy : GoodIn wsX9_brokenBy (wsV RX9 171 RX9 yX9_heardBy wsX9_heardBy) := goodIn_app (goodIn_of _ (by decide +kernel)) ggX9_brokenBy_X9_heardBy
theorem dX9_brokenBy_0 : decode cX9_brokenBy 0 = .ok (.iconst 0, 1) := by decide +kernel
theorem dX9_brokenBy_1 : decode cX9_brokenBy 1 = .ok (.istore_n 3, 1) := by decide +kernel
theorem dX9_brokenBy_2 : decode cX9_brokenBy 2 = .ok (.iconst 0, 1) := by decide +kernel
theorem dX9_brokenBy_3 : decode cX9_brokenBy 3 = .ok (.istore 4, 2) := by decide +kernel
theorem dX9_brokenBy_5 : decode cX9_brokenBy 5 = .ok (.iload 4, 2) := by decide +kernel
theorem dX9_brokenBy_7 : decode cX9_brokenBy 7 = .ok (.aload_n 0, 1) := by decide +kernel
theorem dX9_brokenBy_8 : decode cX9_brokenBy 8 = .ok (.getfield 143, 3) := by decide +kernel
theorem dX9_brokenBy_11 : decode cX9_brokenBy 11 = .ok (.if_icmp .ge 59, 3) := by decide +kernel
theorem dX9_brokenBy_14 : decode cX9_brokenBy 14 = .ok (.iload_n 3, 1) := by decide +kernel
theorem dX9_brokenBy_15 : decode cX9_brokenBy 15 = .ok (.aload_n 0, 1) := by decide +kernel
theorem dX9_brokenBy_16 : decode cX9_brokenBy 16 = .ok (.iload 4, 2) := by decide +kernel
theorem dX9_brokenBy_18 : decode cX9_brokenBy 18 = .ok (.iload_n 1, 1) := by decide +kernel
theorem dX9_brokenBy_19 : decode cX9_brokenBy 19 = .ok (.invokevirtual 157, 3) := by decide +kernel
theorem dX9_brokenBy_22 : decode cX9_brokenBy 22 = .ok (.ifCond .eq 39, 3) := by decide +kernel
theorem dX9_brokenBy_25 : decode cX9_brokenBy 25 = .ok (.aload_n 0, 1) := by decide +kernel
theorem dX9_brokenBy_26 : decode cX9_brokenBy 26 = .ok (.aload_n 0, 1) := by decide +kernel
theorem dX9_brokenBy_27 : decode cX9_brokenBy 27 = .ok (.getfield 29, 3) := by decide +kernel
theorem dX9_brokenBy_30 : decode cX9_brokenBy 30 = .ok (.iconst 5, 1) := by decide +kernel
theorem dX9_brokenBy_31 : decode cX9_brokenBy 31 = .ok (.iload 4, 2) := by decide +kernel
theorem dX9_brokenBy_33 : decode cX9_brokenBy 33 = .ok (.imul, 1) := by decide +kernel
theorem dX9_brokenBy_34 : decode cX9_brokenBy 34 = .ok (.iaload, 1) := by decide +kernel
theorem dX9_brokenBy_35 : decode cX9_brokenBy 35 = .ok (.iload_n 2, 1) := by decide +kernel
theorem dX9_brokenBy_36 : decode cX9_brokenBy 36 = .ok (.iconst 1, 1) := by decide +kernel
theorem dX9_brokenBy_37 : decode cX9_brokenBy 37 = .ok (.invokevirtual 171, 3) := by decide +kernel
theorem dX9_brokenBy_40 : decode cX9_brokenBy 40 = .ok (.aload_n 0, 1) := by decide +kernel
theorem dX9_brokenBy_41 : decode cX9_brokenBy 41 = .ok (.getfield 29, 3) := by decide +kernel
theorem dX9_brokenBy_44 : decode cX9_brokenBy 44 = .ok (.iconst 5, 1) := by decide +kernel
theorem dX9_brokenBy_45 : decode cX9_brokenBy 45 = .ok (.iload 4, 2) := by decide +kernel
theorem dX9_brokenBy_47 : decode cX9_brokenBy 47 = .ok (.imul, 1) := by decide +kernel
theorem dX9_brokenBy_48 : decode cX9_brokenBy 48 = .ok (.iconst 3, 1) := by decide +kernel
theorem dX9_brokenBy_49 : decode cX9_brokenBy 49 = .ok (.iadd, 1) := by decide +kernel
theorem dX9_brokenBy_50 : decode cX9_brokenBy 50 = .ok (.iaload, 1) := by decide +kernel
theorem dX9_brokenBy_51 : decode cX9_brokenBy 51 = .ok (.if_icmp .le 10, 3) := by decide +kernel
theorem dX9_brokenBy_54 : decode cX9_brokenBy 54 = .ok (.iconst 1, 1) := by decide +kernel
theorem dX9_brokenBy_55 : decode cX9_brokenBy 55 = .ok (.iload 4, 2) := by decide +kernel
theorem dX9_brokenBy_57 : decode cX9_brokenBy 57 = .ok (.ishl, 1) := by decide +kernel
theorem dX9_brokenBy_58 : decode cX9_brokenBy 58 = .ok (.goto 4, 3) := by decide +kernel
theorem dX9_brokenBy_61 : decode cX9_brokenBy 61 = .ok (.iconst 0, 1) := by decide +kernel
theorem dX9_brokenBy_62 : decode cX9_brokenBy 62 = .ok (.ior, 1) := by decide +kernel
theorem dX9_brokenBy_63 : decode cX9_brokenBy 63 = .ok (.istore_n 3, 1) := by decide +kernel
theorem dX9_brokenBy_64 : decode cX9_brokenBy 64 = .ok (.iinc 4 1, 3) := by decide +kernel
theorem dX9_brokenBy_67 : decode cX9_brokenBy 67 = .ok (.goto (-62), 3) := by decide +kernel
theorem dX9_brokenBy_70 : decode cX9_brokenBy 70 = .ok (.iload_n 3, 1) := by decide +kernel
theorem dX9_brokenBy_71 : decode cX9_brokenBy 71 = .ok (.ireturn, 1) := by decide +kernel
set_option maxRecDepth 20000 in
theorem ggX9_isHour_X9_in : GoodIn wsX9_isHour wsX9_in := goodIn_r _ [4] (by decide +kernel) (by decide +kernel)
set_option maxRecDepth 20000 in
theorem gX9_isHour_X9_in : GoodIn wsX9_isHour (va_wsS RX9 48 yX9_in wsX9_in) := goodIn_app (goodIn_of _ (by decide +kernel)) ggX9_isHour_X9_in
theorem dX9_isHour_0 : decode cX9_isHour 0 = .ok (.iload_n 0, 1) := by decide +kernel
theorem dX9_isHour_1 : decode cX9_isHour 1 = .ok (.iconst 0, 1) := by decide +kernel
theorem dX9_isHour_2 : decode cX9_isHour 2 = .ok (.bipush 11, 2) := by decide +kernel
theorem dX9_isHour_4 : decode cX9_isHour 4 = .ok (.invokestatic 48, 3) := by decide +kernel
theorem dX9_isHour_7 : decode cX9_isHour 7 = .ok (.ireturn, 1) := by decide +kernel
set_option maxRecDepth 20000 in
theorem ggX9_isBit_X9_in : GoodIn wsX9_isBit wsX9_in := goodIn_r _ [4] (by decide +kernel) (by decide +kernel)
set_option maxRecDepth 20000 in
theorem gX9_isBit_X9_in : GoodIn wsX9_isBit (va_wsS RX9 48 yX9_in wsX9_in) := goodIn_app (goodIn_of _ (by decide +kernel)) ggX9_isBit_X9_in
theorem dX9_isBit_0 : decode cX9_isBit 0 = .ok (.iload_n 0, 1) := by decide +kernel
theorem dX9_isBit_1 : decode cX9_isBit 1 = .ok (.iconst 0, 1) := by decide +kernel
theorem dX9_isBit_2 : decode cX9_isBit 2 = .ok (.iconst 1, 1) := by decide +kernel
theorem dX9_isBit_3 : decode cX9_isBit 3 = .ok (.invokestatic 48, 3) := by decide +kernel
theorem dX9_isBit_6 : decode cX9_isBit 6 = .ok (.ireturn, 1) := by decide +kernel
set_option maxRecDepth 20000 in
theorem ggX9_broken_X9_isHour : GoodIn wsX9_broken wsX9_isHour := goodIn_r _ [5, 6, 7, 4, 8] (by decide +kernel) (by decide +kernel)
set_option maxRecDepth 20000 in
theorem gX9_broken_X9_isHour : GoodIn wsX9_broken (va_wsS RX9 175 yX9_isHour wsX9_isHour) := goodIn_app (goodIn_of _ (by decide +kernel)) ggX9_broken_X9_isHour
set_option maxRecDepth 20000 in
theorem ggX9_broken_X9_spreadsAll : GoodIn wsX9_broken wsX9_spreadsAll := goodIn_r _ [12, 13, 14, 15, 16, 17, 4, 18, 19, 20, 21, 22, 23, 24, 25, 26, 27, 28, 29, 30, 31, 32, 33, 34, 35, 36, 51, 52, 53, 54, 55, 56, 57, 58, 59, 60, 61, 62, 63, 64, 65, 66, 67, 68, 69, 70, 71, 72, 73, 74, 75, 76, 77] (by decide +kernel) (by decide +kernel)
set_option maxRecDepth 20000 in
theorem gX9_broken_X9_spreadsAll : GoodIn wsX9_broken (wsV RX9 168 RX9 yX9_spreadsAll wsX9_spreadsAll) := goodIn_app (goodIn_of _ (by decide +kernel)) ggX9_broken_X9_spreadsAll
set_option maxRecDepth 20000 in
theorem ggX9_broken_X9_brokenBy : GoodIn wsX9_broken wsX9_brokenBy := goodIn_r _ [40, 41, 42, 43, 44, 45, 4, 46, 6, 7, 8, 47, 48, 49, 50, 13, 14, 21, 51, 52, 53, 54, 55, 56, 57, 58, 59, 60, 61, 62, 63, 64, 65, 66, 67, 68, 69, 70, 71, 72, 73, 74, 75, 76, 77] (by decide +kernel) (by decide +kernel)
set_option maxRecDepth 20000 in
theorem gX9_broken_X9_brokenBy : GoodIn wsX9_broken (wsV RX9 178 RX9 yX9_brokenBy wsX9_brokenBy) := goodIn_app (goodIn_of _ (by decide +kernel)) ggX9_broken_X9_brokenBy
theorem dX9_broken_0 : decode cX9_broken 0 = .ok (.aload_n 0, 1) := by decide +kernel
theorem dX9_broken_1 : decode cX9_broken 1 = .ok (.iconst 0, 1) := by decide +kernel
theorem dX9_broken_2 : decode cX9_broken 2 = .ok (.putfield 45, 3) := by decide +kernel
theorem dX9_broken_5 : decode cX9_broken 5 = .ok (.iload_n 1, 1) := by decide +kernel
theorem dX9_broken_6 : decode cX9_broken 6 = .ok (.invokestatic 175, 3) := by decide +kernel
theorem dX9_broken_9 : decode cX9_broken 9 = .ok (.ifCond .ne 5, 3) := by decide +kernel
theorem dX9_broken_12 : decode cX9_broken 12 = .ok (.iconst (-1), 1) := by decide +kernel
theorem dX9_broken_13 : decode cX9_broken 13 = .ok (.ireturn, 1) := by decide +kernel
theorem dX9_broken_14 : decode cX9_broken 14 = .ok (.aload_n 0, 1) := by decide +kernel
theorem dX9_broken_15 : decode cX9_broken 15 = .ok (.invokevirtual 168, 3) := by decide +kernel
theorem dX9_broken_18 : decode cX9_broken 18 = .ok (.aload_n 0, 1) := by decide +kernel
theorem dX9_broken_19 : decode cX9_broken 19 = .ok (.iload_n 1, 1) := by decide +kernel
theorem dX9_broken_20 : decode cX9_broken 20 = .ok (.iload_n 2, 1) := by decide +kernel
theorem dX9_broken_21 : decode cX9_broken 21 = .ok (.invokevirtual 178, 3) := by decide +kernel
theorem dX9_broken_24 : decode cX9_broken 24 = .ok (.ireturn, 1) := by decide +kernel
theorem dX9_pricesOf_0 : decode cX9_pricesOf 0 = .ok (.iconst 0, 1) := by decide +kernel
theorem dX9_pricesOf_1 : decode cX9_pricesOf 1 = .ok (.istore_n 2, 1) := by decide +kernel
theorem dX9_pricesOf_2 : decode cX9_pricesOf 2 = .ok (.iconst 0, 1) := by decide +kernel
theorem dX9_pricesOf_3 : decode cX9_pricesOf 3 = .ok (.istore_n 3, 1) := by decide +kernel
theorem dX9_pricesOf_4 : decode cX9_pricesOf 4 = .ok (.iload_n 3, 1) := by decide +kernel
theorem dX9_pricesOf_5 : decode cX9_pricesOf 5 = .ok (.aload_n 0, 1) := by decide +kernel
theorem dX9_pricesOf_6 : decode cX9_pricesOf 6 = .ok (.getfield 143, 3) := by decide +kernel
theorem dX9_pricesOf_9 : decode cX9_pricesOf 9 = .ok (.if_icmp .ge 35, 3) := by decide +kernel
theorem dX9_pricesOf_12 : decode cX9_pricesOf 12 = .ok (.iload_n 2, 1) := by decide +kernel
theorem dX9_pricesOf_13 : decode cX9_pricesOf 13 = .ok (.iload_n 1, 1) := by decide +kernel
theorem dX9_pricesOf_14 : decode cX9_pricesOf 14 = .ok (.iload_n 3, 1) := by decide +kernel
theorem dX9_pricesOf_15 : decode cX9_pricesOf 15 = .ok (.ishr, 1) := by decide +kernel
theorem dX9_pricesOf_16 : decode cX9_pricesOf 16 = .ok (.iconst 1, 1) := by decide +kernel
theorem dX9_pricesOf_17 : decode cX9_pricesOf 17 = .ok (.iand, 1) := by decide +kernel
theorem dX9_pricesOf_18 : decode cX9_pricesOf 18 = .ok (.iconst 1, 1) := by decide +kernel
theorem dX9_pricesOf_19 : decode cX9_pricesOf 19 = .ok (.if_icmp .ne 16, 3) := by decide +kernel
theorem dX9_pricesOf_22 : decode cX9_pricesOf 22 = .ok (.aload_n 0, 1) := by decide +kernel
theorem dX9_pricesOf_23 : decode cX9_pricesOf 23 = .ok (.getfield 29, 3) := by decide +kernel
theorem dX9_pricesOf_26 : decode cX9_pricesOf 26 = .ok (.iconst 5, 1) := by decide +kernel
theorem dX9_pricesOf_27 : decode cX9_pricesOf 27 = .ok (.iload_n 3, 1) := by decide +kernel
theorem dX9_pricesOf_28 : decode cX9_pricesOf 28 = .ok (.imul, 1) := by decide +kernel
theorem dX9_pricesOf_29 : decode cX9_pricesOf 29 = .ok (.iconst 4, 1) := by decide +kernel
theorem dX9_pricesOf_30 : decode cX9_pricesOf 30 = .ok (.iadd, 1) := by decide +kernel
theorem dX9_pricesOf_31 : decode cX9_pricesOf 31 = .ok (.iaload, 1) := by decide +kernel
theorem dX9_pricesOf_32 : decode cX9_pricesOf 32 = .ok (.goto 4, 3) := by decide +kernel
theorem dX9_pricesOf_35 : decode cX9_pricesOf 35 = .ok (.iconst 0, 1) := by decide +kernel
theorem dX9_pricesOf_36 : decode cX9_pricesOf 36 = .ok (.iadd, 1) := by decide +kernel
theorem dX9_pricesOf_37 : decode cX9_pricesOf 37 = .ok (.istore_n 2, 1) := by decide +kernel
theorem dX9_pricesOf_38 : decode cX9_pricesOf 38 = .ok (.iinc 3 1, 3) := by decide +kernel
theorem dX9_pricesOf_41 : decode cX9_pricesOf 41 = .ok (.goto (-37), 3) := by decide +kernel
theorem dX9_pricesOf_44 : decode cX9_pricesOf 44 = .ok (.iload_n 2, 1) := by decide +kernel
theorem dX9_pricesOf_45 : decode cX9_pricesOf 45 = .ok (.ireturn, 1) := by decide +kernel
set_option maxRecDepth 20000 in
theorem ggX9_plans_X9_brokenBy : GoodIn wsX9_plans wsX9_brokenBy := goodIn_r _ [9, 10, 11, 12, 13, 14, 8, 15, 16, 17, 18, 19, 20, 21, 22, 3, 4, 23, 28, 29, 30, 31, 32, 33, 34, 35, 36, 37, 38, 39, 40, 41, 42, 43, 44, 45, 46, 47, 48, 49, 50, 51, 52, 53, 54] (by decide +kernel) (by decide +kernel)
set_option maxRecDepth 20000 in
theorem gX9_plans_X9_brokenBy : GoodIn wsX9_plans (wsV RX9 178 RX9 yX9_brokenBy wsX9_brokenBy) := goodIn_app (goodIn_of _ (by decide +kernel)) ggX9_plans_X9_brokenBy
set_option maxRecDepth 20000 in
theorem ggX9_plans_X9_pricesOf : GoodIn wsX9_plans wsX9_pricesOf := goodIn_r _ [27, 10, 11, 28, 29, 30, 31, 32, 33, 34, 35, 36, 37, 38, 39, 40, 41, 42, 43, 44, 45, 46, 47, 48, 49, 50, 51, 52, 53, 54] (by decide +kernel) (by decide +kernel)
set_option maxRecDepth 20000 in
theorem gX9_plans_X9_pricesOf : GoodIn wsX9_plans (wsV RX9 187 RX9 yX9_pricesOf wsX9_pricesOf) := goodIn_app (goodIn_of _ (by decide +kernel)) ggX9_plans_X9_pricesOf
theorem dX9_plans_0 : decode cX9_plans 0 = .ok (.aload_n 0, 1) := by decide +kernel
theorem dX9_plans_1 : decode cX9_plans 1 = .ok (.iconst 0, 1) := by decide +kernel
theorem dX9_plans_2 : decode cX9_plans 2 = .ok (.putfield 181, 3) := by decide +kernel
theorem dX9_plans_5 : decode cX9_plans 5 = .ok (.aload_n 0, 1) := by decide +kernel
theorem dX9_plans_6 : decode cX9_plans 6 = .ok (.iconst 0, 1) := by decide +kernel
theorem dX9_plans_7 : decode cX9_plans 7 = .ok (.putfield 184, 3) := by decide +kernel
theorem dX9_plans_10 : decode cX9_plans 10 = .ok (.iconst 1, 1) := by decide +kernel
theorem dX9_plans_11 : decode cX9_plans 11 = .ok (.istore_n 3, 1) := by decide +kernel
theorem dX9_plans_12 : decode cX9_plans 12 = .ok (.iload_n 3, 1) := by decide +kernel
theorem dX9_plans_13 : decode cX9_plans 13 = .ok (.iconst 1, 1) := by decide +kernel
theorem dX9_plans_14 : decode cX9_plans 14 = .ok (.aload_n 0, 1) := by decide +kernel
theorem dX9_plans_15 : decode cX9_plans 15 = .ok (.getfield 140, 3) := by decide +kernel
theorem dX9_plans_18 : decode cX9_plans 18 = .ok (.ishl, 1) := by decide +kernel
theorem dX9_plans_19 : decode cX9_plans 19 = .ok (.if_icmp .ge 150, 3) := by decide +kernel
theorem dX9_plans_22 : decode cX9_plans 22 = .ok (.iconst 0, 1) := by decide +kernel
theorem dX9_plans_23 : decode cX9_plans 23 = .ok (.istore 4, 2) := by decide +kernel
theorem dX9_plans_25 : decode cX9_plans 25 = .ok (.iconst 0, 1) := by decide +kernel
theorem dX9_plans_26 : decode cX9_plans 26 = .ok (.istore 5, 2) := by decide +kernel
theorem dX9_plans_28 : decode cX9_plans 28 = .ok (.iload 5, 2) := by decide +kernel
theorem dX9_plans_30 : decode cX9_plans 30 = .ok (.aload_n 0, 1) := by decide +kernel
theorem dX9_plans_31 : decode cX9_plans 31 = .ok (.getfield 140, 3) := by decide +kernel
theorem dX9_plans_34 : decode cX9_plans 34 = .ok (.if_icmp .ge 39, 3) := by decide +kernel
theorem dX9_plans_37 : decode cX9_plans 37 = .ok (.iload 4, 2) := by decide +kernel
theorem dX9_plans_39 : decode cX9_plans 39 = .ok (.iload_n 3, 1) := by decide +kernel
theorem dX9_plans_40 : decode cX9_plans 40 = .ok (.iload 5, 2) := by decide +kernel
theorem dX9_plans_42 : decode cX9_plans 42 = .ok (.ishr, 1) := by decide +kernel
theorem dX9_plans_43 : decode cX9_plans 43 = .ok (.iconst 1, 1) := by decide +kernel
theorem dX9_plans_44 : decode cX9_plans 44 = .ok (.iand, 1) := by decide +kernel
theorem dX9_plans_45 : decode cX9_plans 45 = .ok (.iconst 1, 1) := by decide +kernel
theorem dX9_plans_46 : decode cX9_plans 46 = .ok (.if_icmp .ne 17, 3) := by decide +kernel
theorem dX9_plans_49 : decode cX9_plans 49 = .ok (.aload_n 0, 1) := by decide +kernel
theorem dX9_plans_50 : decode cX9_plans 50 = .ok (.getfield 26, 3) := by decide +kernel
theorem dX9_plans_53 : decode cX9_plans 53 = .ok (.iconst 4, 1) := by decide +kernel
theorem dX9_plans_54 : decode cX9_plans 54 = .ok (.iload 5, 2) := by decide +kernel
theorem dX9_plans_56 : decode cX9_plans 56 = .ok (.imul, 1) := by decide +kernel
theorem dX9_plans_57 : decode cX9_plans 57 = .ok (.iconst 3, 1) := by decide +kernel
theorem dX9_plans_58 : decode cX9_plans 58 = .ok (.iadd, 1) := by decide +kernel
theorem dX9_plans_59 : decode cX9_plans 59 = .ok (.iaload, 1) := by decide +kernel
theorem dX9_plans_60 : decode cX9_plans 60 = .ok (.goto 4, 3) := by decide +kernel
theorem dX9_plans_63 : decode cX9_plans 63 = .ok (.iconst 0, 1) := by decide +kernel
theorem dX9_plans_64 : decode cX9_plans 64 = .ok (.iadd, 1) := by decide +kernel
theorem dX9_plans_65 : decode cX9_plans 65 = .ok (.istore 4, 2) := by decide +kernel
theorem dX9_plans_67 : decode cX9_plans 67 = .ok (.iinc 5 1, 3) := by decide +kernel
theorem dX9_plans_70 : decode cX9_plans 70 = .ok (.goto (-42), 3) := by decide +kernel
theorem dX9_plans_73 : decode cX9_plans 73 = .ok (.iload 4, 2) := by decide +kernel
theorem dX9_plans_75 : decode cX9_plans 75 = .ok (.aload_n 0, 1) := by decide +kernel
theorem dX9_plans_76 : decode cX9_plans 76 = .ok (.getfield 184, 3) := by decide +kernel
theorem dX9_plans_79 : decode cX9_plans 79 = .ok (.if_icmp .le 84, 3) := by decide +kernel
theorem dX9_plans_82 : decode cX9_plans 82 = .ok (.aload_n 0, 1) := by decide +kernel
theorem dX9_plans_83 : decode cX9_plans 83 = .ok (.iload_n 1, 1) := by decide +kernel
theorem dX9_plans_84 : decode cX9_plans 84 = .ok (.iload_n 3, 1) := by decide +kernel
theorem dX9_plans_85 : decode cX9_plans 85 = .ok (.invokevirtual 178, 3) := by decide +kernel
theorem dX9_plans_88 : decode cX9_plans 88 = .ok (.istore 5, 2) := by decide +kernel
theorem dX9_plans_90 : decode cX9_plans 90 = .ok (.iload_n 2, 1) := by decide +kernel
theorem dX9_plans_91 : decode cX9_plans 91 = .ok (.iconst 1, 1) := by decide +kernel
theorem dX9_plans_92 : decode cX9_plans 92 = .ok (.if_icmp .ne 15, 3) := by decide +kernel
theorem dX9_plans_95 : decode cX9_plans 95 = .ok (.iload 4, 2) := by decide +kernel
theorem dX9_plans_97 : decode cX9_plans 97 = .ok (.aload_n 0, 1) := by decide +kernel
theorem dX9_plans_98 : decode cX9_plans 98 = .ok (.iload 5, 2) := by decide +kernel
theorem dX9_plans_100 : decode cX9_plans 100 = .ok (.invokevirtual 187, 3) := by decide +kernel
theorem dX9_plans_103 : decode cX9_plans 103 = .ok (.isub, 1) := by decide +kernel
theorem dX9_plans_104 : decode cX9_plans 104 = .ok (.goto 14, 3) := by decide +kernel
theorem dX9_plans_107 : decode cX9_plans 107 = .ok (.iload 5, 2) := by decide +kernel
theorem dX9_plans_109 : decode cX9_plans 109 = .ok (.ifCond .ne 8, 3) := by decide +kernel
theorem dX9_plans_112 : decode cX9_plans 112 = .ok (.iload 4, 2) := by decide +kernel
theorem dX9_plans_114 : decode cX9_plans 114 = .ok (.goto 4, 3) := by decide +kernel
theorem dX9_plans_117 : decode cX9_plans 117 = .ok (.iconst 0, 1) := by decide +kernel
theorem dX9_plans_118 : decode cX9_plans 118 = .ok (.istore 6, 2) := by decide +kernel
theorem dX9_plans_120 : decode cX9_plans 120 = .ok (.aload_n 0, 1) := by decide +kernel
theorem dX9_plans_121 : decode cX9_plans 121 = .ok (.iload 6, 2) := by decide +kernel
theorem dX9_plans_123 : decode cX9_plans 123 = .ok (.aload_n 0, 1) := by decide +kernel
theorem dX9_plans_124 : decode cX9_plans 124 = .ok (.getfield 184, 3) := by decide +kernel
theorem dX9_plans_127 : decode cX9_plans 127 = .ok (.if_icmp .le 7, 3) := by decide +kernel
theorem dX9_plans_130 : decode cX9_plans 130 = .ok (.iload_n 3, 1) := by decide +kernel
theorem dX9_plans_131 : decode cX9_plans 131 = .ok (.goto 7, 3) := by decide +kernel
theorem dX9_plans_134 : decode cX9_plans 134 = .ok (.aload_n 0, 1) := by decide +kernel
theorem dX9_plans_135 : decode cX9_plans 135 = .ok (.getfield 181, 3) := by decide +kernel
theorem dX9_plans_138 : decode cX9_plans 138 = .ok (.putfield 181, 3) := by decide +kernel
theorem dX9_plans_141 : decode cX9_plans 141 = .ok (.aload_n 0, 1) := by decide +kernel
theorem dX9_plans_142 : decode cX9_plans 142 = .ok (.iload 6, 2) := by decide +kernel
theorem dX9_plans_144 : decode cX9_plans 144 = .ok (.aload_n 0, 1) := by decide +kernel
theorem dX9_plans_145 : decode cX9_plans 145 = .ok (.getfield 184, 3) := by decide +kernel
theorem dX9_plans_148 : decode cX9_plans 148 = .ok (.if_icmp .le 8, 3) := by decide +kernel
theorem dX9_plans_151 : decode cX9_plans 151 = .ok (.iload 6, 2) := by decide +kernel
theorem dX9_plans_153 : decode cX9_plans 153 = .ok (.goto 7, 3) := by decide +kernel
theorem dX9_plans_156 : decode cX9_plans 156 = .ok (.aload_n 0, 1) := by decide +kernel
theorem dX9_plans_157 : decode cX9_plans 157 = .ok (.getfield 184, 3) := by decide +kernel
theorem dX9_plans_160 : decode cX9_plans 160 = .ok (.putfield 184, 3) := by decide +kernel
theorem dX9_plans_163 : decode cX9_plans 163 = .ok (.iinc 3 1, 3) := by decide +kernel
theorem dX9_plans_166 : decode cX9_plans 166 = .ok (.goto (-154), 3) := by decide +kernel
theorem dX9_plans_169 : decode cX9_plans 169 = .ok (.return_, 1) := by decide +kernel
set_option maxRecDepth 20000 in
theorem ggX9_plan_X9_isHour : GoodIn wsX9_plan wsX9_isHour := goodIn_r _ [7, 8, 9, 6, 10] (by decide +kernel) (by decide +kernel)
set_option maxRecDepth 20000 in
theorem gX9_plan_X9_isHour : GoodIn wsX9_plan (va_wsS RX9 175 yX9_isHour wsX9_isHour) := goodIn_app (goodIn_of _ (by decide +kernel)) ggX9_plan_X9_isHour
set_option maxRecDepth 20000 in
theorem ggX9_plan_X9_isBit : GoodIn wsX9_plan wsX9_isBit := goodIn_r _ [13, 8, 9, 6, 10] (by decide +kernel) (by decide +kernel)
set_option maxRecDepth 20000 in
theorem gX9_plan_X9_isBit : GoodIn wsX9_plan (va_wsS RX9 190 yX9_isBit wsX9_isBit) := goodIn_app (goodIn_of _ (by decide +kernel)) ggX9_plan_X9_isBit
set_option maxRecDepth 20000 in
theorem ggX9_plan_X9_spreadsAll : GoodIn wsX9_plan wsX9_spreadsAll := goodIn_r _ [17, 18, 19, 20, 21, 22, 6, 23, 24, 25, 26, 27, 28, 29, 30, 31, 32, 33, 34, 35, 36, 37, 38, 39, 40, 41, 64, 65, 66, 67, 68, 69, 70, 71, 72, 73, 74, 75, 76, 77, 78, 79, 80, 81, 82, 83, 84, 85, 86, 87, 88, 89, 90] (by decide +kernel) (by decide +kernel)
set_option maxRecDepth 20000 in
theorem gX9_plan_X9_spreadsAll : GoodIn wsX9_plan (wsV RX9 168 RX9 yX9_spreadsAll wsX9_spreadsAll) := goodIn_app (goodIn_of _ (by decide +kernel)) ggX9_plan_X9_spreadsAll
set_option maxRecDepth 20000 in
theorem ggX9_plan_X9_plans : GoodIn wsX9_plan wsX9_plans := goodIn_r _ [45, 2, 3, 18, 19, 46, 47, 48, 6, 49, 50, 51, 52, 53, 54, 55, 8, 9, 10, 56, 57, 58, 59, 26, 60, 61, 62, 63, 64, 65, 66, 67, 68, 69, 70, 71, 72, 73, 74, 75, 76, 77, 78, 79, 80, 81, 82, 83, 84, 85, 86, 87, 88, 89, 90] (by decide +kernel) (by decide +kernel)
set_option maxRecDepth 20000 in
theorem gX9_plan_X9_plans : GoodIn wsX9_plan (wsV RX9 193 RX9 yX9_plans wsX9_plans) := goodIn_app (goodIn_of _ (by decide +kernel)) ggX9_plan_X9_plans
theorem dX9_plan_0 : decode cX9_plan 0 = .ok (.aload_n 0, 1) := by decide +kernel
theorem dX9_plan_1 : decode cX9_plan 1 = .ok (.iconst 0, 1) := by decide +kernel
theorem dX9_plan_2 : decode cX9_plan 2 = .ok (.putfield 45, 3) := by decide +kernel
theorem dX9_plan_5 : decode cX9_plan 5 = .ok (.iload_n 1, 1) := by decide +kernel
theorem dX9_plan_6 : decode cX9_plan 6 = .ok (.invokestatic 175, 3) := by decide +kernel
theorem dX9_plan_9 : decode cX9_plan 9 = .ok (.ifCond .eq 17, 3) := by decide +kernel
theorem dX9_plan_12 : decode cX9_plan 12 = .ok (.iload_n 2, 1) := by decide +kernel
theorem dX9_plan_13 : decode cX9_plan 13 = .ok (.invokestatic 190, 3) := by decide +kernel
theorem dX9_plan_16 : decode cX9_plan 16 = .ok (.ifCond .eq 10, 3) := by decide +kernel
theorem dX9_plan_19 : decode cX9_plan 19 = .ok (.iload_n 3, 1) := by decide +kernel
theorem dX9_plan_20 : decode cX9_plan 20 = .ok (.invokestatic 190, 3) := by decide +kernel
theorem dX9_plan_23 : decode cX9_plan 23 = .ok (.ifCond .ne 5, 3) := by decide +kernel
theorem dX9_plan_26 : decode cX9_plan 26 = .ok (.iconst (-1), 1) := by decide +kernel
theorem dX9_plan_27 : decode cX9_plan 27 = .ok (.ireturn, 1) := by decide +kernel
theorem dX9_plan_28 : decode cX9_plan 28 = .ok (.aload_n 0, 1) := by decide +kernel
theorem dX9_plan_29 : decode cX9_plan 29 = .ok (.invokevirtual 168, 3) := by decide +kernel
theorem dX9_plan_32 : decode cX9_plan 32 = .ok (.aload_n 0, 1) := by decide +kernel
theorem dX9_plan_33 : decode cX9_plan 33 = .ok (.iload_n 1, 1) := by decide +kernel
theorem dX9_plan_34 : decode cX9_plan 34 = .ok (.iload_n 2, 1) := by decide +kernel
theorem dX9_plan_35 : decode cX9_plan 35 = .ok (.invokevirtual 193, 3) := by decide +kernel
theorem dX9_plan_38 : decode cX9_plan 38 = .ok (.iload_n 3, 1) := by decide +kernel
theorem dX9_plan_39 : decode cX9_plan 39 = .ok (.ifCond .ne 10, 3) := by decide +kernel
theorem dX9_plan_42 : decode cX9_plan 42 = .ok (.aload_n 0, 1) := by decide +kernel
theorem dX9_plan_43 : decode cX9_plan 43 = .ok (.getfield 181, 3) := by decide +kernel
theorem dX9_plan_46 : decode cX9_plan 46 = .ok (.goto 7, 3) := by decide +kernel
theorem dX9_plan_49 : decode cX9_plan 49 = .ok (.aload_n 0, 1) := by decide +kernel
theorem dX9_plan_50 : decode cX9_plan 50 = .ok (.getfield 184, 3) := by decide +kernel
theorem dX9_plan_53 : decode cX9_plan 53 = .ok (.ireturn, 1) := by decide +kernel
set_option maxRecDepth 20000 in
theorem ggX9_dayOf_X9_spreadsAll : GoodIn wsX9_dayOf wsX9_spreadsAll := goodIn_r _ [6, 7, 8, 9, 10, 11, 5, 12, 13, 14, 15, 16, 17, 18, 19, 20, 21, 22, 23, 24, 25, 26, 27, 28, 29, 30, 57, 58, 59, 60, 61, 62, 63, 64, 65, 66, 67, 68, 69, 70, 71, 72, 73, 74, 75, 76, 77, 78, 79, 80, 81, 82, 83] (by decide +kernel) (by decide +kernel)
set_option maxRecDepth 20000 in
theorem gX9_dayOf_X9_spreadsAll : GoodIn wsX9_dayOf (wsV RX9 168 RX9 yX9_spreadsAll wsX9_spreadsAll) := goodIn_app (goodIn_of _ (by decide +kernel)) ggX9_dayOf_X9_spreadsAll
set_option maxRecDepth 20000 in
theorem ggX9_dayOf_X9_plans : GoodIn wsX9_dayOf wsX9_plans := goodIn_r _ [34, 35, 1, 7, 8, 36, 37, 38, 5, 39, 40, 41, 42, 43, 44, 45, 46, 47, 48, 49, 50, 51, 52, 15, 53, 54, 55, 56, 57, 58, 59, 60, 61, 62, 63, 64, 65, 66, 67, 68, 69, 70, 71, 72, 73, 74, 75, 76, 77, 78, 79, 80, 81, 82, 83] (by decide +kernel) (by decide +kernel)
set_option maxRecDepth 20000 in
theorem gX9_dayOf_X9_plans : GoodIn wsX9_dayOf (wsV RX9 193 RX9 yX9_plans wsX9_plans) := goodIn_app (goodIn_of _ (by decide +kernel)) ggX9_dayOf_X9_plans
theorem dX9_dayOf_0 : decode cX9_dayOf 0 = .ok (.aload_n 0, 1) := by decide +kernel
theorem dX9_dayOf_1 : decode cX9_dayOf 1 = .ok (.invokevirtual 168, 3) := by decide +kernel
theorem dX9_dayOf_4 : decode cX9_dayOf 4 = .ok (.iconst 0, 1) := by decide +kernel
theorem dX9_dayOf_5 : decode cX9_dayOf 5 = .ok (.istore_n 2, 1) := by decide +kernel
theorem dX9_dayOf_6 : decode cX9_dayOf 6 = .ok (.iconst 0, 1) := by decide +kernel
theorem dX9_dayOf_7 : decode cX9_dayOf 7 = .ok (.istore_n 3, 1) := by decide +kernel
theorem dX9_dayOf_8 : decode cX9_dayOf 8 = .ok (.iload_n 3, 1) := by decide +kernel
theorem dX9_dayOf_9 : decode cX9_dayOf 9 = .ok (.bipush 12, 2) := by decide +kernel
theorem dX9_dayOf_11 : decode cX9_dayOf 11 = .ok (.if_icmp .ge 22, 3) := by decide +kernel
theorem dX9_dayOf_14 : decode cX9_dayOf 14 = .ok (.aload_n 0, 1) := by decide +kernel
theorem dX9_dayOf_15 : decode cX9_dayOf 15 = .ok (.iload_n 3, 1) := by decide +kernel
theorem dX9_dayOf_16 : decode cX9_dayOf 16 = .ok (.iload_n 1, 1) := by decide +kernel
theorem dX9_dayOf_17 : decode cX9_dayOf 17 = .ok (.invokevirtual 193, 3) := by decide +kernel
theorem dX9_dayOf_20 : decode cX9_dayOf 20 = .ok (.iload_n 2, 1) := by decide +kernel
theorem dX9_dayOf_21 : decode cX9_dayOf 21 = .ok (.aload_n 0, 1) := by decide +kernel
theorem dX9_dayOf_22 : decode cX9_dayOf 22 = .ok (.getfield 184, 3) := by decide +kernel
theorem dX9_dayOf_25 : decode cX9_dayOf 25 = .ok (.iadd, 1) := by decide +kernel
theorem dX9_dayOf_26 : decode cX9_dayOf 26 = .ok (.istore_n 2, 1) := by decide +kernel
theorem dX9_dayOf_27 : decode cX9_dayOf 27 = .ok (.iinc 3 1, 3) := by decide +kernel
theorem dX9_dayOf_30 : decode cX9_dayOf 30 = .ok (.goto (-22), 3) := by decide +kernel
theorem dX9_dayOf_33 : decode cX9_dayOf 33 = .ok (.iload_n 2, 1) := by decide +kernel
theorem dX9_dayOf_34 : decode cX9_dayOf 34 = .ok (.ireturn, 1) := by decide +kernel
set_option maxRecDepth 20000 in
theorem ggX9_day_X9_isBit : GoodIn wsX9_day wsX9_isBit := goodIn_r _ [5, 6, 7, 4, 8] (by decide +kernel) (by decide +kernel)
set_option maxRecDepth 20000 in
theorem gX9_day_X9_isBit : GoodIn wsX9_day (va_wsS RX9 190 yX9_isBit wsX9_isBit) := goodIn_app (goodIn_of _ (by decide +kernel)) ggX9_day_X9_isBit
set_option maxRecDepth 20000 in
theorem ggX9_day_X9_dayOf : GoodIn wsX9_day wsX9_dayOf := goodIn_r _ [12, 13, 14, 15, 16, 4, 17, 18, 19, 20, 21, 22, 23, 24, 25, 26, 27, 28, 29, 30, 31, 32, 33, 34, 35, 36, 37, 38, 39, 40, 41, 42, 43, 44, 45, 46, 47, 48, 49, 50, 51, 52, 53, 54, 55, 56, 6, 7, 8, 57, 58, 59, 60, 61, 62, 63, 64, 65, 66, 67, 68, 69, 70, 71, 72, 73, 74, 75, 76, 77, 78, 79, 80, 81, 82, 83, 84, 85, 86, 87, 88, 89, 90, 91] (by decide +kernel) (by decide +kernel)
set_option maxRecDepth 20000 in
theorem gX9_day_X9_dayOf : GoodIn wsX9_day (wsV RX9 197 RX9 yX9_dayOf wsX9_dayOf) := goodIn_app (goodIn_of _ (by decide +kernel)) ggX9_day_X9_dayOf
theorem dX9_day_0 : decode cX9_day 0 = .ok (.aload_n 0, 1) := by decide +kernel
theorem dX9_day_1 : decode cX9_day 1 = .ok (.iconst 0, 1) := by decide +kernel
theorem dX9_day_2 : decode cX9_day 2 = .ok (.putfield 45, 3) := by decide +kernel
theorem dX9_day_5 : decode cX9_day 5 = .ok (.iload_n 1, 1) := by decide +kernel
theorem dX9_day_6 : decode cX9_day 6 = .ok (.invokestatic 190, 3) := by decide +kernel
theorem dX9_day_9 : decode cX9_day 9 = .ok (.ifCond .eq 11, 3) := by decide +kernel
theorem dX9_day_12 : decode cX9_day 12 = .ok (.aload_n 0, 1) := by decide +kernel
theorem dX9_day_13 : decode cX9_day 13 = .ok (.iload_n 1, 1) := by decide +kernel
theorem dX9_day_14 : decode cX9_day 14 = .ok (.invokevirtual 197, 3) := by decide +kernel
theorem dX9_day_17 : decode cX9_day 17 = .ok (.goto 4, 3) := by decide +kernel
theorem dX9_day_20 : decode cX9_day 20 = .ok (.iconst (-1), 1) := by decide +kernel
theorem dX9_day_21 : decode cX9_day 21 = .ok (.ireturn, 1) := by decide +kernel
set_option maxRecDepth 20000 in
theorem ggX9_best_X9_isBit : GoodIn wsX9_best wsX9_isBit := goodIn_r _ [8, 9, 10, 7, 11] (by decide +kernel) (by decide +kernel)
set_option maxRecDepth 20000 in
theorem gX9_best_X9_isBit : GoodIn wsX9_best (va_wsS RX9 190 yX9_isBit wsX9_isBit) := goodIn_app (goodIn_of _ (by decide +kernel)) ggX9_best_X9_isBit
set_option maxRecDepth 20000 in
theorem ggX9_best_X9_dayOf : GoodIn wsX9_best wsX9_dayOf := goodIn_r _ [15, 16, 17, 18, 19, 7, 20, 21, 22, 23, 24, 25, 26, 2, 3, 27, 28, 29, 30, 31, 32, 33, 34, 35, 36, 37, 4, 38, 39, 40, 41, 42, 43, 44, 45, 46, 47, 48, 49, 50, 51, 52, 53, 54, 55, 56, 9, 10, 11, 57, 58, 59, 60, 61, 62, 63, 64, 65, 66, 67, 68, 69, 70, 71, 72, 73, 74, 75, 76, 77, 78, 79, 80, 81, 82, 83, 84, 85, 86, 87, 88, 89, 90, 91] (by decide +kernel) (by decide +kernel)
set_option maxRecDepth 20000 in
theorem gX9_best_X9_dayOf : GoodIn wsX9_best (wsV RX9 197 RX9 yX9_dayOf wsX9_dayOf) := goodIn_app (goodIn_of _ (by decide +kernel)) ggX9_best_X9_dayOf
set_option maxRecDepth 20000 in
theorem ggX9_best_X9_areBeside : GoodIn wsX9_best wsX9_areBeside := goodIn_r _ [30, 31, 32, 7, 33] (by decide +kernel) (by decide +kernel)
set_option maxRecDepth 20000 in
theorem gX9_best_X9_areBeside : GoodIn wsX9_best (va_wsS RX9 120 yX9_areBeside wsX9_areBeside) := goodIn_app (goodIn_of _ (by decide +kernel)) ggX9_best_X9_areBeside
set_option maxRecDepth 20000 in
theorem ggX9_best_X9_spotOf : GoodIn wsX9_best wsX9_spotOf := goodIn_r _ [41, 31, 32, 7, 33] (by decide +kernel) (by decide +kernel)
set_option maxRecDepth 20000 in
theorem gX9_best_X9_spotOf : GoodIn wsX9_best (va_wsS RX9 123 yX9_spotOf wsX9_spotOf) := goodIn_app (goodIn_of _ (by decide +kernel)) ggX9_best_X9_spotOf
theorem dX9_best_0 : decode cX9_best 0 = .ok (.aload_n 0, 1) := by decide +kernel
theorem dX9_best_1 : decode cX9_best 1 = .ok (.iconst 0, 1) := by decide +kernel
theorem dX9_best_2 : decode cX9_best 2 = .ok (.putfield 45, 3) := by decide +kernel
theorem dX9_best_5 : decode cX9_best 5 = .ok (.iload_n 1, 1) := by decide +kernel
theorem dX9_best_6 : decode cX9_best 6 = .ok (.invokestatic 190, 3) := by decide +kernel
theorem dX9_best_9 : decode cX9_best 9 = .ok (.ifCond .eq 17, 3) := by decide +kernel
theorem dX9_best_12 : decode cX9_best 12 = .ok (.iload_n 2, 1) := by decide +kernel
theorem dX9_best_13 : decode cX9_best 13 = .ok (.invokestatic 190, 3) := by decide +kernel
theorem dX9_best_16 : decode cX9_best 16 = .ok (.ifCond .eq 10, 3) := by decide +kernel
theorem dX9_best_19 : decode cX9_best 19 = .ok (.iload_n 3, 1) := by decide +kernel
theorem dX9_best_20 : decode cX9_best 20 = .ok (.invokestatic 190, 3) := by decide +kernel
theorem dX9_best_23 : decode cX9_best 23 = .ok (.ifCond .ne 5, 3) := by decide +kernel
theorem dX9_best_26 : decode cX9_best 26 = .ok (.iconst (-1), 1) := by decide +kernel
theorem dX9_best_27 : decode cX9_best 27 = .ok (.ireturn, 1) := by decide +kernel
theorem dX9_best_28 : decode cX9_best 28 = .ok (.aload_n 0, 1) := by decide +kernel
theorem dX9_best_29 : decode cX9_best 29 = .ok (.iload_n 2, 1) := by decide +kernel
theorem dX9_best_30 : decode cX9_best 30 = .ok (.invokevirtual 197, 3) := by decide +kernel
theorem dX9_best_33 : decode cX9_best 33 = .ok (.istore 4, 2) := by decide +kernel
theorem dX9_best_35 : decode cX9_best 35 = .ok (.bipush (-9), 2) := by decide +kernel
theorem dX9_best_37 : decode cX9_best 37 = .ok (.istore 5, 2) := by decide +kernel
theorem dX9_best_39 : decode cX9_best 39 = .ok (.iconst 0, 1) := by decide +kernel
theorem dX9_best_40 : decode cX9_best 40 = .ok (.istore 6, 2) := by decide +kernel
theorem dX9_best_42 : decode cX9_best 42 = .ok (.iload 6, 2) := by decide +kernel
theorem dX9_best_44 : decode cX9_best 44 = .ok (.aload_n 0, 1) := by decide +kernel
theorem dX9_best_45 : decode cX9_best 45 = .ok (.getfield 134, 3) := by decide +kernel
theorem dX9_best_48 : decode cX9_best 48 = .ok (.aload_n 0, 1) := by decide +kernel
theorem dX9_best_49 : decode cX9_best 49 = .ok (.getfield 137, 3) := by decide +kernel
theorem dX9_best_52 : decode cX9_best 52 = .ok (.imul, 1) := by decide +kernel
theorem dX9_best_53 : decode cX9_best 53 = .ok (.if_icmp .ge 171, 3) := by decide +kernel
theorem dX9_best_56 : decode cX9_best 56 = .ok (.iload 6, 2) := by decide +kernel
theorem dX9_best_58 : decode cX9_best 58 = .ok (.iconst 1, 1) := by decide +kernel
theorem dX9_best_59 : decode cX9_best 59 = .ok (.iadd, 1) := by decide +kernel
theorem dX9_best_60 : decode cX9_best 60 = .ok (.istore 7, 2) := by decide +kernel
theorem dX9_best_62 : decode cX9_best 62 = .ok (.iload 7, 2) := by decide +kernel
theorem dX9_best_64 : decode cX9_best 64 = .ok (.aload_n 0, 1) := by decide +kernel
theorem dX9_best_65 : decode cX9_best 65 = .ok (.getfield 134, 3) := by decide +kernel
theorem dX9_best_68 : decode cX9_best 68 = .ok (.aload_n 0, 1) := by decide +kernel
theorem dX9_best_69 : decode cX9_best 69 = .ok (.getfield 137, 3) := by decide +kernel
theorem dX9_best_72 : decode cX9_best 72 = .ok (.imul, 1) := by decide +kernel
theorem dX9_best_73 : decode cX9_best 73 = .ok (.if_icmp .ge 145, 3) := by decide +kernel
theorem dX9_best_76 : decode cX9_best 76 = .ok (.iload 6, 2) := by decide +kernel
theorem dX9_best_78 : decode cX9_best 78 = .ok (.iload 7, 2) := by decide +kernel
theorem dX9_best_80 : decode cX9_best 80 = .ok (.aload_n 0, 1) := by decide +kernel
theorem dX9_best_81 : decode cX9_best 81 = .ok (.getfield 134, 3) := by decide +kernel
theorem dX9_best_84 : decode cX9_best 84 = .ok (.invokestatic 120, 3) := by decide +kernel
theorem dX9_best_87 : decode cX9_best 87 = .ok (.ifCond .eq 27, 3) := by decide +kernel
theorem dX9_best_90 : decode cX9_best 90 = .ok (.iload 6, 2) := by decide +kernel
theorem dX9_best_92 : decode cX9_best 92 = .ok (.iload 7, 2) := by decide +kernel
theorem dX9_best_94 : decode cX9_best 94 = .ok (.aload_n 0, 1) := by decide +kernel
theorem dX9_best_95 : decode cX9_best 95 = .ok (.getfield 134, 3) := by decide +kernel
theorem dX9_best_98 : decode cX9_best 98 = .ok (.iload_n 1, 1) := by decide +kernel
theorem dX9_best_99 : decode cX9_best 99 = .ok (.ifCond .ne 7, 3) := by decide +kernel
theorem dX9_best_102 : decode cX9_best 102 = .ok (.iconst 0, 1) := by decide +kernel
theorem dX9_best_103 : decode cX9_best 103 = .ok (.goto 5, 3) := by decide +kernel
theorem dX9_best_106 : decode cX9_best 106 = .ok (.bipush 96, 2) := by decide +kernel
theorem dX9_best_108 : decode cX9_best 108 = .ok (.invokestatic 123, 3) := by decide +kernel
theorem dX9_best_111 : decode cX9_best 111 = .ok (.goto 5, 3) := by decide +kernel
theorem dX9_best_114 : decode cX9_best 114 = .ok (.bipush (-9), 2) := by decide +kernel
theorem dX9_best_116 : decode cX9_best 116 = .ok (.istore 8, 2) := by decide +kernel
theorem dX9_best_118 : decode cX9_best 118 = .ok (.iload 8, 2) := by decide +kernel
theorem dX9_best_120 : decode cX9_best 120 = .ok (.bipush (-9), 2) := by decide +kernel
theorem dX9_best_122 : decode cX9_best 122 = .ok (.if_icmp .eq 90, 3) := by decide +kernel
theorem dX9_best_125 : decode cX9_best 125 = .ok (.aload_n 0, 1) := by decide +kernel
theorem dX9_best_126 : decode cX9_best 126 = .ok (.getfield 13, 3) := by decide +kernel
theorem dX9_best_129 : decode cX9_best 129 = .ok (.iload 8, 2) := by decide +kernel
theorem dX9_best_131 : decode cX9_best 131 = .ok (.iaload, 1) := by decide +kernel
theorem dX9_best_132 : decode cX9_best 132 = .ok (.iload_n 1, 1) := by decide +kernel
theorem dX9_best_133 : decode cX9_best 133 = .ok (.ifCond .ne 7, 3) := by decide +kernel
theorem dX9_best_136 : decode cX9_best 136 = .ok (.iconst 3, 1) := by decide +kernel
theorem dX9_best_137 : decode cX9_best 137 = .ok (.goto 5, 3) := by decide +kernel
theorem dX9_best_140 : decode cX9_best 140 = .ok (.bipush 9, 2) := by decide +kernel
theorem dX9_best_142 : decode cX9_best 142 = .ok (.if_icmp .ge 70, 3) := by decide +kernel
theorem dX9_best_145 : decode cX9_best 145 = .ok (.aload_n 0, 1) := by decide +kernel
theorem dX9_best_146 : decode cX9_best 146 = .ok (.getfield 13, 3) := by decide +kernel
theorem dX9_best_149 : decode cX9_best 149 = .ok (.iload 8, 2) := by decide +kernel
theorem dX9_best_151 : decode cX9_best 151 = .ok (.dup2, 1) := by decide +kernel
theorem dX9_best_152 : decode cX9_best 152 = .ok (.iaload, 1) := by decide +kernel
theorem dX9_best_153 : decode cX9_best 153 = .ok (.iconst 1, 1) := by decide +kernel
theorem dX9_best_154 : decode cX9_best 154 = .ok (.iadd, 1) := by decide +kernel
theorem dX9_best_155 : decode cX9_best 155 = .ok (.iastore, 1) := by decide +kernel
theorem dX9_best_156 : decode cX9_best 156 = .ok (.aload_n 0, 1) := by decide +kernel
theorem dX9_best_157 : decode cX9_best 157 = .ok (.iload_n 2, 1) := by decide +kernel
theorem dX9_best_158 : decode cX9_best 158 = .ok (.invokevirtual 197, 3) := by decide +kernel
theorem dX9_best_161 : decode cX9_best 161 = .ok (.istore 9, 2) := by decide +kernel
theorem dX9_best_163 : decode cX9_best 163 = .ok (.aload_n 0, 1) := by decide +kernel
theorem dX9_best_164 : decode cX9_best 164 = .ok (.getfield 13, 3) := by decide +kernel
theorem dX9_best_167 : decode cX9_best 167 = .ok (.iload 8, 2) := by decide +kernel
theorem dX9_best_169 : decode cX9_best 169 = .ok (.dup2, 1) := by decide +kernel
theorem dX9_best_170 : decode cX9_best 170 = .ok (.iaload, 1) := by decide +kernel
theorem dX9_best_171 : decode cX9_best 171 = .ok (.iconst 1, 1) := by decide +kernel
theorem dX9_best_172 : decode cX9_best 172 = .ok (.isub, 1) := by decide +kernel
theorem dX9_best_173 : decode cX9_best 173 = .ok (.iastore, 1) := by decide +kernel
theorem dX9_best_174 : decode cX9_best 174 = .ok (.iload 9, 2) := by decide +kernel
theorem dX9_best_176 : decode cX9_best 176 = .ok (.iload 4, 2) := by decide +kernel
theorem dX9_best_178 : decode cX9_best 178 = .ok (.if_icmp .le 14, 3) := by decide +kernel
theorem dX9_best_181 : decode cX9_best 181 = .ok (.bipush 100, 2) := by decide +kernel
theorem dX9_best_183 : decode cX9_best 183 = .ok (.iload 6, 2) := by decide +kernel
theorem dX9_best_185 : decode cX9_best 185 = .ok (.imul, 1) := by decide +kernel
theorem dX9_best_186 : decode cX9_best 186 = .ok (.iload 7, 2) := by decide +kernel
theorem dX9_best_188 : decode cX9_best 188 = .ok (.iadd, 1) := by decide +kernel
theorem dX9_best_189 : decode cX9_best 189 = .ok (.goto 5, 3) := by decide +kernel
theorem dX9_best_192 : decode cX9_best 192 = .ok (.iload 5, 2) := by decide +kernel
theorem dX9_best_194 : decode cX9_best 194 = .ok (.istore 5, 2) := by decide +kernel
theorem dX9_best_196 : decode cX9_best 196 = .ok (.iload 9, 2) := by decide +kernel
theorem dX9_best_198 : decode cX9_best 198 = .ok (.iload 4, 2) := by decide +kernel
theorem dX9_best_200 : decode cX9_best 200 = .ok (.if_icmp .le 8, 3) := by decide +kernel
theorem dX9_best_203 : decode cX9_best 203 = .ok (.iload 9, 2) := by decide +kernel
theorem dX9_best_205 : decode cX9_best 205 = .ok (.goto 5, 3) := by decide +kernel
theorem dX9_best_208 : decode cX9_best 208 = .ok (.iload 4, 2) := by decide +kernel
theorem dX9_best_210 : decode cX9_best 210 = .ok (.istore 4, 2) := by decide +kernel
theorem dX9_best_212 : decode cX9_best 212 = .ok (.iinc 7 1, 3) := by decide +kernel
theorem dX9_best_215 : decode cX9_best 215 = .ok (.goto (-153), 3) := by decide +kernel
theorem dX9_best_218 : decode cX9_best 218 = .ok (.iinc 6 1, 3) := by decide +kernel
theorem dX9_best_221 : decode cX9_best 221 = .ok (.goto (-179), 3) := by decide +kernel
theorem dX9_best_224 : decode cX9_best 224 = .ok (.iload 5, 2) := by decide +kernel
theorem dX9_best_226 : decode cX9_best 226 = .ok (.bipush (-9), 2) := by decide +kernel
theorem dX9_best_228 : decode cX9_best 228 = .ok (.if_icmp .eq 7, 3) := by decide +kernel
theorem dX9_best_231 : decode cX9_best 231 = .ok (.iload_n 3, 1) := by decide +kernel
theorem dX9_best_232 : decode cX9_best 232 = .ok (.ifCond .ne 8, 3) := by decide +kernel
theorem dX9_best_235 : decode cX9_best 235 = .ok (.iload 5, 2) := by decide +kernel
theorem dX9_best_237 : decode cX9_best 237 = .ok (.goto 5, 3) := by decide +kernel
theorem dX9_best_240 : decode cX9_best 240 = .ok (.iload 4, 2) := by decide +kernel
theorem dX9_best_242 : decode cX9_best 242 = .ok (.ireturn, 1) := by decide +kernel
set_option maxRecDepth 20000 in
theorem ggX9_saw_X9_in : GoodIn wsX9_saw wsX9_in := goodIn_r _ [10] (by decide +kernel) (by decide +kernel)
set_option maxRecDepth 20000 in
theorem gX9_saw_X9_in : GoodIn wsX9_saw (va_wsS RX9 48 yX9_in wsX9_in) := goodIn_app (goodIn_of _ (by decide +kernel)) ggX9_saw_X9_in
set_option maxRecDepth 20000 in
theorem ggX9_saw_X9_isHour : GoodIn wsX9_saw wsX9_isHour := goodIn_r _ [13, 7, 8, 9, 10] (by decide +kernel) (by decide +kernel)
set_option maxRecDepth 20000 in
theorem gX9_saw_X9_isHour : GoodIn wsX9_saw (va_wsS RX9 175 yX9_isHour wsX9_isHour) := goodIn_app (goodIn_of _ (by decide +kernel)) ggX9_saw_X9_isHour
set_option maxRecDepth 20000 in
theorem ggX9_saw_X9_isBit : GoodIn wsX9_saw wsX9_isBit := goodIn_r _ [16, 7, 8, 9, 10] (by decide +kernel) (by decide +kernel)
set_option maxRecDepth 20000 in
theorem gX9_saw_X9_isBit : GoodIn wsX9_saw (va_wsS RX9 190 yX9_isBit wsX9_isBit) := goodIn_app (goodIn_of _ (by decide +kernel)) ggX9_saw_X9_isBit
set_option maxRecDepth 20000 in
theorem ggX9_saw_X9_spreads : GoodIn wsX9_saw wsX9_spreads := goodIn_r _ [20, 2, 3, 6, 21, 22, 9, 23, 24, 25, 26, 27, 28, 29, 30, 31, 32, 33, 34, 35, 40, 41, 42, 43, 44, 45, 46, 47, 48, 49, 50, 51, 52, 53, 54, 55, 56, 57, 58, 59, 60, 61, 62, 63, 64, 65, 66] (by decide +kernel) (by decide +kernel)
set_option maxRecDepth 20000 in
theorem gX9_saw_X9_spreads : GoodIn wsX9_saw (wsV RX9 164 RX9 yX9_spreads wsX9_spreads) := goodIn_app (goodIn_of _ (by decide +kernel)) ggX9_saw_X9_spreads
set_option maxRecDepth 20000 in
theorem ggX9_saw_X9_holds : GoodIn wsX9_saw wsX9_holds := goodIn_r _ [39, 5, 7, 8, 9, 10, 40, 41, 42, 43, 44, 45, 46, 47, 48, 49, 50, 51, 52, 53, 54, 55, 56, 57, 58, 59, 60, 61, 62, 63, 64, 65, 66] (by decide +kernel) (by decide +kernel)
set_option maxRecDepth 20000 in
theorem gX9_saw_X9_holds : GoodIn wsX9_saw (wsV RX9 157 RX9 yX9_holds wsX9_holds) := goodIn_app (goodIn_of _ (by decide +kernel)) ggX9_saw_X9_holds
theorem dX9_saw_0 : decode cX9_saw 0 = .ok (.aload_n 0, 1) := by decide +kernel
theorem dX9_saw_1 : decode cX9_saw 1 = .ok (.iconst 0, 1) := by decide +kernel
theorem dX9_saw_2 : decode cX9_saw 2 = .ok (.putfield 45, 3) := by decide +kernel
theorem dX9_saw_5 : decode cX9_saw 5 = .ok (.iload_n 1, 1) := by decide +kernel
theorem dX9_saw_6 : decode cX9_saw 6 = .ok (.iconst 1, 1) := by decide +kernel
theorem dX9_saw_7 : decode cX9_saw 7 = .ok (.bipush 99, 2) := by decide +kernel
theorem dX9_saw_9 : decode cX9_saw 9 = .ok (.invokestatic 48, 3) := by decide +kernel
theorem dX9_saw_12 : decode cX9_saw 12 = .ok (.ifCond .eq 17, 3) := by decide +kernel
theorem dX9_saw_15 : decode cX9_saw 15 = .ok (.iload_n 2, 1) := by decide +kernel
theorem dX9_saw_16 : decode cX9_saw 16 = .ok (.invokestatic 175, 3) := by decide +kernel
theorem dX9_saw_19 : decode cX9_saw 19 = .ok (.ifCond .eq 10, 3) := by decide +kernel
theorem dX9_saw_22 : decode cX9_saw 22 = .ok (.iload_n 3, 1) := by decide +kernel
theorem dX9_saw_23 : decode cX9_saw 23 = .ok (.invokestatic 190, 3) := by decide +kernel
theorem dX9_saw_26 : decode cX9_saw 26 = .ok (.ifCond .ne 5, 3) := by decide +kernel
theorem dX9_saw_29 : decode cX9_saw 29 = .ok (.iconst (-1), 1) := by decide +kernel
theorem dX9_saw_30 : decode cX9_saw 30 = .ok (.ireturn, 1) := by decide +kernel
theorem dX9_saw_31 : decode cX9_saw 31 = .ok (.bipush (-9), 2) := by decide +kernel
theorem dX9_saw_33 : decode cX9_saw 33 = .ok (.istore 4, 2) := by decide +kernel
theorem dX9_saw_35 : decode cX9_saw 35 = .ok (.iconst 0, 1) := by decide +kernel
theorem dX9_saw_36 : decode cX9_saw 36 = .ok (.istore 5, 2) := by decide +kernel
theorem dX9_saw_38 : decode cX9_saw 38 = .ok (.iconst 0, 1) := by decide +kernel
theorem dX9_saw_39 : decode cX9_saw 39 = .ok (.istore 6, 2) := by decide +kernel
theorem dX9_saw_41 : decode cX9_saw 41 = .ok (.iload 6, 2) := by decide +kernel
theorem dX9_saw_43 : decode cX9_saw 43 = .ok (.aload_n 0, 1) := by decide +kernel
theorem dX9_saw_44 : decode cX9_saw 44 = .ok (.getfield 134, 3) := by decide +kernel
