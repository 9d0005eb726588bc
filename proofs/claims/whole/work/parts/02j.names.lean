theorem dX9_saw_47 : decode cX9_saw 47 = .ok (.aload_n 0, 1) := by decide +kernel
theorem dX9_saw_48 : decode cX9_saw 48 = .ok (.getfield 137, 3) := by decide +kernel
theorem dX9_saw_51 : decode cX9_saw 51 = .ok (.imul, 1) := by decide +kernel
theorem dX9_saw_52 : decode cX9_saw 52 = .ok (.if_icmp .ge 149, 3) := by decide +kernel
theorem dX9_saw_55 : decode cX9_saw 55 = .ok (.aload_n 0, 1) := by decide +kernel
theorem dX9_saw_56 : decode cX9_saw 56 = .ok (.bipush 6, 2) := by decide +kernel
theorem dX9_saw_58 : decode cX9_saw 58 = .ok (.iload 6, 2) := by decide +kernel
theorem dX9_saw_60 : decode cX9_saw 60 = .ok (.iload_n 1, 1) := by decide +kernel
theorem dX9_saw_61 : decode cX9_saw 61 = .ok (.invokevirtual 164, 3) := by decide +kernel
theorem dX9_saw_64 : decode cX9_saw 64 = .ok (.iconst 0, 1) := by decide +kernel
theorem dX9_saw_65 : decode cX9_saw 65 = .ok (.istore 7, 2) := by decide +kernel
theorem dX9_saw_67 : decode cX9_saw 67 = .ok (.iconst 0, 1) := by decide +kernel
theorem dX9_saw_68 : decode cX9_saw 68 = .ok (.istore 8, 2) := by decide +kernel
theorem dX9_saw_70 : decode cX9_saw 70 = .ok (.iload 8, 2) := by decide +kernel
theorem dX9_saw_72 : decode cX9_saw 72 = .ok (.aload_n 0, 1) := by decide +kernel
theorem dX9_saw_73 : decode cX9_saw 73 = .ok (.getfield 143, 3) := by decide +kernel
theorem dX9_saw_76 : decode cX9_saw 76 = .ok (.if_icmp .ge 97, 3) := by decide +kernel
theorem dX9_saw_79 : decode cX9_saw 79 = .ok (.aload_n 0, 1) := by decide +kernel
theorem dX9_saw_80 : decode cX9_saw 80 = .ok (.iload 8, 2) := by decide +kernel
theorem dX9_saw_82 : decode cX9_saw 82 = .ok (.iload_n 2, 1) := by decide +kernel
theorem dX9_saw_83 : decode cX9_saw 83 = .ok (.invokevirtual 157, 3) := by decide +kernel
theorem dX9_saw_86 : decode cX9_saw 86 = .ok (.ifCond .eq 53, 3) := by decide +kernel
theorem dX9_saw_89 : decode cX9_saw 89 = .ok (.aload_n 0, 1) := by decide +kernel
theorem dX9_saw_90 : decode cX9_saw 90 = .ok (.getfield 29, 3) := by decide +kernel
theorem dX9_saw_93 : decode cX9_saw 93 = .ok (.iconst 5, 1) := by decide +kernel
theorem dX9_saw_94 : decode cX9_saw 94 = .ok (.iload 8, 2) := by decide +kernel
theorem dX9_saw_96 : decode cX9_saw 96 = .ok (.imul, 1) := by decide +kernel
theorem dX9_saw_97 : decode cX9_saw 97 = .ok (.iaload, 1) := by decide +kernel
theorem dX9_saw_98 : decode cX9_saw 98 = .ok (.iload 6, 2) := by decide +kernel
theorem dX9_saw_100 : decode cX9_saw 100 = .ok (.if_icmp .eq 39, 3) := by decide +kernel
theorem dX9_saw_103 : decode cX9_saw 103 = .ok (.aload_n 0, 1) := by decide +kernel
theorem dX9_saw_104 : decode cX9_saw 104 = .ok (.getfield 32, 3) := by decide +kernel
theorem dX9_saw_107 : decode cX9_saw 107 = .ok (.sipush 288, 3) := by decide +kernel
theorem dX9_saw_110 : decode cX9_saw 110 = .ok (.aload_n 0, 1) := by decide +kernel
theorem dX9_saw_111 : decode cX9_saw 111 = .ok (.getfield 29, 3) := by decide +kernel
theorem dX9_saw_114 : decode cX9_saw 114 = .ok (.iconst 5, 1) := by decide +kernel
theorem dX9_saw_115 : decode cX9_saw 115 = .ok (.iload 8, 2) := by decide +kernel
theorem dX9_saw_117 : decode cX9_saw 117 = .ok (.imul, 1) := by decide +kernel
theorem dX9_saw_118 : decode cX9_saw 118 = .ok (.iaload, 1) := by decide +kernel
theorem dX9_saw_119 : decode cX9_saw 119 = .ok (.iadd, 1) := by decide +kernel
theorem dX9_saw_120 : decode cX9_saw 120 = .ok (.iaload, 1) := by decide +kernel
theorem dX9_saw_121 : decode cX9_saw 121 = .ok (.aload_n 0, 1) := by decide +kernel
theorem dX9_saw_122 : decode cX9_saw 122 = .ok (.getfield 29, 3) := by decide +kernel
theorem dX9_saw_125 : decode cX9_saw 125 = .ok (.iconst 5, 1) := by decide +kernel
theorem dX9_saw_126 : decode cX9_saw 126 = .ok (.iload 8, 2) := by decide +kernel
theorem dX9_saw_128 : decode cX9_saw 128 = .ok (.imul, 1) := by decide +kernel
theorem dX9_saw_129 : decode cX9_saw 129 = .ok (.iconst 3, 1) := by decide +kernel
theorem dX9_saw_130 : decode cX9_saw 130 = .ok (.iadd, 1) := by decide +kernel
theorem dX9_saw_131 : decode cX9_saw 131 = .ok (.iaload, 1) := by decide +kernel
theorem dX9_saw_132 : decode cX9_saw 132 = .ok (.if_icmp .le 7, 3) := by decide +kernel
theorem dX9_saw_135 : decode cX9_saw 135 = .ok (.iconst 1, 1) := by decide +kernel
theorem dX9_saw_136 : decode cX9_saw 136 = .ok (.goto 4, 3) := by decide +kernel
theorem dX9_saw_139 : decode cX9_saw 139 = .ok (.iconst 0, 1) := by decide +kernel
theorem dX9_saw_140 : decode cX9_saw 140 = .ok (.istore 9, 2) := by decide +kernel
theorem dX9_saw_142 : decode cX9_saw 142 = .ok (.iload 7, 2) := by decide +kernel
theorem dX9_saw_144 : decode cX9_saw 144 = .ok (.iload 9, 2) := by decide +kernel
theorem dX9_saw_146 : decode cX9_saw 146 = .ok (.ifCond .eq 17, 3) := by decide +kernel
theorem dX9_saw_149 : decode cX9_saw 149 = .ok (.aload_n 0, 1) := by decide +kernel
theorem dX9_saw_150 : decode cX9_saw 150 = .ok (.getfield 29, 3) := by decide +kernel
theorem dX9_saw_153 : decode cX9_saw 153 = .ok (.iconst 5, 1) := by decide +kernel
theorem dX9_saw_154 : decode cX9_saw 154 = .ok (.iload 8, 2) := by decide +kernel
theorem dX9_saw_156 : decode cX9_saw 156 = .ok (.imul, 1) := by decide +kernel
theorem dX9_saw_157 : decode cX9_saw 157 = .ok (.iconst 4, 1) := by decide +kernel
theorem dX9_saw_158 : decode cX9_saw 158 = .ok (.iadd, 1) := by decide +kernel
theorem dX9_saw_159 : decode cX9_saw 159 = .ok (.iaload, 1) := by decide +kernel
theorem dX9_saw_160 : decode cX9_saw 160 = .ok (.goto 4, 3) := by decide +kernel
theorem dX9_saw_163 : decode cX9_saw 163 = .ok (.iconst 0, 1) := by decide +kernel
theorem dX9_saw_164 : decode cX9_saw 164 = .ok (.iadd, 1) := by decide +kernel
theorem dX9_saw_165 : decode cX9_saw 165 = .ok (.istore 7, 2) := by decide +kernel
theorem dX9_saw_167 : decode cX9_saw 167 = .ok (.iinc 8 1, 3) := by decide +kernel
theorem dX9_saw_170 : decode cX9_saw 170 = .ok (.goto (-100), 3) := by decide +kernel
theorem dX9_saw_173 : decode cX9_saw 173 = .ok (.iload 4, 2) := by decide +kernel
theorem dX9_saw_175 : decode cX9_saw 175 = .ok (.bipush (-9), 2) := by decide +kernel
theorem dX9_saw_177 : decode cX9_saw 177 = .ok (.if_icmp .eq 10, 3) := by decide +kernel
theorem dX9_saw_180 : decode cX9_saw 180 = .ok (.iload 7, 2) := by decide +kernel
theorem dX9_saw_182 : decode cX9_saw 182 = .ok (.iload 5, 2) := by decide +kernel
theorem dX9_saw_184 : decode cX9_saw 184 = .ok (.if_icmp .ge 11, 3) := by decide +kernel
theorem dX9_saw_187 : decode cX9_saw 187 = .ok (.iload 6, 2) := by decide +kernel
theorem dX9_saw_189 : decode cX9_saw 189 = .ok (.istore 4, 2) := by decide +kernel
theorem dX9_saw_191 : decode cX9_saw 191 = .ok (.iload 7, 2) := by decide +kernel
theorem dX9_saw_193 : decode cX9_saw 193 = .ok (.istore 5, 2) := by decide +kernel
theorem dX9_saw_195 : decode cX9_saw 195 = .ok (.iinc 6 1, 3) := by decide +kernel
theorem dX9_saw_198 : decode cX9_saw 198 = .ok (.goto (-157), 3) := by decide +kernel
theorem dX9_saw_201 : decode cX9_saw 201 = .ok (.iload_n 3, 1) := by decide +kernel
theorem dX9_saw_202 : decode cX9_saw 202 = .ok (.ifCond .ne 8, 3) := by decide +kernel
theorem dX9_saw_205 : decode cX9_saw 205 = .ok (.iload 4, 2) := by decide +kernel
theorem dX9_saw_207 : decode cX9_saw 207 = .ok (.goto 5, 3) := by decide +kernel
theorem dX9_saw_210 : decode cX9_saw 210 = .ok (.iload 5, 2) := by decide +kernel
theorem dX9_saw_212 : decode cX9_saw 212 = .ok (.ireturn, 1) := by decide +kernel
set_option maxRecDepth 20000 in
theorem ggX9_hear_X9_isYard : GoodIn wsX9_hear wsX9_isYard := goodIn_r _ [7, 8, 9, 10, 11, 6, 12, 13, 14, 15, 16, 17, 18, 19, 20, 21, 22, 23, 24, 25, 26, 27, 28, 29, 30, 31, 32, 33, 34, 35, 36, 37, 38, 39] (by decide +kernel) (by decide +kernel)
set_option maxRecDepth 20000 in
theorem gX9_hear_X9_isYard : GoodIn wsX9_hear (wsV RX9 146 RX9 yX9_isYard wsX9_isYard) := goodIn_app (goodIn_of _ (by decide +kernel)) ggX9_hear_X9_isYard
set_option maxRecDepth 20000 in
theorem ggX9_hear_X9_in : GoodIn wsX9_hear wsX9_in := goodIn_r _ [12] (by decide +kernel) (by decide +kernel)
set_option maxRecDepth 20000 in
theorem gX9_hear_X9_in : GoodIn wsX9_hear (va_wsS RX9 48 yX9_in wsX9_in) := goodIn_app (goodIn_of _ (by decide +kernel)) ggX9_hear_X9_in
theorem dX9_hear_0 : decode cX9_hear 0 = .ok (.aload_n 0, 1) := by decide +kernel
theorem dX9_hear_1 : decode cX9_hear 1 = .ok (.iconst 0, 1) := by decide +kernel
theorem dX9_hear_2 : decode cX9_hear 2 = .ok (.putfield 45, 3) := by decide +kernel
theorem dX9_hear_5 : decode cX9_hear 5 = .ok (.aload_n 0, 1) := by decide +kernel
theorem dX9_hear_6 : decode cX9_hear 6 = .ok (.iload_n 1, 1) := by decide +kernel
theorem dX9_hear_7 : decode cX9_hear 7 = .ok (.invokevirtual 146, 3) := by decide +kernel
theorem dX9_hear_10 : decode cX9_hear 10 = .ok (.ifCond .eq 14, 3) := by decide +kernel
theorem dX9_hear_13 : decode cX9_hear 13 = .ok (.iload_n 2, 1) := by decide +kernel
theorem dX9_hear_14 : decode cX9_hear 14 = .ok (.iconst 0, 1) := by decide +kernel
theorem dX9_hear_15 : decode cX9_hear 15 = .ok (.sipush 999, 3) := by decide +kernel
theorem dX9_hear_18 : decode cX9_hear 18 = .ok (.invokestatic 48, 3) := by decide +kernel
theorem dX9_hear_21 : decode cX9_hear 21 = .ok (.ifCond .ne 5, 3) := by decide +kernel
theorem dX9_hear_24 : decode cX9_hear 24 = .ok (.iconst (-1), 1) := by decide +kernel
theorem dX9_hear_25 : decode cX9_hear 25 = .ok (.ireturn, 1) := by decide +kernel
theorem dX9_hear_26 : decode cX9_hear 26 = .ok (.aload_n 0, 1) := by decide +kernel
theorem dX9_hear_27 : decode cX9_hear 27 = .ok (.getfield 13, 3) := by decide +kernel
theorem dX9_hear_30 : decode cX9_hear 30 = .ok (.sipush 194, 3) := by decide +kernel
theorem dX9_hear_33 : decode cX9_hear 33 = .ok (.iaload, 1) := by decide +kernel
theorem dX9_hear_34 : decode cX9_hear 34 = .ok (.bipush 6, 2) := by decide +kernel
theorem dX9_hear_36 : decode cX9_hear 36 = .ok (.if_icmp .ne 6, 3) := by decide +kernel
theorem dX9_hear_39 : decode cX9_hear 39 = .ok (.bipush (-3), 2) := by decide +kernel
theorem dX9_hear_41 : decode cX9_hear 41 = .ok (.ireturn, 1) := by decide +kernel
theorem dX9_hear_42 : decode cX9_hear 42 = .ok (.aload_n 0, 1) := by decide +kernel
theorem dX9_hear_43 : decode cX9_hear 43 = .ok (.getfield 13, 3) := by decide +kernel
theorem dX9_hear_46 : decode cX9_hear 46 = .ok (.sipush 195, 3) := by decide +kernel
theorem dX9_hear_49 : decode cX9_hear 49 = .ok (.iconst 2, 1) := by decide +kernel
theorem dX9_hear_50 : decode cX9_hear 50 = .ok (.aload_n 0, 1) := by decide +kernel
theorem dX9_hear_51 : decode cX9_hear 51 = .ok (.getfield 13, 3) := by decide +kernel
theorem dX9_hear_54 : decode cX9_hear 54 = .ok (.sipush 194, 3) := by decide +kernel
theorem dX9_hear_57 : decode cX9_hear 57 = .ok (.iaload, 1) := by decide +kernel
theorem dX9_hear_58 : decode cX9_hear 58 = .ok (.imul, 1) := by decide +kernel
theorem dX9_hear_59 : decode cX9_hear 59 = .ok (.iadd, 1) := by decide +kernel
theorem dX9_hear_60 : decode cX9_hear 60 = .ok (.iload_n 1, 1) := by decide +kernel
theorem dX9_hear_61 : decode cX9_hear 61 = .ok (.iastore, 1) := by decide +kernel
theorem dX9_hear_62 : decode cX9_hear 62 = .ok (.aload_n 0, 1) := by decide +kernel
theorem dX9_hear_63 : decode cX9_hear 63 = .ok (.getfield 13, 3) := by decide +kernel
theorem dX9_hear_66 : decode cX9_hear 66 = .ok (.sipush 195, 3) := by decide +kernel
theorem dX9_hear_69 : decode cX9_hear 69 = .ok (.iconst 2, 1) := by decide +kernel
theorem dX9_hear_70 : decode cX9_hear 70 = .ok (.aload_n 0, 1) := by decide +kernel
theorem dX9_hear_71 : decode cX9_hear 71 = .ok (.getfield 13, 3) := by decide +kernel
theorem dX9_hear_74 : decode cX9_hear 74 = .ok (.sipush 194, 3) := by decide +kernel
theorem dX9_hear_77 : decode cX9_hear 77 = .ok (.iaload, 1) := by decide +kernel
theorem dX9_hear_78 : decode cX9_hear 78 = .ok (.imul, 1) := by decide +kernel
theorem dX9_hear_79 : decode cX9_hear 79 = .ok (.iadd, 1) := by decide +kernel
theorem dX9_hear_80 : decode cX9_hear 80 = .ok (.iconst 1, 1) := by decide +kernel
theorem dX9_hear_81 : decode cX9_hear 81 = .ok (.iadd, 1) := by decide +kernel
theorem dX9_hear_82 : decode cX9_hear 82 = .ok (.iload_n 2, 1) := by decide +kernel
theorem dX9_hear_83 : decode cX9_hear 83 = .ok (.iastore, 1) := by decide +kernel
theorem dX9_hear_84 : decode cX9_hear 84 = .ok (.aload_n 0, 1) := by decide +kernel
theorem dX9_hear_85 : decode cX9_hear 85 = .ok (.getfield 13, 3) := by decide +kernel
theorem dX9_hear_88 : decode cX9_hear 88 = .ok (.sipush 194, 3) := by decide +kernel
theorem dX9_hear_91 : decode cX9_hear 91 = .ok (.dup2, 1) := by decide +kernel
theorem dX9_hear_92 : decode cX9_hear 92 = .ok (.iaload, 1) := by decide +kernel
theorem dX9_hear_93 : decode cX9_hear 93 = .ok (.iconst 1, 1) := by decide +kernel
theorem dX9_hear_94 : decode cX9_hear 94 = .ok (.iadd, 1) := by decide +kernel
theorem dX9_hear_95 : decode cX9_hear 95 = .ok (.iastore, 1) := by decide +kernel
theorem dX9_hear_96 : decode cX9_hear 96 = .ok (.aload_n 0, 1) := by decide +kernel
theorem dX9_hear_97 : decode cX9_hear 97 = .ok (.getfield 13, 3) := by decide +kernel
theorem dX9_hear_100 : decode cX9_hear 100 = .ok (.sipush 194, 3) := by decide +kernel
theorem dX9_hear_103 : decode cX9_hear 103 = .ok (.iaload, 1) := by decide +kernel
theorem dX9_hear_104 : decode cX9_hear 104 = .ok (.ireturn, 1) := by decide +kernel
theorem dX9_forget_0 : decode cX9_forget 0 = .ok (.aload_n 0, 1) := by decide +kernel
theorem dX9_forget_1 : decode cX9_forget 1 = .ok (.iconst 0, 1) := by decide +kernel
theorem dX9_forget_2 : decode cX9_forget 2 = .ok (.putfield 45, 3) := by decide +kernel
theorem dX9_forget_5 : decode cX9_forget 5 = .ok (.aload_n 0, 1) := by decide +kernel
theorem dX9_forget_6 : decode cX9_forget 6 = .ok (.getfield 13, 3) := by decide +kernel
theorem dX9_forget_9 : decode cX9_forget 9 = .ok (.sipush 194, 3) := by decide +kernel
theorem dX9_forget_12 : decode cX9_forget 12 = .ok (.iaload, 1) := by decide +kernel
theorem dX9_forget_13 : decode cX9_forget 13 = .ok (.istore_n 1, 1) := by decide +kernel
theorem dX9_forget_14 : decode cX9_forget 14 = .ok (.aload_n 0, 1) := by decide +kernel
theorem dX9_forget_15 : decode cX9_forget 15 = .ok (.getfield 13, 3) := by decide +kernel
theorem dX9_forget_18 : decode cX9_forget 18 = .ok (.sipush 194, 3) := by decide +kernel
theorem dX9_forget_21 : decode cX9_forget 21 = .ok (.iconst 0, 1) := by decide +kernel
theorem dX9_forget_22 : decode cX9_forget 22 = .ok (.iastore, 1) := by decide +kernel
theorem dX9_forget_23 : decode cX9_forget 23 = .ok (.iload_n 1, 1) := by decide +kernel
theorem dX9_forget_24 : decode cX9_forget 24 = .ok (.ireturn, 1) := by decide +kernel
set_option maxRecDepth 20000 in
theorem ggX9_who_X9_in : GoodIn wsX9_who wsX9_in := goodIn_r _ [7] (by decide +kernel) (by decide +kernel)
set_option maxRecDepth 20000 in
theorem gX9_who_X9_in : GoodIn wsX9_who (va_wsS RX9 48 yX9_in wsX9_in) := goodIn_app (goodIn_of _ (by decide +kernel)) ggX9_who_X9_in
set_option maxRecDepth 20000 in
theorem ggX9_who_X9_spreadsAll : GoodIn wsX9_who wsX9_spreadsAll := goodIn_r _ [11, 2, 12, 13, 14, 15, 6, 16, 17, 18, 19, 20, 21, 22, 23, 24, 25, 26, 27, 28, 29, 3, 30, 31, 32, 33, 38, 39, 40, 41, 42, 43, 44, 45, 46, 47, 48, 49, 50, 51, 52, 53, 54, 55, 56, 57, 58, 59, 60, 61, 62, 63, 64] (by decide +kernel) (by decide +kernel)
set_option maxRecDepth 20000 in
theorem gX9_who_X9_spreadsAll : GoodIn wsX9_who (wsV RX9 168 RX9 yX9_spreadsAll wsX9_spreadsAll) := goodIn_app (goodIn_of _ (by decide +kernel)) ggX9_who_X9_spreadsAll
set_option maxRecDepth 20000 in
theorem ggX9_who_X9_heardBy : GoodIn wsX9_who wsX9_heardBy := goodIn_r _ [37, 2, 12, 19, 38, 39, 40, 41, 42, 43, 44, 45, 46, 47, 48, 49, 50, 51, 52, 53, 54, 55, 56, 57, 58, 59, 60, 61, 62, 63, 64] (by decide +kernel) (by decide +kernel)
set_option maxRecDepth 20000 in
theorem gX9_who_X9_heardBy : GoodIn wsX9_who (wsV RX9 171 RX9 yX9_heardBy wsX9_heardBy) := goodIn_app (goodIn_of _ (by decide +kernel)) ggX9_who_X9_heardBy
theorem dX9_who_0 : decode cX9_who 0 = .ok (.aload_n 0, 1) := by decide +kernel
theorem dX9_who_1 : decode cX9_who 1 = .ok (.iconst 0, 1) := by decide +kernel
theorem dX9_who_2 : decode cX9_who 2 = .ok (.putfield 45, 3) := by decide +kernel
theorem dX9_who_5 : decode cX9_who 5 = .ok (.iload_n 1, 1) := by decide +kernel
theorem dX9_who_6 : decode cX9_who 6 = .ok (.iconst 0, 1) := by decide +kernel
theorem dX9_who_7 : decode cX9_who 7 = .ok (.iconst 2, 1) := by decide +kernel
theorem dX9_who_8 : decode cX9_who 8 = .ok (.invokestatic 48, 3) := by decide +kernel
theorem dX9_who_11 : decode cX9_who 11 = .ok (.ifCond .ne 5, 3) := by decide +kernel
theorem dX9_who_14 : decode cX9_who 14 = .ok (.iconst (-1), 1) := by decide +kernel
theorem dX9_who_15 : decode cX9_who 15 = .ok (.ireturn, 1) := by decide +kernel
theorem dX9_who_16 : decode cX9_who 16 = .ok (.aload_n 0, 1) := by decide +kernel
theorem dX9_who_17 : decode cX9_who 17 = .ok (.invokevirtual 168, 3) := by decide +kernel
theorem dX9_who_20 : decode cX9_who 20 = .ok (.iconst 0, 1) := by decide +kernel
theorem dX9_who_21 : decode cX9_who 21 = .ok (.istore_n 2, 1) := by decide +kernel
theorem dX9_who_22 : decode cX9_who 22 = .ok (.iconst 1, 1) := by decide +kernel
theorem dX9_who_23 : decode cX9_who 23 = .ok (.aload_n 0, 1) := by decide +kernel
theorem dX9_who_24 : decode cX9_who 24 = .ok (.getfield 140, 3) := by decide +kernel
theorem dX9_who_27 : decode cX9_who 27 = .ok (.ishl, 1) := by decide +kernel
theorem dX9_who_28 : decode cX9_who 28 = .ok (.iconst 1, 1) := by decide +kernel
theorem dX9_who_29 : decode cX9_who 29 = .ok (.isub, 1) := by decide +kernel
theorem dX9_who_30 : decode cX9_who 30 = .ok (.istore_n 3, 1) := by decide +kernel
theorem dX9_who_31 : decode cX9_who 31 = .ok (.iconst 0, 1) := by decide +kernel
theorem dX9_who_32 : decode cX9_who 32 = .ok (.istore 4, 2) := by decide +kernel
theorem dX9_who_34 : decode cX9_who 34 = .ok (.iconst 0, 1) := by decide +kernel
theorem dX9_who_35 : decode cX9_who 35 = .ok (.istore 5, 2) := by decide +kernel
theorem dX9_who_37 : decode cX9_who 37 = .ok (.iload 5, 2) := by decide +kernel
theorem dX9_who_39 : decode cX9_who 39 = .ok (.iconst 1, 1) := by decide +kernel
theorem dX9_who_40 : decode cX9_who 40 = .ok (.aload_n 0, 1) := by decide +kernel
theorem dX9_who_41 : decode cX9_who 41 = .ok (.getfield 140, 3) := by decide +kernel
theorem dX9_who_44 : decode cX9_who 44 = .ok (.ishl, 1) := by decide +kernel
theorem dX9_who_45 : decode cX9_who 45 = .ok (.if_icmp .ge 127, 3) := by decide +kernel
theorem dX9_who_48 : decode cX9_who 48 = .ok (.iconst 1, 1) := by decide +kernel
theorem dX9_who_49 : decode cX9_who 49 = .ok (.istore 6, 2) := by decide +kernel
theorem dX9_who_51 : decode cX9_who 51 = .ok (.iconst 0, 1) := by decide +kernel
theorem dX9_who_52 : decode cX9_who 52 = .ok (.istore 7, 2) := by decide +kernel
theorem dX9_who_54 : decode cX9_who 54 = .ok (.iload 7, 2) := by decide +kernel
theorem dX9_who_56 : decode cX9_who 56 = .ok (.aload_n 0, 1) := by decide +kernel
theorem dX9_who_57 : decode cX9_who 57 = .ok (.getfield 13, 3) := by decide +kernel
theorem dX9_who_60 : decode cX9_who 60 = .ok (.sipush 194, 3) := by decide +kernel
theorem dX9_who_63 : decode cX9_who 63 = .ok (.iaload, 1) := by decide +kernel
theorem dX9_who_64 : decode cX9_who 64 = .ok (.if_icmp .ge 59, 3) := by decide +kernel
theorem dX9_who_67 : decode cX9_who 67 = .ok (.iload 6, 2) := by decide +kernel
theorem dX9_who_69 : decode cX9_who 69 = .ok (.ifCond .eq 45, 3) := by decide +kernel
theorem dX9_who_72 : decode cX9_who 72 = .ok (.aload_n 0, 1) := by decide +kernel
theorem dX9_who_73 : decode cX9_who 73 = .ok (.aload_n 0, 1) := by decide +kernel
theorem dX9_who_74 : decode cX9_who 74 = .ok (.getfield 13, 3) := by decide +kernel
theorem dX9_who_77 : decode cX9_who 77 = .ok (.sipush 195, 3) := by decide +kernel
theorem dX9_who_80 : decode cX9_who 80 = .ok (.iconst 2, 1) := by decide +kernel
theorem dX9_who_81 : decode cX9_who 81 = .ok (.iload 7, 2) := by decide +kernel
theorem dX9_who_83 : decode cX9_who 83 = .ok (.imul, 1) := by decide +kernel
theorem dX9_who_84 : decode cX9_who 84 = .ok (.iadd, 1) := by decide +kernel
theorem dX9_who_85 : decode cX9_who 85 = .ok (.iaload, 1) := by decide +kernel
theorem dX9_who_86 : decode cX9_who 86 = .ok (.iload 5, 2) := by decide +kernel
theorem dX9_who_88 : decode cX9_who 88 = .ok (.iconst 0, 1) := by decide +kernel
theorem dX9_who_89 : decode cX9_who 89 = .ok (.invokevirtual 171, 3) := by decide +kernel
theorem dX9_who_92 : decode cX9_who 92 = .ok (.aload_n 0, 1) := by decide +kernel
theorem dX9_who_93 : decode cX9_who 93 = .ok (.getfield 13, 3) := by decide +kernel
theorem dX9_who_96 : decode cX9_who 96 = .ok (.sipush 195, 3) := by decide +kernel
theorem dX9_who_99 : decode cX9_who 99 = .ok (.iconst 2, 1) := by decide +kernel
theorem dX9_who_100 : decode cX9_who 100 = .ok (.iload 7, 2) := by decide +kernel
theorem dX9_who_102 : decode cX9_who 102 = .ok (.imul, 1) := by decide +kernel
theorem dX9_who_103 : decode cX9_who 103 = .ok (.iadd, 1) := by decide +kernel
theorem dX9_who_104 : decode cX9_who 104 = .ok (.iconst 1, 1) := by decide +kernel
theorem dX9_who_105 : decode cX9_who 105 = .ok (.iadd, 1) := by decide +kernel
theorem dX9_who_106 : decode cX9_who 106 = .ok (.iaload, 1) := by decide +kernel
theorem dX9_who_107 : decode cX9_who 107 = .ok (.if_icmp .ne 7, 3) := by decide +kernel
theorem dX9_who_110 : decode cX9_who 110 = .ok (.iconst 1, 1) := by decide +kernel
theorem dX9_who_111 : decode cX9_who 111 = .ok (.goto 4, 3) := by decide +kernel
theorem dX9_who_114 : decode cX9_who 114 = .ok (.iconst 0, 1) := by decide +kernel
theorem dX9_who_115 : decode cX9_who 115 = .ok (.istore 6, 2) := by decide +kernel
theorem dX9_who_117 : decode cX9_who 117 = .ok (.iinc 7 1, 3) := by decide +kernel
theorem dX9_who_120 : decode cX9_who 120 = .ok (.goto (-66), 3) := by decide +kernel
theorem dX9_who_123 : decode cX9_who 123 = .ok (.iload_n 2, 1) := by decide +kernel
theorem dX9_who_124 : decode cX9_who 124 = .ok (.iload 6, 2) := by decide +kernel
theorem dX9_who_126 : decode cX9_who 126 = .ok (.ifCond .eq 7, 3) := by decide +kernel
theorem dX9_who_129 : decode cX9_who 129 = .ok (.iconst 1, 1) := by decide +kernel
theorem dX9_who_130 : decode cX9_who 130 = .ok (.goto 4, 3) := by decide +kernel
theorem dX9_who_133 : decode cX9_who 133 = .ok (.iconst 0, 1) := by decide +kernel
theorem dX9_who_134 : decode cX9_who 134 = .ok (.iadd, 1) := by decide +kernel
theorem dX9_who_135 : decode cX9_who 135 = .ok (.istore_n 2, 1) := by decide +kernel
theorem dX9_who_136 : decode cX9_who 136 = .ok (.iload_n 3, 1) := by decide +kernel
theorem dX9_who_137 : decode cX9_who 137 = .ok (.iload 6, 2) := by decide +kernel
theorem dX9_who_139 : decode cX9_who 139 = .ok (.ifCond .eq 8, 3) := by decide +kernel
theorem dX9_who_142 : decode cX9_who 142 = .ok (.iload 5, 2) := by decide +kernel
theorem dX9_who_144 : decode cX9_who 144 = .ok (.goto 4, 3) := by decide +kernel
theorem dX9_who_147 : decode cX9_who 147 = .ok (.iload_n 3, 1) := by decide +kernel
theorem dX9_who_148 : decode cX9_who 148 = .ok (.iand, 1) := by decide +kernel
theorem dX9_who_149 : decode cX9_who 149 = .ok (.istore_n 3, 1) := by decide +kernel
theorem dX9_who_150 : decode cX9_who 150 = .ok (.iload 4, 2) := by decide +kernel
theorem dX9_who_152 : decode cX9_who 152 = .ok (.iload 6, 2) := by decide +kernel
theorem dX9_who_154 : decode cX9_who 154 = .ok (.ifCond .eq 8, 3) := by decide +kernel
theorem dX9_who_157 : decode cX9_who 157 = .ok (.iload 5, 2) := by decide +kernel
theorem dX9_who_159 : decode cX9_who 159 = .ok (.goto 4, 3) := by decide +kernel
theorem dX9_who_162 : decode cX9_who 162 = .ok (.iconst 0, 1) := by decide +kernel
theorem dX9_who_163 : decode cX9_who 163 = .ok (.ior, 1) := by decide +kernel
theorem dX9_who_164 : decode cX9_who 164 = .ok (.istore 4, 2) := by decide +kernel
theorem dX9_who_166 : decode cX9_who 166 = .ok (.iinc 5 1, 3) := by decide +kernel
theorem dX9_who_169 : decode cX9_who 169 = .ok (.goto (-132), 3) := by decide +kernel
theorem dX9_who_172 : decode cX9_who 172 = .ok (.iload_n 1, 1) := by decide +kernel
theorem dX9_who_173 : decode cX9_who 173 = .ok (.ifCond .ne 7, 3) := by decide +kernel
theorem dX9_who_176 : decode cX9_who 176 = .ok (.iload_n 2, 1) := by decide +kernel
theorem dX9_who_177 : decode cX9_who 177 = .ok (.goto 23, 3) := by decide +kernel
theorem dX9_who_180 : decode cX9_who 180 = .ok (.iload_n 1, 1) := by decide +kernel
theorem dX9_who_181 : decode cX9_who 181 = .ok (.iconst 2, 1) := by decide +kernel
theorem dX9_who_182 : decode cX9_who 182 = .ok (.if_icmp .ne 8, 3) := by decide +kernel
theorem dX9_who_185 : decode cX9_who 185 = .ok (.iload 4, 2) := by decide +kernel
theorem dX9_who_187 : decode cX9_who 187 = .ok (.goto 13, 3) := by decide +kernel
theorem dX9_who_190 : decode cX9_who 190 = .ok (.iload_n 2, 1) := by decide +kernel
theorem dX9_who_191 : decode cX9_who 191 = .ok (.ifCond .ne 8, 3) := by decide +kernel
theorem dX9_who_194 : decode cX9_who 194 = .ok (.bipush (-9), 2) := by decide +kernel
theorem dX9_who_196 : decode cX9_who 196 = .ok (.goto 4, 3) := by decide +kernel
theorem dX9_who_199 : decode cX9_who 199 = .ok (.iload_n 3, 1) := by decide +kernel
theorem dX9_who_200 : decode cX9_who 200 = .ok (.ireturn, 1) := by decide +kernel
set_option maxRecDepth 20000 in
theorem ggX9_price_X9_isHour : GoodIn wsX9_price wsX9_isHour := goodIn_r _ [9, 10, 11, 8, 12] (by decide +kernel) (by decide +kernel)
set_option maxRecDepth 20000 in
theorem gX9_price_X9_isHour : GoodIn wsX9_price (va_wsS RX9 175 yX9_isHour wsX9_isHour) := goodIn_app (goodIn_of _ (by decide +kernel)) ggX9_price_X9_isHour
set_option maxRecDepth 20000 in
theorem ggX9_price_X9_isBit : GoodIn wsX9_price wsX9_isBit := goodIn_r _ [15, 10, 11, 8, 12] (by decide +kernel) (by decide +kernel)
set_option maxRecDepth 20000 in
theorem gX9_price_X9_isBit : GoodIn wsX9_price (va_wsS RX9 190 yX9_isBit wsX9_isBit) := goodIn_app (goodIn_of _ (by decide +kernel)) ggX9_price_X9_isBit
set_option maxRecDepth 20000 in
theorem ggX9_price_X9_holds : GoodIn wsX9_price wsX9_holds := goodIn_r _ [19, 3, 10, 11, 8, 12, 20, 21, 22, 23, 24, 25, 26, 27, 28, 29, 30, 31, 32, 33, 34, 35, 36, 37, 38, 39, 40, 41, 42, 43, 44, 45, 46] (by decide +kernel) (by decide +kernel)
set_option maxRecDepth 20000 in
theorem gX9_price_X9_holds : GoodIn wsX9_price (wsV RX9 157 RX9 yX9_holds wsX9_holds) := goodIn_app (goodIn_of _ (by decide +kernel)) ggX9_price_X9_holds
theorem dX9_price_0 : decode cX9_price 0 = .ok (.aload_n 0, 1) := by decide +kernel
theorem dX9_price_1 : decode cX9_price 1 = .ok (.iconst 0, 1) := by decide +kernel
theorem dX9_price_2 : decode cX9_price 2 = .ok (.putfield 45, 3) := by decide +kernel
theorem dX9_price_5 : decode cX9_price 5 = .ok (.iload_n 1, 1) := by decide +kernel
theorem dX9_price_6 : decode cX9_price 6 = .ok (.invokestatic 175, 3) := by decide +kernel
theorem dX9_price_9 : decode cX9_price 9 = .ok (.ifCond .eq 10, 3) := by decide +kernel
theorem dX9_price_12 : decode cX9_price 12 = .ok (.iload_n 2, 1) := by decide +kernel
theorem dX9_price_13 : decode cX9_price 13 = .ok (.invokestatic 190, 3) := by decide +kernel
theorem dX9_price_16 : decode cX9_price 16 = .ok (.ifCond .ne 5, 3) := by decide +kernel
theorem dX9_price_19 : decode cX9_price 19 = .ok (.iconst (-1), 1) := by decide +kernel
theorem dX9_price_20 : decode cX9_price 20 = .ok (.ireturn, 1) := by decide +kernel
theorem dX9_price_21 : decode cX9_price 21 = .ok (.bipush (-9), 2) := by decide +kernel
theorem dX9_price_23 : decode cX9_price 23 = .ok (.istore_n 3, 1) := by decide +kernel
theorem dX9_price_24 : decode cX9_price 24 = .ok (.bipush (-9), 2) := by decide +kernel
theorem dX9_price_26 : decode cX9_price 26 = .ok (.istore 4, 2) := by decide +kernel
theorem dX9_price_28 : decode cX9_price 28 = .ok (.iconst 0, 1) := by decide +kernel
theorem dX9_price_29 : decode cX9_price 29 = .ok (.istore 5, 2) := by decide +kernel
theorem dX9_price_31 : decode cX9_price 31 = .ok (.iload 5, 2) := by decide +kernel
theorem dX9_price_33 : decode cX9_price 33 = .ok (.bipush 100, 2) := by decide +kernel
theorem dX9_price_35 : decode cX9_price 35 = .ok (.if_icmp .ge 149, 3) := by decide +kernel
theorem dX9_price_38 : decode cX9_price 38 = .ok (.iconst 0, 1) := by decide +kernel
theorem dX9_price_39 : decode cX9_price 39 = .ok (.istore 6, 2) := by decide +kernel
theorem dX9_price_41 : decode cX9_price 41 = .ok (.iconst 0, 1) := by decide +kernel
theorem dX9_price_42 : decode cX9_price 42 = .ok (.istore 7, 2) := by decide +kernel
theorem dX9_price_44 : decode cX9_price 44 = .ok (.iconst 0, 1) := by decide +kernel
theorem dX9_price_45 : decode cX9_price 45 = .ok (.istore 8, 2) := by decide +kernel
theorem dX9_price_47 : decode cX9_price 47 = .ok (.iload 8, 2) := by decide +kernel
theorem dX9_price_49 : decode cX9_price 49 = .ok (.aload_n 0, 1) := by decide +kernel
theorem dX9_price_50 : decode cX9_price 50 = .ok (.getfield 143, 3) := by decide +kernel
theorem dX9_price_53 : decode cX9_price 53 = .ok (.if_icmp .ge 45, 3) := by decide +kernel
theorem dX9_price_56 : decode cX9_price 56 = .ok (.iload 6, 2) := by decide +kernel
theorem dX9_price_58 : decode cX9_price 58 = .ok (.aload_n 0, 1) := by decide +kernel
theorem dX9_price_59 : decode cX9_price 59 = .ok (.iload 8, 2) := by decide +kernel
theorem dX9_price_61 : decode cX9_price 61 = .ok (.iload_n 1, 1) := by decide +kernel
theorem dX9_price_62 : decode cX9_price 62 = .ok (.invokevirtual 157, 3) := by decide +kernel
theorem dX9_price_65 : decode cX9_price 65 = .ok (.ifCond .eq 23, 3) := by decide +kernel
theorem dX9_price_68 : decode cX9_price 68 = .ok (.aload_n 0, 1) := by decide +kernel
theorem dX9_price_69 : decode cX9_price 69 = .ok (.getfield 29, 3) := by decide +kernel
theorem dX9_price_72 : decode cX9_price 72 = .ok (.iconst 5, 1) := by decide +kernel
theorem dX9_price_73 : decode cX9_price 73 = .ok (.iload 8, 2) := by decide +kernel
theorem dX9_price_75 : decode cX9_price 75 = .ok (.imul, 1) := by decide +kernel
theorem dX9_price_76 : decode cX9_price 76 = .ok (.iconst 4, 1) := by decide +kernel
theorem dX9_price_77 : decode cX9_price 77 = .ok (.iadd, 1) := by decide +kernel
theorem dX9_price_78 : decode cX9_price 78 = .ok (.iaload, 1) := by decide +kernel
theorem dX9_price_79 : decode cX9_price 79 = .ok (.iload 5, 2) := by decide +kernel
theorem dX9_price_81 : decode cX9_price 81 = .ok (.if_icmp .gt 7, 3) := by decide +kernel
theorem dX9_price_84 : decode cX9_price 84 = .ok (.iconst 1, 1) := by decide +kernel
theorem dX9_price_85 : decode cX9_price 85 = .ok (.goto 4, 3) := by decide +kernel
theorem dX9_price_88 : decode cX9_price 88 = .ok (.iconst 0, 1) := by decide +kernel
theorem dX9_price_89 : decode cX9_price 89 = .ok (.iadd, 1) := by decide +kernel
theorem dX9_price_90 : decode cX9_price 90 = .ok (.istore 6, 2) := by decide +kernel
theorem dX9_price_92 : decode cX9_price 92 = .ok (.iinc 8 1, 3) := by decide +kernel
theorem dX9_price_95 : decode cX9_price 95 = .ok (.goto (-48), 3) := by decide +kernel
theorem dX9_price_98 : decode cX9_price 98 = .ok (.iconst 0, 1) := by decide +kernel
theorem dX9_price_99 : decode cX9_price 99 = .ok (.istore 8, 2) := by decide +kernel
theorem dX9_price_101 : decode cX9_price 101 = .ok (.iload 8, 2) := by decide +kernel
theorem dX9_price_103 : decode cX9_price 103 = .ok (.aload_n 0, 1) := by decide +kernel
theorem dX9_price_104 : decode cX9_price 104 = .ok (.getfield 140, 3) := by decide +kernel
theorem dX9_price_107 : decode cX9_price 107 = .ok (.if_icmp .ge 35, 3) := by decide +kernel
theorem dX9_price_110 : decode cX9_price 110 = .ok (.iload 7, 2) := by decide +kernel
theorem dX9_price_112 : decode cX9_price 112 = .ok (.aload_n 0, 1) := by decide +kernel
theorem dX9_price_113 : decode cX9_price 113 = .ok (.getfield 26, 3) := by decide +kernel
theorem dX9_price_116 : decode cX9_price 116 = .ok (.iconst 4, 1) := by decide +kernel
theorem dX9_price_117 : decode cX9_price 117 = .ok (.iload 8, 2) := by decide +kernel
theorem dX9_price_119 : decode cX9_price 119 = .ok (.imul, 1) := by decide +kernel
theorem dX9_price_120 : decode cX9_price 120 = .ok (.iconst 3, 1) := by decide +kernel
theorem dX9_price_121 : decode cX9_price 121 = .ok (.iadd, 1) := by decide +kernel
theorem dX9_price_122 : decode cX9_price 122 = .ok (.iaload, 1) := by decide +kernel
theorem dX9_price_123 : decode cX9_price 123 = .ok (.iload 5, 2) := by decide +kernel
theorem dX9_price_125 : decode cX9_price 125 = .ok (.if_icmp .lt 7, 3) := by decide +kernel
theorem dX9_price_128 : decode cX9_price 128 = .ok (.iconst 1, 1) := by decide +kernel
theorem dX9_price_129 : decode cX9_price 129 = .ok (.goto 4, 3) := by decide +kernel
theorem dX9_price_132 : decode cX9_price 132 = .ok (.iconst 0, 1) := by decide +kernel
theorem dX9_price_133 : decode cX9_price 133 = .ok (.iadd, 1) := by decide +kernel
theorem dX9_price_134 : decode cX9_price 134 = .ok (.istore 7, 2) := by decide +kernel
theorem dX9_price_136 : decode cX9_price 136 = .ok (.iinc 8 1, 3) := by decide +kernel
theorem dX9_price_139 : decode cX9_price 139 = .ok (.goto (-38), 3) := by decide +kernel
theorem dX9_price_142 : decode cX9_price 142 = .ok (.iload 6, 2) := by decide +kernel
theorem dX9_price_144 : decode cX9_price 144 = .ok (.iload 7, 2) := by decide +kernel
theorem dX9_price_146 : decode cX9_price 146 = .ok (.if_icmp .ne 14, 3) := by decide +kernel
theorem dX9_price_149 : decode cX9_price 149 = .ok (.iload_n 3, 1) := by decide +kernel
theorem dX9_price_150 : decode cX9_price 150 = .ok (.bipush (-9), 2) := by decide +kernel
theorem dX9_price_152 : decode cX9_price 152 = .ok (.if_icmp .ne 8, 3) := by decide +kernel
theorem dX9_price_155 : decode cX9_price 155 = .ok (.iload 5, 2) := by decide +kernel
theorem dX9_price_157 : decode cX9_price 157 = .ok (.goto 4, 3) := by decide +kernel
theorem dX9_price_160 : decode cX9_price 160 = .ok (.iload_n 3, 1) := by decide +kernel
theorem dX9_price_161 : decode cX9_price 161 = .ok (.istore_n 3, 1) := by decide +kernel
theorem dX9_price_162 : decode cX9_price 162 = .ok (.iload 6, 2) := by decide +kernel
theorem dX9_price_164 : decode cX9_price 164 = .ok (.iload 7, 2) := by decide +kernel
theorem dX9_price_166 : decode cX9_price 166 = .ok (.if_icmp .ne 8, 3) := by decide +kernel
theorem dX9_price_169 : decode cX9_price 169 = .ok (.iload 5, 2) := by decide +kernel
theorem dX9_price_171 : decode cX9_price 171 = .ok (.goto 5, 3) := by decide +kernel
theorem dX9_price_174 : decode cX9_price 174 = .ok (.iload 4, 2) := by decide +kernel
theorem dX9_price_176 : decode cX9_price 176 = .ok (.istore 4, 2) := by decide +kernel
theorem dX9_price_178 : decode cX9_price 178 = .ok (.iinc 5 1, 3) := by decide +kernel
theorem dX9_price_181 : decode cX9_price 181 = .ok (.goto (-150), 3) := by decide +kernel
theorem dX9_price_184 : decode cX9_price 184 = .ok (.iload_n 2, 1) := by decide +kernel
theorem dX9_price_185 : decode cX9_price 185 = .ok (.ifCond .ne 7, 3) := by decide +kernel
theorem dX9_price_188 : decode cX9_price 188 = .ok (.iload_n 3, 1) := by decide +kernel
theorem dX9_price_189 : decode cX9_price 189 = .ok (.goto 5, 3) := by decide +kernel
theorem dX9_price_192 : decode cX9_price 192 = .ok (.iload 4, 2) := by decide +kernel
theorem dX9_price_194 : decode cX9_price 194 = .ok (.ireturn, 1) := by decide +kernel
set_option maxRecDepth 20000 in
theorem ggX9_rate_X9_in : GoodIn wsX9_rate wsX9_in := goodIn_r _ [14] (by decide +kernel) (by decide +kernel)
set_option maxRecDepth 20000 in
theorem gX9_rate_X9_in : GoodIn wsX9_rate (va_wsS RX9 48 yX9_in wsX9_in) := goodIn_app (goodIn_of _ (by decide +kernel)) ggX9_rate_X9_in
set_option maxRecDepth 20000 in
theorem ggX9_rate_X9_isWorker : GoodIn wsX9_rate wsX9_isWorker := goodIn_r _ [18, 19, 11, 12, 13, 14, 20, 21, 22, 23, 24, 25, 26, 27, 28, 29, 30, 31, 32, 33, 34, 35, 36, 37, 38, 39, 40, 41, 42, 43, 44, 45, 46] (by decide +kernel) (by decide +kernel)
set_option maxRecDepth 20000 in
theorem gX9_rate_X9_isWorker : GoodIn wsX9_rate (wsV RX9 154 RX9 yX9_isWorker wsX9_isWorker) := goodIn_app (goodIn_of _ (by decide +kernel)) ggX9_rate_X9_isWorker
theorem dX9_rate_0 : decode cX9_rate 0 = .ok (.aload_n 0, 1) := by decide +kernel
theorem dX9_rate_1 : decode cX9_rate 1 = .ok (.iconst 0, 1) := by decide +kernel
theorem dX9_rate_2 : decode cX9_rate 2 = .ok (.putfield 45, 3) := by decide +kernel
theorem dX9_rate_5 : decode cX9_rate 5 = .ok (.iload_n 1, 1) := by decide +kernel
theorem dX9_rate_6 : decode cX9_rate 6 = .ok (.iconst 0, 1) := by decide +kernel
theorem dX9_rate_7 : decode cX9_rate 7 = .ok (.iconst 5, 1) := by decide +kernel
theorem dX9_rate_8 : decode cX9_rate 8 = .ok (.invokestatic 48, 3) := by decide +kernel
theorem dX9_rate_11 : decode cX9_rate 11 = .ok (.ifCond .eq 11, 3) := by decide +kernel
theorem dX9_rate_14 : decode cX9_rate 14 = .ok (.aload_n 0, 1) := by decide +kernel
theorem dX9_rate_15 : decode cX9_rate 15 = .ok (.iload_n 2, 1) := by decide +kernel
theorem dX9_rate_16 : decode cX9_rate 16 = .ok (.invokevirtual 154, 3) := by decide +kernel
theorem dX9_rate_19 : decode cX9_rate 19 = .ok (.ifCond .ne 6, 3) := by decide +kernel
theorem dX9_rate_22 : decode cX9_rate 22 = .ok (.ldc 200, 2) := by decide +kernel
theorem dX9_rate_24 : decode cX9_rate 24 = .ok (.ireturn, 1) := by decide +kernel
theorem dX9_rate_25 : decode cX9_rate 25 = .ok (.aload_n 0, 1) := by decide +kernel
theorem dX9_rate_26 : decode cX9_rate 26 = .ok (.getfield 26, 3) := by decide +kernel
theorem dX9_rate_29 : decode cX9_rate 29 = .ok (.iconst 4, 1) := by decide +kernel
theorem dX9_rate_30 : decode cX9_rate 30 = .ok (.iload_n 2, 1) := by decide +kernel
theorem dX9_rate_31 : decode cX9_rate 31 = .ok (.imul, 1) := by decide +kernel
theorem dX9_rate_32 : decode cX9_rate 32 = .ok (.iconst 1, 1) := by decide +kernel
theorem dX9_rate_33 : decode cX9_rate 33 = .ok (.iadd, 1) := by decide +kernel
theorem dX9_rate_34 : decode cX9_rate 34 = .ok (.iaload, 1) := by decide +kernel
theorem dX9_rate_35 : decode cX9_rate 35 = .ok (.istore_n 3, 1) := by decide +kernel
theorem dX9_rate_36 : decode cX9_rate 36 = .ok (.iload_n 3, 1) := by decide +kernel
theorem dX9_rate_37 : decode cX9_rate 37 = .ok (.aload_n 0, 1) := by decide +kernel
theorem dX9_rate_38 : decode cX9_rate 38 = .ok (.getfield 26, 3) := by decide +kernel
theorem dX9_rate_41 : decode cX9_rate 41 = .ok (.iconst 4, 1) := by decide +kernel
theorem dX9_rate_42 : decode cX9_rate 42 = .ok (.iload_n 2, 1) := by decide +kernel
theorem dX9_rate_43 : decode cX9_rate 43 = .ok (.imul, 1) := by decide +kernel
theorem dX9_rate_44 : decode cX9_rate 44 = .ok (.iconst 3, 1) := by decide +kernel
theorem dX9_rate_45 : decode cX9_rate 45 = .ok (.iadd, 1) := by decide +kernel
theorem dX9_rate_46 : decode cX9_rate 46 = .ok (.iaload, 1) := by decide +kernel
theorem dX9_rate_47 : decode cX9_rate 47 = .ok (.iadd, 1) := by decide +kernel
theorem dX9_rate_48 : decode cX9_rate 48 = .ok (.istore 4, 2) := by decide +kernel
theorem dX9_rate_50 : decode cX9_rate 50 = .ok (.iload_n 3, 1) := by decide +kernel
theorem dX9_rate_51 : decode cX9_rate 51 = .ok (.aload_n 0, 1) := by decide +kernel
theorem dX9_rate_52 : decode cX9_rate 52 = .ok (.getfield 26, 3) := by decide +kernel
theorem dX9_rate_55 : decode cX9_rate 55 = .ok (.iconst 4, 1) := by decide +kernel
theorem dX9_rate_56 : decode cX9_rate 56 = .ok (.iload_n 2, 1) := by decide +kernel
theorem dX9_rate_57 : decode cX9_rate 57 = .ok (.imul, 1) := by decide +kernel
theorem dX9_rate_58 : decode cX9_rate 58 = .ok (.iaload, 1) := by decide +kernel
theorem dX9_rate_59 : decode cX9_rate 59 = .ok (.iadd, 1) := by decide +kernel
theorem dX9_rate_60 : decode cX9_rate 60 = .ok (.istore 5, 2) := by decide +kernel
theorem dX9_rate_62 : decode cX9_rate 62 = .ok (.aload_n 0, 1) := by decide +kernel
theorem dX9_rate_63 : decode cX9_rate 63 = .ok (.dup, 1) := by decide +kernel
theorem dX9_rate_64 : decode cX9_rate 64 = .ok (.getfield 201, 3) := by decide +kernel
theorem dX9_rate_67 : decode cX9_rate 67 = .ok (.iload_n 1, 1) := by decide +kernel
theorem dX9_rate_68 : decode cX9_rate 68 = .ok (.ifCond .ne 7, 3) := by decide +kernel
theorem dX9_rate_71 : decode cX9_rate 71 = .ok (.lconst 1, 1) := by decide +kernel
theorem dX9_rate_72 : decode cX9_rate 72 = .ok (.goto 50, 3) := by decide +kernel
theorem dX9_rate_75 : decode cX9_rate 75 = .ok (.iload_n 1, 1) := by decide +kernel
theorem dX9_rate_76 : decode cX9_rate 76 = .ok (.iconst 1, 1) := by decide +kernel
theorem dX9_rate_77 : decode cX9_rate 77 = .ok (.if_icmp .ne 9, 3) := by decide +kernel
theorem dX9_rate_80 : decode cX9_rate 80 = .ok (.ldc2_w 205, 3) := by decide +kernel
theorem dX9_rate_83 : decode cX9_rate 83 = .ok (.goto 39, 3) := by decide +kernel
theorem dX9_rate_86 : decode cX9_rate 86 = .ok (.iload_n 1, 1) := by decide +kernel
theorem dX9_rate_87 : decode cX9_rate 87 = .ok (.iconst 2, 1) := by decide +kernel
theorem dX9_rate_88 : decode cX9_rate 88 = .ok (.if_icmp .ne 9, 3) := by decide +kernel
theorem dX9_rate_91 : decode cX9_rate 91 = .ok (.ldc2_w 207, 3) := by decide +kernel
theorem dX9_rate_94 : decode cX9_rate 94 = .ok (.goto 28, 3) := by decide +kernel
theorem dX9_rate_97 : decode cX9_rate 97 = .ok (.iload_n 1, 1) := by decide +kernel
theorem dX9_rate_98 : decode cX9_rate 98 = .ok (.iconst 3, 1) := by decide +kernel
theorem dX9_rate_99 : decode cX9_rate 99 = .ok (.if_icmp .ne 9, 3) := by decide +kernel
theorem dX9_rate_102 : decode cX9_rate 102 = .ok (.ldc2_w 209, 3) := by decide +kernel
theorem dX9_rate_105 : decode cX9_rate 105 = .ok (.goto 17, 3) := by decide +kernel
theorem dX9_rate_108 : decode cX9_rate 108 = .ok (.iload_n 1, 1) := by decide +kernel
theorem dX9_rate_109 : decode cX9_rate 109 = .ok (.iconst 4, 1) := by decide +kernel
theorem dX9_rate_110 : decode cX9_rate 110 = .ok (.if_icmp .ne 9, 3) := by decide +kernel
theorem dX9_rate_113 : decode cX9_rate 113 = .ok (.ldc2_w 211, 3) := by decide +kernel
theorem dX9_rate_116 : decode cX9_rate 116 = .ok (.goto 6, 3) := by decide +kernel
theorem dX9_rate_119 : decode cX9_rate 119 = .ok (.ldc2_w 213, 3) := by decide +kernel
theorem dX9_rate_122 : decode cX9_rate 122 = .ok (.ladd, 1) := by decide +kernel
theorem dX9_rate_123 : decode cX9_rate 123 = .ok (.putfield 201, 3) := by decide +kernel
theorem dX9_rate_126 : decode cX9_rate 126 = .ok (.iload_n 1, 1) := by decide +kernel
theorem dX9_rate_127 : decode cX9_rate 127 = .ok (.ifCond .ne 7, 3) := by decide +kernel
theorem dX9_rate_130 : decode cX9_rate 130 = .ok (.iload_n 3, 1) := by decide +kernel
theorem dX9_rate_131 : decode cX9_rate 131 = .ok (.goto 62, 3) := by decide +kernel
theorem dX9_rate_134 : decode cX9_rate 134 = .ok (.iload_n 1, 1) := by decide +kernel
theorem dX9_rate_135 : decode cX9_rate 135 = .ok (.iconst 1, 1) := by decide +kernel
theorem dX9_rate_136 : decode cX9_rate 136 = .ok (.if_icmp .ne 8, 3) := by decide +kernel
theorem dX9_rate_139 : decode cX9_rate 139 = .ok (.iload 4, 2) := by decide +kernel
theorem dX9_rate_141 : decode cX9_rate 141 = .ok (.goto 52, 3) := by decide +kernel
theorem dX9_rate_144 : decode cX9_rate 144 = .ok (.iload_n 1, 1) := by decide +kernel
theorem dX9_rate_145 : decode cX9_rate 145 = .ok (.iconst 2, 1) := by decide +kernel
theorem dX9_rate_146 : decode cX9_rate 146 = .ok (.if_icmp .ne 8, 3) := by decide +kernel
theorem dX9_rate_149 : decode cX9_rate 149 = .ok (.iload 5, 2) := by decide +kernel
theorem dX9_rate_151 : decode cX9_rate 151 = .ok (.goto 42, 3) := by decide +kernel
theorem dX9_rate_154 : decode cX9_rate 154 = .ok (.iload_n 1, 1) := by decide +kernel
theorem dX9_rate_155 : decode cX9_rate 155 = .ok (.iconst 3, 1) := by decide +kernel
theorem dX9_rate_156 : decode cX9_rate 156 = .ok (.if_icmp .ne 10, 3) := by decide +kernel
theorem dX9_rate_159 : decode cX9_rate 159 = .ok (.iconst 2, 1) := by decide +kernel
theorem dX9_rate_160 : decode cX9_rate 160 = .ok (.iload 5, 2) := by decide +kernel
theorem dX9_rate_162 : decode cX9_rate 162 = .ok (.imul, 1) := by decide +kernel
theorem dX9_rate_163 : decode cX9_rate 163 = .ok (.goto 30, 3) := by decide +kernel
theorem dX9_rate_166 : decode cX9_rate 166 = .ok (.iload_n 1, 1) := by decide +kernel
theorem dX9_rate_167 : decode cX9_rate 167 = .ok (.iconst 4, 1) := by decide +kernel
theorem dX9_rate_168 : decode cX9_rate 168 = .ok (.if_icmp .ne 13, 3) := by decide +kernel
theorem dX9_rate_171 : decode cX9_rate 171 = .ok (.iload 4, 2) := by decide +kernel
theorem dX9_rate_173 : decode cX9_rate 173 = .ok (.aload_n 0, 1) := by decide +kernel
theorem dX9_rate_174 : decode cX9_rate 174 = .ok (.getfield 35, 3) := by decide +kernel
theorem dX9_rate_177 : decode cX9_rate 177 = .ok (.isub, 1) := by decide +kernel
theorem dX9_rate_178 : decode cX9_rate 178 = .ok (.goto 15, 3) := by decide +kernel
theorem dX9_rate_181 : decode cX9_rate 181 = .ok (.iload_n 3, 1) := by decide +kernel
theorem dX9_rate_182 : decode cX9_rate 182 = .ok (.aload_n 0, 1) := by decide +kernel
theorem dX9_rate_183 : decode cX9_rate 183 = .ok (.getfield 26, 3) := by decide +kernel
theorem dX9_rate_186 : decode cX9_rate 186 = .ok (.iconst 4, 1) := by decide +kernel
theorem dX9_rate_187 : decode cX9_rate 187 = .ok (.iload_n 2, 1) := by decide +kernel
theorem dX9_rate_188 : decode cX9_rate 188 = .ok (.imul, 1) := by decide +kernel
theorem dX9_rate_189 : decode cX9_rate 189 = .ok (.iconst 2, 1) := by decide +kernel
theorem dX9_rate_190 : decode cX9_rate 190 = .ok (.iadd, 1) := by decide +kernel
theorem dX9_rate_191 : decode cX9_rate 191 = .ok (.iaload, 1) := by decide +kernel
theorem dX9_rate_192 : decode cX9_rate 192 = .ok (.iadd, 1) := by decide +kernel
theorem dX9_rate_193 : decode cX9_rate 193 = .ok (.ireturn, 1) := by decide +kernel
set_option maxRecDepth 20000 in
theorem ggX9_keep_X9_in : GoodIn wsX9_keep wsX9_in := goodIn_r _ [8] (by decide +kernel) (by decide +kernel)
set_option maxRecDepth 20000 in
theorem gX9_keep_X9_in : GoodIn wsX9_keep (va_wsS RX9 48 yX9_in wsX9_in) := goodIn_app (goodIn_of _ (by decide +kernel)) ggX9_keep_X9_in
theorem dX9_keep_0 : decode cX9_keep 0 = .ok (.aload_n 0, 1) := by decide +kernel
theorem dX9_keep_1 : decode cX9_keep 1 = .ok (.iconst 0, 1) := by decide +kernel
theorem dX9_keep_2 : decode cX9_keep 2 = .ok (.putfield 45, 3) := by decide +kernel
theorem dX9_keep_5 : decode cX9_keep 5 = .ok (.iload_n 1, 1) := by decide +kernel
theorem dX9_keep_6 : decode cX9_keep 6 = .ok (.iconst 0, 1) := by decide +kernel
theorem dX9_keep_7 : decode cX9_keep 7 = .ok (.iconst 1, 1) := by decide +kernel
theorem dX9_keep_8 : decode cX9_keep 8 = .ok (.invokestatic 48, 3) := by decide +kernel
theorem dX9_keep_11 : decode cX9_keep 11 = .ok (.ifCond .ne 5, 3) := by decide +kernel
theorem dX9_keep_14 : decode cX9_keep 14 = .ok (.iconst (-1), 1) := by decide +kernel
theorem dX9_keep_15 : decode cX9_keep 15 = .ok (.ireturn, 1) := by decide +kernel
theorem dX9_keep_16 : decode cX9_keep 16 = .ok (.iconst 0, 1) := by decide +kernel
theorem dX9_keep_17 : decode cX9_keep 17 = .ok (.istore_n 2, 1) := by decide +kernel
theorem dX9_keep_18 : decode cX9_keep 18 = .ok (.iload_n 2, 1) := by decide +kernel
theorem dX9_keep_19 : decode cX9_keep 19 = .ok (.sipush 207, 3) := by decide +kernel
theorem dX9_keep_22 : decode cX9_keep 22 = .ok (.if_icmp .ge 27, 3) := by decide +kernel
theorem dX9_keep_25 : decode cX9_keep 25 = .ok (.aload_n 0, 1) := by decide +kernel
theorem dX9_keep_26 : decode cX9_keep 26 = .ok (.getfield 19, 3) := by decide +kernel
theorem dX9_keep_29 : decode cX9_keep 29 = .ok (.sipush 207, 3) := by decide +kernel
theorem dX9_keep_32 : decode cX9_keep 32 = .ok (.iload_n 1, 1) := by decide +kernel
theorem dX9_keep_33 : decode cX9_keep 33 = .ok (.imul, 1) := by decide +kernel
theorem dX9_keep_34 : decode cX9_keep 34 = .ok (.iload_n 2, 1) := by decide +kernel
theorem dX9_keep_35 : decode cX9_keep 35 = .ok (.iadd, 1) := by decide +kernel
theorem dX9_keep_36 : decode cX9_keep 36 = .ok (.aload_n 0, 1) := by decide +kernel
theorem dX9_keep_37 : decode cX9_keep 37 = .ok (.getfield 13, 3) := by decide +kernel
theorem dX9_keep_40 : decode cX9_keep 40 = .ok (.iload_n 2, 1) := by decide +kernel
theorem dX9_keep_41 : decode cX9_keep 41 = .ok (.iaload, 1) := by decide +kernel
theorem dX9_keep_42 : decode cX9_keep 42 = .ok (.iastore, 1) := by decide +kernel
theorem dX9_keep_43 : decode cX9_keep 43 = .ok (.iinc 2 1, 3) := by decide +kernel
theorem dX9_keep_46 : decode cX9_keep 46 = .ok (.goto (-28), 3) := by decide +kernel
theorem dX9_keep_49 : decode cX9_keep 49 = .ok (.aload_n 0, 1) := by decide +kernel
theorem dX9_keep_50 : decode cX9_keep 50 = .ok (.getfield 22, 3) := by decide +kernel
theorem dX9_keep_53 : decode cX9_keep 53 = .ok (.iload_n 1, 1) := by decide +kernel
theorem dX9_keep_54 : decode cX9_keep 54 = .ok (.iconst 1, 1) := by decide +kernel
theorem dX9_keep_55 : decode cX9_keep 55 = .ok (.bastore, 1) := by decide +kernel
theorem dX9_keep_56 : decode cX9_keep 56 = .ok (.aload_n 0, 1) := by decide +kernel
theorem dX9_keep_57 : decode cX9_keep 57 = .ok (.getfield 13, 3) := by decide +kernel
theorem dX9_keep_60 : decode cX9_keep 60 = .ok (.sipush 194, 3) := by decide +kernel
theorem dX9_keep_63 : decode cX9_keep 63 = .ok (.iaload, 1) := by decide +kernel
theorem dX9_keep_64 : decode cX9_keep 64 = .ok (.ireturn, 1) := by decide +kernel
set_option maxRecDepth 20000 in
theorem ggX9_back_X9_in : GoodIn wsX9_back wsX9_in := goodIn_r _ [8] (by decide +kernel) (by decide +kernel)
set_option maxRecDepth 20000 in
theorem gX9_back_X9_in : GoodIn wsX9_back (va_wsS RX9 48 yX9_in wsX9_in) := goodIn_app (goodIn_of _ (by decide +kernel)) ggX9_back_X9_in
theorem dX9_back_0 : decode cX9_back 0 = .ok (.aload_n 0, 1) := by decide +kernel
theorem dX9_back_1 : decode cX9_back 1 = .ok (.iconst 0, 1) := by decide +kernel
theorem dX9_back_2 : decode cX9_back 2 = .ok (.putfield 45, 3) := by decide +kernel
theorem dX9_back_5 : decode cX9_back 5 = .ok (.iload_n 1, 1) := by decide +kernel
theorem dX9_back_6 : decode cX9_back 6 = .ok (.iconst 0, 1) := by decide +kernel
theorem dX9_back_7 : decode cX9_back 7 = .ok (.iconst 1, 1) := by decide +kernel
theorem dX9_back_8 : decode cX9_back 8 = .ok (.invokestatic 48, 3) := by decide +kernel
theorem dX9_back_11 : decode cX9_back 11 = .ok (.ifCond .ne 5, 3) := by decide +kernel
theorem dX9_back_14 : decode cX9_back 14 = .ok (.iconst (-1), 1) := by decide +kernel
theorem dX9_back_15 : decode cX9_back 15 = .ok (.ireturn, 1) := by decide +kernel
theorem dX9_back_16 : decode cX9_back 16 = .ok (.aload_n 0, 1) := by decide +kernel
theorem dX9_back_17 : decode cX9_back 17 = .ok (.getfield 22, 3) := by decide +kernel
theorem dX9_back_20 : decode cX9_back 20 = .ok (.iload_n 1, 1) := by decide +kernel
theorem dX9_back_21 : decode cX9_back 21 = .ok (.baload, 1) := by decide +kernel
theorem dX9_back_22 : decode cX9_back 22 = .ok (.ifCond .ne 6, 3) := by decide +kernel
theorem dX9_back_25 : decode cX9_back 25 = .ok (.bipush (-2), 2) := by decide +kernel
theorem dX9_back_27 : decode cX9_back 27 = .ok (.ireturn, 1) := by decide +kernel
theorem dX9_back_28 : decode cX9_back 28 = .ok (.iconst 0, 1) := by decide +kernel
theorem dX9_back_29 : decode cX9_back 29 = .ok (.istore_n 2, 1) := by decide +kernel
theorem dX9_back_30 : decode cX9_back 30 = .ok (.iload_n 2, 1) := by decide +kernel
theorem dX9_back_31 : decode cX9_back 31 = .ok (.sipush 207, 3) := by decide +kernel
theorem dX9_back_34 : decode cX9_back 34 = .ok (.if_icmp .ge 27, 3) := by decide +kernel
theorem dX9_back_37 : decode cX9_back 37 = .ok (.aload_n 0, 1) := by decide +kernel
theorem dX9_back_38 : decode cX9_back 38 = .ok (.getfield 13, 3) := by decide +kernel
theorem dX9_back_41 : decode cX9_back 41 = .ok (.iload_n 2, 1) := by decide +kernel
theorem dX9_back_42 : decode cX9_back 42 = .ok (.aload_n 0, 1) := by decide +kernel
theorem dX9_back_43 : decode cX9_back 43 = .ok (.getfield 19, 3) := by decide +kernel
theorem dX9_back_46 : decode cX9_back 46 = .ok (.sipush 207, 3) := by decide +kernel
theorem dX9_back_49 : decode cX9_back 49 = .ok (.iload_n 1, 1) := by decide +kernel
theorem dX9_back_50 : decode cX9_back 50 = .ok (.imul, 1) := by decide +kernel
theorem dX9_back_51 : decode cX9_back 51 = .ok (.iload_n 2, 1) := by decide +kernel
theorem dX9_back_52 : decode cX9_back 52 = .ok (.iadd, 1) := by decide +kernel
theorem dX9_back_53 : decode cX9_back 53 = .ok (.iaload, 1) := by decide +kernel
theorem dX9_back_54 : decode cX9_back 54 = .ok (.iastore, 1) := by decide +kernel
theorem dX9_back_55 : decode cX9_back 55 = .ok (.iinc 2 1, 3) := by decide +kernel
theorem dX9_back_58 : decode cX9_back 58 = .ok (.goto (-28), 3) := by decide +kernel
theorem dX9_back_61 : decode cX9_back 61 = .ok (.aload_n 0, 1) := by decide +kernel
theorem dX9_back_62 : decode cX9_back 62 = .ok (.getfield 13, 3) := by decide +kernel
theorem dX9_back_65 : decode cX9_back 65 = .ok (.sipush 194, 3) := by decide +kernel
theorem dX9_back_68 : decode cX9_back 68 = .ok (.iaload, 1) := by decide +kernel
theorem dX9_back_69 : decode cX9_back 69 = .ok (.ireturn, 1) := by decide +kernel
set_option maxRecDepth 20000 in
theorem ggX9_count_X9_in : GoodIn wsX9_count wsX9_in := goodIn_r _ [11] (by decide +kernel) (by decide +kernel)
set_option maxRecDepth 20000 in
theorem gX9_count_X9_in : GoodIn wsX9_count (va_wsS RX9 48 yX9_in wsX9_in) := goodIn_app (goodIn_of _ (by decide +kernel)) ggX9_count_X9_in
theorem dX9_count_0 : decode cX9_count 0 = .ok (.aload_n 0, 1) := by decide +kernel
theorem dX9_count_1 : decode cX9_count 1 = .ok (.iconst 0, 1) := by decide +kernel
theorem dX9_count_2 : decode cX9_count 2 = .ok (.putfield 45, 3) := by decide +kernel
theorem dX9_count_5 : decode cX9_count 5 = .ok (.iconst 0, 1) := by decide +kernel
theorem dX9_count_6 : decode cX9_count 6 = .ok (.istore_n 2, 1) := by decide +kernel
theorem dX9_count_7 : decode cX9_count 7 = .ok (.iconst 0, 1) := by decide +kernel
theorem dX9_count_8 : decode cX9_count 8 = .ok (.istore_n 3, 1) := by decide +kernel
theorem dX9_count_9 : decode cX9_count 9 = .ok (.iload_n 3, 1) := by decide +kernel
theorem dX9_count_10 : decode cX9_count 10 = .ok (.bipush 96, 2) := by decide +kernel
theorem dX9_count_12 : decode cX9_count 12 = .ok (.if_icmp .ge 48, 3) := by decide +kernel
theorem dX9_count_15 : decode cX9_count 15 = .ok (.iload_n 2, 1) := by decide +kernel
theorem dX9_count_16 : decode cX9_count 16 = .ok (.iload_n 1, 1) := by decide +kernel
theorem dX9_count_17 : decode cX9_count 17 = .ok (.bipush 6, 2) := by decide +kernel
theorem dX9_count_19 : decode cX9_count 19 = .ok (.if_icmp .ne 14, 3) := by decide +kernel
theorem dX9_count_22 : decode cX9_count 22 = .ok (.aload_n 0, 1) := by decide +kernel
theorem dX9_count_23 : decode cX9_count 23 = .ok (.getfield 13, 3) := by decide +kernel
theorem dX9_count_26 : decode cX9_count 26 = .ok (.iconst 0, 1) := by decide +kernel
theorem dX9_count_27 : decode cX9_count 27 = .ok (.iload_n 3, 1) := by decide +kernel
theorem dX9_count_28 : decode cX9_count 28 = .ok (.iadd, 1) := by decide +kernel
theorem dX9_count_29 : decode cX9_count 29 = .ok (.iaload, 1) := by decide +kernel
theorem dX9_count_30 : decode cX9_count 30 = .ok (.goto 22, 3) := by decide +kernel
theorem dX9_count_33 : decode cX9_count 33 = .ok (.iload_n 1, 1) := by decide +kernel
theorem dX9_count_34 : decode cX9_count 34 = .ok (.bipush 7, 2) := by decide +kernel
theorem dX9_count_36 : decode cX9_count 36 = .ok (.if_icmp .ne 15, 3) := by decide +kernel
theorem dX9_count_39 : decode cX9_count 39 = .ok (.aload_n 0, 1) := by decide +kernel
theorem dX9_count_40 : decode cX9_count 40 = .ok (.getfield 13, 3) := by decide +kernel
theorem dX9_count_43 : decode cX9_count 43 = .ok (.bipush 96, 2) := by decide +kernel
theorem dX9_count_45 : decode cX9_count 45 = .ok (.iload_n 3, 1) := by decide +kernel
theorem dX9_count_46 : decode cX9_count 46 = .ok (.iadd, 1) := by decide +kernel
theorem dX9_count_47 : decode cX9_count 47 = .ok (.iaload, 1) := by decide +kernel
theorem dX9_count_48 : decode cX9_count 48 = .ok (.goto 4, 3) := by decide +kernel
theorem dX9_count_51 : decode cX9_count 51 = .ok (.iconst 0, 1) := by decide +kernel
theorem dX9_count_52 : decode cX9_count 52 = .ok (.iadd, 1) := by decide +kernel
theorem dX9_count_53 : decode cX9_count 53 = .ok (.istore_n 2, 1) := by decide +kernel
theorem dX9_count_54 : decode cX9_count 54 = .ok (.iinc 3 1, 3) := by decide +kernel
theorem dX9_count_57 : decode cX9_count 57 = .ok (.goto (-48), 3) := by decide +kernel
theorem dX9_count_60 : decode cX9_count 60 = .ok (.iload_n 1, 1) := by decide +kernel
theorem dX9_count_61 : decode cX9_count 61 = .ok (.ifCond .ne 10, 3) := by decide +kernel
theorem dX9_count_64 : decode cX9_count 64 = .ok (.aload_n 0, 1) := by decide +kernel
theorem dX9_count_65 : decode cX9_count 65 = .ok (.getfield 134, 3) := by decide +kernel
theorem dX9_count_68 : decode cX9_count 68 = .ok (.goto 83, 3) := by decide +kernel
theorem dX9_count_71 : decode cX9_count 71 = .ok (.iload_n 1, 1) := by decide +kernel
theorem dX9_count_72 : decode cX9_count 72 = .ok (.iconst 1, 1) := by decide +kernel
theorem dX9_count_73 : decode cX9_count 73 = .ok (.if_icmp .ne 10, 3) := by decide +kernel
theorem dX9_count_76 : decode cX9_count 76 = .ok (.aload_n 0, 1) := by decide +kernel
theorem dX9_count_77 : decode cX9_count 77 = .ok (.getfield 137, 3) := by decide +kernel
theorem dX9_count_80 : decode cX9_count 80 = .ok (.goto 71, 3) := by decide +kernel
theorem dX9_count_83 : decode cX9_count 83 = .ok (.iload_n 1, 1) := by decide +kernel
theorem dX9_count_84 : decode cX9_count 84 = .ok (.iconst 2, 1) := by decide +kernel
theorem dX9_count_85 : decode cX9_count 85 = .ok (.if_icmp .ne 10, 3) := by decide +kernel
theorem dX9_count_88 : decode cX9_count 88 = .ok (.aload_n 0, 1) := by decide +kernel
theorem dX9_count_89 : decode cX9_count 89 = .ok (.getfield 140, 3) := by decide +kernel
theorem dX9_count_92 : decode cX9_count 92 = .ok (.goto 59, 3) := by decide +kernel
theorem dX9_count_95 : decode cX9_count 95 = .ok (.iload_n 1, 1) := by decide +kernel
theorem dX9_count_96 : decode cX9_count 96 = .ok (.iconst 3, 1) := by decide +kernel
theorem dX9_count_97 : decode cX9_count 97 = .ok (.if_icmp .ne 10, 3) := by decide +kernel
theorem dX9_count_100 : decode cX9_count 100 = .ok (.aload_n 0, 1) := by decide +kernel
theorem dX9_count_101 : decode cX9_count 101 = .ok (.getfield 143, 3) := by decide +kernel
theorem dX9_count_104 : decode cX9_count 104 = .ok (.goto 47, 3) := by decide +kernel
theorem dX9_count_107 : decode cX9_count 107 = .ok (.iload_n 1, 1) := by decide +kernel
theorem dX9_count_108 : decode cX9_count 108 = .ok (.iconst 4, 1) := by decide +kernel
theorem dX9_count_109 : decode cX9_count 109 = .ok (.if_icmp .ne 14, 3) := by decide +kernel
theorem dX9_count_112 : decode cX9_count 112 = .ok (.aload_n 0, 1) := by decide +kernel
theorem dX9_count_113 : decode cX9_count 113 = .ok (.getfield 13, 3) := by decide +kernel
theorem dX9_count_116 : decode cX9_count 116 = .ok (.sipush 194, 3) := by decide +kernel
theorem dX9_count_119 : decode cX9_count 119 = .ok (.iaload, 1) := by decide +kernel
theorem dX9_count_120 : decode cX9_count 120 = .ok (.goto 31, 3) := by decide +kernel
theorem dX9_count_123 : decode cX9_count 123 = .ok (.iload_n 1, 1) := by decide +kernel
theorem dX9_count_124 : decode cX9_count 124 = .ok (.iconst 5, 1) := by decide +kernel
theorem dX9_count_125 : decode cX9_count 125 = .ok (.if_icmp .ne 10, 3) := by decide +kernel
theorem dX9_count_128 : decode cX9_count 128 = .ok (.aload_n 0, 1) := by decide +kernel
theorem dX9_count_129 : decode cX9_count 129 = .ok (.getfield 52, 3) := by decide +kernel
theorem dX9_count_132 : decode cX9_count 132 = .ok (.goto 19, 3) := by decide +kernel
theorem dX9_count_135 : decode cX9_count 135 = .ok (.iload_n 1, 1) := by decide +kernel
theorem dX9_count_136 : decode cX9_count 136 = .ok (.bipush 6, 2) := by decide +kernel
theorem dX9_count_138 : decode cX9_count 138 = .ok (.bipush 7, 2) := by decide +kernel
theorem dX9_count_140 : decode cX9_count 140 = .ok (.invokestatic 48, 3) := by decide +kernel
theorem dX9_count_143 : decode cX9_count 143 = .ok (.ifCond .eq 7, 3) := by decide +kernel
theorem dX9_count_146 : decode cX9_count 146 = .ok (.iload_n 2, 1) := by decide +kernel
theorem dX9_count_147 : decode cX9_count 147 = .ok (.goto 4, 3) := by decide +kernel
theorem dX9_count_150 : decode cX9_count 150 = .ok (.iconst (-1), 1) := by decide +kernel
theorem dX9_count_151 : decode cX9_count 151 = .ok (.ireturn, 1) := by decide +kernel
theorem dX9_trace_0 : decode cX9_trace 0 = .ok (.aload_n 0, 1) := by decide +kernel
theorem dX9_trace_1 : decode cX9_trace 1 = .ok (.iconst 0, 1) := by decide +kernel
theorem dX9_trace_2 : decode cX9_trace 2 = .ok (.putfield 45, 3) := by decide +kernel
theorem dX9_trace_5 : decode cX9_trace 5 = .ok (.aload_n 0, 1) := by decide +kernel
theorem dX9_trace_6 : decode cX9_trace 6 = .ok (.getfield 201, 3) := by decide +kernel
