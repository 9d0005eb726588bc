theorem dX8_broken_17 : decode cX8_broken 17 = .ok (.aload_n 0, 1) := by decide +kernel
theorem dX8_broken_18 : decode cX8_broken 18 = .ok (.getfield 46, 3) := by decide +kernel
theorem dX8_broken_21 : decode cX8_broken 21 = .ok (.invokevirtual 149, 3) := by decide +kernel
theorem dX8_broken_24 : decode cX8_broken 24 = .ok (.iand, 1) := by decide +kernel
theorem dX8_broken_25 : decode cX8_broken 25 = .ok (.iaload, 1) := by decide +kernel
theorem dX8_broken_26 : decode cX8_broken 26 = .ok (.aload_n 0, 1) := by decide +kernel
theorem dX8_broken_27 : decode cX8_broken 27 = .ok (.getfield 46, 3) := by decide +kernel
theorem dX8_broken_30 : decode cX8_broken 30 = .ok (.getfield 152, 3) := by decide +kernel
theorem dX8_broken_33 : decode cX8_broken 33 = .ok (.iload_n 1, 1) := by decide +kernel
theorem dX8_broken_34 : decode cX8_broken 34 = .ok (.iaload, 1) := by decide +kernel
theorem dX8_broken_35 : decode cX8_broken 35 = .ok (.iand, 1) := by decide +kernel
theorem dX8_broken_36 : decode cX8_broken 36 = .ok (.ireturn, 1) := by decide +kernel
set_option maxRecDepth 20000 in
theorem ggX8_plan_X8_isHour : GoodIn wsX8_plan wsX8_isHour := goodIn_r _ [8] (by decide +kernel) (by decide +kernel)
set_option maxRecDepth 20000 in
theorem gX8_plan_X8_isHour : GoodIn wsX8_plan (va_wsS RX8 142 yX8_isHour wsX8_isHour) := goodIn_app (goodIn_of _ (by decide +kernel)) ggX8_plan_X8_isHour
set_option maxRecDepth 20000 in
theorem ggX8_plan_X8_isBit : GoodIn wsX8_plan wsX8_isBit := goodIn_r _ [11] (by decide +kernel) (by decide +kernel)
set_option maxRecDepth 20000 in
theorem gX8_plan_X8_isBit : GoodIn wsX8_plan (va_wsS RX8 91 yX8_isBit wsX8_isBit) := goodIn_app (goodIn_of _ (by decide +kernel)) ggX8_plan_X8_isBit
set_option maxRecDepth 20000 in
theorem ggX8_plan_X4_choose : GoodIn wsX8_plan wsX4_choose := goodIn_r _ [16, 17, 18, 19, 20, 21, 22, 23, 24, 25, 26, 27, 28, 37, 38, 39, 40, 41, 42, 43, 44, 45, 46, 47, 48, 49, 50] (by decide +kernel) (by decide +kernel)
set_option maxRecDepth 20000 in
theorem gX8_plan_X4_choose : GoodIn wsX8_plan (wsV RX8 155 RX4 yX4_choose wsX4_choose) := goodIn_app (goodIn_of _ (by decide +kernel)) ggX8_plan_X4_choose
theorem dX8_plan_0 : decode cX8_plan 0 = .ok (.iload_n 1, 1) := by decide +kernel
theorem dX8_plan_1 : decode cX8_plan 1 = .ok (.invokestatic 142, 3) := by decide +kernel
theorem dX8_plan_4 : decode cX8_plan 4 = .ok (.ifCond .eq 17, 3) := by decide +kernel
theorem dX8_plan_7 : decode cX8_plan 7 = .ok (.iload_n 2, 1) := by decide +kernel
theorem dX8_plan_8 : decode cX8_plan 8 = .ok (.invokestatic 91, 3) := by decide +kernel
theorem dX8_plan_11 : decode cX8_plan 11 = .ok (.ifCond .eq 10, 3) := by decide +kernel
theorem dX8_plan_14 : decode cX8_plan 14 = .ok (.iload_n 3, 1) := by decide +kernel
theorem dX8_plan_15 : decode cX8_plan 15 = .ok (.invokestatic 91, 3) := by decide +kernel
theorem dX8_plan_18 : decode cX8_plan 18 = .ok (.ifCond .ne 5, 3) := by decide +kernel
theorem dX8_plan_21 : decode cX8_plan 21 = .ok (.iconst (-1), 1) := by decide +kernel
theorem dX8_plan_22 : decode cX8_plan 22 = .ok (.ireturn, 1) := by decide +kernel
theorem dX8_plan_23 : decode cX8_plan 23 = .ok (.aload_n 0, 1) := by decide +kernel
theorem dX8_plan_24 : decode cX8_plan 24 = .ok (.getfield 26, 3) := by decide +kernel
theorem dX8_plan_27 : decode cX8_plan 27 = .ok (.aload_n 0, 1) := by decide +kernel
theorem dX8_plan_28 : decode cX8_plan 28 = .ok (.getfield 46, 3) := by decide +kernel
theorem dX8_plan_31 : decode cX8_plan 31 = .ok (.iload_n 1, 1) := by decide +kernel
theorem dX8_plan_32 : decode cX8_plan 32 = .ok (.iload_n 2, 1) := by decide +kernel
theorem dX8_plan_33 : decode cX8_plan 33 = .ok (.invokevirtual 155, 3) := by decide +kernel
theorem dX8_plan_36 : decode cX8_plan 36 = .ok (.iload_n 3, 1) := by decide +kernel
theorem dX8_plan_37 : decode cX8_plan 37 = .ok (.ifCond .ne 13, 3) := by decide +kernel
theorem dX8_plan_40 : decode cX8_plan 40 = .ok (.aload_n 0, 1) := by decide +kernel
theorem dX8_plan_41 : decode cX8_plan 41 = .ok (.getfield 26, 3) := by decide +kernel
theorem dX8_plan_44 : decode cX8_plan 44 = .ok (.getfield 159, 3) := by decide +kernel
theorem dX8_plan_47 : decode cX8_plan 47 = .ok (.goto 10, 3) := by decide +kernel
theorem dX8_plan_50 : decode cX8_plan 50 = .ok (.aload_n 0, 1) := by decide +kernel
theorem dX8_plan_51 : decode cX8_plan 51 = .ok (.getfield 26, 3) := by decide +kernel
theorem dX8_plan_54 : decode cX8_plan 54 = .ok (.getfield 162, 3) := by decide +kernel
theorem dX8_plan_57 : decode cX8_plan 57 = .ok (.ireturn, 1) := by decide +kernel
set_option maxRecDepth 20000 in
theorem ggX8_day_X8_isBit : GoodIn wsX8_day wsX8_isBit := goodIn_r _ [6] (by decide +kernel) (by decide +kernel)
set_option maxRecDepth 20000 in
theorem gX8_day_X8_isBit : GoodIn wsX8_day (va_wsS RX8 91 yX8_isBit wsX8_isBit) := goodIn_app (goodIn_of _ (by decide +kernel)) ggX8_day_X8_isBit
set_option maxRecDepth 20000 in
theorem ggX8_day_X4_wholeDay : GoodIn wsX8_day wsX4_wholeDay := goodIn_r _ [11, 12, 13, 14, 15, 10, 16, 17, 18, 19, 20, 21, 22, 23, 24, 25, 26, 27, 36, 37, 38, 39, 40, 41, 42, 43, 44, 45, 46, 47, 48, 49] (by decide +kernel) (by decide +kernel)
set_option maxRecDepth 20000 in
theorem gX8_day_X4_wholeDay : GoodIn wsX8_day (wsV RX8 165 RX4 yX4_wholeDay wsX4_wholeDay) := goodIn_app (goodIn_of _ (by decide +kernel)) ggX8_day_X4_wholeDay
theorem dX8_day_0 : decode cX8_day 0 = .ok (.iload_n 1, 1) := by decide +kernel
theorem dX8_day_1 : decode cX8_day 1 = .ok (.invokestatic 91, 3) := by decide +kernel
theorem dX8_day_4 : decode cX8_day 4 = .ok (.ifCond .ne 5, 3) := by decide +kernel
theorem dX8_day_7 : decode cX8_day 7 = .ok (.iconst (-1), 1) := by decide +kernel
theorem dX8_day_8 : decode cX8_day 8 = .ok (.ireturn, 1) := by decide +kernel
theorem dX8_day_9 : decode cX8_day 9 = .ok (.aload_n 0, 1) := by decide +kernel
theorem dX8_day_10 : decode cX8_day 10 = .ok (.getfield 26, 3) := by decide +kernel
theorem dX8_day_13 : decode cX8_day 13 = .ok (.aload_n 0, 1) := by decide +kernel
theorem dX8_day_14 : decode cX8_day 14 = .ok (.getfield 46, 3) := by decide +kernel
theorem dX8_day_17 : decode cX8_day 17 = .ok (.iload_n 1, 1) := by decide +kernel
theorem dX8_day_18 : decode cX8_day 18 = .ok (.invokevirtual 165, 3) := by decide +kernel
theorem dX8_day_21 : decode cX8_day 21 = .ok (.ireturn, 1) := by decide +kernel
set_option maxRecDepth 20000 in
theorem ggX8_best_X8_isBit : GoodIn wsX8_best wsX8_isBit := goodIn_r _ [7] (by decide +kernel) (by decide +kernel)
set_option maxRecDepth 20000 in
theorem gX8_best_X8_isBit : GoodIn wsX8_best (va_wsS RX8 91 yX8_isBit wsX8_isBit) := goodIn_app (goodIn_of _ (by decide +kernel)) ggX8_best_X8_isBit
set_option maxRecDepth 20000 in
theorem ggX8_best_X0_rowOf : GoodIn wsX8_best wsX0_rowOf := goodIn_r _ [12, 13, 14, 130, 131, 132, 133] (by decide +kernel) (by decide +kernel)
set_option maxRecDepth 20000 in
theorem gX8_best_X0_rowOf : GoodIn wsX8_best (wsV RX8 99 RX0 yX0_rowOf wsX0_rowOf) := goodIn_app (goodIn_of _ (by decide +kernel)) ggX8_best_X0_rowOf
set_option maxRecDepth 20000 in
theorem ggX8_best_X4_wholeDay : GoodIn wsX8_best wsX4_wholeDay := goodIn_r _ [19, 20, 21, 22, 23, 18, 24, 25, 26, 27, 28, 29, 30, 31, 32, 33, 34, 35, 134, 135, 136, 137, 120, 121, 122, 123, 124, 125, 126, 127, 128, 129] (by decide +kernel) (by decide +kernel)
set_option maxRecDepth 20000 in
theorem gX8_best_X4_wholeDay : GoodIn wsX8_best (wsV RX8 165 RX4 yX4_wholeDay wsX4_wholeDay) := goodIn_app (goodIn_of _ (by decide +kernel)) ggX8_best_X4_wholeDay
set_option maxRecDepth 20000 in
theorem ggX8_best_X2_beyond : GoodIn wsX8_best wsX2_beyond := goodIn_r _ [39, 40, 41, 42, 43, 33, 44, 45, 120, 121, 122, 123, 124, 125, 126, 127, 128, 129] (by decide +kernel) (by decide +kernel)
set_option maxRecDepth 20000 in
theorem gX8_best_X2_beyond : GoodIn wsX8_best (wsV RX8 169 RX2 yX2_beyond wsX2_beyond) := goodIn_app (goodIn_of _ (by decide +kernel)) ggX8_best_X2_beyond
set_option maxRecDepth 20000 in
theorem ggX8_best_X8_mostOf : GoodIn wsX8_best wsX8_mostOf := goodIn_r _ [48] (by decide +kernel) (by decide +kernel)
set_option maxRecDepth 20000 in
theorem gX8_best_X8_mostOf : GoodIn wsX8_best (va_wsS RX8 105 yX8_mostOf wsX8_mostOf) := goodIn_app (goodIn_of _ (by decide +kernel)) ggX8_best_X8_mostOf
set_option maxRecDepth 20000 in
theorem ggX8_best_X8_listen : GoodIn wsX8_best wsX8_listen := goodIn_r _ [52, 53, 1, 3, 54, 55, 56, 57, 58, 59, 60, 61, 62, 63, 64, 65, 66, 67, 68, 69, 70, 71, 72, 73, 74, 75, 76, 77, 78, 79, 80, 81, 82, 83, 84, 85, 86, 87, 88, 89, 90, 91, 92, 93, 94, 95, 96, 97, 98, 99, 100, 18, 101, 26, 102, 103, 104, 105, 106, 107, 108, 109, 110, 111, 112, 113, 114, 115, 116, 117, 118, 119, 138, 139, 140, 120, 121, 122, 123, 124, 125, 126, 127, 128, 129, 130, 131, 132, 133, 134, 135, 136, 137] (by decide +kernel) (by decide +kernel)
set_option maxRecDepth 20000 in
theorem gX8_best_X8_listen : GoodIn wsX8_best (wsV RX8 84 RX8 yX8_listen wsX8_listen) := goodIn_app (goodIn_of _ (by decide +kernel)) ggX8_best_X8_listen
theorem dX8_best_0 : decode cX8_best 0 = .ok (.iload_n 1, 1) := by decide +kernel
theorem dX8_best_1 : decode cX8_best 1 = .ok (.invokestatic 91, 3) := by decide +kernel
theorem dX8_best_4 : decode cX8_best 4 = .ok (.ifCond .eq 17, 3) := by decide +kernel
theorem dX8_best_7 : decode cX8_best 7 = .ok (.iload_n 2, 1) := by decide +kernel
theorem dX8_best_8 : decode cX8_best 8 = .ok (.invokestatic 91, 3) := by decide +kernel
theorem dX8_best_11 : decode cX8_best 11 = .ok (.ifCond .eq 10, 3) := by decide +kernel
theorem dX8_best_14 : decode cX8_best 14 = .ok (.iload_n 3, 1) := by decide +kernel
theorem dX8_best_15 : decode cX8_best 15 = .ok (.invokestatic 91, 3) := by decide +kernel
theorem dX8_best_18 : decode cX8_best 18 = .ok (.ifCond .ne 5, 3) := by decide +kernel
theorem dX8_best_21 : decode cX8_best 21 = .ok (.iconst (-1), 1) := by decide +kernel
theorem dX8_best_22 : decode cX8_best 22 = .ok (.ireturn, 1) := by decide +kernel
theorem dX8_best_23 : decode cX8_best 23 = .ok (.aload_n 0, 1) := by decide +kernel
theorem dX8_best_24 : decode cX8_best 24 = .ok (.getfield 46, 3) := by decide +kernel
theorem dX8_best_27 : decode cX8_best 27 = .ok (.getfield 95, 3) := by decide +kernel
theorem dX8_best_30 : decode cX8_best 30 = .ok (.iload_n 1, 1) := by decide +kernel
theorem dX8_best_31 : decode cX8_best 31 = .ok (.invokevirtual 99, 3) := by decide +kernel
theorem dX8_best_34 : decode cX8_best 34 = .ok (.astore 4, 2) := by decide +kernel
theorem dX8_best_36 : decode cX8_best 36 = .ok (.aload_n 0, 1) := by decide +kernel
theorem dX8_best_37 : decode cX8_best 37 = .ok (.getfield 26, 3) := by decide +kernel
theorem dX8_best_40 : decode cX8_best 40 = .ok (.aload_n 0, 1) := by decide +kernel
theorem dX8_best_41 : decode cX8_best 41 = .ok (.getfield 46, 3) := by decide +kernel
theorem dX8_best_44 : decode cX8_best 44 = .ok (.iload_n 2, 1) := by decide +kernel
theorem dX8_best_45 : decode cX8_best 45 = .ok (.invokevirtual 165, 3) := by decide +kernel
theorem dX8_best_48 : decode cX8_best 48 = .ok (.istore 5, 2) := by decide +kernel
theorem dX8_best_50 : decode cX8_best 50 = .ok (.bipush (-9), 2) := by decide +kernel
theorem dX8_best_52 : decode cX8_best 52 = .ok (.istore 6, 2) := by decide +kernel
theorem dX8_best_54 : decode cX8_best 54 = .ok (.iconst 0, 1) := by decide +kernel
theorem dX8_best_55 : decode cX8_best 55 = .ok (.istore 7, 2) := by decide +kernel
theorem dX8_best_57 : decode cX8_best 57 = .ok (.iload 7, 2) := by decide +kernel
theorem dX8_best_59 : decode cX8_best 59 = .ok (.bipush 96, 2) := by decide +kernel
theorem dX8_best_61 : decode cX8_best 61 = .ok (.if_icmp .ge 99, 3) := by decide +kernel
theorem dX8_best_64 : decode cX8_best 64 = .ok (.aload_n 0, 1) := by decide +kernel
theorem dX8_best_65 : decode cX8_best 65 = .ok (.getfield 46, 3) := by decide +kernel
theorem dX8_best_68 : decode cX8_best 68 = .ok (.iload 7, 2) := by decide +kernel
theorem dX8_best_70 : decode cX8_best 70 = .ok (.invokevirtual 169, 3) := by decide +kernel
theorem dX8_best_73 : decode cX8_best 73 = .ok (.istore 8, 2) := by decide +kernel
theorem dX8_best_75 : decode cX8_best 75 = .ok (.iload 8, 2) := by decide +kernel
theorem dX8_best_77 : decode cX8_best 77 = .ok (.ifCond .lt 77, 3) := by decide +kernel
theorem dX8_best_80 : decode cX8_best 80 = .ok (.aload 4, 2) := by decide +kernel
theorem dX8_best_82 : decode cX8_best 82 = .ok (.iload 7, 2) := by decide +kernel
theorem dX8_best_84 : decode cX8_best 84 = .ok (.iaload, 1) := by decide +kernel
theorem dX8_best_85 : decode cX8_best 85 = .ok (.iload_n 1, 1) := by decide +kernel
theorem dX8_best_86 : decode cX8_best 86 = .ok (.invokestatic 105, 3) := by decide +kernel
theorem dX8_best_89 : decode cX8_best 89 = .ok (.if_icmp .lt 6, 3) := by decide +kernel
theorem dX8_best_92 : decode cX8_best 92 = .ok (.goto 62, 3) := by decide +kernel
theorem dX8_best_95 : decode cX8_best 95 = .ok (.aload 4, 2) := by decide +kernel
theorem dX8_best_97 : decode cX8_best 97 = .ok (.iload 7, 2) := by decide +kernel
theorem dX8_best_99 : decode cX8_best 99 = .ok (.dup2, 1) := by decide +kernel
theorem dX8_best_100 : decode cX8_best 100 = .ok (.iaload, 1) := by decide +kernel
theorem dX8_best_101 : decode cX8_best 101 = .ok (.iconst 1, 1) := by decide +kernel
theorem dX8_best_102 : decode cX8_best 102 = .ok (.iadd, 1) := by decide +kernel
theorem dX8_best_103 : decode cX8_best 103 = .ok (.iastore, 1) := by decide +kernel
theorem dX8_best_104 : decode cX8_best 104 = .ok (.aload_n 0, 1) := by decide +kernel
theorem dX8_best_105 : decode cX8_best 105 = .ok (.invokevirtual 84, 3) := by decide +kernel
theorem dX8_best_108 : decode cX8_best 108 = .ok (.aload_n 0, 1) := by decide +kernel
theorem dX8_best_109 : decode cX8_best 109 = .ok (.getfield 26, 3) := by decide +kernel
theorem dX8_best_112 : decode cX8_best 112 = .ok (.aload_n 0, 1) := by decide +kernel
theorem dX8_best_113 : decode cX8_best 113 = .ok (.getfield 46, 3) := by decide +kernel
theorem dX8_best_116 : decode cX8_best 116 = .ok (.iload_n 2, 1) := by decide +kernel
theorem dX8_best_117 : decode cX8_best 117 = .ok (.invokevirtual 165, 3) := by decide +kernel
theorem dX8_best_120 : decode cX8_best 120 = .ok (.istore 9, 2) := by decide +kernel
theorem dX8_best_122 : decode cX8_best 122 = .ok (.aload 4, 2) := by decide +kernel
theorem dX8_best_124 : decode cX8_best 124 = .ok (.iload 7, 2) := by decide +kernel
theorem dX8_best_126 : decode cX8_best 126 = .ok (.dup2, 1) := by decide +kernel
theorem dX8_best_127 : decode cX8_best 127 = .ok (.iaload, 1) := by decide +kernel
theorem dX8_best_128 : decode cX8_best 128 = .ok (.iconst 1, 1) := by decide +kernel
theorem dX8_best_129 : decode cX8_best 129 = .ok (.isub, 1) := by decide +kernel
theorem dX8_best_130 : decode cX8_best 130 = .ok (.iastore, 1) := by decide +kernel
theorem dX8_best_131 : decode cX8_best 131 = .ok (.iload 9, 2) := by decide +kernel
theorem dX8_best_133 : decode cX8_best 133 = .ok (.iload 5, 2) := by decide +kernel
theorem dX8_best_135 : decode cX8_best 135 = .ok (.if_icmp .le 19, 3) := by decide +kernel
theorem dX8_best_138 : decode cX8_best 138 = .ok (.iload 9, 2) := by decide +kernel
theorem dX8_best_140 : decode cX8_best 140 = .ok (.istore 5, 2) := by decide +kernel
theorem dX8_best_142 : decode cX8_best 142 = .ok (.bipush 100, 2) := by decide +kernel
theorem dX8_best_144 : decode cX8_best 144 = .ok (.iload 7, 2) := by decide +kernel
theorem dX8_best_146 : decode cX8_best 146 = .ok (.iconst 2, 1) := by decide +kernel
theorem dX8_best_147 : decode cX8_best 147 = .ok (.idiv, 1) := by decide +kernel
theorem dX8_best_148 : decode cX8_best 148 = .ok (.imul, 1) := by decide +kernel
theorem dX8_best_149 : decode cX8_best 149 = .ok (.iload 8, 2) := by decide +kernel
theorem dX8_best_151 : decode cX8_best 151 = .ok (.iadd, 1) := by decide +kernel
theorem dX8_best_152 : decode cX8_best 152 = .ok (.istore 6, 2) := by decide +kernel
theorem dX8_best_154 : decode cX8_best 154 = .ok (.iinc 7 1, 3) := by decide +kernel
theorem dX8_best_157 : decode cX8_best 157 = .ok (.goto (-100), 3) := by decide +kernel
theorem dX8_best_160 : decode cX8_best 160 = .ok (.aload_n 0, 1) := by decide +kernel
theorem dX8_best_161 : decode cX8_best 161 = .ok (.invokevirtual 84, 3) := by decide +kernel
theorem dX8_best_164 : decode cX8_best 164 = .ok (.iload 6, 2) := by decide +kernel
theorem dX8_best_166 : decode cX8_best 166 = .ok (.bipush (-9), 2) := by decide +kernel
theorem dX8_best_168 : decode cX8_best 168 = .ok (.if_icmp .eq 7, 3) := by decide +kernel
theorem dX8_best_171 : decode cX8_best 171 = .ok (.iload_n 3, 1) := by decide +kernel
theorem dX8_best_172 : decode cX8_best 172 = .ok (.ifCond .ne 8, 3) := by decide +kernel
theorem dX8_best_175 : decode cX8_best 175 = .ok (.iload 6, 2) := by decide +kernel
theorem dX8_best_177 : decode cX8_best 177 = .ok (.goto 5, 3) := by decide +kernel
theorem dX8_best_180 : decode cX8_best 180 = .ok (.iload 5, 2) := by decide +kernel
theorem dX8_best_182 : decode cX8_best 182 = .ok (.ireturn, 1) := by decide +kernel
set_option maxRecDepth 20000 in
theorem ggX8_saw_X8_within : GoodIn wsX8_saw wsX8_within := goodIn_r _ [5] (by decide +kernel) (by decide +kernel)
set_option maxRecDepth 20000 in
theorem gX8_saw_X8_within : GoodIn wsX8_saw (va_wsS RX8 54 yX8_within wsX8_within) := goodIn_app (goodIn_of _ (by decide +kernel)) ggX8_saw_X8_within
set_option maxRecDepth 20000 in
theorem ggX8_saw_X8_isHour : GoodIn wsX8_saw wsX8_isHour := goodIn_r _ [8] (by decide +kernel) (by decide +kernel)
set_option maxRecDepth 20000 in
theorem gX8_saw_X8_isHour : GoodIn wsX8_saw (va_wsS RX8 142 yX8_isHour wsX8_isHour) := goodIn_app (goodIn_of _ (by decide +kernel)) ggX8_saw_X8_isHour
set_option maxRecDepth 20000 in
theorem ggX8_saw_X8_isBit : GoodIn wsX8_saw wsX8_isBit := goodIn_r _ [11] (by decide +kernel) (by decide +kernel)
set_option maxRecDepth 20000 in
theorem gX8_saw_X8_isBit : GoodIn wsX8_saw (va_wsS RX8 91 yX8_isBit wsX8_isBit) := goodIn_app (goodIn_of _ (by decide +kernel)) ggX8_saw_X8_isBit
set_option maxRecDepth 20000 in
theorem ggX8_saw_X8_owedFrom : GoodIn wsX8_saw wsX8_owedFrom := goodIn_r _ [15, 16, 1, 17, 18, 19, 20, 21, 22, 23, 24, 25, 26, 27, 28, 29, 30, 31, 32, 33, 34, 35, 36, 37, 38, 39, 40, 41, 42, 43, 44, 45, 46, 47, 48, 49, 50, 51, 52, 53, 54, 55, 56, 57, 58, 59, 60, 61, 69, 70, 71, 72, 73, 74, 75, 76, 77, 78, 79, 80, 81, 82, 83, 84, 85, 86, 87, 88, 89, 90, 91, 92, 93] (by decide +kernel) (by decide +kernel)
set_option maxRecDepth 20000 in
theorem gX8_saw_X8_owedFrom : GoodIn wsX8_saw (wsV RX8 172 RX8 yX8_owedFrom wsX8_owedFrom) := goodIn_app (goodIn_of _ (by decide +kernel)) ggX8_saw_X8_owedFrom
set_option maxRecDepth 20000 in
theorem ggX8_saw_X2_yards : GoodIn wsX8_saw wsX2_yards := goodIn_r _ [66, 67, 68, 77, 78, 79, 80, 81, 82, 83, 84, 85, 86] (by decide +kernel) (by decide +kernel)
set_option maxRecDepth 20000 in
theorem gX8_saw_X2_yards : GoodIn wsX8_saw (wsV RX8 176 RX2 yX2_yards wsX2_yards) := goodIn_app (goodIn_of _ (by decide +kernel)) ggX8_saw_X2_yards
theorem dX8_saw_0 : decode cX8_saw 0 = .ok (.iload_n 1, 1) := by decide +kernel
theorem dX8_saw_1 : decode cX8_saw 1 = .ok (.iconst 1, 1) := by decide +kernel
theorem dX8_saw_2 : decode cX8_saw 2 = .ok (.bipush 99, 2) := by decide +kernel
theorem dX8_saw_4 : decode cX8_saw 4 = .ok (.invokestatic 54, 3) := by decide +kernel
theorem dX8_saw_7 : decode cX8_saw 7 = .ok (.ifCond .eq 17, 3) := by decide +kernel
theorem dX8_saw_10 : decode cX8_saw 10 = .ok (.iload_n 2, 1) := by decide +kernel
theorem dX8_saw_11 : decode cX8_saw 11 = .ok (.invokestatic 142, 3) := by decide +kernel
theorem dX8_saw_14 : decode cX8_saw 14 = .ok (.ifCond .eq 10, 3) := by decide +kernel
theorem dX8_saw_17 : decode cX8_saw 17 = .ok (.iload_n 3, 1) := by decide +kernel
theorem dX8_saw_18 : decode cX8_saw 18 = .ok (.invokestatic 91, 3) := by decide +kernel
theorem dX8_saw_21 : decode cX8_saw 21 = .ok (.ifCond .ne 5, 3) := by decide +kernel
theorem dX8_saw_24 : decode cX8_saw 24 = .ok (.iconst (-1), 1) := by decide +kernel
theorem dX8_saw_25 : decode cX8_saw 25 = .ok (.ireturn, 1) := by decide +kernel
theorem dX8_saw_26 : decode cX8_saw 26 = .ok (.aload_n 0, 1) := by decide +kernel
theorem dX8_saw_27 : decode cX8_saw 27 = .ok (.iconst 0, 1) := by decide +kernel
theorem dX8_saw_28 : decode cX8_saw 28 = .ok (.iload_n 1, 1) := by decide +kernel
theorem dX8_saw_29 : decode cX8_saw 29 = .ok (.iload_n 2, 1) := by decide +kernel
theorem dX8_saw_30 : decode cX8_saw 30 = .ok (.invokevirtual 172, 3) := by decide +kernel
theorem dX8_saw_33 : decode cX8_saw 33 = .ok (.istore 4, 2) := by decide +kernel
theorem dX8_saw_35 : decode cX8_saw 35 = .ok (.iconst 0, 1) := by decide +kernel
theorem dX8_saw_36 : decode cX8_saw 36 = .ok (.istore 5, 2) := by decide +kernel
theorem dX8_saw_38 : decode cX8_saw 38 = .ok (.iconst 1, 1) := by decide +kernel
theorem dX8_saw_39 : decode cX8_saw 39 = .ok (.istore 6, 2) := by decide +kernel
theorem dX8_saw_41 : decode cX8_saw 41 = .ok (.iload 6, 2) := by decide +kernel
theorem dX8_saw_43 : decode cX8_saw 43 = .ok (.aload_n 0, 1) := by decide +kernel
theorem dX8_saw_44 : decode cX8_saw 44 = .ok (.getfield 46, 3) := by decide +kernel
theorem dX8_saw_47 : decode cX8_saw 47 = .ok (.invokevirtual 176, 3) := by decide +kernel
theorem dX8_saw_50 : decode cX8_saw 50 = .ok (.if_icmp .ge 34, 3) := by decide +kernel
theorem dX8_saw_53 : decode cX8_saw 53 = .ok (.aload_n 0, 1) := by decide +kernel
theorem dX8_saw_54 : decode cX8_saw 54 = .ok (.iload 6, 2) := by decide +kernel
theorem dX8_saw_56 : decode cX8_saw 56 = .ok (.iload_n 1, 1) := by decide +kernel
theorem dX8_saw_57 : decode cX8_saw 57 = .ok (.iload_n 2, 1) := by decide +kernel
theorem dX8_saw_58 : decode cX8_saw 58 = .ok (.invokevirtual 172, 3) := by decide +kernel
theorem dX8_saw_61 : decode cX8_saw 61 = .ok (.istore 7, 2) := by decide +kernel
theorem dX8_saw_63 : decode cX8_saw 63 = .ok (.iload 7, 2) := by decide +kernel
theorem dX8_saw_65 : decode cX8_saw 65 = .ok (.iload 4, 2) := by decide +kernel
theorem dX8_saw_67 : decode cX8_saw 67 = .ok (.if_icmp .ge 11, 3) := by decide +kernel
theorem dX8_saw_70 : decode cX8_saw 70 = .ok (.iload 7, 2) := by decide +kernel
theorem dX8_saw_72 : decode cX8_saw 72 = .ok (.istore 4, 2) := by decide +kernel
theorem dX8_saw_74 : decode cX8_saw 74 = .ok (.iload 6, 2) := by decide +kernel
theorem dX8_saw_76 : decode cX8_saw 76 = .ok (.istore 5, 2) := by decide +kernel
theorem dX8_saw_78 : decode cX8_saw 78 = .ok (.iinc 6 1, 3) := by decide +kernel
theorem dX8_saw_81 : decode cX8_saw 81 = .ok (.goto (-40), 3) := by decide +kernel
theorem dX8_saw_84 : decode cX8_saw 84 = .ok (.iload_n 3, 1) := by decide +kernel
theorem dX8_saw_85 : decode cX8_saw 85 = .ok (.ifCond .ne 8, 3) := by decide +kernel
theorem dX8_saw_88 : decode cX8_saw 88 = .ok (.iload 5, 2) := by decide +kernel
theorem dX8_saw_90 : decode cX8_saw 90 = .ok (.goto 5, 3) := by decide +kernel
theorem dX8_saw_93 : decode cX8_saw 93 = .ok (.iload 4, 2) := by decide +kernel
theorem dX8_saw_95 : decode cX8_saw 95 = .ok (.ireturn, 1) := by decide +kernel
set_option maxRecDepth 20000 in
theorem ggX8_hear_X2_isYard : GoodIn wsX8_hear wsX2_isYard := goodIn_r _ [7, 8, 9, 30, 31, 32, 33, 34, 35, 36, 37, 38, 39] (by decide +kernel) (by decide +kernel)
set_option maxRecDepth 20000 in
theorem gX8_hear_X2_isYard : GoodIn wsX8_hear (wsV RX8 132 RX2 yX2_isYard wsX2_isYard) := goodIn_app (goodIn_of _ (by decide +kernel)) ggX8_hear_X2_isYard
set_option maxRecDepth 20000 in
theorem ggX8_hear_X8_within : GoodIn wsX8_hear wsX8_within := goodIn_r _ [13] (by decide +kernel) (by decide +kernel)
set_option maxRecDepth 20000 in
theorem gX8_hear_X8_within : GoodIn wsX8_hear (va_wsS RX8 54 yX8_within wsX8_within) := goodIn_app (goodIn_of _ (by decide +kernel)) ggX8_hear_X8_within
set_option maxRecDepth 20000 in
theorem ggX8_hear_X1_add : GoodIn wsX8_hear wsX1_add := goodIn_r _ [18, 19, 20, 21, 40, 41, 42] (by decide +kernel) (by decide +kernel)
set_option maxRecDepth 20000 in
theorem gX8_hear_X1_add : GoodIn wsX8_hear (wsV RX8 179 RX1 yX1_add wsX1_add) := goodIn_app (goodIn_of _ (by decide +kernel)) ggX8_hear_X1_add
theorem dX8_hear_0 : decode cX8_hear 0 = .ok (.aload_n 0, 1) := by decide +kernel
theorem dX8_hear_1 : decode cX8_hear 1 = .ok (.getfield 46, 3) := by decide +kernel
theorem dX8_hear_4 : decode cX8_hear 4 = .ok (.iload_n 1, 1) := by decide +kernel
theorem dX8_hear_5 : decode cX8_hear 5 = .ok (.invokevirtual 132, 3) := by decide +kernel
theorem dX8_hear_8 : decode cX8_hear 8 = .ok (.ifCond .eq 14, 3) := by decide +kernel
theorem dX8_hear_11 : decode cX8_hear 11 = .ok (.iload_n 2, 1) := by decide +kernel
theorem dX8_hear_12 : decode cX8_hear 12 = .ok (.iconst 0, 1) := by decide +kernel
theorem dX8_hear_13 : decode cX8_hear 13 = .ok (.sipush 999, 3) := by decide +kernel
theorem dX8_hear_16 : decode cX8_hear 16 = .ok (.invokestatic 54, 3) := by decide +kernel
theorem dX8_hear_19 : decode cX8_hear 19 = .ok (.ifCond .ne 5, 3) := by decide +kernel
theorem dX8_hear_22 : decode cX8_hear 22 = .ok (.iconst (-1), 1) := by decide +kernel
theorem dX8_hear_23 : decode cX8_hear 23 = .ok (.ireturn, 1) := by decide +kernel
theorem dX8_hear_24 : decode cX8_hear 24 = .ok (.aload_n 0, 1) := by decide +kernel
theorem dX8_hear_25 : decode cX8_hear 25 = .ok (.getfield 33, 3) := by decide +kernel
theorem dX8_hear_28 : decode cX8_hear 28 = .ok (.iload_n 1, 1) := by decide +kernel
theorem dX8_hear_29 : decode cX8_hear 29 = .ok (.iload_n 2, 1) := by decide +kernel
theorem dX8_hear_30 : decode cX8_hear 30 = .ok (.invokevirtual 179, 3) := by decide +kernel
theorem dX8_hear_33 : decode cX8_hear 33 = .ok (.ireturn, 1) := by decide +kernel
set_option maxRecDepth 20000 in
theorem ggX8_forget_X1_empty : GoodIn wsX8_forget wsX1_empty := goodIn_r _ [6, 7, 16, 17, 18] (by decide +kernel) (by decide +kernel)
set_option maxRecDepth 20000 in
theorem gX8_forget_X1_empty : GoodIn wsX8_forget (wsV RX8 79 RX1 yX1_empty wsX1_empty) := goodIn_app (goodIn_of _ (by decide +kernel)) ggX8_forget_X1_empty
theorem dX8_forget_0 : decode cX8_forget 0 = .ok (.aload_n 0, 1) := by decide +kernel
theorem dX8_forget_1 : decode cX8_forget 1 = .ok (.getfield 33, 3) := by decide +kernel
theorem dX8_forget_4 : decode cX8_forget 4 = .ok (.invokevirtual 79, 3) := by decide +kernel
theorem dX8_forget_7 : decode cX8_forget 7 = .ok (.ireturn, 1) := by decide +kernel
set_option maxRecDepth 20000 in
theorem ggX8_who_X8_within : GoodIn wsX8_who wsX8_within := goodIn_r _ [5] (by decide +kernel) (by decide +kernel)
set_option maxRecDepth 20000 in
theorem gX8_who_X8_within : GoodIn wsX8_who (va_wsS RX8 54 yX8_within wsX8_within) := goodIn_app (goodIn_of _ (by decide +kernel)) ggX8_who_X8_within
set_option maxRecDepth 20000 in
theorem ggX8_who_X2_allWorkers : GoodIn wsX8_who wsX2_allWorkers := goodIn_r _ [10, 11, 36, 37, 38, 39, 40, 41, 42, 43, 44, 45] (by decide +kernel) (by decide +kernel)
set_option maxRecDepth 20000 in
theorem gX8_who_X2_allWorkers : GoodIn wsX8_who (wsV RX8 149 RX2 yX2_allWorkers wsX2_allWorkers) := goodIn_app (goodIn_of _ (by decide +kernel)) ggX8_who_X2_allWorkers
set_option maxRecDepth 20000 in
theorem ggX8_who_X8_fitsHearsay : GoodIn wsX8_who wsX8_fitsHearsay := goodIn_r _ [15, 16, 17, 18, 1, 19, 20, 21, 22, 23, 24, 25, 26, 27, 28, 29, 30, 31, 32, 33, 34, 35, 46, 47, 48, 36, 37, 38, 39, 40, 41, 42, 43, 44, 45, 49, 50, 51] (by decide +kernel) (by decide +kernel)
set_option maxRecDepth 20000 in
theorem gX8_who_X8_fitsHearsay : GoodIn wsX8_who (wsV RX8 182 RX8 yX8_fitsHearsay wsX8_fitsHearsay) := goodIn_app (goodIn_of _ (by decide +kernel)) ggX8_who_X8_fitsHearsay
theorem dX8_who_0 : decode cX8_who 0 = .ok (.iload_n 1, 1) := by decide +kernel
theorem dX8_who_1 : decode cX8_who 1 = .ok (.iconst 0, 1) := by decide +kernel
theorem dX8_who_2 : decode cX8_who 2 = .ok (.iconst 2, 1) := by decide +kernel
theorem dX8_who_3 : decode cX8_who 3 = .ok (.invokestatic 54, 3) := by decide +kernel
theorem dX8_who_6 : decode cX8_who 6 = .ok (.ifCond .ne 5, 3) := by decide +kernel
theorem dX8_who_9 : decode cX8_who 9 = .ok (.iconst (-1), 1) := by decide +kernel
theorem dX8_who_10 : decode cX8_who 10 = .ok (.ireturn, 1) := by decide +kernel
theorem dX8_who_11 : decode cX8_who 11 = .ok (.iconst 0, 1) := by decide +kernel
theorem dX8_who_12 : decode cX8_who 12 = .ok (.istore_n 2, 1) := by decide +kernel
theorem dX8_who_13 : decode cX8_who 13 = .ok (.aload_n 0, 1) := by decide +kernel
theorem dX8_who_14 : decode cX8_who 14 = .ok (.getfield 46, 3) := by decide +kernel
theorem dX8_who_17 : decode cX8_who 17 = .ok (.invokevirtual 149, 3) := by decide +kernel
theorem dX8_who_20 : decode cX8_who 20 = .ok (.istore_n 3, 1) := by decide +kernel
theorem dX8_who_21 : decode cX8_who 21 = .ok (.iconst 0, 1) := by decide +kernel
theorem dX8_who_22 : decode cX8_who 22 = .ok (.istore 4, 2) := by decide +kernel
theorem dX8_who_24 : decode cX8_who 24 = .ok (.iconst 0, 1) := by decide +kernel
theorem dX8_who_25 : decode cX8_who 25 = .ok (.istore 5, 2) := by decide +kernel
theorem dX8_who_27 : decode cX8_who 27 = .ok (.iload 5, 2) := by decide +kernel
theorem dX8_who_29 : decode cX8_who 29 = .ok (.aload_n 0, 1) := by decide +kernel
theorem dX8_who_30 : decode cX8_who 30 = .ok (.getfield 46, 3) := by decide +kernel
theorem dX8_who_33 : decode cX8_who 33 = .ok (.invokevirtual 149, 3) := by decide +kernel
theorem dX8_who_36 : decode cX8_who 36 = .ok (.if_icmp .gt 36, 3) := by decide +kernel
theorem dX8_who_39 : decode cX8_who 39 = .ok (.aload_n 0, 1) := by decide +kernel
theorem dX8_who_40 : decode cX8_who 40 = .ok (.iload 5, 2) := by decide +kernel
theorem dX8_who_42 : decode cX8_who 42 = .ok (.invokevirtual 182, 3) := by decide +kernel
theorem dX8_who_45 : decode cX8_who 45 = .ok (.ifCond .ne 6, 3) := by decide +kernel
theorem dX8_who_48 : decode cX8_who 48 = .ok (.goto 18, 3) := by decide +kernel
theorem dX8_who_51 : decode cX8_who 51 = .ok (.iinc 2 1, 3) := by decide +kernel
theorem dX8_who_54 : decode cX8_who 54 = .ok (.iload_n 3, 1) := by decide +kernel
theorem dX8_who_55 : decode cX8_who 55 = .ok (.iload 5, 2) := by decide +kernel
theorem dX8_who_57 : decode cX8_who 57 = .ok (.iand, 1) := by decide +kernel
theorem dX8_who_58 : decode cX8_who 58 = .ok (.istore_n 3, 1) := by decide +kernel
theorem dX8_who_59 : decode cX8_who 59 = .ok (.iload 4, 2) := by decide +kernel
theorem dX8_who_61 : decode cX8_who 61 = .ok (.iload 5, 2) := by decide +kernel
theorem dX8_who_63 : decode cX8_who 63 = .ok (.ior, 1) := by decide +kernel
theorem dX8_who_64 : decode cX8_who 64 = .ok (.istore 4, 2) := by decide +kernel
theorem dX8_who_66 : decode cX8_who 66 = .ok (.iinc 5 1, 3) := by decide +kernel
theorem dX8_who_69 : decode cX8_who 69 = .ok (.goto (-42), 3) := by decide +kernel
theorem dX8_who_72 : decode cX8_who 72 = .ok (.iload_n 1, 1) := by decide +kernel
theorem dX8_who_73 : decode cX8_who 73 = .ok (.ifCond .ne 5, 3) := by decide +kernel
theorem dX8_who_76 : decode cX8_who 76 = .ok (.iload_n 2, 1) := by decide +kernel
theorem dX8_who_77 : decode cX8_who 77 = .ok (.ireturn, 1) := by decide +kernel
theorem dX8_who_78 : decode cX8_who 78 = .ok (.iload_n 1, 1) := by decide +kernel
theorem dX8_who_79 : decode cX8_who 79 = .ok (.iconst 2, 1) := by decide +kernel
theorem dX8_who_80 : decode cX8_who 80 = .ok (.if_icmp .ne 6, 3) := by decide +kernel
theorem dX8_who_83 : decode cX8_who 83 = .ok (.iload 4, 2) := by decide +kernel
theorem dX8_who_85 : decode cX8_who 85 = .ok (.ireturn, 1) := by decide +kernel
theorem dX8_who_86 : decode cX8_who 86 = .ok (.iload_n 2, 1) := by decide +kernel
theorem dX8_who_87 : decode cX8_who 87 = .ok (.ifCond .ne 8, 3) := by decide +kernel
theorem dX8_who_90 : decode cX8_who 90 = .ok (.bipush (-9), 2) := by decide +kernel
theorem dX8_who_92 : decode cX8_who 92 = .ok (.goto 4, 3) := by decide +kernel
theorem dX8_who_95 : decode cX8_who 95 = .ok (.iload_n 3, 1) := by decide +kernel
theorem dX8_who_96 : decode cX8_who 96 = .ok (.ireturn, 1) := by decide +kernel
set_option maxRecDepth 20000 in
theorem ggX8_price_X8_isHour : GoodIn wsX8_price wsX8_isHour := goodIn_r _ [5] (by decide +kernel) (by decide +kernel)
set_option maxRecDepth 20000 in
theorem gX8_price_X8_isHour : GoodIn wsX8_price (va_wsS RX8 142 yX8_isHour wsX8_isHour) := goodIn_app (goodIn_of _ (by decide +kernel)) ggX8_price_X8_isHour
set_option maxRecDepth 20000 in
theorem ggX8_price_X8_isBit : GoodIn wsX8_price wsX8_isBit := goodIn_r _ [8] (by decide +kernel) (by decide +kernel)
set_option maxRecDepth 20000 in
theorem gX8_price_X8_isBit : GoodIn wsX8_price (va_wsS RX8 91 yX8_isBit wsX8_isBit) := goodIn_app (goodIn_of _ (by decide +kernel)) ggX8_price_X8_isBit
set_option maxRecDepth 20000 in
theorem ggX8_price_X2_sellers : GoodIn wsX8_price wsX2_sellers := goodIn_r _ [13, 14, 15, 16, 31, 32, 33, 34, 35, 36, 37, 38, 39, 40] (by decide +kernel) (by decide +kernel)
set_option maxRecDepth 20000 in
theorem gX8_price_X2_sellers : GoodIn wsX8_price (wsV RX8 185 RX2 yX2_sellers wsX2_sellers) := goodIn_app (goodIn_of _ (by decide +kernel)) ggX8_price_X2_sellers
set_option maxRecDepth 20000 in
theorem ggX8_price_X2_buyers : GoodIn wsX8_price wsX2_buyers := goodIn_r _ [20, 21, 22, 31, 32, 33, 34, 35, 36, 37, 38, 39, 40] (by decide +kernel) (by decide +kernel)
set_option maxRecDepth 20000 in
theorem gX8_price_X2_buyers : GoodIn wsX8_price (wsV RX8 188 RX2 yX2_buyers wsX2_buyers) := goodIn_app (goodIn_of _ (by decide +kernel)) ggX8_price_X2_buyers
theorem dX8_price_0 : decode cX8_price 0 = .ok (.iload_n 1, 1) := by decide +kernel
theorem dX8_price_1 : decode cX8_price 1 = .ok (.invokestatic 142, 3) := by decide +kernel
theorem dX8_price_4 : decode cX8_price 4 = .ok (.ifCond .eq 10, 3) := by decide +kernel
theorem dX8_price_7 : decode cX8_price 7 = .ok (.iload_n 2, 1) := by decide +kernel
theorem dX8_price_8 : decode cX8_price 8 = .ok (.invokestatic 91, 3) := by decide +kernel
theorem dX8_price_11 : decode cX8_price 11 = .ok (.ifCond .ne 5, 3) := by decide +kernel
theorem dX8_price_14 : decode cX8_price 14 = .ok (.iconst (-1), 1) := by decide +kernel
theorem dX8_price_15 : decode cX8_price 15 = .ok (.ireturn, 1) := by decide +kernel
theorem dX8_price_16 : decode cX8_price 16 = .ok (.bipush (-9), 2) := by decide +kernel
theorem dX8_price_18 : decode cX8_price 18 = .ok (.istore_n 3, 1) := by decide +kernel
theorem dX8_price_19 : decode cX8_price 19 = .ok (.iconst 0, 1) := by decide +kernel
theorem dX8_price_20 : decode cX8_price 20 = .ok (.istore 4, 2) := by decide +kernel
theorem dX8_price_22 : decode cX8_price 22 = .ok (.iload 4, 2) := by decide +kernel
theorem dX8_price_24 : decode cX8_price 24 = .ok (.bipush 99, 2) := by decide +kernel
theorem dX8_price_26 : decode cX8_price 26 = .ok (.if_icmp .gt 44, 3) := by decide +kernel
theorem dX8_price_29 : decode cX8_price 29 = .ok (.aload_n 0, 1) := by decide +kernel
theorem dX8_price_30 : decode cX8_price 30 = .ok (.getfield 46, 3) := by decide +kernel
theorem dX8_price_33 : decode cX8_price 33 = .ok (.iload_n 1, 1) := by decide +kernel
theorem dX8_price_34 : decode cX8_price 34 = .ok (.iload 4, 2) := by decide +kernel
theorem dX8_price_36 : decode cX8_price 36 = .ok (.invokevirtual 185, 3) := by decide +kernel
theorem dX8_price_39 : decode cX8_price 39 = .ok (.aload_n 0, 1) := by decide +kernel
theorem dX8_price_40 : decode cX8_price 40 = .ok (.getfield 46, 3) := by decide +kernel
theorem dX8_price_43 : decode cX8_price 43 = .ok (.iload 4, 2) := by decide +kernel
theorem dX8_price_45 : decode cX8_price 45 = .ok (.invokevirtual 188, 3) := by decide +kernel
theorem dX8_price_48 : decode cX8_price 48 = .ok (.if_icmp .eq 6, 3) := by decide +kernel
theorem dX8_price_51 : decode cX8_price 51 = .ok (.goto 13, 3) := by decide +kernel
theorem dX8_price_54 : decode cX8_price 54 = .ok (.iload_n 2, 1) := by decide +kernel
theorem dX8_price_55 : decode cX8_price 55 = .ok (.ifCond .ne 6, 3) := by decide +kernel
theorem dX8_price_58 : decode cX8_price 58 = .ok (.iload 4, 2) := by decide +kernel
theorem dX8_price_60 : decode cX8_price 60 = .ok (.ireturn, 1) := by decide +kernel
theorem dX8_price_61 : decode cX8_price 61 = .ok (.iload 4, 2) := by decide +kernel
theorem dX8_price_63 : decode cX8_price 63 = .ok (.istore_n 3, 1) := by decide +kernel
theorem dX8_price_64 : decode cX8_price 64 = .ok (.iinc 4 1, 3) := by decide +kernel
theorem dX8_price_67 : decode cX8_price 67 = .ok (.goto (-45), 3) := by decide +kernel
theorem dX8_price_70 : decode cX8_price 70 = .ok (.iload_n 3, 1) := by decide +kernel
theorem dX8_price_71 : decode cX8_price 71 = .ok (.ireturn, 1) := by decide +kernel
set_option maxRecDepth 20000 in
theorem ggX8_rate_X2_isWorker : GoodIn wsX8_rate wsX2_isWorker := goodIn_r _ [7, 8, 51, 52, 53, 54, 55, 56, 57, 58, 59, 60] (by decide +kernel) (by decide +kernel)
set_option maxRecDepth 20000 in
theorem gX8_rate_X2_isWorker : GoodIn wsX8_rate (wsV RX8 119 RX2 yX2_isWorker wsX2_isWorker) := goodIn_app (goodIn_of _ (by decide +kernel)) ggX8_rate_X2_isWorker
set_option maxRecDepth 20000 in
theorem ggX8_rate_X8_asNoise : GoodIn wsX8_rate wsX8_asNoise := goodIn_r _ [13, 14, 1, 15, 43, 44, 45, 46, 47, 48, 49, 50, 51, 52, 53, 54, 55, 56, 57, 58, 59, 60] (by decide +kernel) (by decide +kernel)
set_option maxRecDepth 20000 in
theorem gX8_rate_X8_asNoise : GoodIn wsX8_rate (wsV RX8 192 RX8 yX8_asNoise wsX8_asNoise) := goodIn_app (goodIn_of _ (by decide +kernel)) ggX8_rate_X8_asNoise
set_option maxRecDepth 20000 in
theorem ggX8_rate_X8_asStruck : GoodIn wsX8_rate wsX8_asStruck := goodIn_r _ [19, 14, 20, 1, 15, 9, 10, 11, 12, 13, 43, 44, 45, 46, 47, 48, 49, 50, 51, 52, 53, 54, 55, 56, 57, 58, 59, 60] (by decide +kernel) (by decide +kernel)
set_option maxRecDepth 20000 in
theorem gX8_rate_X8_asStruck : GoodIn wsX8_rate (wsV RX8 195 RX8 yX8_asStruck wsX8_asStruck) := goodIn_app (goodIn_of _ (by decide +kernel)) ggX8_rate_X8_asStruck
set_option maxRecDepth 20000 in
theorem ggX8_rate_X8_asHeld : GoodIn wsX8_rate wsX8_asHeld := goodIn_r _ [24, 14, 25, 1, 15, 9, 10, 11, 12, 13, 43, 44, 45, 46, 47, 48, 49, 50, 51, 52, 53, 54, 55, 56, 57, 58, 59, 60] (by decide +kernel) (by decide +kernel)
set_option maxRecDepth 20000 in
theorem gX8_rate_X8_asHeld : GoodIn wsX8_rate (wsV RX8 198 RX8 yX8_asHeld wsX8_asHeld) := goodIn_app (goodIn_of _ (by decide +kernel)) ggX8_rate_X8_asHeld
set_option maxRecDepth 20000 in
theorem ggX8_rate_X8_asBlown : GoodIn wsX8_rate wsX8_asBlown := goodIn_r _ [29, 14, 30, 21, 22, 23, 12, 24, 25, 1, 15, 9, 10, 11, 13, 43, 44, 45, 46, 47, 48, 49, 50, 51, 52, 53, 54, 55, 56, 57, 58, 59, 60] (by decide +kernel) (by decide +kernel)
set_option maxRecDepth 20000 in
theorem gX8_rate_X8_asBlown : GoodIn wsX8_rate (wsV RX8 201 RX8 yX8_asBlown wsX8_asBlown) := goodIn_app (goodIn_of _ (by decide +kernel)) ggX8_rate_X8_asBlown
set_option maxRecDepth 20000 in
theorem ggX8_rate_X8_asDrummed : GoodIn wsX8_rate wsX8_asDrummed := goodIn_r _ [34, 14, 35, 36, 37, 16, 17, 18, 12, 19, 20, 1, 15, 9, 10, 11, 13, 43, 44, 45, 46, 47, 48, 49, 50, 61, 62, 63, 51, 52, 53, 54, 55, 56, 57, 58, 59, 60] (by decide +kernel) (by decide +kernel)
set_option maxRecDepth 20000 in
theorem gX8_rate_X8_asDrummed : GoodIn wsX8_rate (wsV RX8 204 RX8 yX8_asDrummed wsX8_asDrummed) := goodIn_app (goodIn_of _ (by decide +kernel)) ggX8_rate_X8_asDrummed
set_option maxRecDepth 20000 in
theorem ggX8_rate_X8_asMany : GoodIn wsX8_rate wsX8_asMany := goodIn_r _ [41, 14, 42, 1, 15, 9, 10, 11, 12, 13, 43, 44, 45, 46, 47, 48, 49, 50, 51, 52, 53, 54, 55, 56, 57, 58, 59, 60] (by decide +kernel) (by decide +kernel)
set_option maxRecDepth 20000 in
theorem gX8_rate_X8_asMany : GoodIn wsX8_rate (wsV RX8 207 RX8 yX8_asMany wsX8_asMany) := goodIn_app (goodIn_of _ (by decide +kernel)) ggX8_rate_X8_asMany
theorem dX8_rate_0 : decode cX8_rate 0 = .ok (.aload_n 0, 1) := by decide +kernel
theorem dX8_rate_1 : decode cX8_rate 1 = .ok (.getfield 46, 3) := by decide +kernel
theorem dX8_rate_4 : decode cX8_rate 4 = .ok (.iload_n 2, 1) := by decide +kernel
theorem dX8_rate_5 : decode cX8_rate 5 = .ok (.invokevirtual 119, 3) := by decide +kernel
theorem dX8_rate_8 : decode cX8_rate 8 = .ok (.ifCond .ne 6, 3) := by decide +kernel
theorem dX8_rate_11 : decode cX8_rate 11 = .ok (.ldc 191, 2) := by decide +kernel
theorem dX8_rate_13 : decode cX8_rate 13 = .ok (.ireturn, 1) := by decide +kernel
theorem dX8_rate_14 : decode cX8_rate 14 = .ok (.iload_n 1, 1) := by decide +kernel
theorem dX8_rate_15 : decode cX8_rate 15 = .ok (.tableswitch 73 0 5 #[37, 43, 49, 55, 61, 67], 37) := by decide +kernel
theorem dX8_rate_52 : decode cX8_rate 52 = .ok (.aload_n 0, 1) := by decide +kernel
theorem dX8_rate_53 : decode cX8_rate 53 = .ok (.iload_n 2, 1) := by decide +kernel
theorem dX8_rate_54 : decode cX8_rate 54 = .ok (.invokevirtual 192, 3) := by decide +kernel
theorem dX8_rate_57 : decode cX8_rate 57 = .ok (.ireturn, 1) := by decide +kernel
theorem dX8_rate_58 : decode cX8_rate 58 = .ok (.aload_n 0, 1) := by decide +kernel
theorem dX8_rate_59 : decode cX8_rate 59 = .ok (.iload_n 2, 1) := by decide +kernel
theorem dX8_rate_60 : decode cX8_rate 60 = .ok (.invokevirtual 195, 3) := by decide +kernel
theorem dX8_rate_63 : decode cX8_rate 63 = .ok (.ireturn, 1) := by decide +kernel
theorem dX8_rate_64 : decode cX8_rate 64 = .ok (.aload_n 0, 1) := by decide +kernel
theorem dX8_rate_65 : decode cX8_rate 65 = .ok (.iload_n 2, 1) := by decide +kernel
theorem dX8_rate_66 : decode cX8_rate 66 = .ok (.invokevirtual 198, 3) := by decide +kernel
theorem dX8_rate_69 : decode cX8_rate 69 = .ok (.ireturn, 1) := by decide +kernel
theorem dX8_rate_70 : decode cX8_rate 70 = .ok (.aload_n 0, 1) := by decide +kernel
theorem dX8_rate_71 : decode cX8_rate 71 = .ok (.iload_n 2, 1) := by decide +kernel
theorem dX8_rate_72 : decode cX8_rate 72 = .ok (.invokevirtual 201, 3) := by decide +kernel
theorem dX8_rate_75 : decode cX8_rate 75 = .ok (.ireturn, 1) := by decide +kernel
theorem dX8_rate_76 : decode cX8_rate 76 = .ok (.aload_n 0, 1) := by decide +kernel
theorem dX8_rate_77 : decode cX8_rate 77 = .ok (.iload_n 2, 1) := by decide +kernel
theorem dX8_rate_78 : decode cX8_rate 78 = .ok (.invokevirtual 204, 3) := by decide +kernel
theorem dX8_rate_81 : decode cX8_rate 81 = .ok (.ireturn, 1) := by decide +kernel
theorem dX8_rate_82 : decode cX8_rate 82 = .ok (.aload_n 0, 1) := by decide +kernel
theorem dX8_rate_83 : decode cX8_rate 83 = .ok (.iload_n 2, 1) := by decide +kernel
theorem dX8_rate_84 : decode cX8_rate 84 = .ok (.invokevirtual 207, 3) := by decide +kernel
theorem dX8_rate_87 : decode cX8_rate 87 = .ok (.ireturn, 1) := by decide +kernel
theorem dX8_rate_88 : decode cX8_rate 88 = .ok (.ldc 191, 2) := by decide +kernel
theorem dX8_rate_90 : decode cX8_rate 90 = .ok (.ireturn, 1) := by decide +kernel
set_option maxRecDepth 20000 in
theorem ggX8_keep_X8_within : GoodIn wsX8_keep wsX8_within := goodIn_r _ [12] (by decide +kernel) (by decide +kernel)
set_option maxRecDepth 20000 in
theorem gX8_keep_X8_within : GoodIn wsX8_keep (va_wsS RX8 54 yX8_within wsX8_within) := goodIn_app (goodIn_of _ (by decide +kernel)) ggX8_keep_X8_within
set_option maxRecDepth 20000 in
theorem ggX8_keep_X0_becomes : GoodIn wsX8_keep wsX0_becomes := goodIn_r _ [17, 18, 19, 20, 21, 22, 23, 24, 25, 59, 60, 61, 62] (by decide +kernel) (by decide +kernel)
set_option maxRecDepth 20000 in
theorem gX8_keep_X0_becomes : GoodIn wsX8_keep (wsV RX8 211 RX0 yX0_becomes wsX0_becomes) := goodIn_app (goodIn_of _ (by decide +kernel)) ggX8_keep_X0_becomes
set_option maxRecDepth 20000 in
theorem ggX8_keep_X1_becomes : GoodIn wsX8_keep wsX1_becomes := goodIn_r _ [30, 31, 32, 20, 21, 22, 33, 34, 56, 57, 58] (by decide +kernel) (by decide +kernel)
set_option maxRecDepth 20000 in
theorem gX8_keep_X1_becomes : GoodIn wsX8_keep (wsV RX8 216 RX1 yX1_becomes wsX1_becomes) := goodIn_app (goodIn_of _ (by decide +kernel)) ggX8_keep_X1_becomes
theorem dX8_keep_0 : decode cX8_keep 0 = .ok (.iload_n 1, 1) := by decide +kernel
theorem dX8_keep_1 : decode cX8_keep 1 = .ok (.iconst 0, 1) := by decide +kernel
theorem dX8_keep_2 : decode cX8_keep 2 = .ok (.iconst 1, 1) := by decide +kernel
theorem dX8_keep_3 : decode cX8_keep 3 = .ok (.invokestatic 54, 3) := by decide +kernel
theorem dX8_keep_6 : decode cX8_keep 6 = .ok (.ifCond .ne 5, 3) := by decide +kernel
theorem dX8_keep_9 : decode cX8_keep 9 = .ok (.iconst (-1), 1) := by decide +kernel
theorem dX8_keep_10 : decode cX8_keep 10 = .ok (.ireturn, 1) := by decide +kernel
theorem dX8_keep_11 : decode cX8_keep 11 = .ok (.aload_n 0, 1) := by decide +kernel
theorem dX8_keep_12 : decode cX8_keep 12 = .ok (.getfield 39, 3) := by decide +kernel
theorem dX8_keep_15 : decode cX8_keep 15 = .ok (.iload_n 1, 1) := by decide +kernel
theorem dX8_keep_16 : decode cX8_keep 16 = .ok (.aaload, 1) := by decide +kernel
theorem dX8_keep_17 : decode cX8_keep 17 = .ok (.iconst 1, 1) := by decide +kernel
theorem dX8_keep_18 : decode cX8_keep 18 = .ok (.putfield 80, 3) := by decide +kernel
theorem dX8_keep_21 : decode cX8_keep 21 = .ok (.aload_n 0, 1) := by decide +kernel
theorem dX8_keep_22 : decode cX8_keep 22 = .ok (.getfield 39, 3) := by decide +kernel
theorem dX8_keep_25 : decode cX8_keep 25 = .ok (.iload_n 1, 1) := by decide +kernel
theorem dX8_keep_26 : decode cX8_keep 26 = .ok (.aaload, 1) := by decide +kernel
theorem dX8_keep_27 : decode cX8_keep 27 = .ok (.getfield 210, 3) := by decide +kernel
theorem dX8_keep_30 : decode cX8_keep 30 = .ok (.aload_n 0, 1) := by decide +kernel
theorem dX8_keep_31 : decode cX8_keep 31 = .ok (.getfield 46, 3) := by decide +kernel
theorem dX8_keep_34 : decode cX8_keep 34 = .ok (.getfield 95, 3) := by decide +kernel
theorem dX8_keep_37 : decode cX8_keep 37 = .ok (.invokevirtual 211, 3) := by decide +kernel
theorem dX8_keep_40 : decode cX8_keep 40 = .ok (.aload_n 0, 1) := by decide +kernel
theorem dX8_keep_41 : decode cX8_keep 41 = .ok (.getfield 39, 3) := by decide +kernel
theorem dX8_keep_44 : decode cX8_keep 44 = .ok (.iload_n 1, 1) := by decide +kernel
theorem dX8_keep_45 : decode cX8_keep 45 = .ok (.aaload, 1) := by decide +kernel
theorem dX8_keep_46 : decode cX8_keep 46 = .ok (.getfield 215, 3) := by decide +kernel
theorem dX8_keep_49 : decode cX8_keep 49 = .ok (.aload_n 0, 1) := by decide +kernel
theorem dX8_keep_50 : decode cX8_keep 50 = .ok (.getfield 33, 3) := by decide +kernel
theorem dX8_keep_53 : decode cX8_keep 53 = .ok (.invokevirtual 216, 3) := by decide +kernel
theorem dX8_keep_56 : decode cX8_keep 56 = .ok (.aload_n 0, 1) := by decide +kernel
theorem dX8_keep_57 : decode cX8_keep 57 = .ok (.getfield 33, 3) := by decide +kernel
theorem dX8_keep_60 : decode cX8_keep 60 = .ok (.getfield 219, 3) := by decide +kernel
theorem dX8_keep_63 : decode cX8_keep 63 = .ok (.ireturn, 1) := by decide +kernel
set_option maxRecDepth 20000 in
theorem ggX8_back_X8_within : GoodIn wsX8_back wsX8_within := goodIn_r _ [12] (by decide +kernel) (by decide +kernel)
set_option maxRecDepth 20000 in
theorem gX8_back_X8_within : GoodIn wsX8_back (va_wsS RX8 54 yX8_within wsX8_within) := goodIn_app (goodIn_of _ (by decide +kernel)) ggX8_back_X8_within
set_option maxRecDepth 20000 in
theorem ggX8_back_X0_becomes : GoodIn wsX8_back wsX0_becomes := goodIn_r _ [17, 18, 19, 20, 21, 22, 23, 24, 25, 125, 126, 127, 128] (by decide +kernel) (by decide +kernel)
set_option maxRecDepth 20000 in
theorem gX8_back_X0_becomes : GoodIn wsX8_back (wsV RX8 211 RX0 yX0_becomes wsX0_becomes) := goodIn_app (goodIn_of _ (by decide +kernel)) ggX8_back_X0_becomes
set_option maxRecDepth 20000 in
theorem ggX8_back_X1_becomes : GoodIn wsX8_back wsX1_becomes := goodIn_r _ [30, 31, 32, 20, 21, 22, 33, 34, 122, 123, 124] (by decide +kernel) (by decide +kernel)
set_option maxRecDepth 20000 in
theorem gX8_back_X1_becomes : GoodIn wsX8_back (wsV RX8 216 RX1 yX1_becomes wsX1_becomes) := goodIn_app (goodIn_of _ (by decide +kernel)) ggX8_back_X1_becomes
set_option maxRecDepth 20000 in
theorem ggX8_back_X8_listen : GoodIn wsX8_back wsX8_listen := goodIn_r _ [38, 39, 3, 40, 41, 42, 43, 44, 45, 46, 47, 48, 49, 50, 51, 52, 53, 54, 55, 56, 57, 58, 59, 60, 61, 62, 63, 64, 65, 66, 67, 68, 69, 70, 71, 72, 73, 74, 75, 76, 77, 78, 79, 80, 81, 82, 83, 84, 85, 86, 87, 88, 89, 90, 91, 92, 93, 94, 95, 96, 97, 98, 99, 100, 101, 102, 103, 104, 105, 106, 107, 108, 129, 130, 131, 112, 113, 114, 115, 116, 117, 118, 119, 120, 121, 125, 126, 127, 128, 132, 133, 134, 135] (by decide +kernel) (by decide +kernel)
set_option maxRecDepth 20000 in
theorem gX8_back_X8_listen : GoodIn wsX8_back (wsV RX8 84 RX8 yX8_listen wsX8_listen) := goodIn_app (goodIn_of _ (by decide +kernel)) ggX8_back_X8_listen
theorem dX8_back_0 : decode cX8_back 0 = .ok (.iload_n 1, 1) := by decide +kernel
theorem dX8_back_1 : decode cX8_back 1 = .ok (.iconst 0, 1) := by decide +kernel
theorem dX8_back_2 : decode cX8_back 2 = .ok (.iconst 1, 1) := by decide +kernel
theorem dX8_back_3 : decode cX8_back 3 = .ok (.invokestatic 54, 3) := by decide +kernel
theorem dX8_back_6 : decode cX8_back 6 = .ok (.ifCond .ne 5, 3) := by decide +kernel
theorem dX8_back_9 : decode cX8_back 9 = .ok (.iconst (-1), 1) := by decide +kernel
theorem dX8_back_10 : decode cX8_back 10 = .ok (.ireturn, 1) := by decide +kernel
theorem dX8_back_11 : decode cX8_back 11 = .ok (.aload_n 0, 1) := by decide +kernel
theorem dX8_back_12 : decode cX8_back 12 = .ok (.getfield 39, 3) := by decide +kernel
theorem dX8_back_15 : decode cX8_back 15 = .ok (.iload_n 1, 1) := by decide +kernel
theorem dX8_back_16 : decode cX8_back 16 = .ok (.aaload, 1) := by decide +kernel
theorem dX8_back_17 : decode cX8_back 17 = .ok (.getfield 80, 3) := by decide +kernel
theorem dX8_back_20 : decode cX8_back 20 = .ok (.ifCond .ne 6, 3) := by decide +kernel
theorem dX8_back_23 : decode cX8_back 23 = .ok (.bipush (-2), 2) := by decide +kernel
theorem dX8_back_25 : decode cX8_back 25 = .ok (.ireturn, 1) := by decide +kernel
theorem dX8_back_26 : decode cX8_back 26 = .ok (.aload_n 0, 1) := by decide +kernel
theorem dX8_back_27 : decode cX8_back 27 = .ok (.getfield 46, 3) := by decide +kernel
theorem dX8_back_30 : decode cX8_back 30 = .ok (.getfield 95, 3) := by decide +kernel
theorem dX8_back_33 : decode cX8_back 33 = .ok (.aload_n 0, 1) := by decide +kernel
theorem dX8_back_34 : decode cX8_back 34 = .ok (.getfield 39, 3) := by decide +kernel
theorem dX8_back_37 : decode cX8_back 37 = .ok (.iload_n 1, 1) := by decide +kernel
theorem dX8_back_38 : decode cX8_back 38 = .ok (.aaload, 1) := by decide +kernel
theorem dX8_back_39 : decode cX8_back 39 = .ok (.getfield 210, 3) := by decide +kernel
theorem dX8_back_42 : decode cX8_back 42 = .ok (.invokevirtual 211, 3) := by decide +kernel
theorem dX8_back_45 : decode cX8_back 45 = .ok (.aload_n 0, 1) := by decide +kernel
theorem dX8_back_46 : decode cX8_back 46 = .ok (.getfield 33, 3) := by decide +kernel
theorem dX8_back_49 : decode cX8_back 49 = .ok (.aload_n 0, 1) := by decide +kernel
theorem dX8_back_50 : decode cX8_back 50 = .ok (.getfield 39, 3) := by decide +kernel
theorem dX8_back_53 : decode cX8_back 53 = .ok (.iload_n 1, 1) := by decide +kernel
theorem dX8_back_54 : decode cX8_back 54 = .ok (.aaload, 1) := by decide +kernel
theorem dX8_back_55 : decode cX8_back 55 = .ok (.getfield 215, 3) := by decide +kernel
theorem dX8_back_58 : decode cX8_back 58 = .ok (.invokevirtual 216, 3) := by decide +kernel
theorem dX8_back_61 : decode cX8_back 61 = .ok (.aload_n 0, 1) := by decide +kernel
theorem dX8_back_62 : decode cX8_back 62 = .ok (.invokevirtual 84, 3) := by decide +kernel
theorem dX8_back_65 : decode cX8_back 65 = .ok (.aload_n 0, 1) := by decide +kernel
theorem dX8_back_66 : decode cX8_back 66 = .ok (.getfield 33, 3) := by decide +kernel
theorem dX8_back_69 : decode cX8_back 69 = .ok (.getfield 219, 3) := by decide +kernel
theorem dX8_back_72 : decode cX8_back 72 = .ok (.ireturn, 1) := by decide +kernel
set_option maxRecDepth 20000 in
theorem ggX8_count_X0_all : GoodIn wsX8_count wsX0_all := goodIn_r _ [16, 17, 18, 19, 15, 20, 21, 22, 52, 53, 54, 55] (by decide +kernel) (by decide +kernel)
set_option maxRecDepth 20000 in
theorem gX8_count_X0_all : GoodIn wsX8_count (wsV RX8 237 RX0 yX0_all wsX0_all) := goodIn_app (goodIn_of _ (by decide +kernel)) ggX8_count_X0_all
theorem dX8_count_0 : decode cX8_count 0 = .ok (.iload_n 1, 1) := by decide +kernel
theorem dX8_count_1 : decode cX8_count 1 = .ok (.tableswitch 122 0 7 #[47, 55, 63, 71, 79, 87, 98, 110], 47) := by decide +kernel
theorem dX8_count_48 : decode cX8_count 48 = .ok (.aload_n 0, 1) := by decide +kernel
theorem dX8_count_49 : decode cX8_count 49 = .ok (.getfield 46, 3) := by decide +kernel
theorem dX8_count_52 : decode cX8_count 52 = .ok (.getfield 222, 3) := by decide +kernel
theorem dX8_count_55 : decode cX8_count 55 = .ok (.ireturn, 1) := by decide +kernel
theorem dX8_count_56 : decode cX8_count 56 = .ok (.aload_n 0, 1) := by decide +kernel
theorem dX8_count_57 : decode cX8_count 57 = .ok (.getfield 46, 3) := by decide +kernel
theorem dX8_count_60 : decode cX8_count 60 = .ok (.getfield 225, 3) := by decide +kernel
theorem dX8_count_63 : decode cX8_count 63 = .ok (.ireturn, 1) := by decide +kernel
theorem dX8_count_64 : decode cX8_count 64 = .ok (.aload_n 0, 1) := by decide +kernel
theorem dX8_count_65 : decode cX8_count 65 = .ok (.getfield 46, 3) := by decide +kernel
theorem dX8_count_68 : decode cX8_count 68 = .ok (.getfield 228, 3) := by decide +kernel
theorem dX8_count_71 : decode cX8_count 71 = .ok (.ireturn, 1) := by decide +kernel
theorem dX8_count_72 : decode cX8_count 72 = .ok (.aload_n 0, 1) := by decide +kernel
theorem dX8_count_73 : decode cX8_count 73 = .ok (.getfield 46, 3) := by decide +kernel
theorem dX8_count_76 : decode cX8_count 76 = .ok (.getfield 231, 3) := by decide +kernel
theorem dX8_count_79 : decode cX8_count 79 = .ok (.ireturn, 1) := by decide +kernel
theorem dX8_count_80 : decode cX8_count 80 = .ok (.aload_n 0, 1) := by decide +kernel
theorem dX8_count_81 : decode cX8_count 81 = .ok (.getfield 33, 3) := by decide +kernel
theorem dX8_count_84 : decode cX8_count 84 = .ok (.getfield 219, 3) := by decide +kernel
theorem dX8_count_87 : decode cX8_count 87 = .ok (.ireturn, 1) := by decide +kernel
theorem dX8_count_88 : decode cX8_count 88 = .ok (.aload_n 0, 1) := by decide +kernel
theorem dX8_count_89 : decode cX8_count 89 = .ok (.getfield 10, 3) := by decide +kernel
theorem dX8_count_92 : decode cX8_count 92 = .ok (.getfield 58, 3) := by decide +kernel
theorem dX8_count_95 : decode cX8_count 95 = .ok (.getfield 234, 3) := by decide +kernel
theorem dX8_count_98 : decode cX8_count 98 = .ok (.ireturn, 1) := by decide +kernel
theorem dX8_count_99 : decode cX8_count 99 = .ok (.aload_n 0, 1) := by decide +kernel
theorem dX8_count_100 : decode cX8_count 100 = .ok (.getfield 46, 3) := by decide +kernel
theorem dX8_count_103 : decode cX8_count 103 = .ok (.getfield 95, 3) := by decide +kernel
theorem dX8_count_106 : decode cX8_count 106 = .ok (.iconst 0, 1) := by decide +kernel
theorem dX8_count_107 : decode cX8_count 107 = .ok (.invokevirtual 237, 3) := by decide +kernel
theorem dX8_count_110 : decode cX8_count 110 = .ok (.ireturn, 1) := by decide +kernel
theorem dX8_count_111 : decode cX8_count 111 = .ok (.aload_n 0, 1) := by decide +kernel
theorem dX8_count_112 : decode cX8_count 112 = .ok (.getfield 46, 3) := by decide +kernel
theorem dX8_count_115 : decode cX8_count 115 = .ok (.getfield 95, 3) := by decide +kernel
theorem dX8_count_118 : decode cX8_count 118 = .ok (.iconst 1, 1) := by decide +kernel
theorem dX8_count_119 : decode cX8_count 119 = .ok (.invokevirtual 237, 3) := by decide +kernel
theorem dX8_count_122 : decode cX8_count 122 = .ok (.ireturn, 1) := by decide +kernel
theorem dX8_count_123 : decode cX8_count 123 = .ok (.iconst (-1), 1) := by decide +kernel
theorem dX8_count_124 : decode cX8_count 124 = .ok (.ireturn, 1) := by decide +kernel
theorem dX8_trace_0 : decode cX8_trace 0 = .ok (.aload_n 0, 1) := by decide +kernel
theorem dX8_trace_1 : decode cX8_trace 1 = .ok (.getfield 240, 3) := by decide +kernel
theorem dX8_trace_4 : decode cX8_trace 4 = .ok (.lreturn, 1) := by decide +kernel
theorem dX8_within_0 : decode cX8_within 0 = .ok (.iload_n 0, 1) := by decide +kernel
theorem dX8_within_1 : decode cX8_within 1 = .ok (.iload_n 1, 1) := by decide +kernel
theorem dX8_within_2 : decode cX8_within 2 = .ok (.if_icmp .lt 12, 3) := by decide +kernel
theorem dX8_within_5 : decode cX8_within 5 = .ok (.iload_n 0, 1) := by decide +kernel
theorem dX8_within_6 : decode cX8_within 6 = .ok (.iload_n 2, 1) := by decide +kernel
theorem dX8_within_7 : decode cX8_within 7 = .ok (.if_icmp .gt 7, 3) := by decide +kernel
theorem dX8_within_10 : decode cX8_within 10 = .ok (.iconst 1, 1) := by decide +kernel
theorem dX8_within_11 : decode cX8_within 11 = .ok (.goto 4, 3) := by decide +kernel
theorem dX8_within_14 : decode cX8_within 14 = .ok (.iconst 0, 1) := by decide +kernel
theorem dX8_within_15 : decode cX8_within 15 = .ok (.ireturn, 1) := by decide +kernel
theorem dX8_isBit_0 : decode cX8_isBit 0 = .ok (.iload_n 0, 1) := by decide +kernel
theorem dX8_isBit_1 : decode cX8_isBit 1 = .ok (.ifCond .eq 8, 3) := by decide +kernel
theorem dX8_isBit_4 : decode cX8_isBit 4 = .ok (.iload_n 0, 1) := by decide +kernel
theorem dX8_isBit_5 : decode cX8_isBit 5 = .ok (.iconst 1, 1) := by decide +kernel
theorem dX8_isBit_6 : decode cX8_isBit 6 = .ok (.if_icmp .ne 7, 3) := by decide +kernel
theorem dX8_isBit_9 : decode cX8_isBit 9 = .ok (.iconst 1, 1) := by decide +kernel
theorem dX8_isBit_10 : decode cX8_isBit 10 = .ok (.goto 4, 3) := by decide +kernel
theorem dX8_isBit_13 : decode cX8_isBit 13 = .ok (.iconst 0, 1) := by decide +kernel
theorem dX8_isBit_14 : decode cX8_isBit 14 = .ok (.ireturn, 1) := by decide +kernel
theorem dX8_isHour_0 : decode cX8_isHour 0 = .ok (.iload_n 0, 1) := by decide +kernel
theorem dX8_isHour_1 : decode cX8_isHour 1 = .ok (.ifCond .lt 13, 3) := by decide +kernel
theorem dX8_isHour_4 : decode cX8_isHour 4 = .ok (.iload_n 0, 1) := by decide +kernel
theorem dX8_isHour_5 : decode cX8_isHour 5 = .ok (.bipush 12, 2) := by decide +kernel
theorem dX8_isHour_7 : decode cX8_isHour 7 = .ok (.if_icmp .ge 7, 3) := by decide +kernel
theorem dX8_isHour_10 : decode cX8_isHour 10 = .ok (.iconst 1, 1) := by decide +kernel
theorem dX8_isHour_11 : decode cX8_isHour 11 = .ok (.goto 4, 3) := by decide +kernel
theorem dX8_isHour_14 : decode cX8_isHour 14 = .ok (.iconst 0, 1) := by decide +kernel
theorem dX8_isHour_15 : decode cX8_isHour 15 = .ok (.ireturn, 1) := by decide +kernel
theorem dX8_mostOf_0 : decode cX8_mostOf 0 = .ok (.iload_n 0, 1) := by decide +kernel
theorem dX8_mostOf_1 : decode cX8_mostOf 1 = .ok (.ifCond .ne 7, 3) := by decide +kernel
theorem dX8_mostOf_4 : decode cX8_mostOf 4 = .ok (.iconst 3, 1) := by decide +kernel
theorem dX8_mostOf_5 : decode cX8_mostOf 5 = .ok (.goto 5, 3) := by decide +kernel
theorem dX8_mostOf_8 : decode cX8_mostOf 8 = .ok (.bipush 9, 2) := by decide +kernel
theorem dX8_mostOf_10 : decode cX8_mostOf 10 = .ok (.ireturn, 1) := by decide +kernel
set_option maxRecDepth 20000 in
theorem ggX8_listen_X6_hearWorkers : GoodIn wsX8_listen wsX6_hearWorkers := goodIn_r _ [9, 10, 11, 12, 13, 14, 15, 8, 16, 17, 18, 19, 20, 21, 22, 23, 24, 25, 26, 27, 28, 29, 30, 31, 32, 33, 34, 35, 36, 37, 38, 39, 40, 41, 42, 43, 44, 45, 46, 47, 75, 76, 77, 78, 79, 80, 81, 82, 83, 84, 72, 73, 74, 85, 86, 87, 88] (by decide +kernel) (by decide +kernel)
set_option maxRecDepth 20000 in
theorem gX8_listen_X6_hearWorkers : GoodIn wsX8_listen (wsV RX8 244 RX6 yX6_hearWorkers wsX6_hearWorkers) := goodIn_app (goodIn_of _ (by decide +kernel)) ggX8_listen_X6_hearWorkers
set_option maxRecDepth 20000 in
theorem ggX8_listen_X4_weigh : GoodIn wsX8_listen wsX4_weigh := goodIn_r _ [52, 53, 54, 55, 56, 57, 58, 18, 19, 20, 59, 60, 61, 51, 62, 63, 89, 90, 91, 92, 75, 76, 77, 78, 79, 80, 81, 82, 83, 84] (by decide +kernel) (by decide +kernel)
set_option maxRecDepth 20000 in
theorem gX8_listen_X4_weigh : GoodIn wsX8_listen (wsV RX8 248 RX4 yX4_weigh wsX4_weigh) := goodIn_app (goodIn_of _ (by decide +kernel)) ggX8_listen_X4_weigh
theorem dX8_listen_0 : decode cX8_listen 0 = .ok (.aload_n 0, 1) := by decide +kernel
theorem dX8_listen_1 : decode cX8_listen 1 = .ok (.getfield 19, 3) := by decide +kernel
theorem dX8_listen_4 : decode cX8_listen 4 = .ok (.aload_n 0, 1) := by decide +kernel
theorem dX8_listen_5 : decode cX8_listen 5 = .ok (.getfield 46, 3) := by decide +kernel
theorem dX8_listen_8 : decode cX8_listen 8 = .ok (.invokevirtual 244, 3) := by decide +kernel
theorem dX8_listen_11 : decode cX8_listen 11 = .ok (.aload_n 0, 1) := by decide +kernel
theorem dX8_listen_12 : decode cX8_listen 12 = .ok (.getfield 26, 3) := by decide +kernel
theorem dX8_listen_15 : decode cX8_listen 15 = .ok (.aload_n 0, 1) := by decide +kernel
theorem dX8_listen_16 : decode cX8_listen 16 = .ok (.getfield 46, 3) := by decide +kernel
theorem dX8_listen_19 : decode cX8_listen 19 = .ok (.aload_n 0, 1) := by decide +kernel
theorem dX8_listen_20 : decode cX8_listen 20 = .ok (.getfield 19, 3) := by decide +kernel
theorem dX8_listen_23 : decode cX8_listen 23 = .ok (.getfield 135, 3) := by decide +kernel
theorem dX8_listen_26 : decode cX8_listen 26 = .ok (.invokevirtual 248, 3) := by decide +kernel
theorem dX8_listen_29 : decode cX8_listen 29 = .ok (.return_, 1) := by decide +kernel
set_option maxRecDepth 20000 in
theorem ggX8_owedFrom_X6_hearSaw : GoodIn wsX8_owedFrom wsX6_hearSaw := goodIn_r _ [11, 12, 13, 14, 15, 10, 16, 17, 18, 19, 20, 21, 22, 23, 24, 25, 26, 27, 28, 29, 30, 31, 32, 33, 34, 35, 36, 37, 38, 39, 40, 41, 42, 43, 44, 45, 46, 47, 66, 67, 68, 56, 57, 58, 59, 60, 61, 62, 63, 64, 65, 69, 70, 71, 72] (by decide +kernel) (by decide +kernel)
set_option maxRecDepth 20000 in
theorem gX8_owedFrom_X6_hearSaw : GoodIn wsX8_owedFrom (wsV RX8 252 RX6 yX6_hearSaw wsX6_hearSaw) := goodIn_app (goodIn_of _ (by decide +kernel)) ggX8_owedFrom_X6_hearSaw
theorem dX8_owedFrom_0 : decode cX8_owedFrom 0 = .ok (.aload_n 0, 1) := by decide +kernel
theorem dX8_owedFrom_1 : decode cX8_owedFrom 1 = .ok (.getfield 19, 3) := by decide +kernel
theorem dX8_owedFrom_4 : decode cX8_owedFrom 4 = .ok (.aload_n 0, 1) := by decide +kernel
theorem dX8_owedFrom_5 : decode cX8_owedFrom 5 = .ok (.getfield 46, 3) := by decide +kernel
theorem dX8_owedFrom_8 : decode cX8_owedFrom 8 = .ok (.iload_n 1, 1) := by decide +kernel
theorem dX8_owedFrom_9 : decode cX8_owedFrom 9 = .ok (.iload_n 2, 1) := by decide +kernel
theorem dX8_owedFrom_10 : decode cX8_owedFrom 10 = .ok (.invokevirtual 252, 3) := by decide +kernel
theorem dX8_owedFrom_13 : decode cX8_owedFrom 13 = .ok (.iconst 0, 1) := by decide +kernel
theorem dX8_owedFrom_14 : decode cX8_owedFrom 14 = .ok (.istore 4, 2) := by decide +kernel
theorem dX8_owedFrom_16 : decode cX8_owedFrom 16 = .ok (.iconst 0, 1) := by decide +kernel
theorem dX8_owedFrom_17 : decode cX8_owedFrom 17 = .ok (.istore 5, 2) := by decide +kernel
theorem dX8_owedFrom_19 : decode cX8_owedFrom 19 = .ok (.iload 5, 2) := by decide +kernel
theorem dX8_owedFrom_21 : decode cX8_owedFrom 21 = .ok (.aload_n 0, 1) := by decide +kernel
theorem dX8_owedFrom_22 : decode cX8_owedFrom 22 = .ok (.getfield 46, 3) := by decide +kernel
theorem dX8_owedFrom_25 : decode cX8_owedFrom 25 = .ok (.getfield 231, 3) := by decide +kernel
theorem dX8_owedFrom_28 : decode cX8_owedFrom 28 = .ok (.if_icmp .ge 86, 3) := by decide +kernel
theorem dX8_owedFrom_31 : decode cX8_owedFrom 31 = .ok (.aload_n 0, 1) := by decide +kernel
theorem dX8_owedFrom_32 : decode cX8_owedFrom 32 = .ok (.getfield 46, 3) := by decide +kernel
theorem dX8_owedFrom_35 : decode cX8_owedFrom 35 = .ok (.getfield 129, 3) := by decide +kernel
theorem dX8_owedFrom_38 : decode cX8_owedFrom 38 = .ok (.iload 5, 2) := by decide +kernel
theorem dX8_owedFrom_40 : decode cX8_owedFrom 40 = .ok (.aaload, 1) := by decide +kernel
theorem dX8_owedFrom_41 : decode cX8_owedFrom 41 = .ok (.astore 6, 2) := by decide +kernel
theorem dX8_owedFrom_43 : decode cX8_owedFrom 43 = .ok (.aload_n 0, 1) := by decide +kernel
theorem dX8_owedFrom_44 : decode cX8_owedFrom 44 = .ok (.getfield 46, 3) := by decide +kernel
theorem dX8_owedFrom_47 : decode cX8_owedFrom 47 = .ok (.getfield 152, 3) := by decide +kernel
theorem dX8_owedFrom_50 : decode cX8_owedFrom 50 = .ok (.iload_n 3, 1) := by decide +kernel
theorem dX8_owedFrom_51 : decode cX8_owedFrom 51 = .ok (.iaload, 1) := by decide +kernel
theorem dX8_owedFrom_52 : decode cX8_owedFrom 52 = .ok (.iload 5, 2) := by decide +kernel
theorem dX8_owedFrom_54 : decode cX8_owedFrom 54 = .ok (.ishr, 1) := by decide +kernel
theorem dX8_owedFrom_55 : decode cX8_owedFrom 55 = .ok (.iconst 1, 1) := by decide +kernel
theorem dX8_owedFrom_56 : decode cX8_owedFrom 56 = .ok (.iand, 1) := by decide +kernel
theorem dX8_owedFrom_57 : decode cX8_owedFrom 57 = .ok (.ifCond .eq 7, 3) := by decide +kernel
theorem dX8_owedFrom_60 : decode cX8_owedFrom 60 = .ok (.iconst 1, 1) := by decide +kernel
theorem dX8_owedFrom_61 : decode cX8_owedFrom 61 = .ok (.goto 4, 3) := by decide +kernel
theorem dX8_owedFrom_64 : decode cX8_owedFrom 64 = .ok (.iconst 0, 1) := by decide +kernel
theorem dX8_owedFrom_65 : decode cX8_owedFrom 65 = .ok (.istore 7, 2) := by decide +kernel
theorem dX8_owedFrom_67 : decode cX8_owedFrom 67 = .ok (.iload 7, 2) := by decide +kernel
theorem dX8_owedFrom_69 : decode cX8_owedFrom 69 = .ok (.ifCond .eq 39, 3) := by decide +kernel
theorem dX8_owedFrom_72 : decode cX8_owedFrom 72 = .ok (.aload 6, 2) := by decide +kernel
theorem dX8_owedFrom_74 : decode cX8_owedFrom 74 = .ok (.iconst 0, 1) := by decide +kernel
theorem dX8_owedFrom_75 : decode cX8_owedFrom 75 = .ok (.iaload, 1) := by decide +kernel
theorem dX8_owedFrom_76 : decode cX8_owedFrom 76 = .ok (.iload_n 1, 1) := by decide +kernel
theorem dX8_owedFrom_77 : decode cX8_owedFrom 77 = .ok (.if_icmp .eq 31, 3) := by decide +kernel
theorem dX8_owedFrom_80 : decode cX8_owedFrom 80 = .ok (.aload_n 0, 1) := by decide +kernel
theorem dX8_owedFrom_81 : decode cX8_owedFrom 81 = .ok (.getfield 19, 3) := by decide +kernel
theorem dX8_owedFrom_84 : decode cX8_owedFrom 84 = .ok (.getfield 255, 3) := by decide +kernel
theorem dX8_owedFrom_87 : decode cX8_owedFrom 87 = .ok (.aload 6, 2) := by decide +kernel
theorem dX8_owedFrom_89 : decode cX8_owedFrom 89 = .ok (.iconst 0, 1) := by decide +kernel
theorem dX8_owedFrom_90 : decode cX8_owedFrom 90 = .ok (.iaload, 1) := by decide +kernel
theorem dX8_owedFrom_91 : decode cX8_owedFrom 91 = .ok (.iaload, 1) := by decide +kernel
theorem dX8_owedFrom_92 : decode cX8_owedFrom 92 = .ok (.aload 6, 2) := by decide +kernel
theorem dX8_owedFrom_94 : decode cX8_owedFrom 94 = .ok (.iconst 3, 1) := by decide +kernel
theorem dX8_owedFrom_95 : decode cX8_owedFrom 95 = .ok (.iaload, 1) := by decide +kernel
theorem dX8_owedFrom_96 : decode cX8_owedFrom 96 = .ok (.if_icmp .le 12, 3) := by decide +kernel
theorem dX8_owedFrom_99 : decode cX8_owedFrom 99 = .ok (.iload 4, 2) := by decide +kernel
theorem dX8_owedFrom_101 : decode cX8_owedFrom 101 = .ok (.aload 6, 2) := by decide +kernel
theorem dX8_owedFrom_103 : decode cX8_owedFrom 103 = .ok (.iconst 4, 1) := by decide +kernel
theorem dX8_owedFrom_104 : decode cX8_owedFrom 104 = .ok (.iaload, 1) := by decide +kernel
theorem dX8_owedFrom_105 : decode cX8_owedFrom 105 = .ok (.iadd, 1) := by decide +kernel
theorem dX8_owedFrom_106 : decode cX8_owedFrom 106 = .ok (.istore 4, 2) := by decide +kernel
theorem dX8_owedFrom_108 : decode cX8_owedFrom 108 = .ok (.iinc 5 1, 3) := by decide +kernel
theorem dX8_owedFrom_111 : decode cX8_owedFrom 111 = .ok (.goto (-92), 3) := by decide +kernel
theorem dX8_owedFrom_114 : decode cX8_owedFrom 114 = .ok (.iload 4, 2) := by decide +kernel
theorem dX8_owedFrom_116 : decode cX8_owedFrom 116 = .ok (.ireturn, 1) := by decide +kernel
set_option maxRecDepth 20000 in
theorem ggX8_fitsHearsay_X6_heardIn : GoodIn wsX8_fitsHearsay wsX6_heardIn := goodIn_r _ [11, 12, 13, 25, 26, 27, 28, 29, 30, 31, 32, 33, 34, 35, 36, 37] (by decide +kernel) (by decide +kernel)
set_option maxRecDepth 20000 in
theorem gX8_fitsHearsay_X6_heardIn : GoodIn wsX8_fitsHearsay (wsV RX8 138 RX6 yX6_heardIn wsX6_heardIn) := goodIn_app (goodIn_of _ (by decide +kernel)) ggX8_fitsHearsay_X6_heardIn
theorem dX8_fitsHearsay_0 : decode cX8_fitsHearsay 0 = .ok (.iconst 0, 1) := by decide +kernel
theorem dX8_fitsHearsay_1 : decode cX8_fitsHearsay 1 = .ok (.istore_n 2, 1) := by decide +kernel
theorem dX8_fitsHearsay_2 : decode cX8_fitsHearsay 2 = .ok (.iload_n 2, 1) := by decide +kernel
theorem dX8_fitsHearsay_3 : decode cX8_fitsHearsay 3 = .ok (.aload_n 0, 1) := by decide +kernel
theorem dX8_fitsHearsay_4 : decode cX8_fitsHearsay 4 = .ok (.getfield 33, 3) := by decide +kernel
theorem dX8_fitsHearsay_7 : decode cX8_fitsHearsay 7 = .ok (.getfield 219, 3) := by decide +kernel
theorem dX8_fitsHearsay_10 : decode cX8_fitsHearsay 10 = .ok (.if_icmp .ge 44, 3) := by decide +kernel
theorem dX8_fitsHearsay_13 : decode cX8_fitsHearsay 13 = .ok (.aload_n 0, 1) := by decide +kernel
theorem dX8_fitsHearsay_14 : decode cX8_fitsHearsay 14 = .ok (.getfield 19, 3) := by decide +kernel
theorem dX8_fitsHearsay_17 : decode cX8_fitsHearsay 17 = .ok (.aload_n 0, 1) := by decide +kernel
theorem dX8_fitsHearsay_18 : decode cX8_fitsHearsay 18 = .ok (.getfield 46, 3) := by decide +kernel
theorem dX8_fitsHearsay_21 : decode cX8_fitsHearsay 21 = .ok (.aload_n 0, 1) := by decide +kernel
theorem dX8_fitsHearsay_22 : decode cX8_fitsHearsay 22 = .ok (.getfield 33, 3) := by decide +kernel
theorem dX8_fitsHearsay_25 : decode cX8_fitsHearsay 25 = .ok (.getfield 258, 3) := by decide +kernel
theorem dX8_fitsHearsay_28 : decode cX8_fitsHearsay 28 = .ok (.iload_n 2, 1) := by decide +kernel
theorem dX8_fitsHearsay_29 : decode cX8_fitsHearsay 29 = .ok (.iaload, 1) := by decide +kernel
theorem dX8_fitsHearsay_30 : decode cX8_fitsHearsay 30 = .ok (.iload_n 1, 1) := by decide +kernel
theorem dX8_fitsHearsay_31 : decode cX8_fitsHearsay 31 = .ok (.invokevirtual 138, 3) := by decide +kernel
theorem dX8_fitsHearsay_34 : decode cX8_fitsHearsay 34 = .ok (.aload_n 0, 1) := by decide +kernel
theorem dX8_fitsHearsay_35 : decode cX8_fitsHearsay 35 = .ok (.getfield 33, 3) := by decide +kernel
theorem dX8_fitsHearsay_38 : decode cX8_fitsHearsay 38 = .ok (.getfield 260, 3) := by decide +kernel
theorem dX8_fitsHearsay_41 : decode cX8_fitsHearsay 41 = .ok (.iload_n 2, 1) := by decide +kernel
theorem dX8_fitsHearsay_42 : decode cX8_fitsHearsay 42 = .ok (.iaload, 1) := by decide +kernel
theorem dX8_fitsHearsay_43 : decode cX8_fitsHearsay 43 = .ok (.if_icmp .eq 5, 3) := by decide +kernel
theorem dX8_fitsHearsay_46 : decode cX8_fitsHearsay 46 = .ok (.iconst 0, 1) := by decide +kernel
theorem dX8_fitsHearsay_47 : decode cX8_fitsHearsay 47 = .ok (.ireturn, 1) := by decide +kernel
theorem dX8_fitsHearsay_48 : decode cX8_fitsHearsay 48 = .ok (.iinc 2 1, 3) := by decide +kernel
theorem dX8_fitsHearsay_51 : decode cX8_fitsHearsay 51 = .ok (.goto (-49), 3) := by decide +kernel
theorem dX8_fitsHearsay_54 : decode cX8_fitsHearsay 54 = .ok (.iconst 1, 1) := by decide +kernel
theorem dX8_fitsHearsay_55 : decode cX8_fitsHearsay 55 = .ok (.ireturn, 1) := by decide +kernel
theorem dX8_asNoise_0 : decode cX8_asNoise 0 = .ok (.aload_n 0, 1) := by decide +kernel
theorem dX8_asNoise_1 : decode cX8_asNoise 1 = .ok (.dup, 1) := by decide +kernel
theorem dX8_asNoise_2 : decode cX8_asNoise 2 = .ok (.getfield 240, 3) := by decide +kernel
theorem dX8_asNoise_5 : decode cX8_asNoise 5 = .ok (.lconst 1, 1) := by decide +kernel
theorem dX8_asNoise_6 : decode cX8_asNoise 6 = .ok (.ladd, 1) := by decide +kernel
theorem dX8_asNoise_7 : decode cX8_asNoise 7 = .ok (.putfield 240, 3) := by decide +kernel
theorem dX8_asNoise_10 : decode cX8_asNoise 10 = .ok (.aload_n 0, 1) := by decide +kernel
theorem dX8_asNoise_11 : decode cX8_asNoise 11 = .ok (.getfield 46, 3) := by decide +kernel
theorem dX8_asNoise_14 : decode cX8_asNoise 14 = .ok (.getfield 122, 3) := by decide +kernel
theorem dX8_asNoise_17 : decode cX8_asNoise 17 = .ok (.iload_n 1, 1) := by decide +kernel
theorem dX8_asNoise_18 : decode cX8_asNoise 18 = .ok (.aaload, 1) := by decide +kernel
theorem dX8_asNoise_19 : decode cX8_asNoise 19 = .ok (.iconst 1, 1) := by decide +kernel
theorem dX8_asNoise_20 : decode cX8_asNoise 20 = .ok (.iaload, 1) := by decide +kernel
theorem dX8_asNoise_21 : decode cX8_asNoise 21 = .ok (.ireturn, 1) := by decide +kernel
set_option maxRecDepth 20000 in
theorem ggX8_asStruck_X8_asNoise : GoodIn wsX8_asStruck wsX8_asNoise := goodIn_r _ [9, 1, 3, 4, 10, 11, 12, 13, 14, 15, 16, 17, 18, 19, 20, 21, 22, 23, 24, 25, 26, 27] (by decide +kernel) (by decide +kernel)
set_option maxRecDepth 20000 in
theorem gX8_asStruck_X8_asNoise : GoodIn wsX8_asStruck (wsV RX8 192 RX8 yX8_asNoise wsX8_asNoise) := goodIn_app (goodIn_of _ (by decide +kernel)) ggX8_asStruck_X8_asNoise
theorem dX8_asStruck_0 : decode cX8_asStruck 0 = .ok (.aload_n 0, 1) := by decide +kernel
theorem dX8_asStruck_1 : decode cX8_asStruck 1 = .ok (.dup, 1) := by decide +kernel
theorem dX8_asStruck_2 : decode cX8_asStruck 2 = .ok (.getfield 240, 3) := by decide +kernel
theorem dX8_asStruck_5 : decode cX8_asStruck 5 = .ok (.ldc2_w 262, 3) := by decide +kernel
theorem dX8_asStruck_8 : decode cX8_asStruck 8 = .ok (.ladd, 1) := by decide +kernel
theorem dX8_asStruck_9 : decode cX8_asStruck 9 = .ok (.putfield 240, 3) := by decide +kernel
theorem dX8_asStruck_12 : decode cX8_asStruck 12 = .ok (.aload_n 0, 1) := by decide +kernel
theorem dX8_asStruck_13 : decode cX8_asStruck 13 = .ok (.iload_n 1, 1) := by decide +kernel
theorem dX8_asStruck_14 : decode cX8_asStruck 14 = .ok (.invokevirtual 192, 3) := by decide +kernel
theorem dX8_asStruck_17 : decode cX8_asStruck 17 = .ok (.aload_n 0, 1) := by decide +kernel
theorem dX8_asStruck_18 : decode cX8_asStruck 18 = .ok (.getfield 46, 3) := by decide +kernel
theorem dX8_asStruck_21 : decode cX8_asStruck 21 = .ok (.getfield 122, 3) := by decide +kernel
theorem dX8_asStruck_24 : decode cX8_asStruck 24 = .ok (.iload_n 1, 1) := by decide +kernel
theorem dX8_asStruck_25 : decode cX8_asStruck 25 = .ok (.aaload, 1) := by decide +kernel
theorem dX8_asStruck_26 : decode cX8_asStruck 26 = .ok (.iconst 3, 1) := by decide +kernel
theorem dX8_asStruck_27 : decode cX8_asStruck 27 = .ok (.iaload, 1) := by decide +kernel
theorem dX8_asStruck_28 : decode cX8_asStruck 28 = .ok (.iadd, 1) := by decide +kernel
theorem dX8_asStruck_29 : decode cX8_asStruck 29 = .ok (.ireturn, 1) := by decide +kernel
set_option maxRecDepth 20000 in
theorem ggX8_asHeld_X8_asNoise : GoodIn wsX8_asHeld wsX8_asNoise := goodIn_r _ [9, 1, 3, 4, 10, 11, 12, 13, 14, 15, 16, 17, 18, 19, 20, 21, 22, 23, 24, 25, 26, 27] (by decide +kernel) (by decide +kernel)
set_option maxRecDepth 20000 in
theorem gX8_asHeld_X8_asNoise : GoodIn wsX8_asHeld (wsV RX8 192 RX8 yX8_asNoise wsX8_asNoise) := goodIn_app (goodIn_of _ (by decide +kernel)) ggX8_asHeld_X8_asNoise
theorem dX8_asHeld_0 : decode cX8_asHeld 0 = .ok (.aload_n 0, 1) := by decide +kernel
theorem dX8_asHeld_1 : decode cX8_asHeld 1 = .ok (.dup, 1) := by decide +kernel
theorem dX8_asHeld_2 : decode cX8_asHeld 2 = .ok (.getfield 240, 3) := by decide +kernel
theorem dX8_asHeld_5 : decode cX8_asHeld 5 = .ok (.ldc2_w 264, 3) := by decide +kernel
theorem dX8_asHeld_8 : decode cX8_asHeld 8 = .ok (.ladd, 1) := by decide +kernel
theorem dX8_asHeld_9 : decode cX8_asHeld 9 = .ok (.putfield 240, 3) := by decide +kernel
theorem dX8_asHeld_12 : decode cX8_asHeld 12 = .ok (.aload_n 0, 1) := by decide +kernel
theorem dX8_asHeld_13 : decode cX8_asHeld 13 = .ok (.iload_n 1, 1) := by decide +kernel
theorem dX8_asHeld_14 : decode cX8_asHeld 14 = .ok (.invokevirtual 192, 3) := by decide +kernel
theorem dX8_asHeld_17 : decode cX8_asHeld 17 = .ok (.aload_n 0, 1) := by decide +kernel
theorem dX8_asHeld_18 : decode cX8_asHeld 18 = .ok (.getfield 46, 3) := by decide +kernel
theorem dX8_asHeld_21 : decode cX8_asHeld 21 = .ok (.getfield 122, 3) := by decide +kernel
theorem dX8_asHeld_24 : decode cX8_asHeld 24 = .ok (.iload_n 1, 1) := by decide +kernel
theorem dX8_asHeld_25 : decode cX8_asHeld 25 = .ok (.aaload, 1) := by decide +kernel
theorem dX8_asHeld_26 : decode cX8_asHeld 26 = .ok (.iconst 0, 1) := by decide +kernel
theorem dX8_asHeld_27 : decode cX8_asHeld 27 = .ok (.iaload, 1) := by decide +kernel
theorem dX8_asHeld_28 : decode cX8_asHeld 28 = .ok (.iadd, 1) := by decide +kernel
theorem dX8_asHeld_29 : decode cX8_asHeld 29 = .ok (.ireturn, 1) := by decide +kernel
set_option maxRecDepth 20000 in
theorem ggX8_asBlown_X8_asHeld : GoodIn wsX8_asBlown wsX8_asHeld := goodIn_r _ [7, 1, 8, 9, 10, 11, 12, 13, 6, 14, 15, 16, 17, 18, 19, 20, 21, 22, 23, 24, 25, 26, 27, 28, 29, 30, 31, 32] (by decide +kernel) (by decide +kernel)
set_option maxRecDepth 20000 in
theorem gX8_asBlown_X8_asHeld : GoodIn wsX8_asBlown (wsV RX8 198 RX8 yX8_asHeld wsX8_asHeld) := goodIn_app (goodIn_of _ (by decide +kernel)) ggX8_asBlown_X8_asHeld
theorem dX8_asBlown_0 : decode cX8_asBlown 0 = .ok (.aload_n 0, 1) := by decide +kernel
theorem dX8_asBlown_1 : decode cX8_asBlown 1 = .ok (.dup, 1) := by decide +kernel
theorem dX8_asBlown_2 : decode cX8_asBlown 2 = .ok (.getfield 240, 3) := by decide +kernel
theorem dX8_asBlown_5 : decode cX8_asBlown 5 = .ok (.ldc2_w 266, 3) := by decide +kernel
theorem dX8_asBlown_8 : decode cX8_asBlown 8 = .ok (.ladd, 1) := by decide +kernel
theorem dX8_asBlown_9 : decode cX8_asBlown 9 = .ok (.putfield 240, 3) := by decide +kernel
theorem dX8_asBlown_12 : decode cX8_asBlown 12 = .ok (.iconst 2, 1) := by decide +kernel
theorem dX8_asBlown_13 : decode cX8_asBlown 13 = .ok (.aload_n 0, 1) := by decide +kernel
theorem dX8_asBlown_14 : decode cX8_asBlown 14 = .ok (.iload_n 1, 1) := by decide +kernel
theorem dX8_asBlown_15 : decode cX8_asBlown 15 = .ok (.invokevirtual 198, 3) := by decide +kernel
theorem dX8_asBlown_18 : decode cX8_asBlown 18 = .ok (.imul, 1) := by decide +kernel
theorem dX8_asBlown_19 : decode cX8_asBlown 19 = .ok (.ireturn, 1) := by decide +kernel
set_option maxRecDepth 20000 in
theorem ggX8_asDrummed_X8_asStruck : GoodIn wsX8_asDrummed wsX8_asStruck := goodIn_r _ [9, 1, 10, 11, 12, 13, 14, 15, 8, 16, 17, 18, 19, 20, 21, 22, 23, 24, 28, 29, 30, 31, 32, 33, 34, 35, 36, 37] (by decide +kernel) (by decide +kernel)
set_option maxRecDepth 20000 in
theorem gX8_asDrummed_X8_asStruck : GoodIn wsX8_asDrummed (wsV RX8 195 RX8 yX8_asStruck wsX8_asStruck) := goodIn_app (goodIn_of _ (by decide +kernel)) ggX8_asDrummed_X8_asStruck
theorem dX8_asDrummed_0 : decode cX8_asDrummed 0 = .ok (.aload_n 0, 1) := by decide +kernel
theorem dX8_asDrummed_1 : decode cX8_asDrummed 1 = .ok (.dup, 1) := by decide +kernel
theorem dX8_asDrummed_2 : decode cX8_asDrummed 2 = .ok (.getfield 240, 3) := by decide +kernel
theorem dX8_asDrummed_5 : decode cX8_asDrummed 5 = .ok (.ldc2_w 268, 3) := by decide +kernel
theorem dX8_asDrummed_8 : decode cX8_asDrummed 8 = .ok (.ladd, 1) := by decide +kernel
theorem dX8_asDrummed_9 : decode cX8_asDrummed 9 = .ok (.putfield 240, 3) := by decide +kernel
theorem dX8_asDrummed_12 : decode cX8_asDrummed 12 = .ok (.aload_n 0, 1) := by decide +kernel
theorem dX8_asDrummed_13 : decode cX8_asDrummed 13 = .ok (.iload_n 1, 1) := by decide +kernel
theorem dX8_asDrummed_14 : decode cX8_asDrummed 14 = .ok (.invokevirtual 195, 3) := by decide +kernel
theorem dX8_asDrummed_17 : decode cX8_asDrummed 17 = .ok (.aload_n 0, 1) := by decide +kernel
theorem dX8_asDrummed_18 : decode cX8_asDrummed 18 = .ok (.getfield 19, 3) := by decide +kernel
theorem dX8_asDrummed_21 : decode cX8_asDrummed 21 = .ok (.getfield 116, 3) := by decide +kernel
theorem dX8_asDrummed_24 : decode cX8_asDrummed 24 = .ok (.isub, 1) := by decide +kernel
theorem dX8_asDrummed_25 : decode cX8_asDrummed 25 = .ok (.ireturn, 1) := by decide +kernel
set_option maxRecDepth 20000 in
theorem ggX8_asMany_X8_asNoise : GoodIn wsX8_asMany wsX8_asNoise := goodIn_r _ [9, 1, 3, 4, 10, 11, 12, 13, 14, 15, 16, 17, 18, 19, 20, 21, 22, 23, 24, 25, 26, 27] (by decide +kernel) (by decide +kernel)
set_option maxRecDepth 20000 in
theorem gX8_asMany_X8_asNoise : GoodIn wsX8_asMany (wsV RX8 192 RX8 yX8_asNoise wsX8_asNoise) := goodIn_app (goodIn_of _ (by decide +kernel)) ggX8_asMany_X8_asNoise
theorem dX8_asMany_0 : decode cX8_asMany 0 = .ok (.aload_n 0, 1) := by decide +kernel
theorem dX8_asMany_1 : decode cX8_asMany 1 = .ok (.dup, 1) := by decide +kernel
theorem dX8_asMany_2 : decode cX8_asMany 2 = .ok (.getfield 240, 3) := by decide +kernel
theorem dX8_asMany_5 : decode cX8_asMany 5 = .ok (.ldc2_w 270, 3) := by decide +kernel
theorem dX8_asMany_8 : decode cX8_asMany 8 = .ok (.ladd, 1) := by decide +kernel
theorem dX8_asMany_9 : decode cX8_asMany 9 = .ok (.putfield 240, 3) := by decide +kernel
theorem dX8_asMany_12 : decode cX8_asMany 12 = .ok (.aload_n 0, 1) := by decide +kernel
theorem dX8_asMany_13 : decode cX8_asMany 13 = .ok (.iload_n 1, 1) := by decide +kernel
theorem dX8_asMany_14 : decode cX8_asMany 14 = .ok (.invokevirtual 192, 3) := by decide +kernel
theorem dX8_asMany_17 : decode cX8_asMany 17 = .ok (.aload_n 0, 1) := by decide +kernel
theorem dX8_asMany_18 : decode cX8_asMany 18 = .ok (.getfield 46, 3) := by decide +kernel
theorem dX8_asMany_21 : decode cX8_asMany 21 = .ok (.getfield 122, 3) := by decide +kernel
theorem dX8_asMany_24 : decode cX8_asMany 24 = .ok (.iload_n 1, 1) := by decide +kernel
theorem dX8_asMany_25 : decode cX8_asMany 25 = .ok (.aaload, 1) := by decide +kernel
theorem dX8_asMany_26 : decode cX8_asMany 26 = .ok (.iconst 2, 1) := by decide +kernel
theorem dX8_asMany_27 : decode cX8_asMany 27 = .ok (.iaload, 1) := by decide +kernel
theorem dX8_asMany_28 : decode cX8_asMany 28 = .ok (.iadd, 1) := by decide +kernel
theorem dX8_asMany_29 : decode cX8_asMany 29 = .ok (.ireturn, 1) := by decide +kernel
set_option maxRecDepth 20000 in
theorem ggX9_init_X9_begins : GoodIn wsX9_init wsX9_begins := goodIn_r _ [19, 20, 21, 22, 23, 7, 32, 33, 34, 35, 36, 37, 38, 39, 40, 41, 42, 43, 44, 45, 46, 47, 48, 49, 50, 51, 52, 53, 54, 55, 56, 57, 58] (by decide +kernel) (by decide +kernel)
set_option maxRecDepth 20000 in
theorem gX9_init_X9_begins : GoodIn wsX9_init (wsV RX9 39 RX9 yX9_begins wsX9_begins) := goodIn_app (goodIn_of _ (by decide +kernel)) ggX9_init_X9_begins
set_option maxRecDepth 20000 in
theorem ggX9_init_X9_adopts : GoodIn wsX9_init wsX9_adopts := goodIn_r _ [27, 20, 28, 21, 29, 22, 30, 23, 31, 6, 7, 11, 12, 10, 32, 33, 34, 35, 36, 37, 38, 39, 40, 41, 42, 43, 44, 45, 46, 47, 48, 49, 50, 51, 52, 53, 54, 55, 56, 57, 58] (by decide +kernel) (by decide +kernel)
