set_option maxRecDepth 20000 in
theorem gX4_wholeDay_X4_choose : GoodIn wsX4_wholeDay (wsV RX4 63 RX4 yX4_choose wsX4_choose) := goodIn_app (goodIn_of _ (by decide +kernel)) ggX4_wholeDay_X4_choose
theorem dX4_wholeDay_0 : decode cX4_wholeDay 0 = .ok (.iconst 0, 1) := by decide +kernel
theorem dX4_wholeDay_1 : decode cX4_wholeDay 1 = .ok (.istore_n 3, 1) := by decide +kernel
theorem dX4_wholeDay_2 : decode cX4_wholeDay 2 = .ok (.iconst 0, 1) := by decide +kernel
theorem dX4_wholeDay_3 : decode cX4_wholeDay 3 = .ok (.istore 4, 2) := by decide +kernel
theorem dX4_wholeDay_5 : decode cX4_wholeDay 5 = .ok (.iload 4, 2) := by decide +kernel
theorem dX4_wholeDay_7 : decode cX4_wholeDay 7 = .ok (.bipush 12, 2) := by decide +kernel
theorem dX4_wholeDay_9 : decode cX4_wholeDay 9 = .ok (.if_icmp .ge 24, 3) := by decide +kernel
theorem dX4_wholeDay_12 : decode cX4_wholeDay 12 = .ok (.aload_n 0, 1) := by decide +kernel
theorem dX4_wholeDay_13 : decode cX4_wholeDay 13 = .ok (.aload_n 1, 1) := by decide +kernel
theorem dX4_wholeDay_14 : decode cX4_wholeDay 14 = .ok (.iload 4, 2) := by decide +kernel
theorem dX4_wholeDay_16 : decode cX4_wholeDay 16 = .ok (.iload_n 2, 1) := by decide +kernel
theorem dX4_wholeDay_17 : decode cX4_wholeDay 17 = .ok (.invokevirtual 63, 3) := by decide +kernel
theorem dX4_wholeDay_20 : decode cX4_wholeDay 20 = .ok (.iload_n 3, 1) := by decide +kernel
theorem dX4_wholeDay_21 : decode cX4_wholeDay 21 = .ok (.aload_n 0, 1) := by decide +kernel
theorem dX4_wholeDay_22 : decode cX4_wholeDay 22 = .ok (.getfield 47, 3) := by decide +kernel
theorem dX4_wholeDay_25 : decode cX4_wholeDay 25 = .ok (.iadd, 1) := by decide +kernel
theorem dX4_wholeDay_26 : decode cX4_wholeDay 26 = .ok (.istore_n 3, 1) := by decide +kernel
theorem dX4_wholeDay_27 : decode cX4_wholeDay 27 = .ok (.iinc 4 1, 3) := by decide +kernel
theorem dX4_wholeDay_30 : decode cX4_wholeDay 30 = .ok (.goto (-25), 3) := by decide +kernel
theorem dX4_wholeDay_33 : decode cX4_wholeDay 33 = .ok (.iload_n 3, 1) := by decide +kernel
theorem dX4_wholeDay_34 : decode cX4_wholeDay 34 = .ok (.ireturn, 1) := by decide +kernel
set_option maxRecDepth 20000 in
theorem ggX5_init_X7_init : GoodIn wsX5_init wsX7_init := goodIn_r _ [11, 12, 2, 3, 8, 13, 14, 15] (by decide +kernel) (by decide +kernel)
set_option maxRecDepth 20000 in
theorem gX5_init_X7_init_n11 : GoodIn wsX5_init (wsX7_init) := ggX5_init_X7_init
theorem dX5_init_0 : decode cX5_init 0 = .ok (.aload_n 0, 1) := by decide +kernel
theorem dX5_init_1 : decode cX5_init 1 = .ok (.invokespecial 3, 3) := by decide +kernel
theorem dX5_init_4 : decode cX5_init 4 = .ok (.aload_n 0, 1) := by decide +kernel
theorem dX5_init_5 : decode cX5_init 5 = .ok (.new 9, 3) := by decide +kernel
theorem dX5_init_8 : decode cX5_init 8 = .ok (.dup, 1) := by decide +kernel
theorem dX5_init_9 : decode cX5_init 9 = .ok (.invokespecial 11, 3) := by decide +kernel
theorem dX5_init_12 : decode cX5_init 12 = .ok (.putfield 12, 3) := by decide +kernel
theorem dX5_init_15 : decode cX5_init 15 = .ok (.aload_n 0, 1) := by decide +kernel
theorem dX5_init_16 : decode cX5_init 16 = .ok (.iconst 2, 1) := by decide +kernel
theorem dX5_init_17 : decode cX5_init 17 = .ok (.newarray .int, 2) := by decide +kernel
theorem dX5_init_19 : decode cX5_init 19 = .ok (.putfield 18, 3) := by decide +kernel
theorem dX5_init_22 : decode cX5_init 22 = .ok (.return_, 1) := by decide +kernel
set_option maxRecDepth 20000 in
theorem ggX5_read_X2_startAnew : GoodIn wsX5_read wsX2_startAnew := goodIn_r _ [9, 10, 11, 12, 13, 14, 15, 16, 17, 18, 19, 20, 21, 22, 23, 24, 25, 26, 27, 181, 182, 183, 184, 185, 186, 187, 188, 189, 190, 191, 192, 193, 194] (by decide +kernel) (by decide +kernel)
set_option maxRecDepth 20000 in
theorem gX5_read_X2_startAnew : GoodIn wsX5_read (wsV RX5 22 RX2 yX2_startAnew wsX2_startAnew) := goodIn_app (goodIn_of _ (by decide +kernel)) ggX5_read_X2_startAnew
set_option maxRecDepth 20000 in
theorem ggX5_read_X5_nextToken : GoodIn wsX5_read wsX5_nextToken := goodIn_r _ [32, 1, 33, 34, 35, 4, 2, 36, 37, 38, 31, 39, 40, 41, 42, 43, 44, 45, 46, 47, 48, 49, 50, 51, 52, 53, 54, 55, 56, 57, 58, 59, 60, 61, 62, 63, 64, 65, 66, 67, 68, 69, 70, 71, 72, 73, 74, 75, 76, 77, 78, 79, 80, 81, 82, 83, 84, 85, 86, 87, 88, 89, 90, 91, 92, 93, 94, 95, 96, 97, 98, 99, 100, 101, 102, 103, 104, 105, 175, 176, 177, 178, 179, 180, 195, 196] (by decide +kernel) (by decide +kernel)
set_option maxRecDepth 20000 in
theorem gX5_read_X5_nextToken : GoodIn wsX5_read (wsV RX5 31 RX5 yX5_nextToken wsX5_nextToken) := goodIn_app (goodIn_of _ (by decide +kernel)) ggX5_read_X5_nextToken
set_option maxRecDepth 20000 in
theorem ggX5_read_X5_readSize : GoodIn wsX5_read wsX5_readSize := goodIn_r _ [109, 110, 111, 112, 113, 114, 115, 31, 116, 2, 105, 28, 29, 30, 32, 1, 33, 34, 35, 4, 36, 37, 38, 39, 40, 41, 42, 43, 44, 45, 46, 47, 48, 49, 50, 51, 52, 53, 54, 55, 56, 57, 58, 59, 60, 61, 62, 63, 64, 65, 66, 67, 68, 69, 70, 71, 72, 73, 74, 75, 76, 77, 78, 79, 80, 81, 82, 83, 84, 85, 86, 87, 88, 89, 90, 91, 92, 93, 94, 95, 96, 97, 98, 99, 100, 101, 102, 103, 104, 117, 118, 119, 175, 176, 177, 178, 179, 180, 181, 182, 183, 184, 185, 186, 187, 188, 189, 190, 195, 196] (by decide +kernel) (by decide +kernel)
set_option maxRecDepth 20000 in
theorem gX5_read_X5_readSize : GoodIn wsX5_read (wsV RX5 37 RX5 yX5_readSize wsX5_readSize) := goodIn_app (goodIn_of _ (by decide +kernel)) ggX5_read_X5_readSize
set_option maxRecDepth 20000 in
theorem ggX5_read_X5_readBorder : GoodIn wsX5_read wsX5_readBorder := goodIn_r _ [123, 110, 3, 124, 125, 126, 8, 127, 10, 11, 113, 114, 115, 31, 116, 2, 105, 28, 29, 30, 32, 1, 33, 34, 35, 4, 36, 37, 38, 39, 40, 41, 42, 43, 44, 45, 46, 47, 48, 49, 50, 51, 52, 53, 54, 55, 56, 57, 58, 59, 60, 61, 62, 63, 64, 65, 66, 67, 68, 69, 70, 71, 72, 73, 74, 75, 76, 77, 78, 79, 80, 81, 82, 83, 84, 85, 86, 87, 88, 89, 90, 91, 92, 93, 94, 95, 96, 97, 98, 99, 100, 101, 102, 103, 104, 117, 118, 119, 128, 129, 130, 131, 132, 133, 134, 135, 136, 137, 138, 139, 140, 141, 142, 143, 144, 145, 146, 147, 148, 149, 150, 151, 18, 152, 20, 21, 175, 176, 177, 178, 179, 180, 181, 182, 183, 184, 185, 186, 187, 188, 189, 190, 195, 196, 191, 192, 193, 194] (by decide +kernel) (by decide +kernel)
set_option maxRecDepth 20000 in
theorem gX5_read_X5_readBorder : GoodIn wsX5_read (wsV RX5 41 RX5 yX5_readBorder wsX5_readBorder) := goodIn_app (goodIn_of _ (by decide +kernel)) ggX5_read_X5_readBorder
set_option maxRecDepth 20000 in
theorem ggX5_read_X5_readWind : GoodIn wsX5_read wsX5_readWind := goodIn_r _ [156, 2, 110, 157, 158, 28, 29, 30, 31, 32, 1, 33, 34, 35, 4, 36, 37, 38, 39, 40, 41, 42, 43, 44, 45, 46, 47, 48, 49, 50, 51, 52, 53, 54, 55, 56, 57, 58, 59, 60, 61, 62, 63, 64, 65, 66, 67, 68, 69, 70, 71, 72, 73, 74, 75, 76, 77, 78, 79, 80, 81, 82, 83, 84, 85, 86, 87, 88, 89, 90, 91, 92, 93, 94, 95, 96, 97, 98, 99, 100, 101, 102, 103, 104, 105, 113, 114, 115, 116, 117, 118, 119, 175, 176, 177, 178, 179, 180, 191, 192, 193, 194, 195, 196] (by decide +kernel) (by decide +kernel)
set_option maxRecDepth 20000 in
theorem gX5_read_X5_readWind : GoodIn wsX5_read (wsV RX5 49 RX5 yX5_readWind wsX5_readWind) := goodIn_app (goodIn_of _ (by decide +kernel)) ggX5_read_X5_readWind
set_option maxRecDepth 20000 in
theorem ggX5_read_X5_readWorker : GoodIn wsX5_read wsX5_readWorker := goodIn_r _ [162, 163, 164, 124, 125, 126, 8, 127, 10, 11, 113, 114, 115, 31, 116, 2, 105, 28, 29, 30, 32, 1, 33, 34, 35, 4, 36, 37, 38, 39, 40, 41, 42, 43, 44, 45, 46, 47, 48, 49, 50, 51, 52, 53, 54, 55, 56, 57, 58, 59, 60, 61, 62, 63, 64, 65, 66, 67, 68, 69, 70, 71, 72, 73, 74, 75, 76, 77, 78, 79, 80, 81, 82, 83, 84, 85, 86, 87, 88, 89, 90, 91, 92, 93, 94, 95, 96, 97, 98, 99, 100, 101, 102, 103, 104, 117, 118, 119, 181, 182, 183, 184, 185, 186, 187, 188, 189, 190, 175, 176, 177, 178, 179, 180, 195, 196] (by decide +kernel) (by decide +kernel)
set_option maxRecDepth 20000 in
theorem gX5_read_X5_readWorker : GoodIn wsX5_read (wsV RX5 53 RX5 yX5_readWorker wsX5_readWorker) := goodIn_app (goodIn_of _ (by decide +kernel)) ggX5_read_X5_readWorker
set_option maxRecDepth 20000 in
theorem ggX5_read_X5_readDeed : GoodIn wsX5_read wsX5_readDeed := goodIn_r _ [168, 169, 170, 124, 125, 126, 8, 127, 10, 11, 113, 114, 115, 31, 116, 2, 105, 28, 29, 30, 32, 1, 33, 34, 35, 4, 36, 37, 38, 39, 40, 41, 42, 43, 44, 45, 46, 47, 48, 49, 50, 51, 52, 53, 54, 55, 56, 57, 58, 59, 60, 61, 62, 63, 64, 65, 66, 67, 68, 69, 70, 71, 72, 73, 74, 75, 76, 77, 78, 79, 80, 81, 82, 83, 84, 85, 86, 87, 88, 89, 90, 91, 92, 93, 94, 95, 96, 97, 98, 99, 100, 101, 102, 103, 104, 117, 118, 119, 181, 182, 183, 184, 185, 186, 187, 188, 189, 190, 175, 176, 177, 178, 179, 180, 195, 196] (by decide +kernel) (by decide +kernel)
set_option maxRecDepth 20000 in
theorem gX5_read_X5_readDeed : GoodIn wsX5_read (wsV RX5 56 RX5 yX5_readDeed wsX5_readDeed) := goodIn_app (goodIn_of _ (by decide +kernel)) ggX5_read_X5_readDeed
set_option maxRecDepth 20000 in
theorem ggX5_read_X5_readSemicolon : GoodIn wsX5_read wsX5_readSemicolon := goodIn_r _ [174, 2, 28, 29, 30, 31, 32, 1, 33, 34, 35, 4, 36, 37, 38, 39, 40, 41, 42, 43, 44, 45, 46, 47, 48, 49, 50, 51, 52, 53, 54, 55, 56, 57, 58, 59, 60, 61, 62, 63, 64, 65, 66, 67, 68, 69, 70, 71, 72, 73, 74, 75, 76, 77, 78, 79, 80, 81, 82, 83, 84, 85, 86, 87, 88, 89, 90, 91, 92, 93, 94, 95, 96, 97, 98, 99, 100, 101, 102, 103, 104, 105, 175, 176, 177, 178, 179, 180, 195, 196] (by decide +kernel) (by decide +kernel)
set_option maxRecDepth 20000 in
theorem gX5_read_X5_readSemicolon : GoodIn wsX5_read (wsV RX5 59 RX5 yX5_readSemicolon wsX5_readSemicolon) := goodIn_app (goodIn_of _ (by decide +kernel)) ggX5_read_X5_readSemicolon
theorem dX5_read_0 : decode cX5_read 0 = .ok (.aload_n 1, 1) := by decide +kernel
theorem dX5_read_1 : decode cX5_read 1 = .ok (.invokevirtual 22, 3) := by decide +kernel
theorem dX5_read_4 : decode cX5_read 4 = .ok (.aload_n 0, 1) := by decide +kernel
theorem dX5_read_5 : decode cX5_read 5 = .ok (.iconst 0, 1) := by decide +kernel
theorem dX5_read_6 : decode cX5_read 6 = .ok (.putfield 27, 3) := by decide +kernel
theorem dX5_read_9 : decode cX5_read 9 = .ok (.iconst 0, 1) := by decide +kernel
theorem dX5_read_10 : decode cX5_read 10 = .ok (.istore_n 2, 1) := by decide +kernel
theorem dX5_read_11 : decode cX5_read 11 = .ok (.iload_n 2, 1) := by decide +kernel
theorem dX5_read_12 : decode cX5_read 12 = .ok (.sipush 400, 3) := by decide +kernel
theorem dX5_read_15 : decode cX5_read 15 = .ok (.if_icmp .gt 173, 3) := by decide +kernel
theorem dX5_read_18 : decode cX5_read 18 = .ok (.aload_n 0, 1) := by decide +kernel
theorem dX5_read_19 : decode cX5_read 19 = .ok (.invokevirtual 31, 3) := by decide +kernel
theorem dX5_read_22 : decode cX5_read 22 = .ok (.aload_n 0, 1) := by decide +kernel
theorem dX5_read_23 : decode cX5_read 23 = .ok (.getfield 34, 3) := by decide +kernel
theorem dX5_read_26 : decode cX5_read 26 = .ok (.ifCond .ne 5, 3) := by decide +kernel
theorem dX5_read_29 : decode cX5_read 29 = .ok (.iload_n 2, 1) := by decide +kernel
theorem dX5_read_30 : decode cX5_read 30 = .ok (.ireturn, 1) := by decide +kernel
theorem dX5_read_31 : decode cX5_read 31 = .ok (.aload_n 0, 1) := by decide +kernel
theorem dX5_read_32 : decode cX5_read 32 = .ok (.getfield 34, 3) := by decide +kernel
theorem dX5_read_35 : decode cX5_read 35 = .ok (.tableswitch 124 4 13 #[53, 74, 84, 94, 124, 124, 124, 124, 106, 115], 53) := by decide +kernel
theorem dX5_read_88 : decode cX5_read 88 = .ok (.iload_n 2, 1) := by decide +kernel
theorem dX5_read_89 : decode cX5_read 89 = .ok (.ifCond .ne 15, 3) := by decide +kernel
theorem dX5_read_92 : decode cX5_read 92 = .ok (.aload_n 0, 1) := by decide +kernel
theorem dX5_read_93 : decode cX5_read 93 = .ok (.aload_n 1, 1) := by decide +kernel
theorem dX5_read_94 : decode cX5_read 94 = .ok (.invokevirtual 37, 3) := by decide +kernel
theorem dX5_read_97 : decode cX5_read 97 = .ok (.ifCond .eq 7, 3) := by decide +kernel
theorem dX5_read_100 : decode cX5_read 100 = .ok (.iconst 1, 1) := by decide +kernel
theorem dX5_read_101 : decode cX5_read 101 = .ok (.goto 4, 3) := by decide +kernel
theorem dX5_read_104 : decode cX5_read 104 = .ok (.iconst 0, 1) := by decide +kernel
theorem dX5_read_105 : decode cX5_read 105 = .ok (.istore_n 3, 1) := by decide +kernel
theorem dX5_read_106 : decode cX5_read 106 = .ok (.goto 55, 3) := by decide +kernel
theorem dX5_read_109 : decode cX5_read 109 = .ok (.aload_n 0, 1) := by decide +kernel
theorem dX5_read_110 : decode cX5_read 110 = .ok (.aload_n 1, 1) := by decide +kernel
theorem dX5_read_111 : decode cX5_read 111 = .ok (.iconst 0, 1) := by decide +kernel
theorem dX5_read_112 : decode cX5_read 112 = .ok (.invokevirtual 41, 3) := by decide +kernel
theorem dX5_read_115 : decode cX5_read 115 = .ok (.istore_n 3, 1) := by decide +kernel
theorem dX5_read_116 : decode cX5_read 116 = .ok (.goto 45, 3) := by decide +kernel
theorem dX5_read_119 : decode cX5_read 119 = .ok (.aload_n 0, 1) := by decide +kernel
theorem dX5_read_120 : decode cX5_read 120 = .ok (.aload_n 1, 1) := by decide +kernel
theorem dX5_read_121 : decode cX5_read 121 = .ok (.iconst 1, 1) := by decide +kernel
theorem dX5_read_122 : decode cX5_read 122 = .ok (.invokevirtual 41, 3) := by decide +kernel
theorem dX5_read_125 : decode cX5_read 125 = .ok (.istore_n 3, 1) := by decide +kernel
theorem dX5_read_126 : decode cX5_read 126 = .ok (.goto 35, 3) := by decide +kernel
theorem dX5_read_129 : decode cX5_read 129 = .ok (.aload_n 0, 1) := by decide +kernel
theorem dX5_read_130 : decode cX5_read 130 = .ok (.aload_n 1, 1) := by decide +kernel
theorem dX5_read_131 : decode cX5_read 131 = .ok (.getfield 45, 3) := by decide +kernel
theorem dX5_read_134 : decode cX5_read 134 = .ok (.invokevirtual 49, 3) := by decide +kernel
theorem dX5_read_137 : decode cX5_read 137 = .ok (.istore_n 3, 1) := by decide +kernel
theorem dX5_read_138 : decode cX5_read 138 = .ok (.goto 23, 3) := by decide +kernel
theorem dX5_read_141 : decode cX5_read 141 = .ok (.aload_n 0, 1) := by decide +kernel
theorem dX5_read_142 : decode cX5_read 142 = .ok (.aload_n 1, 1) := by decide +kernel
theorem dX5_read_143 : decode cX5_read 143 = .ok (.invokevirtual 53, 3) := by decide +kernel
theorem dX5_read_146 : decode cX5_read 146 = .ok (.istore_n 3, 1) := by decide +kernel
theorem dX5_read_147 : decode cX5_read 147 = .ok (.goto 14, 3) := by decide +kernel
theorem dX5_read_150 : decode cX5_read 150 = .ok (.aload_n 0, 1) := by decide +kernel
theorem dX5_read_151 : decode cX5_read 151 = .ok (.aload_n 1, 1) := by decide +kernel
theorem dX5_read_152 : decode cX5_read 152 = .ok (.invokevirtual 56, 3) := by decide +kernel
theorem dX5_read_155 : decode cX5_read 155 = .ok (.istore_n 3, 1) := by decide +kernel
theorem dX5_read_156 : decode cX5_read 156 = .ok (.goto 5, 3) := by decide +kernel
theorem dX5_read_159 : decode cX5_read 159 = .ok (.iconst 0, 1) := by decide +kernel
theorem dX5_read_160 : decode cX5_read 160 = .ok (.istore_n 3, 1) := by decide +kernel
theorem dX5_read_161 : decode cX5_read 161 = .ok (.iload_n 3, 1) := by decide +kernel
theorem dX5_read_162 : decode cX5_read 162 = .ok (.ifCond .eq 8, 3) := by decide +kernel
theorem dX5_read_165 : decode cX5_read 165 = .ok (.aload_n 0, 1) := by decide +kernel
theorem dX5_read_166 : decode cX5_read 166 = .ok (.invokevirtual 59, 3) := by decide +kernel
theorem dX5_read_169 : decode cX5_read 169 = .ok (.istore_n 3, 1) := by decide +kernel
theorem dX5_read_170 : decode cX5_read 170 = .ok (.iload_n 3, 1) := by decide +kernel
theorem dX5_read_171 : decode cX5_read 171 = .ok (.ifCond .ne 11, 3) := by decide +kernel
theorem dX5_read_174 : decode cX5_read 174 = .ok (.bipush (-10), 2) := by decide +kernel
theorem dX5_read_176 : decode cX5_read 176 = .ok (.aload_n 0, 1) := by decide +kernel
theorem dX5_read_177 : decode cX5_read 177 = .ok (.getfield 63, 3) := by decide +kernel
theorem dX5_read_180 : decode cX5_read 180 = .ok (.isub, 1) := by decide +kernel
theorem dX5_read_181 : decode cX5_read 181 = .ok (.ireturn, 1) := by decide +kernel
theorem dX5_read_182 : decode cX5_read 182 = .ok (.iinc 2 1, 3) := by decide +kernel
theorem dX5_read_185 : decode cX5_read 185 = .ok (.goto (-174), 3) := by decide +kernel
theorem dX5_read_188 : decode cX5_read 188 = .ok (.bipush (-10), 2) := by decide +kernel
theorem dX5_read_190 : decode cX5_read 190 = .ok (.aload_n 0, 1) := by decide +kernel
theorem dX5_read_191 : decode cX5_read 191 = .ok (.getfield 63, 3) := by decide +kernel
theorem dX5_read_194 : decode cX5_read 194 = .ok (.isub, 1) := by decide +kernel
theorem dX5_read_195 : decode cX5_read 195 = .ok (.ireturn, 1) := by decide +kernel
set_option maxRecDepth 20000 in
theorem ggX5_readSize_X5_readNumber : GoodIn wsX5_readSize wsX5_readNumber := goodIn_r _ [8, 9, 10, 11, 12, 13, 7, 14, 15, 16, 17, 18, 19, 20, 21, 22, 23, 24, 25, 26, 27, 28, 29, 30, 31, 32, 33, 34, 35, 36, 37, 38, 39, 40, 41, 42, 43, 44, 45, 46, 47, 48, 49, 50, 51, 52, 53, 54, 55, 56, 57, 58, 59, 60, 61, 62, 63, 64, 65, 66, 67, 68, 69, 70, 71, 72, 73, 74, 75, 76, 77, 78, 79, 80, 81, 82, 83, 84, 85, 86, 87, 88, 89, 90, 91, 92, 93, 94, 95, 96, 97, 108, 109] (by decide +kernel) (by decide +kernel)
set_option maxRecDepth 20000 in
theorem gX5_readSize_X5_readNumber : GoodIn wsX5_readSize (wsV RX5 66 RX5 yX5_readNumber wsX5_readNumber) := goodIn_app (goodIn_of _ (by decide +kernel)) ggX5_readSize_X5_readNumber
theorem dX5_readSize_0 : decode cX5_readSize 0 = .ok (.aload_n 0, 1) := by decide +kernel
theorem dX5_readSize_1 : decode cX5_readSize 1 = .ok (.iconst 1, 1) := by decide +kernel
theorem dX5_readSize_2 : decode cX5_readSize 2 = .ok (.bipush 8, 2) := by decide +kernel
theorem dX5_readSize_4 : decode cX5_readSize 4 = .ok (.aload_n 0, 1) := by decide +kernel
theorem dX5_readSize_5 : decode cX5_readSize 5 = .ok (.getfield 18, 3) := by decide +kernel
theorem dX5_readSize_8 : decode cX5_readSize 8 = .ok (.iconst 0, 1) := by decide +kernel
theorem dX5_readSize_9 : decode cX5_readSize 9 = .ok (.invokevirtual 66, 3) := by decide +kernel
theorem dX5_readSize_12 : decode cX5_readSize 12 = .ok (.ifCond .eq 18, 3) := by decide +kernel
theorem dX5_readSize_15 : decode cX5_readSize 15 = .ok (.aload_n 0, 1) := by decide +kernel
theorem dX5_readSize_16 : decode cX5_readSize 16 = .ok (.iconst 1, 1) := by decide +kernel
theorem dX5_readSize_17 : decode cX5_readSize 17 = .ok (.bipush 6, 2) := by decide +kernel
theorem dX5_readSize_19 : decode cX5_readSize 19 = .ok (.aload_n 0, 1) := by decide +kernel
theorem dX5_readSize_20 : decode cX5_readSize 20 = .ok (.getfield 18, 3) := by decide +kernel
theorem dX5_readSize_23 : decode cX5_readSize 23 = .ok (.iconst 1, 1) := by decide +kernel
theorem dX5_readSize_24 : decode cX5_readSize 24 = .ok (.invokevirtual 66, 3) := by decide +kernel
theorem dX5_readSize_27 : decode cX5_readSize 27 = .ok (.ifCond .ne 5, 3) := by decide +kernel
theorem dX5_readSize_30 : decode cX5_readSize 30 = .ok (.iconst 0, 1) := by decide +kernel
theorem dX5_readSize_31 : decode cX5_readSize 31 = .ok (.ireturn, 1) := by decide +kernel
theorem dX5_readSize_32 : decode cX5_readSize 32 = .ok (.aload_n 1, 1) := by decide +kernel
theorem dX5_readSize_33 : decode cX5_readSize 33 = .ok (.aload_n 0, 1) := by decide +kernel
theorem dX5_readSize_34 : decode cX5_readSize 34 = .ok (.getfield 18, 3) := by decide +kernel
theorem dX5_readSize_37 : decode cX5_readSize 37 = .ok (.iconst 0, 1) := by decide +kernel
theorem dX5_readSize_38 : decode cX5_readSize 38 = .ok (.iaload, 1) := by decide +kernel
theorem dX5_readSize_39 : decode cX5_readSize 39 = .ok (.putfield 70, 3) := by decide +kernel
theorem dX5_readSize_42 : decode cX5_readSize 42 = .ok (.aload_n 1, 1) := by decide +kernel
theorem dX5_readSize_43 : decode cX5_readSize 43 = .ok (.aload_n 0, 1) := by decide +kernel
theorem dX5_readSize_44 : decode cX5_readSize 44 = .ok (.getfield 18, 3) := by decide +kernel
theorem dX5_readSize_47 : decode cX5_readSize 47 = .ok (.iconst 1, 1) := by decide +kernel
theorem dX5_readSize_48 : decode cX5_readSize 48 = .ok (.iaload, 1) := by decide +kernel
theorem dX5_readSize_49 : decode cX5_readSize 49 = .ok (.putfield 73, 3) := by decide +kernel
theorem dX5_readSize_52 : decode cX5_readSize 52 = .ok (.iconst 1, 1) := by decide +kernel
theorem dX5_readSize_53 : decode cX5_readSize 53 = .ok (.ireturn, 1) := by decide +kernel
set_option maxRecDepth 20000 in
theorem ggX5_readBorder_X2_yards : GoodIn wsX5_readBorder wsX2_yards := goodIn_r _ [7, 8, 9, 132, 133, 134, 135, 136, 137, 138, 139, 140, 141] (by decide +kernel) (by decide +kernel)
set_option maxRecDepth 20000 in
theorem gX5_readBorder_X2_yards : GoodIn wsX5_readBorder (wsV RX5 76 RX2 yX2_yards wsX2_yards) := goodIn_app (goodIn_of _ (by decide +kernel)) ggX5_readBorder_X2_yards
set_option maxRecDepth 20000 in
theorem ggX5_readBorder_X5_readNumber : GoodIn wsX5_readBorder wsX5_readNumber := goodIn_r _ [14, 15, 16, 17, 18, 19, 13, 20, 21, 22, 23, 24, 25, 26, 27, 28, 29, 30, 31, 32, 33, 34, 35, 36, 37, 38, 39, 40, 41, 42, 43, 44, 45, 46, 47, 48, 49, 50, 51, 52, 53, 54, 55, 56, 57, 58, 59, 60, 61, 62, 63, 64, 65, 66, 67, 68, 69, 70, 71, 72, 73, 74, 75, 76, 77, 78, 79, 80, 81, 82, 83, 84, 85, 86, 87, 88, 89, 90, 91, 92, 93, 94, 95, 96, 97, 126, 127, 128, 129, 130, 131, 142, 143] (by decide +kernel) (by decide +kernel)
set_option maxRecDepth 20000 in
theorem gX5_readBorder_X5_readNumber : GoodIn wsX5_readBorder (wsV RX5 66 RX5 yX5_readNumber wsX5_readNumber) := goodIn_app (goodIn_of _ (by decide +kernel)) ggX5_readBorder_X5_readNumber
set_option maxRecDepth 20000 in
theorem ggX5_readBorder_X2_borderOf : GoodIn wsX5_readBorder wsX2_borderOf := goodIn_r _ [101, 102, 103, 104, 105, 106, 107, 108, 109, 110, 111, 6, 112, 8, 9, 113, 114, 115, 116, 132, 133, 134, 135, 136, 137, 138, 139, 140, 141] (by decide +kernel) (by decide +kernel)
set_option maxRecDepth 20000 in
theorem gX5_readBorder_X2_borderOf : GoodIn wsX5_readBorder (wsV RX5 80 RX2 yX2_borderOf wsX2_borderOf) := goodIn_app (goodIn_of _ (by decide +kernel)) ggX5_readBorder_X2_borderOf
set_option maxRecDepth 20000 in
theorem ggX5_readBorder_X8_mostOf : GoodIn wsX5_readBorder wsX8_mostOf := goodIn_r _ [118] (by decide +kernel) (by decide +kernel)
set_option maxRecDepth 20000 in
theorem gX5_readBorder_X8_mostOf_n84 : GoodIn wsX5_readBorder (wsX8_mostOf) := ggX5_readBorder_X8_mostOf
set_option maxRecDepth 20000 in
theorem ggX5_readBorder_X0_rowOf : GoodIn wsX5_readBorder wsX0_rowOf := goodIn_r _ [123, 124, 125, 144, 145, 146, 147] (by decide +kernel) (by decide +kernel)
set_option maxRecDepth 20000 in
theorem gX5_readBorder_X0_rowOf : GoodIn wsX5_readBorder (wsV RX5 88 RX0 yX0_rowOf wsX0_rowOf) := goodIn_app (goodIn_of _ (by decide +kernel)) ggX5_readBorder_X0_rowOf
theorem dX5_readBorder_0 : decode cX5_readBorder 0 = .ok (.aload_n 0, 1) := by decide +kernel
theorem dX5_readBorder_1 : decode cX5_readBorder 1 = .ok (.iconst 0, 1) := by decide +kernel
theorem dX5_readBorder_2 : decode cX5_readBorder 2 = .ok (.aload_n 1, 1) := by decide +kernel
theorem dX5_readBorder_3 : decode cX5_readBorder 3 = .ok (.invokevirtual 76, 3) := by decide +kernel
theorem dX5_readBorder_6 : decode cX5_readBorder 6 = .ok (.iconst 1, 1) := by decide +kernel
theorem dX5_readBorder_7 : decode cX5_readBorder 7 = .ok (.isub, 1) := by decide +kernel
theorem dX5_readBorder_8 : decode cX5_readBorder 8 = .ok (.aload_n 0, 1) := by decide +kernel
theorem dX5_readBorder_9 : decode cX5_readBorder 9 = .ok (.getfield 18, 3) := by decide +kernel
theorem dX5_readBorder_12 : decode cX5_readBorder 12 = .ok (.iconst 0, 1) := by decide +kernel
theorem dX5_readBorder_13 : decode cX5_readBorder 13 = .ok (.invokevirtual 66, 3) := by decide +kernel
theorem dX5_readBorder_16 : decode cX5_readBorder 16 = .ok (.ifCond .ne 5, 3) := by decide +kernel
theorem dX5_readBorder_19 : decode cX5_readBorder 19 = .ok (.iconst 0, 1) := by decide +kernel
theorem dX5_readBorder_20 : decode cX5_readBorder 20 = .ok (.ireturn, 1) := by decide +kernel
theorem dX5_readBorder_21 : decode cX5_readBorder 21 = .ok (.aload_n 0, 1) := by decide +kernel
theorem dX5_readBorder_22 : decode cX5_readBorder 22 = .ok (.iconst 0, 1) := by decide +kernel
theorem dX5_readBorder_23 : decode cX5_readBorder 23 = .ok (.aload_n 1, 1) := by decide +kernel
theorem dX5_readBorder_24 : decode cX5_readBorder 24 = .ok (.invokevirtual 76, 3) := by decide +kernel
theorem dX5_readBorder_27 : decode cX5_readBorder 27 = .ok (.iconst 1, 1) := by decide +kernel
theorem dX5_readBorder_28 : decode cX5_readBorder 28 = .ok (.isub, 1) := by decide +kernel
theorem dX5_readBorder_29 : decode cX5_readBorder 29 = .ok (.aload_n 0, 1) := by decide +kernel
theorem dX5_readBorder_30 : decode cX5_readBorder 30 = .ok (.getfield 18, 3) := by decide +kernel
theorem dX5_readBorder_33 : decode cX5_readBorder 33 = .ok (.iconst 1, 1) := by decide +kernel
theorem dX5_readBorder_34 : decode cX5_readBorder 34 = .ok (.invokevirtual 66, 3) := by decide +kernel
theorem dX5_readBorder_37 : decode cX5_readBorder 37 = .ok (.ifCond .ne 5, 3) := by decide +kernel
theorem dX5_readBorder_40 : decode cX5_readBorder 40 = .ok (.iconst 0, 1) := by decide +kernel
theorem dX5_readBorder_41 : decode cX5_readBorder 41 = .ok (.ireturn, 1) := by decide +kernel
theorem dX5_readBorder_42 : decode cX5_readBorder 42 = .ok (.aload_n 1, 1) := by decide +kernel
theorem dX5_readBorder_43 : decode cX5_readBorder 43 = .ok (.aload_n 0, 1) := by decide +kernel
theorem dX5_readBorder_44 : decode cX5_readBorder 44 = .ok (.getfield 18, 3) := by decide +kernel
theorem dX5_readBorder_47 : decode cX5_readBorder 47 = .ok (.iconst 0, 1) := by decide +kernel
theorem dX5_readBorder_48 : decode cX5_readBorder 48 = .ok (.iaload, 1) := by decide +kernel
theorem dX5_readBorder_49 : decode cX5_readBorder 49 = .ok (.aload_n 0, 1) := by decide +kernel
theorem dX5_readBorder_50 : decode cX5_readBorder 50 = .ok (.getfield 18, 3) := by decide +kernel
theorem dX5_readBorder_53 : decode cX5_readBorder 53 = .ok (.iconst 1, 1) := by decide +kernel
theorem dX5_readBorder_54 : decode cX5_readBorder 54 = .ok (.iaload, 1) := by decide +kernel
theorem dX5_readBorder_55 : decode cX5_readBorder 55 = .ok (.invokevirtual 80, 3) := by decide +kernel
theorem dX5_readBorder_58 : decode cX5_readBorder 58 = .ok (.istore_n 3, 1) := by decide +kernel
theorem dX5_readBorder_59 : decode cX5_readBorder 59 = .ok (.iload_n 3, 1) := by decide +kernel
theorem dX5_readBorder_60 : decode cX5_readBorder 60 = .ok (.ifCond .lt 28, 3) := by decide +kernel
theorem dX5_readBorder_63 : decode cX5_readBorder 63 = .ok (.aload_n 0, 1) := by decide +kernel
theorem dX5_readBorder_64 : decode cX5_readBorder 64 = .ok (.iconst 0, 1) := by decide +kernel
theorem dX5_readBorder_65 : decode cX5_readBorder 65 = .ok (.iload_n 2, 1) := by decide +kernel
theorem dX5_readBorder_66 : decode cX5_readBorder 66 = .ok (.invokestatic 84, 3) := by decide +kernel
theorem dX5_readBorder_69 : decode cX5_readBorder 69 = .ok (.aload_n 1, 1) := by decide +kernel
theorem dX5_readBorder_70 : decode cX5_readBorder 70 = .ok (.getfield 45, 3) := by decide +kernel
theorem dX5_readBorder_73 : decode cX5_readBorder 73 = .ok (.iload_n 2, 1) := by decide +kernel
theorem dX5_readBorder_74 : decode cX5_readBorder 74 = .ok (.invokevirtual 88, 3) := by decide +kernel
theorem dX5_readBorder_77 : decode cX5_readBorder 77 = .ok (.iload_n 3, 1) := by decide +kernel
theorem dX5_readBorder_78 : decode cX5_readBorder 78 = .ok (.invokevirtual 66, 3) := by decide +kernel
theorem dX5_readBorder_81 : decode cX5_readBorder 81 = .ok (.ifCond .eq 7, 3) := by decide +kernel
theorem dX5_readBorder_84 : decode cX5_readBorder 84 = .ok (.iconst 1, 1) := by decide +kernel
theorem dX5_readBorder_85 : decode cX5_readBorder 85 = .ok (.goto 4, 3) := by decide +kernel
theorem dX5_readBorder_88 : decode cX5_readBorder 88 = .ok (.iconst 0, 1) := by decide +kernel
theorem dX5_readBorder_89 : decode cX5_readBorder 89 = .ok (.ireturn, 1) := by decide +kernel
set_option maxRecDepth 20000 in
theorem ggX5_readWind_X5_nextToken : GoodIn wsX5_readWind wsX5_nextToken := goodIn_r _ [9, 10, 11, 12, 13, 14, 1, 15, 16, 17, 8, 18, 19, 20, 21, 22, 23, 24, 25, 26, 27, 28, 29, 30, 31, 32, 33, 34, 35, 36, 37, 38, 39, 40, 41, 42, 43, 44, 45, 46, 47, 48, 49, 50, 51, 52, 53, 54, 55, 56, 57, 58, 59, 60, 61, 62, 63, 64, 65, 66, 67, 68, 69, 70, 71, 72, 73, 74, 75, 76, 77, 78, 79, 80, 81, 82, 83, 84, 92, 93, 94, 95, 96, 97, 102, 103] (by decide +kernel) (by decide +kernel)
set_option maxRecDepth 20000 in
theorem gX5_readWind_X5_nextToken : GoodIn wsX5_readWind (wsV RX5 31 RX5 yX5_nextToken wsX5_nextToken) := goodIn_app (goodIn_of _ (by decide +kernel)) ggX5_readWind_X5_nextToken
set_option maxRecDepth 20000 in
theorem ggX5_readWind_X5_readNumber : GoodIn wsX5_readWind wsX5_readNumber := goodIn_r _ [88, 1, 84, 5, 6, 7, 8, 9, 10, 11, 12, 13, 14, 15, 16, 17, 18, 19, 20, 21, 22, 23, 24, 25, 26, 27, 28, 29, 30, 31, 32, 33, 34, 35, 36, 37, 38, 39, 40, 41, 42, 43, 44, 45, 46, 47, 48, 49, 50, 51, 52, 53, 54, 55, 56, 57, 58, 59, 60, 61, 62, 63, 64, 65, 66, 67, 68, 69, 70, 71, 72, 73, 74, 75, 76, 77, 78, 79, 80, 81, 82, 83, 89, 90, 91, 92, 93, 94, 95, 96, 97, 102, 103] (by decide +kernel) (by decide +kernel)
set_option maxRecDepth 20000 in
theorem gX5_readWind_X5_readNumber : GoodIn wsX5_readWind (wsV RX5 66 RX5 yX5_readNumber wsX5_readNumber) := goodIn_app (goodIn_of _ (by decide +kernel)) ggX5_readWind_X5_readNumber
theorem dX5_readWind_0 : decode cX5_readWind 0 = .ok (.aload_n 0, 1) := by decide +kernel
theorem dX5_readWind_1 : decode cX5_readWind 1 = .ok (.invokevirtual 31, 3) := by decide +kernel
theorem dX5_readWind_4 : decode cX5_readWind 4 = .ok (.aload_n 0, 1) := by decide +kernel
theorem dX5_readWind_5 : decode cX5_readWind 5 = .ok (.getfield 34, 3) := by decide +kernel
theorem dX5_readWind_8 : decode cX5_readWind 8 = .ok (.istore_n 2, 1) := by decide +kernel
theorem dX5_readWind_9 : decode cX5_readWind 9 = .ok (.iload_n 2, 1) := by decide +kernel
theorem dX5_readWind_10 : decode cX5_readWind 10 = .ok (.bipush 8, 2) := by decide +kernel
theorem dX5_readWind_12 : decode cX5_readWind 12 = .ok (.if_icmp .eq 23, 3) := by decide +kernel
theorem dX5_readWind_15 : decode cX5_readWind 15 = .ok (.iload_n 2, 1) := by decide +kernel
theorem dX5_readWind_16 : decode cX5_readWind 16 = .ok (.bipush 9, 2) := by decide +kernel
theorem dX5_readWind_18 : decode cX5_readWind 18 = .ok (.if_icmp .eq 17, 3) := by decide +kernel
theorem dX5_readWind_21 : decode cX5_readWind 21 = .ok (.iload_n 2, 1) := by decide +kernel
theorem dX5_readWind_22 : decode cX5_readWind 22 = .ok (.bipush 10, 2) := by decide +kernel
theorem dX5_readWind_24 : decode cX5_readWind 24 = .ok (.if_icmp .eq 11, 3) := by decide +kernel
theorem dX5_readWind_27 : decode cX5_readWind 27 = .ok (.iload_n 2, 1) := by decide +kernel
theorem dX5_readWind_28 : decode cX5_readWind 28 = .ok (.bipush 11, 2) := by decide +kernel
theorem dX5_readWind_30 : decode cX5_readWind 30 = .ok (.if_icmp .eq 5, 3) := by decide +kernel
theorem dX5_readWind_33 : decode cX5_readWind 33 = .ok (.iconst 0, 1) := by decide +kernel
theorem dX5_readWind_34 : decode cX5_readWind 34 = .ok (.ireturn, 1) := by decide +kernel
theorem dX5_readWind_35 : decode cX5_readWind 35 = .ok (.aload_n 0, 1) := by decide +kernel
theorem dX5_readWind_36 : decode cX5_readWind 36 = .ok (.iconst 0, 1) := by decide +kernel
theorem dX5_readWind_37 : decode cX5_readWind 37 = .ok (.iconst 2, 1) := by decide +kernel
theorem dX5_readWind_38 : decode cX5_readWind 38 = .ok (.aload_n 0, 1) := by decide +kernel
theorem dX5_readWind_39 : decode cX5_readWind 39 = .ok (.getfield 18, 3) := by decide +kernel
theorem dX5_readWind_42 : decode cX5_readWind 42 = .ok (.iconst 0, 1) := by decide +kernel
theorem dX5_readWind_43 : decode cX5_readWind 43 = .ok (.invokevirtual 66, 3) := by decide +kernel
theorem dX5_readWind_46 : decode cX5_readWind 46 = .ok (.ifCond .ne 5, 3) := by decide +kernel
theorem dX5_readWind_49 : decode cX5_readWind 49 = .ok (.iconst 0, 1) := by decide +kernel
theorem dX5_readWind_50 : decode cX5_readWind 50 = .ok (.ireturn, 1) := by decide +kernel
theorem dX5_readWind_51 : decode cX5_readWind 51 = .ok (.iload_n 2, 1) := by decide +kernel
theorem dX5_readWind_52 : decode cX5_readWind 52 = .ok (.bipush 8, 2) := by decide +kernel
theorem dX5_readWind_54 : decode cX5_readWind 54 = .ok (.if_icmp .eq 9, 3) := by decide +kernel
theorem dX5_readWind_57 : decode cX5_readWind 57 = .ok (.iload_n 2, 1) := by decide +kernel
theorem dX5_readWind_58 : decode cX5_readWind 58 = .ok (.bipush 10, 2) := by decide +kernel
theorem dX5_readWind_60 : decode cX5_readWind 60 = .ok (.if_icmp .ne 12, 3) := by decide +kernel
theorem dX5_readWind_63 : decode cX5_readWind 63 = .ok (.aload_n 0, 1) := by decide +kernel
theorem dX5_readWind_64 : decode cX5_readWind 64 = .ok (.getfield 18, 3) := by decide +kernel
theorem dX5_readWind_67 : decode cX5_readWind 67 = .ok (.iconst 0, 1) := by decide +kernel
theorem dX5_readWind_68 : decode cX5_readWind 68 = .ok (.iaload, 1) := by decide +kernel
theorem dX5_readWind_69 : decode cX5_readWind 69 = .ok (.goto 10, 3) := by decide +kernel
theorem dX5_readWind_72 : decode cX5_readWind 72 = .ok (.aload_n 0, 1) := by decide +kernel
theorem dX5_readWind_73 : decode cX5_readWind 73 = .ok (.getfield 18, 3) := by decide +kernel
theorem dX5_readWind_76 : decode cX5_readWind 76 = .ok (.iconst 0, 1) := by decide +kernel
theorem dX5_readWind_77 : decode cX5_readWind 77 = .ok (.iaload, 1) := by decide +kernel
theorem dX5_readWind_78 : decode cX5_readWind 78 = .ok (.ineg, 1) := by decide +kernel
theorem dX5_readWind_79 : decode cX5_readWind 79 = .ok (.istore_n 3, 1) := by decide +kernel
theorem dX5_readWind_80 : decode cX5_readWind 80 = .ok (.iload_n 2, 1) := by decide +kernel
theorem dX5_readWind_81 : decode cX5_readWind 81 = .ok (.bipush 8, 2) := by decide +kernel
theorem dX5_readWind_83 : decode cX5_readWind 83 = .ok (.if_icmp .eq 9, 3) := by decide +kernel
theorem dX5_readWind_86 : decode cX5_readWind 86 = .ok (.iload_n 2, 1) := by decide +kernel
theorem dX5_readWind_87 : decode cX5_readWind 87 = .ok (.bipush 9, 2) := by decide +kernel
theorem dX5_readWind_89 : decode cX5_readWind 89 = .ok (.if_icmp .ne 11, 3) := by decide +kernel
theorem dX5_readWind_92 : decode cX5_readWind 92 = .ok (.aload_n 1, 1) := by decide +kernel
theorem dX5_readWind_93 : decode cX5_readWind 93 = .ok (.iload_n 3, 1) := by decide +kernel
theorem dX5_readWind_94 : decode cX5_readWind 94 = .ok (.putfield 94, 3) := by decide +kernel
theorem dX5_readWind_97 : decode cX5_readWind 97 = .ok (.goto 8, 3) := by decide +kernel
theorem dX5_readWind_100 : decode cX5_readWind 100 = .ok (.aload_n 1, 1) := by decide +kernel
theorem dX5_readWind_101 : decode cX5_readWind 101 = .ok (.iload_n 3, 1) := by decide +kernel
theorem dX5_readWind_102 : decode cX5_readWind 102 = .ok (.putfield 97, 3) := by decide +kernel
theorem dX5_readWind_105 : decode cX5_readWind 105 = .ok (.iconst 1, 1) := by decide +kernel
theorem dX5_readWind_106 : decode cX5_readWind 106 = .ok (.ireturn, 1) := by decide +kernel
set_option maxRecDepth 20000 in
theorem ggX5_readWorker_X2_yards : GoodIn wsX5_readWorker wsX2_yards := goodIn_r _ [7, 8, 9, 98, 99, 100, 101, 102, 103, 104, 105, 106, 107] (by decide +kernel) (by decide +kernel)
set_option maxRecDepth 20000 in
theorem gX5_readWorker_X2_yards : GoodIn wsX5_readWorker (wsV RX5 76 RX2 yX2_yards wsX2_yards) := goodIn_app (goodIn_of _ (by decide +kernel)) ggX5_readWorker_X2_yards
set_option maxRecDepth 20000 in
theorem ggX5_readWorker_X5_readNumber : GoodIn wsX5_readWorker wsX5_readNumber := goodIn_r _ [14, 15, 16, 17, 18, 19, 13, 20, 21, 22, 23, 24, 25, 26, 27, 28, 29, 30, 31, 32, 33, 34, 35, 36, 37, 38, 39, 40, 41, 42, 43, 44, 45, 46, 47, 48, 49, 50, 51, 52, 53, 54, 55, 56, 57, 58, 59, 60, 61, 62, 63, 64, 65, 66, 67, 68, 69, 70, 71, 72, 73, 74, 75, 76, 77, 78, 79, 80, 81, 82, 83, 84, 85, 86, 87, 88, 89, 90, 91, 92, 93, 94, 95, 96, 97, 108, 109, 110, 111, 112, 113, 114, 115] (by decide +kernel) (by decide +kernel)
set_option maxRecDepth 20000 in
theorem gX5_readWorker_X5_readNumber : GoodIn wsX5_readWorker (wsV RX5 66 RX5 yX5_readNumber wsX5_readNumber) := goodIn_app (goodIn_of _ (by decide +kernel)) ggX5_readWorker_X5_readNumber
theorem dX5_readWorker_0 : decode cX5_readWorker 0 = .ok (.aload_n 1, 1) := by decide +kernel
theorem dX5_readWorker_1 : decode cX5_readWorker 1 = .ok (.getfield 100, 3) := by decide +kernel
theorem dX5_readWorker_4 : decode cX5_readWorker 4 = .ok (.bipush 6, 2) := by decide +kernel
theorem dX5_readWorker_6 : decode cX5_readWorker 6 = .ok (.if_icmp .lt 5, 3) := by decide +kernel
theorem dX5_readWorker_9 : decode cX5_readWorker 9 = .ok (.iconst 0, 1) := by decide +kernel
theorem dX5_readWorker_10 : decode cX5_readWorker 10 = .ok (.ireturn, 1) := by decide +kernel
theorem dX5_readWorker_11 : decode cX5_readWorker 11 = .ok (.aload_n 1, 1) := by decide +kernel
theorem dX5_readWorker_12 : decode cX5_readWorker 12 = .ok (.getfield 103, 3) := by decide +kernel
theorem dX5_readWorker_15 : decode cX5_readWorker 15 = .ok (.aload_n 1, 1) := by decide +kernel
theorem dX5_readWorker_16 : decode cX5_readWorker 16 = .ok (.getfield 100, 3) := by decide +kernel
theorem dX5_readWorker_19 : decode cX5_readWorker 19 = .ok (.aaload, 1) := by decide +kernel
theorem dX5_readWorker_20 : decode cX5_readWorker 20 = .ok (.astore_n 2, 1) := by decide +kernel
theorem dX5_readWorker_21 : decode cX5_readWorker 21 = .ok (.aload_n 1, 1) := by decide +kernel
theorem dX5_readWorker_22 : decode cX5_readWorker 22 = .ok (.dup, 1) := by decide +kernel
theorem dX5_readWorker_23 : decode cX5_readWorker 23 = .ok (.getfield 100, 3) := by decide +kernel
theorem dX5_readWorker_26 : decode cX5_readWorker 26 = .ok (.iconst 1, 1) := by decide +kernel
theorem dX5_readWorker_27 : decode cX5_readWorker 27 = .ok (.iadd, 1) := by decide +kernel
theorem dX5_readWorker_28 : decode cX5_readWorker 28 = .ok (.putfield 100, 3) := by decide +kernel
theorem dX5_readWorker_31 : decode cX5_readWorker 31 = .ok (.aload_n 0, 1) := by decide +kernel
theorem dX5_readWorker_32 : decode cX5_readWorker 32 = .ok (.iconst 0, 1) := by decide +kernel
theorem dX5_readWorker_33 : decode cX5_readWorker 33 = .ok (.aload_n 1, 1) := by decide +kernel
theorem dX5_readWorker_34 : decode cX5_readWorker 34 = .ok (.invokevirtual 76, 3) := by decide +kernel
theorem dX5_readWorker_37 : decode cX5_readWorker 37 = .ok (.iconst 1, 1) := by decide +kernel
theorem dX5_readWorker_38 : decode cX5_readWorker 38 = .ok (.isub, 1) := by decide +kernel
theorem dX5_readWorker_39 : decode cX5_readWorker 39 = .ok (.aload_n 2, 1) := by decide +kernel
theorem dX5_readWorker_40 : decode cX5_readWorker 40 = .ok (.iconst 0, 1) := by decide +kernel
theorem dX5_readWorker_41 : decode cX5_readWorker 41 = .ok (.invokevirtual 66, 3) := by decide +kernel
theorem dX5_readWorker_44 : decode cX5_readWorker 44 = .ok (.ifCond .eq 42, 3) := by decide +kernel
theorem dX5_readWorker_47 : decode cX5_readWorker 47 = .ok (.aload_n 0, 1) := by decide +kernel
theorem dX5_readWorker_48 : decode cX5_readWorker 48 = .ok (.iconst 1, 1) := by decide +kernel
theorem dX5_readWorker_49 : decode cX5_readWorker 49 = .ok (.bipush 99, 2) := by decide +kernel
theorem dX5_readWorker_51 : decode cX5_readWorker 51 = .ok (.aload_n 2, 1) := by decide +kernel
theorem dX5_readWorker_52 : decode cX5_readWorker 52 = .ok (.iconst 1, 1) := by decide +kernel
theorem dX5_readWorker_53 : decode cX5_readWorker 53 = .ok (.invokevirtual 66, 3) := by decide +kernel
theorem dX5_readWorker_56 : decode cX5_readWorker 56 = .ok (.ifCond .eq 30, 3) := by decide +kernel
theorem dX5_readWorker_59 : decode cX5_readWorker 59 = .ok (.aload_n 0, 1) := by decide +kernel
theorem dX5_readWorker_60 : decode cX5_readWorker 60 = .ok (.iconst 0, 1) := by decide +kernel
theorem dX5_readWorker_61 : decode cX5_readWorker 61 = .ok (.iconst 4, 1) := by decide +kernel
theorem dX5_readWorker_62 : decode cX5_readWorker 62 = .ok (.aload_n 2, 1) := by decide +kernel
theorem dX5_readWorker_63 : decode cX5_readWorker 63 = .ok (.iconst 2, 1) := by decide +kernel
theorem dX5_readWorker_64 : decode cX5_readWorker 64 = .ok (.invokevirtual 66, 3) := by decide +kernel
theorem dX5_readWorker_67 : decode cX5_readWorker 67 = .ok (.ifCond .eq 19, 3) := by decide +kernel
theorem dX5_readWorker_70 : decode cX5_readWorker 70 = .ok (.aload_n 0, 1) := by decide +kernel
theorem dX5_readWorker_71 : decode cX5_readWorker 71 = .ok (.iconst 0, 1) := by decide +kernel
theorem dX5_readWorker_72 : decode cX5_readWorker 72 = .ok (.bipush 99, 2) := by decide +kernel
theorem dX5_readWorker_74 : decode cX5_readWorker 74 = .ok (.aload_n 2, 1) := by decide +kernel
theorem dX5_readWorker_75 : decode cX5_readWorker 75 = .ok (.iconst 3, 1) := by decide +kernel
theorem dX5_readWorker_76 : decode cX5_readWorker 76 = .ok (.invokevirtual 66, 3) := by decide +kernel
theorem dX5_readWorker_79 : decode cX5_readWorker 79 = .ok (.ifCond .eq 7, 3) := by decide +kernel
theorem dX5_readWorker_82 : decode cX5_readWorker 82 = .ok (.iconst 1, 1) := by decide +kernel
theorem dX5_readWorker_83 : decode cX5_readWorker 83 = .ok (.goto 4, 3) := by decide +kernel
theorem dX5_readWorker_86 : decode cX5_readWorker 86 = .ok (.iconst 0, 1) := by decide +kernel
theorem dX5_readWorker_87 : decode cX5_readWorker 87 = .ok (.ireturn, 1) := by decide +kernel
set_option maxRecDepth 20000 in
theorem ggX5_readDeed_X2_yards : GoodIn wsX5_readDeed wsX2_yards := goodIn_r _ [7, 8, 9, 98, 99, 100, 101, 102, 103, 104, 105, 106, 107] (by decide +kernel) (by decide +kernel)
set_option maxRecDepth 20000 in
theorem gX5_readDeed_X2_yards : GoodIn wsX5_readDeed (wsV RX5 76 RX2 yX2_yards wsX2_yards) := goodIn_app (goodIn_of _ (by decide +kernel)) ggX5_readDeed_X2_yards
set_option maxRecDepth 20000 in
theorem ggX5_readDeed_X5_readNumber : GoodIn wsX5_readDeed wsX5_readNumber := goodIn_r _ [14, 15, 16, 17, 18, 19, 13, 20, 21, 22, 23, 24, 25, 26, 27, 28, 29, 30, 31, 32, 33, 34, 35, 36, 37, 38, 39, 40, 41, 42, 43, 44, 45, 46, 47, 48, 49, 50, 51, 52, 53, 54, 55, 56, 57, 58, 59, 60, 61, 62, 63, 64, 65, 66, 67, 68, 69, 70, 71, 72, 73, 74, 75, 76, 77, 78, 79, 80, 81, 82, 83, 84, 85, 86, 87, 88, 89, 90, 91, 92, 93, 94, 95, 96, 97, 108, 109, 110, 111, 112, 113, 114, 115] (by decide +kernel) (by decide +kernel)
set_option maxRecDepth 20000 in
theorem gX5_readDeed_X5_readNumber : GoodIn wsX5_readDeed (wsV RX5 66 RX5 yX5_readNumber wsX5_readNumber) := goodIn_app (goodIn_of _ (by decide +kernel)) ggX5_readDeed_X5_readNumber
theorem dX5_readDeed_0 : decode cX5_readDeed 0 = .ok (.aload_n 1, 1) := by decide +kernel
theorem dX5_readDeed_1 : decode cX5_readDeed 1 = .ok (.getfield 107, 3) := by decide +kernel
theorem dX5_readDeed_4 : decode cX5_readDeed 4 = .ok (.bipush 8, 2) := by decide +kernel
theorem dX5_readDeed_6 : decode cX5_readDeed 6 = .ok (.if_icmp .lt 5, 3) := by decide +kernel
theorem dX5_readDeed_9 : decode cX5_readDeed 9 = .ok (.iconst 0, 1) := by decide +kernel
theorem dX5_readDeed_10 : decode cX5_readDeed 10 = .ok (.ireturn, 1) := by decide +kernel
theorem dX5_readDeed_11 : decode cX5_readDeed 11 = .ok (.aload_n 1, 1) := by decide +kernel
theorem dX5_readDeed_12 : decode cX5_readDeed 12 = .ok (.getfield 110, 3) := by decide +kernel
theorem dX5_readDeed_15 : decode cX5_readDeed 15 = .ok (.aload_n 1, 1) := by decide +kernel
theorem dX5_readDeed_16 : decode cX5_readDeed 16 = .ok (.getfield 107, 3) := by decide +kernel
theorem dX5_readDeed_19 : decode cX5_readDeed 19 = .ok (.aaload, 1) := by decide +kernel
theorem dX5_readDeed_20 : decode cX5_readDeed 20 = .ok (.astore_n 2, 1) := by decide +kernel
theorem dX5_readDeed_21 : decode cX5_readDeed 21 = .ok (.aload_n 1, 1) := by decide +kernel
theorem dX5_readDeed_22 : decode cX5_readDeed 22 = .ok (.dup, 1) := by decide +kernel
theorem dX5_readDeed_23 : decode cX5_readDeed 23 = .ok (.getfield 107, 3) := by decide +kernel
theorem dX5_readDeed_26 : decode cX5_readDeed 26 = .ok (.iconst 1, 1) := by decide +kernel
theorem dX5_readDeed_27 : decode cX5_readDeed 27 = .ok (.iadd, 1) := by decide +kernel
theorem dX5_readDeed_28 : decode cX5_readDeed 28 = .ok (.putfield 107, 3) := by decide +kernel
theorem dX5_readDeed_31 : decode cX5_readDeed 31 = .ok (.aload_n 0, 1) := by decide +kernel
theorem dX5_readDeed_32 : decode cX5_readDeed 32 = .ok (.iconst 0, 1) := by decide +kernel
theorem dX5_readDeed_33 : decode cX5_readDeed 33 = .ok (.aload_n 1, 1) := by decide +kernel
theorem dX5_readDeed_34 : decode cX5_readDeed 34 = .ok (.invokevirtual 76, 3) := by decide +kernel
theorem dX5_readDeed_37 : decode cX5_readDeed 37 = .ok (.iconst 1, 1) := by decide +kernel
theorem dX5_readDeed_38 : decode cX5_readDeed 38 = .ok (.isub, 1) := by decide +kernel
theorem dX5_readDeed_39 : decode cX5_readDeed 39 = .ok (.aload_n 2, 1) := by decide +kernel
theorem dX5_readDeed_40 : decode cX5_readDeed 40 = .ok (.iconst 0, 1) := by decide +kernel
theorem dX5_readDeed_41 : decode cX5_readDeed 41 = .ok (.invokevirtual 66, 3) := by decide +kernel
theorem dX5_readDeed_44 : decode cX5_readDeed 44 = .ok (.ifCond .eq 57, 3) := by decide +kernel
theorem dX5_readDeed_47 : decode cX5_readDeed 47 = .ok (.aload_n 0, 1) := by decide +kernel
theorem dX5_readDeed_48 : decode cX5_readDeed 48 = .ok (.iconst 0, 1) := by decide +kernel
theorem dX5_readDeed_49 : decode cX5_readDeed 49 = .ok (.bipush 11, 2) := by decide +kernel
theorem dX5_readDeed_51 : decode cX5_readDeed 51 = .ok (.aload_n 2, 1) := by decide +kernel
theorem dX5_readDeed_52 : decode cX5_readDeed 52 = .ok (.iconst 1, 1) := by decide +kernel
theorem dX5_readDeed_53 : decode cX5_readDeed 53 = .ok (.invokevirtual 66, 3) := by decide +kernel
theorem dX5_readDeed_56 : decode cX5_readDeed 56 = .ok (.ifCond .eq 45, 3) := by decide +kernel
theorem dX5_readDeed_59 : decode cX5_readDeed 59 = .ok (.aload_n 0, 1) := by decide +kernel
theorem dX5_readDeed_60 : decode cX5_readDeed 60 = .ok (.aload_n 2, 1) := by decide +kernel
theorem dX5_readDeed_61 : decode cX5_readDeed 61 = .ok (.iconst 1, 1) := by decide +kernel
theorem dX5_readDeed_62 : decode cX5_readDeed 62 = .ok (.iaload, 1) := by decide +kernel
theorem dX5_readDeed_63 : decode cX5_readDeed 63 = .ok (.bipush 11, 2) := by decide +kernel
theorem dX5_readDeed_65 : decode cX5_readDeed 65 = .ok (.aload_n 2, 1) := by decide +kernel
theorem dX5_readDeed_66 : decode cX5_readDeed 66 = .ok (.iconst 2, 1) := by decide +kernel
theorem dX5_readDeed_67 : decode cX5_readDeed 67 = .ok (.invokevirtual 66, 3) := by decide +kernel
theorem dX5_readDeed_70 : decode cX5_readDeed 70 = .ok (.ifCond .eq 31, 3) := by decide +kernel
theorem dX5_readDeed_73 : decode cX5_readDeed 73 = .ok (.aload_n 0, 1) := by decide +kernel
theorem dX5_readDeed_74 : decode cX5_readDeed 74 = .ok (.iconst 0, 1) := by decide +kernel
theorem dX5_readDeed_75 : decode cX5_readDeed 75 = .ok (.bipush 99, 2) := by decide +kernel
theorem dX5_readDeed_77 : decode cX5_readDeed 77 = .ok (.aload_n 2, 1) := by decide +kernel
theorem dX5_readDeed_78 : decode cX5_readDeed 78 = .ok (.iconst 3, 1) := by decide +kernel
theorem dX5_readDeed_79 : decode cX5_readDeed 79 = .ok (.invokevirtual 66, 3) := by decide +kernel
theorem dX5_readDeed_82 : decode cX5_readDeed 82 = .ok (.ifCond .eq 19, 3) := by decide +kernel
theorem dX5_readDeed_85 : decode cX5_readDeed 85 = .ok (.aload_n 0, 1) := by decide +kernel
theorem dX5_readDeed_86 : decode cX5_readDeed 86 = .ok (.iconst 0, 1) := by decide +kernel
theorem dX5_readDeed_87 : decode cX5_readDeed 87 = .ok (.bipush 99, 2) := by decide +kernel
theorem dX5_readDeed_89 : decode cX5_readDeed 89 = .ok (.aload_n 2, 1) := by decide +kernel
theorem dX5_readDeed_90 : decode cX5_readDeed 90 = .ok (.iconst 4, 1) := by decide +kernel
theorem dX5_readDeed_91 : decode cX5_readDeed 91 = .ok (.invokevirtual 66, 3) := by decide +kernel
theorem dX5_readDeed_94 : decode cX5_readDeed 94 = .ok (.ifCond .eq 7, 3) := by decide +kernel
theorem dX5_readDeed_97 : decode cX5_readDeed 97 = .ok (.iconst 1, 1) := by decide +kernel
theorem dX5_readDeed_98 : decode cX5_readDeed 98 = .ok (.goto 4, 3) := by decide +kernel
theorem dX5_readDeed_101 : decode cX5_readDeed 101 = .ok (.iconst 0, 1) := by decide +kernel
theorem dX5_readDeed_102 : decode cX5_readDeed 102 = .ok (.ireturn, 1) := by decide +kernel
set_option maxRecDepth 20000 in
theorem ggX5_readNumber_X5_nextToken : GoodIn wsX5_readNumber wsX5_nextToken := goodIn_r _ [7, 8, 9, 10, 11, 12, 1, 13, 14, 15, 6, 16, 17, 18, 19, 20, 21, 22, 23, 24, 25, 26, 27, 28, 29, 30, 31, 32, 33, 34, 35, 36, 37, 38, 39, 40, 41, 42, 43, 44, 45, 46, 47, 48, 49, 50, 51, 52, 53, 54, 55, 56, 57, 58, 59, 60, 61, 62, 63, 64, 65, 66, 67, 68, 69, 70, 71, 72, 73, 74, 75, 76, 77, 78, 79, 80, 81, 2, 85, 86, 87, 88, 89, 90, 91, 92] (by decide +kernel) (by decide +kernel)
set_option maxRecDepth 20000 in
theorem gX5_readNumber_X5_nextToken : GoodIn wsX5_readNumber (wsV RX5 31 RX5 yX5_nextToken wsX5_nextToken) := goodIn_app (goodIn_of _ (by decide +kernel)) ggX5_readNumber_X5_nextToken
set_option maxRecDepth 20000 in
theorem ggX5_readNumber_X8_within : GoodIn wsX5_readNumber wsX8_within := goodIn_r _ [84] (by decide +kernel) (by decide +kernel)
set_option maxRecDepth 20000 in
theorem gX5_readNumber_X8_within_n116 : GoodIn wsX5_readNumber (wsX8_within) := ggX5_readNumber_X8_within
theorem dX5_readNumber_0 : decode cX5_readNumber 0 = .ok (.aload_n 0, 1) := by decide +kernel
theorem dX5_readNumber_1 : decode cX5_readNumber 1 = .ok (.invokevirtual 31, 3) := by decide +kernel
theorem dX5_readNumber_4 : decode cX5_readNumber 4 = .ok (.aload_n 0, 1) := by decide +kernel
theorem dX5_readNumber_5 : decode cX5_readNumber 5 = .ok (.getfield 34, 3) := by decide +kernel
theorem dX5_readNumber_8 : decode cX5_readNumber 8 = .ok (.iconst 2, 1) := by decide +kernel
theorem dX5_readNumber_9 : decode cX5_readNumber 9 = .ok (.if_icmp .ne 15, 3) := by decide +kernel
theorem dX5_readNumber_12 : decode cX5_readNumber 12 = .ok (.aload_n 0, 1) := by decide +kernel
theorem dX5_readNumber_13 : decode cX5_readNumber 13 = .ok (.getfield 113, 3) := by decide +kernel
theorem dX5_readNumber_16 : decode cX5_readNumber 16 = .ok (.iload_n 1, 1) := by decide +kernel
theorem dX5_readNumber_17 : decode cX5_readNumber 17 = .ok (.iload_n 2, 1) := by decide +kernel
theorem dX5_readNumber_18 : decode cX5_readNumber 18 = .ok (.invokestatic 116, 3) := by decide +kernel
theorem dX5_readNumber_21 : decode cX5_readNumber 21 = .ok (.ifCond .ne 5, 3) := by decide +kernel
theorem dX5_readNumber_24 : decode cX5_readNumber 24 = .ok (.iconst 0, 1) := by decide +kernel
theorem dX5_readNumber_25 : decode cX5_readNumber 25 = .ok (.ireturn, 1) := by decide +kernel
theorem dX5_readNumber_26 : decode cX5_readNumber 26 = .ok (.iload 4, 2) := by decide +kernel
theorem dX5_readNumber_28 : decode cX5_readNumber 28 = .ok (.ifCond .lt 10, 3) := by decide +kernel
theorem dX5_readNumber_31 : decode cX5_readNumber 31 = .ok (.iload 4, 2) := by decide +kernel
theorem dX5_readNumber_33 : decode cX5_readNumber 33 = .ok (.aload_n 3, 1) := by decide +kernel
theorem dX5_readNumber_34 : decode cX5_readNumber 34 = .ok (.arraylength, 1) := by decide +kernel
theorem dX5_readNumber_35 : decode cX5_readNumber 35 = .ok (.if_icmp .lt 5, 3) := by decide +kernel
theorem dX5_readNumber_38 : decode cX5_readNumber 38 = .ok (.iconst 0, 1) := by decide +kernel
theorem dX5_readNumber_39 : decode cX5_readNumber 39 = .ok (.ireturn, 1) := by decide +kernel
theorem dX5_readNumber_40 : decode cX5_readNumber 40 = .ok (.aload_n 3, 1) := by decide +kernel
theorem dX5_readNumber_41 : decode cX5_readNumber 41 = .ok (.iload 4, 2) := by decide +kernel
theorem dX5_readNumber_43 : decode cX5_readNumber 43 = .ok (.aload_n 0, 1) := by decide +kernel
theorem dX5_readNumber_44 : decode cX5_readNumber 44 = .ok (.getfield 113, 3) := by decide +kernel
theorem dX5_readNumber_47 : decode cX5_readNumber 47 = .ok (.iastore, 1) := by decide +kernel
theorem dX5_readNumber_48 : decode cX5_readNumber 48 = .ok (.iconst 1, 1) := by decide +kernel
theorem dX5_readNumber_49 : decode cX5_readNumber 49 = .ok (.ireturn, 1) := by decide +kernel
set_option maxRecDepth 20000 in
theorem ggX5_readSemicolon_X5_nextToken : GoodIn wsX5_readSemicolon wsX5_nextToken := goodIn_r _ [6, 7, 8, 9, 10, 11, 1, 12, 13, 14, 5, 15, 16, 17, 18, 19, 20, 21, 22, 23, 24, 25, 26, 27, 28, 29, 30, 31, 32, 33, 34, 35, 36, 37, 38, 39, 40, 41, 42, 43, 44, 45, 46, 47, 48, 49, 50, 51, 52, 53, 54, 55, 56, 57, 58, 59, 60, 61, 62, 63, 64, 65, 66, 67, 68, 69, 70, 71, 72, 73, 74, 75, 76, 77, 78, 79, 80, 81, 82, 83, 84, 85, 86, 87, 88, 89] (by decide +kernel) (by decide +kernel)
set_option maxRecDepth 20000 in
theorem gX5_readSemicolon_X5_nextToken : GoodIn wsX5_readSemicolon (wsV RX5 31 RX5 yX5_nextToken wsX5_nextToken) := goodIn_app (goodIn_of _ (by decide +kernel)) ggX5_readSemicolon_X5_nextToken
theorem dX5_readSemicolon_0 : decode cX5_readSemicolon 0 = .ok (.aload_n 0, 1) := by decide +kernel
theorem dX5_readSemicolon_1 : decode cX5_readSemicolon 1 = .ok (.invokevirtual 31, 3) := by decide +kernel
theorem dX5_readSemicolon_4 : decode cX5_readSemicolon 4 = .ok (.aload_n 0, 1) := by decide +kernel
theorem dX5_readSemicolon_5 : decode cX5_readSemicolon 5 = .ok (.getfield 34, 3) := by decide +kernel
theorem dX5_readSemicolon_8 : decode cX5_readSemicolon 8 = .ok (.iconst 3, 1) := by decide +kernel
theorem dX5_readSemicolon_9 : decode cX5_readSemicolon 9 = .ok (.if_icmp .ne 7, 3) := by decide +kernel
theorem dX5_readSemicolon_12 : decode cX5_readSemicolon 12 = .ok (.iconst 1, 1) := by decide +kernel
theorem dX5_readSemicolon_13 : decode cX5_readSemicolon 13 = .ok (.goto 4, 3) := by decide +kernel
theorem dX5_readSemicolon_16 : decode cX5_readSemicolon 16 = .ok (.iconst 0, 1) := by decide +kernel
theorem dX5_readSemicolon_17 : decode cX5_readSemicolon 17 = .ok (.ireturn, 1) := by decide +kernel
set_option maxRecDepth 20000 in
theorem ggX5_nextToken_X5_isLetter : GoodIn wsX5_nextToken wsX5_isLetter := goodIn_r _ [11, 2, 4, 78, 79, 80, 81, 82, 83, 84, 85] (by decide +kernel) (by decide +kernel)
set_option maxRecDepth 20000 in
theorem gX5_nextToken_X5_isLetter : GoodIn wsX5_nextToken (wsV RX5 126 RX5 yX5_isLetter wsX5_isLetter) := goodIn_app (goodIn_of _ (by decide +kernel)) ggX5_nextToken_X5_isLetter
set_option maxRecDepth 20000 in
theorem ggX5_nextToken_X5_wordToken : GoodIn wsX5_nextToken wsX5_wordToken := goodIn_r _ [15, 1, 2, 3, 7, 8, 9, 10, 11, 4, 16, 17, 18, 19, 5, 20, 21, 22, 23, 24, 25, 26, 27, 28, 29, 30, 31, 32, 33, 34, 35, 36, 37, 38, 39, 40, 41, 42, 43, 44, 45, 46, 47, 48, 49, 50, 51, 52, 53, 54, 55, 56, 57, 58, 59, 60, 61, 62, 63, 64, 65, 66, 67, 68, 78, 79, 80, 81, 82, 83, 84, 85] (by decide +kernel) (by decide +kernel)
set_option maxRecDepth 20000 in
theorem gX5_nextToken_X5_wordToken : GoodIn wsX5_nextToken (wsV RX5 130 RX5 yX5_wordToken wsX5_wordToken) := goodIn_app (goodIn_of _ (by decide +kernel)) ggX5_nextToken_X5_wordToken
set_option maxRecDepth 20000 in
theorem ggX5_nextToken_X5_isDigit : GoodIn wsX5_nextToken wsX5_isDigit := goodIn_r _ [72, 2, 4, 78, 79, 80, 81, 82, 83, 84, 85] (by decide +kernel) (by decide +kernel)
set_option maxRecDepth 20000 in
theorem gX5_nextToken_X5_isDigit : GoodIn wsX5_nextToken (wsV RX5 133 RX5 yX5_isDigit wsX5_isDigit) := goodIn_app (goodIn_of _ (by decide +kernel)) ggX5_nextToken_X5_isDigit
set_option maxRecDepth 20000 in
theorem ggX5_nextToken_X5_numberToken : GoodIn wsX5_nextToken wsX5_numberToken := goodIn_r _ [76, 77, 1, 2, 3, 4, 5, 69, 70, 71, 10, 72, 78, 79, 80, 81, 82, 83, 84, 85] (by decide +kernel) (by decide +kernel)
set_option maxRecDepth 20000 in
theorem gX5_nextToken_X5_numberToken : GoodIn wsX5_nextToken (wsV RX5 136 RX5 yX5_numberToken wsX5_numberToken) := goodIn_app (goodIn_of _ (by decide +kernel)) ggX5_nextToken_X5_numberToken
theorem dX5_nextToken_0 : decode cX5_nextToken 0 = .ok (.aload_n 0, 1) := by decide +kernel
theorem dX5_nextToken_1 : decode cX5_nextToken 1 = .ok (.getfield 27, 3) := by decide +kernel
theorem dX5_nextToken_4 : decode cX5_nextToken 4 = .ok (.aload_n 0, 1) := by decide +kernel
theorem dX5_nextToken_5 : decode cX5_nextToken 5 = .ok (.getfield 12, 3) := by decide +kernel
theorem dX5_nextToken_8 : decode cX5_nextToken 8 = .ok (.getfield 120, 3) := by decide +kernel
theorem dX5_nextToken_11 : decode cX5_nextToken 11 = .ok (.if_icmp .ge 33, 3) := by decide +kernel
theorem dX5_nextToken_14 : decode cX5_nextToken 14 = .ok (.aload_n 0, 1) := by decide +kernel
theorem dX5_nextToken_15 : decode cX5_nextToken 15 = .ok (.getfield 12, 3) := by decide +kernel
theorem dX5_nextToken_18 : decode cX5_nextToken 18 = .ok (.getfield 123, 3) := by decide +kernel
theorem dX5_nextToken_21 : decode cX5_nextToken 21 = .ok (.aload_n 0, 1) := by decide +kernel
theorem dX5_nextToken_22 : decode cX5_nextToken 22 = .ok (.getfield 27, 3) := by decide +kernel
theorem dX5_nextToken_25 : decode cX5_nextToken 25 = .ok (.iaload, 1) := by decide +kernel
theorem dX5_nextToken_26 : decode cX5_nextToken 26 = .ok (.bipush 32, 2) := by decide +kernel
theorem dX5_nextToken_28 : decode cX5_nextToken 28 = .ok (.if_icmp .ne 16, 3) := by decide +kernel
theorem dX5_nextToken_31 : decode cX5_nextToken 31 = .ok (.aload_n 0, 1) := by decide +kernel
theorem dX5_nextToken_32 : decode cX5_nextToken 32 = .ok (.dup, 1) := by decide +kernel
theorem dX5_nextToken_33 : decode cX5_nextToken 33 = .ok (.getfield 27, 3) := by decide +kernel
theorem dX5_nextToken_36 : decode cX5_nextToken 36 = .ok (.iconst 1, 1) := by decide +kernel
theorem dX5_nextToken_37 : decode cX5_nextToken 37 = .ok (.iadd, 1) := by decide +kernel
theorem dX5_nextToken_38 : decode cX5_nextToken 38 = .ok (.putfield 27, 3) := by decide +kernel
theorem dX5_nextToken_41 : decode cX5_nextToken 41 = .ok (.goto (-41), 3) := by decide +kernel
theorem dX5_nextToken_44 : decode cX5_nextToken 44 = .ok (.aload_n 0, 1) := by decide +kernel
theorem dX5_nextToken_45 : decode cX5_nextToken 45 = .ok (.aload_n 0, 1) := by decide +kernel
theorem dX5_nextToken_46 : decode cX5_nextToken 46 = .ok (.getfield 27, 3) := by decide +kernel
theorem dX5_nextToken_49 : decode cX5_nextToken 49 = .ok (.putfield 63, 3) := by decide +kernel
theorem dX5_nextToken_52 : decode cX5_nextToken 52 = .ok (.aload_n 0, 1) := by decide +kernel
theorem dX5_nextToken_53 : decode cX5_nextToken 53 = .ok (.getfield 27, 3) := by decide +kernel
theorem dX5_nextToken_56 : decode cX5_nextToken 56 = .ok (.aload_n 0, 1) := by decide +kernel
theorem dX5_nextToken_57 : decode cX5_nextToken 57 = .ok (.getfield 12, 3) := by decide +kernel
theorem dX5_nextToken_60 : decode cX5_nextToken 60 = .ok (.getfield 120, 3) := by decide +kernel
theorem dX5_nextToken_63 : decode cX5_nextToken 63 = .ok (.if_icmp .lt 11, 3) := by decide +kernel
theorem dX5_nextToken_66 : decode cX5_nextToken 66 = .ok (.aload_n 0, 1) := by decide +kernel
theorem dX5_nextToken_67 : decode cX5_nextToken 67 = .ok (.iconst 0, 1) := by decide +kernel
theorem dX5_nextToken_68 : decode cX5_nextToken 68 = .ok (.putfield 34, 3) := by decide +kernel
theorem dX5_nextToken_71 : decode cX5_nextToken 71 = .ok (.goto 83, 3) := by decide +kernel
theorem dX5_nextToken_74 : decode cX5_nextToken 74 = .ok (.aload_n 0, 1) := by decide +kernel
theorem dX5_nextToken_75 : decode cX5_nextToken 75 = .ok (.aload_n 0, 1) := by decide +kernel
theorem dX5_nextToken_76 : decode cX5_nextToken 76 = .ok (.getfield 27, 3) := by decide +kernel
theorem dX5_nextToken_79 : decode cX5_nextToken 79 = .ok (.invokevirtual 126, 3) := by decide +kernel
theorem dX5_nextToken_82 : decode cX5_nextToken 82 = .ok (.ifCond .eq 14, 3) := by decide +kernel
theorem dX5_nextToken_85 : decode cX5_nextToken 85 = .ok (.aload_n 0, 1) := by decide +kernel
theorem dX5_nextToken_86 : decode cX5_nextToken 86 = .ok (.aload_n 0, 1) := by decide +kernel
theorem dX5_nextToken_87 : decode cX5_nextToken 87 = .ok (.invokevirtual 130, 3) := by decide +kernel
theorem dX5_nextToken_90 : decode cX5_nextToken 90 = .ok (.putfield 34, 3) := by decide +kernel
theorem dX5_nextToken_93 : decode cX5_nextToken 93 = .ok (.goto 61, 3) := by decide +kernel
theorem dX5_nextToken_96 : decode cX5_nextToken 96 = .ok (.aload_n 0, 1) := by decide +kernel
theorem dX5_nextToken_97 : decode cX5_nextToken 97 = .ok (.aload_n 0, 1) := by decide +kernel
theorem dX5_nextToken_98 : decode cX5_nextToken 98 = .ok (.getfield 27, 3) := by decide +kernel
theorem dX5_nextToken_101 : decode cX5_nextToken 101 = .ok (.invokevirtual 133, 3) := by decide +kernel
theorem dX5_nextToken_104 : decode cX5_nextToken 104 = .ok (.ifCond .eq 14, 3) := by decide +kernel
theorem dX5_nextToken_107 : decode cX5_nextToken 107 = .ok (.aload_n 0, 1) := by decide +kernel
theorem dX5_nextToken_108 : decode cX5_nextToken 108 = .ok (.aload_n 0, 1) := by decide +kernel
theorem dX5_nextToken_109 : decode cX5_nextToken 109 = .ok (.invokevirtual 136, 3) := by decide +kernel
theorem dX5_nextToken_112 : decode cX5_nextToken 112 = .ok (.putfield 34, 3) := by decide +kernel
theorem dX5_nextToken_115 : decode cX5_nextToken 115 = .ok (.goto 39, 3) := by decide +kernel
theorem dX5_nextToken_118 : decode cX5_nextToken 118 = .ok (.aload_n 0, 1) := by decide +kernel
theorem dX5_nextToken_119 : decode cX5_nextToken 119 = .ok (.aload_n 0, 1) := by decide +kernel
theorem dX5_nextToken_120 : decode cX5_nextToken 120 = .ok (.getfield 12, 3) := by decide +kernel
theorem dX5_nextToken_123 : decode cX5_nextToken 123 = .ok (.getfield 123, 3) := by decide +kernel
theorem dX5_nextToken_126 : decode cX5_nextToken 126 = .ok (.aload_n 0, 1) := by decide +kernel
theorem dX5_nextToken_127 : decode cX5_nextToken 127 = .ok (.getfield 27, 3) := by decide +kernel
theorem dX5_nextToken_130 : decode cX5_nextToken 130 = .ok (.iaload, 1) := by decide +kernel
theorem dX5_nextToken_131 : decode cX5_nextToken 131 = .ok (.bipush 59, 2) := by decide +kernel
theorem dX5_nextToken_133 : decode cX5_nextToken 133 = .ok (.if_icmp .ne 7, 3) := by decide +kernel
theorem dX5_nextToken_136 : decode cX5_nextToken 136 = .ok (.iconst 3, 1) := by decide +kernel
theorem dX5_nextToken_137 : decode cX5_nextToken 137 = .ok (.goto 4, 3) := by decide +kernel
theorem dX5_nextToken_140 : decode cX5_nextToken 140 = .ok (.iconst 1, 1) := by decide +kernel
theorem dX5_nextToken_141 : decode cX5_nextToken 141 = .ok (.putfield 34, 3) := by decide +kernel
theorem dX5_nextToken_144 : decode cX5_nextToken 144 = .ok (.aload_n 0, 1) := by decide +kernel
theorem dX5_nextToken_145 : decode cX5_nextToken 145 = .ok (.dup, 1) := by decide +kernel
theorem dX5_nextToken_146 : decode cX5_nextToken 146 = .ok (.getfield 27, 3) := by decide +kernel
theorem dX5_nextToken_149 : decode cX5_nextToken 149 = .ok (.iconst 1, 1) := by decide +kernel
theorem dX5_nextToken_150 : decode cX5_nextToken 150 = .ok (.iadd, 1) := by decide +kernel
theorem dX5_nextToken_151 : decode cX5_nextToken 151 = .ok (.putfield 27, 3) := by decide +kernel
theorem dX5_nextToken_154 : decode cX5_nextToken 154 = .ok (.return_, 1) := by decide +kernel
theorem dX5_isLetter_0 : decode cX5_isLetter 0 = .ok (.aload_n 0, 1) := by decide +kernel
theorem dX5_isLetter_1 : decode cX5_isLetter 1 = .ok (.getfield 12, 3) := by decide +kernel
theorem dX5_isLetter_4 : decode cX5_isLetter 4 = .ok (.getfield 123, 3) := by decide +kernel
theorem dX5_isLetter_7 : decode cX5_isLetter 7 = .ok (.iload_n 1, 1) := by decide +kernel
theorem dX5_isLetter_8 : decode cX5_isLetter 8 = .ok (.iaload, 1) := by decide +kernel
theorem dX5_isLetter_9 : decode cX5_isLetter 9 = .ok (.bipush 97, 2) := by decide +kernel
theorem dX5_isLetter_11 : decode cX5_isLetter 11 = .ok (.if_icmp .lt 21, 3) := by decide +kernel
theorem dX5_isLetter_14 : decode cX5_isLetter 14 = .ok (.aload_n 0, 1) := by decide +kernel
theorem dX5_isLetter_15 : decode cX5_isLetter 15 = .ok (.getfield 12, 3) := by decide +kernel
theorem dX5_isLetter_18 : decode cX5_isLetter 18 = .ok (.getfield 123, 3) := by decide +kernel
theorem dX5_isLetter_21 : decode cX5_isLetter 21 = .ok (.iload_n 1, 1) := by decide +kernel
theorem dX5_isLetter_22 : decode cX5_isLetter 22 = .ok (.iaload, 1) := by decide +kernel
theorem dX5_isLetter_23 : decode cX5_isLetter 23 = .ok (.bipush 122, 2) := by decide +kernel
theorem dX5_isLetter_25 : decode cX5_isLetter 25 = .ok (.if_icmp .gt 7, 3) := by decide +kernel
theorem dX5_isLetter_28 : decode cX5_isLetter 28 = .ok (.iconst 1, 1) := by decide +kernel
theorem dX5_isLetter_29 : decode cX5_isLetter 29 = .ok (.goto 4, 3) := by decide +kernel
theorem dX5_isLetter_32 : decode cX5_isLetter 32 = .ok (.iconst 0, 1) := by decide +kernel
theorem dX5_isLetter_33 : decode cX5_isLetter 33 = .ok (.ireturn, 1) := by decide +kernel
theorem dX5_isDigit_0 : decode cX5_isDigit 0 = .ok (.aload_n 0, 1) := by decide +kernel
theorem dX5_isDigit_1 : decode cX5_isDigit 1 = .ok (.getfield 12, 3) := by decide +kernel
theorem dX5_isDigit_4 : decode cX5_isDigit 4 = .ok (.getfield 123, 3) := by decide +kernel
theorem dX5_isDigit_7 : decode cX5_isDigit 7 = .ok (.iload_n 1, 1) := by decide +kernel
theorem dX5_isDigit_8 : decode cX5_isDigit 8 = .ok (.iaload, 1) := by decide +kernel
theorem dX5_isDigit_9 : decode cX5_isDigit 9 = .ok (.bipush 48, 2) := by decide +kernel
theorem dX5_isDigit_11 : decode cX5_isDigit 11 = .ok (.if_icmp .lt 21, 3) := by decide +kernel
theorem dX5_isDigit_14 : decode cX5_isDigit 14 = .ok (.aload_n 0, 1) := by decide +kernel
theorem dX5_isDigit_15 : decode cX5_isDigit 15 = .ok (.getfield 12, 3) := by decide +kernel
theorem dX5_isDigit_18 : decode cX5_isDigit 18 = .ok (.getfield 123, 3) := by decide +kernel
theorem dX5_isDigit_21 : decode cX5_isDigit 21 = .ok (.iload_n 1, 1) := by decide +kernel
theorem dX5_isDigit_22 : decode cX5_isDigit 22 = .ok (.iaload, 1) := by decide +kernel
theorem dX5_isDigit_23 : decode cX5_isDigit 23 = .ok (.bipush 57, 2) := by decide +kernel
theorem dX5_isDigit_25 : decode cX5_isDigit 25 = .ok (.if_icmp .gt 7, 3) := by decide +kernel
theorem dX5_isDigit_28 : decode cX5_isDigit 28 = .ok (.iconst 1, 1) := by decide +kernel
theorem dX5_isDigit_29 : decode cX5_isDigit 29 = .ok (.goto 4, 3) := by decide +kernel
theorem dX5_isDigit_32 : decode cX5_isDigit 32 = .ok (.iconst 0, 1) := by decide +kernel
theorem dX5_isDigit_33 : decode cX5_isDigit 33 = .ok (.ireturn, 1) := by decide +kernel
set_option maxRecDepth 20000 in
theorem ggX5_numberToken_X5_isDigit : GoodIn wsX5_numberToken wsX5_isDigit := goodIn_r _ [11, 3, 5, 12, 13, 14, 15, 16, 17, 18, 19] (by decide +kernel) (by decide +kernel)
set_option maxRecDepth 20000 in
theorem gX5_numberToken_X5_isDigit : GoodIn wsX5_numberToken (wsV RX5 133 RX5 yX5_isDigit wsX5_isDigit) := goodIn_app (goodIn_of _ (by decide +kernel)) ggX5_numberToken_X5_isDigit
theorem dX5_numberToken_0 : decode cX5_numberToken 0 = .ok (.aload_n 0, 1) := by decide +kernel
theorem dX5_numberToken_1 : decode cX5_numberToken 1 = .ok (.iconst 0, 1) := by decide +kernel
theorem dX5_numberToken_2 : decode cX5_numberToken 2 = .ok (.putfield 113, 3) := by decide +kernel
theorem dX5_numberToken_5 : decode cX5_numberToken 5 = .ok (.aload_n 0, 1) := by decide +kernel
theorem dX5_numberToken_6 : decode cX5_numberToken 6 = .ok (.getfield 27, 3) := by decide +kernel
theorem dX5_numberToken_9 : decode cX5_numberToken 9 = .ok (.aload_n 0, 1) := by decide +kernel
theorem dX5_numberToken_10 : decode cX5_numberToken 10 = .ok (.getfield 12, 3) := by decide +kernel
theorem dX5_numberToken_13 : decode cX5_numberToken 13 = .ok (.getfield 120, 3) := by decide +kernel
theorem dX5_numberToken_16 : decode cX5_numberToken 16 = .ok (.if_icmp .ge 63, 3) := by decide +kernel
theorem dX5_numberToken_19 : decode cX5_numberToken 19 = .ok (.aload_n 0, 1) := by decide +kernel
theorem dX5_numberToken_20 : decode cX5_numberToken 20 = .ok (.aload_n 0, 1) := by decide +kernel
theorem dX5_numberToken_21 : decode cX5_numberToken 21 = .ok (.getfield 27, 3) := by decide +kernel
theorem dX5_numberToken_24 : decode cX5_numberToken 24 = .ok (.invokevirtual 133, 3) := by decide +kernel
theorem dX5_numberToken_27 : decode cX5_numberToken 27 = .ok (.ifCond .eq 52, 3) := by decide +kernel
theorem dX5_numberToken_30 : decode cX5_numberToken 30 = .ok (.aload_n 0, 1) := by decide +kernel
theorem dX5_numberToken_31 : decode cX5_numberToken 31 = .ok (.getfield 113, 3) := by decide +kernel
theorem dX5_numberToken_34 : decode cX5_numberToken 34 = .ok (.bipush 99, 2) := by decide +kernel
theorem dX5_numberToken_36 : decode cX5_numberToken 36 = .ok (.if_icmp .gt 30, 3) := by decide +kernel
theorem dX5_numberToken_39 : decode cX5_numberToken 39 = .ok (.aload_n 0, 1) := by decide +kernel
theorem dX5_numberToken_40 : decode cX5_numberToken 40 = .ok (.bipush 10, 2) := by decide +kernel
theorem dX5_numberToken_42 : decode cX5_numberToken 42 = .ok (.aload_n 0, 1) := by decide +kernel
theorem dX5_numberToken_43 : decode cX5_numberToken 43 = .ok (.getfield 113, 3) := by decide +kernel
theorem dX5_numberToken_46 : decode cX5_numberToken 46 = .ok (.imul, 1) := by decide +kernel
theorem dX5_numberToken_47 : decode cX5_numberToken 47 = .ok (.aload_n 0, 1) := by decide +kernel
theorem dX5_numberToken_48 : decode cX5_numberToken 48 = .ok (.getfield 12, 3) := by decide +kernel
theorem dX5_numberToken_51 : decode cX5_numberToken 51 = .ok (.getfield 123, 3) := by decide +kernel
theorem dX5_numberToken_54 : decode cX5_numberToken 54 = .ok (.aload_n 0, 1) := by decide +kernel
theorem dX5_numberToken_55 : decode cX5_numberToken 55 = .ok (.getfield 27, 3) := by decide +kernel
theorem dX5_numberToken_58 : decode cX5_numberToken 58 = .ok (.iaload, 1) := by decide +kernel
theorem dX5_numberToken_59 : decode cX5_numberToken 59 = .ok (.iadd, 1) := by decide +kernel
theorem dX5_numberToken_60 : decode cX5_numberToken 60 = .ok (.bipush 48, 2) := by decide +kernel
theorem dX5_numberToken_62 : decode cX5_numberToken 62 = .ok (.isub, 1) := by decide +kernel
theorem dX5_numberToken_63 : decode cX5_numberToken 63 = .ok (.putfield 113, 3) := by decide +kernel
theorem dX5_numberToken_66 : decode cX5_numberToken 66 = .ok (.aload_n 0, 1) := by decide +kernel
theorem dX5_numberToken_67 : decode cX5_numberToken 67 = .ok (.dup, 1) := by decide +kernel
theorem dX5_numberToken_68 : decode cX5_numberToken 68 = .ok (.getfield 27, 3) := by decide +kernel
theorem dX5_numberToken_71 : decode cX5_numberToken 71 = .ok (.iconst 1, 1) := by decide +kernel
theorem dX5_numberToken_72 : decode cX5_numberToken 72 = .ok (.iadd, 1) := by decide +kernel
theorem dX5_numberToken_73 : decode cX5_numberToken 73 = .ok (.putfield 27, 3) := by decide +kernel
theorem dX5_numberToken_76 : decode cX5_numberToken 76 = .ok (.goto (-71), 3) := by decide +kernel
theorem dX5_numberToken_79 : decode cX5_numberToken 79 = .ok (.aload_n 0, 1) := by decide +kernel
theorem dX5_numberToken_80 : decode cX5_numberToken 80 = .ok (.getfield 12, 3) := by decide +kernel
theorem dX5_numberToken_83 : decode cX5_numberToken 83 = .ok (.getfield 123, 3) := by decide +kernel
theorem dX5_numberToken_86 : decode cX5_numberToken 86 = .ok (.aload_n 0, 1) := by decide +kernel
theorem dX5_numberToken_87 : decode cX5_numberToken 87 = .ok (.getfield 63, 3) := by decide +kernel
theorem dX5_numberToken_90 : decode cX5_numberToken 90 = .ok (.iaload, 1) := by decide +kernel
theorem dX5_numberToken_91 : decode cX5_numberToken 91 = .ok (.bipush 48, 2) := by decide +kernel
theorem dX5_numberToken_93 : decode cX5_numberToken 93 = .ok (.if_icmp .ne 20, 3) := by decide +kernel
theorem dX5_numberToken_96 : decode cX5_numberToken 96 = .ok (.aload_n 0, 1) := by decide +kernel
theorem dX5_numberToken_97 : decode cX5_numberToken 97 = .ok (.getfield 27, 3) := by decide +kernel
theorem dX5_numberToken_100 : decode cX5_numberToken 100 = .ok (.aload_n 0, 1) := by decide +kernel
theorem dX5_numberToken_101 : decode cX5_numberToken 101 = .ok (.getfield 63, 3) := by decide +kernel
theorem dX5_numberToken_104 : decode cX5_numberToken 104 = .ok (.isub, 1) := by decide +kernel
theorem dX5_numberToken_105 : decode cX5_numberToken 105 = .ok (.iconst 1, 1) := by decide +kernel
theorem dX5_numberToken_106 : decode cX5_numberToken 106 = .ok (.if_icmp .le 7, 3) := by decide +kernel
theorem dX5_numberToken_109 : decode cX5_numberToken 109 = .ok (.iconst 1, 1) := by decide +kernel
theorem dX5_numberToken_110 : decode cX5_numberToken 110 = .ok (.goto 4, 3) := by decide +kernel
theorem dX5_numberToken_113 : decode cX5_numberToken 113 = .ok (.iconst 0, 1) := by decide +kernel
theorem dX5_numberToken_114 : decode cX5_numberToken 114 = .ok (.istore_n 1, 1) := by decide +kernel
theorem dX5_numberToken_115 : decode cX5_numberToken 115 = .ok (.iload_n 1, 1) := by decide +kernel
theorem dX5_numberToken_116 : decode cX5_numberToken 116 = .ok (.ifCond .ne 12, 3) := by decide +kernel
theorem dX5_numberToken_119 : decode cX5_numberToken 119 = .ok (.aload_n 0, 1) := by decide +kernel
theorem dX5_numberToken_120 : decode cX5_numberToken 120 = .ok (.getfield 113, 3) := by decide +kernel
theorem dX5_numberToken_123 : decode cX5_numberToken 123 = .ok (.bipush 99, 2) := by decide +kernel
theorem dX5_numberToken_125 : decode cX5_numberToken 125 = .ok (.if_icmp .le 7, 3) := by decide +kernel
theorem dX5_numberToken_128 : decode cX5_numberToken 128 = .ok (.iconst 1, 1) := by decide +kernel
theorem dX5_numberToken_129 : decode cX5_numberToken 129 = .ok (.goto 4, 3) := by decide +kernel
theorem dX5_numberToken_132 : decode cX5_numberToken 132 = .ok (.iconst 2, 1) := by decide +kernel
theorem dX5_numberToken_133 : decode cX5_numberToken 133 = .ok (.ireturn, 1) := by decide +kernel
set_option maxRecDepth 20000 in
theorem ggX5_wordToken_X5_isLetter : GoodIn wsX5_wordToken wsX5_isLetter := goodIn_r _ [8, 2, 9, 64, 65, 66, 67, 68, 69, 70, 71] (by decide +kernel) (by decide +kernel)
set_option maxRecDepth 20000 in
theorem gX5_wordToken_X5_isLetter : GoodIn wsX5_wordToken (wsV RX5 126 RX5 yX5_isLetter wsX5_isLetter) := goodIn_app (goodIn_of _ (by decide +kernel)) ggX5_wordToken_X5_isLetter
set_option maxRecDepth 20000 in
theorem ggX5_wordToken_X5_spells : GoodIn wsX5_wordToken wsX5_spells := goodIn_r _ [13, 1, 14, 2, 9, 15, 16, 17, 18, 19, 20, 21, 22, 23, 24, 25, 26, 27, 28, 29, 30, 31, 32, 33, 34, 35, 36, 37, 38, 39, 40, 41, 42, 43, 44, 45, 46, 47, 48, 49, 50, 51, 52, 53, 54, 55, 56, 57, 58, 59, 60, 61, 62, 63, 64, 65, 66, 67, 68, 69, 70, 71] (by decide +kernel) (by decide +kernel)
set_option maxRecDepth 20000 in
theorem gX5_wordToken_X5_spells : GoodIn wsX5_wordToken (wsV RX5 141 RX5 yX5_spells wsX5_spells) := goodIn_app (goodIn_of _ (by decide +kernel)) ggX5_wordToken_X5_spells
theorem dX5_wordToken_0 : decode cX5_wordToken 0 = .ok (.aload_n 0, 1) := by decide +kernel
theorem dX5_wordToken_1 : decode cX5_wordToken 1 = .ok (.getfield 27, 3) := by decide +kernel
theorem dX5_wordToken_4 : decode cX5_wordToken 4 = .ok (.aload_n 0, 1) := by decide +kernel
theorem dX5_wordToken_5 : decode cX5_wordToken 5 = .ok (.getfield 12, 3) := by decide +kernel
theorem dX5_wordToken_8 : decode cX5_wordToken 8 = .ok (.getfield 120, 3) := by decide +kernel
theorem dX5_wordToken_11 : decode cX5_wordToken 11 = .ok (.if_icmp .ge 27, 3) := by decide +kernel
theorem dX5_wordToken_14 : decode cX5_wordToken 14 = .ok (.aload_n 0, 1) := by decide +kernel
theorem dX5_wordToken_15 : decode cX5_wordToken 15 = .ok (.aload_n 0, 1) := by decide +kernel
theorem dX5_wordToken_16 : decode cX5_wordToken 16 = .ok (.getfield 27, 3) := by decide +kernel
theorem dX5_wordToken_19 : decode cX5_wordToken 19 = .ok (.invokevirtual 126, 3) := by decide +kernel
theorem dX5_wordToken_22 : decode cX5_wordToken 22 = .ok (.ifCond .eq 16, 3) := by decide +kernel
theorem dX5_wordToken_25 : decode cX5_wordToken 25 = .ok (.aload_n 0, 1) := by decide +kernel
theorem dX5_wordToken_26 : decode cX5_wordToken 26 = .ok (.dup, 1) := by decide +kernel
theorem dX5_wordToken_27 : decode cX5_wordToken 27 = .ok (.getfield 27, 3) := by decide +kernel
theorem dX5_wordToken_30 : decode cX5_wordToken 30 = .ok (.iconst 1, 1) := by decide +kernel
theorem dX5_wordToken_31 : decode cX5_wordToken 31 = .ok (.iadd, 1) := by decide +kernel
theorem dX5_wordToken_32 : decode cX5_wordToken 32 = .ok (.putfield 27, 3) := by decide +kernel
theorem dX5_wordToken_35 : decode cX5_wordToken 35 = .ok (.goto (-35), 3) := by decide +kernel
theorem dX5_wordToken_38 : decode cX5_wordToken 38 = .ok (.aload_n 0, 1) := by decide +kernel
theorem dX5_wordToken_39 : decode cX5_wordToken 39 = .ok (.ldc 139, 2) := by decide +kernel
theorem dX5_wordToken_41 : decode cX5_wordToken 41 = .ok (.invokevirtual 141, 3) := by decide +kernel
theorem dX5_wordToken_44 : decode cX5_wordToken 44 = .ok (.ifCond .eq 5, 3) := by decide +kernel
theorem dX5_wordToken_47 : decode cX5_wordToken 47 = .ok (.iconst 4, 1) := by decide +kernel
theorem dX5_wordToken_48 : decode cX5_wordToken 48 = .ok (.ireturn, 1) := by decide +kernel
theorem dX5_wordToken_49 : decode cX5_wordToken 49 = .ok (.aload_n 0, 1) := by decide +kernel
theorem dX5_wordToken_50 : decode cX5_wordToken 50 = .ok (.ldc 145, 2) := by decide +kernel
theorem dX5_wordToken_52 : decode cX5_wordToken 52 = .ok (.invokevirtual 141, 3) := by decide +kernel
theorem dX5_wordToken_55 : decode cX5_wordToken 55 = .ok (.ifCond .eq 5, 3) := by decide +kernel
theorem dX5_wordToken_58 : decode cX5_wordToken 58 = .ok (.iconst 5, 1) := by decide +kernel
theorem dX5_wordToken_59 : decode cX5_wordToken 59 = .ok (.ireturn, 1) := by decide +kernel
theorem dX5_wordToken_60 : decode cX5_wordToken 60 = .ok (.aload_n 0, 1) := by decide +kernel
theorem dX5_wordToken_61 : decode cX5_wordToken 61 = .ok (.ldc 147, 2) := by decide +kernel
theorem dX5_wordToken_63 : decode cX5_wordToken 63 = .ok (.invokevirtual 141, 3) := by decide +kernel
theorem dX5_wordToken_66 : decode cX5_wordToken 66 = .ok (.ifCond .eq 6, 3) := by decide +kernel
theorem dX5_wordToken_69 : decode cX5_wordToken 69 = .ok (.bipush 6, 2) := by decide +kernel
theorem dX5_wordToken_71 : decode cX5_wordToken 71 = .ok (.ireturn, 1) := by decide +kernel
theorem dX5_wordToken_72 : decode cX5_wordToken 72 = .ok (.aload_n 0, 1) := by decide +kernel
theorem dX5_wordToken_73 : decode cX5_wordToken 73 = .ok (.ldc 149, 2) := by decide +kernel
theorem dX5_wordToken_75 : decode cX5_wordToken 75 = .ok (.invokevirtual 141, 3) := by decide +kernel
theorem dX5_wordToken_78 : decode cX5_wordToken 78 = .ok (.ifCond .eq 6, 3) := by decide +kernel
theorem dX5_wordToken_81 : decode cX5_wordToken 81 = .ok (.bipush 7, 2) := by decide +kernel
theorem dX5_wordToken_83 : decode cX5_wordToken 83 = .ok (.ireturn, 1) := by decide +kernel
theorem dX5_wordToken_84 : decode cX5_wordToken 84 = .ok (.aload_n 0, 1) := by decide +kernel
theorem dX5_wordToken_85 : decode cX5_wordToken 85 = .ok (.ldc 151, 2) := by decide +kernel
theorem dX5_wordToken_87 : decode cX5_wordToken 87 = .ok (.invokevirtual 141, 3) := by decide +kernel
theorem dX5_wordToken_90 : decode cX5_wordToken 90 = .ok (.ifCond .eq 6, 3) := by decide +kernel
theorem dX5_wordToken_93 : decode cX5_wordToken 93 = .ok (.bipush 8, 2) := by decide +kernel
theorem dX5_wordToken_95 : decode cX5_wordToken 95 = .ok (.ireturn, 1) := by decide +kernel
theorem dX5_wordToken_96 : decode cX5_wordToken 96 = .ok (.aload_n 0, 1) := by decide +kernel
theorem dX5_wordToken_97 : decode cX5_wordToken 97 = .ok (.ldc 152, 2) := by decide +kernel
theorem dX5_wordToken_99 : decode cX5_wordToken 99 = .ok (.invokevirtual 141, 3) := by decide +kernel
theorem dX5_wordToken_102 : decode cX5_wordToken 102 = .ok (.ifCond .eq 6, 3) := by decide +kernel
theorem dX5_wordToken_105 : decode cX5_wordToken 105 = .ok (.bipush 9, 2) := by decide +kernel
theorem dX5_wordToken_107 : decode cX5_wordToken 107 = .ok (.ireturn, 1) := by decide +kernel
theorem dX5_wordToken_108 : decode cX5_wordToken 108 = .ok (.aload_n 0, 1) := by decide +kernel
theorem dX5_wordToken_109 : decode cX5_wordToken 109 = .ok (.ldc 154, 2) := by decide +kernel
theorem dX5_wordToken_111 : decode cX5_wordToken 111 = .ok (.invokevirtual 141, 3) := by decide +kernel
theorem dX5_wordToken_114 : decode cX5_wordToken 114 = .ok (.ifCond .eq 6, 3) := by decide +kernel
theorem dX5_wordToken_117 : decode cX5_wordToken 117 = .ok (.bipush 10, 2) := by decide +kernel
theorem dX5_wordToken_119 : decode cX5_wordToken 119 = .ok (.ireturn, 1) := by decide +kernel
theorem dX5_wordToken_120 : decode cX5_wordToken 120 = .ok (.aload_n 0, 1) := by decide +kernel
theorem dX5_wordToken_121 : decode cX5_wordToken 121 = .ok (.ldc 155, 2) := by decide +kernel
theorem dX5_wordToken_123 : decode cX5_wordToken 123 = .ok (.invokevirtual 141, 3) := by decide +kernel
theorem dX5_wordToken_126 : decode cX5_wordToken 126 = .ok (.ifCond .eq 6, 3) := by decide +kernel
theorem dX5_wordToken_129 : decode cX5_wordToken 129 = .ok (.bipush 11, 2) := by decide +kernel
theorem dX5_wordToken_131 : decode cX5_wordToken 131 = .ok (.ireturn, 1) := by decide +kernel
theorem dX5_wordToken_132 : decode cX5_wordToken 132 = .ok (.aload_n 0, 1) := by decide +kernel
theorem dX5_wordToken_133 : decode cX5_wordToken 133 = .ok (.ldc 157, 2) := by decide +kernel
theorem dX5_wordToken_135 : decode cX5_wordToken 135 = .ok (.invokevirtual 141, 3) := by decide +kernel
theorem dX5_wordToken_138 : decode cX5_wordToken 138 = .ok (.ifCond .eq 6, 3) := by decide +kernel
theorem dX5_wordToken_141 : decode cX5_wordToken 141 = .ok (.bipush 12, 2) := by decide +kernel
theorem dX5_wordToken_143 : decode cX5_wordToken 143 = .ok (.ireturn, 1) := by decide +kernel
theorem dX5_wordToken_144 : decode cX5_wordToken 144 = .ok (.aload_n 0, 1) := by decide +kernel
theorem dX5_wordToken_145 : decode cX5_wordToken 145 = .ok (.ldc 159, 2) := by decide +kernel
theorem dX5_wordToken_147 : decode cX5_wordToken 147 = .ok (.invokevirtual 141, 3) := by decide +kernel
theorem dX5_wordToken_150 : decode cX5_wordToken 150 = .ok (.ifCond .eq 6, 3) := by decide +kernel
theorem dX5_wordToken_153 : decode cX5_wordToken 153 = .ok (.bipush 13, 2) := by decide +kernel
theorem dX5_wordToken_155 : decode cX5_wordToken 155 = .ok (.ireturn, 1) := by decide +kernel
theorem dX5_wordToken_156 : decode cX5_wordToken 156 = .ok (.iconst 1, 1) := by decide +kernel
theorem dX5_wordToken_157 : decode cX5_wordToken 157 = .ok (.ireturn, 1) := by decide +kernel
set_option maxRecDepth 20000 in
theorem ggX5_spells_J0_length_8abf5 : GoodIn wsX5_spells wsJ0_length_8abf5 := goodIn_r _ [9, 10, 11, 12, 13, 8, 14, 15, 16] (by decide +kernel) (by decide +kernel)
set_option maxRecDepth 20000 in
theorem gX5_spells_J0_length_8abf5 : GoodIn wsX5_spells (wsV RX5 161 RJ0 yJ0_length_8abf5 wsJ0_length_8abf5) := goodIn_app (goodIn_of _ (by decide +kernel)) ggX5_spells_J0_length_8abf5
set_option maxRecDepth 20000 in
theorem ggX5_spells_J0_charAt_5068e : GoodIn wsX5_spells wsJ0_charAt_5068e := goodIn_r _ [20, 10, 21, 22, 23, 8, 24, 15, 16, 25, 26, 27, 28, 29, 30, 31, 32, 33, 34, 35, 36, 37, 38, 39, 40, 41, 42, 43, 44, 45, 46, 47, 48, 49, 50, 51, 52, 53] (by decide +kernel) (by decide +kernel)
set_option maxRecDepth 20000 in
theorem gX5_spells_J0_charAt_5068e : GoodIn wsX5_spells (wsV RX5 165 RJ0 yJ0_charAt_5068e wsJ0_charAt_5068e) := goodIn_app (goodIn_of _ (by decide +kernel)) ggX5_spells_J0_charAt_5068e
theorem dX5_spells_0 : decode cX5_spells 0 = .ok (.aload_n 0, 1) := by decide +kernel
theorem dX5_spells_1 : decode cX5_spells 1 = .ok (.getfield 27, 3) := by decide +kernel
theorem dX5_spells_4 : decode cX5_spells 4 = .ok (.aload_n 0, 1) := by decide +kernel
theorem dX5_spells_5 : decode cX5_spells 5 = .ok (.getfield 63, 3) := by decide +kernel
theorem dX5_spells_8 : decode cX5_spells 8 = .ok (.isub, 1) := by decide +kernel
theorem dX5_spells_9 : decode cX5_spells 9 = .ok (.aload_n 1, 1) := by decide +kernel
theorem dX5_spells_10 : decode cX5_spells 10 = .ok (.invokevirtual 161, 3) := by decide +kernel
theorem dX5_spells_13 : decode cX5_spells 13 = .ok (.if_icmp .eq 5, 3) := by decide +kernel
theorem dX5_spells_16 : decode cX5_spells 16 = .ok (.iconst 0, 1) := by decide +kernel
theorem dX5_spells_17 : decode cX5_spells 17 = .ok (.ireturn, 1) := by decide +kernel
theorem dX5_spells_18 : decode cX5_spells 18 = .ok (.iconst 0, 1) := by decide +kernel
theorem dX5_spells_19 : decode cX5_spells 19 = .ok (.istore_n 2, 1) := by decide +kernel
theorem dX5_spells_20 : decode cX5_spells 20 = .ok (.iload_n 2, 1) := by decide +kernel
theorem dX5_spells_21 : decode cX5_spells 21 = .ok (.aload_n 1, 1) := by decide +kernel
theorem dX5_spells_22 : decode cX5_spells 22 = .ok (.invokevirtual 161, 3) := by decide +kernel
theorem dX5_spells_25 : decode cX5_spells 25 = .ok (.if_icmp .ge 33, 3) := by decide +kernel
theorem dX5_spells_28 : decode cX5_spells 28 = .ok (.aload_n 0, 1) := by decide +kernel
theorem dX5_spells_29 : decode cX5_spells 29 = .ok (.getfield 12, 3) := by decide +kernel
theorem dX5_spells_32 : decode cX5_spells 32 = .ok (.getfield 123, 3) := by decide +kernel
theorem dX5_spells_35 : decode cX5_spells 35 = .ok (.aload_n 0, 1) := by decide +kernel
theorem dX5_spells_36 : decode cX5_spells 36 = .ok (.getfield 63, 3) := by decide +kernel
theorem dX5_spells_39 : decode cX5_spells 39 = .ok (.iload_n 2, 1) := by decide +kernel
theorem dX5_spells_40 : decode cX5_spells 40 = .ok (.iadd, 1) := by decide +kernel
theorem dX5_spells_41 : decode cX5_spells 41 = .ok (.iaload, 1) := by decide +kernel
theorem dX5_spells_42 : decode cX5_spells 42 = .ok (.aload_n 1, 1) := by decide +kernel
theorem dX5_spells_43 : decode cX5_spells 43 = .ok (.iload_n 2, 1) := by decide +kernel
theorem dX5_spells_44 : decode cX5_spells 44 = .ok (.invokevirtual 165, 3) := by decide +kernel
theorem dX5_spells_47 : decode cX5_spells 47 = .ok (.if_icmp .eq 5, 3) := by decide +kernel
theorem dX5_spells_50 : decode cX5_spells 50 = .ok (.iconst 0, 1) := by decide +kernel
theorem dX5_spells_51 : decode cX5_spells 51 = .ok (.ireturn, 1) := by decide +kernel
theorem dX5_spells_52 : decode cX5_spells 52 = .ok (.iinc 2 1, 3) := by decide +kernel
theorem dX5_spells_55 : decode cX5_spells 55 = .ok (.goto (-35), 3) := by decide +kernel
theorem dX5_spells_58 : decode cX5_spells 58 = .ok (.iconst 1, 1) := by decide +kernel
