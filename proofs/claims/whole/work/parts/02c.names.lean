set_option maxRecDepth 20000 in
theorem ggX0_all_X0_rowOf : GoodIn wsX0_all wsX0_rowOf := goodIn_r _ [5, 6, 7, 8, 9, 10, 11] (by decide +kernel) (by decide +kernel)
set_option maxRecDepth 20000 in
theorem gX0_all_X0_rowOf : GoodIn wsX0_all (wsV RX0 18 RX0 yX0_rowOf wsX0_rowOf) := goodIn_app (goodIn_of _ (by decide +kernel)) ggX0_all_X0_rowOf
theorem dX0_all_0 : decode cX0_all 0 = .ok (.aload_n 0, 1) := by decide +kernel
theorem dX0_all_1 : decode cX0_all 1 = .ok (.iload_n 1, 1) := by decide +kernel
theorem dX0_all_2 : decode cX0_all 2 = .ok (.invokevirtual 18, 3) := by decide +kernel
theorem dX0_all_5 : decode cX0_all 5 = .ok (.astore_n 2, 1) := by decide +kernel
theorem dX0_all_6 : decode cX0_all 6 = .ok (.iconst 0, 1) := by decide +kernel
theorem dX0_all_7 : decode cX0_all 7 = .ok (.istore_n 3, 1) := by decide +kernel
theorem dX0_all_8 : decode cX0_all 8 = .ok (.iconst 0, 1) := by decide +kernel
theorem dX0_all_9 : decode cX0_all 9 = .ok (.istore 4, 2) := by decide +kernel
theorem dX0_all_11 : decode cX0_all 11 = .ok (.iload 4, 2) := by decide +kernel
theorem dX0_all_13 : decode cX0_all 13 = .ok (.bipush 96, 2) := by decide +kernel
theorem dX0_all_15 : decode cX0_all 15 = .ok (.if_icmp .ge 16, 3) := by decide +kernel
theorem dX0_all_18 : decode cX0_all 18 = .ok (.iload_n 3, 1) := by decide +kernel
theorem dX0_all_19 : decode cX0_all 19 = .ok (.aload_n 2, 1) := by decide +kernel
theorem dX0_all_20 : decode cX0_all 20 = .ok (.iload 4, 2) := by decide +kernel
theorem dX0_all_22 : decode cX0_all 22 = .ok (.iaload, 1) := by decide +kernel
theorem dX0_all_23 : decode cX0_all 23 = .ok (.iadd, 1) := by decide +kernel
theorem dX0_all_24 : decode cX0_all 24 = .ok (.istore_n 3, 1) := by decide +kernel
theorem dX0_all_25 : decode cX0_all 25 = .ok (.iinc 4 1, 3) := by decide +kernel
theorem dX0_all_28 : decode cX0_all 28 = .ok (.goto (-17), 3) := by decide +kernel
theorem dX0_all_31 : decode cX0_all 31 = .ok (.iload_n 3, 1) := by decide +kernel
theorem dX0_all_32 : decode cX0_all 32 = .ok (.ireturn, 1) := by decide +kernel
set_option maxRecDepth 20000 in
theorem ggX0_flatten_J7_fill_53178 : GoodIn wsX0_flatten wsJ7_fill_53178 := goodIn_r _ [8] (by decide +kernel) (by decide +kernel)
set_option maxRecDepth 20000 in
theorem gX0_flatten_J7_fill_53178 : GoodIn wsX0_flatten (va_wsS RX0 22 yJ7_fill_53178 wsJ7_fill_53178) := goodIn_app (goodIn_of _ (by decide +kernel)) ggX0_flatten_J7_fill_53178
theorem dX0_flatten_0 : decode cX0_flatten 0 = .ok (.aload_n 0, 1) := by decide +kernel
theorem dX0_flatten_1 : decode cX0_flatten 1 = .ok (.getfield 9, 3) := by decide +kernel
theorem dX0_flatten_4 : decode cX0_flatten 4 = .ok (.iconst 0, 1) := by decide +kernel
theorem dX0_flatten_5 : decode cX0_flatten 5 = .ok (.invokestatic 22, 3) := by decide +kernel
theorem dX0_flatten_8 : decode cX0_flatten 8 = .ok (.aload_n 0, 1) := by decide +kernel
theorem dX0_flatten_9 : decode cX0_flatten 9 = .ok (.getfield 15, 3) := by decide +kernel
theorem dX0_flatten_12 : decode cX0_flatten 12 = .ok (.iconst 0, 1) := by decide +kernel
theorem dX0_flatten_13 : decode cX0_flatten 13 = .ok (.invokestatic 22, 3) := by decide +kernel
theorem dX0_flatten_16 : decode cX0_flatten 16 = .ok (.aload_n 0, 1) := by decide +kernel
theorem dX0_flatten_17 : decode cX0_flatten 17 = .ok (.iconst 0, 1) := by decide +kernel
theorem dX0_flatten_18 : decode cX0_flatten 18 = .ok (.putfield 28, 3) := by decide +kernel
theorem dX0_flatten_21 : decode cX0_flatten 21 = .ok (.aload_n 0, 1) := by decide +kernel
theorem dX0_flatten_22 : decode cX0_flatten 22 = .ok (.iconst 0, 1) := by decide +kernel
theorem dX0_flatten_23 : decode cX0_flatten 23 = .ok (.putfield 32, 3) := by decide +kernel
theorem dX0_flatten_26 : decode cX0_flatten 26 = .ok (.return_, 1) := by decide +kernel
theorem dX0_becomes_0 : decode cX0_becomes 0 = .ok (.aload_n 1, 1) := by decide +kernel
theorem dX0_becomes_1 : decode cX0_becomes 1 = .ok (.getfield 9, 3) := by decide +kernel
theorem dX0_becomes_4 : decode cX0_becomes 4 = .ok (.iconst 0, 1) := by decide +kernel
theorem dX0_becomes_5 : decode cX0_becomes 5 = .ok (.aload_n 0, 1) := by decide +kernel
theorem dX0_becomes_6 : decode cX0_becomes 6 = .ok (.getfield 9, 3) := by decide +kernel
theorem dX0_becomes_9 : decode cX0_becomes 9 = .ok (.iconst 0, 1) := by decide +kernel
theorem dX0_becomes_10 : decode cX0_becomes 10 = .ok (.bipush 96, 2) := by decide +kernel
theorem dX0_becomes_12 : decode cX0_becomes 12 = .ok (.invokestatic 35, 3) := by decide +kernel
theorem dX0_becomes_15 : decode cX0_becomes 15 = .ok (.aload_n 1, 1) := by decide +kernel
theorem dX0_becomes_16 : decode cX0_becomes 16 = .ok (.getfield 15, 3) := by decide +kernel
theorem dX0_becomes_19 : decode cX0_becomes 19 = .ok (.iconst 0, 1) := by decide +kernel
theorem dX0_becomes_20 : decode cX0_becomes 20 = .ok (.aload_n 0, 1) := by decide +kernel
theorem dX0_becomes_21 : decode cX0_becomes 21 = .ok (.getfield 15, 3) := by decide +kernel
theorem dX0_becomes_24 : decode cX0_becomes 24 = .ok (.iconst 0, 1) := by decide +kernel
theorem dX0_becomes_25 : decode cX0_becomes 25 = .ok (.bipush 96, 2) := by decide +kernel
theorem dX0_becomes_27 : decode cX0_becomes 27 = .ok (.invokestatic 35, 3) := by decide +kernel
theorem dX0_becomes_30 : decode cX0_becomes 30 = .ok (.aload_n 0, 1) := by decide +kernel
theorem dX0_becomes_31 : decode cX0_becomes 31 = .ok (.aload_n 1, 1) := by decide +kernel
theorem dX0_becomes_32 : decode cX0_becomes 32 = .ok (.getfield 28, 3) := by decide +kernel
theorem dX0_becomes_35 : decode cX0_becomes 35 = .ok (.putfield 28, 3) := by decide +kernel
theorem dX0_becomes_38 : decode cX0_becomes 38 = .ok (.aload_n 0, 1) := by decide +kernel
theorem dX0_becomes_39 : decode cX0_becomes 39 = .ok (.aload_n 1, 1) := by decide +kernel
theorem dX0_becomes_40 : decode cX0_becomes 40 = .ok (.getfield 32, 3) := by decide +kernel
theorem dX0_becomes_43 : decode cX0_becomes 43 = .ok (.putfield 32, 3) := by decide +kernel
theorem dX0_becomes_46 : decode cX0_becomes 46 = .ok (.return_, 1) := by decide +kernel
theorem dX1_init_0 : decode cX1_init 0 = .ok (.aload_n 0, 1) := by decide +kernel
theorem dX1_init_1 : decode cX1_init 1 = .ok (.invokespecial 3, 3) := by decide +kernel
theorem dX1_init_4 : decode cX1_init 4 = .ok (.aload_n 0, 1) := by decide +kernel
theorem dX1_init_5 : decode cX1_init 5 = .ok (.bipush 6, 2) := by decide +kernel
theorem dX1_init_7 : decode cX1_init 7 = .ok (.newarray .int, 2) := by decide +kernel
theorem dX1_init_9 : decode cX1_init 9 = .ok (.putfield 9, 3) := by decide +kernel
theorem dX1_init_12 : decode cX1_init 12 = .ok (.aload_n 0, 1) := by decide +kernel
theorem dX1_init_13 : decode cX1_init 13 = .ok (.bipush 6, 2) := by decide +kernel
theorem dX1_init_15 : decode cX1_init 15 = .ok (.newarray .int, 2) := by decide +kernel
theorem dX1_init_17 : decode cX1_init 17 = .ok (.putfield 15, 3) := by decide +kernel
theorem dX1_init_20 : decode cX1_init 20 = .ok (.return_, 1) := by decide +kernel
theorem dX1_add_0 : decode cX1_add 0 = .ok (.aload_n 0, 1) := by decide +kernel
theorem dX1_add_1 : decode cX1_add 1 = .ok (.getfield 18, 3) := by decide +kernel
theorem dX1_add_4 : decode cX1_add 4 = .ok (.bipush 6, 2) := by decide +kernel
theorem dX1_add_6 : decode cX1_add 6 = .ok (.if_icmp .lt 6, 3) := by decide +kernel
theorem dX1_add_9 : decode cX1_add 9 = .ok (.bipush (-3), 2) := by decide +kernel
theorem dX1_add_11 : decode cX1_add 11 = .ok (.ireturn, 1) := by decide +kernel
theorem dX1_add_12 : decode cX1_add 12 = .ok (.aload_n 0, 1) := by decide +kernel
theorem dX1_add_13 : decode cX1_add 13 = .ok (.getfield 9, 3) := by decide +kernel
theorem dX1_add_16 : decode cX1_add 16 = .ok (.aload_n 0, 1) := by decide +kernel
theorem dX1_add_17 : decode cX1_add 17 = .ok (.getfield 18, 3) := by decide +kernel
theorem dX1_add_20 : decode cX1_add 20 = .ok (.iload_n 1, 1) := by decide +kernel
theorem dX1_add_21 : decode cX1_add 21 = .ok (.iastore, 1) := by decide +kernel
theorem dX1_add_22 : decode cX1_add 22 = .ok (.aload_n 0, 1) := by decide +kernel
theorem dX1_add_23 : decode cX1_add 23 = .ok (.getfield 15, 3) := by decide +kernel
theorem dX1_add_26 : decode cX1_add 26 = .ok (.aload_n 0, 1) := by decide +kernel
theorem dX1_add_27 : decode cX1_add 27 = .ok (.getfield 18, 3) := by decide +kernel
theorem dX1_add_30 : decode cX1_add 30 = .ok (.iload_n 2, 1) := by decide +kernel
theorem dX1_add_31 : decode cX1_add 31 = .ok (.iastore, 1) := by decide +kernel
theorem dX1_add_32 : decode cX1_add 32 = .ok (.aload_n 0, 1) := by decide +kernel
theorem dX1_add_33 : decode cX1_add 33 = .ok (.dup, 1) := by decide +kernel
theorem dX1_add_34 : decode cX1_add 34 = .ok (.getfield 18, 3) := by decide +kernel
theorem dX1_add_37 : decode cX1_add 37 = .ok (.iconst 1, 1) := by decide +kernel
theorem dX1_add_38 : decode cX1_add 38 = .ok (.iadd, 1) := by decide +kernel
theorem dX1_add_39 : decode cX1_add 39 = .ok (.putfield 18, 3) := by decide +kernel
theorem dX1_add_42 : decode cX1_add 42 = .ok (.aload_n 0, 1) := by decide +kernel
theorem dX1_add_43 : decode cX1_add 43 = .ok (.getfield 18, 3) := by decide +kernel
theorem dX1_add_46 : decode cX1_add 46 = .ok (.ireturn, 1) := by decide +kernel
theorem dX1_empty_0 : decode cX1_empty 0 = .ok (.aload_n 0, 1) := by decide +kernel
theorem dX1_empty_1 : decode cX1_empty 1 = .ok (.getfield 18, 3) := by decide +kernel
theorem dX1_empty_4 : decode cX1_empty 4 = .ok (.istore_n 1, 1) := by decide +kernel
theorem dX1_empty_5 : decode cX1_empty 5 = .ok (.aload_n 0, 1) := by decide +kernel
theorem dX1_empty_6 : decode cX1_empty 6 = .ok (.iconst 0, 1) := by decide +kernel
theorem dX1_empty_7 : decode cX1_empty 7 = .ok (.putfield 18, 3) := by decide +kernel
theorem dX1_empty_10 : decode cX1_empty 10 = .ok (.iload_n 1, 1) := by decide +kernel
theorem dX1_empty_11 : decode cX1_empty 11 = .ok (.ireturn, 1) := by decide +kernel
theorem dX1_becomes_0 : decode cX1_becomes 0 = .ok (.aload_n 1, 1) := by decide +kernel
theorem dX1_becomes_1 : decode cX1_becomes 1 = .ok (.getfield 9, 3) := by decide +kernel
theorem dX1_becomes_4 : decode cX1_becomes 4 = .ok (.iconst 0, 1) := by decide +kernel
theorem dX1_becomes_5 : decode cX1_becomes 5 = .ok (.aload_n 0, 1) := by decide +kernel
theorem dX1_becomes_6 : decode cX1_becomes 6 = .ok (.getfield 9, 3) := by decide +kernel
theorem dX1_becomes_9 : decode cX1_becomes 9 = .ok (.iconst 0, 1) := by decide +kernel
theorem dX1_becomes_10 : decode cX1_becomes 10 = .ok (.bipush 6, 2) := by decide +kernel
theorem dX1_becomes_12 : decode cX1_becomes 12 = .ok (.invokestatic 22, 3) := by decide +kernel
theorem dX1_becomes_15 : decode cX1_becomes 15 = .ok (.aload_n 1, 1) := by decide +kernel
theorem dX1_becomes_16 : decode cX1_becomes 16 = .ok (.getfield 15, 3) := by decide +kernel
theorem dX1_becomes_19 : decode cX1_becomes 19 = .ok (.iconst 0, 1) := by decide +kernel
theorem dX1_becomes_20 : decode cX1_becomes 20 = .ok (.aload_n 0, 1) := by decide +kernel
theorem dX1_becomes_21 : decode cX1_becomes 21 = .ok (.getfield 15, 3) := by decide +kernel
theorem dX1_becomes_24 : decode cX1_becomes 24 = .ok (.iconst 0, 1) := by decide +kernel
theorem dX1_becomes_25 : decode cX1_becomes 25 = .ok (.bipush 6, 2) := by decide +kernel
theorem dX1_becomes_27 : decode cX1_becomes 27 = .ok (.invokestatic 22, 3) := by decide +kernel
theorem dX1_becomes_30 : decode cX1_becomes 30 = .ok (.aload_n 0, 1) := by decide +kernel
theorem dX1_becomes_31 : decode cX1_becomes 31 = .ok (.aload_n 1, 1) := by decide +kernel
theorem dX1_becomes_32 : decode cX1_becomes 32 = .ok (.getfield 18, 3) := by decide +kernel
theorem dX1_becomes_35 : decode cX1_becomes 35 = .ok (.putfield 18, 3) := by decide +kernel
theorem dX1_becomes_38 : decode cX1_becomes 38 = .ok (.return_, 1) := by decide +kernel
set_option maxRecDepth 20000 in
theorem ggX2_init_X0_init : GoodIn wsX2_init wsX0_init := goodIn_r _ [18, 19, 2, 3, 11, 20, 21, 32, 33, 34, 35] (by decide +kernel) (by decide +kernel)
set_option maxRecDepth 20000 in
theorem gX2_init_X0_init_n20 : GoodIn wsX2_init (wsX0_init) := ggX2_init_X0_init
theorem dX2_init_0 : decode cX2_init 0 = .ok (.aload_n 0, 1) := by decide +kernel
theorem dX2_init_1 : decode cX2_init 1 = .ok (.invokespecial 3, 3) := by decide +kernel
theorem dX2_init_4 : decode cX2_init 4 = .ok (.aload_n 0, 1) := by decide +kernel
theorem dX2_init_5 : decode cX2_init 5 = .ok (.iconst 4, 1) := by decide +kernel
theorem dX2_init_6 : decode cX2_init 6 = .ok (.putfield 9, 3) := by decide +kernel
theorem dX2_init_9 : decode cX2_init 9 = .ok (.aload_n 0, 1) := by decide +kernel
theorem dX2_init_10 : decode cX2_init 10 = .ok (.iconst 3, 1) := by decide +kernel
theorem dX2_init_11 : decode cX2_init 11 = .ok (.putfield 15, 3) := by decide +kernel
theorem dX2_init_14 : decode cX2_init 14 = .ok (.aload_n 0, 1) := by decide +kernel
theorem dX2_init_15 : decode cX2_init 15 = .ok (.new 18, 3) := by decide +kernel
theorem dX2_init_18 : decode cX2_init 18 = .ok (.dup, 1) := by decide +kernel
theorem dX2_init_19 : decode cX2_init 19 = .ok (.invokespecial 20, 3) := by decide +kernel
theorem dX2_init_22 : decode cX2_init 22 = .ok (.putfield 21, 3) := by decide +kernel
theorem dX2_init_25 : decode cX2_init 25 = .ok (.aload_n 0, 1) := by decide +kernel
theorem dX2_init_26 : decode cX2_init 26 = .ok (.bipush 6, 2) := by decide +kernel
theorem dX2_init_28 : decode cX2_init 28 = .ok (.iconst 4, 1) := by decide +kernel
theorem dX2_init_29 : decode cX2_init 29 = .ok (.multianewarray 25 2, 4) := by decide +kernel
theorem dX2_init_33 : decode cX2_init 33 = .ok (.putfield 27, 3) := by decide +kernel
theorem dX2_init_36 : decode cX2_init 36 = .ok (.aload_n 0, 1) := by decide +kernel
theorem dX2_init_37 : decode cX2_init 37 = .ok (.bipush 8, 2) := by decide +kernel
theorem dX2_init_39 : decode cX2_init 39 = .ok (.bipush 6, 2) := by decide +kernel
theorem dX2_init_41 : decode cX2_init 41 = .ok (.multianewarray 25 2, 4) := by decide +kernel
theorem dX2_init_45 : decode cX2_init 45 = .ok (.putfield 30, 3) := by decide +kernel
theorem dX2_init_48 : decode cX2_init 48 = .ok (.aload_n 0, 1) := by decide +kernel
theorem dX2_init_49 : decode cX2_init 49 = .ok (.bipush 12, 2) := by decide +kernel
theorem dX2_init_51 : decode cX2_init 51 = .ok (.newarray .int, 2) := by decide +kernel
theorem dX2_init_53 : decode cX2_init 53 = .ok (.putfield 33, 3) := by decide +kernel
theorem dX2_init_56 : decode cX2_init 56 = .ok (.aload_n 0, 1) := by decide +kernel
theorem dX2_init_57 : decode cX2_init 57 = .ok (.bipush 64, 2) := by decide +kernel
theorem dX2_init_59 : decode cX2_init 59 = .ok (.newarray .int, 2) := by decide +kernel
theorem dX2_init_61 : decode cX2_init 61 = .ok (.putfield 37, 3) := by decide +kernel
theorem dX2_init_64 : decode cX2_init 64 = .ok (.aload_n 0, 1) := by decide +kernel
theorem dX2_init_65 : decode cX2_init 65 = .ok (.sipush 256, 3) := by decide +kernel
theorem dX2_init_68 : decode cX2_init 68 = .ok (.newarray .int, 2) := by decide +kernel
theorem dX2_init_70 : decode cX2_init 70 = .ok (.putfield 40, 3) := by decide +kernel
theorem dX2_init_73 : decode cX2_init 73 = .ok (.return_, 1) := by decide +kernel
set_option maxRecDepth 20000 in
theorem ggX2_startAnew_X0_flatten : GoodIn wsX2_startAnew wsX0_flatten := goodIn_r _ [10, 11, 12, 13, 14, 15, 16, 17, 18, 29, 30, 31, 32] (by decide +kernel) (by decide +kernel)
set_option maxRecDepth 20000 in
theorem gX2_startAnew_X0_flatten : GoodIn wsX2_startAnew (wsV RX2 49 RX0 yX0_flatten wsX0_flatten) := goodIn_app (goodIn_of _ (by decide +kernel)) ggX2_startAnew_X0_flatten
theorem dX2_startAnew_0 : decode cX2_startAnew 0 = .ok (.aload_n 0, 1) := by decide +kernel
theorem dX2_startAnew_1 : decode cX2_startAnew 1 = .ok (.iconst 4, 1) := by decide +kernel
theorem dX2_startAnew_2 : decode cX2_startAnew 2 = .ok (.putfield 9, 3) := by decide +kernel
theorem dX2_startAnew_5 : decode cX2_startAnew 5 = .ok (.aload_n 0, 1) := by decide +kernel
theorem dX2_startAnew_6 : decode cX2_startAnew 6 = .ok (.iconst 3, 1) := by decide +kernel
theorem dX2_startAnew_7 : decode cX2_startAnew 7 = .ok (.putfield 15, 3) := by decide +kernel
theorem dX2_startAnew_10 : decode cX2_startAnew 10 = .ok (.aload_n 0, 1) := by decide +kernel
theorem dX2_startAnew_11 : decode cX2_startAnew 11 = .ok (.iconst 0, 1) := by decide +kernel
theorem dX2_startAnew_12 : decode cX2_startAnew 12 = .ok (.putfield 43, 3) := by decide +kernel
theorem dX2_startAnew_15 : decode cX2_startAnew 15 = .ok (.aload_n 0, 1) := by decide +kernel
theorem dX2_startAnew_16 : decode cX2_startAnew 16 = .ok (.iconst 0, 1) := by decide +kernel
theorem dX2_startAnew_17 : decode cX2_startAnew 17 = .ok (.putfield 46, 3) := by decide +kernel
theorem dX2_startAnew_20 : decode cX2_startAnew 20 = .ok (.aload_n 0, 1) := by decide +kernel
theorem dX2_startAnew_21 : decode cX2_startAnew 21 = .ok (.getfield 21, 3) := by decide +kernel
theorem dX2_startAnew_24 : decode cX2_startAnew 24 = .ok (.invokevirtual 49, 3) := by decide +kernel
theorem dX2_startAnew_27 : decode cX2_startAnew 27 = .ok (.return_, 1) := by decide +kernel
theorem dX2_yards_0 : decode cX2_yards 0 = .ok (.aload_n 0, 1) := by decide +kernel
theorem dX2_yards_1 : decode cX2_yards 1 = .ok (.getfield 9, 3) := by decide +kernel
theorem dX2_yards_4 : decode cX2_yards 4 = .ok (.aload_n 0, 1) := by decide +kernel
theorem dX2_yards_5 : decode cX2_yards 5 = .ok (.getfield 15, 3) := by decide +kernel
theorem dX2_yards_8 : decode cX2_yards 8 = .ok (.imul, 1) := by decide +kernel
theorem dX2_yards_9 : decode cX2_yards 9 = .ok (.ireturn, 1) := by decide +kernel
theorem dX2_isYard_0 : decode cX2_isYard 0 = .ok (.iload_n 1, 1) := by decide +kernel
theorem dX2_isYard_1 : decode cX2_isYard 1 = .ok (.ifCond .lt 20, 3) := by decide +kernel
theorem dX2_isYard_4 : decode cX2_isYard 4 = .ok (.iload_n 1, 1) := by decide +kernel
theorem dX2_isYard_5 : decode cX2_isYard 5 = .ok (.aload_n 0, 1) := by decide +kernel
theorem dX2_isYard_6 : decode cX2_isYard 6 = .ok (.getfield 9, 3) := by decide +kernel
theorem dX2_isYard_9 : decode cX2_isYard 9 = .ok (.aload_n 0, 1) := by decide +kernel
theorem dX2_isYard_10 : decode cX2_isYard 10 = .ok (.getfield 15, 3) := by decide +kernel
theorem dX2_isYard_13 : decode cX2_isYard 13 = .ok (.imul, 1) := by decide +kernel
theorem dX2_isYard_14 : decode cX2_isYard 14 = .ok (.if_icmp .ge 7, 3) := by decide +kernel
theorem dX2_isYard_17 : decode cX2_isYard 17 = .ok (.iconst 1, 1) := by decide +kernel
theorem dX2_isYard_18 : decode cX2_isYard 18 = .ok (.goto 4, 3) := by decide +kernel
theorem dX2_isYard_21 : decode cX2_isYard 21 = .ok (.iconst 0, 1) := by decide +kernel
theorem dX2_isYard_22 : decode cX2_isYard 22 = .ok (.ireturn, 1) := by decide +kernel
theorem dX2_isWorker_0 : decode cX2_isWorker 0 = .ok (.iload_n 1, 1) := by decide +kernel
theorem dX2_isWorker_1 : decode cX2_isWorker 1 = .ok (.ifCond .lt 15, 3) := by decide +kernel
theorem dX2_isWorker_4 : decode cX2_isWorker 4 = .ok (.iload_n 1, 1) := by decide +kernel
theorem dX2_isWorker_5 : decode cX2_isWorker 5 = .ok (.aload_n 0, 1) := by decide +kernel
theorem dX2_isWorker_6 : decode cX2_isWorker 6 = .ok (.getfield 43, 3) := by decide +kernel
theorem dX2_isWorker_9 : decode cX2_isWorker 9 = .ok (.if_icmp .ge 7, 3) := by decide +kernel
theorem dX2_isWorker_12 : decode cX2_isWorker 12 = .ok (.iconst 1, 1) := by decide +kernel
theorem dX2_isWorker_13 : decode cX2_isWorker 13 = .ok (.goto 4, 3) := by decide +kernel
theorem dX2_isWorker_16 : decode cX2_isWorker 16 = .ok (.iconst 0, 1) := by decide +kernel
theorem dX2_isWorker_17 : decode cX2_isWorker 17 = .ok (.ireturn, 1) := by decide +kernel
theorem dX2_isDeed_0 : decode cX2_isDeed 0 = .ok (.iload_n 1, 1) := by decide +kernel
theorem dX2_isDeed_1 : decode cX2_isDeed 1 = .ok (.ifCond .lt 15, 3) := by decide +kernel
theorem dX2_isDeed_4 : decode cX2_isDeed 4 = .ok (.iload_n 1, 1) := by decide +kernel
theorem dX2_isDeed_5 : decode cX2_isDeed 5 = .ok (.aload_n 0, 1) := by decide +kernel
theorem dX2_isDeed_6 : decode cX2_isDeed 6 = .ok (.getfield 46, 3) := by decide +kernel
theorem dX2_isDeed_9 : decode cX2_isDeed 9 = .ok (.if_icmp .ge 7, 3) := by decide +kernel
theorem dX2_isDeed_12 : decode cX2_isDeed 12 = .ok (.iconst 1, 1) := by decide +kernel
theorem dX2_isDeed_13 : decode cX2_isDeed 13 = .ok (.goto 4, 3) := by decide +kernel
theorem dX2_isDeed_16 : decode cX2_isDeed 16 = .ok (.iconst 0, 1) := by decide +kernel
theorem dX2_isDeed_17 : decode cX2_isDeed 17 = .ok (.ireturn, 1) := by decide +kernel
theorem dX2_allWorkers_0 : decode cX2_allWorkers 0 = .ok (.iconst 1, 1) := by decide +kernel
theorem dX2_allWorkers_1 : decode cX2_allWorkers 1 = .ok (.aload_n 0, 1) := by decide +kernel
theorem dX2_allWorkers_2 : decode cX2_allWorkers 2 = .ok (.getfield 43, 3) := by decide +kernel
theorem dX2_allWorkers_5 : decode cX2_allWorkers 5 = .ok (.ishl, 1) := by decide +kernel
theorem dX2_allWorkers_6 : decode cX2_allWorkers 6 = .ok (.iconst 1, 1) := by decide +kernel
theorem dX2_allWorkers_7 : decode cX2_allWorkers 7 = .ok (.isub, 1) := by decide +kernel
theorem dX2_allWorkers_8 : decode cX2_allWorkers 8 = .ok (.ireturn, 1) := by decide +kernel
set_option maxRecDepth 20000 in
theorem ggX2_beyond_X2_isYard : GoodIn wsX2_beyond wsX2_isYard := goodIn_r _ [6, 1, 7, 8, 9, 10, 11, 12, 13, 14, 15, 16, 17] (by decide +kernel) (by decide +kernel)
set_option maxRecDepth 20000 in
theorem gX2_beyond_X2_isYard : GoodIn wsX2_beyond (wsV RX2 52 RX2 yX2_isYard wsX2_isYard) := goodIn_app (goodIn_of _ (by decide +kernel)) ggX2_beyond_X2_isYard
theorem dX2_beyond_0 : decode cX2_beyond 0 = .ok (.iload_n 1, 1) := by decide +kernel
theorem dX2_beyond_1 : decode cX2_beyond 1 = .ok (.iconst 2, 1) := by decide +kernel
theorem dX2_beyond_2 : decode cX2_beyond 2 = .ok (.idiv, 1) := by decide +kernel
theorem dX2_beyond_3 : decode cX2_beyond 3 = .ok (.istore_n 2, 1) := by decide +kernel
theorem dX2_beyond_4 : decode cX2_beyond 4 = .ok (.iload_n 1, 1) := by decide +kernel
theorem dX2_beyond_5 : decode cX2_beyond 5 = .ok (.ifCond .lt 19, 3) := by decide +kernel
theorem dX2_beyond_8 : decode cX2_beyond 8 = .ok (.aload_n 0, 1) := by decide +kernel
theorem dX2_beyond_9 : decode cX2_beyond 9 = .ok (.iload_n 2, 1) := by decide +kernel
theorem dX2_beyond_10 : decode cX2_beyond 10 = .ok (.invokevirtual 52, 3) := by decide +kernel
theorem dX2_beyond_13 : decode cX2_beyond 13 = .ok (.ifCond .eq 11, 3) := by decide +kernel
theorem dX2_beyond_16 : decode cX2_beyond 16 = .ok (.aload_n 0, 1) := by decide +kernel
theorem dX2_beyond_17 : decode cX2_beyond 17 = .ok (.getfield 9, 3) := by decide +kernel
theorem dX2_beyond_20 : decode cX2_beyond 20 = .ok (.iconst 1, 1) := by decide +kernel
theorem dX2_beyond_21 : decode cX2_beyond 21 = .ok (.if_icmp .ge 6, 3) := by decide +kernel
theorem dX2_beyond_24 : decode cX2_beyond 24 = .ok (.bipush (-9), 2) := by decide +kernel
theorem dX2_beyond_26 : decode cX2_beyond 26 = .ok (.ireturn, 1) := by decide +kernel
theorem dX2_beyond_27 : decode cX2_beyond 27 = .ok (.iload_n 1, 1) := by decide +kernel
theorem dX2_beyond_28 : decode cX2_beyond 28 = .ok (.iconst 2, 1) := by decide +kernel
theorem dX2_beyond_29 : decode cX2_beyond 29 = .ok (.irem, 1) := by decide +kernel
theorem dX2_beyond_30 : decode cX2_beyond 30 = .ok (.ifCond .ne 23, 3) := by decide +kernel
theorem dX2_beyond_33 : decode cX2_beyond 33 = .ok (.iload_n 2, 1) := by decide +kernel
theorem dX2_beyond_34 : decode cX2_beyond 34 = .ok (.iconst 1, 1) := by decide +kernel
theorem dX2_beyond_35 : decode cX2_beyond 35 = .ok (.iadd, 1) := by decide +kernel
theorem dX2_beyond_36 : decode cX2_beyond 36 = .ok (.aload_n 0, 1) := by decide +kernel
theorem dX2_beyond_37 : decode cX2_beyond 37 = .ok (.getfield 9, 3) := by decide +kernel
theorem dX2_beyond_40 : decode cX2_beyond 40 = .ok (.irem, 1) := by decide +kernel
theorem dX2_beyond_41 : decode cX2_beyond 41 = .ok (.ifCond .ne 8, 3) := by decide +kernel
theorem dX2_beyond_44 : decode cX2_beyond 44 = .ok (.bipush (-9), 2) := by decide +kernel
theorem dX2_beyond_46 : decode cX2_beyond 46 = .ok (.goto 6, 3) := by decide +kernel
theorem dX2_beyond_49 : decode cX2_beyond 49 = .ok (.iload_n 2, 1) := by decide +kernel
theorem dX2_beyond_50 : decode cX2_beyond 50 = .ok (.iconst 1, 1) := by decide +kernel
theorem dX2_beyond_51 : decode cX2_beyond 51 = .ok (.iadd, 1) := by decide +kernel
theorem dX2_beyond_52 : decode cX2_beyond 52 = .ok (.ireturn, 1) := by decide +kernel
theorem dX2_beyond_53 : decode cX2_beyond 53 = .ok (.aload_n 0, 1) := by decide +kernel
theorem dX2_beyond_54 : decode cX2_beyond 54 = .ok (.iload_n 2, 1) := by decide +kernel
theorem dX2_beyond_55 : decode cX2_beyond 55 = .ok (.aload_n 0, 1) := by decide +kernel
theorem dX2_beyond_56 : decode cX2_beyond 56 = .ok (.getfield 9, 3) := by decide +kernel
theorem dX2_beyond_59 : decode cX2_beyond 59 = .ok (.iadd, 1) := by decide +kernel
theorem dX2_beyond_60 : decode cX2_beyond 60 = .ok (.invokevirtual 52, 3) := by decide +kernel
theorem dX2_beyond_63 : decode cX2_beyond 63 = .ok (.ifCond .eq 12, 3) := by decide +kernel
theorem dX2_beyond_66 : decode cX2_beyond 66 = .ok (.iload_n 2, 1) := by decide +kernel
theorem dX2_beyond_67 : decode cX2_beyond 67 = .ok (.aload_n 0, 1) := by decide +kernel
theorem dX2_beyond_68 : decode cX2_beyond 68 = .ok (.getfield 9, 3) := by decide +kernel
theorem dX2_beyond_71 : decode cX2_beyond 71 = .ok (.iadd, 1) := by decide +kernel
theorem dX2_beyond_72 : decode cX2_beyond 72 = .ok (.goto 5, 3) := by decide +kernel
theorem dX2_beyond_75 : decode cX2_beyond 75 = .ok (.bipush (-9), 2) := by decide +kernel
theorem dX2_beyond_77 : decode cX2_beyond 77 = .ok (.ireturn, 1) := by decide +kernel
set_option maxRecDepth 20000 in
theorem ggX2_borderOf_X2_isYard : GoodIn wsX2_borderOf wsX2_isYard := goodIn_r _ [12, 13, 14, 19, 20, 21, 22, 23, 24, 25, 26, 27, 28] (by decide +kernel) (by decide +kernel)
set_option maxRecDepth 20000 in
theorem gX2_borderOf_X2_isYard : GoodIn wsX2_borderOf (wsV RX2 52 RX2 yX2_isYard wsX2_isYard) := goodIn_app (goodIn_of _ (by decide +kernel)) ggX2_borderOf_X2_isYard
set_option maxRecDepth 20000 in
theorem ggX2_borderOf_X2_beyond : GoodIn wsX2_borderOf wsX2_beyond := goodIn_r _ [18, 13, 8, 9, 10, 11, 12, 14, 19, 20, 21, 22, 23, 24, 25, 26, 27, 28] (by decide +kernel) (by decide +kernel)
set_option maxRecDepth 20000 in
theorem gX2_borderOf_X2_beyond : GoodIn wsX2_borderOf (wsV RX2 65 RX2 yX2_beyond wsX2_beyond) := goodIn_app (goodIn_of _ (by decide +kernel)) ggX2_borderOf_X2_beyond
theorem dX2_borderOf_0 : decode cX2_borderOf 0 = .ok (.aload_n 0, 1) := by decide +kernel
theorem dX2_borderOf_1 : decode cX2_borderOf 1 = .ok (.iload_n 1, 1) := by decide +kernel
theorem dX2_borderOf_2 : decode cX2_borderOf 2 = .ok (.invokevirtual 52, 3) := by decide +kernel
theorem dX2_borderOf_5 : decode cX2_borderOf 5 = .ok (.ifCond .eq 11, 3) := by decide +kernel
theorem dX2_borderOf_8 : decode cX2_borderOf 8 = .ok (.aload_n 0, 1) := by decide +kernel
theorem dX2_borderOf_9 : decode cX2_borderOf 9 = .ok (.iload_n 2, 1) := by decide +kernel
theorem dX2_borderOf_10 : decode cX2_borderOf 10 = .ok (.invokevirtual 52, 3) := by decide +kernel
theorem dX2_borderOf_13 : decode cX2_borderOf 13 = .ok (.ifCond .ne 6, 3) := by decide +kernel
theorem dX2_borderOf_16 : decode cX2_borderOf 16 = .ok (.bipush (-9), 2) := by decide +kernel
theorem dX2_borderOf_18 : decode cX2_borderOf 18 = .ok (.ireturn, 1) := by decide +kernel
theorem dX2_borderOf_19 : decode cX2_borderOf 19 = .ok (.iload_n 1, 1) := by decide +kernel
theorem dX2_borderOf_20 : decode cX2_borderOf 20 = .ok (.iload_n 2, 1) := by decide +kernel
theorem dX2_borderOf_21 : decode cX2_borderOf 21 = .ok (.invokestatic 56, 3) := by decide +kernel
theorem dX2_borderOf_24 : decode cX2_borderOf 24 = .ok (.istore_n 3, 1) := by decide +kernel
theorem dX2_borderOf_25 : decode cX2_borderOf 25 = .ok (.iload_n 1, 1) := by decide +kernel
theorem dX2_borderOf_26 : decode cX2_borderOf 26 = .ok (.iload_n 2, 1) := by decide +kernel
theorem dX2_borderOf_27 : decode cX2_borderOf 27 = .ok (.invokestatic 62, 3) := by decide +kernel
theorem dX2_borderOf_30 : decode cX2_borderOf 30 = .ok (.istore 4, 2) := by decide +kernel
theorem dX2_borderOf_32 : decode cX2_borderOf 32 = .ok (.aload_n 0, 1) := by decide +kernel
theorem dX2_borderOf_33 : decode cX2_borderOf 33 = .ok (.iconst 2, 1) := by decide +kernel
theorem dX2_borderOf_34 : decode cX2_borderOf 34 = .ok (.iload_n 3, 1) := by decide +kernel
theorem dX2_borderOf_35 : decode cX2_borderOf 35 = .ok (.imul, 1) := by decide +kernel
theorem dX2_borderOf_36 : decode cX2_borderOf 36 = .ok (.invokevirtual 65, 3) := by decide +kernel
theorem dX2_borderOf_39 : decode cX2_borderOf 39 = .ok (.iload 4, 2) := by decide +kernel
theorem dX2_borderOf_41 : decode cX2_borderOf 41 = .ok (.if_icmp .ne 7, 3) := by decide +kernel
theorem dX2_borderOf_44 : decode cX2_borderOf 44 = .ok (.iconst 2, 1) := by decide +kernel
theorem dX2_borderOf_45 : decode cX2_borderOf 45 = .ok (.iload_n 3, 1) := by decide +kernel
theorem dX2_borderOf_46 : decode cX2_borderOf 46 = .ok (.imul, 1) := by decide +kernel
theorem dX2_borderOf_47 : decode cX2_borderOf 47 = .ok (.ireturn, 1) := by decide +kernel
theorem dX2_borderOf_48 : decode cX2_borderOf 48 = .ok (.aload_n 0, 1) := by decide +kernel
theorem dX2_borderOf_49 : decode cX2_borderOf 49 = .ok (.iconst 2, 1) := by decide +kernel
theorem dX2_borderOf_50 : decode cX2_borderOf 50 = .ok (.iload_n 3, 1) := by decide +kernel
theorem dX2_borderOf_51 : decode cX2_borderOf 51 = .ok (.imul, 1) := by decide +kernel
theorem dX2_borderOf_52 : decode cX2_borderOf 52 = .ok (.iconst 1, 1) := by decide +kernel
theorem dX2_borderOf_53 : decode cX2_borderOf 53 = .ok (.iadd, 1) := by decide +kernel
theorem dX2_borderOf_54 : decode cX2_borderOf 54 = .ok (.invokevirtual 65, 3) := by decide +kernel
theorem dX2_borderOf_57 : decode cX2_borderOf 57 = .ok (.iload 4, 2) := by decide +kernel
theorem dX2_borderOf_59 : decode cX2_borderOf 59 = .ok (.if_icmp .ne 9, 3) := by decide +kernel
theorem dX2_borderOf_62 : decode cX2_borderOf 62 = .ok (.iconst 2, 1) := by decide +kernel
theorem dX2_borderOf_63 : decode cX2_borderOf 63 = .ok (.iload_n 3, 1) := by decide +kernel
theorem dX2_borderOf_64 : decode cX2_borderOf 64 = .ok (.imul, 1) := by decide +kernel
theorem dX2_borderOf_65 : decode cX2_borderOf 65 = .ok (.iconst 1, 1) := by decide +kernel
theorem dX2_borderOf_66 : decode cX2_borderOf 66 = .ok (.iadd, 1) := by decide +kernel
theorem dX2_borderOf_67 : decode cX2_borderOf 67 = .ok (.ireturn, 1) := by decide +kernel
theorem dX2_borderOf_68 : decode cX2_borderOf 68 = .ok (.bipush (-9), 2) := by decide +kernel
theorem dX2_borderOf_70 : decode cX2_borderOf 70 = .ok (.ireturn, 1) := by decide +kernel
set_option maxRecDepth 20000 in
theorem ggX2_settle_J7_fill_53178 : GoodIn wsX2_settle wsJ7_fill_53178 := goodIn_r _ [11] (by decide +kernel) (by decide +kernel)
set_option maxRecDepth 20000 in
theorem gX2_settle_J7_fill_53178 : GoodIn wsX2_settle (va_wsS RX2 69 yJ7_fill_53178 wsJ7_fill_53178) := goodIn_app (goodIn_of _ (by decide +kernel)) ggX2_settle_J7_fill_53178
set_option maxRecDepth 20000 in
theorem ggX2_settle_X2_settleHours : GoodIn wsX2_settle wsX2_settleHours := goodIn_r _ [16, 7, 1, 17, 18, 19, 15, 20, 2, 21, 22, 23, 24, 25, 26, 27, 28, 29, 30] (by decide +kernel) (by decide +kernel)
set_option maxRecDepth 20000 in
theorem gX2_settle_X2_settleHours : GoodIn wsX2_settle (wsV RX2 75 RX2 yX2_settleHours wsX2_settleHours) := goodIn_app (goodIn_of _ (by decide +kernel)) ggX2_settle_X2_settleHours
theorem dX2_settle_0 : decode cX2_settle 0 = .ok (.aload_n 0, 1) := by decide +kernel
theorem dX2_settle_1 : decode cX2_settle 1 = .ok (.getfield 33, 3) := by decide +kernel
theorem dX2_settle_4 : decode cX2_settle 4 = .ok (.iconst 0, 1) := by decide +kernel
theorem dX2_settle_5 : decode cX2_settle 5 = .ok (.invokestatic 69, 3) := by decide +kernel
theorem dX2_settle_8 : decode cX2_settle 8 = .ok (.iconst 0, 1) := by decide +kernel
theorem dX2_settle_9 : decode cX2_settle 9 = .ok (.istore_n 1, 1) := by decide +kernel
theorem dX2_settle_10 : decode cX2_settle 10 = .ok (.iload_n 1, 1) := by decide +kernel
theorem dX2_settle_11 : decode cX2_settle 11 = .ok (.aload_n 0, 1) := by decide +kernel
theorem dX2_settle_12 : decode cX2_settle 12 = .ok (.getfield 46, 3) := by decide +kernel
theorem dX2_settle_15 : decode cX2_settle 15 = .ok (.if_icmp .ge 14, 3) := by decide +kernel
theorem dX2_settle_18 : decode cX2_settle 18 = .ok (.aload_n 0, 1) := by decide +kernel
theorem dX2_settle_19 : decode cX2_settle 19 = .ok (.iload_n 1, 1) := by decide +kernel
theorem dX2_settle_20 : decode cX2_settle 20 = .ok (.invokevirtual 75, 3) := by decide +kernel
theorem dX2_settle_23 : decode cX2_settle 23 = .ok (.iinc 1 1, 3) := by decide +kernel
theorem dX2_settle_26 : decode cX2_settle 26 = .ok (.goto (-16), 3) := by decide +kernel
theorem dX2_settle_29 : decode cX2_settle 29 = .ok (.iconst 0, 1) := by decide +kernel
theorem dX2_settle_30 : decode cX2_settle 30 = .ok (.istore_n 1, 1) := by decide +kernel
theorem dX2_settle_31 : decode cX2_settle 31 = .ok (.iload_n 1, 1) := by decide +kernel
theorem dX2_settle_32 : decode cX2_settle 32 = .ok (.aload_n 0, 1) := by decide +kernel
theorem dX2_settle_33 : decode cX2_settle 33 = .ok (.getfield 43, 3) := by decide +kernel
theorem dX2_settle_36 : decode cX2_settle 36 = .ok (.if_icmp .ge 49, 3) := by decide +kernel
theorem dX2_settle_39 : decode cX2_settle 39 = .ok (.iconst 1, 1) := by decide +kernel
theorem dX2_settle_40 : decode cX2_settle 40 = .ok (.iload_n 1, 1) := by decide +kernel
theorem dX2_settle_41 : decode cX2_settle 41 = .ok (.ishl, 1) := by decide +kernel
theorem dX2_settle_42 : decode cX2_settle 42 = .ok (.istore_n 2, 1) := by decide +kernel
theorem dX2_settle_43 : decode cX2_settle 43 = .ok (.iconst 0, 1) := by decide +kernel
theorem dX2_settle_44 : decode cX2_settle 44 = .ok (.istore_n 3, 1) := by decide +kernel
theorem dX2_settle_45 : decode cX2_settle 45 = .ok (.iload_n 3, 1) := by decide +kernel
theorem dX2_settle_46 : decode cX2_settle 46 = .ok (.iload_n 2, 1) := by decide +kernel
theorem dX2_settle_47 : decode cX2_settle 47 = .ok (.if_icmp .ge 32, 3) := by decide +kernel
theorem dX2_settle_50 : decode cX2_settle 50 = .ok (.aload_n 0, 1) := by decide +kernel
theorem dX2_settle_51 : decode cX2_settle 51 = .ok (.getfield 37, 3) := by decide +kernel
theorem dX2_settle_54 : decode cX2_settle 54 = .ok (.iload_n 2, 1) := by decide +kernel
theorem dX2_settle_55 : decode cX2_settle 55 = .ok (.iload_n 3, 1) := by decide +kernel
theorem dX2_settle_56 : decode cX2_settle 56 = .ok (.iadd, 1) := by decide +kernel
theorem dX2_settle_57 : decode cX2_settle 57 = .ok (.aload_n 0, 1) := by decide +kernel
theorem dX2_settle_58 : decode cX2_settle 58 = .ok (.getfield 37, 3) := by decide +kernel
theorem dX2_settle_61 : decode cX2_settle 61 = .ok (.iload_n 3, 1) := by decide +kernel
theorem dX2_settle_62 : decode cX2_settle 62 = .ok (.iaload, 1) := by decide +kernel
theorem dX2_settle_63 : decode cX2_settle 63 = .ok (.aload_n 0, 1) := by decide +kernel
theorem dX2_settle_64 : decode cX2_settle 64 = .ok (.getfield 27, 3) := by decide +kernel
theorem dX2_settle_67 : decode cX2_settle 67 = .ok (.iload_n 1, 1) := by decide +kernel
theorem dX2_settle_68 : decode cX2_settle 68 = .ok (.aaload, 1) := by decide +kernel
theorem dX2_settle_69 : decode cX2_settle 69 = .ok (.iconst 3, 1) := by decide +kernel
theorem dX2_settle_70 : decode cX2_settle 70 = .ok (.iaload, 1) := by decide +kernel
theorem dX2_settle_71 : decode cX2_settle 71 = .ok (.iadd, 1) := by decide +kernel
theorem dX2_settle_72 : decode cX2_settle 72 = .ok (.iastore, 1) := by decide +kernel
theorem dX2_settle_73 : decode cX2_settle 73 = .ok (.iinc 3 1, 3) := by decide +kernel
theorem dX2_settle_76 : decode cX2_settle 76 = .ok (.goto (-31), 3) := by decide +kernel
theorem dX2_settle_79 : decode cX2_settle 79 = .ok (.iinc 1 1, 3) := by decide +kernel
theorem dX2_settle_82 : decode cX2_settle 82 = .ok (.goto (-51), 3) := by decide +kernel
theorem dX2_settle_85 : decode cX2_settle 85 = .ok (.iconst 0, 1) := by decide +kernel
theorem dX2_settle_86 : decode cX2_settle 86 = .ok (.istore_n 1, 1) := by decide +kernel
theorem dX2_settle_87 : decode cX2_settle 87 = .ok (.iload_n 1, 1) := by decide +kernel
theorem dX2_settle_88 : decode cX2_settle 88 = .ok (.aload_n 0, 1) := by decide +kernel
theorem dX2_settle_89 : decode cX2_settle 89 = .ok (.getfield 46, 3) := by decide +kernel
theorem dX2_settle_92 : decode cX2_settle 92 = .ok (.if_icmp .ge 49, 3) := by decide +kernel
theorem dX2_settle_95 : decode cX2_settle 95 = .ok (.iconst 1, 1) := by decide +kernel
theorem dX2_settle_96 : decode cX2_settle 96 = .ok (.iload_n 1, 1) := by decide +kernel
theorem dX2_settle_97 : decode cX2_settle 97 = .ok (.ishl, 1) := by decide +kernel
theorem dX2_settle_98 : decode cX2_settle 98 = .ok (.istore_n 2, 1) := by decide +kernel
theorem dX2_settle_99 : decode cX2_settle 99 = .ok (.iconst 0, 1) := by decide +kernel
theorem dX2_settle_100 : decode cX2_settle 100 = .ok (.istore_n 3, 1) := by decide +kernel
theorem dX2_settle_101 : decode cX2_settle 101 = .ok (.iload_n 3, 1) := by decide +kernel
theorem dX2_settle_102 : decode cX2_settle 102 = .ok (.iload_n 2, 1) := by decide +kernel
theorem dX2_settle_103 : decode cX2_settle 103 = .ok (.if_icmp .ge 32, 3) := by decide +kernel
theorem dX2_settle_106 : decode cX2_settle 106 = .ok (.aload_n 0, 1) := by decide +kernel
theorem dX2_settle_107 : decode cX2_settle 107 = .ok (.getfield 40, 3) := by decide +kernel
theorem dX2_settle_110 : decode cX2_settle 110 = .ok (.iload_n 2, 1) := by decide +kernel
theorem dX2_settle_111 : decode cX2_settle 111 = .ok (.iload_n 3, 1) := by decide +kernel
theorem dX2_settle_112 : decode cX2_settle 112 = .ok (.iadd, 1) := by decide +kernel
theorem dX2_settle_113 : decode cX2_settle 113 = .ok (.aload_n 0, 1) := by decide +kernel
theorem dX2_settle_114 : decode cX2_settle 114 = .ok (.getfield 40, 3) := by decide +kernel
theorem dX2_settle_117 : decode cX2_settle 117 = .ok (.iload_n 3, 1) := by decide +kernel
theorem dX2_settle_118 : decode cX2_settle 118 = .ok (.iaload, 1) := by decide +kernel
theorem dX2_settle_119 : decode cX2_settle 119 = .ok (.aload_n 0, 1) := by decide +kernel
theorem dX2_settle_120 : decode cX2_settle 120 = .ok (.getfield 30, 3) := by decide +kernel
theorem dX2_settle_123 : decode cX2_settle 123 = .ok (.iload_n 1, 1) := by decide +kernel
theorem dX2_settle_124 : decode cX2_settle 124 = .ok (.aaload, 1) := by decide +kernel
theorem dX2_settle_125 : decode cX2_settle 125 = .ok (.iconst 4, 1) := by decide +kernel
theorem dX2_settle_126 : decode cX2_settle 126 = .ok (.iaload, 1) := by decide +kernel
theorem dX2_settle_127 : decode cX2_settle 127 = .ok (.iadd, 1) := by decide +kernel
theorem dX2_settle_128 : decode cX2_settle 128 = .ok (.iastore, 1) := by decide +kernel
theorem dX2_settle_129 : decode cX2_settle 129 = .ok (.iinc 3 1, 3) := by decide +kernel
theorem dX2_settle_132 : decode cX2_settle 132 = .ok (.goto (-31), 3) := by decide +kernel
theorem dX2_settle_135 : decode cX2_settle 135 = .ok (.iinc 1 1, 3) := by decide +kernel
theorem dX2_settle_138 : decode cX2_settle 138 = .ok (.goto (-51), 3) := by decide +kernel
theorem dX2_settle_141 : decode cX2_settle 141 = .ok (.return_, 1) := by decide +kernel
set_option maxRecDepth 20000 in
theorem ggX2_settleHours_X2_isOwned : GoodIn wsX2_settleHours wsX2_isOwned := goodIn_r _ [7, 8, 2, 1, 9, 10, 11, 12, 13, 14, 15, 16, 17, 18] (by decide +kernel) (by decide +kernel)
set_option maxRecDepth 20000 in
theorem gX2_settleHours_X2_isOwned : GoodIn wsX2_settleHours (wsV RX2 79 RX2 yX2_isOwned wsX2_isOwned) := goodIn_app (goodIn_of _ (by decide +kernel)) ggX2_settleHours_X2_isOwned
theorem dX2_settleHours_0 : decode cX2_settleHours 0 = .ok (.aload_n 0, 1) := by decide +kernel
theorem dX2_settleHours_1 : decode cX2_settleHours 1 = .ok (.getfield 30, 3) := by decide +kernel
theorem dX2_settleHours_4 : decode cX2_settleHours 4 = .ok (.iload_n 1, 1) := by decide +kernel
theorem dX2_settleHours_5 : decode cX2_settleHours 5 = .ok (.aaload, 1) := by decide +kernel
theorem dX2_settleHours_6 : decode cX2_settleHours 6 = .ok (.astore_n 2, 1) := by decide +kernel
theorem dX2_settleHours_7 : decode cX2_settleHours 7 = .ok (.aload_n 2, 1) := by decide +kernel
theorem dX2_settleHours_8 : decode cX2_settleHours 8 = .ok (.iconst 5, 1) := by decide +kernel
theorem dX2_settleHours_9 : decode cX2_settleHours 9 = .ok (.iconst 0, 1) := by decide +kernel
theorem dX2_settleHours_10 : decode cX2_settleHours 10 = .ok (.iastore, 1) := by decide +kernel
theorem dX2_settleHours_11 : decode cX2_settleHours 11 = .ok (.aload_n 2, 1) := by decide +kernel
theorem dX2_settleHours_12 : decode cX2_settleHours 12 = .ok (.iconst 1, 1) := by decide +kernel
theorem dX2_settleHours_13 : decode cX2_settleHours 13 = .ok (.iaload, 1) := by decide +kernel
theorem dX2_settleHours_14 : decode cX2_settleHours 14 = .ok (.istore_n 3, 1) := by decide +kernel
theorem dX2_settleHours_15 : decode cX2_settleHours 15 = .ok (.iload_n 3, 1) := by decide +kernel
theorem dX2_settleHours_16 : decode cX2_settleHours 16 = .ok (.aload_n 2, 1) := by decide +kernel
theorem dX2_settleHours_17 : decode cX2_settleHours 17 = .ok (.iconst 2, 1) := by decide +kernel
theorem dX2_settleHours_18 : decode cX2_settleHours 18 = .ok (.iaload, 1) := by decide +kernel
theorem dX2_settleHours_19 : decode cX2_settleHours 19 = .ok (.if_icmp .gt 50, 3) := by decide +kernel
theorem dX2_settleHours_22 : decode cX2_settleHours 22 = .ok (.iload_n 3, 1) := by decide +kernel
theorem dX2_settleHours_23 : decode cX2_settleHours 23 = .ok (.bipush 12, 2) := by decide +kernel
theorem dX2_settleHours_25 : decode cX2_settleHours 25 = .ok (.if_icmp .ge 44, 3) := by decide +kernel
theorem dX2_settleHours_28 : decode cX2_settleHours 28 = .ok (.aload_n 0, 1) := by decide +kernel
theorem dX2_settleHours_29 : decode cX2_settleHours 29 = .ok (.aload_n 2, 1) := by decide +kernel
theorem dX2_settleHours_30 : decode cX2_settleHours 30 = .ok (.iconst 0, 1) := by decide +kernel
theorem dX2_settleHours_31 : decode cX2_settleHours 31 = .ok (.iaload, 1) := by decide +kernel
theorem dX2_settleHours_32 : decode cX2_settleHours 32 = .ok (.iload_n 3, 1) := by decide +kernel
theorem dX2_settleHours_33 : decode cX2_settleHours 33 = .ok (.invokevirtual 79, 3) := by decide +kernel
theorem dX2_settleHours_36 : decode cX2_settleHours 36 = .ok (.ifCond .eq 6, 3) := by decide +kernel
theorem dX2_settleHours_39 : decode cX2_settleHours 39 = .ok (.goto 24, 3) := by decide +kernel
theorem dX2_settleHours_42 : decode cX2_settleHours 42 = .ok (.aload_n 2, 1) := by decide +kernel
theorem dX2_settleHours_43 : decode cX2_settleHours 43 = .ok (.iconst 5, 1) := by decide +kernel
theorem dX2_settleHours_44 : decode cX2_settleHours 44 = .ok (.dup2, 1) := by decide +kernel
theorem dX2_settleHours_45 : decode cX2_settleHours 45 = .ok (.iaload, 1) := by decide +kernel
theorem dX2_settleHours_46 : decode cX2_settleHours 46 = .ok (.iconst 1, 1) := by decide +kernel
theorem dX2_settleHours_47 : decode cX2_settleHours 47 = .ok (.iload_n 3, 1) := by decide +kernel
theorem dX2_settleHours_48 : decode cX2_settleHours 48 = .ok (.ishl, 1) := by decide +kernel
theorem dX2_settleHours_49 : decode cX2_settleHours 49 = .ok (.ior, 1) := by decide +kernel
theorem dX2_settleHours_50 : decode cX2_settleHours 50 = .ok (.iastore, 1) := by decide +kernel
theorem dX2_settleHours_51 : decode cX2_settleHours 51 = .ok (.aload_n 0, 1) := by decide +kernel
theorem dX2_settleHours_52 : decode cX2_settleHours 52 = .ok (.getfield 33, 3) := by decide +kernel
theorem dX2_settleHours_55 : decode cX2_settleHours 55 = .ok (.iload_n 3, 1) := by decide +kernel
theorem dX2_settleHours_56 : decode cX2_settleHours 56 = .ok (.dup2, 1) := by decide +kernel
theorem dX2_settleHours_57 : decode cX2_settleHours 57 = .ok (.iaload, 1) := by decide +kernel
theorem dX2_settleHours_58 : decode cX2_settleHours 58 = .ok (.iconst 1, 1) := by decide +kernel
theorem dX2_settleHours_59 : decode cX2_settleHours 59 = .ok (.iload_n 1, 1) := by decide +kernel
theorem dX2_settleHours_60 : decode cX2_settleHours 60 = .ok (.ishl, 1) := by decide +kernel
theorem dX2_settleHours_61 : decode cX2_settleHours 61 = .ok (.ior, 1) := by decide +kernel
theorem dX2_settleHours_62 : decode cX2_settleHours 62 = .ok (.iastore, 1) := by decide +kernel
theorem dX2_settleHours_63 : decode cX2_settleHours 63 = .ok (.iinc 3 1, 3) := by decide +kernel
theorem dX2_settleHours_66 : decode cX2_settleHours 66 = .ok (.goto (-51), 3) := by decide +kernel
theorem dX2_settleHours_69 : decode cX2_settleHours 69 = .ok (.return_, 1) := by decide +kernel
theorem dX2_isOwned_0 : decode cX2_isOwned 0 = .ok (.iconst 0, 1) := by decide +kernel
theorem dX2_isOwned_1 : decode cX2_isOwned 1 = .ok (.istore_n 3, 1) := by decide +kernel
theorem dX2_isOwned_2 : decode cX2_isOwned 2 = .ok (.iload_n 3, 1) := by decide +kernel
theorem dX2_isOwned_3 : decode cX2_isOwned 3 = .ok (.aload_n 0, 1) := by decide +kernel
theorem dX2_isOwned_4 : decode cX2_isOwned 4 = .ok (.getfield 46, 3) := by decide +kernel
theorem dX2_isOwned_7 : decode cX2_isOwned 7 = .ok (.if_icmp .ge 36, 3) := by decide +kernel
theorem dX2_isOwned_10 : decode cX2_isOwned 10 = .ok (.aload_n 0, 1) := by decide +kernel
theorem dX2_isOwned_11 : decode cX2_isOwned 11 = .ok (.getfield 33, 3) := by decide +kernel
theorem dX2_isOwned_14 : decode cX2_isOwned 14 = .ok (.iload_n 2, 1) := by decide +kernel
theorem dX2_isOwned_15 : decode cX2_isOwned 15 = .ok (.iaload, 1) := by decide +kernel
theorem dX2_isOwned_16 : decode cX2_isOwned 16 = .ok (.iload_n 3, 1) := by decide +kernel
theorem dX2_isOwned_17 : decode cX2_isOwned 17 = .ok (.ishr, 1) := by decide +kernel
theorem dX2_isOwned_18 : decode cX2_isOwned 18 = .ok (.iconst 1, 1) := by decide +kernel
theorem dX2_isOwned_19 : decode cX2_isOwned 19 = .ok (.iand, 1) := by decide +kernel
theorem dX2_isOwned_20 : decode cX2_isOwned 20 = .ok (.ifCond .eq 17, 3) := by decide +kernel
theorem dX2_isOwned_23 : decode cX2_isOwned 23 = .ok (.aload_n 0, 1) := by decide +kernel
theorem dX2_isOwned_24 : decode cX2_isOwned 24 = .ok (.getfield 30, 3) := by decide +kernel
theorem dX2_isOwned_27 : decode cX2_isOwned 27 = .ok (.iload_n 3, 1) := by decide +kernel
theorem dX2_isOwned_28 : decode cX2_isOwned 28 = .ok (.aaload, 1) := by decide +kernel
theorem dX2_isOwned_29 : decode cX2_isOwned 29 = .ok (.iconst 0, 1) := by decide +kernel
theorem dX2_isOwned_30 : decode cX2_isOwned 30 = .ok (.iaload, 1) := by decide +kernel
theorem dX2_isOwned_31 : decode cX2_isOwned 31 = .ok (.iload_n 1, 1) := by decide +kernel
theorem dX2_isOwned_32 : decode cX2_isOwned 32 = .ok (.if_icmp .ne 5, 3) := by decide +kernel
theorem dX2_isOwned_35 : decode cX2_isOwned 35 = .ok (.iconst 1, 1) := by decide +kernel
theorem dX2_isOwned_36 : decode cX2_isOwned 36 = .ok (.ireturn, 1) := by decide +kernel
theorem dX2_isOwned_37 : decode cX2_isOwned 37 = .ok (.iinc 3 1, 3) := by decide +kernel
theorem dX2_isOwned_40 : decode cX2_isOwned 40 = .ok (.goto (-38), 3) := by decide +kernel
theorem dX2_isOwned_43 : decode cX2_isOwned 43 = .ok (.iconst 0, 1) := by decide +kernel
theorem dX2_isOwned_44 : decode cX2_isOwned 44 = .ok (.ireturn, 1) := by decide +kernel
theorem dX2_sellers_0 : decode cX2_sellers 0 = .ok (.iconst 0, 1) := by decide +kernel
theorem dX2_sellers_1 : decode cX2_sellers 1 = .ok (.istore_n 3, 1) := by decide +kernel
theorem dX2_sellers_2 : decode cX2_sellers 2 = .ok (.iconst 0, 1) := by decide +kernel
theorem dX2_sellers_3 : decode cX2_sellers 3 = .ok (.istore 4, 2) := by decide +kernel
theorem dX2_sellers_5 : decode cX2_sellers 5 = .ok (.iload 4, 2) := by decide +kernel
theorem dX2_sellers_7 : decode cX2_sellers 7 = .ok (.aload_n 0, 1) := by decide +kernel
theorem dX2_sellers_8 : decode cX2_sellers 8 = .ok (.getfield 46, 3) := by decide +kernel
theorem dX2_sellers_11 : decode cX2_sellers 11 = .ok (.if_icmp .ge 39, 3) := by decide +kernel
theorem dX2_sellers_14 : decode cX2_sellers 14 = .ok (.aload_n 0, 1) := by decide +kernel
theorem dX2_sellers_15 : decode cX2_sellers 15 = .ok (.getfield 33, 3) := by decide +kernel
theorem dX2_sellers_18 : decode cX2_sellers 18 = .ok (.iload_n 1, 1) := by decide +kernel
theorem dX2_sellers_19 : decode cX2_sellers 19 = .ok (.iaload, 1) := by decide +kernel
theorem dX2_sellers_20 : decode cX2_sellers 20 = .ok (.iload 4, 2) := by decide +kernel
theorem dX2_sellers_22 : decode cX2_sellers 22 = .ok (.ishr, 1) := by decide +kernel
theorem dX2_sellers_23 : decode cX2_sellers 23 = .ok (.iconst 1, 1) := by decide +kernel
theorem dX2_sellers_24 : decode cX2_sellers 24 = .ok (.iand, 1) := by decide +kernel
theorem dX2_sellers_25 : decode cX2_sellers 25 = .ok (.ifCond .eq 19, 3) := by decide +kernel
theorem dX2_sellers_28 : decode cX2_sellers 28 = .ok (.aload_n 0, 1) := by decide +kernel
theorem dX2_sellers_29 : decode cX2_sellers 29 = .ok (.getfield 30, 3) := by decide +kernel
theorem dX2_sellers_32 : decode cX2_sellers 32 = .ok (.iload 4, 2) := by decide +kernel
theorem dX2_sellers_34 : decode cX2_sellers 34 = .ok (.aaload, 1) := by decide +kernel
theorem dX2_sellers_35 : decode cX2_sellers 35 = .ok (.iconst 4, 1) := by decide +kernel
theorem dX2_sellers_36 : decode cX2_sellers 36 = .ok (.iaload, 1) := by decide +kernel
theorem dX2_sellers_37 : decode cX2_sellers 37 = .ok (.iload_n 2, 1) := by decide +kernel
theorem dX2_sellers_38 : decode cX2_sellers 38 = .ok (.if_icmp .gt 6, 3) := by decide +kernel
theorem dX2_sellers_41 : decode cX2_sellers 41 = .ok (.iinc 3 1, 3) := by decide +kernel
theorem dX2_sellers_44 : decode cX2_sellers 44 = .ok (.iinc 4 1, 3) := by decide +kernel
theorem dX2_sellers_47 : decode cX2_sellers 47 = .ok (.goto (-42), 3) := by decide +kernel
theorem dX2_sellers_50 : decode cX2_sellers 50 = .ok (.iload_n 3, 1) := by decide +kernel
theorem dX2_sellers_51 : decode cX2_sellers 51 = .ok (.ireturn, 1) := by decide +kernel
theorem dX2_buyers_0 : decode cX2_buyers 0 = .ok (.iconst 0, 1) := by decide +kernel
theorem dX2_buyers_1 : decode cX2_buyers 1 = .ok (.istore_n 2, 1) := by decide +kernel
theorem dX2_buyers_2 : decode cX2_buyers 2 = .ok (.iconst 0, 1) := by decide +kernel
theorem dX2_buyers_3 : decode cX2_buyers 3 = .ok (.istore_n 3, 1) := by decide +kernel
theorem dX2_buyers_4 : decode cX2_buyers 4 = .ok (.iload_n 3, 1) := by decide +kernel
theorem dX2_buyers_5 : decode cX2_buyers 5 = .ok (.aload_n 0, 1) := by decide +kernel
theorem dX2_buyers_6 : decode cX2_buyers 6 = .ok (.getfield 43, 3) := by decide +kernel
theorem dX2_buyers_9 : decode cX2_buyers 9 = .ok (.if_icmp .ge 24, 3) := by decide +kernel
theorem dX2_buyers_12 : decode cX2_buyers 12 = .ok (.aload_n 0, 1) := by decide +kernel
theorem dX2_buyers_13 : decode cX2_buyers 13 = .ok (.getfield 27, 3) := by decide +kernel
theorem dX2_buyers_16 : decode cX2_buyers 16 = .ok (.iload_n 3, 1) := by decide +kernel
theorem dX2_buyers_17 : decode cX2_buyers 17 = .ok (.aaload, 1) := by decide +kernel
theorem dX2_buyers_18 : decode cX2_buyers 18 = .ok (.iconst 3, 1) := by decide +kernel
theorem dX2_buyers_19 : decode cX2_buyers 19 = .ok (.iaload, 1) := by decide +kernel
theorem dX2_buyers_20 : decode cX2_buyers 20 = .ok (.iload_n 1, 1) := by decide +kernel
theorem dX2_buyers_21 : decode cX2_buyers 21 = .ok (.if_icmp .lt 6, 3) := by decide +kernel
theorem dX2_buyers_24 : decode cX2_buyers 24 = .ok (.iinc 2 1, 3) := by decide +kernel
theorem dX2_buyers_27 : decode cX2_buyers 27 = .ok (.iinc 3 1, 3) := by decide +kernel
theorem dX2_buyers_30 : decode cX2_buyers 30 = .ok (.goto (-26), 3) := by decide +kernel
theorem dX2_buyers_33 : decode cX2_buyers 33 = .ok (.iload_n 2, 1) := by decide +kernel
theorem dX2_buyers_34 : decode cX2_buyers 34 = .ok (.ireturn, 1) := by decide +kernel
set_option maxRecDepth 20000 in
theorem ggX3_init_X0_init : GoodIn wsX3_init wsX0_init := goodIn_r _ [13, 14, 2, 3, 15, 16, 17, 23, 24, 25, 26] (by decide +kernel) (by decide +kernel)
set_option maxRecDepth 20000 in
theorem gX3_init_X0_init_n9 : GoodIn wsX3_init (wsX0_init) := ggX3_init_X0_init
set_option maxRecDepth 20000 in
theorem ggX3_init_X1_init : GoodIn wsX3_init wsX1_init := goodIn_r _ [19, 20, 2, 3, 15, 21, 22, 30, 31, 32] (by decide +kernel) (by decide +kernel)
set_option maxRecDepth 20000 in
theorem gX3_init_X1_init_n18 : GoodIn wsX3_init (wsX1_init) := ggX3_init_X1_init
theorem dX3_init_0 : decode cX3_init 0 = .ok (.aload_n 0, 1) := by decide +kernel
theorem dX3_init_1 : decode cX3_init 1 = .ok (.invokespecial 1, 3) := by decide +kernel
theorem dX3_init_4 : decode cX3_init 4 = .ok (.aload_n 0, 1) := by decide +kernel
theorem dX3_init_5 : decode cX3_init 5 = .ok (.new 7, 3) := by decide +kernel
theorem dX3_init_8 : decode cX3_init 8 = .ok (.dup, 1) := by decide +kernel
theorem dX3_init_9 : decode cX3_init 9 = .ok (.invokespecial 9, 3) := by decide +kernel
theorem dX3_init_12 : decode cX3_init 12 = .ok (.putfield 10, 3) := by decide +kernel
theorem dX3_init_15 : decode cX3_init 15 = .ok (.aload_n 0, 1) := by decide +kernel
theorem dX3_init_16 : decode cX3_init 16 = .ok (.new 16, 3) := by decide +kernel
theorem dX3_init_19 : decode cX3_init 19 = .ok (.dup, 1) := by decide +kernel
theorem dX3_init_20 : decode cX3_init 20 = .ok (.invokespecial 18, 3) := by decide +kernel
theorem dX3_init_23 : decode cX3_init 23 = .ok (.putfield 19, 3) := by decide +kernel
theorem dX3_init_26 : decode cX3_init 26 = .ok (.return_, 1) := by decide +kernel
theorem dX4_init_0 : decode cX4_init 0 = .ok (.aload_n 0, 1) := by decide +kernel
theorem dX4_init_1 : decode cX4_init 1 = .ok (.invokespecial 3, 3) := by decide +kernel
theorem dX4_init_4 : decode cX4_init 4 = .ok (.aload_n 0, 1) := by decide +kernel
theorem dX4_init_5 : decode cX4_init 5 = .ok (.bipush 64, 2) := by decide +kernel
theorem dX4_init_7 : decode cX4_init 7 = .ok (.newarray .int, 2) := by decide +kernel
theorem dX4_init_9 : decode cX4_init 9 = .ok (.putfield 9, 3) := by decide +kernel
theorem dX4_init_12 : decode cX4_init 12 = .ok (.aload_n 0, 1) := by decide +kernel
theorem dX4_init_13 : decode cX4_init 13 = .ok (.bipush 64, 2) := by decide +kernel
theorem dX4_init_15 : decode cX4_init 15 = .ok (.newarray .int, 2) := by decide +kernel
theorem dX4_init_17 : decode cX4_init 17 = .ok (.putfield 15, 3) := by decide +kernel
theorem dX4_init_20 : decode cX4_init 20 = .ok (.return_, 1) := by decide +kernel
set_option maxRecDepth 20000 in
theorem ggX4_weigh_J7_fill_53178 : GoodIn wsX4_weigh wsJ7_fill_53178 := goodIn_r _ [9] (by decide +kernel) (by decide +kernel)
set_option maxRecDepth 20000 in
theorem gX4_weigh_J7_fill_53178 : GoodIn wsX4_weigh (va_wsS RX4 18 yJ7_fill_53178 wsJ7_fill_53178) := goodIn_app (goodIn_of _ (by decide +kernel)) ggX4_weigh_J7_fill_53178
set_option maxRecDepth 20000 in
theorem ggX4_weigh_X4_addWorker : GoodIn wsX4_weigh wsX4_addWorker := goodIn_r _ [14, 15, 1, 16, 17, 18, 19] (by decide +kernel) (by decide +kernel)
set_option maxRecDepth 20000 in
theorem gX4_weigh_X4_addWorker : GoodIn wsX4_weigh (wsV RX4 40 RX4 yX4_addWorker wsX4_addWorker) := goodIn_app (goodIn_of _ (by decide +kernel)) ggX4_weigh_X4_addWorker
theorem dX4_weigh_0 : decode cX4_weigh 0 = .ok (.aload_n 0, 1) := by decide +kernel
theorem dX4_weigh_1 : decode cX4_weigh 1 = .ok (.getfield 9, 3) := by decide +kernel
theorem dX4_weigh_4 : decode cX4_weigh 4 = .ok (.iconst 0, 1) := by decide +kernel
theorem dX4_weigh_5 : decode cX4_weigh 5 = .ok (.invokestatic 18, 3) := by decide +kernel
theorem dX4_weigh_8 : decode cX4_weigh 8 = .ok (.iconst 0, 1) := by decide +kernel
theorem dX4_weigh_9 : decode cX4_weigh 9 = .ok (.istore_n 3, 1) := by decide +kernel
theorem dX4_weigh_10 : decode cX4_weigh 10 = .ok (.iload_n 3, 1) := by decide +kernel
theorem dX4_weigh_11 : decode cX4_weigh 11 = .ok (.aload_n 1, 1) := by decide +kernel
theorem dX4_weigh_12 : decode cX4_weigh 12 = .ok (.getfield 24, 3) := by decide +kernel
theorem dX4_weigh_15 : decode cX4_weigh 15 = .ok (.if_icmp .ge 95, 3) := by decide +kernel
theorem dX4_weigh_18 : decode cX4_weigh 18 = .ok (.aload_n 1, 1) := by decide +kernel
theorem dX4_weigh_19 : decode cX4_weigh 19 = .ok (.getfield 30, 3) := by decide +kernel
theorem dX4_weigh_22 : decode cX4_weigh 22 = .ok (.iload_n 3, 1) := by decide +kernel
theorem dX4_weigh_23 : decode cX4_weigh 23 = .ok (.aaload, 1) := by decide +kernel
theorem dX4_weigh_24 : decode cX4_weigh 24 = .ok (.astore 4, 2) := by decide +kernel
theorem dX4_weigh_26 : decode cX4_weigh 26 = .ok (.iconst 0, 1) := by decide +kernel
theorem dX4_weigh_27 : decode cX4_weigh 27 = .ok (.istore 5, 2) := by decide +kernel
theorem dX4_weigh_29 : decode cX4_weigh 29 = .ok (.iload 5, 2) := by decide +kernel
theorem dX4_weigh_31 : decode cX4_weigh 31 = .ok (.aload_n 1, 1) := by decide +kernel
theorem dX4_weigh_32 : decode cX4_weigh 32 = .ok (.getfield 34, 3) := by decide +kernel
theorem dX4_weigh_35 : decode cX4_weigh 35 = .ok (.if_icmp .ge 69, 3) := by decide +kernel
theorem dX4_weigh_38 : decode cX4_weigh 38 = .ok (.aload_n 1, 1) := by decide +kernel
theorem dX4_weigh_39 : decode cX4_weigh 39 = .ok (.getfield 37, 3) := by decide +kernel
theorem dX4_weigh_42 : decode cX4_weigh 42 = .ok (.iload 5, 2) := by decide +kernel
theorem dX4_weigh_44 : decode cX4_weigh 44 = .ok (.aaload, 1) := by decide +kernel
theorem dX4_weigh_45 : decode cX4_weigh 45 = .ok (.iconst 0, 1) := by decide +kernel
theorem dX4_weigh_46 : decode cX4_weigh 46 = .ok (.iaload, 1) := by decide +kernel
theorem dX4_weigh_47 : decode cX4_weigh 47 = .ok (.aload 4, 2) := by decide +kernel
theorem dX4_weigh_49 : decode cX4_weigh 49 = .ok (.iconst 0, 1) := by decide +kernel
theorem dX4_weigh_50 : decode cX4_weigh 50 = .ok (.iaload, 1) := by decide +kernel
theorem dX4_weigh_51 : decode cX4_weigh 51 = .ok (.if_icmp .ne 7, 3) := by decide +kernel
theorem dX4_weigh_54 : decode cX4_weigh 54 = .ok (.iconst 1, 1) := by decide +kernel
theorem dX4_weigh_55 : decode cX4_weigh 55 = .ok (.goto 4, 3) := by decide +kernel
theorem dX4_weigh_58 : decode cX4_weigh 58 = .ok (.iconst 0, 1) := by decide +kernel
theorem dX4_weigh_59 : decode cX4_weigh 59 = .ok (.istore 6, 2) := by decide +kernel
theorem dX4_weigh_61 : decode cX4_weigh 61 = .ok (.iload 6, 2) := by decide +kernel
theorem dX4_weigh_63 : decode cX4_weigh 63 = .ok (.ifCond .eq 7, 3) := by decide +kernel
theorem dX4_weigh_66 : decode cX4_weigh 66 = .ok (.iconst 0, 1) := by decide +kernel
theorem dX4_weigh_67 : decode cX4_weigh 67 = .ok (.goto 12, 3) := by decide +kernel
theorem dX4_weigh_70 : decode cX4_weigh 70 = .ok (.aload_n 2, 1) := by decide +kernel
theorem dX4_weigh_71 : decode cX4_weigh 71 = .ok (.iload 5, 2) := by decide +kernel
theorem dX4_weigh_73 : decode cX4_weigh 73 = .ok (.aaload, 1) := by decide +kernel
theorem dX4_weigh_74 : decode cX4_weigh 74 = .ok (.aload 4, 2) := by decide +kernel
theorem dX4_weigh_76 : decode cX4_weigh 76 = .ok (.iconst 0, 1) := by decide +kernel
theorem dX4_weigh_77 : decode cX4_weigh 77 = .ok (.iaload, 1) := by decide +kernel
theorem dX4_weigh_78 : decode cX4_weigh 78 = .ok (.iaload, 1) := by decide +kernel
theorem dX4_weigh_79 : decode cX4_weigh 79 = .ok (.istore 7, 2) := by decide +kernel
theorem dX4_weigh_81 : decode cX4_weigh 81 = .ok (.aload_n 0, 1) := by decide +kernel
theorem dX4_weigh_82 : decode cX4_weigh 82 = .ok (.iconst 1, 1) := by decide +kernel
theorem dX4_weigh_83 : decode cX4_weigh 83 = .ok (.iload 5, 2) := by decide +kernel
theorem dX4_weigh_85 : decode cX4_weigh 85 = .ok (.ishl, 1) := by decide +kernel
theorem dX4_weigh_86 : decode cX4_weigh 86 = .ok (.iload 7, 2) := by decide +kernel
theorem dX4_weigh_88 : decode cX4_weigh 88 = .ok (.aload 4, 2) := by decide +kernel
theorem dX4_weigh_90 : decode cX4_weigh 90 = .ok (.iconst 3, 1) := by decide +kernel
theorem dX4_weigh_91 : decode cX4_weigh 91 = .ok (.iaload, 1) := by decide +kernel
theorem dX4_weigh_92 : decode cX4_weigh 92 = .ok (.iconst 1, 1) := by decide +kernel
theorem dX4_weigh_93 : decode cX4_weigh 93 = .ok (.iload_n 3, 1) := by decide +kernel
theorem dX4_weigh_94 : decode cX4_weigh 94 = .ok (.ishl, 1) := by decide +kernel
theorem dX4_weigh_95 : decode cX4_weigh 95 = .ok (.invokevirtual 40, 3) := by decide +kernel
theorem dX4_weigh_98 : decode cX4_weigh 98 = .ok (.iinc 5 1, 3) := by decide +kernel
theorem dX4_weigh_101 : decode cX4_weigh 101 = .ok (.goto (-72), 3) := by decide +kernel
theorem dX4_weigh_104 : decode cX4_weigh 104 = .ok (.iinc 3 1, 3) := by decide +kernel
theorem dX4_weigh_107 : decode cX4_weigh 107 = .ok (.goto (-97), 3) := by decide +kernel
theorem dX4_weigh_110 : decode cX4_weigh 110 = .ok (.return_, 1) := by decide +kernel
theorem dX4_addWorker_0 : decode cX4_addWorker 0 = .ok (.iconst 0, 1) := by decide +kernel
theorem dX4_addWorker_1 : decode cX4_addWorker 1 = .ok (.istore 5, 2) := by decide +kernel
theorem dX4_addWorker_3 : decode cX4_addWorker 3 = .ok (.iload 5, 2) := by decide +kernel
theorem dX4_addWorker_5 : decode cX4_addWorker 5 = .ok (.iload_n 1, 1) := by decide +kernel
theorem dX4_addWorker_6 : decode cX4_addWorker 6 = .ok (.if_icmp .ge 54, 3) := by decide +kernel
theorem dX4_addWorker_9 : decode cX4_addWorker 9 = .ok (.aload_n 0, 1) := by decide +kernel
theorem dX4_addWorker_10 : decode cX4_addWorker 10 = .ok (.getfield 15, 3) := by decide +kernel
theorem dX4_addWorker_13 : decode cX4_addWorker 13 = .ok (.iload_n 1, 1) := by decide +kernel
theorem dX4_addWorker_14 : decode cX4_addWorker 14 = .ok (.iload 5, 2) := by decide +kernel
theorem dX4_addWorker_16 : decode cX4_addWorker 16 = .ok (.iadd, 1) := by decide +kernel
theorem dX4_addWorker_17 : decode cX4_addWorker 17 = .ok (.aload_n 0, 1) := by decide +kernel
theorem dX4_addWorker_18 : decode cX4_addWorker 18 = .ok (.getfield 15, 3) := by decide +kernel
theorem dX4_addWorker_21 : decode cX4_addWorker 21 = .ok (.iload 5, 2) := by decide +kernel
theorem dX4_addWorker_23 : decode cX4_addWorker 23 = .ok (.iaload, 1) := by decide +kernel
theorem dX4_addWorker_24 : decode cX4_addWorker 24 = .ok (.iload_n 2, 1) := by decide +kernel
theorem dX4_addWorker_25 : decode cX4_addWorker 25 = .ok (.iadd, 1) := by decide +kernel
theorem dX4_addWorker_26 : decode cX4_addWorker 26 = .ok (.iastore, 1) := by decide +kernel
theorem dX4_addWorker_27 : decode cX4_addWorker 27 = .ok (.aload_n 0, 1) := by decide +kernel
theorem dX4_addWorker_28 : decode cX4_addWorker 28 = .ok (.getfield 15, 3) := by decide +kernel
theorem dX4_addWorker_31 : decode cX4_addWorker 31 = .ok (.iload_n 1, 1) := by decide +kernel
theorem dX4_addWorker_32 : decode cX4_addWorker 32 = .ok (.iload 5, 2) := by decide +kernel
theorem dX4_addWorker_34 : decode cX4_addWorker 34 = .ok (.iadd, 1) := by decide +kernel
theorem dX4_addWorker_35 : decode cX4_addWorker 35 = .ok (.iaload, 1) := by decide +kernel
theorem dX4_addWorker_36 : decode cX4_addWorker 36 = .ok (.iload_n 3, 1) := by decide +kernel
theorem dX4_addWorker_37 : decode cX4_addWorker 37 = .ok (.if_icmp .le 17, 3) := by decide +kernel
theorem dX4_addWorker_40 : decode cX4_addWorker 40 = .ok (.aload_n 0, 1) := by decide +kernel
theorem dX4_addWorker_41 : decode cX4_addWorker 41 = .ok (.getfield 9, 3) := by decide +kernel
theorem dX4_addWorker_44 : decode cX4_addWorker 44 = .ok (.iload_n 1, 1) := by decide +kernel
theorem dX4_addWorker_45 : decode cX4_addWorker 45 = .ok (.iload 5, 2) := by decide +kernel
theorem dX4_addWorker_47 : decode cX4_addWorker 47 = .ok (.iadd, 1) := by decide +kernel
theorem dX4_addWorker_48 : decode cX4_addWorker 48 = .ok (.dup2, 1) := by decide +kernel
theorem dX4_addWorker_49 : decode cX4_addWorker 49 = .ok (.iaload, 1) := by decide +kernel
theorem dX4_addWorker_50 : decode cX4_addWorker 50 = .ok (.iload 4, 2) := by decide +kernel
theorem dX4_addWorker_52 : decode cX4_addWorker 52 = .ok (.ior, 1) := by decide +kernel
theorem dX4_addWorker_53 : decode cX4_addWorker 53 = .ok (.iastore, 1) := by decide +kernel
theorem dX4_addWorker_54 : decode cX4_addWorker 54 = .ok (.iinc 5 1, 3) := by decide +kernel
theorem dX4_addWorker_57 : decode cX4_addWorker 57 = .ok (.goto (-54), 3) := by decide +kernel
theorem dX4_addWorker_60 : decode cX4_addWorker 60 = .ok (.return_, 1) := by decide +kernel
set_option maxRecDepth 20000 in
theorem ggX4_choose_X2_allWorkers : GoodIn wsX4_choose wsX2_allWorkers := goodIn_r _ [11, 12, 17, 18, 19, 20, 21, 22, 23, 24, 25, 26] (by decide +kernel) (by decide +kernel)
set_option maxRecDepth 20000 in
theorem gX4_choose_X2_allWorkers : GoodIn wsX4_choose (wsV RX4 50 RX2 yX2_allWorkers wsX2_allWorkers) := goodIn_app (goodIn_of _ (by decide +kernel)) ggX4_choose_X2_allWorkers
theorem dX4_choose_0 : decode cX4_choose 0 = .ok (.aload_n 0, 1) := by decide +kernel
theorem dX4_choose_1 : decode cX4_choose 1 = .ok (.iconst 0, 1) := by decide +kernel
theorem dX4_choose_2 : decode cX4_choose 2 = .ok (.putfield 44, 3) := by decide +kernel
theorem dX4_choose_5 : decode cX4_choose 5 = .ok (.aload_n 0, 1) := by decide +kernel
theorem dX4_choose_6 : decode cX4_choose 6 = .ok (.iconst 0, 1) := by decide +kernel
theorem dX4_choose_7 : decode cX4_choose 7 = .ok (.putfield 47, 3) := by decide +kernel
theorem dX4_choose_10 : decode cX4_choose 10 = .ok (.iconst 1, 1) := by decide +kernel
theorem dX4_choose_11 : decode cX4_choose 11 = .ok (.istore 4, 2) := by decide +kernel
theorem dX4_choose_13 : decode cX4_choose 13 = .ok (.iload 4, 2) := by decide +kernel
theorem dX4_choose_15 : decode cX4_choose 15 = .ok (.aload_n 1, 1) := by decide +kernel
theorem dX4_choose_16 : decode cX4_choose 16 = .ok (.invokevirtual 50, 3) := by decide +kernel
theorem dX4_choose_19 : decode cX4_choose 19 = .ok (.if_icmp .gt 75, 3) := by decide +kernel
theorem dX4_choose_22 : decode cX4_choose 22 = .ok (.aload_n 0, 1) := by decide +kernel
theorem dX4_choose_23 : decode cX4_choose 23 = .ok (.getfield 9, 3) := by decide +kernel
theorem dX4_choose_26 : decode cX4_choose 26 = .ok (.iload 4, 2) := by decide +kernel
theorem dX4_choose_28 : decode cX4_choose 28 = .ok (.iaload, 1) := by decide +kernel
theorem dX4_choose_29 : decode cX4_choose 29 = .ok (.aload_n 1, 1) := by decide +kernel
theorem dX4_choose_30 : decode cX4_choose 30 = .ok (.getfield 54, 3) := by decide +kernel
theorem dX4_choose_33 : decode cX4_choose 33 = .ok (.iload_n 2, 1) := by decide +kernel
theorem dX4_choose_34 : decode cX4_choose 34 = .ok (.iaload, 1) := by decide +kernel
theorem dX4_choose_35 : decode cX4_choose 35 = .ok (.iand, 1) := by decide +kernel
theorem dX4_choose_36 : decode cX4_choose 36 = .ok (.istore 5, 2) := by decide +kernel
theorem dX4_choose_38 : decode cX4_choose 38 = .ok (.iload_n 3, 1) := by decide +kernel
theorem dX4_choose_39 : decode cX4_choose 39 = .ok (.ifCond .ne 11, 3) := by decide +kernel
theorem dX4_choose_42 : decode cX4_choose 42 = .ok (.iload 5, 2) := by decide +kernel
theorem dX4_choose_44 : decode cX4_choose 44 = .ok (.ifCond .eq 6, 3) := by decide +kernel
theorem dX4_choose_47 : decode cX4_choose 47 = .ok (.goto 41, 3) := by decide +kernel
theorem dX4_choose_50 : decode cX4_choose 50 = .ok (.aload_n 1, 1) := by decide +kernel
theorem dX4_choose_51 : decode cX4_choose 51 = .ok (.getfield 57, 3) := by decide +kernel
theorem dX4_choose_54 : decode cX4_choose 54 = .ok (.iload 4, 2) := by decide +kernel
theorem dX4_choose_56 : decode cX4_choose 56 = .ok (.iaload, 1) := by decide +kernel
theorem dX4_choose_57 : decode cX4_choose 57 = .ok (.aload_n 1, 1) := by decide +kernel
theorem dX4_choose_58 : decode cX4_choose 58 = .ok (.getfield 60, 3) := by decide +kernel
theorem dX4_choose_61 : decode cX4_choose 61 = .ok (.iload 5, 2) := by decide +kernel
theorem dX4_choose_63 : decode cX4_choose 63 = .ok (.iaload, 1) := by decide +kernel
theorem dX4_choose_64 : decode cX4_choose 64 = .ok (.isub, 1) := by decide +kernel
theorem dX4_choose_65 : decode cX4_choose 65 = .ok (.istore 6, 2) := by decide +kernel
theorem dX4_choose_67 : decode cX4_choose 67 = .ok (.iload 6, 2) := by decide +kernel
theorem dX4_choose_69 : decode cX4_choose 69 = .ok (.aload_n 0, 1) := by decide +kernel
theorem dX4_choose_70 : decode cX4_choose 70 = .ok (.getfield 47, 3) := by decide +kernel
theorem dX4_choose_73 : decode cX4_choose 73 = .ok (.if_icmp .le 15, 3) := by decide +kernel
theorem dX4_choose_76 : decode cX4_choose 76 = .ok (.aload_n 0, 1) := by decide +kernel
theorem dX4_choose_77 : decode cX4_choose 77 = .ok (.iload 6, 2) := by decide +kernel
theorem dX4_choose_79 : decode cX4_choose 79 = .ok (.putfield 47, 3) := by decide +kernel
theorem dX4_choose_82 : decode cX4_choose 82 = .ok (.aload_n 0, 1) := by decide +kernel
theorem dX4_choose_83 : decode cX4_choose 83 = .ok (.iload 4, 2) := by decide +kernel
theorem dX4_choose_85 : decode cX4_choose 85 = .ok (.putfield 44, 3) := by decide +kernel
theorem dX4_choose_88 : decode cX4_choose 88 = .ok (.iinc 4 1, 3) := by decide +kernel
theorem dX4_choose_91 : decode cX4_choose 91 = .ok (.goto (-78), 3) := by decide +kernel
theorem dX4_choose_94 : decode cX4_choose 94 = .ok (.return_, 1) := by decide +kernel
set_option maxRecDepth 20000 in
theorem ggX4_wholeDay_X4_choose : GoodIn wsX4_wholeDay wsX4_choose := goodIn_r _ [6, 7, 1, 8, 9, 10, 11, 12, 13, 14, 15, 16, 17, 18, 19, 20, 21, 22, 23, 24, 25, 26, 27, 28, 29, 30, 31] (by decide +kernel) (by decide +kernel)
