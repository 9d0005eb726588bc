theorem dX5_spells_59 : decode cX5_spells 59 = .ok (.ireturn, 1) := by decide +kernel
theorem dX6_init_0 : decode cX6_init 0 = .ok (.aload_n 0, 1) := by decide +kernel
theorem dX6_init_1 : decode cX6_init 1 = .ok (.invokespecial 3, 3) := by decide +kernel
theorem dX6_init_4 : decode cX6_init 4 = .ok (.aload_n 0, 1) := by decide +kernel
theorem dX6_init_5 : decode cX6_init 5 = .ok (.bipush 6, 2) := by decide +kernel
theorem dX6_init_7 : decode cX6_init 7 = .ok (.bipush 48, 2) := by decide +kernel
theorem dX6_init_9 : decode cX6_init 9 = .ok (.multianewarray 9 2, 4) := by decide +kernel
theorem dX6_init_13 : decode cX6_init 13 = .ok (.putfield 11, 3) := by decide +kernel
theorem dX6_init_16 : decode cX6_init 16 = .ok (.aload_n 0, 1) := by decide +kernel
theorem dX6_init_17 : decode cX6_init 17 = .ok (.bipush 48, 2) := by decide +kernel
theorem dX6_init_19 : decode cX6_init 19 = .ok (.newarray .int, 2) := by decide +kernel
theorem dX6_init_21 : decode cX6_init 21 = .ok (.putfield 16, 3) := by decide +kernel
theorem dX6_init_24 : decode cX6_init 24 = .ok (.aload_n 0, 1) := by decide +kernel
theorem dX6_init_25 : decode cX6_init 25 = .ok (.iconst 3, 1) := by decide +kernel
theorem dX6_init_26 : decode cX6_init 26 = .ok (.putfield 20, 3) := by decide +kernel
theorem dX6_init_29 : decode cX6_init 29 = .ok (.return_, 1) := by decide +kernel
set_option maxRecDepth 20000 in
theorem ggX6_hearWorkers_X6_spread : GoodIn wsX6_hearWorkers wsX6_spread := goodIn_r _ [8, 9, 10, 11, 12, 13, 14, 15, 7, 16, 17, 18, 19, 20, 21, 22, 23, 24, 25, 26, 27, 28, 29, 30, 31, 32, 33, 34, 35, 36, 37, 38, 39, 40, 41, 42, 43, 44, 45, 46, 47, 48, 49, 53, 54, 55, 56, 50, 51, 52] (by decide +kernel) (by decide +kernel)
set_option maxRecDepth 20000 in
theorem gX6_hearWorkers_X6_spread : GoodIn wsX6_hearWorkers (wsV RX6 32 RX6 yX6_spread wsX6_spread) := goodIn_app (goodIn_of _ (by decide +kernel)) ggX6_hearWorkers_X6_spread
theorem dX6_hearWorkers_0 : decode cX6_hearWorkers 0 = .ok (.iconst 0, 1) := by decide +kernel
theorem dX6_hearWorkers_1 : decode cX6_hearWorkers 1 = .ok (.istore_n 2, 1) := by decide +kernel
theorem dX6_hearWorkers_2 : decode cX6_hearWorkers 2 = .ok (.iload_n 2, 1) := by decide +kernel
theorem dX6_hearWorkers_3 : decode cX6_hearWorkers 3 = .ok (.aload_n 1, 1) := by decide +kernel
theorem dX6_hearWorkers_4 : decode cX6_hearWorkers 4 = .ok (.getfield 24, 3) := by decide +kernel
theorem dX6_hearWorkers_7 : decode cX6_hearWorkers 7 = .ok (.if_icmp .ge 36, 3) := by decide +kernel
theorem dX6_hearWorkers_10 : decode cX6_hearWorkers 10 = .ok (.aload_n 0, 1) := by decide +kernel
theorem dX6_hearWorkers_11 : decode cX6_hearWorkers 11 = .ok (.aload_n 1, 1) := by decide +kernel
theorem dX6_hearWorkers_12 : decode cX6_hearWorkers 12 = .ok (.aload_n 1, 1) := by decide +kernel
theorem dX6_hearWorkers_13 : decode cX6_hearWorkers 13 = .ok (.getfield 29, 3) := by decide +kernel
theorem dX6_hearWorkers_16 : decode cX6_hearWorkers 16 = .ok (.iload_n 2, 1) := by decide +kernel
theorem dX6_hearWorkers_17 : decode cX6_hearWorkers 17 = .ok (.aaload, 1) := by decide +kernel
theorem dX6_hearWorkers_18 : decode cX6_hearWorkers 18 = .ok (.iconst 0, 1) := by decide +kernel
theorem dX6_hearWorkers_19 : decode cX6_hearWorkers 19 = .ok (.iaload, 1) := by decide +kernel
theorem dX6_hearWorkers_20 : decode cX6_hearWorkers 20 = .ok (.aload_n 1, 1) := by decide +kernel
theorem dX6_hearWorkers_21 : decode cX6_hearWorkers 21 = .ok (.getfield 29, 3) := by decide +kernel
theorem dX6_hearWorkers_24 : decode cX6_hearWorkers 24 = .ok (.iload_n 2, 1) := by decide +kernel
theorem dX6_hearWorkers_25 : decode cX6_hearWorkers 25 = .ok (.aaload, 1) := by decide +kernel
theorem dX6_hearWorkers_26 : decode cX6_hearWorkers 26 = .ok (.iconst 1, 1) := by decide +kernel
theorem dX6_hearWorkers_27 : decode cX6_hearWorkers 27 = .ok (.iaload, 1) := by decide +kernel
theorem dX6_hearWorkers_28 : decode cX6_hearWorkers 28 = .ok (.aload_n 0, 1) := by decide +kernel
theorem dX6_hearWorkers_29 : decode cX6_hearWorkers 29 = .ok (.getfield 11, 3) := by decide +kernel
theorem dX6_hearWorkers_32 : decode cX6_hearWorkers 32 = .ok (.iload_n 2, 1) := by decide +kernel
theorem dX6_hearWorkers_33 : decode cX6_hearWorkers 33 = .ok (.aaload, 1) := by decide +kernel
theorem dX6_hearWorkers_34 : decode cX6_hearWorkers 34 = .ok (.invokevirtual 32, 3) := by decide +kernel
theorem dX6_hearWorkers_37 : decode cX6_hearWorkers 37 = .ok (.iinc 2 1, 3) := by decide +kernel
theorem dX6_hearWorkers_40 : decode cX6_hearWorkers 40 = .ok (.goto (-38), 3) := by decide +kernel
theorem dX6_hearWorkers_43 : decode cX6_hearWorkers 43 = .ok (.return_, 1) := by decide +kernel
set_option maxRecDepth 20000 in
theorem ggX6_hearSaw_X6_spread : GoodIn wsX6_hearSaw wsX6_spread := goodIn_r _ [6, 7, 8, 9, 10, 11, 12, 13, 5, 14, 15, 16, 17, 18, 19, 20, 21, 22, 23, 24, 25, 26, 27, 28, 29, 30, 31, 32, 33, 34, 35, 36, 37, 41, 42, 43, 44, 45, 46, 47, 48, 49, 50, 51, 52, 53, 54, 38, 39, 40] (by decide +kernel) (by decide +kernel)
set_option maxRecDepth 20000 in
theorem gX6_hearSaw_X6_spread : GoodIn wsX6_hearSaw (wsV RX6 32 RX6 yX6_spread wsX6_spread) := goodIn_app (goodIn_of _ (by decide +kernel)) ggX6_hearSaw_X6_spread
theorem dX6_hearSaw_0 : decode cX6_hearSaw 0 = .ok (.aload_n 0, 1) := by decide +kernel
theorem dX6_hearSaw_1 : decode cX6_hearSaw 1 = .ok (.aload_n 1, 1) := by decide +kernel
theorem dX6_hearSaw_2 : decode cX6_hearSaw 2 = .ok (.iload_n 2, 1) := by decide +kernel
theorem dX6_hearSaw_3 : decode cX6_hearSaw 3 = .ok (.iload_n 3, 1) := by decide +kernel
theorem dX6_hearSaw_4 : decode cX6_hearSaw 4 = .ok (.aload_n 0, 1) := by decide +kernel
theorem dX6_hearSaw_5 : decode cX6_hearSaw 5 = .ok (.getfield 16, 3) := by decide +kernel
theorem dX6_hearSaw_8 : decode cX6_hearSaw 8 = .ok (.invokevirtual 32, 3) := by decide +kernel
theorem dX6_hearSaw_11 : decode cX6_hearSaw 11 = .ok (.return_, 1) := by decide +kernel
theorem dX6_heardIn_0 : decode cX6_heardIn 0 = .ok (.iconst 0, 1) := by decide +kernel
theorem dX6_heardIn_1 : decode cX6_heardIn 1 = .ok (.istore 4, 2) := by decide +kernel
theorem dX6_heardIn_3 : decode cX6_heardIn 3 = .ok (.iconst 0, 1) := by decide +kernel
theorem dX6_heardIn_4 : decode cX6_heardIn 4 = .ok (.istore 5, 2) := by decide +kernel
theorem dX6_heardIn_6 : decode cX6_heardIn 6 = .ok (.iload 5, 2) := by decide +kernel
theorem dX6_heardIn_8 : decode cX6_heardIn 8 = .ok (.aload_n 1, 1) := by decide +kernel
theorem dX6_heardIn_9 : decode cX6_heardIn 9 = .ok (.getfield 24, 3) := by decide +kernel
theorem dX6_heardIn_12 : decode cX6_heardIn 12 = .ok (.if_icmp .ge 32, 3) := by decide +kernel
theorem dX6_heardIn_15 : decode cX6_heardIn 15 = .ok (.iload_n 3, 1) := by decide +kernel
theorem dX6_heardIn_16 : decode cX6_heardIn 16 = .ok (.iload 5, 2) := by decide +kernel
theorem dX6_heardIn_18 : decode cX6_heardIn 18 = .ok (.ishr, 1) := by decide +kernel
theorem dX6_heardIn_19 : decode cX6_heardIn 19 = .ok (.iconst 1, 1) := by decide +kernel
theorem dX6_heardIn_20 : decode cX6_heardIn 20 = .ok (.iand, 1) := by decide +kernel
theorem dX6_heardIn_21 : decode cX6_heardIn 21 = .ok (.ifCond .eq 17, 3) := by decide +kernel
theorem dX6_heardIn_24 : decode cX6_heardIn 24 = .ok (.iload 4, 2) := by decide +kernel
theorem dX6_heardIn_26 : decode cX6_heardIn 26 = .ok (.aload_n 0, 1) := by decide +kernel
theorem dX6_heardIn_27 : decode cX6_heardIn 27 = .ok (.getfield 11, 3) := by decide +kernel
theorem dX6_heardIn_30 : decode cX6_heardIn 30 = .ok (.iload 5, 2) := by decide +kernel
theorem dX6_heardIn_32 : decode cX6_heardIn 32 = .ok (.aaload, 1) := by decide +kernel
theorem dX6_heardIn_33 : decode cX6_heardIn 33 = .ok (.iload_n 2, 1) := by decide +kernel
theorem dX6_heardIn_34 : decode cX6_heardIn 34 = .ok (.iaload, 1) := by decide +kernel
theorem dX6_heardIn_35 : decode cX6_heardIn 35 = .ok (.iadd, 1) := by decide +kernel
theorem dX6_heardIn_36 : decode cX6_heardIn 36 = .ok (.istore 4, 2) := by decide +kernel
theorem dX6_heardIn_38 : decode cX6_heardIn 38 = .ok (.iinc 5 1, 3) := by decide +kernel
theorem dX6_heardIn_41 : decode cX6_heardIn 41 = .ok (.goto (-35), 3) := by decide +kernel
theorem dX6_heardIn_44 : decode cX6_heardIn 44 = .ok (.iload 4, 2) := by decide +kernel
theorem dX6_heardIn_46 : decode cX6_heardIn 46 = .ok (.ireturn, 1) := by decide +kernel
set_option maxRecDepth 20000 in
theorem ggX6_spread_J7_fill_53178 : GoodIn wsX6_spread wsJ7_fill_53178 := goodIn_r _ [4] (by decide +kernel) (by decide +kernel)
set_option maxRecDepth 20000 in
theorem gX6_spread_J7_fill_53178 : GoodIn wsX6_spread (va_wsS RX6 36 yJ7_fill_53178 wsJ7_fill_53178) := goodIn_app (goodIn_of _ (by decide +kernel)) ggX6_spread_J7_fill_53178
set_option maxRecDepth 20000 in
theorem ggX6_spread_X6_sweepOn : GoodIn wsX6_spread wsX6_sweepOn := goodIn_r _ [9, 10, 11, 12, 13, 14, 15, 16, 17, 8, 18, 19, 20, 21, 22, 23, 24, 25, 26, 27, 28, 33, 34, 35, 36, 37, 38, 39, 40, 41, 42, 43, 44, 45, 46, 47, 48, 49] (by decide +kernel) (by decide +kernel)
set_option maxRecDepth 20000 in
theorem gX6_spread_X6_sweepOn : GoodIn wsX6_spread (wsV RX6 42 RX6 yX6_sweepOn wsX6_sweepOn) := goodIn_app (goodIn_of _ (by decide +kernel)) ggX6_spread_X6_sweepOn
set_option maxRecDepth 20000 in
theorem ggX6_spread_X6_sweepAgainst : GoodIn wsX6_spread wsX6_sweepAgainst := goodIn_r _ [32, 10, 11, 12, 13, 14, 15, 16, 17, 8, 18, 19, 20, 21, 22, 23, 24, 25, 26, 27, 28, 33, 34, 35, 36, 37, 38, 39, 40, 41, 42, 43, 44, 45, 46, 47, 48, 49] (by decide +kernel) (by decide +kernel)
set_option maxRecDepth 20000 in
theorem gX6_spread_X6_sweepAgainst : GoodIn wsX6_spread (wsV RX6 46 RX6 yX6_sweepAgainst wsX6_sweepAgainst) := goodIn_app (goodIn_of _ (by decide +kernel)) ggX6_spread_X6_sweepAgainst
theorem dX6_spread_0 : decode cX6_spread 0 = .ok (.aload 4, 2) := by decide +kernel
theorem dX6_spread_2 : decode cX6_spread 2 = .ok (.iconst 0, 1) := by decide +kernel
theorem dX6_spread_3 : decode cX6_spread 3 = .ok (.invokestatic 36, 3) := by decide +kernel
theorem dX6_spread_6 : decode cX6_spread 6 = .ok (.aload 4, 2) := by decide +kernel
theorem dX6_spread_8 : decode cX6_spread 8 = .ok (.iload_n 2, 1) := by decide +kernel
theorem dX6_spread_9 : decode cX6_spread 9 = .ok (.iload_n 3, 1) := by decide +kernel
theorem dX6_spread_10 : decode cX6_spread 10 = .ok (.iastore, 1) := by decide +kernel
theorem dX6_spread_11 : decode cX6_spread 11 = .ok (.iconst 1, 1) := by decide +kernel
theorem dX6_spread_12 : decode cX6_spread 12 = .ok (.istore 5, 2) := by decide +kernel
theorem dX6_spread_14 : decode cX6_spread 14 = .ok (.iconst 0, 1) := by decide +kernel
theorem dX6_spread_15 : decode cX6_spread 15 = .ok (.istore 6, 2) := by decide +kernel
theorem dX6_spread_17 : decode cX6_spread 17 = .ok (.iload 6, 2) := by decide +kernel
theorem dX6_spread_19 : decode cX6_spread 19 = .ok (.bipush 48, 2) := by decide +kernel
theorem dX6_spread_21 : decode cX6_spread 21 = .ok (.if_icmp .ge 30, 3) := by decide +kernel
theorem dX6_spread_24 : decode cX6_spread 24 = .ok (.iload 5, 2) := by decide +kernel
theorem dX6_spread_26 : decode cX6_spread 26 = .ok (.ifCond .eq 25, 3) := by decide +kernel
theorem dX6_spread_29 : decode cX6_spread 29 = .ok (.aload_n 0, 1) := by decide +kernel
theorem dX6_spread_30 : decode cX6_spread 30 = .ok (.aload_n 1, 1) := by decide +kernel
theorem dX6_spread_31 : decode cX6_spread 31 = .ok (.aload 4, 2) := by decide +kernel
theorem dX6_spread_33 : decode cX6_spread 33 = .ok (.invokevirtual 42, 3) := by decide +kernel
theorem dX6_spread_36 : decode cX6_spread 36 = .ok (.aload_n 0, 1) := by decide +kernel
theorem dX6_spread_37 : decode cX6_spread 37 = .ok (.aload_n 1, 1) := by decide +kernel
theorem dX6_spread_38 : decode cX6_spread 38 = .ok (.aload 4, 2) := by decide +kernel
theorem dX6_spread_40 : decode cX6_spread 40 = .ok (.invokevirtual 46, 3) := by decide +kernel
theorem dX6_spread_43 : decode cX6_spread 43 = .ok (.istore 5, 2) := by decide +kernel
theorem dX6_spread_45 : decode cX6_spread 45 = .ok (.iinc 6 1, 3) := by decide +kernel
theorem dX6_spread_48 : decode cX6_spread 48 = .ok (.goto (-31), 3) := by decide +kernel
theorem dX6_spread_51 : decode cX6_spread 51 = .ok (.return_, 1) := by decide +kernel
set_option maxRecDepth 20000 in
theorem ggX6_sweepOn_X6_lossWith : GoodIn wsX6_sweepOn wsX6_lossWith := goodIn_r _ [10, 11, 12, 13, 14, 15, 35, 36, 37] (by decide +kernel) (by decide +kernel)
set_option maxRecDepth 20000 in
theorem gX6_sweepOn_X6_lossWith : GoodIn wsX6_sweepOn (wsV RX6 59 RX6 yX6_lossWith wsX6_lossWith) := goodIn_app (goodIn_of _ (by decide +kernel)) ggX6_sweepOn_X6_lossWith
set_option maxRecDepth 20000 in
theorem ggX6_sweepOn_X6_carry : GoodIn wsX6_sweepOn wsX6_carry := goodIn_r _ [18, 19, 20, 31, 32, 33, 34] (by decide +kernel) (by decide +kernel)
set_option maxRecDepth 20000 in
theorem gX6_sweepOn_X6_carry : GoodIn wsX6_sweepOn (va_wsS RX6 72 yX6_carry wsX6_carry) := goodIn_app (goodIn_of _ (by decide +kernel)) ggX6_sweepOn_X6_carry
theorem dX6_sweepOn_0 : decode cX6_sweepOn 0 = .ok (.aload_n 1, 1) := by decide +kernel
theorem dX6_sweepOn_1 : decode cX6_sweepOn 1 = .ok (.getfield 50, 3) := by decide +kernel
theorem dX6_sweepOn_4 : decode cX6_sweepOn 4 = .ok (.astore_n 3, 1) := by decide +kernel
theorem dX6_sweepOn_5 : decode cX6_sweepOn 5 = .ok (.aload_n 0, 1) := by decide +kernel
theorem dX6_sweepOn_6 : decode cX6_sweepOn 6 = .ok (.aload_n 3, 1) := by decide +kernel
theorem dX6_sweepOn_7 : decode cX6_sweepOn 7 = .ok (.getfield 54, 3) := by decide +kernel
theorem dX6_sweepOn_10 : decode cX6_sweepOn 10 = .ok (.invokevirtual 59, 3) := by decide +kernel
theorem dX6_sweepOn_13 : decode cX6_sweepOn 13 = .ok (.istore 4, 2) := by decide +kernel
theorem dX6_sweepOn_15 : decode cX6_sweepOn 15 = .ok (.aload_n 0, 1) := by decide +kernel
theorem dX6_sweepOn_16 : decode cX6_sweepOn 16 = .ok (.aload_n 3, 1) := by decide +kernel
theorem dX6_sweepOn_17 : decode cX6_sweepOn 17 = .ok (.getfield 63, 3) := by decide +kernel
theorem dX6_sweepOn_20 : decode cX6_sweepOn 20 = .ok (.invokevirtual 59, 3) := by decide +kernel
theorem dX6_sweepOn_23 : decode cX6_sweepOn 23 = .ok (.istore 5, 2) := by decide +kernel
theorem dX6_sweepOn_25 : decode cX6_sweepOn 25 = .ok (.iconst 0, 1) := by decide +kernel
theorem dX6_sweepOn_26 : decode cX6_sweepOn 26 = .ok (.istore 6, 2) := by decide +kernel
theorem dX6_sweepOn_28 : decode cX6_sweepOn 28 = .ok (.iload 6, 2) := by decide +kernel
theorem dX6_sweepOn_30 : decode cX6_sweepOn 30 = .ok (.aload_n 1, 1) := by decide +kernel
theorem dX6_sweepOn_31 : decode cX6_sweepOn 31 = .ok (.getfield 66, 3) := by decide +kernel
theorem dX6_sweepOn_34 : decode cX6_sweepOn 34 = .ok (.if_icmp .ge 106, 3) := by decide +kernel
theorem dX6_sweepOn_37 : decode cX6_sweepOn 37 = .ok (.iconst 0, 1) := by decide +kernel
theorem dX6_sweepOn_38 : decode cX6_sweepOn 38 = .ok (.istore 7, 2) := by decide +kernel
theorem dX6_sweepOn_40 : decode cX6_sweepOn 40 = .ok (.iload 7, 2) := by decide +kernel
theorem dX6_sweepOn_42 : decode cX6_sweepOn 42 = .ok (.aload_n 1, 1) := by decide +kernel
theorem dX6_sweepOn_43 : decode cX6_sweepOn 43 = .ok (.getfield 69, 3) := by decide +kernel
theorem dX6_sweepOn_46 : decode cX6_sweepOn 46 = .ok (.if_icmp .ge 88, 3) := by decide +kernel
theorem dX6_sweepOn_49 : decode cX6_sweepOn 49 = .ok (.aload_n 1, 1) := by decide +kernel
theorem dX6_sweepOn_50 : decode cX6_sweepOn 50 = .ok (.getfield 69, 3) := by decide +kernel
theorem dX6_sweepOn_53 : decode cX6_sweepOn 53 = .ok (.iload 6, 2) := by decide +kernel
theorem dX6_sweepOn_55 : decode cX6_sweepOn 55 = .ok (.imul, 1) := by decide +kernel
theorem dX6_sweepOn_56 : decode cX6_sweepOn 56 = .ok (.iload 7, 2) := by decide +kernel
theorem dX6_sweepOn_58 : decode cX6_sweepOn 58 = .ok (.iadd, 1) := by decide +kernel
theorem dX6_sweepOn_59 : decode cX6_sweepOn 59 = .ok (.istore 8, 2) := by decide +kernel
theorem dX6_sweepOn_61 : decode cX6_sweepOn 61 = .ok (.iload 8, 2) := by decide +kernel
theorem dX6_sweepOn_63 : decode cX6_sweepOn 63 = .ok (.aload_n 1, 1) := by decide +kernel
theorem dX6_sweepOn_64 : decode cX6_sweepOn 64 = .ok (.getfield 69, 3) := by decide +kernel
theorem dX6_sweepOn_67 : decode cX6_sweepOn 67 = .ok (.iadd, 1) := by decide +kernel
theorem dX6_sweepOn_68 : decode cX6_sweepOn 68 = .ok (.istore 9, 2) := by decide +kernel
theorem dX6_sweepOn_70 : decode cX6_sweepOn 70 = .ok (.iload 7, 2) := by decide +kernel
theorem dX6_sweepOn_72 : decode cX6_sweepOn 72 = .ok (.iconst 1, 1) := by decide +kernel
theorem dX6_sweepOn_73 : decode cX6_sweepOn 73 = .ok (.iadd, 1) := by decide +kernel
theorem dX6_sweepOn_74 : decode cX6_sweepOn 74 = .ok (.aload_n 1, 1) := by decide +kernel
theorem dX6_sweepOn_75 : decode cX6_sweepOn 75 = .ok (.getfield 69, 3) := by decide +kernel
theorem dX6_sweepOn_78 : decode cX6_sweepOn 78 = .ok (.if_icmp .ge 21, 3) := by decide +kernel
theorem dX6_sweepOn_81 : decode cX6_sweepOn 81 = .ok (.aload_n 3, 1) := by decide +kernel
theorem dX6_sweepOn_82 : decode cX6_sweepOn 82 = .ok (.iconst 2, 1) := by decide +kernel
theorem dX6_sweepOn_83 : decode cX6_sweepOn 83 = .ok (.iload 8, 2) := by decide +kernel
theorem dX6_sweepOn_85 : decode cX6_sweepOn 85 = .ok (.imul, 1) := by decide +kernel
theorem dX6_sweepOn_86 : decode cX6_sweepOn 86 = .ok (.aload_n 2, 1) := by decide +kernel
theorem dX6_sweepOn_87 : decode cX6_sweepOn 87 = .ok (.iload 8, 2) := by decide +kernel
theorem dX6_sweepOn_89 : decode cX6_sweepOn 89 = .ok (.iload 8, 2) := by decide +kernel
theorem dX6_sweepOn_91 : decode cX6_sweepOn 91 = .ok (.iconst 1, 1) := by decide +kernel
theorem dX6_sweepOn_92 : decode cX6_sweepOn 92 = .ok (.iadd, 1) := by decide +kernel
theorem dX6_sweepOn_93 : decode cX6_sweepOn 93 = .ok (.iload 4, 2) := by decide +kernel
theorem dX6_sweepOn_95 : decode cX6_sweepOn 95 = .ok (.invokestatic 72, 3) := by decide +kernel
theorem dX6_sweepOn_98 : decode cX6_sweepOn 98 = .ok (.pop, 1) := by decide +kernel
theorem dX6_sweepOn_99 : decode cX6_sweepOn 99 = .ok (.iload 6, 2) := by decide +kernel
theorem dX6_sweepOn_101 : decode cX6_sweepOn 101 = .ok (.iconst 1, 1) := by decide +kernel
theorem dX6_sweepOn_102 : decode cX6_sweepOn 102 = .ok (.iadd, 1) := by decide +kernel
theorem dX6_sweepOn_103 : decode cX6_sweepOn 103 = .ok (.aload_n 1, 1) := by decide +kernel
theorem dX6_sweepOn_104 : decode cX6_sweepOn 104 = .ok (.getfield 66, 3) := by decide +kernel
theorem dX6_sweepOn_107 : decode cX6_sweepOn 107 = .ok (.if_icmp .ge 21, 3) := by decide +kernel
theorem dX6_sweepOn_110 : decode cX6_sweepOn 110 = .ok (.aload_n 3, 1) := by decide +kernel
theorem dX6_sweepOn_111 : decode cX6_sweepOn 111 = .ok (.iconst 2, 1) := by decide +kernel
theorem dX6_sweepOn_112 : decode cX6_sweepOn 112 = .ok (.iload 8, 2) := by decide +kernel
theorem dX6_sweepOn_114 : decode cX6_sweepOn 114 = .ok (.imul, 1) := by decide +kernel
theorem dX6_sweepOn_115 : decode cX6_sweepOn 115 = .ok (.iconst 1, 1) := by decide +kernel
theorem dX6_sweepOn_116 : decode cX6_sweepOn 116 = .ok (.iadd, 1) := by decide +kernel
theorem dX6_sweepOn_117 : decode cX6_sweepOn 117 = .ok (.aload_n 2, 1) := by decide +kernel
theorem dX6_sweepOn_118 : decode cX6_sweepOn 118 = .ok (.iload 8, 2) := by decide +kernel
theorem dX6_sweepOn_120 : decode cX6_sweepOn 120 = .ok (.iload 9, 2) := by decide +kernel
theorem dX6_sweepOn_122 : decode cX6_sweepOn 122 = .ok (.iload 5, 2) := by decide +kernel
theorem dX6_sweepOn_124 : decode cX6_sweepOn 124 = .ok (.invokestatic 72, 3) := by decide +kernel
theorem dX6_sweepOn_127 : decode cX6_sweepOn 127 = .ok (.pop, 1) := by decide +kernel
theorem dX6_sweepOn_128 : decode cX6_sweepOn 128 = .ok (.iinc 7 1, 3) := by decide +kernel
theorem dX6_sweepOn_131 : decode cX6_sweepOn 131 = .ok (.goto (-91), 3) := by decide +kernel
theorem dX6_sweepOn_134 : decode cX6_sweepOn 134 = .ok (.iinc 6 1, 3) := by decide +kernel
theorem dX6_sweepOn_137 : decode cX6_sweepOn 137 = .ok (.goto (-109), 3) := by decide +kernel
theorem dX6_sweepOn_140 : decode cX6_sweepOn 140 = .ok (.return_, 1) := by decide +kernel
set_option maxRecDepth 20000 in
theorem ggX6_sweepAgainst_X6_lossWith : GoodIn wsX6_sweepAgainst wsX6_lossWith := goodIn_r _ [10, 11, 12, 13, 14, 15, 35, 36, 37] (by decide +kernel) (by decide +kernel)
set_option maxRecDepth 20000 in
theorem gX6_sweepAgainst_X6_lossWith : GoodIn wsX6_sweepAgainst (wsV RX6 59 RX6 yX6_lossWith wsX6_lossWith) := goodIn_app (goodIn_of _ (by decide +kernel)) ggX6_sweepAgainst_X6_lossWith
set_option maxRecDepth 20000 in
theorem ggX6_sweepAgainst_X6_carry : GoodIn wsX6_sweepAgainst wsX6_carry := goodIn_r _ [18, 19, 20, 31, 32, 33, 34] (by decide +kernel) (by decide +kernel)
set_option maxRecDepth 20000 in
theorem gX6_sweepAgainst_X6_carry : GoodIn wsX6_sweepAgainst (va_wsS RX6 72 yX6_carry wsX6_carry) := goodIn_app (goodIn_of _ (by decide +kernel)) ggX6_sweepAgainst_X6_carry
theorem dX6_sweepAgainst_0 : decode cX6_sweepAgainst 0 = .ok (.aload_n 1, 1) := by decide +kernel
theorem dX6_sweepAgainst_1 : decode cX6_sweepAgainst 1 = .ok (.getfield 50, 3) := by decide +kernel
theorem dX6_sweepAgainst_4 : decode cX6_sweepAgainst 4 = .ok (.astore_n 3, 1) := by decide +kernel
theorem dX6_sweepAgainst_5 : decode cX6_sweepAgainst 5 = .ok (.aload_n 0, 1) := by decide +kernel
theorem dX6_sweepAgainst_6 : decode cX6_sweepAgainst 6 = .ok (.aload_n 3, 1) := by decide +kernel
theorem dX6_sweepAgainst_7 : decode cX6_sweepAgainst 7 = .ok (.getfield 54, 3) := by decide +kernel
theorem dX6_sweepAgainst_10 : decode cX6_sweepAgainst 10 = .ok (.ineg, 1) := by decide +kernel
theorem dX6_sweepAgainst_11 : decode cX6_sweepAgainst 11 = .ok (.invokevirtual 59, 3) := by decide +kernel
theorem dX6_sweepAgainst_14 : decode cX6_sweepAgainst 14 = .ok (.istore 4, 2) := by decide +kernel
theorem dX6_sweepAgainst_16 : decode cX6_sweepAgainst 16 = .ok (.aload_n 0, 1) := by decide +kernel
theorem dX6_sweepAgainst_17 : decode cX6_sweepAgainst 17 = .ok (.aload_n 3, 1) := by decide +kernel
theorem dX6_sweepAgainst_18 : decode cX6_sweepAgainst 18 = .ok (.getfield 63, 3) := by decide +kernel
theorem dX6_sweepAgainst_21 : decode cX6_sweepAgainst 21 = .ok (.ineg, 1) := by decide +kernel
theorem dX6_sweepAgainst_22 : decode cX6_sweepAgainst 22 = .ok (.invokevirtual 59, 3) := by decide +kernel
theorem dX6_sweepAgainst_25 : decode cX6_sweepAgainst 25 = .ok (.istore 5, 2) := by decide +kernel
theorem dX6_sweepAgainst_27 : decode cX6_sweepAgainst 27 = .ok (.iconst 0, 1) := by decide +kernel
theorem dX6_sweepAgainst_28 : decode cX6_sweepAgainst 28 = .ok (.istore 6, 2) := by decide +kernel
theorem dX6_sweepAgainst_30 : decode cX6_sweepAgainst 30 = .ok (.aload_n 1, 1) := by decide +kernel
theorem dX6_sweepAgainst_31 : decode cX6_sweepAgainst 31 = .ok (.getfield 66, 3) := by decide +kernel
theorem dX6_sweepAgainst_34 : decode cX6_sweepAgainst 34 = .ok (.iconst 1, 1) := by decide +kernel
theorem dX6_sweepAgainst_35 : decode cX6_sweepAgainst 35 = .ok (.isub, 1) := by decide +kernel
theorem dX6_sweepAgainst_36 : decode cX6_sweepAgainst 36 = .ok (.istore 7, 2) := by decide +kernel
theorem dX6_sweepAgainst_38 : decode cX6_sweepAgainst 38 = .ok (.iload 7, 2) := by decide +kernel
theorem dX6_sweepAgainst_40 : decode cX6_sweepAgainst 40 = .ok (.ifCond .lt 117, 3) := by decide +kernel
theorem dX6_sweepAgainst_43 : decode cX6_sweepAgainst 43 = .ok (.aload_n 1, 1) := by decide +kernel
theorem dX6_sweepAgainst_44 : decode cX6_sweepAgainst 44 = .ok (.getfield 69, 3) := by decide +kernel
theorem dX6_sweepAgainst_47 : decode cX6_sweepAgainst 47 = .ok (.iconst 1, 1) := by decide +kernel
theorem dX6_sweepAgainst_48 : decode cX6_sweepAgainst 48 = .ok (.isub, 1) := by decide +kernel
theorem dX6_sweepAgainst_49 : decode cX6_sweepAgainst 49 = .ok (.istore 8, 2) := by decide +kernel
theorem dX6_sweepAgainst_51 : decode cX6_sweepAgainst 51 = .ok (.iload 8, 2) := by decide +kernel
theorem dX6_sweepAgainst_53 : decode cX6_sweepAgainst 53 = .ok (.ifCond .lt 98, 3) := by decide +kernel
theorem dX6_sweepAgainst_56 : decode cX6_sweepAgainst 56 = .ok (.aload_n 1, 1) := by decide +kernel
theorem dX6_sweepAgainst_57 : decode cX6_sweepAgainst 57 = .ok (.getfield 69, 3) := by decide +kernel
theorem dX6_sweepAgainst_60 : decode cX6_sweepAgainst 60 = .ok (.iload 7, 2) := by decide +kernel
theorem dX6_sweepAgainst_62 : decode cX6_sweepAgainst 62 = .ok (.imul, 1) := by decide +kernel
theorem dX6_sweepAgainst_63 : decode cX6_sweepAgainst 63 = .ok (.iload 8, 2) := by decide +kernel
theorem dX6_sweepAgainst_65 : decode cX6_sweepAgainst 65 = .ok (.iadd, 1) := by decide +kernel
theorem dX6_sweepAgainst_66 : decode cX6_sweepAgainst 66 = .ok (.istore 9, 2) := by decide +kernel
theorem dX6_sweepAgainst_68 : decode cX6_sweepAgainst 68 = .ok (.iload 9, 2) := by decide +kernel
theorem dX6_sweepAgainst_70 : decode cX6_sweepAgainst 70 = .ok (.aload_n 1, 1) := by decide +kernel
theorem dX6_sweepAgainst_71 : decode cX6_sweepAgainst 71 = .ok (.getfield 69, 3) := by decide +kernel
theorem dX6_sweepAgainst_74 : decode cX6_sweepAgainst 74 = .ok (.iadd, 1) := by decide +kernel
theorem dX6_sweepAgainst_75 : decode cX6_sweepAgainst 75 = .ok (.istore 10, 2) := by decide +kernel
theorem dX6_sweepAgainst_77 : decode cX6_sweepAgainst 77 = .ok (.iload 8, 2) := by decide +kernel
theorem dX6_sweepAgainst_79 : decode cX6_sweepAgainst 79 = .ok (.iconst 1, 1) := by decide +kernel
theorem dX6_sweepAgainst_80 : decode cX6_sweepAgainst 80 = .ok (.iadd, 1) := by decide +kernel
theorem dX6_sweepAgainst_81 : decode cX6_sweepAgainst 81 = .ok (.aload_n 1, 1) := by decide +kernel
theorem dX6_sweepAgainst_82 : decode cX6_sweepAgainst 82 = .ok (.getfield 69, 3) := by decide +kernel
theorem dX6_sweepAgainst_85 : decode cX6_sweepAgainst 85 = .ok (.if_icmp .ge 26, 3) := by decide +kernel
theorem dX6_sweepAgainst_88 : decode cX6_sweepAgainst 88 = .ok (.aload_n 3, 1) := by decide +kernel
theorem dX6_sweepAgainst_89 : decode cX6_sweepAgainst 89 = .ok (.iconst 2, 1) := by decide +kernel
theorem dX6_sweepAgainst_90 : decode cX6_sweepAgainst 90 = .ok (.iload 9, 2) := by decide +kernel
theorem dX6_sweepAgainst_92 : decode cX6_sweepAgainst 92 = .ok (.imul, 1) := by decide +kernel
theorem dX6_sweepAgainst_93 : decode cX6_sweepAgainst 93 = .ok (.aload_n 2, 1) := by decide +kernel
theorem dX6_sweepAgainst_94 : decode cX6_sweepAgainst 94 = .ok (.iload 9, 2) := by decide +kernel
theorem dX6_sweepAgainst_96 : decode cX6_sweepAgainst 96 = .ok (.iconst 1, 1) := by decide +kernel
theorem dX6_sweepAgainst_97 : decode cX6_sweepAgainst 97 = .ok (.iadd, 1) := by decide +kernel
theorem dX6_sweepAgainst_98 : decode cX6_sweepAgainst 98 = .ok (.iload 9, 2) := by decide +kernel
theorem dX6_sweepAgainst_100 : decode cX6_sweepAgainst 100 = .ok (.iload 4, 2) := by decide +kernel
theorem dX6_sweepAgainst_102 : decode cX6_sweepAgainst 102 = .ok (.invokestatic 72, 3) := by decide +kernel
theorem dX6_sweepAgainst_105 : decode cX6_sweepAgainst 105 = .ok (.ifCond .eq 6, 3) := by decide +kernel
theorem dX6_sweepAgainst_108 : decode cX6_sweepAgainst 108 = .ok (.iconst 1, 1) := by decide +kernel
theorem dX6_sweepAgainst_109 : decode cX6_sweepAgainst 109 = .ok (.istore 6, 2) := by decide +kernel
theorem dX6_sweepAgainst_111 : decode cX6_sweepAgainst 111 = .ok (.iload 7, 2) := by decide +kernel
theorem dX6_sweepAgainst_113 : decode cX6_sweepAgainst 113 = .ok (.iconst 1, 1) := by decide +kernel
theorem dX6_sweepAgainst_114 : decode cX6_sweepAgainst 114 = .ok (.iadd, 1) := by decide +kernel
theorem dX6_sweepAgainst_115 : decode cX6_sweepAgainst 115 = .ok (.aload_n 1, 1) := by decide +kernel
theorem dX6_sweepAgainst_116 : decode cX6_sweepAgainst 116 = .ok (.getfield 66, 3) := by decide +kernel
theorem dX6_sweepAgainst_119 : decode cX6_sweepAgainst 119 = .ok (.if_icmp .ge 26, 3) := by decide +kernel
theorem dX6_sweepAgainst_122 : decode cX6_sweepAgainst 122 = .ok (.aload_n 3, 1) := by decide +kernel
theorem dX6_sweepAgainst_123 : decode cX6_sweepAgainst 123 = .ok (.iconst 2, 1) := by decide +kernel
theorem dX6_sweepAgainst_124 : decode cX6_sweepAgainst 124 = .ok (.iload 9, 2) := by decide +kernel
theorem dX6_sweepAgainst_126 : decode cX6_sweepAgainst 126 = .ok (.imul, 1) := by decide +kernel
theorem dX6_sweepAgainst_127 : decode cX6_sweepAgainst 127 = .ok (.iconst 1, 1) := by decide +kernel
theorem dX6_sweepAgainst_128 : decode cX6_sweepAgainst 128 = .ok (.iadd, 1) := by decide +kernel
theorem dX6_sweepAgainst_129 : decode cX6_sweepAgainst 129 = .ok (.aload_n 2, 1) := by decide +kernel
theorem dX6_sweepAgainst_130 : decode cX6_sweepAgainst 130 = .ok (.iload 10, 2) := by decide +kernel
theorem dX6_sweepAgainst_132 : decode cX6_sweepAgainst 132 = .ok (.iload 9, 2) := by decide +kernel
theorem dX6_sweepAgainst_134 : decode cX6_sweepAgainst 134 = .ok (.iload 5, 2) := by decide +kernel
theorem dX6_sweepAgainst_136 : decode cX6_sweepAgainst 136 = .ok (.invokestatic 72, 3) := by decide +kernel
theorem dX6_sweepAgainst_139 : decode cX6_sweepAgainst 139 = .ok (.ifCond .eq 6, 3) := by decide +kernel
theorem dX6_sweepAgainst_142 : decode cX6_sweepAgainst 142 = .ok (.iconst 1, 1) := by decide +kernel
theorem dX6_sweepAgainst_143 : decode cX6_sweepAgainst 143 = .ok (.istore 6, 2) := by decide +kernel
theorem dX6_sweepAgainst_145 : decode cX6_sweepAgainst 145 = .ok (.iinc 8 (-1), 3) := by decide +kernel
theorem dX6_sweepAgainst_148 : decode cX6_sweepAgainst 148 = .ok (.goto (-97), 3) := by decide +kernel
theorem dX6_sweepAgainst_151 : decode cX6_sweepAgainst 151 = .ok (.iinc 7 (-1), 3) := by decide +kernel
theorem dX6_sweepAgainst_154 : decode cX6_sweepAgainst 154 = .ok (.goto (-116), 3) := by decide +kernel
theorem dX6_sweepAgainst_157 : decode cX6_sweepAgainst 157 = .ok (.iload 6, 2) := by decide +kernel
theorem dX6_sweepAgainst_159 : decode cX6_sweepAgainst 159 = .ok (.ireturn, 1) := by decide +kernel
theorem dX6_lossWith_0 : decode cX6_lossWith 0 = .ok (.iconst 1, 1) := by decide +kernel
theorem dX6_lossWith_1 : decode cX6_lossWith 1 = .ok (.aload_n 0, 1) := by decide +kernel
theorem dX6_lossWith_2 : decode cX6_lossWith 2 = .ok (.getfield 20, 3) := by decide +kernel
theorem dX6_lossWith_5 : decode cX6_lossWith 5 = .ok (.iload_n 1, 1) := by decide +kernel
theorem dX6_lossWith_6 : decode cX6_lossWith 6 = .ok (.isub, 1) := by decide +kernel
theorem dX6_lossWith_7 : decode cX6_lossWith 7 = .ok (.invokestatic 76, 3) := by decide +kernel
theorem dX6_lossWith_10 : decode cX6_lossWith 10 = .ok (.ireturn, 1) := by decide +kernel
theorem dX6_carry_0 : decode cX6_carry 0 = .ok (.aload_n 2, 1) := by decide +kernel
theorem dX6_carry_1 : decode cX6_carry 1 = .ok (.iload_n 3, 1) := by decide +kernel
theorem dX6_carry_2 : decode cX6_carry 2 = .ok (.iaload, 1) := by decide +kernel
theorem dX6_carry_3 : decode cX6_carry 3 = .ok (.iload 5, 2) := by decide +kernel
theorem dX6_carry_5 : decode cX6_carry 5 = .ok (.if_icmp .gt 5, 3) := by decide +kernel
theorem dX6_carry_8 : decode cX6_carry 8 = .ok (.iconst 0, 1) := by decide +kernel
theorem dX6_carry_9 : decode cX6_carry 9 = .ok (.ireturn, 1) := by decide +kernel
theorem dX6_carry_10 : decode cX6_carry 10 = .ok (.aload_n 2, 1) := by decide +kernel
theorem dX6_carry_11 : decode cX6_carry 11 = .ok (.iload_n 3, 1) := by decide +kernel
theorem dX6_carry_12 : decode cX6_carry 12 = .ok (.iaload, 1) := by decide +kernel
theorem dX6_carry_13 : decode cX6_carry 13 = .ok (.iload 5, 2) := by decide +kernel
theorem dX6_carry_15 : decode cX6_carry 15 = .ok (.isub, 1) := by decide +kernel
theorem dX6_carry_16 : decode cX6_carry 16 = .ok (.aload_n 0, 1) := by decide +kernel
theorem dX6_carry_17 : decode cX6_carry 17 = .ok (.getfield 82, 3) := by decide +kernel
theorem dX6_carry_20 : decode cX6_carry 20 = .ok (.iload_n 1, 1) := by decide +kernel
theorem dX6_carry_21 : decode cX6_carry 21 = .ok (.iaload, 1) := by decide +kernel
theorem dX6_carry_22 : decode cX6_carry 22 = .ok (.ishr, 1) := by decide +kernel
theorem dX6_carry_23 : decode cX6_carry 23 = .ok (.aload_n 0, 1) := by decide +kernel
theorem dX6_carry_24 : decode cX6_carry 24 = .ok (.getfield 85, 3) := by decide +kernel
theorem dX6_carry_27 : decode cX6_carry 27 = .ok (.iload_n 1, 1) := by decide +kernel
theorem dX6_carry_28 : decode cX6_carry 28 = .ok (.iaload, 1) := by decide +kernel
theorem dX6_carry_29 : decode cX6_carry 29 = .ok (.isub, 1) := by decide +kernel
theorem dX6_carry_30 : decode cX6_carry 30 = .ok (.istore 6, 2) := by decide +kernel
theorem dX6_carry_32 : decode cX6_carry 32 = .ok (.iload 6, 2) := by decide +kernel
theorem dX6_carry_34 : decode cX6_carry 34 = .ok (.aload_n 2, 1) := by decide +kernel
theorem dX6_carry_35 : decode cX6_carry 35 = .ok (.iload 4, 2) := by decide +kernel
theorem dX6_carry_37 : decode cX6_carry 37 = .ok (.iaload, 1) := by decide +kernel
theorem dX6_carry_38 : decode cX6_carry 38 = .ok (.if_icmp .gt 5, 3) := by decide +kernel
theorem dX6_carry_41 : decode cX6_carry 41 = .ok (.iconst 0, 1) := by decide +kernel
theorem dX6_carry_42 : decode cX6_carry 42 = .ok (.ireturn, 1) := by decide +kernel
theorem dX6_carry_43 : decode cX6_carry 43 = .ok (.aload_n 2, 1) := by decide +kernel
theorem dX6_carry_44 : decode cX6_carry 44 = .ok (.iload 4, 2) := by decide +kernel
theorem dX6_carry_46 : decode cX6_carry 46 = .ok (.iload 6, 2) := by decide +kernel
theorem dX6_carry_48 : decode cX6_carry 48 = .ok (.iastore, 1) := by decide +kernel
theorem dX6_carry_49 : decode cX6_carry 49 = .ok (.iconst 1, 1) := by decide +kernel
theorem dX6_carry_50 : decode cX6_carry 50 = .ok (.ireturn, 1) := by decide +kernel
theorem dX7_init_0 : decode cX7_init 0 = .ok (.aload_n 0, 1) := by decide +kernel
theorem dX7_init_1 : decode cX7_init 1 = .ok (.invokespecial 3, 3) := by decide +kernel
theorem dX7_init_4 : decode cX7_init 4 = .ok (.aload_n 0, 1) := by decide +kernel
theorem dX7_init_5 : decode cX7_init 5 = .ok (.sipush 400, 3) := by decide +kernel
theorem dX7_init_8 : decode cX7_init 8 = .ok (.newarray .int, 2) := by decide +kernel
theorem dX7_init_10 : decode cX7_init 10 = .ok (.putfield 9, 3) := by decide +kernel
theorem dX7_init_13 : decode cX7_init 13 = .ok (.return_, 1) := by decide +kernel
theorem dX7_append_0 : decode cX7_append 0 = .ok (.iload_n 3, 1) := by decide +kernel
theorem dX7_append_1 : decode cX7_append 1 = .ok (.sipush 400, 3) := by decide +kernel
theorem dX7_append_4 : decode cX7_append 4 = .ok (.aload_n 0, 1) := by decide +kernel
theorem dX7_append_5 : decode cX7_append 5 = .ok (.getfield 15, 3) := by decide +kernel
theorem dX7_append_8 : decode cX7_append 8 = .ok (.isub, 1) := by decide +kernel
theorem dX7_append_9 : decode cX7_append 9 = .ok (.if_icmp .le 6, 3) := by decide +kernel
theorem dX7_append_12 : decode cX7_append 12 = .ok (.bipush (-3), 2) := by decide +kernel
theorem dX7_append_14 : decode cX7_append 14 = .ok (.ireturn, 1) := by decide +kernel
theorem dX7_append_15 : decode cX7_append 15 = .ok (.iload_n 3, 1) := by decide +kernel
theorem dX7_append_16 : decode cX7_append 16 = .ok (.iconst 1, 1) := by decide +kernel
theorem dX7_append_17 : decode cX7_append 17 = .ok (.isub, 1) := by decide +kernel
theorem dX7_append_18 : decode cX7_append 18 = .ok (.istore 4, 2) := by decide +kernel
theorem dX7_append_20 : decode cX7_append 20 = .ok (.iload 4, 2) := by decide +kernel
theorem dX7_append_22 : decode cX7_append 22 = .ok (.ifCond .lt 40, 3) := by decide +kernel
theorem dX7_append_25 : decode cX7_append 25 = .ok (.aload_n 0, 1) := by decide +kernel
theorem dX7_append_26 : decode cX7_append 26 = .ok (.getfield 9, 3) := by decide +kernel
theorem dX7_append_29 : decode cX7_append 29 = .ok (.aload_n 0, 1) := by decide +kernel
theorem dX7_append_30 : decode cX7_append 30 = .ok (.getfield 15, 3) := by decide +kernel
theorem dX7_append_33 : decode cX7_append 33 = .ok (.lload_n 1, 1) := by decide +kernel
theorem dX7_append_34 : decode cX7_append 34 = .ok (.bipush 8, 2) := by decide +kernel
theorem dX7_append_36 : decode cX7_append 36 = .ok (.iload 4, 2) := by decide +kernel
theorem dX7_append_38 : decode cX7_append 38 = .ok (.imul, 1) := by decide +kernel
theorem dX7_append_39 : decode cX7_append 39 = .ok (.lushr, 1) := by decide +kernel
theorem dX7_append_40 : decode cX7_append 40 = .ok (.l2i, 1) := by decide +kernel
theorem dX7_append_41 : decode cX7_append 41 = .ok (.sipush 255, 3) := by decide +kernel
theorem dX7_append_44 : decode cX7_append 44 = .ok (.iand, 1) := by decide +kernel
theorem dX7_append_45 : decode cX7_append 45 = .ok (.iastore, 1) := by decide +kernel
theorem dX7_append_46 : decode cX7_append 46 = .ok (.aload_n 0, 1) := by decide +kernel
theorem dX7_append_47 : decode cX7_append 47 = .ok (.dup, 1) := by decide +kernel
theorem dX7_append_48 : decode cX7_append 48 = .ok (.getfield 15, 3) := by decide +kernel
theorem dX7_append_51 : decode cX7_append 51 = .ok (.iconst 1, 1) := by decide +kernel
theorem dX7_append_52 : decode cX7_append 52 = .ok (.iadd, 1) := by decide +kernel
theorem dX7_append_53 : decode cX7_append 53 = .ok (.putfield 15, 3) := by decide +kernel
theorem dX7_append_56 : decode cX7_append 56 = .ok (.iinc 4 (-1), 3) := by decide +kernel
theorem dX7_append_59 : decode cX7_append 59 = .ok (.goto (-39), 3) := by decide +kernel
theorem dX7_append_62 : decode cX7_append 62 = .ok (.aload_n 0, 1) := by decide +kernel
theorem dX7_append_63 : decode cX7_append 63 = .ok (.getfield 15, 3) := by decide +kernel
theorem dX7_append_66 : decode cX7_append 66 = .ok (.ireturn, 1) := by decide +kernel
theorem dX7_empty_0 : decode cX7_empty 0 = .ok (.aload_n 0, 1) := by decide +kernel
theorem dX7_empty_1 : decode cX7_empty 1 = .ok (.getfield 15, 3) := by decide +kernel
theorem dX7_empty_4 : decode cX7_empty 4 = .ok (.istore_n 1, 1) := by decide +kernel
theorem dX7_empty_5 : decode cX7_empty 5 = .ok (.aload_n 0, 1) := by decide +kernel
theorem dX7_empty_6 : decode cX7_empty 6 = .ok (.iconst 0, 1) := by decide +kernel
theorem dX7_empty_7 : decode cX7_empty 7 = .ok (.putfield 15, 3) := by decide +kernel
theorem dX7_empty_10 : decode cX7_empty 10 = .ok (.iload_n 1, 1) := by decide +kernel
theorem dX7_empty_11 : decode cX7_empty 11 = .ok (.ireturn, 1) := by decide +kernel
set_option maxRecDepth 20000 in
theorem ggX8_init_X5_init : GoodIn wsX8_init wsX5_init := goodIn_r _ [30, 31, 2, 3, 32, 33, 34, 35, 36, 37, 38, 39, 40, 41, 123, 124, 86, 87, 88, 89, 90, 91] (by decide +kernel) (by decide +kernel)
set_option maxRecDepth 20000 in
theorem gX8_init_X5_init_n9 : GoodIn wsX8_init (wsX5_init) := ggX8_init_X5_init
set_option maxRecDepth 20000 in
theorem ggX8_init_X6_init : GoodIn wsX8_init wsX6_init := goodIn_r _ [43, 44, 2, 3, 45, 36, 46, 47, 48, 100, 101, 102] (by decide +kernel) (by decide +kernel)
set_option maxRecDepth 20000 in
theorem gX8_init_X6_init_n18 : GoodIn wsX8_init (wsX6_init) := ggX8_init_X6_init
set_option maxRecDepth 20000 in
theorem ggX8_init_X4_init : GoodIn wsX8_init wsX4_init := goodIn_r _ [50, 51, 2, 3, 36, 52, 53, 103, 104, 105, 106] (by decide +kernel) (by decide +kernel)
set_option maxRecDepth 20000 in
theorem gX8_init_X4_init_n25 : GoodIn wsX8_init (wsX4_init) := ggX8_init_X4_init
set_option maxRecDepth 20000 in
theorem ggX8_init_X1_init : GoodIn wsX8_init wsX1_init := goodIn_r _ [55, 56, 2, 3, 36, 57, 58, 107, 108, 109] (by decide +kernel) (by decide +kernel)
set_option maxRecDepth 20000 in
theorem gX8_init_X1_init_n32 : GoodIn wsX8_init (wsX1_init) := ggX8_init_X1_init
set_option maxRecDepth 20000 in
theorem ggX8_init_X2_init : GoodIn wsX8_init wsX2_init := goodIn_r _ [60, 61, 2, 3, 62, 63, 64, 65, 66, 67, 68, 36, 69, 70, 71, 72, 73, 74, 75, 76, 77, 78, 110, 111, 112, 113, 114, 115, 116, 117, 118, 119, 125, 126, 127, 128] (by decide +kernel) (by decide +kernel)
set_option maxRecDepth 20000 in
theorem gX8_init_X2_init_n45 : GoodIn wsX8_init (wsX2_init) := ggX8_init_X2_init
set_option maxRecDepth 20000 in
theorem ggX8_init_X3_init : GoodIn wsX8_init wsX3_init := goodIn_r _ [80, 81, 2, 3, 82, 65, 66, 83, 84, 17, 18, 85, 74, 75, 76, 36, 77, 78, 54, 55, 56, 57, 58, 125, 126, 127, 128, 120, 121, 122, 107, 108, 109] (by decide +kernel) (by decide +kernel)
set_option maxRecDepth 20000 in
theorem gX8_init_X3_init_n53 : GoodIn wsX8_init (wsX3_init) := ggX8_init_X3_init
theorem dX8_init_0 : decode cX8_init 0 = .ok (.aload_n 0, 1) := by decide +kernel
theorem dX8_init_1 : decode cX8_init 1 = .ok (.invokespecial 1, 3) := by decide +kernel
theorem dX8_init_4 : decode cX8_init 4 = .ok (.aload_n 0, 1) := by decide +kernel
theorem dX8_init_5 : decode cX8_init 5 = .ok (.new 7, 3) := by decide +kernel
theorem dX8_init_8 : decode cX8_init 8 = .ok (.dup, 1) := by decide +kernel
theorem dX8_init_9 : decode cX8_init 9 = .ok (.invokespecial 9, 3) := by decide +kernel
theorem dX8_init_12 : decode cX8_init 12 = .ok (.putfield 10, 3) := by decide +kernel
theorem dX8_init_15 : decode cX8_init 15 = .ok (.aload_n 0, 1) := by decide +kernel
theorem dX8_init_16 : decode cX8_init 16 = .ok (.new 16, 3) := by decide +kernel
theorem dX8_init_19 : decode cX8_init 19 = .ok (.dup, 1) := by decide +kernel
theorem dX8_init_20 : decode cX8_init 20 = .ok (.invokespecial 18, 3) := by decide +kernel
theorem dX8_init_23 : decode cX8_init 23 = .ok (.putfield 19, 3) := by decide +kernel
theorem dX8_init_26 : decode cX8_init 26 = .ok (.aload_n 0, 1) := by decide +kernel
theorem dX8_init_27 : decode cX8_init 27 = .ok (.new 23, 3) := by decide +kernel
theorem dX8_init_30 : decode cX8_init 30 = .ok (.dup, 1) := by decide +kernel
theorem dX8_init_31 : decode cX8_init 31 = .ok (.invokespecial 25, 3) := by decide +kernel
theorem dX8_init_34 : decode cX8_init 34 = .ok (.putfield 26, 3) := by decide +kernel
theorem dX8_init_37 : decode cX8_init 37 = .ok (.aload_n 0, 1) := by decide +kernel
theorem dX8_init_38 : decode cX8_init 38 = .ok (.new 30, 3) := by decide +kernel
theorem dX8_init_41 : decode cX8_init 41 = .ok (.dup, 1) := by decide +kernel
theorem dX8_init_42 : decode cX8_init 42 = .ok (.invokespecial 32, 3) := by decide +kernel
theorem dX8_init_45 : decode cX8_init 45 = .ok (.putfield 33, 3) := by decide +kernel
theorem dX8_init_48 : decode cX8_init 48 = .ok (.aload_n 0, 1) := by decide +kernel
theorem dX8_init_49 : decode cX8_init 49 = .ok (.iconst 2, 1) := by decide +kernel
theorem dX8_init_50 : decode cX8_init 50 = .ok (.anewarray 37, 3) := by decide +kernel
theorem dX8_init_53 : decode cX8_init 53 = .ok (.putfield 39, 3) := by decide +kernel
theorem dX8_init_56 : decode cX8_init 56 = .ok (.aload_n 0, 1) := by decide +kernel
theorem dX8_init_57 : decode cX8_init 57 = .ok (.new 43, 3) := by decide +kernel
theorem dX8_init_60 : decode cX8_init 60 = .ok (.dup, 1) := by decide +kernel
theorem dX8_init_61 : decode cX8_init 61 = .ok (.invokespecial 45, 3) := by decide +kernel
theorem dX8_init_64 : decode cX8_init 64 = .ok (.putfield 46, 3) := by decide +kernel
theorem dX8_init_67 : decode cX8_init 67 = .ok (.aload_n 0, 1) := by decide +kernel
theorem dX8_init_68 : decode cX8_init 68 = .ok (.new 43, 3) := by decide +kernel
theorem dX8_init_71 : decode cX8_init 71 = .ok (.dup, 1) := by decide +kernel
theorem dX8_init_72 : decode cX8_init 72 = .ok (.invokespecial 45, 3) := by decide +kernel
theorem dX8_init_75 : decode cX8_init 75 = .ok (.putfield 50, 3) := by decide +kernel
theorem dX8_init_78 : decode cX8_init 78 = .ok (.iconst 0, 1) := by decide +kernel
theorem dX8_init_79 : decode cX8_init 79 = .ok (.istore_n 1, 1) := by decide +kernel
theorem dX8_init_80 : decode cX8_init 80 = .ok (.iload_n 1, 1) := by decide +kernel
theorem dX8_init_81 : decode cX8_init 81 = .ok (.iconst 2, 1) := by decide +kernel
theorem dX8_init_82 : decode cX8_init 82 = .ok (.if_icmp .ge 22, 3) := by decide +kernel
theorem dX8_init_85 : decode cX8_init 85 = .ok (.aload_n 0, 1) := by decide +kernel
theorem dX8_init_86 : decode cX8_init 86 = .ok (.getfield 39, 3) := by decide +kernel
theorem dX8_init_89 : decode cX8_init 89 = .ok (.iload_n 1, 1) := by decide +kernel
theorem dX8_init_90 : decode cX8_init 90 = .ok (.new 37, 3) := by decide +kernel
theorem dX8_init_93 : decode cX8_init 93 = .ok (.dup, 1) := by decide +kernel
theorem dX8_init_94 : decode cX8_init 94 = .ok (.invokespecial 53, 3) := by decide +kernel
theorem dX8_init_97 : decode cX8_init 97 = .ok (.aastore, 1) := by decide +kernel
theorem dX8_init_98 : decode cX8_init 98 = .ok (.iinc 1 1, 3) := by decide +kernel
theorem dX8_init_101 : decode cX8_init 101 = .ok (.goto (-21), 3) := by decide +kernel
theorem dX8_init_104 : decode cX8_init 104 = .ok (.return_, 1) := by decide +kernel
set_option maxRecDepth 20000 in
theorem ggX8_type_X8_within : GoodIn wsX8_type wsX8_within := goodIn_r _ [6] (by decide +kernel) (by decide +kernel)
set_option maxRecDepth 20000 in
theorem gX8_type_X8_within : GoodIn wsX8_type (va_wsS RX8 54 yX8_within wsX8_within) := goodIn_app (goodIn_of _ (by decide +kernel)) ggX8_type_X8_within
set_option maxRecDepth 20000 in
theorem ggX8_type_X7_append : GoodIn wsX8_type wsX7_append := goodIn_r _ [11, 12, 13, 28, 29] (by decide +kernel) (by decide +kernel)
set_option maxRecDepth 20000 in
theorem gX8_type_X7_append : GoodIn wsX8_type (wsV RX8 62 RX7 yX7_append wsX7_append) := goodIn_app (goodIn_of _ (by decide +kernel)) ggX8_type_X7_append
theorem dX8_type_0 : decode cX8_type 0 = .ok (.iload_n 3, 1) := by decide +kernel
theorem dX8_type_1 : decode cX8_type 1 = .ok (.iconst 1, 1) := by decide +kernel
theorem dX8_type_2 : decode cX8_type 2 = .ok (.bipush 8, 2) := by decide +kernel
theorem dX8_type_4 : decode cX8_type 4 = .ok (.invokestatic 54, 3) := by decide +kernel
theorem dX8_type_7 : decode cX8_type 7 = .ok (.ifCond .ne 5, 3) := by decide +kernel
theorem dX8_type_10 : decode cX8_type 10 = .ok (.iconst (-1), 1) := by decide +kernel
theorem dX8_type_11 : decode cX8_type 11 = .ok (.ireturn, 1) := by decide +kernel
theorem dX8_type_12 : decode cX8_type 12 = .ok (.aload_n 0, 1) := by decide +kernel
theorem dX8_type_13 : decode cX8_type 13 = .ok (.getfield 10, 3) := by decide +kernel
theorem dX8_type_16 : decode cX8_type 16 = .ok (.getfield 58, 3) := by decide +kernel
theorem dX8_type_19 : decode cX8_type 19 = .ok (.lload_n 1, 1) := by decide +kernel
theorem dX8_type_20 : decode cX8_type 20 = .ok (.iload_n 3, 1) := by decide +kernel
theorem dX8_type_21 : decode cX8_type 21 = .ok (.invokevirtual 62, 3) := by decide +kernel
theorem dX8_type_24 : decode cX8_type 24 = .ok (.ireturn, 1) := by decide +kernel
set_option maxRecDepth 20000 in
theorem ggX8_clear_X7_empty : GoodIn wsX8_clear wsX7_empty := goodIn_r _ [7, 8, 23, 24] (by decide +kernel) (by decide +kernel)
set_option maxRecDepth 20000 in
theorem gX8_clear_X7_empty : GoodIn wsX8_clear (wsV RX8 68 RX7 yX7_empty wsX7_empty) := goodIn_app (goodIn_of _ (by decide +kernel)) ggX8_clear_X7_empty
theorem dX8_clear_0 : decode cX8_clear 0 = .ok (.aload_n 0, 1) := by decide +kernel
theorem dX8_clear_1 : decode cX8_clear 1 = .ok (.getfield 10, 3) := by decide +kernel
theorem dX8_clear_4 : decode cX8_clear 4 = .ok (.getfield 58, 3) := by decide +kernel
theorem dX8_clear_7 : decode cX8_clear 7 = .ok (.invokevirtual 68, 3) := by decide +kernel
theorem dX8_clear_10 : decode cX8_clear 10 = .ok (.ireturn, 1) := by decide +kernel
set_option maxRecDepth 20000 in
theorem ggX8_hill_X5_read : GoodIn wsX8_hill wsX5_read := goodIn_r _ [12, 13, 14, 15, 16, 17, 18, 19, 20, 21, 22, 23, 24, 25, 26, 27, 28, 29, 30, 31, 32, 33, 34, 35, 36, 37, 38, 39, 40, 41, 42, 11, 43, 44, 45, 46, 47, 48, 49, 50, 51, 52, 53, 54, 55, 56, 57, 58, 59, 60, 61, 62, 63, 64, 65, 66, 67, 68, 69, 70, 71, 72, 73, 74, 75, 76, 77, 78, 79, 80, 81, 82, 83, 84, 85, 86, 87, 88, 89, 90, 91, 92, 93, 94, 95, 96, 97, 98, 99, 100, 101, 102, 103, 104, 105, 106, 107, 108, 109, 110, 111, 112, 113, 114, 115, 116, 117, 118, 119, 120, 121, 122, 123, 124, 125, 126, 127, 128, 129, 130, 131, 132, 133, 134, 135, 136, 137, 138, 139, 140, 141, 142, 143, 144, 145, 146, 147, 148, 149, 150, 151, 152, 153, 154, 155, 156, 157, 158, 159, 160, 161, 162, 163, 164, 165, 166, 167, 168, 169, 170, 171, 172, 173, 174, 175, 176, 177, 178, 179, 180, 181, 182, 183, 184, 185, 284, 285, 286, 287, 288, 289, 293, 294, 295, 296, 297, 298, 299, 300, 301, 302, 303, 304, 305, 306, 307, 308] (by decide +kernel) (by decide +kernel)
set_option maxRecDepth 20000 in
theorem gX8_hill_X5_read : GoodIn wsX8_hill (wsV RX8 72 RX5 yX5_read wsX5_read) := goodIn_app (goodIn_of _ (by decide +kernel)) ggX8_hill_X5_read
set_option maxRecDepth 20000 in
theorem ggX8_hill_X2_settle : GoodIn wsX8_hill wsX2_settle := goodIn_r _ [189, 190, 25, 24, 191, 192, 193, 194, 195, 37, 38, 39, 196, 197, 198, 20, 199, 200, 201, 202, 203, 293, 294, 295, 296, 297, 298, 299, 300, 301, 302] (by decide +kernel) (by decide +kernel)
set_option maxRecDepth 20000 in
theorem gX8_hill_X2_settle : GoodIn wsX8_hill (wsV RX8 76 RX2 yX2_settle wsX2_settle) := goodIn_app (goodIn_of _ (by decide +kernel)) ggX8_hill_X2_settle
set_option maxRecDepth 20000 in
theorem ggX8_hill_X7_empty : GoodIn wsX8_hill wsX7_empty := goodIn_r _ [208, 209, 307, 308] (by decide +kernel) (by decide +kernel)
set_option maxRecDepth 20000 in
theorem gX8_hill_X7_empty : GoodIn wsX8_hill (wsV RX8 68 RX7 yX7_empty wsX7_empty) := goodIn_app (goodIn_of _ (by decide +kernel)) ggX8_hill_X7_empty
set_option maxRecDepth 20000 in
theorem ggX8_hill_X1_empty : GoodIn wsX8_hill wsX1_empty := goodIn_r _ [214, 215, 309, 310, 311] (by decide +kernel) (by decide +kernel)
set_option maxRecDepth 20000 in
theorem gX8_hill_X1_empty : GoodIn wsX8_hill (wsV RX8 79 RX1 yX1_empty wsX1_empty) := goodIn_app (goodIn_of _ (by decide +kernel)) ggX8_hill_X1_empty
set_option maxRecDepth 20000 in
theorem ggX8_hill_X8_listen : GoodIn wsX8_hill wsX8_listen := goodIn_r _ [219, 220, 3, 221, 222, 223, 224, 225, 226, 227, 228, 229, 230, 231, 232, 233, 234, 235, 37, 38, 39, 236, 237, 238, 239, 240, 241, 242, 243, 244, 245, 246, 247, 248, 249, 250, 148, 145, 149, 251, 252, 253, 254, 255, 256, 257, 258, 259, 260, 261, 262, 263, 264, 265, 266, 267, 268, 269, 270, 271, 272, 273, 274, 275, 276, 277, 278, 279, 280, 281, 282, 283, 312, 313, 314, 293, 294, 295, 296, 297, 298, 299, 300, 301, 302, 303, 304, 305, 306, 315, 316, 317, 318] (by decide +kernel) (by decide +kernel)
set_option maxRecDepth 20000 in
theorem gX8_hill_X8_listen : GoodIn wsX8_hill (wsV RX8 84 RX8 yX8_listen wsX8_listen) := goodIn_app (goodIn_of _ (by decide +kernel)) ggX8_hill_X8_listen
theorem dX8_hill_0 : decode cX8_hill 0 = .ok (.aload_n 0, 1) := by decide +kernel
theorem dX8_hill_1 : decode cX8_hill 1 = .ok (.getfield 10, 3) := by decide +kernel
theorem dX8_hill_4 : decode cX8_hill 4 = .ok (.aload_n 0, 1) := by decide +kernel
theorem dX8_hill_5 : decode cX8_hill 5 = .ok (.getfield 50, 3) := by decide +kernel
theorem dX8_hill_8 : decode cX8_hill 8 = .ok (.invokevirtual 72, 3) := by decide +kernel
theorem dX8_hill_11 : decode cX8_hill 11 = .ok (.istore_n 1, 1) := by decide +kernel
theorem dX8_hill_12 : decode cX8_hill 12 = .ok (.iload_n 1, 1) := by decide +kernel
theorem dX8_hill_13 : decode cX8_hill 13 = .ok (.ifCond .ge 5, 3) := by decide +kernel
theorem dX8_hill_16 : decode cX8_hill 16 = .ok (.iload_n 1, 1) := by decide +kernel
theorem dX8_hill_17 : decode cX8_hill 17 = .ok (.ireturn, 1) := by decide +kernel
theorem dX8_hill_18 : decode cX8_hill 18 = .ok (.aload_n 0, 1) := by decide +kernel
theorem dX8_hill_19 : decode cX8_hill 19 = .ok (.getfield 50, 3) := by decide +kernel
theorem dX8_hill_22 : decode cX8_hill 22 = .ok (.invokevirtual 76, 3) := by decide +kernel
theorem dX8_hill_25 : decode cX8_hill 25 = .ok (.aload_n 0, 1) := by decide +kernel
theorem dX8_hill_26 : decode cX8_hill 26 = .ok (.getfield 46, 3) := by decide +kernel
theorem dX8_hill_29 : decode cX8_hill 29 = .ok (.astore_n 2, 1) := by decide +kernel
theorem dX8_hill_30 : decode cX8_hill 30 = .ok (.aload_n 0, 1) := by decide +kernel
theorem dX8_hill_31 : decode cX8_hill 31 = .ok (.aload_n 0, 1) := by decide +kernel
theorem dX8_hill_32 : decode cX8_hill 32 = .ok (.getfield 50, 3) := by decide +kernel
theorem dX8_hill_35 : decode cX8_hill 35 = .ok (.putfield 46, 3) := by decide +kernel
theorem dX8_hill_38 : decode cX8_hill 38 = .ok (.aload_n 0, 1) := by decide +kernel
theorem dX8_hill_39 : decode cX8_hill 39 = .ok (.aload_n 2, 1) := by decide +kernel
theorem dX8_hill_40 : decode cX8_hill 40 = .ok (.putfield 50, 3) := by decide +kernel
theorem dX8_hill_43 : decode cX8_hill 43 = .ok (.aload_n 0, 1) := by decide +kernel
theorem dX8_hill_44 : decode cX8_hill 44 = .ok (.getfield 10, 3) := by decide +kernel
theorem dX8_hill_47 : decode cX8_hill 47 = .ok (.getfield 58, 3) := by decide +kernel
theorem dX8_hill_50 : decode cX8_hill 50 = .ok (.invokevirtual 68, 3) := by decide +kernel
theorem dX8_hill_53 : decode cX8_hill 53 = .ok (.pop, 1) := by decide +kernel
theorem dX8_hill_54 : decode cX8_hill 54 = .ok (.aload_n 0, 1) := by decide +kernel
theorem dX8_hill_55 : decode cX8_hill 55 = .ok (.getfield 33, 3) := by decide +kernel
theorem dX8_hill_58 : decode cX8_hill 58 = .ok (.invokevirtual 79, 3) := by decide +kernel
theorem dX8_hill_61 : decode cX8_hill 61 = .ok (.pop, 1) := by decide +kernel
theorem dX8_hill_62 : decode cX8_hill 62 = .ok (.iconst 0, 1) := by decide +kernel
theorem dX8_hill_63 : decode cX8_hill 63 = .ok (.istore_n 3, 1) := by decide +kernel
theorem dX8_hill_64 : decode cX8_hill 64 = .ok (.iload_n 3, 1) := by decide +kernel
theorem dX8_hill_65 : decode cX8_hill 65 = .ok (.iconst 2, 1) := by decide +kernel
theorem dX8_hill_66 : decode cX8_hill 66 = .ok (.if_icmp .ge 19, 3) := by decide +kernel
theorem dX8_hill_69 : decode cX8_hill 69 = .ok (.aload_n 0, 1) := by decide +kernel
theorem dX8_hill_70 : decode cX8_hill 70 = .ok (.getfield 39, 3) := by decide +kernel
theorem dX8_hill_73 : decode cX8_hill 73 = .ok (.iload_n 3, 1) := by decide +kernel
theorem dX8_hill_74 : decode cX8_hill 74 = .ok (.aaload, 1) := by decide +kernel
theorem dX8_hill_75 : decode cX8_hill 75 = .ok (.iconst 0, 1) := by decide +kernel
theorem dX8_hill_76 : decode cX8_hill 76 = .ok (.putfield 80, 3) := by decide +kernel
theorem dX8_hill_79 : decode cX8_hill 79 = .ok (.iinc 3 1, 3) := by decide +kernel
theorem dX8_hill_82 : decode cX8_hill 82 = .ok (.goto (-18), 3) := by decide +kernel
theorem dX8_hill_85 : decode cX8_hill 85 = .ok (.aload_n 0, 1) := by decide +kernel
theorem dX8_hill_86 : decode cX8_hill 86 = .ok (.invokevirtual 84, 3) := by decide +kernel
theorem dX8_hill_89 : decode cX8_hill 89 = .ok (.iload_n 1, 1) := by decide +kernel
theorem dX8_hill_90 : decode cX8_hill 90 = .ok (.ireturn, 1) := by decide +kernel
set_option maxRecDepth 20000 in
theorem ggX8_between_X2_borderOf : GoodIn wsX8_between wsX2_borderOf := goodIn_r _ [7, 8, 9, 10, 11, 12, 13, 14, 15, 16, 17, 6, 18, 19, 20, 21, 22, 23, 24, 44, 45, 46, 47, 48, 49, 50, 51, 52, 53] (by decide +kernel) (by decide +kernel)
set_option maxRecDepth 20000 in
theorem gX8_between_X2_borderOf : GoodIn wsX8_between (wsV RX8 87 RX2 yX2_borderOf wsX2_borderOf) := goodIn_app (goodIn_of _ (by decide +kernel)) ggX8_between_X2_borderOf
set_option maxRecDepth 20000 in
theorem ggX8_between_X8_isBit : GoodIn wsX8_between wsX8_isBit := goodIn_r _ [28] (by decide +kernel) (by decide +kernel)
set_option maxRecDepth 20000 in
theorem gX8_between_X8_isBit : GoodIn wsX8_between (va_wsS RX8 91 yX8_isBit wsX8_isBit) := goodIn_app (goodIn_of _ (by decide +kernel)) ggX8_between_X8_isBit
set_option maxRecDepth 20000 in
theorem ggX8_between_X0_rowOf : GoodIn wsX8_between wsX0_rowOf := goodIn_r _ [33, 34, 35, 54, 55, 56, 57] (by decide +kernel) (by decide +kernel)
set_option maxRecDepth 20000 in
theorem gX8_between_X0_rowOf : GoodIn wsX8_between (wsV RX8 99 RX0 yX0_rowOf wsX0_rowOf) := goodIn_app (goodIn_of _ (by decide +kernel)) ggX8_between_X0_rowOf
theorem dX8_between_0 : decode cX8_between 0 = .ok (.aload_n 0, 1) := by decide +kernel
theorem dX8_between_1 : decode cX8_between 1 = .ok (.getfield 46, 3) := by decide +kernel
theorem dX8_between_4 : decode cX8_between 4 = .ok (.iload_n 1, 1) := by decide +kernel
theorem dX8_between_5 : decode cX8_between 5 = .ok (.iload_n 2, 1) := by decide +kernel
theorem dX8_between_6 : decode cX8_between 6 = .ok (.invokevirtual 87, 3) := by decide +kernel
theorem dX8_between_9 : decode cX8_between 9 = .ok (.istore 4, 2) := by decide +kernel
theorem dX8_between_11 : decode cX8_between 11 = .ok (.iload 4, 2) := by decide +kernel
theorem dX8_between_13 : decode cX8_between 13 = .ok (.ifCond .lt 10, 3) := by decide +kernel
theorem dX8_between_16 : decode cX8_between 16 = .ok (.iload_n 3, 1) := by decide +kernel
theorem dX8_between_17 : decode cX8_between 17 = .ok (.invokestatic 91, 3) := by decide +kernel
theorem dX8_between_20 : decode cX8_between 20 = .ok (.ifCond .ne 5, 3) := by decide +kernel
theorem dX8_between_23 : decode cX8_between 23 = .ok (.iconst (-1), 1) := by decide +kernel
theorem dX8_between_24 : decode cX8_between 24 = .ok (.ireturn, 1) := by decide +kernel
theorem dX8_between_25 : decode cX8_between 25 = .ok (.aload_n 0, 1) := by decide +kernel
theorem dX8_between_26 : decode cX8_between 26 = .ok (.getfield 46, 3) := by decide +kernel
theorem dX8_between_29 : decode cX8_between 29 = .ok (.getfield 95, 3) := by decide +kernel
theorem dX8_between_32 : decode cX8_between 32 = .ok (.iload_n 3, 1) := by decide +kernel
theorem dX8_between_33 : decode cX8_between 33 = .ok (.invokevirtual 99, 3) := by decide +kernel
theorem dX8_between_36 : decode cX8_between 36 = .ok (.iload 4, 2) := by decide +kernel
theorem dX8_between_38 : decode cX8_between 38 = .ok (.iaload, 1) := by decide +kernel
theorem dX8_between_39 : decode cX8_between 39 = .ok (.ireturn, 1) := by decide +kernel
set_option maxRecDepth 20000 in
theorem ggX8_build_X2_borderOf : GoodIn wsX8_build wsX2_borderOf := goodIn_r _ [7, 8, 9, 10, 11, 12, 13, 14, 15, 16, 17, 6, 18, 19, 20, 21, 22, 23, 24, 113, 114, 115, 116, 117, 118, 119, 120, 121, 122] (by decide +kernel) (by decide +kernel)
set_option maxRecDepth 20000 in
theorem gX8_build_X2_borderOf : GoodIn wsX8_build (wsV RX8 87 RX2 yX2_borderOf wsX2_borderOf) := goodIn_app (goodIn_of _ (by decide +kernel)) ggX8_build_X2_borderOf
set_option maxRecDepth 20000 in
theorem ggX8_build_X8_isBit : GoodIn wsX8_build wsX8_isBit := goodIn_r _ [28] (by decide +kernel) (by decide +kernel)
set_option maxRecDepth 20000 in
theorem gX8_build_X8_isBit : GoodIn wsX8_build (va_wsS RX8 91 yX8_isBit wsX8_isBit) := goodIn_app (goodIn_of _ (by decide +kernel)) ggX8_build_X8_isBit
set_option maxRecDepth 20000 in
theorem ggX8_build_X8_mostOf : GoodIn wsX8_build wsX8_mostOf := goodIn_r _ [31] (by decide +kernel) (by decide +kernel)
set_option maxRecDepth 20000 in
theorem gX8_build_X8_mostOf : GoodIn wsX8_build (va_wsS RX8 105 yX8_mostOf wsX8_mostOf) := goodIn_app (goodIn_of _ (by decide +kernel)) ggX8_build_X8_mostOf
set_option maxRecDepth 20000 in
theorem ggX8_build_X8_within : GoodIn wsX8_build wsX8_within := goodIn_r _ [34] (by decide +kernel) (by decide +kernel)
set_option maxRecDepth 20000 in
theorem gX8_build_X8_within : GoodIn wsX8_build (va_wsS RX8 54 yX8_within wsX8_within) := goodIn_app (goodIn_of _ (by decide +kernel)) ggX8_build_X8_within
set_option maxRecDepth 20000 in
theorem ggX8_build_X0_rowOf : GoodIn wsX8_build wsX0_rowOf := goodIn_r _ [39, 40, 41, 123, 124, 125, 126] (by decide +kernel) (by decide +kernel)
set_option maxRecDepth 20000 in
theorem gX8_build_X0_rowOf : GoodIn wsX8_build (wsV RX8 99 RX0 yX0_rowOf wsX0_rowOf) := goodIn_app (goodIn_of _ (by decide +kernel)) ggX8_build_X0_rowOf
set_option maxRecDepth 20000 in
theorem ggX8_build_X8_listen : GoodIn wsX8_build wsX8_listen := goodIn_r _ [45, 46, 1, 47, 48, 49, 50, 51, 52, 53, 54, 55, 56, 57, 58, 59, 60, 61, 62, 63, 64, 65, 66, 67, 68, 69, 70, 71, 72, 73, 74, 75, 76, 77, 78, 79, 13, 10, 14, 80, 81, 82, 83, 84, 85, 86, 87, 88, 89, 90, 91, 92, 93, 94, 95, 96, 97, 98, 99, 100, 101, 102, 103, 104, 105, 106, 107, 108, 109, 110, 111, 112, 127, 128, 129, 113, 114, 115, 116, 117, 118, 119, 120, 121, 122, 123, 124, 125, 126, 130, 131, 132, 133] (by decide +kernel) (by decide +kernel)
set_option maxRecDepth 20000 in
theorem gX8_build_X8_listen : GoodIn wsX8_build (wsV RX8 84 RX8 yX8_listen wsX8_listen) := goodIn_app (goodIn_of _ (by decide +kernel)) ggX8_build_X8_listen
theorem dX8_build_0 : decode cX8_build 0 = .ok (.aload_n 0, 1) := by decide +kernel
theorem dX8_build_1 : decode cX8_build 1 = .ok (.getfield 46, 3) := by decide +kernel
theorem dX8_build_4 : decode cX8_build 4 = .ok (.iload_n 1, 1) := by decide +kernel
theorem dX8_build_5 : decode cX8_build 5 = .ok (.iload_n 2, 1) := by decide +kernel
theorem dX8_build_6 : decode cX8_build 6 = .ok (.invokevirtual 87, 3) := by decide +kernel
theorem dX8_build_9 : decode cX8_build 9 = .ok (.istore 5, 2) := by decide +kernel
theorem dX8_build_11 : decode cX8_build 11 = .ok (.iload 5, 2) := by decide +kernel
theorem dX8_build_13 : decode cX8_build 13 = .ok (.ifCond .lt 23, 3) := by decide +kernel
theorem dX8_build_16 : decode cX8_build 16 = .ok (.iload_n 3, 1) := by decide +kernel
theorem dX8_build_17 : decode cX8_build 17 = .ok (.invokestatic 91, 3) := by decide +kernel
theorem dX8_build_20 : decode cX8_build 20 = .ok (.ifCond .eq 16, 3) := by decide +kernel
theorem dX8_build_23 : decode cX8_build 23 = .ok (.iload 4, 2) := by decide +kernel
theorem dX8_build_25 : decode cX8_build 25 = .ok (.iconst 0, 1) := by decide +kernel
theorem dX8_build_26 : decode cX8_build 26 = .ok (.iload_n 3, 1) := by decide +kernel
theorem dX8_build_27 : decode cX8_build 27 = .ok (.invokestatic 105, 3) := by decide +kernel
theorem dX8_build_30 : decode cX8_build 30 = .ok (.invokestatic 54, 3) := by decide +kernel
theorem dX8_build_33 : decode cX8_build 33 = .ok (.ifCond .ne 5, 3) := by decide +kernel
theorem dX8_build_36 : decode cX8_build 36 = .ok (.iconst (-1), 1) := by decide +kernel
theorem dX8_build_37 : decode cX8_build 37 = .ok (.ireturn, 1) := by decide +kernel
theorem dX8_build_38 : decode cX8_build 38 = .ok (.aload_n 0, 1) := by decide +kernel
theorem dX8_build_39 : decode cX8_build 39 = .ok (.getfield 46, 3) := by decide +kernel
theorem dX8_build_42 : decode cX8_build 42 = .ok (.getfield 95, 3) := by decide +kernel
theorem dX8_build_45 : decode cX8_build 45 = .ok (.iload_n 3, 1) := by decide +kernel
theorem dX8_build_46 : decode cX8_build 46 = .ok (.invokevirtual 99, 3) := by decide +kernel
theorem dX8_build_49 : decode cX8_build 49 = .ok (.astore 6, 2) := by decide +kernel
theorem dX8_build_51 : decode cX8_build 51 = .ok (.aload 6, 2) := by decide +kernel
theorem dX8_build_53 : decode cX8_build 53 = .ok (.iload 5, 2) := by decide +kernel
theorem dX8_build_55 : decode cX8_build 55 = .ok (.iaload, 1) := by decide +kernel
theorem dX8_build_56 : decode cX8_build 56 = .ok (.istore 7, 2) := by decide +kernel
theorem dX8_build_58 : decode cX8_build 58 = .ok (.aload 6, 2) := by decide +kernel
theorem dX8_build_60 : decode cX8_build 60 = .ok (.iload 5, 2) := by decide +kernel
theorem dX8_build_62 : decode cX8_build 62 = .ok (.iload 4, 2) := by decide +kernel
theorem dX8_build_64 : decode cX8_build 64 = .ok (.iastore, 1) := by decide +kernel
theorem dX8_build_65 : decode cX8_build 65 = .ok (.aload_n 0, 1) := by decide +kernel
theorem dX8_build_66 : decode cX8_build 66 = .ok (.invokevirtual 84, 3) := by decide +kernel
theorem dX8_build_69 : decode cX8_build 69 = .ok (.iload 7, 2) := by decide +kernel
theorem dX8_build_71 : decode cX8_build 71 = .ok (.ireturn, 1) := by decide +kernel
set_option maxRecDepth 20000 in
theorem ggX8_wind_X8_within : GoodIn wsX8_wind wsX8_within := goodIn_r _ [8] (by decide +kernel) (by decide +kernel)
set_option maxRecDepth 20000 in
theorem gX8_wind_X8_within : GoodIn wsX8_wind (va_wsS RX8 54 yX8_within wsX8_within) := goodIn_app (goodIn_of _ (by decide +kernel)) ggX8_wind_X8_within
set_option maxRecDepth 20000 in
theorem ggX8_wind_X8_listen : GoodIn wsX8_wind wsX8_listen := goodIn_r _ [12, 13, 1, 14, 15, 16, 17, 18, 19, 20, 21, 22, 23, 24, 25, 26, 27, 28, 29, 30, 31, 32, 33, 34, 35, 36, 37, 38, 39, 40, 41, 42, 43, 44, 45, 46, 47, 48, 49, 50, 51, 52, 53, 54, 55, 56, 57, 58, 59, 60, 61, 62, 63, 64, 65, 66, 67, 68, 69, 70, 71, 72, 73, 74, 75, 76, 77, 78, 79, 80, 81, 82, 97, 98, 99, 83, 84, 85, 86, 87, 88, 89, 90, 91, 92, 93, 94, 95, 96, 100, 101, 102, 103] (by decide +kernel) (by decide +kernel)
set_option maxRecDepth 20000 in
theorem gX8_wind_X8_listen : GoodIn wsX8_wind (wsV RX8 84 RX8 yX8_listen wsX8_listen) := goodIn_app (goodIn_of _ (by decide +kernel)) ggX8_wind_X8_listen
theorem dX8_wind_0 : decode cX8_wind 0 = .ok (.iload_n 1, 1) := by decide +kernel
theorem dX8_wind_1 : decode cX8_wind 1 = .ok (.bipush (-2), 2) := by decide +kernel
theorem dX8_wind_3 : decode cX8_wind 3 = .ok (.iconst 2, 1) := by decide +kernel
theorem dX8_wind_4 : decode cX8_wind 4 = .ok (.invokestatic 54, 3) := by decide +kernel
theorem dX8_wind_7 : decode cX8_wind 7 = .ok (.ifCond .eq 13, 3) := by decide +kernel
theorem dX8_wind_10 : decode cX8_wind 10 = .ok (.iload_n 2, 1) := by decide +kernel
theorem dX8_wind_11 : decode cX8_wind 11 = .ok (.bipush (-2), 2) := by decide +kernel
theorem dX8_wind_13 : decode cX8_wind 13 = .ok (.iconst 2, 1) := by decide +kernel
theorem dX8_wind_14 : decode cX8_wind 14 = .ok (.invokestatic 54, 3) := by decide +kernel
theorem dX8_wind_17 : decode cX8_wind 17 = .ok (.ifCond .ne 5, 3) := by decide +kernel
theorem dX8_wind_20 : decode cX8_wind 20 = .ok (.iconst (-1), 1) := by decide +kernel
theorem dX8_wind_21 : decode cX8_wind 21 = .ok (.ireturn, 1) := by decide +kernel
theorem dX8_wind_22 : decode cX8_wind 22 = .ok (.aload_n 0, 1) := by decide +kernel
theorem dX8_wind_23 : decode cX8_wind 23 = .ok (.getfield 46, 3) := by decide +kernel
theorem dX8_wind_26 : decode cX8_wind 26 = .ok (.getfield 95, 3) := by decide +kernel
theorem dX8_wind_29 : decode cX8_wind 29 = .ok (.iload_n 1, 1) := by decide +kernel
theorem dX8_wind_30 : decode cX8_wind 30 = .ok (.putfield 109, 3) := by decide +kernel
theorem dX8_wind_33 : decode cX8_wind 33 = .ok (.aload_n 0, 1) := by decide +kernel
theorem dX8_wind_34 : decode cX8_wind 34 = .ok (.getfield 46, 3) := by decide +kernel
theorem dX8_wind_37 : decode cX8_wind 37 = .ok (.getfield 95, 3) := by decide +kernel
theorem dX8_wind_40 : decode cX8_wind 40 = .ok (.iload_n 2, 1) := by decide +kernel
theorem dX8_wind_41 : decode cX8_wind 41 = .ok (.putfield 113, 3) := by decide +kernel
theorem dX8_wind_44 : decode cX8_wind 44 = .ok (.aload_n 0, 1) := by decide +kernel
theorem dX8_wind_45 : decode cX8_wind 45 = .ok (.invokevirtual 84, 3) := by decide +kernel
theorem dX8_wind_48 : decode cX8_wind 48 = .ok (.iconst 1, 1) := by decide +kernel
theorem dX8_wind_49 : decode cX8_wind 49 = .ok (.ireturn, 1) := by decide +kernel
set_option maxRecDepth 20000 in
theorem ggX8_fade_X8_within : GoodIn wsX8_fade wsX8_within := goodIn_r _ [6] (by decide +kernel) (by decide +kernel)
set_option maxRecDepth 20000 in
theorem gX8_fade_X8_within : GoodIn wsX8_fade (va_wsS RX8 54 yX8_within wsX8_within) := goodIn_app (goodIn_of _ (by decide +kernel)) ggX8_fade_X8_within
set_option maxRecDepth 20000 in
theorem ggX8_fade_X8_listen : GoodIn wsX8_fade wsX8_listen := goodIn_r _ [10, 1, 11, 12, 13, 14, 15, 16, 17, 18, 19, 20, 21, 22, 23, 24, 25, 26, 27, 28, 29, 30, 31, 32, 33, 34, 35, 36, 37, 38, 39, 40, 41, 42, 43, 44, 45, 46, 47, 48, 49, 50, 51, 52, 53, 54, 55, 56, 57, 58, 59, 60, 61, 62, 63, 64, 65, 66, 67, 68, 69, 70, 71, 72, 73, 74, 75, 76, 77, 78, 79, 80, 81, 82, 83, 84, 85, 86, 87, 88, 89, 90, 91, 92, 93, 94, 95, 96, 97, 98, 99, 100, 101] (by decide +kernel) (by decide +kernel)
set_option maxRecDepth 20000 in
theorem gX8_fade_X8_listen : GoodIn wsX8_fade (wsV RX8 84 RX8 yX8_listen wsX8_listen) := goodIn_app (goodIn_of _ (by decide +kernel)) ggX8_fade_X8_listen
theorem dX8_fade_0 : decode cX8_fade 0 = .ok (.iload_n 1, 1) := by decide +kernel
theorem dX8_fade_1 : decode cX8_fade 1 = .ok (.iconst 1, 1) := by decide +kernel
theorem dX8_fade_2 : decode cX8_fade 2 = .ok (.bipush 9, 2) := by decide +kernel
theorem dX8_fade_4 : decode cX8_fade 4 = .ok (.invokestatic 54, 3) := by decide +kernel
theorem dX8_fade_7 : decode cX8_fade 7 = .ok (.ifCond .ne 5, 3) := by decide +kernel
theorem dX8_fade_10 : decode cX8_fade 10 = .ok (.iconst (-1), 1) := by decide +kernel
theorem dX8_fade_11 : decode cX8_fade 11 = .ok (.ireturn, 1) := by decide +kernel
theorem dX8_fade_12 : decode cX8_fade 12 = .ok (.aload_n 0, 1) := by decide +kernel
theorem dX8_fade_13 : decode cX8_fade 13 = .ok (.getfield 19, 3) := by decide +kernel
theorem dX8_fade_16 : decode cX8_fade 16 = .ok (.getfield 116, 3) := by decide +kernel
theorem dX8_fade_19 : decode cX8_fade 19 = .ok (.istore_n 2, 1) := by decide +kernel
theorem dX8_fade_20 : decode cX8_fade 20 = .ok (.aload_n 0, 1) := by decide +kernel
theorem dX8_fade_21 : decode cX8_fade 21 = .ok (.getfield 19, 3) := by decide +kernel
theorem dX8_fade_24 : decode cX8_fade 24 = .ok (.iload_n 1, 1) := by decide +kernel
theorem dX8_fade_25 : decode cX8_fade 25 = .ok (.putfield 116, 3) := by decide +kernel
theorem dX8_fade_28 : decode cX8_fade 28 = .ok (.aload_n 0, 1) := by decide +kernel
theorem dX8_fade_29 : decode cX8_fade 29 = .ok (.invokevirtual 84, 3) := by decide +kernel
theorem dX8_fade_32 : decode cX8_fade 32 = .ok (.iload_n 2, 1) := by decide +kernel
theorem dX8_fade_33 : decode cX8_fade 33 = .ok (.ireturn, 1) := by decide +kernel
set_option maxRecDepth 20000 in
theorem ggX8_worker_X2_isWorker : GoodIn wsX8_worker wsX2_isWorker := goodIn_r _ [7, 8, 21, 22, 23, 24, 25, 26, 27, 28, 29, 30] (by decide +kernel) (by decide +kernel)
set_option maxRecDepth 20000 in
theorem gX8_worker_X2_isWorker : GoodIn wsX8_worker (wsV RX8 119 RX2 yX2_isWorker wsX2_isWorker) := goodIn_app (goodIn_of _ (by decide +kernel)) ggX8_worker_X2_isWorker
set_option maxRecDepth 20000 in
theorem ggX8_worker_X8_within : GoodIn wsX8_worker wsX8_within := goodIn_r _ [12] (by decide +kernel) (by decide +kernel)
set_option maxRecDepth 20000 in
theorem gX8_worker_X8_within : GoodIn wsX8_worker (va_wsS RX8 54 yX8_within wsX8_within) := goodIn_app (goodIn_of _ (by decide +kernel)) ggX8_worker_X8_within
theorem dX8_worker_0 : decode cX8_worker 0 = .ok (.aload_n 0, 1) := by decide +kernel
theorem dX8_worker_1 : decode cX8_worker 1 = .ok (.getfield 46, 3) := by decide +kernel
theorem dX8_worker_4 : decode cX8_worker 4 = .ok (.iload_n 1, 1) := by decide +kernel
theorem dX8_worker_5 : decode cX8_worker 5 = .ok (.invokevirtual 119, 3) := by decide +kernel
theorem dX8_worker_8 : decode cX8_worker 8 = .ok (.ifCond .eq 12, 3) := by decide +kernel
theorem dX8_worker_11 : decode cX8_worker 11 = .ok (.iload_n 2, 1) := by decide +kernel
theorem dX8_worker_12 : decode cX8_worker 12 = .ok (.iconst 0, 1) := by decide +kernel
theorem dX8_worker_13 : decode cX8_worker 13 = .ok (.iconst 3, 1) := by decide +kernel
theorem dX8_worker_14 : decode cX8_worker 14 = .ok (.invokestatic 54, 3) := by decide +kernel
theorem dX8_worker_17 : decode cX8_worker 17 = .ok (.ifCond .ne 5, 3) := by decide +kernel
theorem dX8_worker_20 : decode cX8_worker 20 = .ok (.iconst (-1), 1) := by decide +kernel
theorem dX8_worker_21 : decode cX8_worker 21 = .ok (.ireturn, 1) := by decide +kernel
theorem dX8_worker_22 : decode cX8_worker 22 = .ok (.aload_n 0, 1) := by decide +kernel
theorem dX8_worker_23 : decode cX8_worker 23 = .ok (.getfield 46, 3) := by decide +kernel
theorem dX8_worker_26 : decode cX8_worker 26 = .ok (.getfield 122, 3) := by decide +kernel
theorem dX8_worker_29 : decode cX8_worker 29 = .ok (.iload_n 1, 1) := by decide +kernel
theorem dX8_worker_30 : decode cX8_worker 30 = .ok (.aaload, 1) := by decide +kernel
theorem dX8_worker_31 : decode cX8_worker 31 = .ok (.iload_n 2, 1) := by decide +kernel
theorem dX8_worker_32 : decode cX8_worker 32 = .ok (.iaload, 1) := by decide +kernel
theorem dX8_worker_33 : decode cX8_worker 33 = .ok (.ireturn, 1) := by decide +kernel
set_option maxRecDepth 20000 in
theorem ggX8_deed_X2_isDeed : GoodIn wsX8_deed wsX2_isDeed := goodIn_r _ [7, 8, 21, 22, 23, 24, 25, 26, 27, 28, 29, 30] (by decide +kernel) (by decide +kernel)
set_option maxRecDepth 20000 in
theorem gX8_deed_X2_isDeed : GoodIn wsX8_deed (wsV RX8 126 RX2 yX2_isDeed wsX2_isDeed) := goodIn_app (goodIn_of _ (by decide +kernel)) ggX8_deed_X2_isDeed
set_option maxRecDepth 20000 in
theorem ggX8_deed_X8_within : GoodIn wsX8_deed wsX8_within := goodIn_r _ [12] (by decide +kernel) (by decide +kernel)
set_option maxRecDepth 20000 in
theorem gX8_deed_X8_within : GoodIn wsX8_deed (va_wsS RX8 54 yX8_within wsX8_within) := goodIn_app (goodIn_of _ (by decide +kernel)) ggX8_deed_X8_within
theorem dX8_deed_0 : decode cX8_deed 0 = .ok (.aload_n 0, 1) := by decide +kernel
theorem dX8_deed_1 : decode cX8_deed 1 = .ok (.getfield 46, 3) := by decide +kernel
theorem dX8_deed_4 : decode cX8_deed 4 = .ok (.iload_n 1, 1) := by decide +kernel
theorem dX8_deed_5 : decode cX8_deed 5 = .ok (.invokevirtual 126, 3) := by decide +kernel
theorem dX8_deed_8 : decode cX8_deed 8 = .ok (.ifCond .eq 12, 3) := by decide +kernel
theorem dX8_deed_11 : decode cX8_deed 11 = .ok (.iload_n 2, 1) := by decide +kernel
theorem dX8_deed_12 : decode cX8_deed 12 = .ok (.iconst 0, 1) := by decide +kernel
theorem dX8_deed_13 : decode cX8_deed 13 = .ok (.iconst 5, 1) := by decide +kernel
theorem dX8_deed_14 : decode cX8_deed 14 = .ok (.invokestatic 54, 3) := by decide +kernel
theorem dX8_deed_17 : decode cX8_deed 17 = .ok (.ifCond .ne 5, 3) := by decide +kernel
theorem dX8_deed_20 : decode cX8_deed 20 = .ok (.iconst (-1), 1) := by decide +kernel
theorem dX8_deed_21 : decode cX8_deed 21 = .ok (.ireturn, 1) := by decide +kernel
theorem dX8_deed_22 : decode cX8_deed 22 = .ok (.aload_n 0, 1) := by decide +kernel
theorem dX8_deed_23 : decode cX8_deed 23 = .ok (.getfield 46, 3) := by decide +kernel
theorem dX8_deed_26 : decode cX8_deed 26 = .ok (.getfield 129, 3) := by decide +kernel
theorem dX8_deed_29 : decode cX8_deed 29 = .ok (.iload_n 1, 1) := by decide +kernel
theorem dX8_deed_30 : decode cX8_deed 30 = .ok (.aaload, 1) := by decide +kernel
theorem dX8_deed_31 : decode cX8_deed 31 = .ok (.iload_n 2, 1) := by decide +kernel
theorem dX8_deed_32 : decode cX8_deed 32 = .ok (.iaload, 1) := by decide +kernel
theorem dX8_deed_33 : decode cX8_deed 33 = .ok (.ireturn, 1) := by decide +kernel
set_option maxRecDepth 20000 in
theorem ggX8_loud_X2_isWorker : GoodIn wsX8_loud wsX2_isWorker := goodIn_r _ [8, 9, 27, 28, 29, 30, 31, 32, 33, 34, 35, 36] (by decide +kernel) (by decide +kernel)
set_option maxRecDepth 20000 in
theorem gX8_loud_X2_isWorker : GoodIn wsX8_loud (wsV RX8 119 RX2 yX2_isWorker wsX2_isWorker) := goodIn_app (goodIn_of _ (by decide +kernel)) ggX8_loud_X2_isWorker
set_option maxRecDepth 20000 in
theorem ggX8_loud_X2_isYard : GoodIn wsX8_loud wsX2_isYard := goodIn_r _ [13, 14, 15, 27, 28, 29, 30, 31, 32, 33, 34, 35, 36] (by decide +kernel) (by decide +kernel)
set_option maxRecDepth 20000 in
theorem gX8_loud_X2_isYard : GoodIn wsX8_loud (wsV RX8 132 RX2 yX2_isYard wsX2_isYard) := goodIn_app (goodIn_of _ (by decide +kernel)) ggX8_loud_X2_isYard
theorem dX8_loud_0 : decode cX8_loud 0 = .ok (.aload_n 0, 1) := by decide +kernel
theorem dX8_loud_1 : decode cX8_loud 1 = .ok (.getfield 46, 3) := by decide +kernel
theorem dX8_loud_4 : decode cX8_loud 4 = .ok (.iload_n 1, 1) := by decide +kernel
theorem dX8_loud_5 : decode cX8_loud 5 = .ok (.invokevirtual 119, 3) := by decide +kernel
theorem dX8_loud_8 : decode cX8_loud 8 = .ok (.ifCond .eq 14, 3) := by decide +kernel
theorem dX8_loud_11 : decode cX8_loud 11 = .ok (.aload_n 0, 1) := by decide +kernel
theorem dX8_loud_12 : decode cX8_loud 12 = .ok (.getfield 46, 3) := by decide +kernel
theorem dX8_loud_15 : decode cX8_loud 15 = .ok (.iload_n 2, 1) := by decide +kernel
theorem dX8_loud_16 : decode cX8_loud 16 = .ok (.invokevirtual 132, 3) := by decide +kernel
theorem dX8_loud_19 : decode cX8_loud 19 = .ok (.ifCond .ne 5, 3) := by decide +kernel
theorem dX8_loud_22 : decode cX8_loud 22 = .ok (.iconst (-1), 1) := by decide +kernel
theorem dX8_loud_23 : decode cX8_loud 23 = .ok (.ireturn, 1) := by decide +kernel
theorem dX8_loud_24 : decode cX8_loud 24 = .ok (.aload_n 0, 1) := by decide +kernel
theorem dX8_loud_25 : decode cX8_loud 25 = .ok (.getfield 19, 3) := by decide +kernel
theorem dX8_loud_28 : decode cX8_loud 28 = .ok (.getfield 135, 3) := by decide +kernel
theorem dX8_loud_31 : decode cX8_loud 31 = .ok (.iload_n 1, 1) := by decide +kernel
theorem dX8_loud_32 : decode cX8_loud 32 = .ok (.aaload, 1) := by decide +kernel
theorem dX8_loud_33 : decode cX8_loud 33 = .ok (.iload_n 2, 1) := by decide +kernel
theorem dX8_loud_34 : decode cX8_loud 34 = .ok (.iaload, 1) := by decide +kernel
theorem dX8_loud_35 : decode cX8_loud 35 = .ok (.ireturn, 1) := by decide +kernel
set_option maxRecDepth 20000 in
theorem ggX8_heard_X2_isYard : GoodIn wsX8_heard wsX2_isYard := goodIn_r _ [7, 8, 9, 25, 26, 27, 28, 29, 30, 31, 32, 33, 34] (by decide +kernel) (by decide +kernel)
set_option maxRecDepth 20000 in
theorem gX8_heard_X2_isYard : GoodIn wsX8_heard (wsV RX8 132 RX2 yX2_isYard wsX2_isYard) := goodIn_app (goodIn_of _ (by decide +kernel)) ggX8_heard_X2_isYard
set_option maxRecDepth 20000 in
theorem ggX8_heard_X6_heardIn : GoodIn wsX8_heard wsX6_heardIn := goodIn_r _ [14, 15, 16, 25, 26, 27, 28, 29, 30, 31, 32, 33, 34, 35, 36, 37] (by decide +kernel) (by decide +kernel)
set_option maxRecDepth 20000 in
theorem gX8_heard_X6_heardIn : GoodIn wsX8_heard (wsV RX8 138 RX6 yX6_heardIn wsX6_heardIn) := goodIn_app (goodIn_of _ (by decide +kernel)) ggX8_heard_X6_heardIn
theorem dX8_heard_0 : decode cX8_heard 0 = .ok (.aload_n 0, 1) := by decide +kernel
theorem dX8_heard_1 : decode cX8_heard 1 = .ok (.getfield 46, 3) := by decide +kernel
theorem dX8_heard_4 : decode cX8_heard 4 = .ok (.iload_n 1, 1) := by decide +kernel
theorem dX8_heard_5 : decode cX8_heard 5 = .ok (.invokevirtual 132, 3) := by decide +kernel
theorem dX8_heard_8 : decode cX8_heard 8 = .ok (.ifCond .ne 5, 3) := by decide +kernel
theorem dX8_heard_11 : decode cX8_heard 11 = .ok (.iconst (-1), 1) := by decide +kernel
theorem dX8_heard_12 : decode cX8_heard 12 = .ok (.ireturn, 1) := by decide +kernel
theorem dX8_heard_13 : decode cX8_heard 13 = .ok (.aload_n 0, 1) := by decide +kernel
theorem dX8_heard_14 : decode cX8_heard 14 = .ok (.getfield 19, 3) := by decide +kernel
theorem dX8_heard_17 : decode cX8_heard 17 = .ok (.aload_n 0, 1) := by decide +kernel
theorem dX8_heard_18 : decode cX8_heard 18 = .ok (.getfield 46, 3) := by decide +kernel
theorem dX8_heard_21 : decode cX8_heard 21 = .ok (.iload_n 1, 1) := by decide +kernel
theorem dX8_heard_22 : decode cX8_heard 22 = .ok (.iload_n 2, 1) := by decide +kernel
theorem dX8_heard_23 : decode cX8_heard 23 = .ok (.invokevirtual 138, 3) := by decide +kernel
theorem dX8_heard_26 : decode cX8_heard 26 = .ok (.ireturn, 1) := by decide +kernel
set_option maxRecDepth 20000 in
theorem ggX8_broken_X8_isHour : GoodIn wsX8_broken wsX8_isHour := goodIn_r _ [8] (by decide +kernel) (by decide +kernel)
set_option maxRecDepth 20000 in
theorem gX8_broken_X8_isHour : GoodIn wsX8_broken (va_wsS RX8 142 yX8_isHour wsX8_isHour) := goodIn_app (goodIn_of _ (by decide +kernel)) ggX8_broken_X8_isHour
set_option maxRecDepth 20000 in
theorem ggX8_broken_X2_allWorkers : GoodIn wsX8_broken wsX2_allWorkers := goodIn_r _ [13, 14, 27, 28, 29, 30, 31, 32, 33, 34, 35, 36] (by decide +kernel) (by decide +kernel)
set_option maxRecDepth 20000 in
theorem gX8_broken_X2_allWorkers : GoodIn wsX8_broken (wsV RX8 149 RX2 yX2_allWorkers wsX2_allWorkers) := goodIn_app (goodIn_of _ (by decide +kernel)) ggX8_broken_X2_allWorkers
theorem dX8_broken_0 : decode cX8_broken 0 = .ok (.iload_n 1, 1) := by decide +kernel
theorem dX8_broken_1 : decode cX8_broken 1 = .ok (.invokestatic 142, 3) := by decide +kernel
theorem dX8_broken_4 : decode cX8_broken 4 = .ok (.ifCond .ne 5, 3) := by decide +kernel
theorem dX8_broken_7 : decode cX8_broken 7 = .ok (.iconst (-1), 1) := by decide +kernel
theorem dX8_broken_8 : decode cX8_broken 8 = .ok (.ireturn, 1) := by decide +kernel
theorem dX8_broken_9 : decode cX8_broken 9 = .ok (.aload_n 0, 1) := by decide +kernel
theorem dX8_broken_10 : decode cX8_broken 10 = .ok (.getfield 26, 3) := by decide +kernel
theorem dX8_broken_13 : decode cX8_broken 13 = .ok (.getfield 145, 3) := by decide +kernel
theorem dX8_broken_16 : decode cX8_broken 16 = .ok (.iload_n 2, 1) := by decide +kernel
