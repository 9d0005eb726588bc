set_option maxRecDepth 20000 in
theorem gX9_init_X9_adopts : GoodIn wsX9_init (wsV RX9 42 RX9 yX9_adopts wsX9_adopts) := goodIn_app (goodIn_of _ (by decide +kernel)) ggX9_init_X9_adopts
theorem dX9_init_0 : decode cX9_init 0 = .ok (.aload_n 0, 1) := by decide +kernel
theorem dX9_init_1 : decode cX9_init 1 = .ok (.invokespecial 1, 3) := by decide +kernel
theorem dX9_init_4 : decode cX9_init 4 = .ok (.aload_n 0, 1) := by decide +kernel
theorem dX9_init_5 : decode cX9_init 5 = .ok (.sipush 400, 3) := by decide +kernel
theorem dX9_init_8 : decode cX9_init 8 = .ok (.newarray .int, 2) := by decide +kernel
theorem dX9_init_10 : decode cX9_init 10 = .ok (.putfield 7, 3) := by decide +kernel
theorem dX9_init_13 : decode cX9_init 13 = .ok (.aload_n 0, 1) := by decide +kernel
theorem dX9_init_14 : decode cX9_init 14 = .ok (.sipush 207, 3) := by decide +kernel
theorem dX9_init_17 : decode cX9_init 17 = .ok (.newarray .int, 2) := by decide +kernel
theorem dX9_init_19 : decode cX9_init 19 = .ok (.putfield 13, 3) := by decide +kernel
theorem dX9_init_22 : decode cX9_init 22 = .ok (.aload_n 0, 1) := by decide +kernel
theorem dX9_init_23 : decode cX9_init 23 = .ok (.sipush 207, 3) := by decide +kernel
theorem dX9_init_26 : decode cX9_init 26 = .ok (.newarray .int, 2) := by decide +kernel
theorem dX9_init_28 : decode cX9_init 28 = .ok (.putfield 16, 3) := by decide +kernel
theorem dX9_init_31 : decode cX9_init 31 = .ok (.aload_n 0, 1) := by decide +kernel
theorem dX9_init_32 : decode cX9_init 32 = .ok (.sipush 414, 3) := by decide +kernel
theorem dX9_init_35 : decode cX9_init 35 = .ok (.newarray .int, 2) := by decide +kernel
theorem dX9_init_37 : decode cX9_init 37 = .ok (.putfield 19, 3) := by decide +kernel
theorem dX9_init_40 : decode cX9_init 40 = .ok (.aload_n 0, 1) := by decide +kernel
theorem dX9_init_41 : decode cX9_init 41 = .ok (.iconst 2, 1) := by decide +kernel
theorem dX9_init_42 : decode cX9_init 42 = .ok (.newarray .boolean, 2) := by decide +kernel
theorem dX9_init_44 : decode cX9_init 44 = .ok (.putfield 22, 3) := by decide +kernel
theorem dX9_init_47 : decode cX9_init 47 = .ok (.aload_n 0, 1) := by decide +kernel
theorem dX9_init_48 : decode cX9_init 48 = .ok (.bipush 48, 2) := by decide +kernel
theorem dX9_init_50 : decode cX9_init 50 = .ok (.newarray .int, 2) := by decide +kernel
theorem dX9_init_52 : decode cX9_init 52 = .ok (.putfield 26, 3) := by decide +kernel
theorem dX9_init_55 : decode cX9_init 55 = .ok (.aload_n 0, 1) := by decide +kernel
theorem dX9_init_56 : decode cX9_init 56 = .ok (.bipush 80, 2) := by decide +kernel
theorem dX9_init_58 : decode cX9_init 58 = .ok (.newarray .int, 2) := by decide +kernel
theorem dX9_init_60 : decode cX9_init 60 = .ok (.putfield 29, 3) := by decide +kernel
theorem dX9_init_63 : decode cX9_init 63 = .ok (.aload_n 0, 1) := by decide +kernel
theorem dX9_init_64 : decode cX9_init 64 = .ok (.sipush 336, 3) := by decide +kernel
theorem dX9_init_67 : decode cX9_init 67 = .ok (.newarray .int, 2) := by decide +kernel
theorem dX9_init_69 : decode cX9_init 69 = .ok (.putfield 32, 3) := by decide +kernel
theorem dX9_init_72 : decode cX9_init 72 = .ok (.aload_n 0, 1) := by decide +kernel
theorem dX9_init_73 : decode cX9_init 73 = .ok (.iconst 3, 1) := by decide +kernel
theorem dX9_init_74 : decode cX9_init 74 = .ok (.putfield 35, 3) := by decide +kernel
theorem dX9_init_77 : decode cX9_init 77 = .ok (.aload_n 0, 1) := by decide +kernel
theorem dX9_init_78 : decode cX9_init 78 = .ok (.invokevirtual 39, 3) := by decide +kernel
theorem dX9_init_81 : decode cX9_init 81 = .ok (.aload_n 0, 1) := by decide +kernel
theorem dX9_init_82 : decode cX9_init 82 = .ok (.invokevirtual 42, 3) := by decide +kernel
theorem dX9_init_85 : decode cX9_init 85 = .ok (.return_, 1) := by decide +kernel
theorem dX9_in_0 : decode cX9_in 0 = .ok (.iload_n 0, 1) := by decide +kernel
theorem dX9_in_1 : decode cX9_in 1 = .ok (.iload_n 1, 1) := by decide +kernel
theorem dX9_in_2 : decode cX9_in 2 = .ok (.if_icmp .lt 12, 3) := by decide +kernel
theorem dX9_in_5 : decode cX9_in 5 = .ok (.iload_n 0, 1) := by decide +kernel
theorem dX9_in_6 : decode cX9_in 6 = .ok (.iload_n 2, 1) := by decide +kernel
theorem dX9_in_7 : decode cX9_in 7 = .ok (.if_icmp .gt 7, 3) := by decide +kernel
theorem dX9_in_10 : decode cX9_in 10 = .ok (.iconst 1, 1) := by decide +kernel
theorem dX9_in_11 : decode cX9_in 11 = .ok (.goto 4, 3) := by decide +kernel
theorem dX9_in_14 : decode cX9_in 14 = .ok (.iconst 0, 1) := by decide +kernel
theorem dX9_in_15 : decode cX9_in 15 = .ok (.ireturn, 1) := by decide +kernel
set_option maxRecDepth 20000 in
theorem ggX9_type_X9_in : GoodIn wsX9_type wsX9_in := goodIn_r _ [8] (by decide +kernel) (by decide +kernel)
set_option maxRecDepth 20000 in
theorem gX9_type_X9_in : GoodIn wsX9_type (va_wsS RX9 48 yX9_in wsX9_in) := goodIn_app (goodIn_of _ (by decide +kernel)) ggX9_type_X9_in
theorem dX9_type_0 : decode cX9_type 0 = .ok (.aload_n 0, 1) := by decide +kernel
theorem dX9_type_1 : decode cX9_type 1 = .ok (.iconst 0, 1) := by decide +kernel
theorem dX9_type_2 : decode cX9_type 2 = .ok (.putfield 45, 3) := by decide +kernel
theorem dX9_type_5 : decode cX9_type 5 = .ok (.iload_n 3, 1) := by decide +kernel
theorem dX9_type_6 : decode cX9_type 6 = .ok (.iconst 1, 1) := by decide +kernel
theorem dX9_type_7 : decode cX9_type 7 = .ok (.bipush 8, 2) := by decide +kernel
theorem dX9_type_9 : decode cX9_type 9 = .ok (.invokestatic 48, 3) := by decide +kernel
theorem dX9_type_12 : decode cX9_type 12 = .ok (.ifCond .ne 5, 3) := by decide +kernel
theorem dX9_type_15 : decode cX9_type 15 = .ok (.iconst (-1), 1) := by decide +kernel
theorem dX9_type_16 : decode cX9_type 16 = .ok (.ireturn, 1) := by decide +kernel
theorem dX9_type_17 : decode cX9_type 17 = .ok (.aload_n 0, 1) := by decide +kernel
theorem dX9_type_18 : decode cX9_type 18 = .ok (.getfield 52, 3) := by decide +kernel
theorem dX9_type_21 : decode cX9_type 21 = .ok (.iload_n 3, 1) := by decide +kernel
theorem dX9_type_22 : decode cX9_type 22 = .ok (.iadd, 1) := by decide +kernel
theorem dX9_type_23 : decode cX9_type 23 = .ok (.sipush 400, 3) := by decide +kernel
theorem dX9_type_26 : decode cX9_type 26 = .ok (.if_icmp .le 6, 3) := by decide +kernel
theorem dX9_type_29 : decode cX9_type 29 = .ok (.bipush (-3), 2) := by decide +kernel
theorem dX9_type_31 : decode cX9_type 31 = .ok (.ireturn, 1) := by decide +kernel
theorem dX9_type_32 : decode cX9_type 32 = .ok (.iload_n 3, 1) := by decide +kernel
theorem dX9_type_33 : decode cX9_type 33 = .ok (.iconst 1, 1) := by decide +kernel
theorem dX9_type_34 : decode cX9_type 34 = .ok (.isub, 1) := by decide +kernel
theorem dX9_type_35 : decode cX9_type 35 = .ok (.istore 4, 2) := by decide +kernel
theorem dX9_type_37 : decode cX9_type 37 = .ok (.iload 4, 2) := by decide +kernel
theorem dX9_type_39 : decode cX9_type 39 = .ok (.ifCond .lt 40, 3) := by decide +kernel
theorem dX9_type_42 : decode cX9_type 42 = .ok (.aload_n 0, 1) := by decide +kernel
theorem dX9_type_43 : decode cX9_type 43 = .ok (.getfield 7, 3) := by decide +kernel
theorem dX9_type_46 : decode cX9_type 46 = .ok (.aload_n 0, 1) := by decide +kernel
theorem dX9_type_47 : decode cX9_type 47 = .ok (.getfield 52, 3) := by decide +kernel
theorem dX9_type_50 : decode cX9_type 50 = .ok (.lload_n 1, 1) := by decide +kernel
theorem dX9_type_51 : decode cX9_type 51 = .ok (.bipush 8, 2) := by decide +kernel
theorem dX9_type_53 : decode cX9_type 53 = .ok (.iload 4, 2) := by decide +kernel
theorem dX9_type_55 : decode cX9_type 55 = .ok (.imul, 1) := by decide +kernel
theorem dX9_type_56 : decode cX9_type 56 = .ok (.lshr, 1) := by decide +kernel
theorem dX9_type_57 : decode cX9_type 57 = .ok (.ldc2_w 55, 3) := by decide +kernel
theorem dX9_type_60 : decode cX9_type 60 = .ok (.land, 1) := by decide +kernel
theorem dX9_type_61 : decode cX9_type 61 = .ok (.l2i, 1) := by decide +kernel
theorem dX9_type_62 : decode cX9_type 62 = .ok (.iastore, 1) := by decide +kernel
theorem dX9_type_63 : decode cX9_type 63 = .ok (.aload_n 0, 1) := by decide +kernel
theorem dX9_type_64 : decode cX9_type 64 = .ok (.dup, 1) := by decide +kernel
theorem dX9_type_65 : decode cX9_type 65 = .ok (.getfield 52, 3) := by decide +kernel
theorem dX9_type_68 : decode cX9_type 68 = .ok (.iconst 1, 1) := by decide +kernel
theorem dX9_type_69 : decode cX9_type 69 = .ok (.iadd, 1) := by decide +kernel
theorem dX9_type_70 : decode cX9_type 70 = .ok (.putfield 52, 3) := by decide +kernel
theorem dX9_type_73 : decode cX9_type 73 = .ok (.iinc 4 (-1), 3) := by decide +kernel
theorem dX9_type_76 : decode cX9_type 76 = .ok (.goto (-39), 3) := by decide +kernel
theorem dX9_type_79 : decode cX9_type 79 = .ok (.aload_n 0, 1) := by decide +kernel
theorem dX9_type_80 : decode cX9_type 80 = .ok (.getfield 52, 3) := by decide +kernel
theorem dX9_type_83 : decode cX9_type 83 = .ok (.ireturn, 1) := by decide +kernel
theorem dX9_clear_0 : decode cX9_clear 0 = .ok (.aload_n 0, 1) := by decide +kernel
theorem dX9_clear_1 : decode cX9_clear 1 = .ok (.iconst 0, 1) := by decide +kernel
theorem dX9_clear_2 : decode cX9_clear 2 = .ok (.putfield 45, 3) := by decide +kernel
theorem dX9_clear_5 : decode cX9_clear 5 = .ok (.aload_n 0, 1) := by decide +kernel
theorem dX9_clear_6 : decode cX9_clear 6 = .ok (.getfield 52, 3) := by decide +kernel
theorem dX9_clear_9 : decode cX9_clear 9 = .ok (.istore_n 1, 1) := by decide +kernel
theorem dX9_clear_10 : decode cX9_clear 10 = .ok (.aload_n 0, 1) := by decide +kernel
theorem dX9_clear_11 : decode cX9_clear 11 = .ok (.iconst 0, 1) := by decide +kernel
theorem dX9_clear_12 : decode cX9_clear 12 = .ok (.putfield 52, 3) := by decide +kernel
theorem dX9_clear_15 : decode cX9_clear 15 = .ok (.iload_n 1, 1) := by decide +kernel
theorem dX9_clear_16 : decode cX9_clear 16 = .ok (.ireturn, 1) := by decide +kernel
theorem dX9_byteAt_0 : decode cX9_byteAt 0 = .ok (.iload_n 1, 1) := by decide +kernel
theorem dX9_byteAt_1 : decode cX9_byteAt 1 = .ok (.aload_n 0, 1) := by decide +kernel
theorem dX9_byteAt_2 : decode cX9_byteAt 2 = .ok (.getfield 52, 3) := by decide +kernel
theorem dX9_byteAt_5 : decode cX9_byteAt 5 = .ok (.if_icmp .ge 12, 3) := by decide +kernel
theorem dX9_byteAt_8 : decode cX9_byteAt 8 = .ok (.aload_n 0, 1) := by decide +kernel
theorem dX9_byteAt_9 : decode cX9_byteAt 9 = .ok (.getfield 7, 3) := by decide +kernel
theorem dX9_byteAt_12 : decode cX9_byteAt 12 = .ok (.iload_n 1, 1) := by decide +kernel
theorem dX9_byteAt_13 : decode cX9_byteAt 13 = .ok (.iaload, 1) := by decide +kernel
theorem dX9_byteAt_14 : decode cX9_byteAt 14 = .ok (.goto 4, 3) := by decide +kernel
theorem dX9_byteAt_17 : decode cX9_byteAt 17 = .ok (.iconst (-1), 1) := by decide +kernel
theorem dX9_byteAt_18 : decode cX9_byteAt 18 = .ok (.ireturn, 1) := by decide +kernel
theorem dX9_add_0 : decode cX9_add 0 = .ok (.iload_n 2, 1) := by decide +kernel
theorem dX9_add_1 : decode cX9_add 1 = .ok (.ifCond .ne 7, 3) := by decide +kernel
theorem dX9_add_4 : decode cX9_add 4 = .ok (.lload_n 0, 1) := by decide +kernel
theorem dX9_add_5 : decode cX9_add 5 = .ok (.goto 11, 3) := by decide +kernel
theorem dX9_add_8 : decode cX9_add 8 = .ok (.ldc2_w 57, 3) := by decide +kernel
theorem dX9_add_11 : decode cX9_add 11 = .ok (.lload_n 0, 1) := by decide +kernel
theorem dX9_add_12 : decode cX9_add 12 = .ok (.lmul, 1) := by decide +kernel
theorem dX9_add_13 : decode cX9_add 13 = .ok (.iload_n 2, 1) := by decide +kernel
theorem dX9_add_14 : decode cX9_add 14 = .ok (.i2l, 1) := by decide +kernel
theorem dX9_add_15 : decode cX9_add 15 = .ok (.ladd, 1) := by decide +kernel
theorem dX9_add_16 : decode cX9_add 16 = .ok (.lreturn, 1) := by decide +kernel
set_option maxRecDepth 20000 in
theorem ggX9_named_X9_add : GoodIn wsX9_named wsX9_add := goodIn_r _ [4, 5] (by decide +kernel) (by decide +kernel)
set_option maxRecDepth 20000 in
theorem gX9_named_X9_add : GoodIn wsX9_named (va_wsS RX9 59 yX9_add wsX9_add) := goodIn_app (goodIn_of _ (by decide +kernel)) ggX9_named_X9_add
theorem dX9_named_0 : decode cX9_named 0 = .ok (.lconst 0, 1) := by decide +kernel
theorem dX9_named_1 : decode cX9_named 1 = .ok (.iload_n 0, 1) := by decide +kernel
theorem dX9_named_2 : decode cX9_named 2 = .ok (.invokestatic 59, 3) := by decide +kernel
theorem dX9_named_5 : decode cX9_named 5 = .ok (.iload_n 1, 1) := by decide +kernel
theorem dX9_named_6 : decode cX9_named 6 = .ok (.invokestatic 59, 3) := by decide +kernel
theorem dX9_named_9 : decode cX9_named 9 = .ok (.iload_n 2, 1) := by decide +kernel
theorem dX9_named_10 : decode cX9_named 10 = .ok (.invokestatic 59, 3) := by decide +kernel
theorem dX9_named_13 : decode cX9_named 13 = .ok (.iload_n 3, 1) := by decide +kernel
theorem dX9_named_14 : decode cX9_named 14 = .ok (.invokestatic 59, 3) := by decide +kernel
theorem dX9_named_17 : decode cX9_named 17 = .ok (.iload 4, 2) := by decide +kernel
theorem dX9_named_19 : decode cX9_named 19 = .ok (.invokestatic 59, 3) := by decide +kernel
theorem dX9_named_22 : decode cX9_named 22 = .ok (.iload 5, 2) := by decide +kernel
theorem dX9_named_24 : decode cX9_named 24 = .ok (.invokestatic 59, 3) := by decide +kernel
theorem dX9_named_27 : decode cX9_named 27 = .ok (.lreturn, 1) := by decide +kernel
set_option maxRecDepth 20000 in
theorem ggX9_wordOf_X9_named : GoodIn wsX9_wordOf wsX9_named := goodIn_r _ [4, 5, 6, 3, 7, 8] (by decide +kernel) (by decide +kernel)
set_option maxRecDepth 20000 in
theorem gX9_wordOf_X9_named : GoodIn wsX9_wordOf (va_wsS RX9 63 yX9_named wsX9_named) := goodIn_app (goodIn_of _ (by decide +kernel)) ggX9_wordOf_X9_named
theorem dX9_wordOf_0 : decode cX9_wordOf 0 = .ok (.lload_n 0, 1) := by decide +kernel
theorem dX9_wordOf_1 : decode cX9_wordOf 1 = .ok (.bipush 104, 2) := by decide +kernel
theorem dX9_wordOf_3 : decode cX9_wordOf 3 = .ok (.bipush 105, 2) := by decide +kernel
theorem dX9_wordOf_5 : decode cX9_wordOf 5 = .ok (.bipush 108, 2) := by decide +kernel
theorem dX9_wordOf_7 : decode cX9_wordOf 7 = .ok (.bipush 108, 2) := by decide +kernel
theorem dX9_wordOf_9 : decode cX9_wordOf 9 = .ok (.iconst 0, 1) := by decide +kernel
theorem dX9_wordOf_10 : decode cX9_wordOf 10 = .ok (.iconst 0, 1) := by decide +kernel
theorem dX9_wordOf_11 : decode cX9_wordOf 11 = .ok (.invokestatic 63, 3) := by decide +kernel
theorem dX9_wordOf_14 : decode cX9_wordOf 14 = .ok (.lcmp, 1) := by decide +kernel
theorem dX9_wordOf_15 : decode cX9_wordOf 15 = .ok (.ifCond .ne 7, 3) := by decide +kernel
theorem dX9_wordOf_18 : decode cX9_wordOf 18 = .ok (.iconst 0, 1) := by decide +kernel
theorem dX9_wordOf_19 : decode cX9_wordOf 19 = .ok (.goto 71, 3) := by decide +kernel
theorem dX9_wordOf_22 : decode cX9_wordOf 22 = .ok (.lload_n 0, 1) := by decide +kernel
theorem dX9_wordOf_23 : decode cX9_wordOf 23 = .ok (.bipush 119, 2) := by decide +kernel
theorem dX9_wordOf_25 : decode cX9_wordOf 25 = .ok (.bipush 97, 2) := by decide +kernel
theorem dX9_wordOf_27 : decode cX9_wordOf 27 = .ok (.bipush 108, 2) := by decide +kernel
theorem dX9_wordOf_29 : decode cX9_wordOf 29 = .ok (.bipush 108, 2) := by decide +kernel
theorem dX9_wordOf_31 : decode cX9_wordOf 31 = .ok (.iconst 0, 1) := by decide +kernel
theorem dX9_wordOf_32 : decode cX9_wordOf 32 = .ok (.iconst 0, 1) := by decide +kernel
theorem dX9_wordOf_33 : decode cX9_wordOf 33 = .ok (.invokestatic 63, 3) := by decide +kernel
theorem dX9_wordOf_36 : decode cX9_wordOf 36 = .ok (.lcmp, 1) := by decide +kernel
theorem dX9_wordOf_37 : decode cX9_wordOf 37 = .ok (.ifCond .ne 7, 3) := by decide +kernel
theorem dX9_wordOf_40 : decode cX9_wordOf 40 = .ok (.iconst 1, 1) := by decide +kernel
theorem dX9_wordOf_41 : decode cX9_wordOf 41 = .ok (.goto 49, 3) := by decide +kernel
theorem dX9_wordOf_44 : decode cX9_wordOf 44 = .ok (.lload_n 0, 1) := by decide +kernel
theorem dX9_wordOf_45 : decode cX9_wordOf 45 = .ok (.bipush 102, 2) := by decide +kernel
theorem dX9_wordOf_47 : decode cX9_wordOf 47 = .ok (.bipush 101, 2) := by decide +kernel
theorem dX9_wordOf_49 : decode cX9_wordOf 49 = .ok (.bipush 108, 2) := by decide +kernel
theorem dX9_wordOf_51 : decode cX9_wordOf 51 = .ok (.bipush 116, 2) := by decide +kernel
theorem dX9_wordOf_53 : decode cX9_wordOf 53 = .ok (.iconst 0, 1) := by decide +kernel
theorem dX9_wordOf_54 : decode cX9_wordOf 54 = .ok (.iconst 0, 1) := by decide +kernel
theorem dX9_wordOf_55 : decode cX9_wordOf 55 = .ok (.invokestatic 63, 3) := by decide +kernel
theorem dX9_wordOf_58 : decode cX9_wordOf 58 = .ok (.lcmp, 1) := by decide +kernel
theorem dX9_wordOf_59 : decode cX9_wordOf 59 = .ok (.ifCond .ne 7, 3) := by decide +kernel
theorem dX9_wordOf_62 : decode cX9_wordOf 62 = .ok (.iconst 2, 1) := by decide +kernel
theorem dX9_wordOf_63 : decode cX9_wordOf 63 = .ok (.goto 27, 3) := by decide +kernel
theorem dX9_wordOf_66 : decode cX9_wordOf 66 = .ok (.lload_n 0, 1) := by decide +kernel
theorem dX9_wordOf_67 : decode cX9_wordOf 67 = .ok (.bipush 119, 2) := by decide +kernel
theorem dX9_wordOf_69 : decode cX9_wordOf 69 = .ok (.bipush 105, 2) := by decide +kernel
theorem dX9_wordOf_71 : decode cX9_wordOf 71 = .ok (.bipush 110, 2) := by decide +kernel
theorem dX9_wordOf_73 : decode cX9_wordOf 73 = .ok (.bipush 100, 2) := by decide +kernel
theorem dX9_wordOf_75 : decode cX9_wordOf 75 = .ok (.iconst 0, 1) := by decide +kernel
theorem dX9_wordOf_76 : decode cX9_wordOf 76 = .ok (.iconst 0, 1) := by decide +kernel
theorem dX9_wordOf_77 : decode cX9_wordOf 77 = .ok (.invokestatic 63, 3) := by decide +kernel
theorem dX9_wordOf_80 : decode cX9_wordOf 80 = .ok (.lcmp, 1) := by decide +kernel
theorem dX9_wordOf_81 : decode cX9_wordOf 81 = .ok (.ifCond .ne 7, 3) := by decide +kernel
theorem dX9_wordOf_84 : decode cX9_wordOf 84 = .ok (.iconst 3, 1) := by decide +kernel
theorem dX9_wordOf_85 : decode cX9_wordOf 85 = .ok (.goto 5, 3) := by decide +kernel
theorem dX9_wordOf_88 : decode cX9_wordOf 88 = .ok (.bipush (-9), 2) := by decide +kernel
theorem dX9_wordOf_90 : decode cX9_wordOf 90 = .ok (.istore_n 2, 1) := by decide +kernel
theorem dX9_wordOf_91 : decode cX9_wordOf 91 = .ok (.iload_n 2, 1) := by decide +kernel
theorem dX9_wordOf_92 : decode cX9_wordOf 92 = .ok (.bipush (-9), 2) := by decide +kernel
theorem dX9_wordOf_94 : decode cX9_wordOf 94 = .ok (.if_icmp .eq 5, 3) := by decide +kernel
theorem dX9_wordOf_97 : decode cX9_wordOf 97 = .ok (.iload_n 2, 1) := by decide +kernel
theorem dX9_wordOf_98 : decode cX9_wordOf 98 = .ok (.ireturn, 1) := by decide +kernel
theorem dX9_wordOf_99 : decode cX9_wordOf 99 = .ok (.lload_n 0, 1) := by decide +kernel
theorem dX9_wordOf_100 : decode cX9_wordOf 100 = .ok (.bipush 119, 2) := by decide +kernel
theorem dX9_wordOf_102 : decode cX9_wordOf 102 = .ok (.bipush 111, 2) := by decide +kernel
theorem dX9_wordOf_104 : decode cX9_wordOf 104 = .ok (.bipush 114, 2) := by decide +kernel
theorem dX9_wordOf_106 : decode cX9_wordOf 106 = .ok (.bipush 107, 2) := by decide +kernel
theorem dX9_wordOf_108 : decode cX9_wordOf 108 = .ok (.bipush 101, 2) := by decide +kernel
theorem dX9_wordOf_110 : decode cX9_wordOf 110 = .ok (.bipush 114, 2) := by decide +kernel
theorem dX9_wordOf_112 : decode cX9_wordOf 112 = .ok (.invokestatic 63, 3) := by decide +kernel
theorem dX9_wordOf_115 : decode cX9_wordOf 115 = .ok (.lcmp, 1) := by decide +kernel
theorem dX9_wordOf_116 : decode cX9_wordOf 116 = .ok (.ifCond .ne 7, 3) := by decide +kernel
theorem dX9_wordOf_119 : decode cX9_wordOf 119 = .ok (.iconst 4, 1) := by decide +kernel
theorem dX9_wordOf_120 : decode cX9_wordOf 120 = .ok (.goto 51, 3) := by decide +kernel
theorem dX9_wordOf_123 : decode cX9_wordOf 123 = .ok (.lload_n 0, 1) := by decide +kernel
theorem dX9_wordOf_124 : decode cX9_wordOf 124 = .ok (.bipush 100, 2) := by decide +kernel
theorem dX9_wordOf_126 : decode cX9_wordOf 126 = .ok (.bipush 101, 2) := by decide +kernel
theorem dX9_wordOf_128 : decode cX9_wordOf 128 = .ok (.bipush 101, 2) := by decide +kernel
theorem dX9_wordOf_130 : decode cX9_wordOf 130 = .ok (.bipush 100, 2) := by decide +kernel
theorem dX9_wordOf_132 : decode cX9_wordOf 132 = .ok (.iconst 0, 1) := by decide +kernel
theorem dX9_wordOf_133 : decode cX9_wordOf 133 = .ok (.iconst 0, 1) := by decide +kernel
theorem dX9_wordOf_134 : decode cX9_wordOf 134 = .ok (.invokestatic 63, 3) := by decide +kernel
theorem dX9_wordOf_137 : decode cX9_wordOf 137 = .ok (.lcmp, 1) := by decide +kernel
theorem dX9_wordOf_138 : decode cX9_wordOf 138 = .ok (.ifCond .ne 7, 3) := by decide +kernel
theorem dX9_wordOf_141 : decode cX9_wordOf 141 = .ok (.iconst 5, 1) := by decide +kernel
theorem dX9_wordOf_142 : decode cX9_wordOf 142 = .ok (.goto 29, 3) := by decide +kernel
theorem dX9_wordOf_145 : decode cX9_wordOf 145 = .ok (.lload_n 0, 1) := by decide +kernel
theorem dX9_wordOf_146 : decode cX9_wordOf 146 = .ok (.bipush 114, 2) := by decide +kernel
theorem dX9_wordOf_148 : decode cX9_wordOf 148 = .ok (.bipush 105, 2) := by decide +kernel
theorem dX9_wordOf_150 : decode cX9_wordOf 150 = .ok (.bipush 103, 2) := by decide +kernel
theorem dX9_wordOf_152 : decode cX9_wordOf 152 = .ok (.bipush 104, 2) := by decide +kernel
theorem dX9_wordOf_154 : decode cX9_wordOf 154 = .ok (.bipush 116, 2) := by decide +kernel
theorem dX9_wordOf_156 : decode cX9_wordOf 156 = .ok (.iconst 0, 1) := by decide +kernel
theorem dX9_wordOf_157 : decode cX9_wordOf 157 = .ok (.invokestatic 63, 3) := by decide +kernel
theorem dX9_wordOf_160 : decode cX9_wordOf 160 = .ok (.lcmp, 1) := by decide +kernel
theorem dX9_wordOf_161 : decode cX9_wordOf 161 = .ok (.ifCond .ne 8, 3) := by decide +kernel
theorem dX9_wordOf_164 : decode cX9_wordOf 164 = .ok (.bipush 6, 2) := by decide +kernel
theorem dX9_wordOf_166 : decode cX9_wordOf 166 = .ok (.goto 5, 3) := by decide +kernel
theorem dX9_wordOf_169 : decode cX9_wordOf 169 = .ok (.bipush (-9), 2) := by decide +kernel
theorem dX9_wordOf_171 : decode cX9_wordOf 171 = .ok (.istore_n 3, 1) := by decide +kernel
theorem dX9_wordOf_172 : decode cX9_wordOf 172 = .ok (.iload_n 3, 1) := by decide +kernel
theorem dX9_wordOf_173 : decode cX9_wordOf 173 = .ok (.bipush (-9), 2) := by decide +kernel
theorem dX9_wordOf_175 : decode cX9_wordOf 175 = .ok (.if_icmp .eq 7, 3) := by decide +kernel
theorem dX9_wordOf_178 : decode cX9_wordOf 178 = .ok (.iload_n 3, 1) := by decide +kernel
theorem dX9_wordOf_179 : decode cX9_wordOf 179 = .ok (.goto 72, 3) := by decide +kernel
theorem dX9_wordOf_182 : decode cX9_wordOf 182 = .ok (.lload_n 0, 1) := by decide +kernel
theorem dX9_wordOf_183 : decode cX9_wordOf 183 = .ok (.bipush 108, 2) := by decide +kernel
theorem dX9_wordOf_185 : decode cX9_wordOf 185 = .ok (.bipush 101, 2) := by decide +kernel
theorem dX9_wordOf_187 : decode cX9_wordOf 187 = .ok (.bipush 102, 2) := by decide +kernel
theorem dX9_wordOf_189 : decode cX9_wordOf 189 = .ok (.bipush 116, 2) := by decide +kernel
theorem dX9_wordOf_191 : decode cX9_wordOf 191 = .ok (.iconst 0, 1) := by decide +kernel
theorem dX9_wordOf_192 : decode cX9_wordOf 192 = .ok (.iconst 0, 1) := by decide +kernel
theorem dX9_wordOf_193 : decode cX9_wordOf 193 = .ok (.invokestatic 63, 3) := by decide +kernel
theorem dX9_wordOf_196 : decode cX9_wordOf 196 = .ok (.lcmp, 1) := by decide +kernel
theorem dX9_wordOf_197 : decode cX9_wordOf 197 = .ok (.ifCond .ne 8, 3) := by decide +kernel
theorem dX9_wordOf_200 : decode cX9_wordOf 200 = .ok (.bipush 7, 2) := by decide +kernel
theorem dX9_wordOf_202 : decode cX9_wordOf 202 = .ok (.goto 49, 3) := by decide +kernel
theorem dX9_wordOf_205 : decode cX9_wordOf 205 = .ok (.lload_n 0, 1) := by decide +kernel
theorem dX9_wordOf_206 : decode cX9_wordOf 206 = .ok (.bipush 100, 2) := by decide +kernel
theorem dX9_wordOf_208 : decode cX9_wordOf 208 = .ok (.bipush 111, 2) := by decide +kernel
theorem dX9_wordOf_210 : decode cX9_wordOf 210 = .ok (.bipush 119, 2) := by decide +kernel
theorem dX9_wordOf_212 : decode cX9_wordOf 212 = .ok (.bipush 110, 2) := by decide +kernel
theorem dX9_wordOf_214 : decode cX9_wordOf 214 = .ok (.iconst 0, 1) := by decide +kernel
theorem dX9_wordOf_215 : decode cX9_wordOf 215 = .ok (.iconst 0, 1) := by decide +kernel
theorem dX9_wordOf_216 : decode cX9_wordOf 216 = .ok (.invokestatic 63, 3) := by decide +kernel
theorem dX9_wordOf_219 : decode cX9_wordOf 219 = .ok (.lcmp, 1) := by decide +kernel
theorem dX9_wordOf_220 : decode cX9_wordOf 220 = .ok (.ifCond .ne 8, 3) := by decide +kernel
theorem dX9_wordOf_223 : decode cX9_wordOf 223 = .ok (.bipush 8, 2) := by decide +kernel
theorem dX9_wordOf_225 : decode cX9_wordOf 225 = .ok (.goto 26, 3) := by decide +kernel
theorem dX9_wordOf_228 : decode cX9_wordOf 228 = .ok (.lload_n 0, 1) := by decide +kernel
theorem dX9_wordOf_229 : decode cX9_wordOf 229 = .ok (.bipush 117, 2) := by decide +kernel
theorem dX9_wordOf_231 : decode cX9_wordOf 231 = .ok (.bipush 112, 2) := by decide +kernel
theorem dX9_wordOf_233 : decode cX9_wordOf 233 = .ok (.iconst 0, 1) := by decide +kernel
theorem dX9_wordOf_234 : decode cX9_wordOf 234 = .ok (.iconst 0, 1) := by decide +kernel
theorem dX9_wordOf_235 : decode cX9_wordOf 235 = .ok (.iconst 0, 1) := by decide +kernel
theorem dX9_wordOf_236 : decode cX9_wordOf 236 = .ok (.iconst 0, 1) := by decide +kernel
theorem dX9_wordOf_237 : decode cX9_wordOf 237 = .ok (.invokestatic 63, 3) := by decide +kernel
theorem dX9_wordOf_240 : decode cX9_wordOf 240 = .ok (.lcmp, 1) := by decide +kernel
theorem dX9_wordOf_241 : decode cX9_wordOf 241 = .ok (.ifCond .ne 8, 3) := by decide +kernel
theorem dX9_wordOf_244 : decode cX9_wordOf 244 = .ok (.bipush 9, 2) := by decide +kernel
theorem dX9_wordOf_246 : decode cX9_wordOf 246 = .ok (.goto 5, 3) := by decide +kernel
theorem dX9_wordOf_249 : decode cX9_wordOf 249 = .ok (.bipush (-9), 2) := by decide +kernel
theorem dX9_wordOf_251 : decode cX9_wordOf 251 = .ok (.ireturn, 1) := by decide +kernel
set_option maxRecDepth 20000 in
theorem ggX9_advances_X9_byteAt : GoodIn wsX9_advances wsX9_byteAt := goodIn_r _ [9, 10, 11, 25, 26, 27, 28, 29, 30, 31, 32, 33, 34, 35, 36, 37, 38, 39, 40, 41, 42, 43, 44, 45, 46, 47, 48, 49, 50, 51] (by decide +kernel) (by decide +kernel)
set_option maxRecDepth 20000 in
theorem gX9_advances_X9_byteAt : GoodIn wsX9_advances (wsV RX9 70 RX9 yX9_byteAt wsX9_byteAt) := goodIn_app (goodIn_of _ (by decide +kernel)) ggX9_advances_X9_byteAt
set_option maxRecDepth 20000 in
theorem ggX9_advances_X9_in : GoodIn wsX9_advances wsX9_in := goodIn_r _ [14] (by decide +kernel) (by decide +kernel)
set_option maxRecDepth 20000 in
theorem gX9_advances_X9_in : GoodIn wsX9_advances (va_wsS RX9 48 yX9_in wsX9_in) := goodIn_app (goodIn_of _ (by decide +kernel)) ggX9_advances_X9_in
set_option maxRecDepth 20000 in
theorem ggX9_advances_X9_add : GoodIn wsX9_advances wsX9_add := goodIn_r _ [17, 18] (by decide +kernel) (by decide +kernel)
set_option maxRecDepth 20000 in
theorem gX9_advances_X9_add : GoodIn wsX9_advances (va_wsS RX9 59 yX9_add wsX9_add) := goodIn_app (goodIn_of _ (by decide +kernel)) ggX9_advances_X9_add
set_option maxRecDepth 20000 in
theorem ggX9_advances_X9_wordOf : GoodIn wsX9_advances wsX9_wordOf := goodIn_r _ [21, 22, 23, 8, 24, 15, 16, 17, 18] (by decide +kernel) (by decide +kernel)
set_option maxRecDepth 20000 in
theorem gX9_advances_X9_wordOf : GoodIn wsX9_advances (va_wsS RX9 80 yX9_wordOf wsX9_wordOf) := goodIn_app (goodIn_of _ (by decide +kernel)) ggX9_advances_X9_wordOf
theorem dX9_advances_0 : decode cX9_advances 0 = .ok (.aload_n 0, 1) := by decide +kernel
theorem dX9_advances_1 : decode cX9_advances 1 = .ok (.aload_n 0, 1) := by decide +kernel
theorem dX9_advances_2 : decode cX9_advances 2 = .ok (.getfield 67, 3) := by decide +kernel
theorem dX9_advances_5 : decode cX9_advances 5 = .ok (.invokevirtual 70, 3) := by decide +kernel
theorem dX9_advances_8 : decode cX9_advances 8 = .ok (.bipush 32, 2) := by decide +kernel
theorem dX9_advances_10 : decode cX9_advances 10 = .ok (.if_icmp .ne 16, 3) := by decide +kernel
theorem dX9_advances_13 : decode cX9_advances 13 = .ok (.aload_n 0, 1) := by decide +kernel
theorem dX9_advances_14 : decode cX9_advances 14 = .ok (.dup, 1) := by decide +kernel
theorem dX9_advances_15 : decode cX9_advances 15 = .ok (.getfield 67, 3) := by decide +kernel
theorem dX9_advances_18 : decode cX9_advances 18 = .ok (.iconst 1, 1) := by decide +kernel
theorem dX9_advances_19 : decode cX9_advances 19 = .ok (.iadd, 1) := by decide +kernel
theorem dX9_advances_20 : decode cX9_advances 20 = .ok (.putfield 67, 3) := by decide +kernel
theorem dX9_advances_23 : decode cX9_advances 23 = .ok (.goto (-23), 3) := by decide +kernel
theorem dX9_advances_26 : decode cX9_advances 26 = .ok (.aload_n 0, 1) := by decide +kernel
theorem dX9_advances_27 : decode cX9_advances 27 = .ok (.aload_n 0, 1) := by decide +kernel
theorem dX9_advances_28 : decode cX9_advances 28 = .ok (.getfield 67, 3) := by decide +kernel
theorem dX9_advances_31 : decode cX9_advances 31 = .ok (.putfield 74, 3) := by decide +kernel
theorem dX9_advances_34 : decode cX9_advances 34 = .ok (.aload_n 0, 1) := by decide +kernel
theorem dX9_advances_35 : decode cX9_advances 35 = .ok (.aload_n 0, 1) := by decide +kernel
theorem dX9_advances_36 : decode cX9_advances 36 = .ok (.getfield 67, 3) := by decide +kernel
theorem dX9_advances_39 : decode cX9_advances 39 = .ok (.invokevirtual 70, 3) := by decide +kernel
theorem dX9_advances_42 : decode cX9_advances 42 = .ok (.istore_n 1, 1) := by decide +kernel
theorem dX9_advances_43 : decode cX9_advances 43 = .ok (.iload_n 1, 1) := by decide +kernel
theorem dX9_advances_44 : decode cX9_advances 44 = .ok (.ifCond .ge 11, 3) := by decide +kernel
theorem dX9_advances_47 : decode cX9_advances 47 = .ok (.aload_n 0, 1) := by decide +kernel
theorem dX9_advances_48 : decode cX9_advances 48 = .ok (.iconst 0, 1) := by decide +kernel
theorem dX9_advances_49 : decode cX9_advances 49 = .ok (.putfield 77, 3) := by decide +kernel
theorem dX9_advances_52 : decode cX9_advances 52 = .ok (.goto 258, 3) := by decide +kernel
theorem dX9_advances_55 : decode cX9_advances 55 = .ok (.iload_n 1, 1) := by decide +kernel
theorem dX9_advances_56 : decode cX9_advances 56 = .ok (.bipush 97, 2) := by decide +kernel
theorem dX9_advances_58 : decode cX9_advances 58 = .ok (.bipush 122, 2) := by decide +kernel
theorem dX9_advances_60 : decode cX9_advances 60 = .ok (.invokestatic 48, 3) := by decide +kernel
theorem dX9_advances_63 : decode cX9_advances 63 = .ok (.ifCond .eq 96, 3) := by decide +kernel
theorem dX9_advances_66 : decode cX9_advances 66 = .ok (.lconst 0, 1) := by decide +kernel
theorem dX9_advances_67 : decode cX9_advances 67 = .ok (.lstore_n 2, 1) := by decide +kernel
theorem dX9_advances_68 : decode cX9_advances 68 = .ok (.aload_n 0, 1) := by decide +kernel
theorem dX9_advances_69 : decode cX9_advances 69 = .ok (.aload_n 0, 1) := by decide +kernel
theorem dX9_advances_70 : decode cX9_advances 70 = .ok (.getfield 67, 3) := by decide +kernel
theorem dX9_advances_73 : decode cX9_advances 73 = .ok (.invokevirtual 70, 3) := by decide +kernel
theorem dX9_advances_76 : decode cX9_advances 76 = .ok (.bipush 97, 2) := by decide +kernel
theorem dX9_advances_78 : decode cX9_advances 78 = .ok (.bipush 122, 2) := by decide +kernel
theorem dX9_advances_80 : decode cX9_advances 80 = .ok (.invokestatic 48, 3) := by decide +kernel
theorem dX9_advances_83 : decode cX9_advances 83 = .ok (.ifCond .eq 47, 3) := by decide +kernel
theorem dX9_advances_86 : decode cX9_advances 86 = .ok (.aload_n 0, 1) := by decide +kernel
theorem dX9_advances_87 : decode cX9_advances 87 = .ok (.getfield 67, 3) := by decide +kernel
theorem dX9_advances_90 : decode cX9_advances 90 = .ok (.aload_n 0, 1) := by decide +kernel
theorem dX9_advances_91 : decode cX9_advances 91 = .ok (.getfield 74, 3) := by decide +kernel
theorem dX9_advances_94 : decode cX9_advances 94 = .ok (.isub, 1) := by decide +kernel
theorem dX9_advances_95 : decode cX9_advances 95 = .ok (.bipush 7, 2) := by decide +kernel
theorem dX9_advances_97 : decode cX9_advances 97 = .ok (.if_icmp .ge 18, 3) := by decide +kernel
theorem dX9_advances_100 : decode cX9_advances 100 = .ok (.lload_n 2, 1) := by decide +kernel
theorem dX9_advances_101 : decode cX9_advances 101 = .ok (.aload_n 0, 1) := by decide +kernel
theorem dX9_advances_102 : decode cX9_advances 102 = .ok (.aload_n 0, 1) := by decide +kernel
theorem dX9_advances_103 : decode cX9_advances 103 = .ok (.getfield 67, 3) := by decide +kernel
theorem dX9_advances_106 : decode cX9_advances 106 = .ok (.invokevirtual 70, 3) := by decide +kernel
theorem dX9_advances_109 : decode cX9_advances 109 = .ok (.invokestatic 59, 3) := by decide +kernel
theorem dX9_advances_112 : decode cX9_advances 112 = .ok (.goto 4, 3) := by decide +kernel
theorem dX9_advances_115 : decode cX9_advances 115 = .ok (.lload_n 2, 1) := by decide +kernel
theorem dX9_advances_116 : decode cX9_advances 116 = .ok (.lstore_n 2, 1) := by decide +kernel
theorem dX9_advances_117 : decode cX9_advances 117 = .ok (.aload_n 0, 1) := by decide +kernel
theorem dX9_advances_118 : decode cX9_advances 118 = .ok (.dup, 1) := by decide +kernel
theorem dX9_advances_119 : decode cX9_advances 119 = .ok (.getfield 67, 3) := by decide +kernel
theorem dX9_advances_122 : decode cX9_advances 122 = .ok (.iconst 1, 1) := by decide +kernel
theorem dX9_advances_123 : decode cX9_advances 123 = .ok (.iadd, 1) := by decide +kernel
theorem dX9_advances_124 : decode cX9_advances 124 = .ok (.putfield 67, 3) := by decide +kernel
theorem dX9_advances_127 : decode cX9_advances 127 = .ok (.goto (-59), 3) := by decide +kernel
theorem dX9_advances_130 : decode cX9_advances 130 = .ok (.aload_n 0, 1) := by decide +kernel
theorem dX9_advances_131 : decode cX9_advances 131 = .ok (.lload_n 2, 1) := by decide +kernel
theorem dX9_advances_132 : decode cX9_advances 132 = .ok (.invokestatic 80, 3) := by decide +kernel
theorem dX9_advances_135 : decode cX9_advances 135 = .ok (.putfield 84, 3) := by decide +kernel
theorem dX9_advances_138 : decode cX9_advances 138 = .ok (.aload_n 0, 1) := by decide +kernel
theorem dX9_advances_139 : decode cX9_advances 139 = .ok (.aload_n 0, 1) := by decide +kernel
theorem dX9_advances_140 : decode cX9_advances 140 = .ok (.getfield 84, 3) := by decide +kernel
theorem dX9_advances_143 : decode cX9_advances 143 = .ok (.bipush (-9), 2) := by decide +kernel
theorem dX9_advances_145 : decode cX9_advances 145 = .ok (.if_icmp .ne 7, 3) := by decide +kernel
theorem dX9_advances_148 : decode cX9_advances 148 = .ok (.iconst 4, 1) := by decide +kernel
theorem dX9_advances_149 : decode cX9_advances 149 = .ok (.goto 4, 3) := by decide +kernel
theorem dX9_advances_152 : decode cX9_advances 152 = .ok (.iconst 1, 1) := by decide +kernel
theorem dX9_advances_153 : decode cX9_advances 153 = .ok (.putfield 77, 3) := by decide +kernel
theorem dX9_advances_156 : decode cX9_advances 156 = .ok (.goto 154, 3) := by decide +kernel
theorem dX9_advances_159 : decode cX9_advances 159 = .ok (.iload_n 1, 1) := by decide +kernel
theorem dX9_advances_160 : decode cX9_advances 160 = .ok (.bipush 48, 2) := by decide +kernel
theorem dX9_advances_162 : decode cX9_advances 162 = .ok (.bipush 57, 2) := by decide +kernel
theorem dX9_advances_164 : decode cX9_advances 164 = .ok (.invokestatic 48, 3) := by decide +kernel
theorem dX9_advances_167 : decode cX9_advances 167 = .ok (.ifCond .eq 118, 3) := by decide +kernel
theorem dX9_advances_170 : decode cX9_advances 170 = .ok (.aload_n 0, 1) := by decide +kernel
theorem dX9_advances_171 : decode cX9_advances 171 = .ok (.iconst 0, 1) := by decide +kernel
theorem dX9_advances_172 : decode cX9_advances 172 = .ok (.putfield 84, 3) := by decide +kernel
theorem dX9_advances_175 : decode cX9_advances 175 = .ok (.aload_n 0, 1) := by decide +kernel
theorem dX9_advances_176 : decode cX9_advances 176 = .ok (.aload_n 0, 1) := by decide +kernel
theorem dX9_advances_177 : decode cX9_advances 177 = .ok (.getfield 67, 3) := by decide +kernel
theorem dX9_advances_180 : decode cX9_advances 180 = .ok (.invokevirtual 70, 3) := by decide +kernel
theorem dX9_advances_183 : decode cX9_advances 183 = .ok (.bipush 48, 2) := by decide +kernel
theorem dX9_advances_185 : decode cX9_advances 185 = .ok (.bipush 57, 2) := by decide +kernel
theorem dX9_advances_187 : decode cX9_advances 187 = .ok (.invokestatic 48, 3) := by decide +kernel
theorem dX9_advances_190 : decode cX9_advances 190 = .ok (.ifCond .eq 55, 3) := by decide +kernel
theorem dX9_advances_193 : decode cX9_advances 193 = .ok (.aload_n 0, 1) := by decide +kernel
theorem dX9_advances_194 : decode cX9_advances 194 = .ok (.aload_n 0, 1) := by decide +kernel
theorem dX9_advances_195 : decode cX9_advances 195 = .ok (.getfield 84, 3) := by decide +kernel
theorem dX9_advances_198 : decode cX9_advances 198 = .ok (.bipush 99, 2) := by decide +kernel
theorem dX9_advances_200 : decode cX9_advances 200 = .ok (.if_icmp .le 10, 3) := by decide +kernel
theorem dX9_advances_203 : decode cX9_advances 203 = .ok (.aload_n 0, 1) := by decide +kernel
theorem dX9_advances_204 : decode cX9_advances 204 = .ok (.getfield 84, 3) := by decide +kernel
theorem dX9_advances_207 : decode cX9_advances 207 = .ok (.goto 22, 3) := by decide +kernel
theorem dX9_advances_210 : decode cX9_advances 210 = .ok (.bipush 10, 2) := by decide +kernel
theorem dX9_advances_212 : decode cX9_advances 212 = .ok (.aload_n 0, 1) := by decide +kernel
theorem dX9_advances_213 : decode cX9_advances 213 = .ok (.getfield 84, 3) := by decide +kernel
theorem dX9_advances_216 : decode cX9_advances 216 = .ok (.imul, 1) := by decide +kernel
theorem dX9_advances_217 : decode cX9_advances 217 = .ok (.aload_n 0, 1) := by decide +kernel
theorem dX9_advances_218 : decode cX9_advances 218 = .ok (.aload_n 0, 1) := by decide +kernel
theorem dX9_advances_219 : decode cX9_advances 219 = .ok (.getfield 67, 3) := by decide +kernel
theorem dX9_advances_222 : decode cX9_advances 222 = .ok (.invokevirtual 70, 3) := by decide +kernel
theorem dX9_advances_225 : decode cX9_advances 225 = .ok (.iadd, 1) := by decide +kernel
theorem dX9_advances_226 : decode cX9_advances 226 = .ok (.bipush 48, 2) := by decide +kernel
theorem dX9_advances_228 : decode cX9_advances 228 = .ok (.isub, 1) := by decide +kernel
theorem dX9_advances_229 : decode cX9_advances 229 = .ok (.putfield 84, 3) := by decide +kernel
theorem dX9_advances_232 : decode cX9_advances 232 = .ok (.aload_n 0, 1) := by decide +kernel
theorem dX9_advances_233 : decode cX9_advances 233 = .ok (.dup, 1) := by decide +kernel
theorem dX9_advances_234 : decode cX9_advances 234 = .ok (.getfield 67, 3) := by decide +kernel
theorem dX9_advances_237 : decode cX9_advances 237 = .ok (.iconst 1, 1) := by decide +kernel
theorem dX9_advances_238 : decode cX9_advances 238 = .ok (.iadd, 1) := by decide +kernel
theorem dX9_advances_239 : decode cX9_advances 239 = .ok (.putfield 67, 3) := by decide +kernel
theorem dX9_advances_242 : decode cX9_advances 242 = .ok (.goto (-67), 3) := by decide +kernel
theorem dX9_advances_245 : decode cX9_advances 245 = .ok (.aload_n 0, 1) := by decide +kernel
theorem dX9_advances_246 : decode cX9_advances 246 = .ok (.aload_n 0, 1) := by decide +kernel
theorem dX9_advances_247 : decode cX9_advances 247 = .ok (.getfield 84, 3) := by decide +kernel
theorem dX9_advances_250 : decode cX9_advances 250 = .ok (.bipush 99, 2) := by decide +kernel
theorem dX9_advances_252 : decode cX9_advances 252 = .ok (.if_icmp .gt 22, 3) := by decide +kernel
theorem dX9_advances_255 : decode cX9_advances 255 = .ok (.iload_n 1, 1) := by decide +kernel
theorem dX9_advances_256 : decode cX9_advances 256 = .ok (.bipush 48, 2) := by decide +kernel
theorem dX9_advances_258 : decode cX9_advances 258 = .ok (.if_icmp .ne 20, 3) := by decide +kernel
theorem dX9_advances_261 : decode cX9_advances 261 = .ok (.aload_n 0, 1) := by decide +kernel
theorem dX9_advances_262 : decode cX9_advances 262 = .ok (.getfield 67, 3) := by decide +kernel
theorem dX9_advances_265 : decode cX9_advances 265 = .ok (.aload_n 0, 1) := by decide +kernel
theorem dX9_advances_266 : decode cX9_advances 266 = .ok (.getfield 74, 3) := by decide +kernel
theorem dX9_advances_269 : decode cX9_advances 269 = .ok (.isub, 1) := by decide +kernel
theorem dX9_advances_270 : decode cX9_advances 270 = .ok (.iconst 1, 1) := by decide +kernel
theorem dX9_advances_271 : decode cX9_advances 271 = .ok (.if_icmp .le 7, 3) := by decide +kernel
theorem dX9_advances_274 : decode cX9_advances 274 = .ok (.iconst 4, 1) := by decide +kernel
theorem dX9_advances_275 : decode cX9_advances 275 = .ok (.goto 4, 3) := by decide +kernel
theorem dX9_advances_278 : decode cX9_advances 278 = .ok (.iconst 2, 1) := by decide +kernel
theorem dX9_advances_279 : decode cX9_advances 279 = .ok (.putfield 77, 3) := by decide +kernel
theorem dX9_advances_282 : decode cX9_advances 282 = .ok (.goto 28, 3) := by decide +kernel
theorem dX9_advances_285 : decode cX9_advances 285 = .ok (.aload_n 0, 1) := by decide +kernel
theorem dX9_advances_286 : decode cX9_advances 286 = .ok (.dup, 1) := by decide +kernel
theorem dX9_advances_287 : decode cX9_advances 287 = .ok (.getfield 67, 3) := by decide +kernel
theorem dX9_advances_290 : decode cX9_advances 290 = .ok (.iconst 1, 1) := by decide +kernel
theorem dX9_advances_291 : decode cX9_advances 291 = .ok (.iadd, 1) := by decide +kernel
theorem dX9_advances_292 : decode cX9_advances 292 = .ok (.putfield 67, 3) := by decide +kernel
theorem dX9_advances_295 : decode cX9_advances 295 = .ok (.aload_n 0, 1) := by decide +kernel
theorem dX9_advances_296 : decode cX9_advances 296 = .ok (.iload_n 1, 1) := by decide +kernel
theorem dX9_advances_297 : decode cX9_advances 297 = .ok (.bipush 59, 2) := by decide +kernel
theorem dX9_advances_299 : decode cX9_advances 299 = .ok (.if_icmp .ne 7, 3) := by decide +kernel
theorem dX9_advances_302 : decode cX9_advances 302 = .ok (.iconst 3, 1) := by decide +kernel
theorem dX9_advances_303 : decode cX9_advances 303 = .ok (.goto 4, 3) := by decide +kernel
theorem dX9_advances_306 : decode cX9_advances 306 = .ok (.iconst 4, 1) := by decide +kernel
theorem dX9_advances_307 : decode cX9_advances 307 = .ok (.putfield 77, 3) := by decide +kernel
theorem dX9_advances_310 : decode cX9_advances 310 = .ok (.return_, 1) := by decide +kernel
theorem dX9_isWell_0 : decode cX9_isWell 0 = .ok (.aload_n 0, 1) := by decide +kernel
theorem dX9_isWell_1 : decode cX9_isWell 1 = .ok (.getfield 87, 3) := by decide +kernel
theorem dX9_isWell_4 : decode cX9_isWell 4 = .ok (.ifCond .ge 7, 3) := by decide +kernel
theorem dX9_isWell_7 : decode cX9_isWell 7 = .ok (.iconst 1, 1) := by decide +kernel
theorem dX9_isWell_8 : decode cX9_isWell 8 = .ok (.goto 4, 3) := by decide +kernel
theorem dX9_isWell_11 : decode cX9_isWell 11 = .ok (.iconst 0, 1) := by decide +kernel
theorem dX9_isWell_12 : decode cX9_isWell 12 = .ok (.ireturn, 1) := by decide +kernel
set_option maxRecDepth 20000 in
theorem ggX9_takes_X9_isWell : GoodIn wsX9_takes wsX9_isWell := goodIn_r _ [8, 2, 34, 35, 36, 37, 38, 39, 40, 41, 42, 43, 44, 45, 46, 47, 48, 49, 50, 51, 52, 53, 54, 55, 56, 57, 58, 59, 60] (by decide +kernel) (by decide +kernel)
set_option maxRecDepth 20000 in
theorem gX9_takes_X9_isWell : GoodIn wsX9_takes (wsV RX9 90 RX9 yX9_isWell wsX9_isWell) := goodIn_app (goodIn_of _ (by decide +kernel)) ggX9_takes_X9_isWell
set_option maxRecDepth 20000 in
theorem ggX9_takes_X9_advances : GoodIn wsX9_takes wsX9_advances := goodIn_r _ [12, 13, 1, 14, 3, 15, 16, 17, 7, 18, 19, 20, 21, 22, 23, 24, 25, 26, 27, 28, 29, 30, 31, 32, 33, 34, 35, 36, 37, 38, 39, 40, 41, 42, 43, 44, 45, 46, 47, 48, 49, 50, 51, 52, 53, 54, 55, 56, 57, 58, 59, 60] (by decide +kernel) (by decide +kernel)
set_option maxRecDepth 20000 in
theorem gX9_takes_X9_advances : GoodIn wsX9_takes (wsV RX9 94 RX9 yX9_advances wsX9_advances) := goodIn_app (goodIn_of _ (by decide +kernel)) ggX9_takes_X9_advances
theorem dX9_takes_0 : decode cX9_takes 0 = .ok (.aload_n 0, 1) := by decide +kernel
theorem dX9_takes_1 : decode cX9_takes 1 = .ok (.invokevirtual 90, 3) := by decide +kernel
theorem dX9_takes_4 : decode cX9_takes 4 = .ok (.ifCond .ne 5, 3) := by decide +kernel
theorem dX9_takes_7 : decode cX9_takes 7 = .ok (.iconst 0, 1) := by decide +kernel
theorem dX9_takes_8 : decode cX9_takes 8 = .ok (.ireturn, 1) := by decide +kernel
theorem dX9_takes_9 : decode cX9_takes 9 = .ok (.iload_n 1, 1) := by decide +kernel
theorem dX9_takes_10 : decode cX9_takes 10 = .ok (.ifCond .ne 13, 3) := by decide +kernel
theorem dX9_takes_13 : decode cX9_takes 13 = .ok (.aload_n 0, 1) := by decide +kernel
theorem dX9_takes_14 : decode cX9_takes 14 = .ok (.aload_n 0, 1) := by decide +kernel
theorem dX9_takes_15 : decode cX9_takes 15 = .ok (.getfield 74, 3) := by decide +kernel
theorem dX9_takes_18 : decode cX9_takes 18 = .ok (.putfield 87, 3) := by decide +kernel
theorem dX9_takes_21 : decode cX9_takes 21 = .ok (.iconst 0, 1) := by decide +kernel
theorem dX9_takes_22 : decode cX9_takes 22 = .ok (.ireturn, 1) := by decide +kernel
theorem dX9_takes_23 : decode cX9_takes 23 = .ok (.aload_n 0, 1) := by decide +kernel
theorem dX9_takes_24 : decode cX9_takes 24 = .ok (.getfield 84, 3) := by decide +kernel
theorem dX9_takes_27 : decode cX9_takes 27 = .ok (.istore_n 2, 1) := by decide +kernel
theorem dX9_takes_28 : decode cX9_takes 28 = .ok (.aload_n 0, 1) := by decide +kernel
theorem dX9_takes_29 : decode cX9_takes 29 = .ok (.invokevirtual 94, 3) := by decide +kernel
theorem dX9_takes_32 : decode cX9_takes 32 = .ok (.iload_n 2, 1) := by decide +kernel
theorem dX9_takes_33 : decode cX9_takes 33 = .ok (.ireturn, 1) := by decide +kernel
set_option maxRecDepth 20000 in
theorem ggX9_number_X9_in : GoodIn wsX9_number wsX9_in := goodIn_r _ [6] (by decide +kernel) (by decide +kernel)
set_option maxRecDepth 20000 in
theorem gX9_number_X9_in : GoodIn wsX9_number (va_wsS RX9 48 yX9_in wsX9_in) := goodIn_app (goodIn_of _ (by decide +kernel)) ggX9_number_X9_in
set_option maxRecDepth 20000 in
theorem ggX9_number_X9_takes : GoodIn wsX9_number wsX9_takes := goodIn_r _ [10, 11, 12, 2, 13, 14, 15, 5, 16, 17, 18, 19, 20, 21, 1, 22, 23, 24, 25, 26, 27, 3, 4, 6, 28, 29, 30, 31, 32, 33, 34, 35, 36, 37, 38, 39, 40, 41, 42, 43, 44, 45, 46, 47, 48, 49, 50, 51, 52, 53, 54, 55, 56, 57, 58, 59, 60, 61, 62, 63, 64] (by decide +kernel) (by decide +kernel)
set_option maxRecDepth 20000 in
theorem gX9_number_X9_takes : GoodIn wsX9_number (wsV RX9 97 RX9 yX9_takes wsX9_takes) := goodIn_app (goodIn_of _ (by decide +kernel)) ggX9_number_X9_takes
theorem dX9_number_0 : decode cX9_number 0 = .ok (.aload_n 0, 1) := by decide +kernel
theorem dX9_number_1 : decode cX9_number 1 = .ok (.aload_n 0, 1) := by decide +kernel
theorem dX9_number_2 : decode cX9_number 2 = .ok (.getfield 77, 3) := by decide +kernel
theorem dX9_number_5 : decode cX9_number 5 = .ok (.iconst 2, 1) := by decide +kernel
theorem dX9_number_6 : decode cX9_number 6 = .ok (.if_icmp .ne 19, 3) := by decide +kernel
theorem dX9_number_9 : decode cX9_number 9 = .ok (.aload_n 0, 1) := by decide +kernel
theorem dX9_number_10 : decode cX9_number 10 = .ok (.getfield 84, 3) := by decide +kernel
theorem dX9_number_13 : decode cX9_number 13 = .ok (.iload_n 1, 1) := by decide +kernel
theorem dX9_number_14 : decode cX9_number 14 = .ok (.iload_n 2, 1) := by decide +kernel
theorem dX9_number_15 : decode cX9_number 15 = .ok (.invokestatic 48, 3) := by decide +kernel
theorem dX9_number_18 : decode cX9_number 18 = .ok (.ifCond .eq 7, 3) := by decide +kernel
theorem dX9_number_21 : decode cX9_number 21 = .ok (.iconst 1, 1) := by decide +kernel
theorem dX9_number_22 : decode cX9_number 22 = .ok (.goto 4, 3) := by decide +kernel
theorem dX9_number_25 : decode cX9_number 25 = .ok (.iconst 0, 1) := by decide +kernel
theorem dX9_number_26 : decode cX9_number 26 = .ok (.invokevirtual 97, 3) := by decide +kernel
theorem dX9_number_29 : decode cX9_number 29 = .ok (.ireturn, 1) := by decide +kernel
theorem dX9_lesser_0 : decode cX9_lesser 0 = .ok (.iload_n 0, 1) := by decide +kernel
theorem dX9_lesser_1 : decode cX9_lesser 1 = .ok (.iload_n 1, 1) := by decide +kernel
theorem dX9_lesser_2 : decode cX9_lesser 2 = .ok (.if_icmp .ge 7, 3) := by decide +kernel
theorem dX9_lesser_5 : decode cX9_lesser 5 = .ok (.iload_n 0, 1) := by decide +kernel
theorem dX9_lesser_6 : decode cX9_lesser 6 = .ok (.goto 4, 3) := by decide +kernel
theorem dX9_lesser_9 : decode cX9_lesser 9 = .ok (.iload_n 1, 1) := by decide +kernel
theorem dX9_lesser_10 : decode cX9_lesser 10 = .ok (.ireturn, 1) := by decide +kernel
set_option maxRecDepth 20000 in
theorem ggX9_areBeside_X9_lesser : GoodIn wsX9_areBeside wsX9_lesser := goodIn_r _ [4] (by decide +kernel) (by decide +kernel)
set_option maxRecDepth 20000 in
theorem gX9_areBeside_X9_lesser : GoodIn wsX9_areBeside (va_wsS RX9 101 yX9_lesser wsX9_lesser) := goodIn_app (goodIn_of _ (by decide +kernel)) ggX9_areBeside_X9_lesser
theorem dX9_areBeside_0 : decode cX9_areBeside 0 = .ok (.iload_n 0, 1) := by decide +kernel
theorem dX9_areBeside_1 : decode cX9_areBeside 1 = .ok (.iload_n 1, 1) := by decide +kernel
theorem dX9_areBeside_2 : decode cX9_areBeside 2 = .ok (.invokestatic 101, 3) := by decide +kernel
theorem dX9_areBeside_5 : decode cX9_areBeside 5 = .ok (.istore_n 3, 1) := by decide +kernel
theorem dX9_areBeside_6 : decode cX9_areBeside 6 = .ok (.iload_n 0, 1) := by decide +kernel
theorem dX9_areBeside_7 : decode cX9_areBeside 7 = .ok (.iload_n 1, 1) := by decide +kernel
theorem dX9_areBeside_8 : decode cX9_areBeside 8 = .ok (.iadd, 1) := by decide +kernel
theorem dX9_areBeside_9 : decode cX9_areBeside 9 = .ok (.iconst 2, 1) := by decide +kernel
theorem dX9_areBeside_10 : decode cX9_areBeside 10 = .ok (.iload_n 3, 1) := by decide +kernel
theorem dX9_areBeside_11 : decode cX9_areBeside 11 = .ok (.imul, 1) := by decide +kernel
theorem dX9_areBeside_12 : decode cX9_areBeside 12 = .ok (.isub, 1) := by decide +kernel
theorem dX9_areBeside_13 : decode cX9_areBeside 13 = .ok (.istore 4, 2) := by decide +kernel
theorem dX9_areBeside_15 : decode cX9_areBeside 15 = .ok (.iload 4, 2) := by decide +kernel
theorem dX9_areBeside_17 : decode cX9_areBeside 17 = .ok (.iload_n 2, 1) := by decide +kernel
theorem dX9_areBeside_18 : decode cX9_areBeside 18 = .ok (.if_icmp .eq 18, 3) := by decide +kernel
theorem dX9_areBeside_21 : decode cX9_areBeside 21 = .ok (.iload 4, 2) := by decide +kernel
theorem dX9_areBeside_23 : decode cX9_areBeside 23 = .ok (.iconst 1, 1) := by decide +kernel
theorem dX9_areBeside_24 : decode cX9_areBeside 24 = .ok (.if_icmp .ne 16, 3) := by decide +kernel
theorem dX9_areBeside_27 : decode cX9_areBeside 27 = .ok (.iload_n 3, 1) := by decide +kernel
theorem dX9_areBeside_28 : decode cX9_areBeside 28 = .ok (.iload_n 2, 1) := by decide +kernel
theorem dX9_areBeside_29 : decode cX9_areBeside 29 = .ok (.irem, 1) := by decide +kernel
theorem dX9_areBeside_30 : decode cX9_areBeside 30 = .ok (.iload_n 2, 1) := by decide +kernel
theorem dX9_areBeside_31 : decode cX9_areBeside 31 = .ok (.iconst 1, 1) := by decide +kernel
theorem dX9_areBeside_32 : decode cX9_areBeside 32 = .ok (.isub, 1) := by decide +kernel
theorem dX9_areBeside_33 : decode cX9_areBeside 33 = .ok (.if_icmp .ge 7, 3) := by decide +kernel
theorem dX9_areBeside_36 : decode cX9_areBeside 36 = .ok (.iconst 1, 1) := by decide +kernel
theorem dX9_areBeside_37 : decode cX9_areBeside 37 = .ok (.goto 4, 3) := by decide +kernel
theorem dX9_areBeside_40 : decode cX9_areBeside 40 = .ok (.iconst 0, 1) := by decide +kernel
theorem dX9_areBeside_41 : decode cX9_areBeside 41 = .ok (.ireturn, 1) := by decide +kernel
set_option maxRecDepth 20000 in
theorem ggX9_spotOf_X9_lesser : GoodIn wsX9_spotOf wsX9_lesser := goodIn_r _ [4] (by decide +kernel) (by decide +kernel)
set_option maxRecDepth 20000 in
theorem gX9_spotOf_X9_lesser : GoodIn wsX9_spotOf (va_wsS RX9 101 yX9_lesser wsX9_lesser) := goodIn_app (goodIn_of _ (by decide +kernel)) ggX9_spotOf_X9_lesser
theorem dX9_spotOf_0 : decode cX9_spotOf 0 = .ok (.iload_n 0, 1) := by decide +kernel
theorem dX9_spotOf_1 : decode cX9_spotOf 1 = .ok (.iload_n 1, 1) := by decide +kernel
theorem dX9_spotOf_2 : decode cX9_spotOf 2 = .ok (.invokestatic 101, 3) := by decide +kernel
theorem dX9_spotOf_5 : decode cX9_spotOf 5 = .ok (.istore 4, 2) := by decide +kernel
theorem dX9_spotOf_7 : decode cX9_spotOf 7 = .ok (.iload_n 3, 1) := by decide +kernel
theorem dX9_spotOf_8 : decode cX9_spotOf 8 = .ok (.iload 4, 2) := by decide +kernel
theorem dX9_spotOf_10 : decode cX9_spotOf 10 = .ok (.iadd, 1) := by decide +kernel
theorem dX9_spotOf_11 : decode cX9_spotOf 11 = .ok (.iload_n 0, 1) := by decide +kernel
theorem dX9_spotOf_12 : decode cX9_spotOf 12 = .ok (.iload_n 1, 1) := by decide +kernel
theorem dX9_spotOf_13 : decode cX9_spotOf 13 = .ok (.iadd, 1) := by decide +kernel
theorem dX9_spotOf_14 : decode cX9_spotOf 14 = .ok (.iconst 2, 1) := by decide +kernel
theorem dX9_spotOf_15 : decode cX9_spotOf 15 = .ok (.iload 4, 2) := by decide +kernel
theorem dX9_spotOf_17 : decode cX9_spotOf 17 = .ok (.imul, 1) := by decide +kernel
theorem dX9_spotOf_18 : decode cX9_spotOf 18 = .ok (.isub, 1) := by decide +kernel
theorem dX9_spotOf_19 : decode cX9_spotOf 19 = .ok (.iload_n 2, 1) := by decide +kernel
theorem dX9_spotOf_20 : decode cX9_spotOf 20 = .ok (.if_icmp .ne 8, 3) := by decide +kernel
theorem dX9_spotOf_23 : decode cX9_spotOf 23 = .ok (.iload_n 2, 1) := by decide +kernel
theorem dX9_spotOf_24 : decode cX9_spotOf 24 = .ok (.iconst 1, 1) := by decide +kernel
theorem dX9_spotOf_25 : decode cX9_spotOf 25 = .ok (.if_icmp .gt 8, 3) := by decide +kernel
theorem dX9_spotOf_28 : decode cX9_spotOf 28 = .ok (.iload_n 2, 1) := by decide +kernel
theorem dX9_spotOf_29 : decode cX9_spotOf 29 = .ok (.iconst 1, 1) := by decide +kernel
theorem dX9_spotOf_30 : decode cX9_spotOf 30 = .ok (.if_icmp .ne 8, 3) := by decide +kernel
theorem dX9_spotOf_33 : decode cX9_spotOf 33 = .ok (.bipush 48, 2) := by decide +kernel
theorem dX9_spotOf_35 : decode cX9_spotOf 35 = .ok (.goto 4, 3) := by decide +kernel
theorem dX9_spotOf_38 : decode cX9_spotOf 38 = .ok (.iconst 0, 1) := by decide +kernel
theorem dX9_spotOf_39 : decode cX9_spotOf 39 = .ok (.iadd, 1) := by decide +kernel
theorem dX9_spotOf_40 : decode cX9_spotOf 40 = .ok (.ireturn, 1) := by decide +kernel
theorem dX9_begins_0 : decode cX9_begins 0 = .ok (.aload_n 0, 1) := by decide +kernel
theorem dX9_begins_1 : decode cX9_begins 1 = .ok (.iconst 4, 1) := by decide +kernel
theorem dX9_begins_2 : decode cX9_begins 2 = .ok (.putfield 105, 3) := by decide +kernel
theorem dX9_begins_5 : decode cX9_begins 5 = .ok (.aload_n 0, 1) := by decide +kernel
theorem dX9_begins_6 : decode cX9_begins 6 = .ok (.iconst 3, 1) := by decide +kernel
theorem dX9_begins_7 : decode cX9_begins 7 = .ok (.putfield 108, 3) := by decide +kernel
theorem dX9_begins_10 : decode cX9_begins 10 = .ok (.aload_n 0, 1) := by decide +kernel
theorem dX9_begins_11 : decode cX9_begins 11 = .ok (.iconst 0, 1) := by decide +kernel
theorem dX9_begins_12 : decode cX9_begins 12 = .ok (.putfield 111, 3) := by decide +kernel
theorem dX9_begins_15 : decode cX9_begins 15 = .ok (.aload_n 0, 1) := by decide +kernel
theorem dX9_begins_16 : decode cX9_begins 16 = .ok (.iconst 0, 1) := by decide +kernel
theorem dX9_begins_17 : decode cX9_begins 17 = .ok (.putfield 114, 3) := by decide +kernel
theorem dX9_begins_20 : decode cX9_begins 20 = .ok (.iconst 0, 1) := by decide +kernel
theorem dX9_begins_21 : decode cX9_begins 21 = .ok (.istore_n 1, 1) := by decide +kernel
theorem dX9_begins_22 : decode cX9_begins 22 = .ok (.iload_n 1, 1) := by decide +kernel
theorem dX9_begins_23 : decode cX9_begins 23 = .ok (.sipush 207, 3) := by decide +kernel
theorem dX9_begins_26 : decode cX9_begins 26 = .ok (.if_icmp .ge 16, 3) := by decide +kernel
theorem dX9_begins_29 : decode cX9_begins 29 = .ok (.aload_n 0, 1) := by decide +kernel
theorem dX9_begins_30 : decode cX9_begins 30 = .ok (.getfield 16, 3) := by decide +kernel
theorem dX9_begins_33 : decode cX9_begins 33 = .ok (.iload_n 1, 1) := by decide +kernel
theorem dX9_begins_34 : decode cX9_begins 34 = .ok (.iconst 0, 1) := by decide +kernel
theorem dX9_begins_35 : decode cX9_begins 35 = .ok (.iastore, 1) := by decide +kernel
theorem dX9_begins_36 : decode cX9_begins 36 = .ok (.iinc 1 1, 3) := by decide +kernel
theorem dX9_begins_39 : decode cX9_begins 39 = .ok (.goto (-17), 3) := by decide +kernel
theorem dX9_begins_42 : decode cX9_begins 42 = .ok (.return_, 1) := by decide +kernel
set_option maxRecDepth 20000 in
theorem ggX9_readsBetween_X9_number : GoodIn wsX9_readsBetween wsX9_number := goodIn_r _ [10, 3, 4, 11, 12, 9, 13, 14, 15, 16, 17, 18, 19, 20, 21, 22, 23, 24, 25, 26, 27, 28, 29, 30, 31, 32, 33, 34, 35, 36, 37, 38, 39, 40, 41, 42, 43, 44, 54, 55, 56, 57, 58, 59, 60, 61, 62, 63, 64, 65, 66, 67, 68, 69, 70, 71, 72, 73, 74, 75, 76, 77, 78, 79, 80] (by decide +kernel) (by decide +kernel)
set_option maxRecDepth 20000 in
theorem gX9_readsBetween_X9_number : GoodIn wsX9_readsBetween (wsV RX9 117 RX9 yX9_number wsX9_number) := goodIn_app (goodIn_of _ (by decide +kernel)) ggX9_readsBetween_X9_number
set_option maxRecDepth 20000 in
theorem ggX9_readsBetween_X9_in : GoodIn wsX9_readsBetween wsX9_in := goodIn_r _ [13] (by decide +kernel) (by decide +kernel)
set_option maxRecDepth 20000 in
theorem gX9_readsBetween_X9_in : GoodIn wsX9_readsBetween (va_wsS RX9 48 yX9_in wsX9_in) := goodIn_app (goodIn_of _ (by decide +kernel)) ggX9_readsBetween_X9_in
set_option maxRecDepth 20000 in
theorem ggX9_readsBetween_X9_areBeside : GoodIn wsX9_readsBetween wsX9_areBeside := goodIn_r _ [47, 48, 49, 9, 50] (by decide +kernel) (by decide +kernel)
set_option maxRecDepth 20000 in
theorem gX9_readsBetween_X9_areBeside : GoodIn wsX9_readsBetween (va_wsS RX9 120 yX9_areBeside wsX9_areBeside) := goodIn_app (goodIn_of _ (by decide +kernel)) ggX9_readsBetween_X9_areBeside
set_option maxRecDepth 20000 in
theorem ggX9_readsBetween_X9_takes : GoodIn wsX9_readsBetween wsX9_takes := goodIn_r _ [17, 18, 19, 4, 20, 21, 22, 9, 23, 24, 25, 26, 27, 28, 3, 29, 30, 31, 32, 33, 34, 11, 12, 13, 35, 36, 37, 38, 39, 40, 41, 42, 43, 44, 54, 55, 56, 57, 58, 59, 60, 61, 62, 63, 64, 65, 66, 67, 68, 69, 70, 71, 72, 73, 74, 75, 76, 77, 78, 79, 80] (by decide +kernel) (by decide +kernel)
set_option maxRecDepth 20000 in
theorem gX9_readsBetween_X9_takes : GoodIn wsX9_readsBetween (wsV RX9 97 RX9 yX9_takes wsX9_takes) := goodIn_app (goodIn_of _ (by decide +kernel)) ggX9_readsBetween_X9_takes
set_option maxRecDepth 20000 in
theorem ggX9_readsBetween_X9_isWell : GoodIn wsX9_readsBetween wsX9_isWell := goodIn_r _ [23, 19, 54, 55, 56, 57, 58, 59, 60, 61, 62, 63, 64, 65, 66, 67, 68, 69, 70, 71, 72, 73, 74, 75, 76, 77, 78, 79, 80] (by decide +kernel) (by decide +kernel)
set_option maxRecDepth 20000 in
theorem gX9_readsBetween_X9_isWell : GoodIn wsX9_readsBetween (wsV RX9 90 RX9 yX9_isWell wsX9_isWell) := goodIn_app (goodIn_of _ (by decide +kernel)) ggX9_readsBetween_X9_isWell
set_option maxRecDepth 20000 in
theorem ggX9_readsBetween_X9_spotOf : GoodIn wsX9_readsBetween wsX9_spotOf := goodIn_r _ [53, 48, 49, 9, 50] (by decide +kernel) (by decide +kernel)
set_option maxRecDepth 20000 in
theorem gX9_readsBetween_X9_spotOf : GoodIn wsX9_readsBetween (va_wsS RX9 123 yX9_spotOf wsX9_spotOf) := goodIn_app (goodIn_of _ (by decide +kernel)) ggX9_readsBetween_X9_spotOf
theorem dX9_readsBetween_0 : decode cX9_readsBetween 0 = .ok (.aload_n 0, 1) := by decide +kernel
theorem dX9_readsBetween_1 : decode cX9_readsBetween 1 = .ok (.getfield 105, 3) := by decide +kernel
theorem dX9_readsBetween_4 : decode cX9_readsBetween 4 = .ok (.aload_n 0, 1) := by decide +kernel
theorem dX9_readsBetween_5 : decode cX9_readsBetween 5 = .ok (.getfield 108, 3) := by decide +kernel
theorem dX9_readsBetween_8 : decode cX9_readsBetween 8 = .ok (.imul, 1) := by decide +kernel
theorem dX9_readsBetween_9 : decode cX9_readsBetween 9 = .ok (.istore_n 2, 1) := by decide +kernel
theorem dX9_readsBetween_10 : decode cX9_readsBetween 10 = .ok (.aload_n 0, 1) := by decide +kernel
theorem dX9_readsBetween_11 : decode cX9_readsBetween 11 = .ok (.iconst 0, 1) := by decide +kernel
theorem dX9_readsBetween_12 : decode cX9_readsBetween 12 = .ok (.iload_n 2, 1) := by decide +kernel
theorem dX9_readsBetween_13 : decode cX9_readsBetween 13 = .ok (.iconst 1, 1) := by decide +kernel
theorem dX9_readsBetween_14 : decode cX9_readsBetween 14 = .ok (.isub, 1) := by decide +kernel
theorem dX9_readsBetween_15 : decode cX9_readsBetween 15 = .ok (.invokevirtual 117, 3) := by decide +kernel
theorem dX9_readsBetween_18 : decode cX9_readsBetween 18 = .ok (.istore_n 3, 1) := by decide +kernel
theorem dX9_readsBetween_19 : decode cX9_readsBetween 19 = .ok (.aload_n 0, 1) := by decide +kernel
theorem dX9_readsBetween_20 : decode cX9_readsBetween 20 = .ok (.aload_n 0, 1) := by decide +kernel
theorem dX9_readsBetween_21 : decode cX9_readsBetween 21 = .ok (.getfield 77, 3) := by decide +kernel
theorem dX9_readsBetween_24 : decode cX9_readsBetween 24 = .ok (.iconst 2, 1) := by decide +kernel
theorem dX9_readsBetween_25 : decode cX9_readsBetween 25 = .ok (.if_icmp .ne 36, 3) := by decide +kernel
theorem dX9_readsBetween_28 : decode cX9_readsBetween 28 = .ok (.aload_n 0, 1) := by decide +kernel
theorem dX9_readsBetween_29 : decode cX9_readsBetween 29 = .ok (.getfield 84, 3) := by decide +kernel
theorem dX9_readsBetween_32 : decode cX9_readsBetween 32 = .ok (.iconst 0, 1) := by decide +kernel
theorem dX9_readsBetween_33 : decode cX9_readsBetween 33 = .ok (.iload_n 2, 1) := by decide +kernel
theorem dX9_readsBetween_34 : decode cX9_readsBetween 34 = .ok (.iconst 1, 1) := by decide +kernel
theorem dX9_readsBetween_35 : decode cX9_readsBetween 35 = .ok (.isub, 1) := by decide +kernel
theorem dX9_readsBetween_36 : decode cX9_readsBetween 36 = .ok (.invokestatic 48, 3) := by decide +kernel
theorem dX9_readsBetween_39 : decode cX9_readsBetween 39 = .ok (.ifCond .eq 22, 3) := by decide +kernel
theorem dX9_readsBetween_42 : decode cX9_readsBetween 42 = .ok (.iload_n 3, 1) := by decide +kernel
theorem dX9_readsBetween_43 : decode cX9_readsBetween 43 = .ok (.aload_n 0, 1) := by decide +kernel
theorem dX9_readsBetween_44 : decode cX9_readsBetween 44 = .ok (.getfield 84, 3) := by decide +kernel
theorem dX9_readsBetween_47 : decode cX9_readsBetween 47 = .ok (.aload_n 0, 1) := by decide +kernel
theorem dX9_readsBetween_48 : decode cX9_readsBetween 48 = .ok (.getfield 105, 3) := by decide +kernel
theorem dX9_readsBetween_51 : decode cX9_readsBetween 51 = .ok (.invokestatic 120, 3) := by decide +kernel
theorem dX9_readsBetween_54 : decode cX9_readsBetween 54 = .ok (.ifCond .eq 7, 3) := by decide +kernel
theorem dX9_readsBetween_57 : decode cX9_readsBetween 57 = .ok (.iconst 1, 1) := by decide +kernel
theorem dX9_readsBetween_58 : decode cX9_readsBetween 58 = .ok (.goto 4, 3) := by decide +kernel
theorem dX9_readsBetween_61 : decode cX9_readsBetween 61 = .ok (.iconst 0, 1) := by decide +kernel
theorem dX9_readsBetween_62 : decode cX9_readsBetween 62 = .ok (.invokevirtual 97, 3) := by decide +kernel
theorem dX9_readsBetween_65 : decode cX9_readsBetween 65 = .ok (.istore 4, 2) := by decide +kernel
theorem dX9_readsBetween_67 : decode cX9_readsBetween 67 = .ok (.aload_n 0, 1) := by decide +kernel
theorem dX9_readsBetween_68 : decode cX9_readsBetween 68 = .ok (.iconst 0, 1) := by decide +kernel
theorem dX9_readsBetween_69 : decode cX9_readsBetween 69 = .ok (.iload_n 1, 1) := by decide +kernel
theorem dX9_readsBetween_70 : decode cX9_readsBetween 70 = .ok (.iconst 1, 1) := by decide +kernel
theorem dX9_readsBetween_71 : decode cX9_readsBetween 71 = .ok (.if_icmp .ne 7, 3) := by decide +kernel
theorem dX9_readsBetween_74 : decode cX9_readsBetween 74 = .ok (.iconst 3, 1) := by decide +kernel
theorem dX9_readsBetween_75 : decode cX9_readsBetween 75 = .ok (.goto 5, 3) := by decide +kernel
theorem dX9_readsBetween_78 : decode cX9_readsBetween 78 = .ok (.bipush 9, 2) := by decide +kernel
theorem dX9_readsBetween_80 : decode cX9_readsBetween 80 = .ok (.invokevirtual 117, 3) := by decide +kernel
theorem dX9_readsBetween_83 : decode cX9_readsBetween 83 = .ok (.istore 5, 2) := by decide +kernel
theorem dX9_readsBetween_85 : decode cX9_readsBetween 85 = .ok (.aload_n 0, 1) := by decide +kernel
theorem dX9_readsBetween_86 : decode cX9_readsBetween 86 = .ok (.invokevirtual 90, 3) := by decide +kernel
theorem dX9_readsBetween_89 : decode cX9_readsBetween 89 = .ok (.ifCond .eq 31, 3) := by decide +kernel
theorem dX9_readsBetween_92 : decode cX9_readsBetween 92 = .ok (.aload_n 0, 1) := by decide +kernel
theorem dX9_readsBetween_93 : decode cX9_readsBetween 93 = .ok (.getfield 16, 3) := by decide +kernel
theorem dX9_readsBetween_96 : decode cX9_readsBetween 96 = .ok (.iload_n 3, 1) := by decide +kernel
theorem dX9_readsBetween_97 : decode cX9_readsBetween 97 = .ok (.iload 4, 2) := by decide +kernel
theorem dX9_readsBetween_99 : decode cX9_readsBetween 99 = .ok (.aload_n 0, 1) := by decide +kernel
theorem dX9_readsBetween_100 : decode cX9_readsBetween 100 = .ok (.getfield 105, 3) := by decide +kernel
theorem dX9_readsBetween_103 : decode cX9_readsBetween 103 = .ok (.iload_n 1, 1) := by decide +kernel
theorem dX9_readsBetween_104 : decode cX9_readsBetween 104 = .ok (.iconst 1, 1) := by decide +kernel
theorem dX9_readsBetween_105 : decode cX9_readsBetween 105 = .ok (.if_icmp .ne 7, 3) := by decide +kernel
theorem dX9_readsBetween_108 : decode cX9_readsBetween 108 = .ok (.iconst 0, 1) := by decide +kernel
theorem dX9_readsBetween_109 : decode cX9_readsBetween 109 = .ok (.goto 5, 3) := by decide +kernel
theorem dX9_readsBetween_112 : decode cX9_readsBetween 112 = .ok (.bipush 96, 2) := by decide +kernel
theorem dX9_readsBetween_114 : decode cX9_readsBetween 114 = .ok (.invokestatic 123, 3) := by decide +kernel
theorem dX9_readsBetween_117 : decode cX9_readsBetween 117 = .ok (.iload 5, 2) := by decide +kernel
theorem dX9_readsBetween_119 : decode cX9_readsBetween 119 = .ok (.iastore, 1) := by decide +kernel
theorem dX9_readsBetween_120 : decode cX9_readsBetween 120 = .ok (.return_, 1) := by decide +kernel
set_option maxRecDepth 20000 in
theorem ggX9_readsItem_X9_number : GoodIn wsX9_readsItem wsX9_number := goodIn_r _ [14, 3, 4, 15, 16, 13, 17, 18, 19, 20, 21, 22, 23, 24, 25, 26, 27, 28, 29, 30, 31, 32, 33, 34, 35, 36, 37, 38, 39, 40, 41, 42, 43, 44, 45, 46, 47, 48, 62, 63, 64, 65, 66, 67, 68, 69, 70, 71, 72, 73, 74, 75, 76, 77, 78, 79, 80, 81, 82, 83, 84, 85, 86, 87, 88] (by decide +kernel) (by decide +kernel)
set_option maxRecDepth 20000 in
theorem gX9_readsItem_X9_number : GoodIn wsX9_readsItem (wsV RX9 117 RX9 yX9_number wsX9_number) := goodIn_app (goodIn_of _ (by decide +kernel)) ggX9_readsItem_X9_number
set_option maxRecDepth 20000 in
theorem ggX9_readsItem_X9_readsBetween : GoodIn wsX9_readsItem wsX9_readsBetween := goodIn_r _ [52, 1, 2, 3, 4, 5, 10, 11, 12, 13, 14, 15, 16, 17, 18, 19, 20, 21, 22, 23, 24, 25, 26, 27, 28, 29, 30, 31, 32, 33, 34, 35, 36, 37, 38, 39, 40, 41, 42, 43, 44, 45, 46, 47, 48, 53, 54, 55, 56, 57, 58, 59, 60, 61, 62, 63, 64, 65, 66, 67, 68, 69, 70, 71, 72, 73, 74, 75, 76, 77, 78, 79, 80, 81, 82, 83, 84, 85, 86, 87, 88] (by decide +kernel) (by decide +kernel)
set_option maxRecDepth 20000 in
theorem gX9_readsItem_X9_readsBetween : GoodIn wsX9_readsItem (wsV RX9 127 RX9 yX9_readsBetween wsX9_readsBetween) := goodIn_app (goodIn_of _ (by decide +kernel)) ggX9_readsItem_X9_readsBetween
set_option maxRecDepth 20000 in
theorem ggX9_readsItem_X9_in : GoodIn wsX9_readsItem wsX9_in := goodIn_r _ [17] (by decide +kernel) (by decide +kernel)
set_option maxRecDepth 20000 in
theorem gX9_readsItem_X9_in : GoodIn wsX9_readsItem (va_wsS RX9 48 yX9_in wsX9_in) := goodIn_app (goodIn_of _ (by decide +kernel)) ggX9_readsItem_X9_in
set_option maxRecDepth 20000 in
theorem ggX9_readsItem_X9_takes : GoodIn wsX9_readsItem wsX9_takes := goodIn_r _ [21, 22, 23, 4, 24, 25, 26, 13, 27, 28, 29, 30, 31, 32, 3, 33, 34, 35, 36, 37, 38, 15, 16, 17, 39, 40, 41, 42, 43, 44, 45, 46, 47, 48, 62, 63, 64, 65, 66, 67, 68, 69, 70, 71, 72, 73, 74, 75, 76, 77, 78, 79, 80, 81, 82, 83, 84, 85, 86, 87, 88] (by decide +kernel) (by decide +kernel)
set_option maxRecDepth 20000 in
theorem gX9_readsItem_X9_takes : GoodIn wsX9_readsItem (wsV RX9 97 RX9 yX9_takes wsX9_takes) := goodIn_app (goodIn_of _ (by decide +kernel)) ggX9_readsItem_X9_takes
set_option maxRecDepth 20000 in
theorem ggX9_readsItem_X9_isWell : GoodIn wsX9_readsItem wsX9_isWell := goodIn_r _ [27, 23, 62, 63, 64, 65, 66, 67, 68, 69, 70, 71, 72, 73, 74, 75, 76, 77, 78, 79, 80, 81, 82, 83, 84, 85, 86, 87, 88] (by decide +kernel) (by decide +kernel)
set_option maxRecDepth 20000 in
theorem gX9_readsItem_X9_isWell : GoodIn wsX9_readsItem (wsV RX9 90 RX9 yX9_isWell wsX9_isWell) := goodIn_app (goodIn_of _ (by decide +kernel)) ggX9_readsItem_X9_isWell
theorem dX9_readsItem_0 : decode cX9_readsItem 0 = .ok (.aload_n 0, 1) := by decide +kernel
theorem dX9_readsItem_1 : decode cX9_readsItem 1 = .ok (.getfield 105, 3) := by decide +kernel
theorem dX9_readsItem_4 : decode cX9_readsItem 4 = .ok (.aload_n 0, 1) := by decide +kernel
theorem dX9_readsItem_5 : decode cX9_readsItem 5 = .ok (.getfield 108, 3) := by decide +kernel
theorem dX9_readsItem_8 : decode cX9_readsItem 8 = .ok (.imul, 1) := by decide +kernel
theorem dX9_readsItem_9 : decode cX9_readsItem 9 = .ok (.istore_n 2, 1) := by decide +kernel
theorem dX9_readsItem_10 : decode cX9_readsItem 10 = .ok (.iload_n 1, 1) := by decide +kernel
theorem dX9_readsItem_11 : decode cX9_readsItem 11 = .ok (.ifCond .ne 28, 3) := by decide +kernel
theorem dX9_readsItem_14 : decode cX9_readsItem 14 = .ok (.aload_n 0, 1) := by decide +kernel
theorem dX9_readsItem_15 : decode cX9_readsItem 15 = .ok (.aload_n 0, 1) := by decide +kernel
theorem dX9_readsItem_16 : decode cX9_readsItem 16 = .ok (.iconst 1, 1) := by decide +kernel
theorem dX9_readsItem_17 : decode cX9_readsItem 17 = .ok (.bipush 8, 2) := by decide +kernel
theorem dX9_readsItem_19 : decode cX9_readsItem 19 = .ok (.invokevirtual 117, 3) := by decide +kernel
theorem dX9_readsItem_22 : decode cX9_readsItem 22 = .ok (.putfield 105, 3) := by decide +kernel
theorem dX9_readsItem_25 : decode cX9_readsItem 25 = .ok (.aload_n 0, 1) := by decide +kernel
theorem dX9_readsItem_26 : decode cX9_readsItem 26 = .ok (.aload_n 0, 1) := by decide +kernel
theorem dX9_readsItem_27 : decode cX9_readsItem 27 = .ok (.iconst 1, 1) := by decide +kernel
theorem dX9_readsItem_28 : decode cX9_readsItem 28 = .ok (.bipush 6, 2) := by decide +kernel
theorem dX9_readsItem_30 : decode cX9_readsItem 30 = .ok (.invokevirtual 117, 3) := by decide +kernel
theorem dX9_readsItem_33 : decode cX9_readsItem 33 = .ok (.putfield 108, 3) := by decide +kernel
theorem dX9_readsItem_36 : decode cX9_readsItem 36 = .ok (.goto 309, 3) := by decide +kernel
theorem dX9_readsItem_39 : decode cX9_readsItem 39 = .ok (.iload_n 1, 1) := by decide +kernel
theorem dX9_readsItem_40 : decode cX9_readsItem 40 = .ok (.iconst 1, 1) := by decide +kernel
theorem dX9_readsItem_41 : decode cX9_readsItem 41 = .ok (.if_icmp .eq 8, 3) := by decide +kernel
theorem dX9_readsItem_44 : decode cX9_readsItem 44 = .ok (.iload_n 1, 1) := by decide +kernel
theorem dX9_readsItem_45 : decode cX9_readsItem 45 = .ok (.iconst 2, 1) := by decide +kernel
theorem dX9_readsItem_46 : decode cX9_readsItem 46 = .ok (.if_icmp .ne 11, 3) := by decide +kernel
theorem dX9_readsItem_49 : decode cX9_readsItem 49 = .ok (.aload_n 0, 1) := by decide +kernel
theorem dX9_readsItem_50 : decode cX9_readsItem 50 = .ok (.iload_n 1, 1) := by decide +kernel
theorem dX9_readsItem_51 : decode cX9_readsItem 51 = .ok (.invokevirtual 127, 3) := by decide +kernel
theorem dX9_readsItem_54 : decode cX9_readsItem 54 = .ok (.goto 291, 3) := by decide +kernel
theorem dX9_readsItem_57 : decode cX9_readsItem 57 = .ok (.iload_n 1, 1) := by decide +kernel
theorem dX9_readsItem_58 : decode cX9_readsItem 58 = .ok (.iconst 3, 1) := by decide +kernel
theorem dX9_readsItem_59 : decode cX9_readsItem 59 = .ok (.if_icmp .ne 99, 3) := by decide +kernel
theorem dX9_readsItem_62 : decode cX9_readsItem 62 = .ok (.aload_n 0, 1) := by decide +kernel
theorem dX9_readsItem_63 : decode cX9_readsItem 63 = .ok (.aload_n 0, 1) := by decide +kernel
theorem dX9_readsItem_64 : decode cX9_readsItem 64 = .ok (.getfield 77, 3) := by decide +kernel
theorem dX9_readsItem_67 : decode cX9_readsItem 67 = .ok (.iconst 1, 1) := by decide +kernel
theorem dX9_readsItem_68 : decode cX9_readsItem 68 = .ok (.if_icmp .ne 21, 3) := by decide +kernel
theorem dX9_readsItem_71 : decode cX9_readsItem 71 = .ok (.aload_n 0, 1) := by decide +kernel
theorem dX9_readsItem_72 : decode cX9_readsItem 72 = .ok (.getfield 84, 3) := by decide +kernel
theorem dX9_readsItem_75 : decode cX9_readsItem 75 = .ok (.bipush 6, 2) := by decide +kernel
theorem dX9_readsItem_77 : decode cX9_readsItem 77 = .ok (.bipush 9, 2) := by decide +kernel
theorem dX9_readsItem_79 : decode cX9_readsItem 79 = .ok (.invokestatic 48, 3) := by decide +kernel
theorem dX9_readsItem_82 : decode cX9_readsItem 82 = .ok (.ifCond .eq 7, 3) := by decide +kernel
theorem dX9_readsItem_85 : decode cX9_readsItem 85 = .ok (.iconst 1, 1) := by decide +kernel
theorem dX9_readsItem_86 : decode cX9_readsItem 86 = .ok (.goto 4, 3) := by decide +kernel
theorem dX9_readsItem_89 : decode cX9_readsItem 89 = .ok (.iconst 0, 1) := by decide +kernel
theorem dX9_readsItem_90 : decode cX9_readsItem 90 = .ok (.invokevirtual 97, 3) := by decide +kernel
theorem dX9_readsItem_93 : decode cX9_readsItem 93 = .ok (.istore_n 3, 1) := by decide +kernel
theorem dX9_readsItem_94 : decode cX9_readsItem 94 = .ok (.aload_n 0, 1) := by decide +kernel
theorem dX9_readsItem_95 : decode cX9_readsItem 95 = .ok (.iconst 0, 1) := by decide +kernel
theorem dX9_readsItem_96 : decode cX9_readsItem 96 = .ok (.iconst 2, 1) := by decide +kernel
theorem dX9_readsItem_97 : decode cX9_readsItem 97 = .ok (.invokevirtual 117, 3) := by decide +kernel
theorem dX9_readsItem_100 : decode cX9_readsItem 100 = .ok (.istore 4, 2) := by decide +kernel
theorem dX9_readsItem_102 : decode cX9_readsItem 102 = .ok (.aload_n 0, 1) := by decide +kernel
theorem dX9_readsItem_103 : decode cX9_readsItem 103 = .ok (.invokevirtual 90, 3) := by decide +kernel
theorem dX9_readsItem_106 : decode cX9_readsItem 106 = .ok (.ifCond .eq 49, 3) := by decide +kernel
theorem dX9_readsItem_109 : decode cX9_readsItem 109 = .ok (.aload_n 0, 1) := by decide +kernel
theorem dX9_readsItem_110 : decode cX9_readsItem 110 = .ok (.getfield 16, 3) := by decide +kernel
