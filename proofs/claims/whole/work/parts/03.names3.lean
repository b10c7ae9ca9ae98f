theorem dX4_init_0 : decode cX4_init 0 = .ok (.aload_n 0, 1) := by decide +kernel
theorem dX4_init_1 : decode cX4_init 1 = .ok (.invokespecial 1, 3) := by decide +kernel
theorem dX4_init_4 : decode cX4_init 4 = .ok (.aload_n 0, 1) := by decide +kernel
theorem dX4_init_5 : decode cX4_init 5 = .ok (.bipush 12, 2) := by decide +kernel
theorem dX4_init_7 : decode cX4_init 7 = .ok (.newarray .int, 2) := by decide +kernel
theorem dX4_init_9 : decode cX4_init 9 = .ok (.putfield 7, 3) := by decide +kernel
theorem dX4_init_12 : decode cX4_init 12 = .ok (.aload_n 0, 1) := by decide +kernel
theorem dX4_init_13 : decode cX4_init 13 = .ok (.sipush 520, 3) := by decide +kernel
theorem dX4_init_16 : decode cX4_init 16 = .ok (.newarray .int, 2) := by decide +kernel
theorem dX4_init_18 : decode cX4_init 18 = .ok (.putfield 13, 3) := by decide +kernel
theorem dX4_init_21 : decode cX4_init 21 = .ok (.aload_n 0, 1) := by decide +kernel
theorem dX4_init_22 : decode cX4_init 22 = .ok (.sipush 520, 3) := by decide +kernel
theorem dX4_init_25 : decode cX4_init 25 = .ok (.newarray .int, 2) := by decide +kernel
theorem dX4_init_27 : decode cX4_init 27 = .ok (.putfield 16, 3) := by decide +kernel
theorem dX4_init_30 : decode cX4_init 30 = .ok (.aload_n 0, 1) := by decide +kernel
theorem dX4_init_31 : decode cX4_init 31 = .ok (.sipush 20800, 3) := by decide +kernel
theorem dX4_init_34 : decode cX4_init 34 = .ok (.newarray .int, 2) := by decide +kernel
theorem dX4_init_36 : decode cX4_init 36 = .ok (.putfield 19, 3) := by decide +kernel
theorem dX4_init_39 : decode cX4_init 39 = .ok (.aload_n 0, 1) := by decide +kernel
theorem dX4_init_40 : decode cX4_init 40 = .ok (.sipush 520, 3) := by decide +kernel
theorem dX4_init_43 : decode cX4_init 43 = .ok (.newarray .int, 2) := by decide +kernel
theorem dX4_init_45 : decode cX4_init 45 = .ok (.putfield 22, 3) := by decide +kernel
theorem dX4_init_48 : decode cX4_init 48 = .ok (.aload_n 0, 1) := by decide +kernel
theorem dX4_init_49 : decode cX4_init 49 = .ok (.sipush 520, 3) := by decide +kernel
theorem dX4_init_52 : decode cX4_init 52 = .ok (.newarray .int, 2) := by decide +kernel
theorem dX4_init_54 : decode cX4_init 54 = .ok (.putfield 25, 3) := by decide +kernel
theorem dX4_init_57 : decode cX4_init 57 = .ok (.aload_n 0, 1) := by decide +kernel
theorem dX4_init_58 : decode cX4_init 58 = .ok (.bipush 40, 2) := by decide +kernel
theorem dX4_init_60 : decode cX4_init 60 = .ok (.newarray .int, 2) := by decide +kernel
theorem dX4_init_62 : decode cX4_init 62 = .ok (.putfield 28, 3) := by decide +kernel
theorem dX4_init_65 : decode cX4_init 65 = .ok (.iconst 0, 1) := by decide +kernel
theorem dX4_init_66 : decode cX4_init 66 = .ok (.istore_n 1, 1) := by decide +kernel
theorem dX4_init_67 : decode cX4_init 67 = .ok (.iload_n 1, 1) := by decide +kernel
theorem dX4_init_68 : decode cX4_init 68 = .ok (.bipush 12, 2) := by decide +kernel
theorem dX4_init_70 : decode cX4_init 70 = .ok (.if_icmp .ge 16, 3) := by decide +kernel
theorem dX4_init_73 : decode cX4_init 73 = .ok (.aload_n 0, 1) := by decide +kernel
theorem dX4_init_74 : decode cX4_init 74 = .ok (.getfield 7, 3) := by decide +kernel
theorem dX4_init_77 : decode cX4_init 77 = .ok (.iload_n 1, 1) := by decide +kernel
theorem dX4_init_78 : decode cX4_init 78 = .ok (.iconst (-1), 1) := by decide +kernel
theorem dX4_init_79 : decode cX4_init 79 = .ok (.iastore, 1) := by decide +kernel
theorem dX4_init_80 : decode cX4_init 80 = .ok (.iinc 1 1, 3) := by decide +kernel
theorem dX4_init_83 : decode cX4_init 83 = .ok (.goto (-16), 3) := by decide +kernel
theorem dX4_init_86 : decode cX4_init 86 = .ok (.return_, 1) := by decide +kernel
theorem dX4_within_0 : decode cX4_within 0 = .ok (.lload_n 0, 1) := by decide +kernel
theorem dX4_within_1 : decode cX4_within 1 = .ok (.lload_n 2, 1) := by decide +kernel
theorem dX4_within_2 : decode cX4_within 2 = .ok (.lcmp, 1) := by decide +kernel
theorem dX4_within_3 : decode cX4_within 3 = .ok (.ifCond .lt 14, 3) := by decide +kernel
theorem dX4_within_6 : decode cX4_within 6 = .ok (.lload_n 0, 1) := by decide +kernel
theorem dX4_within_7 : decode cX4_within 7 = .ok (.lload 4, 2) := by decide +kernel
theorem dX4_within_9 : decode cX4_within 9 = .ok (.lcmp, 1) := by decide +kernel
theorem dX4_within_10 : decode cX4_within 10 = .ok (.ifCond .gt 7, 3) := by decide +kernel
theorem dX4_within_13 : decode cX4_within 13 = .ok (.iconst 1, 1) := by decide +kernel
theorem dX4_within_14 : decode cX4_within 14 = .ok (.goto 4, 3) := by decide +kernel
theorem dX4_within_17 : decode cX4_within 17 = .ok (.iconst 0, 1) := by decide +kernel
theorem dX4_within_18 : decode cX4_within 18 = .ok (.ireturn, 1) := by decide +kernel
set_option maxRecDepth 20000 in
theorem ggX4_isPlace_X4_within : GoodIn wsX4_isPlace wsX4_within := goodIn_r _ [5] (by decide +kernel) (by decide +kernel)
set_option maxRecDepth 20000 in
theorem gX4_isPlace_X4_within : GoodIn wsX4_isPlace (va_wsS RX4 33 yX4_within wsX4_within) := goodIn_app (goodIn_of _ (by decide +kernel)) ggX4_isPlace_X4_within
theorem dX4_isPlace_0 : decode cX4_isPlace 0 = .ok (.iload_n 0, 1) := by decide +kernel
theorem dX4_isPlace_1 : decode cX4_isPlace 1 = .ok (.i2l, 1) := by decide +kernel
theorem dX4_isPlace_2 : decode cX4_isPlace 2 = .ok (.lconst 0, 1) := by decide +kernel
theorem dX4_isPlace_3 : decode cX4_isPlace 3 = .ok (.ldc2_w 31, 3) := by decide +kernel
theorem dX4_isPlace_6 : decode cX4_isPlace 6 = .ok (.invokestatic 33, 3) := by decide +kernel
theorem dX4_isPlace_9 : decode cX4_isPlace 9 = .ok (.ireturn, 1) := by decide +kernel
theorem dX4_code_0 : decode cX4_code 0 = .ok (.aload_n 0, 1) := by decide +kernel
theorem dX4_code_1 : decode cX4_code 1 = .ok (.getfield 37, 3) := by decide +kernel
theorem dX4_code_4 : decode cX4_code 4 = .ok (.ireturn, 1) := by decide +kernel
theorem dX4_no_0 : decode cX4_no 0 = .ok (.aload_n 0, 1) := by decide +kernel
theorem dX4_no_1 : decode cX4_no 1 = .ok (.iload_n 1, 1) := by decide +kernel
theorem dX4_no_2 : decode cX4_no 2 = .ok (.putfield 37, 3) := by decide +kernel
theorem dX4_no_5 : decode cX4_no 5 = .ok (.iconst 0, 1) := by decide +kernel
theorem dX4_no_6 : decode cX4_no 6 = .ok (.ireturn, 1) := by decide +kernel
theorem dX4_yes_0 : decode cX4_yes 0 = .ok (.aload_n 0, 1) := by decide +kernel
theorem dX4_yes_1 : decode cX4_yes 1 = .ok (.iconst 0, 1) := by decide +kernel
theorem dX4_yes_2 : decode cX4_yes 2 = .ok (.putfield 37, 3) := by decide +kernel
theorem dX4_yes_5 : decode cX4_yes 5 = .ok (.iload_n 1, 1) := by decide +kernel
theorem dX4_yes_6 : decode cX4_yes 6 = .ok (.ireturn, 1) := by decide +kernel
theorem dX4_kindOf_0 : decode cX4_kindOf 0 = .ok (.aload_n 0, 1) := by decide +kernel
theorem dX4_kindOf_1 : decode cX4_kindOf 1 = .ok (.getfield 7, 3) := by decide +kernel
theorem dX4_kindOf_4 : decode cX4_kindOf 4 = .ok (.iload_n 1, 1) := by decide +kernel
theorem dX4_kindOf_5 : decode cX4_kindOf 5 = .ok (.iaload, 1) := by decide +kernel
theorem dX4_kindOf_6 : decode cX4_kindOf 6 = .ok (.istore_n 2, 1) := by decide +kernel
theorem dX4_kindOf_7 : decode cX4_kindOf 7 = .ok (.iload_n 2, 1) := by decide +kernel
theorem dX4_kindOf_8 : decode cX4_kindOf 8 = .ok (.iconst (-1), 1) := by decide +kernel
theorem dX4_kindOf_9 : decode cX4_kindOf 9 = .ok (.if_icmp .ne 7, 3) := by decide +kernel
theorem dX4_kindOf_12 : decode cX4_kindOf 12 = .ok (.iconst (-1), 1) := by decide +kernel
theorem dX4_kindOf_13 : decode cX4_kindOf 13 = .ok (.goto 19, 3) := by decide +kernel
theorem dX4_kindOf_16 : decode cX4_kindOf 16 = .ok (.iload_n 2, 1) := by decide +kernel
theorem dX4_kindOf_17 : decode cX4_kindOf 17 = .ok (.iconst (-1), 1) := by decide +kernel
theorem dX4_kindOf_18 : decode cX4_kindOf 18 = .ok (.if_icmp .ge 8, 3) := by decide +kernel
theorem dX4_kindOf_21 : decode cX4_kindOf 21 = .ok (.bipush 6, 2) := by decide +kernel
theorem dX4_kindOf_23 : decode cX4_kindOf 23 = .ok (.goto 9, 3) := by decide +kernel
theorem dX4_kindOf_26 : decode cX4_kindOf 26 = .ok (.aload_n 0, 1) := by decide +kernel
theorem dX4_kindOf_27 : decode cX4_kindOf 27 = .ok (.getfield 13, 3) := by decide +kernel
theorem dX4_kindOf_30 : decode cX4_kindOf 30 = .ok (.iload_n 2, 1) := by decide +kernel
theorem dX4_kindOf_31 : decode cX4_kindOf 31 = .ok (.iaload, 1) := by decide +kernel
theorem dX4_kindOf_32 : decode cX4_kindOf 32 = .ok (.ireturn, 1) := by decide +kernel
theorem dX4_isRow_0 : decode cX4_isRow 0 = .ok (.aload_n 0, 1) := by decide +kernel
theorem dX4_isRow_1 : decode cX4_isRow 1 = .ok (.getfield 7, 3) := by decide +kernel
theorem dX4_isRow_4 : decode cX4_isRow 4 = .ok (.iload_n 1, 1) := by decide +kernel
theorem dX4_isRow_5 : decode cX4_isRow 5 = .ok (.iaload, 1) := by decide +kernel
theorem dX4_isRow_6 : decode cX4_isRow 6 = .ok (.ifCond .lt 7, 3) := by decide +kernel
theorem dX4_isRow_9 : decode cX4_isRow 9 = .ok (.iconst 1, 1) := by decide +kernel
theorem dX4_isRow_10 : decode cX4_isRow 10 = .ok (.goto 4, 3) := by decide +kernel
theorem dX4_isRow_13 : decode cX4_isRow 13 = .ok (.iconst 0, 1) := by decide +kernel
theorem dX4_isRow_14 : decode cX4_isRow 14 = .ok (.ireturn, 1) := by decide +kernel
theorem dX4_wantsRow_0 : decode cX4_wantsRow 0 = .ok (.aload_n 0, 1) := by decide +kernel
theorem dX4_wantsRow_1 : decode cX4_wantsRow 1 = .ok (.getfield 7, 3) := by decide +kernel
theorem dX4_wantsRow_4 : decode cX4_wantsRow 4 = .ok (.iload_n 1, 1) := by decide +kernel
theorem dX4_wantsRow_5 : decode cX4_wantsRow 5 = .ok (.iaload, 1) := by decide +kernel
theorem dX4_wantsRow_6 : decode cX4_wantsRow 6 = .ok (.iconst (-1), 1) := by decide +kernel
theorem dX4_wantsRow_7 : decode cX4_wantsRow 7 = .ok (.if_icmp .ne 7, 3) := by decide +kernel
theorem dX4_wantsRow_10 : decode cX4_wantsRow 10 = .ok (.iconst 1, 1) := by decide +kernel
theorem dX4_wantsRow_11 : decode cX4_wantsRow 11 = .ok (.goto 18, 3) := by decide +kernel
theorem dX4_wantsRow_14 : decode cX4_wantsRow 14 = .ok (.aload_n 0, 1) := by decide +kernel
theorem dX4_wantsRow_15 : decode cX4_wantsRow 15 = .ok (.getfield 7, 3) := by decide +kernel
theorem dX4_wantsRow_18 : decode cX4_wantsRow 18 = .ok (.iload_n 1, 1) := by decide +kernel
theorem dX4_wantsRow_19 : decode cX4_wantsRow 19 = .ok (.iaload, 1) := by decide +kernel
theorem dX4_wantsRow_20 : decode cX4_wantsRow 20 = .ok (.iconst (-1), 1) := by decide +kernel
theorem dX4_wantsRow_21 : decode cX4_wantsRow 21 = .ok (.if_icmp .ge 7, 3) := by decide +kernel
theorem dX4_wantsRow_24 : decode cX4_wantsRow 24 = .ok (.iconst 5, 1) := by decide +kernel
theorem dX4_wantsRow_25 : decode cX4_wantsRow 25 = .ok (.goto 4, 3) := by decide +kernel
theorem dX4_wantsRow_28 : decode cX4_wantsRow 28 = .ok (.iconst 0, 1) := by decide +kernel
theorem dX4_wantsRow_29 : decode cX4_wantsRow 29 = .ok (.ireturn, 1) := by decide +kernel
theorem dX4_lengthOf_0 : decode cX4_lengthOf 0 = .ok (.aload_n 0, 1) := by decide +kernel
theorem dX4_lengthOf_1 : decode cX4_lengthOf 1 = .ok (.getfield 16, 3) := by decide +kernel
theorem dX4_lengthOf_4 : decode cX4_lengthOf 4 = .ok (.aload_n 0, 1) := by decide +kernel
theorem dX4_lengthOf_5 : decode cX4_lengthOf 5 = .ok (.getfield 7, 3) := by decide +kernel
theorem dX4_lengthOf_8 : decode cX4_lengthOf 8 = .ok (.iload_n 1, 1) := by decide +kernel
theorem dX4_lengthOf_9 : decode cX4_lengthOf 9 = .ok (.iaload, 1) := by decide +kernel
theorem dX4_lengthOf_10 : decode cX4_lengthOf 10 = .ok (.iaload, 1) := by decide +kernel
theorem dX4_lengthOf_11 : decode cX4_lengthOf 11 = .ok (.ireturn, 1) := by decide +kernel
theorem dX4_get_0 : decode cX4_get 0 = .ok (.aload_n 0, 1) := by decide +kernel
theorem dX4_get_1 : decode cX4_get 1 = .ok (.getfield 19, 3) := by decide +kernel
theorem dX4_get_4 : decode cX4_get 4 = .ok (.bipush 40, 2) := by decide +kernel
theorem dX4_get_6 : decode cX4_get 6 = .ok (.iload_n 1, 1) := by decide +kernel
theorem dX4_get_7 : decode cX4_get 7 = .ok (.imul, 1) := by decide +kernel
theorem dX4_get_8 : decode cX4_get 8 = .ok (.iload_n 2, 1) := by decide +kernel
theorem dX4_get_9 : decode cX4_get 9 = .ok (.iadd, 1) := by decide +kernel
theorem dX4_get_10 : decode cX4_get 10 = .ok (.iaload, 1) := by decide +kernel
theorem dX4_get_11 : decode cX4_get 11 = .ok (.ireturn, 1) := by decide +kernel
theorem dX4_put_0 : decode cX4_put 0 = .ok (.aload_n 0, 1) := by decide +kernel
theorem dX4_put_1 : decode cX4_put 1 = .ok (.getfield 19, 3) := by decide +kernel
theorem dX4_put_4 : decode cX4_put 4 = .ok (.bipush 40, 2) := by decide +kernel
theorem dX4_put_6 : decode cX4_put 6 = .ok (.iload_n 1, 1) := by decide +kernel
theorem dX4_put_7 : decode cX4_put 7 = .ok (.imul, 1) := by decide +kernel
theorem dX4_put_8 : decode cX4_put 8 = .ok (.iload_n 2, 1) := by decide +kernel
theorem dX4_put_9 : decode cX4_put 9 = .ok (.iadd, 1) := by decide +kernel
theorem dX4_put_10 : decode cX4_put 10 = .ok (.iload_n 3, 1) := by decide +kernel
theorem dX4_put_11 : decode cX4_put 11 = .ok (.iastore, 1) := by decide +kernel
theorem dX4_put_12 : decode cX4_put 12 = .ok (.return_, 1) := by decide +kernel
set_option maxRecDepth 20000 in
theorem ggX4_newRow_X4_put : GoodIn wsX4_newRow wsX4_put := goodIn_r _ [8, 9, 10, 11, 12, 13, 14, 15, 16, 17, 18, 19, 20] (by decide +kernel) (by decide +kernel)
set_option maxRecDepth 20000 in
theorem gX4_newRow_X4_put : GoodIn wsX4_newRow (wsV RX4 44 RX4 yX4_put wsX4_put) := goodIn_app (goodIn_of _ (by decide +kernel)) ggX4_newRow_X4_put
theorem dX4_newRow_0 : decode cX4_newRow 0 = .ok (.aload_n 0, 1) := by decide +kernel
theorem dX4_newRow_1 : decode cX4_newRow 1 = .ok (.getfield 13, 3) := by decide +kernel
theorem dX4_newRow_4 : decode cX4_newRow 4 = .ok (.aload_n 0, 1) := by decide +kernel
theorem dX4_newRow_5 : decode cX4_newRow 5 = .ok (.getfield 41, 3) := by decide +kernel
theorem dX4_newRow_8 : decode cX4_newRow 8 = .ok (.iload_n 1, 1) := by decide +kernel
theorem dX4_newRow_9 : decode cX4_newRow 9 = .ok (.iastore, 1) := by decide +kernel
theorem dX4_newRow_10 : decode cX4_newRow 10 = .ok (.aload_n 0, 1) := by decide +kernel
theorem dX4_newRow_11 : decode cX4_newRow 11 = .ok (.getfield 16, 3) := by decide +kernel
theorem dX4_newRow_14 : decode cX4_newRow 14 = .ok (.aload_n 0, 1) := by decide +kernel
theorem dX4_newRow_15 : decode cX4_newRow 15 = .ok (.getfield 41, 3) := by decide +kernel
theorem dX4_newRow_18 : decode cX4_newRow 18 = .ok (.iload_n 2, 1) := by decide +kernel
theorem dX4_newRow_19 : decode cX4_newRow 19 = .ok (.iastore, 1) := by decide +kernel
theorem dX4_newRow_20 : decode cX4_newRow 20 = .ok (.iconst 0, 1) := by decide +kernel
theorem dX4_newRow_21 : decode cX4_newRow 21 = .ok (.istore_n 3, 1) := by decide +kernel
theorem dX4_newRow_22 : decode cX4_newRow 22 = .ok (.iload_n 3, 1) := by decide +kernel
theorem dX4_newRow_23 : decode cX4_newRow 23 = .ok (.bipush 40, 2) := by decide +kernel
theorem dX4_newRow_25 : decode cX4_newRow 25 = .ok (.if_icmp .ge 28, 3) := by decide +kernel
theorem dX4_newRow_28 : decode cX4_newRow 28 = .ok (.aload_n 0, 1) := by decide +kernel
theorem dX4_newRow_29 : decode cX4_newRow 29 = .ok (.aload_n 0, 1) := by decide +kernel
theorem dX4_newRow_30 : decode cX4_newRow 30 = .ok (.getfield 41, 3) := by decide +kernel
theorem dX4_newRow_33 : decode cX4_newRow 33 = .ok (.iload_n 3, 1) := by decide +kernel
theorem dX4_newRow_34 : decode cX4_newRow 34 = .ok (.iload_n 1, 1) := by decide +kernel
theorem dX4_newRow_35 : decode cX4_newRow 35 = .ok (.iconst 2, 1) := by decide +kernel
theorem dX4_newRow_36 : decode cX4_newRow 36 = .ok (.if_icmp .ge 7, 3) := by decide +kernel
theorem dX4_newRow_39 : decode cX4_newRow 39 = .ok (.iconst 0, 1) := by decide +kernel
theorem dX4_newRow_40 : decode cX4_newRow 40 = .ok (.goto 4, 3) := by decide +kernel
theorem dX4_newRow_43 : decode cX4_newRow 43 = .ok (.iconst (-1), 1) := by decide +kernel
theorem dX4_newRow_44 : decode cX4_newRow 44 = .ok (.invokevirtual 44, 3) := by decide +kernel
theorem dX4_newRow_47 : decode cX4_newRow 47 = .ok (.iinc 3 1, 3) := by decide +kernel
theorem dX4_newRow_50 : decode cX4_newRow 50 = .ok (.goto (-28), 3) := by decide +kernel
theorem dX4_newRow_53 : decode cX4_newRow 53 = .ok (.aload_n 0, 1) := by decide +kernel
theorem dX4_newRow_54 : decode cX4_newRow 54 = .ok (.dup, 1) := by decide +kernel
theorem dX4_newRow_55 : decode cX4_newRow 55 = .ok (.getfield 41, 3) := by decide +kernel
theorem dX4_newRow_58 : decode cX4_newRow 58 = .ok (.iconst 1, 1) := by decide +kernel
theorem dX4_newRow_59 : decode cX4_newRow 59 = .ok (.iadd, 1) := by decide +kernel
theorem dX4_newRow_60 : decode cX4_newRow 60 = .ok (.putfield 41, 3) := by decide +kernel
theorem dX4_newRow_63 : decode cX4_newRow 63 = .ok (.aload_n 0, 1) := by decide +kernel
theorem dX4_newRow_64 : decode cX4_newRow 64 = .ok (.getfield 41, 3) := by decide +kernel
theorem dX4_newRow_67 : decode cX4_newRow 67 = .ok (.iconst 1, 1) := by decide +kernel
theorem dX4_newRow_68 : decode cX4_newRow 68 = .ok (.isub, 1) := by decide +kernel
theorem dX4_newRow_69 : decode cX4_newRow 69 = .ok (.ireturn, 1) := by decide +kernel
set_option maxRecDepth 20000 in
theorem ggX4_make_X4_isPlace : GoodIn wsX4_make wsX4_isPlace := goodIn_r _ [7, 8, 9, 10, 6, 11] (by decide +kernel) (by decide +kernel)
set_option maxRecDepth 20000 in
theorem gX4_make_X4_isPlace : GoodIn wsX4_make (va_wsS RX4 48 yX4_isPlace wsX4_isPlace) := goodIn_app (goodIn_of _ (by decide +kernel)) ggX4_make_X4_isPlace
set_option maxRecDepth 20000 in
theorem ggX4_make_X4_within : GoodIn wsX4_make wsX4_within := goodIn_r _ [11] (by decide +kernel) (by decide +kernel)
set_option maxRecDepth 20000 in
theorem gX4_make_X4_within : GoodIn wsX4_make (va_wsS RX4 33 yX4_within wsX4_within) := goodIn_app (goodIn_of _ (by decide +kernel)) ggX4_make_X4_within
set_option maxRecDepth 20000 in
theorem ggX4_make_X4_no : GoodIn wsX4_make wsX4_no := goodIn_r _ [15, 16, 33, 34, 35, 36, 37, 38, 39, 40, 41, 42, 43] (by decide +kernel) (by decide +kernel)
set_option maxRecDepth 20000 in
theorem gX4_make_X4_no : GoodIn wsX4_make (wsV RX4 55 RX4 yX4_no wsX4_no) := goodIn_app (goodIn_of _ (by decide +kernel)) ggX4_make_X4_no
set_option maxRecDepth 20000 in
theorem ggX4_make_X4_newRow : GoodIn wsX4_make wsX4_newRow := goodIn_r _ [20, 21, 22, 23, 24, 25, 26, 6, 27, 28, 33, 34, 35, 36, 37, 38, 39, 40, 41, 42, 43] (by decide +kernel) (by decide +kernel)
set_option maxRecDepth 20000 in
theorem gX4_make_X4_newRow : GoodIn wsX4_make (wsV RX4 59 RX4 yX4_newRow wsX4_newRow) := goodIn_app (goodIn_of _ (by decide +kernel)) ggX4_make_X4_newRow
set_option maxRecDepth 20000 in
theorem ggX4_make_X4_yes : GoodIn wsX4_make wsX4_yes := goodIn_r _ [32, 16, 33, 34, 35, 36, 37, 38, 39, 40, 41, 42, 43] (by decide +kernel) (by decide +kernel)
set_option maxRecDepth 20000 in
theorem gX4_make_X4_yes : GoodIn wsX4_make (wsV RX4 63 RX4 yX4_yes wsX4_yes) := goodIn_app (goodIn_of _ (by decide +kernel)) ggX4_make_X4_yes
theorem dX4_make_0 : decode cX4_make 0 = .ok (.iload_n 1, 1) := by decide +kernel
theorem dX4_make_1 : decode cX4_make 1 = .ok (.invokestatic 48, 3) := by decide +kernel
theorem dX4_make_4 : decode cX4_make 4 = .ok (.ifCond .eq 21, 3) := by decide +kernel
theorem dX4_make_7 : decode cX4_make 7 = .ok (.iload_n 2, 1) := by decide +kernel
theorem dX4_make_8 : decode cX4_make 8 = .ok (.i2l, 1) := by decide +kernel
theorem dX4_make_9 : decode cX4_make 9 = .ok (.lconst 0, 1) := by decide +kernel
theorem dX4_make_10 : decode cX4_make 10 = .ok (.ldc2_w 52, 3) := by decide +kernel
theorem dX4_make_13 : decode cX4_make 13 = .ok (.invokestatic 33, 3) := by decide +kernel
theorem dX4_make_16 : decode cX4_make 16 = .ok (.ifCond .eq 9, 3) := by decide +kernel
theorem dX4_make_19 : decode cX4_make 19 = .ok (.iload_n 3, 1) := by decide +kernel
theorem dX4_make_20 : decode cX4_make 20 = .ok (.bipush 40, 2) := by decide +kernel
theorem dX4_make_22 : decode cX4_make 22 = .ok (.if_icmp .le 6, 3) := by decide +kernel
theorem dX4_make_25 : decode cX4_make 25 = .ok (.ldc 54, 2) := by decide +kernel
theorem dX4_make_27 : decode cX4_make 27 = .ok (.ireturn, 1) := by decide +kernel
theorem dX4_make_28 : decode cX4_make 28 = .ok (.iload_n 3, 1) := by decide +kernel
theorem dX4_make_29 : decode cX4_make 29 = .ok (.ifCond .ge 9, 3) := by decide +kernel
theorem dX4_make_32 : decode cX4_make 32 = .ok (.aload_n 0, 1) := by decide +kernel
theorem dX4_make_33 : decode cX4_make 33 = .ok (.iconst 4, 1) := by decide +kernel
theorem dX4_make_34 : decode cX4_make 34 = .ok (.invokevirtual 55, 3) := by decide +kernel
theorem dX4_make_37 : decode cX4_make 37 = .ok (.ireturn, 1) := by decide +kernel
theorem dX4_make_38 : decode cX4_make 38 = .ok (.aload_n 0, 1) := by decide +kernel
theorem dX4_make_39 : decode cX4_make 39 = .ok (.getfield 7, 3) := by decide +kernel
theorem dX4_make_42 : decode cX4_make 42 = .ok (.iload_n 1, 1) := by decide +kernel
theorem dX4_make_43 : decode cX4_make 43 = .ok (.aload_n 0, 1) := by decide +kernel
theorem dX4_make_44 : decode cX4_make 44 = .ok (.iload_n 2, 1) := by decide +kernel
theorem dX4_make_45 : decode cX4_make 45 = .ok (.iload_n 3, 1) := by decide +kernel
theorem dX4_make_46 : decode cX4_make 46 = .ok (.invokevirtual 59, 3) := by decide +kernel
theorem dX4_make_49 : decode cX4_make 49 = .ok (.iastore, 1) := by decide +kernel
theorem dX4_make_50 : decode cX4_make 50 = .ok (.aload_n 0, 1) := by decide +kernel
theorem dX4_make_51 : decode cX4_make 51 = .ok (.iload_n 3, 1) := by decide +kernel
theorem dX4_make_52 : decode cX4_make 52 = .ok (.invokevirtual 63, 3) := by decide +kernel
theorem dX4_make_55 : decode cX4_make 55 = .ok (.ireturn, 1) := by decide +kernel
set_option maxRecDepth 20000 in
theorem ggX4_share_X4_isPlace : GoodIn wsX4_share wsX4_isPlace := goodIn_r _ [6, 7, 8, 9, 5, 10] (by decide +kernel) (by decide +kernel)
set_option maxRecDepth 20000 in
theorem gX4_share_X4_isPlace : GoodIn wsX4_share (va_wsS RX4 48 yX4_isPlace wsX4_isPlace) := goodIn_app (goodIn_of _ (by decide +kernel)) ggX4_share_X4_isPlace
set_option maxRecDepth 20000 in
theorem ggX4_share_X4_kindOf : GoodIn wsX4_share wsX4_kindOf := goodIn_r _ [14, 2, 15, 16, 17, 18, 19, 20, 21, 22, 23, 24, 25, 26] (by decide +kernel) (by decide +kernel)
set_option maxRecDepth 20000 in
theorem gX4_share_X4_kindOf : GoodIn wsX4_share (wsV RX4 66 RX4 yX4_kindOf wsX4_kindOf) := goodIn_app (goodIn_of _ (by decide +kernel)) ggX4_share_X4_kindOf
theorem dX4_share_0 : decode cX4_share 0 = .ok (.iload_n 1, 1) := by decide +kernel
theorem dX4_share_1 : decode cX4_share 1 = .ok (.invokestatic 48, 3) := by decide +kernel
theorem dX4_share_4 : decode cX4_share 4 = .ok (.ifCond .eq 10, 3) := by decide +kernel
theorem dX4_share_7 : decode cX4_share 7 = .ok (.iload_n 2, 1) := by decide +kernel
theorem dX4_share_8 : decode cX4_share 8 = .ok (.invokestatic 48, 3) := by decide +kernel
theorem dX4_share_11 : decode cX4_share 11 = .ok (.ifCond .ne 6, 3) := by decide +kernel
theorem dX4_share_14 : decode cX4_share 14 = .ok (.ldc 54, 2) := by decide +kernel
theorem dX4_share_16 : decode cX4_share 16 = .ok (.ireturn, 1) := by decide +kernel
theorem dX4_share_17 : decode cX4_share 17 = .ok (.aload_n 0, 1) := by decide +kernel
theorem dX4_share_18 : decode cX4_share 18 = .ok (.getfield 7, 3) := by decide +kernel
theorem dX4_share_21 : decode cX4_share 21 = .ok (.iload_n 1, 1) := by decide +kernel
theorem dX4_share_22 : decode cX4_share 22 = .ok (.aload_n 0, 1) := by decide +kernel
theorem dX4_share_23 : decode cX4_share 23 = .ok (.getfield 7, 3) := by decide +kernel
theorem dX4_share_26 : decode cX4_share 26 = .ok (.iload_n 2, 1) := by decide +kernel
theorem dX4_share_27 : decode cX4_share 27 = .ok (.iaload, 1) := by decide +kernel
theorem dX4_share_28 : decode cX4_share 28 = .ok (.iastore, 1) := by decide +kernel
theorem dX4_share_29 : decode cX4_share 29 = .ok (.aload_n 0, 1) := by decide +kernel
theorem dX4_share_30 : decode cX4_share 30 = .ok (.iload_n 1, 1) := by decide +kernel
theorem dX4_share_31 : decode cX4_share 31 = .ok (.invokevirtual 66, 3) := by decide +kernel
theorem dX4_share_34 : decode cX4_share 34 = .ok (.ireturn, 1) := by decide +kernel
set_option maxRecDepth 20000 in
theorem ggX4_nothing_X4_isPlace : GoodIn wsX4_nothing wsX4_isPlace := goodIn_r _ [6, 7, 8, 9, 5, 10] (by decide +kernel) (by decide +kernel)
set_option maxRecDepth 20000 in
theorem gX4_nothing_X4_isPlace : GoodIn wsX4_nothing (va_wsS RX4 48 yX4_isPlace wsX4_isPlace) := goodIn_app (goodIn_of _ (by decide +kernel)) ggX4_nothing_X4_isPlace
set_option maxRecDepth 20000 in
theorem ggX4_nothing_X4_kindOf : GoodIn wsX4_nothing wsX4_kindOf := goodIn_r _ [14, 2, 15, 16, 17, 18, 19, 20, 21, 22, 23, 24, 25, 26] (by decide +kernel) (by decide +kernel)
set_option maxRecDepth 20000 in
theorem gX4_nothing_X4_kindOf : GoodIn wsX4_nothing (wsV RX4 66 RX4 yX4_kindOf wsX4_kindOf) := goodIn_app (goodIn_of _ (by decide +kernel)) ggX4_nothing_X4_kindOf
theorem dX4_nothing_0 : decode cX4_nothing 0 = .ok (.iload_n 1, 1) := by decide +kernel
theorem dX4_nothing_1 : decode cX4_nothing 1 = .ok (.invokestatic 48, 3) := by decide +kernel
theorem dX4_nothing_4 : decode cX4_nothing 4 = .ok (.ifCond .ne 6, 3) := by decide +kernel
theorem dX4_nothing_7 : decode cX4_nothing 7 = .ok (.ldc 54, 2) := by decide +kernel
theorem dX4_nothing_9 : decode cX4_nothing 9 = .ok (.ireturn, 1) := by decide +kernel
theorem dX4_nothing_10 : decode cX4_nothing 10 = .ok (.aload_n 0, 1) := by decide +kernel
theorem dX4_nothing_11 : decode cX4_nothing 11 = .ok (.iload_n 1, 1) := by decide +kernel
theorem dX4_nothing_12 : decode cX4_nothing 12 = .ok (.invokevirtual 66, 3) := by decide +kernel
theorem dX4_nothing_15 : decode cX4_nothing 15 = .ok (.istore_n 2, 1) := by decide +kernel
theorem dX4_nothing_16 : decode cX4_nothing 16 = .ok (.aload_n 0, 1) := by decide +kernel
theorem dX4_nothing_17 : decode cX4_nothing 17 = .ok (.getfield 7, 3) := by decide +kernel
theorem dX4_nothing_20 : decode cX4_nothing 20 = .ok (.iload_n 1, 1) := by decide +kernel
theorem dX4_nothing_21 : decode cX4_nothing 21 = .ok (.iconst (-1), 1) := by decide +kernel
theorem dX4_nothing_22 : decode cX4_nothing 22 = .ok (.iastore, 1) := by decide +kernel
theorem dX4_nothing_23 : decode cX4_nothing 23 = .ok (.iload_n 2, 1) := by decide +kernel
theorem dX4_nothing_24 : decode cX4_nothing 24 = .ok (.ireturn, 1) := by decide +kernel
set_option maxRecDepth 20000 in
theorem ggX4_lump_X4_isPlace : GoodIn wsX4_lump wsX4_isPlace := goodIn_r _ [7, 8, 9, 10, 6, 11] (by decide +kernel) (by decide +kernel)
set_option maxRecDepth 20000 in
theorem gX4_lump_X4_isPlace : GoodIn wsX4_lump (va_wsS RX4 48 yX4_isPlace wsX4_isPlace) := goodIn_app (goodIn_of _ (by decide +kernel)) ggX4_lump_X4_isPlace
theorem dX4_lump_0 : decode cX4_lump 0 = .ok (.iload_n 1, 1) := by decide +kernel
theorem dX4_lump_1 : decode cX4_lump 1 = .ok (.invokestatic 48, 3) := by decide +kernel
theorem dX4_lump_4 : decode cX4_lump 4 = .ok (.ifCond .ne 6, 3) := by decide +kernel
theorem dX4_lump_7 : decode cX4_lump 7 = .ok (.ldc 54, 2) := by decide +kernel
theorem dX4_lump_9 : decode cX4_lump 9 = .ok (.ireturn, 1) := by decide +kernel
theorem dX4_lump_10 : decode cX4_lump 10 = .ok (.aload_n 0, 1) := by decide +kernel
theorem dX4_lump_11 : decode cX4_lump 11 = .ok (.dup, 1) := by decide +kernel
theorem dX4_lump_12 : decode cX4_lump 12 = .ok (.getfield 69, 3) := by decide +kernel
theorem dX4_lump_15 : decode cX4_lump 15 = .ok (.iconst 1, 1) := by decide +kernel
theorem dX4_lump_16 : decode cX4_lump 16 = .ok (.iadd, 1) := by decide +kernel
theorem dX4_lump_17 : decode cX4_lump 17 = .ok (.putfield 69, 3) := by decide +kernel
theorem dX4_lump_20 : decode cX4_lump 20 = .ok (.aload_n 0, 1) := by decide +kernel
theorem dX4_lump_21 : decode cX4_lump 21 = .ok (.getfield 7, 3) := by decide +kernel
theorem dX4_lump_24 : decode cX4_lump 24 = .ok (.iload_n 1, 1) := by decide +kernel
theorem dX4_lump_25 : decode cX4_lump 25 = .ok (.iconst (-1), 1) := by decide +kernel
theorem dX4_lump_26 : decode cX4_lump 26 = .ok (.aload_n 0, 1) := by decide +kernel
theorem dX4_lump_27 : decode cX4_lump 27 = .ok (.getfield 69, 3) := by decide +kernel
theorem dX4_lump_30 : decode cX4_lump 30 = .ok (.isub, 1) := by decide +kernel
theorem dX4_lump_31 : decode cX4_lump 31 = .ok (.iastore, 1) := by decide +kernel
theorem dX4_lump_32 : decode cX4_lump 32 = .ok (.iconst 1, 1) := by decide +kernel
theorem dX4_lump_33 : decode cX4_lump 33 = .ok (.ireturn, 1) := by decide +kernel
set_option maxRecDepth 20000 in
theorem ggX4_kind_X4_isPlace : GoodIn wsX4_kind wsX4_isPlace := goodIn_r _ [5, 6, 7, 8, 4, 9] (by decide +kernel) (by decide +kernel)
set_option maxRecDepth 20000 in
theorem gX4_kind_X4_isPlace : GoodIn wsX4_kind (va_wsS RX4 48 yX4_isPlace wsX4_isPlace) := goodIn_app (goodIn_of _ (by decide +kernel)) ggX4_kind_X4_isPlace
set_option maxRecDepth 20000 in
theorem ggX4_kind_X4_kindOf : GoodIn wsX4_kind wsX4_kindOf := goodIn_r _ [13, 14, 15, 16, 17, 18, 19, 20, 21, 22, 23, 24, 25, 26] (by decide +kernel) (by decide +kernel)
set_option maxRecDepth 20000 in
theorem gX4_kind_X4_kindOf : GoodIn wsX4_kind (wsV RX4 66 RX4 yX4_kindOf wsX4_kindOf) := goodIn_app (goodIn_of _ (by decide +kernel)) ggX4_kind_X4_kindOf
theorem dX4_kind_0 : decode cX4_kind 0 = .ok (.iload_n 1, 1) := by decide +kernel
theorem dX4_kind_1 : decode cX4_kind 1 = .ok (.invokestatic 48, 3) := by decide +kernel
theorem dX4_kind_4 : decode cX4_kind 4 = .ok (.ifCond .eq 11, 3) := by decide +kernel
theorem dX4_kind_7 : decode cX4_kind 7 = .ok (.aload_n 0, 1) := by decide +kernel
theorem dX4_kind_8 : decode cX4_kind 8 = .ok (.iload_n 1, 1) := by decide +kernel
theorem dX4_kind_9 : decode cX4_kind 9 = .ok (.invokevirtual 66, 3) := by decide +kernel
theorem dX4_kind_12 : decode cX4_kind 12 = .ok (.goto 5, 3) := by decide +kernel
theorem dX4_kind_15 : decode cX4_kind 15 = .ok (.ldc 54, 2) := by decide +kernel
theorem dX4_kind_17 : decode cX4_kind 17 = .ok (.ireturn, 1) := by decide +kernel
set_option maxRecDepth 20000 in
theorem ggX4_length_X4_isPlace : GoodIn wsX4_length wsX4_isPlace := goodIn_r _ [5, 6, 7, 8, 4, 9] (by decide +kernel) (by decide +kernel)
set_option maxRecDepth 20000 in
theorem gX4_length_X4_isPlace : GoodIn wsX4_length (va_wsS RX4 48 yX4_isPlace wsX4_isPlace) := goodIn_app (goodIn_of _ (by decide +kernel)) ggX4_length_X4_isPlace
set_option maxRecDepth 20000 in
theorem ggX4_length_X4_wantsRow : GoodIn wsX4_length wsX4_wantsRow := goodIn_r _ [13, 14, 29, 30, 31, 32, 33, 34, 35, 36, 37, 38, 39] (by decide +kernel) (by decide +kernel)
set_option maxRecDepth 20000 in
theorem gX4_length_X4_wantsRow : GoodIn wsX4_length (wsV RX4 72 RX4 yX4_wantsRow wsX4_wantsRow) := goodIn_app (goodIn_of _ (by decide +kernel)) ggX4_length_X4_wantsRow
set_option maxRecDepth 20000 in
theorem ggX4_length_X4_no : GoodIn wsX4_length wsX4_no := goodIn_r _ [18, 19, 29, 30, 31, 32, 33, 34, 35, 36, 37, 38, 39] (by decide +kernel) (by decide +kernel)
set_option maxRecDepth 20000 in
theorem gX4_length_X4_no : GoodIn wsX4_length (wsV RX4 55 RX4 yX4_no wsX4_no) := goodIn_app (goodIn_of _ (by decide +kernel)) ggX4_length_X4_no
set_option maxRecDepth 20000 in
theorem ggX4_length_X4_lengthOf : GoodIn wsX4_length wsX4_lengthOf := goodIn_r _ [23, 24, 14, 29, 30, 31, 32, 33, 34, 35, 36, 37, 38, 39] (by decide +kernel) (by decide +kernel)
set_option maxRecDepth 20000 in
theorem gX4_length_X4_lengthOf : GoodIn wsX4_length (wsV RX4 75 RX4 yX4_lengthOf wsX4_lengthOf) := goodIn_app (goodIn_of _ (by decide +kernel)) ggX4_length_X4_lengthOf
set_option maxRecDepth 20000 in
theorem ggX4_length_X4_yes : GoodIn wsX4_length wsX4_yes := goodIn_r _ [28, 19, 29, 30, 31, 32, 33, 34, 35, 36, 37, 38, 39] (by decide +kernel) (by decide +kernel)
set_option maxRecDepth 20000 in
theorem gX4_length_X4_yes : GoodIn wsX4_length (wsV RX4 63 RX4 yX4_yes wsX4_yes) := goodIn_app (goodIn_of _ (by decide +kernel)) ggX4_length_X4_yes
theorem dX4_length_0 : decode cX4_length 0 = .ok (.iload_n 1, 1) := by decide +kernel
theorem dX4_length_1 : decode cX4_length 1 = .ok (.invokestatic 48, 3) := by decide +kernel
theorem dX4_length_4 : decode cX4_length 4 = .ok (.ifCond .ne 6, 3) := by decide +kernel
theorem dX4_length_7 : decode cX4_length 7 = .ok (.ldc 54, 2) := by decide +kernel
theorem dX4_length_9 : decode cX4_length 9 = .ok (.ireturn, 1) := by decide +kernel
theorem dX4_length_10 : decode cX4_length 10 = .ok (.aload_n 0, 1) := by decide +kernel
theorem dX4_length_11 : decode cX4_length 11 = .ok (.iload_n 1, 1) := by decide +kernel
theorem dX4_length_12 : decode cX4_length 12 = .ok (.invokevirtual 72, 3) := by decide +kernel
theorem dX4_length_15 : decode cX4_length 15 = .ok (.istore_n 2, 1) := by decide +kernel
theorem dX4_length_16 : decode cX4_length 16 = .ok (.iload_n 2, 1) := by decide +kernel
theorem dX4_length_17 : decode cX4_length 17 = .ok (.ifCond .eq 11, 3) := by decide +kernel
theorem dX4_length_20 : decode cX4_length 20 = .ok (.aload_n 0, 1) := by decide +kernel
theorem dX4_length_21 : decode cX4_length 21 = .ok (.iload_n 2, 1) := by decide +kernel
theorem dX4_length_22 : decode cX4_length 22 = .ok (.invokevirtual 55, 3) := by decide +kernel
theorem dX4_length_25 : decode cX4_length 25 = .ok (.goto 12, 3) := by decide +kernel
theorem dX4_length_28 : decode cX4_length 28 = .ok (.aload_n 0, 1) := by decide +kernel
theorem dX4_length_29 : decode cX4_length 29 = .ok (.aload_n 0, 1) := by decide +kernel
theorem dX4_length_30 : decode cX4_length 30 = .ok (.iload_n 1, 1) := by decide +kernel
theorem dX4_length_31 : decode cX4_length 31 = .ok (.invokevirtual 75, 3) := by decide +kernel
theorem dX4_length_34 : decode cX4_length 34 = .ok (.invokevirtual 63, 3) := by decide +kernel
theorem dX4_length_37 : decode cX4_length 37 = .ok (.ireturn, 1) := by decide +kernel
set_option maxRecDepth 20000 in
theorem ggX4_wantsItem_X4_wantsRow : GoodIn wsX4_wantsItem wsX4_wantsRow := goodIn_r _ [5, 6, 20, 21, 22, 23, 24, 25, 26, 27, 28, 29, 30] (by decide +kernel) (by decide +kernel)
set_option maxRecDepth 20000 in
theorem gX4_wantsItem_X4_wantsRow : GoodIn wsX4_wantsItem (wsV RX4 72 RX4 yX4_wantsRow wsX4_wantsRow) := goodIn_app (goodIn_of _ (by decide +kernel)) ggX4_wantsItem_X4_wantsRow
set_option maxRecDepth 20000 in
theorem ggX4_wantsItem_X4_kindOf : GoodIn wsX4_wantsItem wsX4_kindOf := goodIn_r _ [10, 6, 11, 20, 21, 22, 23, 24, 25, 26, 27, 28, 29, 30] (by decide +kernel) (by decide +kernel)
set_option maxRecDepth 20000 in
theorem gX4_wantsItem_X4_kindOf : GoodIn wsX4_wantsItem (wsV RX4 66 RX4 yX4_kindOf wsX4_kindOf) := goodIn_app (goodIn_of _ (by decide +kernel)) ggX4_wantsItem_X4_kindOf
set_option maxRecDepth 20000 in
theorem ggX4_wantsItem_X4_within : GoodIn wsX4_wantsItem wsX4_within := goodIn_r _ [14] (by decide +kernel) (by decide +kernel)
set_option maxRecDepth 20000 in
theorem gX4_wantsItem_X4_within : GoodIn wsX4_wantsItem (va_wsS RX4 33 yX4_within wsX4_within) := goodIn_app (goodIn_of _ (by decide +kernel)) ggX4_wantsItem_X4_within
set_option maxRecDepth 20000 in
theorem ggX4_wantsItem_X4_lengthOf : GoodIn wsX4_wantsItem wsX4_lengthOf := goodIn_r _ [18, 19, 6, 20, 21, 22, 23, 24, 25, 26, 27, 28, 29, 30] (by decide +kernel) (by decide +kernel)
set_option maxRecDepth 20000 in
theorem gX4_wantsItem_X4_lengthOf : GoodIn wsX4_wantsItem (wsV RX4 75 RX4 yX4_lengthOf wsX4_lengthOf) := goodIn_app (goodIn_of _ (by decide +kernel)) ggX4_wantsItem_X4_lengthOf
theorem dX4_wantsItem_0 : decode cX4_wantsItem 0 = .ok (.aload_n 0, 1) := by decide +kernel
theorem dX4_wantsItem_1 : decode cX4_wantsItem 1 = .ok (.iload_n 1, 1) := by decide +kernel
theorem dX4_wantsItem_2 : decode cX4_wantsItem 2 = .ok (.invokevirtual 72, 3) := by decide +kernel
theorem dX4_wantsItem_5 : decode cX4_wantsItem 5 = .ok (.istore 5, 2) := by decide +kernel
theorem dX4_wantsItem_7 : decode cX4_wantsItem 7 = .ok (.iload 5, 2) := by decide +kernel
theorem dX4_wantsItem_9 : decode cX4_wantsItem 9 = .ok (.ifCond .ne 22, 3) := by decide +kernel
theorem dX4_wantsItem_12 : decode cX4_wantsItem 12 = .ok (.aload_n 0, 1) := by decide +kernel
theorem dX4_wantsItem_13 : decode cX4_wantsItem 13 = .ok (.iload_n 1, 1) := by decide +kernel
theorem dX4_wantsItem_14 : decode cX4_wantsItem 14 = .ok (.invokevirtual 66, 3) := by decide +kernel
theorem dX4_wantsItem_17 : decode cX4_wantsItem 17 = .ok (.i2l, 1) := by decide +kernel
theorem dX4_wantsItem_18 : decode cX4_wantsItem 18 = .ok (.iload_n 2, 1) := by decide +kernel
theorem dX4_wantsItem_19 : decode cX4_wantsItem 19 = .ok (.i2l, 1) := by decide +kernel
theorem dX4_wantsItem_20 : decode cX4_wantsItem 20 = .ok (.iload_n 3, 1) := by decide +kernel
theorem dX4_wantsItem_21 : decode cX4_wantsItem 21 = .ok (.i2l, 1) := by decide +kernel
theorem dX4_wantsItem_22 : decode cX4_wantsItem 22 = .ok (.invokestatic 33, 3) := by decide +kernel
theorem dX4_wantsItem_25 : decode cX4_wantsItem 25 = .ok (.ifCond .ne 6, 3) := by decide +kernel
theorem dX4_wantsItem_28 : decode cX4_wantsItem 28 = .ok (.iconst 5, 1) := by decide +kernel
theorem dX4_wantsItem_29 : decode cX4_wantsItem 29 = .ok (.istore 5, 2) := by decide +kernel
theorem dX4_wantsItem_31 : decode cX4_wantsItem 31 = .ok (.iload 5, 2) := by decide +kernel
theorem dX4_wantsItem_33 : decode cX4_wantsItem 33 = .ok (.ifCond .ne 25, 3) := by decide +kernel
theorem dX4_wantsItem_36 : decode cX4_wantsItem 36 = .ok (.iload 4, 2) := by decide +kernel
theorem dX4_wantsItem_38 : decode cX4_wantsItem 38 = .ok (.i2l, 1) := by decide +kernel
theorem dX4_wantsItem_39 : decode cX4_wantsItem 39 = .ok (.lconst 0, 1) := by decide +kernel
theorem dX4_wantsItem_40 : decode cX4_wantsItem 40 = .ok (.aload_n 0, 1) := by decide +kernel
theorem dX4_wantsItem_41 : decode cX4_wantsItem 41 = .ok (.iload_n 1, 1) := by decide +kernel
theorem dX4_wantsItem_42 : decode cX4_wantsItem 42 = .ok (.invokevirtual 75, 3) := by decide +kernel
theorem dX4_wantsItem_45 : decode cX4_wantsItem 45 = .ok (.iconst 1, 1) := by decide +kernel
theorem dX4_wantsItem_46 : decode cX4_wantsItem 46 = .ok (.isub, 1) := by decide +kernel
theorem dX4_wantsItem_47 : decode cX4_wantsItem 47 = .ok (.i2l, 1) := by decide +kernel
theorem dX4_wantsItem_48 : decode cX4_wantsItem 48 = .ok (.invokestatic 33, 3) := by decide +kernel
theorem dX4_wantsItem_51 : decode cX4_wantsItem 51 = .ok (.ifCond .ne 7, 3) := by decide +kernel
theorem dX4_wantsItem_54 : decode cX4_wantsItem 54 = .ok (.iconst 3, 1) := by decide +kernel
theorem dX4_wantsItem_55 : decode cX4_wantsItem 55 = .ok (.goto 5, 3) := by decide +kernel
theorem dX4_wantsItem_58 : decode cX4_wantsItem 58 = .ok (.iload 5, 2) := by decide +kernel
theorem dX4_wantsItem_60 : decode cX4_wantsItem 60 = .ok (.ireturn, 1) := by decide +kernel
theorem dX4_low8_0 : decode cX4_low8 0 = .ok (.iload_n 0, 1) := by decide +kernel
theorem dX4_low8_1 : decode cX4_low8 1 = .ok (.sipush 255, 3) := by decide +kernel
theorem dX4_low8_4 : decode cX4_low8 4 = .ok (.iand, 1) := by decide +kernel
theorem dX4_low8_5 : decode cX4_low8 5 = .ok (.istore_n 1, 1) := by decide +kernel
theorem dX4_low8_6 : decode cX4_low8 6 = .ok (.iload_n 1, 1) := by decide +kernel
theorem dX4_low8_7 : decode cX4_low8 7 = .ok (.bipush 127, 2) := by decide +kernel
theorem dX4_low8_9 : decode cX4_low8 9 = .ok (.if_icmp .le 11, 3) := by decide +kernel
theorem dX4_low8_12 : decode cX4_low8 12 = .ok (.iload_n 1, 1) := by decide +kernel
theorem dX4_low8_13 : decode cX4_low8 13 = .ok (.sipush 256, 3) := by decide +kernel
theorem dX4_low8_16 : decode cX4_low8 16 = .ok (.isub, 1) := by decide +kernel
theorem dX4_low8_17 : decode cX4_low8 17 = .ok (.goto 4, 3) := by decide +kernel
theorem dX4_low8_20 : decode cX4_low8 20 = .ok (.iload_n 1, 1) := by decide +kernel
theorem dX4_low8_21 : decode cX4_low8 21 = .ok (.ireturn, 1) := by decide +kernel
set_option maxRecDepth 20000 in
theorem ggX4_set_X4_isPlace : GoodIn wsX4_set wsX4_isPlace := goodIn_r _ [7, 8, 9, 10, 6, 11] (by decide +kernel) (by decide +kernel)
set_option maxRecDepth 20000 in
theorem gX4_set_X4_isPlace : GoodIn wsX4_set (va_wsS RX4 48 yX4_isPlace wsX4_isPlace) := goodIn_app (goodIn_of _ (by decide +kernel)) ggX4_set_X4_isPlace
set_option maxRecDepth 20000 in
theorem ggX4_set_X4_wantsItem : GoodIn wsX4_set wsX4_wantsItem := goodIn_r _ [15, 16, 17, 18, 6, 19, 2, 20, 21, 22, 23, 3, 9, 10, 11, 24, 25, 26, 27, 28, 50, 51, 52, 53, 54, 55, 56, 57, 58, 59, 60] (by decide +kernel) (by decide +kernel)
set_option maxRecDepth 20000 in
theorem gX4_set_X4_wantsItem : GoodIn wsX4_set (wsV RX4 78 RX4 yX4_wantsItem wsX4_wantsItem) := goodIn_app (goodIn_of _ (by decide +kernel)) ggX4_set_X4_wantsItem
set_option maxRecDepth 20000 in
theorem ggX4_set_X4_no : GoodIn wsX4_set wsX4_no := goodIn_r _ [32, 33, 50, 51, 52, 53, 54, 55, 56, 57, 58, 59, 60] (by decide +kernel) (by decide +kernel)
set_option maxRecDepth 20000 in
theorem gX4_set_X4_no : GoodIn wsX4_set (wsV RX4 55 RX4 yX4_no wsX4_no) := goodIn_app (goodIn_of _ (by decide +kernel)) ggX4_set_X4_no
set_option maxRecDepth 20000 in
theorem ggX4_set_X4_get : GoodIn wsX4_set wsX4_get := goodIn_r _ [37, 38, 50, 51, 52, 53, 54, 55, 56, 57, 58, 59, 60] (by decide +kernel) (by decide +kernel)
set_option maxRecDepth 20000 in
theorem gX4_set_X4_get : GoodIn wsX4_set (wsV RX4 82 RX4 yX4_get wsX4_get) := goodIn_app (goodIn_of _ (by decide +kernel)) ggX4_set_X4_get
set_option maxRecDepth 20000 in
theorem ggX4_set_X4_low8 : GoodIn wsX4_set wsX4_low8 := goodIn_r _ [41] (by decide +kernel) (by decide +kernel)
set_option maxRecDepth 20000 in
theorem gX4_set_X4_low8 : GoodIn wsX4_set (va_wsS RX4 85 yX4_low8 wsX4_low8) := goodIn_app (goodIn_of _ (by decide +kernel)) ggX4_set_X4_low8
set_option maxRecDepth 20000 in
theorem ggX4_set_X4_put : GoodIn wsX4_set wsX4_put := goodIn_r _ [45, 38, 50, 51, 52, 53, 54, 55, 56, 57, 58, 59, 60] (by decide +kernel) (by decide +kernel)
set_option maxRecDepth 20000 in
theorem gX4_set_X4_put : GoodIn wsX4_set (wsV RX4 44 RX4 yX4_put wsX4_put) := goodIn_app (goodIn_of _ (by decide +kernel)) ggX4_set_X4_put
set_option maxRecDepth 20000 in
theorem ggX4_set_X4_yes : GoodIn wsX4_set wsX4_yes := goodIn_r _ [49, 33, 50, 51, 52, 53, 54, 55, 56, 57, 58, 59, 60] (by decide +kernel) (by decide +kernel)
set_option maxRecDepth 20000 in
theorem gX4_set_X4_yes : GoodIn wsX4_set (wsV RX4 63 RX4 yX4_yes wsX4_yes) := goodIn_app (goodIn_of _ (by decide +kernel)) ggX4_set_X4_yes
theorem dX4_set_0 : decode cX4_set 0 = .ok (.iload_n 1, 1) := by decide +kernel
theorem dX4_set_1 : decode cX4_set 1 = .ok (.invokestatic 48, 3) := by decide +kernel
theorem dX4_set_4 : decode cX4_set 4 = .ok (.ifCond .ne 6, 3) := by decide +kernel
theorem dX4_set_7 : decode cX4_set 7 = .ok (.ldc 54, 2) := by decide +kernel
theorem dX4_set_9 : decode cX4_set 9 = .ok (.ireturn, 1) := by decide +kernel
theorem dX4_set_10 : decode cX4_set 10 = .ok (.aload_n 0, 1) := by decide +kernel
theorem dX4_set_11 : decode cX4_set 11 = .ok (.iload_n 1, 1) := by decide +kernel
theorem dX4_set_12 : decode cX4_set 12 = .ok (.iconst 0, 1) := by decide +kernel
theorem dX4_set_13 : decode cX4_set 13 = .ok (.iconst 1, 1) := by decide +kernel
theorem dX4_set_14 : decode cX4_set 14 = .ok (.iload_n 2, 1) := by decide +kernel
theorem dX4_set_15 : decode cX4_set 15 = .ok (.invokevirtual 78, 3) := by decide +kernel
theorem dX4_set_18 : decode cX4_set 18 = .ok (.istore 4, 2) := by decide +kernel
theorem dX4_set_20 : decode cX4_set 20 = .ok (.iload 4, 2) := by decide +kernel
theorem dX4_set_22 : decode cX4_set 22 = .ok (.ifCond .eq 10, 3) := by decide +kernel
theorem dX4_set_25 : decode cX4_set 25 = .ok (.aload_n 0, 1) := by decide +kernel
theorem dX4_set_26 : decode cX4_set 26 = .ok (.iload 4, 2) := by decide +kernel
theorem dX4_set_28 : decode cX4_set 28 = .ok (.invokevirtual 55, 3) := by decide +kernel
theorem dX4_set_31 : decode cX4_set 31 = .ok (.ireturn, 1) := by decide +kernel
theorem dX4_set_32 : decode cX4_set 32 = .ok (.aload_n 0, 1) := by decide +kernel
theorem dX4_set_33 : decode cX4_set 33 = .ok (.getfield 7, 3) := by decide +kernel
theorem dX4_set_36 : decode cX4_set 36 = .ok (.iload_n 1, 1) := by decide +kernel
theorem dX4_set_37 : decode cX4_set 37 = .ok (.iaload, 1) := by decide +kernel
theorem dX4_set_38 : decode cX4_set 38 = .ok (.istore 5, 2) := by decide +kernel
theorem dX4_set_40 : decode cX4_set 40 = .ok (.aload_n 0, 1) := by decide +kernel
theorem dX4_set_41 : decode cX4_set 41 = .ok (.iload 5, 2) := by decide +kernel
theorem dX4_set_43 : decode cX4_set 43 = .ok (.iload_n 2, 1) := by decide +kernel
theorem dX4_set_44 : decode cX4_set 44 = .ok (.invokevirtual 82, 3) := by decide +kernel
theorem dX4_set_47 : decode cX4_set 47 = .ok (.istore 6, 2) := by decide +kernel
theorem dX4_set_49 : decode cX4_set 49 = .ok (.aload_n 0, 1) := by decide +kernel
theorem dX4_set_50 : decode cX4_set 50 = .ok (.iload 5, 2) := by decide +kernel
theorem dX4_set_52 : decode cX4_set 52 = .ok (.iload_n 2, 1) := by decide +kernel
theorem dX4_set_53 : decode cX4_set 53 = .ok (.aload_n 0, 1) := by decide +kernel
theorem dX4_set_54 : decode cX4_set 54 = .ok (.getfield 13, 3) := by decide +kernel
theorem dX4_set_57 : decode cX4_set 57 = .ok (.iload 5, 2) := by decide +kernel
theorem dX4_set_59 : decode cX4_set 59 = .ok (.iaload, 1) := by decide +kernel
theorem dX4_set_60 : decode cX4_set 60 = .ok (.ifCond .ne 10, 3) := by decide +kernel
theorem dX4_set_63 : decode cX4_set 63 = .ok (.iload_n 3, 1) := by decide +kernel
theorem dX4_set_64 : decode cX4_set 64 = .ok (.invokestatic 85, 3) := by decide +kernel
theorem dX4_set_67 : decode cX4_set 67 = .ok (.goto 4, 3) := by decide +kernel
theorem dX4_set_70 : decode cX4_set 70 = .ok (.iload_n 3, 1) := by decide +kernel
theorem dX4_set_71 : decode cX4_set 71 = .ok (.invokevirtual 44, 3) := by decide +kernel
theorem dX4_set_74 : decode cX4_set 74 = .ok (.aload_n 0, 1) := by decide +kernel
theorem dX4_set_75 : decode cX4_set 75 = .ok (.iload 6, 2) := by decide +kernel
theorem dX4_set_77 : decode cX4_set 77 = .ok (.invokevirtual 63, 3) := by decide +kernel
theorem dX4_set_80 : decode cX4_set 80 = .ok (.ireturn, 1) := by decide +kernel
theorem dX4_fitsClass_0 : decode cX4_fitsClass 0 = .ok (.iload_n 0, 1) := by decide +kernel
theorem dX4_fitsClass_1 : decode cX4_fitsClass 1 = .ok (.iconst (-1), 1) := by decide +kernel
theorem dX4_fitsClass_2 : decode cX4_fitsClass 2 = .ok (.if_icmp .eq 28, 3) := by decide +kernel
theorem dX4_fitsClass_5 : decode cX4_fitsClass 5 = .ok (.iload_n 1, 1) := by decide +kernel
theorem dX4_fitsClass_6 : decode cX4_fitsClass 6 = .ok (.iconst 3, 1) := by decide +kernel
theorem dX4_fitsClass_7 : decode cX4_fitsClass 7 = .ok (.if_icmp .eq 23, 3) := by decide +kernel
theorem dX4_fitsClass_10 : decode cX4_fitsClass 10 = .ok (.iload_n 0, 1) := by decide +kernel
theorem dX4_fitsClass_11 : decode cX4_fitsClass 11 = .ok (.iconst 1, 1) := by decide +kernel
theorem dX4_fitsClass_12 : decode cX4_fitsClass 12 = .ok (.if_icmp .ne 8, 3) := by decide +kernel
theorem dX4_fitsClass_15 : decode cX4_fitsClass 15 = .ok (.iload_n 1, 1) := by decide +kernel
theorem dX4_fitsClass_16 : decode cX4_fitsClass 16 = .ok (.iconst 4, 1) := by decide +kernel
theorem dX4_fitsClass_17 : decode cX4_fitsClass 17 = .ok (.if_icmp .eq 13, 3) := by decide +kernel
theorem dX4_fitsClass_20 : decode cX4_fitsClass 20 = .ok (.iload_n 0, 1) := by decide +kernel
theorem dX4_fitsClass_21 : decode cX4_fitsClass 21 = .ok (.iconst 2, 1) := by decide +kernel
theorem dX4_fitsClass_22 : decode cX4_fitsClass 22 = .ok (.if_icmp .ne 12, 3) := by decide +kernel
theorem dX4_fitsClass_25 : decode cX4_fitsClass 25 = .ok (.iload_n 1, 1) := by decide +kernel
theorem dX4_fitsClass_26 : decode cX4_fitsClass 26 = .ok (.iconst 5, 1) := by decide +kernel
theorem dX4_fitsClass_27 : decode cX4_fitsClass 27 = .ok (.if_icmp .ne 7, 3) := by decide +kernel
theorem dX4_fitsClass_30 : decode cX4_fitsClass 30 = .ok (.iconst 1, 1) := by decide +kernel
theorem dX4_fitsClass_31 : decode cX4_fitsClass 31 = .ok (.goto 4, 3) := by decide +kernel
theorem dX4_fitsClass_34 : decode cX4_fitsClass 34 = .ok (.iconst 0, 1) := by decide +kernel
theorem dX4_fitsClass_35 : decode cX4_fitsClass 35 = .ok (.ireturn, 1) := by decide +kernel
set_option maxRecDepth 20000 in
theorem ggX4_thing_X4_isPlace : GoodIn wsX4_thing wsX4_isPlace := goodIn_r _ [11, 12, 13, 14, 10, 15] (by decide +kernel) (by decide +kernel)
set_option maxRecDepth 20000 in
theorem gX4_thing_X4_isPlace : GoodIn wsX4_thing (va_wsS RX4 48 yX4_isPlace wsX4_isPlace) := goodIn_app (goodIn_of _ (by decide +kernel)) ggX4_thing_X4_isPlace
set_option maxRecDepth 20000 in
theorem ggX4_thing_X4_within : GoodIn wsX4_thing wsX4_within := goodIn_r _ [15] (by decide +kernel) (by decide +kernel)
set_option maxRecDepth 20000 in
theorem gX4_thing_X4_within : GoodIn wsX4_thing (va_wsS RX4 33 yX4_within wsX4_within) := goodIn_app (goodIn_of _ (by decide +kernel)) ggX4_thing_X4_within
set_option maxRecDepth 20000 in
theorem ggX4_thing_X4_wantsItem : GoodIn wsX4_thing wsX4_wantsItem := goodIn_r _ [19, 20, 21, 22, 10, 23, 4, 24, 25, 26, 27, 28, 13, 14, 15, 29, 30, 31, 32, 33, 51, 52, 53, 54, 55, 56, 57, 58, 59, 60, 61] (by decide +kernel) (by decide +kernel)
set_option maxRecDepth 20000 in
theorem gX4_thing_X4_wantsItem : GoodIn wsX4_thing (wsV RX4 78 RX4 yX4_wantsItem wsX4_wantsItem) := goodIn_app (goodIn_of _ (by decide +kernel)) ggX4_thing_X4_wantsItem
set_option maxRecDepth 20000 in
theorem ggX4_thing_X4_kindOf : GoodIn wsX4_thing wsX4_kindOf := goodIn_r _ [27, 4, 28, 51, 52, 53, 54, 55, 56, 57, 58, 59, 60, 61] (by decide +kernel) (by decide +kernel)
set_option maxRecDepth 20000 in
theorem gX4_thing_X4_kindOf : GoodIn wsX4_thing (wsV RX4 66 RX4 yX4_kindOf wsX4_kindOf) := goodIn_app (goodIn_of _ (by decide +kernel)) ggX4_thing_X4_kindOf
set_option maxRecDepth 20000 in
theorem ggX4_thing_X4_fitsClass : GoodIn wsX4_thing wsX4_fitsClass := goodIn_r _ [36] (by decide +kernel) (by decide +kernel)
set_option maxRecDepth 20000 in
theorem gX4_thing_X4_fitsClass : GoodIn wsX4_thing (va_wsS RX4 92 yX4_fitsClass wsX4_fitsClass) := goodIn_app (goodIn_of _ (by decide +kernel)) ggX4_thing_X4_fitsClass
set_option maxRecDepth 20000 in
theorem ggX4_thing_X4_no : GoodIn wsX4_thing wsX4_no := goodIn_r _ [40, 41, 51, 52, 53, 54, 55, 56, 57, 58, 59, 60, 61] (by decide +kernel) (by decide +kernel)
set_option maxRecDepth 20000 in
theorem gX4_thing_X4_no : GoodIn wsX4_thing (wsV RX4 55 RX4 yX4_no wsX4_no) := goodIn_app (goodIn_of _ (by decide +kernel)) ggX4_thing_X4_no
set_option maxRecDepth 20000 in
theorem ggX4_thing_X4_put : GoodIn wsX4_thing wsX4_put := goodIn_r _ [45, 46, 51, 52, 53, 54, 55, 56, 57, 58, 59, 60, 61] (by decide +kernel) (by decide +kernel)
set_option maxRecDepth 20000 in
theorem gX4_thing_X4_put : GoodIn wsX4_thing (wsV RX4 44 RX4 yX4_put wsX4_put) := goodIn_app (goodIn_of _ (by decide +kernel)) ggX4_thing_X4_put
set_option maxRecDepth 20000 in
theorem ggX4_thing_X4_yes : GoodIn wsX4_thing wsX4_yes := goodIn_r _ [50, 41, 51, 52, 53, 54, 55, 56, 57, 58, 59, 60, 61] (by decide +kernel) (by decide +kernel)
set_option maxRecDepth 20000 in
theorem gX4_thing_X4_yes : GoodIn wsX4_thing (wsV RX4 63 RX4 yX4_yes wsX4_yes) := goodIn_app (goodIn_of _ (by decide +kernel)) ggX4_thing_X4_yes
theorem dX4_thing_0 : decode cX4_thing 0 = .ok (.iload_n 1, 1) := by decide +kernel
theorem dX4_thing_1 : decode cX4_thing 1 = .ok (.invokestatic 48, 3) := by decide +kernel
theorem dX4_thing_4 : decode cX4_thing 4 = .ok (.ifCond .eq 17, 3) := by decide +kernel
theorem dX4_thing_7 : decode cX4_thing 7 = .ok (.iload_n 3, 1) := by decide +kernel
theorem dX4_thing_8 : decode cX4_thing 8 = .ok (.i2l, 1) := by decide +kernel
theorem dX4_thing_9 : decode cX4_thing 9 = .ok (.ldc2_w 88, 3) := by decide +kernel
theorem dX4_thing_12 : decode cX4_thing 12 = .ok (.ldc2_w 90, 3) := by decide +kernel
theorem dX4_thing_15 : decode cX4_thing 15 = .ok (.invokestatic 33, 3) := by decide +kernel
theorem dX4_thing_18 : decode cX4_thing 18 = .ok (.ifCond .ne 6, 3) := by decide +kernel
theorem dX4_thing_21 : decode cX4_thing 21 = .ok (.ldc 54, 2) := by decide +kernel
theorem dX4_thing_23 : decode cX4_thing 23 = .ok (.ireturn, 1) := by decide +kernel
theorem dX4_thing_24 : decode cX4_thing 24 = .ok (.aload_n 0, 1) := by decide +kernel
theorem dX4_thing_25 : decode cX4_thing 25 = .ok (.iload_n 1, 1) := by decide +kernel
theorem dX4_thing_26 : decode cX4_thing 26 = .ok (.iconst 3, 1) := by decide +kernel
theorem dX4_thing_27 : decode cX4_thing 27 = .ok (.iconst 5, 1) := by decide +kernel
theorem dX4_thing_28 : decode cX4_thing 28 = .ok (.iload_n 2, 1) := by decide +kernel
theorem dX4_thing_29 : decode cX4_thing 29 = .ok (.invokevirtual 78, 3) := by decide +kernel
theorem dX4_thing_32 : decode cX4_thing 32 = .ok (.istore 5, 2) := by decide +kernel
theorem dX4_thing_34 : decode cX4_thing 34 = .ok (.iload 5, 2) := by decide +kernel
theorem dX4_thing_36 : decode cX4_thing 36 = .ok (.ifCond .ne 18, 3) := by decide +kernel
theorem dX4_thing_39 : decode cX4_thing 39 = .ok (.iload_n 3, 1) := by decide +kernel
theorem dX4_thing_40 : decode cX4_thing 40 = .ok (.aload_n 0, 1) := by decide +kernel
theorem dX4_thing_41 : decode cX4_thing 41 = .ok (.iload_n 1, 1) := by decide +kernel
theorem dX4_thing_42 : decode cX4_thing 42 = .ok (.invokevirtual 66, 3) := by decide +kernel
theorem dX4_thing_45 : decode cX4_thing 45 = .ok (.invokestatic 92, 3) := by decide +kernel
theorem dX4_thing_48 : decode cX4_thing 48 = .ok (.ifCond .ne 6, 3) := by decide +kernel
theorem dX4_thing_51 : decode cX4_thing 51 = .ok (.iconst 2, 1) := by decide +kernel
theorem dX4_thing_52 : decode cX4_thing 52 = .ok (.istore 5, 2) := by decide +kernel
theorem dX4_thing_54 : decode cX4_thing 54 = .ok (.iload 5, 2) := by decide +kernel
theorem dX4_thing_56 : decode cX4_thing 56 = .ok (.ifCond .eq 10, 3) := by decide +kernel
theorem dX4_thing_59 : decode cX4_thing 59 = .ok (.aload_n 0, 1) := by decide +kernel
theorem dX4_thing_60 : decode cX4_thing 60 = .ok (.iload 5, 2) := by decide +kernel
theorem dX4_thing_62 : decode cX4_thing 62 = .ok (.invokevirtual 55, 3) := by decide +kernel
theorem dX4_thing_65 : decode cX4_thing 65 = .ok (.ireturn, 1) := by decide +kernel
theorem dX4_thing_66 : decode cX4_thing 66 = .ok (.iload_n 3, 1) := by decide +kernel
theorem dX4_thing_67 : decode cX4_thing 67 = .ok (.iconst (-1), 1) := by decide +kernel
theorem dX4_thing_68 : decode cX4_thing 68 = .ok (.if_icmp .ne 21, 3) := by decide +kernel
theorem dX4_thing_71 : decode cX4_thing 71 = .ok (.aload_n 0, 1) := by decide +kernel
theorem dX4_thing_72 : decode cX4_thing 72 = .ok (.aload_n 0, 1) := by decide +kernel
theorem dX4_thing_73 : decode cX4_thing 73 = .ok (.getfield 7, 3) := by decide +kernel
theorem dX4_thing_76 : decode cX4_thing 76 = .ok (.iload_n 1, 1) := by decide +kernel
theorem dX4_thing_77 : decode cX4_thing 77 = .ok (.iaload, 1) := by decide +kernel
theorem dX4_thing_78 : decode cX4_thing 78 = .ok (.iload_n 2, 1) := by decide +kernel
theorem dX4_thing_79 : decode cX4_thing 79 = .ok (.iconst (-1), 1) := by decide +kernel
theorem dX4_thing_80 : decode cX4_thing 80 = .ok (.invokevirtual 44, 3) := by decide +kernel
theorem dX4_thing_83 : decode cX4_thing 83 = .ok (.aload_n 0, 1) := by decide +kernel
theorem dX4_thing_84 : decode cX4_thing 84 = .ok (.iconst 1, 1) := by decide +kernel
theorem dX4_thing_85 : decode cX4_thing 85 = .ok (.invokevirtual 63, 3) := by decide +kernel
theorem dX4_thing_88 : decode cX4_thing 88 = .ok (.ireturn, 1) := by decide +kernel
theorem dX4_thing_89 : decode cX4_thing 89 = .ok (.aload_n 0, 1) := by decide +kernel
theorem dX4_thing_90 : decode cX4_thing 90 = .ok (.getfield 22, 3) := by decide +kernel
theorem dX4_thing_93 : decode cX4_thing 93 = .ok (.aload_n 0, 1) := by decide +kernel
theorem dX4_thing_94 : decode cX4_thing 94 = .ok (.getfield 96, 3) := by decide +kernel
theorem dX4_thing_97 : decode cX4_thing 97 = .ok (.iload_n 3, 1) := by decide +kernel
theorem dX4_thing_98 : decode cX4_thing 98 = .ok (.iastore, 1) := by decide +kernel
theorem dX4_thing_99 : decode cX4_thing 99 = .ok (.aload_n 0, 1) := by decide +kernel
theorem dX4_thing_100 : decode cX4_thing 100 = .ok (.getfield 25, 3) := by decide +kernel
theorem dX4_thing_103 : decode cX4_thing 103 = .ok (.aload_n 0, 1) := by decide +kernel
theorem dX4_thing_104 : decode cX4_thing 104 = .ok (.getfield 96, 3) := by decide +kernel
theorem dX4_thing_107 : decode cX4_thing 107 = .ok (.iload 4, 2) := by decide +kernel
theorem dX4_thing_109 : decode cX4_thing 109 = .ok (.iastore, 1) := by decide +kernel
theorem dX4_thing_110 : decode cX4_thing 110 = .ok (.aload_n 0, 1) := by decide +kernel
theorem dX4_thing_111 : decode cX4_thing 111 = .ok (.aload_n 0, 1) := by decide +kernel
theorem dX4_thing_112 : decode cX4_thing 112 = .ok (.getfield 7, 3) := by decide +kernel
theorem dX4_thing_115 : decode cX4_thing 115 = .ok (.iload_n 1, 1) := by decide +kernel
theorem dX4_thing_116 : decode cX4_thing 116 = .ok (.iaload, 1) := by decide +kernel
theorem dX4_thing_117 : decode cX4_thing 117 = .ok (.iload_n 2, 1) := by decide +kernel
theorem dX4_thing_118 : decode cX4_thing 118 = .ok (.aload_n 0, 1) := by decide +kernel
theorem dX4_thing_119 : decode cX4_thing 119 = .ok (.getfield 96, 3) := by decide +kernel
theorem dX4_thing_122 : decode cX4_thing 122 = .ok (.invokevirtual 44, 3) := by decide +kernel
theorem dX4_thing_125 : decode cX4_thing 125 = .ok (.aload_n 0, 1) := by decide +kernel
theorem dX4_thing_126 : decode cX4_thing 126 = .ok (.dup, 1) := by decide +kernel
theorem dX4_thing_127 : decode cX4_thing 127 = .ok (.getfield 96, 3) := by decide +kernel
theorem dX4_thing_130 : decode cX4_thing 130 = .ok (.iconst 1, 1) := by decide +kernel
theorem dX4_thing_131 : decode cX4_thing 131 = .ok (.iadd, 1) := by decide +kernel
theorem dX4_thing_132 : decode cX4_thing 132 = .ok (.putfield 96, 3) := by decide +kernel
theorem dX4_thing_135 : decode cX4_thing 135 = .ok (.aload_n 0, 1) := by decide +kernel
theorem dX4_thing_136 : decode cX4_thing 136 = .ok (.iconst 1, 1) := by decide +kernel
theorem dX4_thing_137 : decode cX4_thing 137 = .ok (.invokevirtual 63, 3) := by decide +kernel
theorem dX4_thing_140 : decode cX4_thing 140 = .ok (.ireturn, 1) := by decide +kernel
set_option maxRecDepth 20000 in
theorem ggX4_hang_X4_isPlace : GoodIn wsX4_hang wsX4_isPlace := goodIn_r _ [6, 7, 8, 9, 5, 10] (by decide +kernel) (by decide +kernel)
set_option maxRecDepth 20000 in
theorem gX4_hang_X4_isPlace : GoodIn wsX4_hang (va_wsS RX4 48 yX4_isPlace wsX4_isPlace) := goodIn_app (goodIn_of _ (by decide +kernel)) ggX4_hang_X4_isPlace
set_option maxRecDepth 20000 in
theorem ggX4_hang_X4_wantsRow : GoodIn wsX4_hang wsX4_wantsRow := goodIn_r _ [14, 2, 39, 40, 41, 42, 43, 44, 45, 46, 47, 48, 49] (by decide +kernel) (by decide +kernel)
set_option maxRecDepth 20000 in
theorem gX4_hang_X4_wantsRow : GoodIn wsX4_hang (wsV RX4 72 RX4 yX4_wantsRow wsX4_wantsRow) := goodIn_app (goodIn_of _ (by decide +kernel)) ggX4_hang_X4_wantsRow
set_option maxRecDepth 20000 in
theorem ggX4_hang_X4_kindOf : GoodIn wsX4_hang wsX4_kindOf := goodIn_r _ [18, 2, 19, 39, 40, 41, 42, 43, 44, 45, 46, 47, 48, 49] (by decide +kernel) (by decide +kernel)
set_option maxRecDepth 20000 in
theorem gX4_hang_X4_kindOf : GoodIn wsX4_hang (wsV RX4 66 RX4 yX4_kindOf wsX4_kindOf) := goodIn_app (goodIn_of _ (by decide +kernel)) ggX4_hang_X4_kindOf
set_option maxRecDepth 20000 in
theorem ggX4_hang_X4_lengthOf : GoodIn wsX4_hang wsX4_lengthOf := goodIn_r _ [23, 24, 2, 39, 40, 41, 42, 43, 44, 45, 46, 47, 48, 49] (by decide +kernel) (by decide +kernel)
set_option maxRecDepth 20000 in
theorem gX4_hang_X4_lengthOf : GoodIn wsX4_hang (wsV RX4 75 RX4 yX4_lengthOf wsX4_lengthOf) := goodIn_app (goodIn_of _ (by decide +kernel)) ggX4_hang_X4_lengthOf
set_option maxRecDepth 20000 in
theorem ggX4_hang_X4_within : GoodIn wsX4_hang wsX4_within := goodIn_r _ [10] (by decide +kernel) (by decide +kernel)
set_option maxRecDepth 20000 in
theorem gX4_hang_X4_within : GoodIn wsX4_hang (va_wsS RX4 33 yX4_within wsX4_within) := goodIn_app (goodIn_of _ (by decide +kernel)) ggX4_hang_X4_within
set_option maxRecDepth 20000 in
theorem ggX4_hang_X4_no : GoodIn wsX4_hang wsX4_no := goodIn_r _ [28, 29, 39, 40, 41, 42, 43, 44, 45, 46, 47, 48, 49] (by decide +kernel) (by decide +kernel)
set_option maxRecDepth 20000 in
theorem gX4_hang_X4_no : GoodIn wsX4_hang (wsV RX4 55 RX4 yX4_no wsX4_no) := goodIn_app (goodIn_of _ (by decide +kernel)) ggX4_hang_X4_no
set_option maxRecDepth 20000 in
theorem ggX4_hang_X4_put : GoodIn wsX4_hang wsX4_put := goodIn_r _ [33, 34, 39, 40, 41, 42, 43, 44, 45, 46, 47, 48, 49] (by decide +kernel) (by decide +kernel)
set_option maxRecDepth 20000 in
theorem gX4_hang_X4_put : GoodIn wsX4_hang (wsV RX4 44 RX4 yX4_put wsX4_put) := goodIn_app (goodIn_of _ (by decide +kernel)) ggX4_hang_X4_put
set_option maxRecDepth 20000 in
theorem ggX4_hang_X4_yes : GoodIn wsX4_hang wsX4_yes := goodIn_r _ [38, 29, 39, 40, 41, 42, 43, 44, 45, 46, 47, 48, 49] (by decide +kernel) (by decide +kernel)
set_option maxRecDepth 20000 in
theorem gX4_hang_X4_yes : GoodIn wsX4_hang (wsV RX4 63 RX4 yX4_yes wsX4_yes) := goodIn_app (goodIn_of _ (by decide +kernel)) ggX4_hang_X4_yes
theorem dX4_hang_0 : decode cX4_hang 0 = .ok (.iload_n 1, 1) := by decide +kernel
theorem dX4_hang_1 : decode cX4_hang 1 = .ok (.invokestatic 48, 3) := by decide +kernel
theorem dX4_hang_4 : decode cX4_hang 4 = .ok (.ifCond .eq 10, 3) := by decide +kernel
theorem dX4_hang_7 : decode cX4_hang 7 = .ok (.iload_n 3, 1) := by decide +kernel
theorem dX4_hang_8 : decode cX4_hang 8 = .ok (.invokestatic 48, 3) := by decide +kernel
theorem dX4_hang_11 : decode cX4_hang 11 = .ok (.ifCond .ne 6, 3) := by decide +kernel
theorem dX4_hang_14 : decode cX4_hang 14 = .ok (.ldc 54, 2) := by decide +kernel
theorem dX4_hang_16 : decode cX4_hang 16 = .ok (.ireturn, 1) := by decide +kernel
theorem dX4_hang_17 : decode cX4_hang 17 = .ok (.aload_n 0, 1) := by decide +kernel
theorem dX4_hang_18 : decode cX4_hang 18 = .ok (.iload_n 1, 1) := by decide +kernel
theorem dX4_hang_19 : decode cX4_hang 19 = .ok (.invokevirtual 72, 3) := by decide +kernel
theorem dX4_hang_22 : decode cX4_hang 22 = .ok (.istore 4, 2) := by decide +kernel
theorem dX4_hang_24 : decode cX4_hang 24 = .ok (.iload 4, 2) := by decide +kernel
theorem dX4_hang_26 : decode cX4_hang 26 = .ok (.ifCond .ne 33, 3) := by decide +kernel
theorem dX4_hang_29 : decode cX4_hang 29 = .ok (.aload_n 0, 1) := by decide +kernel
theorem dX4_hang_30 : decode cX4_hang 30 = .ok (.iload_n 1, 1) := by decide +kernel
theorem dX4_hang_31 : decode cX4_hang 31 = .ok (.invokevirtual 66, 3) := by decide +kernel
theorem dX4_hang_34 : decode cX4_hang 34 = .ok (.iconst 2, 1) := by decide +kernel
theorem dX4_hang_35 : decode cX4_hang 35 = .ok (.if_icmp .ne 21, 3) := by decide +kernel
theorem dX4_hang_38 : decode cX4_hang 38 = .ok (.aload_n 0, 1) := by decide +kernel
theorem dX4_hang_39 : decode cX4_hang 39 = .ok (.iload_n 3, 1) := by decide +kernel
theorem dX4_hang_40 : decode cX4_hang 40 = .ok (.invokevirtual 66, 3) := by decide +kernel
theorem dX4_hang_43 : decode cX4_hang 43 = .ok (.iconst (-1), 1) := by decide +kernel
theorem dX4_hang_44 : decode cX4_hang 44 = .ok (.if_icmp .eq 15, 3) := by decide +kernel
theorem dX4_hang_47 : decode cX4_hang 47 = .ok (.aload_n 0, 1) := by decide +kernel
theorem dX4_hang_48 : decode cX4_hang 48 = .ok (.iload_n 3, 1) := by decide +kernel
theorem dX4_hang_49 : decode cX4_hang 49 = .ok (.invokevirtual 66, 3) := by decide +kernel
theorem dX4_hang_52 : decode cX4_hang 52 = .ok (.iconst 1, 1) := by decide +kernel
theorem dX4_hang_53 : decode cX4_hang 53 = .ok (.if_icmp .eq 6, 3) := by decide +kernel
theorem dX4_hang_56 : decode cX4_hang 56 = .ok (.iconst 5, 1) := by decide +kernel
theorem dX4_hang_57 : decode cX4_hang 57 = .ok (.istore 4, 2) := by decide +kernel
theorem dX4_hang_59 : decode cX4_hang 59 = .ok (.iload 4, 2) := by decide +kernel
theorem dX4_hang_61 : decode cX4_hang 61 = .ok (.ifCond .ne 23, 3) := by decide +kernel
theorem dX4_hang_64 : decode cX4_hang 64 = .ok (.iload_n 2, 1) := by decide +kernel
theorem dX4_hang_65 : decode cX4_hang 65 = .ok (.i2l, 1) := by decide +kernel
theorem dX4_hang_66 : decode cX4_hang 66 = .ok (.lconst 0, 1) := by decide +kernel
theorem dX4_hang_67 : decode cX4_hang 67 = .ok (.aload_n 0, 1) := by decide +kernel
theorem dX4_hang_68 : decode cX4_hang 68 = .ok (.iload_n 1, 1) := by decide +kernel
theorem dX4_hang_69 : decode cX4_hang 69 = .ok (.invokevirtual 75, 3) := by decide +kernel
theorem dX4_hang_72 : decode cX4_hang 72 = .ok (.iconst 1, 1) := by decide +kernel
theorem dX4_hang_73 : decode cX4_hang 73 = .ok (.isub, 1) := by decide +kernel
theorem dX4_hang_74 : decode cX4_hang 74 = .ok (.i2l, 1) := by decide +kernel
theorem dX4_hang_75 : decode cX4_hang 75 = .ok (.invokestatic 33, 3) := by decide +kernel
theorem dX4_hang_78 : decode cX4_hang 78 = .ok (.ifCond .ne 6, 3) := by decide +kernel
theorem dX4_hang_81 : decode cX4_hang 81 = .ok (.iconst 3, 1) := by decide +kernel
theorem dX4_hang_82 : decode cX4_hang 82 = .ok (.istore 4, 2) := by decide +kernel
theorem dX4_hang_84 : decode cX4_hang 84 = .ok (.iload 4, 2) := by decide +kernel
theorem dX4_hang_86 : decode cX4_hang 86 = .ok (.ifCond .eq 10, 3) := by decide +kernel
theorem dX4_hang_89 : decode cX4_hang 89 = .ok (.aload_n 0, 1) := by decide +kernel
theorem dX4_hang_90 : decode cX4_hang 90 = .ok (.iload 4, 2) := by decide +kernel
theorem dX4_hang_92 : decode cX4_hang 92 = .ok (.invokevirtual 55, 3) := by decide +kernel
theorem dX4_hang_95 : decode cX4_hang 95 = .ok (.ireturn, 1) := by decide +kernel
theorem dX4_hang_96 : decode cX4_hang 96 = .ok (.aload_n 0, 1) := by decide +kernel
theorem dX4_hang_97 : decode cX4_hang 97 = .ok (.aload_n 0, 1) := by decide +kernel
theorem dX4_hang_98 : decode cX4_hang 98 = .ok (.getfield 7, 3) := by decide +kernel
theorem dX4_hang_101 : decode cX4_hang 101 = .ok (.iload_n 1, 1) := by decide +kernel
theorem dX4_hang_102 : decode cX4_hang 102 = .ok (.iaload, 1) := by decide +kernel
theorem dX4_hang_103 : decode cX4_hang 103 = .ok (.iload_n 2, 1) := by decide +kernel
theorem dX4_hang_104 : decode cX4_hang 104 = .ok (.aload_n 0, 1) := by decide +kernel
theorem dX4_hang_105 : decode cX4_hang 105 = .ok (.getfield 7, 3) := by decide +kernel
theorem dX4_hang_108 : decode cX4_hang 108 = .ok (.iload_n 3, 1) := by decide +kernel
theorem dX4_hang_109 : decode cX4_hang 109 = .ok (.iaload, 1) := by decide +kernel
theorem dX4_hang_110 : decode cX4_hang 110 = .ok (.invokevirtual 44, 3) := by decide +kernel
theorem dX4_hang_113 : decode cX4_hang 113 = .ok (.aload_n 0, 1) := by decide +kernel
theorem dX4_hang_114 : decode cX4_hang 114 = .ok (.iconst 1, 1) := by decide +kernel
theorem dX4_hang_115 : decode cX4_hang 115 = .ok (.invokevirtual 63, 3) := by decide +kernel
theorem dX4_hang_118 : decode cX4_hang 118 = .ok (.ireturn, 1) := by decide +kernel
set_option maxRecDepth 20000 in
theorem ggX4_item_X4_isPlace : GoodIn wsX4_item wsX4_isPlace := goodIn_r _ [8, 9, 10, 11, 7, 12] (by decide +kernel) (by decide +kernel)
set_option maxRecDepth 20000 in
theorem gX4_item_X4_isPlace : GoodIn wsX4_item (va_wsS RX4 48 yX4_isPlace wsX4_isPlace) := goodIn_app (goodIn_of _ (by decide +kernel)) ggX4_item_X4_isPlace
set_option maxRecDepth 20000 in
theorem ggX4_item_X4_wantsItem : GoodIn wsX4_item wsX4_wantsItem := goodIn_r _ [16, 17, 18, 19, 7, 20, 2, 21, 22, 23, 24, 25, 10, 11, 12, 26, 27, 28, 29, 3, 44, 45, 46, 47, 48, 49, 50, 51, 52, 53, 54] (by decide +kernel) (by decide +kernel)
set_option maxRecDepth 20000 in
theorem gX4_item_X4_wantsItem : GoodIn wsX4_item (wsV RX4 78 RX4 yX4_wantsItem wsX4_wantsItem) := goodIn_app (goodIn_of _ (by decide +kernel)) ggX4_item_X4_wantsItem
set_option maxRecDepth 20000 in
theorem ggX4_item_X4_no : GoodIn wsX4_item wsX4_no := goodIn_r _ [33, 34, 44, 45, 46, 47, 48, 49, 50, 51, 52, 53, 54] (by decide +kernel) (by decide +kernel)
set_option maxRecDepth 20000 in
theorem gX4_item_X4_no : GoodIn wsX4_item (wsV RX4 55 RX4 yX4_no wsX4_no) := goodIn_app (goodIn_of _ (by decide +kernel)) ggX4_item_X4_no
set_option maxRecDepth 20000 in
theorem ggX4_item_X4_get : GoodIn wsX4_item wsX4_get := goodIn_r _ [38, 39, 44, 45, 46, 47, 48, 49, 50, 51, 52, 53, 54] (by decide +kernel) (by decide +kernel)
set_option maxRecDepth 20000 in
theorem gX4_item_X4_get : GoodIn wsX4_item (wsV RX4 82 RX4 yX4_get wsX4_get) := goodIn_app (goodIn_of _ (by decide +kernel)) ggX4_item_X4_get
set_option maxRecDepth 20000 in
theorem ggX4_item_X4_kindOf : GoodIn wsX4_item wsX4_kindOf := goodIn_r _ [24, 2, 25, 44, 45, 46, 47, 48, 49, 50, 51, 52, 53, 54] (by decide +kernel) (by decide +kernel)
set_option maxRecDepth 20000 in
theorem gX4_item_X4_kindOf : GoodIn wsX4_item (wsV RX4 66 RX4 yX4_kindOf wsX4_kindOf) := goodIn_app (goodIn_of _ (by decide +kernel)) ggX4_item_X4_kindOf
set_option maxRecDepth 20000 in
theorem ggX4_item_X4_yes : GoodIn wsX4_item wsX4_yes := goodIn_r _ [43, 34, 44, 45, 46, 47, 48, 49, 50, 51, 52, 53, 54] (by decide +kernel) (by decide +kernel)
set_option maxRecDepth 20000 in
theorem gX4_item_X4_yes : GoodIn wsX4_item (wsV RX4 63 RX4 yX4_yes wsX4_yes) := goodIn_app (goodIn_of _ (by decide +kernel)) ggX4_item_X4_yes
theorem dX4_item_0 : decode cX4_item 0 = .ok (.iload_n 1, 1) := by decide +kernel
theorem dX4_item_1 : decode cX4_item 1 = .ok (.invokestatic 48, 3) := by decide +kernel
theorem dX4_item_4 : decode cX4_item 4 = .ok (.ifCond .ne 6, 3) := by decide +kernel
theorem dX4_item_7 : decode cX4_item 7 = .ok (.ldc 54, 2) := by decide +kernel
theorem dX4_item_9 : decode cX4_item 9 = .ok (.ireturn, 1) := by decide +kernel
theorem dX4_item_10 : decode cX4_item 10 = .ok (.aload_n 0, 1) := by decide +kernel
theorem dX4_item_11 : decode cX4_item 11 = .ok (.iload_n 1, 1) := by decide +kernel
theorem dX4_item_12 : decode cX4_item 12 = .ok (.iconst 0, 1) := by decide +kernel
theorem dX4_item_13 : decode cX4_item 13 = .ok (.iconst 5, 1) := by decide +kernel
theorem dX4_item_14 : decode cX4_item 14 = .ok (.iload_n 2, 1) := by decide +kernel
theorem dX4_item_15 : decode cX4_item 15 = .ok (.invokevirtual 78, 3) := by decide +kernel
theorem dX4_item_18 : decode cX4_item 18 = .ok (.istore_n 3, 1) := by decide +kernel
theorem dX4_item_19 : decode cX4_item 19 = .ok (.iload_n 3, 1) := by decide +kernel
theorem dX4_item_20 : decode cX4_item 20 = .ok (.ifCond .eq 9, 3) := by decide +kernel
theorem dX4_item_23 : decode cX4_item 23 = .ok (.aload_n 0, 1) := by decide +kernel
theorem dX4_item_24 : decode cX4_item 24 = .ok (.iload_n 3, 1) := by decide +kernel
theorem dX4_item_25 : decode cX4_item 25 = .ok (.invokevirtual 55, 3) := by decide +kernel
theorem dX4_item_28 : decode cX4_item 28 = .ok (.ireturn, 1) := by decide +kernel
theorem dX4_item_29 : decode cX4_item 29 = .ok (.aload_n 0, 1) := by decide +kernel
theorem dX4_item_30 : decode cX4_item 30 = .ok (.aload_n 0, 1) := by decide +kernel
theorem dX4_item_31 : decode cX4_item 31 = .ok (.getfield 7, 3) := by decide +kernel
theorem dX4_item_34 : decode cX4_item 34 = .ok (.iload_n 1, 1) := by decide +kernel
theorem dX4_item_35 : decode cX4_item 35 = .ok (.iaload, 1) := by decide +kernel
theorem dX4_item_36 : decode cX4_item 36 = .ok (.iload_n 2, 1) := by decide +kernel
theorem dX4_item_37 : decode cX4_item 37 = .ok (.invokevirtual 82, 3) := by decide +kernel
theorem dX4_item_40 : decode cX4_item 40 = .ok (.istore 4, 2) := by decide +kernel
theorem dX4_item_42 : decode cX4_item 42 = .ok (.aload_n 0, 1) := by decide +kernel
theorem dX4_item_43 : decode cX4_item 43 = .ok (.iload_n 1, 1) := by decide +kernel
theorem dX4_item_44 : decode cX4_item 44 = .ok (.invokevirtual 66, 3) := by decide +kernel
theorem dX4_item_47 : decode cX4_item 47 = .ok (.istore 5, 2) := by decide +kernel
theorem dX4_item_49 : decode cX4_item 49 = .ok (.iload 5, 2) := by decide +kernel
theorem dX4_item_51 : decode cX4_item 51 = .ok (.iconst 2, 1) := by decide +kernel
theorem dX4_item_52 : decode cX4_item 52 = .ok (.if_icmp .ge 10, 3) := by decide +kernel
theorem dX4_item_55 : decode cX4_item 55 = .ok (.aload_n 0, 1) := by decide +kernel
theorem dX4_item_56 : decode cX4_item 56 = .ok (.iload 4, 2) := by decide +kernel
theorem dX4_item_58 : decode cX4_item 58 = .ok (.invokevirtual 63, 3) := by decide +kernel
theorem dX4_item_61 : decode cX4_item 61 = .ok (.ireturn, 1) := by decide +kernel
theorem dX4_item_62 : decode cX4_item 62 = .ok (.iload 4, 2) := by decide +kernel
theorem dX4_item_64 : decode cX4_item 64 = .ok (.iconst (-1), 1) := by decide +kernel
theorem dX4_item_65 : decode cX4_item 65 = .ok (.if_icmp .ne 9, 3) := by decide +kernel
theorem dX4_item_68 : decode cX4_item 68 = .ok (.aload_n 0, 1) := by decide +kernel
theorem dX4_item_69 : decode cX4_item 69 = .ok (.iconst 1, 1) := by decide +kernel
theorem dX4_item_70 : decode cX4_item 70 = .ok (.invokevirtual 55, 3) := by decide +kernel
theorem dX4_item_73 : decode cX4_item 73 = .ok (.ireturn, 1) := by decide +kernel
theorem dX4_item_74 : decode cX4_item 74 = .ok (.aload_n 0, 1) := by decide +kernel
theorem dX4_item_75 : decode cX4_item 75 = .ok (.iload 5, 2) := by decide +kernel
theorem dX4_item_77 : decode cX4_item 77 = .ok (.iconst 2, 1) := by decide +kernel
theorem dX4_item_78 : decode cX4_item 78 = .ok (.if_icmp .ne 13, 3) := by decide +kernel
theorem dX4_item_81 : decode cX4_item 81 = .ok (.aload_n 0, 1) := by decide +kernel
theorem dX4_item_82 : decode cX4_item 82 = .ok (.getfield 16, 3) := by decide +kernel
theorem dX4_item_85 : decode cX4_item 85 = .ok (.iload 4, 2) := by decide +kernel
theorem dX4_item_87 : decode cX4_item 87 = .ok (.iaload, 1) := by decide +kernel
theorem dX4_item_88 : decode cX4_item 88 = .ok (.goto 10, 3) := by decide +kernel
theorem dX4_item_91 : decode cX4_item 91 = .ok (.aload_n 0, 1) := by decide +kernel
theorem dX4_item_92 : decode cX4_item 92 = .ok (.getfield 25, 3) := by decide +kernel
theorem dX4_item_95 : decode cX4_item 95 = .ok (.iload 4, 2) := by decide +kernel
theorem dX4_item_97 : decode cX4_item 97 = .ok (.iaload, 1) := by decide +kernel
theorem dX4_item_98 : decode cX4_item 98 = .ok (.invokevirtual 63, 3) := by decide +kernel
theorem dX4_item_101 : decode cX4_item 101 = .ok (.ireturn, 1) := by decide +kernel
set_option maxRecDepth 20000 in
theorem ggX4_classOf_X4_isPlace : GoodIn wsX4_classOf wsX4_isPlace := goodIn_r _ [7, 8, 9, 10, 6, 11] (by decide +kernel) (by decide +kernel)
set_option maxRecDepth 20000 in
theorem gX4_classOf_X4_isPlace : GoodIn wsX4_classOf (va_wsS RX4 48 yX4_isPlace wsX4_isPlace) := goodIn_app (goodIn_of _ (by decide +kernel)) ggX4_classOf_X4_isPlace
set_option maxRecDepth 20000 in
theorem ggX4_classOf_X4_wantsItem : GoodIn wsX4_classOf wsX4_wantsItem := goodIn_r _ [15, 16, 17, 18, 6, 19, 2, 20, 21, 22, 23, 24, 9, 10, 11, 25, 26, 27, 28, 29, 44, 45, 46, 47, 48, 49, 50, 51, 52, 53, 54] (by decide +kernel) (by decide +kernel)
set_option maxRecDepth 20000 in
theorem gX4_classOf_X4_wantsItem : GoodIn wsX4_classOf (wsV RX4 78 RX4 yX4_wantsItem wsX4_wantsItem) := goodIn_app (goodIn_of _ (by decide +kernel)) ggX4_classOf_X4_wantsItem
set_option maxRecDepth 20000 in
theorem ggX4_classOf_X4_no : GoodIn wsX4_classOf wsX4_no := goodIn_r _ [33, 34, 44, 45, 46, 47, 48, 49, 50, 51, 52, 53, 54] (by decide +kernel) (by decide +kernel)
set_option maxRecDepth 20000 in
theorem gX4_classOf_X4_no : GoodIn wsX4_classOf (wsV RX4 55 RX4 yX4_no wsX4_no) := goodIn_app (goodIn_of _ (by decide +kernel)) ggX4_classOf_X4_no
set_option maxRecDepth 20000 in
theorem ggX4_classOf_X4_get : GoodIn wsX4_classOf wsX4_get := goodIn_r _ [38, 39, 44, 45, 46, 47, 48, 49, 50, 51, 52, 53, 54] (by decide +kernel) (by decide +kernel)
set_option maxRecDepth 20000 in
theorem gX4_classOf_X4_get : GoodIn wsX4_classOf (wsV RX4 82 RX4 yX4_get wsX4_get) := goodIn_app (goodIn_of _ (by decide +kernel)) ggX4_classOf_X4_get
set_option maxRecDepth 20000 in
theorem ggX4_classOf_X4_yes : GoodIn wsX4_classOf wsX4_yes := goodIn_r _ [43, 34, 44, 45, 46, 47, 48, 49, 50, 51, 52, 53, 54] (by decide +kernel) (by decide +kernel)
set_option maxRecDepth 20000 in
theorem gX4_classOf_X4_yes : GoodIn wsX4_classOf (wsV RX4 63 RX4 yX4_yes wsX4_yes) := goodIn_app (goodIn_of _ (by decide +kernel)) ggX4_classOf_X4_yes
theorem dX4_classOf_0 : decode cX4_classOf 0 = .ok (.iload_n 1, 1) := by decide +kernel
theorem dX4_classOf_1 : decode cX4_classOf 1 = .ok (.invokestatic 48, 3) := by decide +kernel
theorem dX4_classOf_4 : decode cX4_classOf 4 = .ok (.ifCond .ne 6, 3) := by decide +kernel
theorem dX4_classOf_7 : decode cX4_classOf 7 = .ok (.ldc 54, 2) := by decide +kernel
theorem dX4_classOf_9 : decode cX4_classOf 9 = .ok (.ireturn, 1) := by decide +kernel
theorem dX4_classOf_10 : decode cX4_classOf 10 = .ok (.aload_n 0, 1) := by decide +kernel
theorem dX4_classOf_11 : decode cX4_classOf 11 = .ok (.iload_n 1, 1) := by decide +kernel
theorem dX4_classOf_12 : decode cX4_classOf 12 = .ok (.iconst 3, 1) := by decide +kernel
theorem dX4_classOf_13 : decode cX4_classOf 13 = .ok (.iconst 5, 1) := by decide +kernel
theorem dX4_classOf_14 : decode cX4_classOf 14 = .ok (.iload_n 2, 1) := by decide +kernel
theorem dX4_classOf_15 : decode cX4_classOf 15 = .ok (.invokevirtual 78, 3) := by decide +kernel
theorem dX4_classOf_18 : decode cX4_classOf 18 = .ok (.istore_n 3, 1) := by decide +kernel
theorem dX4_classOf_19 : decode cX4_classOf 19 = .ok (.iload_n 3, 1) := by decide +kernel
theorem dX4_classOf_20 : decode cX4_classOf 20 = .ok (.ifCond .eq 9, 3) := by decide +kernel
theorem dX4_classOf_23 : decode cX4_classOf 23 = .ok (.aload_n 0, 1) := by decide +kernel
theorem dX4_classOf_24 : decode cX4_classOf 24 = .ok (.iload_n 3, 1) := by decide +kernel
theorem dX4_classOf_25 : decode cX4_classOf 25 = .ok (.invokevirtual 55, 3) := by decide +kernel
theorem dX4_classOf_28 : decode cX4_classOf 28 = .ok (.ireturn, 1) := by decide +kernel
theorem dX4_classOf_29 : decode cX4_classOf 29 = .ok (.aload_n 0, 1) := by decide +kernel
theorem dX4_classOf_30 : decode cX4_classOf 30 = .ok (.aload_n 0, 1) := by decide +kernel
theorem dX4_classOf_31 : decode cX4_classOf 31 = .ok (.getfield 7, 3) := by decide +kernel
theorem dX4_classOf_34 : decode cX4_classOf 34 = .ok (.iload_n 1, 1) := by decide +kernel
theorem dX4_classOf_35 : decode cX4_classOf 35 = .ok (.iaload, 1) := by decide +kernel
theorem dX4_classOf_36 : decode cX4_classOf 36 = .ok (.iload_n 2, 1) := by decide +kernel
theorem dX4_classOf_37 : decode cX4_classOf 37 = .ok (.invokevirtual 82, 3) := by decide +kernel
theorem dX4_classOf_40 : decode cX4_classOf 40 = .ok (.istore 4, 2) := by decide +kernel
theorem dX4_classOf_42 : decode cX4_classOf 42 = .ok (.aload_n 0, 1) := by decide +kernel
theorem dX4_classOf_43 : decode cX4_classOf 43 = .ok (.iload 4, 2) := by decide +kernel
theorem dX4_classOf_45 : decode cX4_classOf 45 = .ok (.iconst (-1), 1) := by decide +kernel
theorem dX4_classOf_46 : decode cX4_classOf 46 = .ok (.if_icmp .ne 7, 3) := by decide +kernel
theorem dX4_classOf_49 : decode cX4_classOf 49 = .ok (.iconst (-1), 1) := by decide +kernel
theorem dX4_classOf_50 : decode cX4_classOf 50 = .ok (.goto 10, 3) := by decide +kernel
theorem dX4_classOf_53 : decode cX4_classOf 53 = .ok (.aload_n 0, 1) := by decide +kernel
theorem dX4_classOf_54 : decode cX4_classOf 54 = .ok (.getfield 22, 3) := by decide +kernel
theorem dX4_classOf_57 : decode cX4_classOf 57 = .ok (.iload 4, 2) := by decide +kernel
theorem dX4_classOf_59 : decode cX4_classOf 59 = .ok (.iaload, 1) := by decide +kernel
theorem dX4_classOf_60 : decode cX4_classOf 60 = .ok (.invokevirtual 63, 3) := by decide +kernel
theorem dX4_classOf_63 : decode cX4_classOf 63 = .ok (.ireturn, 1) := by decide +kernel
set_option maxRecDepth 20000 in
theorem ggX4_fits_X4_fitsClass : GoodIn wsX4_fits wsX4_fitsClass := goodIn_r _ [5] (by decide +kernel) (by decide +kernel)
set_option maxRecDepth 20000 in
theorem gX4_fits_X4_fitsClass : GoodIn wsX4_fits (va_wsS RX4 92 yX4_fitsClass wsX4_fitsClass) := goodIn_app (goodIn_of _ (by decide +kernel)) ggX4_fits_X4_fitsClass
theorem dX4_fits_0 : decode cX4_fits 0 = .ok (.iload_n 2, 1) := by decide +kernel
theorem dX4_fits_1 : decode cX4_fits 1 = .ok (.iconst (-1), 1) := by decide +kernel
theorem dX4_fits_2 : decode cX4_fits 2 = .ok (.if_icmp .ne 5, 3) := by decide +kernel
theorem dX4_fits_5 : decode cX4_fits 5 = .ok (.iconst 1, 1) := by decide +kernel
theorem dX4_fits_6 : decode cX4_fits 6 = .ok (.ireturn, 1) := by decide +kernel
theorem dX4_fits_7 : decode cX4_fits 7 = .ok (.iload_n 1, 1) := by decide +kernel
theorem dX4_fits_8 : decode cX4_fits 8 = .ok (.iconst 2, 1) := by decide +kernel
theorem dX4_fits_9 : decode cX4_fits 9 = .ok (.if_icmp .eq 8, 3) := by decide +kernel
theorem dX4_fits_12 : decode cX4_fits 12 = .ok (.iload_n 3, 1) := by decide +kernel
theorem dX4_fits_13 : decode cX4_fits 13 = .ok (.iconst 2, 1) := by decide +kernel
theorem dX4_fits_14 : decode cX4_fits 14 = .ok (.if_icmp .ne 14, 3) := by decide +kernel
theorem dX4_fits_17 : decode cX4_fits 17 = .ok (.iload_n 1, 1) := by decide +kernel
theorem dX4_fits_18 : decode cX4_fits 18 = .ok (.iload_n 3, 1) := by decide +kernel
theorem dX4_fits_19 : decode cX4_fits 19 = .ok (.if_icmp .ne 7, 3) := by decide +kernel
theorem dX4_fits_22 : decode cX4_fits 22 = .ok (.iconst 1, 1) := by decide +kernel
theorem dX4_fits_23 : decode cX4_fits 23 = .ok (.goto 4, 3) := by decide +kernel
theorem dX4_fits_26 : decode cX4_fits 26 = .ok (.iconst 0, 1) := by decide +kernel
theorem dX4_fits_27 : decode cX4_fits 27 = .ok (.ireturn, 1) := by decide +kernel
theorem dX4_fits_28 : decode cX4_fits 28 = .ok (.aload_n 0, 1) := by decide +kernel
theorem dX4_fits_29 : decode cX4_fits 29 = .ok (.getfield 22, 3) := by decide +kernel
theorem dX4_fits_32 : decode cX4_fits 32 = .ok (.iload_n 2, 1) := by decide +kernel
theorem dX4_fits_33 : decode cX4_fits 33 = .ok (.iaload, 1) := by decide +kernel
theorem dX4_fits_34 : decode cX4_fits 34 = .ok (.iload_n 3, 1) := by decide +kernel
theorem dX4_fits_35 : decode cX4_fits 35 = .ok (.invokestatic 92, 3) := by decide +kernel
theorem dX4_fits_38 : decode cX4_fits 38 = .ok (.ireturn, 1) := by decide +kernel
set_option maxRecDepth 20000 in
theorem ggX4_unlike_X4_kindOf : GoodIn wsX4_unlike wsX4_kindOf := goodIn_r _ [6, 1, 7, 8, 9, 10, 11, 12, 13, 14, 15, 16, 17, 18] (by decide +kernel) (by decide +kernel)
set_option maxRecDepth 20000 in
theorem gX4_unlike_X4_kindOf : GoodIn wsX4_unlike (wsV RX4 66 RX4 yX4_kindOf wsX4_kindOf) := goodIn_app (goodIn_of _ (by decide +kernel)) ggX4_unlike_X4_kindOf
theorem dX4_unlike_0 : decode cX4_unlike 0 = .ok (.aload_n 0, 1) := by decide +kernel
theorem dX4_unlike_1 : decode cX4_unlike 1 = .ok (.getfield 7, 3) := by decide +kernel
theorem dX4_unlike_4 : decode cX4_unlike 4 = .ok (.iload_n 1, 1) := by decide +kernel
theorem dX4_unlike_5 : decode cX4_unlike 5 = .ok (.iaload, 1) := by decide +kernel
theorem dX4_unlike_6 : decode cX4_unlike 6 = .ok (.iconst (-1), 1) := by decide +kernel
theorem dX4_unlike_7 : decode cX4_unlike 7 = .ok (.if_icmp .eq 13, 3) := by decide +kernel
theorem dX4_unlike_10 : decode cX4_unlike 10 = .ok (.aload_n 0, 1) := by decide +kernel
theorem dX4_unlike_11 : decode cX4_unlike 11 = .ok (.getfield 7, 3) := by decide +kernel
theorem dX4_unlike_14 : decode cX4_unlike 14 = .ok (.iload_n 2, 1) := by decide +kernel
theorem dX4_unlike_15 : decode cX4_unlike 15 = .ok (.iaload, 1) := by decide +kernel
theorem dX4_unlike_16 : decode cX4_unlike 16 = .ok (.iconst (-1), 1) := by decide +kernel
theorem dX4_unlike_17 : decode cX4_unlike 17 = .ok (.if_icmp .ne 5, 3) := by decide +kernel
theorem dX4_unlike_20 : decode cX4_unlike 20 = .ok (.iconst 1, 1) := by decide +kernel
theorem dX4_unlike_21 : decode cX4_unlike 21 = .ok (.ireturn, 1) := by decide +kernel
theorem dX4_unlike_22 : decode cX4_unlike 22 = .ok (.aload_n 0, 1) := by decide +kernel
theorem dX4_unlike_23 : decode cX4_unlike 23 = .ok (.iload_n 1, 1) := by decide +kernel
theorem dX4_unlike_24 : decode cX4_unlike 24 = .ok (.invokevirtual 66, 3) := by decide +kernel
theorem dX4_unlike_27 : decode cX4_unlike 27 = .ok (.istore_n 3, 1) := by decide +kernel
theorem dX4_unlike_28 : decode cX4_unlike 28 = .ok (.aload_n 0, 1) := by decide +kernel
theorem dX4_unlike_29 : decode cX4_unlike 29 = .ok (.iload_n 2, 1) := by decide +kernel
theorem dX4_unlike_30 : decode cX4_unlike 30 = .ok (.invokevirtual 66, 3) := by decide +kernel
theorem dX4_unlike_33 : decode cX4_unlike 33 = .ok (.istore 4, 2) := by decide +kernel
theorem dX4_unlike_35 : decode cX4_unlike 35 = .ok (.iload_n 3, 1) := by decide +kernel
theorem dX4_unlike_36 : decode cX4_unlike 36 = .ok (.bipush 6, 2) := by decide +kernel
theorem dX4_unlike_38 : decode cX4_unlike 38 = .ok (.if_icmp .eq 27, 3) := by decide +kernel
theorem dX4_unlike_41 : decode cX4_unlike 41 = .ok (.iload 4, 2) := by decide +kernel
theorem dX4_unlike_43 : decode cX4_unlike 43 = .ok (.bipush 6, 2) := by decide +kernel
theorem dX4_unlike_45 : decode cX4_unlike 45 = .ok (.if_icmp .eq 20, 3) := by decide +kernel
theorem dX4_unlike_48 : decode cX4_unlike 48 = .ok (.iload_n 3, 1) := by decide +kernel
theorem dX4_unlike_49 : decode cX4_unlike 49 = .ok (.iconst 2, 1) := by decide +kernel
theorem dX4_unlike_50 : decode cX4_unlike 50 = .ok (.if_icmp .lt 9, 3) := by decide +kernel
theorem dX4_unlike_53 : decode cX4_unlike 53 = .ok (.iload 4, 2) := by decide +kernel
theorem dX4_unlike_55 : decode cX4_unlike 55 = .ok (.iconst 2, 1) := by decide +kernel
theorem dX4_unlike_56 : decode cX4_unlike 56 = .ok (.if_icmp .ge 13, 3) := by decide +kernel
theorem dX4_unlike_59 : decode cX4_unlike 59 = .ok (.iload_n 3, 1) := by decide +kernel
theorem dX4_unlike_60 : decode cX4_unlike 60 = .ok (.iload 4, 2) := by decide +kernel
theorem dX4_unlike_62 : decode cX4_unlike 62 = .ok (.if_icmp .eq 7, 3) := by decide +kernel
theorem dX4_unlike_65 : decode cX4_unlike 65 = .ok (.iconst 2, 1) := by decide +kernel
theorem dX4_unlike_66 : decode cX4_unlike 66 = .ok (.goto 4, 3) := by decide +kernel
theorem dX4_unlike_69 : decode cX4_unlike 69 = .ok (.iconst 0, 1) := by decide +kernel
theorem dX4_unlike_70 : decode cX4_unlike 70 = .ok (.ireturn, 1) := by decide +kernel
set_option maxRecDepth 20000 in
theorem ggX4_move_X4_isPlace : GoodIn wsX4_move wsX4_isPlace := goodIn_r _ [9, 10, 11, 12, 8, 13] (by decide +kernel) (by decide +kernel)
set_option maxRecDepth 20000 in
theorem gX4_move_X4_isPlace : GoodIn wsX4_move (va_wsS RX4 48 yX4_isPlace wsX4_isPlace) := goodIn_app (goodIn_of _ (by decide +kernel)) ggX4_move_X4_isPlace
set_option maxRecDepth 20000 in
theorem ggX4_move_X4_unlike : GoodIn wsX4_move wsX4_unlike := goodIn_r _ [17, 2, 18, 19, 20, 8, 21, 4, 52, 53, 54, 55, 56, 57, 58, 59, 60, 61, 62] (by decide +kernel) (by decide +kernel)
set_option maxRecDepth 20000 in
theorem gX4_move_X4_unlike : GoodIn wsX4_move (wsV RX4 99 RX4 yX4_unlike wsX4_unlike) := goodIn_app (goodIn_of _ (by decide +kernel)) ggX4_move_X4_unlike
set_option maxRecDepth 20000 in
theorem ggX4_move_X4_lengthOf : GoodIn wsX4_move wsX4_lengthOf := goodIn_r _ [25, 26, 2, 52, 53, 54, 55, 56, 57, 58, 59, 60, 61, 62] (by decide +kernel) (by decide +kernel)
set_option maxRecDepth 20000 in
theorem gX4_move_X4_lengthOf : GoodIn wsX4_move (wsV RX4 75 RX4 yX4_lengthOf wsX4_lengthOf) := goodIn_app (goodIn_of _ (by decide +kernel)) ggX4_move_X4_lengthOf
set_option maxRecDepth 20000 in
theorem ggX4_move_X4_no : GoodIn wsX4_move wsX4_no := goodIn_r _ [30, 5, 52, 53, 54, 55, 56, 57, 58, 59, 60, 61, 62] (by decide +kernel) (by decide +kernel)
set_option maxRecDepth 20000 in
theorem gX4_move_X4_no : GoodIn wsX4_move (wsV RX4 55 RX4 yX4_no wsX4_no) := goodIn_app (goodIn_of _ (by decide +kernel)) ggX4_move_X4_no
set_option maxRecDepth 20000 in
theorem ggX4_move_X4_get : GoodIn wsX4_move wsX4_get := goodIn_r _ [34, 35, 52, 53, 54, 55, 56, 57, 58, 59, 60, 61, 62] (by decide +kernel) (by decide +kernel)
set_option maxRecDepth 20000 in
theorem gX4_move_X4_get : GoodIn wsX4_move (wsV RX4 82 RX4 yX4_get wsX4_get) := goodIn_app (goodIn_of _ (by decide +kernel)) ggX4_move_X4_get
set_option maxRecDepth 20000 in
theorem ggX4_move_X4_fits : GoodIn wsX4_move wsX4_fits := goodIn_r _ [39, 40, 41, 42, 8, 43, 52, 53, 54, 55, 56, 57, 58, 59, 60, 61, 62] (by decide +kernel) (by decide +kernel)
set_option maxRecDepth 20000 in
theorem gX4_move_X4_fits : GoodIn wsX4_move (wsV RX4 102 RX4 yX4_fits wsX4_fits) := goodIn_app (goodIn_of _ (by decide +kernel)) ggX4_move_X4_fits
set_option maxRecDepth 20000 in
theorem ggX4_move_X4_put : GoodIn wsX4_move wsX4_put := goodIn_r _ [47, 35, 52, 53, 54, 55, 56, 57, 58, 59, 60, 61, 62] (by decide +kernel) (by decide +kernel)
set_option maxRecDepth 20000 in
theorem gX4_move_X4_put : GoodIn wsX4_move (wsV RX4 44 RX4 yX4_put wsX4_put) := goodIn_app (goodIn_of _ (by decide +kernel)) ggX4_move_X4_put
set_option maxRecDepth 20000 in
theorem ggX4_move_X4_yes : GoodIn wsX4_move wsX4_yes := goodIn_r _ [51, 5, 52, 53, 54, 55, 56, 57, 58, 59, 60, 61, 62] (by decide +kernel) (by decide +kernel)
set_option maxRecDepth 20000 in
theorem gX4_move_X4_yes : GoodIn wsX4_move (wsV RX4 63 RX4 yX4_yes wsX4_yes) := goodIn_app (goodIn_of _ (by decide +kernel)) ggX4_move_X4_yes
theorem dX4_move_0 : decode cX4_move 0 = .ok (.iload_n 1, 1) := by decide +kernel
theorem dX4_move_1 : decode cX4_move 1 = .ok (.invokestatic 48, 3) := by decide +kernel
theorem dX4_move_4 : decode cX4_move 4 = .ok (.ifCond .eq 10, 3) := by decide +kernel
theorem dX4_move_7 : decode cX4_move 7 = .ok (.iload_n 3, 1) := by decide +kernel
theorem dX4_move_8 : decode cX4_move 8 = .ok (.invokestatic 48, 3) := by decide +kernel
theorem dX4_move_11 : decode cX4_move 11 = .ok (.ifCond .ne 6, 3) := by decide +kernel
theorem dX4_move_14 : decode cX4_move 14 = .ok (.ldc 54, 2) := by decide +kernel
theorem dX4_move_16 : decode cX4_move 16 = .ok (.ireturn, 1) := by decide +kernel
theorem dX4_move_17 : decode cX4_move 17 = .ok (.aload_n 0, 1) := by decide +kernel
theorem dX4_move_18 : decode cX4_move 18 = .ok (.iload_n 1, 1) := by decide +kernel
theorem dX4_move_19 : decode cX4_move 19 = .ok (.iload_n 3, 1) := by decide +kernel
theorem dX4_move_20 : decode cX4_move 20 = .ok (.invokevirtual 99, 3) := by decide +kernel
theorem dX4_move_23 : decode cX4_move 23 = .ok (.istore 6, 2) := by decide +kernel
theorem dX4_move_25 : decode cX4_move 25 = .ok (.iload 6, 2) := by decide +kernel
theorem dX4_move_27 : decode cX4_move 27 = .ok (.ifCond .ne 53, 3) := by decide +kernel
theorem dX4_move_30 : decode cX4_move 30 = .ok (.iload_n 2, 1) := by decide +kernel
theorem dX4_move_31 : decode cX4_move 31 = .ok (.ifCond .lt 46, 3) := by decide +kernel
theorem dX4_move_34 : decode cX4_move 34 = .ok (.iload 4, 2) := by decide +kernel
theorem dX4_move_36 : decode cX4_move 36 = .ok (.ifCond .lt 41, 3) := by decide +kernel
theorem dX4_move_39 : decode cX4_move 39 = .ok (.iload 5, 2) := by decide +kernel
theorem dX4_move_41 : decode cX4_move 41 = .ok (.ifCond .lt 36, 3) := by decide +kernel
theorem dX4_move_44 : decode cX4_move 44 = .ok (.iload_n 2, 1) := by decide +kernel
theorem dX4_move_45 : decode cX4_move 45 = .ok (.i2l, 1) := by decide +kernel
theorem dX4_move_46 : decode cX4_move 46 = .ok (.iload 5, 2) := by decide +kernel
theorem dX4_move_48 : decode cX4_move 48 = .ok (.i2l, 1) := by decide +kernel
theorem dX4_move_49 : decode cX4_move 49 = .ok (.ladd, 1) := by decide +kernel
theorem dX4_move_50 : decode cX4_move 50 = .ok (.aload_n 0, 1) := by decide +kernel
theorem dX4_move_51 : decode cX4_move 51 = .ok (.iload_n 1, 1) := by decide +kernel
theorem dX4_move_52 : decode cX4_move 52 = .ok (.invokevirtual 75, 3) := by decide +kernel
theorem dX4_move_55 : decode cX4_move 55 = .ok (.i2l, 1) := by decide +kernel
theorem dX4_move_56 : decode cX4_move 56 = .ok (.lcmp, 1) := by decide +kernel
theorem dX4_move_57 : decode cX4_move 57 = .ok (.ifCond .gt 20, 3) := by decide +kernel
theorem dX4_move_60 : decode cX4_move 60 = .ok (.iload 4, 2) := by decide +kernel
theorem dX4_move_62 : decode cX4_move 62 = .ok (.i2l, 1) := by decide +kernel
theorem dX4_move_63 : decode cX4_move 63 = .ok (.iload 5, 2) := by decide +kernel
theorem dX4_move_65 : decode cX4_move 65 = .ok (.i2l, 1) := by decide +kernel
theorem dX4_move_66 : decode cX4_move 66 = .ok (.ladd, 1) := by decide +kernel
theorem dX4_move_67 : decode cX4_move 67 = .ok (.aload_n 0, 1) := by decide +kernel
theorem dX4_move_68 : decode cX4_move 68 = .ok (.iload_n 3, 1) := by decide +kernel
theorem dX4_move_69 : decode cX4_move 69 = .ok (.invokevirtual 75, 3) := by decide +kernel
theorem dX4_move_72 : decode cX4_move 72 = .ok (.i2l, 1) := by decide +kernel
theorem dX4_move_73 : decode cX4_move 73 = .ok (.lcmp, 1) := by decide +kernel
theorem dX4_move_74 : decode cX4_move 74 = .ok (.ifCond .le 6, 3) := by decide +kernel
theorem dX4_move_77 : decode cX4_move 77 = .ok (.iconst 3, 1) := by decide +kernel
theorem dX4_move_78 : decode cX4_move 78 = .ok (.istore 6, 2) := by decide +kernel
theorem dX4_move_80 : decode cX4_move 80 = .ok (.iload 6, 2) := by decide +kernel
theorem dX4_move_82 : decode cX4_move 82 = .ok (.ifCond .eq 10, 3) := by decide +kernel
theorem dX4_move_85 : decode cX4_move 85 = .ok (.aload_n 0, 1) := by decide +kernel
theorem dX4_move_86 : decode cX4_move 86 = .ok (.iload 6, 2) := by decide +kernel
theorem dX4_move_88 : decode cX4_move 88 = .ok (.invokevirtual 55, 3) := by decide +kernel
theorem dX4_move_91 : decode cX4_move 91 = .ok (.ireturn, 1) := by decide +kernel
theorem dX4_move_92 : decode cX4_move 92 = .ok (.aload_n 0, 1) := by decide +kernel
theorem dX4_move_93 : decode cX4_move 93 = .ok (.getfield 7, 3) := by decide +kernel
theorem dX4_move_96 : decode cX4_move 96 = .ok (.iload_n 1, 1) := by decide +kernel
theorem dX4_move_97 : decode cX4_move 97 = .ok (.iaload, 1) := by decide +kernel
theorem dX4_move_98 : decode cX4_move 98 = .ok (.istore 7, 2) := by decide +kernel
theorem dX4_move_100 : decode cX4_move 100 = .ok (.aload_n 0, 1) := by decide +kernel
theorem dX4_move_101 : decode cX4_move 101 = .ok (.getfield 7, 3) := by decide +kernel
theorem dX4_move_104 : decode cX4_move 104 = .ok (.iload_n 3, 1) := by decide +kernel
theorem dX4_move_105 : decode cX4_move 105 = .ok (.iaload, 1) := by decide +kernel
theorem dX4_move_106 : decode cX4_move 106 = .ok (.istore 8, 2) := by decide +kernel
theorem dX4_move_108 : decode cX4_move 108 = .ok (.iconst 0, 1) := by decide +kernel
theorem dX4_move_109 : decode cX4_move 109 = .ok (.istore 9, 2) := by decide +kernel
theorem dX4_move_111 : decode cX4_move 111 = .ok (.iload 9, 2) := by decide +kernel
theorem dX4_move_113 : decode cX4_move 113 = .ok (.iload 5, 2) := by decide +kernel
theorem dX4_move_115 : decode cX4_move 115 = .ok (.if_icmp .ge 26, 3) := by decide +kernel
theorem dX4_move_118 : decode cX4_move 118 = .ok (.aload_n 0, 1) := by decide +kernel
theorem dX4_move_119 : decode cX4_move 119 = .ok (.getfield 28, 3) := by decide +kernel
theorem dX4_move_122 : decode cX4_move 122 = .ok (.iload 9, 2) := by decide +kernel
theorem dX4_move_124 : decode cX4_move 124 = .ok (.aload_n 0, 1) := by decide +kernel
theorem dX4_move_125 : decode cX4_move 125 = .ok (.iload 7, 2) := by decide +kernel
theorem dX4_move_127 : decode cX4_move 127 = .ok (.iload_n 2, 1) := by decide +kernel
theorem dX4_move_128 : decode cX4_move 128 = .ok (.iload 9, 2) := by decide +kernel
theorem dX4_move_130 : decode cX4_move 130 = .ok (.iadd, 1) := by decide +kernel
theorem dX4_move_131 : decode cX4_move 131 = .ok (.invokevirtual 82, 3) := by decide +kernel
theorem dX4_move_134 : decode cX4_move 134 = .ok (.iastore, 1) := by decide +kernel
theorem dX4_move_135 : decode cX4_move 135 = .ok (.iinc 9 1, 3) := by decide +kernel
theorem dX4_move_138 : decode cX4_move 138 = .ok (.goto (-27), 3) := by decide +kernel
theorem dX4_move_141 : decode cX4_move 141 = .ok (.iconst 0, 1) := by decide +kernel
theorem dX4_move_142 : decode cX4_move 142 = .ok (.istore 9, 2) := by decide +kernel
theorem dX4_move_144 : decode cX4_move 144 = .ok (.iload 9, 2) := by decide +kernel
theorem dX4_move_146 : decode cX4_move 146 = .ok (.iload 5, 2) := by decide +kernel
theorem dX4_move_148 : decode cX4_move 148 = .ok (.if_icmp .ge 74, 3) := by decide +kernel
theorem dX4_move_151 : decode cX4_move 151 = .ok (.aload_n 0, 1) := by decide +kernel
theorem dX4_move_152 : decode cX4_move 152 = .ok (.getfield 13, 3) := by decide +kernel
theorem dX4_move_155 : decode cX4_move 155 = .ok (.iload 7, 2) := by decide +kernel
theorem dX4_move_157 : decode cX4_move 157 = .ok (.iaload, 1) := by decide +kernel
theorem dX4_move_158 : decode cX4_move 158 = .ok (.iconst 2, 1) := by decide +kernel
theorem dX4_move_159 : decode cX4_move 159 = .ok (.if_icmp .lt 39, 3) := by decide +kernel
theorem dX4_move_162 : decode cX4_move 162 = .ok (.aload_n 0, 1) := by decide +kernel
theorem dX4_move_163 : decode cX4_move 163 = .ok (.aload_n 0, 1) := by decide +kernel
theorem dX4_move_164 : decode cX4_move 164 = .ok (.getfield 13, 3) := by decide +kernel
theorem dX4_move_167 : decode cX4_move 167 = .ok (.iload 7, 2) := by decide +kernel
theorem dX4_move_169 : decode cX4_move 169 = .ok (.iaload, 1) := by decide +kernel
theorem dX4_move_170 : decode cX4_move 170 = .ok (.aload_n 0, 1) := by decide +kernel
theorem dX4_move_171 : decode cX4_move 171 = .ok (.getfield 28, 3) := by decide +kernel
theorem dX4_move_174 : decode cX4_move 174 = .ok (.iload 9, 2) := by decide +kernel
theorem dX4_move_176 : decode cX4_move 176 = .ok (.iaload, 1) := by decide +kernel
theorem dX4_move_177 : decode cX4_move 177 = .ok (.aload_n 0, 1) := by decide +kernel
theorem dX4_move_178 : decode cX4_move 178 = .ok (.getfield 13, 3) := by decide +kernel
theorem dX4_move_181 : decode cX4_move 181 = .ok (.iload 8, 2) := by decide +kernel
theorem dX4_move_183 : decode cX4_move 183 = .ok (.iaload, 1) := by decide +kernel
theorem dX4_move_184 : decode cX4_move 184 = .ok (.invokevirtual 102, 3) := by decide +kernel
theorem dX4_move_187 : decode cX4_move 187 = .ok (.ifCond .ne 11, 3) := by decide +kernel
theorem dX4_move_190 : decode cX4_move 190 = .ok (.aload_n 0, 1) := by decide +kernel
theorem dX4_move_191 : decode cX4_move 191 = .ok (.iconst 2, 1) := by decide +kernel
theorem dX4_move_192 : decode cX4_move 192 = .ok (.putfield 37, 3) := by decide +kernel
theorem dX4_move_195 : decode cX4_move 195 = .ok (.iload 9, 2) := by decide +kernel
theorem dX4_move_197 : decode cX4_move 197 = .ok (.ireturn, 1) := by decide +kernel
theorem dX4_move_198 : decode cX4_move 198 = .ok (.aload_n 0, 1) := by decide +kernel
theorem dX4_move_199 : decode cX4_move 199 = .ok (.iload 8, 2) := by decide +kernel
theorem dX4_move_201 : decode cX4_move 201 = .ok (.iload 4, 2) := by decide +kernel
theorem dX4_move_203 : decode cX4_move 203 = .ok (.iload 9, 2) := by decide +kernel
theorem dX4_move_205 : decode cX4_move 205 = .ok (.iadd, 1) := by decide +kernel
theorem dX4_move_206 : decode cX4_move 206 = .ok (.aload_n 0, 1) := by decide +kernel
theorem dX4_move_207 : decode cX4_move 207 = .ok (.getfield 28, 3) := by decide +kernel
theorem dX4_move_210 : decode cX4_move 210 = .ok (.iload 9, 2) := by decide +kernel
theorem dX4_move_212 : decode cX4_move 212 = .ok (.iaload, 1) := by decide +kernel
theorem dX4_move_213 : decode cX4_move 213 = .ok (.invokevirtual 44, 3) := by decide +kernel
theorem dX4_move_216 : decode cX4_move 216 = .ok (.iinc 9 1, 3) := by decide +kernel
theorem dX4_move_219 : decode cX4_move 219 = .ok (.goto (-75), 3) := by decide +kernel
theorem dX4_move_222 : decode cX4_move 222 = .ok (.aload_n 0, 1) := by decide +kernel
theorem dX4_move_223 : decode cX4_move 223 = .ok (.iload 5, 2) := by decide +kernel
theorem dX4_move_225 : decode cX4_move 225 = .ok (.invokevirtual 63, 3) := by decide +kernel
theorem dX4_move_228 : decode cX4_move 228 = .ok (.ireturn, 1) := by decide +kernel
set_option maxRecDepth 20000 in
theorem ggX4_loop_X4_isPlace : GoodIn wsX4_loop wsX4_isPlace := goodIn_r _ [9, 10, 11, 12, 8, 13] (by decide +kernel) (by decide +kernel)
set_option maxRecDepth 20000 in
theorem gX4_loop_X4_isPlace : GoodIn wsX4_loop (va_wsS RX4 48 yX4_isPlace wsX4_isPlace) := goodIn_app (goodIn_of _ (by decide +kernel)) ggX4_loop_X4_isPlace
set_option maxRecDepth 20000 in
theorem ggX4_loop_X4_unlike : GoodIn wsX4_loop wsX4_unlike := goodIn_r _ [17, 2, 18, 19, 20, 8, 21, 5, 47, 48, 49, 50, 51, 52, 53, 54, 55, 56, 57] (by decide +kernel) (by decide +kernel)
set_option maxRecDepth 20000 in
theorem gX4_loop_X4_unlike : GoodIn wsX4_loop (wsV RX4 99 RX4 yX4_unlike wsX4_unlike) := goodIn_app (goodIn_of _ (by decide +kernel)) ggX4_loop_X4_unlike
set_option maxRecDepth 20000 in
theorem ggX4_loop_X4_no : GoodIn wsX4_loop wsX4_no := goodIn_r _ [25, 4, 47, 48, 49, 50, 51, 52, 53, 54, 55, 56, 57] (by decide +kernel) (by decide +kernel)
set_option maxRecDepth 20000 in
theorem gX4_loop_X4_no : GoodIn wsX4_loop (wsV RX4 55 RX4 yX4_no wsX4_no) := goodIn_app (goodIn_of _ (by decide +kernel)) ggX4_loop_X4_no
set_option maxRecDepth 20000 in
theorem ggX4_loop_X4_within : GoodIn wsX4_loop wsX4_within := goodIn_r _ [13] (by decide +kernel) (by decide +kernel)
set_option maxRecDepth 20000 in
theorem gX4_loop_X4_within : GoodIn wsX4_loop (va_wsS RX4 33 yX4_within wsX4_within) := goodIn_app (goodIn_of _ (by decide +kernel)) ggX4_loop_X4_within
set_option maxRecDepth 20000 in
theorem ggX4_loop_X4_get : GoodIn wsX4_loop wsX4_get := goodIn_r _ [29, 30, 47, 48, 49, 50, 51, 52, 53, 54, 55, 56, 57] (by decide +kernel) (by decide +kernel)
set_option maxRecDepth 20000 in
theorem gX4_loop_X4_get : GoodIn wsX4_loop (wsV RX4 82 RX4 yX4_get wsX4_get) := goodIn_app (goodIn_of _ (by decide +kernel)) ggX4_loop_X4_get
set_option maxRecDepth 20000 in
theorem ggX4_loop_X4_fits : GoodIn wsX4_loop wsX4_fits := goodIn_r _ [34, 35, 36, 37, 8, 38, 47, 48, 49, 50, 51, 52, 53, 54, 55, 56, 57] (by decide +kernel) (by decide +kernel)
set_option maxRecDepth 20000 in
theorem gX4_loop_X4_fits : GoodIn wsX4_loop (wsV RX4 102 RX4 yX4_fits wsX4_fits) := goodIn_app (goodIn_of _ (by decide +kernel)) ggX4_loop_X4_fits
set_option maxRecDepth 20000 in
theorem ggX4_loop_X4_put : GoodIn wsX4_loop wsX4_put := goodIn_r _ [42, 30, 47, 48, 49, 50, 51, 52, 53, 54, 55, 56, 57] (by decide +kernel) (by decide +kernel)
set_option maxRecDepth 20000 in
theorem gX4_loop_X4_put : GoodIn wsX4_loop (wsV RX4 44 RX4 yX4_put wsX4_put) := goodIn_app (goodIn_of _ (by decide +kernel)) ggX4_loop_X4_put
set_option maxRecDepth 20000 in
theorem ggX4_loop_X4_yes : GoodIn wsX4_loop wsX4_yes := goodIn_r _ [46, 4, 47, 48, 49, 50, 51, 52, 53, 54, 55, 56, 57] (by decide +kernel) (by decide +kernel)
set_option maxRecDepth 20000 in
theorem gX4_loop_X4_yes : GoodIn wsX4_loop (wsV RX4 63 RX4 yX4_yes wsX4_yes) := goodIn_app (goodIn_of _ (by decide +kernel)) ggX4_loop_X4_yes
theorem dX4_loop_0 : decode cX4_loop 0 = .ok (.iload_n 1, 1) := by decide +kernel
theorem dX4_loop_1 : decode cX4_loop 1 = .ok (.invokestatic 48, 3) := by decide +kernel
theorem dX4_loop_4 : decode cX4_loop 4 = .ok (.ifCond .eq 10, 3) := by decide +kernel
theorem dX4_loop_7 : decode cX4_loop 7 = .ok (.iload_n 3, 1) := by decide +kernel
theorem dX4_loop_8 : decode cX4_loop 8 = .ok (.invokestatic 48, 3) := by decide +kernel
theorem dX4_loop_11 : decode cX4_loop 11 = .ok (.ifCond .ne 6, 3) := by decide +kernel
theorem dX4_loop_14 : decode cX4_loop 14 = .ok (.ldc 54, 2) := by decide +kernel
theorem dX4_loop_16 : decode cX4_loop 16 = .ok (.ireturn, 1) := by decide +kernel
theorem dX4_loop_17 : decode cX4_loop 17 = .ok (.aload_n 0, 1) := by decide +kernel
theorem dX4_loop_18 : decode cX4_loop 18 = .ok (.iload_n 1, 1) := by decide +kernel
theorem dX4_loop_19 : decode cX4_loop 19 = .ok (.iload_n 3, 1) := by decide +kernel
theorem dX4_loop_20 : decode cX4_loop 20 = .ok (.invokevirtual 99, 3) := by decide +kernel
theorem dX4_loop_23 : decode cX4_loop 23 = .ok (.istore 6, 2) := by decide +kernel
theorem dX4_loop_25 : decode cX4_loop 25 = .ok (.iload 6, 2) := by decide +kernel
theorem dX4_loop_27 : decode cX4_loop 27 = .ok (.ifCond .eq 10, 3) := by decide +kernel
theorem dX4_loop_30 : decode cX4_loop 30 = .ok (.aload_n 0, 1) := by decide +kernel
theorem dX4_loop_31 : decode cX4_loop 31 = .ok (.iload 6, 2) := by decide +kernel
theorem dX4_loop_33 : decode cX4_loop 33 = .ok (.invokevirtual 55, 3) := by decide +kernel
theorem dX4_loop_36 : decode cX4_loop 36 = .ok (.ireturn, 1) := by decide +kernel
theorem dX4_loop_37 : decode cX4_loop 37 = .ok (.aload_n 0, 1) := by decide +kernel
theorem dX4_loop_38 : decode cX4_loop 38 = .ok (.getfield 7, 3) := by decide +kernel
theorem dX4_loop_41 : decode cX4_loop 41 = .ok (.iload_n 1, 1) := by decide +kernel
theorem dX4_loop_42 : decode cX4_loop 42 = .ok (.iaload, 1) := by decide +kernel
theorem dX4_loop_43 : decode cX4_loop 43 = .ok (.istore 7, 2) := by decide +kernel
theorem dX4_loop_45 : decode cX4_loop 45 = .ok (.aload_n 0, 1) := by decide +kernel
theorem dX4_loop_46 : decode cX4_loop 46 = .ok (.getfield 7, 3) := by decide +kernel
theorem dX4_loop_49 : decode cX4_loop 49 = .ok (.iload_n 3, 1) := by decide +kernel
theorem dX4_loop_50 : decode cX4_loop 50 = .ok (.iaload, 1) := by decide +kernel
theorem dX4_loop_51 : decode cX4_loop 51 = .ok (.istore 8, 2) := by decide +kernel
theorem dX4_loop_53 : decode cX4_loop 53 = .ok (.iconst 0, 1) := by decide +kernel
theorem dX4_loop_54 : decode cX4_loop 54 = .ok (.istore 9, 2) := by decide +kernel
theorem dX4_loop_56 : decode cX4_loop 56 = .ok (.iload 9, 2) := by decide +kernel
theorem dX4_loop_58 : decode cX4_loop 58 = .ok (.iload 5, 2) := by decide +kernel
theorem dX4_loop_60 : decode cX4_loop 60 = .ok (.if_icmp .ge 131, 3) := by decide +kernel
theorem dX4_loop_63 : decode cX4_loop 63 = .ok (.iload_n 2, 1) := by decide +kernel
theorem dX4_loop_64 : decode cX4_loop 64 = .ok (.i2l, 1) := by decide +kernel
theorem dX4_loop_65 : decode cX4_loop 65 = .ok (.iload 9, 2) := by decide +kernel
theorem dX4_loop_67 : decode cX4_loop 67 = .ok (.i2l, 1) := by decide +kernel
theorem dX4_loop_68 : decode cX4_loop 68 = .ok (.ladd, 1) := by decide +kernel
theorem dX4_loop_69 : decode cX4_loop 69 = .ok (.lconst 0, 1) := by decide +kernel
theorem dX4_loop_70 : decode cX4_loop 70 = .ok (.aload_n 0, 1) := by decide +kernel
theorem dX4_loop_71 : decode cX4_loop 71 = .ok (.getfield 16, 3) := by decide +kernel
theorem dX4_loop_74 : decode cX4_loop 74 = .ok (.iload 7, 2) := by decide +kernel
theorem dX4_loop_76 : decode cX4_loop 76 = .ok (.iaload, 1) := by decide +kernel
theorem dX4_loop_77 : decode cX4_loop 77 = .ok (.iconst 1, 1) := by decide +kernel
theorem dX4_loop_78 : decode cX4_loop 78 = .ok (.isub, 1) := by decide +kernel
theorem dX4_loop_79 : decode cX4_loop 79 = .ok (.i2l, 1) := by decide +kernel
theorem dX4_loop_80 : decode cX4_loop 80 = .ok (.invokestatic 33, 3) := by decide +kernel
theorem dX4_loop_83 : decode cX4_loop 83 = .ok (.ifCond .eq 27, 3) := by decide +kernel
theorem dX4_loop_86 : decode cX4_loop 86 = .ok (.iload 4, 2) := by decide +kernel
theorem dX4_loop_88 : decode cX4_loop 88 = .ok (.i2l, 1) := by decide +kernel
theorem dX4_loop_89 : decode cX4_loop 89 = .ok (.iload 9, 2) := by decide +kernel
theorem dX4_loop_91 : decode cX4_loop 91 = .ok (.i2l, 1) := by decide +kernel
theorem dX4_loop_92 : decode cX4_loop 92 = .ok (.ladd, 1) := by decide +kernel
theorem dX4_loop_93 : decode cX4_loop 93 = .ok (.lconst 0, 1) := by decide +kernel
theorem dX4_loop_94 : decode cX4_loop 94 = .ok (.aload_n 0, 1) := by decide +kernel
theorem dX4_loop_95 : decode cX4_loop 95 = .ok (.getfield 16, 3) := by decide +kernel
theorem dX4_loop_98 : decode cX4_loop 98 = .ok (.iload 8, 2) := by decide +kernel
theorem dX4_loop_100 : decode cX4_loop 100 = .ok (.iaload, 1) := by decide +kernel
theorem dX4_loop_101 : decode cX4_loop 101 = .ok (.iconst 1, 1) := by decide +kernel
theorem dX4_loop_102 : decode cX4_loop 102 = .ok (.isub, 1) := by decide +kernel
theorem dX4_loop_103 : decode cX4_loop 103 = .ok (.i2l, 1) := by decide +kernel
theorem dX4_loop_104 : decode cX4_loop 104 = .ok (.invokestatic 33, 3) := by decide +kernel
theorem dX4_loop_107 : decode cX4_loop 107 = .ok (.ifCond .ne 11, 3) := by decide +kernel
theorem dX4_loop_110 : decode cX4_loop 110 = .ok (.aload_n 0, 1) := by decide +kernel
theorem dX4_loop_111 : decode cX4_loop 111 = .ok (.iconst 3, 1) := by decide +kernel
theorem dX4_loop_112 : decode cX4_loop 112 = .ok (.putfield 37, 3) := by decide +kernel
theorem dX4_loop_115 : decode cX4_loop 115 = .ok (.iload 9, 2) := by decide +kernel
theorem dX4_loop_117 : decode cX4_loop 117 = .ok (.ireturn, 1) := by decide +kernel
theorem dX4_loop_118 : decode cX4_loop 118 = .ok (.aload_n 0, 1) := by decide +kernel
theorem dX4_loop_119 : decode cX4_loop 119 = .ok (.iload 7, 2) := by decide +kernel
theorem dX4_loop_121 : decode cX4_loop 121 = .ok (.iload_n 2, 1) := by decide +kernel
theorem dX4_loop_122 : decode cX4_loop 122 = .ok (.iload 9, 2) := by decide +kernel
theorem dX4_loop_124 : decode cX4_loop 124 = .ok (.iadd, 1) := by decide +kernel
theorem dX4_loop_125 : decode cX4_loop 125 = .ok (.invokevirtual 82, 3) := by decide +kernel
theorem dX4_loop_128 : decode cX4_loop 128 = .ok (.istore 10, 2) := by decide +kernel
theorem dX4_loop_130 : decode cX4_loop 130 = .ok (.aload_n 0, 1) := by decide +kernel
theorem dX4_loop_131 : decode cX4_loop 131 = .ok (.getfield 13, 3) := by decide +kernel
theorem dX4_loop_134 : decode cX4_loop 134 = .ok (.iload 7, 2) := by decide +kernel
theorem dX4_loop_136 : decode cX4_loop 136 = .ok (.iaload, 1) := by decide +kernel
theorem dX4_loop_137 : decode cX4_loop 137 = .ok (.iconst 2, 1) := by decide +kernel
theorem dX4_loop_138 : decode cX4_loop 138 = .ok (.if_icmp .lt 34, 3) := by decide +kernel
theorem dX4_loop_141 : decode cX4_loop 141 = .ok (.aload_n 0, 1) := by decide +kernel
theorem dX4_loop_142 : decode cX4_loop 142 = .ok (.aload_n 0, 1) := by decide +kernel
theorem dX4_loop_143 : decode cX4_loop 143 = .ok (.getfield 13, 3) := by decide +kernel
theorem dX4_loop_146 : decode cX4_loop 146 = .ok (.iload 7, 2) := by decide +kernel
theorem dX4_loop_148 : decode cX4_loop 148 = .ok (.iaload, 1) := by decide +kernel
theorem dX4_loop_149 : decode cX4_loop 149 = .ok (.iload 10, 2) := by decide +kernel
theorem dX4_loop_151 : decode cX4_loop 151 = .ok (.aload_n 0, 1) := by decide +kernel
theorem dX4_loop_152 : decode cX4_loop 152 = .ok (.getfield 13, 3) := by decide +kernel
theorem dX4_loop_155 : decode cX4_loop 155 = .ok (.iload 8, 2) := by decide +kernel
theorem dX4_loop_157 : decode cX4_loop 157 = .ok (.iaload, 1) := by decide +kernel
theorem dX4_loop_158 : decode cX4_loop 158 = .ok (.invokevirtual 102, 3) := by decide +kernel
theorem dX4_loop_161 : decode cX4_loop 161 = .ok (.ifCond .ne 11, 3) := by decide +kernel
theorem dX4_loop_164 : decode cX4_loop 164 = .ok (.aload_n 0, 1) := by decide +kernel
theorem dX4_loop_165 : decode cX4_loop 165 = .ok (.iconst 2, 1) := by decide +kernel
theorem dX4_loop_166 : decode cX4_loop 166 = .ok (.putfield 37, 3) := by decide +kernel
theorem dX4_loop_169 : decode cX4_loop 169 = .ok (.iload 9, 2) := by decide +kernel
theorem dX4_loop_171 : decode cX4_loop 171 = .ok (.ireturn, 1) := by decide +kernel
theorem dX4_loop_172 : decode cX4_loop 172 = .ok (.aload_n 0, 1) := by decide +kernel
theorem dX4_loop_173 : decode cX4_loop 173 = .ok (.iload 8, 2) := by decide +kernel
theorem dX4_loop_175 : decode cX4_loop 175 = .ok (.iload 4, 2) := by decide +kernel
theorem dX4_loop_177 : decode cX4_loop 177 = .ok (.iload 9, 2) := by decide +kernel
