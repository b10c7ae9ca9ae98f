theorem dX4_loop_179 : decode cX4_loop 179 = .ok (.iadd, 1) := by decide +kernel
theorem dX4_loop_180 : decode cX4_loop 180 = .ok (.iload 10, 2) := by decide +kernel
theorem dX4_loop_182 : decode cX4_loop 182 = .ok (.invokevirtual 44, 3) := by decide +kernel
theorem dX4_loop_185 : decode cX4_loop 185 = .ok (.iinc 9 1, 3) := by decide +kernel
theorem dX4_loop_188 : decode cX4_loop 188 = .ok (.goto (-132), 3) := by decide +kernel
theorem dX4_loop_191 : decode cX4_loop 191 = .ok (.aload_n 0, 1) := by decide +kernel
theorem dX4_loop_192 : decode cX4_loop 192 = .ok (.iload 5, 2) := by decide +kernel
theorem dX4_loop_194 : decode cX4_loop 194 = .ok (.ifCond .ge 7, 3) := by decide +kernel
theorem dX4_loop_197 : decode cX4_loop 197 = .ok (.iconst 0, 1) := by decide +kernel
theorem dX4_loop_198 : decode cX4_loop 198 = .ok (.goto 5, 3) := by decide +kernel
theorem dX4_loop_201 : decode cX4_loop 201 = .ok (.iload 5, 2) := by decide +kernel
theorem dX4_loop_203 : decode cX4_loop 203 = .ok (.invokevirtual 63, 3) := by decide +kernel
theorem dX4_loop_206 : decode cX4_loop 206 = .ok (.ireturn, 1) := by decide +kernel
set_option maxRecDepth 20000 in
theorem ggX4_copy_X4_isPlace : GoodIn wsX4_copy wsX4_isPlace := goodIn_r _ [5, 6, 7, 8, 4, 9] (by decide +kernel) (by decide +kernel)
set_option maxRecDepth 20000 in
theorem gX4_copy_X4_isPlace : GoodIn wsX4_copy (va_wsS RX4 48 yX4_isPlace wsX4_isPlace) := goodIn_app (goodIn_of _ (by decide +kernel)) ggX4_copy_X4_isPlace
set_option maxRecDepth 20000 in
theorem ggX4_copy_X4_wantsRow : GoodIn wsX4_copy wsX4_wantsRow := goodIn_r _ [13, 14, 48, 49, 50, 51, 52, 53, 54, 55, 56, 57, 58] (by decide +kernel) (by decide +kernel)
set_option maxRecDepth 20000 in
theorem gX4_copy_X4_wantsRow : GoodIn wsX4_copy (wsV RX4 72 RX4 yX4_wantsRow wsX4_wantsRow) := goodIn_app (goodIn_of _ (by decide +kernel)) ggX4_copy_X4_wantsRow
set_option maxRecDepth 20000 in
theorem ggX4_copy_X4_no : GoodIn wsX4_copy wsX4_no := goodIn_r _ [18, 19, 48, 49, 50, 51, 52, 53, 54, 55, 56, 57, 58] (by decide +kernel) (by decide +kernel)
set_option maxRecDepth 20000 in
theorem gX4_copy_X4_no : GoodIn wsX4_copy (wsV RX4 55 RX4 yX4_no wsX4_no) := goodIn_app (goodIn_of _ (by decide +kernel)) ggX4_copy_X4_no
set_option maxRecDepth 20000 in
theorem ggX4_copy_X4_lengthOf : GoodIn wsX4_copy wsX4_lengthOf := goodIn_r _ [23, 24, 14, 48, 49, 50, 51, 52, 53, 54, 55, 56, 57, 58] (by decide +kernel) (by decide +kernel)
set_option maxRecDepth 20000 in
theorem gX4_copy_X4_lengthOf : GoodIn wsX4_copy (wsV RX4 75 RX4 yX4_lengthOf wsX4_lengthOf) := goodIn_app (goodIn_of _ (by decide +kernel)) ggX4_copy_X4_lengthOf
set_option maxRecDepth 20000 in
theorem ggX4_copy_X4_sliced : GoodIn wsX4_copy wsX4_sliced := goodIn_r _ [28, 14, 29, 30, 31, 32, 4, 33, 34, 24, 35, 36, 37, 38, 39, 40, 41, 42, 43, 44, 45, 46, 47, 19, 48, 49, 50, 51, 52, 53, 54, 55, 56, 57, 58] (by decide +kernel) (by decide +kernel)
set_option maxRecDepth 20000 in
theorem gX4_copy_X4_sliced : GoodIn wsX4_copy (wsV RX4 106 RX4 yX4_sliced wsX4_sliced) := goodIn_app (goodIn_of _ (by decide +kernel)) ggX4_copy_X4_sliced
theorem dX4_copy_0 : decode cX4_copy 0 = .ok (.iload_n 1, 1) := by decide +kernel
theorem dX4_copy_1 : decode cX4_copy 1 = .ok (.invokestatic 48, 3) := by decide +kernel
theorem dX4_copy_4 : decode cX4_copy 4 = .ok (.ifCond .eq 10, 3) := by decide +kernel
theorem dX4_copy_7 : decode cX4_copy 7 = .ok (.iload_n 2, 1) := by decide +kernel
theorem dX4_copy_8 : decode cX4_copy 8 = .ok (.invokestatic 48, 3) := by decide +kernel
theorem dX4_copy_11 : decode cX4_copy 11 = .ok (.ifCond .ne 6, 3) := by decide +kernel
theorem dX4_copy_14 : decode cX4_copy 14 = .ok (.ldc 54, 2) := by decide +kernel
theorem dX4_copy_16 : decode cX4_copy 16 = .ok (.ireturn, 1) := by decide +kernel
theorem dX4_copy_17 : decode cX4_copy 17 = .ok (.aload_n 0, 1) := by decide +kernel
theorem dX4_copy_18 : decode cX4_copy 18 = .ok (.iload_n 2, 1) := by decide +kernel
theorem dX4_copy_19 : decode cX4_copy 19 = .ok (.invokevirtual 72, 3) := by decide +kernel
theorem dX4_copy_22 : decode cX4_copy 22 = .ok (.istore_n 3, 1) := by decide +kernel
theorem dX4_copy_23 : decode cX4_copy 23 = .ok (.iload_n 3, 1) := by decide +kernel
theorem dX4_copy_24 : decode cX4_copy 24 = .ok (.ifCond .eq 11, 3) := by decide +kernel
theorem dX4_copy_27 : decode cX4_copy 27 = .ok (.aload_n 0, 1) := by decide +kernel
theorem dX4_copy_28 : decode cX4_copy 28 = .ok (.iload_n 3, 1) := by decide +kernel
theorem dX4_copy_29 : decode cX4_copy 29 = .ok (.invokevirtual 55, 3) := by decide +kernel
theorem dX4_copy_32 : decode cX4_copy 32 = .ok (.goto 15, 3) := by decide +kernel
theorem dX4_copy_35 : decode cX4_copy 35 = .ok (.aload_n 0, 1) := by decide +kernel
theorem dX4_copy_36 : decode cX4_copy 36 = .ok (.iload_n 1, 1) := by decide +kernel
theorem dX4_copy_37 : decode cX4_copy 37 = .ok (.iload_n 2, 1) := by decide +kernel
theorem dX4_copy_38 : decode cX4_copy 38 = .ok (.iconst 0, 1) := by decide +kernel
theorem dX4_copy_39 : decode cX4_copy 39 = .ok (.aload_n 0, 1) := by decide +kernel
theorem dX4_copy_40 : decode cX4_copy 40 = .ok (.iload_n 2, 1) := by decide +kernel
theorem dX4_copy_41 : decode cX4_copy 41 = .ok (.invokevirtual 75, 3) := by decide +kernel
theorem dX4_copy_44 : decode cX4_copy 44 = .ok (.invokevirtual 106, 3) := by decide +kernel
theorem dX4_copy_47 : decode cX4_copy 47 = .ok (.ireturn, 1) := by decide +kernel
set_option maxRecDepth 20000 in
theorem ggX4_sliced_X4_newRow : GoodIn wsX4_sliced wsX4_newRow := goodIn_r _ [7, 2, 8, 9, 10, 11, 12, 6, 13, 14, 24, 25, 26, 27, 28, 29, 30, 31, 32, 33, 34] (by decide +kernel) (by decide +kernel)
set_option maxRecDepth 20000 in
theorem gX4_sliced_X4_newRow : GoodIn wsX4_sliced (wsV RX4 59 RX4 yX4_newRow wsX4_newRow) := goodIn_app (goodIn_of _ (by decide +kernel)) ggX4_sliced_X4_newRow
set_option maxRecDepth 20000 in
theorem ggX4_sliced_X4_get : GoodIn wsX4_sliced wsX4_get := goodIn_r _ [18, 14, 24, 25, 26, 27, 28, 29, 30, 31, 32, 33, 34] (by decide +kernel) (by decide +kernel)
set_option maxRecDepth 20000 in
theorem gX4_sliced_X4_get : GoodIn wsX4_sliced (wsV RX4 82 RX4 yX4_get wsX4_get) := goodIn_app (goodIn_of _ (by decide +kernel)) ggX4_sliced_X4_get
set_option maxRecDepth 20000 in
theorem ggX4_sliced_X4_put : GoodIn wsX4_sliced wsX4_put := goodIn_r _ [13, 14, 24, 25, 26, 27, 28, 29, 30, 31, 32, 33, 34] (by decide +kernel) (by decide +kernel)
set_option maxRecDepth 20000 in
theorem gX4_sliced_X4_put : GoodIn wsX4_sliced (wsV RX4 44 RX4 yX4_put wsX4_put) := goodIn_app (goodIn_of _ (by decide +kernel)) ggX4_sliced_X4_put
set_option maxRecDepth 20000 in
theorem ggX4_sliced_X4_yes : GoodIn wsX4_sliced wsX4_yes := goodIn_r _ [22, 23, 24, 25, 26, 27, 28, 29, 30, 31, 32, 33, 34] (by decide +kernel) (by decide +kernel)
set_option maxRecDepth 20000 in
theorem gX4_sliced_X4_yes : GoodIn wsX4_sliced (wsV RX4 63 RX4 yX4_yes wsX4_yes) := goodIn_app (goodIn_of _ (by decide +kernel)) ggX4_sliced_X4_yes
theorem dX4_sliced_0 : decode cX4_sliced 0 = .ok (.aload_n 0, 1) := by decide +kernel
theorem dX4_sliced_1 : decode cX4_sliced 1 = .ok (.getfield 7, 3) := by decide +kernel
theorem dX4_sliced_4 : decode cX4_sliced 4 = .ok (.iload_n 2, 1) := by decide +kernel
theorem dX4_sliced_5 : decode cX4_sliced 5 = .ok (.iaload, 1) := by decide +kernel
theorem dX4_sliced_6 : decode cX4_sliced 6 = .ok (.istore 5, 2) := by decide +kernel
theorem dX4_sliced_8 : decode cX4_sliced 8 = .ok (.aload_n 0, 1) := by decide +kernel
theorem dX4_sliced_9 : decode cX4_sliced 9 = .ok (.aload_n 0, 1) := by decide +kernel
theorem dX4_sliced_10 : decode cX4_sliced 10 = .ok (.getfield 13, 3) := by decide +kernel
theorem dX4_sliced_13 : decode cX4_sliced 13 = .ok (.iload 5, 2) := by decide +kernel
theorem dX4_sliced_15 : decode cX4_sliced 15 = .ok (.iaload, 1) := by decide +kernel
theorem dX4_sliced_16 : decode cX4_sliced 16 = .ok (.iload 4, 2) := by decide +kernel
theorem dX4_sliced_18 : decode cX4_sliced 18 = .ok (.invokevirtual 59, 3) := by decide +kernel
theorem dX4_sliced_21 : decode cX4_sliced 21 = .ok (.istore 6, 2) := by decide +kernel
theorem dX4_sliced_23 : decode cX4_sliced 23 = .ok (.iconst 0, 1) := by decide +kernel
theorem dX4_sliced_24 : decode cX4_sliced 24 = .ok (.istore 7, 2) := by decide +kernel
theorem dX4_sliced_26 : decode cX4_sliced 26 = .ok (.iload 7, 2) := by decide +kernel
theorem dX4_sliced_28 : decode cX4_sliced 28 = .ok (.iload 4, 2) := by decide +kernel
theorem dX4_sliced_30 : decode cX4_sliced 30 = .ok (.if_icmp .ge 27, 3) := by decide +kernel
theorem dX4_sliced_33 : decode cX4_sliced 33 = .ok (.aload_n 0, 1) := by decide +kernel
theorem dX4_sliced_34 : decode cX4_sliced 34 = .ok (.iload 6, 2) := by decide +kernel
theorem dX4_sliced_36 : decode cX4_sliced 36 = .ok (.iload 7, 2) := by decide +kernel
theorem dX4_sliced_38 : decode cX4_sliced 38 = .ok (.aload_n 0, 1) := by decide +kernel
theorem dX4_sliced_39 : decode cX4_sliced 39 = .ok (.iload 5, 2) := by decide +kernel
theorem dX4_sliced_41 : decode cX4_sliced 41 = .ok (.iload_n 3, 1) := by decide +kernel
theorem dX4_sliced_42 : decode cX4_sliced 42 = .ok (.iload 7, 2) := by decide +kernel
theorem dX4_sliced_44 : decode cX4_sliced 44 = .ok (.iadd, 1) := by decide +kernel
theorem dX4_sliced_45 : decode cX4_sliced 45 = .ok (.invokevirtual 82, 3) := by decide +kernel
theorem dX4_sliced_48 : decode cX4_sliced 48 = .ok (.invokevirtual 44, 3) := by decide +kernel
theorem dX4_sliced_51 : decode cX4_sliced 51 = .ok (.iinc 7 1, 3) := by decide +kernel
theorem dX4_sliced_54 : decode cX4_sliced 54 = .ok (.goto (-28), 3) := by decide +kernel
theorem dX4_sliced_57 : decode cX4_sliced 57 = .ok (.aload_n 0, 1) := by decide +kernel
theorem dX4_sliced_58 : decode cX4_sliced 58 = .ok (.getfield 7, 3) := by decide +kernel
theorem dX4_sliced_61 : decode cX4_sliced 61 = .ok (.iload_n 1, 1) := by decide +kernel
theorem dX4_sliced_62 : decode cX4_sliced 62 = .ok (.iload 6, 2) := by decide +kernel
theorem dX4_sliced_64 : decode cX4_sliced 64 = .ok (.iastore, 1) := by decide +kernel
theorem dX4_sliced_65 : decode cX4_sliced 65 = .ok (.aload_n 0, 1) := by decide +kernel
theorem dX4_sliced_66 : decode cX4_sliced 66 = .ok (.iload 4, 2) := by decide +kernel
theorem dX4_sliced_68 : decode cX4_sliced 68 = .ok (.invokevirtual 63, 3) := by decide +kernel
theorem dX4_sliced_71 : decode cX4_sliced 71 = .ok (.ireturn, 1) := by decide +kernel
set_option maxRecDepth 20000 in
theorem ggX4_slice_X4_isPlace : GoodIn wsX4_slice wsX4_isPlace := goodIn_r _ [5, 6, 7, 8, 4, 9] (by decide +kernel) (by decide +kernel)
set_option maxRecDepth 20000 in
theorem gX4_slice_X4_isPlace : GoodIn wsX4_slice (va_wsS RX4 48 yX4_isPlace wsX4_isPlace) := goodIn_app (goodIn_of _ (by decide +kernel)) ggX4_slice_X4_isPlace
set_option maxRecDepth 20000 in
theorem ggX4_slice_X4_wantsRow : GoodIn wsX4_slice wsX4_wantsRow := goodIn_r _ [13, 14, 48, 49, 50, 51, 52, 53, 54, 55, 56, 57, 58] (by decide +kernel) (by decide +kernel)
set_option maxRecDepth 20000 in
theorem gX4_slice_X4_wantsRow : GoodIn wsX4_slice (wsV RX4 72 RX4 yX4_wantsRow wsX4_wantsRow) := goodIn_app (goodIn_of _ (by decide +kernel)) ggX4_slice_X4_wantsRow
set_option maxRecDepth 20000 in
theorem ggX4_slice_X4_lengthOf : GoodIn wsX4_slice wsX4_lengthOf := goodIn_r _ [18, 19, 14, 48, 49, 50, 51, 52, 53, 54, 55, 56, 57, 58] (by decide +kernel) (by decide +kernel)
set_option maxRecDepth 20000 in
theorem gX4_slice_X4_lengthOf : GoodIn wsX4_slice (wsV RX4 75 RX4 yX4_lengthOf wsX4_lengthOf) := goodIn_app (goodIn_of _ (by decide +kernel)) ggX4_slice_X4_lengthOf
set_option maxRecDepth 20000 in
theorem ggX4_slice_X4_no : GoodIn wsX4_slice wsX4_no := goodIn_r _ [23, 24, 48, 49, 50, 51, 52, 53, 54, 55, 56, 57, 58] (by decide +kernel) (by decide +kernel)
set_option maxRecDepth 20000 in
theorem gX4_slice_X4_no : GoodIn wsX4_slice (wsV RX4 55 RX4 yX4_no wsX4_no) := goodIn_app (goodIn_of _ (by decide +kernel)) ggX4_slice_X4_no
set_option maxRecDepth 20000 in
theorem ggX4_slice_X4_sliced : GoodIn wsX4_slice wsX4_sliced := goodIn_r _ [28, 14, 29, 30, 31, 32, 4, 33, 34, 19, 35, 36, 37, 38, 39, 40, 41, 42, 43, 44, 45, 46, 47, 24, 48, 49, 50, 51, 52, 53, 54, 55, 56, 57, 58] (by decide +kernel) (by decide +kernel)
set_option maxRecDepth 20000 in
theorem gX4_slice_X4_sliced : GoodIn wsX4_slice (wsV RX4 106 RX4 yX4_sliced wsX4_sliced) := goodIn_app (goodIn_of _ (by decide +kernel)) ggX4_slice_X4_sliced
theorem dX4_slice_0 : decode cX4_slice 0 = .ok (.iload_n 1, 1) := by decide +kernel
theorem dX4_slice_1 : decode cX4_slice 1 = .ok (.invokestatic 48, 3) := by decide +kernel
theorem dX4_slice_4 : decode cX4_slice 4 = .ok (.ifCond .eq 10, 3) := by decide +kernel
theorem dX4_slice_7 : decode cX4_slice 7 = .ok (.iload_n 2, 1) := by decide +kernel
theorem dX4_slice_8 : decode cX4_slice 8 = .ok (.invokestatic 48, 3) := by decide +kernel
theorem dX4_slice_11 : decode cX4_slice 11 = .ok (.ifCond .ne 6, 3) := by decide +kernel
theorem dX4_slice_14 : decode cX4_slice 14 = .ok (.ldc 54, 2) := by decide +kernel
theorem dX4_slice_16 : decode cX4_slice 16 = .ok (.ireturn, 1) := by decide +kernel
theorem dX4_slice_17 : decode cX4_slice 17 = .ok (.aload_n 0, 1) := by decide +kernel
theorem dX4_slice_18 : decode cX4_slice 18 = .ok (.iload_n 2, 1) := by decide +kernel
theorem dX4_slice_19 : decode cX4_slice 19 = .ok (.invokevirtual 72, 3) := by decide +kernel
theorem dX4_slice_22 : decode cX4_slice 22 = .ok (.istore 5, 2) := by decide +kernel
theorem dX4_slice_24 : decode cX4_slice 24 = .ok (.iload 5, 2) := by decide +kernel
theorem dX4_slice_26 : decode cX4_slice 26 = .ok (.ifCond .ne 11, 3) := by decide +kernel
theorem dX4_slice_29 : decode cX4_slice 29 = .ok (.iload 4, 2) := by decide +kernel
theorem dX4_slice_31 : decode cX4_slice 31 = .ok (.ifCond .ge 6, 3) := by decide +kernel
theorem dX4_slice_34 : decode cX4_slice 34 = .ok (.iconst 4, 1) := by decide +kernel
theorem dX4_slice_35 : decode cX4_slice 35 = .ok (.istore 5, 2) := by decide +kernel
theorem dX4_slice_37 : decode cX4_slice 37 = .ok (.iload 5, 2) := by decide +kernel
theorem dX4_slice_39 : decode cX4_slice 39 = .ok (.ifCond .ne 26, 3) := by decide +kernel
theorem dX4_slice_42 : decode cX4_slice 42 = .ok (.iload_n 3, 1) := by decide +kernel
theorem dX4_slice_43 : decode cX4_slice 43 = .ok (.ifCond .lt 19, 3) := by decide +kernel
theorem dX4_slice_46 : decode cX4_slice 46 = .ok (.iload_n 3, 1) := by decide +kernel
theorem dX4_slice_47 : decode cX4_slice 47 = .ok (.i2l, 1) := by decide +kernel
theorem dX4_slice_48 : decode cX4_slice 48 = .ok (.iload 4, 2) := by decide +kernel
theorem dX4_slice_50 : decode cX4_slice 50 = .ok (.i2l, 1) := by decide +kernel
theorem dX4_slice_51 : decode cX4_slice 51 = .ok (.ladd, 1) := by decide +kernel
theorem dX4_slice_52 : decode cX4_slice 52 = .ok (.aload_n 0, 1) := by decide +kernel
theorem dX4_slice_53 : decode cX4_slice 53 = .ok (.iload_n 2, 1) := by decide +kernel
theorem dX4_slice_54 : decode cX4_slice 54 = .ok (.invokevirtual 75, 3) := by decide +kernel
theorem dX4_slice_57 : decode cX4_slice 57 = .ok (.i2l, 1) := by decide +kernel
theorem dX4_slice_58 : decode cX4_slice 58 = .ok (.lcmp, 1) := by decide +kernel
theorem dX4_slice_59 : decode cX4_slice 59 = .ok (.ifCond .le 6, 3) := by decide +kernel
theorem dX4_slice_62 : decode cX4_slice 62 = .ok (.iconst 3, 1) := by decide +kernel
theorem dX4_slice_63 : decode cX4_slice 63 = .ok (.istore 5, 2) := by decide +kernel
theorem dX4_slice_65 : decode cX4_slice 65 = .ok (.iload 5, 2) := by decide +kernel
theorem dX4_slice_67 : decode cX4_slice 67 = .ok (.ifCond .eq 12, 3) := by decide +kernel
theorem dX4_slice_70 : decode cX4_slice 70 = .ok (.aload_n 0, 1) := by decide +kernel
theorem dX4_slice_71 : decode cX4_slice 71 = .ok (.iload 5, 2) := by decide +kernel
theorem dX4_slice_73 : decode cX4_slice 73 = .ok (.invokevirtual 55, 3) := by decide +kernel
theorem dX4_slice_76 : decode cX4_slice 76 = .ok (.goto 12, 3) := by decide +kernel
theorem dX4_slice_79 : decode cX4_slice 79 = .ok (.aload_n 0, 1) := by decide +kernel
theorem dX4_slice_80 : decode cX4_slice 80 = .ok (.iload_n 1, 1) := by decide +kernel
theorem dX4_slice_81 : decode cX4_slice 81 = .ok (.iload_n 2, 1) := by decide +kernel
theorem dX4_slice_82 : decode cX4_slice 82 = .ok (.iload_n 3, 1) := by decide +kernel
theorem dX4_slice_83 : decode cX4_slice 83 = .ok (.iload 4, 2) := by decide +kernel
theorem dX4_slice_85 : decode cX4_slice 85 = .ok (.invokevirtual 106, 3) := by decide +kernel
theorem dX4_slice_88 : decode cX4_slice 88 = .ok (.ireturn, 1) := by decide +kernel
set_option maxRecDepth 20000 in
theorem ggX4_join_X4_isPlace : GoodIn wsX4_join wsX4_isPlace := goodIn_r _ [8, 9, 10, 11, 7, 12] (by decide +kernel) (by decide +kernel)
set_option maxRecDepth 20000 in
theorem gX4_join_X4_isPlace : GoodIn wsX4_join (va_wsS RX4 48 yX4_isPlace wsX4_isPlace) := goodIn_app (goodIn_of _ (by decide +kernel)) ggX4_join_X4_isPlace
set_option maxRecDepth 20000 in
theorem ggX4_join_X4_wantsRow : GoodIn wsX4_join wsX4_wantsRow := goodIn_r _ [16, 2, 60, 61, 62, 63, 64, 65, 66, 67, 68, 69, 70] (by decide +kernel) (by decide +kernel)
set_option maxRecDepth 20000 in
theorem gX4_join_X4_wantsRow : GoodIn wsX4_join (wsV RX4 72 RX4 yX4_wantsRow wsX4_wantsRow) := goodIn_app (goodIn_of _ (by decide +kernel)) ggX4_join_X4_wantsRow
set_option maxRecDepth 20000 in
theorem ggX4_join_X4_lengthOf : GoodIn wsX4_join wsX4_lengthOf := goodIn_r _ [20, 3, 2, 60, 61, 62, 63, 64, 65, 66, 67, 68, 69, 70] (by decide +kernel) (by decide +kernel)
set_option maxRecDepth 20000 in
theorem gX4_join_X4_lengthOf : GoodIn wsX4_join (wsV RX4 75 RX4 yX4_lengthOf wsX4_lengthOf) := goodIn_app (goodIn_of _ (by decide +kernel)) ggX4_join_X4_lengthOf
set_option maxRecDepth 20000 in
theorem ggX4_join_X4_unlike : GoodIn wsX4_join wsX4_unlike := goodIn_r _ [24, 2, 25, 26, 27, 7, 28, 4, 60, 61, 62, 63, 64, 65, 66, 67, 68, 69, 70] (by decide +kernel) (by decide +kernel)
set_option maxRecDepth 20000 in
theorem gX4_join_X4_unlike : GoodIn wsX4_join (wsV RX4 99 RX4 yX4_unlike wsX4_unlike) := goodIn_app (goodIn_of _ (by decide +kernel)) ggX4_join_X4_unlike
set_option maxRecDepth 20000 in
theorem ggX4_join_X4_get : GoodIn wsX4_join wsX4_get := goodIn_r _ [32, 33, 60, 61, 62, 63, 64, 65, 66, 67, 68, 69, 70] (by decide +kernel) (by decide +kernel)
set_option maxRecDepth 20000 in
theorem gX4_join_X4_get : GoodIn wsX4_join (wsV RX4 82 RX4 yX4_get wsX4_get) := goodIn_app (goodIn_of _ (by decide +kernel)) ggX4_join_X4_get
set_option maxRecDepth 20000 in
theorem ggX4_join_X4_fits : GoodIn wsX4_join wsX4_fits := goodIn_r _ [37, 38, 39, 40, 7, 41, 60, 61, 62, 63, 64, 65, 66, 67, 68, 69, 70] (by decide +kernel) (by decide +kernel)
set_option maxRecDepth 20000 in
theorem gX4_join_X4_fits : GoodIn wsX4_join (wsV RX4 102 RX4 yX4_fits wsX4_fits) := goodIn_app (goodIn_of _ (by decide +kernel)) ggX4_join_X4_fits
set_option maxRecDepth 20000 in
theorem ggX4_join_X4_no : GoodIn wsX4_join wsX4_no := goodIn_r _ [45, 46, 60, 61, 62, 63, 64, 65, 66, 67, 68, 69, 70] (by decide +kernel) (by decide +kernel)
set_option maxRecDepth 20000 in
theorem gX4_join_X4_no : GoodIn wsX4_join (wsV RX4 55 RX4 yX4_no wsX4_no) := goodIn_app (goodIn_of _ (by decide +kernel)) ggX4_join_X4_no
set_option maxRecDepth 20000 in
theorem ggX4_join_X4_newRow : GoodIn wsX4_join wsX4_newRow := goodIn_r _ [50, 4, 51, 3, 52, 53, 54, 7, 55, 33, 60, 61, 62, 63, 64, 65, 66, 67, 68, 69, 70] (by decide +kernel) (by decide +kernel)
set_option maxRecDepth 20000 in
theorem gX4_join_X4_newRow : GoodIn wsX4_join (wsV RX4 59 RX4 yX4_newRow wsX4_newRow) := goodIn_app (goodIn_of _ (by decide +kernel)) ggX4_join_X4_newRow
set_option maxRecDepth 20000 in
theorem ggX4_join_X4_put : GoodIn wsX4_join wsX4_put := goodIn_r _ [55, 33, 60, 61, 62, 63, 64, 65, 66, 67, 68, 69, 70] (by decide +kernel) (by decide +kernel)
set_option maxRecDepth 20000 in
theorem gX4_join_X4_put : GoodIn wsX4_join (wsV RX4 44 RX4 yX4_put wsX4_put) := goodIn_app (goodIn_of _ (by decide +kernel)) ggX4_join_X4_put
set_option maxRecDepth 20000 in
theorem ggX4_join_X4_yes : GoodIn wsX4_join wsX4_yes := goodIn_r _ [59, 46, 60, 61, 62, 63, 64, 65, 66, 67, 68, 69, 70] (by decide +kernel) (by decide +kernel)
set_option maxRecDepth 20000 in
theorem gX4_join_X4_yes : GoodIn wsX4_join (wsV RX4 63 RX4 yX4_yes wsX4_yes) := goodIn_app (goodIn_of _ (by decide +kernel)) ggX4_join_X4_yes
theorem dX4_join_0 : decode cX4_join 0 = .ok (.iload_n 1, 1) := by decide +kernel
theorem dX4_join_1 : decode cX4_join 1 = .ok (.invokestatic 48, 3) := by decide +kernel
theorem dX4_join_4 : decode cX4_join 4 = .ok (.ifCond .eq 17, 3) := by decide +kernel
theorem dX4_join_7 : decode cX4_join 7 = .ok (.iload_n 2, 1) := by decide +kernel
theorem dX4_join_8 : decode cX4_join 8 = .ok (.invokestatic 48, 3) := by decide +kernel
theorem dX4_join_11 : decode cX4_join 11 = .ok (.ifCond .eq 10, 3) := by decide +kernel
theorem dX4_join_14 : decode cX4_join 14 = .ok (.iload_n 3, 1) := by decide +kernel
theorem dX4_join_15 : decode cX4_join 15 = .ok (.invokestatic 48, 3) := by decide +kernel
theorem dX4_join_18 : decode cX4_join 18 = .ok (.ifCond .ne 6, 3) := by decide +kernel
theorem dX4_join_21 : decode cX4_join 21 = .ok (.ldc 54, 2) := by decide +kernel
theorem dX4_join_23 : decode cX4_join 23 = .ok (.ireturn, 1) := by decide +kernel
theorem dX4_join_24 : decode cX4_join 24 = .ok (.aload_n 0, 1) := by decide +kernel
theorem dX4_join_25 : decode cX4_join 25 = .ok (.getfield 7, 3) := by decide +kernel
theorem dX4_join_28 : decode cX4_join 28 = .ok (.iload_n 2, 1) := by decide +kernel
theorem dX4_join_29 : decode cX4_join 29 = .ok (.iaload, 1) := by decide +kernel
theorem dX4_join_30 : decode cX4_join 30 = .ok (.iconst (-1), 1) := by decide +kernel
theorem dX4_join_31 : decode cX4_join 31 = .ok (.if_icmp .eq 13, 3) := by decide +kernel
theorem dX4_join_34 : decode cX4_join 34 = .ok (.aload_n 0, 1) := by decide +kernel
theorem dX4_join_35 : decode cX4_join 35 = .ok (.getfield 7, 3) := by decide +kernel
theorem dX4_join_38 : decode cX4_join 38 = .ok (.iload_n 3, 1) := by decide +kernel
theorem dX4_join_39 : decode cX4_join 39 = .ok (.iaload, 1) := by decide +kernel
theorem dX4_join_40 : decode cX4_join 40 = .ok (.iconst (-1), 1) := by decide +kernel
theorem dX4_join_41 : decode cX4_join 41 = .ok (.if_icmp .ne 7, 3) := by decide +kernel
theorem dX4_join_44 : decode cX4_join 44 = .ok (.iconst 1, 1) := by decide +kernel
theorem dX4_join_45 : decode cX4_join 45 = .ok (.goto 22, 3) := by decide +kernel
theorem dX4_join_48 : decode cX4_join 48 = .ok (.aload_n 0, 1) := by decide +kernel
theorem dX4_join_49 : decode cX4_join 49 = .ok (.iload_n 2, 1) := by decide +kernel
theorem dX4_join_50 : decode cX4_join 50 = .ok (.invokevirtual 72, 3) := by decide +kernel
theorem dX4_join_53 : decode cX4_join 53 = .ok (.aload_n 0, 1) := by decide +kernel
theorem dX4_join_54 : decode cX4_join 54 = .ok (.iload_n 3, 1) := by decide +kernel
theorem dX4_join_55 : decode cX4_join 55 = .ok (.invokevirtual 72, 3) := by decide +kernel
theorem dX4_join_58 : decode cX4_join 58 = .ok (.iadd, 1) := by decide +kernel
theorem dX4_join_59 : decode cX4_join 59 = .ok (.ifCond .le 7, 3) := by decide +kernel
theorem dX4_join_62 : decode cX4_join 62 = .ok (.iconst 5, 1) := by decide +kernel
theorem dX4_join_63 : decode cX4_join 63 = .ok (.goto 4, 3) := by decide +kernel
theorem dX4_join_66 : decode cX4_join 66 = .ok (.iconst 0, 1) := by decide +kernel
theorem dX4_join_67 : decode cX4_join 67 = .ok (.istore 4, 2) := by decide +kernel
theorem dX4_join_69 : decode cX4_join 69 = .ok (.iload 4, 2) := by decide +kernel
theorem dX4_join_71 : decode cX4_join 71 = .ok (.ifCond .ne 22, 3) := by decide +kernel
theorem dX4_join_74 : decode cX4_join 74 = .ok (.aload_n 0, 1) := by decide +kernel
theorem dX4_join_75 : decode cX4_join 75 = .ok (.iload_n 2, 1) := by decide +kernel
theorem dX4_join_76 : decode cX4_join 76 = .ok (.invokevirtual 75, 3) := by decide +kernel
theorem dX4_join_79 : decode cX4_join 79 = .ok (.aload_n 0, 1) := by decide +kernel
theorem dX4_join_80 : decode cX4_join 80 = .ok (.iload_n 3, 1) := by decide +kernel
theorem dX4_join_81 : decode cX4_join 81 = .ok (.invokevirtual 75, 3) := by decide +kernel
theorem dX4_join_84 : decode cX4_join 84 = .ok (.iadd, 1) := by decide +kernel
theorem dX4_join_85 : decode cX4_join 85 = .ok (.bipush 40, 2) := by decide +kernel
theorem dX4_join_87 : decode cX4_join 87 = .ok (.if_icmp .le 6, 3) := by decide +kernel
theorem dX4_join_90 : decode cX4_join 90 = .ok (.iconst 3, 1) := by decide +kernel
theorem dX4_join_91 : decode cX4_join 91 = .ok (.istore 4, 2) := by decide +kernel
theorem dX4_join_93 : decode cX4_join 93 = .ok (.iload 4, 2) := by decide +kernel
theorem dX4_join_95 : decode cX4_join 95 = .ok (.ifCond .ne 11, 3) := by decide +kernel
theorem dX4_join_98 : decode cX4_join 98 = .ok (.aload_n 0, 1) := by decide +kernel
theorem dX4_join_99 : decode cX4_join 99 = .ok (.iload_n 3, 1) := by decide +kernel
theorem dX4_join_100 : decode cX4_join 100 = .ok (.iload_n 2, 1) := by decide +kernel
theorem dX4_join_101 : decode cX4_join 101 = .ok (.invokevirtual 99, 3) := by decide +kernel
theorem dX4_join_104 : decode cX4_join 104 = .ok (.istore 4, 2) := by decide +kernel
theorem dX4_join_106 : decode cX4_join 106 = .ok (.aload_n 0, 1) := by decide +kernel
theorem dX4_join_107 : decode cX4_join 107 = .ok (.getfield 7, 3) := by decide +kernel
theorem dX4_join_110 : decode cX4_join 110 = .ok (.iload_n 2, 1) := by decide +kernel
theorem dX4_join_111 : decode cX4_join 111 = .ok (.iaload, 1) := by decide +kernel
theorem dX4_join_112 : decode cX4_join 112 = .ok (.istore 5, 2) := by decide +kernel
theorem dX4_join_114 : decode cX4_join 114 = .ok (.aload_n 0, 1) := by decide +kernel
theorem dX4_join_115 : decode cX4_join 115 = .ok (.getfield 7, 3) := by decide +kernel
theorem dX4_join_118 : decode cX4_join 118 = .ok (.iload_n 3, 1) := by decide +kernel
theorem dX4_join_119 : decode cX4_join 119 = .ok (.iaload, 1) := by decide +kernel
theorem dX4_join_120 : decode cX4_join 120 = .ok (.istore 6, 2) := by decide +kernel
theorem dX4_join_122 : decode cX4_join 122 = .ok (.iconst 0, 1) := by decide +kernel
theorem dX4_join_123 : decode cX4_join 123 = .ok (.istore 7, 2) := by decide +kernel
theorem dX4_join_125 : decode cX4_join 125 = .ok (.iload 4, 2) := by decide +kernel
theorem dX4_join_127 : decode cX4_join 127 = .ok (.ifCond .ne 68, 3) := by decide +kernel
theorem dX4_join_130 : decode cX4_join 130 = .ok (.iload 7, 2) := by decide +kernel
theorem dX4_join_132 : decode cX4_join 132 = .ok (.aload_n 0, 1) := by decide +kernel
theorem dX4_join_133 : decode cX4_join 133 = .ok (.getfield 16, 3) := by decide +kernel
theorem dX4_join_136 : decode cX4_join 136 = .ok (.iload 6, 2) := by decide +kernel
theorem dX4_join_138 : decode cX4_join 138 = .ok (.iaload, 1) := by decide +kernel
theorem dX4_join_139 : decode cX4_join 139 = .ok (.if_icmp .ge 56, 3) := by decide +kernel
theorem dX4_join_142 : decode cX4_join 142 = .ok (.aload_n 0, 1) := by decide +kernel
theorem dX4_join_143 : decode cX4_join 143 = .ok (.getfield 13, 3) := by decide +kernel
theorem dX4_join_146 : decode cX4_join 146 = .ok (.iload 6, 2) := by decide +kernel
theorem dX4_join_148 : decode cX4_join 148 = .ok (.iaload, 1) := by decide +kernel
theorem dX4_join_149 : decode cX4_join 149 = .ok (.iconst 2, 1) := by decide +kernel
theorem dX4_join_150 : decode cX4_join 150 = .ok (.if_icmp .lt 36, 3) := by decide +kernel
theorem dX4_join_153 : decode cX4_join 153 = .ok (.aload_n 0, 1) := by decide +kernel
theorem dX4_join_154 : decode cX4_join 154 = .ok (.aload_n 0, 1) := by decide +kernel
theorem dX4_join_155 : decode cX4_join 155 = .ok (.getfield 13, 3) := by decide +kernel
theorem dX4_join_158 : decode cX4_join 158 = .ok (.iload 6, 2) := by decide +kernel
theorem dX4_join_160 : decode cX4_join 160 = .ok (.iaload, 1) := by decide +kernel
theorem dX4_join_161 : decode cX4_join 161 = .ok (.aload_n 0, 1) := by decide +kernel
theorem dX4_join_162 : decode cX4_join 162 = .ok (.iload 6, 2) := by decide +kernel
theorem dX4_join_164 : decode cX4_join 164 = .ok (.iload 7, 2) := by decide +kernel
theorem dX4_join_166 : decode cX4_join 166 = .ok (.invokevirtual 82, 3) := by decide +kernel
theorem dX4_join_169 : decode cX4_join 169 = .ok (.aload_n 0, 1) := by decide +kernel
theorem dX4_join_170 : decode cX4_join 170 = .ok (.getfield 13, 3) := by decide +kernel
theorem dX4_join_173 : decode cX4_join 173 = .ok (.iload 5, 2) := by decide +kernel
theorem dX4_join_175 : decode cX4_join 175 = .ok (.iaload, 1) := by decide +kernel
theorem dX4_join_176 : decode cX4_join 176 = .ok (.invokevirtual 102, 3) := by decide +kernel
theorem dX4_join_179 : decode cX4_join 179 = .ok (.ifCond .ne 7, 3) := by decide +kernel
theorem dX4_join_182 : decode cX4_join 182 = .ok (.iconst 2, 1) := by decide +kernel
theorem dX4_join_183 : decode cX4_join 183 = .ok (.goto 4, 3) := by decide +kernel
theorem dX4_join_186 : decode cX4_join 186 = .ok (.iconst 0, 1) := by decide +kernel
theorem dX4_join_187 : decode cX4_join 187 = .ok (.istore 4, 2) := by decide +kernel
theorem dX4_join_189 : decode cX4_join 189 = .ok (.iinc 7 1, 3) := by decide +kernel
theorem dX4_join_192 : decode cX4_join 192 = .ok (.goto (-67), 3) := by decide +kernel
theorem dX4_join_195 : decode cX4_join 195 = .ok (.iload 4, 2) := by decide +kernel
theorem dX4_join_197 : decode cX4_join 197 = .ok (.ifCond .eq 10, 3) := by decide +kernel
theorem dX4_join_200 : decode cX4_join 200 = .ok (.aload_n 0, 1) := by decide +kernel
theorem dX4_join_201 : decode cX4_join 201 = .ok (.iload 4, 2) := by decide +kernel
theorem dX4_join_203 : decode cX4_join 203 = .ok (.invokevirtual 55, 3) := by decide +kernel
theorem dX4_join_206 : decode cX4_join 206 = .ok (.ireturn, 1) := by decide +kernel
theorem dX4_join_207 : decode cX4_join 207 = .ok (.aload_n 0, 1) := by decide +kernel
theorem dX4_join_208 : decode cX4_join 208 = .ok (.aload_n 0, 1) := by decide +kernel
theorem dX4_join_209 : decode cX4_join 209 = .ok (.getfield 13, 3) := by decide +kernel
theorem dX4_join_212 : decode cX4_join 212 = .ok (.iload 5, 2) := by decide +kernel
theorem dX4_join_214 : decode cX4_join 214 = .ok (.iaload, 1) := by decide +kernel
theorem dX4_join_215 : decode cX4_join 215 = .ok (.aload_n 0, 1) := by decide +kernel
theorem dX4_join_216 : decode cX4_join 216 = .ok (.getfield 16, 3) := by decide +kernel
theorem dX4_join_219 : decode cX4_join 219 = .ok (.iload 5, 2) := by decide +kernel
theorem dX4_join_221 : decode cX4_join 221 = .ok (.iaload, 1) := by decide +kernel
theorem dX4_join_222 : decode cX4_join 222 = .ok (.aload_n 0, 1) := by decide +kernel
theorem dX4_join_223 : decode cX4_join 223 = .ok (.getfield 16, 3) := by decide +kernel
theorem dX4_join_226 : decode cX4_join 226 = .ok (.iload 6, 2) := by decide +kernel
theorem dX4_join_228 : decode cX4_join 228 = .ok (.iaload, 1) := by decide +kernel
theorem dX4_join_229 : decode cX4_join 229 = .ok (.iadd, 1) := by decide +kernel
theorem dX4_join_230 : decode cX4_join 230 = .ok (.invokevirtual 59, 3) := by decide +kernel
theorem dX4_join_233 : decode cX4_join 233 = .ok (.istore 7, 2) := by decide +kernel
theorem dX4_join_235 : decode cX4_join 235 = .ok (.iconst 0, 1) := by decide +kernel
theorem dX4_join_236 : decode cX4_join 236 = .ok (.istore 8, 2) := by decide +kernel
theorem dX4_join_238 : decode cX4_join 238 = .ok (.iload 8, 2) := by decide +kernel
theorem dX4_join_240 : decode cX4_join 240 = .ok (.aload_n 0, 1) := by decide +kernel
theorem dX4_join_241 : decode cX4_join 241 = .ok (.getfield 16, 3) := by decide +kernel
theorem dX4_join_244 : decode cX4_join 244 = .ok (.iload 5, 2) := by decide +kernel
theorem dX4_join_246 : decode cX4_join 246 = .ok (.iaload, 1) := by decide +kernel
theorem dX4_join_247 : decode cX4_join 247 = .ok (.if_icmp .ge 25, 3) := by decide +kernel
theorem dX4_join_250 : decode cX4_join 250 = .ok (.aload_n 0, 1) := by decide +kernel
theorem dX4_join_251 : decode cX4_join 251 = .ok (.iload 7, 2) := by decide +kernel
theorem dX4_join_253 : decode cX4_join 253 = .ok (.iload 8, 2) := by decide +kernel
theorem dX4_join_255 : decode cX4_join 255 = .ok (.aload_n 0, 1) := by decide +kernel
theorem dX4_join_256 : decode cX4_join 256 = .ok (.iload 5, 2) := by decide +kernel
theorem dX4_join_258 : decode cX4_join 258 = .ok (.iload 8, 2) := by decide +kernel
theorem dX4_join_260 : decode cX4_join 260 = .ok (.invokevirtual 82, 3) := by decide +kernel
theorem dX4_join_263 : decode cX4_join 263 = .ok (.invokevirtual 44, 3) := by decide +kernel
theorem dX4_join_266 : decode cX4_join 266 = .ok (.iinc 8 1, 3) := by decide +kernel
theorem dX4_join_269 : decode cX4_join 269 = .ok (.goto (-31), 3) := by decide +kernel
theorem dX4_join_272 : decode cX4_join 272 = .ok (.iconst 0, 1) := by decide +kernel
theorem dX4_join_273 : decode cX4_join 273 = .ok (.istore 8, 2) := by decide +kernel
theorem dX4_join_275 : decode cX4_join 275 = .ok (.iload 8, 2) := by decide +kernel
theorem dX4_join_277 : decode cX4_join 277 = .ok (.aload_n 0, 1) := by decide +kernel
theorem dX4_join_278 : decode cX4_join 278 = .ok (.getfield 16, 3) := by decide +kernel
theorem dX4_join_281 : decode cX4_join 281 = .ok (.iload 6, 2) := by decide +kernel
theorem dX4_join_283 : decode cX4_join 283 = .ok (.iaload, 1) := by decide +kernel
theorem dX4_join_284 : decode cX4_join 284 = .ok (.if_icmp .ge 33, 3) := by decide +kernel
theorem dX4_join_287 : decode cX4_join 287 = .ok (.aload_n 0, 1) := by decide +kernel
theorem dX4_join_288 : decode cX4_join 288 = .ok (.iload 7, 2) := by decide +kernel
theorem dX4_join_290 : decode cX4_join 290 = .ok (.aload_n 0, 1) := by decide +kernel
theorem dX4_join_291 : decode cX4_join 291 = .ok (.getfield 16, 3) := by decide +kernel
theorem dX4_join_294 : decode cX4_join 294 = .ok (.iload 5, 2) := by decide +kernel
theorem dX4_join_296 : decode cX4_join 296 = .ok (.iaload, 1) := by decide +kernel
theorem dX4_join_297 : decode cX4_join 297 = .ok (.iload 8, 2) := by decide +kernel
theorem dX4_join_299 : decode cX4_join 299 = .ok (.iadd, 1) := by decide +kernel
theorem dX4_join_300 : decode cX4_join 300 = .ok (.aload_n 0, 1) := by decide +kernel
theorem dX4_join_301 : decode cX4_join 301 = .ok (.iload 6, 2) := by decide +kernel
theorem dX4_join_303 : decode cX4_join 303 = .ok (.iload 8, 2) := by decide +kernel
theorem dX4_join_305 : decode cX4_join 305 = .ok (.invokevirtual 82, 3) := by decide +kernel
theorem dX4_join_308 : decode cX4_join 308 = .ok (.invokevirtual 44, 3) := by decide +kernel
theorem dX4_join_311 : decode cX4_join 311 = .ok (.iinc 8 1, 3) := by decide +kernel
theorem dX4_join_314 : decode cX4_join 314 = .ok (.goto (-39), 3) := by decide +kernel
theorem dX4_join_317 : decode cX4_join 317 = .ok (.aload_n 0, 1) := by decide +kernel
theorem dX4_join_318 : decode cX4_join 318 = .ok (.getfield 7, 3) := by decide +kernel
theorem dX4_join_321 : decode cX4_join 321 = .ok (.iload_n 1, 1) := by decide +kernel
theorem dX4_join_322 : decode cX4_join 322 = .ok (.iload 7, 2) := by decide +kernel
theorem dX4_join_324 : decode cX4_join 324 = .ok (.iastore, 1) := by decide +kernel
theorem dX4_join_325 : decode cX4_join 325 = .ok (.aload_n 0, 1) := by decide +kernel
theorem dX4_join_326 : decode cX4_join 326 = .ok (.aload_n 0, 1) := by decide +kernel
theorem dX4_join_327 : decode cX4_join 327 = .ok (.getfield 16, 3) := by decide +kernel
theorem dX4_join_330 : decode cX4_join 330 = .ok (.iload 7, 2) := by decide +kernel
theorem dX4_join_332 : decode cX4_join 332 = .ok (.iaload, 1) := by decide +kernel
theorem dX4_join_333 : decode cX4_join 333 = .ok (.invokevirtual 63, 3) := by decide +kernel
theorem dX4_join_336 : decode cX4_join 336 = .ok (.ireturn, 1) := by decide +kernel
set_option maxRecDepth 20000 in
theorem ggX4_update_X4_isPlace : GoodIn wsX4_update wsX4_isPlace := goodIn_r _ [8, 9, 10, 11, 7, 12] (by decide +kernel) (by decide +kernel)
set_option maxRecDepth 20000 in
theorem gX4_update_X4_isPlace : GoodIn wsX4_update (va_wsS RX4 48 yX4_isPlace wsX4_isPlace) := goodIn_app (goodIn_of _ (by decide +kernel)) ggX4_update_X4_isPlace
set_option maxRecDepth 20000 in
theorem ggX4_update_X4_no : GoodIn wsX4_update wsX4_no := goodIn_r _ [16, 4, 35, 36, 37, 38, 39, 40, 41, 42, 43, 44, 45] (by decide +kernel) (by decide +kernel)
set_option maxRecDepth 20000 in
theorem gX4_update_X4_no : GoodIn wsX4_update (wsV RX4 55 RX4 yX4_no wsX4_no) := goodIn_app (goodIn_of _ (by decide +kernel)) ggX4_update_X4_no
set_option maxRecDepth 20000 in
theorem ggX4_update_X4_kindOf : GoodIn wsX4_update wsX4_kindOf := goodIn_r _ [20, 2, 21, 35, 36, 37, 38, 39, 40, 41, 42, 43, 44, 45] (by decide +kernel) (by decide +kernel)
set_option maxRecDepth 20000 in
theorem gX4_update_X4_kindOf : GoodIn wsX4_update (wsV RX4 66 RX4 yX4_kindOf wsX4_kindOf) := goodIn_app (goodIn_of _ (by decide +kernel)) ggX4_update_X4_kindOf
set_option maxRecDepth 20000 in
theorem ggX4_update_X4_get : GoodIn wsX4_update wsX4_get := goodIn_r _ [25, 26, 35, 36, 37, 38, 39, 40, 41, 42, 43, 44, 45] (by decide +kernel) (by decide +kernel)
set_option maxRecDepth 20000 in
theorem gX4_update_X4_get : GoodIn wsX4_update (wsV RX4 82 RX4 yX4_get wsX4_get) := goodIn_app (goodIn_of _ (by decide +kernel)) ggX4_update_X4_get
set_option maxRecDepth 20000 in
theorem ggX4_update_X4_within : GoodIn wsX4_update wsX4_within := goodIn_r _ [12] (by decide +kernel) (by decide +kernel)
set_option maxRecDepth 20000 in
theorem gX4_update_X4_within : GoodIn wsX4_update (va_wsS RX4 33 yX4_within wsX4_within) := goodIn_app (goodIn_of _ (by decide +kernel)) ggX4_update_X4_within
set_option maxRecDepth 20000 in
theorem ggX4_update_X4_put : GoodIn wsX4_update wsX4_put := goodIn_r _ [30, 26, 35, 36, 37, 38, 39, 40, 41, 42, 43, 44, 45] (by decide +kernel) (by decide +kernel)
set_option maxRecDepth 20000 in
theorem gX4_update_X4_put : GoodIn wsX4_update (wsV RX4 44 RX4 yX4_put wsX4_put) := goodIn_app (goodIn_of _ (by decide +kernel)) ggX4_update_X4_put
set_option maxRecDepth 20000 in
theorem ggX4_update_X4_yes : GoodIn wsX4_update wsX4_yes := goodIn_r _ [34, 4, 35, 36, 37, 38, 39, 40, 41, 42, 43, 44, 45] (by decide +kernel) (by decide +kernel)
set_option maxRecDepth 20000 in
theorem gX4_update_X4_yes : GoodIn wsX4_update (wsV RX4 63 RX4 yX4_yes wsX4_yes) := goodIn_app (goodIn_of _ (by decide +kernel)) ggX4_update_X4_yes
theorem dX4_update_0 : decode cX4_update 0 = .ok (.iload_n 1, 1) := by decide +kernel
theorem dX4_update_1 : decode cX4_update 1 = .ok (.invokestatic 48, 3) := by decide +kernel
theorem dX4_update_4 : decode cX4_update 4 = .ok (.ifCond .eq 17, 3) := by decide +kernel
theorem dX4_update_7 : decode cX4_update 7 = .ok (.iload_n 2, 1) := by decide +kernel
theorem dX4_update_8 : decode cX4_update 8 = .ok (.invokestatic 48, 3) := by decide +kernel
theorem dX4_update_11 : decode cX4_update 11 = .ok (.ifCond .eq 10, 3) := by decide +kernel
theorem dX4_update_14 : decode cX4_update 14 = .ok (.iload_n 3, 1) := by decide +kernel
theorem dX4_update_15 : decode cX4_update 15 = .ok (.invokestatic 48, 3) := by decide +kernel
theorem dX4_update_18 : decode cX4_update 18 = .ok (.ifCond .ne 6, 3) := by decide +kernel
theorem dX4_update_21 : decode cX4_update 21 = .ok (.ldc 54, 2) := by decide +kernel
theorem dX4_update_23 : decode cX4_update 23 = .ok (.ireturn, 1) := by decide +kernel
theorem dX4_update_24 : decode cX4_update 24 = .ok (.aload_n 0, 1) := by decide +kernel
theorem dX4_update_25 : decode cX4_update 25 = .ok (.getfield 7, 3) := by decide +kernel
theorem dX4_update_28 : decode cX4_update 28 = .ok (.iload_n 1, 1) := by decide +kernel
theorem dX4_update_29 : decode cX4_update 29 = .ok (.iaload, 1) := by decide +kernel
theorem dX4_update_30 : decode cX4_update 30 = .ok (.iconst (-1), 1) := by decide +kernel
theorem dX4_update_31 : decode cX4_update 31 = .ok (.if_icmp .eq 23, 3) := by decide +kernel
theorem dX4_update_34 : decode cX4_update 34 = .ok (.aload_n 0, 1) := by decide +kernel
theorem dX4_update_35 : decode cX4_update 35 = .ok (.getfield 7, 3) := by decide +kernel
theorem dX4_update_38 : decode cX4_update 38 = .ok (.iload_n 2, 1) := by decide +kernel
theorem dX4_update_39 : decode cX4_update 39 = .ok (.iaload, 1) := by decide +kernel
theorem dX4_update_40 : decode cX4_update 40 = .ok (.iconst (-1), 1) := by decide +kernel
theorem dX4_update_41 : decode cX4_update 41 = .ok (.if_icmp .eq 13, 3) := by decide +kernel
theorem dX4_update_44 : decode cX4_update 44 = .ok (.aload_n 0, 1) := by decide +kernel
theorem dX4_update_45 : decode cX4_update 45 = .ok (.getfield 7, 3) := by decide +kernel
theorem dX4_update_48 : decode cX4_update 48 = .ok (.iload_n 3, 1) := by decide +kernel
theorem dX4_update_49 : decode cX4_update 49 = .ok (.iaload, 1) := by decide +kernel
theorem dX4_update_50 : decode cX4_update 50 = .ok (.iconst (-1), 1) := by decide +kernel
theorem dX4_update_51 : decode cX4_update 51 = .ok (.if_icmp .ne 9, 3) := by decide +kernel
theorem dX4_update_54 : decode cX4_update 54 = .ok (.aload_n 0, 1) := by decide +kernel
theorem dX4_update_55 : decode cX4_update 55 = .ok (.iconst 1, 1) := by decide +kernel
theorem dX4_update_56 : decode cX4_update 56 = .ok (.invokevirtual 55, 3) := by decide +kernel
theorem dX4_update_59 : decode cX4_update 59 = .ok (.ireturn, 1) := by decide +kernel
theorem dX4_update_60 : decode cX4_update 60 = .ok (.aload_n 0, 1) := by decide +kernel
theorem dX4_update_61 : decode cX4_update 61 = .ok (.iload_n 1, 1) := by decide +kernel
theorem dX4_update_62 : decode cX4_update 62 = .ok (.invokevirtual 66, 3) := by decide +kernel
theorem dX4_update_65 : decode cX4_update 65 = .ok (.iconst 1, 1) := by decide +kernel
theorem dX4_update_66 : decode cX4_update 66 = .ok (.if_icmp .ne 21, 3) := by decide +kernel
theorem dX4_update_69 : decode cX4_update 69 = .ok (.aload_n 0, 1) := by decide +kernel
theorem dX4_update_70 : decode cX4_update 70 = .ok (.iload_n 2, 1) := by decide +kernel
theorem dX4_update_71 : decode cX4_update 71 = .ok (.invokevirtual 66, 3) := by decide +kernel
theorem dX4_update_74 : decode cX4_update 74 = .ok (.iconst 1, 1) := by decide +kernel
theorem dX4_update_75 : decode cX4_update 75 = .ok (.if_icmp .ne 12, 3) := by decide +kernel
theorem dX4_update_78 : decode cX4_update 78 = .ok (.aload_n 0, 1) := by decide +kernel
theorem dX4_update_79 : decode cX4_update 79 = .ok (.iload_n 3, 1) := by decide +kernel
theorem dX4_update_80 : decode cX4_update 80 = .ok (.invokevirtual 66, 3) := by decide +kernel
theorem dX4_update_83 : decode cX4_update 83 = .ok (.iconst 1, 1) := by decide +kernel
theorem dX4_update_84 : decode cX4_update 84 = .ok (.if_icmp .eq 9, 3) := by decide +kernel
theorem dX4_update_87 : decode cX4_update 87 = .ok (.aload_n 0, 1) := by decide +kernel
theorem dX4_update_88 : decode cX4_update 88 = .ok (.iconst 5, 1) := by decide +kernel
theorem dX4_update_89 : decode cX4_update 89 = .ok (.invokevirtual 55, 3) := by decide +kernel
theorem dX4_update_92 : decode cX4_update 92 = .ok (.ireturn, 1) := by decide +kernel
theorem dX4_update_93 : decode cX4_update 93 = .ok (.aload_n 0, 1) := by decide +kernel
theorem dX4_update_94 : decode cX4_update 94 = .ok (.getfield 7, 3) := by decide +kernel
theorem dX4_update_97 : decode cX4_update 97 = .ok (.iload_n 1, 1) := by decide +kernel
theorem dX4_update_98 : decode cX4_update 98 = .ok (.iaload, 1) := by decide +kernel
theorem dX4_update_99 : decode cX4_update 99 = .ok (.istore 4, 2) := by decide +kernel
theorem dX4_update_101 : decode cX4_update 101 = .ok (.aload_n 0, 1) := by decide +kernel
theorem dX4_update_102 : decode cX4_update 102 = .ok (.getfield 7, 3) := by decide +kernel
theorem dX4_update_105 : decode cX4_update 105 = .ok (.iload_n 2, 1) := by decide +kernel
theorem dX4_update_106 : decode cX4_update 106 = .ok (.iaload, 1) := by decide +kernel
theorem dX4_update_107 : decode cX4_update 107 = .ok (.istore 5, 2) := by decide +kernel
theorem dX4_update_109 : decode cX4_update 109 = .ok (.aload_n 0, 1) := by decide +kernel
theorem dX4_update_110 : decode cX4_update 110 = .ok (.getfield 7, 3) := by decide +kernel
theorem dX4_update_113 : decode cX4_update 113 = .ok (.iload_n 3, 1) := by decide +kernel
theorem dX4_update_114 : decode cX4_update 114 = .ok (.iaload, 1) := by decide +kernel
theorem dX4_update_115 : decode cX4_update 115 = .ok (.istore 6, 2) := by decide +kernel
theorem dX4_update_117 : decode cX4_update 117 = .ok (.iconst 0, 1) := by decide +kernel
theorem dX4_update_118 : decode cX4_update 118 = .ok (.istore 7, 2) := by decide +kernel
theorem dX4_update_120 : decode cX4_update 120 = .ok (.iload 7, 2) := by decide +kernel
theorem dX4_update_122 : decode cX4_update 122 = .ok (.aload_n 0, 1) := by decide +kernel
theorem dX4_update_123 : decode cX4_update 123 = .ok (.getfield 16, 3) := by decide +kernel
theorem dX4_update_126 : decode cX4_update 126 = .ok (.iload 5, 2) := by decide +kernel
theorem dX4_update_128 : decode cX4_update 128 = .ok (.iaload, 1) := by decide +kernel
theorem dX4_update_129 : decode cX4_update 129 = .ok (.if_icmp .ge 83, 3) := by decide +kernel
theorem dX4_update_132 : decode cX4_update 132 = .ok (.aload_n 0, 1) := by decide +kernel
theorem dX4_update_133 : decode cX4_update 133 = .ok (.iload 5, 2) := by decide +kernel
theorem dX4_update_135 : decode cX4_update 135 = .ok (.iload 7, 2) := by decide +kernel
theorem dX4_update_137 : decode cX4_update 137 = .ok (.invokevirtual 82, 3) := by decide +kernel
theorem dX4_update_140 : decode cX4_update 140 = .ok (.istore 8, 2) := by decide +kernel
theorem dX4_update_142 : decode cX4_update 142 = .ok (.iload 8, 2) := by decide +kernel
theorem dX4_update_144 : decode cX4_update 144 = .ok (.i2l, 1) := by decide +kernel
theorem dX4_update_145 : decode cX4_update 145 = .ok (.lconst 0, 1) := by decide +kernel
theorem dX4_update_146 : decode cX4_update 146 = .ok (.aload_n 0, 1) := by decide +kernel
theorem dX4_update_147 : decode cX4_update 147 = .ok (.getfield 16, 3) := by decide +kernel
theorem dX4_update_150 : decode cX4_update 150 = .ok (.iload 6, 2) := by decide +kernel
theorem dX4_update_152 : decode cX4_update 152 = .ok (.iaload, 1) := by decide +kernel
theorem dX4_update_153 : decode cX4_update 153 = .ok (.iconst 1, 1) := by decide +kernel
theorem dX4_update_154 : decode cX4_update 154 = .ok (.isub, 1) := by decide +kernel
theorem dX4_update_155 : decode cX4_update 155 = .ok (.i2l, 1) := by decide +kernel
theorem dX4_update_156 : decode cX4_update 156 = .ok (.invokestatic 33, 3) := by decide +kernel
theorem dX4_update_159 : decode cX4_update 159 = .ok (.ifCond .eq 23, 3) := by decide +kernel
theorem dX4_update_162 : decode cX4_update 162 = .ok (.iload 8, 2) := by decide +kernel
theorem dX4_update_164 : decode cX4_update 164 = .ok (.i2l, 1) := by decide +kernel
theorem dX4_update_165 : decode cX4_update 165 = .ok (.lconst 0, 1) := by decide +kernel
theorem dX4_update_166 : decode cX4_update 166 = .ok (.aload_n 0, 1) := by decide +kernel
theorem dX4_update_167 : decode cX4_update 167 = .ok (.getfield 16, 3) := by decide +kernel
theorem dX4_update_170 : decode cX4_update 170 = .ok (.iload 4, 2) := by decide +kernel
theorem dX4_update_172 : decode cX4_update 172 = .ok (.iaload, 1) := by decide +kernel
theorem dX4_update_173 : decode cX4_update 173 = .ok (.iconst 1, 1) := by decide +kernel
theorem dX4_update_174 : decode cX4_update 174 = .ok (.isub, 1) := by decide +kernel
theorem dX4_update_175 : decode cX4_update 175 = .ok (.i2l, 1) := by decide +kernel
theorem dX4_update_176 : decode cX4_update 176 = .ok (.invokestatic 33, 3) := by decide +kernel
theorem dX4_update_179 : decode cX4_update 179 = .ok (.ifCond .ne 11, 3) := by decide +kernel
theorem dX4_update_182 : decode cX4_update 182 = .ok (.aload_n 0, 1) := by decide +kernel
theorem dX4_update_183 : decode cX4_update 183 = .ok (.iconst 3, 1) := by decide +kernel
theorem dX4_update_184 : decode cX4_update 184 = .ok (.putfield 37, 3) := by decide +kernel
theorem dX4_update_187 : decode cX4_update 187 = .ok (.iload 7, 2) := by decide +kernel
theorem dX4_update_189 : decode cX4_update 189 = .ok (.ireturn, 1) := by decide +kernel
theorem dX4_update_190 : decode cX4_update 190 = .ok (.aload_n 0, 1) := by decide +kernel
theorem dX4_update_191 : decode cX4_update 191 = .ok (.iload 4, 2) := by decide +kernel
theorem dX4_update_193 : decode cX4_update 193 = .ok (.iload 8, 2) := by decide +kernel
theorem dX4_update_195 : decode cX4_update 195 = .ok (.aload_n 0, 1) := by decide +kernel
theorem dX4_update_196 : decode cX4_update 196 = .ok (.iload 6, 2) := by decide +kernel
theorem dX4_update_198 : decode cX4_update 198 = .ok (.iload 8, 2) := by decide +kernel
theorem dX4_update_200 : decode cX4_update 200 = .ok (.invokevirtual 82, 3) := by decide +kernel
theorem dX4_update_203 : decode cX4_update 203 = .ok (.invokevirtual 44, 3) := by decide +kernel
theorem dX4_update_206 : decode cX4_update 206 = .ok (.iinc 7 1, 3) := by decide +kernel
theorem dX4_update_209 : decode cX4_update 209 = .ok (.goto (-89), 3) := by decide +kernel
theorem dX4_update_212 : decode cX4_update 212 = .ok (.aload_n 0, 1) := by decide +kernel
theorem dX4_update_213 : decode cX4_update 213 = .ok (.aload_n 0, 1) := by decide +kernel
theorem dX4_update_214 : decode cX4_update 214 = .ok (.getfield 16, 3) := by decide +kernel
theorem dX4_update_217 : decode cX4_update 217 = .ok (.iload 5, 2) := by decide +kernel
theorem dX4_update_219 : decode cX4_update 219 = .ok (.iaload, 1) := by decide +kernel
theorem dX4_update_220 : decode cX4_update 220 = .ok (.invokevirtual 63, 3) := by decide +kernel
theorem dX4_update_223 : decode cX4_update 223 = .ok (.ireturn, 1) := by decide +kernel
set_option maxRecDepth 20000 in
theorem ggX4_rotate_X4_isPlace : GoodIn wsX4_rotate wsX4_isPlace := goodIn_r _ [8, 9, 10, 11, 7, 12] (by decide +kernel) (by decide +kernel)
set_option maxRecDepth 20000 in
theorem gX4_rotate_X4_isPlace : GoodIn wsX4_rotate (va_wsS RX4 48 yX4_isPlace wsX4_isPlace) := goodIn_app (goodIn_of _ (by decide +kernel)) ggX4_rotate_X4_isPlace
set_option maxRecDepth 20000 in
theorem ggX4_rotate_X4_wantsRow : GoodIn wsX4_rotate wsX4_wantsRow := goodIn_r _ [16, 2, 39, 40, 41, 42, 43, 44, 45, 46, 47, 48, 49] (by decide +kernel) (by decide +kernel)
set_option maxRecDepth 20000 in
theorem gX4_rotate_X4_wantsRow : GoodIn wsX4_rotate (wsV RX4 72 RX4 yX4_wantsRow wsX4_wantsRow) := goodIn_app (goodIn_of _ (by decide +kernel)) ggX4_rotate_X4_wantsRow
set_option maxRecDepth 20000 in
theorem ggX4_rotate_X4_lengthOf : GoodIn wsX4_rotate wsX4_lengthOf := goodIn_r _ [20, 3, 2, 39, 40, 41, 42, 43, 44, 45, 46, 47, 48, 49] (by decide +kernel) (by decide +kernel)
set_option maxRecDepth 20000 in
theorem gX4_rotate_X4_lengthOf : GoodIn wsX4_rotate (wsV RX4 75 RX4 yX4_lengthOf wsX4_lengthOf) := goodIn_app (goodIn_of _ (by decide +kernel)) ggX4_rotate_X4_lengthOf
set_option maxRecDepth 20000 in
theorem ggX4_rotate_X4_no : GoodIn wsX4_rotate wsX4_no := goodIn_r _ [24, 25, 39, 40, 41, 42, 43, 44, 45, 46, 47, 48, 49] (by decide +kernel) (by decide +kernel)
set_option maxRecDepth 20000 in
theorem gX4_rotate_X4_no : GoodIn wsX4_rotate (wsV RX4 55 RX4 yX4_no wsX4_no) := goodIn_app (goodIn_of _ (by decide +kernel)) ggX4_rotate_X4_no
set_option maxRecDepth 20000 in
theorem ggX4_rotate_X4_get : GoodIn wsX4_rotate wsX4_get := goodIn_r _ [29, 30, 39, 40, 41, 42, 43, 44, 45, 46, 47, 48, 49] (by decide +kernel) (by decide +kernel)
set_option maxRecDepth 20000 in
theorem gX4_rotate_X4_get : GoodIn wsX4_rotate (wsV RX4 82 RX4 yX4_get wsX4_get) := goodIn_app (goodIn_of _ (by decide +kernel)) ggX4_rotate_X4_get
set_option maxRecDepth 20000 in
theorem ggX4_rotate_X4_put : GoodIn wsX4_rotate wsX4_put := goodIn_r _ [34, 30, 39, 40, 41, 42, 43, 44, 45, 46, 47, 48, 49] (by decide +kernel) (by decide +kernel)
set_option maxRecDepth 20000 in
theorem gX4_rotate_X4_put : GoodIn wsX4_rotate (wsV RX4 44 RX4 yX4_put wsX4_put) := goodIn_app (goodIn_of _ (by decide +kernel)) ggX4_rotate_X4_put
set_option maxRecDepth 20000 in
theorem ggX4_rotate_X4_yes : GoodIn wsX4_rotate wsX4_yes := goodIn_r _ [38, 25, 39, 40, 41, 42, 43, 44, 45, 46, 47, 48, 49] (by decide +kernel) (by decide +kernel)
set_option maxRecDepth 20000 in
theorem gX4_rotate_X4_yes : GoodIn wsX4_rotate (wsV RX4 63 RX4 yX4_yes wsX4_yes) := goodIn_app (goodIn_of _ (by decide +kernel)) ggX4_rotate_X4_yes
theorem dX4_rotate_0 : decode cX4_rotate 0 = .ok (.iload_n 1, 1) := by decide +kernel
theorem dX4_rotate_1 : decode cX4_rotate 1 = .ok (.invokestatic 48, 3) := by decide +kernel
theorem dX4_rotate_4 : decode cX4_rotate 4 = .ok (.ifCond .ne 6, 3) := by decide +kernel
theorem dX4_rotate_7 : decode cX4_rotate 7 = .ok (.ldc 54, 2) := by decide +kernel
theorem dX4_rotate_9 : decode cX4_rotate 9 = .ok (.ireturn, 1) := by decide +kernel
theorem dX4_rotate_10 : decode cX4_rotate 10 = .ok (.aload_n 0, 1) := by decide +kernel
theorem dX4_rotate_11 : decode cX4_rotate 11 = .ok (.iload_n 1, 1) := by decide +kernel
theorem dX4_rotate_12 : decode cX4_rotate 12 = .ok (.invokevirtual 72, 3) := by decide +kernel
theorem dX4_rotate_15 : decode cX4_rotate 15 = .ok (.istore_n 3, 1) := by decide +kernel
theorem dX4_rotate_16 : decode cX4_rotate 16 = .ok (.iload_n 3, 1) := by decide +kernel
theorem dX4_rotate_17 : decode cX4_rotate 17 = .ok (.ifCond .ne 14, 3) := by decide +kernel
theorem dX4_rotate_20 : decode cX4_rotate 20 = .ok (.aload_n 0, 1) := by decide +kernel
theorem dX4_rotate_21 : decode cX4_rotate 21 = .ok (.iload_n 1, 1) := by decide +kernel
theorem dX4_rotate_22 : decode cX4_rotate 22 = .ok (.invokevirtual 75, 3) := by decide +kernel
theorem dX4_rotate_25 : decode cX4_rotate 25 = .ok (.ifCond .ne 6, 3) := by decide +kernel
theorem dX4_rotate_28 : decode cX4_rotate 28 = .ok (.bipush 6, 2) := by decide +kernel
theorem dX4_rotate_30 : decode cX4_rotate 30 = .ok (.istore_n 3, 1) := by decide +kernel
theorem dX4_rotate_31 : decode cX4_rotate 31 = .ok (.iload_n 3, 1) := by decide +kernel
theorem dX4_rotate_32 : decode cX4_rotate 32 = .ok (.ifCond .eq 9, 3) := by decide +kernel
theorem dX4_rotate_35 : decode cX4_rotate 35 = .ok (.aload_n 0, 1) := by decide +kernel
theorem dX4_rotate_36 : decode cX4_rotate 36 = .ok (.iload_n 3, 1) := by decide +kernel
theorem dX4_rotate_37 : decode cX4_rotate 37 = .ok (.invokevirtual 55, 3) := by decide +kernel
theorem dX4_rotate_40 : decode cX4_rotate 40 = .ok (.ireturn, 1) := by decide +kernel
theorem dX4_rotate_41 : decode cX4_rotate 41 = .ok (.aload_n 0, 1) := by decide +kernel
theorem dX4_rotate_42 : decode cX4_rotate 42 = .ok (.getfield 7, 3) := by decide +kernel
theorem dX4_rotate_45 : decode cX4_rotate 45 = .ok (.iload_n 1, 1) := by decide +kernel
theorem dX4_rotate_46 : decode cX4_rotate 46 = .ok (.iaload, 1) := by decide +kernel
theorem dX4_rotate_47 : decode cX4_rotate 47 = .ok (.istore 4, 2) := by decide +kernel
theorem dX4_rotate_49 : decode cX4_rotate 49 = .ok (.aload_n 0, 1) := by decide +kernel
theorem dX4_rotate_50 : decode cX4_rotate 50 = .ok (.getfield 16, 3) := by decide +kernel
theorem dX4_rotate_53 : decode cX4_rotate 53 = .ok (.iload 4, 2) := by decide +kernel
theorem dX4_rotate_55 : decode cX4_rotate 55 = .ok (.iaload, 1) := by decide +kernel
theorem dX4_rotate_56 : decode cX4_rotate 56 = .ok (.istore 5, 2) := by decide +kernel
theorem dX4_rotate_58 : decode cX4_rotate 58 = .ok (.iload_n 2, 1) := by decide +kernel
theorem dX4_rotate_59 : decode cX4_rotate 59 = .ok (.iload 5, 2) := by decide +kernel
theorem dX4_rotate_61 : decode cX4_rotate 61 = .ok (.irem, 1) := by decide +kernel
theorem dX4_rotate_62 : decode cX4_rotate 62 = .ok (.istore 6, 2) := by decide +kernel
theorem dX4_rotate_64 : decode cX4_rotate 64 = .ok (.iload 6, 2) := by decide +kernel
theorem dX4_rotate_66 : decode cX4_rotate 66 = .ok (.ifCond .ge 11, 3) := by decide +kernel
theorem dX4_rotate_69 : decode cX4_rotate 69 = .ok (.iload 6, 2) := by decide +kernel
theorem dX4_rotate_71 : decode cX4_rotate 71 = .ok (.iload 5, 2) := by decide +kernel
theorem dX4_rotate_73 : decode cX4_rotate 73 = .ok (.iadd, 1) := by decide +kernel
theorem dX4_rotate_74 : decode cX4_rotate 74 = .ok (.goto 5, 3) := by decide +kernel
theorem dX4_rotate_77 : decode cX4_rotate 77 = .ok (.iload 6, 2) := by decide +kernel
theorem dX4_rotate_79 : decode cX4_rotate 79 = .ok (.istore 6, 2) := by decide +kernel
theorem dX4_rotate_81 : decode cX4_rotate 81 = .ok (.iconst 0, 1) := by decide +kernel
theorem dX4_rotate_82 : decode cX4_rotate 82 = .ok (.istore 7, 2) := by decide +kernel
theorem dX4_rotate_84 : decode cX4_rotate 84 = .ok (.iload 7, 2) := by decide +kernel
theorem dX4_rotate_86 : decode cX4_rotate 86 = .ok (.iload 5, 2) := by decide +kernel
theorem dX4_rotate_88 : decode cX4_rotate 88 = .ok (.if_icmp .ge 30, 3) := by decide +kernel
theorem dX4_rotate_91 : decode cX4_rotate 91 = .ok (.aload_n 0, 1) := by decide +kernel
theorem dX4_rotate_92 : decode cX4_rotate 92 = .ok (.getfield 28, 3) := by decide +kernel
theorem dX4_rotate_95 : decode cX4_rotate 95 = .ok (.iload 7, 2) := by decide +kernel
theorem dX4_rotate_97 : decode cX4_rotate 97 = .ok (.iload 6, 2) := by decide +kernel
theorem dX4_rotate_99 : decode cX4_rotate 99 = .ok (.iadd, 1) := by decide +kernel
theorem dX4_rotate_100 : decode cX4_rotate 100 = .ok (.iload 5, 2) := by decide +kernel
theorem dX4_rotate_102 : decode cX4_rotate 102 = .ok (.irem, 1) := by decide +kernel
theorem dX4_rotate_103 : decode cX4_rotate 103 = .ok (.aload_n 0, 1) := by decide +kernel
theorem dX4_rotate_104 : decode cX4_rotate 104 = .ok (.iload 4, 2) := by decide +kernel
theorem dX4_rotate_106 : decode cX4_rotate 106 = .ok (.iload 7, 2) := by decide +kernel
theorem dX4_rotate_108 : decode cX4_rotate 108 = .ok (.invokevirtual 82, 3) := by decide +kernel
theorem dX4_rotate_111 : decode cX4_rotate 111 = .ok (.iastore, 1) := by decide +kernel
theorem dX4_rotate_112 : decode cX4_rotate 112 = .ok (.iinc 7 1, 3) := by decide +kernel
theorem dX4_rotate_115 : decode cX4_rotate 115 = .ok (.goto (-31), 3) := by decide +kernel
theorem dX4_rotate_118 : decode cX4_rotate 118 = .ok (.iconst 0, 1) := by decide +kernel
theorem dX4_rotate_119 : decode cX4_rotate 119 = .ok (.istore 7, 2) := by decide +kernel
theorem dX4_rotate_121 : decode cX4_rotate 121 = .ok (.iload 7, 2) := by decide +kernel
theorem dX4_rotate_123 : decode cX4_rotate 123 = .ok (.iload 5, 2) := by decide +kernel
theorem dX4_rotate_125 : decode cX4_rotate 125 = .ok (.if_icmp .ge 24, 3) := by decide +kernel
theorem dX4_rotate_128 : decode cX4_rotate 128 = .ok (.aload_n 0, 1) := by decide +kernel
theorem dX4_rotate_129 : decode cX4_rotate 129 = .ok (.iload 4, 2) := by decide +kernel
theorem dX4_rotate_131 : decode cX4_rotate 131 = .ok (.iload 7, 2) := by decide +kernel
theorem dX4_rotate_133 : decode cX4_rotate 133 = .ok (.aload_n 0, 1) := by decide +kernel
theorem dX4_rotate_134 : decode cX4_rotate 134 = .ok (.getfield 28, 3) := by decide +kernel
theorem dX4_rotate_137 : decode cX4_rotate 137 = .ok (.iload 7, 2) := by decide +kernel
theorem dX4_rotate_139 : decode cX4_rotate 139 = .ok (.iaload, 1) := by decide +kernel
theorem dX4_rotate_140 : decode cX4_rotate 140 = .ok (.invokevirtual 44, 3) := by decide +kernel
theorem dX4_rotate_143 : decode cX4_rotate 143 = .ok (.iinc 7 1, 3) := by decide +kernel
theorem dX4_rotate_146 : decode cX4_rotate 146 = .ok (.goto (-25), 3) := by decide +kernel
theorem dX4_rotate_149 : decode cX4_rotate 149 = .ok (.aload_n 0, 1) := by decide +kernel
theorem dX4_rotate_150 : decode cX4_rotate 150 = .ok (.iload 6, 2) := by decide +kernel
theorem dX4_rotate_152 : decode cX4_rotate 152 = .ok (.invokevirtual 63, 3) := by decide +kernel
theorem dX4_rotate_155 : decode cX4_rotate 155 = .ok (.ireturn, 1) := by decide +kernel
set_option maxRecDepth 20000 in
theorem ggX4_sumOf_X4_get : GoodIn wsX4_sumOf wsX4_get := goodIn_r _ [6, 7, 8, 9, 10, 11, 12, 13, 14, 15, 16, 17, 18] (by decide +kernel) (by decide +kernel)
set_option maxRecDepth 20000 in
theorem gX4_sumOf_X4_get : GoodIn wsX4_sumOf (wsV RX4 82 RX4 yX4_get wsX4_get) := goodIn_app (goodIn_of _ (by decide +kernel)) ggX4_sumOf_X4_get
theorem dX4_sumOf_0 : decode cX4_sumOf 0 = .ok (.iconst 0, 1) := by decide +kernel
theorem dX4_sumOf_1 : decode cX4_sumOf 1 = .ok (.istore_n 2, 1) := by decide +kernel
theorem dX4_sumOf_2 : decode cX4_sumOf 2 = .ok (.iconst 0, 1) := by decide +kernel
theorem dX4_sumOf_3 : decode cX4_sumOf 3 = .ok (.istore_n 3, 1) := by decide +kernel
theorem dX4_sumOf_4 : decode cX4_sumOf 4 = .ok (.iload_n 3, 1) := by decide +kernel
theorem dX4_sumOf_5 : decode cX4_sumOf 5 = .ok (.aload_n 0, 1) := by decide +kernel
theorem dX4_sumOf_6 : decode cX4_sumOf 6 = .ok (.getfield 16, 3) := by decide +kernel
theorem dX4_sumOf_9 : decode cX4_sumOf 9 = .ok (.iload_n 1, 1) := by decide +kernel
theorem dX4_sumOf_10 : decode cX4_sumOf 10 = .ok (.iaload, 1) := by decide +kernel
theorem dX4_sumOf_11 : decode cX4_sumOf 11 = .ok (.if_icmp .ge 18, 3) := by decide +kernel
theorem dX4_sumOf_14 : decode cX4_sumOf 14 = .ok (.iload_n 2, 1) := by decide +kernel
theorem dX4_sumOf_15 : decode cX4_sumOf 15 = .ok (.aload_n 0, 1) := by decide +kernel
theorem dX4_sumOf_16 : decode cX4_sumOf 16 = .ok (.iload_n 1, 1) := by decide +kernel
theorem dX4_sumOf_17 : decode cX4_sumOf 17 = .ok (.iload_n 3, 1) := by decide +kernel
theorem dX4_sumOf_18 : decode cX4_sumOf 18 = .ok (.invokevirtual 82, 3) := by decide +kernel
theorem dX4_sumOf_21 : decode cX4_sumOf 21 = .ok (.iadd, 1) := by decide +kernel
theorem dX4_sumOf_22 : decode cX4_sumOf 22 = .ok (.istore_n 2, 1) := by decide +kernel
theorem dX4_sumOf_23 : decode cX4_sumOf 23 = .ok (.iinc 3 1, 3) := by decide +kernel
theorem dX4_sumOf_26 : decode cX4_sumOf 26 = .ok (.goto (-22), 3) := by decide +kernel
theorem dX4_sumOf_29 : decode cX4_sumOf 29 = .ok (.iload_n 2, 1) := by decide +kernel
theorem dX4_sumOf_30 : decode cX4_sumOf 30 = .ok (.ireturn, 1) := by decide +kernel
set_option maxRecDepth 20000 in
theorem ggX4_sum_X4_isPlace : GoodIn wsX4_sum wsX4_isPlace := goodIn_r _ [8, 9, 10, 11, 7, 12] (by decide +kernel) (by decide +kernel)
set_option maxRecDepth 20000 in
theorem gX4_sum_X4_isPlace : GoodIn wsX4_sum (va_wsS RX4 48 yX4_isPlace wsX4_isPlace) := goodIn_app (goodIn_of _ (by decide +kernel)) ggX4_sum_X4_isPlace
set_option maxRecDepth 20000 in
theorem ggX4_sum_X4_wantsRow : GoodIn wsX4_sum wsX4_wantsRow := goodIn_r _ [16, 2, 39, 40, 41, 42, 43, 44, 45, 46, 47, 48, 49] (by decide +kernel) (by decide +kernel)
set_option maxRecDepth 20000 in
theorem gX4_sum_X4_wantsRow : GoodIn wsX4_sum (wsV RX4 72 RX4 yX4_wantsRow wsX4_wantsRow) := goodIn_app (goodIn_of _ (by decide +kernel)) ggX4_sum_X4_wantsRow
set_option maxRecDepth 20000 in
theorem ggX4_sum_X4_kindOf : GoodIn wsX4_sum wsX4_kindOf := goodIn_r _ [20, 2, 3, 39, 40, 41, 42, 43, 44, 45, 46, 47, 48, 49] (by decide +kernel) (by decide +kernel)
set_option maxRecDepth 20000 in
theorem gX4_sum_X4_kindOf : GoodIn wsX4_sum (wsV RX4 66 RX4 yX4_kindOf wsX4_kindOf) := goodIn_app (goodIn_of _ (by decide +kernel)) ggX4_sum_X4_kindOf
set_option maxRecDepth 20000 in
theorem ggX4_sum_X4_no : GoodIn wsX4_sum wsX4_no := goodIn_r _ [24, 25, 39, 40, 41, 42, 43, 44, 45, 46, 47, 48, 49] (by decide +kernel) (by decide +kernel)
set_option maxRecDepth 20000 in
theorem gX4_sum_X4_no : GoodIn wsX4_sum (wsV RX4 55 RX4 yX4_no wsX4_no) := goodIn_app (goodIn_of _ (by decide +kernel)) ggX4_sum_X4_no
set_option maxRecDepth 20000 in
theorem ggX4_sum_X4_sumOf : GoodIn wsX4_sum wsX4_sumOf := goodIn_r _ [29, 4, 30, 31, 32, 7, 33, 34, 39, 40, 41, 42, 43, 44, 45, 46, 47, 48, 49] (by decide +kernel) (by decide +kernel)
set_option maxRecDepth 20000 in
theorem gX4_sum_X4_sumOf : GoodIn wsX4_sum (wsV RX4 109 RX4 yX4_sumOf wsX4_sumOf) := goodIn_app (goodIn_of _ (by decide +kernel)) ggX4_sum_X4_sumOf
set_option maxRecDepth 20000 in
theorem ggX4_sum_X4_yes : GoodIn wsX4_sum wsX4_yes := goodIn_r _ [38, 25, 39, 40, 41, 42, 43, 44, 45, 46, 47, 48, 49] (by decide +kernel) (by decide +kernel)
set_option maxRecDepth 20000 in
theorem gX4_sum_X4_yes : GoodIn wsX4_sum (wsV RX4 63 RX4 yX4_yes wsX4_yes) := goodIn_app (goodIn_of _ (by decide +kernel)) ggX4_sum_X4_yes
set_option maxRecDepth 20000 in
theorem ggX4_sum_X4_get : GoodIn wsX4_sum wsX4_get := goodIn_r _ [33, 34, 39, 40, 41, 42, 43, 44, 45, 46, 47, 48, 49] (by decide +kernel) (by decide +kernel)
set_option maxRecDepth 20000 in
theorem gX4_sum_X4_get : GoodIn wsX4_sum (wsV RX4 82 RX4 yX4_get wsX4_get) := goodIn_app (goodIn_of _ (by decide +kernel)) ggX4_sum_X4_get
theorem dX4_sum_0 : decode cX4_sum 0 = .ok (.iload_n 1, 1) := by decide +kernel
theorem dX4_sum_1 : decode cX4_sum 1 = .ok (.invokestatic 48, 3) := by decide +kernel
theorem dX4_sum_4 : decode cX4_sum 4 = .ok (.ifCond .ne 6, 3) := by decide +kernel
theorem dX4_sum_7 : decode cX4_sum 7 = .ok (.ldc 54, 2) := by decide +kernel
theorem dX4_sum_9 : decode cX4_sum 9 = .ok (.ireturn, 1) := by decide +kernel
theorem dX4_sum_10 : decode cX4_sum 10 = .ok (.aload_n 0, 1) := by decide +kernel
theorem dX4_sum_11 : decode cX4_sum 11 = .ok (.iload_n 1, 1) := by decide +kernel
theorem dX4_sum_12 : decode cX4_sum 12 = .ok (.invokevirtual 72, 3) := by decide +kernel
theorem dX4_sum_15 : decode cX4_sum 15 = .ok (.istore_n 2, 1) := by decide +kernel
theorem dX4_sum_16 : decode cX4_sum 16 = .ok (.iload_n 2, 1) := by decide +kernel
theorem dX4_sum_17 : decode cX4_sum 17 = .ok (.ifCond .ne 14, 3) := by decide +kernel
theorem dX4_sum_20 : decode cX4_sum 20 = .ok (.aload_n 0, 1) := by decide +kernel
theorem dX4_sum_21 : decode cX4_sum 21 = .ok (.iload_n 1, 1) := by decide +kernel
theorem dX4_sum_22 : decode cX4_sum 22 = .ok (.invokevirtual 66, 3) := by decide +kernel
theorem dX4_sum_25 : decode cX4_sum 25 = .ok (.iconst 2, 1) := by decide +kernel
theorem dX4_sum_26 : decode cX4_sum 26 = .ok (.if_icmp .le 5, 3) := by decide +kernel
theorem dX4_sum_29 : decode cX4_sum 29 = .ok (.iconst 5, 1) := by decide +kernel
theorem dX4_sum_30 : decode cX4_sum 30 = .ok (.istore_n 2, 1) := by decide +kernel
theorem dX4_sum_31 : decode cX4_sum 31 = .ok (.iload_n 2, 1) := by decide +kernel
theorem dX4_sum_32 : decode cX4_sum 32 = .ok (.ifCond .eq 9, 3) := by decide +kernel
theorem dX4_sum_35 : decode cX4_sum 35 = .ok (.aload_n 0, 1) := by decide +kernel
theorem dX4_sum_36 : decode cX4_sum 36 = .ok (.iload_n 2, 1) := by decide +kernel
theorem dX4_sum_37 : decode cX4_sum 37 = .ok (.invokevirtual 55, 3) := by decide +kernel
theorem dX4_sum_40 : decode cX4_sum 40 = .ok (.ireturn, 1) := by decide +kernel
theorem dX4_sum_41 : decode cX4_sum 41 = .ok (.aload_n 0, 1) := by decide +kernel
theorem dX4_sum_42 : decode cX4_sum 42 = .ok (.getfield 7, 3) := by decide +kernel
theorem dX4_sum_45 : decode cX4_sum 45 = .ok (.iload_n 1, 1) := by decide +kernel
theorem dX4_sum_46 : decode cX4_sum 46 = .ok (.iaload, 1) := by decide +kernel
theorem dX4_sum_47 : decode cX4_sum 47 = .ok (.istore_n 3, 1) := by decide +kernel
theorem dX4_sum_48 : decode cX4_sum 48 = .ok (.aload_n 0, 1) := by decide +kernel
theorem dX4_sum_49 : decode cX4_sum 49 = .ok (.getfield 13, 3) := by decide +kernel
theorem dX4_sum_52 : decode cX4_sum 52 = .ok (.iload_n 3, 1) := by decide +kernel
theorem dX4_sum_53 : decode cX4_sum 53 = .ok (.iaload, 1) := by decide +kernel
theorem dX4_sum_54 : decode cX4_sum 54 = .ok (.iconst 2, 1) := by decide +kernel
theorem dX4_sum_55 : decode cX4_sum 55 = .ok (.if_icmp .ge 13, 3) := by decide +kernel
theorem dX4_sum_58 : decode cX4_sum 58 = .ok (.aload_n 0, 1) := by decide +kernel
theorem dX4_sum_59 : decode cX4_sum 59 = .ok (.aload_n 0, 1) := by decide +kernel
theorem dX4_sum_60 : decode cX4_sum 60 = .ok (.iload_n 3, 1) := by decide +kernel
theorem dX4_sum_61 : decode cX4_sum 61 = .ok (.invokevirtual 109, 3) := by decide +kernel
theorem dX4_sum_64 : decode cX4_sum 64 = .ok (.invokevirtual 63, 3) := by decide +kernel
theorem dX4_sum_67 : decode cX4_sum 67 = .ok (.ireturn, 1) := by decide +kernel
theorem dX4_sum_68 : decode cX4_sum 68 = .ok (.iconst 0, 1) := by decide +kernel
theorem dX4_sum_69 : decode cX4_sum 69 = .ok (.istore 4, 2) := by decide +kernel
theorem dX4_sum_71 : decode cX4_sum 71 = .ok (.iconst 0, 1) := by decide +kernel
theorem dX4_sum_72 : decode cX4_sum 72 = .ok (.istore 5, 2) := by decide +kernel
theorem dX4_sum_74 : decode cX4_sum 74 = .ok (.iload 5, 2) := by decide +kernel
theorem dX4_sum_76 : decode cX4_sum 76 = .ok (.aload_n 0, 1) := by decide +kernel
theorem dX4_sum_77 : decode cX4_sum 77 = .ok (.getfield 16, 3) := by decide +kernel
theorem dX4_sum_80 : decode cX4_sum 80 = .ok (.iload_n 3, 1) := by decide +kernel
theorem dX4_sum_81 : decode cX4_sum 81 = .ok (.iaload, 1) := by decide +kernel
theorem dX4_sum_82 : decode cX4_sum 82 = .ok (.if_icmp .ge 42, 3) := by decide +kernel
theorem dX4_sum_85 : decode cX4_sum 85 = .ok (.aload_n 0, 1) := by decide +kernel
theorem dX4_sum_86 : decode cX4_sum 86 = .ok (.iload_n 3, 1) := by decide +kernel
theorem dX4_sum_87 : decode cX4_sum 87 = .ok (.iload 5, 2) := by decide +kernel
theorem dX4_sum_89 : decode cX4_sum 89 = .ok (.invokevirtual 82, 3) := by decide +kernel
theorem dX4_sum_92 : decode cX4_sum 92 = .ok (.iconst (-1), 1) := by decide +kernel
theorem dX4_sum_93 : decode cX4_sum 93 = .ok (.if_icmp .ne 9, 3) := by decide +kernel
theorem dX4_sum_96 : decode cX4_sum 96 = .ok (.aload_n 0, 1) := by decide +kernel
theorem dX4_sum_97 : decode cX4_sum 97 = .ok (.iconst 1, 1) := by decide +kernel
theorem dX4_sum_98 : decode cX4_sum 98 = .ok (.invokevirtual 55, 3) := by decide +kernel
theorem dX4_sum_101 : decode cX4_sum 101 = .ok (.ireturn, 1) := by decide +kernel
theorem dX4_sum_102 : decode cX4_sum 102 = .ok (.iload 4, 2) := by decide +kernel
theorem dX4_sum_104 : decode cX4_sum 104 = .ok (.aload_n 0, 1) := by decide +kernel
theorem dX4_sum_105 : decode cX4_sum 105 = .ok (.aload_n 0, 1) := by decide +kernel
theorem dX4_sum_106 : decode cX4_sum 106 = .ok (.iload_n 3, 1) := by decide +kernel
theorem dX4_sum_107 : decode cX4_sum 107 = .ok (.iload 5, 2) := by decide +kernel
theorem dX4_sum_109 : decode cX4_sum 109 = .ok (.invokevirtual 82, 3) := by decide +kernel
theorem dX4_sum_112 : decode cX4_sum 112 = .ok (.invokevirtual 109, 3) := by decide +kernel
theorem dX4_sum_115 : decode cX4_sum 115 = .ok (.iadd, 1) := by decide +kernel
theorem dX4_sum_116 : decode cX4_sum 116 = .ok (.istore 4, 2) := by decide +kernel
theorem dX4_sum_118 : decode cX4_sum 118 = .ok (.iinc 5 1, 3) := by decide +kernel
theorem dX4_sum_121 : decode cX4_sum 121 = .ok (.goto (-47), 3) := by decide +kernel
theorem dX4_sum_124 : decode cX4_sum 124 = .ok (.aload_n 0, 1) := by decide +kernel
theorem dX4_sum_125 : decode cX4_sum 125 = .ok (.iload 4, 2) := by decide +kernel
theorem dX4_sum_127 : decode cX4_sum 127 = .ok (.invokevirtual 63, 3) := by decide +kernel
theorem dX4_sum_130 : decode cX4_sum 130 = .ok (.ireturn, 1) := by decide +kernel
set_option maxRecDepth 20000 in
theorem ggX4_mean_X4_isPlace : GoodIn wsX4_mean wsX4_isPlace := goodIn_r _ [6, 7, 8, 9, 5, 10] (by decide +kernel) (by decide +kernel)
set_option maxRecDepth 20000 in
theorem gX4_mean_X4_isPlace : GoodIn wsX4_mean (va_wsS RX4 48 yX4_isPlace wsX4_isPlace) := goodIn_app (goodIn_of _ (by decide +kernel)) ggX4_mean_X4_isPlace
set_option maxRecDepth 20000 in
theorem ggX4_mean_X4_wantsRow : GoodIn wsX4_mean wsX4_wantsRow := goodIn_r _ [14, 2, 43, 44, 45, 46, 47, 48, 49, 50, 51, 52, 53] (by decide +kernel) (by decide +kernel)
set_option maxRecDepth 20000 in
theorem gX4_mean_X4_wantsRow : GoodIn wsX4_mean (wsV RX4 72 RX4 yX4_wantsRow wsX4_wantsRow) := goodIn_app (goodIn_of _ (by decide +kernel)) ggX4_mean_X4_wantsRow
set_option maxRecDepth 20000 in
theorem ggX4_mean_X4_kindOf : GoodIn wsX4_mean wsX4_kindOf := goodIn_r _ [18, 2, 19, 43, 44, 45, 46, 47, 48, 49, 50, 51, 52, 53] (by decide +kernel) (by decide +kernel)
set_option maxRecDepth 20000 in
theorem gX4_mean_X4_kindOf : GoodIn wsX4_mean (wsV RX4 66 RX4 yX4_kindOf wsX4_kindOf) := goodIn_app (goodIn_of _ (by decide +kernel)) ggX4_mean_X4_kindOf
set_option maxRecDepth 20000 in
theorem ggX4_mean_X4_lengthOf : GoodIn wsX4_mean wsX4_lengthOf := goodIn_r _ [23, 24, 2, 43, 44, 45, 46, 47, 48, 49, 50, 51, 52, 53] (by decide +kernel) (by decide +kernel)
set_option maxRecDepth 20000 in
theorem gX4_mean_X4_lengthOf : GoodIn wsX4_mean (wsV RX4 75 RX4 yX4_lengthOf wsX4_lengthOf) := goodIn_app (goodIn_of _ (by decide +kernel)) ggX4_mean_X4_lengthOf
set_option maxRecDepth 20000 in
theorem ggX4_mean_X4_no : GoodIn wsX4_mean wsX4_no := goodIn_r _ [28, 29, 43, 44, 45, 46, 47, 48, 49, 50, 51, 52, 53] (by decide +kernel) (by decide +kernel)
set_option maxRecDepth 20000 in
theorem gX4_mean_X4_no : GoodIn wsX4_mean (wsV RX4 55 RX4 yX4_no wsX4_no) := goodIn_app (goodIn_of _ (by decide +kernel)) ggX4_mean_X4_no
set_option maxRecDepth 20000 in
theorem ggX4_mean_X4_sumOf : GoodIn wsX4_mean wsX4_sumOf := goodIn_r _ [33, 24, 34, 35, 36, 5, 37, 38, 43, 44, 45, 46, 47, 48, 49, 50, 51, 52, 53] (by decide +kernel) (by decide +kernel)
set_option maxRecDepth 20000 in
theorem gX4_mean_X4_sumOf : GoodIn wsX4_mean (wsV RX4 109 RX4 yX4_sumOf wsX4_sumOf) := goodIn_app (goodIn_of _ (by decide +kernel)) ggX4_mean_X4_sumOf
set_option maxRecDepth 20000 in
theorem ggX4_mean_X4_yes : GoodIn wsX4_mean wsX4_yes := goodIn_r _ [42, 29, 43, 44, 45, 46, 47, 48, 49, 50, 51, 52, 53] (by decide +kernel) (by decide +kernel)
set_option maxRecDepth 20000 in
theorem gX4_mean_X4_yes : GoodIn wsX4_mean (wsV RX4 63 RX4 yX4_yes wsX4_yes) := goodIn_app (goodIn_of _ (by decide +kernel)) ggX4_mean_X4_yes
theorem dX4_mean_0 : decode cX4_mean 0 = .ok (.iload_n 1, 1) := by decide +kernel
theorem dX4_mean_1 : decode cX4_mean 1 = .ok (.invokestatic 48, 3) := by decide +kernel
theorem dX4_mean_4 : decode cX4_mean 4 = .ok (.ifCond .ne 6, 3) := by decide +kernel
theorem dX4_mean_7 : decode cX4_mean 7 = .ok (.ldc 54, 2) := by decide +kernel
theorem dX4_mean_9 : decode cX4_mean 9 = .ok (.ireturn, 1) := by decide +kernel
theorem dX4_mean_10 : decode cX4_mean 10 = .ok (.aload_n 0, 1) := by decide +kernel
theorem dX4_mean_11 : decode cX4_mean 11 = .ok (.iload_n 1, 1) := by decide +kernel
theorem dX4_mean_12 : decode cX4_mean 12 = .ok (.invokevirtual 72, 3) := by decide +kernel
theorem dX4_mean_15 : decode cX4_mean 15 = .ok (.istore_n 2, 1) := by decide +kernel
theorem dX4_mean_16 : decode cX4_mean 16 = .ok (.iload_n 2, 1) := by decide +kernel
theorem dX4_mean_17 : decode cX4_mean 17 = .ok (.ifCond .ne 14, 3) := by decide +kernel
theorem dX4_mean_20 : decode cX4_mean 20 = .ok (.aload_n 0, 1) := by decide +kernel
theorem dX4_mean_21 : decode cX4_mean 21 = .ok (.iload_n 1, 1) := by decide +kernel
theorem dX4_mean_22 : decode cX4_mean 22 = .ok (.invokevirtual 66, 3) := by decide +kernel
theorem dX4_mean_25 : decode cX4_mean 25 = .ok (.iconst 2, 1) := by decide +kernel
theorem dX4_mean_26 : decode cX4_mean 26 = .ok (.if_icmp .lt 5, 3) := by decide +kernel
theorem dX4_mean_29 : decode cX4_mean 29 = .ok (.iconst 5, 1) := by decide +kernel
theorem dX4_mean_30 : decode cX4_mean 30 = .ok (.istore_n 2, 1) := by decide +kernel
theorem dX4_mean_31 : decode cX4_mean 31 = .ok (.iload_n 2, 1) := by decide +kernel
theorem dX4_mean_32 : decode cX4_mean 32 = .ok (.ifCond .ne 14, 3) := by decide +kernel
theorem dX4_mean_35 : decode cX4_mean 35 = .ok (.aload_n 0, 1) := by decide +kernel
theorem dX4_mean_36 : decode cX4_mean 36 = .ok (.iload_n 1, 1) := by decide +kernel
theorem dX4_mean_37 : decode cX4_mean 37 = .ok (.invokevirtual 75, 3) := by decide +kernel
theorem dX4_mean_40 : decode cX4_mean 40 = .ok (.ifCond .ne 6, 3) := by decide +kernel
theorem dX4_mean_43 : decode cX4_mean 43 = .ok (.bipush 6, 2) := by decide +kernel
theorem dX4_mean_45 : decode cX4_mean 45 = .ok (.istore_n 2, 1) := by decide +kernel
theorem dX4_mean_46 : decode cX4_mean 46 = .ok (.iload_n 2, 1) := by decide +kernel
theorem dX4_mean_47 : decode cX4_mean 47 = .ok (.ifCond .eq 11, 3) := by decide +kernel
theorem dX4_mean_50 : decode cX4_mean 50 = .ok (.aload_n 0, 1) := by decide +kernel
theorem dX4_mean_51 : decode cX4_mean 51 = .ok (.iload_n 2, 1) := by decide +kernel
theorem dX4_mean_52 : decode cX4_mean 52 = .ok (.invokevirtual 55, 3) := by decide +kernel
theorem dX4_mean_55 : decode cX4_mean 55 = .ok (.goto 23, 3) := by decide +kernel
theorem dX4_mean_58 : decode cX4_mean 58 = .ok (.aload_n 0, 1) := by decide +kernel
theorem dX4_mean_59 : decode cX4_mean 59 = .ok (.aload_n 0, 1) := by decide +kernel
theorem dX4_mean_60 : decode cX4_mean 60 = .ok (.aload_n 0, 1) := by decide +kernel
theorem dX4_mean_61 : decode cX4_mean 61 = .ok (.getfield 7, 3) := by decide +kernel
theorem dX4_mean_64 : decode cX4_mean 64 = .ok (.iload_n 1, 1) := by decide +kernel
theorem dX4_mean_65 : decode cX4_mean 65 = .ok (.iaload, 1) := by decide +kernel
theorem dX4_mean_66 : decode cX4_mean 66 = .ok (.invokevirtual 109, 3) := by decide +kernel
theorem dX4_mean_69 : decode cX4_mean 69 = .ok (.aload_n 0, 1) := by decide +kernel
theorem dX4_mean_70 : decode cX4_mean 70 = .ok (.iload_n 1, 1) := by decide +kernel
theorem dX4_mean_71 : decode cX4_mean 71 = .ok (.invokevirtual 75, 3) := by decide +kernel
theorem dX4_mean_74 : decode cX4_mean 74 = .ok (.idiv, 1) := by decide +kernel
theorem dX4_mean_75 : decode cX4_mean 75 = .ok (.invokevirtual 63, 3) := by decide +kernel
theorem dX4_mean_78 : decode cX4_mean 78 = .ok (.ireturn, 1) := by decide +kernel
set_option maxRecDepth 20000 in
theorem ggX4_same_X4_isPlace : GoodIn wsX4_same wsX4_isPlace := goodIn_r _ [6, 7, 8, 9, 5, 10] (by decide +kernel) (by decide +kernel)
set_option maxRecDepth 20000 in
theorem gX4_same_X4_isPlace : GoodIn wsX4_same (va_wsS RX4 48 yX4_isPlace wsX4_isPlace) := goodIn_app (goodIn_of _ (by decide +kernel)) ggX4_same_X4_isPlace
theorem dX4_same_0 : decode cX4_same 0 = .ok (.iload_n 1, 1) := by decide +kernel
theorem dX4_same_1 : decode cX4_same 1 = .ok (.invokestatic 48, 3) := by decide +kernel
theorem dX4_same_4 : decode cX4_same 4 = .ok (.ifCond .eq 10, 3) := by decide +kernel
theorem dX4_same_7 : decode cX4_same 7 = .ok (.iload_n 2, 1) := by decide +kernel
theorem dX4_same_8 : decode cX4_same 8 = .ok (.invokestatic 48, 3) := by decide +kernel
theorem dX4_same_11 : decode cX4_same 11 = .ok (.ifCond .ne 6, 3) := by decide +kernel
theorem dX4_same_14 : decode cX4_same 14 = .ok (.ldc 54, 2) := by decide +kernel
theorem dX4_same_16 : decode cX4_same 16 = .ok (.ireturn, 1) := by decide +kernel
theorem dX4_same_17 : decode cX4_same 17 = .ok (.aload_n 0, 1) := by decide +kernel
theorem dX4_same_18 : decode cX4_same 18 = .ok (.getfield 7, 3) := by decide +kernel
theorem dX4_same_21 : decode cX4_same 21 = .ok (.iload_n 1, 1) := by decide +kernel
theorem dX4_same_22 : decode cX4_same 22 = .ok (.iaload, 1) := by decide +kernel
theorem dX4_same_23 : decode cX4_same 23 = .ok (.aload_n 0, 1) := by decide +kernel
theorem dX4_same_24 : decode cX4_same 24 = .ok (.getfield 7, 3) := by decide +kernel
theorem dX4_same_27 : decode cX4_same 27 = .ok (.iload_n 2, 1) := by decide +kernel
theorem dX4_same_28 : decode cX4_same 28 = .ok (.iaload, 1) := by decide +kernel
theorem dX4_same_29 : decode cX4_same 29 = .ok (.if_icmp .ne 7, 3) := by decide +kernel
theorem dX4_same_32 : decode cX4_same 32 = .ok (.iconst 1, 1) := by decide +kernel
theorem dX4_same_33 : decode cX4_same 33 = .ok (.goto 4, 3) := by decide +kernel
theorem dX4_same_36 : decode cX4_same 36 = .ok (.iconst 0, 1) := by decide +kernel
theorem dX4_same_37 : decode cX4_same 37 = .ok (.ireturn, 1) := by decide +kernel
set_option maxRecDepth 20000 in
theorem ggX4_equal_X4_isPlace : GoodIn wsX4_equal wsX4_isPlace := goodIn_r _ [6, 7, 8, 9, 5, 10] (by decide +kernel) (by decide +kernel)
set_option maxRecDepth 20000 in
theorem gX4_equal_X4_isPlace : GoodIn wsX4_equal (va_wsS RX4 48 yX4_isPlace wsX4_isPlace) := goodIn_app (goodIn_of _ (by decide +kernel)) ggX4_equal_X4_isPlace
set_option maxRecDepth 20000 in
theorem ggX4_equal_X4_isRow : GoodIn wsX4_equal wsX4_isRow := goodIn_r _ [14, 2, 30, 31, 32, 33, 34, 35, 36, 37, 38, 39, 40] (by decide +kernel) (by decide +kernel)
set_option maxRecDepth 20000 in
theorem gX4_equal_X4_isRow : GoodIn wsX4_equal (wsV RX4 112 RX4 yX4_isRow wsX4_isRow) := goodIn_app (goodIn_of _ (by decide +kernel)) ggX4_equal_X4_isRow
set_option maxRecDepth 20000 in
theorem ggX4_equal_X4_kindOf : GoodIn wsX4_equal wsX4_kindOf := goodIn_r _ [18, 2, 19, 30, 31, 32, 33, 34, 35, 36, 37, 38, 39, 40] (by decide +kernel) (by decide +kernel)
set_option maxRecDepth 20000 in
theorem gX4_equal_X4_kindOf : GoodIn wsX4_equal (wsV RX4 66 RX4 yX4_kindOf wsX4_kindOf) := goodIn_app (goodIn_of _ (by decide +kernel)) ggX4_equal_X4_kindOf
set_option maxRecDepth 20000 in
theorem ggX4_equal_X4_lengthOf : GoodIn wsX4_equal wsX4_lengthOf := goodIn_r _ [23, 24, 2, 30, 31, 32, 33, 34, 35, 36, 37, 38, 39, 40] (by decide +kernel) (by decide +kernel)
set_option maxRecDepth 20000 in
theorem gX4_equal_X4_lengthOf : GoodIn wsX4_equal (wsV RX4 75 RX4 yX4_lengthOf wsX4_lengthOf) := goodIn_app (goodIn_of _ (by decide +kernel)) ggX4_equal_X4_lengthOf
set_option maxRecDepth 20000 in
theorem ggX4_equal_X4_get : GoodIn wsX4_equal wsX4_get := goodIn_r _ [28, 29, 30, 31, 32, 33, 34, 35, 36, 37, 38, 39, 40] (by decide +kernel) (by decide +kernel)
set_option maxRecDepth 20000 in
theorem gX4_equal_X4_get : GoodIn wsX4_equal (wsV RX4 82 RX4 yX4_get wsX4_get) := goodIn_app (goodIn_of _ (by decide +kernel)) ggX4_equal_X4_get
theorem dX4_equal_0 : decode cX4_equal 0 = .ok (.iload_n 1, 1) := by decide +kernel
theorem dX4_equal_1 : decode cX4_equal 1 = .ok (.invokestatic 48, 3) := by decide +kernel
theorem dX4_equal_4 : decode cX4_equal 4 = .ok (.ifCond .eq 10, 3) := by decide +kernel
theorem dX4_equal_7 : decode cX4_equal 7 = .ok (.iload_n 2, 1) := by decide +kernel
theorem dX4_equal_8 : decode cX4_equal 8 = .ok (.invokestatic 48, 3) := by decide +kernel
theorem dX4_equal_11 : decode cX4_equal 11 = .ok (.ifCond .ne 6, 3) := by decide +kernel
theorem dX4_equal_14 : decode cX4_equal 14 = .ok (.ldc 54, 2) := by decide +kernel
theorem dX4_equal_16 : decode cX4_equal 16 = .ok (.ireturn, 1) := by decide +kernel
theorem dX4_equal_17 : decode cX4_equal 17 = .ok (.aload_n 0, 1) := by decide +kernel
theorem dX4_equal_18 : decode cX4_equal 18 = .ok (.iload_n 1, 1) := by decide +kernel
theorem dX4_equal_19 : decode cX4_equal 19 = .ok (.invokevirtual 112, 3) := by decide +kernel
theorem dX4_equal_22 : decode cX4_equal 22 = .ok (.ifCond .eq 11, 3) := by decide +kernel
theorem dX4_equal_25 : decode cX4_equal 25 = .ok (.aload_n 0, 1) := by decide +kernel
theorem dX4_equal_26 : decode cX4_equal 26 = .ok (.iload_n 2, 1) := by decide +kernel
theorem dX4_equal_27 : decode cX4_equal 27 = .ok (.invokevirtual 112, 3) := by decide +kernel
theorem dX4_equal_30 : decode cX4_equal 30 = .ok (.ifCond .ne 24, 3) := by decide +kernel
theorem dX4_equal_33 : decode cX4_equal 33 = .ok (.aload_n 0, 1) := by decide +kernel
theorem dX4_equal_34 : decode cX4_equal 34 = .ok (.getfield 7, 3) := by decide +kernel
theorem dX4_equal_37 : decode cX4_equal 37 = .ok (.iload_n 1, 1) := by decide +kernel
theorem dX4_equal_38 : decode cX4_equal 38 = .ok (.iaload, 1) := by decide +kernel
theorem dX4_equal_39 : decode cX4_equal 39 = .ok (.aload_n 0, 1) := by decide +kernel
theorem dX4_equal_40 : decode cX4_equal 40 = .ok (.getfield 7, 3) := by decide +kernel
theorem dX4_equal_43 : decode cX4_equal 43 = .ok (.iload_n 2, 1) := by decide +kernel
theorem dX4_equal_44 : decode cX4_equal 44 = .ok (.iaload, 1) := by decide +kernel
theorem dX4_equal_45 : decode cX4_equal 45 = .ok (.if_icmp .ne 7, 3) := by decide +kernel
theorem dX4_equal_48 : decode cX4_equal 48 = .ok (.iconst 1, 1) := by decide +kernel
theorem dX4_equal_49 : decode cX4_equal 49 = .ok (.goto 4, 3) := by decide +kernel
theorem dX4_equal_52 : decode cX4_equal 52 = .ok (.iconst 0, 1) := by decide +kernel
theorem dX4_equal_53 : decode cX4_equal 53 = .ok (.ireturn, 1) := by decide +kernel
theorem dX4_equal_54 : decode cX4_equal 54 = .ok (.aload_n 0, 1) := by decide +kernel
theorem dX4_equal_55 : decode cX4_equal 55 = .ok (.iload_n 1, 1) := by decide +kernel
theorem dX4_equal_56 : decode cX4_equal 56 = .ok (.invokevirtual 66, 3) := by decide +kernel
theorem dX4_equal_59 : decode cX4_equal 59 = .ok (.aload_n 0, 1) := by decide +kernel
theorem dX4_equal_60 : decode cX4_equal 60 = .ok (.iload_n 2, 1) := by decide +kernel
theorem dX4_equal_61 : decode cX4_equal 61 = .ok (.invokevirtual 66, 3) := by decide +kernel
theorem dX4_equal_64 : decode cX4_equal 64 = .ok (.if_icmp .ne 20, 3) := by decide +kernel
theorem dX4_equal_67 : decode cX4_equal 67 = .ok (.aload_n 0, 1) := by decide +kernel
theorem dX4_equal_68 : decode cX4_equal 68 = .ok (.iload_n 1, 1) := by decide +kernel
theorem dX4_equal_69 : decode cX4_equal 69 = .ok (.invokevirtual 75, 3) := by decide +kernel
theorem dX4_equal_72 : decode cX4_equal 72 = .ok (.aload_n 0, 1) := by decide +kernel
theorem dX4_equal_73 : decode cX4_equal 73 = .ok (.iload_n 2, 1) := by decide +kernel
theorem dX4_equal_74 : decode cX4_equal 74 = .ok (.invokevirtual 75, 3) := by decide +kernel
theorem dX4_equal_77 : decode cX4_equal 77 = .ok (.if_icmp .ne 7, 3) := by decide +kernel
theorem dX4_equal_80 : decode cX4_equal 80 = .ok (.iconst 1, 1) := by decide +kernel
theorem dX4_equal_81 : decode cX4_equal 81 = .ok (.goto 4, 3) := by decide +kernel
theorem dX4_equal_84 : decode cX4_equal 84 = .ok (.iconst 0, 1) := by decide +kernel
theorem dX4_equal_85 : decode cX4_equal 85 = .ok (.istore_n 3, 1) := by decide +kernel
theorem dX4_equal_86 : decode cX4_equal 86 = .ok (.iconst 0, 1) := by decide +kernel
theorem dX4_equal_87 : decode cX4_equal 87 = .ok (.istore 4, 2) := by decide +kernel
theorem dX4_equal_89 : decode cX4_equal 89 = .ok (.iload_n 3, 1) := by decide +kernel
theorem dX4_equal_90 : decode cX4_equal 90 = .ok (.ifCond .eq 52, 3) := by decide +kernel
theorem dX4_equal_93 : decode cX4_equal 93 = .ok (.iload 4, 2) := by decide +kernel
theorem dX4_equal_95 : decode cX4_equal 95 = .ok (.aload_n 0, 1) := by decide +kernel
theorem dX4_equal_96 : decode cX4_equal 96 = .ok (.iload_n 1, 1) := by decide +kernel
theorem dX4_equal_97 : decode cX4_equal 97 = .ok (.invokevirtual 75, 3) := by decide +kernel
theorem dX4_equal_100 : decode cX4_equal 100 = .ok (.if_icmp .ge 42, 3) := by decide +kernel
theorem dX4_equal_103 : decode cX4_equal 103 = .ok (.aload_n 0, 1) := by decide +kernel
theorem dX4_equal_104 : decode cX4_equal 104 = .ok (.aload_n 0, 1) := by decide +kernel
theorem dX4_equal_105 : decode cX4_equal 105 = .ok (.getfield 7, 3) := by decide +kernel
theorem dX4_equal_108 : decode cX4_equal 108 = .ok (.iload_n 1, 1) := by decide +kernel
theorem dX4_equal_109 : decode cX4_equal 109 = .ok (.iaload, 1) := by decide +kernel
theorem dX4_equal_110 : decode cX4_equal 110 = .ok (.iload 4, 2) := by decide +kernel
theorem dX4_equal_112 : decode cX4_equal 112 = .ok (.invokevirtual 82, 3) := by decide +kernel
theorem dX4_equal_115 : decode cX4_equal 115 = .ok (.aload_n 0, 1) := by decide +kernel
theorem dX4_equal_116 : decode cX4_equal 116 = .ok (.aload_n 0, 1) := by decide +kernel
theorem dX4_equal_117 : decode cX4_equal 117 = .ok (.getfield 7, 3) := by decide +kernel
theorem dX4_equal_120 : decode cX4_equal 120 = .ok (.iload_n 2, 1) := by decide +kernel
theorem dX4_equal_121 : decode cX4_equal 121 = .ok (.iaload, 1) := by decide +kernel
theorem dX4_equal_122 : decode cX4_equal 122 = .ok (.iload 4, 2) := by decide +kernel
theorem dX4_equal_124 : decode cX4_equal 124 = .ok (.invokevirtual 82, 3) := by decide +kernel
theorem dX4_equal_127 : decode cX4_equal 127 = .ok (.if_icmp .ne 7, 3) := by decide +kernel
theorem dX4_equal_130 : decode cX4_equal 130 = .ok (.iconst 1, 1) := by decide +kernel
theorem dX4_equal_131 : decode cX4_equal 131 = .ok (.goto 4, 3) := by decide +kernel
theorem dX4_equal_134 : decode cX4_equal 134 = .ok (.iconst 0, 1) := by decide +kernel
theorem dX4_equal_135 : decode cX4_equal 135 = .ok (.istore_n 3, 1) := by decide +kernel
theorem dX4_equal_136 : decode cX4_equal 136 = .ok (.iinc 4 1, 3) := by decide +kernel
theorem dX4_equal_139 : decode cX4_equal 139 = .ok (.goto (-50), 3) := by decide +kernel
theorem dX4_equal_142 : decode cX4_equal 142 = .ok (.iload_n 3, 1) := by decide +kernel
theorem dX4_equal_143 : decode cX4_equal 143 = .ok (.ifCond .eq 7, 3) := by decide +kernel
theorem dX4_equal_146 : decode cX4_equal 146 = .ok (.iconst 1, 1) := by decide +kernel
theorem dX4_equal_147 : decode cX4_equal 147 = .ok (.goto 4, 3) := by decide +kernel
theorem dX4_equal_150 : decode cX4_equal 150 = .ok (.iconst 0, 1) := by decide +kernel
theorem dX4_equal_151 : decode cX4_equal 151 = .ok (.ireturn, 1) := by decide +kernel
set_option maxRecDepth 20000 in
theorem ggX4_compare_X4_isPlace : GoodIn wsX4_compare wsX4_isPlace := goodIn_r _ [7, 8, 9, 10, 6, 11] (by decide +kernel) (by decide +kernel)
set_option maxRecDepth 20000 in
theorem gX4_compare_X4_isPlace : GoodIn wsX4_compare (va_wsS RX4 48 yX4_isPlace wsX4_isPlace) := goodIn_app (goodIn_of _ (by decide +kernel)) ggX4_compare_X4_isPlace
set_option maxRecDepth 20000 in
theorem ggX4_compare_X4_no : GoodIn wsX4_compare wsX4_no := goodIn_r _ [15, 16, 31, 32, 33, 34, 35, 36, 37, 38, 39, 40, 41] (by decide +kernel) (by decide +kernel)
set_option maxRecDepth 20000 in
theorem gX4_compare_X4_no : GoodIn wsX4_compare (wsV RX4 55 RX4 yX4_no wsX4_no) := goodIn_app (goodIn_of _ (by decide +kernel)) ggX4_compare_X4_no
set_option maxRecDepth 20000 in
theorem ggX4_compare_X4_kindOf : GoodIn wsX4_compare wsX4_kindOf := goodIn_r _ [20, 2, 21, 31, 32, 33, 34, 35, 36, 37, 38, 39, 40, 41] (by decide +kernel) (by decide +kernel)
set_option maxRecDepth 20000 in
theorem gX4_compare_X4_kindOf : GoodIn wsX4_compare (wsV RX4 66 RX4 yX4_kindOf wsX4_kindOf) := goodIn_app (goodIn_of _ (by decide +kernel)) ggX4_compare_X4_kindOf
set_option maxRecDepth 20000 in
theorem ggX4_compare_X4_get : GoodIn wsX4_compare wsX4_get := goodIn_r _ [25, 26, 31, 32, 33, 34, 35, 36, 37, 38, 39, 40, 41] (by decide +kernel) (by decide +kernel)
set_option maxRecDepth 20000 in
theorem gX4_compare_X4_get : GoodIn wsX4_compare (wsV RX4 82 RX4 yX4_get wsX4_get) := goodIn_app (goodIn_of _ (by decide +kernel)) ggX4_compare_X4_get
set_option maxRecDepth 20000 in
theorem ggX4_compare_X4_yes : GoodIn wsX4_compare wsX4_yes := goodIn_r _ [30, 16, 31, 32, 33, 34, 35, 36, 37, 38, 39, 40, 41] (by decide +kernel) (by decide +kernel)
set_option maxRecDepth 20000 in
theorem gX4_compare_X4_yes : GoodIn wsX4_compare (wsV RX4 63 RX4 yX4_yes wsX4_yes) := goodIn_app (goodIn_of _ (by decide +kernel)) ggX4_compare_X4_yes
theorem dX4_compare_0 : decode cX4_compare 0 = .ok (.iload_n 1, 1) := by decide +kernel
theorem dX4_compare_1 : decode cX4_compare 1 = .ok (.invokestatic 48, 3) := by decide +kernel
theorem dX4_compare_4 : decode cX4_compare 4 = .ok (.ifCond .eq 10, 3) := by decide +kernel
theorem dX4_compare_7 : decode cX4_compare 7 = .ok (.iload_n 2, 1) := by decide +kernel
theorem dX4_compare_8 : decode cX4_compare 8 = .ok (.invokestatic 48, 3) := by decide +kernel
theorem dX4_compare_11 : decode cX4_compare 11 = .ok (.ifCond .ne 6, 3) := by decide +kernel
theorem dX4_compare_14 : decode cX4_compare 14 = .ok (.ldc 54, 2) := by decide +kernel
theorem dX4_compare_16 : decode cX4_compare 16 = .ok (.ireturn, 1) := by decide +kernel
theorem dX4_compare_17 : decode cX4_compare 17 = .ok (.aload_n 0, 1) := by decide +kernel
theorem dX4_compare_18 : decode cX4_compare 18 = .ok (.getfield 7, 3) := by decide +kernel
theorem dX4_compare_21 : decode cX4_compare 21 = .ok (.iload_n 1, 1) := by decide +kernel
theorem dX4_compare_22 : decode cX4_compare 22 = .ok (.iaload, 1) := by decide +kernel
theorem dX4_compare_23 : decode cX4_compare 23 = .ok (.iconst (-1), 1) := by decide +kernel
theorem dX4_compare_24 : decode cX4_compare 24 = .ok (.if_icmp .eq 13, 3) := by decide +kernel
theorem dX4_compare_27 : decode cX4_compare 27 = .ok (.aload_n 0, 1) := by decide +kernel
theorem dX4_compare_28 : decode cX4_compare 28 = .ok (.getfield 7, 3) := by decide +kernel
theorem dX4_compare_31 : decode cX4_compare 31 = .ok (.iload_n 2, 1) := by decide +kernel
theorem dX4_compare_32 : decode cX4_compare 32 = .ok (.iaload, 1) := by decide +kernel
theorem dX4_compare_33 : decode cX4_compare 33 = .ok (.iconst (-1), 1) := by decide +kernel
theorem dX4_compare_34 : decode cX4_compare 34 = .ok (.if_icmp .ne 9, 3) := by decide +kernel
theorem dX4_compare_37 : decode cX4_compare 37 = .ok (.aload_n 0, 1) := by decide +kernel
theorem dX4_compare_38 : decode cX4_compare 38 = .ok (.iconst 1, 1) := by decide +kernel
theorem dX4_compare_39 : decode cX4_compare 39 = .ok (.invokevirtual 55, 3) := by decide +kernel
theorem dX4_compare_42 : decode cX4_compare 42 = .ok (.ireturn, 1) := by decide +kernel
theorem dX4_compare_43 : decode cX4_compare 43 = .ok (.aload_n 0, 1) := by decide +kernel
theorem dX4_compare_44 : decode cX4_compare 44 = .ok (.iload_n 1, 1) := by decide +kernel
theorem dX4_compare_45 : decode cX4_compare 45 = .ok (.invokevirtual 66, 3) := by decide +kernel
theorem dX4_compare_48 : decode cX4_compare 48 = .ok (.iconst 2, 1) := by decide +kernel
theorem dX4_compare_49 : decode cX4_compare 49 = .ok (.if_icmp .ge 16, 3) := by decide +kernel
theorem dX4_compare_52 : decode cX4_compare 52 = .ok (.aload_n 0, 1) := by decide +kernel
theorem dX4_compare_53 : decode cX4_compare 53 = .ok (.iload_n 1, 1) := by decide +kernel
theorem dX4_compare_54 : decode cX4_compare 54 = .ok (.invokevirtual 66, 3) := by decide +kernel
theorem dX4_compare_57 : decode cX4_compare 57 = .ok (.aload_n 0, 1) := by decide +kernel
theorem dX4_compare_58 : decode cX4_compare 58 = .ok (.iload_n 2, 1) := by decide +kernel
theorem dX4_compare_59 : decode cX4_compare 59 = .ok (.invokevirtual 66, 3) := by decide +kernel
theorem dX4_compare_62 : decode cX4_compare 62 = .ok (.if_icmp .eq 9, 3) := by decide +kernel
theorem dX4_compare_65 : decode cX4_compare 65 = .ok (.aload_n 0, 1) := by decide +kernel
theorem dX4_compare_66 : decode cX4_compare 66 = .ok (.iconst 5, 1) := by decide +kernel
theorem dX4_compare_67 : decode cX4_compare 67 = .ok (.invokevirtual 55, 3) := by decide +kernel
theorem dX4_compare_70 : decode cX4_compare 70 = .ok (.ireturn, 1) := by decide +kernel
theorem dX4_compare_71 : decode cX4_compare 71 = .ok (.aload_n 0, 1) := by decide +kernel
theorem dX4_compare_72 : decode cX4_compare 72 = .ok (.getfield 7, 3) := by decide +kernel
theorem dX4_compare_75 : decode cX4_compare 75 = .ok (.iload_n 1, 1) := by decide +kernel
theorem dX4_compare_76 : decode cX4_compare 76 = .ok (.iaload, 1) := by decide +kernel
theorem dX4_compare_77 : decode cX4_compare 77 = .ok (.istore_n 3, 1) := by decide +kernel
theorem dX4_compare_78 : decode cX4_compare 78 = .ok (.aload_n 0, 1) := by decide +kernel
theorem dX4_compare_79 : decode cX4_compare 79 = .ok (.getfield 7, 3) := by decide +kernel
theorem dX4_compare_82 : decode cX4_compare 82 = .ok (.iload_n 2, 1) := by decide +kernel
theorem dX4_compare_83 : decode cX4_compare 83 = .ok (.iaload, 1) := by decide +kernel
theorem dX4_compare_84 : decode cX4_compare 84 = .ok (.istore 4, 2) := by decide +kernel
theorem dX4_compare_86 : decode cX4_compare 86 = .ok (.iconst 0, 1) := by decide +kernel
theorem dX4_compare_87 : decode cX4_compare 87 = .ok (.istore 5, 2) := by decide +kernel
theorem dX4_compare_89 : decode cX4_compare 89 = .ok (.iload 5, 2) := by decide +kernel
theorem dX4_compare_91 : decode cX4_compare 91 = .ok (.aload_n 0, 1) := by decide +kernel
theorem dX4_compare_92 : decode cX4_compare 92 = .ok (.getfield 16, 3) := by decide +kernel
theorem dX4_compare_95 : decode cX4_compare 95 = .ok (.iload_n 3, 1) := by decide +kernel
theorem dX4_compare_96 : decode cX4_compare 96 = .ok (.iaload, 1) := by decide +kernel
theorem dX4_compare_97 : decode cX4_compare 97 = .ok (.if_icmp .ge 67, 3) := by decide +kernel
theorem dX4_compare_100 : decode cX4_compare 100 = .ok (.iload 5, 2) := by decide +kernel
theorem dX4_compare_102 : decode cX4_compare 102 = .ok (.aload_n 0, 1) := by decide +kernel
theorem dX4_compare_103 : decode cX4_compare 103 = .ok (.getfield 16, 3) := by decide +kernel
theorem dX4_compare_106 : decode cX4_compare 106 = .ok (.iload 4, 2) := by decide +kernel
theorem dX4_compare_108 : decode cX4_compare 108 = .ok (.iaload, 1) := by decide +kernel
theorem dX4_compare_109 : decode cX4_compare 109 = .ok (.if_icmp .ge 55, 3) := by decide +kernel
theorem dX4_compare_112 : decode cX4_compare 112 = .ok (.aload_n 0, 1) := by decide +kernel
theorem dX4_compare_113 : decode cX4_compare 113 = .ok (.iload_n 3, 1) := by decide +kernel
theorem dX4_compare_114 : decode cX4_compare 114 = .ok (.iload 5, 2) := by decide +kernel
theorem dX4_compare_116 : decode cX4_compare 116 = .ok (.invokevirtual 82, 3) := by decide +kernel
theorem dX4_compare_119 : decode cX4_compare 119 = .ok (.aload_n 0, 1) := by decide +kernel
theorem dX4_compare_120 : decode cX4_compare 120 = .ok (.iload 4, 2) := by decide +kernel
theorem dX4_compare_122 : decode cX4_compare 122 = .ok (.iload 5, 2) := by decide +kernel
theorem dX4_compare_124 : decode cX4_compare 124 = .ok (.invokevirtual 82, 3) := by decide +kernel
theorem dX4_compare_127 : decode cX4_compare 127 = .ok (.if_icmp .eq 31, 3) := by decide +kernel
theorem dX4_compare_130 : decode cX4_compare 130 = .ok (.aload_n 0, 1) := by decide +kernel
theorem dX4_compare_131 : decode cX4_compare 131 = .ok (.aload_n 0, 1) := by decide +kernel
theorem dX4_compare_132 : decode cX4_compare 132 = .ok (.iload_n 3, 1) := by decide +kernel
theorem dX4_compare_133 : decode cX4_compare 133 = .ok (.iload 5, 2) := by decide +kernel
theorem dX4_compare_135 : decode cX4_compare 135 = .ok (.invokevirtual 82, 3) := by decide +kernel
theorem dX4_compare_138 : decode cX4_compare 138 = .ok (.aload_n 0, 1) := by decide +kernel
theorem dX4_compare_139 : decode cX4_compare 139 = .ok (.iload 4, 2) := by decide +kernel
theorem dX4_compare_141 : decode cX4_compare 141 = .ok (.iload 5, 2) := by decide +kernel
theorem dX4_compare_143 : decode cX4_compare 143 = .ok (.invokevirtual 82, 3) := by decide +kernel
theorem dX4_compare_146 : decode cX4_compare 146 = .ok (.if_icmp .ge 7, 3) := by decide +kernel
theorem dX4_compare_149 : decode cX4_compare 149 = .ok (.iconst (-1), 1) := by decide +kernel
theorem dX4_compare_150 : decode cX4_compare 150 = .ok (.goto 4, 3) := by decide +kernel
theorem dX4_compare_153 : decode cX4_compare 153 = .ok (.iconst 1, 1) := by decide +kernel
theorem dX4_compare_154 : decode cX4_compare 154 = .ok (.invokevirtual 63, 3) := by decide +kernel
theorem dX4_compare_157 : decode cX4_compare 157 = .ok (.ireturn, 1) := by decide +kernel
theorem dX4_compare_158 : decode cX4_compare 158 = .ok (.iinc 5 1, 3) := by decide +kernel
theorem dX4_compare_161 : decode cX4_compare 161 = .ok (.goto (-72), 3) := by decide +kernel
theorem dX4_compare_164 : decode cX4_compare 164 = .ok (.aload_n 0, 1) := by decide +kernel
theorem dX4_compare_165 : decode cX4_compare 165 = .ok (.aload_n 0, 1) := by decide +kernel
theorem dX4_compare_166 : decode cX4_compare 166 = .ok (.getfield 16, 3) := by decide +kernel
theorem dX4_compare_169 : decode cX4_compare 169 = .ok (.iload_n 3, 1) := by decide +kernel
theorem dX4_compare_170 : decode cX4_compare 170 = .ok (.iaload, 1) := by decide +kernel
theorem dX4_compare_171 : decode cX4_compare 171 = .ok (.aload_n 0, 1) := by decide +kernel
theorem dX4_compare_172 : decode cX4_compare 172 = .ok (.getfield 16, 3) := by decide +kernel
theorem dX4_compare_175 : decode cX4_compare 175 = .ok (.iload 4, 2) := by decide +kernel
theorem dX4_compare_177 : decode cX4_compare 177 = .ok (.iaload, 1) := by decide +kernel
theorem dX4_compare_178 : decode cX4_compare 178 = .ok (.if_icmp .ge 7, 3) := by decide +kernel
theorem dX4_compare_181 : decode cX4_compare 181 = .ok (.iconst (-1), 1) := by decide +kernel
theorem dX4_compare_182 : decode cX4_compare 182 = .ok (.goto 24, 3) := by decide +kernel
theorem dX4_compare_185 : decode cX4_compare 185 = .ok (.aload_n 0, 1) := by decide +kernel
theorem dX4_compare_186 : decode cX4_compare 186 = .ok (.getfield 16, 3) := by decide +kernel
theorem dX4_compare_189 : decode cX4_compare 189 = .ok (.iload_n 3, 1) := by decide +kernel
theorem dX4_compare_190 : decode cX4_compare 190 = .ok (.iaload, 1) := by decide +kernel
theorem dX4_compare_191 : decode cX4_compare 191 = .ok (.aload_n 0, 1) := by decide +kernel
theorem dX4_compare_192 : decode cX4_compare 192 = .ok (.getfield 16, 3) := by decide +kernel
theorem dX4_compare_195 : decode cX4_compare 195 = .ok (.iload 4, 2) := by decide +kernel
theorem dX4_compare_197 : decode cX4_compare 197 = .ok (.iaload, 1) := by decide +kernel
theorem dX4_compare_198 : decode cX4_compare 198 = .ok (.if_icmp .le 7, 3) := by decide +kernel
theorem dX4_compare_201 : decode cX4_compare 201 = .ok (.iconst 1, 1) := by decide +kernel
theorem dX4_compare_202 : decode cX4_compare 202 = .ok (.goto 4, 3) := by decide +kernel
theorem dX4_compare_205 : decode cX4_compare 205 = .ok (.iconst 0, 1) := by decide +kernel
theorem dX4_compare_206 : decode cX4_compare 206 = .ok (.invokevirtual 63, 3) := by decide +kernel
theorem dX4_compare_209 : decode cX4_compare 209 = .ok (.ireturn, 1) := by decide +kernel
set_option maxRecDepth 20000 in
theorem ggX4_held_X4_isPlace : GoodIn wsX4_held wsX4_isPlace := goodIn_r _ [6, 7, 8, 9, 5, 10] (by decide +kernel) (by decide +kernel)
set_option maxRecDepth 20000 in
theorem gX4_held_X4_isPlace : GoodIn wsX4_held (va_wsS RX4 48 yX4_isPlace wsX4_isPlace) := goodIn_app (goodIn_of _ (by decide +kernel)) ggX4_held_X4_isPlace
set_option maxRecDepth 20000 in
theorem ggX4_held_X4_isRow : GoodIn wsX4_held wsX4_isRow := goodIn_r _ [14, 2, 30, 31, 32, 33, 34, 35, 36, 37, 38, 39, 40] (by decide +kernel) (by decide +kernel)
set_option maxRecDepth 20000 in
theorem gX4_held_X4_isRow : GoodIn wsX4_held (wsV RX4 112 RX4 yX4_isRow wsX4_isRow) := goodIn_app (goodIn_of _ (by decide +kernel)) ggX4_held_X4_isRow
set_option maxRecDepth 20000 in
theorem ggX4_held_X4_kindOf : GoodIn wsX4_held wsX4_kindOf := goodIn_r _ [18, 2, 19, 30, 31, 32, 33, 34, 35, 36, 37, 38, 39, 40] (by decide +kernel) (by decide +kernel)
set_option maxRecDepth 20000 in
theorem gX4_held_X4_kindOf : GoodIn wsX4_held (wsV RX4 66 RX4 yX4_kindOf wsX4_kindOf) := goodIn_app (goodIn_of _ (by decide +kernel)) ggX4_held_X4_kindOf
set_option maxRecDepth 20000 in
theorem ggX4_held_X4_lengthOf : GoodIn wsX4_held wsX4_lengthOf := goodIn_r _ [23, 24, 2, 30, 31, 32, 33, 34, 35, 36, 37, 38, 39, 40] (by decide +kernel) (by decide +kernel)
set_option maxRecDepth 20000 in
theorem gX4_held_X4_lengthOf : GoodIn wsX4_held (wsV RX4 75 RX4 yX4_lengthOf wsX4_lengthOf) := goodIn_app (goodIn_of _ (by decide +kernel)) ggX4_held_X4_lengthOf
set_option maxRecDepth 20000 in
theorem ggX4_held_X4_get : GoodIn wsX4_held wsX4_get := goodIn_r _ [28, 29, 30, 31, 32, 33, 34, 35, 36, 37, 38, 39, 40] (by decide +kernel) (by decide +kernel)
set_option maxRecDepth 20000 in
theorem gX4_held_X4_get : GoodIn wsX4_held (wsV RX4 82 RX4 yX4_get wsX4_get) := goodIn_app (goodIn_of _ (by decide +kernel)) ggX4_held_X4_get
theorem dX4_held_0 : decode cX4_held 0 = .ok (.iload_n 1, 1) := by decide +kernel
theorem dX4_held_1 : decode cX4_held 1 = .ok (.invokestatic 48, 3) := by decide +kernel
theorem dX4_held_4 : decode cX4_held 4 = .ok (.ifCond .ne 6, 3) := by decide +kernel
theorem dX4_held_7 : decode cX4_held 7 = .ok (.ldc 54, 2) := by decide +kernel
theorem dX4_held_9 : decode cX4_held 9 = .ok (.ireturn, 1) := by decide +kernel
theorem dX4_held_10 : decode cX4_held 10 = .ok (.aload_n 0, 1) := by decide +kernel
theorem dX4_held_11 : decode cX4_held 11 = .ok (.getfield 7, 3) := by decide +kernel
theorem dX4_held_14 : decode cX4_held 14 = .ok (.iload_n 1, 1) := by decide +kernel
theorem dX4_held_15 : decode cX4_held 15 = .ok (.iaload, 1) := by decide +kernel
theorem dX4_held_16 : decode cX4_held 16 = .ok (.istore_n 2, 1) := by decide +kernel
theorem dX4_held_17 : decode cX4_held 17 = .ok (.iconst 0, 1) := by decide +kernel
theorem dX4_held_18 : decode cX4_held 18 = .ok (.istore_n 3, 1) := by decide +kernel
theorem dX4_held_19 : decode cX4_held 19 = .ok (.iconst 0, 1) := by decide +kernel
theorem dX4_held_20 : decode cX4_held 20 = .ok (.istore 4, 2) := by decide +kernel
theorem dX4_held_22 : decode cX4_held 22 = .ok (.iload 4, 2) := by decide +kernel
theorem dX4_held_24 : decode cX4_held 24 = .ok (.bipush 12, 2) := by decide +kernel
theorem dX4_held_26 : decode cX4_held 26 = .ok (.if_icmp .ge 154, 3) := by decide +kernel
theorem dX4_held_29 : decode cX4_held 29 = .ok (.iload_n 2, 1) := by decide +kernel
theorem dX4_held_30 : decode cX4_held 30 = .ok (.iconst (-1), 1) := by decide +kernel
theorem dX4_held_31 : decode cX4_held 31 = .ok (.if_icmp .eq 149, 3) := by decide +kernel
theorem dX4_held_34 : decode cX4_held 34 = .ok (.iload_n 3, 1) := by decide +kernel
theorem dX4_held_35 : decode cX4_held 35 = .ok (.aload_n 0, 1) := by decide +kernel
theorem dX4_held_36 : decode cX4_held 36 = .ok (.getfield 7, 3) := by decide +kernel
theorem dX4_held_39 : decode cX4_held 39 = .ok (.iload 4, 2) := by decide +kernel
theorem dX4_held_41 : decode cX4_held 41 = .ok (.iaload, 1) := by decide +kernel
theorem dX4_held_42 : decode cX4_held 42 = .ok (.iload_n 2, 1) := by decide +kernel
theorem dX4_held_43 : decode cX4_held 43 = .ok (.if_icmp .ne 7, 3) := by decide +kernel
theorem dX4_held_46 : decode cX4_held 46 = .ok (.iconst 1, 1) := by decide +kernel
theorem dX4_held_47 : decode cX4_held 47 = .ok (.goto 4, 3) := by decide +kernel
theorem dX4_held_50 : decode cX4_held 50 = .ok (.iconst 0, 1) := by decide +kernel
theorem dX4_held_51 : decode cX4_held 51 = .ok (.iadd, 1) := by decide +kernel
theorem dX4_held_52 : decode cX4_held 52 = .ok (.istore_n 3, 1) := by decide +kernel
theorem dX4_held_53 : decode cX4_held 53 = .ok (.aload_n 0, 1) := by decide +kernel
theorem dX4_held_54 : decode cX4_held 54 = .ok (.iload 4, 2) := by decide +kernel
theorem dX4_held_56 : decode cX4_held 56 = .ok (.invokevirtual 112, 3) := by decide +kernel
theorem dX4_held_59 : decode cX4_held 59 = .ok (.ifCond .eq 17, 3) := by decide +kernel
theorem dX4_held_62 : decode cX4_held 62 = .ok (.aload_n 0, 1) := by decide +kernel
theorem dX4_held_63 : decode cX4_held 63 = .ok (.iload 4, 2) := by decide +kernel
theorem dX4_held_65 : decode cX4_held 65 = .ok (.invokevirtual 66, 3) := by decide +kernel
theorem dX4_held_68 : decode cX4_held 68 = .ok (.iconst 2, 1) := by decide +kernel
theorem dX4_held_69 : decode cX4_held 69 = .ok (.if_icmp .ne 7, 3) := by decide +kernel
theorem dX4_held_72 : decode cX4_held 72 = .ok (.iconst 1, 1) := by decide +kernel
theorem dX4_held_73 : decode cX4_held 73 = .ok (.goto 4, 3) := by decide +kernel
theorem dX4_held_76 : decode cX4_held 76 = .ok (.iconst 0, 1) := by decide +kernel
theorem dX4_held_77 : decode cX4_held 77 = .ok (.istore 5, 2) := by decide +kernel
theorem dX4_held_79 : decode cX4_held 79 = .ok (.iconst 0, 1) := by decide +kernel
theorem dX4_held_80 : decode cX4_held 80 = .ok (.istore 6, 2) := by decide +kernel
theorem dX4_held_82 : decode cX4_held 82 = .ok (.iload 6, 2) := by decide +kernel
theorem dX4_held_84 : decode cX4_held 84 = .ok (.iload 4, 2) := by decide +kernel
theorem dX4_held_86 : decode cX4_held 86 = .ok (.if_icmp .ge 38, 3) := by decide +kernel
theorem dX4_held_89 : decode cX4_held 89 = .ok (.iload 5, 2) := by decide +kernel
theorem dX4_held_91 : decode cX4_held 91 = .ok (.ifCond .eq 24, 3) := by decide +kernel
theorem dX4_held_94 : decode cX4_held 94 = .ok (.aload_n 0, 1) := by decide +kernel
theorem dX4_held_95 : decode cX4_held 95 = .ok (.getfield 7, 3) := by decide +kernel
theorem dX4_held_98 : decode cX4_held 98 = .ok (.iload 6, 2) := by decide +kernel
theorem dX4_held_100 : decode cX4_held 100 = .ok (.iaload, 1) := by decide +kernel
theorem dX4_held_101 : decode cX4_held 101 = .ok (.aload_n 0, 1) := by decide +kernel
theorem dX4_held_102 : decode cX4_held 102 = .ok (.getfield 7, 3) := by decide +kernel
theorem dX4_held_105 : decode cX4_held 105 = .ok (.iload 4, 2) := by decide +kernel
theorem dX4_held_107 : decode cX4_held 107 = .ok (.iaload, 1) := by decide +kernel
theorem dX4_held_108 : decode cX4_held 108 = .ok (.if_icmp .eq 7, 3) := by decide +kernel
theorem dX4_held_111 : decode cX4_held 111 = .ok (.iconst 1, 1) := by decide +kernel
theorem dX4_held_112 : decode cX4_held 112 = .ok (.goto 4, 3) := by decide +kernel
theorem dX4_held_115 : decode cX4_held 115 = .ok (.iconst 0, 1) := by decide +kernel
theorem dX4_held_116 : decode cX4_held 116 = .ok (.istore 5, 2) := by decide +kernel
theorem dX4_held_118 : decode cX4_held 118 = .ok (.iinc 6 1, 3) := by decide +kernel
theorem dX4_held_121 : decode cX4_held 121 = .ok (.goto (-39), 3) := by decide +kernel
theorem dX4_held_124 : decode cX4_held 124 = .ok (.iconst 0, 1) := by decide +kernel
theorem dX4_held_125 : decode cX4_held 125 = .ok (.istore 6, 2) := by decide +kernel
theorem dX4_held_127 : decode cX4_held 127 = .ok (.iload 5, 2) := by decide +kernel
theorem dX4_held_129 : decode cX4_held 129 = .ok (.ifCond .eq 45, 3) := by decide +kernel
theorem dX4_held_132 : decode cX4_held 132 = .ok (.iload 6, 2) := by decide +kernel
theorem dX4_held_134 : decode cX4_held 134 = .ok (.aload_n 0, 1) := by decide +kernel
theorem dX4_held_135 : decode cX4_held 135 = .ok (.iload 4, 2) := by decide +kernel
theorem dX4_held_137 : decode cX4_held 137 = .ok (.invokevirtual 75, 3) := by decide +kernel
theorem dX4_held_140 : decode cX4_held 140 = .ok (.if_icmp .ge 34, 3) := by decide +kernel
theorem dX4_held_143 : decode cX4_held 143 = .ok (.iload_n 3, 1) := by decide +kernel
theorem dX4_held_144 : decode cX4_held 144 = .ok (.aload_n 0, 1) := by decide +kernel
theorem dX4_held_145 : decode cX4_held 145 = .ok (.aload_n 0, 1) := by decide +kernel
theorem dX4_held_146 : decode cX4_held 146 = .ok (.getfield 7, 3) := by decide +kernel
theorem dX4_held_149 : decode cX4_held 149 = .ok (.iload 4, 2) := by decide +kernel
theorem dX4_held_151 : decode cX4_held 151 = .ok (.iaload, 1) := by decide +kernel
theorem dX4_held_152 : decode cX4_held 152 = .ok (.iload 6, 2) := by decide +kernel
theorem dX4_held_154 : decode cX4_held 154 = .ok (.invokevirtual 82, 3) := by decide +kernel
theorem dX4_held_157 : decode cX4_held 157 = .ok (.iload_n 2, 1) := by decide +kernel
theorem dX4_held_158 : decode cX4_held 158 = .ok (.if_icmp .ne 7, 3) := by decide +kernel
theorem dX4_held_161 : decode cX4_held 161 = .ok (.iconst 1, 1) := by decide +kernel
theorem dX4_held_162 : decode cX4_held 162 = .ok (.goto 4, 3) := by decide +kernel
theorem dX4_held_165 : decode cX4_held 165 = .ok (.iconst 0, 1) := by decide +kernel
theorem dX4_held_166 : decode cX4_held 166 = .ok (.iadd, 1) := by decide +kernel
theorem dX4_held_167 : decode cX4_held 167 = .ok (.istore_n 3, 1) := by decide +kernel
theorem dX4_held_168 : decode cX4_held 168 = .ok (.iinc 6 1, 3) := by decide +kernel
theorem dX4_held_171 : decode cX4_held 171 = .ok (.goto (-44), 3) := by decide +kernel
theorem dX4_held_174 : decode cX4_held 174 = .ok (.iinc 4 1, 3) := by decide +kernel
theorem dX4_held_177 : decode cX4_held 177 = .ok (.goto (-155), 3) := by decide +kernel
theorem dX4_held_180 : decode cX4_held 180 = .ok (.iload_n 3, 1) := by decide +kernel
theorem dX4_held_181 : decode cX4_held 181 = .ok (.ireturn, 1) := by decide +kernel
