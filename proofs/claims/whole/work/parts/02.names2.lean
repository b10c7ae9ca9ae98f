theorem dJ9_floorMod_7cf53_0 : decode cJ9_floorMod_7cf53 0 = .ok (.iload_n 0, 1) := by decide +kernel
theorem dJ9_floorMod_7cf53_1 : decode cJ9_floorMod_7cf53 1 = .ok (.iload_n 1, 1) := by decide +kernel
theorem dJ9_floorMod_7cf53_2 : decode cJ9_floorMod_7cf53 2 = .ok (.irem, 1) := by decide +kernel
theorem dJ9_floorMod_7cf53_3 : decode cJ9_floorMod_7cf53 3 = .ok (.istore_n 2, 1) := by decide +kernel
theorem dJ9_floorMod_7cf53_4 : decode cJ9_floorMod_7cf53 4 = .ok (.iload_n 0, 1) := by decide +kernel
theorem dJ9_floorMod_7cf53_5 : decode cJ9_floorMod_7cf53 5 = .ok (.iload_n 1, 1) := by decide +kernel
theorem dJ9_floorMod_7cf53_6 : decode cJ9_floorMod_7cf53 6 = .ok (.ixor, 1) := by decide +kernel
theorem dJ9_floorMod_7cf53_7 : decode cJ9_floorMod_7cf53 7 = .ok (.ifCond .ge 11, 3) := by decide +kernel
theorem dJ9_floorMod_7cf53_10 : decode cJ9_floorMod_7cf53 10 = .ok (.iload_n 2, 1) := by decide +kernel
theorem dJ9_floorMod_7cf53_11 : decode cJ9_floorMod_7cf53 11 = .ok (.ifCond .eq 7, 3) := by decide +kernel
theorem dJ9_floorMod_7cf53_14 : decode cJ9_floorMod_7cf53 14 = .ok (.iload_n 2, 1) := by decide +kernel
theorem dJ9_floorMod_7cf53_15 : decode cJ9_floorMod_7cf53 15 = .ok (.iload_n 1, 1) := by decide +kernel
theorem dJ9_floorMod_7cf53_16 : decode cJ9_floorMod_7cf53 16 = .ok (.iadd, 1) := by decide +kernel
theorem dJ9_floorMod_7cf53_17 : decode cJ9_floorMod_7cf53 17 = .ok (.ireturn, 1) := by decide +kernel
theorem dJ9_floorMod_7cf53_18 : decode cJ9_floorMod_7cf53 18 = .ok (.iload_n 2, 1) := by decide +kernel
theorem dJ9_floorMod_7cf53_19 : decode cJ9_floorMod_7cf53 19 = .ok (.ireturn, 1) := by decide +kernel
theorem dJ9_max_7cf53_0 : decode cJ9_max_7cf53 0 = .ok (.iload_n 0, 1) := by decide +kernel
theorem dJ9_max_7cf53_1 : decode cJ9_max_7cf53 1 = .ok (.iload_n 1, 1) := by decide +kernel
theorem dJ9_max_7cf53_2 : decode cJ9_max_7cf53 2 = .ok (.if_icmp .lt 7, 3) := by decide +kernel
theorem dJ9_max_7cf53_5 : decode cJ9_max_7cf53 5 = .ok (.iload_n 0, 1) := by decide +kernel
theorem dJ9_max_7cf53_6 : decode cJ9_max_7cf53 6 = .ok (.goto 4, 3) := by decide +kernel
theorem dJ9_max_7cf53_9 : decode cJ9_max_7cf53 9 = .ok (.iload_n 1, 1) := by decide +kernel
theorem dJ9_max_7cf53_10 : decode cJ9_max_7cf53 10 = .ok (.ireturn, 1) := by decide +kernel
theorem dX0_init_0 : decode cX0_init 0 = .ok (.aload_n 0, 1) := by decide +kernel
theorem dX0_init_1 : decode cX0_init 1 = .ok (.invokespecial 1, 3) := by decide +kernel
theorem dX0_init_4 : decode cX0_init 4 = .ok (.return_, 1) := by decide +kernel
set_option maxRecDepth 20000 in
theorem ggX1_init_X0_init : GoodIn wsX1_init wsX0_init := goodIn_r _ [9, 10, 11, 12] (by decide +kernel) (by decide +kernel)
set_option maxRecDepth 20000 in
theorem gX1_init_X0_init_n3 : GoodIn wsX1_init (wsX0_init) := ggX1_init_X0_init
theorem dX1_init_0 : decode cX1_init 0 = .ok (.aload_n 0, 1) := by decide +kernel
theorem dX1_init_1 : decode cX1_init 1 = .ok (.invokespecial 3, 3) := by decide +kernel
theorem dX1_init_4 : decode cX1_init 4 = .ok (.iload_n 1, 1) := by decide +kernel
theorem dX1_init_5 : decode cX1_init 5 = .ok (.ifCond .eq 8, 3) := by decide +kernel
theorem dX1_init_8 : decode cX1_init 8 = .ok (.iload_n 1, 1) := by decide +kernel
theorem dX1_init_9 : decode cX1_init 9 = .ok (.iconst 1, 1) := by decide +kernel
theorem dX1_init_10 : decode cX1_init 10 = .ok (.if_icmp .ne 7, 3) := by decide +kernel
theorem dX1_init_13 : decode cX1_init 13 = .ok (.iconst 1, 1) := by decide +kernel
theorem dX1_init_14 : decode cX1_init 14 = .ok (.goto 4, 3) := by decide +kernel
theorem dX1_init_17 : decode cX1_init 17 = .ok (.iconst 0, 1) := by decide +kernel
theorem dX1_init_18 : decode cX1_init 18 = .ok (.istore_n 3, 1) := by decide +kernel
theorem dX1_init_19 : decode cX1_init 19 = .ok (.aload_n 0, 1) := by decide +kernel
theorem dX1_init_20 : decode cX1_init 20 = .ok (.iload_n 1, 1) := by decide +kernel
theorem dX1_init_21 : decode cX1_init 21 = .ok (.putfield 9, 3) := by decide +kernel
theorem dX1_init_24 : decode cX1_init 24 = .ok (.aload_n 0, 1) := by decide +kernel
theorem dX1_init_25 : decode cX1_init 25 = .ok (.iload_n 2, 1) := by decide +kernel
theorem dX1_init_26 : decode cX1_init 26 = .ok (.putfield 15, 3) := by decide +kernel
theorem dX1_init_29 : decode cX1_init 29 = .ok (.aload_n 0, 1) := by decide +kernel
theorem dX1_init_30 : decode cX1_init 30 = .ok (.iload_n 3, 1) := by decide +kernel
theorem dX1_init_31 : decode cX1_init 31 = .ok (.ifCond .eq 7, 3) := by decide +kernel
theorem dX1_init_34 : decode cX1_init 34 = .ok (.iload_n 2, 1) := by decide +kernel
theorem dX1_init_35 : decode cX1_init 35 = .ok (.goto 4, 3) := by decide +kernel
theorem dX1_init_38 : decode cX1_init 38 = .ok (.iconst 0, 1) := by decide +kernel
theorem dX1_init_39 : decode cX1_init 39 = .ok (.newarray .int, 2) := by decide +kernel
theorem dX1_init_41 : decode cX1_init 41 = .ok (.putfield 18, 3) := by decide +kernel
theorem dX1_init_44 : decode cX1_init 44 = .ok (.aload_n 0, 1) := by decide +kernel
theorem dX1_init_45 : decode cX1_init 45 = .ok (.iload_n 3, 1) := by decide +kernel
theorem dX1_init_46 : decode cX1_init 46 = .ok (.ifCond .eq 7, 3) := by decide +kernel
theorem dX1_init_49 : decode cX1_init 49 = .ok (.iconst 0, 1) := by decide +kernel
theorem dX1_init_50 : decode cX1_init 50 = .ok (.goto 4, 3) := by decide +kernel
theorem dX1_init_53 : decode cX1_init 53 = .ok (.iload_n 2, 1) := by decide +kernel
theorem dX1_init_54 : decode cX1_init 54 = .ok (.anewarray 4, 3) := by decide +kernel
theorem dX1_init_57 : decode cX1_init 57 = .ok (.putfield 22, 3) := by decide +kernel
theorem dX1_init_60 : decode cX1_init 60 = .ok (.return_, 1) := by decide +kernel
theorem dX1_fitsInto_0 : decode cX1_fitsInto 0 = .ok (.iload_n 1, 1) := by decide +kernel
theorem dX1_fitsInto_1 : decode cX1_fitsInto 1 = .ok (.iconst 2, 1) := by decide +kernel
theorem dX1_fitsInto_2 : decode cX1_fitsInto 2 = .ok (.if_icmp .ne 7, 3) := by decide +kernel
theorem dX1_fitsInto_5 : decode cX1_fitsInto 5 = .ok (.iconst 1, 1) := by decide +kernel
theorem dX1_fitsInto_6 : decode cX1_fitsInto 6 = .ok (.goto 4, 3) := by decide +kernel
theorem dX1_fitsInto_9 : decode cX1_fitsInto 9 = .ok (.iconst 0, 1) := by decide +kernel
theorem dX1_fitsInto_10 : decode cX1_fitsInto 10 = .ok (.ireturn, 1) := by decide +kernel
theorem dX1_shown_0 : decode cX1_shown 0 = .ok (.aload_n 0, 1) := by decide +kernel
theorem dX1_shown_1 : decode cX1_shown 1 = .ok (.getfield 15, 3) := by decide +kernel
theorem dX1_shown_4 : decode cX1_shown 4 = .ok (.ireturn, 1) := by decide +kernel
theorem dX1_isOfNumbers_0 : decode cX1_isOfNumbers 0 = .ok (.aload_n 0, 1) := by decide +kernel
theorem dX1_isOfNumbers_1 : decode cX1_isOfNumbers 1 = .ok (.getfield 9, 3) := by decide +kernel
theorem dX1_isOfNumbers_4 : decode cX1_isOfNumbers 4 = .ok (.ifCond .eq 11, 3) := by decide +kernel
theorem dX1_isOfNumbers_7 : decode cX1_isOfNumbers 7 = .ok (.aload_n 0, 1) := by decide +kernel
theorem dX1_isOfNumbers_8 : decode cX1_isOfNumbers 8 = .ok (.getfield 9, 3) := by decide +kernel
theorem dX1_isOfNumbers_11 : decode cX1_isOfNumbers 11 = .ok (.iconst 1, 1) := by decide +kernel
theorem dX1_isOfNumbers_12 : decode cX1_isOfNumbers 12 = .ok (.if_icmp .ne 7, 3) := by decide +kernel
theorem dX1_isOfNumbers_15 : decode cX1_isOfNumbers 15 = .ok (.iconst 1, 1) := by decide +kernel
theorem dX1_isOfNumbers_16 : decode cX1_isOfNumbers 16 = .ok (.goto 4, 3) := by decide +kernel
theorem dX1_isOfNumbers_19 : decode cX1_isOfNumbers 19 = .ok (.iconst 0, 1) := by decide +kernel
theorem dX1_isOfNumbers_20 : decode cX1_isOfNumbers 20 = .ok (.ireturn, 1) := by decide +kernel
theorem dX1_has_0 : decode cX1_has 0 = .ok (.iload_n 1, 1) := by decide +kernel
theorem dX1_has_1 : decode cX1_has 1 = .ok (.ifCond .lt 15, 3) := by decide +kernel
theorem dX1_has_4 : decode cX1_has 4 = .ok (.iload_n 1, 1) := by decide +kernel
theorem dX1_has_5 : decode cX1_has 5 = .ok (.aload_n 0, 1) := by decide +kernel
theorem dX1_has_6 : decode cX1_has 6 = .ok (.getfield 15, 3) := by decide +kernel
theorem dX1_has_9 : decode cX1_has 9 = .ok (.if_icmp .ge 7, 3) := by decide +kernel
theorem dX1_has_12 : decode cX1_has 12 = .ok (.iconst 1, 1) := by decide +kernel
theorem dX1_has_13 : decode cX1_has 13 = .ok (.goto 4, 3) := by decide +kernel
theorem dX1_has_16 : decode cX1_has 16 = .ok (.iconst 0, 1) := by decide +kernel
theorem dX1_has_17 : decode cX1_has 17 = .ok (.ireturn, 1) := by decide +kernel
theorem dX1_hasRange_0 : decode cX1_hasRange 0 = .ok (.iload_n 1, 1) := by decide +kernel
theorem dX1_hasRange_1 : decode cX1_hasRange 1 = .ok (.ifCond .lt 29, 3) := by decide +kernel
theorem dX1_hasRange_4 : decode cX1_hasRange 4 = .ok (.iload_n 2, 1) := by decide +kernel
theorem dX1_hasRange_5 : decode cX1_hasRange 5 = .ok (.ifCond .lt 25, 3) := by decide +kernel
theorem dX1_hasRange_8 : decode cX1_hasRange 8 = .ok (.iload_n 1, 1) := by decide +kernel
theorem dX1_hasRange_9 : decode cX1_hasRange 9 = .ok (.aload_n 0, 1) := by decide +kernel
theorem dX1_hasRange_10 : decode cX1_hasRange 10 = .ok (.getfield 15, 3) := by decide +kernel
theorem dX1_hasRange_13 : decode cX1_hasRange 13 = .ok (.if_icmp .gt 17, 3) := by decide +kernel
theorem dX1_hasRange_16 : decode cX1_hasRange 16 = .ok (.iload_n 2, 1) := by decide +kernel
theorem dX1_hasRange_17 : decode cX1_hasRange 17 = .ok (.aload_n 0, 1) := by decide +kernel
theorem dX1_hasRange_18 : decode cX1_hasRange 18 = .ok (.getfield 15, 3) := by decide +kernel
theorem dX1_hasRange_21 : decode cX1_hasRange 21 = .ok (.iload_n 1, 1) := by decide +kernel
theorem dX1_hasRange_22 : decode cX1_hasRange 22 = .ok (.isub, 1) := by decide +kernel
theorem dX1_hasRange_23 : decode cX1_hasRange 23 = .ok (.if_icmp .gt 7, 3) := by decide +kernel
theorem dX1_hasRange_26 : decode cX1_hasRange 26 = .ok (.iconst 1, 1) := by decide +kernel
theorem dX1_hasRange_27 : decode cX1_hasRange 27 = .ok (.goto 4, 3) := by decide +kernel
theorem dX1_hasRange_30 : decode cX1_hasRange 30 = .ok (.iconst 0, 1) := by decide +kernel
theorem dX1_hasRange_31 : decode cX1_hasRange 31 = .ok (.ireturn, 1) := by decide +kernel
set_option maxRecDepth 20000 in
theorem ggX1_takes_X1_fitsInto : GoodIn wsX1_takes wsX1_fitsInto := goodIn_r _ [7] (by decide +kernel) (by decide +kernel)
set_option maxRecDepth 20000 in
theorem gX1_takes_X1_fitsInto_u26X1 : GoodIn wsX1_takes (va_wsU RX1 26 RX1 "CopyRows$Part" ⟨"CopyRows$Part", "fitsInto", "(I)Z"⟩ yX1_fitsInto wsX1_fitsInto) := goodIn_app (goodIn_of _ (by decide +kernel)) ggX1_takes_X1_fitsInto
set_option maxRecDepth 20000 in
theorem ggX1_takes_X2_fitsInto : GoodIn wsX1_takes wsX2_fitsInto := goodIn_r _ [11, 12, 17, 18] (by decide +kernel) (by decide +kernel)
set_option maxRecDepth 20000 in
theorem gX1_takes_X2_fitsInto_u26X2 : GoodIn wsX1_takes (va_wsU RX1 26 RX2 "CopyRows$Part" ⟨"CopyRows$Part", "fitsInto", "(I)Z"⟩ yX2_fitsInto wsX2_fitsInto) := goodIn_app (goodIn_of _ (by decide +kernel)) ggX1_takes_X2_fitsInto
theorem dX1_takes_0 : decode cX1_takes 0 = .ok (.aload_n 1, 1) := by decide +kernel
theorem dX1_takes_1 : decode cX1_takes 1 = .ok (.ifnull 14, 3) := by decide +kernel
theorem dX1_takes_4 : decode cX1_takes 4 = .ok (.aload_n 1, 1) := by decide +kernel
theorem dX1_takes_5 : decode cX1_takes 5 = .ok (.aload_n 0, 1) := by decide +kernel
theorem dX1_takes_6 : decode cX1_takes 6 = .ok (.getfield 9, 3) := by decide +kernel
theorem dX1_takes_9 : decode cX1_takes 9 = .ok (.invokevirtual 26, 3) := by decide +kernel
theorem dX1_takes_12 : decode cX1_takes 12 = .ok (.ifCond .eq 7, 3) := by decide +kernel
theorem dX1_takes_15 : decode cX1_takes 15 = .ok (.iconst 1, 1) := by decide +kernel
theorem dX1_takes_16 : decode cX1_takes 16 = .ok (.goto 4, 3) := by decide +kernel
theorem dX1_takes_19 : decode cX1_takes 19 = .ok (.iconst 0, 1) := by decide +kernel
theorem dX1_takes_20 : decode cX1_takes 20 = .ok (.ireturn, 1) := by decide +kernel
set_option maxRecDepth 20000 in
theorem ggX1_mayTakeOf_X1_isOfNumbers : GoodIn wsX1_mayTakeOf wsX1_isOfNumbers := goodIn_r _ [6, 1, 7, 8, 9, 10] (by decide +kernel) (by decide +kernel)
set_option maxRecDepth 20000 in
theorem gX1_mayTakeOf_X1_isOfNumbers : GoodIn wsX1_mayTakeOf (wsV RX1 30 RX1 yX1_isOfNumbers wsX1_isOfNumbers) := goodIn_app (goodIn_of _ (by decide +kernel)) ggX1_mayTakeOf_X1_isOfNumbers
theorem dX1_mayTakeOf_0 : decode cX1_mayTakeOf 0 = .ok (.aload_n 0, 1) := by decide +kernel
theorem dX1_mayTakeOf_1 : decode cX1_mayTakeOf 1 = .ok (.getfield 9, 3) := by decide +kernel
theorem dX1_mayTakeOf_4 : decode cX1_mayTakeOf 4 = .ok (.bipush 6, 2) := by decide +kernel
theorem dX1_mayTakeOf_6 : decode cX1_mayTakeOf 6 = .ok (.if_icmp .eq 12, 3) := by decide +kernel
theorem dX1_mayTakeOf_9 : decode cX1_mayTakeOf 9 = .ok (.aload_n 1, 1) := by decide +kernel
theorem dX1_mayTakeOf_10 : decode cX1_mayTakeOf 10 = .ok (.getfield 9, 3) := by decide +kernel
theorem dX1_mayTakeOf_13 : decode cX1_mayTakeOf 13 = .ok (.bipush 6, 2) := by decide +kernel
theorem dX1_mayTakeOf_15 : decode cX1_mayTakeOf 15 = .ok (.if_icmp .ne 5, 3) := by decide +kernel
theorem dX1_mayTakeOf_18 : decode cX1_mayTakeOf 18 = .ok (.iconst 0, 1) := by decide +kernel
theorem dX1_mayTakeOf_19 : decode cX1_mayTakeOf 19 = .ok (.ireturn, 1) := by decide +kernel
theorem dX1_mayTakeOf_20 : decode cX1_mayTakeOf 20 = .ok (.aload_n 0, 1) := by decide +kernel
theorem dX1_mayTakeOf_21 : decode cX1_mayTakeOf 21 = .ok (.getfield 9, 3) := by decide +kernel
theorem dX1_mayTakeOf_24 : decode cX1_mayTakeOf 24 = .ok (.aload_n 1, 1) := by decide +kernel
theorem dX1_mayTakeOf_25 : decode cX1_mayTakeOf 25 = .ok (.getfield 9, 3) := by decide +kernel
theorem dX1_mayTakeOf_28 : decode cX1_mayTakeOf 28 = .ok (.if_icmp .eq 17, 3) := by decide +kernel
theorem dX1_mayTakeOf_31 : decode cX1_mayTakeOf 31 = .ok (.aload_n 0, 1) := by decide +kernel
theorem dX1_mayTakeOf_32 : decode cX1_mayTakeOf 32 = .ok (.invokevirtual 30, 3) := by decide +kernel
theorem dX1_mayTakeOf_35 : decode cX1_mayTakeOf 35 = .ok (.ifCond .ne 14, 3) := by decide +kernel
theorem dX1_mayTakeOf_38 : decode cX1_mayTakeOf 38 = .ok (.aload_n 1, 1) := by decide +kernel
theorem dX1_mayTakeOf_39 : decode cX1_mayTakeOf 39 = .ok (.invokevirtual 30, 3) := by decide +kernel
theorem dX1_mayTakeOf_42 : decode cX1_mayTakeOf 42 = .ok (.ifCond .ne 7, 3) := by decide +kernel
theorem dX1_mayTakeOf_45 : decode cX1_mayTakeOf 45 = .ok (.iconst 1, 1) := by decide +kernel
theorem dX1_mayTakeOf_46 : decode cX1_mayTakeOf 46 = .ok (.goto 4, 3) := by decide +kernel
theorem dX1_mayTakeOf_49 : decode cX1_mayTakeOf 49 = .ok (.iconst 0, 1) := by decide +kernel
theorem dX1_mayTakeOf_50 : decode cX1_mayTakeOf 50 = .ok (.ireturn, 1) := by decide +kernel
set_option maxRecDepth 20000 in
theorem ggX1_countTaken_X1_isOfNumbers : GoodIn wsX1_countTaken wsX1_isOfNumbers := goodIn_r _ [6, 7, 22, 23, 24, 25] (by decide +kernel) (by decide +kernel)
set_option maxRecDepth 20000 in
theorem gX1_countTaken_X1_isOfNumbers : GoodIn wsX1_countTaken (wsV RX1 30 RX1 yX1_isOfNumbers wsX1_isOfNumbers) := goodIn_app (goodIn_of _ (by decide +kernel)) ggX1_countTaken_X1_isOfNumbers
set_option maxRecDepth 20000 in
theorem ggX1_countTaken_X1_takes : GoodIn wsX1_countTaken wsX1_takes := goodIn_r _ [11, 7, 12, 13, 14, 15, 5, 16, 17, 18, 19, 20, 21, 22, 23, 24, 25, 26, 27] (by decide +kernel) (by decide +kernel)
set_option maxRecDepth 20000 in
theorem gX1_countTaken_X1_takes : GoodIn wsX1_countTaken (wsV RX1 34 RX1 yX1_takes wsX1_takes) := goodIn_app (goodIn_of _ (by decide +kernel)) ggX1_countTaken_X1_takes
theorem dX1_countTaken_0 : decode cX1_countTaken 0 = .ok (.aload_n 0, 1) := by decide +kernel
theorem dX1_countTaken_1 : decode cX1_countTaken 1 = .ok (.invokevirtual 30, 3) := by decide +kernel
theorem dX1_countTaken_4 : decode cX1_countTaken 4 = .ok (.ifCond .eq 5, 3) := by decide +kernel
theorem dX1_countTaken_7 : decode cX1_countTaken 7 = .ok (.iload_n 3, 1) := by decide +kernel
theorem dX1_countTaken_8 : decode cX1_countTaken 8 = .ok (.ireturn, 1) := by decide +kernel
theorem dX1_countTaken_9 : decode cX1_countTaken 9 = .ok (.iconst 0, 1) := by decide +kernel
theorem dX1_countTaken_10 : decode cX1_countTaken 10 = .ok (.istore 4, 2) := by decide +kernel
theorem dX1_countTaken_12 : decode cX1_countTaken 12 = .ok (.iload 4, 2) := by decide +kernel
theorem dX1_countTaken_14 : decode cX1_countTaken 14 = .ok (.iload_n 3, 1) := by decide +kernel
theorem dX1_countTaken_15 : decode cX1_countTaken 15 = .ok (.if_icmp .ge 28, 3) := by decide +kernel
theorem dX1_countTaken_18 : decode cX1_countTaken 18 = .ok (.aload_n 0, 1) := by decide +kernel
theorem dX1_countTaken_19 : decode cX1_countTaken 19 = .ok (.aload_n 1, 1) := by decide +kernel
theorem dX1_countTaken_20 : decode cX1_countTaken 20 = .ok (.getfield 22, 3) := by decide +kernel
theorem dX1_countTaken_23 : decode cX1_countTaken 23 = .ok (.iload_n 2, 1) := by decide +kernel
theorem dX1_countTaken_24 : decode cX1_countTaken 24 = .ok (.iload 4, 2) := by decide +kernel
theorem dX1_countTaken_26 : decode cX1_countTaken 26 = .ok (.iadd, 1) := by decide +kernel
theorem dX1_countTaken_27 : decode cX1_countTaken 27 = .ok (.aaload, 1) := by decide +kernel
theorem dX1_countTaken_28 : decode cX1_countTaken 28 = .ok (.invokevirtual 34, 3) := by decide +kernel
theorem dX1_countTaken_31 : decode cX1_countTaken 31 = .ok (.ifCond .ne 6, 3) := by decide +kernel
theorem dX1_countTaken_34 : decode cX1_countTaken 34 = .ok (.iload 4, 2) := by decide +kernel
theorem dX1_countTaken_36 : decode cX1_countTaken 36 = .ok (.ireturn, 1) := by decide +kernel
theorem dX1_countTaken_37 : decode cX1_countTaken 37 = .ok (.iinc 4 1, 3) := by decide +kernel
theorem dX1_countTaken_40 : decode cX1_countTaken 40 = .ok (.goto (-28), 3) := by decide +kernel
theorem dX1_countTaken_43 : decode cX1_countTaken 43 = .ok (.iload_n 3, 1) := by decide +kernel
theorem dX1_countTaken_44 : decode cX1_countTaken 44 = .ok (.ireturn, 1) := by decide +kernel
set_option maxRecDepth 20000 in
theorem ggX1_take_X1_isOfNumbers : GoodIn wsX1_take wsX1_isOfNumbers := goodIn_r _ [11, 12, 13, 14, 15, 16] (by decide +kernel) (by decide +kernel)
set_option maxRecDepth 20000 in
theorem gX1_take_X1_isOfNumbers : GoodIn wsX1_take (wsV RX1 30 RX1 yX1_isOfNumbers wsX1_isOfNumbers) := goodIn_app (goodIn_of _ (by decide +kernel)) ggX1_take_X1_isOfNumbers
theorem dX1_take_0 : decode cX1_take 0 = .ok (.aload_n 0, 1) := by decide +kernel
theorem dX1_take_1 : decode cX1_take 1 = .ok (.invokevirtual 30, 3) := by decide +kernel
theorem dX1_take_4 : decode cX1_take 4 = .ok (.ifCond .eq 21, 3) := by decide +kernel
theorem dX1_take_7 : decode cX1_take 7 = .ok (.aload_n 1, 1) := by decide +kernel
theorem dX1_take_8 : decode cX1_take 8 = .ok (.getfield 18, 3) := by decide +kernel
theorem dX1_take_11 : decode cX1_take 11 = .ok (.iload_n 2, 1) := by decide +kernel
theorem dX1_take_12 : decode cX1_take 12 = .ok (.aload_n 0, 1) := by decide +kernel
theorem dX1_take_13 : decode cX1_take 13 = .ok (.getfield 18, 3) := by decide +kernel
theorem dX1_take_16 : decode cX1_take 16 = .ok (.iload_n 3, 1) := by decide +kernel
theorem dX1_take_17 : decode cX1_take 17 = .ok (.iload 4, 2) := by decide +kernel
theorem dX1_take_19 : decode cX1_take 19 = .ok (.invokestatic 38, 3) := by decide +kernel
theorem dX1_take_22 : decode cX1_take 22 = .ok (.goto 18, 3) := by decide +kernel
theorem dX1_take_25 : decode cX1_take 25 = .ok (.aload_n 1, 1) := by decide +kernel
theorem dX1_take_26 : decode cX1_take 26 = .ok (.getfield 22, 3) := by decide +kernel
theorem dX1_take_29 : decode cX1_take 29 = .ok (.iload_n 2, 1) := by decide +kernel
theorem dX1_take_30 : decode cX1_take 30 = .ok (.aload_n 0, 1) := by decide +kernel
theorem dX1_take_31 : decode cX1_take 31 = .ok (.getfield 22, 3) := by decide +kernel
theorem dX1_take_34 : decode cX1_take 34 = .ok (.iload_n 3, 1) := by decide +kernel
theorem dX1_take_35 : decode cX1_take 35 = .ok (.iload 4, 2) := by decide +kernel
theorem dX1_take_37 : decode cX1_take 37 = .ok (.invokestatic 38, 3) := by decide +kernel
theorem dX1_take_40 : decode cX1_take 40 = .ok (.return_, 1) := by decide +kernel
set_option maxRecDepth 20000 in
theorem ggX1_cut_X1_init : GoodIn wsX1_cut wsX1_init := goodIn_r _ [7, 4, 8, 9, 10, 11, 12, 13, 14, 15, 16, 17, 18, 31, 32, 33, 34] (by decide +kernel) (by decide +kernel)
set_option maxRecDepth 20000 in
theorem gX1_cut_X1_init : GoodIn wsX1_cut (wsX1_init) := ggX1_cut_X1_init
set_option maxRecDepth 20000 in
theorem ggX1_cut_X1_take : GoodIn wsX1_cut wsX1_take := goodIn_r _ [22, 10, 23, 24, 25, 26, 12, 27, 28, 29, 3, 30, 4, 31, 32, 33, 34] (by decide +kernel) (by decide +kernel)
set_option maxRecDepth 20000 in
theorem gX1_cut_X1_take : GoodIn wsX1_cut (wsV RX1 47 RX1 yX1_take wsX1_take) := goodIn_app (goodIn_of _ (by decide +kernel)) ggX1_cut_X1_take
theorem dX1_cut_0 : decode cX1_cut 0 = .ok (.new 10, 3) := by decide +kernel
theorem dX1_cut_3 : decode cX1_cut 3 = .ok (.dup, 1) := by decide +kernel
theorem dX1_cut_4 : decode cX1_cut 4 = .ok (.aload_n 0, 1) := by decide +kernel
theorem dX1_cut_5 : decode cX1_cut 5 = .ok (.getfield 9, 3) := by decide +kernel
theorem dX1_cut_8 : decode cX1_cut 8 = .ok (.iload_n 2, 1) := by decide +kernel
theorem dX1_cut_9 : decode cX1_cut 9 = .ok (.invokespecial 44, 3) := by decide +kernel
theorem dX1_cut_12 : decode cX1_cut 12 = .ok (.astore_n 3, 1) := by decide +kernel
theorem dX1_cut_13 : decode cX1_cut 13 = .ok (.aload_n 3, 1) := by decide +kernel
theorem dX1_cut_14 : decode cX1_cut 14 = .ok (.aload_n 0, 1) := by decide +kernel
theorem dX1_cut_15 : decode cX1_cut 15 = .ok (.iload_n 1, 1) := by decide +kernel
theorem dX1_cut_16 : decode cX1_cut 16 = .ok (.iconst 0, 1) := by decide +kernel
theorem dX1_cut_17 : decode cX1_cut 17 = .ok (.iload_n 2, 1) := by decide +kernel
theorem dX1_cut_18 : decode cX1_cut 18 = .ok (.invokevirtual 47, 3) := by decide +kernel
theorem dX1_cut_21 : decode cX1_cut 21 = .ok (.aload_n 3, 1) := by decide +kernel
theorem dX1_cut_22 : decode cX1_cut 22 = .ok (.areturn, 1) := by decide +kernel
theorem dX1_total_0 : decode cX1_total 0 = .ok (.iconst 0, 1) := by decide +kernel
theorem dX1_total_1 : decode cX1_total 1 = .ok (.istore_n 1, 1) := by decide +kernel
theorem dX1_total_2 : decode cX1_total 2 = .ok (.iconst 0, 1) := by decide +kernel
theorem dX1_total_3 : decode cX1_total 3 = .ok (.istore_n 2, 1) := by decide +kernel
theorem dX1_total_4 : decode cX1_total 4 = .ok (.iload_n 2, 1) := by decide +kernel
theorem dX1_total_5 : decode cX1_total 5 = .ok (.aload_n 0, 1) := by decide +kernel
theorem dX1_total_6 : decode cX1_total 6 = .ok (.getfield 18, 3) := by decide +kernel
theorem dX1_total_9 : decode cX1_total 9 = .ok (.arraylength, 1) := by decide +kernel
theorem dX1_total_10 : decode cX1_total 10 = .ok (.if_icmp .ge 18, 3) := by decide +kernel
theorem dX1_total_13 : decode cX1_total 13 = .ok (.iload_n 1, 1) := by decide +kernel
theorem dX1_total_14 : decode cX1_total 14 = .ok (.aload_n 0, 1) := by decide +kernel
theorem dX1_total_15 : decode cX1_total 15 = .ok (.getfield 18, 3) := by decide +kernel
theorem dX1_total_18 : decode cX1_total 18 = .ok (.iload_n 2, 1) := by decide +kernel
theorem dX1_total_19 : decode cX1_total 19 = .ok (.iaload, 1) := by decide +kernel
theorem dX1_total_20 : decode cX1_total 20 = .ok (.iadd, 1) := by decide +kernel
theorem dX1_total_21 : decode cX1_total 21 = .ok (.istore_n 1, 1) := by decide +kernel
theorem dX1_total_22 : decode cX1_total 22 = .ok (.iinc 2 1, 3) := by decide +kernel
theorem dX1_total_25 : decode cX1_total 25 = .ok (.goto (-21), 3) := by decide +kernel
theorem dX1_total_28 : decode cX1_total 28 = .ok (.iload_n 1, 1) := by decide +kernel
theorem dX1_total_29 : decode cX1_total 29 = .ok (.ireturn, 1) := by decide +kernel
set_option maxRecDepth 20000 in
theorem ggX1_isLike_X1_isOfNumbers : GoodIn wsX1_isLike wsX1_isOfNumbers := goodIn_r _ [9, 1, 10, 11, 12, 13] (by decide +kernel) (by decide +kernel)
set_option maxRecDepth 20000 in
theorem gX1_isLike_X1_isOfNumbers : GoodIn wsX1_isLike (wsV RX1 30 RX1 yX1_isOfNumbers wsX1_isOfNumbers) := goodIn_app (goodIn_of _ (by decide +kernel)) ggX1_isLike_X1_isOfNumbers
theorem dX1_isLike_0 : decode cX1_isLike 0 = .ok (.aload_n 0, 1) := by decide +kernel
theorem dX1_isLike_1 : decode cX1_isLike 1 = .ok (.getfield 9, 3) := by decide +kernel
theorem dX1_isLike_4 : decode cX1_isLike 4 = .ok (.aload_n 1, 1) := by decide +kernel
theorem dX1_isLike_5 : decode cX1_isLike 5 = .ok (.getfield 9, 3) := by decide +kernel
theorem dX1_isLike_8 : decode cX1_isLike 8 = .ok (.if_icmp .ne 14, 3) := by decide +kernel
theorem dX1_isLike_11 : decode cX1_isLike 11 = .ok (.aload_n 0, 1) := by decide +kernel
theorem dX1_isLike_12 : decode cX1_isLike 12 = .ok (.getfield 15, 3) := by decide +kernel
theorem dX1_isLike_15 : decode cX1_isLike 15 = .ok (.aload_n 1, 1) := by decide +kernel
theorem dX1_isLike_16 : decode cX1_isLike 16 = .ok (.getfield 15, 3) := by decide +kernel
theorem dX1_isLike_19 : decode cX1_isLike 19 = .ok (.if_icmp .eq 5, 3) := by decide +kernel
theorem dX1_isLike_22 : decode cX1_isLike 22 = .ok (.iconst 0, 1) := by decide +kernel
theorem dX1_isLike_23 : decode cX1_isLike 23 = .ok (.ireturn, 1) := by decide +kernel
theorem dX1_isLike_24 : decode cX1_isLike 24 = .ok (.iconst 0, 1) := by decide +kernel
theorem dX1_isLike_25 : decode cX1_isLike 25 = .ok (.istore_n 2, 1) := by decide +kernel
theorem dX1_isLike_26 : decode cX1_isLike 26 = .ok (.iload_n 2, 1) := by decide +kernel
theorem dX1_isLike_27 : decode cX1_isLike 27 = .ok (.aload_n 0, 1) := by decide +kernel
theorem dX1_isLike_28 : decode cX1_isLike 28 = .ok (.getfield 15, 3) := by decide +kernel
theorem dX1_isLike_31 : decode cX1_isLike 31 = .ok (.if_icmp .ge 66, 3) := by decide +kernel
theorem dX1_isLike_34 : decode cX1_isLike 34 = .ok (.aload_n 0, 1) := by decide +kernel
theorem dX1_isLike_35 : decode cX1_isLike 35 = .ok (.invokevirtual 30, 3) := by decide +kernel
theorem dX1_isLike_38 : decode cX1_isLike 38 = .ok (.ifCond .eq 26, 3) := by decide +kernel
theorem dX1_isLike_41 : decode cX1_isLike 41 = .ok (.aload_n 0, 1) := by decide +kernel
theorem dX1_isLike_42 : decode cX1_isLike 42 = .ok (.getfield 18, 3) := by decide +kernel
theorem dX1_isLike_45 : decode cX1_isLike 45 = .ok (.iload_n 2, 1) := by decide +kernel
theorem dX1_isLike_46 : decode cX1_isLike 46 = .ok (.iaload, 1) := by decide +kernel
theorem dX1_isLike_47 : decode cX1_isLike 47 = .ok (.aload_n 1, 1) := by decide +kernel
theorem dX1_isLike_48 : decode cX1_isLike 48 = .ok (.getfield 18, 3) := by decide +kernel
theorem dX1_isLike_51 : decode cX1_isLike 51 = .ok (.iload_n 2, 1) := by decide +kernel
theorem dX1_isLike_52 : decode cX1_isLike 52 = .ok (.iaload, 1) := by decide +kernel
theorem dX1_isLike_53 : decode cX1_isLike 53 = .ok (.if_icmp .eq 7, 3) := by decide +kernel
theorem dX1_isLike_56 : decode cX1_isLike 56 = .ok (.iconst 1, 1) := by decide +kernel
theorem dX1_isLike_57 : decode cX1_isLike 57 = .ok (.goto 27, 3) := by decide +kernel
theorem dX1_isLike_60 : decode cX1_isLike 60 = .ok (.iconst 0, 1) := by decide +kernel
theorem dX1_isLike_61 : decode cX1_isLike 61 = .ok (.goto 23, 3) := by decide +kernel
theorem dX1_isLike_64 : decode cX1_isLike 64 = .ok (.aload_n 0, 1) := by decide +kernel
theorem dX1_isLike_65 : decode cX1_isLike 65 = .ok (.getfield 22, 3) := by decide +kernel
theorem dX1_isLike_68 : decode cX1_isLike 68 = .ok (.iload_n 2, 1) := by decide +kernel
theorem dX1_isLike_69 : decode cX1_isLike 69 = .ok (.aaload, 1) := by decide +kernel
theorem dX1_isLike_70 : decode cX1_isLike 70 = .ok (.aload_n 1, 1) := by decide +kernel
theorem dX1_isLike_71 : decode cX1_isLike 71 = .ok (.getfield 22, 3) := by decide +kernel
theorem dX1_isLike_74 : decode cX1_isLike 74 = .ok (.iload_n 2, 1) := by decide +kernel
theorem dX1_isLike_75 : decode cX1_isLike 75 = .ok (.aaload, 1) := by decide +kernel
theorem dX1_isLike_76 : decode cX1_isLike 76 = .ok (.if_acmp .eq 7, 3) := by decide +kernel
theorem dX1_isLike_79 : decode cX1_isLike 79 = .ok (.iconst 1, 1) := by decide +kernel
theorem dX1_isLike_80 : decode cX1_isLike 80 = .ok (.goto 4, 3) := by decide +kernel
theorem dX1_isLike_83 : decode cX1_isLike 83 = .ok (.iconst 0, 1) := by decide +kernel
theorem dX1_isLike_84 : decode cX1_isLike 84 = .ok (.istore_n 3, 1) := by decide +kernel
theorem dX1_isLike_85 : decode cX1_isLike 85 = .ok (.iload_n 3, 1) := by decide +kernel
theorem dX1_isLike_86 : decode cX1_isLike 86 = .ok (.ifCond .eq 5, 3) := by decide +kernel
theorem dX1_isLike_89 : decode cX1_isLike 89 = .ok (.iconst 0, 1) := by decide +kernel
theorem dX1_isLike_90 : decode cX1_isLike 90 = .ok (.ireturn, 1) := by decide +kernel
theorem dX1_isLike_91 : decode cX1_isLike 91 = .ok (.iinc 2 1, 3) := by decide +kernel
theorem dX1_isLike_94 : decode cX1_isLike 94 = .ok (.goto (-68), 3) := by decide +kernel
theorem dX1_isLike_97 : decode cX1_isLike 97 = .ok (.iconst 1, 1) := by decide +kernel
theorem dX1_isLike_98 : decode cX1_isLike 98 = .ok (.ireturn, 1) := by decide +kernel
theorem dX1_order_0 : decode cX1_order 0 = .ok (.iconst 0, 1) := by decide +kernel
theorem dX1_order_1 : decode cX1_order 1 = .ok (.istore_n 2, 1) := by decide +kernel
theorem dX1_order_2 : decode cX1_order 2 = .ok (.iload_n 2, 1) := by decide +kernel
theorem dX1_order_3 : decode cX1_order 3 = .ok (.aload_n 0, 1) := by decide +kernel
theorem dX1_order_4 : decode cX1_order 4 = .ok (.getfield 18, 3) := by decide +kernel
theorem dX1_order_7 : decode cX1_order 7 = .ok (.arraylength, 1) := by decide +kernel
theorem dX1_order_8 : decode cX1_order 8 = .ok (.if_icmp .ge 54, 3) := by decide +kernel
theorem dX1_order_11 : decode cX1_order 11 = .ok (.iload_n 2, 1) := by decide +kernel
theorem dX1_order_12 : decode cX1_order 12 = .ok (.aload_n 1, 1) := by decide +kernel
theorem dX1_order_13 : decode cX1_order 13 = .ok (.getfield 18, 3) := by decide +kernel
theorem dX1_order_16 : decode cX1_order 16 = .ok (.arraylength, 1) := by decide +kernel
theorem dX1_order_17 : decode cX1_order 17 = .ok (.if_icmp .ge 45, 3) := by decide +kernel
theorem dX1_order_20 : decode cX1_order 20 = .ok (.aload_n 0, 1) := by decide +kernel
theorem dX1_order_21 : decode cX1_order 21 = .ok (.getfield 18, 3) := by decide +kernel
theorem dX1_order_24 : decode cX1_order 24 = .ok (.iload_n 2, 1) := by decide +kernel
theorem dX1_order_25 : decode cX1_order 25 = .ok (.iaload, 1) := by decide +kernel
theorem dX1_order_26 : decode cX1_order 26 = .ok (.aload_n 1, 1) := by decide +kernel
theorem dX1_order_27 : decode cX1_order 27 = .ok (.getfield 18, 3) := by decide +kernel
theorem dX1_order_30 : decode cX1_order 30 = .ok (.iload_n 2, 1) := by decide +kernel
theorem dX1_order_31 : decode cX1_order 31 = .ok (.iaload, 1) := by decide +kernel
theorem dX1_order_32 : decode cX1_order 32 = .ok (.if_icmp .eq 24, 3) := by decide +kernel
theorem dX1_order_35 : decode cX1_order 35 = .ok (.aload_n 0, 1) := by decide +kernel
theorem dX1_order_36 : decode cX1_order 36 = .ok (.getfield 18, 3) := by decide +kernel
theorem dX1_order_39 : decode cX1_order 39 = .ok (.iload_n 2, 1) := by decide +kernel
theorem dX1_order_40 : decode cX1_order 40 = .ok (.iaload, 1) := by decide +kernel
theorem dX1_order_41 : decode cX1_order 41 = .ok (.aload_n 1, 1) := by decide +kernel
theorem dX1_order_42 : decode cX1_order 42 = .ok (.getfield 18, 3) := by decide +kernel
theorem dX1_order_45 : decode cX1_order 45 = .ok (.iload_n 2, 1) := by decide +kernel
theorem dX1_order_46 : decode cX1_order 46 = .ok (.iaload, 1) := by decide +kernel
theorem dX1_order_47 : decode cX1_order 47 = .ok (.if_icmp .ge 7, 3) := by decide +kernel
theorem dX1_order_50 : decode cX1_order 50 = .ok (.iconst (-1), 1) := by decide +kernel
theorem dX1_order_51 : decode cX1_order 51 = .ok (.goto 4, 3) := by decide +kernel
theorem dX1_order_54 : decode cX1_order 54 = .ok (.iconst 1, 1) := by decide +kernel
theorem dX1_order_55 : decode cX1_order 55 = .ok (.ireturn, 1) := by decide +kernel
theorem dX1_order_56 : decode cX1_order 56 = .ok (.iinc 2 1, 3) := by decide +kernel
theorem dX1_order_59 : decode cX1_order 59 = .ok (.goto (-57), 3) := by decide +kernel
theorem dX1_order_62 : decode cX1_order 62 = .ok (.aload_n 0, 1) := by decide +kernel
theorem dX1_order_63 : decode cX1_order 63 = .ok (.getfield 15, 3) := by decide +kernel
theorem dX1_order_66 : decode cX1_order 66 = .ok (.aload_n 1, 1) := by decide +kernel
theorem dX1_order_67 : decode cX1_order 67 = .ok (.getfield 15, 3) := by decide +kernel
theorem dX1_order_70 : decode cX1_order 70 = .ok (.if_icmp .ne 5, 3) := by decide +kernel
theorem dX1_order_73 : decode cX1_order 73 = .ok (.iconst 0, 1) := by decide +kernel
theorem dX1_order_74 : decode cX1_order 74 = .ok (.ireturn, 1) := by decide +kernel
theorem dX1_order_75 : decode cX1_order 75 = .ok (.aload_n 0, 1) := by decide +kernel
theorem dX1_order_76 : decode cX1_order 76 = .ok (.getfield 15, 3) := by decide +kernel
theorem dX1_order_79 : decode cX1_order 79 = .ok (.aload_n 1, 1) := by decide +kernel
theorem dX1_order_80 : decode cX1_order 80 = .ok (.getfield 15, 3) := by decide +kernel
theorem dX1_order_83 : decode cX1_order 83 = .ok (.if_icmp .ge 7, 3) := by decide +kernel
theorem dX1_order_86 : decode cX1_order 86 = .ok (.iconst (-1), 1) := by decide +kernel
theorem dX1_order_87 : decode cX1_order 87 = .ok (.goto 4, 3) := by decide +kernel
theorem dX1_order_90 : decode cX1_order 90 = .ok (.iconst 1, 1) := by decide +kernel
theorem dX1_order_91 : decode cX1_order 91 = .ok (.ireturn, 1) := by decide +kernel
theorem dX1_countOf_0 : decode cX1_countOf 0 = .ok (.iconst 0, 1) := by decide +kernel
theorem dX1_countOf_1 : decode cX1_countOf 1 = .ok (.istore_n 2, 1) := by decide +kernel
theorem dX1_countOf_2 : decode cX1_countOf 2 = .ok (.iconst 0, 1) := by decide +kernel
theorem dX1_countOf_3 : decode cX1_countOf 3 = .ok (.istore_n 3, 1) := by decide +kernel
theorem dX1_countOf_4 : decode cX1_countOf 4 = .ok (.iload_n 3, 1) := by decide +kernel
theorem dX1_countOf_5 : decode cX1_countOf 5 = .ok (.aload_n 0, 1) := by decide +kernel
theorem dX1_countOf_6 : decode cX1_countOf 6 = .ok (.getfield 22, 3) := by decide +kernel
theorem dX1_countOf_9 : decode cX1_countOf 9 = .ok (.arraylength, 1) := by decide +kernel
theorem dX1_countOf_10 : decode cX1_countOf 10 = .ok (.if_icmp .ge 22, 3) := by decide +kernel
theorem dX1_countOf_13 : decode cX1_countOf 13 = .ok (.aload_n 0, 1) := by decide +kernel
theorem dX1_countOf_14 : decode cX1_countOf 14 = .ok (.getfield 22, 3) := by decide +kernel
theorem dX1_countOf_17 : decode cX1_countOf 17 = .ok (.iload_n 3, 1) := by decide +kernel
theorem dX1_countOf_18 : decode cX1_countOf 18 = .ok (.aaload, 1) := by decide +kernel
theorem dX1_countOf_19 : decode cX1_countOf 19 = .ok (.aload_n 1, 1) := by decide +kernel
theorem dX1_countOf_20 : decode cX1_countOf 20 = .ok (.if_acmp .ne 6, 3) := by decide +kernel
theorem dX1_countOf_23 : decode cX1_countOf 23 = .ok (.iinc 2 1, 3) := by decide +kernel
theorem dX1_countOf_26 : decode cX1_countOf 26 = .ok (.iinc 3 1, 3) := by decide +kernel
theorem dX1_countOf_29 : decode cX1_countOf 29 = .ok (.goto (-25), 3) := by decide +kernel
theorem dX1_countOf_32 : decode cX1_countOf 32 = .ok (.iload_n 2, 1) := by decide +kernel
theorem dX1_countOf_33 : decode cX1_countOf 33 = .ok (.ireturn, 1) := by decide +kernel
set_option maxRecDepth 20000 in
theorem ggX2_init_X0_init : GoodIn wsX2_init wsX0_init := goodIn_r _ [5, 6, 7, 8] (by decide +kernel) (by decide +kernel)
set_option maxRecDepth 20000 in
theorem gX2_init_X0_init_n3 : GoodIn wsX2_init (wsX0_init) := ggX2_init_X0_init
theorem dX2_init_0 : decode cX2_init 0 = .ok (.aload_n 0, 1) := by decide +kernel
theorem dX2_init_1 : decode cX2_init 1 = .ok (.invokespecial 3, 3) := by decide +kernel
theorem dX2_init_4 : decode cX2_init 4 = .ok (.aload_n 0, 1) := by decide +kernel
theorem dX2_init_5 : decode cX2_init 5 = .ok (.iload_n 1, 1) := by decide +kernel
theorem dX2_init_6 : decode cX2_init 6 = .ok (.putfield 9, 3) := by decide +kernel
theorem dX2_init_9 : decode cX2_init 9 = .ok (.aload_n 0, 1) := by decide +kernel
theorem dX2_init_10 : decode cX2_init 10 = .ok (.iload_n 2, 1) := by decide +kernel
theorem dX2_init_11 : decode cX2_init 11 = .ok (.putfield 15, 3) := by decide +kernel
theorem dX2_init_14 : decode cX2_init 14 = .ok (.return_, 1) := by decide +kernel
theorem dX2_fitsInto_0 : decode cX2_fitsInto 0 = .ok (.iload_n 1, 1) := by decide +kernel
theorem dX2_fitsInto_1 : decode cX2_fitsInto 1 = .ok (.iconst 3, 1) := by decide +kernel
theorem dX2_fitsInto_2 : decode cX2_fitsInto 2 = .ok (.if_icmp .eq 29, 3) := by decide +kernel
theorem dX2_fitsInto_5 : decode cX2_fitsInto 5 = .ok (.iload_n 1, 1) := by decide +kernel
theorem dX2_fitsInto_6 : decode cX2_fitsInto 6 = .ok (.iconst 4, 1) := by decide +kernel
theorem dX2_fitsInto_7 : decode cX2_fitsInto 7 = .ok (.if_icmp .ne 11, 3) := by decide +kernel
theorem dX2_fitsInto_10 : decode cX2_fitsInto 10 = .ok (.aload_n 0, 1) := by decide +kernel
theorem dX2_fitsInto_11 : decode cX2_fitsInto 11 = .ok (.getfield 9, 3) := by decide +kernel
theorem dX2_fitsInto_14 : decode cX2_fitsInto 14 = .ok (.iconst 1, 1) := by decide +kernel
theorem dX2_fitsInto_15 : decode cX2_fitsInto 15 = .ok (.if_icmp .eq 16, 3) := by decide +kernel
theorem dX2_fitsInto_18 : decode cX2_fitsInto 18 = .ok (.iload_n 1, 1) := by decide +kernel
theorem dX2_fitsInto_19 : decode cX2_fitsInto 19 = .ok (.iconst 5, 1) := by decide +kernel
theorem dX2_fitsInto_20 : decode cX2_fitsInto 20 = .ok (.if_icmp .ne 15, 3) := by decide +kernel
theorem dX2_fitsInto_23 : decode cX2_fitsInto 23 = .ok (.aload_n 0, 1) := by decide +kernel
theorem dX2_fitsInto_24 : decode cX2_fitsInto 24 = .ok (.getfield 9, 3) := by decide +kernel
theorem dX2_fitsInto_27 : decode cX2_fitsInto 27 = .ok (.iconst 2, 1) := by decide +kernel
theorem dX2_fitsInto_28 : decode cX2_fitsInto 28 = .ok (.if_icmp .ne 7, 3) := by decide +kernel
theorem dX2_fitsInto_31 : decode cX2_fitsInto 31 = .ok (.iconst 1, 1) := by decide +kernel
theorem dX2_fitsInto_32 : decode cX2_fitsInto 32 = .ok (.goto 4, 3) := by decide +kernel
theorem dX2_fitsInto_35 : decode cX2_fitsInto 35 = .ok (.iconst 0, 1) := by decide +kernel
theorem dX2_fitsInto_36 : decode cX2_fitsInto 36 = .ok (.ireturn, 1) := by decide +kernel
theorem dX2_shown_0 : decode cX2_shown 0 = .ok (.aload_n 0, 1) := by decide +kernel
theorem dX2_shown_1 : decode cX2_shown 1 = .ok (.getfield 15, 3) := by decide +kernel
theorem dX2_shown_4 : decode cX2_shown 4 = .ok (.ireturn, 1) := by decide +kernel
theorem dX3_init_0 : decode cX3_init 0 = .ok (.aload_n 0, 1) := by decide +kernel
theorem dX3_init_1 : decode cX3_init 1 = .ok (.invokespecial 3, 3) := by decide +kernel
theorem dX3_init_4 : decode cX3_init 4 = .ok (.aload_n 0, 1) := by decide +kernel
theorem dX3_init_5 : decode cX3_init 5 = .ok (.bipush 12, 2) := by decide +kernel
theorem dX3_init_7 : decode cX3_init 7 = .ok (.anewarray 9, 3) := by decide +kernel
theorem dX3_init_10 : decode cX3_init 10 = .ok (.putfield 11, 3) := by decide +kernel
theorem dX3_init_13 : decode cX3_init 13 = .ok (.aload_n 0, 1) := by decide +kernel
theorem dX3_init_14 : decode cX3_init 14 = .ok (.iconst 0, 1) := by decide +kernel
theorem dX3_init_15 : decode cX3_init 15 = .ok (.putfield 15, 3) := by decide +kernel
theorem dX3_init_18 : decode cX3_init 18 = .ok (.return_, 1) := by decide +kernel
theorem dX3_code_0 : decode cX3_code 0 = .ok (.aload_n 0, 1) := by decide +kernel
theorem dX3_code_1 : decode cX3_code 1 = .ok (.getfield 15, 3) := by decide +kernel
theorem dX3_code_4 : decode cX3_code 4 = .ok (.ireturn, 1) := by decide +kernel
set_option maxRecDepth 20000 in
theorem ggX3_make_X3_isOutside : GoodIn wsX3_make wsX3_isOutside := goodIn_r _ [8] (by decide +kernel) (by decide +kernel)
set_option maxRecDepth 20000 in
theorem gX3_make_X3_isOutside : GoodIn wsX3_make (va_wsS RX3 19 yX3_isOutside wsX3_isOutside) := goodIn_app (goodIn_of _ (by decide +kernel)) ggX3_make_X3_isOutside
set_option maxRecDepth 20000 in
theorem ggX3_make_X3_fail : GoodIn wsX3_make wsX3_fail := goodIn_r _ [12, 13, 39, 40] (by decide +kernel) (by decide +kernel)
set_option maxRecDepth 20000 in
theorem gX3_make_X3_fail : GoodIn wsX3_make (wsV RX3 24 RX3 yX3_fail wsX3_fail) := goodIn_app (goodIn_of _ (by decide +kernel)) ggX3_make_X3_fail
set_option maxRecDepth 20000 in
theorem ggX3_make_X1_init : GoodIn wsX3_make wsX1_init := goodIn_r _ [16, 17, 18, 19, 20, 21, 22, 23, 24, 25, 26, 27, 28, 35, 36, 37, 38] (by decide +kernel) (by decide +kernel)
set_option maxRecDepth 20000 in
theorem gX3_make_X1_init : GoodIn wsX3_make (wsX1_init) := ggX3_make_X1_init
set_option maxRecDepth 20000 in
theorem ggX3_make_X3_put : GoodIn wsX3_make wsX3_put := goodIn_r _ [32, 33, 13, 34, 39, 40, 35, 36, 37, 38] (by decide +kernel) (by decide +kernel)
set_option maxRecDepth 20000 in
theorem gX3_make_X3_put : GoodIn wsX3_make (wsV RX3 31 RX3 yX3_put wsX3_put) := goodIn_app (goodIn_of _ (by decide +kernel)) ggX3_make_X3_put
theorem dX3_make_0 : decode cX3_make 0 = .ok (.iload_n 1, 1) := by decide +kernel
theorem dX3_make_1 : decode cX3_make 1 = .ok (.invokestatic 19, 3) := by decide +kernel
theorem dX3_make_4 : decode cX3_make 4 = .ok (.ifCond .ne 18, 3) := by decide +kernel
theorem dX3_make_7 : decode cX3_make 7 = .ok (.iload_n 2, 1) := by decide +kernel
theorem dX3_make_8 : decode cX3_make 8 = .ok (.ifCond .lt 14, 3) := by decide +kernel
theorem dX3_make_11 : decode cX3_make 11 = .ok (.iload_n 2, 1) := by decide +kernel
theorem dX3_make_12 : decode cX3_make 12 = .ok (.iconst 5, 1) := by decide +kernel
theorem dX3_make_13 : decode cX3_make 13 = .ok (.if_icmp .gt 9, 3) := by decide +kernel
theorem dX3_make_16 : decode cX3_make 16 = .ok (.iload_n 3, 1) := by decide +kernel
theorem dX3_make_17 : decode cX3_make 17 = .ok (.bipush 40, 2) := by decide +kernel
theorem dX3_make_19 : decode cX3_make 19 = .ok (.if_icmp .le 6, 3) := by decide +kernel
theorem dX3_make_22 : decode cX3_make 22 = .ok (.ldc 23, 2) := by decide +kernel
theorem dX3_make_24 : decode cX3_make 24 = .ok (.ireturn, 1) := by decide +kernel
theorem dX3_make_25 : decode cX3_make 25 = .ok (.iload_n 3, 1) := by decide +kernel
theorem dX3_make_26 : decode cX3_make 26 = .ok (.ifCond .ge 9, 3) := by decide +kernel
theorem dX3_make_29 : decode cX3_make 29 = .ok (.aload_n 0, 1) := by decide +kernel
theorem dX3_make_30 : decode cX3_make 30 = .ok (.iconst 4, 1) := by decide +kernel
theorem dX3_make_31 : decode cX3_make 31 = .ok (.invokevirtual 24, 3) := by decide +kernel
theorem dX3_make_34 : decode cX3_make 34 = .ok (.ireturn, 1) := by decide +kernel
theorem dX3_make_35 : decode cX3_make 35 = .ok (.aload_n 0, 1) := by decide +kernel
theorem dX3_make_36 : decode cX3_make 36 = .ok (.iload_n 1, 1) := by decide +kernel
theorem dX3_make_37 : decode cX3_make 37 = .ok (.new 9, 3) := by decide +kernel
theorem dX3_make_40 : decode cX3_make 40 = .ok (.dup, 1) := by decide +kernel
theorem dX3_make_41 : decode cX3_make 41 = .ok (.iload_n 2, 1) := by decide +kernel
theorem dX3_make_42 : decode cX3_make 42 = .ok (.iload_n 3, 1) := by decide +kernel
theorem dX3_make_43 : decode cX3_make 43 = .ok (.invokespecial 28, 3) := by decide +kernel
theorem dX3_make_46 : decode cX3_make 46 = .ok (.invokevirtual 31, 3) := by decide +kernel
theorem dX3_make_49 : decode cX3_make 49 = .ok (.ireturn, 1) := by decide +kernel
set_option maxRecDepth 20000 in
theorem ggX3_share_X3_isOutside : GoodIn wsX3_share wsX3_isOutside := goodIn_r _ [6] (by decide +kernel) (by decide +kernel)
set_option maxRecDepth 20000 in
theorem gX3_share_X3_isOutside : GoodIn wsX3_share (va_wsS RX3 19 yX3_isOutside wsX3_isOutside) := goodIn_app (goodIn_of _ (by decide +kernel)) ggX3_share_X3_isOutside
set_option maxRecDepth 20000 in
theorem ggX3_share_X3_kindOf : GoodIn wsX3_share wsX3_kindOf := goodIn_r _ [9, 10, 13, 14, 15, 16] (by decide +kernel) (by decide +kernel)
set_option maxRecDepth 20000 in
theorem gX3_share_X3_kindOf : GoodIn wsX3_share (va_wsS RX3 35 yX3_kindOf wsX3_kindOf) := goodIn_app (goodIn_of _ (by decide +kernel)) ggX3_share_X3_kindOf
theorem dX3_share_0 : decode cX3_share 0 = .ok (.iload_n 1, 1) := by decide +kernel
theorem dX3_share_1 : decode cX3_share 1 = .ok (.invokestatic 19, 3) := by decide +kernel
theorem dX3_share_4 : decode cX3_share 4 = .ok (.ifCond .ne 10, 3) := by decide +kernel
theorem dX3_share_7 : decode cX3_share 7 = .ok (.iload_n 2, 1) := by decide +kernel
theorem dX3_share_8 : decode cX3_share 8 = .ok (.invokestatic 19, 3) := by decide +kernel
theorem dX3_share_11 : decode cX3_share 11 = .ok (.ifCond .eq 6, 3) := by decide +kernel
theorem dX3_share_14 : decode cX3_share 14 = .ok (.ldc 23, 2) := by decide +kernel
theorem dX3_share_16 : decode cX3_share 16 = .ok (.ireturn, 1) := by decide +kernel
theorem dX3_share_17 : decode cX3_share 17 = .ok (.aload_n 0, 1) := by decide +kernel
theorem dX3_share_18 : decode cX3_share 18 = .ok (.getfield 11, 3) := by decide +kernel
theorem dX3_share_21 : decode cX3_share 21 = .ok (.iload_n 1, 1) := by decide +kernel
theorem dX3_share_22 : decode cX3_share 22 = .ok (.aload_n 0, 1) := by decide +kernel
theorem dX3_share_23 : decode cX3_share 23 = .ok (.getfield 11, 3) := by decide +kernel
theorem dX3_share_26 : decode cX3_share 26 = .ok (.iload_n 2, 1) := by decide +kernel
theorem dX3_share_27 : decode cX3_share 27 = .ok (.aaload, 1) := by decide +kernel
theorem dX3_share_28 : decode cX3_share 28 = .ok (.aastore, 1) := by decide +kernel
theorem dX3_share_29 : decode cX3_share 29 = .ok (.aload_n 0, 1) := by decide +kernel
theorem dX3_share_30 : decode cX3_share 30 = .ok (.getfield 11, 3) := by decide +kernel
theorem dX3_share_33 : decode cX3_share 33 = .ok (.iload_n 1, 1) := by decide +kernel
theorem dX3_share_34 : decode cX3_share 34 = .ok (.aaload, 1) := by decide +kernel
theorem dX3_share_35 : decode cX3_share 35 = .ok (.invokestatic 35, 3) := by decide +kernel
theorem dX3_share_38 : decode cX3_share 38 = .ok (.ireturn, 1) := by decide +kernel
set_option maxRecDepth 20000 in
theorem ggX3_nothing_X3_isOutside : GoodIn wsX3_nothing wsX3_isOutside := goodIn_r _ [6] (by decide +kernel) (by decide +kernel)
set_option maxRecDepth 20000 in
theorem gX3_nothing_X3_isOutside : GoodIn wsX3_nothing (va_wsS RX3 19 yX3_isOutside wsX3_isOutside) := goodIn_app (goodIn_of _ (by decide +kernel)) ggX3_nothing_X3_isOutside
set_option maxRecDepth 20000 in
theorem ggX3_nothing_X3_kindOf : GoodIn wsX3_nothing wsX3_kindOf := goodIn_r _ [9, 10, 13, 14, 15, 16] (by decide +kernel) (by decide +kernel)
set_option maxRecDepth 20000 in
theorem gX3_nothing_X3_kindOf : GoodIn wsX3_nothing (va_wsS RX3 35 yX3_kindOf wsX3_kindOf) := goodIn_app (goodIn_of _ (by decide +kernel)) ggX3_nothing_X3_kindOf
theorem dX3_nothing_0 : decode cX3_nothing 0 = .ok (.iload_n 1, 1) := by decide +kernel
theorem dX3_nothing_1 : decode cX3_nothing 1 = .ok (.invokestatic 19, 3) := by decide +kernel
theorem dX3_nothing_4 : decode cX3_nothing 4 = .ok (.ifCond .eq 6, 3) := by decide +kernel
theorem dX3_nothing_7 : decode cX3_nothing 7 = .ok (.ldc 23, 2) := by decide +kernel
theorem dX3_nothing_9 : decode cX3_nothing 9 = .ok (.ireturn, 1) := by decide +kernel
theorem dX3_nothing_10 : decode cX3_nothing 10 = .ok (.aload_n 0, 1) := by decide +kernel
theorem dX3_nothing_11 : decode cX3_nothing 11 = .ok (.getfield 11, 3) := by decide +kernel
theorem dX3_nothing_14 : decode cX3_nothing 14 = .ok (.iload_n 1, 1) := by decide +kernel
theorem dX3_nothing_15 : decode cX3_nothing 15 = .ok (.aaload, 1) := by decide +kernel
theorem dX3_nothing_16 : decode cX3_nothing 16 = .ok (.invokestatic 35, 3) := by decide +kernel
theorem dX3_nothing_19 : decode cX3_nothing 19 = .ok (.istore_n 2, 1) := by decide +kernel
theorem dX3_nothing_20 : decode cX3_nothing 20 = .ok (.aload_n 0, 1) := by decide +kernel
theorem dX3_nothing_21 : decode cX3_nothing 21 = .ok (.getfield 11, 3) := by decide +kernel
theorem dX3_nothing_24 : decode cX3_nothing 24 = .ok (.iload_n 1, 1) := by decide +kernel
theorem dX3_nothing_25 : decode cX3_nothing 25 = .ok (.aconst_null, 1) := by decide +kernel
theorem dX3_nothing_26 : decode cX3_nothing 26 = .ok (.aastore, 1) := by decide +kernel
theorem dX3_nothing_27 : decode cX3_nothing 27 = .ok (.iload_n 2, 1) := by decide +kernel
theorem dX3_nothing_28 : decode cX3_nothing 28 = .ok (.ireturn, 1) := by decide +kernel
set_option maxRecDepth 20000 in
theorem ggX3_lump_X3_isOutside : GoodIn wsX3_lump wsX3_isOutside := goodIn_r _ [9] (by decide +kernel) (by decide +kernel)
set_option maxRecDepth 20000 in
theorem gX3_lump_X3_isOutside : GoodIn wsX3_lump (va_wsS RX3 19 yX3_isOutside wsX3_isOutside) := goodIn_app (goodIn_of _ (by decide +kernel)) ggX3_lump_X3_isOutside
set_option maxRecDepth 20000 in
theorem ggX3_lump_X1_init : GoodIn wsX3_lump wsX1_init := goodIn_r _ [12, 13, 14, 15, 16, 17, 18, 19, 20, 21, 22, 23, 24, 27, 28, 29, 30] (by decide +kernel) (by decide +kernel)
set_option maxRecDepth 20000 in
theorem gX3_lump_X1_init : GoodIn wsX3_lump (wsX1_init) := ggX3_lump_X1_init
theorem dX3_lump_0 : decode cX3_lump 0 = .ok (.iload_n 1, 1) := by decide +kernel
theorem dX3_lump_1 : decode cX3_lump 1 = .ok (.invokestatic 19, 3) := by decide +kernel
theorem dX3_lump_4 : decode cX3_lump 4 = .ok (.ifCond .eq 6, 3) := by decide +kernel
theorem dX3_lump_7 : decode cX3_lump 7 = .ok (.ldc 23, 2) := by decide +kernel
theorem dX3_lump_9 : decode cX3_lump 9 = .ok (.ireturn, 1) := by decide +kernel
theorem dX3_lump_10 : decode cX3_lump 10 = .ok (.aload_n 0, 1) := by decide +kernel
theorem dX3_lump_11 : decode cX3_lump 11 = .ok (.getfield 11, 3) := by decide +kernel
theorem dX3_lump_14 : decode cX3_lump 14 = .ok (.iload_n 1, 1) := by decide +kernel
theorem dX3_lump_15 : decode cX3_lump 15 = .ok (.new 9, 3) := by decide +kernel
theorem dX3_lump_18 : decode cX3_lump 18 = .ok (.dup, 1) := by decide +kernel
theorem dX3_lump_19 : decode cX3_lump 19 = .ok (.bipush 6, 2) := by decide +kernel
theorem dX3_lump_21 : decode cX3_lump 21 = .ok (.iconst 0, 1) := by decide +kernel
theorem dX3_lump_22 : decode cX3_lump 22 = .ok (.invokespecial 28, 3) := by decide +kernel
theorem dX3_lump_25 : decode cX3_lump 25 = .ok (.aastore, 1) := by decide +kernel
theorem dX3_lump_26 : decode cX3_lump 26 = .ok (.iconst 1, 1) := by decide +kernel
theorem dX3_lump_27 : decode cX3_lump 27 = .ok (.ireturn, 1) := by decide +kernel
set_option maxRecDepth 20000 in
theorem ggX3_kind_X3_isOutside : GoodIn wsX3_kind wsX3_isOutside := goodIn_r _ [6] (by decide +kernel) (by decide +kernel)
set_option maxRecDepth 20000 in
theorem gX3_kind_X3_isOutside : GoodIn wsX3_kind (va_wsS RX3 19 yX3_isOutside wsX3_isOutside) := goodIn_app (goodIn_of _ (by decide +kernel)) ggX3_kind_X3_isOutside
set_option maxRecDepth 20000 in
theorem ggX3_kind_X3_kindOf : GoodIn wsX3_kind wsX3_kindOf := goodIn_r _ [9, 10, 13, 14, 15, 16] (by decide +kernel) (by decide +kernel)
set_option maxRecDepth 20000 in
theorem gX3_kind_X3_kindOf : GoodIn wsX3_kind (va_wsS RX3 35 yX3_kindOf wsX3_kindOf) := goodIn_app (goodIn_of _ (by decide +kernel)) ggX3_kind_X3_kindOf
theorem dX3_kind_0 : decode cX3_kind 0 = .ok (.iload_n 1, 1) := by decide +kernel
theorem dX3_kind_1 : decode cX3_kind 1 = .ok (.invokestatic 19, 3) := by decide +kernel
theorem dX3_kind_4 : decode cX3_kind 4 = .ok (.ifCond .eq 8, 3) := by decide +kernel
theorem dX3_kind_7 : decode cX3_kind 7 = .ok (.ldc 23, 2) := by decide +kernel
theorem dX3_kind_9 : decode cX3_kind 9 = .ok (.goto 12, 3) := by decide +kernel
theorem dX3_kind_12 : decode cX3_kind 12 = .ok (.aload_n 0, 1) := by decide +kernel
theorem dX3_kind_13 : decode cX3_kind 13 = .ok (.getfield 11, 3) := by decide +kernel
theorem dX3_kind_16 : decode cX3_kind 16 = .ok (.iload_n 1, 1) := by decide +kernel
theorem dX3_kind_17 : decode cX3_kind 17 = .ok (.aaload, 1) := by decide +kernel
theorem dX3_kind_18 : decode cX3_kind 18 = .ok (.invokestatic 35, 3) := by decide +kernel
theorem dX3_kind_21 : decode cX3_kind 21 = .ok (.ireturn, 1) := by decide +kernel
set_option maxRecDepth 20000 in
theorem ggX3_length_X3_isOutside : GoodIn wsX3_length wsX3_isOutside := goodIn_r _ [6] (by decide +kernel) (by decide +kernel)
set_option maxRecDepth 20000 in
theorem gX3_length_X3_isOutside : GoodIn wsX3_length (va_wsS RX3 19 yX3_isOutside wsX3_isOutside) := goodIn_app (goodIn_of _ (by decide +kernel)) ggX3_length_X3_isOutside
set_option maxRecDepth 20000 in
theorem ggX3_length_X3_rowOf : GoodIn wsX3_length wsX3_rowOf := goodIn_r _ [10, 11, 12, 13, 18, 19, 14, 15, 16, 17] (by decide +kernel) (by decide +kernel)
set_option maxRecDepth 20000 in
theorem gX3_length_X3_rowOf : GoodIn wsX3_length (wsV RX3 39 RX3 yX3_rowOf wsX3_rowOf) := goodIn_app (goodIn_of _ (by decide +kernel)) ggX3_length_X3_rowOf
theorem dX3_length_0 : decode cX3_length 0 = .ok (.iload_n 1, 1) := by decide +kernel
theorem dX3_length_1 : decode cX3_length 1 = .ok (.invokestatic 19, 3) := by decide +kernel
theorem dX3_length_4 : decode cX3_length 4 = .ok (.ifCond .eq 6, 3) := by decide +kernel
theorem dX3_length_7 : decode cX3_length 7 = .ok (.ldc 23, 2) := by decide +kernel
theorem dX3_length_9 : decode cX3_length 9 = .ok (.ireturn, 1) := by decide +kernel
theorem dX3_length_10 : decode cX3_length 10 = .ok (.aload_n 0, 1) := by decide +kernel
theorem dX3_length_11 : decode cX3_length 11 = .ok (.iload_n 1, 1) := by decide +kernel
theorem dX3_length_12 : decode cX3_length 12 = .ok (.bipush 63, 2) := by decide +kernel
theorem dX3_length_14 : decode cX3_length 14 = .ok (.invokevirtual 39, 3) := by decide +kernel
theorem dX3_length_17 : decode cX3_length 17 = .ok (.astore_n 2, 1) := by decide +kernel
theorem dX3_length_18 : decode cX3_length 18 = .ok (.aload_n 2, 1) := by decide +kernel
theorem dX3_length_19 : decode cX3_length 19 = .ok (.ifnonnull 7, 3) := by decide +kernel
theorem dX3_length_22 : decode cX3_length 22 = .ok (.iconst 0, 1) := by decide +kernel
theorem dX3_length_23 : decode cX3_length 23 = .ok (.goto 7, 3) := by decide +kernel
theorem dX3_length_26 : decode cX3_length 26 = .ok (.aload_n 2, 1) := by decide +kernel
theorem dX3_length_27 : decode cX3_length 27 = .ok (.getfield 43, 3) := by decide +kernel
theorem dX3_length_30 : decode cX3_length 30 = .ok (.ireturn, 1) := by decide +kernel
set_option maxRecDepth 20000 in
theorem ggX3_set_X3_isOutside : GoodIn wsX3_set wsX3_isOutside := goodIn_r _ [7] (by decide +kernel) (by decide +kernel)
set_option maxRecDepth 20000 in
theorem gX3_set_X3_isOutside : GoodIn wsX3_set (va_wsS RX3 19 yX3_isOutside wsX3_isOutside) := goodIn_app (goodIn_of _ (by decide +kernel)) ggX3_set_X3_isOutside
set_option maxRecDepth 20000 in
theorem ggX3_set_X3_rowOf : GoodIn wsX3_set wsX3_rowOf := goodIn_r _ [11, 12, 13, 3, 28, 29, 24, 25, 26, 27] (by decide +kernel) (by decide +kernel)
set_option maxRecDepth 20000 in
theorem gX3_set_X3_rowOf : GoodIn wsX3_set (wsV RX3 39 RX3 yX3_rowOf wsX3_rowOf) := goodIn_app (goodIn_of _ (by decide +kernel)) ggX3_set_X3_rowOf
set_option maxRecDepth 20000 in
theorem ggX3_set_X1_has : GoodIn wsX3_set wsX1_has := goodIn_r _ [18, 19, 24, 25, 26, 27] (by decide +kernel) (by decide +kernel)
set_option maxRecDepth 20000 in
theorem gX3_set_X1_has : GoodIn wsX3_set (wsV RX3 46 RX1 yX1_has wsX1_has) := goodIn_app (goodIn_of _ (by decide +kernel)) ggX3_set_X1_has
set_option maxRecDepth 20000 in
theorem ggX3_set_X3_fail : GoodIn wsX3_set wsX3_fail := goodIn_r _ [23, 13, 28, 29] (by decide +kernel) (by decide +kernel)
set_option maxRecDepth 20000 in
theorem gX3_set_X3_fail : GoodIn wsX3_set (wsV RX3 24 RX3 yX3_fail wsX3_fail) := goodIn_app (goodIn_of _ (by decide +kernel)) ggX3_set_X3_fail
theorem dX3_set_0 : decode cX3_set 0 = .ok (.iload_n 1, 1) := by decide +kernel
theorem dX3_set_1 : decode cX3_set 1 = .ok (.invokestatic 19, 3) := by decide +kernel
theorem dX3_set_4 : decode cX3_set 4 = .ok (.ifCond .eq 6, 3) := by decide +kernel
theorem dX3_set_7 : decode cX3_set 7 = .ok (.ldc 23, 2) := by decide +kernel
theorem dX3_set_9 : decode cX3_set 9 = .ok (.ireturn, 1) := by decide +kernel
theorem dX3_set_10 : decode cX3_set 10 = .ok (.aload_n 0, 1) := by decide +kernel
theorem dX3_set_11 : decode cX3_set 11 = .ok (.iload_n 1, 1) := by decide +kernel
theorem dX3_set_12 : decode cX3_set 12 = .ok (.iconst 3, 1) := by decide +kernel
theorem dX3_set_13 : decode cX3_set 13 = .ok (.invokevirtual 39, 3) := by decide +kernel
theorem dX3_set_16 : decode cX3_set 16 = .ok (.astore 4, 2) := by decide +kernel
theorem dX3_set_18 : decode cX3_set 18 = .ok (.aload 4, 2) := by decide +kernel
theorem dX3_set_20 : decode cX3_set 20 = .ok (.ifnonnull 5, 3) := by decide +kernel
theorem dX3_set_23 : decode cX3_set 23 = .ok (.iconst 0, 1) := by decide +kernel
theorem dX3_set_24 : decode cX3_set 24 = .ok (.ireturn, 1) := by decide +kernel
theorem dX3_set_25 : decode cX3_set 25 = .ok (.aload 4, 2) := by decide +kernel
theorem dX3_set_27 : decode cX3_set 27 = .ok (.iload_n 2, 1) := by decide +kernel
theorem dX3_set_28 : decode cX3_set 28 = .ok (.invokevirtual 46, 3) := by decide +kernel
theorem dX3_set_31 : decode cX3_set 31 = .ok (.ifCond .ne 9, 3) := by decide +kernel
theorem dX3_set_34 : decode cX3_set 34 = .ok (.aload_n 0, 1) := by decide +kernel
theorem dX3_set_35 : decode cX3_set 35 = .ok (.iconst 3, 1) := by decide +kernel
theorem dX3_set_36 : decode cX3_set 36 = .ok (.invokevirtual 24, 3) := by decide +kernel
theorem dX3_set_39 : decode cX3_set 39 = .ok (.ireturn, 1) := by decide +kernel
theorem dX3_set_40 : decode cX3_set 40 = .ok (.aload 4, 2) := by decide +kernel
theorem dX3_set_42 : decode cX3_set 42 = .ok (.getfield 49, 3) := by decide +kernel
theorem dX3_set_45 : decode cX3_set 45 = .ok (.iload_n 2, 1) := by decide +kernel
theorem dX3_set_46 : decode cX3_set 46 = .ok (.iaload, 1) := by decide +kernel
theorem dX3_set_47 : decode cX3_set 47 = .ok (.istore 5, 2) := by decide +kernel
theorem dX3_set_49 : decode cX3_set 49 = .ok (.aload 4, 2) := by decide +kernel
theorem dX3_set_51 : decode cX3_set 51 = .ok (.getfield 49, 3) := by decide +kernel
theorem dX3_set_54 : decode cX3_set 54 = .ok (.iload_n 2, 1) := by decide +kernel
theorem dX3_set_55 : decode cX3_set 55 = .ok (.aload 4, 2) := by decide +kernel
theorem dX3_set_57 : decode cX3_set 57 = .ok (.getfield 53, 3) := by decide +kernel
theorem dX3_set_60 : decode cX3_set 60 = .ok (.ifCond .ne 8, 3) := by decide +kernel
theorem dX3_set_63 : decode cX3_set 63 = .ok (.iload_n 3, 1) := by decide +kernel
theorem dX3_set_64 : decode cX3_set 64 = .ok (.i2b, 1) := by decide +kernel
theorem dX3_set_65 : decode cX3_set 65 = .ok (.goto 4, 3) := by decide +kernel
theorem dX3_set_68 : decode cX3_set 68 = .ok (.iload_n 3, 1) := by decide +kernel
theorem dX3_set_69 : decode cX3_set 69 = .ok (.iastore, 1) := by decide +kernel
theorem dX3_set_70 : decode cX3_set 70 = .ok (.iload 5, 2) := by decide +kernel
theorem dX3_set_72 : decode cX3_set 72 = .ok (.ireturn, 1) := by decide +kernel
set_option maxRecDepth 20000 in
theorem ggX3_thing_X3_isOutside : GoodIn wsX3_thing wsX3_isOutside := goodIn_r _ [9] (by decide +kernel) (by decide +kernel)
set_option maxRecDepth 20000 in
theorem gX3_thing_X3_isOutside : GoodIn wsX3_thing (va_wsS RX3 19 yX3_isOutside wsX3_isOutside) := goodIn_app (goodIn_of _ (by decide +kernel)) ggX3_thing_X3_isOutside
set_option maxRecDepth 20000 in
theorem ggX3_thing_X3_rowOf : GoodIn wsX3_thing wsX3_rowOf := goodIn_r _ [13, 14, 15, 16, 57, 58, 53, 54, 55, 56] (by decide +kernel) (by decide +kernel)
set_option maxRecDepth 20000 in
theorem gX3_thing_X3_rowOf : GoodIn wsX3_thing (wsV RX3 39 RX3 yX3_rowOf wsX3_rowOf) := goodIn_app (goodIn_of _ (by decide +kernel)) ggX3_thing_X3_rowOf
set_option maxRecDepth 20000 in
theorem ggX3_thing_X1_has : GoodIn wsX3_thing wsX1_has := goodIn_r _ [21, 22, 53, 54, 55, 56] (by decide +kernel) (by decide +kernel)
set_option maxRecDepth 20000 in
theorem gX3_thing_X1_has : GoodIn wsX3_thing (wsV RX3 46 RX1 yX1_has wsX1_has) := goodIn_app (goodIn_of _ (by decide +kernel)) ggX3_thing_X1_has
set_option maxRecDepth 20000 in
theorem ggX3_thing_X3_fail : GoodIn wsX3_thing wsX3_fail := goodIn_r _ [26, 15, 57, 58] (by decide +kernel) (by decide +kernel)
set_option maxRecDepth 20000 in
theorem gX3_thing_X3_fail : GoodIn wsX3_thing (wsV RX3 24 RX3 yX3_fail wsX3_fail) := goodIn_app (goodIn_of _ (by decide +kernel)) ggX3_thing_X3_fail
set_option maxRecDepth 20000 in
theorem ggX3_thing_X2_init : GoodIn wsX3_thing wsX2_init := goodIn_r _ [29, 30, 31, 32, 33, 34, 35, 36, 37, 51, 52] (by decide +kernel) (by decide +kernel)
set_option maxRecDepth 20000 in
theorem gX3_thing_X2_init : GoodIn wsX3_thing (wsX2_init) := ggX3_thing_X2_init
set_option maxRecDepth 20000 in
theorem ggX3_thing_X1_takes : GoodIn wsX3_thing wsX1_takes := goodIn_r _ [41, 42, 43, 44, 45, 46, 20, 47, 48, 49, 4, 50, 30, 53, 54, 55, 56, 51, 52] (by decide +kernel) (by decide +kernel)
set_option maxRecDepth 20000 in
theorem gX3_thing_X1_takes : GoodIn wsX3_thing (wsV RX3 59 RX1 yX1_takes wsX1_takes) := goodIn_app (goodIn_of _ (by decide +kernel)) ggX3_thing_X1_takes
theorem dX3_thing_0 : decode cX3_thing 0 = .ok (.iload_n 1, 1) := by decide +kernel
theorem dX3_thing_1 : decode cX3_thing 1 = .ok (.invokestatic 19, 3) := by decide +kernel
theorem dX3_thing_4 : decode cX3_thing 4 = .ok (.ifCond .ne 13, 3) := by decide +kernel
theorem dX3_thing_7 : decode cX3_thing 7 = .ok (.iload_n 3, 1) := by decide +kernel
theorem dX3_thing_8 : decode cX3_thing 8 = .ok (.iconst (-1), 1) := by decide +kernel
theorem dX3_thing_9 : decode cX3_thing 9 = .ok (.if_icmp .lt 8, 3) := by decide +kernel
theorem dX3_thing_12 : decode cX3_thing 12 = .ok (.iload_n 3, 1) := by decide +kernel
theorem dX3_thing_13 : decode cX3_thing 13 = .ok (.iconst 2, 1) := by decide +kernel
theorem dX3_thing_14 : decode cX3_thing 14 = .ok (.if_icmp .le 6, 3) := by decide +kernel
theorem dX3_thing_17 : decode cX3_thing 17 = .ok (.ldc 23, 2) := by decide +kernel
theorem dX3_thing_19 : decode cX3_thing 19 = .ok (.ireturn, 1) := by decide +kernel
theorem dX3_thing_20 : decode cX3_thing 20 = .ok (.aload_n 0, 1) := by decide +kernel
theorem dX3_thing_21 : decode cX3_thing 21 = .ok (.iload_n 1, 1) := by decide +kernel
theorem dX3_thing_22 : decode cX3_thing 22 = .ok (.bipush 56, 2) := by decide +kernel
theorem dX3_thing_24 : decode cX3_thing 24 = .ok (.invokevirtual 39, 3) := by decide +kernel
theorem dX3_thing_27 : decode cX3_thing 27 = .ok (.astore 5, 2) := by decide +kernel
theorem dX3_thing_29 : decode cX3_thing 29 = .ok (.aload 5, 2) := by decide +kernel
theorem dX3_thing_31 : decode cX3_thing 31 = .ok (.ifnonnull 5, 3) := by decide +kernel
theorem dX3_thing_34 : decode cX3_thing 34 = .ok (.iconst 0, 1) := by decide +kernel
theorem dX3_thing_35 : decode cX3_thing 35 = .ok (.ireturn, 1) := by decide +kernel
theorem dX3_thing_36 : decode cX3_thing 36 = .ok (.aload 5, 2) := by decide +kernel
theorem dX3_thing_38 : decode cX3_thing 38 = .ok (.iload_n 2, 1) := by decide +kernel
theorem dX3_thing_39 : decode cX3_thing 39 = .ok (.invokevirtual 46, 3) := by decide +kernel
theorem dX3_thing_42 : decode cX3_thing 42 = .ok (.ifCond .ne 9, 3) := by decide +kernel
theorem dX3_thing_45 : decode cX3_thing 45 = .ok (.aload_n 0, 1) := by decide +kernel
theorem dX3_thing_46 : decode cX3_thing 46 = .ok (.iconst 3, 1) := by decide +kernel
theorem dX3_thing_47 : decode cX3_thing 47 = .ok (.invokevirtual 24, 3) := by decide +kernel
theorem dX3_thing_50 : decode cX3_thing 50 = .ok (.ireturn, 1) := by decide +kernel
theorem dX3_thing_51 : decode cX3_thing 51 = .ok (.iload_n 3, 1) := by decide +kernel
theorem dX3_thing_52 : decode cX3_thing 52 = .ok (.iconst (-1), 1) := by decide +kernel
theorem dX3_thing_53 : decode cX3_thing 53 = .ok (.if_icmp .ne 7, 3) := by decide +kernel
theorem dX3_thing_56 : decode cX3_thing 56 = .ok (.aconst_null, 1) := by decide +kernel
theorem dX3_thing_57 : decode cX3_thing 57 = .ok (.goto 13, 3) := by decide +kernel
theorem dX3_thing_60 : decode cX3_thing 60 = .ok (.new 56, 3) := by decide +kernel
theorem dX3_thing_63 : decode cX3_thing 63 = .ok (.dup, 1) := by decide +kernel
theorem dX3_thing_64 : decode cX3_thing 64 = .ok (.iload_n 3, 1) := by decide +kernel
theorem dX3_thing_65 : decode cX3_thing 65 = .ok (.iload 4, 2) := by decide +kernel
theorem dX3_thing_67 : decode cX3_thing 67 = .ok (.invokespecial 58, 3) := by decide +kernel
theorem dX3_thing_70 : decode cX3_thing 70 = .ok (.astore 6, 2) := by decide +kernel
theorem dX3_thing_72 : decode cX3_thing 72 = .ok (.aload 5, 2) := by decide +kernel
theorem dX3_thing_74 : decode cX3_thing 74 = .ok (.aload 6, 2) := by decide +kernel
theorem dX3_thing_76 : decode cX3_thing 76 = .ok (.invokevirtual 59, 3) := by decide +kernel
theorem dX3_thing_79 : decode cX3_thing 79 = .ok (.ifCond .ne 9, 3) := by decide +kernel
theorem dX3_thing_82 : decode cX3_thing 82 = .ok (.aload_n 0, 1) := by decide +kernel
theorem dX3_thing_83 : decode cX3_thing 83 = .ok (.iconst 2, 1) := by decide +kernel
theorem dX3_thing_84 : decode cX3_thing 84 = .ok (.invokevirtual 24, 3) := by decide +kernel
theorem dX3_thing_87 : decode cX3_thing 87 = .ok (.ireturn, 1) := by decide +kernel
theorem dX3_thing_88 : decode cX3_thing 88 = .ok (.aload 5, 2) := by decide +kernel
theorem dX3_thing_90 : decode cX3_thing 90 = .ok (.getfield 63, 3) := by decide +kernel
theorem dX3_thing_93 : decode cX3_thing 93 = .ok (.iload_n 2, 1) := by decide +kernel
theorem dX3_thing_94 : decode cX3_thing 94 = .ok (.aload 6, 2) := by decide +kernel
theorem dX3_thing_96 : decode cX3_thing 96 = .ok (.aastore, 1) := by decide +kernel
theorem dX3_thing_97 : decode cX3_thing 97 = .ok (.iconst 1, 1) := by decide +kernel
theorem dX3_thing_98 : decode cX3_thing 98 = .ok (.ireturn, 1) := by decide +kernel
set_option maxRecDepth 20000 in
theorem ggX3_hang_X3_isOutside : GoodIn wsX3_hang wsX3_isOutside := goodIn_r _ [8] (by decide +kernel) (by decide +kernel)
set_option maxRecDepth 20000 in
theorem gX3_hang_X3_isOutside : GoodIn wsX3_hang (va_wsS RX3 19 yX3_isOutside wsX3_isOutside) := goodIn_app (goodIn_of _ (by decide +kernel)) ggX3_hang_X3_isOutside
set_option maxRecDepth 20000 in
theorem ggX3_hang_X3_rowOf : GoodIn wsX3_hang wsX3_rowOf := goodIn_r _ [12, 2, 13, 3, 24, 25, 26, 27, 28, 29] (by decide +kernel) (by decide +kernel)
set_option maxRecDepth 20000 in
theorem gX3_hang_X3_rowOf : GoodIn wsX3_hang (wsV RX3 39 RX3 yX3_rowOf wsX3_rowOf) := goodIn_app (goodIn_of _ (by decide +kernel)) ggX3_hang_X3_rowOf
set_option maxRecDepth 20000 in
theorem ggX3_hang_X3_fail : GoodIn wsX3_hang wsX3_fail := goodIn_r _ [17, 13, 24, 25] (by decide +kernel) (by decide +kernel)
set_option maxRecDepth 20000 in
theorem gX3_hang_X3_fail : GoodIn wsX3_hang (wsV RX3 24 RX3 yX3_fail wsX3_fail) := goodIn_app (goodIn_of _ (by decide +kernel)) ggX3_hang_X3_fail
set_option maxRecDepth 20000 in
theorem ggX3_hang_X1_has : GoodIn wsX3_hang wsX1_has := goodIn_r _ [22, 23, 26, 27, 28, 29] (by decide +kernel) (by decide +kernel)
set_option maxRecDepth 20000 in
theorem gX3_hang_X1_has : GoodIn wsX3_hang (wsV RX3 46 RX1 yX1_has wsX1_has) := goodIn_app (goodIn_of _ (by decide +kernel)) ggX3_hang_X1_has
theorem dX3_hang_0 : decode cX3_hang 0 = .ok (.iload_n 1, 1) := by decide +kernel
theorem dX3_hang_1 : decode cX3_hang 1 = .ok (.invokestatic 19, 3) := by decide +kernel
theorem dX3_hang_4 : decode cX3_hang 4 = .ok (.ifCond .ne 10, 3) := by decide +kernel
theorem dX3_hang_7 : decode cX3_hang 7 = .ok (.iload_n 3, 1) := by decide +kernel
theorem dX3_hang_8 : decode cX3_hang 8 = .ok (.invokestatic 19, 3) := by decide +kernel
theorem dX3_hang_11 : decode cX3_hang 11 = .ok (.ifCond .eq 6, 3) := by decide +kernel
theorem dX3_hang_14 : decode cX3_hang 14 = .ok (.ldc 23, 2) := by decide +kernel
theorem dX3_hang_16 : decode cX3_hang 16 = .ok (.ireturn, 1) := by decide +kernel
theorem dX3_hang_17 : decode cX3_hang 17 = .ok (.aload_n 0, 1) := by decide +kernel
theorem dX3_hang_18 : decode cX3_hang 18 = .ok (.iload_n 1, 1) := by decide +kernel
theorem dX3_hang_19 : decode cX3_hang 19 = .ok (.iconst 4, 1) := by decide +kernel
theorem dX3_hang_20 : decode cX3_hang 20 = .ok (.invokevirtual 39, 3) := by decide +kernel
theorem dX3_hang_23 : decode cX3_hang 23 = .ok (.astore 4, 2) := by decide +kernel
theorem dX3_hang_25 : decode cX3_hang 25 = .ok (.aload 4, 2) := by decide +kernel
theorem dX3_hang_27 : decode cX3_hang 27 = .ok (.ifnonnull 5, 3) := by decide +kernel
theorem dX3_hang_30 : decode cX3_hang 30 = .ok (.iconst 0, 1) := by decide +kernel
theorem dX3_hang_31 : decode cX3_hang 31 = .ok (.ireturn, 1) := by decide +kernel
theorem dX3_hang_32 : decode cX3_hang 32 = .ok (.aload_n 0, 1) := by decide +kernel
theorem dX3_hang_33 : decode cX3_hang 33 = .ok (.getfield 11, 3) := by decide +kernel
theorem dX3_hang_36 : decode cX3_hang 36 = .ok (.iload_n 3, 1) := by decide +kernel
theorem dX3_hang_37 : decode cX3_hang 37 = .ok (.aaload, 1) := by decide +kernel
theorem dX3_hang_38 : decode cX3_hang 38 = .ok (.astore 5, 2) := by decide +kernel
theorem dX3_hang_40 : decode cX3_hang 40 = .ok (.aload 5, 2) := by decide +kernel
theorem dX3_hang_42 : decode cX3_hang 42 = .ok (.ifnull 18, 3) := by decide +kernel
theorem dX3_hang_45 : decode cX3_hang 45 = .ok (.aload 5, 2) := by decide +kernel
theorem dX3_hang_47 : decode cX3_hang 47 = .ok (.getfield 53, 3) := by decide +kernel
theorem dX3_hang_50 : decode cX3_hang 50 = .ok (.iconst 1, 1) := by decide +kernel
theorem dX3_hang_51 : decode cX3_hang 51 = .ok (.if_icmp .eq 9, 3) := by decide +kernel
theorem dX3_hang_54 : decode cX3_hang 54 = .ok (.aload_n 0, 1) := by decide +kernel
theorem dX3_hang_55 : decode cX3_hang 55 = .ok (.iconst 5, 1) := by decide +kernel
theorem dX3_hang_56 : decode cX3_hang 56 = .ok (.invokevirtual 24, 3) := by decide +kernel
theorem dX3_hang_59 : decode cX3_hang 59 = .ok (.ireturn, 1) := by decide +kernel
theorem dX3_hang_60 : decode cX3_hang 60 = .ok (.aload 4, 2) := by decide +kernel
theorem dX3_hang_62 : decode cX3_hang 62 = .ok (.iload_n 2, 1) := by decide +kernel
theorem dX3_hang_63 : decode cX3_hang 63 = .ok (.invokevirtual 46, 3) := by decide +kernel
theorem dX3_hang_66 : decode cX3_hang 66 = .ok (.ifCond .ne 9, 3) := by decide +kernel
theorem dX3_hang_69 : decode cX3_hang 69 = .ok (.aload_n 0, 1) := by decide +kernel
theorem dX3_hang_70 : decode cX3_hang 70 = .ok (.iconst 3, 1) := by decide +kernel
theorem dX3_hang_71 : decode cX3_hang 71 = .ok (.invokevirtual 24, 3) := by decide +kernel
theorem dX3_hang_74 : decode cX3_hang 74 = .ok (.ireturn, 1) := by decide +kernel
theorem dX3_hang_75 : decode cX3_hang 75 = .ok (.aload 4, 2) := by decide +kernel
theorem dX3_hang_77 : decode cX3_hang 77 = .ok (.getfield 63, 3) := by decide +kernel
theorem dX3_hang_80 : decode cX3_hang 80 = .ok (.iload_n 2, 1) := by decide +kernel
theorem dX3_hang_81 : decode cX3_hang 81 = .ok (.aload 5, 2) := by decide +kernel
theorem dX3_hang_83 : decode cX3_hang 83 = .ok (.aastore, 1) := by decide +kernel
theorem dX3_hang_84 : decode cX3_hang 84 = .ok (.iconst 1, 1) := by decide +kernel
theorem dX3_hang_85 : decode cX3_hang 85 = .ok (.ireturn, 1) := by decide +kernel
set_option maxRecDepth 20000 in
theorem ggX3_item_X3_isOutside : GoodIn wsX3_item wsX3_isOutside := goodIn_r _ [7] (by decide +kernel) (by decide +kernel)
set_option maxRecDepth 20000 in
theorem gX3_item_X3_isOutside : GoodIn wsX3_item (va_wsS RX3 19 yX3_isOutside wsX3_isOutside) := goodIn_app (goodIn_of _ (by decide +kernel)) ggX3_item_X3_isOutside
set_option maxRecDepth 20000 in
theorem ggX3_item_X3_rowOf : GoodIn wsX3_item wsX3_rowOf := goodIn_r _ [11, 12, 13, 14, 44, 45, 40, 41, 42, 43] (by decide +kernel) (by decide +kernel)
set_option maxRecDepth 20000 in
theorem gX3_item_X3_rowOf : GoodIn wsX3_item (wsV RX3 39 RX3 yX3_rowOf wsX3_rowOf) := goodIn_app (goodIn_of _ (by decide +kernel)) ggX3_item_X3_rowOf
set_option maxRecDepth 20000 in
theorem ggX3_item_X1_has : GoodIn wsX3_item wsX1_has := goodIn_r _ [19, 20, 40, 41, 42, 43] (by decide +kernel) (by decide +kernel)
set_option maxRecDepth 20000 in
theorem gX3_item_X1_has : GoodIn wsX3_item (wsV RX3 46 RX1 yX1_has wsX1_has) := goodIn_app (goodIn_of _ (by decide +kernel)) ggX3_item_X1_has
set_option maxRecDepth 20000 in
theorem ggX3_item_X3_fail : GoodIn wsX3_item wsX3_fail := goodIn_r _ [24, 13, 44, 45] (by decide +kernel) (by decide +kernel)
set_option maxRecDepth 20000 in
theorem gX3_item_X3_fail : GoodIn wsX3_item (wsV RX3 24 RX3 yX3_fail wsX3_fail) := goodIn_app (goodIn_of _ (by decide +kernel)) ggX3_item_X3_fail
set_option maxRecDepth 20000 in
theorem ggX3_item_X1_isOfNumbers : GoodIn wsX3_item wsX1_isOfNumbers := goodIn_r _ [28, 29, 40, 41, 42, 43] (by decide +kernel) (by decide +kernel)
set_option maxRecDepth 20000 in
theorem gX3_item_X1_isOfNumbers : GoodIn wsX3_item (wsV RX3 67 RX1 yX1_isOfNumbers wsX1_isOfNumbers) := goodIn_app (goodIn_of _ (by decide +kernel)) ggX3_item_X1_isOfNumbers
set_option maxRecDepth 20000 in
theorem ggX3_item_X1_shown : GoodIn wsX3_item wsX1_shown := goodIn_r _ [34, 20, 40, 41, 42, 43] (by decide +kernel) (by decide +kernel)
set_option maxRecDepth 20000 in
theorem gX3_item_X1_shown_u71X1 : GoodIn wsX3_item (va_wsU RX3 71 RX1 "CopyRows$Part" ⟨"CopyRows$Part", "shown", "()I"⟩ yX1_shown wsX1_shown) := goodIn_app (goodIn_of _ (by decide +kernel)) ggX3_item_X1_shown
set_option maxRecDepth 20000 in
theorem ggX3_item_X2_shown : GoodIn wsX3_item wsX2_shown := goodIn_r _ [38, 39, 46, 47] (by decide +kernel) (by decide +kernel)
set_option maxRecDepth 20000 in
theorem gX3_item_X2_shown_u71X2 : GoodIn wsX3_item (va_wsU RX3 71 RX2 "CopyRows$Part" ⟨"CopyRows$Part", "shown", "()I"⟩ yX2_shown wsX2_shown) := goodIn_app (goodIn_of _ (by decide +kernel)) ggX3_item_X2_shown
theorem dX3_item_0 : decode cX3_item 0 = .ok (.iload_n 1, 1) := by decide +kernel
theorem dX3_item_1 : decode cX3_item 1 = .ok (.invokestatic 19, 3) := by decide +kernel
theorem dX3_item_4 : decode cX3_item 4 = .ok (.ifCond .eq 6, 3) := by decide +kernel
theorem dX3_item_7 : decode cX3_item 7 = .ok (.ldc 23, 2) := by decide +kernel
theorem dX3_item_9 : decode cX3_item 9 = .ok (.ireturn, 1) := by decide +kernel
theorem dX3_item_10 : decode cX3_item 10 = .ok (.aload_n 0, 1) := by decide +kernel
theorem dX3_item_11 : decode cX3_item 11 = .ok (.iload_n 1, 1) := by decide +kernel
theorem dX3_item_12 : decode cX3_item 12 = .ok (.bipush 63, 2) := by decide +kernel
theorem dX3_item_14 : decode cX3_item 14 = .ok (.invokevirtual 39, 3) := by decide +kernel
theorem dX3_item_17 : decode cX3_item 17 = .ok (.astore_n 3, 1) := by decide +kernel
theorem dX3_item_18 : decode cX3_item 18 = .ok (.aload_n 3, 1) := by decide +kernel
theorem dX3_item_19 : decode cX3_item 19 = .ok (.ifnonnull 5, 3) := by decide +kernel
theorem dX3_item_22 : decode cX3_item 22 = .ok (.iconst 0, 1) := by decide +kernel
theorem dX3_item_23 : decode cX3_item 23 = .ok (.ireturn, 1) := by decide +kernel
theorem dX3_item_24 : decode cX3_item 24 = .ok (.aload_n 3, 1) := by decide +kernel
theorem dX3_item_25 : decode cX3_item 25 = .ok (.iload_n 2, 1) := by decide +kernel
theorem dX3_item_26 : decode cX3_item 26 = .ok (.invokevirtual 46, 3) := by decide +kernel
theorem dX3_item_29 : decode cX3_item 29 = .ok (.ifCond .ne 9, 3) := by decide +kernel
theorem dX3_item_32 : decode cX3_item 32 = .ok (.aload_n 0, 1) := by decide +kernel
theorem dX3_item_33 : decode cX3_item 33 = .ok (.iconst 3, 1) := by decide +kernel
theorem dX3_item_34 : decode cX3_item 34 = .ok (.invokevirtual 24, 3) := by decide +kernel
theorem dX3_item_37 : decode cX3_item 37 = .ok (.ireturn, 1) := by decide +kernel
theorem dX3_item_38 : decode cX3_item 38 = .ok (.aload_n 3, 1) := by decide +kernel
theorem dX3_item_39 : decode cX3_item 39 = .ok (.invokevirtual 67, 3) := by decide +kernel
theorem dX3_item_42 : decode cX3_item 42 = .ok (.ifCond .eq 10, 3) := by decide +kernel
theorem dX3_item_45 : decode cX3_item 45 = .ok (.aload_n 3, 1) := by decide +kernel
theorem dX3_item_46 : decode cX3_item 46 = .ok (.getfield 49, 3) := by decide +kernel
theorem dX3_item_49 : decode cX3_item 49 = .ok (.iload_n 2, 1) := by decide +kernel
theorem dX3_item_50 : decode cX3_item 50 = .ok (.iaload, 1) := by decide +kernel
theorem dX3_item_51 : decode cX3_item 51 = .ok (.ireturn, 1) := by decide +kernel
theorem dX3_item_52 : decode cX3_item 52 = .ok (.aload_n 3, 1) := by decide +kernel
theorem dX3_item_53 : decode cX3_item 53 = .ok (.getfield 63, 3) := by decide +kernel
theorem dX3_item_56 : decode cX3_item 56 = .ok (.iload_n 2, 1) := by decide +kernel
theorem dX3_item_57 : decode cX3_item 57 = .ok (.aaload, 1) := by decide +kernel
theorem dX3_item_58 : decode cX3_item 58 = .ok (.astore 4, 2) := by decide +kernel
theorem dX3_item_60 : decode cX3_item 60 = .ok (.aload 4, 2) := by decide +kernel
theorem dX3_item_62 : decode cX3_item 62 = .ok (.ifnonnull 11, 3) := by decide +kernel
theorem dX3_item_65 : decode cX3_item 65 = .ok (.aload_n 0, 1) := by decide +kernel
theorem dX3_item_66 : decode cX3_item 66 = .ok (.iconst 1, 1) := by decide +kernel
theorem dX3_item_67 : decode cX3_item 67 = .ok (.invokevirtual 24, 3) := by decide +kernel
theorem dX3_item_70 : decode cX3_item 70 = .ok (.goto 8, 3) := by decide +kernel
theorem dX3_item_73 : decode cX3_item 73 = .ok (.aload 4, 2) := by decide +kernel
theorem dX3_item_75 : decode cX3_item 75 = .ok (.invokevirtual 71, 3) := by decide +kernel
theorem dX3_item_78 : decode cX3_item 78 = .ok (.ireturn, 1) := by decide +kernel
set_option maxRecDepth 20000 in
theorem ggX3_classOf_X3_isOutside : GoodIn wsX3_classOf wsX3_isOutside := goodIn_r _ [8] (by decide +kernel) (by decide +kernel)
set_option maxRecDepth 20000 in
theorem gX3_classOf_X3_isOutside : GoodIn wsX3_classOf (va_wsS RX3 19 yX3_isOutside wsX3_isOutside) := goodIn_app (goodIn_of _ (by decide +kernel)) ggX3_classOf_X3_isOutside
set_option maxRecDepth 20000 in
theorem ggX3_classOf_X3_rowOf : GoodIn wsX3_classOf wsX3_rowOf := goodIn_r _ [12, 13, 14, 15, 32, 33, 26, 27, 28, 29] (by decide +kernel) (by decide +kernel)
set_option maxRecDepth 20000 in
theorem gX3_classOf_X3_rowOf : GoodIn wsX3_classOf (wsV RX3 39 RX3 yX3_rowOf wsX3_rowOf) := goodIn_app (goodIn_of _ (by decide +kernel)) ggX3_classOf_X3_rowOf
set_option maxRecDepth 20000 in
theorem ggX3_classOf_X1_has : GoodIn wsX3_classOf wsX1_has := goodIn_r _ [20, 21, 26, 27, 28, 29] (by decide +kernel) (by decide +kernel)
set_option maxRecDepth 20000 in
theorem gX3_classOf_X1_has : GoodIn wsX3_classOf (wsV RX3 46 RX1 yX1_has wsX1_has) := goodIn_app (goodIn_of _ (by decide +kernel)) ggX3_classOf_X1_has
set_option maxRecDepth 20000 in
theorem ggX3_classOf_X3_fail : GoodIn wsX3_classOf wsX3_fail := goodIn_r _ [25, 14, 32, 33] (by decide +kernel) (by decide +kernel)
set_option maxRecDepth 20000 in
theorem gX3_classOf_X3_fail : GoodIn wsX3_classOf (wsV RX3 24 RX3 yX3_fail wsX3_fail) := goodIn_app (goodIn_of _ (by decide +kernel)) ggX3_classOf_X3_fail
theorem dX3_classOf_0 : decode cX3_classOf 0 = .ok (.iload_n 1, 1) := by decide +kernel
theorem dX3_classOf_1 : decode cX3_classOf 1 = .ok (.invokestatic 19, 3) := by decide +kernel
theorem dX3_classOf_4 : decode cX3_classOf 4 = .ok (.ifCond .eq 6, 3) := by decide +kernel
theorem dX3_classOf_7 : decode cX3_classOf 7 = .ok (.ldc 23, 2) := by decide +kernel
theorem dX3_classOf_9 : decode cX3_classOf 9 = .ok (.ireturn, 1) := by decide +kernel
theorem dX3_classOf_10 : decode cX3_classOf 10 = .ok (.aload_n 0, 1) := by decide +kernel
theorem dX3_classOf_11 : decode cX3_classOf 11 = .ok (.iload_n 1, 1) := by decide +kernel
theorem dX3_classOf_12 : decode cX3_classOf 12 = .ok (.bipush 56, 2) := by decide +kernel
theorem dX3_classOf_14 : decode cX3_classOf 14 = .ok (.invokevirtual 39, 3) := by decide +kernel
theorem dX3_classOf_17 : decode cX3_classOf 17 = .ok (.astore_n 3, 1) := by decide +kernel
theorem dX3_classOf_18 : decode cX3_classOf 18 = .ok (.aload_n 3, 1) := by decide +kernel
theorem dX3_classOf_19 : decode cX3_classOf 19 = .ok (.ifnonnull 5, 3) := by decide +kernel
theorem dX3_classOf_22 : decode cX3_classOf 22 = .ok (.iconst 0, 1) := by decide +kernel
theorem dX3_classOf_23 : decode cX3_classOf 23 = .ok (.ireturn, 1) := by decide +kernel
theorem dX3_classOf_24 : decode cX3_classOf 24 = .ok (.aload_n 3, 1) := by decide +kernel
theorem dX3_classOf_25 : decode cX3_classOf 25 = .ok (.iload_n 2, 1) := by decide +kernel
theorem dX3_classOf_26 : decode cX3_classOf 26 = .ok (.invokevirtual 46, 3) := by decide +kernel
theorem dX3_classOf_29 : decode cX3_classOf 29 = .ok (.ifCond .ne 9, 3) := by decide +kernel
theorem dX3_classOf_32 : decode cX3_classOf 32 = .ok (.aload_n 0, 1) := by decide +kernel
theorem dX3_classOf_33 : decode cX3_classOf 33 = .ok (.iconst 3, 1) := by decide +kernel
theorem dX3_classOf_34 : decode cX3_classOf 34 = .ok (.invokevirtual 24, 3) := by decide +kernel
theorem dX3_classOf_37 : decode cX3_classOf 37 = .ok (.ireturn, 1) := by decide +kernel
theorem dX3_classOf_38 : decode cX3_classOf 38 = .ok (.aload_n 3, 1) := by decide +kernel
theorem dX3_classOf_39 : decode cX3_classOf 39 = .ok (.getfield 63, 3) := by decide +kernel
theorem dX3_classOf_42 : decode cX3_classOf 42 = .ok (.iload_n 2, 1) := by decide +kernel
theorem dX3_classOf_43 : decode cX3_classOf 43 = .ok (.aaload, 1) := by decide +kernel
theorem dX3_classOf_44 : decode cX3_classOf 44 = .ok (.astore 5, 2) := by decide +kernel
theorem dX3_classOf_46 : decode cX3_classOf 46 = .ok (.aload 5, 2) := by decide +kernel
theorem dX3_classOf_48 : decode cX3_classOf 48 = .ok (.instanceof 56, 3) := by decide +kernel
theorem dX3_classOf_51 : decode cX3_classOf 51 = .ok (.ifCond .eq 18, 3) := by decide +kernel
theorem dX3_classOf_54 : decode cX3_classOf 54 = .ok (.aload 5, 2) := by decide +kernel
theorem dX3_classOf_56 : decode cX3_classOf 56 = .ok (.checkcast 56, 3) := by decide +kernel
theorem dX3_classOf_59 : decode cX3_classOf 59 = .ok (.astore 4, 2) := by decide +kernel
theorem dX3_classOf_61 : decode cX3_classOf 61 = .ok (.aload 4, 2) := by decide +kernel
theorem dX3_classOf_63 : decode cX3_classOf 63 = .ok (.getfield 77, 3) := by decide +kernel
theorem dX3_classOf_66 : decode cX3_classOf 66 = .ok (.goto 4, 3) := by decide +kernel
theorem dX3_classOf_69 : decode cX3_classOf 69 = .ok (.iconst (-1), 1) := by decide +kernel
theorem dX3_classOf_70 : decode cX3_classOf 70 = .ok (.ireturn, 1) := by decide +kernel
set_option maxRecDepth 20000 in
theorem ggX3_move_X3_isOutside : GoodIn wsX3_move wsX3_isOutside := goodIn_r _ [7] (by decide +kernel) (by decide +kernel)
set_option maxRecDepth 20000 in
theorem gX3_move_X3_isOutside : GoodIn wsX3_move (va_wsS RX3 19 yX3_isOutside wsX3_isOutside) := goodIn_app (goodIn_of _ (by decide +kernel)) ggX3_move_X3_isOutside
set_option maxRecDepth 20000 in
theorem ggX3_move_X3_fail : GoodIn wsX3_move wsX3_fail := goodIn_r _ [11, 3, 55, 56] (by decide +kernel) (by decide +kernel)
set_option maxRecDepth 20000 in
theorem gX3_move_X3_fail : GoodIn wsX3_move (wsV RX3 24 RX3 yX3_fail wsX3_fail) := goodIn_app (goodIn_of _ (by decide +kernel)) ggX3_move_X3_fail
set_option maxRecDepth 20000 in
theorem ggX3_move_X1_mayTakeOf : GoodIn wsX3_move wsX1_mayTakeOf := goodIn_r _ [16, 17, 18, 19, 20, 15, 21, 57, 58, 59, 60] (by decide +kernel) (by decide +kernel)
set_option maxRecDepth 20000 in
theorem gX3_move_X1_mayTakeOf : GoodIn wsX3_move (wsV RX3 80 RX1 yX1_mayTakeOf wsX1_mayTakeOf) := goodIn_app (goodIn_of _ (by decide +kernel)) ggX3_move_X1_mayTakeOf
set_option maxRecDepth 20000 in
theorem ggX3_move_X1_hasRange : GoodIn wsX3_move wsX1_hasRange := goodIn_r _ [25, 26, 57, 58, 59, 60] (by decide +kernel) (by decide +kernel)
set_option maxRecDepth 20000 in
theorem gX3_move_X1_hasRange : GoodIn wsX3_move (wsV RX3 84 RX1 yX1_hasRange wsX1_hasRange) := goodIn_app (goodIn_of _ (by decide +kernel)) ggX3_move_X1_hasRange
set_option maxRecDepth 20000 in
theorem ggX3_move_X1_countTaken : GoodIn wsX3_move wsX1_countTaken := goodIn_r _ [30, 31, 18, 19, 20, 15, 21, 17, 32, 33, 34, 35, 36, 37, 38, 39, 40, 41, 42, 43, 44, 45, 57, 58, 59, 60, 61, 62] (by decide +kernel) (by decide +kernel)
set_option maxRecDepth 20000 in
theorem gX3_move_X1_countTaken : GoodIn wsX3_move (wsV RX3 88 RX1 yX1_countTaken wsX1_countTaken) := goodIn_app (goodIn_of _ (by decide +kernel)) ggX3_move_X1_countTaken
set_option maxRecDepth 20000 in
theorem ggX3_move_X1_take : GoodIn wsX3_move wsX1_take := goodIn_r _ [49, 50, 51, 52, 53, 54, 31, 18, 19, 20, 15, 21, 17, 57, 58, 59, 60] (by decide +kernel) (by decide +kernel)
set_option maxRecDepth 20000 in
theorem gX3_move_X1_take : GoodIn wsX3_move (wsV RX3 92 RX1 yX1_take wsX1_take) := goodIn_app (goodIn_of _ (by decide +kernel)) ggX3_move_X1_take
theorem dX3_move_0 : decode cX3_move 0 = .ok (.iload_n 1, 1) := by decide +kernel
theorem dX3_move_1 : decode cX3_move 1 = .ok (.invokestatic 19, 3) := by decide +kernel
theorem dX3_move_4 : decode cX3_move 4 = .ok (.ifCond .ne 10, 3) := by decide +kernel
theorem dX3_move_7 : decode cX3_move 7 = .ok (.iload_n 3, 1) := by decide +kernel
theorem dX3_move_8 : decode cX3_move 8 = .ok (.invokestatic 19, 3) := by decide +kernel
theorem dX3_move_11 : decode cX3_move 11 = .ok (.ifCond .eq 6, 3) := by decide +kernel
theorem dX3_move_14 : decode cX3_move 14 = .ok (.ldc 23, 2) := by decide +kernel
theorem dX3_move_16 : decode cX3_move 16 = .ok (.ireturn, 1) := by decide +kernel
theorem dX3_move_17 : decode cX3_move 17 = .ok (.aload_n 0, 1) := by decide +kernel
theorem dX3_move_18 : decode cX3_move 18 = .ok (.getfield 11, 3) := by decide +kernel
theorem dX3_move_21 : decode cX3_move 21 = .ok (.iload_n 1, 1) := by decide +kernel
theorem dX3_move_22 : decode cX3_move 22 = .ok (.aaload, 1) := by decide +kernel
theorem dX3_move_23 : decode cX3_move 23 = .ok (.astore 6, 2) := by decide +kernel
theorem dX3_move_25 : decode cX3_move 25 = .ok (.aload_n 0, 1) := by decide +kernel
theorem dX3_move_26 : decode cX3_move 26 = .ok (.getfield 11, 3) := by decide +kernel
theorem dX3_move_29 : decode cX3_move 29 = .ok (.iload_n 3, 1) := by decide +kernel
theorem dX3_move_30 : decode cX3_move 30 = .ok (.aaload, 1) := by decide +kernel
theorem dX3_move_31 : decode cX3_move 31 = .ok (.astore 7, 2) := by decide +kernel
theorem dX3_move_33 : decode cX3_move 33 = .ok (.aload 6, 2) := by decide +kernel
theorem dX3_move_35 : decode cX3_move 35 = .ok (.ifnull 8, 3) := by decide +kernel
theorem dX3_move_38 : decode cX3_move 38 = .ok (.aload 7, 2) := by decide +kernel
theorem dX3_move_40 : decode cX3_move 40 = .ok (.ifnonnull 9, 3) := by decide +kernel
theorem dX3_move_43 : decode cX3_move 43 = .ok (.aload_n 0, 1) := by decide +kernel
theorem dX3_move_44 : decode cX3_move 44 = .ok (.iconst 1, 1) := by decide +kernel
theorem dX3_move_45 : decode cX3_move 45 = .ok (.invokevirtual 24, 3) := by decide +kernel
theorem dX3_move_48 : decode cX3_move 48 = .ok (.ireturn, 1) := by decide +kernel
theorem dX3_move_49 : decode cX3_move 49 = .ok (.aload 7, 2) := by decide +kernel
theorem dX3_move_51 : decode cX3_move 51 = .ok (.aload 6, 2) := by decide +kernel
theorem dX3_move_53 : decode cX3_move 53 = .ok (.invokevirtual 80, 3) := by decide +kernel
theorem dX3_move_56 : decode cX3_move 56 = .ok (.ifCond .ne 9, 3) := by decide +kernel
theorem dX3_move_59 : decode cX3_move 59 = .ok (.aload_n 0, 1) := by decide +kernel
theorem dX3_move_60 : decode cX3_move 60 = .ok (.iconst 2, 1) := by decide +kernel
theorem dX3_move_61 : decode cX3_move 61 = .ok (.invokevirtual 24, 3) := by decide +kernel
theorem dX3_move_64 : decode cX3_move 64 = .ok (.ireturn, 1) := by decide +kernel
theorem dX3_move_65 : decode cX3_move 65 = .ok (.aload 6, 2) := by decide +kernel
theorem dX3_move_67 : decode cX3_move 67 = .ok (.iload_n 2, 1) := by decide +kernel
theorem dX3_move_68 : decode cX3_move 68 = .ok (.iload 5, 2) := by decide +kernel
theorem dX3_move_70 : decode cX3_move 70 = .ok (.invokevirtual 84, 3) := by decide +kernel
theorem dX3_move_73 : decode cX3_move 73 = .ok (.ifCond .eq 15, 3) := by decide +kernel
theorem dX3_move_76 : decode cX3_move 76 = .ok (.aload 7, 2) := by decide +kernel
theorem dX3_move_78 : decode cX3_move 78 = .ok (.iload 4, 2) := by decide +kernel
theorem dX3_move_80 : decode cX3_move 80 = .ok (.iload 5, 2) := by decide +kernel
theorem dX3_move_82 : decode cX3_move 82 = .ok (.invokevirtual 84, 3) := by decide +kernel
theorem dX3_move_85 : decode cX3_move 85 = .ok (.ifCond .ne 9, 3) := by decide +kernel
theorem dX3_move_88 : decode cX3_move 88 = .ok (.aload_n 0, 1) := by decide +kernel
theorem dX3_move_89 : decode cX3_move 89 = .ok (.iconst 3, 1) := by decide +kernel
theorem dX3_move_90 : decode cX3_move 90 = .ok (.invokevirtual 24, 3) := by decide +kernel
theorem dX3_move_93 : decode cX3_move 93 = .ok (.ireturn, 1) := by decide +kernel
theorem dX3_move_94 : decode cX3_move 94 = .ok (.aload 7, 2) := by decide +kernel
theorem dX3_move_96 : decode cX3_move 96 = .ok (.aload 6, 2) := by decide +kernel
theorem dX3_move_98 : decode cX3_move 98 = .ok (.iload_n 2, 1) := by decide +kernel
theorem dX3_move_99 : decode cX3_move 99 = .ok (.iload 5, 2) := by decide +kernel
theorem dX3_move_101 : decode cX3_move 101 = .ok (.invokevirtual 88, 3) := by decide +kernel
theorem dX3_move_104 : decode cX3_move 104 = .ok (.istore 8, 2) := by decide +kernel
theorem dX3_move_106 : decode cX3_move 106 = .ok (.aload 7, 2) := by decide +kernel
theorem dX3_move_108 : decode cX3_move 108 = .ok (.aload 6, 2) := by decide +kernel
theorem dX3_move_110 : decode cX3_move 110 = .ok (.iload_n 2, 1) := by decide +kernel
theorem dX3_move_111 : decode cX3_move 111 = .ok (.iload 4, 2) := by decide +kernel
theorem dX3_move_113 : decode cX3_move 113 = .ok (.iload 8, 2) := by decide +kernel
theorem dX3_move_115 : decode cX3_move 115 = .ok (.invokevirtual 92, 3) := by decide +kernel
theorem dX3_move_118 : decode cX3_move 118 = .ok (.aload_n 0, 1) := by decide +kernel
theorem dX3_move_119 : decode cX3_move 119 = .ok (.iload 8, 2) := by decide +kernel
theorem dX3_move_121 : decode cX3_move 121 = .ok (.iload 5, 2) := by decide +kernel
theorem dX3_move_123 : decode cX3_move 123 = .ok (.if_icmp .ge 7, 3) := by decide +kernel
theorem dX3_move_126 : decode cX3_move 126 = .ok (.iconst 2, 1) := by decide +kernel
theorem dX3_move_127 : decode cX3_move 127 = .ok (.goto 4, 3) := by decide +kernel
theorem dX3_move_130 : decode cX3_move 130 = .ok (.iconst 0, 1) := by decide +kernel
theorem dX3_move_131 : decode cX3_move 131 = .ok (.putfield 15, 3) := by decide +kernel
theorem dX3_move_134 : decode cX3_move 134 = .ok (.iload 8, 2) := by decide +kernel
theorem dX3_move_136 : decode cX3_move 136 = .ok (.ireturn, 1) := by decide +kernel
set_option maxRecDepth 20000 in
theorem ggX3_loop_X3_isOutside : GoodIn wsX3_loop wsX3_isOutside := goodIn_r _ [11] (by decide +kernel) (by decide +kernel)
set_option maxRecDepth 20000 in
theorem gX3_loop_X3_isOutside : GoodIn wsX3_loop (va_wsS RX3 19 yX3_isOutside wsX3_isOutside) := goodIn_app (goodIn_of _ (by decide +kernel)) ggX3_loop_X3_isOutside
set_option maxRecDepth 20000 in
theorem ggX3_loop_X3_fail : GoodIn wsX3_loop wsX3_fail := goodIn_r _ [15, 3, 62, 63] (by decide +kernel) (by decide +kernel)
set_option maxRecDepth 20000 in
theorem gX3_loop_X3_fail : GoodIn wsX3_loop (wsV RX3 24 RX3 yX3_fail wsX3_fail) := goodIn_app (goodIn_of _ (by decide +kernel)) ggX3_loop_X3_fail
set_option maxRecDepth 20000 in
theorem ggX3_loop_X1_mayTakeOf : GoodIn wsX3_loop wsX1_mayTakeOf := goodIn_r _ [20, 21, 22, 23, 24, 19, 25, 64, 65, 66, 67] (by decide +kernel) (by decide +kernel)
set_option maxRecDepth 20000 in
theorem gX3_loop_X1_mayTakeOf : GoodIn wsX3_loop (wsV RX3 80 RX1 yX1_mayTakeOf wsX1_mayTakeOf) := goodIn_app (goodIn_of _ (by decide +kernel)) ggX3_loop_X1_mayTakeOf
set_option maxRecDepth 20000 in
theorem ggX3_loop_X3_moveOne : GoodIn wsX3_loop wsX3_moveOne := goodIn_r _ [28, 29, 30, 31, 19, 32, 33, 34, 35, 36, 37, 38, 22, 23, 24, 25, 21, 39, 40, 41, 42, 43, 44, 45, 46, 47, 48, 49, 50, 51, 52, 53, 54, 55, 56, 57, 58, 59, 60, 61, 64, 65, 66, 67, 68, 69] (by decide +kernel) (by decide +kernel)
set_option maxRecDepth 20000 in
theorem gX3_loop_X3_moveOne : GoodIn wsX3_loop (va_wsS RX3 96 yX3_moveOne wsX3_moveOne) := goodIn_app (goodIn_of _ (by decide +kernel)) ggX3_loop_X3_moveOne
theorem dX3_loop_0 : decode cX3_loop 0 = .ok (.iload_n 1, 1) := by decide +kernel
theorem dX3_loop_1 : decode cX3_loop 1 = .ok (.invokestatic 19, 3) := by decide +kernel
theorem dX3_loop_4 : decode cX3_loop 4 = .ok (.ifCond .ne 10, 3) := by decide +kernel
theorem dX3_loop_7 : decode cX3_loop 7 = .ok (.iload_n 3, 1) := by decide +kernel
theorem dX3_loop_8 : decode cX3_loop 8 = .ok (.invokestatic 19, 3) := by decide +kernel
theorem dX3_loop_11 : decode cX3_loop 11 = .ok (.ifCond .eq 6, 3) := by decide +kernel
theorem dX3_loop_14 : decode cX3_loop 14 = .ok (.ldc 23, 2) := by decide +kernel
theorem dX3_loop_16 : decode cX3_loop 16 = .ok (.ireturn, 1) := by decide +kernel
theorem dX3_loop_17 : decode cX3_loop 17 = .ok (.aload_n 0, 1) := by decide +kernel
theorem dX3_loop_18 : decode cX3_loop 18 = .ok (.getfield 11, 3) := by decide +kernel
theorem dX3_loop_21 : decode cX3_loop 21 = .ok (.iload_n 1, 1) := by decide +kernel
theorem dX3_loop_22 : decode cX3_loop 22 = .ok (.aaload, 1) := by decide +kernel
theorem dX3_loop_23 : decode cX3_loop 23 = .ok (.astore 6, 2) := by decide +kernel
theorem dX3_loop_25 : decode cX3_loop 25 = .ok (.aload_n 0, 1) := by decide +kernel
theorem dX3_loop_26 : decode cX3_loop 26 = .ok (.getfield 11, 3) := by decide +kernel
theorem dX3_loop_29 : decode cX3_loop 29 = .ok (.iload_n 3, 1) := by decide +kernel
theorem dX3_loop_30 : decode cX3_loop 30 = .ok (.aaload, 1) := by decide +kernel
theorem dX3_loop_31 : decode cX3_loop 31 = .ok (.astore 7, 2) := by decide +kernel
theorem dX3_loop_33 : decode cX3_loop 33 = .ok (.aload 6, 2) := by decide +kernel
theorem dX3_loop_35 : decode cX3_loop 35 = .ok (.ifnull 8, 3) := by decide +kernel
theorem dX3_loop_38 : decode cX3_loop 38 = .ok (.aload 7, 2) := by decide +kernel
theorem dX3_loop_40 : decode cX3_loop 40 = .ok (.ifnonnull 9, 3) := by decide +kernel
theorem dX3_loop_43 : decode cX3_loop 43 = .ok (.aload_n 0, 1) := by decide +kernel
theorem dX3_loop_44 : decode cX3_loop 44 = .ok (.iconst 1, 1) := by decide +kernel
theorem dX3_loop_45 : decode cX3_loop 45 = .ok (.invokevirtual 24, 3) := by decide +kernel
theorem dX3_loop_48 : decode cX3_loop 48 = .ok (.ireturn, 1) := by decide +kernel
theorem dX3_loop_49 : decode cX3_loop 49 = .ok (.aload 7, 2) := by decide +kernel
theorem dX3_loop_51 : decode cX3_loop 51 = .ok (.aload 6, 2) := by decide +kernel
theorem dX3_loop_53 : decode cX3_loop 53 = .ok (.invokevirtual 80, 3) := by decide +kernel
theorem dX3_loop_56 : decode cX3_loop 56 = .ok (.ifCond .ne 9, 3) := by decide +kernel
theorem dX3_loop_59 : decode cX3_loop 59 = .ok (.aload_n 0, 1) := by decide +kernel
theorem dX3_loop_60 : decode cX3_loop 60 = .ok (.iconst 2, 1) := by decide +kernel
theorem dX3_loop_61 : decode cX3_loop 61 = .ok (.invokevirtual 24, 3) := by decide +kernel
theorem dX3_loop_64 : decode cX3_loop 64 = .ok (.ireturn, 1) := by decide +kernel
theorem dX3_loop_65 : decode cX3_loop 65 = .ok (.aload_n 0, 1) := by decide +kernel
theorem dX3_loop_66 : decode cX3_loop 66 = .ok (.iconst 0, 1) := by decide +kernel
theorem dX3_loop_67 : decode cX3_loop 67 = .ok (.putfield 15, 3) := by decide +kernel
theorem dX3_loop_70 : decode cX3_loop 70 = .ok (.iconst 0, 1) := by decide +kernel
theorem dX3_loop_71 : decode cX3_loop 71 = .ok (.istore 8, 2) := by decide +kernel
theorem dX3_loop_73 : decode cX3_loop 73 = .ok (.iload 8, 2) := by decide +kernel
theorem dX3_loop_75 : decode cX3_loop 75 = .ok (.iload 5, 2) := by decide +kernel
theorem dX3_loop_77 : decode cX3_loop 77 = .ok (.if_icmp .ge 39, 3) := by decide +kernel
theorem dX3_loop_80 : decode cX3_loop 80 = .ok (.aload_n 0, 1) := by decide +kernel
theorem dX3_loop_81 : decode cX3_loop 81 = .ok (.aload 6, 2) := by decide +kernel
theorem dX3_loop_83 : decode cX3_loop 83 = .ok (.iload_n 2, 1) := by decide +kernel
theorem dX3_loop_84 : decode cX3_loop 84 = .ok (.iload 8, 2) := by decide +kernel
theorem dX3_loop_86 : decode cX3_loop 86 = .ok (.iadd, 1) := by decide +kernel
theorem dX3_loop_87 : decode cX3_loop 87 = .ok (.aload 7, 2) := by decide +kernel
theorem dX3_loop_89 : decode cX3_loop 89 = .ok (.iload 4, 2) := by decide +kernel
theorem dX3_loop_91 : decode cX3_loop 91 = .ok (.iload 8, 2) := by decide +kernel
theorem dX3_loop_93 : decode cX3_loop 93 = .ok (.iadd, 1) := by decide +kernel
theorem dX3_loop_94 : decode cX3_loop 94 = .ok (.invokestatic 96, 3) := by decide +kernel
theorem dX3_loop_97 : decode cX3_loop 97 = .ok (.putfield 15, 3) := by decide +kernel
theorem dX3_loop_100 : decode cX3_loop 100 = .ok (.aload_n 0, 1) := by decide +kernel
theorem dX3_loop_101 : decode cX3_loop 101 = .ok (.getfield 15, 3) := by decide +kernel
theorem dX3_loop_104 : decode cX3_loop 104 = .ok (.ifCond .eq 6, 3) := by decide +kernel
theorem dX3_loop_107 : decode cX3_loop 107 = .ok (.iload 8, 2) := by decide +kernel
theorem dX3_loop_109 : decode cX3_loop 109 = .ok (.ireturn, 1) := by decide +kernel
theorem dX3_loop_110 : decode cX3_loop 110 = .ok (.iinc 8 1, 3) := by decide +kernel
theorem dX3_loop_113 : decode cX3_loop 113 = .ok (.goto (-40), 3) := by decide +kernel
theorem dX3_loop_116 : decode cX3_loop 116 = .ok (.iload 5, 2) := by decide +kernel
theorem dX3_loop_118 : decode cX3_loop 118 = .ok (.iconst 0, 1) := by decide +kernel
theorem dX3_loop_119 : decode cX3_loop 119 = .ok (.invokestatic 100, 3) := by decide +kernel
theorem dX3_loop_122 : decode cX3_loop 122 = .ok (.ireturn, 1) := by decide +kernel
set_option maxRecDepth 20000 in
theorem ggX3_copy_X3_isOutside : GoodIn wsX3_copy wsX3_isOutside := goodIn_r _ [6] (by decide +kernel) (by decide +kernel)
set_option maxRecDepth 20000 in
theorem gX3_copy_X3_isOutside : GoodIn wsX3_copy (va_wsS RX3 19 yX3_isOutside wsX3_isOutside) := goodIn_app (goodIn_of _ (by decide +kernel)) ggX3_copy_X3_isOutside
set_option maxRecDepth 20000 in
theorem ggX3_copy_X3_rowOf : GoodIn wsX3_copy wsX3_rowOf := goodIn_r _ [10, 11, 12, 13, 56, 57, 52, 53, 54, 55] (by decide +kernel) (by decide +kernel)
set_option maxRecDepth 20000 in
theorem gX3_copy_X3_rowOf : GoodIn wsX3_copy (wsV RX3 39 RX3 yX3_rowOf wsX3_rowOf) := goodIn_app (goodIn_of _ (by decide +kernel)) ggX3_copy_X3_rowOf
set_option maxRecDepth 20000 in
theorem ggX3_copy_X1_cut : GoodIn wsX3_copy wsX1_cut := goodIn_r _ [18, 19, 20, 17, 21, 22, 23, 24, 25, 26, 27, 28, 29, 30, 31, 32, 33, 34, 35, 36, 37, 38, 39, 40, 41, 42, 43, 44, 45, 46, 47, 52, 53, 54, 55] (by decide +kernel) (by decide +kernel)
set_option maxRecDepth 20000 in
theorem gX3_copy_X1_cut : GoodIn wsX3_copy (wsV RX3 106 RX1 yX1_cut wsX1_cut) := goodIn_app (goodIn_of _ (by decide +kernel)) ggX3_copy_X1_cut
set_option maxRecDepth 20000 in
theorem ggX3_copy_X3_put : GoodIn wsX3_copy wsX3_put := goodIn_r _ [51, 11, 12, 2, 56, 57, 52, 53, 54, 55] (by decide +kernel) (by decide +kernel)
set_option maxRecDepth 20000 in
theorem gX3_copy_X3_put : GoodIn wsX3_copy (wsV RX3 31 RX3 yX3_put wsX3_put) := goodIn_app (goodIn_of _ (by decide +kernel)) ggX3_copy_X3_put
theorem dX3_copy_0 : decode cX3_copy 0 = .ok (.iload_n 1, 1) := by decide +kernel
theorem dX3_copy_1 : decode cX3_copy 1 = .ok (.invokestatic 19, 3) := by decide +kernel
theorem dX3_copy_4 : decode cX3_copy 4 = .ok (.ifCond .ne 10, 3) := by decide +kernel
theorem dX3_copy_7 : decode cX3_copy 7 = .ok (.iload_n 2, 1) := by decide +kernel
theorem dX3_copy_8 : decode cX3_copy 8 = .ok (.invokestatic 19, 3) := by decide +kernel
theorem dX3_copy_11 : decode cX3_copy 11 = .ok (.ifCond .eq 6, 3) := by decide +kernel
theorem dX3_copy_14 : decode cX3_copy 14 = .ok (.ldc 23, 2) := by decide +kernel
theorem dX3_copy_16 : decode cX3_copy 16 = .ok (.ireturn, 1) := by decide +kernel
theorem dX3_copy_17 : decode cX3_copy 17 = .ok (.aload_n 0, 1) := by decide +kernel
theorem dX3_copy_18 : decode cX3_copy 18 = .ok (.iload_n 2, 1) := by decide +kernel
theorem dX3_copy_19 : decode cX3_copy 19 = .ok (.bipush 63, 2) := by decide +kernel
theorem dX3_copy_21 : decode cX3_copy 21 = .ok (.invokevirtual 39, 3) := by decide +kernel
theorem dX3_copy_24 : decode cX3_copy 24 = .ok (.astore_n 3, 1) := by decide +kernel
theorem dX3_copy_25 : decode cX3_copy 25 = .ok (.aload_n 3, 1) := by decide +kernel
theorem dX3_copy_26 : decode cX3_copy 26 = .ok (.ifnonnull 7, 3) := by decide +kernel
theorem dX3_copy_29 : decode cX3_copy 29 = .ok (.iconst 0, 1) := by decide +kernel
theorem dX3_copy_30 : decode cX3_copy 30 = .ok (.goto 17, 3) := by decide +kernel
theorem dX3_copy_33 : decode cX3_copy 33 = .ok (.aload_n 0, 1) := by decide +kernel
theorem dX3_copy_34 : decode cX3_copy 34 = .ok (.iload_n 1, 1) := by decide +kernel
theorem dX3_copy_35 : decode cX3_copy 35 = .ok (.aload_n 3, 1) := by decide +kernel
theorem dX3_copy_36 : decode cX3_copy 36 = .ok (.iconst 0, 1) := by decide +kernel
theorem dX3_copy_37 : decode cX3_copy 37 = .ok (.aload_n 3, 1) := by decide +kernel
theorem dX3_copy_38 : decode cX3_copy 38 = .ok (.getfield 43, 3) := by decide +kernel
theorem dX3_copy_41 : decode cX3_copy 41 = .ok (.invokevirtual 106, 3) := by decide +kernel
theorem dX3_copy_44 : decode cX3_copy 44 = .ok (.invokevirtual 31, 3) := by decide +kernel
theorem dX3_copy_47 : decode cX3_copy 47 = .ok (.ireturn, 1) := by decide +kernel
set_option maxRecDepth 20000 in
theorem ggX3_slice_X3_isOutside : GoodIn wsX3_slice wsX3_isOutside := goodIn_r _ [5] (by decide +kernel) (by decide +kernel)
set_option maxRecDepth 20000 in
theorem gX3_slice_X3_isOutside : GoodIn wsX3_slice (va_wsS RX3 19 yX3_isOutside wsX3_isOutside) := goodIn_app (goodIn_of _ (by decide +kernel)) ggX3_slice_X3_isOutside
set_option maxRecDepth 20000 in
theorem ggX3_slice_X3_rowOf : GoodIn wsX3_slice wsX3_rowOf := goodIn_r _ [9, 10, 11, 12, 60, 61, 62, 63, 64, 65] (by decide +kernel) (by decide +kernel)
set_option maxRecDepth 20000 in
theorem gX3_slice_X3_rowOf : GoodIn wsX3_slice (wsV RX3 39 RX3 yX3_rowOf wsX3_rowOf) := goodIn_app (goodIn_of _ (by decide +kernel)) ggX3_slice_X3_rowOf
set_option maxRecDepth 20000 in
theorem ggX3_slice_X3_fail : GoodIn wsX3_slice wsX3_fail := goodIn_r _ [16, 11, 60, 61] (by decide +kernel) (by decide +kernel)
set_option maxRecDepth 20000 in
theorem gX3_slice_X3_fail : GoodIn wsX3_slice (wsV RX3 24 RX3 yX3_fail wsX3_fail) := goodIn_app (goodIn_of _ (by decide +kernel)) ggX3_slice_X3_fail
set_option maxRecDepth 20000 in
theorem ggX3_slice_X1_hasRange : GoodIn wsX3_slice wsX1_hasRange := goodIn_r _ [21, 22, 62, 63, 64, 65] (by decide +kernel) (by decide +kernel)
set_option maxRecDepth 20000 in
theorem gX3_slice_X1_hasRange : GoodIn wsX3_slice (wsV RX3 84 RX1 yX1_hasRange wsX1_hasRange) := goodIn_app (goodIn_of _ (by decide +kernel)) ggX3_slice_X1_hasRange
set_option maxRecDepth 20000 in
theorem ggX3_slice_X1_cut : GoodIn wsX3_slice wsX1_cut := goodIn_r _ [26, 27, 28, 20, 29, 30, 31, 32, 22, 33, 34, 35, 36, 37, 38, 39, 40, 41, 42, 43, 44, 45, 46, 47, 48, 49, 50, 51, 52, 53, 54, 62, 63, 64, 65] (by decide +kernel) (by decide +kernel)
set_option maxRecDepth 20000 in
theorem gX3_slice_X1_cut : GoodIn wsX3_slice (wsV RX3 106 RX1 yX1_cut wsX1_cut) := goodIn_app (goodIn_of _ (by decide +kernel)) ggX3_slice_X1_cut
set_option maxRecDepth 20000 in
theorem ggX3_slice_X3_put : GoodIn wsX3_slice wsX3_put := goodIn_r _ [58, 10, 11, 59, 60, 61, 62, 63, 64, 65] (by decide +kernel) (by decide +kernel)
set_option maxRecDepth 20000 in
theorem gX3_slice_X3_put : GoodIn wsX3_slice (wsV RX3 31 RX3 yX3_put wsX3_put) := goodIn_app (goodIn_of _ (by decide +kernel)) ggX3_slice_X3_put
theorem dX3_slice_0 : decode cX3_slice 0 = .ok (.iload_n 1, 1) := by decide +kernel
theorem dX3_slice_1 : decode cX3_slice 1 = .ok (.invokestatic 19, 3) := by decide +kernel
theorem dX3_slice_4 : decode cX3_slice 4 = .ok (.ifCond .ne 10, 3) := by decide +kernel
theorem dX3_slice_7 : decode cX3_slice 7 = .ok (.iload_n 2, 1) := by decide +kernel
theorem dX3_slice_8 : decode cX3_slice 8 = .ok (.invokestatic 19, 3) := by decide +kernel
theorem dX3_slice_11 : decode cX3_slice 11 = .ok (.ifCond .eq 6, 3) := by decide +kernel
theorem dX3_slice_14 : decode cX3_slice 14 = .ok (.ldc 23, 2) := by decide +kernel
theorem dX3_slice_16 : decode cX3_slice 16 = .ok (.ireturn, 1) := by decide +kernel
theorem dX3_slice_17 : decode cX3_slice 17 = .ok (.aload_n 0, 1) := by decide +kernel
theorem dX3_slice_18 : decode cX3_slice 18 = .ok (.iload_n 2, 1) := by decide +kernel
theorem dX3_slice_19 : decode cX3_slice 19 = .ok (.bipush 63, 2) := by decide +kernel
theorem dX3_slice_21 : decode cX3_slice 21 = .ok (.invokevirtual 39, 3) := by decide +kernel
theorem dX3_slice_24 : decode cX3_slice 24 = .ok (.astore 5, 2) := by decide +kernel
theorem dX3_slice_26 : decode cX3_slice 26 = .ok (.aload 5, 2) := by decide +kernel
theorem dX3_slice_28 : decode cX3_slice 28 = .ok (.ifnonnull 5, 3) := by decide +kernel
theorem dX3_slice_31 : decode cX3_slice 31 = .ok (.iconst 0, 1) := by decide +kernel
theorem dX3_slice_32 : decode cX3_slice 32 = .ok (.ireturn, 1) := by decide +kernel
theorem dX3_slice_33 : decode cX3_slice 33 = .ok (.iload 4, 2) := by decide +kernel
theorem dX3_slice_35 : decode cX3_slice 35 = .ok (.ifCond .ge 9, 3) := by decide +kernel
theorem dX3_slice_38 : decode cX3_slice 38 = .ok (.aload_n 0, 1) := by decide +kernel
theorem dX3_slice_39 : decode cX3_slice 39 = .ok (.iconst 4, 1) := by decide +kernel
theorem dX3_slice_40 : decode cX3_slice 40 = .ok (.invokevirtual 24, 3) := by decide +kernel
theorem dX3_slice_43 : decode cX3_slice 43 = .ok (.ireturn, 1) := by decide +kernel
theorem dX3_slice_44 : decode cX3_slice 44 = .ok (.aload 5, 2) := by decide +kernel
theorem dX3_slice_46 : decode cX3_slice 46 = .ok (.iload_n 3, 1) := by decide +kernel
theorem dX3_slice_47 : decode cX3_slice 47 = .ok (.iload 4, 2) := by decide +kernel
theorem dX3_slice_49 : decode cX3_slice 49 = .ok (.invokevirtual 84, 3) := by decide +kernel
theorem dX3_slice_52 : decode cX3_slice 52 = .ok (.ifCond .ne 9, 3) := by decide +kernel
theorem dX3_slice_55 : decode cX3_slice 55 = .ok (.aload_n 0, 1) := by decide +kernel
theorem dX3_slice_56 : decode cX3_slice 56 = .ok (.iconst 3, 1) := by decide +kernel
theorem dX3_slice_57 : decode cX3_slice 57 = .ok (.invokevirtual 24, 3) := by decide +kernel
theorem dX3_slice_60 : decode cX3_slice 60 = .ok (.ireturn, 1) := by decide +kernel
theorem dX3_slice_61 : decode cX3_slice 61 = .ok (.aload_n 0, 1) := by decide +kernel
theorem dX3_slice_62 : decode cX3_slice 62 = .ok (.iload_n 1, 1) := by decide +kernel
theorem dX3_slice_63 : decode cX3_slice 63 = .ok (.aload 5, 2) := by decide +kernel
theorem dX3_slice_65 : decode cX3_slice 65 = .ok (.iload_n 3, 1) := by decide +kernel
theorem dX3_slice_66 : decode cX3_slice 66 = .ok (.iload 4, 2) := by decide +kernel
theorem dX3_slice_68 : decode cX3_slice 68 = .ok (.invokevirtual 106, 3) := by decide +kernel
theorem dX3_slice_71 : decode cX3_slice 71 = .ok (.invokevirtual 31, 3) := by decide +kernel
theorem dX3_slice_74 : decode cX3_slice 74 = .ok (.ireturn, 1) := by decide +kernel
set_option maxRecDepth 20000 in
theorem ggX3_join_X3_isOutside : GoodIn wsX3_join wsX3_isOutside := goodIn_r _ [11] (by decide +kernel) (by decide +kernel)
set_option maxRecDepth 20000 in
theorem gX3_join_X3_isOutside : GoodIn wsX3_join (va_wsS RX3 19 yX3_isOutside wsX3_isOutside) := goodIn_app (goodIn_of _ (by decide +kernel)) ggX3_join_X3_isOutside
set_option maxRecDepth 20000 in
theorem ggX3_join_X3_fail : GoodIn wsX3_join wsX3_fail := goodIn_r _ [15, 16, 70, 71] (by decide +kernel) (by decide +kernel)
set_option maxRecDepth 20000 in
theorem gX3_join_X3_fail : GoodIn wsX3_join (wsV RX3 24 RX3 yX3_fail wsX3_fail) := goodIn_app (goodIn_of _ (by decide +kernel)) ggX3_join_X3_fail
set_option maxRecDepth 20000 in
theorem ggX3_join_X1_mayTakeOf : GoodIn wsX3_join wsX1_mayTakeOf := goodIn_r _ [20, 21, 22, 23, 24, 7, 25, 72, 73, 74, 75] (by decide +kernel) (by decide +kernel)
set_option maxRecDepth 20000 in
theorem gX3_join_X1_mayTakeOf : GoodIn wsX3_join (wsV RX3 80 RX1 yX1_mayTakeOf wsX1_mayTakeOf) := goodIn_app (goodIn_of _ (by decide +kernel)) ggX3_join_X1_mayTakeOf
set_option maxRecDepth 20000 in
theorem ggX3_join_X1_countTaken : GoodIn wsX3_join wsX1_countTaken := goodIn_r _ [29, 30, 22, 23, 24, 7, 25, 21, 31, 32, 33, 34, 35, 36, 37, 38, 39, 40, 41, 42, 43, 44, 72, 73, 74, 75, 76, 77] (by decide +kernel) (by decide +kernel)
set_option maxRecDepth 20000 in
theorem gX3_join_X1_countTaken : GoodIn wsX3_join (wsV RX3 88 RX1 yX1_countTaken wsX1_countTaken) := goodIn_app (goodIn_of _ (by decide +kernel)) ggX3_join_X1_countTaken
set_option maxRecDepth 20000 in
theorem ggX3_join_X1_init : GoodIn wsX3_join wsX1_init := goodIn_r _ [47, 21, 48, 49, 50, 51, 30, 52, 53, 54, 55, 56, 57, 72, 73, 74, 75] (by decide +kernel) (by decide +kernel)
set_option maxRecDepth 20000 in
theorem gX3_join_X1_init : GoodIn wsX3_join (wsX1_init) := ggX3_join_X1_init
set_option maxRecDepth 20000 in
theorem ggX3_join_X1_take : GoodIn wsX3_join wsX1_take := goodIn_r _ [61, 50, 62, 63, 64, 65, 30, 22, 23, 24, 7, 25, 21, 72, 73, 74, 75] (by decide +kernel) (by decide +kernel)
set_option maxRecDepth 20000 in
theorem gX3_join_X1_take : GoodIn wsX3_join (wsV RX3 92 RX1 yX1_take wsX1_take) := goodIn_app (goodIn_of _ (by decide +kernel)) ggX3_join_X1_take
set_option maxRecDepth 20000 in
theorem ggX3_join_X3_put : GoodIn wsX3_join wsX3_put := goodIn_r _ [69, 2, 16, 4, 70, 71, 72, 73, 74, 75] (by decide +kernel) (by decide +kernel)
set_option maxRecDepth 20000 in
theorem gX3_join_X3_put : GoodIn wsX3_join (wsV RX3 31 RX3 yX3_put wsX3_put) := goodIn_app (goodIn_of _ (by decide +kernel)) ggX3_join_X3_put
theorem dX3_join_0 : decode cX3_join 0 = .ok (.iload_n 1, 1) := by decide +kernel
theorem dX3_join_1 : decode cX3_join 1 = .ok (.invokestatic 19, 3) := by decide +kernel
theorem dX3_join_4 : decode cX3_join 4 = .ok (.ifCond .ne 17, 3) := by decide +kernel
theorem dX3_join_7 : decode cX3_join 7 = .ok (.iload_n 2, 1) := by decide +kernel
theorem dX3_join_8 : decode cX3_join 8 = .ok (.invokestatic 19, 3) := by decide +kernel
theorem dX3_join_11 : decode cX3_join 11 = .ok (.ifCond .ne 10, 3) := by decide +kernel
theorem dX3_join_14 : decode cX3_join 14 = .ok (.iload_n 3, 1) := by decide +kernel
theorem dX3_join_15 : decode cX3_join 15 = .ok (.invokestatic 19, 3) := by decide +kernel
theorem dX3_join_18 : decode cX3_join 18 = .ok (.ifCond .eq 6, 3) := by decide +kernel
theorem dX3_join_21 : decode cX3_join 21 = .ok (.ldc 23, 2) := by decide +kernel
theorem dX3_join_23 : decode cX3_join 23 = .ok (.ireturn, 1) := by decide +kernel
theorem dX3_join_24 : decode cX3_join 24 = .ok (.aload_n 0, 1) := by decide +kernel
theorem dX3_join_25 : decode cX3_join 25 = .ok (.getfield 11, 3) := by decide +kernel
theorem dX3_join_28 : decode cX3_join 28 = .ok (.iload_n 2, 1) := by decide +kernel
theorem dX3_join_29 : decode cX3_join 29 = .ok (.aaload, 1) := by decide +kernel
theorem dX3_join_30 : decode cX3_join 30 = .ok (.astore 4, 2) := by decide +kernel
theorem dX3_join_32 : decode cX3_join 32 = .ok (.aload_n 0, 1) := by decide +kernel
theorem dX3_join_33 : decode cX3_join 33 = .ok (.getfield 11, 3) := by decide +kernel
theorem dX3_join_36 : decode cX3_join 36 = .ok (.iload_n 3, 1) := by decide +kernel
theorem dX3_join_37 : decode cX3_join 37 = .ok (.aaload, 1) := by decide +kernel
theorem dX3_join_38 : decode cX3_join 38 = .ok (.astore 5, 2) := by decide +kernel
theorem dX3_join_40 : decode cX3_join 40 = .ok (.aload 4, 2) := by decide +kernel
theorem dX3_join_42 : decode cX3_join 42 = .ok (.ifnull 8, 3) := by decide +kernel
theorem dX3_join_45 : decode cX3_join 45 = .ok (.aload 5, 2) := by decide +kernel
theorem dX3_join_47 : decode cX3_join 47 = .ok (.ifnonnull 9, 3) := by decide +kernel
theorem dX3_join_50 : decode cX3_join 50 = .ok (.aload_n 0, 1) := by decide +kernel
theorem dX3_join_51 : decode cX3_join 51 = .ok (.iconst 1, 1) := by decide +kernel
theorem dX3_join_52 : decode cX3_join 52 = .ok (.invokevirtual 24, 3) := by decide +kernel
theorem dX3_join_55 : decode cX3_join 55 = .ok (.ireturn, 1) := by decide +kernel
theorem dX3_join_56 : decode cX3_join 56 = .ok (.aload 4, 2) := by decide +kernel
theorem dX3_join_58 : decode cX3_join 58 = .ok (.getfield 53, 3) := by decide +kernel
theorem dX3_join_61 : decode cX3_join 61 = .ok (.bipush 6, 2) := by decide +kernel
theorem dX3_join_63 : decode cX3_join 63 = .ok (.if_icmp .eq 13, 3) := by decide +kernel
theorem dX3_join_66 : decode cX3_join 66 = .ok (.aload 5, 2) := by decide +kernel
theorem dX3_join_68 : decode cX3_join 68 = .ok (.getfield 53, 3) := by decide +kernel
theorem dX3_join_71 : decode cX3_join 71 = .ok (.bipush 6, 2) := by decide +kernel
theorem dX3_join_73 : decode cX3_join 73 = .ok (.if_icmp .ne 9, 3) := by decide +kernel
theorem dX3_join_76 : decode cX3_join 76 = .ok (.aload_n 0, 1) := by decide +kernel
theorem dX3_join_77 : decode cX3_join 77 = .ok (.iconst 5, 1) := by decide +kernel
theorem dX3_join_78 : decode cX3_join 78 = .ok (.invokevirtual 24, 3) := by decide +kernel
theorem dX3_join_81 : decode cX3_join 81 = .ok (.ireturn, 1) := by decide +kernel
theorem dX3_join_82 : decode cX3_join 82 = .ok (.aload 4, 2) := by decide +kernel
theorem dX3_join_84 : decode cX3_join 84 = .ok (.getfield 43, 3) := by decide +kernel
theorem dX3_join_87 : decode cX3_join 87 = .ok (.aload 5, 2) := by decide +kernel
theorem dX3_join_89 : decode cX3_join 89 = .ok (.getfield 43, 3) := by decide +kernel
theorem dX3_join_92 : decode cX3_join 92 = .ok (.iadd, 1) := by decide +kernel
theorem dX3_join_93 : decode cX3_join 93 = .ok (.bipush 40, 2) := by decide +kernel
theorem dX3_join_95 : decode cX3_join 95 = .ok (.if_icmp .le 9, 3) := by decide +kernel
theorem dX3_join_98 : decode cX3_join 98 = .ok (.aload_n 0, 1) := by decide +kernel
theorem dX3_join_99 : decode cX3_join 99 = .ok (.iconst 3, 1) := by decide +kernel
theorem dX3_join_100 : decode cX3_join 100 = .ok (.invokevirtual 24, 3) := by decide +kernel
theorem dX3_join_103 : decode cX3_join 103 = .ok (.ireturn, 1) := by decide +kernel
theorem dX3_join_104 : decode cX3_join 104 = .ok (.aload 4, 2) := by decide +kernel
theorem dX3_join_106 : decode cX3_join 106 = .ok (.aload 5, 2) := by decide +kernel
theorem dX3_join_108 : decode cX3_join 108 = .ok (.invokevirtual 80, 3) := by decide +kernel
theorem dX3_join_111 : decode cX3_join 111 = .ok (.ifCond .eq 24, 3) := by decide +kernel
theorem dX3_join_114 : decode cX3_join 114 = .ok (.aload 4, 2) := by decide +kernel
theorem dX3_join_116 : decode cX3_join 116 = .ok (.aload 5, 2) := by decide +kernel
theorem dX3_join_118 : decode cX3_join 118 = .ok (.iconst 0, 1) := by decide +kernel
theorem dX3_join_119 : decode cX3_join 119 = .ok (.aload 5, 2) := by decide +kernel
theorem dX3_join_121 : decode cX3_join 121 = .ok (.getfield 43, 3) := by decide +kernel
theorem dX3_join_124 : decode cX3_join 124 = .ok (.invokevirtual 88, 3) := by decide +kernel
theorem dX3_join_127 : decode cX3_join 127 = .ok (.aload 5, 2) := by decide +kernel
theorem dX3_join_129 : decode cX3_join 129 = .ok (.getfield 43, 3) := by decide +kernel
theorem dX3_join_132 : decode cX3_join 132 = .ok (.if_icmp .ge 9, 3) := by decide +kernel
theorem dX3_join_135 : decode cX3_join 135 = .ok (.aload_n 0, 1) := by decide +kernel
theorem dX3_join_136 : decode cX3_join 136 = .ok (.iconst 2, 1) := by decide +kernel
theorem dX3_join_137 : decode cX3_join 137 = .ok (.invokevirtual 24, 3) := by decide +kernel
theorem dX3_join_140 : decode cX3_join 140 = .ok (.ireturn, 1) := by decide +kernel
theorem dX3_join_141 : decode cX3_join 141 = .ok (.new 9, 3) := by decide +kernel
theorem dX3_join_144 : decode cX3_join 144 = .ok (.dup, 1) := by decide +kernel
theorem dX3_join_145 : decode cX3_join 145 = .ok (.aload 4, 2) := by decide +kernel
theorem dX3_join_147 : decode cX3_join 147 = .ok (.getfield 53, 3) := by decide +kernel
theorem dX3_join_150 : decode cX3_join 150 = .ok (.aload 4, 2) := by decide +kernel
theorem dX3_join_152 : decode cX3_join 152 = .ok (.getfield 43, 3) := by decide +kernel
theorem dX3_join_155 : decode cX3_join 155 = .ok (.aload 5, 2) := by decide +kernel
theorem dX3_join_157 : decode cX3_join 157 = .ok (.getfield 43, 3) := by decide +kernel
theorem dX3_join_160 : decode cX3_join 160 = .ok (.iadd, 1) := by decide +kernel
theorem dX3_join_161 : decode cX3_join 161 = .ok (.invokespecial 28, 3) := by decide +kernel
theorem dX3_join_164 : decode cX3_join 164 = .ok (.astore 6, 2) := by decide +kernel
theorem dX3_join_166 : decode cX3_join 166 = .ok (.aload 6, 2) := by decide +kernel
theorem dX3_join_168 : decode cX3_join 168 = .ok (.aload 4, 2) := by decide +kernel
theorem dX3_join_170 : decode cX3_join 170 = .ok (.iconst 0, 1) := by decide +kernel
theorem dX3_join_171 : decode cX3_join 171 = .ok (.iconst 0, 1) := by decide +kernel
theorem dX3_join_172 : decode cX3_join 172 = .ok (.aload 4, 2) := by decide +kernel
theorem dX3_join_174 : decode cX3_join 174 = .ok (.getfield 43, 3) := by decide +kernel
theorem dX3_join_177 : decode cX3_join 177 = .ok (.invokevirtual 92, 3) := by decide +kernel
theorem dX3_join_180 : decode cX3_join 180 = .ok (.aload 6, 2) := by decide +kernel
theorem dX3_join_182 : decode cX3_join 182 = .ok (.aload 5, 2) := by decide +kernel
theorem dX3_join_184 : decode cX3_join 184 = .ok (.iconst 0, 1) := by decide +kernel
theorem dX3_join_185 : decode cX3_join 185 = .ok (.aload 4, 2) := by decide +kernel
theorem dX3_join_187 : decode cX3_join 187 = .ok (.getfield 43, 3) := by decide +kernel
theorem dX3_join_190 : decode cX3_join 190 = .ok (.aload 5, 2) := by decide +kernel
theorem dX3_join_192 : decode cX3_join 192 = .ok (.getfield 43, 3) := by decide +kernel
theorem dX3_join_195 : decode cX3_join 195 = .ok (.invokevirtual 92, 3) := by decide +kernel
theorem dX3_join_198 : decode cX3_join 198 = .ok (.aload_n 0, 1) := by decide +kernel
theorem dX3_join_199 : decode cX3_join 199 = .ok (.iload_n 1, 1) := by decide +kernel
theorem dX3_join_200 : decode cX3_join 200 = .ok (.aload 6, 2) := by decide +kernel
theorem dX3_join_202 : decode cX3_join 202 = .ok (.invokevirtual 31, 3) := by decide +kernel
theorem dX3_join_205 : decode cX3_join 205 = .ok (.ireturn, 1) := by decide +kernel
set_option maxRecDepth 20000 in
theorem ggX3_update_X3_isOutside : GoodIn wsX3_update wsX3_isOutside := goodIn_r _ [10] (by decide +kernel) (by decide +kernel)
set_option maxRecDepth 20000 in
theorem gX3_update_X3_isOutside : GoodIn wsX3_update (va_wsS RX3 19 yX3_isOutside wsX3_isOutside) := goodIn_app (goodIn_of _ (by decide +kernel)) ggX3_update_X3_isOutside
set_option maxRecDepth 20000 in
theorem ggX3_update_X3_fail : GoodIn wsX3_update wsX3_fail := goodIn_r _ [14, 4, 21, 22] (by decide +kernel) (by decide +kernel)
set_option maxRecDepth 20000 in
theorem gX3_update_X3_fail : GoodIn wsX3_update (wsV RX3 24 RX3 yX3_fail wsX3_fail) := goodIn_app (goodIn_of _ (by decide +kernel)) ggX3_update_X3_fail
set_option maxRecDepth 20000 in
theorem ggX3_update_X1_has : GoodIn wsX3_update wsX1_has := goodIn_r _ [19, 20, 23, 24, 25, 26] (by decide +kernel) (by decide +kernel)
set_option maxRecDepth 20000 in
theorem gX3_update_X1_has : GoodIn wsX3_update (wsV RX3 46 RX1 yX1_has wsX1_has) := goodIn_app (goodIn_of _ (by decide +kernel)) ggX3_update_X1_has
theorem dX3_update_0 : decode cX3_update 0 = .ok (.iload_n 1, 1) := by decide +kernel
theorem dX3_update_1 : decode cX3_update 1 = .ok (.invokestatic 19, 3) := by decide +kernel
theorem dX3_update_4 : decode cX3_update 4 = .ok (.ifCond .ne 17, 3) := by decide +kernel
theorem dX3_update_7 : decode cX3_update 7 = .ok (.iload_n 2, 1) := by decide +kernel
theorem dX3_update_8 : decode cX3_update 8 = .ok (.invokestatic 19, 3) := by decide +kernel
theorem dX3_update_11 : decode cX3_update 11 = .ok (.ifCond .ne 10, 3) := by decide +kernel
theorem dX3_update_14 : decode cX3_update 14 = .ok (.iload_n 3, 1) := by decide +kernel
theorem dX3_update_15 : decode cX3_update 15 = .ok (.invokestatic 19, 3) := by decide +kernel
theorem dX3_update_18 : decode cX3_update 18 = .ok (.ifCond .eq 6, 3) := by decide +kernel
theorem dX3_update_21 : decode cX3_update 21 = .ok (.ldc 23, 2) := by decide +kernel
theorem dX3_update_23 : decode cX3_update 23 = .ok (.ireturn, 1) := by decide +kernel
theorem dX3_update_24 : decode cX3_update 24 = .ok (.aload_n 0, 1) := by decide +kernel
theorem dX3_update_25 : decode cX3_update 25 = .ok (.getfield 11, 3) := by decide +kernel
theorem dX3_update_28 : decode cX3_update 28 = .ok (.iload_n 1, 1) := by decide +kernel
theorem dX3_update_29 : decode cX3_update 29 = .ok (.aaload, 1) := by decide +kernel
theorem dX3_update_30 : decode cX3_update 30 = .ok (.astore 4, 2) := by decide +kernel
theorem dX3_update_32 : decode cX3_update 32 = .ok (.aload_n 0, 1) := by decide +kernel
theorem dX3_update_33 : decode cX3_update 33 = .ok (.getfield 11, 3) := by decide +kernel
theorem dX3_update_36 : decode cX3_update 36 = .ok (.iload_n 2, 1) := by decide +kernel
theorem dX3_update_37 : decode cX3_update 37 = .ok (.aaload, 1) := by decide +kernel
theorem dX3_update_38 : decode cX3_update 38 = .ok (.astore 5, 2) := by decide +kernel
theorem dX3_update_40 : decode cX3_update 40 = .ok (.aload_n 0, 1) := by decide +kernel
theorem dX3_update_41 : decode cX3_update 41 = .ok (.getfield 11, 3) := by decide +kernel
theorem dX3_update_44 : decode cX3_update 44 = .ok (.iload_n 3, 1) := by decide +kernel
theorem dX3_update_45 : decode cX3_update 45 = .ok (.aaload, 1) := by decide +kernel
theorem dX3_update_46 : decode cX3_update 46 = .ok (.astore 6, 2) := by decide +kernel
theorem dX3_update_48 : decode cX3_update 48 = .ok (.aload 4, 2) := by decide +kernel
theorem dX3_update_50 : decode cX3_update 50 = .ok (.ifnull 13, 3) := by decide +kernel
theorem dX3_update_53 : decode cX3_update 53 = .ok (.aload 5, 2) := by decide +kernel
theorem dX3_update_55 : decode cX3_update 55 = .ok (.ifnull 8, 3) := by decide +kernel
theorem dX3_update_58 : decode cX3_update 58 = .ok (.aload 6, 2) := by decide +kernel
theorem dX3_update_60 : decode cX3_update 60 = .ok (.ifnonnull 9, 3) := by decide +kernel
theorem dX3_update_63 : decode cX3_update 63 = .ok (.aload_n 0, 1) := by decide +kernel
theorem dX3_update_64 : decode cX3_update 64 = .ok (.iconst 1, 1) := by decide +kernel
theorem dX3_update_65 : decode cX3_update 65 = .ok (.invokevirtual 24, 3) := by decide +kernel
theorem dX3_update_68 : decode cX3_update 68 = .ok (.ireturn, 1) := by decide +kernel
theorem dX3_update_69 : decode cX3_update 69 = .ok (.aload 4, 2) := by decide +kernel
theorem dX3_update_71 : decode cX3_update 71 = .ok (.getfield 53, 3) := by decide +kernel
theorem dX3_update_74 : decode cX3_update 74 = .ok (.iconst 1, 1) := by decide +kernel
theorem dX3_update_75 : decode cX3_update 75 = .ok (.if_icmp .ne 21, 3) := by decide +kernel
theorem dX3_update_78 : decode cX3_update 78 = .ok (.aload 5, 2) := by decide +kernel
theorem dX3_update_80 : decode cX3_update 80 = .ok (.getfield 53, 3) := by decide +kernel
theorem dX3_update_83 : decode cX3_update 83 = .ok (.iconst 1, 1) := by decide +kernel
theorem dX3_update_84 : decode cX3_update 84 = .ok (.if_icmp .ne 12, 3) := by decide +kernel
theorem dX3_update_87 : decode cX3_update 87 = .ok (.aload 6, 2) := by decide +kernel
theorem dX3_update_89 : decode cX3_update 89 = .ok (.getfield 53, 3) := by decide +kernel
theorem dX3_update_92 : decode cX3_update 92 = .ok (.iconst 1, 1) := by decide +kernel
theorem dX3_update_93 : decode cX3_update 93 = .ok (.if_icmp .eq 9, 3) := by decide +kernel
theorem dX3_update_96 : decode cX3_update 96 = .ok (.aload_n 0, 1) := by decide +kernel
theorem dX3_update_97 : decode cX3_update 97 = .ok (.iconst 5, 1) := by decide +kernel
theorem dX3_update_98 : decode cX3_update 98 = .ok (.invokevirtual 24, 3) := by decide +kernel
theorem dX3_update_101 : decode cX3_update 101 = .ok (.ireturn, 1) := by decide +kernel
theorem dX3_update_102 : decode cX3_update 102 = .ok (.aload_n 0, 1) := by decide +kernel
theorem dX3_update_103 : decode cX3_update 103 = .ok (.iconst 0, 1) := by decide +kernel
theorem dX3_update_104 : decode cX3_update 104 = .ok (.putfield 15, 3) := by decide +kernel
theorem dX3_update_107 : decode cX3_update 107 = .ok (.iconst 0, 1) := by decide +kernel
theorem dX3_update_108 : decode cX3_update 108 = .ok (.istore 7, 2) := by decide +kernel
theorem dX3_update_110 : decode cX3_update 110 = .ok (.iload 7, 2) := by decide +kernel
theorem dX3_update_112 : decode cX3_update 112 = .ok (.aload 5, 2) := by decide +kernel
theorem dX3_update_114 : decode cX3_update 114 = .ok (.getfield 43, 3) := by decide +kernel
theorem dX3_update_117 : decode cX3_update 117 = .ok (.if_icmp .ge 63, 3) := by decide +kernel
theorem dX3_update_120 : decode cX3_update 120 = .ok (.aload 5, 2) := by decide +kernel
theorem dX3_update_122 : decode cX3_update 122 = .ok (.getfield 49, 3) := by decide +kernel
theorem dX3_update_125 : decode cX3_update 125 = .ok (.iload 7, 2) := by decide +kernel
theorem dX3_update_127 : decode cX3_update 127 = .ok (.iaload, 1) := by decide +kernel
theorem dX3_update_128 : decode cX3_update 128 = .ok (.istore 8, 2) := by decide +kernel
theorem dX3_update_130 : decode cX3_update 130 = .ok (.aload 6, 2) := by decide +kernel
theorem dX3_update_132 : decode cX3_update 132 = .ok (.iload 8, 2) := by decide +kernel
theorem dX3_update_134 : decode cX3_update 134 = .ok (.invokevirtual 46, 3) := by decide +kernel
theorem dX3_update_137 : decode cX3_update 137 = .ok (.ifCond .eq 13, 3) := by decide +kernel
theorem dX3_update_140 : decode cX3_update 140 = .ok (.aload 4, 2) := by decide +kernel
theorem dX3_update_142 : decode cX3_update 142 = .ok (.iload 8, 2) := by decide +kernel
theorem dX3_update_144 : decode cX3_update 144 = .ok (.invokevirtual 46, 3) := by decide +kernel
theorem dX3_update_147 : decode cX3_update 147 = .ok (.ifCond .ne 11, 3) := by decide +kernel
theorem dX3_update_150 : decode cX3_update 150 = .ok (.aload_n 0, 1) := by decide +kernel
theorem dX3_update_151 : decode cX3_update 151 = .ok (.iconst 3, 1) := by decide +kernel
theorem dX3_update_152 : decode cX3_update 152 = .ok (.putfield 15, 3) := by decide +kernel
theorem dX3_update_155 : decode cX3_update 155 = .ok (.iload 7, 2) := by decide +kernel
theorem dX3_update_157 : decode cX3_update 157 = .ok (.ireturn, 1) := by decide +kernel
theorem dX3_update_158 : decode cX3_update 158 = .ok (.aload 4, 2) := by decide +kernel
theorem dX3_update_160 : decode cX3_update 160 = .ok (.getfield 49, 3) := by decide +kernel
theorem dX3_update_163 : decode cX3_update 163 = .ok (.iload 8, 2) := by decide +kernel
theorem dX3_update_165 : decode cX3_update 165 = .ok (.aload 6, 2) := by decide +kernel
theorem dX3_update_167 : decode cX3_update 167 = .ok (.getfield 49, 3) := by decide +kernel
theorem dX3_update_170 : decode cX3_update 170 = .ok (.iload 8, 2) := by decide +kernel
theorem dX3_update_172 : decode cX3_update 172 = .ok (.iaload, 1) := by decide +kernel
theorem dX3_update_173 : decode cX3_update 173 = .ok (.iastore, 1) := by decide +kernel
theorem dX3_update_174 : decode cX3_update 174 = .ok (.iinc 7 1, 3) := by decide +kernel
theorem dX3_update_177 : decode cX3_update 177 = .ok (.goto (-67), 3) := by decide +kernel
theorem dX3_update_180 : decode cX3_update 180 = .ok (.aload 5, 2) := by decide +kernel
theorem dX3_update_182 : decode cX3_update 182 = .ok (.getfield 43, 3) := by decide +kernel
theorem dX3_update_185 : decode cX3_update 185 = .ok (.ireturn, 1) := by decide +kernel
set_option maxRecDepth 20000 in
theorem ggX3_rotate_X3_isOutside : GoodIn wsX3_rotate wsX3_isOutside := goodIn_r _ [6] (by decide +kernel) (by decide +kernel)
set_option maxRecDepth 20000 in
theorem gX3_rotate_X3_isOutside : GoodIn wsX3_rotate (va_wsS RX3 19 yX3_isOutside wsX3_isOutside) := goodIn_app (goodIn_of _ (by decide +kernel)) ggX3_rotate_X3_isOutside
set_option maxRecDepth 20000 in
theorem ggX3_rotate_X3_rowOf : GoodIn wsX3_rotate wsX3_rowOf := goodIn_r _ [10, 11, 12, 13, 61, 62, 57, 58, 59, 60] (by decide +kernel) (by decide +kernel)
set_option maxRecDepth 20000 in
theorem gX3_rotate_X3_rowOf : GoodIn wsX3_rotate (wsV RX3 39 RX3 yX3_rowOf wsX3_rowOf) := goodIn_app (goodIn_of _ (by decide +kernel)) ggX3_rotate_X3_rowOf
set_option maxRecDepth 20000 in
theorem ggX3_rotate_X3_fail : GoodIn wsX3_rotate wsX3_fail := goodIn_r _ [17, 12, 61, 62] (by decide +kernel) (by decide +kernel)
set_option maxRecDepth 20000 in
theorem gX3_rotate_X3_fail : GoodIn wsX3_rotate (wsV RX3 24 RX3 yX3_fail wsX3_fail) := goodIn_app (goodIn_of _ (by decide +kernel)) ggX3_rotate_X3_fail
set_option maxRecDepth 20000 in
theorem ggX3_rotate_J9_floorMod_7cf53 : GoodIn wsX3_rotate wsJ9_floorMod_7cf53 := goodIn_r _ [21] (by decide +kernel) (by decide +kernel)
set_option maxRecDepth 20000 in
theorem gX3_rotate_J9_floorMod_7cf53 : GoodIn wsX3_rotate (va_wsS RX3 109 yJ9_floorMod_7cf53 wsJ9_floorMod_7cf53) := goodIn_app (goodIn_of _ (by decide +kernel)) ggX3_rotate_J9_floorMod_7cf53
set_option maxRecDepth 20000 in
theorem ggX3_rotate_X1_cut : GoodIn wsX3_rotate wsX1_cut := goodIn_r _ [26, 27, 28, 25, 29, 30, 31, 32, 33, 34, 35, 36, 37, 38, 39, 40, 41, 42, 43, 44, 45, 46, 47, 48, 49, 50, 51, 52, 53, 54, 55, 57, 58, 59, 60] (by decide +kernel) (by decide +kernel)
set_option maxRecDepth 20000 in
theorem gX3_rotate_X1_cut : GoodIn wsX3_rotate (wsV RX3 106 RX1 yX1_cut wsX1_cut) := goodIn_app (goodIn_of _ (by decide +kernel)) ggX3_rotate_X1_cut
set_option maxRecDepth 20000 in
theorem ggX3_rotate_X1_take : GoodIn wsX3_rotate wsX1_take := goodIn_r _ [47, 35, 48, 49, 50, 51, 37, 52, 53, 54, 25, 55, 29, 57, 58, 59, 60] (by decide +kernel) (by decide +kernel)
set_option maxRecDepth 20000 in
theorem gX3_rotate_X1_take : GoodIn wsX3_rotate (wsV RX3 92 RX1 yX1_take wsX1_take) := goodIn_app (goodIn_of _ (by decide +kernel)) ggX3_rotate_X1_take
theorem dX3_rotate_0 : decode cX3_rotate 0 = .ok (.iload_n 1, 1) := by decide +kernel
theorem dX3_rotate_1 : decode cX3_rotate 1 = .ok (.invokestatic 19, 3) := by decide +kernel
theorem dX3_rotate_4 : decode cX3_rotate 4 = .ok (.ifCond .eq 6, 3) := by decide +kernel
theorem dX3_rotate_7 : decode cX3_rotate 7 = .ok (.ldc 23, 2) := by decide +kernel
theorem dX3_rotate_9 : decode cX3_rotate 9 = .ok (.ireturn, 1) := by decide +kernel
theorem dX3_rotate_10 : decode cX3_rotate 10 = .ok (.aload_n 0, 1) := by decide +kernel
theorem dX3_rotate_11 : decode cX3_rotate 11 = .ok (.iload_n 1, 1) := by decide +kernel
theorem dX3_rotate_12 : decode cX3_rotate 12 = .ok (.bipush 63, 2) := by decide +kernel
theorem dX3_rotate_14 : decode cX3_rotate 14 = .ok (.invokevirtual 39, 3) := by decide +kernel
theorem dX3_rotate_17 : decode cX3_rotate 17 = .ok (.astore_n 3, 1) := by decide +kernel
theorem dX3_rotate_18 : decode cX3_rotate 18 = .ok (.aload_n 3, 1) := by decide +kernel
theorem dX3_rotate_19 : decode cX3_rotate 19 = .ok (.ifnonnull 5, 3) := by decide +kernel
theorem dX3_rotate_22 : decode cX3_rotate 22 = .ok (.iconst 0, 1) := by decide +kernel
theorem dX3_rotate_23 : decode cX3_rotate 23 = .ok (.ireturn, 1) := by decide +kernel
theorem dX3_rotate_24 : decode cX3_rotate 24 = .ok (.aload_n 3, 1) := by decide +kernel
theorem dX3_rotate_25 : decode cX3_rotate 25 = .ok (.getfield 43, 3) := by decide +kernel
theorem dX3_rotate_28 : decode cX3_rotate 28 = .ok (.ifCond .ne 10, 3) := by decide +kernel
theorem dX3_rotate_31 : decode cX3_rotate 31 = .ok (.aload_n 0, 1) := by decide +kernel
theorem dX3_rotate_32 : decode cX3_rotate 32 = .ok (.bipush 6, 2) := by decide +kernel
theorem dX3_rotate_34 : decode cX3_rotate 34 = .ok (.invokevirtual 24, 3) := by decide +kernel
theorem dX3_rotate_37 : decode cX3_rotate 37 = .ok (.ireturn, 1) := by decide +kernel
theorem dX3_rotate_38 : decode cX3_rotate 38 = .ok (.iload_n 2, 1) := by decide +kernel
theorem dX3_rotate_39 : decode cX3_rotate 39 = .ok (.aload_n 3, 1) := by decide +kernel
theorem dX3_rotate_40 : decode cX3_rotate 40 = .ok (.getfield 43, 3) := by decide +kernel
theorem dX3_rotate_43 : decode cX3_rotate 43 = .ok (.invokestatic 109, 3) := by decide +kernel
theorem dX3_rotate_46 : decode cX3_rotate 46 = .ok (.istore 4, 2) := by decide +kernel
theorem dX3_rotate_48 : decode cX3_rotate 48 = .ok (.aload_n 3, 1) := by decide +kernel
theorem dX3_rotate_49 : decode cX3_rotate 49 = .ok (.iconst 0, 1) := by decide +kernel
theorem dX3_rotate_50 : decode cX3_rotate 50 = .ok (.aload_n 3, 1) := by decide +kernel
theorem dX3_rotate_51 : decode cX3_rotate 51 = .ok (.getfield 43, 3) := by decide +kernel
theorem dX3_rotate_54 : decode cX3_rotate 54 = .ok (.invokevirtual 106, 3) := by decide +kernel
theorem dX3_rotate_57 : decode cX3_rotate 57 = .ok (.astore 5, 2) := by decide +kernel
theorem dX3_rotate_59 : decode cX3_rotate 59 = .ok (.aload_n 3, 1) := by decide +kernel
theorem dX3_rotate_60 : decode cX3_rotate 60 = .ok (.aload 5, 2) := by decide +kernel
theorem dX3_rotate_62 : decode cX3_rotate 62 = .ok (.iconst 0, 1) := by decide +kernel
theorem dX3_rotate_63 : decode cX3_rotate 63 = .ok (.iload 4, 2) := by decide +kernel
theorem dX3_rotate_65 : decode cX3_rotate 65 = .ok (.aload_n 3, 1) := by decide +kernel
theorem dX3_rotate_66 : decode cX3_rotate 66 = .ok (.getfield 43, 3) := by decide +kernel
theorem dX3_rotate_69 : decode cX3_rotate 69 = .ok (.iload 4, 2) := by decide +kernel
theorem dX3_rotate_71 : decode cX3_rotate 71 = .ok (.isub, 1) := by decide +kernel
theorem dX3_rotate_72 : decode cX3_rotate 72 = .ok (.invokevirtual 92, 3) := by decide +kernel
theorem dX3_rotate_75 : decode cX3_rotate 75 = .ok (.aload_n 3, 1) := by decide +kernel
theorem dX3_rotate_76 : decode cX3_rotate 76 = .ok (.aload 5, 2) := by decide +kernel
theorem dX3_rotate_78 : decode cX3_rotate 78 = .ok (.aload_n 3, 1) := by decide +kernel
theorem dX3_rotate_79 : decode cX3_rotate 79 = .ok (.getfield 43, 3) := by decide +kernel
theorem dX3_rotate_82 : decode cX3_rotate 82 = .ok (.iload 4, 2) := by decide +kernel
theorem dX3_rotate_84 : decode cX3_rotate 84 = .ok (.isub, 1) := by decide +kernel
theorem dX3_rotate_85 : decode cX3_rotate 85 = .ok (.iconst 0, 1) := by decide +kernel
theorem dX3_rotate_86 : decode cX3_rotate 86 = .ok (.iload 4, 2) := by decide +kernel
theorem dX3_rotate_88 : decode cX3_rotate 88 = .ok (.invokevirtual 92, 3) := by decide +kernel
theorem dX3_rotate_91 : decode cX3_rotate 91 = .ok (.iload 4, 2) := by decide +kernel
theorem dX3_rotate_93 : decode cX3_rotate 93 = .ok (.ireturn, 1) := by decide +kernel
set_option maxRecDepth 20000 in
theorem ggX3_sum_X3_isOutside : GoodIn wsX3_sum wsX3_isOutside := goodIn_r _ [6] (by decide +kernel) (by decide +kernel)
set_option maxRecDepth 20000 in
theorem gX3_sum_X3_isOutside : GoodIn wsX3_sum (va_wsS RX3 19 yX3_isOutside wsX3_isOutside) := goodIn_app (goodIn_of _ (by decide +kernel)) ggX3_sum_X3_isOutside
set_option maxRecDepth 20000 in
theorem ggX3_sum_X3_rowOf : GoodIn wsX3_sum wsX3_rowOf := goodIn_r _ [10, 11, 12, 2, 34, 35, 30, 31, 32, 33] (by decide +kernel) (by decide +kernel)
set_option maxRecDepth 20000 in
theorem gX3_sum_X3_rowOf : GoodIn wsX3_sum (wsV RX3 39 RX3 yX3_rowOf wsX3_rowOf) := goodIn_app (goodIn_of _ (by decide +kernel)) ggX3_sum_X3_rowOf
set_option maxRecDepth 20000 in
theorem ggX3_sum_X3_sumOfTable : GoodIn wsX3_sum wsX3_sumOfTable := goodIn_r _ [16, 17, 18, 19, 20, 21, 22, 23, 24, 25, 26, 27, 28, 5, 29, 12, 30, 31, 32, 33, 34, 35] (by decide +kernel) (by decide +kernel)
set_option maxRecDepth 20000 in
theorem gX3_sum_X3_sumOfTable : GoodIn wsX3_sum (wsV RX3 112 RX3 yX3_sumOfTable wsX3_sumOfTable) := goodIn_app (goodIn_of _ (by decide +kernel)) ggX3_sum_X3_sumOfTable
set_option maxRecDepth 20000 in
theorem ggX3_sum_X1_total : GoodIn wsX3_sum wsX1_total := goodIn_r _ [24, 25, 30, 31, 32, 33] (by decide +kernel) (by decide +kernel)
set_option maxRecDepth 20000 in
theorem gX3_sum_X1_total : GoodIn wsX3_sum (wsV RX3 115 RX1 yX1_total wsX1_total) := goodIn_app (goodIn_of _ (by decide +kernel)) ggX3_sum_X1_total
theorem dX3_sum_0 : decode cX3_sum 0 = .ok (.iload_n 1, 1) := by decide +kernel
theorem dX3_sum_1 : decode cX3_sum 1 = .ok (.invokestatic 19, 3) := by decide +kernel
theorem dX3_sum_4 : decode cX3_sum 4 = .ok (.ifCond .eq 6, 3) := by decide +kernel
theorem dX3_sum_7 : decode cX3_sum 7 = .ok (.ldc 23, 2) := by decide +kernel
theorem dX3_sum_9 : decode cX3_sum 9 = .ok (.ireturn, 1) := by decide +kernel
theorem dX3_sum_10 : decode cX3_sum 10 = .ok (.aload_n 0, 1) := by decide +kernel
theorem dX3_sum_11 : decode cX3_sum 11 = .ok (.iload_n 1, 1) := by decide +kernel
theorem dX3_sum_12 : decode cX3_sum 12 = .ok (.bipush 7, 2) := by decide +kernel
theorem dX3_sum_14 : decode cX3_sum 14 = .ok (.invokevirtual 39, 3) := by decide +kernel
theorem dX3_sum_17 : decode cX3_sum 17 = .ok (.astore_n 2, 1) := by decide +kernel
theorem dX3_sum_18 : decode cX3_sum 18 = .ok (.aload_n 2, 1) := by decide +kernel
theorem dX3_sum_19 : decode cX3_sum 19 = .ok (.ifnonnull 5, 3) := by decide +kernel
theorem dX3_sum_22 : decode cX3_sum 22 = .ok (.iconst 0, 1) := by decide +kernel
theorem dX3_sum_23 : decode cX3_sum 23 = .ok (.ireturn, 1) := by decide +kernel
theorem dX3_sum_24 : decode cX3_sum 24 = .ok (.aload_n 2, 1) := by decide +kernel
theorem dX3_sum_25 : decode cX3_sum 25 = .ok (.getfield 53, 3) := by decide +kernel
theorem dX3_sum_28 : decode cX3_sum 28 = .ok (.iconst 2, 1) := by decide +kernel
theorem dX3_sum_29 : decode cX3_sum 29 = .ok (.if_icmp .ne 11, 3) := by decide +kernel
theorem dX3_sum_32 : decode cX3_sum 32 = .ok (.aload_n 0, 1) := by decide +kernel
theorem dX3_sum_33 : decode cX3_sum 33 = .ok (.aload_n 2, 1) := by decide +kernel
theorem dX3_sum_34 : decode cX3_sum 34 = .ok (.invokevirtual 112, 3) := by decide +kernel
theorem dX3_sum_37 : decode cX3_sum 37 = .ok (.goto 7, 3) := by decide +kernel
theorem dX3_sum_40 : decode cX3_sum 40 = .ok (.aload_n 2, 1) := by decide +kernel
theorem dX3_sum_41 : decode cX3_sum 41 = .ok (.invokevirtual 115, 3) := by decide +kernel
theorem dX3_sum_44 : decode cX3_sum 44 = .ok (.ireturn, 1) := by decide +kernel
set_option maxRecDepth 20000 in
theorem ggX3_mean_X3_isOutside : GoodIn wsX3_mean wsX3_isOutside := goodIn_r _ [6] (by decide +kernel) (by decide +kernel)
set_option maxRecDepth 20000 in
theorem gX3_mean_X3_isOutside : GoodIn wsX3_mean (va_wsS RX3 19 yX3_isOutside wsX3_isOutside) := goodIn_app (goodIn_of _ (by decide +kernel)) ggX3_mean_X3_isOutside
set_option maxRecDepth 20000 in
theorem ggX3_mean_X3_rowOf : GoodIn wsX3_mean wsX3_rowOf := goodIn_r _ [10, 11, 12, 13, 28, 29, 24, 25, 26, 27] (by decide +kernel) (by decide +kernel)
set_option maxRecDepth 20000 in
theorem gX3_mean_X3_rowOf : GoodIn wsX3_mean (wsV RX3 39 RX3 yX3_rowOf wsX3_rowOf) := goodIn_app (goodIn_of _ (by decide +kernel)) ggX3_mean_X3_rowOf
set_option maxRecDepth 20000 in
theorem ggX3_mean_X3_fail : GoodIn wsX3_mean wsX3_fail := goodIn_r _ [17, 12, 28, 29] (by decide +kernel) (by decide +kernel)
set_option maxRecDepth 20000 in
theorem gX3_mean_X3_fail : GoodIn wsX3_mean (wsV RX3 24 RX3 yX3_fail wsX3_fail) := goodIn_app (goodIn_of _ (by decide +kernel)) ggX3_mean_X3_fail
set_option maxRecDepth 20000 in
theorem ggX3_mean_X1_total : GoodIn wsX3_mean wsX1_total := goodIn_r _ [22, 23, 24, 25, 26, 27] (by decide +kernel) (by decide +kernel)
set_option maxRecDepth 20000 in
theorem gX3_mean_X1_total : GoodIn wsX3_mean (wsV RX3 115 RX1 yX1_total wsX1_total) := goodIn_app (goodIn_of _ (by decide +kernel)) ggX3_mean_X1_total
theorem dX3_mean_0 : decode cX3_mean 0 = .ok (.iload_n 1, 1) := by decide +kernel
theorem dX3_mean_1 : decode cX3_mean 1 = .ok (.invokestatic 19, 3) := by decide +kernel
theorem dX3_mean_4 : decode cX3_mean 4 = .ok (.ifCond .eq 6, 3) := by decide +kernel
theorem dX3_mean_7 : decode cX3_mean 7 = .ok (.ldc 23, 2) := by decide +kernel
theorem dX3_mean_9 : decode cX3_mean 9 = .ok (.ireturn, 1) := by decide +kernel
theorem dX3_mean_10 : decode cX3_mean 10 = .ok (.aload_n 0, 1) := by decide +kernel
theorem dX3_mean_11 : decode cX3_mean 11 = .ok (.iload_n 1, 1) := by decide +kernel
theorem dX3_mean_12 : decode cX3_mean 12 = .ok (.iconst 3, 1) := by decide +kernel
theorem dX3_mean_13 : decode cX3_mean 13 = .ok (.invokevirtual 39, 3) := by decide +kernel
theorem dX3_mean_16 : decode cX3_mean 16 = .ok (.astore_n 2, 1) := by decide +kernel
theorem dX3_mean_17 : decode cX3_mean 17 = .ok (.aload_n 2, 1) := by decide +kernel
theorem dX3_mean_18 : decode cX3_mean 18 = .ok (.ifnonnull 5, 3) := by decide +kernel
theorem dX3_mean_21 : decode cX3_mean 21 = .ok (.iconst 0, 1) := by decide +kernel
theorem dX3_mean_22 : decode cX3_mean 22 = .ok (.ireturn, 1) := by decide +kernel
theorem dX3_mean_23 : decode cX3_mean 23 = .ok (.aload_n 2, 1) := by decide +kernel
theorem dX3_mean_24 : decode cX3_mean 24 = .ok (.getfield 43, 3) := by decide +kernel
theorem dX3_mean_27 : decode cX3_mean 27 = .ok (.ifCond .ne 12, 3) := by decide +kernel
theorem dX3_mean_30 : decode cX3_mean 30 = .ok (.aload_n 0, 1) := by decide +kernel
theorem dX3_mean_31 : decode cX3_mean 31 = .ok (.bipush 6, 2) := by decide +kernel
theorem dX3_mean_33 : decode cX3_mean 33 = .ok (.invokevirtual 24, 3) := by decide +kernel
theorem dX3_mean_36 : decode cX3_mean 36 = .ok (.goto 12, 3) := by decide +kernel
theorem dX3_mean_39 : decode cX3_mean 39 = .ok (.aload_n 2, 1) := by decide +kernel
theorem dX3_mean_40 : decode cX3_mean 40 = .ok (.invokevirtual 115, 3) := by decide +kernel
theorem dX3_mean_43 : decode cX3_mean 43 = .ok (.aload_n 2, 1) := by decide +kernel
theorem dX3_mean_44 : decode cX3_mean 44 = .ok (.getfield 43, 3) := by decide +kernel
theorem dX3_mean_47 : decode cX3_mean 47 = .ok (.idiv, 1) := by decide +kernel
theorem dX3_mean_48 : decode cX3_mean 48 = .ok (.ireturn, 1) := by decide +kernel
set_option maxRecDepth 20000 in
theorem ggX3_same_X3_isOutside : GoodIn wsX3_same wsX3_isOutside := goodIn_r _ [6] (by decide +kernel) (by decide +kernel)
set_option maxRecDepth 20000 in
theorem gX3_same_X3_isOutside : GoodIn wsX3_same (va_wsS RX3 19 yX3_isOutside wsX3_isOutside) := goodIn_app (goodIn_of _ (by decide +kernel)) ggX3_same_X3_isOutside
theorem dX3_same_0 : decode cX3_same 0 = .ok (.iload_n 1, 1) := by decide +kernel
theorem dX3_same_1 : decode cX3_same 1 = .ok (.invokestatic 19, 3) := by decide +kernel
theorem dX3_same_4 : decode cX3_same 4 = .ok (.ifCond .ne 10, 3) := by decide +kernel
theorem dX3_same_7 : decode cX3_same 7 = .ok (.iload_n 2, 1) := by decide +kernel
theorem dX3_same_8 : decode cX3_same 8 = .ok (.invokestatic 19, 3) := by decide +kernel
theorem dX3_same_11 : decode cX3_same 11 = .ok (.ifCond .eq 6, 3) := by decide +kernel
theorem dX3_same_14 : decode cX3_same 14 = .ok (.ldc 23, 2) := by decide +kernel
theorem dX3_same_16 : decode cX3_same 16 = .ok (.ireturn, 1) := by decide +kernel
theorem dX3_same_17 : decode cX3_same 17 = .ok (.aload_n 0, 1) := by decide +kernel
theorem dX3_same_18 : decode cX3_same 18 = .ok (.getfield 11, 3) := by decide +kernel
theorem dX3_same_21 : decode cX3_same 21 = .ok (.iload_n 1, 1) := by decide +kernel
theorem dX3_same_22 : decode cX3_same 22 = .ok (.aaload, 1) := by decide +kernel
theorem dX3_same_23 : decode cX3_same 23 = .ok (.aload_n 0, 1) := by decide +kernel
theorem dX3_same_24 : decode cX3_same 24 = .ok (.getfield 11, 3) := by decide +kernel
theorem dX3_same_27 : decode cX3_same 27 = .ok (.iload_n 2, 1) := by decide +kernel
theorem dX3_same_28 : decode cX3_same 28 = .ok (.aaload, 1) := by decide +kernel
theorem dX3_same_29 : decode cX3_same 29 = .ok (.if_acmp .ne 7, 3) := by decide +kernel
theorem dX3_same_32 : decode cX3_same 32 = .ok (.iconst 1, 1) := by decide +kernel
theorem dX3_same_33 : decode cX3_same 33 = .ok (.goto 4, 3) := by decide +kernel
theorem dX3_same_36 : decode cX3_same 36 = .ok (.iconst 0, 1) := by decide +kernel
theorem dX3_same_37 : decode cX3_same 37 = .ok (.ireturn, 1) := by decide +kernel
set_option maxRecDepth 20000 in
theorem ggX3_equal_X3_isOutside : GoodIn wsX3_equal wsX3_isOutside := goodIn_r _ [7] (by decide +kernel) (by decide +kernel)
set_option maxRecDepth 20000 in
theorem gX3_equal_X3_isOutside : GoodIn wsX3_equal (va_wsS RX3 19 yX3_isOutside wsX3_isOutside) := goodIn_app (goodIn_of _ (by decide +kernel)) ggX3_equal_X3_isOutside
set_option maxRecDepth 20000 in
theorem ggX3_equal_X1_isLike : GoodIn wsX3_equal wsX1_isLike := goodIn_r _ [12, 13, 14, 15, 16, 17, 18, 19, 11, 20, 23, 24, 25, 26] (by decide +kernel) (by decide +kernel)
set_option maxRecDepth 20000 in
theorem gX3_equal_X1_isLike : GoodIn wsX3_equal (wsV RX3 118 RX1 yX1_isLike wsX1_isLike) := goodIn_app (goodIn_of _ (by decide +kernel)) ggX3_equal_X1_isLike
theorem dX3_equal_0 : decode cX3_equal 0 = .ok (.iload_n 1, 1) := by decide +kernel
theorem dX3_equal_1 : decode cX3_equal 1 = .ok (.invokestatic 19, 3) := by decide +kernel
theorem dX3_equal_4 : decode cX3_equal 4 = .ok (.ifCond .ne 10, 3) := by decide +kernel
theorem dX3_equal_7 : decode cX3_equal 7 = .ok (.iload_n 2, 1) := by decide +kernel
theorem dX3_equal_8 : decode cX3_equal 8 = .ok (.invokestatic 19, 3) := by decide +kernel
theorem dX3_equal_11 : decode cX3_equal 11 = .ok (.ifCond .eq 6, 3) := by decide +kernel
theorem dX3_equal_14 : decode cX3_equal 14 = .ok (.ldc 23, 2) := by decide +kernel
theorem dX3_equal_16 : decode cX3_equal 16 = .ok (.ireturn, 1) := by decide +kernel
theorem dX3_equal_17 : decode cX3_equal 17 = .ok (.aload_n 0, 1) := by decide +kernel
theorem dX3_equal_18 : decode cX3_equal 18 = .ok (.getfield 11, 3) := by decide +kernel
theorem dX3_equal_21 : decode cX3_equal 21 = .ok (.iload_n 1, 1) := by decide +kernel
theorem dX3_equal_22 : decode cX3_equal 22 = .ok (.aaload, 1) := by decide +kernel
theorem dX3_equal_23 : decode cX3_equal 23 = .ok (.astore_n 3, 1) := by decide +kernel
theorem dX3_equal_24 : decode cX3_equal 24 = .ok (.aload_n 0, 1) := by decide +kernel
theorem dX3_equal_25 : decode cX3_equal 25 = .ok (.getfield 11, 3) := by decide +kernel
theorem dX3_equal_28 : decode cX3_equal 28 = .ok (.iload_n 2, 1) := by decide +kernel
theorem dX3_equal_29 : decode cX3_equal 29 = .ok (.aaload, 1) := by decide +kernel
theorem dX3_equal_30 : decode cX3_equal 30 = .ok (.astore 4, 2) := by decide +kernel
theorem dX3_equal_32 : decode cX3_equal 32 = .ok (.aload_n 3, 1) := by decide +kernel
theorem dX3_equal_33 : decode cX3_equal 33 = .ok (.aload 4, 2) := by decide +kernel
theorem dX3_equal_35 : decode cX3_equal 35 = .ok (.if_acmp .ne 5, 3) := by decide +kernel
theorem dX3_equal_38 : decode cX3_equal 38 = .ok (.iconst 1, 1) := by decide +kernel
theorem dX3_equal_39 : decode cX3_equal 39 = .ok (.ireturn, 1) := by decide +kernel
theorem dX3_equal_40 : decode cX3_equal 40 = .ok (.aload_n 3, 1) := by decide +kernel
theorem dX3_equal_41 : decode cX3_equal 41 = .ok (.ifnull 17, 3) := by decide +kernel
theorem dX3_equal_44 : decode cX3_equal 44 = .ok (.aload 4, 2) := by decide +kernel
theorem dX3_equal_46 : decode cX3_equal 46 = .ok (.ifnull 12, 3) := by decide +kernel
theorem dX3_equal_49 : decode cX3_equal 49 = .ok (.aload_n 3, 1) := by decide +kernel
theorem dX3_equal_50 : decode cX3_equal 50 = .ok (.getfield 53, 3) := by decide +kernel
theorem dX3_equal_53 : decode cX3_equal 53 = .ok (.bipush 6, 2) := by decide +kernel
theorem dX3_equal_55 : decode cX3_equal 55 = .ok (.if_icmp .ne 5, 3) := by decide +kernel
theorem dX3_equal_58 : decode cX3_equal 58 = .ok (.iconst 0, 1) := by decide +kernel
theorem dX3_equal_59 : decode cX3_equal 59 = .ok (.ireturn, 1) := by decide +kernel
theorem dX3_equal_60 : decode cX3_equal 60 = .ok (.aload_n 3, 1) := by decide +kernel
theorem dX3_equal_61 : decode cX3_equal 61 = .ok (.aload 4, 2) := by decide +kernel
theorem dX3_equal_63 : decode cX3_equal 63 = .ok (.invokevirtual 118, 3) := by decide +kernel
theorem dX3_equal_66 : decode cX3_equal 66 = .ok (.ifCond .eq 7, 3) := by decide +kernel
theorem dX3_equal_69 : decode cX3_equal 69 = .ok (.iconst 1, 1) := by decide +kernel
theorem dX3_equal_70 : decode cX3_equal 70 = .ok (.goto 4, 3) := by decide +kernel
theorem dX3_equal_73 : decode cX3_equal 73 = .ok (.iconst 0, 1) := by decide +kernel
theorem dX3_equal_74 : decode cX3_equal 74 = .ok (.ireturn, 1) := by decide +kernel
set_option maxRecDepth 20000 in
theorem ggX3_compare_X3_isOutside : GoodIn wsX3_compare wsX3_isOutside := goodIn_r _ [8] (by decide +kernel) (by decide +kernel)
set_option maxRecDepth 20000 in
theorem gX3_compare_X3_isOutside : GoodIn wsX3_compare (va_wsS RX3 19 yX3_isOutside wsX3_isOutside) := goodIn_app (goodIn_of _ (by decide +kernel)) ggX3_compare_X3_isOutside
set_option maxRecDepth 20000 in
theorem ggX3_compare_X3_fail : GoodIn wsX3_compare wsX3_fail := goodIn_r _ [12, 4, 25, 26] (by decide +kernel) (by decide +kernel)
set_option maxRecDepth 20000 in
theorem gX3_compare_X3_fail : GoodIn wsX3_compare (wsV RX3 24 RX3 yX3_fail wsX3_fail) := goodIn_app (goodIn_of _ (by decide +kernel)) ggX3_compare_X3_fail
set_option maxRecDepth 20000 in
theorem ggX3_compare_X1_isOfNumbers : GoodIn wsX3_compare wsX1_isOfNumbers := goodIn_r _ [17, 18, 27, 28, 29, 30] (by decide +kernel) (by decide +kernel)
set_option maxRecDepth 20000 in
theorem gX3_compare_X1_isOfNumbers : GoodIn wsX3_compare (wsV RX3 67 RX1 yX1_isOfNumbers wsX1_isOfNumbers) := goodIn_app (goodIn_of _ (by decide +kernel)) ggX3_compare_X1_isOfNumbers
set_option maxRecDepth 20000 in
theorem ggX3_compare_X1_order : GoodIn wsX3_compare wsX1_order := goodIn_r _ [22, 23, 24, 27, 28, 29, 30] (by decide +kernel) (by decide +kernel)
set_option maxRecDepth 20000 in
theorem gX3_compare_X1_order : GoodIn wsX3_compare (wsV RX3 121 RX1 yX1_order wsX1_order) := goodIn_app (goodIn_of _ (by decide +kernel)) ggX3_compare_X1_order
theorem dX3_compare_0 : decode cX3_compare 0 = .ok (.iload_n 1, 1) := by decide +kernel
theorem dX3_compare_1 : decode cX3_compare 1 = .ok (.invokestatic 19, 3) := by decide +kernel
theorem dX3_compare_4 : decode cX3_compare 4 = .ok (.ifCond .ne 10, 3) := by decide +kernel
theorem dX3_compare_7 : decode cX3_compare 7 = .ok (.iload_n 2, 1) := by decide +kernel
theorem dX3_compare_8 : decode cX3_compare 8 = .ok (.invokestatic 19, 3) := by decide +kernel
theorem dX3_compare_11 : decode cX3_compare 11 = .ok (.ifCond .eq 6, 3) := by decide +kernel
theorem dX3_compare_14 : decode cX3_compare 14 = .ok (.ldc 23, 2) := by decide +kernel
theorem dX3_compare_16 : decode cX3_compare 16 = .ok (.ireturn, 1) := by decide +kernel
theorem dX3_compare_17 : decode cX3_compare 17 = .ok (.aload_n 0, 1) := by decide +kernel
theorem dX3_compare_18 : decode cX3_compare 18 = .ok (.getfield 11, 3) := by decide +kernel
theorem dX3_compare_21 : decode cX3_compare 21 = .ok (.iload_n 1, 1) := by decide +kernel
theorem dX3_compare_22 : decode cX3_compare 22 = .ok (.aaload, 1) := by decide +kernel
theorem dX3_compare_23 : decode cX3_compare 23 = .ok (.astore_n 3, 1) := by decide +kernel
theorem dX3_compare_24 : decode cX3_compare 24 = .ok (.aload_n 0, 1) := by decide +kernel
theorem dX3_compare_25 : decode cX3_compare 25 = .ok (.getfield 11, 3) := by decide +kernel
theorem dX3_compare_28 : decode cX3_compare 28 = .ok (.iload_n 2, 1) := by decide +kernel
theorem dX3_compare_29 : decode cX3_compare 29 = .ok (.aaload, 1) := by decide +kernel
theorem dX3_compare_30 : decode cX3_compare 30 = .ok (.astore 4, 2) := by decide +kernel
theorem dX3_compare_32 : decode cX3_compare 32 = .ok (.aload_n 3, 1) := by decide +kernel
theorem dX3_compare_33 : decode cX3_compare 33 = .ok (.ifnull 8, 3) := by decide +kernel
theorem dX3_compare_36 : decode cX3_compare 36 = .ok (.aload 4, 2) := by decide +kernel
theorem dX3_compare_38 : decode cX3_compare 38 = .ok (.ifnonnull 9, 3) := by decide +kernel
theorem dX3_compare_41 : decode cX3_compare 41 = .ok (.aload_n 0, 1) := by decide +kernel
theorem dX3_compare_42 : decode cX3_compare 42 = .ok (.iconst 1, 1) := by decide +kernel
theorem dX3_compare_43 : decode cX3_compare 43 = .ok (.invokevirtual 24, 3) := by decide +kernel
theorem dX3_compare_46 : decode cX3_compare 46 = .ok (.ireturn, 1) := by decide +kernel
theorem dX3_compare_47 : decode cX3_compare 47 = .ok (.aload_n 3, 1) := by decide +kernel
theorem dX3_compare_48 : decode cX3_compare 48 = .ok (.invokevirtual 67, 3) := by decide +kernel
theorem dX3_compare_51 : decode cX3_compare 51 = .ok (.ifCond .eq 15, 3) := by decide +kernel
theorem dX3_compare_54 : decode cX3_compare 54 = .ok (.aload_n 3, 1) := by decide +kernel
theorem dX3_compare_55 : decode cX3_compare 55 = .ok (.getfield 53, 3) := by decide +kernel
theorem dX3_compare_58 : decode cX3_compare 58 = .ok (.aload 4, 2) := by decide +kernel
theorem dX3_compare_60 : decode cX3_compare 60 = .ok (.getfield 53, 3) := by decide +kernel
theorem dX3_compare_63 : decode cX3_compare 63 = .ok (.if_icmp .eq 9, 3) := by decide +kernel
theorem dX3_compare_66 : decode cX3_compare 66 = .ok (.aload_n 0, 1) := by decide +kernel
theorem dX3_compare_67 : decode cX3_compare 67 = .ok (.iconst 5, 1) := by decide +kernel
theorem dX3_compare_68 : decode cX3_compare 68 = .ok (.invokevirtual 24, 3) := by decide +kernel
theorem dX3_compare_71 : decode cX3_compare 71 = .ok (.ireturn, 1) := by decide +kernel
theorem dX3_compare_72 : decode cX3_compare 72 = .ok (.aload_n 0, 1) := by decide +kernel
theorem dX3_compare_73 : decode cX3_compare 73 = .ok (.iconst 0, 1) := by decide +kernel
theorem dX3_compare_74 : decode cX3_compare 74 = .ok (.putfield 15, 3) := by decide +kernel
theorem dX3_compare_77 : decode cX3_compare 77 = .ok (.aload_n 3, 1) := by decide +kernel
theorem dX3_compare_78 : decode cX3_compare 78 = .ok (.aload 4, 2) := by decide +kernel
theorem dX3_compare_80 : decode cX3_compare 80 = .ok (.invokevirtual 121, 3) := by decide +kernel
theorem dX3_compare_83 : decode cX3_compare 83 = .ok (.ireturn, 1) := by decide +kernel
set_option maxRecDepth 20000 in
theorem ggX3_held_X3_isOutside : GoodIn wsX3_held wsX3_isOutside := goodIn_r _ [6] (by decide +kernel) (by decide +kernel)
set_option maxRecDepth 20000 in
theorem gX3_held_X3_isOutside : GoodIn wsX3_held (va_wsS RX3 19 yX3_isOutside wsX3_isOutside) := goodIn_app (goodIn_of _ (by decide +kernel)) ggX3_held_X3_isOutside
set_option maxRecDepth 20000 in
theorem ggX3_held_X3_isFirstHeldAt : GoodIn wsX3_held wsX3_isFirstHeldAt := goodIn_r _ [10, 2, 17, 18] (by decide +kernel) (by decide +kernel)
set_option maxRecDepth 20000 in
theorem gX3_held_X3_isFirstHeldAt : GoodIn wsX3_held (wsV RX3 124 RX3 yX3_isFirstHeldAt wsX3_isFirstHeldAt) := goodIn_app (goodIn_of _ (by decide +kernel)) ggX3_held_X3_isFirstHeldAt
set_option maxRecDepth 20000 in
theorem ggX3_held_X1_countOf : GoodIn wsX3_held wsX1_countOf := goodIn_r _ [15, 16, 19, 20, 21, 22] (by decide +kernel) (by decide +kernel)
set_option maxRecDepth 20000 in
theorem gX3_held_X1_countOf : GoodIn wsX3_held (wsV RX3 128 RX1 yX1_countOf wsX1_countOf) := goodIn_app (goodIn_of _ (by decide +kernel)) ggX3_held_X1_countOf
theorem dX3_held_0 : decode cX3_held 0 = .ok (.iload_n 1, 1) := by decide +kernel
theorem dX3_held_1 : decode cX3_held 1 = .ok (.invokestatic 19, 3) := by decide +kernel
theorem dX3_held_4 : decode cX3_held 4 = .ok (.ifCond .eq 6, 3) := by decide +kernel
theorem dX3_held_7 : decode cX3_held 7 = .ok (.ldc 23, 2) := by decide +kernel
theorem dX3_held_9 : decode cX3_held 9 = .ok (.ireturn, 1) := by decide +kernel
theorem dX3_held_10 : decode cX3_held 10 = .ok (.aload_n 0, 1) := by decide +kernel
theorem dX3_held_11 : decode cX3_held 11 = .ok (.getfield 11, 3) := by decide +kernel
theorem dX3_held_14 : decode cX3_held 14 = .ok (.iload_n 1, 1) := by decide +kernel
theorem dX3_held_15 : decode cX3_held 15 = .ok (.aaload, 1) := by decide +kernel
theorem dX3_held_16 : decode cX3_held 16 = .ok (.astore_n 2, 1) := by decide +kernel
theorem dX3_held_17 : decode cX3_held 17 = .ok (.aload_n 2, 1) := by decide +kernel
theorem dX3_held_18 : decode cX3_held 18 = .ok (.ifnonnull 5, 3) := by decide +kernel
theorem dX3_held_21 : decode cX3_held 21 = .ok (.iconst 0, 1) := by decide +kernel
theorem dX3_held_22 : decode cX3_held 22 = .ok (.ireturn, 1) := by decide +kernel
theorem dX3_held_23 : decode cX3_held 23 = .ok (.iconst 0, 1) := by decide +kernel
theorem dX3_held_24 : decode cX3_held 24 = .ok (.istore_n 3, 1) := by decide +kernel
theorem dX3_held_25 : decode cX3_held 25 = .ok (.iconst 0, 1) := by decide +kernel
theorem dX3_held_26 : decode cX3_held 26 = .ok (.istore 4, 2) := by decide +kernel
theorem dX3_held_28 : decode cX3_held 28 = .ok (.iload 4, 2) := by decide +kernel
theorem dX3_held_30 : decode cX3_held 30 = .ok (.bipush 12, 2) := by decide +kernel
theorem dX3_held_32 : decode cX3_held 32 = .ok (.if_icmp .ge 52, 3) := by decide +kernel
theorem dX3_held_35 : decode cX3_held 35 = .ok (.aload_n 0, 1) := by decide +kernel
theorem dX3_held_36 : decode cX3_held 36 = .ok (.getfield 11, 3) := by decide +kernel
theorem dX3_held_39 : decode cX3_held 39 = .ok (.iload 4, 2) := by decide +kernel
theorem dX3_held_41 : decode cX3_held 41 = .ok (.aaload, 1) := by decide +kernel
theorem dX3_held_42 : decode cX3_held 42 = .ok (.astore 5, 2) := by decide +kernel
theorem dX3_held_44 : decode cX3_held 44 = .ok (.aload 5, 2) := by decide +kernel
theorem dX3_held_46 : decode cX3_held 46 = .ok (.aload_n 2, 1) := by decide +kernel
theorem dX3_held_47 : decode cX3_held 47 = .ok (.if_acmp .ne 6, 3) := by decide +kernel
theorem dX3_held_50 : decode cX3_held 50 = .ok (.iinc 3 1, 3) := by decide +kernel
theorem dX3_held_53 : decode cX3_held 53 = .ok (.aload 5, 2) := by decide +kernel
theorem dX3_held_55 : decode cX3_held 55 = .ok (.ifnull 23, 3) := by decide +kernel
theorem dX3_held_58 : decode cX3_held 58 = .ok (.aload_n 0, 1) := by decide +kernel
theorem dX3_held_59 : decode cX3_held 59 = .ok (.aload 5, 2) := by decide +kernel
theorem dX3_held_61 : decode cX3_held 61 = .ok (.iload 4, 2) := by decide +kernel
theorem dX3_held_63 : decode cX3_held 63 = .ok (.invokevirtual 124, 3) := by decide +kernel
theorem dX3_held_66 : decode cX3_held 66 = .ok (.ifCond .eq 12, 3) := by decide +kernel
theorem dX3_held_69 : decode cX3_held 69 = .ok (.iload_n 3, 1) := by decide +kernel
theorem dX3_held_70 : decode cX3_held 70 = .ok (.aload 5, 2) := by decide +kernel
theorem dX3_held_72 : decode cX3_held 72 = .ok (.aload_n 2, 1) := by decide +kernel
theorem dX3_held_73 : decode cX3_held 73 = .ok (.invokevirtual 128, 3) := by decide +kernel
theorem dX3_held_76 : decode cX3_held 76 = .ok (.iadd, 1) := by decide +kernel
theorem dX3_held_77 : decode cX3_held 77 = .ok (.istore_n 3, 1) := by decide +kernel
theorem dX3_held_78 : decode cX3_held 78 = .ok (.iinc 4 1, 3) := by decide +kernel
theorem dX3_held_81 : decode cX3_held 81 = .ok (.goto (-53), 3) := by decide +kernel
theorem dX3_held_84 : decode cX3_held 84 = .ok (.iload_n 3, 1) := by decide +kernel
theorem dX3_held_85 : decode cX3_held 85 = .ok (.ireturn, 1) := by decide +kernel
theorem dX3_isOutside_0 : decode cX3_isOutside 0 = .ok (.iload_n 0, 1) := by decide +kernel
theorem dX3_isOutside_1 : decode cX3_isOutside 1 = .ok (.ifCond .lt 9, 3) := by decide +kernel
theorem dX3_isOutside_4 : decode cX3_isOutside 4 = .ok (.iload_n 0, 1) := by decide +kernel
theorem dX3_isOutside_5 : decode cX3_isOutside 5 = .ok (.bipush 12, 2) := by decide +kernel
theorem dX3_isOutside_7 : decode cX3_isOutside 7 = .ok (.if_icmp .lt 7, 3) := by decide +kernel
theorem dX3_isOutside_10 : decode cX3_isOutside 10 = .ok (.iconst 1, 1) := by decide +kernel
theorem dX3_isOutside_11 : decode cX3_isOutside 11 = .ok (.goto 4, 3) := by decide +kernel
theorem dX3_isOutside_14 : decode cX3_isOutside 14 = .ok (.iconst 0, 1) := by decide +kernel
theorem dX3_isOutside_15 : decode cX3_isOutside 15 = .ok (.ireturn, 1) := by decide +kernel
theorem dX3_kindOf_0 : decode cX3_kindOf 0 = .ok (.aload_n 0, 1) := by decide +kernel
theorem dX3_kindOf_1 : decode cX3_kindOf 1 = .ok (.ifnonnull 7, 3) := by decide +kernel
theorem dX3_kindOf_4 : decode cX3_kindOf 4 = .ok (.iconst (-1), 1) := by decide +kernel
theorem dX3_kindOf_5 : decode cX3_kindOf 5 = .ok (.goto 7, 3) := by decide +kernel
theorem dX3_kindOf_8 : decode cX3_kindOf 8 = .ok (.aload_n 0, 1) := by decide +kernel
theorem dX3_kindOf_9 : decode cX3_kindOf 9 = .ok (.getfield 53, 3) := by decide +kernel
theorem dX3_kindOf_12 : decode cX3_kindOf 12 = .ok (.ireturn, 1) := by decide +kernel
theorem dX3_fail_0 : decode cX3_fail 0 = .ok (.aload_n 0, 1) := by decide +kernel
theorem dX3_fail_1 : decode cX3_fail 1 = .ok (.iload_n 1, 1) := by decide +kernel
theorem dX3_fail_2 : decode cX3_fail 2 = .ok (.putfield 15, 3) := by decide +kernel
theorem dX3_fail_5 : decode cX3_fail 5 = .ok (.iconst 0, 1) := by decide +kernel
theorem dX3_fail_6 : decode cX3_fail 6 = .ok (.ireturn, 1) := by decide +kernel
theorem dX3_put_0 : decode cX3_put 0 = .ok (.aload_n 0, 1) := by decide +kernel
theorem dX3_put_1 : decode cX3_put 1 = .ok (.getfield 11, 3) := by decide +kernel
theorem dX3_put_4 : decode cX3_put 4 = .ok (.iload_n 1, 1) := by decide +kernel
theorem dX3_put_5 : decode cX3_put 5 = .ok (.aload_n 2, 1) := by decide +kernel
theorem dX3_put_6 : decode cX3_put 6 = .ok (.aastore, 1) := by decide +kernel
theorem dX3_put_7 : decode cX3_put 7 = .ok (.aload_n 0, 1) := by decide +kernel
theorem dX3_put_8 : decode cX3_put 8 = .ok (.iconst 0, 1) := by decide +kernel
theorem dX3_put_9 : decode cX3_put 9 = .ok (.putfield 15, 3) := by decide +kernel
theorem dX3_put_12 : decode cX3_put 12 = .ok (.aload_n 2, 1) := by decide +kernel
theorem dX3_put_13 : decode cX3_put 13 = .ok (.getfield 43, 3) := by decide +kernel
theorem dX3_put_16 : decode cX3_put 16 = .ok (.ireturn, 1) := by decide +kernel
theorem dX3_rowOf_0 : decode cX3_rowOf 0 = .ok (.aload_n 0, 1) := by decide +kernel
theorem dX3_rowOf_1 : decode cX3_rowOf 1 = .ok (.getfield 11, 3) := by decide +kernel
theorem dX3_rowOf_4 : decode cX3_rowOf 4 = .ok (.iload_n 1, 1) := by decide +kernel
theorem dX3_rowOf_5 : decode cX3_rowOf 5 = .ok (.aaload, 1) := by decide +kernel
theorem dX3_rowOf_6 : decode cX3_rowOf 6 = .ok (.astore_n 3, 1) := by decide +kernel
theorem dX3_rowOf_7 : decode cX3_rowOf 7 = .ok (.aload_n 3, 1) := by decide +kernel
theorem dX3_rowOf_8 : decode cX3_rowOf 8 = .ok (.ifnonnull 10, 3) := by decide +kernel
theorem dX3_rowOf_11 : decode cX3_rowOf 11 = .ok (.aload_n 0, 1) := by decide +kernel
theorem dX3_rowOf_12 : decode cX3_rowOf 12 = .ok (.iconst 1, 1) := by decide +kernel
theorem dX3_rowOf_13 : decode cX3_rowOf 13 = .ok (.putfield 15, 3) := by decide +kernel
theorem dX3_rowOf_16 : decode cX3_rowOf 16 = .ok (.aconst_null, 1) := by decide +kernel
theorem dX3_rowOf_17 : decode cX3_rowOf 17 = .ok (.areturn, 1) := by decide +kernel
theorem dX3_rowOf_18 : decode cX3_rowOf 18 = .ok (.iload_n 2, 1) := by decide +kernel
theorem dX3_rowOf_19 : decode cX3_rowOf 19 = .ok (.aload_n 3, 1) := by decide +kernel
theorem dX3_rowOf_20 : decode cX3_rowOf 20 = .ok (.getfield 53, 3) := by decide +kernel
theorem dX3_rowOf_23 : decode cX3_rowOf 23 = .ok (.ishr, 1) := by decide +kernel
theorem dX3_rowOf_24 : decode cX3_rowOf 24 = .ok (.iconst 1, 1) := by decide +kernel
theorem dX3_rowOf_25 : decode cX3_rowOf 25 = .ok (.iand, 1) := by decide +kernel
theorem dX3_rowOf_26 : decode cX3_rowOf 26 = .ok (.ifCond .ne 10, 3) := by decide +kernel
theorem dX3_rowOf_29 : decode cX3_rowOf 29 = .ok (.aload_n 0, 1) := by decide +kernel
theorem dX3_rowOf_30 : decode cX3_rowOf 30 = .ok (.iconst 5, 1) := by decide +kernel
theorem dX3_rowOf_31 : decode cX3_rowOf 31 = .ok (.putfield 15, 3) := by decide +kernel
theorem dX3_rowOf_34 : decode cX3_rowOf 34 = .ok (.aconst_null, 1) := by decide +kernel
theorem dX3_rowOf_35 : decode cX3_rowOf 35 = .ok (.areturn, 1) := by decide +kernel
theorem dX3_rowOf_36 : decode cX3_rowOf 36 = .ok (.aload_n 0, 1) := by decide +kernel
theorem dX3_rowOf_37 : decode cX3_rowOf 37 = .ok (.iconst 0, 1) := by decide +kernel
theorem dX3_rowOf_38 : decode cX3_rowOf 38 = .ok (.putfield 15, 3) := by decide +kernel
theorem dX3_rowOf_41 : decode cX3_rowOf 41 = .ok (.aload_n 3, 1) := by decide +kernel
theorem dX3_rowOf_42 : decode cX3_rowOf 42 = .ok (.areturn, 1) := by decide +kernel
set_option maxRecDepth 20000 in
theorem ggX3_moveOne_X1_has : GoodIn wsX3_moveOne wsX1_has := goodIn_r _ [5, 6, 40, 41, 42, 43] (by decide +kernel) (by decide +kernel)
set_option maxRecDepth 20000 in
theorem gX3_moveOne_X1_has : GoodIn wsX3_moveOne (wsV RX3 46 RX1 yX1_has wsX1_has) := goodIn_app (goodIn_of _ (by decide +kernel)) ggX3_moveOne_X1_has
set_option maxRecDepth 20000 in
theorem ggX3_moveOne_X1_countTaken : GoodIn wsX3_moveOne wsX1_countTaken := goodIn_r _ [10, 11, 12, 13, 14, 4, 15, 16, 17, 18, 19, 20, 21, 22, 23, 24, 25, 26, 27, 28, 29, 30, 40, 41, 42, 43, 44, 45] (by decide +kernel) (by decide +kernel)
set_option maxRecDepth 20000 in
theorem gX3_moveOne_X1_countTaken : GoodIn wsX3_moveOne (wsV RX3 88 RX1 yX1_countTaken wsX1_countTaken) := goodIn_app (goodIn_of _ (by decide +kernel)) ggX3_moveOne_X1_countTaken
set_option maxRecDepth 20000 in
theorem ggX3_moveOne_X1_take : GoodIn wsX3_moveOne wsX1_take := goodIn_r _ [34, 35, 36, 37, 38, 39, 11, 12, 13, 14, 4, 15, 16, 40, 41, 42, 43] (by decide +kernel) (by decide +kernel)
set_option maxRecDepth 20000 in
theorem gX3_moveOne_X1_take : GoodIn wsX3_moveOne (wsV RX3 92 RX1 yX1_take wsX1_take) := goodIn_app (goodIn_of _ (by decide +kernel)) ggX3_moveOne_X1_take
theorem dX3_moveOne_0 : decode cX3_moveOne 0 = .ok (.aload_n 0, 1) := by decide +kernel
theorem dX3_moveOne_1 : decode cX3_moveOne 1 = .ok (.iload_n 1, 1) := by decide +kernel
theorem dX3_moveOne_2 : decode cX3_moveOne 2 = .ok (.invokevirtual 46, 3) := by decide +kernel
theorem dX3_moveOne_5 : decode cX3_moveOne 5 = .ok (.ifCond .eq 11, 3) := by decide +kernel
theorem dX3_moveOne_8 : decode cX3_moveOne 8 = .ok (.aload_n 2, 1) := by decide +kernel
theorem dX3_moveOne_9 : decode cX3_moveOne 9 = .ok (.iload_n 3, 1) := by decide +kernel
theorem dX3_moveOne_10 : decode cX3_moveOne 10 = .ok (.invokevirtual 46, 3) := by decide +kernel
theorem dX3_moveOne_13 : decode cX3_moveOne 13 = .ok (.ifCond .ne 5, 3) := by decide +kernel
theorem dX3_moveOne_16 : decode cX3_moveOne 16 = .ok (.iconst 3, 1) := by decide +kernel
theorem dX3_moveOne_17 : decode cX3_moveOne 17 = .ok (.ireturn, 1) := by decide +kernel
theorem dX3_moveOne_18 : decode cX3_moveOne 18 = .ok (.aload_n 2, 1) := by decide +kernel
theorem dX3_moveOne_19 : decode cX3_moveOne 19 = .ok (.aload_n 0, 1) := by decide +kernel
theorem dX3_moveOne_20 : decode cX3_moveOne 20 = .ok (.iload_n 1, 1) := by decide +kernel
theorem dX3_moveOne_21 : decode cX3_moveOne 21 = .ok (.iconst 1, 1) := by decide +kernel
theorem dX3_moveOne_22 : decode cX3_moveOne 22 = .ok (.invokevirtual 88, 3) := by decide +kernel
theorem dX3_moveOne_25 : decode cX3_moveOne 25 = .ok (.iconst 1, 1) := by decide +kernel
theorem dX3_moveOne_26 : decode cX3_moveOne 26 = .ok (.if_icmp .ge 5, 3) := by decide +kernel
theorem dX3_moveOne_29 : decode cX3_moveOne 29 = .ok (.iconst 2, 1) := by decide +kernel
theorem dX3_moveOne_30 : decode cX3_moveOne 30 = .ok (.ireturn, 1) := by decide +kernel
theorem dX3_moveOne_31 : decode cX3_moveOne 31 = .ok (.aload_n 2, 1) := by decide +kernel
theorem dX3_moveOne_32 : decode cX3_moveOne 32 = .ok (.aload_n 0, 1) := by decide +kernel
theorem dX3_moveOne_33 : decode cX3_moveOne 33 = .ok (.iload_n 1, 1) := by decide +kernel
theorem dX3_moveOne_34 : decode cX3_moveOne 34 = .ok (.iload_n 3, 1) := by decide +kernel
theorem dX3_moveOne_35 : decode cX3_moveOne 35 = .ok (.iconst 1, 1) := by decide +kernel
theorem dX3_moveOne_36 : decode cX3_moveOne 36 = .ok (.invokevirtual 92, 3) := by decide +kernel
theorem dX3_moveOne_39 : decode cX3_moveOne 39 = .ok (.iconst 0, 1) := by decide +kernel
theorem dX3_moveOne_40 : decode cX3_moveOne 40 = .ok (.ireturn, 1) := by decide +kernel
set_option maxRecDepth 20000 in
theorem ggX3_sumOfTable_X1_total : GoodIn wsX3_sumOfTable wsX1_total := goodIn_r _ [8, 9, 16, 17, 18, 19] (by decide +kernel) (by decide +kernel)
set_option maxRecDepth 20000 in
theorem gX3_sumOfTable_X1_total : GoodIn wsX3_sumOfTable (wsV RX3 115 RX1 yX1_total wsX1_total) := goodIn_app (goodIn_of _ (by decide +kernel)) ggX3_sumOfTable_X1_total
set_option maxRecDepth 20000 in
theorem ggX3_sumOfTable_X3_fail : GoodIn wsX3_sumOfTable wsX3_fail := goodIn_r _ [14, 15, 20, 21] (by decide +kernel) (by decide +kernel)
set_option maxRecDepth 20000 in
theorem gX3_sumOfTable_X3_fail : GoodIn wsX3_sumOfTable (wsV RX3 24 RX3 yX3_fail wsX3_fail) := goodIn_app (goodIn_of _ (by decide +kernel)) ggX3_sumOfTable_X3_fail
theorem dX3_sumOfTable_0 : decode cX3_sumOfTable 0 = .ok (.iconst 0, 1) := by decide +kernel
theorem dX3_sumOfTable_1 : decode cX3_sumOfTable 1 = .ok (.istore_n 2, 1) := by decide +kernel
theorem dX3_sumOfTable_2 : decode cX3_sumOfTable 2 = .ok (.iconst 0, 1) := by decide +kernel
theorem dX3_sumOfTable_3 : decode cX3_sumOfTable 3 = .ok (.istore_n 3, 1) := by decide +kernel
theorem dX3_sumOfTable_4 : decode cX3_sumOfTable 4 = .ok (.iload_n 3, 1) := by decide +kernel
theorem dX3_sumOfTable_5 : decode cX3_sumOfTable 5 = .ok (.aload_n 1, 1) := by decide +kernel
theorem dX3_sumOfTable_6 : decode cX3_sumOfTable 6 = .ok (.getfield 43, 3) := by decide +kernel
theorem dX3_sumOfTable_9 : decode cX3_sumOfTable 9 = .ok (.if_icmp .ge 49, 3) := by decide +kernel
theorem dX3_sumOfTable_12 : decode cX3_sumOfTable 12 = .ok (.aload_n 1, 1) := by decide +kernel
theorem dX3_sumOfTable_13 : decode cX3_sumOfTable 13 = .ok (.getfield 63, 3) := by decide +kernel
theorem dX3_sumOfTable_16 : decode cX3_sumOfTable 16 = .ok (.iload_n 3, 1) := by decide +kernel
theorem dX3_sumOfTable_17 : decode cX3_sumOfTable 17 = .ok (.aaload, 1) := by decide +kernel
theorem dX3_sumOfTable_18 : decode cX3_sumOfTable 18 = .ok (.astore 5, 2) := by decide +kernel
theorem dX3_sumOfTable_20 : decode cX3_sumOfTable 20 = .ok (.aload 5, 2) := by decide +kernel
theorem dX3_sumOfTable_22 : decode cX3_sumOfTable 22 = .ok (.instanceof 9, 3) := by decide +kernel
theorem dX3_sumOfTable_25 : decode cX3_sumOfTable 25 = .ok (.ifCond .eq 21, 3) := by decide +kernel
theorem dX3_sumOfTable_28 : decode cX3_sumOfTable 28 = .ok (.aload 5, 2) := by decide +kernel
theorem dX3_sumOfTable_30 : decode cX3_sumOfTable 30 = .ok (.checkcast 9, 3) := by decide +kernel
theorem dX3_sumOfTable_33 : decode cX3_sumOfTable 33 = .ok (.astore 4, 2) := by decide +kernel
theorem dX3_sumOfTable_35 : decode cX3_sumOfTable 35 = .ok (.iload_n 2, 1) := by decide +kernel
theorem dX3_sumOfTable_36 : decode cX3_sumOfTable 36 = .ok (.aload 4, 2) := by decide +kernel
theorem dX3_sumOfTable_38 : decode cX3_sumOfTable 38 = .ok (.invokevirtual 115, 3) := by decide +kernel
theorem dX3_sumOfTable_41 : decode cX3_sumOfTable 41 = .ok (.iadd, 1) := by decide +kernel
theorem dX3_sumOfTable_42 : decode cX3_sumOfTable 42 = .ok (.istore_n 2, 1) := by decide +kernel
theorem dX3_sumOfTable_43 : decode cX3_sumOfTable 43 = .ok (.goto 9, 3) := by decide +kernel
theorem dX3_sumOfTable_46 : decode cX3_sumOfTable 46 = .ok (.aload_n 0, 1) := by decide +kernel
theorem dX3_sumOfTable_47 : decode cX3_sumOfTable 47 = .ok (.iconst 1, 1) := by decide +kernel
theorem dX3_sumOfTable_48 : decode cX3_sumOfTable 48 = .ok (.invokevirtual 24, 3) := by decide +kernel
theorem dX3_sumOfTable_51 : decode cX3_sumOfTable 51 = .ok (.ireturn, 1) := by decide +kernel
theorem dX3_sumOfTable_52 : decode cX3_sumOfTable 52 = .ok (.iinc 3 1, 3) := by decide +kernel
theorem dX3_sumOfTable_55 : decode cX3_sumOfTable 55 = .ok (.goto (-51), 3) := by decide +kernel
theorem dX3_sumOfTable_58 : decode cX3_sumOfTable 58 = .ok (.iload_n 2, 1) := by decide +kernel
theorem dX3_sumOfTable_59 : decode cX3_sumOfTable 59 = .ok (.ireturn, 1) := by decide +kernel
theorem dX3_isFirstHeldAt_0 : decode cX3_isFirstHeldAt 0 = .ok (.iconst 0, 1) := by decide +kernel
theorem dX3_isFirstHeldAt_1 : decode cX3_isFirstHeldAt 1 = .ok (.istore_n 3, 1) := by decide +kernel
theorem dX3_isFirstHeldAt_2 : decode cX3_isFirstHeldAt 2 = .ok (.iload_n 3, 1) := by decide +kernel
theorem dX3_isFirstHeldAt_3 : decode cX3_isFirstHeldAt 3 = .ok (.iload_n 2, 1) := by decide +kernel
theorem dX3_isFirstHeldAt_4 : decode cX3_isFirstHeldAt 4 = .ok (.if_icmp .ge 21, 3) := by decide +kernel
theorem dX3_isFirstHeldAt_7 : decode cX3_isFirstHeldAt 7 = .ok (.aload_n 0, 1) := by decide +kernel
theorem dX3_isFirstHeldAt_8 : decode cX3_isFirstHeldAt 8 = .ok (.getfield 11, 3) := by decide +kernel
theorem dX3_isFirstHeldAt_11 : decode cX3_isFirstHeldAt 11 = .ok (.iload_n 3, 1) := by decide +kernel
theorem dX3_isFirstHeldAt_12 : decode cX3_isFirstHeldAt 12 = .ok (.aaload, 1) := by decide +kernel
theorem dX3_isFirstHeldAt_13 : decode cX3_isFirstHeldAt 13 = .ok (.aload_n 1, 1) := by decide +kernel
theorem dX3_isFirstHeldAt_14 : decode cX3_isFirstHeldAt 14 = .ok (.if_acmp .ne 5, 3) := by decide +kernel
theorem dX3_isFirstHeldAt_17 : decode cX3_isFirstHeldAt 17 = .ok (.iconst 0, 1) := by decide +kernel
theorem dX3_isFirstHeldAt_18 : decode cX3_isFirstHeldAt 18 = .ok (.ireturn, 1) := by decide +kernel
theorem dX3_isFirstHeldAt_19 : decode cX3_isFirstHeldAt 19 = .ok (.iinc 3 1, 3) := by decide +kernel
theorem dX3_isFirstHeldAt_22 : decode cX3_isFirstHeldAt 22 = .ok (.goto (-20), 3) := by decide +kernel
theorem dX3_isFirstHeldAt_25 : decode cX3_isFirstHeldAt 25 = .ok (.iconst 1, 1) := by decide +kernel
theorem dX3_isFirstHeldAt_26 : decode cX3_isFirstHeldAt 26 = .ok (.ireturn, 1) := by decide +kernel
