theorem dJx00060_init_a7421_0 : decode cJx00060_init_a7421 0 = .ok (.aload_n 0, 1) := by decide +kernel
theorem dJx00060_init_a7421_1 : decode cJx00060_init_a7421 1 = .ok (.aload_n 1, 1) := by decide +kernel
theorem dJx00060_init_a7421_2 : decode cJx00060_init_a7421 2 = .ok (.invokespecial 7, 3) := by decide +kernel
theorem dJx00060_init_a7421_5 : decode cJx00060_init_a7421 5 = .ok (.return_, 1) := by decide +kernel
theorem dJ9_abs_0f7a4_0 : decode cJ9_abs_0f7a4 0 = .ok (.iload_n 0, 1) := by decide +kernel
theorem dJ9_abs_0f7a4_1 : decode cJ9_abs_0f7a4 1 = .ok (.ifCond .ge 8, 3) := by decide +kernel
theorem dJ9_abs_0f7a4_4 : decode cJ9_abs_0f7a4 4 = .ok (.iload_n 0, 1) := by decide +kernel
theorem dJ9_abs_0f7a4_5 : decode cJ9_abs_0f7a4 5 = .ok (.ineg, 1) := by decide +kernel
theorem dJ9_abs_0f7a4_6 : decode cJ9_abs_0f7a4 6 = .ok (.goto 4, 3) := by decide +kernel
theorem dJ9_abs_0f7a4_9 : decode cJ9_abs_0f7a4 9 = .ok (.iload_n 0, 1) := by decide +kernel
theorem dJ9_abs_0f7a4_10 : decode cJ9_abs_0f7a4 10 = .ok (.ireturn, 1) := by decide +kernel
theorem dJ9_max_7cf53_0 : decode cJ9_max_7cf53 0 = .ok (.iload_n 0, 1) := by decide +kernel
theorem dJ9_max_7cf53_1 : decode cJ9_max_7cf53 1 = .ok (.iload_n 1, 1) := by decide +kernel
theorem dJ9_max_7cf53_2 : decode cJ9_max_7cf53 2 = .ok (.if_icmp .lt 7, 3) := by decide +kernel
theorem dJ9_max_7cf53_5 : decode cJ9_max_7cf53 5 = .ok (.iload_n 0, 1) := by decide +kernel
theorem dJ9_max_7cf53_6 : decode cJ9_max_7cf53 6 = .ok (.goto 4, 3) := by decide +kernel
theorem dJ9_max_7cf53_9 : decode cJ9_max_7cf53 9 = .ok (.iload_n 1, 1) := by decide +kernel
theorem dJ9_max_7cf53_10 : decode cJ9_max_7cf53 10 = .ok (.ireturn, 1) := by decide +kernel
theorem dJ9_min_7cf53_0 : decode cJ9_min_7cf53 0 = .ok (.iload_n 0, 1) := by decide +kernel
theorem dJ9_min_7cf53_1 : decode cJ9_min_7cf53 1 = .ok (.iload_n 1, 1) := by decide +kernel
theorem dJ9_min_7cf53_2 : decode cJ9_min_7cf53 2 = .ok (.if_icmp .gt 7, 3) := by decide +kernel
theorem dJ9_min_7cf53_5 : decode cJ9_min_7cf53 5 = .ok (.iload_n 0, 1) := by decide +kernel
theorem dJ9_min_7cf53_6 : decode cJ9_min_7cf53 6 = .ok (.goto 4, 3) := by decide +kernel
theorem dJ9_min_7cf53_9 : decode cJ9_min_7cf53 9 = .ok (.iload_n 1, 1) := by decide +kernel
theorem dJ9_min_7cf53_10 : decode cJ9_min_7cf53 10 = .ok (.ireturn, 1) := by decide +kernel
theorem dX0_init_0 : decode cX0_init 0 = .ok (.aload_n 0, 1) := by decide +kernel
theorem dX0_init_1 : decode cX0_init 1 = .ok (.invokespecial 3, 3) := by decide +kernel
theorem dX0_init_4 : decode cX0_init 4 = .ok (.aload_n 0, 1) := by decide +kernel
theorem dX0_init_5 : decode cX0_init 5 = .ok (.sipush 256, 3) := by decide +kernel
theorem dX0_init_8 : decode cX0_init 8 = .ok (.newarray .int, 2) := by decide +kernel
theorem dX0_init_10 : decode cX0_init 10 = .ok (.putfield 9, 3) := by decide +kernel
theorem dX0_init_13 : decode cX0_init 13 = .ok (.aload_n 0, 1) := by decide +kernel
theorem dX0_init_14 : decode cX0_init 14 = .ok (.sipush 256, 3) := by decide +kernel
theorem dX0_init_17 : decode cX0_init 17 = .ok (.newarray .boolean, 2) := by decide +kernel
theorem dX0_init_19 : decode cX0_init 19 = .ok (.putfield 15, 3) := by decide +kernel
theorem dX0_init_22 : decode cX0_init 22 = .ok (.aload_n 0, 1) := by decide +kernel
theorem dX0_init_23 : decode cX0_init 23 = .ok (.iconst 0, 1) := by decide +kernel
theorem dX0_init_24 : decode cX0_init 24 = .ok (.putfield 19, 3) := by decide +kernel
theorem dX0_init_27 : decode cX0_init 27 = .ok (.aload_n 0, 1) := by decide +kernel
theorem dX0_init_28 : decode cX0_init 28 = .ok (.iload_n 1, 1) := by decide +kernel
theorem dX0_init_29 : decode cX0_init 29 = .ok (.putfield 23, 3) := by decide +kernel
theorem dX0_init_32 : decode cX0_init 32 = .ok (.iconst 0, 1) := by decide +kernel
theorem dX0_init_33 : decode cX0_init 33 = .ok (.istore_n 2, 1) := by decide +kernel
theorem dX0_init_34 : decode cX0_init 34 = .ok (.iload_n 2, 1) := by decide +kernel
theorem dX0_init_35 : decode cX0_init 35 = .ok (.sipush 256, 3) := by decide +kernel
theorem dX0_init_38 : decode cX0_init 38 = .ok (.if_icmp .ge 16, 3) := by decide +kernel
theorem dX0_init_41 : decode cX0_init 41 = .ok (.aload_n 0, 1) := by decide +kernel
theorem dX0_init_42 : decode cX0_init 42 = .ok (.getfield 9, 3) := by decide +kernel
theorem dX0_init_45 : decode cX0_init 45 = .ok (.iload_n 2, 1) := by decide +kernel
theorem dX0_init_46 : decode cX0_init 46 = .ok (.iload_n 2, 1) := by decide +kernel
theorem dX0_init_47 : decode cX0_init 47 = .ok (.iastore, 1) := by decide +kernel
theorem dX0_init_48 : decode cX0_init 48 = .ok (.iinc 2 1, 3) := by decide +kernel
theorem dX0_init_51 : decode cX0_init 51 = .ok (.goto (-17), 3) := by decide +kernel
theorem dX0_init_54 : decode cX0_init 54 = .ok (.return_, 1) := by decide +kernel
set_option maxRecDepth 20000 in
theorem ggX0_rankBy_X0_sortKey : GoodIn wsX0_rankBy wsX0_sortKey := goodIn_r _ [6, 7] (by decide +kernel) (by decide +kernel)
set_option maxRecDepth 20000 in
theorem gX0_rankBy_X0_sortKey : GoodIn wsX0_rankBy (va_wsS RX0 27 yX0_sortKey wsX0_sortKey) := goodIn_app (goodIn_of _ (by decide +kernel)) ggX0_rankBy_X0_sortKey
theorem dX0_rankBy_0 : decode cX0_rankBy 0 = .ok (.sipush 256, 3) := by decide +kernel
theorem dX0_rankBy_3 : decode cX0_rankBy 3 = .ok (.newarray .int, 2) := by decide +kernel
theorem dX0_rankBy_5 : decode cX0_rankBy 5 = .ok (.astore_n 2, 1) := by decide +kernel
theorem dX0_rankBy_6 : decode cX0_rankBy 6 = .ok (.iconst 0, 1) := by decide +kernel
theorem dX0_rankBy_7 : decode cX0_rankBy 7 = .ok (.istore_n 3, 1) := by decide +kernel
theorem dX0_rankBy_8 : decode cX0_rankBy 8 = .ok (.iload_n 3, 1) := by decide +kernel
theorem dX0_rankBy_9 : decode cX0_rankBy 9 = .ok (.sipush 256, 3) := by decide +kernel
theorem dX0_rankBy_12 : decode cX0_rankBy 12 = .ok (.if_icmp .ge 56, 3) := by decide +kernel
theorem dX0_rankBy_15 : decode cX0_rankBy 15 = .ok (.iload_n 3, 1) := by decide +kernel
theorem dX0_rankBy_16 : decode cX0_rankBy 16 = .ok (.istore 4, 2) := by decide +kernel
theorem dX0_rankBy_18 : decode cX0_rankBy 18 = .ok (.iload 4, 2) := by decide +kernel
theorem dX0_rankBy_20 : decode cX0_rankBy 20 = .ok (.ifCond .le 37, 3) := by decide +kernel
theorem dX0_rankBy_23 : decode cX0_rankBy 23 = .ok (.aload_n 1, 1) := by decide +kernel
theorem dX0_rankBy_24 : decode cX0_rankBy 24 = .ok (.iload_n 3, 1) := by decide +kernel
theorem dX0_rankBy_25 : decode cX0_rankBy 25 = .ok (.invokestatic 27, 3) := by decide +kernel
theorem dX0_rankBy_28 : decode cX0_rankBy 28 = .ok (.aload_n 1, 1) := by decide +kernel
theorem dX0_rankBy_29 : decode cX0_rankBy 29 = .ok (.aload_n 2, 1) := by decide +kernel
theorem dX0_rankBy_30 : decode cX0_rankBy 30 = .ok (.iload 4, 2) := by decide +kernel
theorem dX0_rankBy_32 : decode cX0_rankBy 32 = .ok (.iconst 1, 1) := by decide +kernel
theorem dX0_rankBy_33 : decode cX0_rankBy 33 = .ok (.isub, 1) := by decide +kernel
theorem dX0_rankBy_34 : decode cX0_rankBy 34 = .ok (.iaload, 1) := by decide +kernel
theorem dX0_rankBy_35 : decode cX0_rankBy 35 = .ok (.invokestatic 27, 3) := by decide +kernel
theorem dX0_rankBy_38 : decode cX0_rankBy 38 = .ok (.if_icmp .ge 19, 3) := by decide +kernel
theorem dX0_rankBy_41 : decode cX0_rankBy 41 = .ok (.aload_n 2, 1) := by decide +kernel
theorem dX0_rankBy_42 : decode cX0_rankBy 42 = .ok (.iload 4, 2) := by decide +kernel
theorem dX0_rankBy_44 : decode cX0_rankBy 44 = .ok (.aload_n 2, 1) := by decide +kernel
theorem dX0_rankBy_45 : decode cX0_rankBy 45 = .ok (.iload 4, 2) := by decide +kernel
theorem dX0_rankBy_47 : decode cX0_rankBy 47 = .ok (.iconst 1, 1) := by decide +kernel
theorem dX0_rankBy_48 : decode cX0_rankBy 48 = .ok (.isub, 1) := by decide +kernel
theorem dX0_rankBy_49 : decode cX0_rankBy 49 = .ok (.iaload, 1) := by decide +kernel
theorem dX0_rankBy_50 : decode cX0_rankBy 50 = .ok (.iastore, 1) := by decide +kernel
theorem dX0_rankBy_51 : decode cX0_rankBy 51 = .ok (.iinc 4 (-1), 3) := by decide +kernel
theorem dX0_rankBy_54 : decode cX0_rankBy 54 = .ok (.goto (-36), 3) := by decide +kernel
theorem dX0_rankBy_57 : decode cX0_rankBy 57 = .ok (.aload_n 2, 1) := by decide +kernel
theorem dX0_rankBy_58 : decode cX0_rankBy 58 = .ok (.iload 4, 2) := by decide +kernel
theorem dX0_rankBy_60 : decode cX0_rankBy 60 = .ok (.iload_n 3, 1) := by decide +kernel
theorem dX0_rankBy_61 : decode cX0_rankBy 61 = .ok (.iastore, 1) := by decide +kernel
theorem dX0_rankBy_62 : decode cX0_rankBy 62 = .ok (.iinc 3 1, 3) := by decide +kernel
theorem dX0_rankBy_65 : decode cX0_rankBy 65 = .ok (.goto (-57), 3) := by decide +kernel
theorem dX0_rankBy_68 : decode cX0_rankBy 68 = .ok (.iconst 0, 1) := by decide +kernel
theorem dX0_rankBy_69 : decode cX0_rankBy 69 = .ok (.istore_n 3, 1) := by decide +kernel
theorem dX0_rankBy_70 : decode cX0_rankBy 70 = .ok (.iload_n 3, 1) := by decide +kernel
theorem dX0_rankBy_71 : decode cX0_rankBy 71 = .ok (.sipush 256, 3) := by decide +kernel
theorem dX0_rankBy_74 : decode cX0_rankBy 74 = .ok (.if_icmp .ge 18, 3) := by decide +kernel
theorem dX0_rankBy_77 : decode cX0_rankBy 77 = .ok (.aload_n 0, 1) := by decide +kernel
theorem dX0_rankBy_78 : decode cX0_rankBy 78 = .ok (.getfield 9, 3) := by decide +kernel
theorem dX0_rankBy_81 : decode cX0_rankBy 81 = .ok (.aload_n 2, 1) := by decide +kernel
theorem dX0_rankBy_82 : decode cX0_rankBy 82 = .ok (.iload_n 3, 1) := by decide +kernel
theorem dX0_rankBy_83 : decode cX0_rankBy 83 = .ok (.iaload, 1) := by decide +kernel
theorem dX0_rankBy_84 : decode cX0_rankBy 84 = .ok (.iload_n 3, 1) := by decide +kernel
theorem dX0_rankBy_85 : decode cX0_rankBy 85 = .ok (.iastore, 1) := by decide +kernel
theorem dX0_rankBy_86 : decode cX0_rankBy 86 = .ok (.iinc 3 1, 3) := by decide +kernel
theorem dX0_rankBy_89 : decode cX0_rankBy 89 = .ok (.goto (-19), 3) := by decide +kernel
theorem dX0_rankBy_92 : decode cX0_rankBy 92 = .ok (.return_, 1) := by decide +kernel
theorem dX0_sortKey_0 : decode cX0_sortKey 0 = .ok (.aload_n 0, 1) := by decide +kernel
theorem dX0_sortKey_1 : decode cX0_sortKey 1 = .ok (.iload_n 1, 1) := by decide +kernel
theorem dX0_sortKey_2 : decode cX0_sortKey 2 = .ok (.iaload, 1) := by decide +kernel
theorem dX0_sortKey_3 : decode cX0_sortKey 3 = .ok (.iconst (-1), 1) := by decide +kernel
theorem dX0_sortKey_4 : decode cX0_sortKey 4 = .ok (.if_icmp .ne 10, 3) := by decide +kernel
theorem dX0_sortKey_7 : decode cX0_sortKey 7 = .ok (.ldc 31, 2) := by decide +kernel
theorem dX0_sortKey_9 : decode cX0_sortKey 9 = .ok (.iload_n 1, 1) := by decide +kernel
theorem dX0_sortKey_10 : decode cX0_sortKey 10 = .ok (.iadd, 1) := by decide +kernel
theorem dX0_sortKey_11 : decode cX0_sortKey 11 = .ok (.goto 6, 3) := by decide +kernel
theorem dX0_sortKey_14 : decode cX0_sortKey 14 = .ok (.aload_n 0, 1) := by decide +kernel
theorem dX0_sortKey_15 : decode cX0_sortKey 15 = .ok (.iload_n 1, 1) := by decide +kernel
theorem dX0_sortKey_16 : decode cX0_sortKey 16 = .ok (.iaload, 1) := by decide +kernel
theorem dX0_sortKey_17 : decode cX0_sortKey 17 = .ok (.ireturn, 1) := by decide +kernel
set_option maxRecDepth 20000 in
theorem ggX0_addEqual_X0_rankThoseOutside : GoodIn wsX0_addEqual wsX0_rankThoseOutside := goodIn_r _ [7, 8, 1, 2, 9, 10, 11, 12] (by decide +kernel) (by decide +kernel)
set_option maxRecDepth 20000 in
theorem gX0_addEqual_X0_rankThoseOutside : GoodIn wsX0_addEqual (wsV RX0 32 RX0 yX0_rankThoseOutside wsX0_rankThoseOutside) := goodIn_app (goodIn_of _ (by decide +kernel)) ggX0_addEqual_X0_rankThoseOutside
theorem dX0_addEqual_0 : decode cX0_addEqual 0 = .ok (.aload_n 0, 1) := by decide +kernel
theorem dX0_addEqual_1 : decode cX0_addEqual 1 = .ok (.getfield 15, 3) := by decide +kernel
theorem dX0_addEqual_4 : decode cX0_addEqual 4 = .ok (.iload_n 1, 1) := by decide +kernel
theorem dX0_addEqual_5 : decode cX0_addEqual 5 = .ok (.baload, 1) := by decide +kernel
theorem dX0_addEqual_6 : decode cX0_addEqual 6 = .ok (.ifCond .eq 12, 3) := by decide +kernel
theorem dX0_addEqual_9 : decode cX0_addEqual 9 = .ok (.aload_n 0, 1) := by decide +kernel
theorem dX0_addEqual_10 : decode cX0_addEqual 10 = .ok (.getfield 15, 3) := by decide +kernel
theorem dX0_addEqual_13 : decode cX0_addEqual 13 = .ok (.iload_n 2, 1) := by decide +kernel
theorem dX0_addEqual_14 : decode cX0_addEqual 14 = .ok (.baload, 1) := by decide +kernel
theorem dX0_addEqual_15 : decode cX0_addEqual 15 = .ok (.ifCond .eq 5, 3) := by decide +kernel
theorem dX0_addEqual_18 : decode cX0_addEqual 18 = .ok (.iconst 0, 1) := by decide +kernel
theorem dX0_addEqual_19 : decode cX0_addEqual 19 = .ok (.ireturn, 1) := by decide +kernel
theorem dX0_addEqual_20 : decode cX0_addEqual 20 = .ok (.aload_n 0, 1) := by decide +kernel
theorem dX0_addEqual_21 : decode cX0_addEqual 21 = .ok (.getfield 15, 3) := by decide +kernel
theorem dX0_addEqual_24 : decode cX0_addEqual 24 = .ok (.iload_n 2, 1) := by decide +kernel
theorem dX0_addEqual_25 : decode cX0_addEqual 25 = .ok (.iconst 1, 1) := by decide +kernel
theorem dX0_addEqual_26 : decode cX0_addEqual 26 = .ok (.bastore, 1) := by decide +kernel
theorem dX0_addEqual_27 : decode cX0_addEqual 27 = .ok (.aload_n 0, 1) := by decide +kernel
theorem dX0_addEqual_28 : decode cX0_addEqual 28 = .ok (.getfield 9, 3) := by decide +kernel
theorem dX0_addEqual_31 : decode cX0_addEqual 31 = .ok (.iload_n 2, 1) := by decide +kernel
theorem dX0_addEqual_32 : decode cX0_addEqual 32 = .ok (.aload_n 0, 1) := by decide +kernel
theorem dX0_addEqual_33 : decode cX0_addEqual 33 = .ok (.getfield 9, 3) := by decide +kernel
theorem dX0_addEqual_36 : decode cX0_addEqual 36 = .ok (.iload_n 1, 1) := by decide +kernel
theorem dX0_addEqual_37 : decode cX0_addEqual 37 = .ok (.iaload, 1) := by decide +kernel
theorem dX0_addEqual_38 : decode cX0_addEqual 38 = .ok (.iastore, 1) := by decide +kernel
theorem dX0_addEqual_39 : decode cX0_addEqual 39 = .ok (.aload_n 0, 1) := by decide +kernel
theorem dX0_addEqual_40 : decode cX0_addEqual 40 = .ok (.invokevirtual 32, 3) := by decide +kernel
theorem dX0_addEqual_43 : decode cX0_addEqual 43 = .ok (.iconst 1, 1) := by decide +kernel
theorem dX0_addEqual_44 : decode cX0_addEqual 44 = .ok (.ireturn, 1) := by decide +kernel
set_option maxRecDepth 20000 in
theorem ggX0_addRange_X0_rankThoseOutside : GoodIn wsX0_addRange wsX0_rankThoseOutside := goodIn_r _ [18, 10, 8, 9, 19, 20, 21, 22] (by decide +kernel) (by decide +kernel)
set_option maxRecDepth 20000 in
theorem gX0_addRange_X0_rankThoseOutside : GoodIn wsX0_addRange (wsV RX0 32 RX0 yX0_rankThoseOutside wsX0_rankThoseOutside) := goodIn_app (goodIn_of _ (by decide +kernel)) ggX0_addRange_X0_rankThoseOutside
theorem dX0_addRange_0 : decode cX0_addRange 0 = .ok (.iload_n 1, 1) := by decide +kernel
theorem dX0_addRange_1 : decode cX0_addRange 1 = .ok (.iload_n 2, 1) := by decide +kernel
theorem dX0_addRange_2 : decode cX0_addRange 2 = .ok (.invokestatic 35, 3) := by decide +kernel
theorem dX0_addRange_5 : decode cX0_addRange 5 = .ok (.istore_n 3, 1) := by decide +kernel
theorem dX0_addRange_6 : decode cX0_addRange 6 = .ok (.iload_n 1, 1) := by decide +kernel
theorem dX0_addRange_7 : decode cX0_addRange 7 = .ok (.iload_n 2, 1) := by decide +kernel
theorem dX0_addRange_8 : decode cX0_addRange 8 = .ok (.invokestatic 41, 3) := by decide +kernel
theorem dX0_addRange_11 : decode cX0_addRange 11 = .ok (.istore 4, 2) := by decide +kernel
theorem dX0_addRange_13 : decode cX0_addRange 13 = .ok (.iload_n 3, 1) := by decide +kernel
theorem dX0_addRange_14 : decode cX0_addRange 14 = .ok (.istore 5, 2) := by decide +kernel
theorem dX0_addRange_16 : decode cX0_addRange 16 = .ok (.iload 5, 2) := by decide +kernel
theorem dX0_addRange_18 : decode cX0_addRange 18 = .ok (.iload 4, 2) := by decide +kernel
theorem dX0_addRange_20 : decode cX0_addRange 20 = .ok (.if_icmp .gt 21, 3) := by decide +kernel
theorem dX0_addRange_23 : decode cX0_addRange 23 = .ok (.aload_n 0, 1) := by decide +kernel
theorem dX0_addRange_24 : decode cX0_addRange 24 = .ok (.getfield 15, 3) := by decide +kernel
theorem dX0_addRange_27 : decode cX0_addRange 27 = .ok (.iload 5, 2) := by decide +kernel
theorem dX0_addRange_29 : decode cX0_addRange 29 = .ok (.baload, 1) := by decide +kernel
theorem dX0_addRange_30 : decode cX0_addRange 30 = .ok (.ifCond .eq 5, 3) := by decide +kernel
theorem dX0_addRange_33 : decode cX0_addRange 33 = .ok (.iconst 0, 1) := by decide +kernel
theorem dX0_addRange_34 : decode cX0_addRange 34 = .ok (.ireturn, 1) := by decide +kernel
theorem dX0_addRange_35 : decode cX0_addRange 35 = .ok (.iinc 5 1, 3) := by decide +kernel
theorem dX0_addRange_38 : decode cX0_addRange 38 = .ok (.goto (-22), 3) := by decide +kernel
theorem dX0_addRange_41 : decode cX0_addRange 41 = .ok (.iload_n 3, 1) := by decide +kernel
theorem dX0_addRange_42 : decode cX0_addRange 42 = .ok (.istore 5, 2) := by decide +kernel
theorem dX0_addRange_44 : decode cX0_addRange 44 = .ok (.iload 5, 2) := by decide +kernel
theorem dX0_addRange_46 : decode cX0_addRange 46 = .ok (.iload 4, 2) := by decide +kernel
theorem dX0_addRange_48 : decode cX0_addRange 48 = .ok (.if_icmp .gt 36, 3) := by decide +kernel
theorem dX0_addRange_51 : decode cX0_addRange 51 = .ok (.aload_n 0, 1) := by decide +kernel
theorem dX0_addRange_52 : decode cX0_addRange 52 = .ok (.getfield 15, 3) := by decide +kernel
theorem dX0_addRange_55 : decode cX0_addRange 55 = .ok (.iload 5, 2) := by decide +kernel
theorem dX0_addRange_57 : decode cX0_addRange 57 = .ok (.iconst 1, 1) := by decide +kernel
theorem dX0_addRange_58 : decode cX0_addRange 58 = .ok (.bastore, 1) := by decide +kernel
theorem dX0_addRange_59 : decode cX0_addRange 59 = .ok (.aload_n 0, 1) := by decide +kernel
theorem dX0_addRange_60 : decode cX0_addRange 60 = .ok (.getfield 9, 3) := by decide +kernel
theorem dX0_addRange_63 : decode cX0_addRange 63 = .ok (.iload 5, 2) := by decide +kernel
theorem dX0_addRange_65 : decode cX0_addRange 65 = .ok (.aload_n 0, 1) := by decide +kernel
theorem dX0_addRange_66 : decode cX0_addRange 66 = .ok (.getfield 19, 3) := by decide +kernel
theorem dX0_addRange_69 : decode cX0_addRange 69 = .ok (.iload 5, 2) := by decide +kernel
theorem dX0_addRange_71 : decode cX0_addRange 71 = .ok (.iload_n 1, 1) := by decide +kernel
theorem dX0_addRange_72 : decode cX0_addRange 72 = .ok (.isub, 1) := by decide +kernel
theorem dX0_addRange_73 : decode cX0_addRange 73 = .ok (.invokestatic 44, 3) := by decide +kernel
theorem dX0_addRange_76 : decode cX0_addRange 76 = .ok (.iadd, 1) := by decide +kernel
theorem dX0_addRange_77 : decode cX0_addRange 77 = .ok (.iastore, 1) := by decide +kernel
theorem dX0_addRange_78 : decode cX0_addRange 78 = .ok (.iinc 5 1, 3) := by decide +kernel
theorem dX0_addRange_81 : decode cX0_addRange 81 = .ok (.goto (-37), 3) := by decide +kernel
theorem dX0_addRange_84 : decode cX0_addRange 84 = .ok (.aload_n 0, 1) := by decide +kernel
theorem dX0_addRange_85 : decode cX0_addRange 85 = .ok (.dup, 1) := by decide +kernel
theorem dX0_addRange_86 : decode cX0_addRange 86 = .ok (.getfield 19, 3) := by decide +kernel
theorem dX0_addRange_89 : decode cX0_addRange 89 = .ok (.iload 4, 2) := by decide +kernel
theorem dX0_addRange_91 : decode cX0_addRange 91 = .ok (.iload_n 3, 1) := by decide +kernel
theorem dX0_addRange_92 : decode cX0_addRange 92 = .ok (.isub, 1) := by decide +kernel
theorem dX0_addRange_93 : decode cX0_addRange 93 = .ok (.iconst 1, 1) := by decide +kernel
theorem dX0_addRange_94 : decode cX0_addRange 94 = .ok (.iadd, 1) := by decide +kernel
theorem dX0_addRange_95 : decode cX0_addRange 95 = .ok (.iadd, 1) := by decide +kernel
theorem dX0_addRange_96 : decode cX0_addRange 96 = .ok (.putfield 19, 3) := by decide +kernel
theorem dX0_addRange_99 : decode cX0_addRange 99 = .ok (.aload_n 0, 1) := by decide +kernel
theorem dX0_addRange_100 : decode cX0_addRange 100 = .ok (.invokevirtual 32, 3) := by decide +kernel
theorem dX0_addRange_103 : decode cX0_addRange 103 = .ok (.iconst 1, 1) := by decide +kernel
theorem dX0_addRange_104 : decode cX0_addRange 104 = .ok (.ireturn, 1) := by decide +kernel
theorem dX0_rankThoseOutside_0 : decode cX0_rankThoseOutside 0 = .ok (.aload_n 0, 1) := by decide +kernel
theorem dX0_rankThoseOutside_1 : decode cX0_rankThoseOutside 1 = .ok (.getfield 19, 3) := by decide +kernel
theorem dX0_rankThoseOutside_4 : decode cX0_rankThoseOutside 4 = .ok (.istore_n 1, 1) := by decide +kernel
theorem dX0_rankThoseOutside_5 : decode cX0_rankThoseOutside 5 = .ok (.iconst 0, 1) := by decide +kernel
theorem dX0_rankThoseOutside_6 : decode cX0_rankThoseOutside 6 = .ok (.istore_n 2, 1) := by decide +kernel
theorem dX0_rankThoseOutside_7 : decode cX0_rankThoseOutside 7 = .ok (.iload_n 2, 1) := by decide +kernel
theorem dX0_rankThoseOutside_8 : decode cX0_rankThoseOutside 8 = .ok (.sipush 256, 3) := by decide +kernel
theorem dX0_rankThoseOutside_11 : decode cX0_rankThoseOutside 11 = .ok (.if_icmp .ge 28, 3) := by decide +kernel
theorem dX0_rankThoseOutside_14 : decode cX0_rankThoseOutside 14 = .ok (.aload_n 0, 1) := by decide +kernel
theorem dX0_rankThoseOutside_15 : decode cX0_rankThoseOutside 15 = .ok (.getfield 15, 3) := by decide +kernel
theorem dX0_rankThoseOutside_18 : decode cX0_rankThoseOutside 18 = .ok (.iload_n 2, 1) := by decide +kernel
theorem dX0_rankThoseOutside_19 : decode cX0_rankThoseOutside 19 = .ok (.baload, 1) := by decide +kernel
theorem dX0_rankThoseOutside_20 : decode cX0_rankThoseOutside 20 = .ok (.ifCond .ne 13, 3) := by decide +kernel
theorem dX0_rankThoseOutside_23 : decode cX0_rankThoseOutside 23 = .ok (.aload_n 0, 1) := by decide +kernel
theorem dX0_rankThoseOutside_24 : decode cX0_rankThoseOutside 24 = .ok (.getfield 9, 3) := by decide +kernel
theorem dX0_rankThoseOutside_27 : decode cX0_rankThoseOutside 27 = .ok (.iload_n 2, 1) := by decide +kernel
theorem dX0_rankThoseOutside_28 : decode cX0_rankThoseOutside 28 = .ok (.iload_n 1, 1) := by decide +kernel
theorem dX0_rankThoseOutside_29 : decode cX0_rankThoseOutside 29 = .ok (.iastore, 1) := by decide +kernel
theorem dX0_rankThoseOutside_30 : decode cX0_rankThoseOutside 30 = .ok (.iinc 1 1, 3) := by decide +kernel
theorem dX0_rankThoseOutside_33 : decode cX0_rankThoseOutside 33 = .ok (.iinc 2 1, 3) := by decide +kernel
theorem dX0_rankThoseOutside_36 : decode cX0_rankThoseOutside 36 = .ok (.goto (-29), 3) := by decide +kernel
theorem dX0_rankThoseOutside_39 : decode cX0_rankThoseOutside 39 = .ok (.return_, 1) := by decide +kernel
theorem dX0_lastCode_0 : decode cX0_lastCode 0 = .ok (.iconst 0, 1) := by decide +kernel
theorem dX0_lastCode_1 : decode cX0_lastCode 1 = .ok (.istore_n 1, 1) := by decide +kernel
theorem dX0_lastCode_2 : decode cX0_lastCode 2 = .ok (.iconst 1, 1) := by decide +kernel
theorem dX0_lastCode_3 : decode cX0_lastCode 3 = .ok (.istore_n 2, 1) := by decide +kernel
theorem dX0_lastCode_4 : decode cX0_lastCode 4 = .ok (.iload_n 2, 1) := by decide +kernel
theorem dX0_lastCode_5 : decode cX0_lastCode 5 = .ok (.sipush 256, 3) := by decide +kernel
theorem dX0_lastCode_8 : decode cX0_lastCode 8 = .ok (.if_icmp .ge 26, 3) := by decide +kernel
theorem dX0_lastCode_11 : decode cX0_lastCode 11 = .ok (.aload_n 0, 1) := by decide +kernel
theorem dX0_lastCode_12 : decode cX0_lastCode 12 = .ok (.getfield 9, 3) := by decide +kernel
theorem dX0_lastCode_15 : decode cX0_lastCode 15 = .ok (.iload_n 2, 1) := by decide +kernel
theorem dX0_lastCode_16 : decode cX0_lastCode 16 = .ok (.iaload, 1) := by decide +kernel
theorem dX0_lastCode_17 : decode cX0_lastCode 17 = .ok (.aload_n 0, 1) := by decide +kernel
theorem dX0_lastCode_18 : decode cX0_lastCode 18 = .ok (.getfield 9, 3) := by decide +kernel
theorem dX0_lastCode_21 : decode cX0_lastCode 21 = .ok (.iload_n 1, 1) := by decide +kernel
theorem dX0_lastCode_22 : decode cX0_lastCode 22 = .ok (.iaload, 1) := by decide +kernel
theorem dX0_lastCode_23 : decode cX0_lastCode 23 = .ok (.if_icmp .lt 5, 3) := by decide +kernel
theorem dX0_lastCode_26 : decode cX0_lastCode 26 = .ok (.iload_n 2, 1) := by decide +kernel
theorem dX0_lastCode_27 : decode cX0_lastCode 27 = .ok (.istore_n 1, 1) := by decide +kernel
theorem dX0_lastCode_28 : decode cX0_lastCode 28 = .ok (.iinc 2 1, 3) := by decide +kernel
theorem dX0_lastCode_31 : decode cX0_lastCode 31 = .ok (.goto (-27), 3) := by decide +kernel
theorem dX0_lastCode_34 : decode cX0_lastCode 34 = .ok (.iload_n 1, 1) := by decide +kernel
theorem dX0_lastCode_35 : decode cX0_lastCode 35 = .ok (.ireturn, 1) := by decide +kernel
set_option maxRecDepth 20000 in
theorem ggX1_init_X1_firstMeaning : GoodIn wsX1_init wsX1_firstMeaning := goodIn_r _ [10] (by decide +kernel) (by decide +kernel)
set_option maxRecDepth 20000 in
theorem gX1_init_X1_firstMeaning : GoodIn wsX1_init (va_wsS RX1 19 yX1_firstMeaning wsX1_firstMeaning) := goodIn_app (goodIn_of _ (by decide +kernel)) ggX1_init_X1_firstMeaning
theorem dX1_init_0 : decode cX1_init 0 = .ok (.aload_n 0, 1) := by decide +kernel
theorem dX1_init_1 : decode cX1_init 1 = .ok (.invokespecial 3, 3) := by decide +kernel
theorem dX1_init_4 : decode cX1_init 4 = .ok (.aload_n 0, 1) := by decide +kernel
theorem dX1_init_5 : decode cX1_init 5 = .ok (.sipush 256, 3) := by decide +kernel
theorem dX1_init_8 : decode cX1_init 8 = .ok (.newarray .int, 2) := by decide +kernel
theorem dX1_init_10 : decode cX1_init 10 = .ok (.putfield 9, 3) := by decide +kernel
theorem dX1_init_13 : decode cX1_init 13 = .ok (.aload_n 0, 1) := by decide +kernel
theorem dX1_init_14 : decode cX1_init 14 = .ok (.bipush 63, 2) := by decide +kernel
theorem dX1_init_16 : decode cX1_init 16 = .ok (.putfield 15, 3) := by decide +kernel
theorem dX1_init_19 : decode cX1_init 19 = .ok (.iconst 0, 1) := by decide +kernel
theorem dX1_init_20 : decode cX1_init 20 = .ok (.istore_n 2, 1) := by decide +kernel
theorem dX1_init_21 : decode cX1_init 21 = .ok (.iload_n 2, 1) := by decide +kernel
theorem dX1_init_22 : decode cX1_init 22 = .ok (.sipush 256, 3) := by decide +kernel
theorem dX1_init_25 : decode cX1_init 25 = .ok (.if_icmp .ge 20, 3) := by decide +kernel
theorem dX1_init_28 : decode cX1_init 28 = .ok (.aload_n 0, 1) := by decide +kernel
theorem dX1_init_29 : decode cX1_init 29 = .ok (.getfield 9, 3) := by decide +kernel
theorem dX1_init_32 : decode cX1_init 32 = .ok (.iload_n 2, 1) := by decide +kernel
theorem dX1_init_33 : decode cX1_init 33 = .ok (.iload_n 1, 1) := by decide +kernel
theorem dX1_init_34 : decode cX1_init 34 = .ok (.iload_n 2, 1) := by decide +kernel
theorem dX1_init_35 : decode cX1_init 35 = .ok (.invokestatic 19, 3) := by decide +kernel
theorem dX1_init_38 : decode cX1_init 38 = .ok (.iastore, 1) := by decide +kernel
theorem dX1_init_39 : decode cX1_init 39 = .ok (.iinc 2 1, 3) := by decide +kernel
theorem dX1_init_42 : decode cX1_init 42 = .ok (.goto (-21), 3) := by decide +kernel
theorem dX1_init_45 : decode cX1_init 45 = .ok (.return_, 1) := by decide +kernel
theorem dX1_firstMeaning_0 : decode cX1_firstMeaning 0 = .ok (.iload_n 0, 1) := by decide +kernel
theorem dX1_firstMeaning_1 : decode cX1_firstMeaning 1 = .ok (.ifCond .ne 16, 3) := by decide +kernel
theorem dX1_firstMeaning_4 : decode cX1_firstMeaning 4 = .ok (.iload_n 1, 1) := by decide +kernel
theorem dX1_firstMeaning_5 : decode cX1_firstMeaning 5 = .ok (.sipush 128, 3) := by decide +kernel
theorem dX1_firstMeaning_8 : decode cX1_firstMeaning 8 = .ok (.if_icmp .ge 7, 3) := by decide +kernel
theorem dX1_firstMeaning_11 : decode cX1_firstMeaning 11 = .ok (.iload_n 1, 1) := by decide +kernel
theorem dX1_firstMeaning_12 : decode cX1_firstMeaning 12 = .ok (.goto 4, 3) := by decide +kernel
theorem dX1_firstMeaning_15 : decode cX1_firstMeaning 15 = .ok (.iconst (-1), 1) := by decide +kernel
theorem dX1_firstMeaning_16 : decode cX1_firstMeaning 16 = .ok (.ireturn, 1) := by decide +kernel
theorem dX1_firstMeaning_17 : decode cX1_firstMeaning 17 = .ok (.iload_n 0, 1) := by decide +kernel
theorem dX1_firstMeaning_18 : decode cX1_firstMeaning 18 = .ok (.iconst 1, 1) := by decide +kernel
theorem dX1_firstMeaning_19 : decode cX1_firstMeaning 19 = .ok (.if_icmp .ne 18, 3) := by decide +kernel
theorem dX1_firstMeaning_22 : decode cX1_firstMeaning 22 = .ok (.sipush 167, 3) := by decide +kernel
theorem dX1_firstMeaning_25 : decode cX1_firstMeaning 25 = .ok (.iload_n 1, 1) := by decide +kernel
theorem dX1_firstMeaning_26 : decode cX1_firstMeaning 26 = .ok (.imul, 1) := by decide +kernel
theorem dX1_firstMeaning_27 : decode cX1_firstMeaning 27 = .ok (.bipush 13, 2) := by decide +kernel
theorem dX1_firstMeaning_29 : decode cX1_firstMeaning 29 = .ok (.iadd, 1) := by decide +kernel
theorem dX1_firstMeaning_30 : decode cX1_firstMeaning 30 = .ok (.sipush 256, 3) := by decide +kernel
theorem dX1_firstMeaning_33 : decode cX1_firstMeaning 33 = .ok (.irem, 1) := by decide +kernel
theorem dX1_firstMeaning_34 : decode cX1_firstMeaning 34 = .ok (.goto 4, 3) := by decide +kernel
theorem dX1_firstMeaning_37 : decode cX1_firstMeaning 37 = .ok (.iconst (-1), 1) := by decide +kernel
theorem dX1_firstMeaning_38 : decode cX1_firstMeaning 38 = .ok (.ireturn, 1) := by decide +kernel
theorem dX1_codeThatMeans_0 : decode cX1_codeThatMeans 0 = .ok (.iload_n 1, 1) := by decide +kernel
theorem dX1_codeThatMeans_1 : decode cX1_codeThatMeans 1 = .ok (.iconst (-1), 1) := by decide +kernel
theorem dX1_codeThatMeans_2 : decode cX1_codeThatMeans 2 = .ok (.if_icmp .ne 5, 3) := by decide +kernel
theorem dX1_codeThatMeans_5 : decode cX1_codeThatMeans 5 = .ok (.iconst (-1), 1) := by decide +kernel
theorem dX1_codeThatMeans_6 : decode cX1_codeThatMeans 6 = .ok (.ireturn, 1) := by decide +kernel
theorem dX1_codeThatMeans_7 : decode cX1_codeThatMeans 7 = .ok (.iconst 0, 1) := by decide +kernel
theorem dX1_codeThatMeans_8 : decode cX1_codeThatMeans 8 = .ok (.istore_n 2, 1) := by decide +kernel
theorem dX1_codeThatMeans_9 : decode cX1_codeThatMeans 9 = .ok (.iload_n 2, 1) := by decide +kernel
theorem dX1_codeThatMeans_10 : decode cX1_codeThatMeans 10 = .ok (.sipush 256, 3) := by decide +kernel
theorem dX1_codeThatMeans_13 : decode cX1_codeThatMeans 13 = .ok (.if_icmp .ge 21, 3) := by decide +kernel
theorem dX1_codeThatMeans_16 : decode cX1_codeThatMeans 16 = .ok (.aload_n 0, 1) := by decide +kernel
theorem dX1_codeThatMeans_17 : decode cX1_codeThatMeans 17 = .ok (.getfield 9, 3) := by decide +kernel
theorem dX1_codeThatMeans_20 : decode cX1_codeThatMeans 20 = .ok (.iload_n 2, 1) := by decide +kernel
theorem dX1_codeThatMeans_21 : decode cX1_codeThatMeans 21 = .ok (.iaload, 1) := by decide +kernel
theorem dX1_codeThatMeans_22 : decode cX1_codeThatMeans 22 = .ok (.iload_n 1, 1) := by decide +kernel
theorem dX1_codeThatMeans_23 : decode cX1_codeThatMeans 23 = .ok (.if_icmp .ne 5, 3) := by decide +kernel
theorem dX1_codeThatMeans_26 : decode cX1_codeThatMeans 26 = .ok (.iload_n 2, 1) := by decide +kernel
theorem dX1_codeThatMeans_27 : decode cX1_codeThatMeans 27 = .ok (.ireturn, 1) := by decide +kernel
theorem dX1_codeThatMeans_28 : decode cX1_codeThatMeans 28 = .ok (.iinc 2 1, 3) := by decide +kernel
theorem dX1_codeThatMeans_31 : decode cX1_codeThatMeans 31 = .ok (.goto (-22), 3) := by decide +kernel
theorem dX1_codeThatMeans_34 : decode cX1_codeThatMeans 34 = .ok (.iconst (-1), 1) := by decide +kernel
theorem dX1_codeThatMeans_35 : decode cX1_codeThatMeans 35 = .ok (.ireturn, 1) := by decide +kernel
theorem dX2_init_0 : decode cX2_init 0 = .ok (.aload_n 0, 1) := by decide +kernel
theorem dX2_init_1 : decode cX2_init 1 = .ok (.invokespecial 3, 3) := by decide +kernel
theorem dX2_init_4 : decode cX2_init 4 = .ok (.aload_n 0, 1) := by decide +kernel
theorem dX2_init_5 : decode cX2_init 5 = .ok (.bipush 40, 2) := by decide +kernel
theorem dX2_init_7 : decode cX2_init 7 = .ok (.newarray .int, 2) := by decide +kernel
theorem dX2_init_9 : decode cX2_init 9 = .ok (.putfield 9, 3) := by decide +kernel
theorem dX2_init_12 : decode cX2_init 12 = .ok (.aload_n 0, 1) := by decide +kernel
theorem dX2_init_13 : decode cX2_init 13 = .ok (.iconst 0, 1) := by decide +kernel
theorem dX2_init_14 : decode cX2_init 14 = .ok (.putfield 15, 3) := by decide +kernel
theorem dX2_init_17 : decode cX2_init 17 = .ok (.return_, 1) := by decide +kernel
theorem dX2_codeOrBlank_0 : decode cX2_codeOrBlank 0 = .ok (.iload_n 1, 1) := by decide +kernel
theorem dX2_codeOrBlank_1 : decode cX2_codeOrBlank 1 = .ok (.ifCond .lt 20, 3) := by decide +kernel
theorem dX2_codeOrBlank_4 : decode cX2_codeOrBlank 4 = .ok (.iload_n 1, 1) := by decide +kernel
theorem dX2_codeOrBlank_5 : decode cX2_codeOrBlank 5 = .ok (.aload_n 0, 1) := by decide +kernel
theorem dX2_codeOrBlank_6 : decode cX2_codeOrBlank 6 = .ok (.getfield 15, 3) := by decide +kernel
theorem dX2_codeOrBlank_9 : decode cX2_codeOrBlank 9 = .ok (.if_icmp .ge 12, 3) := by decide +kernel
theorem dX2_codeOrBlank_12 : decode cX2_codeOrBlank 12 = .ok (.aload_n 0, 1) := by decide +kernel
theorem dX2_codeOrBlank_13 : decode cX2_codeOrBlank 13 = .ok (.getfield 9, 3) := by decide +kernel
theorem dX2_codeOrBlank_16 : decode cX2_codeOrBlank 16 = .ok (.iload_n 1, 1) := by decide +kernel
theorem dX2_codeOrBlank_17 : decode cX2_codeOrBlank 17 = .ok (.iaload, 1) := by decide +kernel
theorem dX2_codeOrBlank_18 : decode cX2_codeOrBlank 18 = .ok (.goto 5, 3) := by decide +kernel
theorem dX2_codeOrBlank_21 : decode cX2_codeOrBlank 21 = .ok (.bipush 32, 2) := by decide +kernel
theorem dX2_codeOrBlank_23 : decode cX2_codeOrBlank 23 = .ok (.ireturn, 1) := by decide +kernel
theorem dX3_init_0 : decode cX3_init 0 = .ok (.aload_n 0, 1) := by decide +kernel
theorem dX3_init_1 : decode cX3_init 1 = .ok (.invokespecial 1, 3) := by decide +kernel
theorem dX3_init_4 : decode cX3_init 4 = .ok (.aload_n 0, 1) := by decide +kernel
theorem dX3_init_5 : decode cX3_init 5 = .ok (.bipush 12, 2) := by decide +kernel
theorem dX3_init_7 : decode cX3_init 7 = .ok (.anewarray 9, 3) := by decide +kernel
theorem dX3_init_10 : decode cX3_init 10 = .ok (.putfield 11, 3) := by decide +kernel
theorem dX3_init_13 : decode cX3_init 13 = .ok (.aload_n 0, 1) := by decide +kernel
theorem dX3_init_14 : decode cX3_init 14 = .ok (.bipush 12, 2) := by decide +kernel
theorem dX3_init_16 : decode cX3_init 16 = .ok (.anewarray 15, 3) := by decide +kernel
theorem dX3_init_19 : decode cX3_init 19 = .ok (.putfield 17, 3) := by decide +kernel
theorem dX3_init_22 : decode cX3_init 22 = .ok (.aload_n 0, 1) := by decide +kernel
theorem dX3_init_23 : decode cX3_init 23 = .ok (.bipush 40, 2) := by decide +kernel
theorem dX3_init_25 : decode cX3_init 25 = .ok (.anewarray 21, 3) := by decide +kernel
theorem dX3_init_28 : decode cX3_init 28 = .ok (.putfield 23, 3) := by decide +kernel
theorem dX3_init_31 : decode cX3_init 31 = .ok (.aload_n 0, 1) := by decide +kernel
theorem dX3_init_32 : decode cX3_init 32 = .ok (.sipush 200, 3) := by decide +kernel
theorem dX3_init_35 : decode cX3_init 35 = .ok (.newarray .int, 2) := by decide +kernel
theorem dX3_init_37 : decode cX3_init 37 = .ok (.putfield 27, 3) := by decide +kernel
theorem dX3_init_40 : decode cX3_init 40 = .ok (.aload_n 0, 1) := by decide +kernel
theorem dX3_init_41 : decode cX3_init 41 = .ok (.iconst 0, 1) := by decide +kernel
theorem dX3_init_42 : decode cX3_init 42 = .ok (.putfield 31, 3) := by decide +kernel
theorem dX3_init_45 : decode cX3_init 45 = .ok (.aload_n 0, 1) := by decide +kernel
theorem dX3_init_46 : decode cX3_init 46 = .ok (.iconst 0, 1) := by decide +kernel
theorem dX3_init_47 : decode cX3_init 47 = .ok (.putfield 35, 3) := by decide +kernel
theorem dX3_init_50 : decode cX3_init 50 = .ok (.aload_n 0, 1) := by decide +kernel
theorem dX3_init_51 : decode cX3_init 51 = .ok (.iconst 0, 1) := by decide +kernel
theorem dX3_init_52 : decode cX3_init 52 = .ok (.putfield 38, 3) := by decide +kernel
theorem dX3_init_55 : decode cX3_init 55 = .ok (.aload_n 0, 1) := by decide +kernel
theorem dX3_init_56 : decode cX3_init 56 = .ok (.iconst 0, 1) := by decide +kernel
theorem dX3_init_57 : decode cX3_init 57 = .ok (.putfield 41, 3) := by decide +kernel
theorem dX3_init_60 : decode cX3_init 60 = .ok (.return_, 1) := by decide +kernel
set_option maxRecDepth 20000 in
theorem ggX3_page_X3_isKind : GoodIn wsX3_page wsX3_isKind := goodIn_r _ [9] (by decide +kernel) (by decide +kernel)
set_option maxRecDepth 20000 in
theorem gX3_page_X3_isKind : GoodIn wsX3_page (va_wsS RX3 44 yX3_isKind wsX3_isKind) := goodIn_app (goodIn_of _ (by decide +kernel)) ggX3_page_X3_isKind
set_option maxRecDepth 20000 in
theorem ggX3_page_X1_init : GoodIn wsX3_page wsX1_init := goodIn_r _ [12, 13, 14, 15, 16, 17, 18, 19, 20, 5, 21, 30, 31] (by decide +kernel) (by decide +kernel)
set_option maxRecDepth 20000 in
theorem gX3_page_X1_init : GoodIn wsX3_page (wsX1_init) := ggX3_page_X1_init
theorem dX3_page_0 : decode cX3_page 0 = .ok (.iload_n 1, 1) := by decide +kernel
theorem dX3_page_1 : decode cX3_page 1 = .ok (.invokestatic 44, 3) := by decide +kernel
theorem dX3_page_4 : decode cX3_page 4 = .ok (.ifCond .ne 6, 3) := by decide +kernel
theorem dX3_page_7 : decode cX3_page 7 = .ok (.bipush (-4), 2) := by decide +kernel
theorem dX3_page_9 : decode cX3_page 9 = .ok (.ireturn, 1) := by decide +kernel
theorem dX3_page_10 : decode cX3_page 10 = .ok (.aload_n 0, 1) := by decide +kernel
theorem dX3_page_11 : decode cX3_page 11 = .ok (.getfield 31, 3) := by decide +kernel
theorem dX3_page_14 : decode cX3_page 14 = .ok (.bipush 12, 2) := by decide +kernel
theorem dX3_page_16 : decode cX3_page 16 = .ok (.if_icmp .lt 5, 3) := by decide +kernel
theorem dX3_page_19 : decode cX3_page 19 = .ok (.iconst (-1), 1) := by decide +kernel
theorem dX3_page_20 : decode cX3_page 20 = .ok (.ireturn, 1) := by decide +kernel
theorem dX3_page_21 : decode cX3_page 21 = .ok (.aload_n 0, 1) := by decide +kernel
theorem dX3_page_22 : decode cX3_page 22 = .ok (.getfield 11, 3) := by decide +kernel
theorem dX3_page_25 : decode cX3_page 25 = .ok (.aload_n 0, 1) := by decide +kernel
theorem dX3_page_26 : decode cX3_page 26 = .ok (.getfield 31, 3) := by decide +kernel
theorem dX3_page_29 : decode cX3_page 29 = .ok (.new 9, 3) := by decide +kernel
theorem dX3_page_32 : decode cX3_page 32 = .ok (.dup, 1) := by decide +kernel
theorem dX3_page_33 : decode cX3_page 33 = .ok (.iload_n 1, 1) := by decide +kernel
theorem dX3_page_34 : decode cX3_page 34 = .ok (.invokespecial 48, 3) := by decide +kernel
theorem dX3_page_37 : decode cX3_page 37 = .ok (.aastore, 1) := by decide +kernel
theorem dX3_page_38 : decode cX3_page 38 = .ok (.aload_n 0, 1) := by decide +kernel
theorem dX3_page_39 : decode cX3_page 39 = .ok (.dup, 1) := by decide +kernel
theorem dX3_page_40 : decode cX3_page 40 = .ok (.getfield 31, 3) := by decide +kernel
theorem dX3_page_43 : decode cX3_page 43 = .ok (.dup_x1, 1) := by decide +kernel
theorem dX3_page_44 : decode cX3_page 44 = .ok (.iconst 1, 1) := by decide +kernel
theorem dX3_page_45 : decode cX3_page 45 = .ok (.iadd, 1) := by decide +kernel
theorem dX3_page_46 : decode cX3_page 46 = .ok (.putfield 31, 3) := by decide +kernel
theorem dX3_page_49 : decode cX3_page 49 = .ok (.ireturn, 1) := by decide +kernel
set_option maxRecDepth 20000 in
theorem ggX3_set_X3_pageAt : GoodIn wsX3_set wsX3_pageAt := goodIn_r _ [6, 7, 23, 24, 25, 26, 27, 28, 29, 30] (by decide +kernel) (by decide +kernel)
set_option maxRecDepth 20000 in
theorem gX3_set_X3_pageAt : GoodIn wsX3_set (wsV RX3 51 RX3 yX3_pageAt wsX3_pageAt) := goodIn_app (goodIn_of _ (by decide +kernel)) ggX3_set_X3_pageAt
set_option maxRecDepth 20000 in
theorem ggX3_set_X3_isCode : GoodIn wsX3_set wsX3_isCode := goodIn_r _ [10] (by decide +kernel) (by decide +kernel)
set_option maxRecDepth 20000 in
theorem gX3_set_X3_isCode : GoodIn wsX3_set (va_wsS RX3 55 yX3_isCode wsX3_isCode) := goodIn_app (goodIn_of _ (by decide +kernel)) ggX3_set_X3_isCode
set_option maxRecDepth 20000 in
theorem ggX3_set_X3_isMeaningOrNone : GoodIn wsX3_set wsX3_isMeaningOrNone := goodIn_r _ [13, 14] (by decide +kernel) (by decide +kernel)
set_option maxRecDepth 20000 in
theorem gX3_set_X3_isMeaningOrNone : GoodIn wsX3_set (va_wsS RX3 58 yX3_isMeaningOrNone wsX3_isMeaningOrNone) := goodIn_app (goodIn_of _ (by decide +kernel)) ggX3_set_X3_isMeaningOrNone
set_option maxRecDepth 20000 in
theorem ggX3_set_X1_codeThatMeans : GoodIn wsX3_set wsX1_codeThatMeans := goodIn_r _ [19, 20, 21, 22] (by decide +kernel) (by decide +kernel)
set_option maxRecDepth 20000 in
theorem gX3_set_X1_codeThatMeans : GoodIn wsX3_set (wsV RX3 61 RX1 yX1_codeThatMeans wsX1_codeThatMeans) := goodIn_app (goodIn_of _ (by decide +kernel)) ggX3_set_X1_codeThatMeans
theorem dX3_set_0 : decode cX3_set 0 = .ok (.aload_n 0, 1) := by decide +kernel
theorem dX3_set_1 : decode cX3_set 1 = .ok (.iload_n 1, 1) := by decide +kernel
theorem dX3_set_2 : decode cX3_set 2 = .ok (.invokevirtual 51, 3) := by decide +kernel
theorem dX3_set_5 : decode cX3_set 5 = .ok (.astore 4, 2) := by decide +kernel
theorem dX3_set_7 : decode cX3_set 7 = .ok (.aload 4, 2) := by decide +kernel
theorem dX3_set_9 : decode cX3_set 9 = .ok (.ifnonnull 6, 3) := by decide +kernel
theorem dX3_set_12 : decode cX3_set 12 = .ok (.bipush (-2), 2) := by decide +kernel
theorem dX3_set_14 : decode cX3_set 14 = .ok (.ireturn, 1) := by decide +kernel
theorem dX3_set_15 : decode cX3_set 15 = .ok (.iload_n 2, 1) := by decide +kernel
theorem dX3_set_16 : decode cX3_set 16 = .ok (.invokestatic 55, 3) := by decide +kernel
theorem dX3_set_19 : decode cX3_set 19 = .ok (.ifCond .eq 10, 3) := by decide +kernel
theorem dX3_set_22 : decode cX3_set 22 = .ok (.iload_n 3, 1) := by decide +kernel
theorem dX3_set_23 : decode cX3_set 23 = .ok (.invokestatic 58, 3) := by decide +kernel
theorem dX3_set_26 : decode cX3_set 26 = .ok (.ifCond .ne 6, 3) := by decide +kernel
theorem dX3_set_29 : decode cX3_set 29 = .ok (.bipush (-4), 2) := by decide +kernel
theorem dX3_set_31 : decode cX3_set 31 = .ok (.ireturn, 1) := by decide +kernel
theorem dX3_set_32 : decode cX3_set 32 = .ok (.aload 4, 2) := by decide +kernel
theorem dX3_set_34 : decode cX3_set 34 = .ok (.iload_n 3, 1) := by decide +kernel
theorem dX3_set_35 : decode cX3_set 35 = .ok (.invokevirtual 61, 3) := by decide +kernel
theorem dX3_set_38 : decode cX3_set 38 = .ok (.istore 5, 2) := by decide +kernel
theorem dX3_set_40 : decode cX3_set 40 = .ok (.iload 5, 2) := by decide +kernel
theorem dX3_set_42 : decode cX3_set 42 = .ok (.iconst (-1), 1) := by decide +kernel
theorem dX3_set_43 : decode cX3_set 43 = .ok (.if_icmp .eq 11, 3) := by decide +kernel
theorem dX3_set_46 : decode cX3_set 46 = .ok (.iload 5, 2) := by decide +kernel
theorem dX3_set_48 : decode cX3_set 48 = .ok (.iload_n 2, 1) := by decide +kernel
theorem dX3_set_49 : decode cX3_set 49 = .ok (.if_icmp .eq 5, 3) := by decide +kernel
theorem dX3_set_52 : decode cX3_set 52 = .ok (.iconst 0, 1) := by decide +kernel
theorem dX3_set_53 : decode cX3_set 53 = .ok (.ireturn, 1) := by decide +kernel
theorem dX3_set_54 : decode cX3_set 54 = .ok (.aload 4, 2) := by decide +kernel
theorem dX3_set_56 : decode cX3_set 56 = .ok (.getfield 65, 3) := by decide +kernel
theorem dX3_set_59 : decode cX3_set 59 = .ok (.iload_n 2, 1) := by decide +kernel
theorem dX3_set_60 : decode cX3_set 60 = .ok (.iload_n 3, 1) := by decide +kernel
theorem dX3_set_61 : decode cX3_set 61 = .ok (.iastore, 1) := by decide +kernel
theorem dX3_set_62 : decode cX3_set 62 = .ok (.iconst 1, 1) := by decide +kernel
theorem dX3_set_63 : decode cX3_set 63 = .ok (.ireturn, 1) := by decide +kernel
set_option maxRecDepth 20000 in
theorem ggX3_row_X3_pageAt : GoodIn wsX3_row wsX3_pageAt := goodIn_r _ [9, 10, 22, 23, 24, 25, 26, 27, 28, 29] (by decide +kernel) (by decide +kernel)
set_option maxRecDepth 20000 in
theorem gX3_row_X3_pageAt : GoodIn wsX3_row (wsV RX3 51 RX3 yX3_pageAt wsX3_pageAt) := goodIn_app (goodIn_of _ (by decide +kernel)) ggX3_row_X3_pageAt
set_option maxRecDepth 20000 in
theorem ggX3_row_X3_isCode : GoodIn wsX3_row wsX3_isCode := goodIn_r _ [13] (by decide +kernel) (by decide +kernel)
set_option maxRecDepth 20000 in
theorem gX3_row_X3_isCode : GoodIn wsX3_row (va_wsS RX3 55 yX3_isCode wsX3_isCode) := goodIn_app (goodIn_of _ (by decide +kernel)) ggX3_row_X3_isCode
theorem dX3_row_0 : decode cX3_row 0 = .ok (.aload_n 0, 1) := by decide +kernel
theorem dX3_row_1 : decode cX3_row 1 = .ok (.iload_n 1, 1) := by decide +kernel
theorem dX3_row_2 : decode cX3_row 2 = .ok (.invokevirtual 51, 3) := by decide +kernel
theorem dX3_row_5 : decode cX3_row 5 = .ok (.astore_n 3, 1) := by decide +kernel
theorem dX3_row_6 : decode cX3_row 6 = .ok (.aload_n 3, 1) := by decide +kernel
theorem dX3_row_7 : decode cX3_row 7 = .ok (.ifnull 10, 3) := by decide +kernel
theorem dX3_row_10 : decode cX3_row 10 = .ok (.iload_n 2, 1) := by decide +kernel
theorem dX3_row_11 : decode cX3_row 11 = .ok (.invokestatic 55, 3) := by decide +kernel
theorem dX3_row_14 : decode cX3_row 14 = .ok (.ifCond .ne 13, 3) := by decide +kernel
theorem dX3_row_17 : decode cX3_row 17 = .ok (.new 68, 3) := by decide +kernel
theorem dX3_row_20 : decode cX3_row 20 = .ok (.dup, 1) := by decide +kernel
theorem dX3_row_21 : decode cX3_row 21 = .ok (.ldc 70, 2) := by decide +kernel
theorem dX3_row_23 : decode cX3_row 23 = .ok (.invokespecial 72, 3) := by decide +kernel
theorem dX3_row_26 : decode cX3_row 26 = .ok (.athrow, 1) := by decide +kernel
theorem dX3_row_27 : decode cX3_row 27 = .ok (.aload_n 3, 1) := by decide +kernel
theorem dX3_row_28 : decode cX3_row 28 = .ok (.getfield 65, 3) := by decide +kernel
theorem dX3_row_31 : decode cX3_row 31 = .ok (.iload_n 2, 1) := by decide +kernel
theorem dX3_row_32 : decode cX3_row 32 = .ok (.iaload, 1) := by decide +kernel
theorem dX3_row_33 : decode cX3_row 33 = .ok (.ireturn, 1) := by decide +kernel
set_option maxRecDepth 20000 in
theorem ggX3_standIn_X3_pageAt : GoodIn wsX3_standIn wsX3_pageAt := goodIn_r _ [6, 7, 13, 14, 15, 16, 17, 18, 19, 20] (by decide +kernel) (by decide +kernel)
set_option maxRecDepth 20000 in
theorem gX3_standIn_X3_pageAt : GoodIn wsX3_standIn (wsV RX3 51 RX3 yX3_pageAt wsX3_pageAt) := goodIn_app (goodIn_of _ (by decide +kernel)) ggX3_standIn_X3_pageAt
set_option maxRecDepth 20000 in
theorem ggX3_standIn_X3_isCode : GoodIn wsX3_standIn wsX3_isCode := goodIn_r _ [10] (by decide +kernel) (by decide +kernel)
set_option maxRecDepth 20000 in
theorem gX3_standIn_X3_isCode : GoodIn wsX3_standIn (va_wsS RX3 55 yX3_isCode wsX3_isCode) := goodIn_app (goodIn_of _ (by decide +kernel)) ggX3_standIn_X3_isCode
theorem dX3_standIn_0 : decode cX3_standIn 0 = .ok (.aload_n 0, 1) := by decide +kernel
theorem dX3_standIn_1 : decode cX3_standIn 1 = .ok (.iload_n 1, 1) := by decide +kernel
theorem dX3_standIn_2 : decode cX3_standIn 2 = .ok (.invokevirtual 51, 3) := by decide +kernel
theorem dX3_standIn_5 : decode cX3_standIn 5 = .ok (.astore_n 3, 1) := by decide +kernel
theorem dX3_standIn_6 : decode cX3_standIn 6 = .ok (.aload_n 3, 1) := by decide +kernel
theorem dX3_standIn_7 : decode cX3_standIn 7 = .ok (.ifnonnull 6, 3) := by decide +kernel
theorem dX3_standIn_10 : decode cX3_standIn 10 = .ok (.bipush (-2), 2) := by decide +kernel
theorem dX3_standIn_12 : decode cX3_standIn 12 = .ok (.ireturn, 1) := by decide +kernel
theorem dX3_standIn_13 : decode cX3_standIn 13 = .ok (.iload_n 2, 1) := by decide +kernel
theorem dX3_standIn_14 : decode cX3_standIn 14 = .ok (.invokestatic 55, 3) := by decide +kernel
theorem dX3_standIn_17 : decode cX3_standIn 17 = .ok (.ifCond .ne 6, 3) := by decide +kernel
theorem dX3_standIn_20 : decode cX3_standIn 20 = .ok (.bipush (-4), 2) := by decide +kernel
theorem dX3_standIn_22 : decode cX3_standIn 22 = .ok (.ireturn, 1) := by decide +kernel
theorem dX3_standIn_23 : decode cX3_standIn 23 = .ok (.aload_n 3, 1) := by decide +kernel
theorem dX3_standIn_24 : decode cX3_standIn 24 = .ok (.getfield 75, 3) := by decide +kernel
theorem dX3_standIn_27 : decode cX3_standIn 27 = .ok (.istore 4, 2) := by decide +kernel
theorem dX3_standIn_29 : decode cX3_standIn 29 = .ok (.aload_n 3, 1) := by decide +kernel
theorem dX3_standIn_30 : decode cX3_standIn 30 = .ok (.iload_n 2, 1) := by decide +kernel
theorem dX3_standIn_31 : decode cX3_standIn 31 = .ok (.putfield 75, 3) := by decide +kernel
theorem dX3_standIn_34 : decode cX3_standIn 34 = .ok (.iload 4, 2) := by decide +kernel
theorem dX3_standIn_36 : decode cX3_standIn 36 = .ok (.ireturn, 1) := by decide +kernel
set_option maxRecDepth 20000 in
theorem ggX3_translate_X3_pageAt : GoodIn wsX3_translate wsX3_pageAt := goodIn_r _ [6, 7, 26, 27, 28, 29, 30, 31, 32, 33] (by decide +kernel) (by decide +kernel)
set_option maxRecDepth 20000 in
theorem gX3_translate_X3_pageAt : GoodIn wsX3_translate (wsV RX3 51 RX3 yX3_pageAt wsX3_pageAt) := goodIn_app (goodIn_of _ (by decide +kernel)) ggX3_translate_X3_pageAt
set_option maxRecDepth 20000 in
theorem ggX3_translate_X3_isCode : GoodIn wsX3_translate wsX3_isCode := goodIn_r _ [10] (by decide +kernel) (by decide +kernel)
set_option maxRecDepth 20000 in
theorem gX3_translate_X3_isCode : GoodIn wsX3_translate (va_wsS RX3 55 yX3_isCode wsX3_isCode) := goodIn_app (goodIn_of _ (by decide +kernel)) ggX3_translate_X3_isCode
set_option maxRecDepth 20000 in
theorem ggX3_translate_X3_findOrEnlist : GoodIn wsX3_translate wsX3_findOrEnlist := goodIn_r _ [14, 15, 16, 17, 18, 19, 20, 21, 22, 23, 24, 25, 26, 27, 28, 29, 30, 31, 32, 33] (by decide +kernel) (by decide +kernel)
set_option maxRecDepth 20000 in
theorem gX3_translate_X3_findOrEnlist : GoodIn wsX3_translate (wsV RX3 78 RX3 yX3_findOrEnlist wsX3_findOrEnlist) := goodIn_app (goodIn_of _ (by decide +kernel)) ggX3_translate_X3_findOrEnlist
theorem dX3_translate_0 : decode cX3_translate 0 = .ok (.aload_n 0, 1) := by decide +kernel
theorem dX3_translate_1 : decode cX3_translate 1 = .ok (.iload_n 2, 1) := by decide +kernel
theorem dX3_translate_2 : decode cX3_translate 2 = .ok (.invokevirtual 51, 3) := by decide +kernel
theorem dX3_translate_5 : decode cX3_translate 5 = .ok (.astore 4, 2) := by decide +kernel
theorem dX3_translate_7 : decode cX3_translate 7 = .ok (.aload_n 0, 1) := by decide +kernel
theorem dX3_translate_8 : decode cX3_translate 8 = .ok (.iload_n 3, 1) := by decide +kernel
theorem dX3_translate_9 : decode cX3_translate 9 = .ok (.invokevirtual 51, 3) := by decide +kernel
theorem dX3_translate_12 : decode cX3_translate 12 = .ok (.astore 5, 2) := by decide +kernel
theorem dX3_translate_14 : decode cX3_translate 14 = .ok (.aload 4, 2) := by decide +kernel
theorem dX3_translate_16 : decode cX3_translate 16 = .ok (.ifnull 8, 3) := by decide +kernel
theorem dX3_translate_19 : decode cX3_translate 19 = .ok (.aload 5, 2) := by decide +kernel
theorem dX3_translate_21 : decode cX3_translate 21 = .ok (.ifnonnull 6, 3) := by decide +kernel
theorem dX3_translate_24 : decode cX3_translate 24 = .ok (.bipush (-2), 2) := by decide +kernel
theorem dX3_translate_26 : decode cX3_translate 26 = .ok (.ireturn, 1) := by decide +kernel
theorem dX3_translate_27 : decode cX3_translate 27 = .ok (.iload_n 1, 1) := by decide +kernel
theorem dX3_translate_28 : decode cX3_translate 28 = .ok (.invokestatic 55, 3) := by decide +kernel
theorem dX3_translate_31 : decode cX3_translate 31 = .ok (.ifCond .ne 6, 3) := by decide +kernel
theorem dX3_translate_34 : decode cX3_translate 34 = .ok (.bipush (-4), 2) := by decide +kernel
theorem dX3_translate_36 : decode cX3_translate 36 = .ok (.ireturn, 1) := by decide +kernel
theorem dX3_translate_37 : decode cX3_translate 37 = .ok (.aload_n 0, 1) := by decide +kernel
theorem dX3_translate_38 : decode cX3_translate 38 = .ok (.iload_n 1, 1) := by decide +kernel
theorem dX3_translate_39 : decode cX3_translate 39 = .ok (.aload 4, 2) := by decide +kernel
theorem dX3_translate_41 : decode cX3_translate 41 = .ok (.aload 5, 2) := by decide +kernel
theorem dX3_translate_43 : decode cX3_translate 43 = .ok (.invokevirtual 78, 3) := by decide +kernel
theorem dX3_translate_46 : decode cX3_translate 46 = .ok (.istore 6, 2) := by decide +kernel
theorem dX3_translate_48 : decode cX3_translate 48 = .ok (.iload 6, 2) := by decide +kernel
theorem dX3_translate_50 : decode cX3_translate 50 = .ok (.iconst (-1), 1) := by decide +kernel
theorem dX3_translate_51 : decode cX3_translate 51 = .ok (.if_icmp .eq 8, 3) := by decide +kernel
theorem dX3_translate_54 : decode cX3_translate 54 = .ok (.iload 6, 2) := by decide +kernel
theorem dX3_translate_56 : decode cX3_translate 56 = .ok (.goto 8, 3) := by decide +kernel
theorem dX3_translate_59 : decode cX3_translate 59 = .ok (.aload 5, 2) := by decide +kernel
theorem dX3_translate_61 : decode cX3_translate 61 = .ok (.getfield 75, 3) := by decide +kernel
theorem dX3_translate_64 : decode cX3_translate 64 = .ok (.ireturn, 1) := by decide +kernel
theorem dX3_told_0 : decode cX3_told 0 = .ok (.iload_n 1, 1) := by decide +kernel
theorem dX3_told_1 : decode cX3_told 1 = .ok (.ifCond .lt 20, 3) := by decide +kernel
theorem dX3_told_4 : decode cX3_told 4 = .ok (.iload_n 1, 1) := by decide +kernel
theorem dX3_told_5 : decode cX3_told 5 = .ok (.aload_n 0, 1) := by decide +kernel
theorem dX3_told_6 : decode cX3_told 6 = .ok (.getfield 41, 3) := by decide +kernel
theorem dX3_told_9 : decode cX3_told 9 = .ok (.if_icmp .ge 12, 3) := by decide +kernel
theorem dX3_told_12 : decode cX3_told 12 = .ok (.aload_n 0, 1) := by decide +kernel
theorem dX3_told_13 : decode cX3_told 13 = .ok (.getfield 27, 3) := by decide +kernel
theorem dX3_told_16 : decode cX3_told 16 = .ok (.iload_n 1, 1) := by decide +kernel
theorem dX3_told_17 : decode cX3_told 17 = .ok (.iaload, 1) := by decide +kernel
theorem dX3_told_18 : decode cX3_told 18 = .ok (.goto 4, 3) := by decide +kernel
theorem dX3_told_21 : decode cX3_told 21 = .ok (.iconst (-1), 1) := by decide +kernel
theorem dX3_told_22 : decode cX3_told 22 = .ok (.ireturn, 1) := by decide +kernel
set_option maxRecDepth 20000 in
theorem ggX3_order_X3_isKind : GoodIn wsX3_order wsX3_isKind := goodIn_r _ [10] (by decide +kernel) (by decide +kernel)
set_option maxRecDepth 20000 in
theorem gX3_order_X3_isKind : GoodIn wsX3_order (va_wsS RX3 44 yX3_isKind wsX3_isKind) := goodIn_app (goodIn_of _ (by decide +kernel)) ggX3_order_X3_isKind
set_option maxRecDepth 20000 in
theorem ggX3_order_X0_init : GoodIn wsX3_order wsX0_init := goodIn_r _ [13, 14, 15, 16, 17, 18, 19, 20, 21, 22, 44, 45, 46, 47] (by decide +kernel) (by decide +kernel)
set_option maxRecDepth 20000 in
theorem gX3_order_X0_init : GoodIn wsX3_order (wsX0_init) := ggX3_order_X0_init
set_option maxRecDepth 20000 in
theorem ggX3_order_X3_pageAt : GoodIn wsX3_order wsX3_pageAt := goodIn_r _ [26, 27, 36, 37, 38, 39, 40, 41, 42, 43] (by decide +kernel) (by decide +kernel)
set_option maxRecDepth 20000 in
theorem gX3_order_X3_pageAt : GoodIn wsX3_order (wsV RX3 51 RX3 yX3_pageAt wsX3_pageAt) := goodIn_app (goodIn_of _ (by decide +kernel)) ggX3_order_X3_pageAt
set_option maxRecDepth 20000 in
theorem ggX3_order_X0_rankBy : GoodIn wsX3_order wsX0_rankBy := goodIn_r _ [31, 17, 18, 32, 33, 4, 34, 35, 44, 45, 46, 47] (by decide +kernel) (by decide +kernel)
set_option maxRecDepth 20000 in
theorem gX3_order_X0_rankBy : GoodIn wsX3_order (wsV RX3 85 RX0 yX0_rankBy wsX0_rankBy) := goodIn_app (goodIn_of _ (by decide +kernel)) ggX3_order_X0_rankBy
theorem dX3_order_0 : decode cX3_order 0 = .ok (.iload_n 1, 1) := by decide +kernel
theorem dX3_order_1 : decode cX3_order 1 = .ok (.invokestatic 44, 3) := by decide +kernel
theorem dX3_order_4 : decode cX3_order 4 = .ok (.ifCond .ne 6, 3) := by decide +kernel
theorem dX3_order_7 : decode cX3_order 7 = .ok (.bipush (-4), 2) := by decide +kernel
theorem dX3_order_9 : decode cX3_order 9 = .ok (.ireturn, 1) := by decide +kernel
theorem dX3_order_10 : decode cX3_order 10 = .ok (.aload_n 0, 1) := by decide +kernel
theorem dX3_order_11 : decode cX3_order 11 = .ok (.getfield 35, 3) := by decide +kernel
theorem dX3_order_14 : decode cX3_order 14 = .ok (.bipush 12, 2) := by decide +kernel
theorem dX3_order_16 : decode cX3_order 16 = .ok (.if_icmp .lt 5, 3) := by decide +kernel
theorem dX3_order_19 : decode cX3_order 19 = .ok (.iconst (-1), 1) := by decide +kernel
theorem dX3_order_20 : decode cX3_order 20 = .ok (.ireturn, 1) := by decide +kernel
theorem dX3_order_21 : decode cX3_order 21 = .ok (.new 15, 3) := by decide +kernel
theorem dX3_order_24 : decode cX3_order 24 = .ok (.dup, 1) := by decide +kernel
theorem dX3_order_25 : decode cX3_order 25 = .ok (.iload_n 1, 1) := by decide +kernel
theorem dX3_order_26 : decode cX3_order 26 = .ok (.iconst 2, 1) := by decide +kernel
theorem dX3_order_27 : decode cX3_order 27 = .ok (.if_icmp .ne 7, 3) := by decide +kernel
theorem dX3_order_30 : decode cX3_order 30 = .ok (.iconst 1, 1) := by decide +kernel
theorem dX3_order_31 : decode cX3_order 31 = .ok (.goto 4, 3) := by decide +kernel
theorem dX3_order_34 : decode cX3_order 34 = .ok (.iconst 0, 1) := by decide +kernel
theorem dX3_order_35 : decode cX3_order 35 = .ok (.invokespecial 82, 3) := by decide +kernel
theorem dX3_order_38 : decode cX3_order 38 = .ok (.astore_n 2, 1) := by decide +kernel
theorem dX3_order_39 : decode cX3_order 39 = .ok (.aload_n 0, 1) := by decide +kernel
theorem dX3_order_40 : decode cX3_order 40 = .ok (.iconst 0, 1) := by decide +kernel
theorem dX3_order_41 : decode cX3_order 41 = .ok (.invokevirtual 51, 3) := by decide +kernel
theorem dX3_order_44 : decode cX3_order 44 = .ok (.astore_n 3, 1) := by decide +kernel
theorem dX3_order_45 : decode cX3_order 45 = .ok (.iload_n 1, 1) := by decide +kernel
theorem dX3_order_46 : decode cX3_order 46 = .ok (.iconst 1, 1) := by decide +kernel
theorem dX3_order_47 : decode cX3_order 47 = .ok (.if_icmp .ne 15, 3) := by decide +kernel
theorem dX3_order_50 : decode cX3_order 50 = .ok (.aload_n 3, 1) := by decide +kernel
theorem dX3_order_51 : decode cX3_order 51 = .ok (.ifnull 11, 3) := by decide +kernel
theorem dX3_order_54 : decode cX3_order 54 = .ok (.aload_n 2, 1) := by decide +kernel
theorem dX3_order_55 : decode cX3_order 55 = .ok (.aload_n 3, 1) := by decide +kernel
theorem dX3_order_56 : decode cX3_order 56 = .ok (.getfield 65, 3) := by decide +kernel
theorem dX3_order_59 : decode cX3_order 59 = .ok (.invokevirtual 85, 3) := by decide +kernel
theorem dX3_order_62 : decode cX3_order 62 = .ok (.aload_n 0, 1) := by decide +kernel
theorem dX3_order_63 : decode cX3_order 63 = .ok (.getfield 17, 3) := by decide +kernel
theorem dX3_order_66 : decode cX3_order 66 = .ok (.aload_n 0, 1) := by decide +kernel
theorem dX3_order_67 : decode cX3_order 67 = .ok (.getfield 35, 3) := by decide +kernel
theorem dX3_order_70 : decode cX3_order 70 = .ok (.aload_n 2, 1) := by decide +kernel
theorem dX3_order_71 : decode cX3_order 71 = .ok (.aastore, 1) := by decide +kernel
theorem dX3_order_72 : decode cX3_order 72 = .ok (.aload_n 0, 1) := by decide +kernel
theorem dX3_order_73 : decode cX3_order 73 = .ok (.dup, 1) := by decide +kernel
theorem dX3_order_74 : decode cX3_order 74 = .ok (.getfield 35, 3) := by decide +kernel
theorem dX3_order_77 : decode cX3_order 77 = .ok (.dup_x1, 1) := by decide +kernel
theorem dX3_order_78 : decode cX3_order 78 = .ok (.iconst 1, 1) := by decide +kernel
theorem dX3_order_79 : decode cX3_order 79 = .ok (.iadd, 1) := by decide +kernel
theorem dX3_order_80 : decode cX3_order 80 = .ok (.putfield 35, 3) := by decide +kernel
theorem dX3_order_83 : decode cX3_order 83 = .ok (.ireturn, 1) := by decide +kernel
set_option maxRecDepth 20000 in
theorem ggX3_also_X3_orderAt : GoodIn wsX3_also wsX3_orderAt := goodIn_r _ [6, 7, 30, 31, 32, 33, 34, 35, 36, 37] (by decide +kernel) (by decide +kernel)
set_option maxRecDepth 20000 in
theorem gX3_also_X3_orderAt : GoodIn wsX3_also (wsV RX3 89 RX3 yX3_orderAt wsX3_orderAt) := goodIn_app (goodIn_of _ (by decide +kernel)) ggX3_also_X3_orderAt
set_option maxRecDepth 20000 in
theorem ggX3_also_X3_alphabetRefusal : GoodIn wsX3_also wsX3_alphabetRefusal := goodIn_r _ [10, 11, 12, 5, 13] (by decide +kernel) (by decide +kernel)
set_option maxRecDepth 20000 in
theorem gX3_also_X3_alphabetRefusal : GoodIn wsX3_also (va_wsS RX3 97 yX3_alphabetRefusal wsX3_alphabetRefusal) := goodIn_app (goodIn_of _ (by decide +kernel)) ggX3_also_X3_alphabetRefusal
set_option maxRecDepth 20000 in
theorem ggX3_also_X0_addEqual : GoodIn wsX3_also wsX0_addEqual := goodIn_r _ [18, 19, 20, 21, 22, 23, 17, 24, 25, 26, 27, 28, 29] (by decide +kernel) (by decide +kernel)
set_option maxRecDepth 20000 in
theorem gX3_also_X0_addEqual : GoodIn wsX3_also (wsV RX3 101 RX0 yX0_addEqual wsX0_addEqual) := goodIn_app (goodIn_of _ (by decide +kernel)) ggX3_also_X0_addEqual
theorem dX3_also_0 : decode cX3_also 0 = .ok (.aload_n 0, 1) := by decide +kernel
theorem dX3_also_1 : decode cX3_also 1 = .ok (.iload_n 1, 1) := by decide +kernel
theorem dX3_also_2 : decode cX3_also 2 = .ok (.invokevirtual 89, 3) := by decide +kernel
theorem dX3_also_5 : decode cX3_also 5 = .ok (.astore 4, 2) := by decide +kernel
theorem dX3_also_7 : decode cX3_also 7 = .ok (.aload 4, 2) := by decide +kernel
theorem dX3_also_9 : decode cX3_also 9 = .ok (.ifnonnull 6, 3) := by decide +kernel
theorem dX3_also_12 : decode cX3_also 12 = .ok (.bipush (-2), 2) := by decide +kernel
theorem dX3_also_14 : decode cX3_also 14 = .ok (.ireturn, 1) := by decide +kernel
theorem dX3_also_15 : decode cX3_also 15 = .ok (.aload 4, 2) := by decide +kernel
theorem dX3_also_17 : decode cX3_also 17 = .ok (.getfield 93, 3) := by decide +kernel
theorem dX3_also_20 : decode cX3_also 20 = .ok (.iload_n 2, 1) := by decide +kernel
theorem dX3_also_21 : decode cX3_also 21 = .ok (.iload_n 3, 1) := by decide +kernel
theorem dX3_also_22 : decode cX3_also 22 = .ok (.invokestatic 97, 3) := by decide +kernel
theorem dX3_also_25 : decode cX3_also 25 = .ok (.istore 5, 2) := by decide +kernel
theorem dX3_also_27 : decode cX3_also 27 = .ok (.iload 5, 2) := by decide +kernel
theorem dX3_also_29 : decode cX3_also 29 = .ok (.ifCond .eq 6, 3) := by decide +kernel
theorem dX3_also_32 : decode cX3_also 32 = .ok (.iload 5, 2) := by decide +kernel
theorem dX3_also_34 : decode cX3_also 34 = .ok (.ireturn, 1) := by decide +kernel
theorem dX3_also_35 : decode cX3_also 35 = .ok (.aload 4, 2) := by decide +kernel
theorem dX3_also_37 : decode cX3_also 37 = .ok (.iload_n 2, 1) := by decide +kernel
theorem dX3_also_38 : decode cX3_also 38 = .ok (.iload_n 3, 1) := by decide +kernel
theorem dX3_also_39 : decode cX3_also 39 = .ok (.invokevirtual 101, 3) := by decide +kernel
theorem dX3_also_42 : decode cX3_also 42 = .ok (.ifCond .eq 7, 3) := by decide +kernel
theorem dX3_also_45 : decode cX3_also 45 = .ok (.iconst 1, 1) := by decide +kernel
theorem dX3_also_46 : decode cX3_also 46 = .ok (.goto 4, 3) := by decide +kernel
theorem dX3_also_49 : decode cX3_also 49 = .ok (.iconst 0, 1) := by decide +kernel
theorem dX3_also_50 : decode cX3_also 50 = .ok (.ireturn, 1) := by decide +kernel
set_option maxRecDepth 20000 in
theorem ggX3_through_X3_orderAt : GoodIn wsX3_through wsX3_orderAt := goodIn_r _ [10, 11, 41, 42, 43, 44, 45, 46, 47, 48] (by decide +kernel) (by decide +kernel)
set_option maxRecDepth 20000 in
theorem gX3_through_X3_orderAt : GoodIn wsX3_through (wsV RX3 89 RX3 yX3_orderAt wsX3_orderAt) := goodIn_app (goodIn_of _ (by decide +kernel)) ggX3_through_X3_orderAt
set_option maxRecDepth 20000 in
theorem ggX3_through_X3_alphabetRefusal : GoodIn wsX3_through wsX3_alphabetRefusal := goodIn_r _ [14, 15, 16, 9, 17] (by decide +kernel) (by decide +kernel)
set_option maxRecDepth 20000 in
theorem gX3_through_X3_alphabetRefusal : GoodIn wsX3_through (va_wsS RX3 97 yX3_alphabetRefusal wsX3_alphabetRefusal) := goodIn_app (goodIn_of _ (by decide +kernel)) ggX3_through_X3_alphabetRefusal
set_option maxRecDepth 20000 in
theorem ggX3_through_X0_addRange : GoodIn wsX3_through wsX0_addRange := goodIn_r _ [22, 23, 24, 4, 25, 26, 27, 28, 29, 30, 31, 32, 3, 5, 33, 34, 35, 21, 36, 37, 38, 39, 40] (by decide +kernel) (by decide +kernel)
set_option maxRecDepth 20000 in
theorem gX3_through_X0_addRange : GoodIn wsX3_through (wsV RX3 105 RX0 yX0_addRange wsX0_addRange) := goodIn_app (goodIn_of _ (by decide +kernel)) ggX3_through_X0_addRange
theorem dX3_through_0 : decode cX3_through 0 = .ok (.aload_n 0, 1) := by decide +kernel
theorem dX3_through_1 : decode cX3_through 1 = .ok (.iload_n 1, 1) := by decide +kernel
theorem dX3_through_2 : decode cX3_through 2 = .ok (.invokevirtual 89, 3) := by decide +kernel
theorem dX3_through_5 : decode cX3_through 5 = .ok (.astore 4, 2) := by decide +kernel
theorem dX3_through_7 : decode cX3_through 7 = .ok (.aload 4, 2) := by decide +kernel
theorem dX3_through_9 : decode cX3_through 9 = .ok (.ifnonnull 6, 3) := by decide +kernel
theorem dX3_through_12 : decode cX3_through 12 = .ok (.bipush (-2), 2) := by decide +kernel
theorem dX3_through_14 : decode cX3_through 14 = .ok (.ireturn, 1) := by decide +kernel
theorem dX3_through_15 : decode cX3_through 15 = .ok (.aload 4, 2) := by decide +kernel
theorem dX3_through_17 : decode cX3_through 17 = .ok (.getfield 93, 3) := by decide +kernel
theorem dX3_through_20 : decode cX3_through 20 = .ok (.iload_n 2, 1) := by decide +kernel
theorem dX3_through_21 : decode cX3_through 21 = .ok (.iload_n 3, 1) := by decide +kernel
theorem dX3_through_22 : decode cX3_through 22 = .ok (.invokestatic 97, 3) := by decide +kernel
theorem dX3_through_25 : decode cX3_through 25 = .ok (.istore 5, 2) := by decide +kernel
theorem dX3_through_27 : decode cX3_through 27 = .ok (.iload 5, 2) := by decide +kernel
theorem dX3_through_29 : decode cX3_through 29 = .ok (.ifCond .eq 6, 3) := by decide +kernel
theorem dX3_through_32 : decode cX3_through 32 = .ok (.iload 5, 2) := by decide +kernel
theorem dX3_through_34 : decode cX3_through 34 = .ok (.ireturn, 1) := by decide +kernel
theorem dX3_through_35 : decode cX3_through 35 = .ok (.aload 4, 2) := by decide +kernel
theorem dX3_through_37 : decode cX3_through 37 = .ok (.iload_n 2, 1) := by decide +kernel
theorem dX3_through_38 : decode cX3_through 38 = .ok (.iload_n 3, 1) := by decide +kernel
theorem dX3_through_39 : decode cX3_through 39 = .ok (.invokevirtual 105, 3) := by decide +kernel
theorem dX3_through_42 : decode cX3_through 42 = .ok (.ifCond .eq 14, 3) := by decide +kernel
theorem dX3_through_45 : decode cX3_through 45 = .ok (.iload_n 3, 1) := by decide +kernel
theorem dX3_through_46 : decode cX3_through 46 = .ok (.iload_n 2, 1) := by decide +kernel
theorem dX3_through_47 : decode cX3_through 47 = .ok (.isub, 1) := by decide +kernel
theorem dX3_through_48 : decode cX3_through 48 = .ok (.invokestatic 108, 3) := by decide +kernel
theorem dX3_through_51 : decode cX3_through 51 = .ok (.iconst 1, 1) := by decide +kernel
theorem dX3_through_52 : decode cX3_through 52 = .ok (.iadd, 1) := by decide +kernel
theorem dX3_through_53 : decode cX3_through 53 = .ok (.goto 4, 3) := by decide +kernel
theorem dX3_through_56 : decode cX3_through 56 = .ok (.iconst 0, 1) := by decide +kernel
theorem dX3_through_57 : decode cX3_through 57 = .ok (.ireturn, 1) := by decide +kernel
set_option maxRecDepth 20000 in
theorem ggX3_text_X2_init : GoodIn wsX3_text wsX2_init := goodIn_r _ [7, 8, 9, 10, 11, 12, 13, 22, 23] (by decide +kernel) (by decide +kernel)
set_option maxRecDepth 20000 in
theorem gX3_text_X2_init_n113 : GoodIn wsX3_text (wsX2_init) := ggX3_text_X2_init
theorem dX3_text_0 : decode cX3_text 0 = .ok (.aload_n 0, 1) := by decide +kernel
theorem dX3_text_1 : decode cX3_text 1 = .ok (.getfield 38, 3) := by decide +kernel
theorem dX3_text_4 : decode cX3_text 4 = .ok (.bipush 40, 2) := by decide +kernel
theorem dX3_text_6 : decode cX3_text 6 = .ok (.if_icmp .lt 5, 3) := by decide +kernel
theorem dX3_text_9 : decode cX3_text 9 = .ok (.iconst (-1), 1) := by decide +kernel
theorem dX3_text_10 : decode cX3_text 10 = .ok (.ireturn, 1) := by decide +kernel
theorem dX3_text_11 : decode cX3_text 11 = .ok (.aload_n 0, 1) := by decide +kernel
theorem dX3_text_12 : decode cX3_text 12 = .ok (.getfield 23, 3) := by decide +kernel
theorem dX3_text_15 : decode cX3_text 15 = .ok (.aload_n 0, 1) := by decide +kernel
theorem dX3_text_16 : decode cX3_text 16 = .ok (.getfield 38, 3) := by decide +kernel
theorem dX3_text_19 : decode cX3_text 19 = .ok (.new 21, 3) := by decide +kernel
theorem dX3_text_22 : decode cX3_text 22 = .ok (.dup, 1) := by decide +kernel
theorem dX3_text_23 : decode cX3_text 23 = .ok (.invokespecial 113, 3) := by decide +kernel
theorem dX3_text_26 : decode cX3_text 26 = .ok (.aastore, 1) := by decide +kernel
theorem dX3_text_27 : decode cX3_text 27 = .ok (.aload_n 0, 1) := by decide +kernel
theorem dX3_text_28 : decode cX3_text 28 = .ok (.dup, 1) := by decide +kernel
theorem dX3_text_29 : decode cX3_text 29 = .ok (.getfield 38, 3) := by decide +kernel
theorem dX3_text_32 : decode cX3_text 32 = .ok (.dup_x1, 1) := by decide +kernel
theorem dX3_text_33 : decode cX3_text 33 = .ok (.iconst 1, 1) := by decide +kernel
theorem dX3_text_34 : decode cX3_text 34 = .ok (.iadd, 1) := by decide +kernel
theorem dX3_text_35 : decode cX3_text 35 = .ok (.putfield 38, 3) := by decide +kernel
theorem dX3_text_38 : decode cX3_text 38 = .ok (.ireturn, 1) := by decide +kernel
set_option maxRecDepth 20000 in
theorem ggX3_sign_X3_textAt : GoodIn wsX3_sign wsX3_textAt := goodIn_r _ [7, 8, 14, 15, 16, 17, 18, 19, 20, 21] (by decide +kernel) (by decide +kernel)
set_option maxRecDepth 20000 in
theorem gX3_sign_X3_textAt : GoodIn wsX3_sign (wsV RX3 114 RX3 yX3_textAt wsX3_textAt) := goodIn_app (goodIn_of _ (by decide +kernel)) ggX3_sign_X3_textAt
set_option maxRecDepth 20000 in
theorem ggX3_sign_X3_isCode : GoodIn wsX3_sign wsX3_isCode := goodIn_r _ [11] (by decide +kernel) (by decide +kernel)
set_option maxRecDepth 20000 in
theorem gX3_sign_X3_isCode : GoodIn wsX3_sign (va_wsS RX3 55 yX3_isCode wsX3_isCode) := goodIn_app (goodIn_of _ (by decide +kernel)) ggX3_sign_X3_isCode
theorem dX3_sign_0 : decode cX3_sign 0 = .ok (.aload_n 0, 1) := by decide +kernel
theorem dX3_sign_1 : decode cX3_sign 1 = .ok (.iload_n 1, 1) := by decide +kernel
theorem dX3_sign_2 : decode cX3_sign 2 = .ok (.invokevirtual 114, 3) := by decide +kernel
theorem dX3_sign_5 : decode cX3_sign 5 = .ok (.astore_n 3, 1) := by decide +kernel
theorem dX3_sign_6 : decode cX3_sign 6 = .ok (.aload_n 3, 1) := by decide +kernel
theorem dX3_sign_7 : decode cX3_sign 7 = .ok (.ifnonnull 6, 3) := by decide +kernel
theorem dX3_sign_10 : decode cX3_sign 10 = .ok (.bipush (-2), 2) := by decide +kernel
theorem dX3_sign_12 : decode cX3_sign 12 = .ok (.ireturn, 1) := by decide +kernel
theorem dX3_sign_13 : decode cX3_sign 13 = .ok (.iload_n 2, 1) := by decide +kernel
theorem dX3_sign_14 : decode cX3_sign 14 = .ok (.invokestatic 55, 3) := by decide +kernel
theorem dX3_sign_17 : decode cX3_sign 17 = .ok (.ifCond .ne 6, 3) := by decide +kernel
theorem dX3_sign_20 : decode cX3_sign 20 = .ok (.bipush (-4), 2) := by decide +kernel
theorem dX3_sign_22 : decode cX3_sign 22 = .ok (.ireturn, 1) := by decide +kernel
theorem dX3_sign_23 : decode cX3_sign 23 = .ok (.aload_n 3, 1) := by decide +kernel
theorem dX3_sign_24 : decode cX3_sign 24 = .ok (.getfield 118, 3) := by decide +kernel
theorem dX3_sign_27 : decode cX3_sign 27 = .ok (.bipush 40, 2) := by decide +kernel
theorem dX3_sign_29 : decode cX3_sign 29 = .ok (.if_icmp .lt 5, 3) := by decide +kernel
theorem dX3_sign_32 : decode cX3_sign 32 = .ok (.iconst (-1), 1) := by decide +kernel
theorem dX3_sign_33 : decode cX3_sign 33 = .ok (.ireturn, 1) := by decide +kernel
theorem dX3_sign_34 : decode cX3_sign 34 = .ok (.aload_n 3, 1) := by decide +kernel
theorem dX3_sign_35 : decode cX3_sign 35 = .ok (.getfield 121, 3) := by decide +kernel
theorem dX3_sign_38 : decode cX3_sign 38 = .ok (.aload_n 3, 1) := by decide +kernel
theorem dX3_sign_39 : decode cX3_sign 39 = .ok (.getfield 118, 3) := by decide +kernel
theorem dX3_sign_42 : decode cX3_sign 42 = .ok (.iload_n 2, 1) := by decide +kernel
theorem dX3_sign_43 : decode cX3_sign 43 = .ok (.iastore, 1) := by decide +kernel
theorem dX3_sign_44 : decode cX3_sign 44 = .ok (.aload_n 3, 1) := by decide +kernel
theorem dX3_sign_45 : decode cX3_sign 45 = .ok (.dup, 1) := by decide +kernel
theorem dX3_sign_46 : decode cX3_sign 46 = .ok (.getfield 118, 3) := by decide +kernel
theorem dX3_sign_49 : decode cX3_sign 49 = .ok (.iconst 1, 1) := by decide +kernel
theorem dX3_sign_50 : decode cX3_sign 50 = .ok (.iadd, 1) := by decide +kernel
theorem dX3_sign_51 : decode cX3_sign 51 = .ok (.putfield 118, 3) := by decide +kernel
theorem dX3_sign_54 : decode cX3_sign 54 = .ok (.aload_n 3, 1) := by decide +kernel
theorem dX3_sign_55 : decode cX3_sign 55 = .ok (.getfield 118, 3) := by decide +kernel
theorem dX3_sign_58 : decode cX3_sign 58 = .ok (.ireturn, 1) := by decide +kernel
set_option maxRecDepth 20000 in
theorem ggX3_whole_X3_textAt : GoodIn wsX3_whole wsX3_textAt := goodIn_r _ [8, 9, 32, 33, 34, 35, 36, 37, 38, 39] (by decide +kernel) (by decide +kernel)
set_option maxRecDepth 20000 in
theorem gX3_whole_X3_textAt : GoodIn wsX3_whole (wsV RX3 114 RX3 yX3_textAt wsX3_textAt) := goodIn_app (goodIn_of _ (by decide +kernel)) ggX3_whole_X3_textAt
set_option maxRecDepth 20000 in
theorem ggX3_whole_X3_pageAt : GoodIn wsX3_whole wsX3_pageAt := goodIn_r _ [13, 14, 32, 33, 34, 35, 36, 37, 38, 39] (by decide +kernel) (by decide +kernel)
set_option maxRecDepth 20000 in
theorem gX3_whole_X3_pageAt : GoodIn wsX3_whole (wsV RX3 51 RX3 yX3_pageAt wsX3_pageAt) := goodIn_app (goodIn_of _ (by decide +kernel)) ggX3_whole_X3_pageAt
set_option maxRecDepth 20000 in
theorem ggX3_whole_X3_findOrEnlist : GoodIn wsX3_whole wsX3_findOrEnlist := goodIn_r _ [18, 19, 20, 21, 22, 23, 24, 25, 26, 27, 30, 31, 32, 33, 34, 35, 36, 37, 38, 39] (by decide +kernel) (by decide +kernel)
set_option maxRecDepth 20000 in
theorem gX3_whole_X3_findOrEnlist : GoodIn wsX3_whole (wsV RX3 78 RX3 yX3_findOrEnlist wsX3_findOrEnlist) := goodIn_app (goodIn_of _ (by decide +kernel)) ggX3_whole_X3_findOrEnlist
theorem dX3_whole_0 : decode cX3_whole 0 = .ok (.aload_n 0, 1) := by decide +kernel
theorem dX3_whole_1 : decode cX3_whole 1 = .ok (.iload_n 1, 1) := by decide +kernel
theorem dX3_whole_2 : decode cX3_whole 2 = .ok (.invokevirtual 114, 3) := by decide +kernel
theorem dX3_whole_5 : decode cX3_whole 5 = .ok (.astore 4, 2) := by decide +kernel
theorem dX3_whole_7 : decode cX3_whole 7 = .ok (.aload_n 0, 1) := by decide +kernel
theorem dX3_whole_8 : decode cX3_whole 8 = .ok (.iload_n 2, 1) := by decide +kernel
theorem dX3_whole_9 : decode cX3_whole 9 = .ok (.invokevirtual 51, 3) := by decide +kernel
theorem dX3_whole_12 : decode cX3_whole 12 = .ok (.astore 5, 2) := by decide +kernel
theorem dX3_whole_14 : decode cX3_whole 14 = .ok (.aload_n 0, 1) := by decide +kernel
theorem dX3_whole_15 : decode cX3_whole 15 = .ok (.iload_n 3, 1) := by decide +kernel
theorem dX3_whole_16 : decode cX3_whole 16 = .ok (.invokevirtual 51, 3) := by decide +kernel
theorem dX3_whole_19 : decode cX3_whole 19 = .ok (.astore 6, 2) := by decide +kernel
theorem dX3_whole_21 : decode cX3_whole 21 = .ok (.aload 4, 2) := by decide +kernel
theorem dX3_whole_23 : decode cX3_whole 23 = .ok (.ifnull 13, 3) := by decide +kernel
theorem dX3_whole_26 : decode cX3_whole 26 = .ok (.aload 5, 2) := by decide +kernel
theorem dX3_whole_28 : decode cX3_whole 28 = .ok (.ifnull 8, 3) := by decide +kernel
theorem dX3_whole_31 : decode cX3_whole 31 = .ok (.aload 6, 2) := by decide +kernel
theorem dX3_whole_33 : decode cX3_whole 33 = .ok (.ifnonnull 6, 3) := by decide +kernel
theorem dX3_whole_36 : decode cX3_whole 36 = .ok (.bipush (-2), 2) := by decide +kernel
theorem dX3_whole_38 : decode cX3_whole 38 = .ok (.ireturn, 1) := by decide +kernel
theorem dX3_whole_39 : decode cX3_whole 39 = .ok (.iconst 0, 1) := by decide +kernel
theorem dX3_whole_40 : decode cX3_whole 40 = .ok (.istore 7, 2) := by decide +kernel
theorem dX3_whole_42 : decode cX3_whole 42 = .ok (.iconst 0, 1) := by decide +kernel
theorem dX3_whole_43 : decode cX3_whole 43 = .ok (.istore 8, 2) := by decide +kernel
theorem dX3_whole_45 : decode cX3_whole 45 = .ok (.iload 8, 2) := by decide +kernel
theorem dX3_whole_47 : decode cX3_whole 47 = .ok (.aload 4, 2) := by decide +kernel
theorem dX3_whole_49 : decode cX3_whole 49 = .ok (.getfield 118, 3) := by decide +kernel
theorem dX3_whole_52 : decode cX3_whole 52 = .ok (.if_icmp .ge 53, 3) := by decide +kernel
theorem dX3_whole_55 : decode cX3_whole 55 = .ok (.aload_n 0, 1) := by decide +kernel
theorem dX3_whole_56 : decode cX3_whole 56 = .ok (.aload 4, 2) := by decide +kernel
theorem dX3_whole_58 : decode cX3_whole 58 = .ok (.getfield 121, 3) := by decide +kernel
theorem dX3_whole_61 : decode cX3_whole 61 = .ok (.iload 8, 2) := by decide +kernel
theorem dX3_whole_63 : decode cX3_whole 63 = .ok (.iaload, 1) := by decide +kernel
theorem dX3_whole_64 : decode cX3_whole 64 = .ok (.aload 5, 2) := by decide +kernel
theorem dX3_whole_66 : decode cX3_whole 66 = .ok (.aload 6, 2) := by decide +kernel
theorem dX3_whole_68 : decode cX3_whole 68 = .ok (.invokevirtual 78, 3) := by decide +kernel
theorem dX3_whole_71 : decode cX3_whole 71 = .ok (.istore 9, 2) := by decide +kernel
theorem dX3_whole_73 : decode cX3_whole 73 = .ok (.iload 9, 2) := by decide +kernel
theorem dX3_whole_75 : decode cX3_whole 75 = .ok (.iconst (-1), 1) := by decide +kernel
theorem dX3_whole_76 : decode cX3_whole 76 = .ok (.if_icmp .ne 13, 3) := by decide +kernel
theorem dX3_whole_79 : decode cX3_whole 79 = .ok (.iinc 7 1, 3) := by decide +kernel
theorem dX3_whole_82 : decode cX3_whole 82 = .ok (.aload 6, 2) := by decide +kernel
theorem dX3_whole_84 : decode cX3_whole 84 = .ok (.getfield 75, 3) := by decide +kernel
theorem dX3_whole_87 : decode cX3_whole 87 = .ok (.istore 9, 2) := by decide +kernel
theorem dX3_whole_89 : decode cX3_whole 89 = .ok (.aload 4, 2) := by decide +kernel
theorem dX3_whole_91 : decode cX3_whole 91 = .ok (.getfield 121, 3) := by decide +kernel
theorem dX3_whole_94 : decode cX3_whole 94 = .ok (.iload 8, 2) := by decide +kernel
theorem dX3_whole_96 : decode cX3_whole 96 = .ok (.iload 9, 2) := by decide +kernel
theorem dX3_whole_98 : decode cX3_whole 98 = .ok (.iastore, 1) := by decide +kernel
theorem dX3_whole_99 : decode cX3_whole 99 = .ok (.iinc 8 1, 3) := by decide +kernel
theorem dX3_whole_102 : decode cX3_whole 102 = .ok (.goto (-57), 3) := by decide +kernel
theorem dX3_whole_105 : decode cX3_whole 105 = .ok (.iload 7, 2) := by decide +kernel
theorem dX3_whole_107 : decode cX3_whole 107 = .ok (.ireturn, 1) := by decide +kernel
set_option maxRecDepth 20000 in
theorem ggX3_at_X3_textAt : GoodIn wsX3_at wsX3_textAt := goodIn_r _ [7, 8, 11, 12, 13, 14, 15, 16, 17, 18] (by decide +kernel) (by decide +kernel)
set_option maxRecDepth 20000 in
theorem gX3_at_X3_textAt : GoodIn wsX3_at (wsV RX3 114 RX3 yX3_textAt wsX3_textAt) := goodIn_app (goodIn_of _ (by decide +kernel)) ggX3_at_X3_textAt
theorem dX3_at_0 : decode cX3_at 0 = .ok (.aload_n 0, 1) := by decide +kernel
theorem dX3_at_1 : decode cX3_at 1 = .ok (.iload_n 1, 1) := by decide +kernel
theorem dX3_at_2 : decode cX3_at 2 = .ok (.invokevirtual 114, 3) := by decide +kernel
theorem dX3_at_5 : decode cX3_at 5 = .ok (.astore_n 3, 1) := by decide +kernel
theorem dX3_at_6 : decode cX3_at 6 = .ok (.aload_n 3, 1) := by decide +kernel
theorem dX3_at_7 : decode cX3_at 7 = .ok (.ifnull 24, 3) := by decide +kernel
theorem dX3_at_10 : decode cX3_at 10 = .ok (.iload_n 2, 1) := by decide +kernel
theorem dX3_at_11 : decode cX3_at 11 = .ok (.ifCond .lt 20, 3) := by decide +kernel
theorem dX3_at_14 : decode cX3_at 14 = .ok (.iload_n 2, 1) := by decide +kernel
theorem dX3_at_15 : decode cX3_at 15 = .ok (.aload_n 3, 1) := by decide +kernel
theorem dX3_at_16 : decode cX3_at 16 = .ok (.getfield 118, 3) := by decide +kernel
theorem dX3_at_19 : decode cX3_at 19 = .ok (.if_icmp .ge 12, 3) := by decide +kernel
theorem dX3_at_22 : decode cX3_at 22 = .ok (.aload_n 3, 1) := by decide +kernel
theorem dX3_at_23 : decode cX3_at 23 = .ok (.getfield 121, 3) := by decide +kernel
theorem dX3_at_26 : decode cX3_at 26 = .ok (.iload_n 2, 1) := by decide +kernel
theorem dX3_at_27 : decode cX3_at 27 = .ok (.iaload, 1) := by decide +kernel
theorem dX3_at_28 : decode cX3_at 28 = .ok (.goto 4, 3) := by decide +kernel
theorem dX3_at_31 : decode cX3_at 31 = .ok (.iconst (-1), 1) := by decide +kernel
theorem dX3_at_32 : decode cX3_at 32 = .ok (.ireturn, 1) := by decide +kernel
set_option maxRecDepth 20000 in
theorem ggX3_compare_X3_orderAt : GoodIn wsX3_compare wsX3_orderAt := goodIn_r _ [11, 12, 31, 32, 33, 34, 35, 36, 37, 38] (by decide +kernel) (by decide +kernel)
set_option maxRecDepth 20000 in
theorem gX3_compare_X3_orderAt : GoodIn wsX3_compare (wsV RX3 89 RX3 yX3_orderAt wsX3_orderAt) := goodIn_app (goodIn_of _ (by decide +kernel)) ggX3_compare_X3_orderAt
set_option maxRecDepth 20000 in
theorem ggX3_compare_X3_textAt : GoodIn wsX3_compare wsX3_textAt := goodIn_r _ [16, 17, 31, 32, 33, 34, 35, 36, 37, 38] (by decide +kernel) (by decide +kernel)
set_option maxRecDepth 20000 in
theorem gX3_compare_X3_textAt : GoodIn wsX3_compare (wsV RX3 114 RX3 yX3_textAt wsX3_textAt) := goodIn_app (goodIn_of _ (by decide +kernel)) ggX3_compare_X3_textAt
set_option maxRecDepth 20000 in
theorem ggX3_compare_X2_codeOrBlank : GoodIn wsX3_compare wsX2_codeOrBlank := goodIn_r _ [22, 23, 24, 25, 26] (by decide +kernel) (by decide +kernel)
set_option maxRecDepth 20000 in
theorem gX3_compare_X2_codeOrBlank : GoodIn wsX3_compare (wsV RX3 131 RX2 yX2_codeOrBlank wsX2_codeOrBlank) := goodIn_app (goodIn_of _ (by decide +kernel)) ggX3_compare_X2_codeOrBlank
theorem dX3_compare_0 : decode cX3_compare 0 = .ok (.aload_n 0, 1) := by decide +kernel
theorem dX3_compare_1 : decode cX3_compare 1 = .ok (.iload_n 1, 1) := by decide +kernel
theorem dX3_compare_2 : decode cX3_compare 2 = .ok (.invokevirtual 89, 3) := by decide +kernel
theorem dX3_compare_5 : decode cX3_compare 5 = .ok (.astore 4, 2) := by decide +kernel
theorem dX3_compare_7 : decode cX3_compare 7 = .ok (.aload_n 0, 1) := by decide +kernel
theorem dX3_compare_8 : decode cX3_compare 8 = .ok (.iload_n 2, 1) := by decide +kernel
theorem dX3_compare_9 : decode cX3_compare 9 = .ok (.invokevirtual 114, 3) := by decide +kernel
theorem dX3_compare_12 : decode cX3_compare 12 = .ok (.astore 5, 2) := by decide +kernel
theorem dX3_compare_14 : decode cX3_compare 14 = .ok (.aload_n 0, 1) := by decide +kernel
theorem dX3_compare_15 : decode cX3_compare 15 = .ok (.iload_n 3, 1) := by decide +kernel
theorem dX3_compare_16 : decode cX3_compare 16 = .ok (.invokevirtual 114, 3) := by decide +kernel
theorem dX3_compare_19 : decode cX3_compare 19 = .ok (.astore 6, 2) := by decide +kernel
theorem dX3_compare_21 : decode cX3_compare 21 = .ok (.aload 4, 2) := by decide +kernel
theorem dX3_compare_23 : decode cX3_compare 23 = .ok (.ifnull 13, 3) := by decide +kernel
theorem dX3_compare_26 : decode cX3_compare 26 = .ok (.aload 5, 2) := by decide +kernel
theorem dX3_compare_28 : decode cX3_compare 28 = .ok (.ifnull 8, 3) := by decide +kernel
theorem dX3_compare_31 : decode cX3_compare 31 = .ok (.aload 6, 2) := by decide +kernel
theorem dX3_compare_33 : decode cX3_compare 33 = .ok (.ifnonnull 6, 3) := by decide +kernel
theorem dX3_compare_36 : decode cX3_compare 36 = .ok (.bipush (-2), 2) := by decide +kernel
theorem dX3_compare_38 : decode cX3_compare 38 = .ok (.ireturn, 1) := by decide +kernel
theorem dX3_compare_39 : decode cX3_compare 39 = .ok (.aload 5, 2) := by decide +kernel
theorem dX3_compare_41 : decode cX3_compare 41 = .ok (.getfield 118, 3) := by decide +kernel
theorem dX3_compare_44 : decode cX3_compare 44 = .ok (.aload 6, 2) := by decide +kernel
theorem dX3_compare_46 : decode cX3_compare 46 = .ok (.getfield 118, 3) := by decide +kernel
theorem dX3_compare_49 : decode cX3_compare 49 = .ok (.invokestatic 124, 3) := by decide +kernel
theorem dX3_compare_52 : decode cX3_compare 52 = .ok (.istore 7, 2) := by decide +kernel
theorem dX3_compare_54 : decode cX3_compare 54 = .ok (.iconst 0, 1) := by decide +kernel
theorem dX3_compare_55 : decode cX3_compare 55 = .ok (.istore 8, 2) := by decide +kernel
theorem dX3_compare_57 : decode cX3_compare 57 = .ok (.iload 8, 2) := by decide +kernel
theorem dX3_compare_59 : decode cX3_compare 59 = .ok (.iload 7, 2) := by decide +kernel
theorem dX3_compare_61 : decode cX3_compare 61 = .ok (.if_icmp .ge 59, 3) := by decide +kernel
theorem dX3_compare_64 : decode cX3_compare 64 = .ok (.aload 4, 2) := by decide +kernel
theorem dX3_compare_66 : decode cX3_compare 66 = .ok (.getfield 128, 3) := by decide +kernel
theorem dX3_compare_69 : decode cX3_compare 69 = .ok (.aload 5, 2) := by decide +kernel
theorem dX3_compare_71 : decode cX3_compare 71 = .ok (.iload 8, 2) := by decide +kernel
theorem dX3_compare_73 : decode cX3_compare 73 = .ok (.invokevirtual 131, 3) := by decide +kernel
theorem dX3_compare_76 : decode cX3_compare 76 = .ok (.iaload, 1) := by decide +kernel
theorem dX3_compare_77 : decode cX3_compare 77 = .ok (.istore 9, 2) := by decide +kernel
theorem dX3_compare_79 : decode cX3_compare 79 = .ok (.aload 4, 2) := by decide +kernel
theorem dX3_compare_81 : decode cX3_compare 81 = .ok (.getfield 128, 3) := by decide +kernel
theorem dX3_compare_84 : decode cX3_compare 84 = .ok (.aload 6, 2) := by decide +kernel
theorem dX3_compare_86 : decode cX3_compare 86 = .ok (.iload 8, 2) := by decide +kernel
theorem dX3_compare_88 : decode cX3_compare 88 = .ok (.invokevirtual 131, 3) := by decide +kernel
theorem dX3_compare_91 : decode cX3_compare 91 = .ok (.iaload, 1) := by decide +kernel
theorem dX3_compare_92 : decode cX3_compare 92 = .ok (.istore 10, 2) := by decide +kernel
theorem dX3_compare_94 : decode cX3_compare 94 = .ok (.iload 9, 2) := by decide +kernel
theorem dX3_compare_96 : decode cX3_compare 96 = .ok (.iload 10, 2) := by decide +kernel
theorem dX3_compare_98 : decode cX3_compare 98 = .ok (.if_icmp .eq 16, 3) := by decide +kernel
theorem dX3_compare_101 : decode cX3_compare 101 = .ok (.iload 9, 2) := by decide +kernel
theorem dX3_compare_103 : decode cX3_compare 103 = .ok (.iload 10, 2) := by decide +kernel
theorem dX3_compare_105 : decode cX3_compare 105 = .ok (.if_icmp .ge 7, 3) := by decide +kernel
theorem dX3_compare_108 : decode cX3_compare 108 = .ok (.iconst (-1), 1) := by decide +kernel
theorem dX3_compare_109 : decode cX3_compare 109 = .ok (.goto 4, 3) := by decide +kernel
theorem dX3_compare_112 : decode cX3_compare 112 = .ok (.iconst 1, 1) := by decide +kernel
theorem dX3_compare_113 : decode cX3_compare 113 = .ok (.ireturn, 1) := by decide +kernel
theorem dX3_compare_114 : decode cX3_compare 114 = .ok (.iinc 8 1, 3) := by decide +kernel
theorem dX3_compare_117 : decode cX3_compare 117 = .ok (.goto (-60), 3) := by decide +kernel
theorem dX3_compare_120 : decode cX3_compare 120 = .ok (.iconst 0, 1) := by decide +kernel
theorem dX3_compare_121 : decode cX3_compare 121 = .ok (.ireturn, 1) := by decide +kernel
set_option maxRecDepth 20000 in
theorem ggX3_cls_X3_isGreatLetter : GoodIn wsX3_cls wsX3_isGreatLetter := goodIn_r _ [4] (by decide +kernel) (by decide +kernel)
set_option maxRecDepth 20000 in
theorem gX3_cls_X3_isGreatLetter : GoodIn wsX3_cls (va_wsS RX3 134 yX3_isGreatLetter wsX3_isGreatLetter) := goodIn_app (goodIn_of _ (by decide +kernel)) ggX3_cls_X3_isGreatLetter
set_option maxRecDepth 20000 in
theorem ggX3_cls_X3_isSmallLetter : GoodIn wsX3_cls wsX3_isSmallLetter := goodIn_r _ [7] (by decide +kernel) (by decide +kernel)
set_option maxRecDepth 20000 in
theorem gX3_cls_X3_isSmallLetter : GoodIn wsX3_cls (va_wsS RX3 137 yX3_isSmallLetter wsX3_isSmallLetter) := goodIn_app (goodIn_of _ (by decide +kernel)) ggX3_cls_X3_isSmallLetter
theorem dX3_cls_0 : decode cX3_cls 0 = .ok (.iload_n 2, 1) := by decide +kernel
theorem dX3_cls_1 : decode cX3_cls 1 = .ok (.tableswitch 121 0 5 #[39, 57, 77, 82, 87, 99], 39) := by decide +kernel
theorem dX3_cls_40 : decode cX3_cls 40 = .ok (.iload_n 1, 1) := by decide +kernel
theorem dX3_cls_41 : decode cX3_cls 41 = .ok (.bipush 48, 2) := by decide +kernel
theorem dX3_cls_43 : decode cX3_cls 43 = .ok (.if_icmp .lt 13, 3) := by decide +kernel
theorem dX3_cls_46 : decode cX3_cls 46 = .ok (.iload_n 1, 1) := by decide +kernel
theorem dX3_cls_47 : decode cX3_cls 47 = .ok (.bipush 57, 2) := by decide +kernel
theorem dX3_cls_49 : decode cX3_cls 49 = .ok (.if_icmp .gt 7, 3) := by decide +kernel
theorem dX3_cls_52 : decode cX3_cls 52 = .ok (.iconst 1, 1) := by decide +kernel
theorem dX3_cls_53 : decode cX3_cls 53 = .ok (.goto 4, 3) := by decide +kernel
theorem dX3_cls_56 : decode cX3_cls 56 = .ok (.iconst 0, 1) := by decide +kernel
theorem dX3_cls_57 : decode cX3_cls 57 = .ok (.ireturn, 1) := by decide +kernel
theorem dX3_cls_58 : decode cX3_cls 58 = .ok (.iload_n 1, 1) := by decide +kernel
theorem dX3_cls_59 : decode cX3_cls 59 = .ok (.invokestatic 134, 3) := by decide +kernel
theorem dX3_cls_62 : decode cX3_cls 62 = .ok (.ifCond .ne 10, 3) := by decide +kernel
theorem dX3_cls_65 : decode cX3_cls 65 = .ok (.iload_n 1, 1) := by decide +kernel
theorem dX3_cls_66 : decode cX3_cls 66 = .ok (.invokestatic 137, 3) := by decide +kernel
theorem dX3_cls_69 : decode cX3_cls 69 = .ok (.ifCond .eq 7, 3) := by decide +kernel
theorem dX3_cls_72 : decode cX3_cls 72 = .ok (.iconst 1, 1) := by decide +kernel
theorem dX3_cls_73 : decode cX3_cls 73 = .ok (.goto 4, 3) := by decide +kernel
theorem dX3_cls_76 : decode cX3_cls 76 = .ok (.iconst 0, 1) := by decide +kernel
theorem dX3_cls_77 : decode cX3_cls 77 = .ok (.ireturn, 1) := by decide +kernel
theorem dX3_cls_78 : decode cX3_cls 78 = .ok (.iload_n 1, 1) := by decide +kernel
theorem dX3_cls_79 : decode cX3_cls 79 = .ok (.invokestatic 134, 3) := by decide +kernel
theorem dX3_cls_82 : decode cX3_cls 82 = .ok (.ireturn, 1) := by decide +kernel
theorem dX3_cls_83 : decode cX3_cls 83 = .ok (.iload_n 1, 1) := by decide +kernel
theorem dX3_cls_84 : decode cX3_cls 84 = .ok (.invokestatic 137, 3) := by decide +kernel
theorem dX3_cls_87 : decode cX3_cls 87 = .ok (.ireturn, 1) := by decide +kernel
theorem dX3_cls_88 : decode cX3_cls 88 = .ok (.iload_n 1, 1) := by decide +kernel
theorem dX3_cls_89 : decode cX3_cls 89 = .ok (.bipush 32, 2) := by decide +kernel
theorem dX3_cls_91 : decode cX3_cls 91 = .ok (.if_icmp .ne 7, 3) := by decide +kernel
theorem dX3_cls_94 : decode cX3_cls 94 = .ok (.iconst 1, 1) := by decide +kernel
theorem dX3_cls_95 : decode cX3_cls 95 = .ok (.goto 4, 3) := by decide +kernel
theorem dX3_cls_98 : decode cX3_cls 98 = .ok (.iconst 0, 1) := by decide +kernel
theorem dX3_cls_99 : decode cX3_cls 99 = .ok (.ireturn, 1) := by decide +kernel
theorem dX3_cls_100 : decode cX3_cls 100 = .ok (.iload_n 1, 1) := by decide +kernel
theorem dX3_cls_101 : decode cX3_cls 101 = .ok (.ifCond .lt 9, 3) := by decide +kernel
theorem dX3_cls_104 : decode cX3_cls 104 = .ok (.iload_n 1, 1) := by decide +kernel
theorem dX3_cls_105 : decode cX3_cls 105 = .ok (.bipush 32, 2) := by decide +kernel
theorem dX3_cls_107 : decode cX3_cls 107 = .ok (.if_icmp .lt 9, 3) := by decide +kernel
theorem dX3_cls_110 : decode cX3_cls 110 = .ok (.iload_n 1, 1) := by decide +kernel
theorem dX3_cls_111 : decode cX3_cls 111 = .ok (.bipush 127, 2) := by decide +kernel
theorem dX3_cls_113 : decode cX3_cls 113 = .ok (.if_icmp .ne 7, 3) := by decide +kernel
theorem dX3_cls_116 : decode cX3_cls 116 = .ok (.iconst 1, 1) := by decide +kernel
theorem dX3_cls_117 : decode cX3_cls 117 = .ok (.goto 4, 3) := by decide +kernel
theorem dX3_cls_120 : decode cX3_cls 120 = .ok (.iconst 0, 1) := by decide +kernel
theorem dX3_cls_121 : decode cX3_cls 121 = .ok (.ireturn, 1) := by decide +kernel
theorem dX3_cls_122 : decode cX3_cls 122 = .ok (.iconst 0, 1) := by decide +kernel
theorem dX3_cls_123 : decode cX3_cls 123 = .ok (.ireturn, 1) := by decide +kernel
set_option maxRecDepth 20000 in
theorem ggX3_print_X3_isCode : GoodIn wsX3_print wsX3_isCode := goodIn_r _ [4] (by decide +kernel) (by decide +kernel)
set_option maxRecDepth 20000 in
theorem gX3_print_X3_isCode : GoodIn wsX3_print (va_wsS RX3 55 yX3_isCode wsX3_isCode) := goodIn_app (goodIn_of _ (by decide +kernel)) ggX3_print_X3_isCode
set_option maxRecDepth 20000 in
theorem ggX3_print_X3_hexDigit : GoodIn wsX3_print wsX3_hexDigit := goodIn_r _ [7] (by decide +kernel) (by decide +kernel)
set_option maxRecDepth 20000 in
theorem gX3_print_X3_hexDigit : GoodIn wsX3_print (va_wsS RX3 140 yX3_hexDigit wsX3_hexDigit) := goodIn_app (goodIn_of _ (by decide +kernel)) ggX3_print_X3_hexDigit
set_option maxRecDepth 20000 in
theorem ggX3_print_X3_halfAsSign : GoodIn wsX3_print wsX3_halfAsSign := goodIn_r _ [10] (by decide +kernel) (by decide +kernel)
set_option maxRecDepth 20000 in
theorem gX3_print_X3_halfAsSign : GoodIn wsX3_print (va_wsS RX3 143 yX3_halfAsSign wsX3_halfAsSign) := goodIn_app (goodIn_of _ (by decide +kernel)) ggX3_print_X3_halfAsSign
theorem dX3_print_0 : decode cX3_print 0 = .ok (.iload_n 1, 1) := by decide +kernel
theorem dX3_print_1 : decode cX3_print 1 = .ok (.invokestatic 55, 3) := by decide +kernel
theorem dX3_print_4 : decode cX3_print 4 = .ok (.ifCond .ne 5, 3) := by decide +kernel
theorem dX3_print_7 : decode cX3_print 7 = .ok (.iconst 0, 1) := by decide +kernel
theorem dX3_print_8 : decode cX3_print 8 = .ok (.ireturn, 1) := by decide +kernel
theorem dX3_print_9 : decode cX3_print 9 = .ok (.iload_n 2, 1) := by decide +kernel
theorem dX3_print_10 : decode cX3_print 10 = .ok (.tableswitch 52 0 2 #[26, 34, 43], 26) := by decide +kernel
theorem dX3_print_36 : decode cX3_print 36 = .ok (.iload_n 1, 1) := by decide +kernel
theorem dX3_print_37 : decode cX3_print 37 = .ok (.iconst 4, 1) := by decide +kernel
theorem dX3_print_38 : decode cX3_print 38 = .ok (.ishr, 1) := by decide +kernel
theorem dX3_print_39 : decode cX3_print 39 = .ok (.invokestatic 140, 3) := by decide +kernel
theorem dX3_print_42 : decode cX3_print 42 = .ok (.i2b, 1) := by decide +kernel
theorem dX3_print_43 : decode cX3_print 43 = .ok (.ireturn, 1) := by decide +kernel
theorem dX3_print_44 : decode cX3_print 44 = .ok (.iload_n 1, 1) := by decide +kernel
theorem dX3_print_45 : decode cX3_print 45 = .ok (.bipush 15, 2) := by decide +kernel
theorem dX3_print_47 : decode cX3_print 47 = .ok (.iand, 1) := by decide +kernel
theorem dX3_print_48 : decode cX3_print 48 = .ok (.invokestatic 140, 3) := by decide +kernel
theorem dX3_print_51 : decode cX3_print 51 = .ok (.i2b, 1) := by decide +kernel
theorem dX3_print_52 : decode cX3_print 52 = .ok (.ireturn, 1) := by decide +kernel
theorem dX3_print_53 : decode cX3_print 53 = .ok (.iload_n 1, 1) := by decide +kernel
theorem dX3_print_54 : decode cX3_print 54 = .ok (.bipush 15, 2) := by decide +kernel
theorem dX3_print_56 : decode cX3_print 56 = .ok (.iand, 1) := by decide +kernel
theorem dX3_print_57 : decode cX3_print 57 = .ok (.invokestatic 143, 3) := by decide +kernel
theorem dX3_print_60 : decode cX3_print 60 = .ok (.i2b, 1) := by decide +kernel
theorem dX3_print_61 : decode cX3_print 61 = .ok (.ireturn, 1) := by decide +kernel
theorem dX3_print_62 : decode cX3_print 62 = .ok (.iconst 0, 1) := by decide +kernel
theorem dX3_print_63 : decode cX3_print 63 = .ok (.ireturn, 1) := by decide +kernel
set_option maxRecDepth 20000 in
theorem ggX3_high_X3_orderAt : GoodIn wsX3_high wsX3_orderAt := goodIn_r _ [5, 6, 13, 14, 15, 16, 17, 18, 19, 20] (by decide +kernel) (by decide +kernel)
set_option maxRecDepth 20000 in
theorem gX3_high_X3_orderAt : GoodIn wsX3_high (wsV RX3 89 RX3 yX3_orderAt wsX3_orderAt) := goodIn_app (goodIn_of _ (by decide +kernel)) ggX3_high_X3_orderAt
set_option maxRecDepth 20000 in
theorem ggX3_high_X0_lastCode : GoodIn wsX3_high wsX0_lastCode := goodIn_r _ [11, 12, 21, 22, 23, 24] (by decide +kernel) (by decide +kernel)
set_option maxRecDepth 20000 in
theorem gX3_high_X0_lastCode : GoodIn wsX3_high (wsV RX3 146 RX0 yX0_lastCode wsX0_lastCode) := goodIn_app (goodIn_of _ (by decide +kernel)) ggX3_high_X0_lastCode
theorem dX3_high_0 : decode cX3_high 0 = .ok (.aload_n 0, 1) := by decide +kernel
theorem dX3_high_1 : decode cX3_high 1 = .ok (.iload_n 1, 1) := by decide +kernel
theorem dX3_high_2 : decode cX3_high 2 = .ok (.invokevirtual 89, 3) := by decide +kernel
theorem dX3_high_5 : decode cX3_high 5 = .ok (.astore_n 2, 1) := by decide +kernel
theorem dX3_high_6 : decode cX3_high 6 = .ok (.aload_n 2, 1) := by decide +kernel
theorem dX3_high_7 : decode cX3_high 7 = .ok (.ifnonnull 8, 3) := by decide +kernel
theorem dX3_high_10 : decode cX3_high 10 = .ok (.bipush (-2), 2) := by decide +kernel
theorem dX3_high_12 : decode cX3_high 12 = .ok (.goto 7, 3) := by decide +kernel
theorem dX3_high_15 : decode cX3_high 15 = .ok (.aload_n 2, 1) := by decide +kernel
theorem dX3_high_16 : decode cX3_high 16 = .ok (.invokevirtual 146, 3) := by decide +kernel
theorem dX3_high_19 : decode cX3_high 19 = .ok (.ireturn, 1) := by decide +kernel
set_option maxRecDepth 20000 in
theorem ggX3_rank_X3_orderAt : GoodIn wsX3_rank wsX3_orderAt := goodIn_r _ [6, 7, 15, 16, 17, 18, 19, 20, 21, 22] (by decide +kernel) (by decide +kernel)
set_option maxRecDepth 20000 in
theorem gX3_rank_X3_orderAt : GoodIn wsX3_rank (wsV RX3 89 RX3 yX3_orderAt wsX3_orderAt) := goodIn_app (goodIn_of _ (by decide +kernel)) ggX3_rank_X3_orderAt
set_option maxRecDepth 20000 in
theorem ggX3_rank_X3_isCode : GoodIn wsX3_rank wsX3_isCode := goodIn_r _ [10] (by decide +kernel) (by decide +kernel)
set_option maxRecDepth 20000 in
theorem gX3_rank_X3_isCode : GoodIn wsX3_rank (va_wsS RX3 55 yX3_isCode wsX3_isCode) := goodIn_app (goodIn_of _ (by decide +kernel)) ggX3_rank_X3_isCode
theorem dX3_rank_0 : decode cX3_rank 0 = .ok (.aload_n 0, 1) := by decide +kernel
theorem dX3_rank_1 : decode cX3_rank 1 = .ok (.iload_n 1, 1) := by decide +kernel
theorem dX3_rank_2 : decode cX3_rank 2 = .ok (.invokevirtual 89, 3) := by decide +kernel
theorem dX3_rank_5 : decode cX3_rank 5 = .ok (.astore_n 3, 1) := by decide +kernel
theorem dX3_rank_6 : decode cX3_rank 6 = .ok (.aload_n 3, 1) := by decide +kernel
theorem dX3_rank_7 : decode cX3_rank 7 = .ok (.ifnonnull 6, 3) := by decide +kernel
theorem dX3_rank_10 : decode cX3_rank 10 = .ok (.bipush (-2), 2) := by decide +kernel
theorem dX3_rank_12 : decode cX3_rank 12 = .ok (.ireturn, 1) := by decide +kernel
theorem dX3_rank_13 : decode cX3_rank 13 = .ok (.iload_n 2, 1) := by decide +kernel
theorem dX3_rank_14 : decode cX3_rank 14 = .ok (.invokestatic 55, 3) := by decide +kernel
theorem dX3_rank_17 : decode cX3_rank 17 = .ok (.ifCond .eq 12, 3) := by decide +kernel
theorem dX3_rank_20 : decode cX3_rank 20 = .ok (.aload_n 3, 1) := by decide +kernel
theorem dX3_rank_21 : decode cX3_rank 21 = .ok (.getfield 128, 3) := by decide +kernel
theorem dX3_rank_24 : decode cX3_rank 24 = .ok (.iload_n 2, 1) := by decide +kernel
theorem dX3_rank_25 : decode cX3_rank 25 = .ok (.iaload, 1) := by decide +kernel
theorem dX3_rank_26 : decode cX3_rank 26 = .ok (.goto 5, 3) := by decide +kernel
theorem dX3_rank_29 : decode cX3_rank 29 = .ok (.bipush (-4), 2) := by decide +kernel
theorem dX3_rank_31 : decode cX3_rank 31 = .ok (.ireturn, 1) := by decide +kernel
theorem dX3_isCode_0 : decode cX3_isCode 0 = .ok (.iload_n 0, 1) := by decide +kernel
theorem dX3_isCode_1 : decode cX3_isCode 1 = .ok (.ifCond .lt 14, 3) := by decide +kernel
theorem dX3_isCode_4 : decode cX3_isCode 4 = .ok (.iload_n 0, 1) := by decide +kernel
theorem dX3_isCode_5 : decode cX3_isCode 5 = .ok (.sipush 256, 3) := by decide +kernel
theorem dX3_isCode_8 : decode cX3_isCode 8 = .ok (.if_icmp .ge 7, 3) := by decide +kernel
theorem dX3_isCode_11 : decode cX3_isCode 11 = .ok (.iconst 1, 1) := by decide +kernel
theorem dX3_isCode_12 : decode cX3_isCode 12 = .ok (.goto 4, 3) := by decide +kernel
theorem dX3_isCode_15 : decode cX3_isCode 15 = .ok (.iconst 0, 1) := by decide +kernel
theorem dX3_isCode_16 : decode cX3_isCode 16 = .ok (.ireturn, 1) := by decide +kernel
theorem dX3_isMeaningOrNone_0 : decode cX3_isMeaningOrNone 0 = .ok (.iload_n 0, 1) := by decide +kernel
theorem dX3_isMeaningOrNone_1 : decode cX3_isMeaningOrNone 1 = .ok (.iconst (-1), 1) := by decide +kernel
theorem dX3_isMeaningOrNone_2 : decode cX3_isMeaningOrNone 2 = .ok (.if_icmp .eq 13, 3) := by decide +kernel
theorem dX3_isMeaningOrNone_5 : decode cX3_isMeaningOrNone 5 = .ok (.iload_n 0, 1) := by decide +kernel
theorem dX3_isMeaningOrNone_6 : decode cX3_isMeaningOrNone 6 = .ok (.ifCond .lt 13, 3) := by decide +kernel
theorem dX3_isMeaningOrNone_9 : decode cX3_isMeaningOrNone 9 = .ok (.iload_n 0, 1) := by decide +kernel
theorem dX3_isMeaningOrNone_10 : decode cX3_isMeaningOrNone 10 = .ok (.ldc 150, 2) := by decide +kernel
theorem dX3_isMeaningOrNone_12 : decode cX3_isMeaningOrNone 12 = .ok (.if_icmp .ge 7, 3) := by decide +kernel
theorem dX3_isMeaningOrNone_15 : decode cX3_isMeaningOrNone 15 = .ok (.iconst 1, 1) := by decide +kernel
theorem dX3_isMeaningOrNone_16 : decode cX3_isMeaningOrNone 16 = .ok (.goto 4, 3) := by decide +kernel
theorem dX3_isMeaningOrNone_19 : decode cX3_isMeaningOrNone 19 = .ok (.iconst 0, 1) := by decide +kernel
theorem dX3_isMeaningOrNone_20 : decode cX3_isMeaningOrNone 20 = .ok (.ireturn, 1) := by decide +kernel
theorem dX3_isKind_0 : decode cX3_isKind 0 = .ok (.iload_n 0, 1) := by decide +kernel
theorem dX3_isKind_1 : decode cX3_isKind 1 = .ok (.ifCond .lt 12, 3) := by decide +kernel
theorem dX3_isKind_4 : decode cX3_isKind 4 = .ok (.iload_n 0, 1) := by decide +kernel
theorem dX3_isKind_5 : decode cX3_isKind 5 = .ok (.iconst 3, 1) := by decide +kernel
theorem dX3_isKind_6 : decode cX3_isKind 6 = .ok (.if_icmp .ge 7, 3) := by decide +kernel
theorem dX3_isKind_9 : decode cX3_isKind 9 = .ok (.iconst 1, 1) := by decide +kernel
theorem dX3_isKind_10 : decode cX3_isKind 10 = .ok (.goto 4, 3) := by decide +kernel
theorem dX3_isKind_13 : decode cX3_isKind 13 = .ok (.iconst 0, 1) := by decide +kernel
theorem dX3_isKind_14 : decode cX3_isKind 14 = .ok (.ireturn, 1) := by decide +kernel
theorem dX3_pageAt_0 : decode cX3_pageAt 0 = .ok (.iload_n 1, 1) := by decide +kernel
theorem dX3_pageAt_1 : decode cX3_pageAt 1 = .ok (.ifCond .lt 18, 3) := by decide +kernel
theorem dX3_pageAt_4 : decode cX3_pageAt 4 = .ok (.iload_n 1, 1) := by decide +kernel
theorem dX3_pageAt_5 : decode cX3_pageAt 5 = .ok (.bipush 12, 2) := by decide +kernel
theorem dX3_pageAt_7 : decode cX3_pageAt 7 = .ok (.if_icmp .ge 12, 3) := by decide +kernel
theorem dX3_pageAt_10 : decode cX3_pageAt 10 = .ok (.aload_n 0, 1) := by decide +kernel
theorem dX3_pageAt_11 : decode cX3_pageAt 11 = .ok (.getfield 11, 3) := by decide +kernel
theorem dX3_pageAt_14 : decode cX3_pageAt 14 = .ok (.iload_n 1, 1) := by decide +kernel
theorem dX3_pageAt_15 : decode cX3_pageAt 15 = .ok (.aaload, 1) := by decide +kernel
theorem dX3_pageAt_16 : decode cX3_pageAt 16 = .ok (.goto 4, 3) := by decide +kernel
theorem dX3_pageAt_19 : decode cX3_pageAt 19 = .ok (.aconst_null, 1) := by decide +kernel
theorem dX3_pageAt_20 : decode cX3_pageAt 20 = .ok (.areturn, 1) := by decide +kernel
theorem dX3_orderAt_0 : decode cX3_orderAt 0 = .ok (.iload_n 1, 1) := by decide +kernel
theorem dX3_orderAt_1 : decode cX3_orderAt 1 = .ok (.ifCond .lt 18, 3) := by decide +kernel
theorem dX3_orderAt_4 : decode cX3_orderAt 4 = .ok (.iload_n 1, 1) := by decide +kernel
theorem dX3_orderAt_5 : decode cX3_orderAt 5 = .ok (.bipush 12, 2) := by decide +kernel
theorem dX3_orderAt_7 : decode cX3_orderAt 7 = .ok (.if_icmp .ge 12, 3) := by decide +kernel
theorem dX3_orderAt_10 : decode cX3_orderAt 10 = .ok (.aload_n 0, 1) := by decide +kernel
theorem dX3_orderAt_11 : decode cX3_orderAt 11 = .ok (.getfield 17, 3) := by decide +kernel
theorem dX3_orderAt_14 : decode cX3_orderAt 14 = .ok (.iload_n 1, 1) := by decide +kernel
theorem dX3_orderAt_15 : decode cX3_orderAt 15 = .ok (.aaload, 1) := by decide +kernel
theorem dX3_orderAt_16 : decode cX3_orderAt 16 = .ok (.goto 4, 3) := by decide +kernel
theorem dX3_orderAt_19 : decode cX3_orderAt 19 = .ok (.aconst_null, 1) := by decide +kernel
theorem dX3_orderAt_20 : decode cX3_orderAt 20 = .ok (.areturn, 1) := by decide +kernel
theorem dX3_textAt_0 : decode cX3_textAt 0 = .ok (.iload_n 1, 1) := by decide +kernel
theorem dX3_textAt_1 : decode cX3_textAt 1 = .ok (.ifCond .lt 18, 3) := by decide +kernel
theorem dX3_textAt_4 : decode cX3_textAt 4 = .ok (.iload_n 1, 1) := by decide +kernel
theorem dX3_textAt_5 : decode cX3_textAt 5 = .ok (.bipush 40, 2) := by decide +kernel
theorem dX3_textAt_7 : decode cX3_textAt 7 = .ok (.if_icmp .ge 12, 3) := by decide +kernel
theorem dX3_textAt_10 : decode cX3_textAt 10 = .ok (.aload_n 0, 1) := by decide +kernel
theorem dX3_textAt_11 : decode cX3_textAt 11 = .ok (.getfield 23, 3) := by decide +kernel
theorem dX3_textAt_14 : decode cX3_textAt 14 = .ok (.iload_n 1, 1) := by decide +kernel
theorem dX3_textAt_15 : decode cX3_textAt 15 = .ok (.aaload, 1) := by decide +kernel
theorem dX3_textAt_16 : decode cX3_textAt 16 = .ok (.goto 4, 3) := by decide +kernel
theorem dX3_textAt_19 : decode cX3_textAt 19 = .ok (.aconst_null, 1) := by decide +kernel
theorem dX3_textAt_20 : decode cX3_textAt 20 = .ok (.areturn, 1) := by decide +kernel
set_option maxRecDepth 20000 in
theorem ggX3_findOrEnlist_X1_codeThatMeans : GoodIn wsX3_findOrEnlist wsX1_codeThatMeans := goodIn_r _ [8, 9, 10, 11] (by decide +kernel) (by decide +kernel)
set_option maxRecDepth 20000 in
theorem gX3_findOrEnlist_X1_codeThatMeans : GoodIn wsX3_findOrEnlist (wsV RX3 61 RX1 yX1_codeThatMeans wsX1_codeThatMeans) := goodIn_app (goodIn_of _ (by decide +kernel)) ggX3_findOrEnlist_X1_codeThatMeans
theorem dX3_findOrEnlist_0 : decode cX3_findOrEnlist 0 = .ok (.aload_n 3, 1) := by decide +kernel
theorem dX3_findOrEnlist_1 : decode cX3_findOrEnlist 1 = .ok (.aload_n 2, 1) := by decide +kernel
theorem dX3_findOrEnlist_2 : decode cX3_findOrEnlist 2 = .ok (.getfield 65, 3) := by decide +kernel
theorem dX3_findOrEnlist_5 : decode cX3_findOrEnlist 5 = .ok (.iload_n 1, 1) := by decide +kernel
theorem dX3_findOrEnlist_6 : decode cX3_findOrEnlist 6 = .ok (.iaload, 1) := by decide +kernel
theorem dX3_findOrEnlist_7 : decode cX3_findOrEnlist 7 = .ok (.invokevirtual 61, 3) := by decide +kernel
theorem dX3_findOrEnlist_10 : decode cX3_findOrEnlist 10 = .ok (.istore 4, 2) := by decide +kernel
theorem dX3_findOrEnlist_12 : decode cX3_findOrEnlist 12 = .ok (.iload 4, 2) := by decide +kernel
theorem dX3_findOrEnlist_14 : decode cX3_findOrEnlist 14 = .ok (.iconst (-1), 1) := by decide +kernel
theorem dX3_findOrEnlist_15 : decode cX3_findOrEnlist 15 = .ok (.if_icmp .ne 33, 3) := by decide +kernel
theorem dX3_findOrEnlist_18 : decode cX3_findOrEnlist 18 = .ok (.aload_n 0, 1) := by decide +kernel
theorem dX3_findOrEnlist_19 : decode cX3_findOrEnlist 19 = .ok (.getfield 41, 3) := by decide +kernel
theorem dX3_findOrEnlist_22 : decode cX3_findOrEnlist 22 = .ok (.sipush 200, 3) := by decide +kernel
theorem dX3_findOrEnlist_25 : decode cX3_findOrEnlist 25 = .ok (.if_icmp .ge 23, 3) := by decide +kernel
theorem dX3_findOrEnlist_28 : decode cX3_findOrEnlist 28 = .ok (.aload_n 0, 1) := by decide +kernel
theorem dX3_findOrEnlist_29 : decode cX3_findOrEnlist 29 = .ok (.getfield 27, 3) := by decide +kernel
theorem dX3_findOrEnlist_32 : decode cX3_findOrEnlist 32 = .ok (.aload_n 0, 1) := by decide +kernel
theorem dX3_findOrEnlist_33 : decode cX3_findOrEnlist 33 = .ok (.getfield 41, 3) := by decide +kernel
theorem dX3_findOrEnlist_36 : decode cX3_findOrEnlist 36 = .ok (.iload_n 1, 1) := by decide +kernel
theorem dX3_findOrEnlist_37 : decode cX3_findOrEnlist 37 = .ok (.iastore, 1) := by decide +kernel
theorem dX3_findOrEnlist_38 : decode cX3_findOrEnlist 38 = .ok (.aload_n 0, 1) := by decide +kernel
theorem dX3_findOrEnlist_39 : decode cX3_findOrEnlist 39 = .ok (.dup, 1) := by decide +kernel
theorem dX3_findOrEnlist_40 : decode cX3_findOrEnlist 40 = .ok (.getfield 41, 3) := by decide +kernel
theorem dX3_findOrEnlist_43 : decode cX3_findOrEnlist 43 = .ok (.iconst 1, 1) := by decide +kernel
theorem dX3_findOrEnlist_44 : decode cX3_findOrEnlist 44 = .ok (.iadd, 1) := by decide +kernel
theorem dX3_findOrEnlist_45 : decode cX3_findOrEnlist 45 = .ok (.putfield 41, 3) := by decide +kernel
theorem dX3_findOrEnlist_48 : decode cX3_findOrEnlist 48 = .ok (.iload 4, 2) := by decide +kernel
theorem dX3_findOrEnlist_50 : decode cX3_findOrEnlist 50 = .ok (.ireturn, 1) := by decide +kernel
set_option maxRecDepth 20000 in
theorem ggX3_alphabetRefusal_X3_isCode : GoodIn wsX3_alphabetRefusal wsX3_isCode := goodIn_r _ [4] (by decide +kernel) (by decide +kernel)
set_option maxRecDepth 20000 in
theorem gX3_alphabetRefusal_X3_isCode : GoodIn wsX3_alphabetRefusal (va_wsS RX3 55 yX3_isCode wsX3_isCode) := goodIn_app (goodIn_of _ (by decide +kernel)) ggX3_alphabetRefusal_X3_isCode
theorem dX3_alphabetRefusal_0 : decode cX3_alphabetRefusal 0 = .ok (.iload_n 1, 1) := by decide +kernel
theorem dX3_alphabetRefusal_1 : decode cX3_alphabetRefusal 1 = .ok (.invokestatic 55, 3) := by decide +kernel
theorem dX3_alphabetRefusal_4 : decode cX3_alphabetRefusal 4 = .ok (.ifCond .eq 10, 3) := by decide +kernel
theorem dX3_alphabetRefusal_7 : decode cX3_alphabetRefusal 7 = .ok (.iload_n 2, 1) := by decide +kernel
theorem dX3_alphabetRefusal_8 : decode cX3_alphabetRefusal 8 = .ok (.invokestatic 55, 3) := by decide +kernel
theorem dX3_alphabetRefusal_11 : decode cX3_alphabetRefusal 11 = .ok (.ifCond .ne 6, 3) := by decide +kernel
theorem dX3_alphabetRefusal_14 : decode cX3_alphabetRefusal 14 = .ok (.bipush (-4), 2) := by decide +kernel
theorem dX3_alphabetRefusal_16 : decode cX3_alphabetRefusal 16 = .ok (.ireturn, 1) := by decide +kernel
theorem dX3_alphabetRefusal_17 : decode cX3_alphabetRefusal 17 = .ok (.iload_n 0, 1) := by decide +kernel
theorem dX3_alphabetRefusal_18 : decode cX3_alphabetRefusal 18 = .ok (.ifCond .eq 7, 3) := by decide +kernel
theorem dX3_alphabetRefusal_21 : decode cX3_alphabetRefusal 21 = .ok (.iconst 0, 1) := by decide +kernel
theorem dX3_alphabetRefusal_22 : decode cX3_alphabetRefusal 22 = .ok (.goto 5, 3) := by decide +kernel
theorem dX3_alphabetRefusal_25 : decode cX3_alphabetRefusal 25 = .ok (.bipush (-5), 2) := by decide +kernel
theorem dX3_alphabetRefusal_27 : decode cX3_alphabetRefusal 27 = .ok (.ireturn, 1) := by decide +kernel
theorem dX3_isGreatLetter_0 : decode cX3_isGreatLetter 0 = .ok (.iload_n 0, 1) := by decide +kernel
theorem dX3_isGreatLetter_1 : decode cX3_isGreatLetter 1 = .ok (.bipush 65, 2) := by decide +kernel
theorem dX3_isGreatLetter_3 : decode cX3_isGreatLetter 3 = .ok (.if_icmp .lt 13, 3) := by decide +kernel
theorem dX3_isGreatLetter_6 : decode cX3_isGreatLetter 6 = .ok (.iload_n 0, 1) := by decide +kernel
theorem dX3_isGreatLetter_7 : decode cX3_isGreatLetter 7 = .ok (.bipush 90, 2) := by decide +kernel
theorem dX3_isGreatLetter_9 : decode cX3_isGreatLetter 9 = .ok (.if_icmp .gt 7, 3) := by decide +kernel
theorem dX3_isGreatLetter_12 : decode cX3_isGreatLetter 12 = .ok (.iconst 1, 1) := by decide +kernel
theorem dX3_isGreatLetter_13 : decode cX3_isGreatLetter 13 = .ok (.goto 4, 3) := by decide +kernel
theorem dX3_isGreatLetter_16 : decode cX3_isGreatLetter 16 = .ok (.iconst 0, 1) := by decide +kernel
theorem dX3_isGreatLetter_17 : decode cX3_isGreatLetter 17 = .ok (.ireturn, 1) := by decide +kernel
theorem dX3_isSmallLetter_0 : decode cX3_isSmallLetter 0 = .ok (.iload_n 0, 1) := by decide +kernel
theorem dX3_isSmallLetter_1 : decode cX3_isSmallLetter 1 = .ok (.bipush 97, 2) := by decide +kernel
theorem dX3_isSmallLetter_3 : decode cX3_isSmallLetter 3 = .ok (.if_icmp .lt 13, 3) := by decide +kernel
theorem dX3_isSmallLetter_6 : decode cX3_isSmallLetter 6 = .ok (.iload_n 0, 1) := by decide +kernel
theorem dX3_isSmallLetter_7 : decode cX3_isSmallLetter 7 = .ok (.bipush 122, 2) := by decide +kernel
theorem dX3_isSmallLetter_9 : decode cX3_isSmallLetter 9 = .ok (.if_icmp .gt 7, 3) := by decide +kernel
theorem dX3_isSmallLetter_12 : decode cX3_isSmallLetter 12 = .ok (.iconst 1, 1) := by decide +kernel
theorem dX3_isSmallLetter_13 : decode cX3_isSmallLetter 13 = .ok (.goto 4, 3) := by decide +kernel
theorem dX3_isSmallLetter_16 : decode cX3_isSmallLetter 16 = .ok (.iconst 0, 1) := by decide +kernel
theorem dX3_isSmallLetter_17 : decode cX3_isSmallLetter 17 = .ok (.ireturn, 1) := by decide +kernel
theorem dX3_hexDigit_0 : decode cX3_hexDigit 0 = .ok (.iload_n 0, 1) := by decide +kernel
theorem dX3_hexDigit_1 : decode cX3_hexDigit 1 = .ok (.bipush 10, 2) := by decide +kernel
theorem dX3_hexDigit_3 : decode cX3_hexDigit 3 = .ok (.if_icmp .ge 10, 3) := by decide +kernel
theorem dX3_hexDigit_6 : decode cX3_hexDigit 6 = .ok (.bipush 48, 2) := by decide +kernel
theorem dX3_hexDigit_8 : decode cX3_hexDigit 8 = .ok (.iload_n 0, 1) := by decide +kernel
theorem dX3_hexDigit_9 : decode cX3_hexDigit 9 = .ok (.iadd, 1) := by decide +kernel
theorem dX3_hexDigit_10 : decode cX3_hexDigit 10 = .ok (.goto 7, 3) := by decide +kernel
theorem dX3_hexDigit_13 : decode cX3_hexDigit 13 = .ok (.bipush 55, 2) := by decide +kernel
theorem dX3_hexDigit_15 : decode cX3_hexDigit 15 = .ok (.iload_n 0, 1) := by decide +kernel
theorem dX3_hexDigit_16 : decode cX3_hexDigit 16 = .ok (.iadd, 1) := by decide +kernel
theorem dX3_hexDigit_17 : decode cX3_hexDigit 17 = .ok (.ireturn, 1) := by decide +kernel
theorem dX3_halfAsSign_0 : decode cX3_halfAsSign 0 = .ok (.iload_n 0, 1) := by decide +kernel
theorem dX3_halfAsSign_1 : decode cX3_halfAsSign 1 = .ok (.tableswitch 45 10 15 #[39, 42, 39, 42, 39, 39], 39) := by decide +kernel
theorem dX3_halfAsSign_40 : decode cX3_halfAsSign 40 = .ok (.bipush 43, 2) := by decide +kernel
theorem dX3_halfAsSign_42 : decode cX3_halfAsSign 42 = .ok (.ireturn, 1) := by decide +kernel
theorem dX3_halfAsSign_43 : decode cX3_halfAsSign 43 = .ok (.bipush 45, 2) := by decide +kernel
theorem dX3_halfAsSign_45 : decode cX3_halfAsSign 45 = .ok (.ireturn, 1) := by decide +kernel
theorem dX3_halfAsSign_46 : decode cX3_halfAsSign 46 = .ok (.bipush 63, 2) := by decide +kernel
theorem dX3_halfAsSign_48 : decode cX3_halfAsSign 48 = .ok (.ireturn, 1) := by decide +kernel
