theorem dX4_init_0 : decode cX4_init 0 = .ok (.aload_n 0, 1) := by decide +kernel
theorem dX4_init_1 : decode cX4_init 1 = .ok (.invokespecial 1, 3) := by decide +kernel
theorem dX4_init_4 : decode cX4_init 4 = .ok (.aload_n 0, 1) := by decide +kernel
theorem dX4_init_5 : decode cX4_init 5 = .ok (.sipush 3072, 3) := by decide +kernel
theorem dX4_init_8 : decode cX4_init 8 = .ok (.newarray .int, 2) := by decide +kernel
theorem dX4_init_10 : decode cX4_init 10 = .ok (.putfield 7, 3) := by decide +kernel
theorem dX4_init_13 : decode cX4_init 13 = .ok (.aload_n 0, 1) := by decide +kernel
theorem dX4_init_14 : decode cX4_init 14 = .ok (.bipush 12, 2) := by decide +kernel
theorem dX4_init_16 : decode cX4_init 16 = .ok (.newarray .int, 2) := by decide +kernel
theorem dX4_init_18 : decode cX4_init 18 = .ok (.putfield 13, 3) := by decide +kernel
theorem dX4_init_21 : decode cX4_init 21 = .ok (.aload_n 0, 1) := by decide +kernel
theorem dX4_init_22 : decode cX4_init 22 = .ok (.bipush 12, 2) := by decide +kernel
theorem dX4_init_24 : decode cX4_init 24 = .ok (.newarray .int, 2) := by decide +kernel
theorem dX4_init_26 : decode cX4_init 26 = .ok (.putfield 16, 3) := by decide +kernel
theorem dX4_init_29 : decode cX4_init 29 = .ok (.aload_n 0, 1) := by decide +kernel
theorem dX4_init_30 : decode cX4_init 30 = .ok (.sipush 3072, 3) := by decide +kernel
theorem dX4_init_33 : decode cX4_init 33 = .ok (.newarray .int, 2) := by decide +kernel
theorem dX4_init_35 : decode cX4_init 35 = .ok (.putfield 19, 3) := by decide +kernel
theorem dX4_init_38 : decode cX4_init 38 = .ok (.aload_n 0, 1) := by decide +kernel
theorem dX4_init_39 : decode cX4_init 39 = .ok (.bipush 12, 2) := by decide +kernel
theorem dX4_init_41 : decode cX4_init 41 = .ok (.newarray .int, 2) := by decide +kernel
theorem dX4_init_43 : decode cX4_init 43 = .ok (.putfield 22, 3) := by decide +kernel
theorem dX4_init_46 : decode cX4_init 46 = .ok (.aload_n 0, 1) := by decide +kernel
theorem dX4_init_47 : decode cX4_init 47 = .ok (.sipush 1600, 3) := by decide +kernel
theorem dX4_init_50 : decode cX4_init 50 = .ok (.newarray .int, 2) := by decide +kernel
theorem dX4_init_52 : decode cX4_init 52 = .ok (.putfield 25, 3) := by decide +kernel
theorem dX4_init_55 : decode cX4_init 55 = .ok (.aload_n 0, 1) := by decide +kernel
theorem dX4_init_56 : decode cX4_init 56 = .ok (.bipush 40, 2) := by decide +kernel
theorem dX4_init_58 : decode cX4_init 58 = .ok (.newarray .int, 2) := by decide +kernel
theorem dX4_init_60 : decode cX4_init 60 = .ok (.putfield 28, 3) := by decide +kernel
theorem dX4_init_63 : decode cX4_init 63 = .ok (.aload_n 0, 1) := by decide +kernel
theorem dX4_init_64 : decode cX4_init 64 = .ok (.sipush 200, 3) := by decide +kernel
theorem dX4_init_67 : decode cX4_init 67 = .ok (.newarray .int, 2) := by decide +kernel
theorem dX4_init_69 : decode cX4_init 69 = .ok (.putfield 31, 3) := by decide +kernel
theorem dX4_init_72 : decode cX4_init 72 = .ok (.return_, 1) := by decide +kernel
theorem dX4_thrown_0 : decode cX4_thrown 0 = .ok (.aload_n 0, 1) := by decide +kernel
theorem dX4_thrown_1 : decode cX4_thrown 1 = .ok (.getfield 34, 3) := by decide +kernel
theorem dX4_thrown_4 : decode cX4_thrown 4 = .ok (.ireturn, 1) := by decide +kernel
theorem dX4_isCode_0 : decode cX4_isCode 0 = .ok (.iload_n 0, 1) := by decide +kernel
theorem dX4_isCode_1 : decode cX4_isCode 1 = .ok (.ifCond .lt 14, 3) := by decide +kernel
theorem dX4_isCode_4 : decode cX4_isCode 4 = .ok (.iload_n 0, 1) := by decide +kernel
theorem dX4_isCode_5 : decode cX4_isCode 5 = .ok (.sipush 256, 3) := by decide +kernel
theorem dX4_isCode_8 : decode cX4_isCode 8 = .ok (.if_icmp .ge 7, 3) := by decide +kernel
theorem dX4_isCode_11 : decode cX4_isCode 11 = .ok (.iconst 1, 1) := by decide +kernel
theorem dX4_isCode_12 : decode cX4_isCode 12 = .ok (.goto 4, 3) := by decide +kernel
theorem dX4_isCode_15 : decode cX4_isCode 15 = .ok (.iconst 0, 1) := by decide +kernel
theorem dX4_isCode_16 : decode cX4_isCode 16 = .ok (.ireturn, 1) := by decide +kernel
theorem dX4_isPage_0 : decode cX4_isPage 0 = .ok (.iload_n 1, 1) := by decide +kernel
theorem dX4_isPage_1 : decode cX4_isPage 1 = .ok (.ifCond .lt 15, 3) := by decide +kernel
theorem dX4_isPage_4 : decode cX4_isPage 4 = .ok (.iload_n 1, 1) := by decide +kernel
theorem dX4_isPage_5 : decode cX4_isPage 5 = .ok (.aload_n 0, 1) := by decide +kernel
theorem dX4_isPage_6 : decode cX4_isPage 6 = .ok (.getfield 38, 3) := by decide +kernel
theorem dX4_isPage_9 : decode cX4_isPage 9 = .ok (.if_icmp .ge 7, 3) := by decide +kernel
theorem dX4_isPage_12 : decode cX4_isPage 12 = .ok (.iconst 1, 1) := by decide +kernel
theorem dX4_isPage_13 : decode cX4_isPage 13 = .ok (.goto 4, 3) := by decide +kernel
theorem dX4_isPage_16 : decode cX4_isPage 16 = .ok (.iconst 0, 1) := by decide +kernel
theorem dX4_isPage_17 : decode cX4_isPage 17 = .ok (.ireturn, 1) := by decide +kernel
theorem dX4_isOrder_0 : decode cX4_isOrder 0 = .ok (.iload_n 1, 1) := by decide +kernel
theorem dX4_isOrder_1 : decode cX4_isOrder 1 = .ok (.ifCond .lt 15, 3) := by decide +kernel
theorem dX4_isOrder_4 : decode cX4_isOrder 4 = .ok (.iload_n 1, 1) := by decide +kernel
theorem dX4_isOrder_5 : decode cX4_isOrder 5 = .ok (.aload_n 0, 1) := by decide +kernel
theorem dX4_isOrder_6 : decode cX4_isOrder 6 = .ok (.getfield 41, 3) := by decide +kernel
theorem dX4_isOrder_9 : decode cX4_isOrder 9 = .ok (.if_icmp .ge 7, 3) := by decide +kernel
theorem dX4_isOrder_12 : decode cX4_isOrder 12 = .ok (.iconst 1, 1) := by decide +kernel
theorem dX4_isOrder_13 : decode cX4_isOrder 13 = .ok (.goto 4, 3) := by decide +kernel
theorem dX4_isOrder_16 : decode cX4_isOrder 16 = .ok (.iconst 0, 1) := by decide +kernel
theorem dX4_isOrder_17 : decode cX4_isOrder 17 = .ok (.ireturn, 1) := by decide +kernel
theorem dX4_isText_0 : decode cX4_isText 0 = .ok (.iload_n 1, 1) := by decide +kernel
theorem dX4_isText_1 : decode cX4_isText 1 = .ok (.ifCond .lt 15, 3) := by decide +kernel
theorem dX4_isText_4 : decode cX4_isText 4 = .ok (.iload_n 1, 1) := by decide +kernel
theorem dX4_isText_5 : decode cX4_isText 5 = .ok (.aload_n 0, 1) := by decide +kernel
theorem dX4_isText_6 : decode cX4_isText 6 = .ok (.getfield 44, 3) := by decide +kernel
theorem dX4_isText_9 : decode cX4_isText 9 = .ok (.if_icmp .ge 7, 3) := by decide +kernel
theorem dX4_isText_12 : decode cX4_isText 12 = .ok (.iconst 1, 1) := by decide +kernel
theorem dX4_isText_13 : decode cX4_isText 13 = .ok (.goto 4, 3) := by decide +kernel
theorem dX4_isText_16 : decode cX4_isText 16 = .ok (.iconst 0, 1) := by decide +kernel
theorem dX4_isText_17 : decode cX4_isText 17 = .ok (.ireturn, 1) := by decide +kernel
theorem dX4_page_0 : decode cX4_page 0 = .ok (.aload_n 0, 1) := by decide +kernel
theorem dX4_page_1 : decode cX4_page 1 = .ok (.iconst 0, 1) := by decide +kernel
theorem dX4_page_2 : decode cX4_page 2 = .ok (.putfield 34, 3) := by decide +kernel
theorem dX4_page_5 : decode cX4_page 5 = .ok (.iload_n 1, 1) := by decide +kernel
theorem dX4_page_6 : decode cX4_page 6 = .ok (.ifCond .lt 8, 3) := by decide +kernel
theorem dX4_page_9 : decode cX4_page 9 = .ok (.iload_n 1, 1) := by decide +kernel
theorem dX4_page_10 : decode cX4_page 10 = .ok (.iconst 2, 1) := by decide +kernel
theorem dX4_page_11 : decode cX4_page 11 = .ok (.if_icmp .le 6, 3) := by decide +kernel
theorem dX4_page_14 : decode cX4_page 14 = .ok (.bipush (-4), 2) := by decide +kernel
theorem dX4_page_16 : decode cX4_page 16 = .ok (.ireturn, 1) := by decide +kernel
theorem dX4_page_17 : decode cX4_page 17 = .ok (.aload_n 0, 1) := by decide +kernel
theorem dX4_page_18 : decode cX4_page 18 = .ok (.getfield 38, 3) := by decide +kernel
theorem dX4_page_21 : decode cX4_page 21 = .ok (.bipush 12, 2) := by decide +kernel
theorem dX4_page_23 : decode cX4_page 23 = .ok (.if_icmp .ne 5, 3) := by decide +kernel
theorem dX4_page_26 : decode cX4_page 26 = .ok (.iconst (-1), 1) := by decide +kernel
theorem dX4_page_27 : decode cX4_page 27 = .ok (.ireturn, 1) := by decide +kernel
theorem dX4_page_28 : decode cX4_page 28 = .ok (.iconst 0, 1) := by decide +kernel
theorem dX4_page_29 : decode cX4_page 29 = .ok (.istore_n 2, 1) := by decide +kernel
theorem dX4_page_30 : decode cX4_page 30 = .ok (.iload_n 2, 1) := by decide +kernel
theorem dX4_page_31 : decode cX4_page 31 = .ok (.sipush 256, 3) := by decide +kernel
theorem dX4_page_34 : decode cX4_page 34 = .ok (.if_icmp .ge 64, 3) := by decide +kernel
theorem dX4_page_37 : decode cX4_page 37 = .ok (.aload_n 0, 1) := by decide +kernel
theorem dX4_page_38 : decode cX4_page 38 = .ok (.getfield 7, 3) := by decide +kernel
theorem dX4_page_41 : decode cX4_page 41 = .ok (.sipush 256, 3) := by decide +kernel
theorem dX4_page_44 : decode cX4_page 44 = .ok (.aload_n 0, 1) := by decide +kernel
theorem dX4_page_45 : decode cX4_page 45 = .ok (.getfield 38, 3) := by decide +kernel
theorem dX4_page_48 : decode cX4_page 48 = .ok (.imul, 1) := by decide +kernel
theorem dX4_page_49 : decode cX4_page 49 = .ok (.iload_n 2, 1) := by decide +kernel
theorem dX4_page_50 : decode cX4_page 50 = .ok (.iadd, 1) := by decide +kernel
theorem dX4_page_51 : decode cX4_page 51 = .ok (.iload_n 1, 1) := by decide +kernel
theorem dX4_page_52 : decode cX4_page 52 = .ok (.ifCond .ne 18, 3) := by decide +kernel
theorem dX4_page_55 : decode cX4_page 55 = .ok (.iload_n 2, 1) := by decide +kernel
theorem dX4_page_56 : decode cX4_page 56 = .ok (.sipush 128, 3) := by decide +kernel
theorem dX4_page_59 : decode cX4_page 59 = .ok (.if_icmp .ge 7, 3) := by decide +kernel
theorem dX4_page_62 : decode cX4_page 62 = .ok (.iload_n 2, 1) := by decide +kernel
theorem dX4_page_63 : decode cX4_page 63 = .ok (.goto 28, 3) := by decide +kernel
theorem dX4_page_66 : decode cX4_page 66 = .ok (.iconst (-1), 1) := by decide +kernel
theorem dX4_page_67 : decode cX4_page 67 = .ok (.goto 24, 3) := by decide +kernel
theorem dX4_page_70 : decode cX4_page 70 = .ok (.iload_n 1, 1) := by decide +kernel
theorem dX4_page_71 : decode cX4_page 71 = .ok (.iconst 1, 1) := by decide +kernel
theorem dX4_page_72 : decode cX4_page 72 = .ok (.if_icmp .ne 18, 3) := by decide +kernel
theorem dX4_page_75 : decode cX4_page 75 = .ok (.sipush 167, 3) := by decide +kernel
theorem dX4_page_78 : decode cX4_page 78 = .ok (.iload_n 2, 1) := by decide +kernel
theorem dX4_page_79 : decode cX4_page 79 = .ok (.imul, 1) := by decide +kernel
theorem dX4_page_80 : decode cX4_page 80 = .ok (.bipush 13, 2) := by decide +kernel
theorem dX4_page_82 : decode cX4_page 82 = .ok (.iadd, 1) := by decide +kernel
theorem dX4_page_83 : decode cX4_page 83 = .ok (.sipush 256, 3) := by decide +kernel
theorem dX4_page_86 : decode cX4_page 86 = .ok (.irem, 1) := by decide +kernel
theorem dX4_page_87 : decode cX4_page 87 = .ok (.goto 4, 3) := by decide +kernel
theorem dX4_page_90 : decode cX4_page 90 = .ok (.iconst (-1), 1) := by decide +kernel
theorem dX4_page_91 : decode cX4_page 91 = .ok (.iastore, 1) := by decide +kernel
theorem dX4_page_92 : decode cX4_page 92 = .ok (.iinc 2 1, 3) := by decide +kernel
theorem dX4_page_95 : decode cX4_page 95 = .ok (.goto (-65), 3) := by decide +kernel
theorem dX4_page_98 : decode cX4_page 98 = .ok (.aload_n 0, 1) := by decide +kernel
theorem dX4_page_99 : decode cX4_page 99 = .ok (.getfield 13, 3) := by decide +kernel
theorem dX4_page_102 : decode cX4_page 102 = .ok (.aload_n 0, 1) := by decide +kernel
theorem dX4_page_103 : decode cX4_page 103 = .ok (.getfield 38, 3) := by decide +kernel
theorem dX4_page_106 : decode cX4_page 106 = .ok (.bipush 63, 2) := by decide +kernel
theorem dX4_page_108 : decode cX4_page 108 = .ok (.iastore, 1) := by decide +kernel
theorem dX4_page_109 : decode cX4_page 109 = .ok (.aload_n 0, 1) := by decide +kernel
theorem dX4_page_110 : decode cX4_page 110 = .ok (.dup, 1) := by decide +kernel
theorem dX4_page_111 : decode cX4_page 111 = .ok (.getfield 38, 3) := by decide +kernel
theorem dX4_page_114 : decode cX4_page 114 = .ok (.iconst 1, 1) := by decide +kernel
theorem dX4_page_115 : decode cX4_page 115 = .ok (.iadd, 1) := by decide +kernel
theorem dX4_page_116 : decode cX4_page 116 = .ok (.putfield 38, 3) := by decide +kernel
theorem dX4_page_119 : decode cX4_page 119 = .ok (.aload_n 0, 1) := by decide +kernel
theorem dX4_page_120 : decode cX4_page 120 = .ok (.getfield 38, 3) := by decide +kernel
theorem dX4_page_123 : decode cX4_page 123 = .ok (.iconst 1, 1) := by decide +kernel
theorem dX4_page_124 : decode cX4_page 124 = .ok (.isub, 1) := by decide +kernel
theorem dX4_page_125 : decode cX4_page 125 = .ok (.ireturn, 1) := by decide +kernel
theorem dX4_codeOf_0 : decode cX4_codeOf 0 = .ok (.iconst (-1), 1) := by decide +kernel
theorem dX4_codeOf_1 : decode cX4_codeOf 1 = .ok (.istore_n 3, 1) := by decide +kernel
theorem dX4_codeOf_2 : decode cX4_codeOf 2 = .ok (.iconst 0, 1) := by decide +kernel
theorem dX4_codeOf_3 : decode cX4_codeOf 3 = .ok (.istore 4, 2) := by decide +kernel
theorem dX4_codeOf_5 : decode cX4_codeOf 5 = .ok (.iload 4, 2) := by decide +kernel
theorem dX4_codeOf_7 : decode cX4_codeOf 7 = .ok (.sipush 256, 3) := by decide +kernel
theorem dX4_codeOf_10 : decode cX4_codeOf 10 = .ok (.if_icmp .ge 33, 3) := by decide +kernel
theorem dX4_codeOf_13 : decode cX4_codeOf 13 = .ok (.aload_n 0, 1) := by decide +kernel
theorem dX4_codeOf_14 : decode cX4_codeOf 14 = .ok (.getfield 7, 3) := by decide +kernel
theorem dX4_codeOf_17 : decode cX4_codeOf 17 = .ok (.sipush 256, 3) := by decide +kernel
theorem dX4_codeOf_20 : decode cX4_codeOf 20 = .ok (.iload_n 1, 1) := by decide +kernel
theorem dX4_codeOf_21 : decode cX4_codeOf 21 = .ok (.imul, 1) := by decide +kernel
theorem dX4_codeOf_22 : decode cX4_codeOf 22 = .ok (.iload 4, 2) := by decide +kernel
theorem dX4_codeOf_24 : decode cX4_codeOf 24 = .ok (.iadd, 1) := by decide +kernel
theorem dX4_codeOf_25 : decode cX4_codeOf 25 = .ok (.iaload, 1) := by decide +kernel
theorem dX4_codeOf_26 : decode cX4_codeOf 26 = .ok (.iload_n 2, 1) := by decide +kernel
theorem dX4_codeOf_27 : decode cX4_codeOf 27 = .ok (.if_icmp .ne 8, 3) := by decide +kernel
theorem dX4_codeOf_30 : decode cX4_codeOf 30 = .ok (.iload 4, 2) := by decide +kernel
theorem dX4_codeOf_32 : decode cX4_codeOf 32 = .ok (.goto 4, 3) := by decide +kernel
theorem dX4_codeOf_35 : decode cX4_codeOf 35 = .ok (.iload_n 3, 1) := by decide +kernel
theorem dX4_codeOf_36 : decode cX4_codeOf 36 = .ok (.istore_n 3, 1) := by decide +kernel
theorem dX4_codeOf_37 : decode cX4_codeOf 37 = .ok (.iinc 4 1, 3) := by decide +kernel
theorem dX4_codeOf_40 : decode cX4_codeOf 40 = .ok (.goto (-35), 3) := by decide +kernel
theorem dX4_codeOf_43 : decode cX4_codeOf 43 = .ok (.iload_n 3, 1) := by decide +kernel
theorem dX4_codeOf_44 : decode cX4_codeOf 44 = .ok (.ireturn, 1) := by decide +kernel
set_option maxRecDepth 20000 in
theorem ggX4_set_X4_isPage : GoodIn wsX4_set wsX4_isPage := goodIn_r _ [8, 9, 17, 18, 19, 20, 21, 22, 23, 24, 25, 26, 27, 28, 29, 30] (by decide +kernel) (by decide +kernel)
set_option maxRecDepth 20000 in
theorem gX4_set_X4_isPage : GoodIn wsX4_set (wsV RX4 47 RX4 yX4_isPage wsX4_isPage) := goodIn_app (goodIn_of _ (by decide +kernel)) ggX4_set_X4_isPage
set_option maxRecDepth 20000 in
theorem ggX4_set_X4_isCode : GoodIn wsX4_set wsX4_isCode := goodIn_r _ [12] (by decide +kernel) (by decide +kernel)
set_option maxRecDepth 20000 in
theorem gX4_set_X4_isCode : GoodIn wsX4_set (va_wsS RX4 51 yX4_isCode wsX4_isCode) := goodIn_app (goodIn_of _ (by decide +kernel)) ggX4_set_X4_isCode
set_option maxRecDepth 20000 in
theorem ggX4_set_X4_codeOf : GoodIn wsX4_set wsX4_codeOf := goodIn_r _ [16, 3, 17, 18, 19, 20, 21, 22, 23, 24, 25, 26, 27, 28, 29, 30] (by decide +kernel) (by decide +kernel)
set_option maxRecDepth 20000 in
theorem gX4_set_X4_codeOf : GoodIn wsX4_set (wsV RX4 55 RX4 yX4_codeOf wsX4_codeOf) := goodIn_app (goodIn_of _ (by decide +kernel)) ggX4_set_X4_codeOf
theorem dX4_set_0 : decode cX4_set 0 = .ok (.aload_n 0, 1) := by decide +kernel
theorem dX4_set_1 : decode cX4_set 1 = .ok (.iconst 0, 1) := by decide +kernel
theorem dX4_set_2 : decode cX4_set 2 = .ok (.putfield 34, 3) := by decide +kernel
theorem dX4_set_5 : decode cX4_set 5 = .ok (.aload_n 0, 1) := by decide +kernel
theorem dX4_set_6 : decode cX4_set 6 = .ok (.iload_n 1, 1) := by decide +kernel
theorem dX4_set_7 : decode cX4_set 7 = .ok (.invokevirtual 47, 3) := by decide +kernel
theorem dX4_set_10 : decode cX4_set 10 = .ok (.ifCond .ne 6, 3) := by decide +kernel
theorem dX4_set_13 : decode cX4_set 13 = .ok (.bipush (-2), 2) := by decide +kernel
theorem dX4_set_15 : decode cX4_set 15 = .ok (.ireturn, 1) := by decide +kernel
theorem dX4_set_16 : decode cX4_set 16 = .ok (.iload_n 2, 1) := by decide +kernel
theorem dX4_set_17 : decode cX4_set 17 = .ok (.invokestatic 51, 3) := by decide +kernel
theorem dX4_set_20 : decode cX4_set 20 = .ok (.ifCond .eq 14, 3) := by decide +kernel
theorem dX4_set_23 : decode cX4_set 23 = .ok (.iload_n 3, 1) := by decide +kernel
theorem dX4_set_24 : decode cX4_set 24 = .ok (.iconst (-1), 1) := by decide +kernel
theorem dX4_set_25 : decode cX4_set 25 = .ok (.if_icmp .lt 9, 3) := by decide +kernel
theorem dX4_set_28 : decode cX4_set 28 = .ok (.iload_n 3, 1) := by decide +kernel
theorem dX4_set_29 : decode cX4_set 29 = .ok (.ldc 54, 2) := by decide +kernel
theorem dX4_set_31 : decode cX4_set 31 = .ok (.if_icmp .le 6, 3) := by decide +kernel
theorem dX4_set_34 : decode cX4_set 34 = .ok (.bipush (-4), 2) := by decide +kernel
theorem dX4_set_36 : decode cX4_set 36 = .ok (.ireturn, 1) := by decide +kernel
theorem dX4_set_37 : decode cX4_set 37 = .ok (.iload_n 3, 1) := by decide +kernel
theorem dX4_set_38 : decode cX4_set 38 = .ok (.iconst (-1), 1) := by decide +kernel
theorem dX4_set_39 : decode cX4_set 39 = .ok (.if_icmp .ne 7, 3) := by decide +kernel
theorem dX4_set_42 : decode cX4_set 42 = .ok (.iconst (-1), 1) := by decide +kernel
theorem dX4_set_43 : decode cX4_set 43 = .ok (.goto 9, 3) := by decide +kernel
theorem dX4_set_46 : decode cX4_set 46 = .ok (.aload_n 0, 1) := by decide +kernel
theorem dX4_set_47 : decode cX4_set 47 = .ok (.iload_n 1, 1) := by decide +kernel
theorem dX4_set_48 : decode cX4_set 48 = .ok (.iload_n 3, 1) := by decide +kernel
theorem dX4_set_49 : decode cX4_set 49 = .ok (.invokevirtual 55, 3) := by decide +kernel
theorem dX4_set_52 : decode cX4_set 52 = .ok (.istore 4, 2) := by decide +kernel
theorem dX4_set_54 : decode cX4_set 54 = .ok (.iload 4, 2) := by decide +kernel
theorem dX4_set_56 : decode cX4_set 56 = .ok (.iconst (-1), 1) := by decide +kernel
theorem dX4_set_57 : decode cX4_set 57 = .ok (.if_icmp .eq 11, 3) := by decide +kernel
theorem dX4_set_60 : decode cX4_set 60 = .ok (.iload 4, 2) := by decide +kernel
theorem dX4_set_62 : decode cX4_set 62 = .ok (.iload_n 2, 1) := by decide +kernel
theorem dX4_set_63 : decode cX4_set 63 = .ok (.if_icmp .eq 5, 3) := by decide +kernel
theorem dX4_set_66 : decode cX4_set 66 = .ok (.iconst 0, 1) := by decide +kernel
theorem dX4_set_67 : decode cX4_set 67 = .ok (.ireturn, 1) := by decide +kernel
theorem dX4_set_68 : decode cX4_set 68 = .ok (.aload_n 0, 1) := by decide +kernel
theorem dX4_set_69 : decode cX4_set 69 = .ok (.getfield 7, 3) := by decide +kernel
theorem dX4_set_72 : decode cX4_set 72 = .ok (.sipush 256, 3) := by decide +kernel
theorem dX4_set_75 : decode cX4_set 75 = .ok (.iload_n 1, 1) := by decide +kernel
theorem dX4_set_76 : decode cX4_set 76 = .ok (.imul, 1) := by decide +kernel
theorem dX4_set_77 : decode cX4_set 77 = .ok (.iload_n 2, 1) := by decide +kernel
theorem dX4_set_78 : decode cX4_set 78 = .ok (.iadd, 1) := by decide +kernel
theorem dX4_set_79 : decode cX4_set 79 = .ok (.iload_n 3, 1) := by decide +kernel
theorem dX4_set_80 : decode cX4_set 80 = .ok (.iastore, 1) := by decide +kernel
theorem dX4_set_81 : decode cX4_set 81 = .ok (.iconst 1, 1) := by decide +kernel
theorem dX4_set_82 : decode cX4_set 82 = .ok (.ireturn, 1) := by decide +kernel
set_option maxRecDepth 20000 in
theorem ggX4_row_X4_isPage : GoodIn wsX4_row wsX4_isPage := goodIn_r _ [7, 8, 12, 13, 14, 15, 16, 17, 18, 19, 20, 21, 22, 23, 24, 25] (by decide +kernel) (by decide +kernel)
set_option maxRecDepth 20000 in
theorem gX4_row_X4_isPage : GoodIn wsX4_row (wsV RX4 47 RX4 yX4_isPage wsX4_isPage) := goodIn_app (goodIn_of _ (by decide +kernel)) ggX4_row_X4_isPage
set_option maxRecDepth 20000 in
theorem ggX4_row_X4_isCode : GoodIn wsX4_row wsX4_isCode := goodIn_r _ [11] (by decide +kernel) (by decide +kernel)
set_option maxRecDepth 20000 in
theorem gX4_row_X4_isCode : GoodIn wsX4_row (va_wsS RX4 51 yX4_isCode wsX4_isCode) := goodIn_app (goodIn_of _ (by decide +kernel)) ggX4_row_X4_isCode
theorem dX4_row_0 : decode cX4_row 0 = .ok (.aload_n 0, 1) := by decide +kernel
theorem dX4_row_1 : decode cX4_row 1 = .ok (.iload_n 1, 1) := by decide +kernel
theorem dX4_row_2 : decode cX4_row 2 = .ok (.invokevirtual 47, 3) := by decide +kernel
theorem dX4_row_5 : decode cX4_row 5 = .ok (.ifCond .eq 14, 3) := by decide +kernel
theorem dX4_row_8 : decode cX4_row 8 = .ok (.iload_n 2, 1) := by decide +kernel
theorem dX4_row_9 : decode cX4_row 9 = .ok (.invokestatic 51, 3) := by decide +kernel
theorem dX4_row_12 : decode cX4_row 12 = .ok (.ifCond .eq 7, 3) := by decide +kernel
theorem dX4_row_15 : decode cX4_row 15 = .ok (.iconst 1, 1) := by decide +kernel
theorem dX4_row_16 : decode cX4_row 16 = .ok (.goto 4, 3) := by decide +kernel
theorem dX4_row_19 : decode cX4_row 19 = .ok (.iconst 0, 1) := by decide +kernel
theorem dX4_row_20 : decode cX4_row 20 = .ok (.istore_n 3, 1) := by decide +kernel
theorem dX4_row_21 : decode cX4_row 21 = .ok (.aload_n 0, 1) := by decide +kernel
theorem dX4_row_22 : decode cX4_row 22 = .ok (.iload_n 3, 1) := by decide +kernel
theorem dX4_row_23 : decode cX4_row 23 = .ok (.ifCond .eq 7, 3) := by decide +kernel
theorem dX4_row_26 : decode cX4_row 26 = .ok (.iconst 0, 1) := by decide +kernel
theorem dX4_row_27 : decode cX4_row 27 = .ok (.goto 4, 3) := by decide +kernel
theorem dX4_row_30 : decode cX4_row 30 = .ok (.iconst 1, 1) := by decide +kernel
theorem dX4_row_31 : decode cX4_row 31 = .ok (.putfield 34, 3) := by decide +kernel
theorem dX4_row_34 : decode cX4_row 34 = .ok (.iload_n 3, 1) := by decide +kernel
theorem dX4_row_35 : decode cX4_row 35 = .ok (.ifCond .eq 18, 3) := by decide +kernel
theorem dX4_row_38 : decode cX4_row 38 = .ok (.aload_n 0, 1) := by decide +kernel
theorem dX4_row_39 : decode cX4_row 39 = .ok (.getfield 7, 3) := by decide +kernel
theorem dX4_row_42 : decode cX4_row 42 = .ok (.sipush 256, 3) := by decide +kernel
theorem dX4_row_45 : decode cX4_row 45 = .ok (.iload_n 1, 1) := by decide +kernel
theorem dX4_row_46 : decode cX4_row 46 = .ok (.imul, 1) := by decide +kernel
theorem dX4_row_47 : decode cX4_row 47 = .ok (.iload_n 2, 1) := by decide +kernel
theorem dX4_row_48 : decode cX4_row 48 = .ok (.iadd, 1) := by decide +kernel
theorem dX4_row_49 : decode cX4_row 49 = .ok (.iaload, 1) := by decide +kernel
theorem dX4_row_50 : decode cX4_row 50 = .ok (.goto 4, 3) := by decide +kernel
theorem dX4_row_53 : decode cX4_row 53 = .ok (.iconst 0, 1) := by decide +kernel
theorem dX4_row_54 : decode cX4_row 54 = .ok (.ireturn, 1) := by decide +kernel
set_option maxRecDepth 20000 in
theorem ggX4_standIn_X4_isPage : GoodIn wsX4_standIn wsX4_isPage := goodIn_r _ [7, 8, 12, 13, 14, 15, 16, 17, 18, 19, 20, 21, 22, 23, 24, 25] (by decide +kernel) (by decide +kernel)
set_option maxRecDepth 20000 in
theorem gX4_standIn_X4_isPage : GoodIn wsX4_standIn (wsV RX4 47 RX4 yX4_isPage wsX4_isPage) := goodIn_app (goodIn_of _ (by decide +kernel)) ggX4_standIn_X4_isPage
set_option maxRecDepth 20000 in
theorem ggX4_standIn_X4_isCode : GoodIn wsX4_standIn wsX4_isCode := goodIn_r _ [11] (by decide +kernel) (by decide +kernel)
set_option maxRecDepth 20000 in
theorem gX4_standIn_X4_isCode : GoodIn wsX4_standIn (va_wsS RX4 51 yX4_isCode wsX4_isCode) := goodIn_app (goodIn_of _ (by decide +kernel)) ggX4_standIn_X4_isCode
theorem dX4_standIn_0 : decode cX4_standIn 0 = .ok (.aload_n 0, 1) := by decide +kernel
theorem dX4_standIn_1 : decode cX4_standIn 1 = .ok (.iconst 0, 1) := by decide +kernel
theorem dX4_standIn_2 : decode cX4_standIn 2 = .ok (.putfield 34, 3) := by decide +kernel
theorem dX4_standIn_5 : decode cX4_standIn 5 = .ok (.aload_n 0, 1) := by decide +kernel
theorem dX4_standIn_6 : decode cX4_standIn 6 = .ok (.iload_n 1, 1) := by decide +kernel
theorem dX4_standIn_7 : decode cX4_standIn 7 = .ok (.invokevirtual 47, 3) := by decide +kernel
theorem dX4_standIn_10 : decode cX4_standIn 10 = .ok (.ifCond .ne 6, 3) := by decide +kernel
theorem dX4_standIn_13 : decode cX4_standIn 13 = .ok (.bipush (-2), 2) := by decide +kernel
theorem dX4_standIn_15 : decode cX4_standIn 15 = .ok (.ireturn, 1) := by decide +kernel
theorem dX4_standIn_16 : decode cX4_standIn 16 = .ok (.iload_n 2, 1) := by decide +kernel
theorem dX4_standIn_17 : decode cX4_standIn 17 = .ok (.invokestatic 51, 3) := by decide +kernel
theorem dX4_standIn_20 : decode cX4_standIn 20 = .ok (.ifCond .ne 6, 3) := by decide +kernel
theorem dX4_standIn_23 : decode cX4_standIn 23 = .ok (.bipush (-4), 2) := by decide +kernel
theorem dX4_standIn_25 : decode cX4_standIn 25 = .ok (.ireturn, 1) := by decide +kernel
theorem dX4_standIn_26 : decode cX4_standIn 26 = .ok (.aload_n 0, 1) := by decide +kernel
theorem dX4_standIn_27 : decode cX4_standIn 27 = .ok (.getfield 13, 3) := by decide +kernel
theorem dX4_standIn_30 : decode cX4_standIn 30 = .ok (.iload_n 1, 1) := by decide +kernel
theorem dX4_standIn_31 : decode cX4_standIn 31 = .ok (.iaload, 1) := by decide +kernel
theorem dX4_standIn_32 : decode cX4_standIn 32 = .ok (.istore_n 3, 1) := by decide +kernel
theorem dX4_standIn_33 : decode cX4_standIn 33 = .ok (.aload_n 0, 1) := by decide +kernel
theorem dX4_standIn_34 : decode cX4_standIn 34 = .ok (.getfield 13, 3) := by decide +kernel
theorem dX4_standIn_37 : decode cX4_standIn 37 = .ok (.iload_n 1, 1) := by decide +kernel
theorem dX4_standIn_38 : decode cX4_standIn 38 = .ok (.iload_n 2, 1) := by decide +kernel
theorem dX4_standIn_39 : decode cX4_standIn 39 = .ok (.iastore, 1) := by decide +kernel
theorem dX4_standIn_40 : decode cX4_standIn 40 = .ok (.iload_n 3, 1) := by decide +kernel
theorem dX4_standIn_41 : decode cX4_standIn 41 = .ok (.ireturn, 1) := by decide +kernel
set_option maxRecDepth 20000 in
theorem ggX4_translated_X4_codeOf : GoodIn wsX4_translated wsX4_codeOf := goodIn_r _ [10, 1, 11, 12, 13, 14, 15, 16, 17, 18, 19, 20, 21, 22, 23, 24] (by decide +kernel) (by decide +kernel)
set_option maxRecDepth 20000 in
theorem gX4_translated_X4_codeOf : GoodIn wsX4_translated (wsV RX4 55 RX4 yX4_codeOf wsX4_codeOf) := goodIn_app (goodIn_of _ (by decide +kernel)) ggX4_translated_X4_codeOf
theorem dX4_translated_0 : decode cX4_translated 0 = .ok (.aload_n 0, 1) := by decide +kernel
theorem dX4_translated_1 : decode cX4_translated 1 = .ok (.getfield 7, 3) := by decide +kernel
theorem dX4_translated_4 : decode cX4_translated 4 = .ok (.sipush 256, 3) := by decide +kernel
theorem dX4_translated_7 : decode cX4_translated 7 = .ok (.iload_n 2, 1) := by decide +kernel
theorem dX4_translated_8 : decode cX4_translated 8 = .ok (.imul, 1) := by decide +kernel
theorem dX4_translated_9 : decode cX4_translated 9 = .ok (.iload_n 1, 1) := by decide +kernel
theorem dX4_translated_10 : decode cX4_translated 10 = .ok (.iadd, 1) := by decide +kernel
theorem dX4_translated_11 : decode cX4_translated 11 = .ok (.iaload, 1) := by decide +kernel
theorem dX4_translated_12 : decode cX4_translated 12 = .ok (.istore 4, 2) := by decide +kernel
theorem dX4_translated_14 : decode cX4_translated 14 = .ok (.iload 4, 2) := by decide +kernel
theorem dX4_translated_16 : decode cX4_translated 16 = .ok (.iconst (-1), 1) := by decide +kernel
theorem dX4_translated_17 : decode cX4_translated 17 = .ok (.if_icmp .ne 7, 3) := by decide +kernel
theorem dX4_translated_20 : decode cX4_translated 20 = .ok (.iconst (-1), 1) := by decide +kernel
theorem dX4_translated_21 : decode cX4_translated 21 = .ok (.goto 10, 3) := by decide +kernel
theorem dX4_translated_24 : decode cX4_translated 24 = .ok (.aload_n 0, 1) := by decide +kernel
theorem dX4_translated_25 : decode cX4_translated 25 = .ok (.iload_n 3, 1) := by decide +kernel
theorem dX4_translated_26 : decode cX4_translated 26 = .ok (.iload 4, 2) := by decide +kernel
theorem dX4_translated_28 : decode cX4_translated 28 = .ok (.invokevirtual 55, 3) := by decide +kernel
theorem dX4_translated_31 : decode cX4_translated 31 = .ok (.istore 5, 2) := by decide +kernel
theorem dX4_translated_33 : decode cX4_translated 33 = .ok (.iload 5, 2) := by decide +kernel
theorem dX4_translated_35 : decode cX4_translated 35 = .ok (.iconst (-1), 1) := by decide +kernel
theorem dX4_translated_36 : decode cX4_translated 36 = .ok (.if_icmp .eq 6, 3) := by decide +kernel
theorem dX4_translated_39 : decode cX4_translated 39 = .ok (.iload 5, 2) := by decide +kernel
theorem dX4_translated_41 : decode cX4_translated 41 = .ok (.ireturn, 1) := by decide +kernel
theorem dX4_translated_42 : decode cX4_translated 42 = .ok (.aload_n 0, 1) := by decide +kernel
theorem dX4_translated_43 : decode cX4_translated 43 = .ok (.getfield 59, 3) := by decide +kernel
theorem dX4_translated_46 : decode cX4_translated 46 = .ok (.sipush 200, 3) := by decide +kernel
theorem dX4_translated_49 : decode cX4_translated 49 = .ok (.if_icmp .ge 23, 3) := by decide +kernel
theorem dX4_translated_52 : decode cX4_translated 52 = .ok (.aload_n 0, 1) := by decide +kernel
theorem dX4_translated_53 : decode cX4_translated 53 = .ok (.getfield 31, 3) := by decide +kernel
theorem dX4_translated_56 : decode cX4_translated 56 = .ok (.aload_n 0, 1) := by decide +kernel
theorem dX4_translated_57 : decode cX4_translated 57 = .ok (.getfield 59, 3) := by decide +kernel
theorem dX4_translated_60 : decode cX4_translated 60 = .ok (.iload_n 1, 1) := by decide +kernel
theorem dX4_translated_61 : decode cX4_translated 61 = .ok (.iastore, 1) := by decide +kernel
theorem dX4_translated_62 : decode cX4_translated 62 = .ok (.aload_n 0, 1) := by decide +kernel
theorem dX4_translated_63 : decode cX4_translated 63 = .ok (.dup, 1) := by decide +kernel
theorem dX4_translated_64 : decode cX4_translated 64 = .ok (.getfield 59, 3) := by decide +kernel
theorem dX4_translated_67 : decode cX4_translated 67 = .ok (.iconst 1, 1) := by decide +kernel
theorem dX4_translated_68 : decode cX4_translated 68 = .ok (.iadd, 1) := by decide +kernel
theorem dX4_translated_69 : decode cX4_translated 69 = .ok (.putfield 59, 3) := by decide +kernel
theorem dX4_translated_72 : decode cX4_translated 72 = .ok (.aload_n 0, 1) := by decide +kernel
theorem dX4_translated_73 : decode cX4_translated 73 = .ok (.dup, 1) := by decide +kernel
theorem dX4_translated_74 : decode cX4_translated 74 = .ok (.getfield 62, 3) := by decide +kernel
theorem dX4_translated_77 : decode cX4_translated 77 = .ok (.iconst 1, 1) := by decide +kernel
theorem dX4_translated_78 : decode cX4_translated 78 = .ok (.iadd, 1) := by decide +kernel
theorem dX4_translated_79 : decode cX4_translated 79 = .ok (.putfield 62, 3) := by decide +kernel
theorem dX4_translated_82 : decode cX4_translated 82 = .ok (.aload_n 0, 1) := by decide +kernel
theorem dX4_translated_83 : decode cX4_translated 83 = .ok (.getfield 13, 3) := by decide +kernel
theorem dX4_translated_86 : decode cX4_translated 86 = .ok (.iload_n 3, 1) := by decide +kernel
theorem dX4_translated_87 : decode cX4_translated 87 = .ok (.iaload, 1) := by decide +kernel
theorem dX4_translated_88 : decode cX4_translated 88 = .ok (.ireturn, 1) := by decide +kernel
set_option maxRecDepth 20000 in
theorem ggX4_translate_X4_isPage : GoodIn wsX4_translate wsX4_isPage := goodIn_r _ [6, 7, 24, 25, 26, 27, 28, 29, 30, 31, 32, 33, 34, 35, 36, 37] (by decide +kernel) (by decide +kernel)
set_option maxRecDepth 20000 in
theorem gX4_translate_X4_isPage : GoodIn wsX4_translate (wsV RX4 47 RX4 yX4_isPage wsX4_isPage) := goodIn_app (goodIn_of _ (by decide +kernel)) ggX4_translate_X4_isPage
set_option maxRecDepth 20000 in
theorem ggX4_translate_X4_isCode : GoodIn wsX4_translate wsX4_isCode := goodIn_r _ [10] (by decide +kernel) (by decide +kernel)
set_option maxRecDepth 20000 in
theorem gX4_translate_X4_isCode : GoodIn wsX4_translate (va_wsS RX4 51 yX4_isCode wsX4_isCode) := goodIn_app (goodIn_of _ (by decide +kernel)) ggX4_translate_X4_isCode
set_option maxRecDepth 20000 in
theorem ggX4_translate_X4_translated : GoodIn wsX4_translate wsX4_translated := goodIn_r _ [14, 15, 16, 17, 18, 19, 20, 21, 22, 5, 23, 24, 25, 26, 27, 28, 29, 30, 31, 32, 33, 34, 35, 36, 37] (by decide +kernel) (by decide +kernel)
set_option maxRecDepth 20000 in
theorem gX4_translate_X4_translated : GoodIn wsX4_translate (wsV RX4 65 RX4 yX4_translated wsX4_translated) := goodIn_app (goodIn_of _ (by decide +kernel)) ggX4_translate_X4_translated
theorem dX4_translate_0 : decode cX4_translate 0 = .ok (.aload_n 0, 1) := by decide +kernel
theorem dX4_translate_1 : decode cX4_translate 1 = .ok (.iconst 0, 1) := by decide +kernel
theorem dX4_translate_2 : decode cX4_translate 2 = .ok (.putfield 34, 3) := by decide +kernel
theorem dX4_translate_5 : decode cX4_translate 5 = .ok (.aload_n 0, 1) := by decide +kernel
theorem dX4_translate_6 : decode cX4_translate 6 = .ok (.iload_n 2, 1) := by decide +kernel
theorem dX4_translate_7 : decode cX4_translate 7 = .ok (.invokevirtual 47, 3) := by decide +kernel
theorem dX4_translate_10 : decode cX4_translate 10 = .ok (.ifCond .eq 11, 3) := by decide +kernel
theorem dX4_translate_13 : decode cX4_translate 13 = .ok (.aload_n 0, 1) := by decide +kernel
theorem dX4_translate_14 : decode cX4_translate 14 = .ok (.iload_n 3, 1) := by decide +kernel
theorem dX4_translate_15 : decode cX4_translate 15 = .ok (.invokevirtual 47, 3) := by decide +kernel
theorem dX4_translate_18 : decode cX4_translate 18 = .ok (.ifCond .ne 6, 3) := by decide +kernel
theorem dX4_translate_21 : decode cX4_translate 21 = .ok (.bipush (-2), 2) := by decide +kernel
theorem dX4_translate_23 : decode cX4_translate 23 = .ok (.ireturn, 1) := by decide +kernel
theorem dX4_translate_24 : decode cX4_translate 24 = .ok (.iload_n 1, 1) := by decide +kernel
theorem dX4_translate_25 : decode cX4_translate 25 = .ok (.invokestatic 51, 3) := by decide +kernel
theorem dX4_translate_28 : decode cX4_translate 28 = .ok (.ifCond .eq 13, 3) := by decide +kernel
theorem dX4_translate_31 : decode cX4_translate 31 = .ok (.aload_n 0, 1) := by decide +kernel
theorem dX4_translate_32 : decode cX4_translate 32 = .ok (.iload_n 1, 1) := by decide +kernel
theorem dX4_translate_33 : decode cX4_translate 33 = .ok (.iload_n 2, 1) := by decide +kernel
theorem dX4_translate_34 : decode cX4_translate 34 = .ok (.iload_n 3, 1) := by decide +kernel
theorem dX4_translate_35 : decode cX4_translate 35 = .ok (.invokevirtual 65, 3) := by decide +kernel
theorem dX4_translate_38 : decode cX4_translate 38 = .ok (.goto 5, 3) := by decide +kernel
theorem dX4_translate_41 : decode cX4_translate 41 = .ok (.bipush (-4), 2) := by decide +kernel
theorem dX4_translate_43 : decode cX4_translate 43 = .ok (.ireturn, 1) := by decide +kernel
theorem dX4_told_0 : decode cX4_told 0 = .ok (.aload_n 0, 1) := by decide +kernel
theorem dX4_told_1 : decode cX4_told 1 = .ok (.iconst 0, 1) := by decide +kernel
theorem dX4_told_2 : decode cX4_told 2 = .ok (.putfield 34, 3) := by decide +kernel
theorem dX4_told_5 : decode cX4_told 5 = .ok (.iload_n 1, 1) := by decide +kernel
theorem dX4_told_6 : decode cX4_told 6 = .ok (.ifCond .lt 20, 3) := by decide +kernel
theorem dX4_told_9 : decode cX4_told 9 = .ok (.iload_n 1, 1) := by decide +kernel
theorem dX4_told_10 : decode cX4_told 10 = .ok (.aload_n 0, 1) := by decide +kernel
theorem dX4_told_11 : decode cX4_told 11 = .ok (.getfield 59, 3) := by decide +kernel
theorem dX4_told_14 : decode cX4_told 14 = .ok (.if_icmp .ge 12, 3) := by decide +kernel
theorem dX4_told_17 : decode cX4_told 17 = .ok (.aload_n 0, 1) := by decide +kernel
theorem dX4_told_18 : decode cX4_told 18 = .ok (.getfield 31, 3) := by decide +kernel
theorem dX4_told_21 : decode cX4_told 21 = .ok (.iload_n 1, 1) := by decide +kernel
theorem dX4_told_22 : decode cX4_told 22 = .ok (.iaload, 1) := by decide +kernel
theorem dX4_told_23 : decode cX4_told 23 = .ok (.goto 4, 3) := by decide +kernel
theorem dX4_told_26 : decode cX4_told 26 = .ok (.iconst (-1), 1) := by decide +kernel
theorem dX4_told_27 : decode cX4_told 27 = .ok (.ireturn, 1) := by decide +kernel
set_option maxRecDepth 20000 in
theorem ggX4_order_X4_meant : GoodIn wsX4_order wsX4_meant := goodIn_r _ [10, 11, 12, 13, 14, 15, 16, 17, 18, 19, 20, 21, 22, 23, 24, 25, 26] (by decide +kernel) (by decide +kernel)
set_option maxRecDepth 20000 in
theorem gX4_order_X4_meant : GoodIn wsX4_order (wsV RX4 69 RX4 yX4_meant wsX4_meant) := goodIn_app (goodIn_of _ (by decide +kernel)) ggX4_order_X4_meant
theorem dX4_order_0 : decode cX4_order 0 = .ok (.aload_n 0, 1) := by decide +kernel
theorem dX4_order_1 : decode cX4_order 1 = .ok (.iconst 0, 1) := by decide +kernel
theorem dX4_order_2 : decode cX4_order 2 = .ok (.putfield 34, 3) := by decide +kernel
theorem dX4_order_5 : decode cX4_order 5 = .ok (.iload_n 1, 1) := by decide +kernel
theorem dX4_order_6 : decode cX4_order 6 = .ok (.ifCond .lt 8, 3) := by decide +kernel
theorem dX4_order_9 : decode cX4_order 9 = .ok (.iload_n 1, 1) := by decide +kernel
theorem dX4_order_10 : decode cX4_order 10 = .ok (.iconst 2, 1) := by decide +kernel
theorem dX4_order_11 : decode cX4_order 11 = .ok (.if_icmp .le 6, 3) := by decide +kernel
theorem dX4_order_14 : decode cX4_order 14 = .ok (.bipush (-4), 2) := by decide +kernel
theorem dX4_order_16 : decode cX4_order 16 = .ok (.ireturn, 1) := by decide +kernel
theorem dX4_order_17 : decode cX4_order 17 = .ok (.aload_n 0, 1) := by decide +kernel
theorem dX4_order_18 : decode cX4_order 18 = .ok (.getfield 41, 3) := by decide +kernel
theorem dX4_order_21 : decode cX4_order 21 = .ok (.bipush 12, 2) := by decide +kernel
theorem dX4_order_23 : decode cX4_order 23 = .ok (.if_icmp .ne 5, 3) := by decide +kernel
theorem dX4_order_26 : decode cX4_order 26 = .ok (.iconst (-1), 1) := by decide +kernel
theorem dX4_order_27 : decode cX4_order 27 = .ok (.ireturn, 1) := by decide +kernel
theorem dX4_order_28 : decode cX4_order 28 = .ok (.aload_n 0, 1) := by decide +kernel
theorem dX4_order_29 : decode cX4_order 29 = .ok (.getfield 16, 3) := by decide +kernel
theorem dX4_order_32 : decode cX4_order 32 = .ok (.aload_n 0, 1) := by decide +kernel
theorem dX4_order_33 : decode cX4_order 33 = .ok (.getfield 41, 3) := by decide +kernel
theorem dX4_order_36 : decode cX4_order 36 = .ok (.iload_n 1, 1) := by decide +kernel
theorem dX4_order_37 : decode cX4_order 37 = .ok (.iastore, 1) := by decide +kernel
theorem dX4_order_38 : decode cX4_order 38 = .ok (.aload_n 0, 1) := by decide +kernel
theorem dX4_order_39 : decode cX4_order 39 = .ok (.getfield 22, 3) := by decide +kernel
theorem dX4_order_42 : decode cX4_order 42 = .ok (.aload_n 0, 1) := by decide +kernel
theorem dX4_order_43 : decode cX4_order 43 = .ok (.getfield 41, 3) := by decide +kernel
theorem dX4_order_46 : decode cX4_order 46 = .ok (.iconst 0, 1) := by decide +kernel
theorem dX4_order_47 : decode cX4_order 47 = .ok (.iastore, 1) := by decide +kernel
theorem dX4_order_48 : decode cX4_order 48 = .ok (.iconst 0, 1) := by decide +kernel
theorem dX4_order_49 : decode cX4_order 49 = .ok (.istore_n 2, 1) := by decide +kernel
theorem dX4_order_50 : decode cX4_order 50 = .ok (.iload_n 2, 1) := by decide +kernel
theorem dX4_order_51 : decode cX4_order 51 = .ok (.sipush 256, 3) := by decide +kernel
theorem dX4_order_54 : decode cX4_order 54 = .ok (.if_icmp .ge 46, 3) := by decide +kernel
theorem dX4_order_57 : decode cX4_order 57 = .ok (.aload_n 0, 1) := by decide +kernel
theorem dX4_order_58 : decode cX4_order 58 = .ok (.getfield 19, 3) := by decide +kernel
theorem dX4_order_61 : decode cX4_order 61 = .ok (.sipush 256, 3) := by decide +kernel
theorem dX4_order_64 : decode cX4_order 64 = .ok (.aload_n 0, 1) := by decide +kernel
theorem dX4_order_65 : decode cX4_order 65 = .ok (.getfield 41, 3) := by decide +kernel
theorem dX4_order_68 : decode cX4_order 68 = .ok (.imul, 1) := by decide +kernel
theorem dX4_order_69 : decode cX4_order 69 = .ok (.iload_n 2, 1) := by decide +kernel
theorem dX4_order_70 : decode cX4_order 70 = .ok (.iadd, 1) := by decide +kernel
theorem dX4_order_71 : decode cX4_order 71 = .ok (.iload_n 1, 1) := by decide +kernel
theorem dX4_order_72 : decode cX4_order 72 = .ok (.iconst 2, 1) := by decide +kernel
theorem dX4_order_73 : decode cX4_order 73 = .ok (.if_icmp .ne 7, 3) := by decide +kernel
theorem dX4_order_76 : decode cX4_order 76 = .ok (.iconst (-1), 1) := by decide +kernel
theorem dX4_order_77 : decode cX4_order 77 = .ok (.goto 16, 3) := by decide +kernel
theorem dX4_order_80 : decode cX4_order 80 = .ok (.iload_n 1, 1) := by decide +kernel
theorem dX4_order_81 : decode cX4_order 81 = .ok (.ifCond .ne 7, 3) := by decide +kernel
theorem dX4_order_84 : decode cX4_order 84 = .ok (.iload_n 2, 1) := by decide +kernel
theorem dX4_order_85 : decode cX4_order 85 = .ok (.goto 8, 3) := by decide +kernel
theorem dX4_order_88 : decode cX4_order 88 = .ok (.aload_n 0, 1) := by decide +kernel
theorem dX4_order_89 : decode cX4_order 89 = .ok (.iload_n 2, 1) := by decide +kernel
theorem dX4_order_90 : decode cX4_order 90 = .ok (.invokevirtual 69, 3) := by decide +kernel
theorem dX4_order_93 : decode cX4_order 93 = .ok (.iastore, 1) := by decide +kernel
theorem dX4_order_94 : decode cX4_order 94 = .ok (.iinc 2 1, 3) := by decide +kernel
theorem dX4_order_97 : decode cX4_order 97 = .ok (.goto (-47), 3) := by decide +kernel
theorem dX4_order_100 : decode cX4_order 100 = .ok (.aload_n 0, 1) := by decide +kernel
theorem dX4_order_101 : decode cX4_order 101 = .ok (.dup, 1) := by decide +kernel
theorem dX4_order_102 : decode cX4_order 102 = .ok (.getfield 41, 3) := by decide +kernel
theorem dX4_order_105 : decode cX4_order 105 = .ok (.iconst 1, 1) := by decide +kernel
theorem dX4_order_106 : decode cX4_order 106 = .ok (.iadd, 1) := by decide +kernel
theorem dX4_order_107 : decode cX4_order 107 = .ok (.putfield 41, 3) := by decide +kernel
theorem dX4_order_110 : decode cX4_order 110 = .ok (.aload_n 0, 1) := by decide +kernel
theorem dX4_order_111 : decode cX4_order 111 = .ok (.getfield 41, 3) := by decide +kernel
theorem dX4_order_114 : decode cX4_order 114 = .ok (.iconst 1, 1) := by decide +kernel
theorem dX4_order_115 : decode cX4_order 115 = .ok (.isub, 1) := by decide +kernel
theorem dX4_order_116 : decode cX4_order 116 = .ok (.ireturn, 1) := by decide +kernel
theorem dX4_meant_0 : decode cX4_meant 0 = .ok (.aload_n 0, 1) := by decide +kernel
theorem dX4_meant_1 : decode cX4_meant 1 = .ok (.getfield 38, 3) := by decide +kernel
theorem dX4_meant_4 : decode cX4_meant 4 = .ok (.ifCond .ne 5, 3) := by decide +kernel
theorem dX4_meant_7 : decode cX4_meant 7 = .ok (.iload_n 1, 1) := by decide +kernel
theorem dX4_meant_8 : decode cX4_meant 8 = .ok (.ireturn, 1) := by decide +kernel
theorem dX4_meant_9 : decode cX4_meant 9 = .ok (.iconst 0, 1) := by decide +kernel
theorem dX4_meant_10 : decode cX4_meant 10 = .ok (.istore_n 2, 1) := by decide +kernel
theorem dX4_meant_11 : decode cX4_meant 11 = .ok (.iconst 0, 1) := by decide +kernel
theorem dX4_meant_12 : decode cX4_meant 12 = .ok (.istore_n 3, 1) := by decide +kernel
theorem dX4_meant_13 : decode cX4_meant 13 = .ok (.iload_n 3, 1) := by decide +kernel
theorem dX4_meant_14 : decode cX4_meant 14 = .ok (.sipush 256, 3) := by decide +kernel
theorem dX4_meant_17 : decode cX4_meant 17 = .ok (.if_icmp .ge 87, 3) := by decide +kernel
theorem dX4_meant_20 : decode cX4_meant 20 = .ok (.aload_n 0, 1) := by decide +kernel
theorem dX4_meant_21 : decode cX4_meant 21 = .ok (.getfield 7, 3) := by decide +kernel
theorem dX4_meant_24 : decode cX4_meant 24 = .ok (.iload_n 3, 1) := by decide +kernel
theorem dX4_meant_25 : decode cX4_meant 25 = .ok (.iaload, 1) := by decide +kernel
theorem dX4_meant_26 : decode cX4_meant 26 = .ok (.iconst (-1), 1) := by decide +kernel
theorem dX4_meant_27 : decode cX4_meant 27 = .ok (.if_icmp .ne 26, 3) := by decide +kernel
theorem dX4_meant_30 : decode cX4_meant 30 = .ok (.aload_n 0, 1) := by decide +kernel
theorem dX4_meant_31 : decode cX4_meant 31 = .ok (.getfield 7, 3) := by decide +kernel
theorem dX4_meant_34 : decode cX4_meant 34 = .ok (.iload_n 1, 1) := by decide +kernel
theorem dX4_meant_35 : decode cX4_meant 35 = .ok (.iaload, 1) := by decide +kernel
theorem dX4_meant_36 : decode cX4_meant 36 = .ok (.iconst (-1), 1) := by decide +kernel
theorem dX4_meant_37 : decode cX4_meant 37 = .ok (.if_icmp .ne 12, 3) := by decide +kernel
theorem dX4_meant_40 : decode cX4_meant 40 = .ok (.iload_n 3, 1) := by decide +kernel
theorem dX4_meant_41 : decode cX4_meant 41 = .ok (.iload_n 1, 1) := by decide +kernel
theorem dX4_meant_42 : decode cX4_meant 42 = .ok (.if_icmp .ge 7, 3) := by decide +kernel
theorem dX4_meant_45 : decode cX4_meant 45 = .ok (.iconst 1, 1) := by decide +kernel
theorem dX4_meant_46 : decode cX4_meant 46 = .ok (.goto 37, 3) := by decide +kernel
theorem dX4_meant_49 : decode cX4_meant 49 = .ok (.iconst 0, 1) := by decide +kernel
theorem dX4_meant_50 : decode cX4_meant 50 = .ok (.goto 33, 3) := by decide +kernel
theorem dX4_meant_53 : decode cX4_meant 53 = .ok (.aload_n 0, 1) := by decide +kernel
theorem dX4_meant_54 : decode cX4_meant 54 = .ok (.getfield 7, 3) := by decide +kernel
theorem dX4_meant_57 : decode cX4_meant 57 = .ok (.iload_n 1, 1) := by decide +kernel
theorem dX4_meant_58 : decode cX4_meant 58 = .ok (.iaload, 1) := by decide +kernel
theorem dX4_meant_59 : decode cX4_meant 59 = .ok (.iconst (-1), 1) := by decide +kernel
theorem dX4_meant_60 : decode cX4_meant 60 = .ok (.if_icmp .eq 18, 3) := by decide +kernel
theorem dX4_meant_63 : decode cX4_meant 63 = .ok (.aload_n 0, 1) := by decide +kernel
theorem dX4_meant_64 : decode cX4_meant 64 = .ok (.getfield 7, 3) := by decide +kernel
theorem dX4_meant_67 : decode cX4_meant 67 = .ok (.iload_n 3, 1) := by decide +kernel
theorem dX4_meant_68 : decode cX4_meant 68 = .ok (.iaload, 1) := by decide +kernel
theorem dX4_meant_69 : decode cX4_meant 69 = .ok (.aload_n 0, 1) := by decide +kernel
theorem dX4_meant_70 : decode cX4_meant 70 = .ok (.getfield 7, 3) := by decide +kernel
theorem dX4_meant_73 : decode cX4_meant 73 = .ok (.iload_n 1, 1) := by decide +kernel
theorem dX4_meant_74 : decode cX4_meant 74 = .ok (.iaload, 1) := by decide +kernel
theorem dX4_meant_75 : decode cX4_meant 75 = .ok (.if_icmp .ge 7, 3) := by decide +kernel
theorem dX4_meant_78 : decode cX4_meant 78 = .ok (.iconst 1, 1) := by decide +kernel
theorem dX4_meant_79 : decode cX4_meant 79 = .ok (.goto 4, 3) := by decide +kernel
theorem dX4_meant_82 : decode cX4_meant 82 = .ok (.iconst 0, 1) := by decide +kernel
theorem dX4_meant_83 : decode cX4_meant 83 = .ok (.istore 4, 2) := by decide +kernel
theorem dX4_meant_85 : decode cX4_meant 85 = .ok (.iload_n 2, 1) := by decide +kernel
theorem dX4_meant_86 : decode cX4_meant 86 = .ok (.iload 4, 2) := by decide +kernel
theorem dX4_meant_88 : decode cX4_meant 88 = .ok (.ifCond .eq 7, 3) := by decide +kernel
theorem dX4_meant_91 : decode cX4_meant 91 = .ok (.iconst 1, 1) := by decide +kernel
theorem dX4_meant_92 : decode cX4_meant 92 = .ok (.goto 4, 3) := by decide +kernel
theorem dX4_meant_95 : decode cX4_meant 95 = .ok (.iconst 0, 1) := by decide +kernel
theorem dX4_meant_96 : decode cX4_meant 96 = .ok (.iadd, 1) := by decide +kernel
theorem dX4_meant_97 : decode cX4_meant 97 = .ok (.istore_n 2, 1) := by decide +kernel
theorem dX4_meant_98 : decode cX4_meant 98 = .ok (.iinc 3 1, 3) := by decide +kernel
theorem dX4_meant_101 : decode cX4_meant 101 = .ok (.goto (-88), 3) := by decide +kernel
theorem dX4_meant_104 : decode cX4_meant 104 = .ok (.iload_n 2, 1) := by decide +kernel
theorem dX4_meant_105 : decode cX4_meant 105 = .ok (.ireturn, 1) := by decide +kernel
theorem dX4_rankOf_0 : decode cX4_rankOf 0 = .ok (.aload_n 0, 1) := by decide +kernel
theorem dX4_rankOf_1 : decode cX4_rankOf 1 = .ok (.getfield 19, 3) := by decide +kernel
theorem dX4_rankOf_4 : decode cX4_rankOf 4 = .ok (.sipush 256, 3) := by decide +kernel
theorem dX4_rankOf_7 : decode cX4_rankOf 7 = .ok (.iload_n 1, 1) := by decide +kernel
theorem dX4_rankOf_8 : decode cX4_rankOf 8 = .ok (.imul, 1) := by decide +kernel
theorem dX4_rankOf_9 : decode cX4_rankOf 9 = .ok (.iload_n 2, 1) := by decide +kernel
theorem dX4_rankOf_10 : decode cX4_rankOf 10 = .ok (.iadd, 1) := by decide +kernel
theorem dX4_rankOf_11 : decode cX4_rankOf 11 = .ok (.iaload, 1) := by decide +kernel
theorem dX4_rankOf_12 : decode cX4_rankOf 12 = .ok (.istore_n 3, 1) := by decide +kernel
theorem dX4_rankOf_13 : decode cX4_rankOf 13 = .ok (.aload_n 0, 1) := by decide +kernel
theorem dX4_rankOf_14 : decode cX4_rankOf 14 = .ok (.getfield 16, 3) := by decide +kernel
theorem dX4_rankOf_17 : decode cX4_rankOf 17 = .ok (.iload_n 1, 1) := by decide +kernel
theorem dX4_rankOf_18 : decode cX4_rankOf 18 = .ok (.iaload, 1) := by decide +kernel
theorem dX4_rankOf_19 : decode cX4_rankOf 19 = .ok (.iconst 2, 1) := by decide +kernel
theorem dX4_rankOf_20 : decode cX4_rankOf 20 = .ok (.if_icmp .ne 8, 3) := by decide +kernel
theorem dX4_rankOf_23 : decode cX4_rankOf 23 = .ok (.iload_n 3, 1) := by decide +kernel
theorem dX4_rankOf_24 : decode cX4_rankOf 24 = .ok (.iconst (-1), 1) := by decide +kernel
theorem dX4_rankOf_25 : decode cX4_rankOf 25 = .ok (.if_icmp .eq 5, 3) := by decide +kernel
theorem dX4_rankOf_28 : decode cX4_rankOf 28 = .ok (.iload_n 3, 1) := by decide +kernel
theorem dX4_rankOf_29 : decode cX4_rankOf 29 = .ok (.ireturn, 1) := by decide +kernel
theorem dX4_rankOf_30 : decode cX4_rankOf 30 = .ok (.aload_n 0, 1) := by decide +kernel
theorem dX4_rankOf_31 : decode cX4_rankOf 31 = .ok (.getfield 22, 3) := by decide +kernel
theorem dX4_rankOf_34 : decode cX4_rankOf 34 = .ok (.iload_n 1, 1) := by decide +kernel
theorem dX4_rankOf_35 : decode cX4_rankOf 35 = .ok (.iaload, 1) := by decide +kernel
theorem dX4_rankOf_36 : decode cX4_rankOf 36 = .ok (.istore 4, 2) := by decide +kernel
theorem dX4_rankOf_38 : decode cX4_rankOf 38 = .ok (.iconst 0, 1) := by decide +kernel
theorem dX4_rankOf_39 : decode cX4_rankOf 39 = .ok (.istore 5, 2) := by decide +kernel
theorem dX4_rankOf_41 : decode cX4_rankOf 41 = .ok (.iload 5, 2) := by decide +kernel
theorem dX4_rankOf_43 : decode cX4_rankOf 43 = .ok (.iload_n 2, 1) := by decide +kernel
theorem dX4_rankOf_44 : decode cX4_rankOf 44 = .ok (.if_icmp .ge 36, 3) := by decide +kernel
theorem dX4_rankOf_47 : decode cX4_rankOf 47 = .ok (.iload 4, 2) := by decide +kernel
theorem dX4_rankOf_49 : decode cX4_rankOf 49 = .ok (.aload_n 0, 1) := by decide +kernel
theorem dX4_rankOf_50 : decode cX4_rankOf 50 = .ok (.getfield 19, 3) := by decide +kernel
theorem dX4_rankOf_53 : decode cX4_rankOf 53 = .ok (.sipush 256, 3) := by decide +kernel
theorem dX4_rankOf_56 : decode cX4_rankOf 56 = .ok (.iload_n 1, 1) := by decide +kernel
theorem dX4_rankOf_57 : decode cX4_rankOf 57 = .ok (.imul, 1) := by decide +kernel
theorem dX4_rankOf_58 : decode cX4_rankOf 58 = .ok (.iload 5, 2) := by decide +kernel
theorem dX4_rankOf_60 : decode cX4_rankOf 60 = .ok (.iadd, 1) := by decide +kernel
theorem dX4_rankOf_61 : decode cX4_rankOf 61 = .ok (.iaload, 1) := by decide +kernel
theorem dX4_rankOf_62 : decode cX4_rankOf 62 = .ok (.iconst (-1), 1) := by decide +kernel
theorem dX4_rankOf_63 : decode cX4_rankOf 63 = .ok (.if_icmp .ne 7, 3) := by decide +kernel
theorem dX4_rankOf_66 : decode cX4_rankOf 66 = .ok (.iconst 1, 1) := by decide +kernel
theorem dX4_rankOf_67 : decode cX4_rankOf 67 = .ok (.goto 4, 3) := by decide +kernel
theorem dX4_rankOf_70 : decode cX4_rankOf 70 = .ok (.iconst 0, 1) := by decide +kernel
theorem dX4_rankOf_71 : decode cX4_rankOf 71 = .ok (.iadd, 1) := by decide +kernel
theorem dX4_rankOf_72 : decode cX4_rankOf 72 = .ok (.istore 4, 2) := by decide +kernel
theorem dX4_rankOf_74 : decode cX4_rankOf 74 = .ok (.iinc 5 1, 3) := by decide +kernel
theorem dX4_rankOf_77 : decode cX4_rankOf 77 = .ok (.goto (-36), 3) := by decide +kernel
theorem dX4_rankOf_80 : decode cX4_rankOf 80 = .ok (.iload 4, 2) := by decide +kernel
theorem dX4_rankOf_82 : decode cX4_rankOf 82 = .ok (.ireturn, 1) := by decide +kernel
set_option maxRecDepth 20000 in
theorem ggX4_refusal_X4_isOrder : GoodIn wsX4_refusal wsX4_isOrder := goodIn_r _ [6, 7, 11, 12, 13, 14, 15, 16, 17, 18, 19, 20, 21, 22, 23, 24] (by decide +kernel) (by decide +kernel)
set_option maxRecDepth 20000 in
theorem gX4_refusal_X4_isOrder : GoodIn wsX4_refusal (wsV RX4 73 RX4 yX4_isOrder wsX4_isOrder) := goodIn_app (goodIn_of _ (by decide +kernel)) ggX4_refusal_X4_isOrder
set_option maxRecDepth 20000 in
theorem ggX4_refusal_X4_isCode : GoodIn wsX4_refusal wsX4_isCode := goodIn_r _ [10] (by decide +kernel) (by decide +kernel)
set_option maxRecDepth 20000 in
theorem gX4_refusal_X4_isCode : GoodIn wsX4_refusal (va_wsS RX4 51 yX4_isCode wsX4_isCode) := goodIn_app (goodIn_of _ (by decide +kernel)) ggX4_refusal_X4_isCode
theorem dX4_refusal_0 : decode cX4_refusal 0 = .ok (.aload_n 0, 1) := by decide +kernel
theorem dX4_refusal_1 : decode cX4_refusal 1 = .ok (.iload_n 1, 1) := by decide +kernel
theorem dX4_refusal_2 : decode cX4_refusal 2 = .ok (.invokevirtual 73, 3) := by decide +kernel
theorem dX4_refusal_5 : decode cX4_refusal 5 = .ok (.ifCond .ne 8, 3) := by decide +kernel
theorem dX4_refusal_8 : decode cX4_refusal 8 = .ok (.bipush (-2), 2) := by decide +kernel
theorem dX4_refusal_10 : decode cX4_refusal 10 = .ok (.goto 38, 3) := by decide +kernel
theorem dX4_refusal_13 : decode cX4_refusal 13 = .ok (.iload_n 2, 1) := by decide +kernel
theorem dX4_refusal_14 : decode cX4_refusal 14 = .ok (.invokestatic 51, 3) := by decide +kernel
theorem dX4_refusal_17 : decode cX4_refusal 17 = .ok (.ifCond .eq 10, 3) := by decide +kernel
theorem dX4_refusal_20 : decode cX4_refusal 20 = .ok (.iload_n 3, 1) := by decide +kernel
theorem dX4_refusal_21 : decode cX4_refusal 21 = .ok (.invokestatic 51, 3) := by decide +kernel
theorem dX4_refusal_24 : decode cX4_refusal 24 = .ok (.ifCond .ne 8, 3) := by decide +kernel
theorem dX4_refusal_27 : decode cX4_refusal 27 = .ok (.bipush (-4), 2) := by decide +kernel
theorem dX4_refusal_29 : decode cX4_refusal 29 = .ok (.goto 19, 3) := by decide +kernel
theorem dX4_refusal_32 : decode cX4_refusal 32 = .ok (.aload_n 0, 1) := by decide +kernel
theorem dX4_refusal_33 : decode cX4_refusal 33 = .ok (.getfield 16, 3) := by decide +kernel
theorem dX4_refusal_36 : decode cX4_refusal 36 = .ok (.iload_n 1, 1) := by decide +kernel
theorem dX4_refusal_37 : decode cX4_refusal 37 = .ok (.iaload, 1) := by decide +kernel
theorem dX4_refusal_38 : decode cX4_refusal 38 = .ok (.iconst 2, 1) := by decide +kernel
theorem dX4_refusal_39 : decode cX4_refusal 39 = .ok (.if_icmp .eq 8, 3) := by decide +kernel
theorem dX4_refusal_42 : decode cX4_refusal 42 = .ok (.bipush (-5), 2) := by decide +kernel
theorem dX4_refusal_44 : decode cX4_refusal 44 = .ok (.goto 4, 3) := by decide +kernel
theorem dX4_refusal_47 : decode cX4_refusal 47 = .ok (.iconst 0, 1) := by decide +kernel
theorem dX4_refusal_48 : decode cX4_refusal 48 = .ok (.ireturn, 1) := by decide +kernel
set_option maxRecDepth 20000 in
theorem ggX4_also_X4_refusal : GoodIn wsX4_also wsX4_refusal := goodIn_r _ [7, 8, 9, 10, 11, 6, 12, 13, 14, 15, 16, 17, 18, 19, 20, 21, 22, 23, 24, 25, 26, 27, 28, 29, 30] (by decide +kernel) (by decide +kernel)
set_option maxRecDepth 20000 in
theorem gX4_also_X4_refusal : GoodIn wsX4_also (wsV RX4 76 RX4 yX4_refusal wsX4_refusal) := goodIn_app (goodIn_of _ (by decide +kernel)) ggX4_also_X4_refusal
theorem dX4_also_0 : decode cX4_also 0 = .ok (.aload_n 0, 1) := by decide +kernel
theorem dX4_also_1 : decode cX4_also 1 = .ok (.iconst 0, 1) := by decide +kernel
theorem dX4_also_2 : decode cX4_also 2 = .ok (.putfield 34, 3) := by decide +kernel
theorem dX4_also_5 : decode cX4_also 5 = .ok (.aload_n 0, 1) := by decide +kernel
theorem dX4_also_6 : decode cX4_also 6 = .ok (.iload_n 1, 1) := by decide +kernel
theorem dX4_also_7 : decode cX4_also 7 = .ok (.iload_n 2, 1) := by decide +kernel
theorem dX4_also_8 : decode cX4_also 8 = .ok (.iload_n 3, 1) := by decide +kernel
theorem dX4_also_9 : decode cX4_also 9 = .ok (.invokevirtual 76, 3) := by decide +kernel
theorem dX4_also_12 : decode cX4_also 12 = .ok (.istore 4, 2) := by decide +kernel
theorem dX4_also_14 : decode cX4_also 14 = .ok (.iload 4, 2) := by decide +kernel
theorem dX4_also_16 : decode cX4_also 16 = .ok (.ifCond .eq 6, 3) := by decide +kernel
theorem dX4_also_19 : decode cX4_also 19 = .ok (.iload 4, 2) := by decide +kernel
theorem dX4_also_21 : decode cX4_also 21 = .ok (.ireturn, 1) := by decide +kernel
theorem dX4_also_22 : decode cX4_also 22 = .ok (.aload_n 0, 1) := by decide +kernel
theorem dX4_also_23 : decode cX4_also 23 = .ok (.getfield 19, 3) := by decide +kernel
theorem dX4_also_26 : decode cX4_also 26 = .ok (.sipush 256, 3) := by decide +kernel
theorem dX4_also_29 : decode cX4_also 29 = .ok (.iload_n 1, 1) := by decide +kernel
theorem dX4_also_30 : decode cX4_also 30 = .ok (.imul, 1) := by decide +kernel
theorem dX4_also_31 : decode cX4_also 31 = .ok (.iload_n 2, 1) := by decide +kernel
theorem dX4_also_32 : decode cX4_also 32 = .ok (.iadd, 1) := by decide +kernel
theorem dX4_also_33 : decode cX4_also 33 = .ok (.iaload, 1) := by decide +kernel
theorem dX4_also_34 : decode cX4_also 34 = .ok (.iconst (-1), 1) := by decide +kernel
theorem dX4_also_35 : decode cX4_also 35 = .ok (.if_icmp .eq 19, 3) := by decide +kernel
theorem dX4_also_38 : decode cX4_also 38 = .ok (.aload_n 0, 1) := by decide +kernel
theorem dX4_also_39 : decode cX4_also 39 = .ok (.getfield 19, 3) := by decide +kernel
theorem dX4_also_42 : decode cX4_also 42 = .ok (.sipush 256, 3) := by decide +kernel
theorem dX4_also_45 : decode cX4_also 45 = .ok (.iload_n 1, 1) := by decide +kernel
theorem dX4_also_46 : decode cX4_also 46 = .ok (.imul, 1) := by decide +kernel
theorem dX4_also_47 : decode cX4_also 47 = .ok (.iload_n 3, 1) := by decide +kernel
theorem dX4_also_48 : decode cX4_also 48 = .ok (.iadd, 1) := by decide +kernel
theorem dX4_also_49 : decode cX4_also 49 = .ok (.iaload, 1) := by decide +kernel
theorem dX4_also_50 : decode cX4_also 50 = .ok (.iconst (-1), 1) := by decide +kernel
theorem dX4_also_51 : decode cX4_also 51 = .ok (.if_icmp .eq 5, 3) := by decide +kernel
theorem dX4_also_54 : decode cX4_also 54 = .ok (.iconst 0, 1) := by decide +kernel
theorem dX4_also_55 : decode cX4_also 55 = .ok (.ireturn, 1) := by decide +kernel
theorem dX4_also_56 : decode cX4_also 56 = .ok (.aload_n 0, 1) := by decide +kernel
theorem dX4_also_57 : decode cX4_also 57 = .ok (.getfield 19, 3) := by decide +kernel
theorem dX4_also_60 : decode cX4_also 60 = .ok (.sipush 256, 3) := by decide +kernel
theorem dX4_also_63 : decode cX4_also 63 = .ok (.iload_n 1, 1) := by decide +kernel
theorem dX4_also_64 : decode cX4_also 64 = .ok (.imul, 1) := by decide +kernel
theorem dX4_also_65 : decode cX4_also 65 = .ok (.iload_n 3, 1) := by decide +kernel
theorem dX4_also_66 : decode cX4_also 66 = .ok (.iadd, 1) := by decide +kernel
theorem dX4_also_67 : decode cX4_also 67 = .ok (.aload_n 0, 1) := by decide +kernel
theorem dX4_also_68 : decode cX4_also 68 = .ok (.getfield 19, 3) := by decide +kernel
theorem dX4_also_71 : decode cX4_also 71 = .ok (.sipush 256, 3) := by decide +kernel
theorem dX4_also_74 : decode cX4_also 74 = .ok (.iload_n 1, 1) := by decide +kernel
theorem dX4_also_75 : decode cX4_also 75 = .ok (.imul, 1) := by decide +kernel
theorem dX4_also_76 : decode cX4_also 76 = .ok (.iload_n 2, 1) := by decide +kernel
theorem dX4_also_77 : decode cX4_also 77 = .ok (.iadd, 1) := by decide +kernel
theorem dX4_also_78 : decode cX4_also 78 = .ok (.iaload, 1) := by decide +kernel
theorem dX4_also_79 : decode cX4_also 79 = .ok (.iastore, 1) := by decide +kernel
theorem dX4_also_80 : decode cX4_also 80 = .ok (.iconst 1, 1) := by decide +kernel
theorem dX4_also_81 : decode cX4_also 81 = .ok (.ireturn, 1) := by decide +kernel
set_option maxRecDepth 20000 in
theorem ggX4_through_X4_refusal : GoodIn wsX4_through wsX4_refusal := goodIn_r _ [8, 9, 10, 11, 12, 7, 13, 14, 15, 16, 17, 18, 19, 20, 21, 22, 23, 24, 25, 26, 27, 28, 29, 30, 31] (by decide +kernel) (by decide +kernel)
set_option maxRecDepth 20000 in
theorem gX4_through_X4_refusal : GoodIn wsX4_through (wsV RX4 76 RX4 yX4_refusal wsX4_refusal) := goodIn_app (goodIn_of _ (by decide +kernel)) ggX4_through_X4_refusal
theorem dX4_through_0 : decode cX4_through 0 = .ok (.aload_n 0, 1) := by decide +kernel
theorem dX4_through_1 : decode cX4_through 1 = .ok (.iconst 0, 1) := by decide +kernel
theorem dX4_through_2 : decode cX4_through 2 = .ok (.putfield 34, 3) := by decide +kernel
theorem dX4_through_5 : decode cX4_through 5 = .ok (.aload_n 0, 1) := by decide +kernel
theorem dX4_through_6 : decode cX4_through 6 = .ok (.iload_n 1, 1) := by decide +kernel
theorem dX4_through_7 : decode cX4_through 7 = .ok (.iload_n 2, 1) := by decide +kernel
theorem dX4_through_8 : decode cX4_through 8 = .ok (.iload_n 3, 1) := by decide +kernel
theorem dX4_through_9 : decode cX4_through 9 = .ok (.invokevirtual 76, 3) := by decide +kernel
theorem dX4_through_12 : decode cX4_through 12 = .ok (.istore 4, 2) := by decide +kernel
theorem dX4_through_14 : decode cX4_through 14 = .ok (.iload 4, 2) := by decide +kernel
theorem dX4_through_16 : decode cX4_through 16 = .ok (.ifCond .eq 6, 3) := by decide +kernel
theorem dX4_through_19 : decode cX4_through 19 = .ok (.iload 4, 2) := by decide +kernel
theorem dX4_through_21 : decode cX4_through 21 = .ok (.ireturn, 1) := by decide +kernel
theorem dX4_through_22 : decode cX4_through 22 = .ok (.iload_n 2, 1) := by decide +kernel
theorem dX4_through_23 : decode cX4_through 23 = .ok (.iload_n 3, 1) := by decide +kernel
theorem dX4_through_24 : decode cX4_through 24 = .ok (.if_icmp .le 7, 3) := by decide +kernel
theorem dX4_through_27 : decode cX4_through 27 = .ok (.iconst (-1), 1) := by decide +kernel
theorem dX4_through_28 : decode cX4_through 28 = .ok (.goto 4, 3) := by decide +kernel
theorem dX4_through_31 : decode cX4_through 31 = .ok (.iconst 1, 1) := by decide +kernel
theorem dX4_through_32 : decode cX4_through 32 = .ok (.istore 5, 2) := by decide +kernel
theorem dX4_through_34 : decode cX4_through 34 = .ok (.iload_n 2, 1) := by decide +kernel
theorem dX4_through_35 : decode cX4_through 35 = .ok (.iload_n 3, 1) := by decide +kernel
theorem dX4_through_36 : decode cX4_through 36 = .ok (.if_icmp .le 11, 3) := by decide +kernel
theorem dX4_through_39 : decode cX4_through 39 = .ok (.iload_n 2, 1) := by decide +kernel
theorem dX4_through_40 : decode cX4_through 40 = .ok (.iload_n 3, 1) := by decide +kernel
theorem dX4_through_41 : decode cX4_through 41 = .ok (.isub, 1) := by decide +kernel
theorem dX4_through_42 : decode cX4_through 42 = .ok (.iconst 1, 1) := by decide +kernel
theorem dX4_through_43 : decode cX4_through 43 = .ok (.iadd, 1) := by decide +kernel
theorem dX4_through_44 : decode cX4_through 44 = .ok (.goto 8, 3) := by decide +kernel
theorem dX4_through_47 : decode cX4_through 47 = .ok (.iload_n 3, 1) := by decide +kernel
theorem dX4_through_48 : decode cX4_through 48 = .ok (.iload_n 2, 1) := by decide +kernel
theorem dX4_through_49 : decode cX4_through 49 = .ok (.isub, 1) := by decide +kernel
theorem dX4_through_50 : decode cX4_through 50 = .ok (.iconst 1, 1) := by decide +kernel
theorem dX4_through_51 : decode cX4_through 51 = .ok (.iadd, 1) := by decide +kernel
theorem dX4_through_52 : decode cX4_through 52 = .ok (.istore 6, 2) := by decide +kernel
theorem dX4_through_54 : decode cX4_through 54 = .ok (.iconst 0, 1) := by decide +kernel
theorem dX4_through_55 : decode cX4_through 55 = .ok (.istore 7, 2) := by decide +kernel
theorem dX4_through_57 : decode cX4_through 57 = .ok (.iload 7, 2) := by decide +kernel
theorem dX4_through_59 : decode cX4_through 59 = .ok (.iload 6, 2) := by decide +kernel
theorem dX4_through_61 : decode cX4_through 61 = .ok (.if_icmp .ge 33, 3) := by decide +kernel
theorem dX4_through_64 : decode cX4_through 64 = .ok (.aload_n 0, 1) := by decide +kernel
theorem dX4_through_65 : decode cX4_through 65 = .ok (.getfield 19, 3) := by decide +kernel
theorem dX4_through_68 : decode cX4_through 68 = .ok (.sipush 256, 3) := by decide +kernel
theorem dX4_through_71 : decode cX4_through 71 = .ok (.iload_n 1, 1) := by decide +kernel
theorem dX4_through_72 : decode cX4_through 72 = .ok (.imul, 1) := by decide +kernel
theorem dX4_through_73 : decode cX4_through 73 = .ok (.iload_n 2, 1) := by decide +kernel
theorem dX4_through_74 : decode cX4_through 74 = .ok (.iadd, 1) := by decide +kernel
theorem dX4_through_75 : decode cX4_through 75 = .ok (.iload 7, 2) := by decide +kernel
theorem dX4_through_77 : decode cX4_through 77 = .ok (.iload 5, 2) := by decide +kernel
theorem dX4_through_79 : decode cX4_through 79 = .ok (.imul, 1) := by decide +kernel
theorem dX4_through_80 : decode cX4_through 80 = .ok (.iadd, 1) := by decide +kernel
theorem dX4_through_81 : decode cX4_through 81 = .ok (.iaload, 1) := by decide +kernel
theorem dX4_through_82 : decode cX4_through 82 = .ok (.iconst (-1), 1) := by decide +kernel
theorem dX4_through_83 : decode cX4_through 83 = .ok (.if_icmp .eq 5, 3) := by decide +kernel
theorem dX4_through_86 : decode cX4_through 86 = .ok (.iconst 0, 1) := by decide +kernel
theorem dX4_through_87 : decode cX4_through 87 = .ok (.ireturn, 1) := by decide +kernel
theorem dX4_through_88 : decode cX4_through 88 = .ok (.iinc 7 1, 3) := by decide +kernel
theorem dX4_through_91 : decode cX4_through 91 = .ok (.goto (-34), 3) := by decide +kernel
theorem dX4_through_94 : decode cX4_through 94 = .ok (.iconst 0, 1) := by decide +kernel
theorem dX4_through_95 : decode cX4_through 95 = .ok (.istore 7, 2) := by decide +kernel
theorem dX4_through_97 : decode cX4_through 97 = .ok (.iload 7, 2) := by decide +kernel
theorem dX4_through_99 : decode cX4_through 99 = .ok (.iload 6, 2) := by decide +kernel
theorem dX4_through_101 : decode cX4_through 101 = .ok (.if_icmp .ge 43, 3) := by decide +kernel
theorem dX4_through_104 : decode cX4_through 104 = .ok (.aload_n 0, 1) := by decide +kernel
theorem dX4_through_105 : decode cX4_through 105 = .ok (.getfield 19, 3) := by decide +kernel
theorem dX4_through_108 : decode cX4_through 108 = .ok (.sipush 256, 3) := by decide +kernel
theorem dX4_through_111 : decode cX4_through 111 = .ok (.iload_n 1, 1) := by decide +kernel
theorem dX4_through_112 : decode cX4_through 112 = .ok (.imul, 1) := by decide +kernel
theorem dX4_through_113 : decode cX4_through 113 = .ok (.iload_n 2, 1) := by decide +kernel
theorem dX4_through_114 : decode cX4_through 114 = .ok (.iadd, 1) := by decide +kernel
theorem dX4_through_115 : decode cX4_through 115 = .ok (.iload 7, 2) := by decide +kernel
theorem dX4_through_117 : decode cX4_through 117 = .ok (.iload 5, 2) := by decide +kernel
theorem dX4_through_119 : decode cX4_through 119 = .ok (.imul, 1) := by decide +kernel
theorem dX4_through_120 : decode cX4_through 120 = .ok (.iadd, 1) := by decide +kernel
theorem dX4_through_121 : decode cX4_through 121 = .ok (.aload_n 0, 1) := by decide +kernel
theorem dX4_through_122 : decode cX4_through 122 = .ok (.getfield 22, 3) := by decide +kernel
theorem dX4_through_125 : decode cX4_through 125 = .ok (.iload_n 1, 1) := by decide +kernel
theorem dX4_through_126 : decode cX4_through 126 = .ok (.iaload, 1) := by decide +kernel
theorem dX4_through_127 : decode cX4_through 127 = .ok (.iastore, 1) := by decide +kernel
theorem dX4_through_128 : decode cX4_through 128 = .ok (.aload_n 0, 1) := by decide +kernel
theorem dX4_through_129 : decode cX4_through 129 = .ok (.getfield 22, 3) := by decide +kernel
theorem dX4_through_132 : decode cX4_through 132 = .ok (.iload_n 1, 1) := by decide +kernel
theorem dX4_through_133 : decode cX4_through 133 = .ok (.dup2, 1) := by decide +kernel
theorem dX4_through_134 : decode cX4_through 134 = .ok (.iaload, 1) := by decide +kernel
theorem dX4_through_135 : decode cX4_through 135 = .ok (.iconst 1, 1) := by decide +kernel
theorem dX4_through_136 : decode cX4_through 136 = .ok (.iadd, 1) := by decide +kernel
theorem dX4_through_137 : decode cX4_through 137 = .ok (.iastore, 1) := by decide +kernel
theorem dX4_through_138 : decode cX4_through 138 = .ok (.iinc 7 1, 3) := by decide +kernel
theorem dX4_through_141 : decode cX4_through 141 = .ok (.goto (-44), 3) := by decide +kernel
theorem dX4_through_144 : decode cX4_through 144 = .ok (.iload 6, 2) := by decide +kernel
theorem dX4_through_146 : decode cX4_through 146 = .ok (.ireturn, 1) := by decide +kernel
set_option maxRecDepth 20000 in
theorem ggX4_rank_X4_isOrder : GoodIn wsX4_rank wsX4_isOrder := goodIn_r _ [6, 7, 18, 19, 20, 21, 22, 23, 24, 25, 26, 27, 28, 29, 30, 31] (by decide +kernel) (by decide +kernel)
set_option maxRecDepth 20000 in
theorem gX4_rank_X4_isOrder : GoodIn wsX4_rank (wsV RX4 73 RX4 yX4_isOrder wsX4_isOrder) := goodIn_app (goodIn_of _ (by decide +kernel)) ggX4_rank_X4_isOrder
set_option maxRecDepth 20000 in
theorem ggX4_rank_X4_isCode : GoodIn wsX4_rank wsX4_isCode := goodIn_r _ [10] (by decide +kernel) (by decide +kernel)
set_option maxRecDepth 20000 in
theorem gX4_rank_X4_isCode : GoodIn wsX4_rank (va_wsS RX4 51 yX4_isCode wsX4_isCode) := goodIn_app (goodIn_of _ (by decide +kernel)) ggX4_rank_X4_isCode
set_option maxRecDepth 20000 in
theorem ggX4_rank_X4_rankOf : GoodIn wsX4_rank wsX4_rankOf := goodIn_r _ [14, 15, 16, 17, 18, 19, 20, 21, 22, 23, 24, 25, 26, 27, 28, 29, 30, 31] (by decide +kernel) (by decide +kernel)
set_option maxRecDepth 20000 in
theorem gX4_rank_X4_rankOf : GoodIn wsX4_rank (wsV RX4 79 RX4 yX4_rankOf wsX4_rankOf) := goodIn_app (goodIn_of _ (by decide +kernel)) ggX4_rank_X4_rankOf
theorem dX4_rank_0 : decode cX4_rank 0 = .ok (.aload_n 0, 1) := by decide +kernel
theorem dX4_rank_1 : decode cX4_rank 1 = .ok (.iconst 0, 1) := by decide +kernel
theorem dX4_rank_2 : decode cX4_rank 2 = .ok (.putfield 34, 3) := by decide +kernel
theorem dX4_rank_5 : decode cX4_rank 5 = .ok (.aload_n 0, 1) := by decide +kernel
theorem dX4_rank_6 : decode cX4_rank 6 = .ok (.iload_n 1, 1) := by decide +kernel
theorem dX4_rank_7 : decode cX4_rank 7 = .ok (.invokevirtual 73, 3) := by decide +kernel
theorem dX4_rank_10 : decode cX4_rank 10 = .ok (.ifCond .ne 6, 3) := by decide +kernel
theorem dX4_rank_13 : decode cX4_rank 13 = .ok (.bipush (-2), 2) := by decide +kernel
theorem dX4_rank_15 : decode cX4_rank 15 = .ok (.ireturn, 1) := by decide +kernel
theorem dX4_rank_16 : decode cX4_rank 16 = .ok (.iload_n 2, 1) := by decide +kernel
theorem dX4_rank_17 : decode cX4_rank 17 = .ok (.invokestatic 51, 3) := by decide +kernel
theorem dX4_rank_20 : decode cX4_rank 20 = .ok (.ifCond .eq 12, 3) := by decide +kernel
theorem dX4_rank_23 : decode cX4_rank 23 = .ok (.aload_n 0, 1) := by decide +kernel
theorem dX4_rank_24 : decode cX4_rank 24 = .ok (.iload_n 1, 1) := by decide +kernel
theorem dX4_rank_25 : decode cX4_rank 25 = .ok (.iload_n 2, 1) := by decide +kernel
theorem dX4_rank_26 : decode cX4_rank 26 = .ok (.invokevirtual 79, 3) := by decide +kernel
theorem dX4_rank_29 : decode cX4_rank 29 = .ok (.goto 5, 3) := by decide +kernel
theorem dX4_rank_32 : decode cX4_rank 32 = .ok (.bipush (-4), 2) := by decide +kernel
theorem dX4_rank_34 : decode cX4_rank 34 = .ok (.ireturn, 1) := by decide +kernel
set_option maxRecDepth 20000 in
theorem ggX4_high_X4_isOrder : GoodIn wsX4_high wsX4_isOrder := goodIn_r _ [6, 7, 15, 16, 17, 18, 19, 20, 21, 22, 23, 24, 25, 26, 27, 28] (by decide +kernel) (by decide +kernel)
set_option maxRecDepth 20000 in
theorem gX4_high_X4_isOrder : GoodIn wsX4_high (wsV RX4 73 RX4 yX4_isOrder wsX4_isOrder) := goodIn_app (goodIn_of _ (by decide +kernel)) ggX4_high_X4_isOrder
set_option maxRecDepth 20000 in
theorem ggX4_high_X4_rankOf : GoodIn wsX4_high wsX4_rankOf := goodIn_r _ [11, 12, 13, 14, 15, 16, 17, 18, 19, 20, 21, 22, 23, 24, 25, 26, 27, 28] (by decide +kernel) (by decide +kernel)
set_option maxRecDepth 20000 in
theorem gX4_high_X4_rankOf : GoodIn wsX4_high (wsV RX4 79 RX4 yX4_rankOf wsX4_rankOf) := goodIn_app (goodIn_of _ (by decide +kernel)) ggX4_high_X4_rankOf
theorem dX4_high_0 : decode cX4_high 0 = .ok (.aload_n 0, 1) := by decide +kernel
theorem dX4_high_1 : decode cX4_high 1 = .ok (.iconst 0, 1) := by decide +kernel
theorem dX4_high_2 : decode cX4_high 2 = .ok (.putfield 34, 3) := by decide +kernel
theorem dX4_high_5 : decode cX4_high 5 = .ok (.aload_n 0, 1) := by decide +kernel
theorem dX4_high_6 : decode cX4_high 6 = .ok (.iload_n 1, 1) := by decide +kernel
theorem dX4_high_7 : decode cX4_high 7 = .ok (.invokevirtual 73, 3) := by decide +kernel
theorem dX4_high_10 : decode cX4_high 10 = .ok (.ifCond .ne 6, 3) := by decide +kernel
theorem dX4_high_13 : decode cX4_high 13 = .ok (.bipush (-2), 2) := by decide +kernel
theorem dX4_high_15 : decode cX4_high 15 = .ok (.ireturn, 1) := by decide +kernel
theorem dX4_high_16 : decode cX4_high 16 = .ok (.iconst 0, 1) := by decide +kernel
theorem dX4_high_17 : decode cX4_high 17 = .ok (.istore_n 2, 1) := by decide +kernel
theorem dX4_high_18 : decode cX4_high 18 = .ok (.iconst 1, 1) := by decide +kernel
theorem dX4_high_19 : decode cX4_high 19 = .ok (.istore_n 3, 1) := by decide +kernel
theorem dX4_high_20 : decode cX4_high 20 = .ok (.iload_n 3, 1) := by decide +kernel
theorem dX4_high_21 : decode cX4_high 21 = .ok (.sipush 256, 3) := by decide +kernel
theorem dX4_high_24 : decode cX4_high 24 = .ok (.if_icmp .ge 30, 3) := by decide +kernel
theorem dX4_high_27 : decode cX4_high 27 = .ok (.aload_n 0, 1) := by decide +kernel
theorem dX4_high_28 : decode cX4_high 28 = .ok (.iload_n 1, 1) := by decide +kernel
theorem dX4_high_29 : decode cX4_high 29 = .ok (.iload_n 3, 1) := by decide +kernel
theorem dX4_high_30 : decode cX4_high 30 = .ok (.invokevirtual 79, 3) := by decide +kernel
theorem dX4_high_33 : decode cX4_high 33 = .ok (.aload_n 0, 1) := by decide +kernel
theorem dX4_high_34 : decode cX4_high 34 = .ok (.iload_n 1, 1) := by decide +kernel
theorem dX4_high_35 : decode cX4_high 35 = .ok (.iload_n 2, 1) := by decide +kernel
theorem dX4_high_36 : decode cX4_high 36 = .ok (.invokevirtual 79, 3) := by decide +kernel
theorem dX4_high_39 : decode cX4_high 39 = .ok (.if_icmp .lt 7, 3) := by decide +kernel
theorem dX4_high_42 : decode cX4_high 42 = .ok (.iload_n 3, 1) := by decide +kernel
theorem dX4_high_43 : decode cX4_high 43 = .ok (.goto 4, 3) := by decide +kernel
theorem dX4_high_46 : decode cX4_high 46 = .ok (.iload_n 2, 1) := by decide +kernel
theorem dX4_high_47 : decode cX4_high 47 = .ok (.istore_n 2, 1) := by decide +kernel
theorem dX4_high_48 : decode cX4_high 48 = .ok (.iinc 3 1, 3) := by decide +kernel
theorem dX4_high_51 : decode cX4_high 51 = .ok (.goto (-31), 3) := by decide +kernel
theorem dX4_high_54 : decode cX4_high 54 = .ok (.iload_n 2, 1) := by decide +kernel
theorem dX4_high_55 : decode cX4_high 55 = .ok (.ireturn, 1) := by decide +kernel
theorem dX4_text_0 : decode cX4_text 0 = .ok (.aload_n 0, 1) := by decide +kernel
theorem dX4_text_1 : decode cX4_text 1 = .ok (.iconst 0, 1) := by decide +kernel
theorem dX4_text_2 : decode cX4_text 2 = .ok (.putfield 34, 3) := by decide +kernel
theorem dX4_text_5 : decode cX4_text 5 = .ok (.aload_n 0, 1) := by decide +kernel
theorem dX4_text_6 : decode cX4_text 6 = .ok (.getfield 44, 3) := by decide +kernel
theorem dX4_text_9 : decode cX4_text 9 = .ok (.bipush 40, 2) := by decide +kernel
theorem dX4_text_11 : decode cX4_text 11 = .ok (.if_icmp .ne 5, 3) := by decide +kernel
theorem dX4_text_14 : decode cX4_text 14 = .ok (.iconst (-1), 1) := by decide +kernel
theorem dX4_text_15 : decode cX4_text 15 = .ok (.ireturn, 1) := by decide +kernel
theorem dX4_text_16 : decode cX4_text 16 = .ok (.aload_n 0, 1) := by decide +kernel
theorem dX4_text_17 : decode cX4_text 17 = .ok (.dup, 1) := by decide +kernel
theorem dX4_text_18 : decode cX4_text 18 = .ok (.getfield 44, 3) := by decide +kernel
theorem dX4_text_21 : decode cX4_text 21 = .ok (.iconst 1, 1) := by decide +kernel
theorem dX4_text_22 : decode cX4_text 22 = .ok (.iadd, 1) := by decide +kernel
theorem dX4_text_23 : decode cX4_text 23 = .ok (.putfield 44, 3) := by decide +kernel
theorem dX4_text_26 : decode cX4_text 26 = .ok (.aload_n 0, 1) := by decide +kernel
theorem dX4_text_27 : decode cX4_text 27 = .ok (.getfield 44, 3) := by decide +kernel
theorem dX4_text_30 : decode cX4_text 30 = .ok (.iconst 1, 1) := by decide +kernel
theorem dX4_text_31 : decode cX4_text 31 = .ok (.isub, 1) := by decide +kernel
theorem dX4_text_32 : decode cX4_text 32 = .ok (.ireturn, 1) := by decide +kernel
set_option maxRecDepth 20000 in
theorem ggX4_sign_X4_isText : GoodIn wsX4_sign wsX4_isText := goodIn_r _ [8, 9, 13, 14, 15, 16, 17, 18, 19, 20, 21, 22, 23, 24, 25, 26] (by decide +kernel) (by decide +kernel)
set_option maxRecDepth 20000 in
theorem gX4_sign_X4_isText : GoodIn wsX4_sign (wsV RX4 82 RX4 yX4_isText wsX4_isText) := goodIn_app (goodIn_of _ (by decide +kernel)) ggX4_sign_X4_isText
set_option maxRecDepth 20000 in
theorem ggX4_sign_X4_isCode : GoodIn wsX4_sign wsX4_isCode := goodIn_r _ [12] (by decide +kernel) (by decide +kernel)
set_option maxRecDepth 20000 in
theorem gX4_sign_X4_isCode : GoodIn wsX4_sign (va_wsS RX4 51 yX4_isCode wsX4_isCode) := goodIn_app (goodIn_of _ (by decide +kernel)) ggX4_sign_X4_isCode
theorem dX4_sign_0 : decode cX4_sign 0 = .ok (.aload_n 0, 1) := by decide +kernel
theorem dX4_sign_1 : decode cX4_sign 1 = .ok (.iconst 0, 1) := by decide +kernel
theorem dX4_sign_2 : decode cX4_sign 2 = .ok (.putfield 34, 3) := by decide +kernel
theorem dX4_sign_5 : decode cX4_sign 5 = .ok (.aload_n 0, 1) := by decide +kernel
theorem dX4_sign_6 : decode cX4_sign 6 = .ok (.iload_n 1, 1) := by decide +kernel
theorem dX4_sign_7 : decode cX4_sign 7 = .ok (.invokevirtual 82, 3) := by decide +kernel
theorem dX4_sign_10 : decode cX4_sign 10 = .ok (.ifCond .ne 6, 3) := by decide +kernel
theorem dX4_sign_13 : decode cX4_sign 13 = .ok (.bipush (-2), 2) := by decide +kernel
theorem dX4_sign_15 : decode cX4_sign 15 = .ok (.ireturn, 1) := by decide +kernel
theorem dX4_sign_16 : decode cX4_sign 16 = .ok (.iload_n 2, 1) := by decide +kernel
theorem dX4_sign_17 : decode cX4_sign 17 = .ok (.invokestatic 51, 3) := by decide +kernel
theorem dX4_sign_20 : decode cX4_sign 20 = .ok (.ifCond .ne 6, 3) := by decide +kernel
theorem dX4_sign_23 : decode cX4_sign 23 = .ok (.bipush (-4), 2) := by decide +kernel
theorem dX4_sign_25 : decode cX4_sign 25 = .ok (.ireturn, 1) := by decide +kernel
theorem dX4_sign_26 : decode cX4_sign 26 = .ok (.aload_n 0, 1) := by decide +kernel
theorem dX4_sign_27 : decode cX4_sign 27 = .ok (.getfield 28, 3) := by decide +kernel
theorem dX4_sign_30 : decode cX4_sign 30 = .ok (.iload_n 1, 1) := by decide +kernel
theorem dX4_sign_31 : decode cX4_sign 31 = .ok (.iaload, 1) := by decide +kernel
theorem dX4_sign_32 : decode cX4_sign 32 = .ok (.bipush 40, 2) := by decide +kernel
theorem dX4_sign_34 : decode cX4_sign 34 = .ok (.if_icmp .ne 5, 3) := by decide +kernel
theorem dX4_sign_37 : decode cX4_sign 37 = .ok (.iconst (-1), 1) := by decide +kernel
theorem dX4_sign_38 : decode cX4_sign 38 = .ok (.ireturn, 1) := by decide +kernel
theorem dX4_sign_39 : decode cX4_sign 39 = .ok (.aload_n 0, 1) := by decide +kernel
theorem dX4_sign_40 : decode cX4_sign 40 = .ok (.getfield 25, 3) := by decide +kernel
theorem dX4_sign_43 : decode cX4_sign 43 = .ok (.bipush 40, 2) := by decide +kernel
theorem dX4_sign_45 : decode cX4_sign 45 = .ok (.iload_n 1, 1) := by decide +kernel
theorem dX4_sign_46 : decode cX4_sign 46 = .ok (.imul, 1) := by decide +kernel
theorem dX4_sign_47 : decode cX4_sign 47 = .ok (.aload_n 0, 1) := by decide +kernel
theorem dX4_sign_48 : decode cX4_sign 48 = .ok (.getfield 28, 3) := by decide +kernel
theorem dX4_sign_51 : decode cX4_sign 51 = .ok (.iload_n 1, 1) := by decide +kernel
theorem dX4_sign_52 : decode cX4_sign 52 = .ok (.iaload, 1) := by decide +kernel
theorem dX4_sign_53 : decode cX4_sign 53 = .ok (.iadd, 1) := by decide +kernel
theorem dX4_sign_54 : decode cX4_sign 54 = .ok (.iload_n 2, 1) := by decide +kernel
theorem dX4_sign_55 : decode cX4_sign 55 = .ok (.iastore, 1) := by decide +kernel
theorem dX4_sign_56 : decode cX4_sign 56 = .ok (.aload_n 0, 1) := by decide +kernel
theorem dX4_sign_57 : decode cX4_sign 57 = .ok (.getfield 28, 3) := by decide +kernel
theorem dX4_sign_60 : decode cX4_sign 60 = .ok (.iload_n 1, 1) := by decide +kernel
theorem dX4_sign_61 : decode cX4_sign 61 = .ok (.dup2, 1) := by decide +kernel
theorem dX4_sign_62 : decode cX4_sign 62 = .ok (.iaload, 1) := by decide +kernel
theorem dX4_sign_63 : decode cX4_sign 63 = .ok (.iconst 1, 1) := by decide +kernel
theorem dX4_sign_64 : decode cX4_sign 64 = .ok (.iadd, 1) := by decide +kernel
theorem dX4_sign_65 : decode cX4_sign 65 = .ok (.iastore, 1) := by decide +kernel
theorem dX4_sign_66 : decode cX4_sign 66 = .ok (.aload_n 0, 1) := by decide +kernel
theorem dX4_sign_67 : decode cX4_sign 67 = .ok (.getfield 28, 3) := by decide +kernel
theorem dX4_sign_70 : decode cX4_sign 70 = .ok (.iload_n 1, 1) := by decide +kernel
theorem dX4_sign_71 : decode cX4_sign 71 = .ok (.iaload, 1) := by decide +kernel
theorem dX4_sign_72 : decode cX4_sign 72 = .ok (.ireturn, 1) := by decide +kernel
set_option maxRecDepth 20000 in
theorem ggX4_whole_X4_isText : GoodIn wsX4_whole wsX4_isText := goodIn_r _ [9, 10, 28, 29, 30, 31, 32, 33, 34, 35, 36, 37, 38, 39, 40, 41] (by decide +kernel) (by decide +kernel)
set_option maxRecDepth 20000 in
theorem gX4_whole_X4_isText : GoodIn wsX4_whole (wsV RX4 82 RX4 yX4_isText wsX4_isText) := goodIn_app (goodIn_of _ (by decide +kernel)) ggX4_whole_X4_isText
set_option maxRecDepth 20000 in
theorem ggX4_whole_X4_isPage : GoodIn wsX4_whole wsX4_isPage := goodIn_r _ [14, 15, 28, 29, 30, 31, 32, 33, 34, 35, 36, 37, 38, 39, 40, 41] (by decide +kernel) (by decide +kernel)
set_option maxRecDepth 20000 in
theorem gX4_whole_X4_isPage : GoodIn wsX4_whole (wsV RX4 47 RX4 yX4_isPage wsX4_isPage) := goodIn_app (goodIn_of _ (by decide +kernel)) ggX4_whole_X4_isPage
set_option maxRecDepth 20000 in
theorem ggX4_whole_X4_translated : GoodIn wsX4_whole wsX4_translated := goodIn_r _ [19, 20, 21, 22, 2, 23, 24, 25, 26, 8, 27, 28, 29, 30, 31, 32, 33, 34, 35, 36, 37, 38, 39, 40, 41] (by decide +kernel) (by decide +kernel)
set_option maxRecDepth 20000 in
theorem gX4_whole_X4_translated : GoodIn wsX4_whole (wsV RX4 65 RX4 yX4_translated wsX4_translated) := goodIn_app (goodIn_of _ (by decide +kernel)) ggX4_whole_X4_translated
theorem dX4_whole_0 : decode cX4_whole 0 = .ok (.aload_n 0, 1) := by decide +kernel
theorem dX4_whole_1 : decode cX4_whole 1 = .ok (.iconst 0, 1) := by decide +kernel
theorem dX4_whole_2 : decode cX4_whole 2 = .ok (.putfield 34, 3) := by decide +kernel
theorem dX4_whole_5 : decode cX4_whole 5 = .ok (.aload_n 0, 1) := by decide +kernel
theorem dX4_whole_6 : decode cX4_whole 6 = .ok (.iload_n 1, 1) := by decide +kernel
theorem dX4_whole_7 : decode cX4_whole 7 = .ok (.invokevirtual 82, 3) := by decide +kernel
theorem dX4_whole_10 : decode cX4_whole 10 = .ok (.ifCond .eq 19, 3) := by decide +kernel
theorem dX4_whole_13 : decode cX4_whole 13 = .ok (.aload_n 0, 1) := by decide +kernel
theorem dX4_whole_14 : decode cX4_whole 14 = .ok (.iload_n 2, 1) := by decide +kernel
theorem dX4_whole_15 : decode cX4_whole 15 = .ok (.invokevirtual 47, 3) := by decide +kernel
theorem dX4_whole_18 : decode cX4_whole 18 = .ok (.ifCond .eq 11, 3) := by decide +kernel
theorem dX4_whole_21 : decode cX4_whole 21 = .ok (.aload_n 0, 1) := by decide +kernel
theorem dX4_whole_22 : decode cX4_whole 22 = .ok (.iload_n 3, 1) := by decide +kernel
theorem dX4_whole_23 : decode cX4_whole 23 = .ok (.invokevirtual 47, 3) := by decide +kernel
theorem dX4_whole_26 : decode cX4_whole 26 = .ok (.ifCond .ne 6, 3) := by decide +kernel
theorem dX4_whole_29 : decode cX4_whole 29 = .ok (.bipush (-2), 2) := by decide +kernel
theorem dX4_whole_31 : decode cX4_whole 31 = .ok (.ireturn, 1) := by decide +kernel
theorem dX4_whole_32 : decode cX4_whole 32 = .ok (.aload_n 0, 1) := by decide +kernel
theorem dX4_whole_33 : decode cX4_whole 33 = .ok (.getfield 62, 3) := by decide +kernel
theorem dX4_whole_36 : decode cX4_whole 36 = .ok (.istore 4, 2) := by decide +kernel
theorem dX4_whole_38 : decode cX4_whole 38 = .ok (.bipush 40, 2) := by decide +kernel
theorem dX4_whole_40 : decode cX4_whole 40 = .ok (.iload_n 1, 1) := by decide +kernel
theorem dX4_whole_41 : decode cX4_whole 41 = .ok (.imul, 1) := by decide +kernel
theorem dX4_whole_42 : decode cX4_whole 42 = .ok (.istore 5, 2) := by decide +kernel
theorem dX4_whole_44 : decode cX4_whole 44 = .ok (.iload 5, 2) := by decide +kernel
theorem dX4_whole_46 : decode cX4_whole 46 = .ok (.bipush 40, 2) := by decide +kernel
theorem dX4_whole_48 : decode cX4_whole 48 = .ok (.iload_n 1, 1) := by decide +kernel
theorem dX4_whole_49 : decode cX4_whole 49 = .ok (.imul, 1) := by decide +kernel
theorem dX4_whole_50 : decode cX4_whole 50 = .ok (.aload_n 0, 1) := by decide +kernel
theorem dX4_whole_51 : decode cX4_whole 51 = .ok (.getfield 28, 3) := by decide +kernel
theorem dX4_whole_54 : decode cX4_whole 54 = .ok (.iload_n 1, 1) := by decide +kernel
theorem dX4_whole_55 : decode cX4_whole 55 = .ok (.iaload, 1) := by decide +kernel
theorem dX4_whole_56 : decode cX4_whole 56 = .ok (.iadd, 1) := by decide +kernel
theorem dX4_whole_57 : decode cX4_whole 57 = .ok (.if_icmp .ge 29, 3) := by decide +kernel
theorem dX4_whole_60 : decode cX4_whole 60 = .ok (.aload_n 0, 1) := by decide +kernel
theorem dX4_whole_61 : decode cX4_whole 61 = .ok (.getfield 25, 3) := by decide +kernel
theorem dX4_whole_64 : decode cX4_whole 64 = .ok (.iload 5, 2) := by decide +kernel
theorem dX4_whole_66 : decode cX4_whole 66 = .ok (.aload_n 0, 1) := by decide +kernel
theorem dX4_whole_67 : decode cX4_whole 67 = .ok (.aload_n 0, 1) := by decide +kernel
theorem dX4_whole_68 : decode cX4_whole 68 = .ok (.getfield 25, 3) := by decide +kernel
theorem dX4_whole_71 : decode cX4_whole 71 = .ok (.iload 5, 2) := by decide +kernel
theorem dX4_whole_73 : decode cX4_whole 73 = .ok (.iaload, 1) := by decide +kernel
theorem dX4_whole_74 : decode cX4_whole 74 = .ok (.iload_n 2, 1) := by decide +kernel
theorem dX4_whole_75 : decode cX4_whole 75 = .ok (.iload_n 3, 1) := by decide +kernel
theorem dX4_whole_76 : decode cX4_whole 76 = .ok (.invokevirtual 65, 3) := by decide +kernel
theorem dX4_whole_79 : decode cX4_whole 79 = .ok (.iastore, 1) := by decide +kernel
theorem dX4_whole_80 : decode cX4_whole 80 = .ok (.iinc 5 1, 3) := by decide +kernel
theorem dX4_whole_83 : decode cX4_whole 83 = .ok (.goto (-39), 3) := by decide +kernel
theorem dX4_whole_86 : decode cX4_whole 86 = .ok (.aload_n 0, 1) := by decide +kernel
theorem dX4_whole_87 : decode cX4_whole 87 = .ok (.getfield 62, 3) := by decide +kernel
theorem dX4_whole_90 : decode cX4_whole 90 = .ok (.iload 4, 2) := by decide +kernel
theorem dX4_whole_92 : decode cX4_whole 92 = .ok (.isub, 1) := by decide +kernel
theorem dX4_whole_93 : decode cX4_whole 93 = .ok (.ireturn, 1) := by decide +kernel
set_option maxRecDepth 20000 in
theorem ggX4_at_X4_isText : GoodIn wsX4_at wsX4_isText := goodIn_r _ [8, 9, 10, 11, 12, 13, 14, 15, 16, 17, 18, 19, 20, 21, 22, 23] (by decide +kernel) (by decide +kernel)
set_option maxRecDepth 20000 in
theorem gX4_at_X4_isText : GoodIn wsX4_at (wsV RX4 82 RX4 yX4_isText wsX4_isText) := goodIn_app (goodIn_of _ (by decide +kernel)) ggX4_at_X4_isText
theorem dX4_at_0 : decode cX4_at 0 = .ok (.aload_n 0, 1) := by decide +kernel
theorem dX4_at_1 : decode cX4_at 1 = .ok (.iconst 0, 1) := by decide +kernel
theorem dX4_at_2 : decode cX4_at 2 = .ok (.putfield 34, 3) := by decide +kernel
theorem dX4_at_5 : decode cX4_at 5 = .ok (.aload_n 0, 1) := by decide +kernel
theorem dX4_at_6 : decode cX4_at 6 = .ok (.iload_n 1, 1) := by decide +kernel
theorem dX4_at_7 : decode cX4_at 7 = .ok (.invokevirtual 82, 3) := by decide +kernel
theorem dX4_at_10 : decode cX4_at 10 = .ok (.ifCond .eq 31, 3) := by decide +kernel
theorem dX4_at_13 : decode cX4_at 13 = .ok (.iload_n 2, 1) := by decide +kernel
theorem dX4_at_14 : decode cX4_at 14 = .ok (.ifCond .lt 27, 3) := by decide +kernel
theorem dX4_at_17 : decode cX4_at 17 = .ok (.iload_n 2, 1) := by decide +kernel
theorem dX4_at_18 : decode cX4_at 18 = .ok (.aload_n 0, 1) := by decide +kernel
theorem dX4_at_19 : decode cX4_at 19 = .ok (.getfield 28, 3) := by decide +kernel
theorem dX4_at_22 : decode cX4_at 22 = .ok (.iload_n 1, 1) := by decide +kernel
theorem dX4_at_23 : decode cX4_at 23 = .ok (.iaload, 1) := by decide +kernel
theorem dX4_at_24 : decode cX4_at 24 = .ok (.if_icmp .ge 17, 3) := by decide +kernel
theorem dX4_at_27 : decode cX4_at 27 = .ok (.aload_n 0, 1) := by decide +kernel
theorem dX4_at_28 : decode cX4_at 28 = .ok (.getfield 25, 3) := by decide +kernel
theorem dX4_at_31 : decode cX4_at 31 = .ok (.bipush 40, 2) := by decide +kernel
theorem dX4_at_33 : decode cX4_at 33 = .ok (.iload_n 1, 1) := by decide +kernel
theorem dX4_at_34 : decode cX4_at 34 = .ok (.imul, 1) := by decide +kernel
theorem dX4_at_35 : decode cX4_at 35 = .ok (.iload_n 2, 1) := by decide +kernel
theorem dX4_at_36 : decode cX4_at 36 = .ok (.iadd, 1) := by decide +kernel
theorem dX4_at_37 : decode cX4_at 37 = .ok (.iaload, 1) := by decide +kernel
theorem dX4_at_38 : decode cX4_at 38 = .ok (.goto 4, 3) := by decide +kernel
theorem dX4_at_41 : decode cX4_at 41 = .ok (.iconst (-1), 1) := by decide +kernel
theorem dX4_at_42 : decode cX4_at 42 = .ok (.ireturn, 1) := by decide +kernel
theorem dX4_readAt_0 : decode cX4_readAt 0 = .ok (.iload_n 2, 1) := by decide +kernel
theorem dX4_readAt_1 : decode cX4_readAt 1 = .ok (.aload_n 0, 1) := by decide +kernel
theorem dX4_readAt_2 : decode cX4_readAt 2 = .ok (.getfield 28, 3) := by decide +kernel
theorem dX4_readAt_5 : decode cX4_readAt 5 = .ok (.iload_n 1, 1) := by decide +kernel
theorem dX4_readAt_6 : decode cX4_readAt 6 = .ok (.iaload, 1) := by decide +kernel
theorem dX4_readAt_7 : decode cX4_readAt 7 = .ok (.if_icmp .ge 17, 3) := by decide +kernel
theorem dX4_readAt_10 : decode cX4_readAt 10 = .ok (.aload_n 0, 1) := by decide +kernel
theorem dX4_readAt_11 : decode cX4_readAt 11 = .ok (.getfield 25, 3) := by decide +kernel
theorem dX4_readAt_14 : decode cX4_readAt 14 = .ok (.bipush 40, 2) := by decide +kernel
theorem dX4_readAt_16 : decode cX4_readAt 16 = .ok (.iload_n 1, 1) := by decide +kernel
theorem dX4_readAt_17 : decode cX4_readAt 17 = .ok (.imul, 1) := by decide +kernel
theorem dX4_readAt_18 : decode cX4_readAt 18 = .ok (.iload_n 2, 1) := by decide +kernel
theorem dX4_readAt_19 : decode cX4_readAt 19 = .ok (.iadd, 1) := by decide +kernel
theorem dX4_readAt_20 : decode cX4_readAt 20 = .ok (.iaload, 1) := by decide +kernel
theorem dX4_readAt_21 : decode cX4_readAt 21 = .ok (.goto 5, 3) := by decide +kernel
theorem dX4_readAt_24 : decode cX4_readAt 24 = .ok (.bipush 32, 2) := by decide +kernel
theorem dX4_readAt_26 : decode cX4_readAt 26 = .ok (.ireturn, 1) := by decide +kernel
set_option maxRecDepth 20000 in
theorem ggX4_compare_X4_isOrder : GoodIn wsX4_compare wsX4_isOrder := goodIn_r _ [6, 7, 26, 27, 28, 29, 30, 31, 32, 33, 34, 35, 36, 37, 38, 39] (by decide +kernel) (by decide +kernel)
set_option maxRecDepth 20000 in
theorem gX4_compare_X4_isOrder : GoodIn wsX4_compare (wsV RX4 73 RX4 yX4_isOrder wsX4_isOrder) := goodIn_app (goodIn_of _ (by decide +kernel)) ggX4_compare_X4_isOrder
set_option maxRecDepth 20000 in
theorem ggX4_compare_X4_isText : GoodIn wsX4_compare wsX4_isText := goodIn_r _ [11, 12, 26, 27, 28, 29, 30, 31, 32, 33, 34, 35, 36, 37, 38, 39] (by decide +kernel) (by decide +kernel)
set_option maxRecDepth 20000 in
theorem gX4_compare_X4_isText : GoodIn wsX4_compare (wsV RX4 82 RX4 yX4_isText wsX4_isText) := goodIn_app (goodIn_of _ (by decide +kernel)) ggX4_compare_X4_isText
set_option maxRecDepth 20000 in
theorem ggX4_compare_X4_readAt : GoodIn wsX4_compare wsX4_readAt := goodIn_r _ [16, 17, 18, 26, 27, 28, 29, 30, 31, 32, 33, 34, 35, 36, 37, 38, 39] (by decide +kernel) (by decide +kernel)
set_option maxRecDepth 20000 in
theorem gX4_compare_X4_readAt : GoodIn wsX4_compare (wsV RX4 85 RX4 yX4_readAt wsX4_readAt) := goodIn_app (goodIn_of _ (by decide +kernel)) ggX4_compare_X4_readAt
set_option maxRecDepth 20000 in
theorem ggX4_compare_X4_rankOf : GoodIn wsX4_compare wsX4_rankOf := goodIn_r _ [22, 23, 24, 25, 26, 27, 28, 29, 30, 31, 32, 33, 34, 35, 36, 37, 38, 39] (by decide +kernel) (by decide +kernel)
set_option maxRecDepth 20000 in
theorem gX4_compare_X4_rankOf : GoodIn wsX4_compare (wsV RX4 79 RX4 yX4_rankOf wsX4_rankOf) := goodIn_app (goodIn_of _ (by decide +kernel)) ggX4_compare_X4_rankOf
theorem dX4_compare_0 : decode cX4_compare 0 = .ok (.aload_n 0, 1) := by decide +kernel
theorem dX4_compare_1 : decode cX4_compare 1 = .ok (.iconst 0, 1) := by decide +kernel
theorem dX4_compare_2 : decode cX4_compare 2 = .ok (.putfield 34, 3) := by decide +kernel
theorem dX4_compare_5 : decode cX4_compare 5 = .ok (.aload_n 0, 1) := by decide +kernel
theorem dX4_compare_6 : decode cX4_compare 6 = .ok (.iload_n 1, 1) := by decide +kernel
theorem dX4_compare_7 : decode cX4_compare 7 = .ok (.invokevirtual 73, 3) := by decide +kernel
theorem dX4_compare_10 : decode cX4_compare 10 = .ok (.ifCond .eq 19, 3) := by decide +kernel
theorem dX4_compare_13 : decode cX4_compare 13 = .ok (.aload_n 0, 1) := by decide +kernel
theorem dX4_compare_14 : decode cX4_compare 14 = .ok (.iload_n 2, 1) := by decide +kernel
theorem dX4_compare_15 : decode cX4_compare 15 = .ok (.invokevirtual 82, 3) := by decide +kernel
theorem dX4_compare_18 : decode cX4_compare 18 = .ok (.ifCond .eq 11, 3) := by decide +kernel
theorem dX4_compare_21 : decode cX4_compare 21 = .ok (.aload_n 0, 1) := by decide +kernel
theorem dX4_compare_22 : decode cX4_compare 22 = .ok (.iload_n 3, 1) := by decide +kernel
theorem dX4_compare_23 : decode cX4_compare 23 = .ok (.invokevirtual 82, 3) := by decide +kernel
theorem dX4_compare_26 : decode cX4_compare 26 = .ok (.ifCond .ne 6, 3) := by decide +kernel
theorem dX4_compare_29 : decode cX4_compare 29 = .ok (.bipush (-2), 2) := by decide +kernel
theorem dX4_compare_31 : decode cX4_compare 31 = .ok (.ireturn, 1) := by decide +kernel
theorem dX4_compare_32 : decode cX4_compare 32 = .ok (.iconst 0, 1) := by decide +kernel
theorem dX4_compare_33 : decode cX4_compare 33 = .ok (.istore 4, 2) := by decide +kernel
theorem dX4_compare_35 : decode cX4_compare 35 = .ok (.iload 4, 2) := by decide +kernel
theorem dX4_compare_37 : decode cX4_compare 37 = .ok (.bipush 40, 2) := by decide +kernel
theorem dX4_compare_39 : decode cX4_compare 39 = .ok (.if_icmp .ge 57, 3) := by decide +kernel
theorem dX4_compare_42 : decode cX4_compare 42 = .ok (.aload_n 0, 1) := by decide +kernel
theorem dX4_compare_43 : decode cX4_compare 43 = .ok (.iload_n 1, 1) := by decide +kernel
theorem dX4_compare_44 : decode cX4_compare 44 = .ok (.aload_n 0, 1) := by decide +kernel
theorem dX4_compare_45 : decode cX4_compare 45 = .ok (.iload_n 2, 1) := by decide +kernel
theorem dX4_compare_46 : decode cX4_compare 46 = .ok (.iload 4, 2) := by decide +kernel
theorem dX4_compare_48 : decode cX4_compare 48 = .ok (.invokevirtual 85, 3) := by decide +kernel
theorem dX4_compare_51 : decode cX4_compare 51 = .ok (.invokevirtual 79, 3) := by decide +kernel
theorem dX4_compare_54 : decode cX4_compare 54 = .ok (.istore 5, 2) := by decide +kernel
theorem dX4_compare_56 : decode cX4_compare 56 = .ok (.aload_n 0, 1) := by decide +kernel
theorem dX4_compare_57 : decode cX4_compare 57 = .ok (.iload_n 1, 1) := by decide +kernel
theorem dX4_compare_58 : decode cX4_compare 58 = .ok (.aload_n 0, 1) := by decide +kernel
theorem dX4_compare_59 : decode cX4_compare 59 = .ok (.iload_n 3, 1) := by decide +kernel
theorem dX4_compare_60 : decode cX4_compare 60 = .ok (.iload 4, 2) := by decide +kernel
theorem dX4_compare_62 : decode cX4_compare 62 = .ok (.invokevirtual 85, 3) := by decide +kernel
theorem dX4_compare_65 : decode cX4_compare 65 = .ok (.invokevirtual 79, 3) := by decide +kernel
theorem dX4_compare_68 : decode cX4_compare 68 = .ok (.istore 6, 2) := by decide +kernel
theorem dX4_compare_70 : decode cX4_compare 70 = .ok (.iload 5, 2) := by decide +kernel
theorem dX4_compare_72 : decode cX4_compare 72 = .ok (.iload 6, 2) := by decide +kernel
theorem dX4_compare_74 : decode cX4_compare 74 = .ok (.if_icmp .eq 16, 3) := by decide +kernel
theorem dX4_compare_77 : decode cX4_compare 77 = .ok (.iload 5, 2) := by decide +kernel
theorem dX4_compare_79 : decode cX4_compare 79 = .ok (.iload 6, 2) := by decide +kernel
theorem dX4_compare_81 : decode cX4_compare 81 = .ok (.if_icmp .ge 7, 3) := by decide +kernel
theorem dX4_compare_84 : decode cX4_compare 84 = .ok (.iconst (-1), 1) := by decide +kernel
theorem dX4_compare_85 : decode cX4_compare 85 = .ok (.goto 4, 3) := by decide +kernel
theorem dX4_compare_88 : decode cX4_compare 88 = .ok (.iconst 1, 1) := by decide +kernel
theorem dX4_compare_89 : decode cX4_compare 89 = .ok (.ireturn, 1) := by decide +kernel
theorem dX4_compare_90 : decode cX4_compare 90 = .ok (.iinc 4 1, 3) := by decide +kernel
theorem dX4_compare_93 : decode cX4_compare 93 = .ok (.goto (-58), 3) := by decide +kernel
theorem dX4_compare_96 : decode cX4_compare 96 = .ok (.iconst 0, 1) := by decide +kernel
theorem dX4_compare_97 : decode cX4_compare 97 = .ok (.ireturn, 1) := by decide +kernel
theorem dX4_cls_0 : decode cX4_cls 0 = .ok (.aload_n 0, 1) := by decide +kernel
theorem dX4_cls_1 : decode cX4_cls 1 = .ok (.iconst 0, 1) := by decide +kernel
theorem dX4_cls_2 : decode cX4_cls 2 = .ok (.putfield 34, 3) := by decide +kernel
theorem dX4_cls_5 : decode cX4_cls 5 = .ok (.iload_n 1, 1) := by decide +kernel
theorem dX4_cls_6 : decode cX4_cls 6 = .ok (.bipush 65, 2) := by decide +kernel
theorem dX4_cls_8 : decode cX4_cls 8 = .ok (.if_icmp .lt 13, 3) := by decide +kernel
theorem dX4_cls_11 : decode cX4_cls 11 = .ok (.iload_n 1, 1) := by decide +kernel
theorem dX4_cls_12 : decode cX4_cls 12 = .ok (.bipush 90, 2) := by decide +kernel
theorem dX4_cls_14 : decode cX4_cls 14 = .ok (.if_icmp .gt 7, 3) := by decide +kernel
theorem dX4_cls_17 : decode cX4_cls 17 = .ok (.iconst 1, 1) := by decide +kernel
theorem dX4_cls_18 : decode cX4_cls 18 = .ok (.goto 4, 3) := by decide +kernel
theorem dX4_cls_21 : decode cX4_cls 21 = .ok (.iconst 0, 1) := by decide +kernel
theorem dX4_cls_22 : decode cX4_cls 22 = .ok (.istore_n 3, 1) := by decide +kernel
theorem dX4_cls_23 : decode cX4_cls 23 = .ok (.iload_n 1, 1) := by decide +kernel
theorem dX4_cls_24 : decode cX4_cls 24 = .ok (.bipush 97, 2) := by decide +kernel
theorem dX4_cls_26 : decode cX4_cls 26 = .ok (.if_icmp .lt 13, 3) := by decide +kernel
theorem dX4_cls_29 : decode cX4_cls 29 = .ok (.iload_n 1, 1) := by decide +kernel
theorem dX4_cls_30 : decode cX4_cls 30 = .ok (.bipush 122, 2) := by decide +kernel
theorem dX4_cls_32 : decode cX4_cls 32 = .ok (.if_icmp .gt 7, 3) := by decide +kernel
theorem dX4_cls_35 : decode cX4_cls 35 = .ok (.iconst 1, 1) := by decide +kernel
theorem dX4_cls_36 : decode cX4_cls 36 = .ok (.goto 4, 3) := by decide +kernel
theorem dX4_cls_39 : decode cX4_cls 39 = .ok (.iconst 0, 1) := by decide +kernel
theorem dX4_cls_40 : decode cX4_cls 40 = .ok (.istore 4, 2) := by decide +kernel
theorem dX4_cls_42 : decode cX4_cls 42 = .ok (.iload_n 2, 1) := by decide +kernel
theorem dX4_cls_43 : decode cX4_cls 43 = .ok (.tableswitch 109 0 5 #[37, 55, 70, 72, 75, 87], 37) := by decide +kernel
theorem dX4_cls_80 : decode cX4_cls 80 = .ok (.iload_n 1, 1) := by decide +kernel
theorem dX4_cls_81 : decode cX4_cls 81 = .ok (.bipush 48, 2) := by decide +kernel
theorem dX4_cls_83 : decode cX4_cls 83 = .ok (.if_icmp .lt 13, 3) := by decide +kernel
theorem dX4_cls_86 : decode cX4_cls 86 = .ok (.iload_n 1, 1) := by decide +kernel
theorem dX4_cls_87 : decode cX4_cls 87 = .ok (.bipush 57, 2) := by decide +kernel
theorem dX4_cls_89 : decode cX4_cls 89 = .ok (.if_icmp .gt 7, 3) := by decide +kernel
theorem dX4_cls_92 : decode cX4_cls 92 = .ok (.iconst 1, 1) := by decide +kernel
theorem dX4_cls_93 : decode cX4_cls 93 = .ok (.goto 4, 3) := by decide +kernel
theorem dX4_cls_96 : decode cX4_cls 96 = .ok (.iconst 0, 1) := by decide +kernel
theorem dX4_cls_97 : decode cX4_cls 97 = .ok (.ireturn, 1) := by decide +kernel
theorem dX4_cls_98 : decode cX4_cls 98 = .ok (.iload_n 3, 1) := by decide +kernel
theorem dX4_cls_99 : decode cX4_cls 99 = .ok (.ifCond .ne 8, 3) := by decide +kernel
theorem dX4_cls_102 : decode cX4_cls 102 = .ok (.iload 4, 2) := by decide +kernel
theorem dX4_cls_104 : decode cX4_cls 104 = .ok (.ifCond .eq 7, 3) := by decide +kernel
theorem dX4_cls_107 : decode cX4_cls 107 = .ok (.iconst 1, 1) := by decide +kernel
theorem dX4_cls_108 : decode cX4_cls 108 = .ok (.goto 4, 3) := by decide +kernel
theorem dX4_cls_111 : decode cX4_cls 111 = .ok (.iconst 0, 1) := by decide +kernel
theorem dX4_cls_112 : decode cX4_cls 112 = .ok (.ireturn, 1) := by decide +kernel
theorem dX4_cls_113 : decode cX4_cls 113 = .ok (.iload_n 3, 1) := by decide +kernel
theorem dX4_cls_114 : decode cX4_cls 114 = .ok (.ireturn, 1) := by decide +kernel
theorem dX4_cls_115 : decode cX4_cls 115 = .ok (.iload 4, 2) := by decide +kernel
theorem dX4_cls_117 : decode cX4_cls 117 = .ok (.ireturn, 1) := by decide +kernel
theorem dX4_cls_118 : decode cX4_cls 118 = .ok (.iload_n 1, 1) := by decide +kernel
theorem dX4_cls_119 : decode cX4_cls 119 = .ok (.bipush 32, 2) := by decide +kernel
theorem dX4_cls_121 : decode cX4_cls 121 = .ok (.if_icmp .ne 7, 3) := by decide +kernel
theorem dX4_cls_124 : decode cX4_cls 124 = .ok (.iconst 1, 1) := by decide +kernel
theorem dX4_cls_125 : decode cX4_cls 125 = .ok (.goto 4, 3) := by decide +kernel
theorem dX4_cls_128 : decode cX4_cls 128 = .ok (.iconst 0, 1) := by decide +kernel
theorem dX4_cls_129 : decode cX4_cls 129 = .ok (.ireturn, 1) := by decide +kernel
theorem dX4_cls_130 : decode cX4_cls 130 = .ok (.iload_n 1, 1) := by decide +kernel
theorem dX4_cls_131 : decode cX4_cls 131 = .ok (.ifCond .lt 9, 3) := by decide +kernel
theorem dX4_cls_134 : decode cX4_cls 134 = .ok (.iload_n 1, 1) := by decide +kernel
theorem dX4_cls_135 : decode cX4_cls 135 = .ok (.bipush 32, 2) := by decide +kernel
theorem dX4_cls_137 : decode cX4_cls 137 = .ok (.if_icmp .lt 9, 3) := by decide +kernel
theorem dX4_cls_140 : decode cX4_cls 140 = .ok (.iload_n 1, 1) := by decide +kernel
theorem dX4_cls_141 : decode cX4_cls 141 = .ok (.bipush 127, 2) := by decide +kernel
theorem dX4_cls_143 : decode cX4_cls 143 = .ok (.if_icmp .ne 7, 3) := by decide +kernel
theorem dX4_cls_146 : decode cX4_cls 146 = .ok (.iconst 1, 1) := by decide +kernel
theorem dX4_cls_147 : decode cX4_cls 147 = .ok (.goto 4, 3) := by decide +kernel
theorem dX4_cls_150 : decode cX4_cls 150 = .ok (.iconst 0, 1) := by decide +kernel
theorem dX4_cls_151 : decode cX4_cls 151 = .ok (.ireturn, 1) := by decide +kernel
theorem dX4_cls_152 : decode cX4_cls 152 = .ok (.iconst 0, 1) := by decide +kernel
theorem dX4_cls_153 : decode cX4_cls 153 = .ok (.ireturn, 1) := by decide +kernel
theorem dX4_half_0 : decode cX4_half 0 = .ok (.iload_n 0, 1) := by decide +kernel
theorem dX4_half_1 : decode cX4_half 1 = .ok (.bipush 10, 2) := by decide +kernel
theorem dX4_half_3 : decode cX4_half 3 = .ok (.if_icmp .ge 10, 3) := by decide +kernel
theorem dX4_half_6 : decode cX4_half 6 = .ok (.bipush 48, 2) := by decide +kernel
theorem dX4_half_8 : decode cX4_half 8 = .ok (.iload_n 0, 1) := by decide +kernel
theorem dX4_half_9 : decode cX4_half 9 = .ok (.iadd, 1) := by decide +kernel
theorem dX4_half_10 : decode cX4_half 10 = .ok (.goto 7, 3) := by decide +kernel
theorem dX4_half_13 : decode cX4_half 13 = .ok (.bipush 55, 2) := by decide +kernel
theorem dX4_half_15 : decode cX4_half 15 = .ok (.iload_n 0, 1) := by decide +kernel
theorem dX4_half_16 : decode cX4_half 16 = .ok (.iadd, 1) := by decide +kernel
theorem dX4_half_17 : decode cX4_half 17 = .ok (.i2b, 1) := by decide +kernel
theorem dX4_half_18 : decode cX4_half 18 = .ok (.ireturn, 1) := by decide +kernel
set_option maxRecDepth 20000 in
theorem ggX4_print_X4_isCode : GoodIn wsX4_print wsX4_isCode := goodIn_r _ [5] (by decide +kernel) (by decide +kernel)
set_option maxRecDepth 20000 in
theorem gX4_print_X4_isCode : GoodIn wsX4_print (va_wsS RX4 51 yX4_isCode wsX4_isCode) := goodIn_app (goodIn_of _ (by decide +kernel)) ggX4_print_X4_isCode
set_option maxRecDepth 20000 in
theorem ggX4_print_X4_half : GoodIn wsX4_print wsX4_half := goodIn_r _ [8] (by decide +kernel) (by decide +kernel)
set_option maxRecDepth 20000 in
theorem gX4_print_X4_half : GoodIn wsX4_print (va_wsS RX4 88 yX4_half wsX4_half) := goodIn_app (goodIn_of _ (by decide +kernel)) ggX4_print_X4_half
theorem dX4_print_0 : decode cX4_print 0 = .ok (.aload_n 0, 1) := by decide +kernel
theorem dX4_print_1 : decode cX4_print 1 = .ok (.iconst 0, 1) := by decide +kernel
theorem dX4_print_2 : decode cX4_print 2 = .ok (.putfield 34, 3) := by decide +kernel
theorem dX4_print_5 : decode cX4_print 5 = .ok (.iload_n 1, 1) := by decide +kernel
theorem dX4_print_6 : decode cX4_print 6 = .ok (.invokestatic 51, 3) := by decide +kernel
theorem dX4_print_9 : decode cX4_print 9 = .ok (.ifCond .ne 5, 3) := by decide +kernel
theorem dX4_print_12 : decode cX4_print 12 = .ok (.iconst 0, 1) := by decide +kernel
theorem dX4_print_13 : decode cX4_print 13 = .ok (.ireturn, 1) := by decide +kernel
theorem dX4_print_14 : decode cX4_print 14 = .ok (.iload_n 1, 1) := by decide +kernel
theorem dX4_print_15 : decode cX4_print 15 = .ok (.bipush 16, 2) := by decide +kernel
theorem dX4_print_17 : decode cX4_print 17 = .ok (.irem, 1) := by decide +kernel
theorem dX4_print_18 : decode cX4_print 18 = .ok (.istore_n 3, 1) := by decide +kernel
theorem dX4_print_19 : decode cX4_print 19 = .ok (.iload_n 2, 1) := by decide +kernel
theorem dX4_print_20 : decode cX4_print 20 = .ok (.tableswitch 73 0 2 #[28, 36, 41], 28) := by decide +kernel
theorem dX4_print_48 : decode cX4_print 48 = .ok (.iload_n 1, 1) := by decide +kernel
theorem dX4_print_49 : decode cX4_print 49 = .ok (.bipush 16, 2) := by decide +kernel
theorem dX4_print_51 : decode cX4_print 51 = .ok (.idiv, 1) := by decide +kernel
theorem dX4_print_52 : decode cX4_print 52 = .ok (.invokestatic 88, 3) := by decide +kernel
theorem dX4_print_55 : decode cX4_print 55 = .ok (.ireturn, 1) := by decide +kernel
theorem dX4_print_56 : decode cX4_print 56 = .ok (.iload_n 3, 1) := by decide +kernel
theorem dX4_print_57 : decode cX4_print 57 = .ok (.invokestatic 88, 3) := by decide +kernel
theorem dX4_print_60 : decode cX4_print 60 = .ok (.ireturn, 1) := by decide +kernel
theorem dX4_print_61 : decode cX4_print 61 = .ok (.iload_n 3, 1) := by decide +kernel
theorem dX4_print_62 : decode cX4_print 62 = .ok (.bipush 11, 2) := by decide +kernel
theorem dX4_print_64 : decode cX4_print 64 = .ok (.if_icmp .eq 9, 3) := by decide +kernel
theorem dX4_print_67 : decode cX4_print 67 = .ok (.iload_n 3, 1) := by decide +kernel
theorem dX4_print_68 : decode cX4_print 68 = .ok (.bipush 13, 2) := by decide +kernel
theorem dX4_print_70 : decode cX4_print 70 = .ok (.if_icmp .ne 8, 3) := by decide +kernel
theorem dX4_print_73 : decode cX4_print 73 = .ok (.bipush 45, 2) := by decide +kernel
theorem dX4_print_75 : decode cX4_print 75 = .ok (.goto 16, 3) := by decide +kernel
theorem dX4_print_78 : decode cX4_print 78 = .ok (.iload_n 3, 1) := by decide +kernel
theorem dX4_print_79 : decode cX4_print 79 = .ok (.bipush 9, 2) := by decide +kernel
theorem dX4_print_81 : decode cX4_print 81 = .ok (.if_icmp .le 8, 3) := by decide +kernel
theorem dX4_print_84 : decode cX4_print 84 = .ok (.bipush 43, 2) := by decide +kernel
theorem dX4_print_86 : decode cX4_print 86 = .ok (.goto 5, 3) := by decide +kernel
theorem dX4_print_89 : decode cX4_print 89 = .ok (.bipush 63, 2) := by decide +kernel
theorem dX4_print_91 : decode cX4_print 91 = .ok (.i2b, 1) := by decide +kernel
theorem dX4_print_92 : decode cX4_print 92 = .ok (.ireturn, 1) := by decide +kernel
theorem dX4_print_93 : decode cX4_print 93 = .ok (.iconst 0, 1) := by decide +kernel
theorem dX4_print_94 : decode cX4_print 94 = .ok (.ireturn, 1) := by decide +kernel
