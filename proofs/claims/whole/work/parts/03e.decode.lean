theorem dX11_copies_9 : decode cX11_copies 9 = .ok (.iload_n 2, 1) := by decide +kernel
theorem dX11_copies_10 : decode cX11_copies 10 = .ok (.aload_n 0, 1) := by decide +kernel
theorem dX11_copies_11 : decode cX11_copies 11 = .ok (.iload_n 2, 1) := by decide +kernel
theorem dX11_copies_12 : decode cX11_copies 12 = .ok (.iaload, 1) := by decide +kernel
theorem dX11_copies_13 : decode cX11_copies 13 = .ok (.iastore, 1) := by decide +kernel
theorem dX11_copies_14 : decode cX11_copies 14 = .ok (.iinc 2 1, 3) := by decide +kernel
theorem dX11_copies_17 : decode cX11_copies 17 = .ok (.goto (-15), 3) := by decide +kernel
theorem dX11_copies_20 : decode cX11_copies 20 = .ok (.return_, 1) := by decide +kernel
theorem dX11_has_0 : decode cX11_has 0 = .ok (.iload_n 0, 1) := by decide +kernel
theorem dX11_has_1 : decode cX11_has 1 = .ok (.iload_n 1, 1) := by decide +kernel
theorem dX11_has_2 : decode cX11_has 2 = .ok (.ishr, 1) := by decide +kernel
theorem dX11_has_3 : decode cX11_has 3 = .ok (.iconst 1, 1) := by decide +kernel
theorem dX11_has_4 : decode cX11_has 4 = .ok (.iand, 1) := by decide +kernel
theorem dX11_has_5 : decode cX11_has 5 = .ok (.iconst 1, 1) := by decide +kernel
theorem dX11_has_6 : decode cX11_has 6 = .ok (.if_icmp .ne 7, 3) := by decide +kernel
theorem dX11_has_9 : decode cX11_has 9 = .ok (.iconst 1, 1) := by decide +kernel
theorem dX11_has_10 : decode cX11_has 10 = .ok (.goto 4, 3) := by decide +kernel
theorem dX11_has_13 : decode cX11_has 13 = .ok (.iconst 0, 1) := by decide +kernel
theorem dX11_has_14 : decode cX11_has 14 = .ok (.ireturn, 1) := by decide +kernel
theorem dX11_ones_0 : decode cX11_ones 0 = .ok (.iconst 0, 1) := by decide +kernel
theorem dX11_ones_1 : decode cX11_ones 1 = .ok (.istore_n 1, 1) := by decide +kernel
theorem dX11_ones_2 : decode cX11_ones 2 = .ok (.iconst 0, 1) := by decide +kernel
theorem dX11_ones_3 : decode cX11_ones 3 = .ok (.istore_n 2, 1) := by decide +kernel
theorem dX11_ones_4 : decode cX11_ones 4 = .ok (.iload_n 2, 1) := by decide +kernel
theorem dX11_ones_5 : decode cX11_ones 5 = .ok (.bipush 8, 2) := by decide +kernel
theorem dX11_ones_7 : decode cX11_ones 7 = .ok (.if_icmp .ge 17, 3) := by decide +kernel
theorem dX11_ones_10 : decode cX11_ones 10 = .ok (.iload_n 1, 1) := by decide +kernel
theorem dX11_ones_11 : decode cX11_ones 11 = .ok (.iload_n 0, 1) := by decide +kernel
theorem dX11_ones_12 : decode cX11_ones 12 = .ok (.iload_n 2, 1) := by decide +kernel
theorem dX11_ones_13 : decode cX11_ones 13 = .ok (.ishr, 1) := by decide +kernel
theorem dX11_ones_14 : decode cX11_ones 14 = .ok (.iconst 1, 1) := by decide +kernel
theorem dX11_ones_15 : decode cX11_ones 15 = .ok (.iand, 1) := by decide +kernel
theorem dX11_ones_16 : decode cX11_ones 16 = .ok (.iadd, 1) := by decide +kernel
theorem dX11_ones_17 : decode cX11_ones 17 = .ok (.istore_n 1, 1) := by decide +kernel
theorem dX11_ones_18 : decode cX11_ones 18 = .ok (.iinc 2 1, 3) := by decide +kernel
theorem dX11_ones_21 : decode cX11_ones 21 = .ok (.goto (-17), 3) := by decide +kernel
theorem dX11_ones_24 : decode cX11_ones 24 = .ok (.iload_n 1, 1) := by decide +kernel
theorem dX11_ones_25 : decode cX11_ones 25 = .ok (.ireturn, 1) := by decide +kernel
set_option maxRecDepth 20000 in
theorem ggX11_isClaim_X11_in : GoodIn wsX11_isClaim wsX11_in := goodIn_r _ [5] (by decide +kernel) (by decide +kernel)
set_option maxRecDepth 20000 in
theorem gX11_isClaim_X11_in : GoodIn wsX11_isClaim (va_wsS RX11 57 yX11_in wsX11_in) := goodIn_app (goodIn_of _ (by decide +kernel)) ggX11_isClaim_X11_in
theorem dX11_isClaim_0 : decode cX11_isClaim 0 = .ok (.iload_n 1, 1) := by decide +kernel
theorem dX11_isClaim_1 : decode cX11_isClaim 1 = .ok (.i2l, 1) := by decide +kernel
theorem dX11_isClaim_2 : decode cX11_isClaim 2 = .ok (.lconst 0, 1) := by decide +kernel
theorem dX11_isClaim_3 : decode cX11_isClaim 3 = .ok (.aload_n 0, 1) := by decide +kernel
theorem dX11_isClaim_4 : decode cX11_isClaim 4 = .ok (.getfield 9, 3) := by decide +kernel
theorem dX11_isClaim_7 : decode cX11_isClaim 7 = .ok (.bipush 42, 2) := by decide +kernel
theorem dX11_isClaim_9 : decode cX11_isClaim 9 = .ok (.iaload, 1) := by decide +kernel
theorem dX11_isClaim_10 : decode cX11_isClaim 10 = .ok (.iconst 1, 1) := by decide +kernel
theorem dX11_isClaim_11 : decode cX11_isClaim 11 = .ok (.isub, 1) := by decide +kernel
theorem dX11_isClaim_12 : decode cX11_isClaim 12 = .ok (.i2l, 1) := by decide +kernel
theorem dX11_isClaim_13 : decode cX11_isClaim 13 = .ok (.invokestatic 57, 3) := by decide +kernel
theorem dX11_isClaim_16 : decode cX11_isClaim 16 = .ok (.ireturn, 1) := by decide +kernel
set_option maxRecDepth 20000 in
theorem ggX11_isHeard_X11_has : GoodIn wsX11_isHeard wsX11_has := goodIn_r _ [5] (by decide +kernel) (by decide +kernel)
set_option maxRecDepth 20000 in
theorem gX11_isHeard_X11_has : GoodIn wsX11_isHeard (va_wsS RX11 61 yX11_has wsX11_has) := goodIn_app (goodIn_of _ (by decide +kernel)) ggX11_isHeard_X11_has
theorem dX11_isHeard_0 : decode cX11_isHeard 0 = .ok (.aload_n 0, 1) := by decide +kernel
theorem dX11_isHeard_1 : decode cX11_isHeard 1 = .ok (.getfield 9, 3) := by decide +kernel
theorem dX11_isHeard_4 : decode cX11_isHeard 4 = .ok (.bipush 40, 2) := by decide +kernel
theorem dX11_isHeard_6 : decode cX11_isHeard 6 = .ok (.iaload, 1) := by decide +kernel
theorem dX11_isHeard_7 : decode cX11_isHeard 7 = .ok (.iload_n 1, 1) := by decide +kernel
theorem dX11_isHeard_8 : decode cX11_isHeard 8 = .ok (.invokestatic 61, 3) := by decide +kernel
theorem dX11_isHeard_11 : decode cX11_isHeard 11 = .ok (.ireturn, 1) := by decide +kernel
set_option maxRecDepth 20000 in
theorem ggX11_minds_X11_copies : GoodIn wsX11_minds wsX11_copies := goodIn_r _ [6] (by decide +kernel) (by decide +kernel)
set_option maxRecDepth 20000 in
theorem gX11_minds_X11_copies : GoodIn wsX11_minds (va_wsS RX11 65 yX11_copies wsX11_copies) := goodIn_app (goodIn_of _ (by decide +kernel)) ggX11_minds_X11_copies
theorem dX11_minds_0 : decode cX11_minds 0 = .ok (.aload_n 0, 1) := by decide +kernel
theorem dX11_minds_1 : decode cX11_minds 1 = .ok (.getfield 9, 3) := by decide +kernel
theorem dX11_minds_4 : decode cX11_minds 4 = .ok (.aload_n 0, 1) := by decide +kernel
theorem dX11_minds_5 : decode cX11_minds 5 = .ok (.getfield 16, 3) := by decide +kernel
theorem dX11_minds_8 : decode cX11_minds 8 = .ok (.invokestatic 65, 3) := by decide +kernel
theorem dX11_minds_11 : decode cX11_minds 11 = .ok (.return_, 1) := by decide +kernel
set_option maxRecDepth 20000 in
theorem ggX11_forgets_X11_copies : GoodIn wsX11_forgets wsX11_copies := goodIn_r _ [6] (by decide +kernel) (by decide +kernel)
set_option maxRecDepth 20000 in
theorem gX11_forgets_X11_copies : GoodIn wsX11_forgets (va_wsS RX11 65 yX11_copies wsX11_copies) := goodIn_app (goodIn_of _ (by decide +kernel)) ggX11_forgets_X11_copies
theorem dX11_forgets_0 : decode cX11_forgets 0 = .ok (.aload_n 0, 1) := by decide +kernel
theorem dX11_forgets_1 : decode cX11_forgets 1 = .ok (.getfield 16, 3) := by decide +kernel
theorem dX11_forgets_4 : decode cX11_forgets 4 = .ok (.aload_n 0, 1) := by decide +kernel
theorem dX11_forgets_5 : decode cX11_forgets 5 = .ok (.getfield 9, 3) := by decide +kernel
theorem dX11_forgets_8 : decode cX11_forgets 8 = .ok (.invokestatic 65, 3) := by decide +kernel
theorem dX11_forgets_11 : decode cX11_forgets 11 = .ok (.return_, 1) := by decide +kernel
theorem dX11_lets_0 : decode cX11_lets 0 = .ok (.aload_n 0, 1) := by decide +kernel
theorem dX11_lets_1 : decode cX11_lets 1 = .ok (.getfield 9, 3) := by decide +kernel
theorem dX11_lets_4 : decode cX11_lets 4 = .ok (.iconst 0, 1) := by decide +kernel
theorem dX11_lets_5 : decode cX11_lets 5 = .ok (.iload_n 1, 1) := by decide +kernel
theorem dX11_lets_6 : decode cX11_lets 6 = .ok (.iadd, 1) := by decide +kernel
theorem dX11_lets_7 : decode cX11_lets 7 = .ok (.iaload, 1) := by decide +kernel
theorem dX11_lets_8 : decode cX11_lets 8 = .ok (.istore_n 3, 1) := by decide +kernel
theorem dX11_lets_9 : decode cX11_lets 9 = .ok (.aload_n 0, 1) := by decide +kernel
theorem dX11_lets_10 : decode cX11_lets 10 = .ok (.getfield 9, 3) := by decide +kernel
theorem dX11_lets_13 : decode cX11_lets 13 = .ok (.iconst 0, 1) := by decide +kernel
theorem dX11_lets_14 : decode cX11_lets 14 = .ok (.iload_n 2, 1) := by decide +kernel
theorem dX11_lets_15 : decode cX11_lets 15 = .ok (.iadd, 1) := by decide +kernel
theorem dX11_lets_16 : decode cX11_lets 16 = .ok (.iaload, 1) := by decide +kernel
theorem dX11_lets_17 : decode cX11_lets 17 = .ok (.istore 4, 2) := by decide +kernel
theorem dX11_lets_19 : decode cX11_lets 19 = .ok (.iload_n 3, 1) := by decide +kernel
theorem dX11_lets_20 : decode cX11_lets 20 = .ok (.iconst 5, 1) := by decide +kernel
theorem dX11_lets_21 : decode cX11_lets 21 = .ok (.if_icmp .eq 34, 3) := by decide +kernel
theorem dX11_lets_24 : decode cX11_lets 24 = .ok (.iload_n 3, 1) := by decide +kernel
theorem dX11_lets_25 : decode cX11_lets 25 = .ok (.iconst 1, 1) := by decide +kernel
theorem dX11_lets_26 : decode cX11_lets 26 = .ok (.if_icmp .eq 8, 3) := by decide +kernel
theorem dX11_lets_29 : decode cX11_lets 29 = .ok (.iload_n 3, 1) := by decide +kernel
theorem dX11_lets_30 : decode cX11_lets 30 = .ok (.iconst 4, 1) := by decide +kernel
theorem dX11_lets_31 : decode cX11_lets 31 = .ok (.if_icmp .ne 26, 3) := by decide +kernel
theorem dX11_lets_34 : decode cX11_lets 34 = .ok (.aload_n 0, 1) := by decide +kernel
theorem dX11_lets_35 : decode cX11_lets 35 = .ok (.getfield 9, 3) := by decide +kernel
theorem dX11_lets_38 : decode cX11_lets 38 = .ok (.bipush 8, 2) := by decide +kernel
theorem dX11_lets_40 : decode cX11_lets 40 = .ok (.iload_n 2, 1) := by decide +kernel
theorem dX11_lets_41 : decode cX11_lets 41 = .ok (.iadd, 1) := by decide +kernel
theorem dX11_lets_42 : decode cX11_lets 42 = .ok (.iaload, 1) := by decide +kernel
theorem dX11_lets_43 : decode cX11_lets 43 = .ok (.aload_n 0, 1) := by decide +kernel
theorem dX11_lets_44 : decode cX11_lets 44 = .ok (.getfield 9, 3) := by decide +kernel
theorem dX11_lets_47 : decode cX11_lets 47 = .ok (.bipush 8, 2) := by decide +kernel
theorem dX11_lets_49 : decode cX11_lets 49 = .ok (.iload_n 1, 1) := by decide +kernel
theorem dX11_lets_50 : decode cX11_lets 50 = .ok (.iadd, 1) := by decide +kernel
theorem dX11_lets_51 : decode cX11_lets 51 = .ok (.iaload, 1) := by decide +kernel
theorem dX11_lets_52 : decode cX11_lets 52 = .ok (.if_icmp .le 5, 3) := by decide +kernel
theorem dX11_lets_55 : decode cX11_lets 55 = .ok (.iconst 0, 1) := by decide +kernel
theorem dX11_lets_56 : decode cX11_lets 56 = .ok (.ireturn, 1) := by decide +kernel
theorem dX11_lets_57 : decode cX11_lets 57 = .ok (.iload 4, 2) := by decide +kernel
theorem dX11_lets_59 : decode cX11_lets 59 = .ok (.iconst 2, 1) := by decide +kernel
theorem dX11_lets_60 : decode cX11_lets 60 = .ok (.if_icmp .eq 9, 3) := by decide +kernel
theorem dX11_lets_63 : decode cX11_lets 63 = .ok (.iload 4, 2) := by decide +kernel
theorem dX11_lets_65 : decode cX11_lets 65 = .ok (.iconst 3, 1) := by decide +kernel
theorem dX11_lets_66 : decode cX11_lets 66 = .ok (.if_icmp .ne 26, 3) := by decide +kernel
theorem dX11_lets_69 : decode cX11_lets 69 = .ok (.aload_n 0, 1) := by decide +kernel
theorem dX11_lets_70 : decode cX11_lets 70 = .ok (.getfield 9, 3) := by decide +kernel
theorem dX11_lets_73 : decode cX11_lets 73 = .ok (.bipush 8, 2) := by decide +kernel
theorem dX11_lets_75 : decode cX11_lets 75 = .ok (.iload_n 1, 1) := by decide +kernel
theorem dX11_lets_76 : decode cX11_lets 76 = .ok (.iadd, 1) := by decide +kernel
theorem dX11_lets_77 : decode cX11_lets 77 = .ok (.iaload, 1) := by decide +kernel
theorem dX11_lets_78 : decode cX11_lets 78 = .ok (.aload_n 0, 1) := by decide +kernel
theorem dX11_lets_79 : decode cX11_lets 79 = .ok (.getfield 9, 3) := by decide +kernel
theorem dX11_lets_82 : decode cX11_lets 82 = .ok (.bipush 8, 2) := by decide +kernel
theorem dX11_lets_84 : decode cX11_lets 84 = .ok (.iload_n 2, 1) := by decide +kernel
theorem dX11_lets_85 : decode cX11_lets 85 = .ok (.iadd, 1) := by decide +kernel
theorem dX11_lets_86 : decode cX11_lets 86 = .ok (.iaload, 1) := by decide +kernel
theorem dX11_lets_87 : decode cX11_lets 87 = .ok (.if_icmp .ge 5, 3) := by decide +kernel
theorem dX11_lets_90 : decode cX11_lets 90 = .ok (.iconst 0, 1) := by decide +kernel
theorem dX11_lets_91 : decode cX11_lets 91 = .ok (.ireturn, 1) := by decide +kernel
theorem dX11_lets_92 : decode cX11_lets 92 = .ok (.iload 4, 2) := by decide +kernel
theorem dX11_lets_94 : decode cX11_lets 94 = .ok (.iconst 3, 1) := by decide +kernel
theorem dX11_lets_95 : decode cX11_lets 95 = .ok (.if_icmp .ne 8, 3) := by decide +kernel
theorem dX11_lets_98 : decode cX11_lets 98 = .ok (.iload_n 3, 1) := by decide +kernel
theorem dX11_lets_99 : decode cX11_lets 99 = .ok (.iconst 3, 1) := by decide +kernel
theorem dX11_lets_100 : decode cX11_lets 100 = .ok (.if_icmp .ne 7, 3) := by decide +kernel
theorem dX11_lets_103 : decode cX11_lets 103 = .ok (.iconst 1, 1) := by decide +kernel
theorem dX11_lets_104 : decode cX11_lets 104 = .ok (.goto 4, 3) := by decide +kernel
theorem dX11_lets_107 : decode cX11_lets 107 = .ok (.iconst 0, 1) := by decide +kernel
theorem dX11_lets_108 : decode cX11_lets 108 = .ok (.ireturn, 1) := by decide +kernel
set_option maxRecDepth 20000 in
theorem ggX11_hits_X11_isHeard : GoodIn wsX11_hits wsX11_isHeard := goodIn_r _ [6, 1, 7, 8, 5, 9, 14, 15, 16, 17, 18, 19, 20, 21, 22, 23, 24, 25, 26, 27, 28, 29, 30, 31, 32, 33, 34, 35, 36, 37] (by decide +kernel) (by decide +kernel)
set_option maxRecDepth 20000 in
theorem gX11_hits_X11_isHeard : GoodIn wsX11_hits (wsV RX11 69 RX11 yX11_isHeard wsX11_isHeard) := goodIn_app (goodIn_of _ (by decide +kernel)) ggX11_hits_X11_isHeard
set_option maxRecDepth 20000 in
theorem ggX11_hits_X11_has : GoodIn wsX11_hits wsX11_has := goodIn_r _ [9] (by decide +kernel) (by decide +kernel)
set_option maxRecDepth 20000 in
theorem gX11_hits_X11_has : GoodIn wsX11_hits (va_wsS RX11 61 yX11_has wsX11_has) := goodIn_app (goodIn_of _ (by decide +kernel)) ggX11_hits_X11_has
set_option maxRecDepth 20000 in
theorem ggX11_hits_X11_lets : GoodIn wsX11_hits wsX11_lets := goodIn_r _ [13, 1, 14, 15, 16, 17, 18, 19, 20, 21, 22, 23, 24, 25, 26, 27, 28, 29, 30, 31, 32, 33, 34, 35, 36, 37] (by decide +kernel) (by decide +kernel)
set_option maxRecDepth 20000 in
theorem gX11_hits_X11_lets : GoodIn wsX11_hits (wsV RX11 73 RX11 yX11_lets wsX11_lets) := goodIn_app (goodIn_of _ (by decide +kernel)) ggX11_hits_X11_lets
theorem dX11_hits_0 : decode cX11_hits 0 = .ok (.aload_n 0, 1) := by decide +kernel
theorem dX11_hits_1 : decode cX11_hits 1 = .ok (.iload_n 1, 1) := by decide +kernel
theorem dX11_hits_2 : decode cX11_hits 2 = .ok (.invokevirtual 69, 3) := by decide +kernel
theorem dX11_hits_5 : decode cX11_hits 5 = .ok (.ifCond .eq 11, 3) := by decide +kernel
theorem dX11_hits_8 : decode cX11_hits 8 = .ok (.aload_n 0, 1) := by decide +kernel
theorem dX11_hits_9 : decode cX11_hits 9 = .ok (.iload_n 2, 1) := by decide +kernel
theorem dX11_hits_10 : decode cX11_hits 10 = .ok (.invokevirtual 69, 3) := by decide +kernel
theorem dX11_hits_13 : decode cX11_hits 13 = .ok (.ifCond .ne 5, 3) := by decide +kernel
theorem dX11_hits_16 : decode cX11_hits 16 = .ok (.iconst 0, 1) := by decide +kernel
theorem dX11_hits_17 : decode cX11_hits 17 = .ok (.ireturn, 1) := by decide +kernel
theorem dX11_hits_18 : decode cX11_hits 18 = .ok (.iload_n 1, 1) := by decide +kernel
theorem dX11_hits_19 : decode cX11_hits 19 = .ok (.iload_n 2, 1) := by decide +kernel
theorem dX11_hits_20 : decode cX11_hits 20 = .ok (.if_icmp .ne 23, 3) := by decide +kernel
theorem dX11_hits_23 : decode cX11_hits 23 = .ok (.aload_n 0, 1) := by decide +kernel
theorem dX11_hits_24 : decode cX11_hits 24 = .ok (.getfield 9, 3) := by decide +kernel
theorem dX11_hits_27 : decode cX11_hits 27 = .ok (.iconst 0, 1) := by decide +kernel
theorem dX11_hits_28 : decode cX11_hits 28 = .ok (.iload_n 1, 1) := by decide +kernel
theorem dX11_hits_29 : decode cX11_hits 29 = .ok (.iadd, 1) := by decide +kernel
theorem dX11_hits_30 : decode cX11_hits 30 = .ok (.iaload, 1) := by decide +kernel
theorem dX11_hits_31 : decode cX11_hits 31 = .ok (.iconst 4, 1) := by decide +kernel
theorem dX11_hits_32 : decode cX11_hits 32 = .ok (.if_icmp .ne 7, 3) := by decide +kernel
theorem dX11_hits_35 : decode cX11_hits 35 = .ok (.iconst 1, 1) := by decide +kernel
theorem dX11_hits_36 : decode cX11_hits 36 = .ok (.goto 37, 3) := by decide +kernel
theorem dX11_hits_39 : decode cX11_hits 39 = .ok (.iconst 0, 1) := by decide +kernel
theorem dX11_hits_40 : decode cX11_hits 40 = .ok (.goto 33, 3) := by decide +kernel
theorem dX11_hits_43 : decode cX11_hits 43 = .ok (.aload_n 0, 1) := by decide +kernel
theorem dX11_hits_44 : decode cX11_hits 44 = .ok (.getfield 9, 3) := by decide +kernel
theorem dX11_hits_47 : decode cX11_hits 47 = .ok (.bipush 24, 2) := by decide +kernel
theorem dX11_hits_49 : decode cX11_hits 49 = .ok (.iload_n 1, 1) := by decide +kernel
theorem dX11_hits_50 : decode cX11_hits 50 = .ok (.iadd, 1) := by decide +kernel
theorem dX11_hits_51 : decode cX11_hits 51 = .ok (.iaload, 1) := by decide +kernel
theorem dX11_hits_52 : decode cX11_hits 52 = .ok (.iload_n 2, 1) := by decide +kernel
theorem dX11_hits_53 : decode cX11_hits 53 = .ok (.invokestatic 61, 3) := by decide +kernel
theorem dX11_hits_56 : decode cX11_hits 56 = .ok (.ifCond .eq 16, 3) := by decide +kernel
theorem dX11_hits_59 : decode cX11_hits 59 = .ok (.aload_n 0, 1) := by decide +kernel
theorem dX11_hits_60 : decode cX11_hits 60 = .ok (.iload_n 1, 1) := by decide +kernel
theorem dX11_hits_61 : decode cX11_hits 61 = .ok (.iload_n 2, 1) := by decide +kernel
theorem dX11_hits_62 : decode cX11_hits 62 = .ok (.invokevirtual 73, 3) := by decide +kernel
theorem dX11_hits_65 : decode cX11_hits 65 = .ok (.ifCond .eq 7, 3) := by decide +kernel
theorem dX11_hits_68 : decode cX11_hits 68 = .ok (.iconst 1, 1) := by decide +kernel
theorem dX11_hits_69 : decode cX11_hits 69 = .ok (.goto 4, 3) := by decide +kernel
theorem dX11_hits_72 : decode cX11_hits 72 = .ok (.iconst 0, 1) := by decide +kernel
theorem dX11_hits_73 : decode cX11_hits 73 = .ok (.ireturn, 1) := by decide +kernel
set_option maxRecDepth 20000 in
theorem ggX11_reckons_X11_isHeard : GoodIn wsX11_reckons wsX11_isHeard := goodIn_r _ [10, 3, 11, 12, 9, 13, 22, 23, 24, 25, 26, 27, 28, 29, 30, 31, 32, 33, 34, 35, 36, 37, 38, 39, 40, 41, 42, 43, 44, 45] (by decide +kernel) (by decide +kernel)
set_option maxRecDepth 20000 in
theorem gX11_reckons_X11_isHeard : GoodIn wsX11_reckons (wsV RX11 69 RX11 yX11_isHeard wsX11_isHeard) := goodIn_app (goodIn_of _ (by decide +kernel)) ggX11_reckons_X11_isHeard
set_option maxRecDepth 20000 in
theorem ggX11_reckons_X11_hits : GoodIn wsX11_reckons wsX11_hits := goodIn_r _ [17, 3, 6, 7, 8, 9, 10, 11, 12, 13, 18, 19, 20, 21, 22, 23, 24, 25, 26, 27, 28, 29, 30, 31, 32, 33, 34, 35, 36, 37, 38, 39, 40, 41, 42, 43, 44, 45] (by decide +kernel) (by decide +kernel)
set_option maxRecDepth 20000 in
theorem gX11_reckons_X11_hits : GoodIn wsX11_reckons (wsV RX11 76 RX11 yX11_hits wsX11_hits) := goodIn_app (goodIn_of _ (by decide +kernel)) ggX11_reckons_X11_hits
set_option maxRecDepth 20000 in
theorem ggX11_reckons_X11_has : GoodIn wsX11_reckons wsX11_has := goodIn_r _ [13] (by decide +kernel) (by decide +kernel)
set_option maxRecDepth 20000 in
theorem gX11_reckons_X11_has : GoodIn wsX11_reckons (va_wsS RX11 61 yX11_has wsX11_has) := goodIn_app (goodIn_of _ (by decide +kernel)) ggX11_reckons_X11_has
theorem dX11_reckons_0 : decode cX11_reckons 0 = .ok (.iconst 0, 1) := by decide +kernel
theorem dX11_reckons_1 : decode cX11_reckons 1 = .ok (.istore_n 1, 1) := by decide +kernel
theorem dX11_reckons_2 : decode cX11_reckons 2 = .ok (.iload_n 1, 1) := by decide +kernel
theorem dX11_reckons_3 : decode cX11_reckons 3 = .ok (.bipush 8, 2) := by decide +kernel
theorem dX11_reckons_5 : decode cX11_reckons 5 = .ok (.if_icmp .ge 90, 3) := by decide +kernel
theorem dX11_reckons_8 : decode cX11_reckons 8 = .ok (.aload_n 0, 1) := by decide +kernel
theorem dX11_reckons_9 : decode cX11_reckons 9 = .ok (.getfield 28, 3) := by decide +kernel
theorem dX11_reckons_12 : decode cX11_reckons 12 = .ok (.iload_n 1, 1) := by decide +kernel
theorem dX11_reckons_13 : decode cX11_reckons 13 = .ok (.iconst 0, 1) := by decide +kernel
theorem dX11_reckons_14 : decode cX11_reckons 14 = .ok (.iastore, 1) := by decide +kernel
theorem dX11_reckons_15 : decode cX11_reckons 15 = .ok (.aload_n 0, 1) := by decide +kernel
theorem dX11_reckons_16 : decode cX11_reckons 16 = .ok (.getfield 31, 3) := by decide +kernel
theorem dX11_reckons_19 : decode cX11_reckons 19 = .ok (.iload_n 1, 1) := by decide +kernel
theorem dX11_reckons_20 : decode cX11_reckons 20 = .ok (.aload_n 0, 1) := by decide +kernel
theorem dX11_reckons_21 : decode cX11_reckons 21 = .ok (.iload_n 1, 1) := by decide +kernel
theorem dX11_reckons_22 : decode cX11_reckons 22 = .ok (.invokevirtual 69, 3) := by decide +kernel
theorem dX11_reckons_25 : decode cX11_reckons 25 = .ok (.ifCond .eq 23, 3) := by decide +kernel
theorem dX11_reckons_28 : decode cX11_reckons 28 = .ok (.aload_n 0, 1) := by decide +kernel
theorem dX11_reckons_29 : decode cX11_reckons 29 = .ok (.getfield 9, 3) := by decide +kernel
theorem dX11_reckons_32 : decode cX11_reckons 32 = .ok (.bipush 32, 2) := by decide +kernel
theorem dX11_reckons_34 : decode cX11_reckons 34 = .ok (.iload_n 1, 1) := by decide +kernel
theorem dX11_reckons_35 : decode cX11_reckons 35 = .ok (.iadd, 1) := by decide +kernel
theorem dX11_reckons_36 : decode cX11_reckons 36 = .ok (.iaload, 1) := by decide +kernel
theorem dX11_reckons_37 : decode cX11_reckons 37 = .ok (.aload_n 0, 1) := by decide +kernel
theorem dX11_reckons_38 : decode cX11_reckons 38 = .ok (.getfield 9, 3) := by decide +kernel
theorem dX11_reckons_41 : decode cX11_reckons 41 = .ok (.bipush 40, 2) := by decide +kernel
theorem dX11_reckons_43 : decode cX11_reckons 43 = .ok (.iaload, 1) := by decide +kernel
theorem dX11_reckons_44 : decode cX11_reckons 44 = .ok (.iand, 1) := by decide +kernel
theorem dX11_reckons_45 : decode cX11_reckons 45 = .ok (.goto 4, 3) := by decide +kernel
theorem dX11_reckons_48 : decode cX11_reckons 48 = .ok (.iconst 0, 1) := by decide +kernel
theorem dX11_reckons_49 : decode cX11_reckons 49 = .ok (.iastore, 1) := by decide +kernel
theorem dX11_reckons_50 : decode cX11_reckons 50 = .ok (.iconst 0, 1) := by decide +kernel
theorem dX11_reckons_51 : decode cX11_reckons 51 = .ok (.istore_n 2, 1) := by decide +kernel
theorem dX11_reckons_52 : decode cX11_reckons 52 = .ok (.iload_n 2, 1) := by decide +kernel
theorem dX11_reckons_53 : decode cX11_reckons 53 = .ok (.bipush 8, 2) := by decide +kernel
theorem dX11_reckons_55 : decode cX11_reckons 55 = .ok (.if_icmp .ge 34, 3) := by decide +kernel
theorem dX11_reckons_58 : decode cX11_reckons 58 = .ok (.aload_n 0, 1) := by decide +kernel
theorem dX11_reckons_59 : decode cX11_reckons 59 = .ok (.getfield 28, 3) := by decide +kernel
theorem dX11_reckons_62 : decode cX11_reckons 62 = .ok (.iload_n 1, 1) := by decide +kernel
theorem dX11_reckons_63 : decode cX11_reckons 63 = .ok (.dup2, 1) := by decide +kernel
theorem dX11_reckons_64 : decode cX11_reckons 64 = .ok (.iaload, 1) := by decide +kernel
theorem dX11_reckons_65 : decode cX11_reckons 65 = .ok (.aload_n 0, 1) := by decide +kernel
theorem dX11_reckons_66 : decode cX11_reckons 66 = .ok (.iload_n 1, 1) := by decide +kernel
theorem dX11_reckons_67 : decode cX11_reckons 67 = .ok (.iload_n 2, 1) := by decide +kernel
theorem dX11_reckons_68 : decode cX11_reckons 68 = .ok (.invokevirtual 76, 3) := by decide +kernel
theorem dX11_reckons_71 : decode cX11_reckons 71 = .ok (.ifCond .eq 9, 3) := by decide +kernel
theorem dX11_reckons_74 : decode cX11_reckons 74 = .ok (.iconst 1, 1) := by decide +kernel
theorem dX11_reckons_75 : decode cX11_reckons 75 = .ok (.iload_n 2, 1) := by decide +kernel
theorem dX11_reckons_76 : decode cX11_reckons 76 = .ok (.ishl, 1) := by decide +kernel
theorem dX11_reckons_77 : decode cX11_reckons 77 = .ok (.goto 4, 3) := by decide +kernel
theorem dX11_reckons_80 : decode cX11_reckons 80 = .ok (.iconst 0, 1) := by decide +kernel
theorem dX11_reckons_81 : decode cX11_reckons 81 = .ok (.ior, 1) := by decide +kernel
theorem dX11_reckons_82 : decode cX11_reckons 82 = .ok (.iastore, 1) := by decide +kernel
theorem dX11_reckons_83 : decode cX11_reckons 83 = .ok (.iinc 2 1, 3) := by decide +kernel
theorem dX11_reckons_86 : decode cX11_reckons 86 = .ok (.goto (-34), 3) := by decide +kernel
theorem dX11_reckons_89 : decode cX11_reckons 89 = .ok (.iinc 1 1, 3) := by decide +kernel
theorem dX11_reckons_92 : decode cX11_reckons 92 = .ok (.goto (-90), 3) := by decide +kernel
theorem dX11_reckons_95 : decode cX11_reckons 95 = .ok (.iconst 0, 1) := by decide +kernel
theorem dX11_reckons_96 : decode cX11_reckons 96 = .ok (.istore_n 1, 1) := by decide +kernel
theorem dX11_reckons_97 : decode cX11_reckons 97 = .ok (.iload_n 1, 1) := by decide +kernel
theorem dX11_reckons_98 : decode cX11_reckons 98 = .ok (.bipush 8, 2) := by decide +kernel
theorem dX11_reckons_100 : decode cX11_reckons 100 = .ok (.if_icmp .ge 55, 3) := by decide +kernel
theorem dX11_reckons_103 : decode cX11_reckons 103 = .ok (.iconst 0, 1) := by decide +kernel
theorem dX11_reckons_104 : decode cX11_reckons 104 = .ok (.istore_n 2, 1) := by decide +kernel
theorem dX11_reckons_105 : decode cX11_reckons 105 = .ok (.iload_n 2, 1) := by decide +kernel
theorem dX11_reckons_106 : decode cX11_reckons 106 = .ok (.bipush 8, 2) := by decide +kernel
theorem dX11_reckons_108 : decode cX11_reckons 108 = .ok (.if_icmp .ge 41, 3) := by decide +kernel
theorem dX11_reckons_111 : decode cX11_reckons 111 = .ok (.aload_n 0, 1) := by decide +kernel
theorem dX11_reckons_112 : decode cX11_reckons 112 = .ok (.getfield 31, 3) := by decide +kernel
theorem dX11_reckons_115 : decode cX11_reckons 115 = .ok (.iload_n 2, 1) := by decide +kernel
theorem dX11_reckons_116 : decode cX11_reckons 116 = .ok (.dup2, 1) := by decide +kernel
theorem dX11_reckons_117 : decode cX11_reckons 117 = .ok (.iaload, 1) := by decide +kernel
theorem dX11_reckons_118 : decode cX11_reckons 118 = .ok (.aload_n 0, 1) := by decide +kernel
theorem dX11_reckons_119 : decode cX11_reckons 119 = .ok (.getfield 31, 3) := by decide +kernel
theorem dX11_reckons_122 : decode cX11_reckons 122 = .ok (.iload_n 2, 1) := by decide +kernel
theorem dX11_reckons_123 : decode cX11_reckons 123 = .ok (.iaload, 1) := by decide +kernel
theorem dX11_reckons_124 : decode cX11_reckons 124 = .ok (.iload_n 1, 1) := by decide +kernel
theorem dX11_reckons_125 : decode cX11_reckons 125 = .ok (.invokestatic 61, 3) := by decide +kernel
theorem dX11_reckons_128 : decode cX11_reckons 128 = .ok (.ifCond .eq 12, 3) := by decide +kernel
theorem dX11_reckons_131 : decode cX11_reckons 131 = .ok (.aload_n 0, 1) := by decide +kernel
theorem dX11_reckons_132 : decode cX11_reckons 132 = .ok (.getfield 31, 3) := by decide +kernel
theorem dX11_reckons_135 : decode cX11_reckons 135 = .ok (.iload_n 1, 1) := by decide +kernel
theorem dX11_reckons_136 : decode cX11_reckons 136 = .ok (.iaload, 1) := by decide +kernel
theorem dX11_reckons_137 : decode cX11_reckons 137 = .ok (.goto 4, 3) := by decide +kernel
theorem dX11_reckons_140 : decode cX11_reckons 140 = .ok (.iconst 0, 1) := by decide +kernel
theorem dX11_reckons_141 : decode cX11_reckons 141 = .ok (.ior, 1) := by decide +kernel
theorem dX11_reckons_142 : decode cX11_reckons 142 = .ok (.iastore, 1) := by decide +kernel
theorem dX11_reckons_143 : decode cX11_reckons 143 = .ok (.iinc 2 1, 3) := by decide +kernel
theorem dX11_reckons_146 : decode cX11_reckons 146 = .ok (.goto (-41), 3) := by decide +kernel
theorem dX11_reckons_149 : decode cX11_reckons 149 = .ok (.iinc 1 1, 3) := by decide +kernel
theorem dX11_reckons_152 : decode cX11_reckons 152 = .ok (.goto (-55), 3) := by decide +kernel
theorem dX11_reckons_155 : decode cX11_reckons 155 = .ok (.iconst 0, 1) := by decide +kernel
theorem dX11_reckons_156 : decode cX11_reckons 156 = .ok (.istore_n 1, 1) := by decide +kernel
theorem dX11_reckons_157 : decode cX11_reckons 157 = .ok (.iload_n 1, 1) := by decide +kernel
theorem dX11_reckons_158 : decode cX11_reckons 158 = .ok (.bipush 8, 2) := by decide +kernel
theorem dX11_reckons_160 : decode cX11_reckons 160 = .ok (.if_icmp .ge 130, 3) := by decide +kernel
theorem dX11_reckons_163 : decode cX11_reckons 163 = .ok (.aload_n 0, 1) := by decide +kernel
theorem dX11_reckons_164 : decode cX11_reckons 164 = .ok (.getfield 34, 3) := by decide +kernel
theorem dX11_reckons_167 : decode cX11_reckons 167 = .ok (.iload_n 1, 1) := by decide +kernel
theorem dX11_reckons_168 : decode cX11_reckons 168 = .ok (.aload_n 0, 1) := by decide +kernel
theorem dX11_reckons_169 : decode cX11_reckons 169 = .ok (.getfield 28, 3) := by decide +kernel
theorem dX11_reckons_172 : decode cX11_reckons 172 = .ok (.iload_n 1, 1) := by decide +kernel
theorem dX11_reckons_173 : decode cX11_reckons 173 = .ok (.iaload, 1) := by decide +kernel
theorem dX11_reckons_174 : decode cX11_reckons 174 = .ok (.iastore, 1) := by decide +kernel
theorem dX11_reckons_175 : decode cX11_reckons 175 = .ok (.aload_n 0, 1) := by decide +kernel
theorem dX11_reckons_176 : decode cX11_reckons 176 = .ok (.getfield 37, 3) := by decide +kernel
theorem dX11_reckons_179 : decode cX11_reckons 179 = .ok (.iload_n 1, 1) := by decide +kernel
theorem dX11_reckons_180 : decode cX11_reckons 180 = .ok (.iconst 0, 1) := by decide +kernel
theorem dX11_reckons_181 : decode cX11_reckons 181 = .ok (.iastore, 1) := by decide +kernel
theorem dX11_reckons_182 : decode cX11_reckons 182 = .ok (.iconst 0, 1) := by decide +kernel
theorem dX11_reckons_183 : decode cX11_reckons 183 = .ok (.istore_n 2, 1) := by decide +kernel
theorem dX11_reckons_184 : decode cX11_reckons 184 = .ok (.iload_n 2, 1) := by decide +kernel
theorem dX11_reckons_185 : decode cX11_reckons 185 = .ok (.bipush 8, 2) := by decide +kernel
theorem dX11_reckons_187 : decode cX11_reckons 187 = .ok (.if_icmp .ge 97, 3) := by decide +kernel
theorem dX11_reckons_190 : decode cX11_reckons 190 = .ok (.aload_n 0, 1) := by decide +kernel
theorem dX11_reckons_191 : decode cX11_reckons 191 = .ok (.getfield 34, 3) := by decide +kernel
theorem dX11_reckons_194 : decode cX11_reckons 194 = .ok (.iload_n 1, 1) := by decide +kernel
theorem dX11_reckons_195 : decode cX11_reckons 195 = .ok (.dup2, 1) := by decide +kernel
theorem dX11_reckons_196 : decode cX11_reckons 196 = .ok (.iaload, 1) := by decide +kernel
theorem dX11_reckons_197 : decode cX11_reckons 197 = .ok (.aload_n 0, 1) := by decide +kernel
theorem dX11_reckons_198 : decode cX11_reckons 198 = .ok (.getfield 9, 3) := by decide +kernel
theorem dX11_reckons_201 : decode cX11_reckons 201 = .ok (.bipush 41, 2) := by decide +kernel
theorem dX11_reckons_203 : decode cX11_reckons 203 = .ok (.iaload, 1) := by decide +kernel
theorem dX11_reckons_204 : decode cX11_reckons 204 = .ok (.iconst 2, 1) := by decide +kernel
theorem dX11_reckons_205 : decode cX11_reckons 205 = .ok (.irem, 1) := by decide +kernel
theorem dX11_reckons_206 : decode cX11_reckons 206 = .ok (.iconst 1, 1) := by decide +kernel
theorem dX11_reckons_207 : decode cX11_reckons 207 = .ok (.if_icmp .ne 25, 3) := by decide +kernel
theorem dX11_reckons_210 : decode cX11_reckons 210 = .ok (.aload_n 0, 1) := by decide +kernel
theorem dX11_reckons_211 : decode cX11_reckons 211 = .ok (.getfield 31, 3) := by decide +kernel
theorem dX11_reckons_214 : decode cX11_reckons 214 = .ok (.iload_n 1, 1) := by decide +kernel
theorem dX11_reckons_215 : decode cX11_reckons 215 = .ok (.iaload, 1) := by decide +kernel
theorem dX11_reckons_216 : decode cX11_reckons 216 = .ok (.iload_n 2, 1) := by decide +kernel
theorem dX11_reckons_217 : decode cX11_reckons 217 = .ok (.invokestatic 61, 3) := by decide +kernel
theorem dX11_reckons_220 : decode cX11_reckons 220 = .ok (.ifCond .eq 12, 3) := by decide +kernel
theorem dX11_reckons_223 : decode cX11_reckons 223 = .ok (.aload_n 0, 1) := by decide +kernel
theorem dX11_reckons_224 : decode cX11_reckons 224 = .ok (.getfield 28, 3) := by decide +kernel
theorem dX11_reckons_227 : decode cX11_reckons 227 = .ok (.iload_n 2, 1) := by decide +kernel
theorem dX11_reckons_228 : decode cX11_reckons 228 = .ok (.iaload, 1) := by decide +kernel
theorem dX11_reckons_229 : decode cX11_reckons 229 = .ok (.goto 4, 3) := by decide +kernel
theorem dX11_reckons_232 : decode cX11_reckons 232 = .ok (.iconst 0, 1) := by decide +kernel
theorem dX11_reckons_233 : decode cX11_reckons 233 = .ok (.ior, 1) := by decide +kernel
theorem dX11_reckons_234 : decode cX11_reckons 234 = .ok (.iastore, 1) := by decide +kernel
theorem dX11_reckons_235 : decode cX11_reckons 235 = .ok (.aload_n 0, 1) := by decide +kernel
theorem dX11_reckons_236 : decode cX11_reckons 236 = .ok (.getfield 34, 3) := by decide +kernel
theorem dX11_reckons_239 : decode cX11_reckons 239 = .ok (.iload_n 1, 1) := by decide +kernel
theorem dX11_reckons_240 : decode cX11_reckons 240 = .ok (.dup2, 1) := by decide +kernel
theorem dX11_reckons_241 : decode cX11_reckons 241 = .ok (.iaload, 1) := by decide +kernel
theorem dX11_reckons_242 : decode cX11_reckons 242 = .ok (.aload_n 0, 1) := by decide +kernel
theorem dX11_reckons_243 : decode cX11_reckons 243 = .ok (.getfield 9, 3) := by decide +kernel
theorem dX11_reckons_246 : decode cX11_reckons 246 = .ok (.bipush 41, 2) := by decide +kernel
theorem dX11_reckons_248 : decode cX11_reckons 248 = .ok (.iaload, 1) := by decide +kernel
theorem dX11_reckons_249 : decode cX11_reckons 249 = .ok (.iconst 1, 1) := by decide +kernel
theorem dX11_reckons_250 : decode cX11_reckons 250 = .ok (.if_icmp .le 25, 3) := by decide +kernel
theorem dX11_reckons_253 : decode cX11_reckons 253 = .ok (.aload_n 0, 1) := by decide +kernel
theorem dX11_reckons_254 : decode cX11_reckons 254 = .ok (.getfield 28, 3) := by decide +kernel
theorem dX11_reckons_257 : decode cX11_reckons 257 = .ok (.iload_n 1, 1) := by decide +kernel
theorem dX11_reckons_258 : decode cX11_reckons 258 = .ok (.iaload, 1) := by decide +kernel
theorem dX11_reckons_259 : decode cX11_reckons 259 = .ok (.iload_n 2, 1) := by decide +kernel
theorem dX11_reckons_260 : decode cX11_reckons 260 = .ok (.invokestatic 61, 3) := by decide +kernel
theorem dX11_reckons_263 : decode cX11_reckons 263 = .ok (.ifCond .eq 12, 3) := by decide +kernel
theorem dX11_reckons_266 : decode cX11_reckons 266 = .ok (.aload_n 0, 1) := by decide +kernel
theorem dX11_reckons_267 : decode cX11_reckons 267 = .ok (.getfield 31, 3) := by decide +kernel
theorem dX11_reckons_270 : decode cX11_reckons 270 = .ok (.iload_n 2, 1) := by decide +kernel
theorem dX11_reckons_271 : decode cX11_reckons 271 = .ok (.iaload, 1) := by decide +kernel
theorem dX11_reckons_272 : decode cX11_reckons 272 = .ok (.goto 4, 3) := by decide +kernel
theorem dX11_reckons_275 : decode cX11_reckons 275 = .ok (.iconst 0, 1) := by decide +kernel
theorem dX11_reckons_276 : decode cX11_reckons 276 = .ok (.ior, 1) := by decide +kernel
theorem dX11_reckons_277 : decode cX11_reckons 277 = .ok (.iastore, 1) := by decide +kernel
theorem dX11_reckons_278 : decode cX11_reckons 278 = .ok (.iinc 2 1, 3) := by decide +kernel
theorem dX11_reckons_281 : decode cX11_reckons 281 = .ok (.goto (-97), 3) := by decide +kernel
theorem dX11_reckons_284 : decode cX11_reckons 284 = .ok (.iinc 1 1, 3) := by decide +kernel
theorem dX11_reckons_287 : decode cX11_reckons 287 = .ok (.goto (-130), 3) := by decide +kernel
theorem dX11_reckons_290 : decode cX11_reckons 290 = .ok (.iconst 0, 1) := by decide +kernel
theorem dX11_reckons_291 : decode cX11_reckons 291 = .ok (.istore_n 1, 1) := by decide +kernel
theorem dX11_reckons_292 : decode cX11_reckons 292 = .ok (.iload_n 1, 1) := by decide +kernel
theorem dX11_reckons_293 : decode cX11_reckons 293 = .ok (.bipush 8, 2) := by decide +kernel
theorem dX11_reckons_295 : decode cX11_reckons 295 = .ok (.if_icmp .ge 52, 3) := by decide +kernel
theorem dX11_reckons_298 : decode cX11_reckons 298 = .ok (.iconst 0, 1) := by decide +kernel
theorem dX11_reckons_299 : decode cX11_reckons 299 = .ok (.istore_n 2, 1) := by decide +kernel
theorem dX11_reckons_300 : decode cX11_reckons 300 = .ok (.iload_n 2, 1) := by decide +kernel
theorem dX11_reckons_301 : decode cX11_reckons 301 = .ok (.bipush 8, 2) := by decide +kernel
theorem dX11_reckons_303 : decode cX11_reckons 303 = .ok (.if_icmp .ge 38, 3) := by decide +kernel
theorem dX11_reckons_306 : decode cX11_reckons 306 = .ok (.aload_n 0, 1) := by decide +kernel
theorem dX11_reckons_307 : decode cX11_reckons 307 = .ok (.getfield 37, 3) := by decide +kernel
theorem dX11_reckons_310 : decode cX11_reckons 310 = .ok (.iload_n 2, 1) := by decide +kernel
theorem dX11_reckons_311 : decode cX11_reckons 311 = .ok (.dup2, 1) := by decide +kernel
theorem dX11_reckons_312 : decode cX11_reckons 312 = .ok (.iaload, 1) := by decide +kernel
theorem dX11_reckons_313 : decode cX11_reckons 313 = .ok (.aload_n 0, 1) := by decide +kernel
theorem dX11_reckons_314 : decode cX11_reckons 314 = .ok (.getfield 34, 3) := by decide +kernel
theorem dX11_reckons_317 : decode cX11_reckons 317 = .ok (.iload_n 1, 1) := by decide +kernel
theorem dX11_reckons_318 : decode cX11_reckons 318 = .ok (.iaload, 1) := by decide +kernel
theorem dX11_reckons_319 : decode cX11_reckons 319 = .ok (.iload_n 2, 1) := by decide +kernel
theorem dX11_reckons_320 : decode cX11_reckons 320 = .ok (.invokestatic 61, 3) := by decide +kernel
theorem dX11_reckons_323 : decode cX11_reckons 323 = .ok (.ifCond .eq 9, 3) := by decide +kernel
theorem dX11_reckons_326 : decode cX11_reckons 326 = .ok (.iconst 1, 1) := by decide +kernel
theorem dX11_reckons_327 : decode cX11_reckons 327 = .ok (.iload_n 1, 1) := by decide +kernel
theorem dX11_reckons_328 : decode cX11_reckons 328 = .ok (.ishl, 1) := by decide +kernel
theorem dX11_reckons_329 : decode cX11_reckons 329 = .ok (.goto 4, 3) := by decide +kernel
theorem dX11_reckons_332 : decode cX11_reckons 332 = .ok (.iconst 0, 1) := by decide +kernel
theorem dX11_reckons_333 : decode cX11_reckons 333 = .ok (.ior, 1) := by decide +kernel
theorem dX11_reckons_334 : decode cX11_reckons 334 = .ok (.iastore, 1) := by decide +kernel
theorem dX11_reckons_335 : decode cX11_reckons 335 = .ok (.iinc 2 1, 3) := by decide +kernel
theorem dX11_reckons_338 : decode cX11_reckons 338 = .ok (.goto (-38), 3) := by decide +kernel
theorem dX11_reckons_341 : decode cX11_reckons 341 = .ok (.iinc 1 1, 3) := by decide +kernel
theorem dX11_reckons_344 : decode cX11_reckons 344 = .ok (.goto (-52), 3) := by decide +kernel
theorem dX11_reckons_347 : decode cX11_reckons 347 = .ok (.return_, 1) := by decide +kernel
set_option maxRecDepth 20000 in
theorem ggX11_nextIn_X11_isHeard : GoodIn wsX11_nextIn wsX11_isHeard := goodIn_r _ [9, 1, 10, 11, 8, 12, 13, 14, 15, 16, 17, 18, 19, 20, 21, 22, 23, 24, 25, 26, 27, 28, 29, 30, 31, 32, 33, 34, 35, 36] (by decide +kernel) (by decide +kernel)
set_option maxRecDepth 20000 in
theorem gX11_nextIn_X11_isHeard : GoodIn wsX11_nextIn (wsV RX11 69 RX11 yX11_isHeard wsX11_isHeard) := goodIn_app (goodIn_of _ (by decide +kernel)) ggX11_nextIn_X11_isHeard
set_option maxRecDepth 20000 in
theorem ggX11_nextIn_X11_has : GoodIn wsX11_nextIn wsX11_has := goodIn_r _ [12] (by decide +kernel) (by decide +kernel)
set_option maxRecDepth 20000 in
theorem gX11_nextIn_X11_has : GoodIn wsX11_nextIn (va_wsS RX11 61 yX11_has wsX11_has) := goodIn_app (goodIn_of _ (by decide +kernel)) ggX11_nextIn_X11_has
theorem dX11_nextIn_0 : decode cX11_nextIn 0 = .ok (.iconst (-1), 1) := by decide +kernel
theorem dX11_nextIn_1 : decode cX11_nextIn 1 = .ok (.istore_n 1, 1) := by decide +kernel
theorem dX11_nextIn_2 : decode cX11_nextIn 2 = .ok (.iconst 0, 1) := by decide +kernel
theorem dX11_nextIn_3 : decode cX11_nextIn 3 = .ok (.istore_n 2, 1) := by decide +kernel
theorem dX11_nextIn_4 : decode cX11_nextIn 4 = .ok (.iload_n 2, 1) := by decide +kernel
theorem dX11_nextIn_5 : decode cX11_nextIn 5 = .ok (.aload_n 0, 1) := by decide +kernel
theorem dX11_nextIn_6 : decode cX11_nextIn 6 = .ok (.getfield 9, 3) := by decide +kernel
theorem dX11_nextIn_9 : decode cX11_nextIn 9 = .ok (.bipush 42, 2) := by decide +kernel
theorem dX11_nextIn_11 : decode cX11_nextIn 11 = .ok (.iaload, 1) := by decide +kernel
theorem dX11_nextIn_12 : decode cX11_nextIn 12 = .ok (.if_icmp .ge 86, 3) := by decide +kernel
theorem dX11_nextIn_15 : decode cX11_nextIn 15 = .ok (.aload_n 0, 1) := by decide +kernel
theorem dX11_nextIn_16 : decode cX11_nextIn 16 = .ok (.iload_n 2, 1) := by decide +kernel
theorem dX11_nextIn_17 : decode cX11_nextIn 17 = .ok (.invokevirtual 69, 3) := by decide +kernel
theorem dX11_nextIn_20 : decode cX11_nextIn 20 = .ok (.ifCond .eq 39, 3) := by decide +kernel
theorem dX11_nextIn_23 : decode cX11_nextIn 23 = .ok (.aload_n 0, 1) := by decide +kernel
theorem dX11_nextIn_24 : decode cX11_nextIn 24 = .ok (.getfield 79, 3) := by decide +kernel
theorem dX11_nextIn_27 : decode cX11_nextIn 27 = .ok (.aload_n 0, 1) := by decide +kernel
theorem dX11_nextIn_28 : decode cX11_nextIn 28 = .ok (.getfield 83, 3) := by decide +kernel
theorem dX11_nextIn_31 : decode cX11_nextIn 31 = .ok (.ior, 1) := by decide +kernel
theorem dX11_nextIn_32 : decode cX11_nextIn 32 = .ok (.iload_n 2, 1) := by decide +kernel
theorem dX11_nextIn_33 : decode cX11_nextIn 33 = .ok (.invokestatic 61, 3) := by decide +kernel
theorem dX11_nextIn_36 : decode cX11_nextIn 36 = .ok (.ifCond .ne 23, 3) := by decide +kernel
theorem dX11_nextIn_39 : decode cX11_nextIn 39 = .ok (.aload_n 0, 1) := by decide +kernel
theorem dX11_nextIn_40 : decode cX11_nextIn 40 = .ok (.getfield 37, 3) := by decide +kernel
theorem dX11_nextIn_43 : decode cX11_nextIn 43 = .ok (.iload_n 2, 1) := by decide +kernel
theorem dX11_nextIn_44 : decode cX11_nextIn 44 = .ok (.iaload, 1) := by decide +kernel
theorem dX11_nextIn_45 : decode cX11_nextIn 45 = .ok (.aload_n 0, 1) := by decide +kernel
theorem dX11_nextIn_46 : decode cX11_nextIn 46 = .ok (.getfield 83, 3) := by decide +kernel
theorem dX11_nextIn_49 : decode cX11_nextIn 49 = .ok (.iconst (-1), 1) := by decide +kernel
theorem dX11_nextIn_50 : decode cX11_nextIn 50 = .ok (.ixor, 1) := by decide +kernel
theorem dX11_nextIn_51 : decode cX11_nextIn 51 = .ok (.iand, 1) := by decide +kernel
theorem dX11_nextIn_52 : decode cX11_nextIn 52 = .ok (.ifCond .ne 7, 3) := by decide +kernel
theorem dX11_nextIn_55 : decode cX11_nextIn 55 = .ok (.iconst 1, 1) := by decide +kernel
theorem dX11_nextIn_56 : decode cX11_nextIn 56 = .ok (.goto 4, 3) := by decide +kernel
theorem dX11_nextIn_59 : decode cX11_nextIn 59 = .ok (.iconst 0, 1) := by decide +kernel
theorem dX11_nextIn_60 : decode cX11_nextIn 60 = .ok (.istore_n 3, 1) := by decide +kernel
theorem dX11_nextIn_61 : decode cX11_nextIn 61 = .ok (.iload_n 3, 1) := by decide +kernel
theorem dX11_nextIn_62 : decode cX11_nextIn 62 = .ok (.ifCond .eq 30, 3) := by decide +kernel
theorem dX11_nextIn_65 : decode cX11_nextIn 65 = .ok (.iload_n 1, 1) := by decide +kernel
theorem dX11_nextIn_66 : decode cX11_nextIn 66 = .ok (.ifCond .lt 24, 3) := by decide +kernel
theorem dX11_nextIn_69 : decode cX11_nextIn 69 = .ok (.aload_n 0, 1) := by decide +kernel
theorem dX11_nextIn_70 : decode cX11_nextIn 70 = .ok (.getfield 9, 3) := by decide +kernel
theorem dX11_nextIn_73 : decode cX11_nextIn 73 = .ok (.bipush 8, 2) := by decide +kernel
theorem dX11_nextIn_75 : decode cX11_nextIn 75 = .ok (.iload_n 2, 1) := by decide +kernel
theorem dX11_nextIn_76 : decode cX11_nextIn 76 = .ok (.iadd, 1) := by decide +kernel
theorem dX11_nextIn_77 : decode cX11_nextIn 77 = .ok (.iaload, 1) := by decide +kernel
theorem dX11_nextIn_78 : decode cX11_nextIn 78 = .ok (.aload_n 0, 1) := by decide +kernel
theorem dX11_nextIn_79 : decode cX11_nextIn 79 = .ok (.getfield 9, 3) := by decide +kernel
theorem dX11_nextIn_82 : decode cX11_nextIn 82 = .ok (.bipush 8, 2) := by decide +kernel
theorem dX11_nextIn_84 : decode cX11_nextIn 84 = .ok (.iload_n 1, 1) := by decide +kernel
theorem dX11_nextIn_85 : decode cX11_nextIn 85 = .ok (.iadd, 1) := by decide +kernel
theorem dX11_nextIn_86 : decode cX11_nextIn 86 = .ok (.iaload, 1) := by decide +kernel
theorem dX11_nextIn_87 : decode cX11_nextIn 87 = .ok (.if_icmp .le 5, 3) := by decide +kernel
theorem dX11_nextIn_90 : decode cX11_nextIn 90 = .ok (.iload_n 2, 1) := by decide +kernel
theorem dX11_nextIn_91 : decode cX11_nextIn 91 = .ok (.istore_n 1, 1) := by decide +kernel
theorem dX11_nextIn_92 : decode cX11_nextIn 92 = .ok (.iinc 2 1, 3) := by decide +kernel
theorem dX11_nextIn_95 : decode cX11_nextIn 95 = .ok (.goto (-91), 3) := by decide +kernel
theorem dX11_nextIn_98 : decode cX11_nextIn 98 = .ok (.iload_n 1, 1) := by decide +kernel
theorem dX11_nextIn_99 : decode cX11_nextIn 99 = .ok (.ireturn, 1) := by decide +kernel
set_option maxRecDepth 20000 in
theorem ggX11_turnsAll_X11_reckons : GoodIn wsX11_turnsAll wsX11_reckons := goodIn_r _ [10, 11, 12, 13, 4, 14, 15, 16, 17, 9, 18, 19, 20, 21, 22, 23, 24, 25, 26, 27, 28, 29, 34, 35, 36, 37, 38, 39, 40, 41, 42, 43, 44, 45, 46, 47, 48, 49, 50, 51, 52, 53, 54, 55, 56, 57] (by decide +kernel) (by decide +kernel)
set_option maxRecDepth 20000 in
theorem gX11_turnsAll_X11_reckons : GoodIn wsX11_turnsAll (wsV RX11 86 RX11 yX11_reckons wsX11_reckons) := goodIn_app (goodIn_of _ (by decide +kernel)) ggX11_turnsAll_X11_reckons
set_option maxRecDepth 20000 in
theorem ggX11_turnsAll_X11_nextIn : GoodIn wsX11_turnsAll wsX11_nextIn := goodIn_r _ [33, 13, 1, 2, 14, 15, 16, 17, 9, 18, 19, 20, 21, 34, 35, 36, 37, 38, 39, 40, 41, 42, 43, 44, 45, 46, 47, 48, 49, 50, 51, 52, 53, 54, 55, 56, 57] (by decide +kernel) (by decide +kernel)
set_option maxRecDepth 20000 in
theorem gX11_turnsAll_X11_nextIn : GoodIn wsX11_turnsAll (wsV RX11 92 RX11 yX11_nextIn wsX11_nextIn) := goodIn_app (goodIn_of _ (by decide +kernel)) ggX11_turnsAll_X11_nextIn
theorem dX11_turnsAll_0 : decode cX11_turnsAll 0 = .ok (.aload_n 0, 1) := by decide +kernel
theorem dX11_turnsAll_1 : decode cX11_turnsAll 1 = .ok (.invokevirtual 86, 3) := by decide +kernel
theorem dX11_turnsAll_4 : decode cX11_turnsAll 4 = .ok (.aload_n 0, 1) := by decide +kernel
theorem dX11_turnsAll_5 : decode cX11_turnsAll 5 = .ok (.iconst 0, 1) := by decide +kernel
theorem dX11_turnsAll_6 : decode cX11_turnsAll 6 = .ok (.putfield 79, 3) := by decide +kernel
theorem dX11_turnsAll_9 : decode cX11_turnsAll 9 = .ok (.aload_n 0, 1) := by decide +kernel
theorem dX11_turnsAll_10 : decode cX11_turnsAll 10 = .ok (.iconst 0, 1) := by decide +kernel
theorem dX11_turnsAll_11 : decode cX11_turnsAll 11 = .ok (.putfield 83, 3) := by decide +kernel
theorem dX11_turnsAll_14 : decode cX11_turnsAll 14 = .ok (.aload_n 0, 1) := by decide +kernel
theorem dX11_turnsAll_15 : decode cX11_turnsAll 15 = .ok (.iconst 0, 1) := by decide +kernel
theorem dX11_turnsAll_16 : decode cX11_turnsAll 16 = .ok (.putfield 89, 3) := by decide +kernel
theorem dX11_turnsAll_19 : decode cX11_turnsAll 19 = .ok (.aload_n 0, 1) := by decide +kernel
theorem dX11_turnsAll_20 : decode cX11_turnsAll 20 = .ok (.invokevirtual 92, 3) := by decide +kernel
theorem dX11_turnsAll_23 : decode cX11_turnsAll 23 = .ok (.istore_n 1, 1) := by decide +kernel
theorem dX11_turnsAll_24 : decode cX11_turnsAll 24 = .ok (.iload_n 1, 1) := by decide +kernel
theorem dX11_turnsAll_25 : decode cX11_turnsAll 25 = .ok (.ifCond .lt 58, 3) := by decide +kernel
theorem dX11_turnsAll_28 : decode cX11_turnsAll 28 = .ok (.aload_n 0, 1) := by decide +kernel
theorem dX11_turnsAll_29 : decode cX11_turnsAll 29 = .ok (.dup, 1) := by decide +kernel
theorem dX11_turnsAll_30 : decode cX11_turnsAll 30 = .ok (.getfield 79, 3) := by decide +kernel
theorem dX11_turnsAll_33 : decode cX11_turnsAll 33 = .ok (.iconst 1, 1) := by decide +kernel
theorem dX11_turnsAll_34 : decode cX11_turnsAll 34 = .ok (.iload_n 1, 1) := by decide +kernel
theorem dX11_turnsAll_35 : decode cX11_turnsAll 35 = .ok (.ishl, 1) := by decide +kernel
theorem dX11_turnsAll_36 : decode cX11_turnsAll 36 = .ok (.ior, 1) := by decide +kernel
theorem dX11_turnsAll_37 : decode cX11_turnsAll 37 = .ok (.putfield 79, 3) := by decide +kernel
theorem dX11_turnsAll_40 : decode cX11_turnsAll 40 = .ok (.aload_n 0, 1) := by decide +kernel
theorem dX11_turnsAll_41 : decode cX11_turnsAll 41 = .ok (.dup, 1) := by decide +kernel
theorem dX11_turnsAll_42 : decode cX11_turnsAll 42 = .ok (.getfield 83, 3) := by decide +kernel
theorem dX11_turnsAll_45 : decode cX11_turnsAll 45 = .ok (.aload_n 0, 1) := by decide +kernel
theorem dX11_turnsAll_46 : decode cX11_turnsAll 46 = .ok (.getfield 34, 3) := by decide +kernel
theorem dX11_turnsAll_49 : decode cX11_turnsAll 49 = .ok (.iload_n 1, 1) := by decide +kernel
theorem dX11_turnsAll_50 : decode cX11_turnsAll 50 = .ok (.iaload, 1) := by decide +kernel
theorem dX11_turnsAll_51 : decode cX11_turnsAll 51 = .ok (.ior, 1) := by decide +kernel
theorem dX11_turnsAll_52 : decode cX11_turnsAll 52 = .ok (.putfield 83, 3) := by decide +kernel
theorem dX11_turnsAll_55 : decode cX11_turnsAll 55 = .ok (.aload_n 0, 1) := by decide +kernel
theorem dX11_turnsAll_56 : decode cX11_turnsAll 56 = .ok (.getfield 40, 3) := by decide +kernel
theorem dX11_turnsAll_59 : decode cX11_turnsAll 59 = .ok (.aload_n 0, 1) := by decide +kernel
theorem dX11_turnsAll_60 : decode cX11_turnsAll 60 = .ok (.getfield 89, 3) := by decide +kernel
theorem dX11_turnsAll_63 : decode cX11_turnsAll 63 = .ok (.iload_n 1, 1) := by decide +kernel
theorem dX11_turnsAll_64 : decode cX11_turnsAll 64 = .ok (.iastore, 1) := by decide +kernel
theorem dX11_turnsAll_65 : decode cX11_turnsAll 65 = .ok (.aload_n 0, 1) := by decide +kernel
theorem dX11_turnsAll_66 : decode cX11_turnsAll 66 = .ok (.dup, 1) := by decide +kernel
theorem dX11_turnsAll_67 : decode cX11_turnsAll 67 = .ok (.getfield 89, 3) := by decide +kernel
theorem dX11_turnsAll_70 : decode cX11_turnsAll 70 = .ok (.iconst 1, 1) := by decide +kernel
theorem dX11_turnsAll_71 : decode cX11_turnsAll 71 = .ok (.iadd, 1) := by decide +kernel
theorem dX11_turnsAll_72 : decode cX11_turnsAll 72 = .ok (.putfield 89, 3) := by decide +kernel
theorem dX11_turnsAll_75 : decode cX11_turnsAll 75 = .ok (.aload_n 0, 1) := by decide +kernel
theorem dX11_turnsAll_76 : decode cX11_turnsAll 76 = .ok (.invokevirtual 92, 3) := by decide +kernel
theorem dX11_turnsAll_79 : decode cX11_turnsAll 79 = .ok (.istore_n 1, 1) := by decide +kernel
theorem dX11_turnsAll_80 : decode cX11_turnsAll 80 = .ok (.goto (-56), 3) := by decide +kernel
theorem dX11_turnsAll_83 : decode cX11_turnsAll 83 = .ok (.return_, 1) := by decide +kernel
set_option maxRecDepth 20000 in
theorem ggX11_labelOf_X11_isHeard : GoodIn wsX11_labelOf wsX11_isHeard := goodIn_r _ [7, 8, 9, 10, 6, 11, 12, 13, 14, 15, 16, 17, 18, 19, 20, 21, 22, 23, 24, 25, 26, 27, 28, 29, 30, 31, 32, 33, 34, 35] (by decide +kernel) (by decide +kernel)
set_option maxRecDepth 20000 in
theorem gX11_labelOf_X11_isHeard : GoodIn wsX11_labelOf (wsV RX11 69 RX11 yX11_isHeard wsX11_isHeard) := goodIn_app (goodIn_of _ (by decide +kernel)) ggX11_labelOf_X11_isHeard
set_option maxRecDepth 20000 in
theorem ggX11_labelOf_X11_has : GoodIn wsX11_labelOf wsX11_has := goodIn_r _ [11] (by decide +kernel) (by decide +kernel)
set_option maxRecDepth 20000 in
theorem gX11_labelOf_X11_has : GoodIn wsX11_labelOf (va_wsS RX11 61 yX11_has wsX11_has) := goodIn_app (goodIn_of _ (by decide +kernel)) ggX11_labelOf_X11_has
theorem dX11_labelOf_0 : decode cX11_labelOf 0 = .ok (.aload_n 0, 1) := by decide +kernel
theorem dX11_labelOf_1 : decode cX11_labelOf 1 = .ok (.iload_n 1, 1) := by decide +kernel
theorem dX11_labelOf_2 : decode cX11_labelOf 2 = .ok (.invokevirtual 69, 3) := by decide +kernel
theorem dX11_labelOf_5 : decode cX11_labelOf 5 = .ok (.ifCond .ne 7, 3) := by decide +kernel
theorem dX11_labelOf_8 : decode cX11_labelOf 8 = .ok (.iconst 3, 1) := by decide +kernel
theorem dX11_labelOf_9 : decode cX11_labelOf 9 = .ok (.goto 34, 3) := by decide +kernel
theorem dX11_labelOf_12 : decode cX11_labelOf 12 = .ok (.aload_n 0, 1) := by decide +kernel
theorem dX11_labelOf_13 : decode cX11_labelOf 13 = .ok (.getfield 79, 3) := by decide +kernel
theorem dX11_labelOf_16 : decode cX11_labelOf 16 = .ok (.iload_n 1, 1) := by decide +kernel
theorem dX11_labelOf_17 : decode cX11_labelOf 17 = .ok (.invokestatic 61, 3) := by decide +kernel
theorem dX11_labelOf_20 : decode cX11_labelOf 20 = .ok (.ifCond .eq 7, 3) := by decide +kernel
theorem dX11_labelOf_23 : decode cX11_labelOf 23 = .ok (.iconst 1, 1) := by decide +kernel
theorem dX11_labelOf_24 : decode cX11_labelOf 24 = .ok (.goto 19, 3) := by decide +kernel
theorem dX11_labelOf_27 : decode cX11_labelOf 27 = .ok (.aload_n 0, 1) := by decide +kernel
theorem dX11_labelOf_28 : decode cX11_labelOf 28 = .ok (.getfield 83, 3) := by decide +kernel
theorem dX11_labelOf_31 : decode cX11_labelOf 31 = .ok (.iload_n 1, 1) := by decide +kernel
theorem dX11_labelOf_32 : decode cX11_labelOf 32 = .ok (.invokestatic 61, 3) := by decide +kernel
theorem dX11_labelOf_35 : decode cX11_labelOf 35 = .ok (.ifCond .eq 7, 3) := by decide +kernel
theorem dX11_labelOf_38 : decode cX11_labelOf 38 = .ok (.iconst 0, 1) := by decide +kernel
theorem dX11_labelOf_39 : decode cX11_labelOf 39 = .ok (.goto 4, 3) := by decide +kernel
theorem dX11_labelOf_42 : decode cX11_labelOf 42 = .ok (.iconst 2, 1) := by decide +kernel
theorem dX11_labelOf_43 : decode cX11_labelOf 43 = .ok (.ireturn, 1) := by decide +kernel
set_option maxRecDepth 20000 in
theorem ggX11_defeatedBy_X11_has : GoodIn wsX11_defeatedBy wsX11_has := goodIn_r _ [6] (by decide +kernel) (by decide +kernel)
set_option maxRecDepth 20000 in
theorem gX11_defeatedBy_X11_has : GoodIn wsX11_defeatedBy (va_wsS RX11 61 yX11_has wsX11_has) := goodIn_app (goodIn_of _ (by decide +kernel)) ggX11_defeatedBy_X11_has
theorem dX11_defeatedBy_0 : decode cX11_defeatedBy 0 = .ok (.iconst 0, 1) := by decide +kernel
theorem dX11_defeatedBy_1 : decode cX11_defeatedBy 1 = .ok (.istore_n 2, 1) := by decide +kernel
theorem dX11_defeatedBy_2 : decode cX11_defeatedBy 2 = .ok (.iconst 0, 1) := by decide +kernel
theorem dX11_defeatedBy_3 : decode cX11_defeatedBy 3 = .ok (.istore_n 3, 1) := by decide +kernel
theorem dX11_defeatedBy_4 : decode cX11_defeatedBy 4 = .ok (.iload_n 3, 1) := by decide +kernel
theorem dX11_defeatedBy_5 : decode cX11_defeatedBy 5 = .ok (.aload_n 0, 1) := by decide +kernel
theorem dX11_defeatedBy_6 : decode cX11_defeatedBy 6 = .ok (.getfield 9, 3) := by decide +kernel
theorem dX11_defeatedBy_9 : decode cX11_defeatedBy 9 = .ok (.bipush 42, 2) := by decide +kernel
theorem dX11_defeatedBy_11 : decode cX11_defeatedBy 11 = .ok (.iaload, 1) := by decide +kernel
theorem dX11_defeatedBy_12 : decode cX11_defeatedBy 12 = .ok (.if_icmp .ge 30, 3) := by decide +kernel
theorem dX11_defeatedBy_15 : decode cX11_defeatedBy 15 = .ok (.iload_n 2, 1) := by decide +kernel
theorem dX11_defeatedBy_16 : decode cX11_defeatedBy 16 = .ok (.iload_n 1, 1) := by decide +kernel
theorem dX11_defeatedBy_17 : decode cX11_defeatedBy 17 = .ok (.iload_n 3, 1) := by decide +kernel
theorem dX11_defeatedBy_18 : decode cX11_defeatedBy 18 = .ok (.invokestatic 61, 3) := by decide +kernel
theorem dX11_defeatedBy_21 : decode cX11_defeatedBy 21 = .ok (.ifCond .eq 12, 3) := by decide +kernel
theorem dX11_defeatedBy_24 : decode cX11_defeatedBy 24 = .ok (.aload_n 0, 1) := by decide +kernel
theorem dX11_defeatedBy_25 : decode cX11_defeatedBy 25 = .ok (.getfield 34, 3) := by decide +kernel
theorem dX11_defeatedBy_28 : decode cX11_defeatedBy 28 = .ok (.iload_n 3, 1) := by decide +kernel
theorem dX11_defeatedBy_29 : decode cX11_defeatedBy 29 = .ok (.iaload, 1) := by decide +kernel
theorem dX11_defeatedBy_30 : decode cX11_defeatedBy 30 = .ok (.goto 4, 3) := by decide +kernel
theorem dX11_defeatedBy_33 : decode cX11_defeatedBy 33 = .ok (.iconst 0, 1) := by decide +kernel
theorem dX11_defeatedBy_34 : decode cX11_defeatedBy 34 = .ok (.ior, 1) := by decide +kernel
theorem dX11_defeatedBy_35 : decode cX11_defeatedBy 35 = .ok (.istore_n 2, 1) := by decide +kernel
theorem dX11_defeatedBy_36 : decode cX11_defeatedBy 36 = .ok (.iinc 3 1, 3) := by decide +kernel
theorem dX11_defeatedBy_39 : decode cX11_defeatedBy 39 = .ok (.goto (-35), 3) := by decide +kernel
theorem dX11_defeatedBy_42 : decode cX11_defeatedBy 42 = .ok (.iload_n 2, 1) := by decide +kernel
theorem dX11_defeatedBy_43 : decode cX11_defeatedBy 43 = .ok (.ireturn, 1) := by decide +kernel
set_option maxRecDepth 20000 in
theorem ggX11_isFree_X11_defeatedBy : GoodIn wsX11_isFree wsX11_defeatedBy := goodIn_r _ [6, 1, 7, 8, 9, 5, 10, 11, 12, 13, 14, 15, 16, 17, 18, 19, 20, 21, 22, 23, 24, 25, 26, 27, 28, 29, 30, 31, 32, 33, 34] (by decide +kernel) (by decide +kernel)
set_option maxRecDepth 20000 in
theorem gX11_isFree_X11_defeatedBy : GoodIn wsX11_isFree (wsV RX11 96 RX11 yX11_defeatedBy wsX11_defeatedBy) := goodIn_app (goodIn_of _ (by decide +kernel)) ggX11_isFree_X11_defeatedBy
theorem dX11_isFree_0 : decode cX11_isFree 0 = .ok (.iload_n 1, 1) := by decide +kernel
theorem dX11_isFree_1 : decode cX11_isFree 1 = .ok (.aload_n 0, 1) := by decide +kernel
theorem dX11_isFree_2 : decode cX11_isFree 2 = .ok (.getfield 9, 3) := by decide +kernel
theorem dX11_isFree_5 : decode cX11_isFree 5 = .ok (.bipush 40, 2) := by decide +kernel
theorem dX11_isFree_7 : decode cX11_isFree 7 = .ok (.iaload, 1) := by decide +kernel
theorem dX11_isFree_8 : decode cX11_isFree 8 = .ok (.iconst (-1), 1) := by decide +kernel
theorem dX11_isFree_9 : decode cX11_isFree 9 = .ok (.ixor, 1) := by decide +kernel
theorem dX11_isFree_10 : decode cX11_isFree 10 = .ok (.iand, 1) := by decide +kernel
theorem dX11_isFree_11 : decode cX11_isFree 11 = .ok (.ifCond .ne 17, 3) := by decide +kernel
theorem dX11_isFree_14 : decode cX11_isFree 14 = .ok (.aload_n 0, 1) := by decide +kernel
theorem dX11_isFree_15 : decode cX11_isFree 15 = .ok (.iload_n 1, 1) := by decide +kernel
theorem dX11_isFree_16 : decode cX11_isFree 16 = .ok (.invokevirtual 96, 3) := by decide +kernel
theorem dX11_isFree_19 : decode cX11_isFree 19 = .ok (.iload_n 1, 1) := by decide +kernel
theorem dX11_isFree_20 : decode cX11_isFree 20 = .ok (.iand, 1) := by decide +kernel
theorem dX11_isFree_21 : decode cX11_isFree 21 = .ok (.ifCond .ne 7, 3) := by decide +kernel
theorem dX11_isFree_24 : decode cX11_isFree 24 = .ok (.iconst 1, 1) := by decide +kernel
theorem dX11_isFree_25 : decode cX11_isFree 25 = .ok (.goto 4, 3) := by decide +kernel
theorem dX11_isFree_28 : decode cX11_isFree 28 = .ok (.iconst 0, 1) := by decide +kernel
theorem dX11_isFree_29 : decode cX11_isFree 29 = .ok (.ireturn, 1) := by decide +kernel
set_option maxRecDepth 20000 in
theorem ggX11_keeps_X11_defeatedBy : GoodIn wsX11_keeps wsX11_defeatedBy := goodIn_r _ [6, 7, 8, 9, 10, 5, 11, 12, 13, 14, 15, 16, 17, 18, 19, 20, 21, 22, 23, 24, 25, 26, 27, 28, 29, 30, 31, 32, 33, 34, 35] (by decide +kernel) (by decide +kernel)
set_option maxRecDepth 20000 in
theorem gX11_keeps_X11_defeatedBy : GoodIn wsX11_keeps (wsV RX11 96 RX11 yX11_defeatedBy wsX11_defeatedBy) := goodIn_app (goodIn_of _ (by decide +kernel)) ggX11_keeps_X11_defeatedBy
theorem dX11_keeps_0 : decode cX11_keeps 0 = .ok (.aload_n 0, 1) := by decide +kernel
theorem dX11_keeps_1 : decode cX11_keeps 1 = .ok (.getfield 37, 3) := by decide +kernel
theorem dX11_keeps_4 : decode cX11_keeps 4 = .ok (.iload_n 2, 1) := by decide +kernel
theorem dX11_keeps_5 : decode cX11_keeps 5 = .ok (.iaload, 1) := by decide +kernel
theorem dX11_keeps_6 : decode cX11_keeps 6 = .ok (.aload_n 0, 1) := by decide +kernel
theorem dX11_keeps_7 : decode cX11_keeps 7 = .ok (.iload_n 1, 1) := by decide +kernel
theorem dX11_keeps_8 : decode cX11_keeps 8 = .ok (.invokevirtual 96, 3) := by decide +kernel
theorem dX11_keeps_11 : decode cX11_keeps 11 = .ok (.iconst (-1), 1) := by decide +kernel
theorem dX11_keeps_12 : decode cX11_keeps 12 = .ok (.ixor, 1) := by decide +kernel
theorem dX11_keeps_13 : decode cX11_keeps 13 = .ok (.iand, 1) := by decide +kernel
theorem dX11_keeps_14 : decode cX11_keeps 14 = .ok (.ifCond .ne 7, 3) := by decide +kernel
theorem dX11_keeps_17 : decode cX11_keeps 17 = .ok (.iconst 1, 1) := by decide +kernel
theorem dX11_keeps_18 : decode cX11_keeps 18 = .ok (.goto 4, 3) := by decide +kernel
theorem dX11_keeps_21 : decode cX11_keeps 21 = .ok (.iconst 0, 1) := by decide +kernel
theorem dX11_keeps_22 : decode cX11_keeps 22 = .ok (.ireturn, 1) := by decide +kernel
set_option maxRecDepth 20000 in
theorem ggX11_isAdmissible_X11_isFree : GoodIn wsX11_isAdmissible wsX11_isFree := goodIn_r _ [6, 1, 7, 8, 9, 5, 10, 11, 12, 13, 14, 20, 21, 22, 23, 24, 25, 26, 27, 28, 29, 30, 31, 32, 33, 34, 35, 36, 37, 38, 39, 40, 41, 42, 43] (by decide +kernel) (by decide +kernel)
set_option maxRecDepth 20000 in
theorem gX11_isAdmissible_X11_isFree : GoodIn wsX11_isAdmissible (wsV RX11 100 RX11 yX11_isFree wsX11_isFree) := goodIn_app (goodIn_of _ (by decide +kernel)) ggX11_isAdmissible_X11_isFree
set_option maxRecDepth 20000 in
theorem ggX11_isAdmissible_X11_has : GoodIn wsX11_isAdmissible wsX11_has := goodIn_r _ [14] (by decide +kernel) (by decide +kernel)
set_option maxRecDepth 20000 in
theorem gX11_isAdmissible_X11_has : GoodIn wsX11_isAdmissible (va_wsS RX11 61 yX11_has wsX11_has) := goodIn_app (goodIn_of _ (by decide +kernel)) ggX11_isAdmissible_X11_has
set_option maxRecDepth 20000 in
theorem ggX11_isAdmissible_X11_keeps : GoodIn wsX11_isAdmissible wsX11_keeps := goodIn_r _ [18, 19, 7, 8, 9, 5, 10, 1, 11, 12, 13, 14, 20, 21, 22, 23, 24, 25, 26, 27, 28, 29, 30, 31, 32, 33, 34, 35, 36, 37, 38, 39, 40, 41, 42, 43] (by decide +kernel) (by decide +kernel)
set_option maxRecDepth 20000 in
theorem gX11_isAdmissible_X11_keeps : GoodIn wsX11_isAdmissible (wsV RX11 103 RX11 yX11_keeps wsX11_keeps) := goodIn_app (goodIn_of _ (by decide +kernel)) ggX11_isAdmissible_X11_keeps
theorem dX11_isAdmissible_0 : decode cX11_isAdmissible 0 = .ok (.aload_n 0, 1) := by decide +kernel
theorem dX11_isAdmissible_1 : decode cX11_isAdmissible 1 = .ok (.iload_n 1, 1) := by decide +kernel
theorem dX11_isAdmissible_2 : decode cX11_isAdmissible 2 = .ok (.invokevirtual 100, 3) := by decide +kernel
theorem dX11_isAdmissible_5 : decode cX11_isAdmissible 5 = .ok (.istore_n 2, 1) := by decide +kernel
theorem dX11_isAdmissible_6 : decode cX11_isAdmissible 6 = .ok (.iconst 0, 1) := by decide +kernel
theorem dX11_isAdmissible_7 : decode cX11_isAdmissible 7 = .ok (.istore_n 3, 1) := by decide +kernel
theorem dX11_isAdmissible_8 : decode cX11_isAdmissible 8 = .ok (.iload_n 3, 1) := by decide +kernel
theorem dX11_isAdmissible_9 : decode cX11_isAdmissible 9 = .ok (.aload_n 0, 1) := by decide +kernel
theorem dX11_isAdmissible_10 : decode cX11_isAdmissible 10 = .ok (.getfield 9, 3) := by decide +kernel
theorem dX11_isAdmissible_13 : decode cX11_isAdmissible 13 = .ok (.bipush 42, 2) := by decide +kernel
theorem dX11_isAdmissible_15 : decode cX11_isAdmissible 15 = .ok (.iaload, 1) := by decide +kernel
theorem dX11_isAdmissible_16 : decode cX11_isAdmissible 16 = .ok (.if_icmp .ge 36, 3) := by decide +kernel
theorem dX11_isAdmissible_19 : decode cX11_isAdmissible 19 = .ok (.iload_n 2, 1) := by decide +kernel
theorem dX11_isAdmissible_20 : decode cX11_isAdmissible 20 = .ok (.ifCond .eq 32, 3) := by decide +kernel
theorem dX11_isAdmissible_23 : decode cX11_isAdmissible 23 = .ok (.iload_n 1, 1) := by decide +kernel
theorem dX11_isAdmissible_24 : decode cX11_isAdmissible 24 = .ok (.iload_n 3, 1) := by decide +kernel
theorem dX11_isAdmissible_25 : decode cX11_isAdmissible 25 = .ok (.invokestatic 61, 3) := by decide +kernel
theorem dX11_isAdmissible_28 : decode cX11_isAdmissible 28 = .ok (.ifCond .eq 12, 3) := by decide +kernel
theorem dX11_isAdmissible_31 : decode cX11_isAdmissible 31 = .ok (.aload_n 0, 1) := by decide +kernel
theorem dX11_isAdmissible_32 : decode cX11_isAdmissible 32 = .ok (.iload_n 1, 1) := by decide +kernel
theorem dX11_isAdmissible_33 : decode cX11_isAdmissible 33 = .ok (.iload_n 3, 1) := by decide +kernel
theorem dX11_isAdmissible_34 : decode cX11_isAdmissible 34 = .ok (.invokevirtual 103, 3) := by decide +kernel
theorem dX11_isAdmissible_37 : decode cX11_isAdmissible 37 = .ok (.ifCond .eq 7, 3) := by decide +kernel
theorem dX11_isAdmissible_40 : decode cX11_isAdmissible 40 = .ok (.iconst 1, 1) := by decide +kernel
theorem dX11_isAdmissible_41 : decode cX11_isAdmissible 41 = .ok (.goto 4, 3) := by decide +kernel
theorem dX11_isAdmissible_44 : decode cX11_isAdmissible 44 = .ok (.iconst 0, 1) := by decide +kernel
theorem dX11_isAdmissible_45 : decode cX11_isAdmissible 45 = .ok (.istore_n 2, 1) := by decide +kernel
theorem dX11_isAdmissible_46 : decode cX11_isAdmissible 46 = .ok (.iinc 3 1, 3) := by decide +kernel
theorem dX11_isAdmissible_49 : decode cX11_isAdmissible 49 = .ok (.goto (-41), 3) := by decide +kernel
theorem dX11_isAdmissible_52 : decode cX11_isAdmissible 52 = .ok (.iload_n 2, 1) := by decide +kernel
theorem dX11_isAdmissible_53 : decode cX11_isAdmissible 53 = .ok (.ireturn, 1) := by decide +kernel
set_option maxRecDepth 20000 in
theorem ggX11_isComplete_X11_isAdmissible : GoodIn wsX11_isComplete wsX11_isAdmissible := goodIn_r _ [6, 1, 7, 8, 9, 5, 10, 11, 12, 13, 14, 15, 16, 17, 18, 19, 20, 21, 22, 23, 28, 29, 30, 31, 32, 33, 34, 35, 36, 37, 38, 39, 40, 41, 42, 43, 44, 45, 46, 47, 48, 49, 50, 51] (by decide +kernel) (by decide +kernel)
set_option maxRecDepth 20000 in
theorem gX11_isComplete_X11_isAdmissible : GoodIn wsX11_isComplete (wsV RX11 106 RX11 yX11_isAdmissible wsX11_isAdmissible) := goodIn_app (goodIn_of _ (by decide +kernel)) ggX11_isComplete_X11_isAdmissible
set_option maxRecDepth 20000 in
theorem ggX11_isComplete_X11_isHeard : GoodIn wsX11_isComplete wsX11_isHeard := goodIn_r _ [27, 1, 16, 17, 5, 18, 28, 29, 30, 31, 32, 33, 34, 35, 36, 37, 38, 39, 40, 41, 42, 43, 44, 45, 46, 47, 48, 49, 50, 51] (by decide +kernel) (by decide +kernel)
set_option maxRecDepth 20000 in
theorem gX11_isComplete_X11_isHeard : GoodIn wsX11_isComplete (wsV RX11 69 RX11 yX11_isHeard wsX11_isHeard) := goodIn_app (goodIn_of _ (by decide +kernel)) ggX11_isComplete_X11_isHeard
set_option maxRecDepth 20000 in
theorem ggX11_isComplete_X11_has : GoodIn wsX11_isComplete wsX11_has := goodIn_r _ [18] (by decide +kernel) (by decide +kernel)
set_option maxRecDepth 20000 in
theorem gX11_isComplete_X11_has : GoodIn wsX11_isComplete (va_wsS RX11 61 yX11_has wsX11_has) := goodIn_app (goodIn_of _ (by decide +kernel)) ggX11_isComplete_X11_has
set_option maxRecDepth 20000 in
theorem ggX11_isComplete_X11_keeps : GoodIn wsX11_isComplete wsX11_keeps := goodIn_r _ [22, 23, 11, 12, 13, 5, 14, 1, 15, 16, 17, 18, 28, 29, 30, 31, 32, 33, 34, 35, 36, 37, 38, 39, 40, 41, 42, 43, 44, 45, 46, 47, 48, 49, 50, 51] (by decide +kernel) (by decide +kernel)
set_option maxRecDepth 20000 in
theorem gX11_isComplete_X11_keeps : GoodIn wsX11_isComplete (wsV RX11 103 RX11 yX11_keeps wsX11_keeps) := goodIn_app (goodIn_of _ (by decide +kernel)) ggX11_isComplete_X11_keeps
theorem dX11_isComplete_0 : decode cX11_isComplete 0 = .ok (.aload_n 0, 1) := by decide +kernel
theorem dX11_isComplete_1 : decode cX11_isComplete 1 = .ok (.iload_n 1, 1) := by decide +kernel
theorem dX11_isComplete_2 : decode cX11_isComplete 2 = .ok (.invokevirtual 106, 3) := by decide +kernel
theorem dX11_isComplete_5 : decode cX11_isComplete 5 = .ok (.istore_n 2, 1) := by decide +kernel
theorem dX11_isComplete_6 : decode cX11_isComplete 6 = .ok (.iconst 0, 1) := by decide +kernel
theorem dX11_isComplete_7 : decode cX11_isComplete 7 = .ok (.istore_n 3, 1) := by decide +kernel
theorem dX11_isComplete_8 : decode cX11_isComplete 8 = .ok (.iload_n 3, 1) := by decide +kernel
theorem dX11_isComplete_9 : decode cX11_isComplete 9 = .ok (.aload_n 0, 1) := by decide +kernel
theorem dX11_isComplete_10 : decode cX11_isComplete 10 = .ok (.getfield 9, 3) := by decide +kernel
theorem dX11_isComplete_13 : decode cX11_isComplete 13 = .ok (.bipush 42, 2) := by decide +kernel
theorem dX11_isComplete_15 : decode cX11_isComplete 15 = .ok (.iaload, 1) := by decide +kernel
theorem dX11_isComplete_16 : decode cX11_isComplete 16 = .ok (.if_icmp .ge 44, 3) := by decide +kernel
theorem dX11_isComplete_19 : decode cX11_isComplete 19 = .ok (.iload_n 2, 1) := by decide +kernel
theorem dX11_isComplete_20 : decode cX11_isComplete 20 = .ok (.ifCond .eq 40, 3) := by decide +kernel
theorem dX11_isComplete_23 : decode cX11_isComplete 23 = .ok (.aload_n 0, 1) := by decide +kernel
theorem dX11_isComplete_24 : decode cX11_isComplete 24 = .ok (.iload_n 3, 1) := by decide +kernel
theorem dX11_isComplete_25 : decode cX11_isComplete 25 = .ok (.invokevirtual 69, 3) := by decide +kernel
theorem dX11_isComplete_28 : decode cX11_isComplete 28 = .ok (.ifCond .eq 20, 3) := by decide +kernel
theorem dX11_isComplete_31 : decode cX11_isComplete 31 = .ok (.iload_n 1, 1) := by decide +kernel
theorem dX11_isComplete_32 : decode cX11_isComplete 32 = .ok (.iload_n 3, 1) := by decide +kernel
theorem dX11_isComplete_33 : decode cX11_isComplete 33 = .ok (.invokestatic 61, 3) := by decide +kernel
theorem dX11_isComplete_36 : decode cX11_isComplete 36 = .ok (.ifCond .ne 12, 3) := by decide +kernel
theorem dX11_isComplete_39 : decode cX11_isComplete 39 = .ok (.aload_n 0, 1) := by decide +kernel
theorem dX11_isComplete_40 : decode cX11_isComplete 40 = .ok (.iload_n 1, 1) := by decide +kernel
theorem dX11_isComplete_41 : decode cX11_isComplete 41 = .ok (.iload_n 3, 1) := by decide +kernel
theorem dX11_isComplete_42 : decode cX11_isComplete 42 = .ok (.invokevirtual 103, 3) := by decide +kernel
theorem dX11_isComplete_45 : decode cX11_isComplete 45 = .ok (.ifCond .ne 7, 3) := by decide +kernel
theorem dX11_isComplete_48 : decode cX11_isComplete 48 = .ok (.iconst 1, 1) := by decide +kernel
theorem dX11_isComplete_49 : decode cX11_isComplete 49 = .ok (.goto 4, 3) := by decide +kernel
theorem dX11_isComplete_52 : decode cX11_isComplete 52 = .ok (.iconst 0, 1) := by decide +kernel
theorem dX11_isComplete_53 : decode cX11_isComplete 53 = .ok (.istore_n 2, 1) := by decide +kernel
theorem dX11_isComplete_54 : decode cX11_isComplete 54 = .ok (.iinc 3 1, 3) := by decide +kernel
theorem dX11_isComplete_57 : decode cX11_isComplete 57 = .ok (.goto (-49), 3) := by decide +kernel
theorem dX11_isComplete_60 : decode cX11_isComplete 60 = .ok (.iload_n 2, 1) := by decide +kernel
theorem dX11_isComplete_61 : decode cX11_isComplete 61 = .ok (.ireturn, 1) := by decide +kernel
set_option maxRecDepth 20000 in
theorem ggX11_isStable_X11_isFree : GoodIn wsX11_isStable wsX11_isFree := goodIn_r _ [6, 1, 7, 8, 9, 5, 10, 11, 12, 13, 14, 15, 16, 17, 18, 19, 20, 21, 22, 23, 24, 25, 26, 27, 28, 29, 30, 31, 32, 33, 34, 35, 36, 37, 38] (by decide +kernel) (by decide +kernel)
set_option maxRecDepth 20000 in
theorem gX11_isStable_X11_isFree : GoodIn wsX11_isStable (wsV RX11 100 RX11 yX11_isFree wsX11_isFree) := goodIn_app (goodIn_of _ (by decide +kernel)) ggX11_isStable_X11_isFree
set_option maxRecDepth 20000 in
theorem ggX11_isStable_X11_defeatedBy : GoodIn wsX11_isStable wsX11_defeatedBy := goodIn_r _ [10, 1, 11, 12, 13, 5, 14, 15, 16, 17, 18, 19, 20, 21, 22, 23, 24, 25, 26, 27, 28, 29, 30, 31, 32, 33, 34, 35, 36, 37, 38] (by decide +kernel) (by decide +kernel)
set_option maxRecDepth 20000 in
theorem gX11_isStable_X11_defeatedBy : GoodIn wsX11_isStable (wsV RX11 96 RX11 yX11_defeatedBy wsX11_defeatedBy) := goodIn_app (goodIn_of _ (by decide +kernel)) ggX11_isStable_X11_defeatedBy
theorem dX11_isStable_0 : decode cX11_isStable 0 = .ok (.aload_n 0, 1) := by decide +kernel
theorem dX11_isStable_1 : decode cX11_isStable 1 = .ok (.iload_n 1, 1) := by decide +kernel
theorem dX11_isStable_2 : decode cX11_isStable 2 = .ok (.invokevirtual 100, 3) := by decide +kernel
theorem dX11_isStable_5 : decode cX11_isStable 5 = .ok (.ifCond .eq 29, 3) := by decide +kernel
theorem dX11_isStable_8 : decode cX11_isStable 8 = .ok (.aload_n 0, 1) := by decide +kernel
theorem dX11_isStable_9 : decode cX11_isStable 9 = .ok (.getfield 9, 3) := by decide +kernel
theorem dX11_isStable_12 : decode cX11_isStable 12 = .ok (.bipush 40, 2) := by decide +kernel
theorem dX11_isStable_14 : decode cX11_isStable 14 = .ok (.iaload, 1) := by decide +kernel
theorem dX11_isStable_15 : decode cX11_isStable 15 = .ok (.iload_n 1, 1) := by decide +kernel
theorem dX11_isStable_16 : decode cX11_isStable 16 = .ok (.iconst (-1), 1) := by decide +kernel
theorem dX11_isStable_17 : decode cX11_isStable 17 = .ok (.ixor, 1) := by decide +kernel
theorem dX11_isStable_18 : decode cX11_isStable 18 = .ok (.iand, 1) := by decide +kernel
theorem dX11_isStable_19 : decode cX11_isStable 19 = .ok (.aload_n 0, 1) := by decide +kernel
theorem dX11_isStable_20 : decode cX11_isStable 20 = .ok (.iload_n 1, 1) := by decide +kernel
theorem dX11_isStable_21 : decode cX11_isStable 21 = .ok (.invokevirtual 96, 3) := by decide +kernel
theorem dX11_isStable_24 : decode cX11_isStable 24 = .ok (.iconst (-1), 1) := by decide +kernel
theorem dX11_isStable_25 : decode cX11_isStable 25 = .ok (.ixor, 1) := by decide +kernel
theorem dX11_isStable_26 : decode cX11_isStable 26 = .ok (.iand, 1) := by decide +kernel
theorem dX11_isStable_27 : decode cX11_isStable 27 = .ok (.ifCond .ne 7, 3) := by decide +kernel
theorem dX11_isStable_30 : decode cX11_isStable 30 = .ok (.iconst 1, 1) := by decide +kernel
theorem dX11_isStable_31 : decode cX11_isStable 31 = .ok (.goto 4, 3) := by decide +kernel
theorem dX11_isStable_34 : decode cX11_isStable 34 = .ok (.iconst 0, 1) := by decide +kernel
theorem dX11_isStable_35 : decode cX11_isStable 35 = .ok (.ireturn, 1) := by decide +kernel
set_option maxRecDepth 20000 in
theorem ggX11_findsPlain_X11_isFree : GoodIn wsX11_findsPlain wsX11_isFree := goodIn_r _ [6, 7, 8, 9, 10, 5, 11, 12, 13, 14, 15, 37, 38, 39, 40, 41, 42, 43, 44, 45, 46, 47, 48, 49, 50, 51, 52, 53, 54, 55, 56, 57, 58, 59, 60] (by decide +kernel) (by decide +kernel)
set_option maxRecDepth 20000 in
theorem gX11_findsPlain_X11_isFree : GoodIn wsX11_findsPlain (wsV RX11 100 RX11 yX11_isFree wsX11_isFree) := goodIn_app (goodIn_of _ (by decide +kernel)) ggX11_findsPlain_X11_isFree
set_option maxRecDepth 20000 in
theorem ggX11_findsPlain_X11_isStable : GoodIn wsX11_findsPlain wsX11_isStable := goodIn_r _ [19, 7, 2, 3, 4, 5, 6, 8, 9, 10, 11, 12, 13, 14, 15, 37, 38, 39, 40, 41, 42, 43, 44, 45, 46, 47, 48, 49, 50, 51, 52, 53, 54, 55, 56, 57, 58, 59, 60] (by decide +kernel) (by decide +kernel)
set_option maxRecDepth 20000 in
theorem gX11_findsPlain_X11_isStable : GoodIn wsX11_findsPlain (wsV RX11 109 RX11 yX11_isStable wsX11_isStable) := goodIn_app (goodIn_of _ (by decide +kernel)) ggX11_findsPlain_X11_isStable
set_option maxRecDepth 20000 in
theorem ggX11_findsPlain_X11_isAdmissible : GoodIn wsX11_findsPlain wsX11_isAdmissible := goodIn_r _ [23, 7, 2, 3, 4, 5, 6, 8, 9, 10, 11, 12, 13, 14, 15, 24, 25, 26, 27, 28, 37, 38, 39, 40, 41, 42, 43, 44, 45, 46, 47, 48, 49, 50, 51, 52, 53, 54, 55, 56, 57, 58, 59, 60] (by decide +kernel) (by decide +kernel)
set_option maxRecDepth 20000 in
theorem gX11_findsPlain_X11_isAdmissible : GoodIn wsX11_findsPlain (wsV RX11 106 RX11 yX11_isAdmissible wsX11_isAdmissible) := goodIn_app (goodIn_of _ (by decide +kernel)) ggX11_findsPlain_X11_isAdmissible
set_option maxRecDepth 20000 in
theorem ggX11_findsPlain_X11_isComplete : GoodIn wsX11_findsPlain wsX11_isComplete := goodIn_r _ [32, 7, 20, 21, 22, 5, 23, 2, 3, 4, 6, 8, 9, 10, 11, 12, 13, 14, 15, 24, 25, 26, 27, 28, 33, 34, 35, 36, 37, 38, 39, 40, 41, 42, 43, 44, 45, 46, 47, 48, 49, 50, 51, 52, 53, 54, 55, 56, 57, 58, 59, 60] (by decide +kernel) (by decide +kernel)
set_option maxRecDepth 20000 in
theorem gX11_findsPlain_X11_isComplete : GoodIn wsX11_findsPlain (wsV RX11 112 RX11 yX11_isComplete wsX11_isComplete) := goodIn_app (goodIn_of _ (by decide +kernel)) ggX11_findsPlain_X11_isComplete
theorem dX11_findsPlain_0 : decode cX11_findsPlain 0 = .ok (.iconst 0, 1) := by decide +kernel
theorem dX11_findsPlain_1 : decode cX11_findsPlain 1 = .ok (.istore_n 2, 1) := by decide +kernel
theorem dX11_findsPlain_2 : decode cX11_findsPlain 2 = .ok (.iload_n 2, 1) := by decide +kernel
theorem dX11_findsPlain_3 : decode cX11_findsPlain 3 = .ok (.sipush 256, 3) := by decide +kernel
theorem dX11_findsPlain_6 : decode cX11_findsPlain 6 = .ok (.if_icmp .ge 58, 3) := by decide +kernel
theorem dX11_findsPlain_9 : decode cX11_findsPlain 9 = .ok (.aload_n 0, 1) := by decide +kernel
theorem dX11_findsPlain_10 : decode cX11_findsPlain 10 = .ok (.getfield 43, 3) := by decide +kernel
theorem dX11_findsPlain_13 : decode cX11_findsPlain 13 = .ok (.iload_n 2, 1) := by decide +kernel
theorem dX11_findsPlain_14 : decode cX11_findsPlain 14 = .ok (.iload_n 1, 1) := by decide +kernel
theorem dX11_findsPlain_15 : decode cX11_findsPlain 15 = .ok (.ifCond .ne 11, 3) := by decide +kernel
theorem dX11_findsPlain_18 : decode cX11_findsPlain 18 = .ok (.aload_n 0, 1) := by decide +kernel
theorem dX11_findsPlain_19 : decode cX11_findsPlain 19 = .ok (.iload_n 2, 1) := by decide +kernel
theorem dX11_findsPlain_20 : decode cX11_findsPlain 20 = .ok (.invokevirtual 100, 3) := by decide +kernel
theorem dX11_findsPlain_23 : decode cX11_findsPlain 23 = .ok (.goto 34, 3) := by decide +kernel
theorem dX11_findsPlain_26 : decode cX11_findsPlain 26 = .ok (.iload_n 1, 1) := by decide +kernel
theorem dX11_findsPlain_27 : decode cX11_findsPlain 27 = .ok (.iconst 4, 1) := by decide +kernel
theorem dX11_findsPlain_28 : decode cX11_findsPlain 28 = .ok (.if_icmp .ne 11, 3) := by decide +kernel
theorem dX11_findsPlain_31 : decode cX11_findsPlain 31 = .ok (.aload_n 0, 1) := by decide +kernel
theorem dX11_findsPlain_32 : decode cX11_findsPlain 32 = .ok (.iload_n 2, 1) := by decide +kernel
theorem dX11_findsPlain_33 : decode cX11_findsPlain 33 = .ok (.invokevirtual 109, 3) := by decide +kernel
theorem dX11_findsPlain_36 : decode cX11_findsPlain 36 = .ok (.goto 21, 3) := by decide +kernel
theorem dX11_findsPlain_39 : decode cX11_findsPlain 39 = .ok (.iload_n 1, 1) := by decide +kernel
theorem dX11_findsPlain_40 : decode cX11_findsPlain 40 = .ok (.iconst 1, 1) := by decide +kernel
theorem dX11_findsPlain_41 : decode cX11_findsPlain 41 = .ok (.if_icmp .ne 11, 3) := by decide +kernel
theorem dX11_findsPlain_44 : decode cX11_findsPlain 44 = .ok (.aload_n 0, 1) := by decide +kernel
theorem dX11_findsPlain_45 : decode cX11_findsPlain 45 = .ok (.iload_n 2, 1) := by decide +kernel
theorem dX11_findsPlain_46 : decode cX11_findsPlain 46 = .ok (.invokevirtual 106, 3) := by decide +kernel
theorem dX11_findsPlain_49 : decode cX11_findsPlain 49 = .ok (.goto 8, 3) := by decide +kernel
theorem dX11_findsPlain_52 : decode cX11_findsPlain 52 = .ok (.aload_n 0, 1) := by decide +kernel
theorem dX11_findsPlain_53 : decode cX11_findsPlain 53 = .ok (.iload_n 2, 1) := by decide +kernel
theorem dX11_findsPlain_54 : decode cX11_findsPlain 54 = .ok (.invokevirtual 112, 3) := by decide +kernel
theorem dX11_findsPlain_57 : decode cX11_findsPlain 57 = .ok (.bastore, 1) := by decide +kernel
theorem dX11_findsPlain_58 : decode cX11_findsPlain 58 = .ok (.iinc 2 1, 3) := by decide +kernel
theorem dX11_findsPlain_61 : decode cX11_findsPlain 61 = .ok (.goto (-59), 3) := by decide +kernel
theorem dX11_findsPlain_64 : decode cX11_findsPlain 64 = .ok (.return_, 1) := by decide +kernel
set_option maxRecDepth 20000 in
theorem ggX11_rangeOf_X11_defeatedBy : GoodIn wsX11_rangeOf wsX11_defeatedBy := goodIn_r _ [5, 6, 7, 8, 9, 4, 10, 11, 12, 13, 14, 15, 16, 17, 18, 19, 20, 21, 22, 23, 24, 25, 26, 27, 28, 29, 30, 31, 32, 33, 34] (by decide +kernel) (by decide +kernel)
set_option maxRecDepth 20000 in
theorem gX11_rangeOf_X11_defeatedBy : GoodIn wsX11_rangeOf (wsV RX11 96 RX11 yX11_defeatedBy wsX11_defeatedBy) := goodIn_app (goodIn_of _ (by decide +kernel)) ggX11_rangeOf_X11_defeatedBy
theorem dX11_rangeOf_0 : decode cX11_rangeOf 0 = .ok (.iload_n 2, 1) := by decide +kernel
theorem dX11_rangeOf_1 : decode cX11_rangeOf 1 = .ok (.ifCond .eq 13, 3) := by decide +kernel
theorem dX11_rangeOf_4 : decode cX11_rangeOf 4 = .ok (.iload_n 1, 1) := by decide +kernel
theorem dX11_rangeOf_5 : decode cX11_rangeOf 5 = .ok (.aload_n 0, 1) := by decide +kernel
theorem dX11_rangeOf_6 : decode cX11_rangeOf 6 = .ok (.iload_n 1, 1) := by decide +kernel
theorem dX11_rangeOf_7 : decode cX11_rangeOf 7 = .ok (.invokevirtual 96, 3) := by decide +kernel
theorem dX11_rangeOf_10 : decode cX11_rangeOf 10 = .ok (.ior, 1) := by decide +kernel
theorem dX11_rangeOf_11 : decode cX11_rangeOf 11 = .ok (.goto 4, 3) := by decide +kernel
theorem dX11_rangeOf_14 : decode cX11_rangeOf 14 = .ok (.iload_n 1, 1) := by decide +kernel
theorem dX11_rangeOf_15 : decode cX11_rangeOf 15 = .ok (.ireturn, 1) := by decide +kernel
set_option maxRecDepth 20000 in
theorem ggX11_isBehind_X11_rangeOf : GoodIn wsX11_isBehind wsX11_rangeOf := goodIn_r _ [6, 7, 8, 9, 5, 10, 11, 12, 13, 14, 15, 16, 17, 18, 19, 20, 21, 22, 23, 24, 25, 26, 27, 28, 29, 30, 31, 32, 33, 34, 35, 36, 37, 38, 39] (by decide +kernel) (by decide +kernel)
set_option maxRecDepth 20000 in
theorem gX11_isBehind_X11_rangeOf : GoodIn wsX11_isBehind (wsV RX11 115 RX11 yX11_rangeOf wsX11_rangeOf) := goodIn_app (goodIn_of _ (by decide +kernel)) ggX11_isBehind_X11_rangeOf
theorem dX11_isBehind_0 : decode cX11_isBehind 0 = .ok (.aload_n 0, 1) := by decide +kernel
theorem dX11_isBehind_1 : decode cX11_isBehind 1 = .ok (.iload_n 1, 1) := by decide +kernel
theorem dX11_isBehind_2 : decode cX11_isBehind 2 = .ok (.iload_n 2, 1) := by decide +kernel
theorem dX11_isBehind_3 : decode cX11_isBehind 3 = .ok (.invokevirtual 115, 3) := by decide +kernel
theorem dX11_isBehind_6 : decode cX11_isBehind 6 = .ok (.istore_n 3, 1) := by decide +kernel
theorem dX11_isBehind_7 : decode cX11_isBehind 7 = .ok (.iconst 0, 1) := by decide +kernel
theorem dX11_isBehind_8 : decode cX11_isBehind 8 = .ok (.istore 4, 2) := by decide +kernel
theorem dX11_isBehind_10 : decode cX11_isBehind 10 = .ok (.iload 4, 2) := by decide +kernel
theorem dX11_isBehind_12 : decode cX11_isBehind 12 = .ok (.sipush 256, 3) := by decide +kernel
theorem dX11_isBehind_15 : decode cX11_isBehind 15 = .ok (.if_icmp .ge 46, 3) := by decide +kernel
theorem dX11_isBehind_18 : decode cX11_isBehind 18 = .ok (.aload_n 0, 1) := by decide +kernel
theorem dX11_isBehind_19 : decode cX11_isBehind 19 = .ok (.getfield 47, 3) := by decide +kernel
theorem dX11_isBehind_22 : decode cX11_isBehind 22 = .ok (.iload 4, 2) := by decide +kernel
theorem dX11_isBehind_24 : decode cX11_isBehind 24 = .ok (.baload, 1) := by decide +kernel
theorem dX11_isBehind_25 : decode cX11_isBehind 25 = .ok (.ifCond .eq 30, 3) := by decide +kernel
theorem dX11_isBehind_28 : decode cX11_isBehind 28 = .ok (.iload_n 3, 1) := by decide +kernel
theorem dX11_isBehind_29 : decode cX11_isBehind 29 = .ok (.aload_n 0, 1) := by decide +kernel
theorem dX11_isBehind_30 : decode cX11_isBehind 30 = .ok (.iload 4, 2) := by decide +kernel
theorem dX11_isBehind_32 : decode cX11_isBehind 32 = .ok (.iload_n 2, 1) := by decide +kernel
theorem dX11_isBehind_33 : decode cX11_isBehind 33 = .ok (.invokevirtual 115, 3) := by decide +kernel
theorem dX11_isBehind_36 : decode cX11_isBehind 36 = .ok (.iconst (-1), 1) := by decide +kernel
theorem dX11_isBehind_37 : decode cX11_isBehind 37 = .ok (.ixor, 1) := by decide +kernel
theorem dX11_isBehind_38 : decode cX11_isBehind 38 = .ok (.iand, 1) := by decide +kernel
theorem dX11_isBehind_39 : decode cX11_isBehind 39 = .ok (.ifCond .ne 16, 3) := by decide +kernel
theorem dX11_isBehind_42 : decode cX11_isBehind 42 = .ok (.iload_n 3, 1) := by decide +kernel
theorem dX11_isBehind_43 : decode cX11_isBehind 43 = .ok (.aload_n 0, 1) := by decide +kernel
theorem dX11_isBehind_44 : decode cX11_isBehind 44 = .ok (.iload 4, 2) := by decide +kernel
theorem dX11_isBehind_46 : decode cX11_isBehind 46 = .ok (.iload_n 2, 1) := by decide +kernel
theorem dX11_isBehind_47 : decode cX11_isBehind 47 = .ok (.invokevirtual 115, 3) := by decide +kernel
theorem dX11_isBehind_50 : decode cX11_isBehind 50 = .ok (.if_icmp .eq 5, 3) := by decide +kernel
theorem dX11_isBehind_53 : decode cX11_isBehind 53 = .ok (.iconst 1, 1) := by decide +kernel
theorem dX11_isBehind_54 : decode cX11_isBehind 54 = .ok (.ireturn, 1) := by decide +kernel
theorem dX11_isBehind_55 : decode cX11_isBehind 55 = .ok (.iinc 4 1, 3) := by decide +kernel
theorem dX11_isBehind_58 : decode cX11_isBehind 58 = .ok (.goto (-48), 3) := by decide +kernel
theorem dX11_isBehind_61 : decode cX11_isBehind 61 = .ok (.iconst 0, 1) := by decide +kernel
theorem dX11_isBehind_62 : decode cX11_isBehind 62 = .ok (.ireturn, 1) := by decide +kernel
set_option maxRecDepth 20000 in
theorem ggX11_finds_X11_findsPlain : GoodIn wsX11_finds wsX11_findsPlain := goodIn_r _ [7, 2, 8, 9, 10, 6, 11, 12, 13, 14, 15, 16, 17, 18, 19, 20, 21, 22, 23, 24, 25, 26, 27, 28, 29, 30, 31, 32, 33, 34, 35, 36, 37, 38, 39, 40, 41, 50, 51, 52, 53, 54, 55, 56, 57, 58, 59, 60, 61, 62, 63, 64, 65, 66, 67, 68, 69, 70, 71, 72, 73] (by decide +kernel) (by decide +kernel)
set_option maxRecDepth 20000 in
theorem gX11_finds_X11_findsPlain : GoodIn wsX11_finds (wsV RX11 119 RX11 yX11_findsPlain wsX11_findsPlain) := goodIn_app (goodIn_of _ (by decide +kernel)) ggX11_finds_X11_findsPlain
set_option maxRecDepth 20000 in
theorem ggX11_finds_X11_isBehind : GoodIn wsX11_finds wsX11_isBehind := goodIn_r _ [45, 1, 46, 47, 48, 6, 49, 13, 14, 15, 16, 12, 17, 18, 19, 20, 50, 51, 52, 53, 54, 55, 56, 57, 58, 59, 60, 61, 62, 63, 64, 65, 66, 67, 68, 69, 70, 71, 72, 73] (by decide +kernel) (by decide +kernel)
set_option maxRecDepth 20000 in
theorem gX11_finds_X11_isBehind : GoodIn wsX11_finds (wsV RX11 123 RX11 yX11_isBehind wsX11_isBehind) := goodIn_app (goodIn_of _ (by decide +kernel)) ggX11_finds_X11_isBehind
theorem dX11_finds_0 : decode cX11_finds 0 = .ok (.aload_n 0, 1) := by decide +kernel
theorem dX11_finds_1 : decode cX11_finds 1 = .ok (.iload_n 1, 1) := by decide +kernel
theorem dX11_finds_2 : decode cX11_finds 2 = .ok (.iconst 3, 1) := by decide +kernel
theorem dX11_finds_3 : decode cX11_finds 3 = .ok (.if_icmp .ne 7, 3) := by decide +kernel
theorem dX11_finds_6 : decode cX11_finds 6 = .ok (.iconst 1, 1) := by decide +kernel
theorem dX11_finds_7 : decode cX11_finds 7 = .ok (.goto 13, 3) := by decide +kernel
theorem dX11_finds_10 : decode cX11_finds 10 = .ok (.iload_n 1, 1) := by decide +kernel
theorem dX11_finds_11 : decode cX11_finds 11 = .ok (.iconst 5, 1) := by decide +kernel
theorem dX11_finds_12 : decode cX11_finds 12 = .ok (.if_icmp .ne 7, 3) := by decide +kernel
theorem dX11_finds_15 : decode cX11_finds 15 = .ok (.iconst 2, 1) := by decide +kernel
theorem dX11_finds_16 : decode cX11_finds 16 = .ok (.goto 4, 3) := by decide +kernel
theorem dX11_finds_19 : decode cX11_finds 19 = .ok (.iload_n 1, 1) := by decide +kernel
theorem dX11_finds_20 : decode cX11_finds 20 = .ok (.invokevirtual 119, 3) := by decide +kernel
theorem dX11_finds_23 : decode cX11_finds 23 = .ok (.iload_n 1, 1) := by decide +kernel
theorem dX11_finds_24 : decode cX11_finds 24 = .ok (.iconst 3, 1) := by decide +kernel
theorem dX11_finds_25 : decode cX11_finds 25 = .ok (.if_icmp .eq 9, 3) := by decide +kernel
theorem dX11_finds_28 : decode cX11_finds 28 = .ok (.iload_n 1, 1) := by decide +kernel
theorem dX11_finds_29 : decode cX11_finds 29 = .ok (.iconst 5, 1) := by decide +kernel
theorem dX11_finds_30 : decode cX11_finds 30 = .ok (.if_icmp .eq 4, 3) := by decide +kernel
theorem dX11_finds_33 : decode cX11_finds 33 = .ok (.return_, 1) := by decide +kernel
theorem dX11_finds_34 : decode cX11_finds 34 = .ok (.iconst 0, 1) := by decide +kernel
theorem dX11_finds_35 : decode cX11_finds 35 = .ok (.istore_n 2, 1) := by decide +kernel
theorem dX11_finds_36 : decode cX11_finds 36 = .ok (.iload_n 2, 1) := by decide +kernel
theorem dX11_finds_37 : decode cX11_finds 37 = .ok (.sipush 256, 3) := by decide +kernel
theorem dX11_finds_40 : decode cX11_finds 40 = .ok (.if_icmp .ge 21, 3) := by decide +kernel
theorem dX11_finds_43 : decode cX11_finds 43 = .ok (.aload_n 0, 1) := by decide +kernel
theorem dX11_finds_44 : decode cX11_finds 44 = .ok (.getfield 47, 3) := by decide +kernel
theorem dX11_finds_47 : decode cX11_finds 47 = .ok (.iload_n 2, 1) := by decide +kernel
theorem dX11_finds_48 : decode cX11_finds 48 = .ok (.aload_n 0, 1) := by decide +kernel
theorem dX11_finds_49 : decode cX11_finds 49 = .ok (.getfield 43, 3) := by decide +kernel
theorem dX11_finds_52 : decode cX11_finds 52 = .ok (.iload_n 2, 1) := by decide +kernel
theorem dX11_finds_53 : decode cX11_finds 53 = .ok (.baload, 1) := by decide +kernel
theorem dX11_finds_54 : decode cX11_finds 54 = .ok (.bastore, 1) := by decide +kernel
theorem dX11_finds_55 : decode cX11_finds 55 = .ok (.iinc 2 1, 3) := by decide +kernel
theorem dX11_finds_58 : decode cX11_finds 58 = .ok (.goto (-22), 3) := by decide +kernel
theorem dX11_finds_61 : decode cX11_finds 61 = .ok (.iconst 0, 1) := by decide +kernel
theorem dX11_finds_62 : decode cX11_finds 62 = .ok (.istore_n 2, 1) := by decide +kernel
theorem dX11_finds_63 : decode cX11_finds 63 = .ok (.iload_n 2, 1) := by decide +kernel
theorem dX11_finds_64 : decode cX11_finds 64 = .ok (.sipush 256, 3) := by decide +kernel
theorem dX11_finds_67 : decode cX11_finds 67 = .ok (.if_icmp .ge 47, 3) := by decide +kernel
theorem dX11_finds_70 : decode cX11_finds 70 = .ok (.aload_n 0, 1) := by decide +kernel
theorem dX11_finds_71 : decode cX11_finds 71 = .ok (.getfield 43, 3) := by decide +kernel
theorem dX11_finds_74 : decode cX11_finds 74 = .ok (.iload_n 2, 1) := by decide +kernel
theorem dX11_finds_75 : decode cX11_finds 75 = .ok (.aload_n 0, 1) := by decide +kernel
theorem dX11_finds_76 : decode cX11_finds 76 = .ok (.getfield 47, 3) := by decide +kernel
theorem dX11_finds_79 : decode cX11_finds 79 = .ok (.iload_n 2, 1) := by decide +kernel
theorem dX11_finds_80 : decode cX11_finds 80 = .ok (.baload, 1) := by decide +kernel
theorem dX11_finds_81 : decode cX11_finds 81 = .ok (.ifCond .eq 25, 3) := by decide +kernel
theorem dX11_finds_84 : decode cX11_finds 84 = .ok (.aload_n 0, 1) := by decide +kernel
theorem dX11_finds_85 : decode cX11_finds 85 = .ok (.iload_n 2, 1) := by decide +kernel
theorem dX11_finds_86 : decode cX11_finds 86 = .ok (.iload_n 1, 1) := by decide +kernel
theorem dX11_finds_87 : decode cX11_finds 87 = .ok (.iconst 5, 1) := by decide +kernel
theorem dX11_finds_88 : decode cX11_finds 88 = .ok (.if_icmp .ne 7, 3) := by decide +kernel
theorem dX11_finds_91 : decode cX11_finds 91 = .ok (.iconst 1, 1) := by decide +kernel
theorem dX11_finds_92 : decode cX11_finds 92 = .ok (.goto 4, 3) := by decide +kernel
theorem dX11_finds_95 : decode cX11_finds 95 = .ok (.iconst 0, 1) := by decide +kernel
theorem dX11_finds_96 : decode cX11_finds 96 = .ok (.invokevirtual 123, 3) := by decide +kernel
theorem dX11_finds_99 : decode cX11_finds 99 = .ok (.ifCond .ne 7, 3) := by decide +kernel
theorem dX11_finds_102 : decode cX11_finds 102 = .ok (.iconst 1, 1) := by decide +kernel
theorem dX11_finds_103 : decode cX11_finds 103 = .ok (.goto 4, 3) := by decide +kernel
theorem dX11_finds_106 : decode cX11_finds 106 = .ok (.iconst 0, 1) := by decide +kernel
theorem dX11_finds_107 : decode cX11_finds 107 = .ok (.bastore, 1) := by decide +kernel
theorem dX11_finds_108 : decode cX11_finds 108 = .ok (.iinc 2 1, 3) := by decide +kernel
theorem dX11_finds_111 : decode cX11_finds 111 = .ok (.goto (-48), 3) := by decide +kernel
theorem dX11_finds_114 : decode cX11_finds 114 = .ok (.return_, 1) := by decide +kernel
theorem dX11_found_0 : decode cX11_found 0 = .ok (.iconst 0, 1) := by decide +kernel
theorem dX11_found_1 : decode cX11_found 1 = .ok (.istore_n 1, 1) := by decide +kernel
theorem dX11_found_2 : decode cX11_found 2 = .ok (.iconst 0, 1) := by decide +kernel
theorem dX11_found_3 : decode cX11_found 3 = .ok (.istore_n 2, 1) := by decide +kernel
theorem dX11_found_4 : decode cX11_found 4 = .ok (.iload_n 2, 1) := by decide +kernel
theorem dX11_found_5 : decode cX11_found 5 = .ok (.sipush 256, 3) := by decide +kernel
theorem dX11_found_8 : decode cX11_found 8 = .ok (.if_icmp .ge 26, 3) := by decide +kernel
theorem dX11_found_11 : decode cX11_found 11 = .ok (.iload_n 1, 1) := by decide +kernel
theorem dX11_found_12 : decode cX11_found 12 = .ok (.aload_n 0, 1) := by decide +kernel
theorem dX11_found_13 : decode cX11_found 13 = .ok (.getfield 43, 3) := by decide +kernel
theorem dX11_found_16 : decode cX11_found 16 = .ok (.iload_n 2, 1) := by decide +kernel
theorem dX11_found_17 : decode cX11_found 17 = .ok (.baload, 1) := by decide +kernel
theorem dX11_found_18 : decode cX11_found 18 = .ok (.ifCond .eq 7, 3) := by decide +kernel
theorem dX11_found_21 : decode cX11_found 21 = .ok (.iconst 1, 1) := by decide +kernel
theorem dX11_found_22 : decode cX11_found 22 = .ok (.goto 4, 3) := by decide +kernel
theorem dX11_found_25 : decode cX11_found 25 = .ok (.iconst 0, 1) := by decide +kernel
theorem dX11_found_26 : decode cX11_found 26 = .ok (.iadd, 1) := by decide +kernel
theorem dX11_found_27 : decode cX11_found 27 = .ok (.istore_n 1, 1) := by decide +kernel
theorem dX11_found_28 : decode cX11_found 28 = .ok (.iinc 2 1, 3) := by decide +kernel
theorem dX11_found_31 : decode cX11_found 31 = .ok (.goto (-27), 3) := by decide +kernel
theorem dX11_found_34 : decode cX11_found 34 = .ok (.iload_n 1, 1) := by decide +kernel
theorem dX11_found_35 : decode cX11_found 35 = .ok (.ireturn, 1) := by decide +kernel
set_option maxRecDepth 20000 in
theorem ggX11_foundAt_X11_ones : GoodIn wsX11_foundAt wsX11_ones := goodIn_r _ [5] (by decide +kernel) (by decide +kernel)
set_option maxRecDepth 20000 in
theorem gX11_foundAt_X11_ones : GoodIn wsX11_foundAt (va_wsS RX11 127 yX11_ones wsX11_ones) := goodIn_app (goodIn_of _ (by decide +kernel)) ggX11_foundAt_X11_ones
theorem dX11_foundAt_0 : decode cX11_foundAt 0 = .ok (.iload_n 1, 1) := by decide +kernel
theorem dX11_foundAt_1 : decode cX11_foundAt 1 = .ok (.istore_n 2, 1) := by decide +kernel
theorem dX11_foundAt_2 : decode cX11_foundAt 2 = .ok (.bipush 8, 2) := by decide +kernel
theorem dX11_foundAt_4 : decode cX11_foundAt 4 = .ok (.istore_n 3, 1) := by decide +kernel
theorem dX11_foundAt_5 : decode cX11_foundAt 5 = .ok (.iload_n 3, 1) := by decide +kernel
theorem dX11_foundAt_6 : decode cX11_foundAt 6 = .ok (.ifCond .lt 55, 3) := by decide +kernel
theorem dX11_foundAt_9 : decode cX11_foundAt 9 = .ok (.iconst 0, 1) := by decide +kernel
theorem dX11_foundAt_10 : decode cX11_foundAt 10 = .ok (.istore 4, 2) := by decide +kernel
theorem dX11_foundAt_12 : decode cX11_foundAt 12 = .ok (.iload 4, 2) := by decide +kernel
theorem dX11_foundAt_14 : decode cX11_foundAt 14 = .ok (.sipush 256, 3) := by decide +kernel
theorem dX11_foundAt_17 : decode cX11_foundAt 17 = .ok (.if_icmp .ge 38, 3) := by decide +kernel
theorem dX11_foundAt_20 : decode cX11_foundAt 20 = .ok (.aload_n 0, 1) := by decide +kernel
theorem dX11_foundAt_21 : decode cX11_foundAt 21 = .ok (.getfield 43, 3) := by decide +kernel
theorem dX11_foundAt_24 : decode cX11_foundAt 24 = .ok (.iload 4, 2) := by decide +kernel
theorem dX11_foundAt_26 : decode cX11_foundAt 26 = .ok (.baload, 1) := by decide +kernel
theorem dX11_foundAt_27 : decode cX11_foundAt 27 = .ok (.ifCond .eq 22, 3) := by decide +kernel
theorem dX11_foundAt_30 : decode cX11_foundAt 30 = .ok (.iload 4, 2) := by decide +kernel
theorem dX11_foundAt_32 : decode cX11_foundAt 32 = .ok (.invokestatic 127, 3) := by decide +kernel
theorem dX11_foundAt_35 : decode cX11_foundAt 35 = .ok (.iload_n 3, 1) := by decide +kernel
theorem dX11_foundAt_36 : decode cX11_foundAt 36 = .ok (.if_icmp .ne 13, 3) := by decide +kernel
theorem dX11_foundAt_39 : decode cX11_foundAt 39 = .ok (.iload_n 2, 1) := by decide +kernel
theorem dX11_foundAt_40 : decode cX11_foundAt 40 = .ok (.ifCond .ne 6, 3) := by decide +kernel
theorem dX11_foundAt_43 : decode cX11_foundAt 43 = .ok (.iload 4, 2) := by decide +kernel
theorem dX11_foundAt_45 : decode cX11_foundAt 45 = .ok (.ireturn, 1) := by decide +kernel
theorem dX11_foundAt_46 : decode cX11_foundAt 46 = .ok (.iinc 2 (-1), 3) := by decide +kernel
theorem dX11_foundAt_49 : decode cX11_foundAt 49 = .ok (.iinc 4 1, 3) := by decide +kernel
theorem dX11_foundAt_52 : decode cX11_foundAt 52 = .ok (.goto (-40), 3) := by decide +kernel
theorem dX11_foundAt_55 : decode cX11_foundAt 55 = .ok (.iinc 3 (-1), 3) := by decide +kernel
theorem dX11_foundAt_58 : decode cX11_foundAt 58 = .ok (.goto (-53), 3) := by decide +kernel
theorem dX11_foundAt_61 : decode cX11_foundAt 61 = .ok (.bipush (-9), 2) := by decide +kernel
theorem dX11_foundAt_63 : decode cX11_foundAt 63 = .ok (.ireturn, 1) := by decide +kernel
theorem dX11_letterAt_0 : decode cX11_letterAt 0 = .ok (.iload_n 1, 1) := by decide +kernel
theorem dX11_letterAt_1 : decode cX11_letterAt 1 = .ok (.aload_n 0, 1) := by decide +kernel
theorem dX11_letterAt_2 : decode cX11_letterAt 2 = .ok (.getfield 130, 3) := by decide +kernel
theorem dX11_letterAt_5 : decode cX11_letterAt 5 = .ok (.if_icmp .ge 12, 3) := by decide +kernel
theorem dX11_letterAt_8 : decode cX11_letterAt 8 = .ok (.aload_n 0, 1) := by decide +kernel
theorem dX11_letterAt_9 : decode cX11_letterAt 9 = .ok (.getfield 25, 3) := by decide +kernel
theorem dX11_letterAt_12 : decode cX11_letterAt 12 = .ok (.iload_n 1, 1) := by decide +kernel
theorem dX11_letterAt_13 : decode cX11_letterAt 13 = .ok (.iaload, 1) := by decide +kernel
theorem dX11_letterAt_14 : decode cX11_letterAt 14 = .ok (.goto 4, 3) := by decide +kernel
theorem dX11_letterAt_17 : decode cX11_letterAt 17 = .ok (.iconst (-1), 1) := by decide +kernel
theorem dX11_letterAt_18 : decode cX11_letterAt 18 = .ok (.ireturn, 1) := by decide +kernel
theorem dX11_takes_0 : decode cX11_takes 0 = .ok (.aload_n 0, 1) := by decide +kernel
theorem dX11_takes_1 : decode cX11_takes 1 = .ok (.aload_n 0, 1) := by decide +kernel
theorem dX11_takes_2 : decode cX11_takes 2 = .ok (.getfield 133, 3) := by decide +kernel
theorem dX11_takes_5 : decode cX11_takes 5 = .ok (.ifCond .eq 11, 3) := by decide +kernel
theorem dX11_takes_8 : decode cX11_takes 8 = .ok (.iload_n 1, 1) := by decide +kernel
theorem dX11_takes_9 : decode cX11_takes 9 = .ok (.ifCond .eq 7, 3) := by decide +kernel
theorem dX11_takes_12 : decode cX11_takes 12 = .ok (.iconst 1, 1) := by decide +kernel
theorem dX11_takes_13 : decode cX11_takes 13 = .ok (.goto 4, 3) := by decide +kernel
theorem dX11_takes_16 : decode cX11_takes 16 = .ok (.iconst 0, 1) := by decide +kernel
theorem dX11_takes_17 : decode cX11_takes 17 = .ok (.putfield 133, 3) := by decide +kernel
theorem dX11_takes_20 : decode cX11_takes 20 = .ok (.aload_n 0, 1) := by decide +kernel
theorem dX11_takes_21 : decode cX11_takes 21 = .ok (.dup, 1) := by decide +kernel
theorem dX11_takes_22 : decode cX11_takes 22 = .ok (.getfield 137, 3) := by decide +kernel
theorem dX11_takes_25 : decode cX11_takes 25 = .ok (.aload_n 0, 1) := by decide +kernel
theorem dX11_takes_26 : decode cX11_takes 26 = .ok (.getfield 133, 3) := by decide +kernel
theorem dX11_takes_29 : decode cX11_takes 29 = .ok (.ifCond .eq 7, 3) := by decide +kernel
theorem dX11_takes_32 : decode cX11_takes 32 = .ok (.iconst 1, 1) := by decide +kernel
theorem dX11_takes_33 : decode cX11_takes 33 = .ok (.goto 4, 3) := by decide +kernel
theorem dX11_takes_36 : decode cX11_takes 36 = .ok (.iconst 0, 1) := by decide +kernel
theorem dX11_takes_37 : decode cX11_takes 37 = .ok (.iadd, 1) := by decide +kernel
theorem dX11_takes_38 : decode cX11_takes 38 = .ok (.putfield 137, 3) := by decide +kernel
theorem dX11_takes_41 : decode cX11_takes 41 = .ok (.return_, 1) := by decide +kernel
set_option maxRecDepth 20000 in
theorem ggX11_takesDigits_X11_letterAt : GoodIn wsX11_takesDigits wsX11_letterAt := goodIn_r _ [8, 9, 10, 19, 20, 21, 22, 23, 24, 25, 26, 27, 28, 29, 30, 31, 32, 33, 34, 35, 36, 37, 38, 39, 40, 41, 42] (by decide +kernel) (by decide +kernel)
set_option maxRecDepth 20000 in
theorem gX11_takesDigits_X11_letterAt : GoodIn wsX11_takesDigits (wsV RX11 140 RX11 yX11_letterAt wsX11_letterAt) := goodIn_app (goodIn_of _ (by decide +kernel)) ggX11_takesDigits_X11_letterAt
set_option maxRecDepth 20000 in
theorem ggX11_takesDigits_X11_in : GoodIn wsX11_takesDigits wsX11_in := goodIn_r _ [13] (by decide +kernel) (by decide +kernel)
set_option maxRecDepth 20000 in
theorem gX11_takesDigits_X11_in : GoodIn wsX11_takesDigits (va_wsS RX11 57 yX11_in wsX11_in) := goodIn_app (goodIn_of _ (by decide +kernel)) ggX11_takesDigits_X11_in
set_option maxRecDepth 20000 in
theorem ggX11_takesDigits_X11_takes : GoodIn wsX11_takesDigits wsX11_takes := goodIn_r _ [17, 18, 1, 19, 20, 21, 22, 23, 24, 25, 26, 27, 28, 29, 30, 31, 32, 33, 34, 35, 36, 37, 38, 39, 40, 41, 42] (by decide +kernel) (by decide +kernel)
set_option maxRecDepth 20000 in
theorem gX11_takesDigits_X11_takes : GoodIn wsX11_takesDigits (wsV RX11 147 RX11 yX11_takes wsX11_takes) := goodIn_app (goodIn_of _ (by decide +kernel)) ggX11_takesDigits_X11_takes
theorem dX11_takesDigits_0 : decode cX11_takesDigits 0 = .ok (.iconst 0, 1) := by decide +kernel
theorem dX11_takesDigits_1 : decode cX11_takesDigits 1 = .ok (.istore_n 2, 1) := by decide +kernel
theorem dX11_takesDigits_2 : decode cX11_takesDigits 2 = .ok (.iload_n 2, 1) := by decide +kernel
theorem dX11_takesDigits_3 : decode cX11_takesDigits 3 = .ok (.iload_n 1, 1) := by decide +kernel
theorem dX11_takesDigits_4 : decode cX11_takesDigits 4 = .ok (.if_icmp .ge 31, 3) := by decide +kernel
theorem dX11_takesDigits_7 : decode cX11_takesDigits 7 = .ok (.aload_n 0, 1) := by decide +kernel
theorem dX11_takesDigits_8 : decode cX11_takesDigits 8 = .ok (.aload_n 0, 1) := by decide +kernel
theorem dX11_takesDigits_9 : decode cX11_takesDigits 9 = .ok (.aload_n 0, 1) := by decide +kernel
theorem dX11_takesDigits_10 : decode cX11_takesDigits 10 = .ok (.getfield 137, 3) := by decide +kernel
theorem dX11_takesDigits_13 : decode cX11_takesDigits 13 = .ok (.invokevirtual 140, 3) := by decide +kernel
theorem dX11_takesDigits_16 : decode cX11_takesDigits 16 = .ok (.i2l, 1) := by decide +kernel
theorem dX11_takesDigits_17 : decode cX11_takesDigits 17 = .ok (.ldc2_w 143, 3) := by decide +kernel
theorem dX11_takesDigits_20 : decode cX11_takesDigits 20 = .ok (.ldc2_w 145, 3) := by decide +kernel
theorem dX11_takesDigits_23 : decode cX11_takesDigits 23 = .ok (.invokestatic 57, 3) := by decide +kernel
theorem dX11_takesDigits_26 : decode cX11_takesDigits 26 = .ok (.invokevirtual 147, 3) := by decide +kernel
theorem dX11_takesDigits_29 : decode cX11_takesDigits 29 = .ok (.iinc 2 1, 3) := by decide +kernel
theorem dX11_takesDigits_32 : decode cX11_takesDigits 32 = .ok (.goto (-30), 3) := by decide +kernel
theorem dX11_takesDigits_35 : decode cX11_takesDigits 35 = .ok (.return_, 1) := by decide +kernel
set_option maxRecDepth 20000 in
theorem ggX11_isNamed_X11_in : GoodIn wsX11_isNamed wsX11_in := goodIn_r _ [6] (by decide +kernel) (by decide +kernel)
set_option maxRecDepth 20000 in
theorem gX11_isNamed_X11_in : GoodIn wsX11_isNamed (va_wsS RX11 57 yX11_in wsX11_in) := goodIn_app (goodIn_of _ (by decide +kernel)) ggX11_isNamed_X11_in
theorem dX11_isNamed_0 : decode cX11_isNamed 0 = .ok (.iload_n 0, 1) := by decide +kernel
theorem dX11_isNamed_1 : decode cX11_isNamed 1 = .ok (.i2l, 1) := by decide +kernel
theorem dX11_isNamed_2 : decode cX11_isNamed 2 = .ok (.ldc2_w 151, 3) := by decide +kernel
theorem dX11_isNamed_5 : decode cX11_isNamed 5 = .ok (.ldc2_w 153, 3) := by decide +kernel
theorem dX11_isNamed_8 : decode cX11_isNamed 8 = .ok (.invokestatic 57, 3) := by decide +kernel
theorem dX11_isNamed_11 : decode cX11_isNamed 11 = .ok (.ifCond .eq 13, 3) := by decide +kernel
theorem dX11_isNamed_14 : decode cX11_isNamed 14 = .ok (.iload_n 0, 1) := by decide +kernel
theorem dX11_isNamed_15 : decode cX11_isNamed 15 = .ok (.bipush 109, 2) := by decide +kernel
theorem dX11_isNamed_17 : decode cX11_isNamed 17 = .ok (.if_icmp .eq 7, 3) := by decide +kernel
theorem dX11_isNamed_20 : decode cX11_isNamed 20 = .ok (.iconst 1, 1) := by decide +kernel
theorem dX11_isNamed_21 : decode cX11_isNamed 21 = .ok (.goto 4, 3) := by decide +kernel
theorem dX11_isNamed_24 : decode cX11_isNamed 24 = .ok (.iconst 0, 1) := by decide +kernel
theorem dX11_isNamed_25 : decode cX11_isNamed 25 = .ok (.ireturn, 1) := by decide +kernel
theorem dX11_isLink_0 : decode cX11_isLink 0 = .ok (.iload_n 0, 1) := by decide +kernel
theorem dX11_isLink_1 : decode cX11_isLink 1 = .ok (.bipush 62, 2) := by decide +kernel
theorem dX11_isLink_3 : decode cX11_isLink 3 = .ok (.if_icmp .eq 9, 3) := by decide +kernel
theorem dX11_isLink_6 : decode cX11_isLink 6 = .ok (.iload_n 0, 1) := by decide +kernel
theorem dX11_isLink_7 : decode cX11_isLink 7 = .ok (.bipush 43, 2) := by decide +kernel
theorem dX11_isLink_9 : decode cX11_isLink 9 = .ok (.if_icmp .ne 7, 3) := by decide +kernel
theorem dX11_isLink_12 : decode cX11_isLink 12 = .ok (.iconst 1, 1) := by decide +kernel
theorem dX11_isLink_13 : decode cX11_isLink 13 = .ok (.goto 4, 3) := by decide +kernel
theorem dX11_isLink_16 : decode cX11_isLink 16 = .ok (.iconst 0, 1) := by decide +kernel
theorem dX11_isLink_17 : decode cX11_isLink 17 = .ok (.ireturn, 1) := by decide +kernel
set_option maxRecDepth 20000 in
theorem ggX11_takesLinks_X11_letterAt : GoodIn wsX11_takesLinks wsX11_letterAt := goodIn_r _ [7, 8, 9, 25, 26, 27, 28, 29, 30, 31, 32, 33, 34, 35, 36, 37, 38, 39, 40, 41, 42, 43, 44, 45, 46, 47, 48] (by decide +kernel) (by decide +kernel)
set_option maxRecDepth 20000 in
theorem gX11_takesLinks_X11_letterAt : GoodIn wsX11_takesLinks (wsV RX11 140 RX11 yX11_letterAt wsX11_letterAt) := goodIn_app (goodIn_of _ (by decide +kernel)) ggX11_takesLinks_X11_letterAt
set_option maxRecDepth 20000 in
theorem ggX11_takesLinks_X11_isLink : GoodIn wsX11_takesLinks wsX11_isLink := goodIn_r _ [12] (by decide +kernel) (by decide +kernel)
set_option maxRecDepth 20000 in
theorem gX11_takesLinks_X11_isLink : GoodIn wsX11_takesLinks (va_wsS RX11 155 yX11_isLink wsX11_isLink) := goodIn_app (goodIn_of _ (by decide +kernel)) ggX11_takesLinks_X11_isLink
set_option maxRecDepth 20000 in
theorem ggX11_takesLinks_X11_takes : GoodIn wsX11_takesLinks wsX11_takes := goodIn_r _ [16, 2, 1, 25, 26, 27, 28, 29, 30, 31, 32, 33, 34, 35, 36, 37, 38, 39, 40, 41, 42, 43, 44, 45, 46, 47, 48] (by decide +kernel) (by decide +kernel)
set_option maxRecDepth 20000 in
theorem gX11_takesLinks_X11_takes : GoodIn wsX11_takesLinks (wsV RX11 147 RX11 yX11_takes wsX11_takes) := goodIn_app (goodIn_of _ (by decide +kernel)) ggX11_takesLinks_X11_takes
set_option maxRecDepth 20000 in
theorem ggX11_takesLinks_X11_isNamed : GoodIn wsX11_takesLinks wsX11_isNamed := goodIn_r _ [19, 20, 21, 22, 23, 6, 24] (by decide +kernel) (by decide +kernel)
set_option maxRecDepth 20000 in
theorem gX11_takesLinks_X11_isNamed : GoodIn wsX11_takesLinks (va_wsS RX11 158 yX11_isNamed wsX11_isNamed) := goodIn_app (goodIn_of _ (by decide +kernel)) ggX11_takesLinks_X11_isNamed
theorem dX11_takesLinks_0 : decode cX11_takesLinks 0 = .ok (.aload_n 0, 1) := by decide +kernel
theorem dX11_takesLinks_1 : decode cX11_takesLinks 1 = .ok (.aload_n 0, 1) := by decide +kernel
theorem dX11_takesLinks_2 : decode cX11_takesLinks 2 = .ok (.aload_n 0, 1) := by decide +kernel
theorem dX11_takesLinks_3 : decode cX11_takesLinks 3 = .ok (.getfield 137, 3) := by decide +kernel
theorem dX11_takesLinks_6 : decode cX11_takesLinks 6 = .ok (.invokevirtual 140, 3) := by decide +kernel
theorem dX11_takesLinks_9 : decode cX11_takesLinks 9 = .ok (.invokestatic 155, 3) := by decide +kernel
theorem dX11_takesLinks_12 : decode cX11_takesLinks 12 = .ok (.invokevirtual 147, 3) := by decide +kernel
theorem dX11_takesLinks_15 : decode cX11_takesLinks 15 = .ok (.aload_n 0, 1) := by decide +kernel
theorem dX11_takesLinks_16 : decode cX11_takesLinks 16 = .ok (.aload_n 0, 1) := by decide +kernel
theorem dX11_takesLinks_17 : decode cX11_takesLinks 17 = .ok (.aload_n 0, 1) := by decide +kernel
theorem dX11_takesLinks_18 : decode cX11_takesLinks 18 = .ok (.getfield 137, 3) := by decide +kernel
theorem dX11_takesLinks_21 : decode cX11_takesLinks 21 = .ok (.invokevirtual 140, 3) := by decide +kernel
theorem dX11_takesLinks_24 : decode cX11_takesLinks 24 = .ok (.invokestatic 158, 3) := by decide +kernel
theorem dX11_takesLinks_27 : decode cX11_takesLinks 27 = .ok (.invokevirtual 147, 3) := by decide +kernel
theorem dX11_takesLinks_30 : decode cX11_takesLinks 30 = .ok (.aload_n 0, 1) := by decide +kernel
theorem dX11_takesLinks_31 : decode cX11_takesLinks 31 = .ok (.getfield 133, 3) := by decide +kernel
theorem dX11_takesLinks_34 : decode cX11_takesLinks 34 = .ok (.ifCond .eq 45, 3) := by decide +kernel
theorem dX11_takesLinks_37 : decode cX11_takesLinks 37 = .ok (.aload_n 0, 1) := by decide +kernel
theorem dX11_takesLinks_38 : decode cX11_takesLinks 38 = .ok (.aload_n 0, 1) := by decide +kernel
theorem dX11_takesLinks_39 : decode cX11_takesLinks 39 = .ok (.getfield 137, 3) := by decide +kernel
theorem dX11_takesLinks_42 : decode cX11_takesLinks 42 = .ok (.invokevirtual 140, 3) := by decide +kernel
theorem dX11_takesLinks_45 : decode cX11_takesLinks 45 = .ok (.invokestatic 155, 3) := by decide +kernel
theorem dX11_takesLinks_48 : decode cX11_takesLinks 48 = .ok (.ifCond .eq 31, 3) := by decide +kernel
theorem dX11_takesLinks_51 : decode cX11_takesLinks 51 = .ok (.aload_n 0, 1) := by decide +kernel
theorem dX11_takesLinks_52 : decode cX11_takesLinks 52 = .ok (.dup, 1) := by decide +kernel
theorem dX11_takesLinks_53 : decode cX11_takesLinks 53 = .ok (.getfield 137, 3) := by decide +kernel
theorem dX11_takesLinks_56 : decode cX11_takesLinks 56 = .ok (.iconst 1, 1) := by decide +kernel
theorem dX11_takesLinks_57 : decode cX11_takesLinks 57 = .ok (.iadd, 1) := by decide +kernel
theorem dX11_takesLinks_58 : decode cX11_takesLinks 58 = .ok (.putfield 137, 3) := by decide +kernel
theorem dX11_takesLinks_61 : decode cX11_takesLinks 61 = .ok (.aload_n 0, 1) := by decide +kernel
theorem dX11_takesLinks_62 : decode cX11_takesLinks 62 = .ok (.aload_n 0, 1) := by decide +kernel
theorem dX11_takesLinks_63 : decode cX11_takesLinks 63 = .ok (.aload_n 0, 1) := by decide +kernel
theorem dX11_takesLinks_64 : decode cX11_takesLinks 64 = .ok (.getfield 137, 3) := by decide +kernel
theorem dX11_takesLinks_67 : decode cX11_takesLinks 67 = .ok (.invokevirtual 140, 3) := by decide +kernel
theorem dX11_takesLinks_70 : decode cX11_takesLinks 70 = .ok (.invokestatic 158, 3) := by decide +kernel
theorem dX11_takesLinks_73 : decode cX11_takesLinks 73 = .ok (.invokevirtual 147, 3) := by decide +kernel
theorem dX11_takesLinks_76 : decode cX11_takesLinks 76 = .ok (.goto (-46), 3) := by decide +kernel
theorem dX11_takesLinks_79 : decode cX11_takesLinks 79 = .ok (.return_, 1) := by decide +kernel
set_option maxRecDepth 20000 in
theorem ggX11_goesThrough_X11_letterAt : GoodIn wsX11_goesThrough wsX11_letterAt := goodIn_r _ [9, 10, 11, 35, 36, 37, 38, 39, 40, 41, 42, 43, 44, 45, 46, 47, 48, 49, 50, 51, 52, 53, 54, 55, 56, 57, 58] (by decide +kernel) (by decide +kernel)
set_option maxRecDepth 20000 in
theorem gX11_goesThrough_X11_letterAt : GoodIn wsX11_goesThrough (wsV RX11 140 RX11 yX11_letterAt wsX11_letterAt) := goodIn_app (goodIn_of _ (by decide +kernel)) ggX11_goesThrough_X11_letterAt
set_option maxRecDepth 20000 in
theorem ggX11_goesThrough_X11_in : GoodIn wsX11_goesThrough wsX11_in := goodIn_r _ [14] (by decide +kernel) (by decide +kernel)
set_option maxRecDepth 20000 in
theorem gX11_goesThrough_X11_in : GoodIn wsX11_goesThrough (va_wsS RX11 57 yX11_in wsX11_in) := goodIn_app (goodIn_of _ (by decide +kernel)) ggX11_goesThrough_X11_in
set_option maxRecDepth 20000 in
theorem ggX11_goesThrough_X11_takes : GoodIn wsX11_goesThrough wsX11_takes := goodIn_r _ [18, 4, 1, 35, 36, 37, 38, 39, 40, 41, 42, 43, 44, 45, 46, 47, 48, 49, 50, 51, 52, 53, 54, 55, 56, 57, 58] (by decide +kernel) (by decide +kernel)
set_option maxRecDepth 20000 in
theorem gX11_goesThrough_X11_takes : GoodIn wsX11_goesThrough (wsV RX11 147 RX11 yX11_takes wsX11_takes) := goodIn_app (goodIn_of _ (by decide +kernel)) ggX11_goesThrough_X11_takes
set_option maxRecDepth 20000 in
theorem ggX11_goesThrough_X11_takesDigits : GoodIn wsX11_goesThrough wsX11_takesDigits := goodIn_r _ [22, 1, 23, 24, 5, 6, 7, 8, 9, 10, 11, 12, 13, 14, 15, 16, 17, 18, 4, 35, 36, 37, 38, 39, 40, 41, 42, 43, 44, 45, 46, 47, 48, 49, 50, 51, 52, 53, 54, 55, 56, 57, 58] (by decide +kernel) (by decide +kernel)
set_option maxRecDepth 20000 in
theorem gX11_goesThrough_X11_takesDigits : GoodIn wsX11_goesThrough (wsV RX11 161 RX11 yX11_takesDigits wsX11_takesDigits) := goodIn_app (goodIn_of _ (by decide +kernel)) ggX11_goesThrough_X11_takesDigits
set_option maxRecDepth 20000 in
theorem ggX11_goesThrough_X11_takesLinks : GoodIn wsX11_goesThrough wsX11_takesLinks := goodIn_r _ [28, 1, 4, 5, 6, 7, 8, 9, 10, 11, 29, 30, 31, 15, 16, 17, 18, 32, 33, 34, 2, 3, 12, 13, 14, 35, 36, 37, 38, 39, 40, 41, 42, 43, 44, 45, 46, 47, 48, 49, 50, 51, 52, 53, 54, 55, 56, 57, 58] (by decide +kernel) (by decide +kernel)
set_option maxRecDepth 20000 in
theorem gX11_goesThrough_X11_takesLinks : GoodIn wsX11_goesThrough (wsV RX11 164 RX11 yX11_takesLinks wsX11_takesLinks) := goodIn_app (goodIn_of _ (by decide +kernel)) ggX11_goesThrough_X11_takesLinks
theorem dX11_goesThrough_0 : decode cX11_goesThrough 0 = .ok (.aload_n 0, 1) := by decide +kernel
theorem dX11_goesThrough_1 : decode cX11_goesThrough 1 = .ok (.aload_n 0, 1) := by decide +kernel
theorem dX11_goesThrough_2 : decode cX11_goesThrough 2 = .ok (.getfield 137, 3) := by decide +kernel
theorem dX11_goesThrough_5 : decode cX11_goesThrough 5 = .ok (.invokevirtual 140, 3) := by decide +kernel
theorem dX11_goesThrough_8 : decode cX11_goesThrough 8 = .ok (.istore_n 1, 1) := by decide +kernel
theorem dX11_goesThrough_9 : decode cX11_goesThrough 9 = .ok (.aload_n 0, 1) := by decide +kernel
theorem dX11_goesThrough_10 : decode cX11_goesThrough 10 = .ok (.iload_n 1, 1) := by decide +kernel
theorem dX11_goesThrough_11 : decode cX11_goesThrough 11 = .ok (.bipush 42, 2) := by decide +kernel
theorem dX11_goesThrough_13 : decode cX11_goesThrough 13 = .ok (.if_icmp .eq 17, 3) := by decide +kernel
theorem dX11_goesThrough_16 : decode cX11_goesThrough 16 = .ok (.iload_n 1, 1) := by decide +kernel
theorem dX11_goesThrough_17 : decode cX11_goesThrough 17 = .ok (.i2l, 1) := by decide +kernel
theorem dX11_goesThrough_18 : decode cX11_goesThrough 18 = .ok (.ldc2_w 151, 3) := by decide +kernel
theorem dX11_goesThrough_21 : decode cX11_goesThrough 21 = .ok (.ldc2_w 153, 3) := by decide +kernel
theorem dX11_goesThrough_24 : decode cX11_goesThrough 24 = .ok (.invokestatic 57, 3) := by decide +kernel
theorem dX11_goesThrough_27 : decode cX11_goesThrough 27 = .ok (.ifCond .eq 7, 3) := by decide +kernel
theorem dX11_goesThrough_30 : decode cX11_goesThrough 30 = .ok (.iconst 1, 1) := by decide +kernel
theorem dX11_goesThrough_31 : decode cX11_goesThrough 31 = .ok (.goto 4, 3) := by decide +kernel
theorem dX11_goesThrough_34 : decode cX11_goesThrough 34 = .ok (.iconst 0, 1) := by decide +kernel
theorem dX11_goesThrough_35 : decode cX11_goesThrough 35 = .ok (.invokevirtual 147, 3) := by decide +kernel
theorem dX11_goesThrough_38 : decode cX11_goesThrough 38 = .ok (.iload_n 1, 1) := by decide +kernel
theorem dX11_goesThrough_39 : decode cX11_goesThrough 39 = .ok (.bipush 42, 2) := by decide +kernel
theorem dX11_goesThrough_41 : decode cX11_goesThrough 41 = .ok (.if_icmp .eq 9, 3) := by decide +kernel
theorem dX11_goesThrough_44 : decode cX11_goesThrough 44 = .ok (.iload_n 1, 1) := by decide +kernel
theorem dX11_goesThrough_45 : decode cX11_goesThrough 45 = .ok (.bipush 109, 2) := by decide +kernel
theorem dX11_goesThrough_47 : decode cX11_goesThrough 47 = .ok (.if_icmp .ne 21, 3) := by decide +kernel
theorem dX11_goesThrough_50 : decode cX11_goesThrough 50 = .ok (.aload_n 0, 1) := by decide +kernel
theorem dX11_goesThrough_51 : decode cX11_goesThrough 51 = .ok (.iload_n 1, 1) := by decide +kernel
theorem dX11_goesThrough_52 : decode cX11_goesThrough 52 = .ok (.bipush 42, 2) := by decide +kernel
theorem dX11_goesThrough_54 : decode cX11_goesThrough 54 = .ok (.if_icmp .ne 7, 3) := by decide +kernel
theorem dX11_goesThrough_57 : decode cX11_goesThrough 57 = .ok (.iconst 3, 1) := by decide +kernel
theorem dX11_goesThrough_58 : decode cX11_goesThrough 58 = .ok (.goto 4, 3) := by decide +kernel
theorem dX11_goesThrough_61 : decode cX11_goesThrough 61 = .ok (.iconst 1, 1) := by decide +kernel
theorem dX11_goesThrough_62 : decode cX11_goesThrough 62 = .ok (.invokevirtual 161, 3) := by decide +kernel
theorem dX11_goesThrough_65 : decode cX11_goesThrough 65 = .ok (.goto 78, 3) := by decide +kernel
theorem dX11_goesThrough_68 : decode cX11_goesThrough 68 = .ok (.aload_n 0, 1) := by decide +kernel
theorem dX11_goesThrough_69 : decode cX11_goesThrough 69 = .ok (.getfield 133, 3) := by decide +kernel
theorem dX11_goesThrough_72 : decode cX11_goesThrough 72 = .ok (.ifCond .eq 34, 3) := by decide +kernel
theorem dX11_goesThrough_75 : decode cX11_goesThrough 75 = .ok (.aload_n 0, 1) := by decide +kernel
theorem dX11_goesThrough_76 : decode cX11_goesThrough 76 = .ok (.aload_n 0, 1) := by decide +kernel
theorem dX11_goesThrough_77 : decode cX11_goesThrough 77 = .ok (.getfield 137, 3) := by decide +kernel
theorem dX11_goesThrough_80 : decode cX11_goesThrough 80 = .ok (.invokevirtual 140, 3) := by decide +kernel
theorem dX11_goesThrough_83 : decode cX11_goesThrough 83 = .ok (.bipush 58, 2) := by decide +kernel
theorem dX11_goesThrough_85 : decode cX11_goesThrough 85 = .ok (.if_icmp .ne 21, 3) := by decide +kernel
theorem dX11_goesThrough_88 : decode cX11_goesThrough 88 = .ok (.aload_n 0, 1) := by decide +kernel
theorem dX11_goesThrough_89 : decode cX11_goesThrough 89 = .ok (.dup, 1) := by decide +kernel
theorem dX11_goesThrough_90 : decode cX11_goesThrough 90 = .ok (.getfield 137, 3) := by decide +kernel
theorem dX11_goesThrough_93 : decode cX11_goesThrough 93 = .ok (.iconst 1, 1) := by decide +kernel
theorem dX11_goesThrough_94 : decode cX11_goesThrough 94 = .ok (.iadd, 1) := by decide +kernel
theorem dX11_goesThrough_95 : decode cX11_goesThrough 95 = .ok (.putfield 137, 3) := by decide +kernel
theorem dX11_goesThrough_98 : decode cX11_goesThrough 98 = .ok (.aload_n 0, 1) := by decide +kernel
theorem dX11_goesThrough_99 : decode cX11_goesThrough 99 = .ok (.iconst 2, 1) := by decide +kernel
theorem dX11_goesThrough_100 : decode cX11_goesThrough 100 = .ok (.invokevirtual 161, 3) := by decide +kernel
theorem dX11_goesThrough_103 : decode cX11_goesThrough 103 = .ok (.goto 40, 3) := by decide +kernel
theorem dX11_goesThrough_106 : decode cX11_goesThrough 106 = .ok (.aload_n 0, 1) := by decide +kernel
theorem dX11_goesThrough_107 : decode cX11_goesThrough 107 = .ok (.getfield 133, 3) := by decide +kernel
theorem dX11_goesThrough_110 : decode cX11_goesThrough 110 = .ok (.ifCond .eq 29, 3) := by decide +kernel
theorem dX11_goesThrough_113 : decode cX11_goesThrough 113 = .ok (.aload_n 0, 1) := by decide +kernel
theorem dX11_goesThrough_114 : decode cX11_goesThrough 114 = .ok (.aload_n 0, 1) := by decide +kernel
theorem dX11_goesThrough_115 : decode cX11_goesThrough 115 = .ok (.getfield 137, 3) := by decide +kernel
theorem dX11_goesThrough_118 : decode cX11_goesThrough 118 = .ok (.invokevirtual 140, 3) := by decide +kernel
theorem dX11_goesThrough_121 : decode cX11_goesThrough 121 = .ok (.bipush 33, 2) := by decide +kernel
theorem dX11_goesThrough_123 : decode cX11_goesThrough 123 = .ok (.if_icmp .ne 16, 3) := by decide +kernel
theorem dX11_goesThrough_126 : decode cX11_goesThrough 126 = .ok (.aload_n 0, 1) := by decide +kernel
theorem dX11_goesThrough_127 : decode cX11_goesThrough 127 = .ok (.dup, 1) := by decide +kernel
theorem dX11_goesThrough_128 : decode cX11_goesThrough 128 = .ok (.getfield 137, 3) := by decide +kernel
theorem dX11_goesThrough_131 : decode cX11_goesThrough 131 = .ok (.iconst 1, 1) := by decide +kernel
theorem dX11_goesThrough_132 : decode cX11_goesThrough 132 = .ok (.iadd, 1) := by decide +kernel
theorem dX11_goesThrough_133 : decode cX11_goesThrough 133 = .ok (.putfield 137, 3) := by decide +kernel
theorem dX11_goesThrough_136 : decode cX11_goesThrough 136 = .ok (.goto 7, 3) := by decide +kernel
theorem dX11_goesThrough_139 : decode cX11_goesThrough 139 = .ok (.aload_n 0, 1) := by decide +kernel
theorem dX11_goesThrough_140 : decode cX11_goesThrough 140 = .ok (.invokevirtual 164, 3) := by decide +kernel
theorem dX11_goesThrough_143 : decode cX11_goesThrough 143 = .ok (.aload_n 0, 1) := by decide +kernel
theorem dX11_goesThrough_144 : decode cX11_goesThrough 144 = .ok (.aload_n 0, 1) := by decide +kernel
theorem dX11_goesThrough_145 : decode cX11_goesThrough 145 = .ok (.aload_n 0, 1) := by decide +kernel
theorem dX11_goesThrough_146 : decode cX11_goesThrough 146 = .ok (.getfield 137, 3) := by decide +kernel
theorem dX11_goesThrough_149 : decode cX11_goesThrough 149 = .ok (.invokevirtual 140, 3) := by decide +kernel
theorem dX11_goesThrough_152 : decode cX11_goesThrough 152 = .ok (.bipush 59, 2) := by decide +kernel
theorem dX11_goesThrough_154 : decode cX11_goesThrough 154 = .ok (.if_icmp .ne 7, 3) := by decide +kernel
theorem dX11_goesThrough_157 : decode cX11_goesThrough 157 = .ok (.iconst 1, 1) := by decide +kernel
theorem dX11_goesThrough_158 : decode cX11_goesThrough 158 = .ok (.goto 4, 3) := by decide +kernel
theorem dX11_goesThrough_161 : decode cX11_goesThrough 161 = .ok (.iconst 0, 1) := by decide +kernel
theorem dX11_goesThrough_162 : decode cX11_goesThrough 162 = .ok (.invokevirtual 147, 3) := by decide +kernel
theorem dX11_goesThrough_165 : decode cX11_goesThrough 165 = .ok (.return_, 1) := by decide +kernel
theorem dX11_digitAt_0 : decode cX11_digitAt 0 = .ok (.aload_n 0, 1) := by decide +kernel
theorem dX11_digitAt_1 : decode cX11_digitAt 1 = .ok (.getfield 25, 3) := by decide +kernel
theorem dX11_digitAt_4 : decode cX11_digitAt 4 = .ok (.iload_n 1, 1) := by decide +kernel
theorem dX11_digitAt_5 : decode cX11_digitAt 5 = .ok (.iaload, 1) := by decide +kernel
theorem dX11_digitAt_6 : decode cX11_digitAt 6 = .ok (.bipush 48, 2) := by decide +kernel
theorem dX11_digitAt_8 : decode cX11_digitAt 8 = .ok (.isub, 1) := by decide +kernel
theorem dX11_digitAt_9 : decode cX11_digitAt 9 = .ok (.ireturn, 1) := by decide +kernel
theorem dX11_comes_0 : decode cX11_comes 0 = .ok (.iload_n 1, 1) := by decide +kernel
theorem dX11_comes_1 : decode cX11_comes 1 = .ok (.iconst 5, 1) := by decide +kernel
theorem dX11_comes_2 : decode cX11_comes 2 = .ok (.if_icmp .gt 15, 3) := by decide +kernel
theorem dX11_comes_5 : decode cX11_comes 5 = .ok (.aload_n 0, 1) := by decide +kernel
theorem dX11_comes_6 : decode cX11_comes 6 = .ok (.getfield 9, 3) := by decide +kernel
theorem dX11_comes_9 : decode cX11_comes 9 = .ok (.bipush 42, 2) := by decide +kernel
theorem dX11_comes_11 : decode cX11_comes 11 = .ok (.iaload, 1) := by decide +kernel
theorem dX11_comes_12 : decode cX11_comes 12 = .ok (.bipush 8, 2) := by decide +kernel
theorem dX11_comes_14 : decode cX11_comes 14 = .ok (.if_icmp .ne 5, 3) := by decide +kernel
theorem dX11_comes_17 : decode cX11_comes 17 = .ok (.iconst 0, 1) := by decide +kernel
theorem dX11_comes_18 : decode cX11_comes 18 = .ok (.ireturn, 1) := by decide +kernel
theorem dX11_comes_19 : decode cX11_comes 19 = .ok (.aload_n 0, 1) := by decide +kernel
theorem dX11_comes_20 : decode cX11_comes 20 = .ok (.getfield 9, 3) := by decide +kernel
theorem dX11_comes_23 : decode cX11_comes 23 = .ok (.bipush 42, 2) := by decide +kernel
theorem dX11_comes_25 : decode cX11_comes 25 = .ok (.iaload, 1) := by decide +kernel
theorem dX11_comes_26 : decode cX11_comes 26 = .ok (.istore 4, 2) := by decide +kernel
theorem dX11_comes_28 : decode cX11_comes 28 = .ok (.aload_n 0, 1) := by decide +kernel
theorem dX11_comes_29 : decode cX11_comes 29 = .ok (.getfield 9, 3) := by decide +kernel
theorem dX11_comes_32 : decode cX11_comes 32 = .ok (.iconst 0, 1) := by decide +kernel
theorem dX11_comes_33 : decode cX11_comes 33 = .ok (.iload 4, 2) := by decide +kernel
theorem dX11_comes_35 : decode cX11_comes 35 = .ok (.iadd, 1) := by decide +kernel
theorem dX11_comes_36 : decode cX11_comes 36 = .ok (.iload_n 1, 1) := by decide +kernel
theorem dX11_comes_37 : decode cX11_comes 37 = .ok (.iastore, 1) := by decide +kernel
theorem dX11_comes_38 : decode cX11_comes 38 = .ok (.aload_n 0, 1) := by decide +kernel
theorem dX11_comes_39 : decode cX11_comes 39 = .ok (.getfield 9, 3) := by decide +kernel
theorem dX11_comes_42 : decode cX11_comes 42 = .ok (.bipush 8, 2) := by decide +kernel
theorem dX11_comes_44 : decode cX11_comes 44 = .ok (.iload 4, 2) := by decide +kernel
theorem dX11_comes_46 : decode cX11_comes 46 = .ok (.iadd, 1) := by decide +kernel
theorem dX11_comes_47 : decode cX11_comes 47 = .ok (.iload_n 2, 1) := by decide +kernel
theorem dX11_comes_48 : decode cX11_comes 48 = .ok (.iastore, 1) := by decide +kernel
theorem dX11_comes_49 : decode cX11_comes 49 = .ok (.aload_n 0, 1) := by decide +kernel
