theorem dX11_comes_50 : decode cX11_comes 50 = .ok (.getfield 9, 3) := by decide +kernel
theorem dX11_comes_53 : decode cX11_comes 53 = .ok (.bipush 16, 2) := by decide +kernel
theorem dX11_comes_55 : decode cX11_comes 55 = .ok (.iload 4, 2) := by decide +kernel
theorem dX11_comes_57 : decode cX11_comes 57 = .ok (.iadd, 1) := by decide +kernel
theorem dX11_comes_58 : decode cX11_comes 58 = .ok (.iload_n 3, 1) := by decide +kernel
theorem dX11_comes_59 : decode cX11_comes 59 = .ok (.iastore, 1) := by decide +kernel
theorem dX11_comes_60 : decode cX11_comes 60 = .ok (.aload_n 0, 1) := by decide +kernel
theorem dX11_comes_61 : decode cX11_comes 61 = .ok (.getfield 9, 3) := by decide +kernel
theorem dX11_comes_64 : decode cX11_comes 64 = .ok (.bipush 24, 2) := by decide +kernel
theorem dX11_comes_66 : decode cX11_comes 66 = .ok (.iload 4, 2) := by decide +kernel
theorem dX11_comes_68 : decode cX11_comes 68 = .ok (.iadd, 1) := by decide +kernel
theorem dX11_comes_69 : decode cX11_comes 69 = .ok (.iconst 0, 1) := by decide +kernel
theorem dX11_comes_70 : decode cX11_comes 70 = .ok (.iastore, 1) := by decide +kernel
theorem dX11_comes_71 : decode cX11_comes 71 = .ok (.aload_n 0, 1) := by decide +kernel
theorem dX11_comes_72 : decode cX11_comes 72 = .ok (.getfield 9, 3) := by decide +kernel
theorem dX11_comes_75 : decode cX11_comes 75 = .ok (.bipush 32, 2) := by decide +kernel
theorem dX11_comes_77 : decode cX11_comes 77 = .ok (.iload 4, 2) := by decide +kernel
theorem dX11_comes_79 : decode cX11_comes 79 = .ok (.iadd, 1) := by decide +kernel
theorem dX11_comes_80 : decode cX11_comes 80 = .ok (.iconst 0, 1) := by decide +kernel
theorem dX11_comes_81 : decode cX11_comes 81 = .ok (.iastore, 1) := by decide +kernel
theorem dX11_comes_82 : decode cX11_comes 82 = .ok (.aload_n 0, 1) := by decide +kernel
theorem dX11_comes_83 : decode cX11_comes 83 = .ok (.getfield 9, 3) := by decide +kernel
theorem dX11_comes_86 : decode cX11_comes 86 = .ok (.bipush 40, 2) := by decide +kernel
theorem dX11_comes_88 : decode cX11_comes 88 = .ok (.dup2, 1) := by decide +kernel
theorem dX11_comes_89 : decode cX11_comes 89 = .ok (.iaload, 1) := by decide +kernel
theorem dX11_comes_90 : decode cX11_comes 90 = .ok (.iconst 1, 1) := by decide +kernel
theorem dX11_comes_91 : decode cX11_comes 91 = .ok (.iload 4, 2) := by decide +kernel
theorem dX11_comes_93 : decode cX11_comes 93 = .ok (.ishl, 1) := by decide +kernel
theorem dX11_comes_94 : decode cX11_comes 94 = .ok (.ior, 1) := by decide +kernel
theorem dX11_comes_95 : decode cX11_comes 95 = .ok (.iastore, 1) := by decide +kernel
theorem dX11_comes_96 : decode cX11_comes 96 = .ok (.aload_n 0, 1) := by decide +kernel
theorem dX11_comes_97 : decode cX11_comes 97 = .ok (.getfield 9, 3) := by decide +kernel
theorem dX11_comes_100 : decode cX11_comes 100 = .ok (.bipush 42, 2) := by decide +kernel
theorem dX11_comes_102 : decode cX11_comes 102 = .ok (.dup2, 1) := by decide +kernel
theorem dX11_comes_103 : decode cX11_comes 103 = .ok (.iaload, 1) := by decide +kernel
theorem dX11_comes_104 : decode cX11_comes 104 = .ok (.iconst 1, 1) := by decide +kernel
theorem dX11_comes_105 : decode cX11_comes 105 = .ok (.iadd, 1) := by decide +kernel
theorem dX11_comes_106 : decode cX11_comes 106 = .ok (.iastore, 1) := by decide +kernel
theorem dX11_comes_107 : decode cX11_comes 107 = .ok (.iconst 1, 1) := by decide +kernel
theorem dX11_comes_108 : decode cX11_comes 108 = .ok (.ireturn, 1) := by decide +kernel
theorem dX11_becomes_0 : decode cX11_becomes 0 = .ok (.iload_n 2, 1) := by decide +kernel
theorem dX11_becomes_1 : decode cX11_becomes 1 = .ok (.iconst 5, 1) := by decide +kernel
theorem dX11_becomes_2 : decode cX11_becomes 2 = .ok (.if_icmp .le 5, 3) := by decide +kernel
theorem dX11_becomes_5 : decode cX11_becomes 5 = .ok (.iconst 0, 1) := by decide +kernel
theorem dX11_becomes_6 : decode cX11_becomes 6 = .ok (.ireturn, 1) := by decide +kernel
theorem dX11_becomes_7 : decode cX11_becomes 7 = .ok (.aload_n 0, 1) := by decide +kernel
theorem dX11_becomes_8 : decode cX11_becomes 8 = .ok (.getfield 9, 3) := by decide +kernel
theorem dX11_becomes_11 : decode cX11_becomes 11 = .ok (.iconst 0, 1) := by decide +kernel
theorem dX11_becomes_12 : decode cX11_becomes 12 = .ok (.iload_n 1, 1) := by decide +kernel
theorem dX11_becomes_13 : decode cX11_becomes 13 = .ok (.iadd, 1) := by decide +kernel
theorem dX11_becomes_14 : decode cX11_becomes 14 = .ok (.iload_n 2, 1) := by decide +kernel
theorem dX11_becomes_15 : decode cX11_becomes 15 = .ok (.iastore, 1) := by decide +kernel
theorem dX11_becomes_16 : decode cX11_becomes 16 = .ok (.aload_n 0, 1) := by decide +kernel
theorem dX11_becomes_17 : decode cX11_becomes 17 = .ok (.getfield 9, 3) := by decide +kernel
theorem dX11_becomes_20 : decode cX11_becomes 20 = .ok (.bipush 8, 2) := by decide +kernel
theorem dX11_becomes_22 : decode cX11_becomes 22 = .ok (.iload_n 1, 1) := by decide +kernel
theorem dX11_becomes_23 : decode cX11_becomes 23 = .ok (.iadd, 1) := by decide +kernel
theorem dX11_becomes_24 : decode cX11_becomes 24 = .ok (.iload_n 3, 1) := by decide +kernel
theorem dX11_becomes_25 : decode cX11_becomes 25 = .ok (.iastore, 1) := by decide +kernel
theorem dX11_becomes_26 : decode cX11_becomes 26 = .ok (.iconst 1, 1) := by decide +kernel
theorem dX11_becomes_27 : decode cX11_becomes 27 = .ok (.ireturn, 1) := by decide +kernel
set_option maxRecDepth 20000 in
theorem ggX11_links_X11_isLink : GoodIn wsX11_links wsX11_isLink := goodIn_r _ [6] (by decide +kernel) (by decide +kernel)
set_option maxRecDepth 20000 in
theorem gX11_links_X11_isLink : GoodIn wsX11_links (va_wsS RX11 155 yX11_isLink wsX11_isLink) := goodIn_app (goodIn_of _ (by decide +kernel)) ggX11_links_X11_isLink
set_option maxRecDepth 20000 in
theorem ggX11_links_X11_isClaim : GoodIn wsX11_links wsX11_isClaim := goodIn_r _ [10, 2, 11, 12, 5, 13, 14, 15, 16, 17, 18, 19, 20, 21, 22, 23, 24, 25, 26, 27, 28, 29, 30, 31, 32, 33, 34, 35, 36, 37] (by decide +kernel) (by decide +kernel)
set_option maxRecDepth 20000 in
theorem gX11_links_X11_isClaim : GoodIn wsX11_links (wsV RX11 167 RX11 yX11_isClaim wsX11_isClaim) := goodIn_app (goodIn_of _ (by decide +kernel)) ggX11_links_X11_isClaim
theorem dX11_links_0 : decode cX11_links 0 = .ok (.iload_n 1, 1) := by decide +kernel
theorem dX11_links_1 : decode cX11_links 1 = .ok (.istore_n 2, 1) := by decide +kernel
theorem dX11_links_2 : decode cX11_links 2 = .ok (.aload_n 0, 1) := by decide +kernel
theorem dX11_links_3 : decode cX11_links 3 = .ok (.getfield 25, 3) := by decide +kernel
theorem dX11_links_6 : decode cX11_links 6 = .ok (.iload_n 2, 1) := by decide +kernel
theorem dX11_links_7 : decode cX11_links 7 = .ok (.iconst 1, 1) := by decide +kernel
theorem dX11_links_8 : decode cX11_links 8 = .ok (.iadd, 1) := by decide +kernel
theorem dX11_links_9 : decode cX11_links 9 = .ok (.iaload, 1) := by decide +kernel
theorem dX11_links_10 : decode cX11_links 10 = .ok (.invokestatic 155, 3) := by decide +kernel
theorem dX11_links_13 : decode cX11_links 13 = .ok (.ifCond .eq 83, 3) := by decide +kernel
theorem dX11_links_16 : decode cX11_links 16 = .ok (.aload_n 0, 1) := by decide +kernel
theorem dX11_links_17 : decode cX11_links 17 = .ok (.getfield 25, 3) := by decide +kernel
theorem dX11_links_20 : decode cX11_links 20 = .ok (.iload_n 2, 1) := by decide +kernel
theorem dX11_links_21 : decode cX11_links 21 = .ok (.iaload, 1) := by decide +kernel
theorem dX11_links_22 : decode cX11_links 22 = .ok (.bipush 97, 2) := by decide +kernel
theorem dX11_links_24 : decode cX11_links 24 = .ok (.isub, 1) := by decide +kernel
theorem dX11_links_25 : decode cX11_links 25 = .ok (.istore_n 3, 1) := by decide +kernel
theorem dX11_links_26 : decode cX11_links 26 = .ok (.aload_n 0, 1) := by decide +kernel
theorem dX11_links_27 : decode cX11_links 27 = .ok (.getfield 25, 3) := by decide +kernel
theorem dX11_links_30 : decode cX11_links 30 = .ok (.iload_n 2, 1) := by decide +kernel
theorem dX11_links_31 : decode cX11_links 31 = .ok (.iconst 2, 1) := by decide +kernel
theorem dX11_links_32 : decode cX11_links 32 = .ok (.iadd, 1) := by decide +kernel
theorem dX11_links_33 : decode cX11_links 33 = .ok (.iaload, 1) := by decide +kernel
theorem dX11_links_34 : decode cX11_links 34 = .ok (.bipush 97, 2) := by decide +kernel
theorem dX11_links_36 : decode cX11_links 36 = .ok (.isub, 1) := by decide +kernel
theorem dX11_links_37 : decode cX11_links 37 = .ok (.istore 4, 2) := by decide +kernel
theorem dX11_links_39 : decode cX11_links 39 = .ok (.aload_n 0, 1) := by decide +kernel
theorem dX11_links_40 : decode cX11_links 40 = .ok (.iload 4, 2) := by decide +kernel
theorem dX11_links_42 : decode cX11_links 42 = .ok (.invokevirtual 167, 3) := by decide +kernel
theorem dX11_links_45 : decode cX11_links 45 = .ok (.ifCond .eq 9, 3) := by decide +kernel
theorem dX11_links_48 : decode cX11_links 48 = .ok (.iload_n 3, 1) := by decide +kernel
theorem dX11_links_49 : decode cX11_links 49 = .ok (.iload 4, 2) := by decide +kernel
theorem dX11_links_51 : decode cX11_links 51 = .ok (.if_icmp .ne 5, 3) := by decide +kernel
theorem dX11_links_54 : decode cX11_links 54 = .ok (.iconst 0, 1) := by decide +kernel
theorem dX11_links_55 : decode cX11_links 55 = .ok (.ireturn, 1) := by decide +kernel
theorem dX11_links_56 : decode cX11_links 56 = .ok (.aload_n 0, 1) := by decide +kernel
theorem dX11_links_57 : decode cX11_links 57 = .ok (.getfield 9, 3) := by decide +kernel
theorem dX11_links_60 : decode cX11_links 60 = .ok (.aload_n 0, 1) := by decide +kernel
theorem dX11_links_61 : decode cX11_links 61 = .ok (.getfield 25, 3) := by decide +kernel
theorem dX11_links_64 : decode cX11_links 64 = .ok (.iload_n 2, 1) := by decide +kernel
theorem dX11_links_65 : decode cX11_links 65 = .ok (.iconst 1, 1) := by decide +kernel
theorem dX11_links_66 : decode cX11_links 66 = .ok (.iadd, 1) := by decide +kernel
theorem dX11_links_67 : decode cX11_links 67 = .ok (.iaload, 1) := by decide +kernel
theorem dX11_links_68 : decode cX11_links 68 = .ok (.bipush 62, 2) := by decide +kernel
theorem dX11_links_70 : decode cX11_links 70 = .ok (.if_icmp .ne 8, 3) := by decide +kernel
theorem dX11_links_73 : decode cX11_links 73 = .ok (.bipush 24, 2) := by decide +kernel
theorem dX11_links_75 : decode cX11_links 75 = .ok (.goto 5, 3) := by decide +kernel
theorem dX11_links_78 : decode cX11_links 78 = .ok (.bipush 32, 2) := by decide +kernel
theorem dX11_links_80 : decode cX11_links 80 = .ok (.iload_n 3, 1) := by decide +kernel
theorem dX11_links_81 : decode cX11_links 81 = .ok (.iadd, 1) := by decide +kernel
theorem dX11_links_82 : decode cX11_links 82 = .ok (.dup2, 1) := by decide +kernel
theorem dX11_links_83 : decode cX11_links 83 = .ok (.iaload, 1) := by decide +kernel
theorem dX11_links_84 : decode cX11_links 84 = .ok (.iconst 1, 1) := by decide +kernel
theorem dX11_links_85 : decode cX11_links 85 = .ok (.iload 4, 2) := by decide +kernel
theorem dX11_links_87 : decode cX11_links 87 = .ok (.ishl, 1) := by decide +kernel
theorem dX11_links_88 : decode cX11_links 88 = .ok (.ior, 1) := by decide +kernel
theorem dX11_links_89 : decode cX11_links 89 = .ok (.iastore, 1) := by decide +kernel
theorem dX11_links_90 : decode cX11_links 90 = .ok (.iinc 2 2, 3) := by decide +kernel
theorem dX11_links_93 : decode cX11_links 93 = .ok (.goto (-91), 3) := by decide +kernel
theorem dX11_links_96 : decode cX11_links 96 = .ok (.iconst 1, 1) := by decide +kernel
theorem dX11_links_97 : decode cX11_links 97 = .ok (.ireturn, 1) := by decide +kernel
set_option maxRecDepth 20000 in
theorem ggX11_does_X11_digitAt : GoodIn wsX11_does wsX11_digitAt := goodIn_r _ [7, 1, 30, 31, 32, 33, 34, 35, 36, 37, 38, 39, 40, 41, 42, 43, 44, 45, 46, 47, 48, 49, 50, 51, 52, 53] (by decide +kernel) (by decide +kernel)
set_option maxRecDepth 20000 in
theorem gX11_does_X11_digitAt : GoodIn wsX11_does (wsV RX11 170 RX11 yX11_digitAt wsX11_digitAt) := goodIn_app (goodIn_of _ (by decide +kernel)) ggX11_does_X11_digitAt
set_option maxRecDepth 20000 in
theorem ggX11_does_X11_comes : GoodIn wsX11_does wsX11_comes := goodIn_r _ [11, 2, 30, 31, 32, 33, 34, 35, 36, 37, 38, 39, 40, 41, 42, 43, 44, 45, 46, 47, 48, 49, 50, 51, 52, 53] (by decide +kernel) (by decide +kernel)
set_option maxRecDepth 20000 in
theorem gX11_does_X11_comes : GoodIn wsX11_does (wsV RX11 173 RX11 yX11_comes wsX11_comes) := goodIn_app (goodIn_of _ (by decide +kernel)) ggX11_does_X11_comes
set_option maxRecDepth 20000 in
theorem ggX11_does_X11_isClaim : GoodIn wsX11_does wsX11_isClaim := goodIn_r _ [15, 2, 16, 17, 6, 18, 30, 31, 32, 33, 34, 35, 36, 37, 38, 39, 40, 41, 42, 43, 44, 45, 46, 47, 48, 49, 50, 51, 52, 53] (by decide +kernel) (by decide +kernel)
set_option maxRecDepth 20000 in
theorem gX11_does_X11_isClaim : GoodIn wsX11_does (wsV RX11 167 RX11 yX11_isClaim wsX11_isClaim) := goodIn_app (goodIn_of _ (by decide +kernel)) ggX11_does_X11_isClaim
set_option maxRecDepth 20000 in
theorem ggX11_does_X11_becomes : GoodIn wsX11_does wsX11_becomes := goodIn_r _ [22, 2, 30, 31, 32, 33, 34, 35, 36, 37, 38, 39, 40, 41, 42, 43, 44, 45, 46, 47, 48, 49, 50, 51, 52, 53] (by decide +kernel) (by decide +kernel)
set_option maxRecDepth 20000 in
theorem gX11_does_X11_becomes : GoodIn wsX11_does (wsV RX11 177 RX11 yX11_becomes wsX11_becomes) := goodIn_app (goodIn_of _ (by decide +kernel)) ggX11_does_X11_becomes
set_option maxRecDepth 20000 in
theorem ggX11_does_X11_links : GoodIn wsX11_does wsX11_links := goodIn_r _ [26, 1, 2, 27, 28, 6, 29, 12, 13, 14, 15, 16, 17, 18, 30, 31, 32, 33, 34, 35, 36, 37, 38, 39, 40, 41, 42, 43, 44, 45, 46, 47, 48, 49, 50, 51, 52, 53] (by decide +kernel) (by decide +kernel)
set_option maxRecDepth 20000 in
theorem gX11_does_X11_links : GoodIn wsX11_does (wsV RX11 180 RX11 yX11_links wsX11_links) := goodIn_app (goodIn_of _ (by decide +kernel)) ggX11_does_X11_links
theorem dX11_does_0 : decode cX11_does 0 = .ok (.aload_n 0, 1) := by decide +kernel
theorem dX11_does_1 : decode cX11_does 1 = .ok (.getfield 25, 3) := by decide +kernel
theorem dX11_does_4 : decode cX11_does 4 = .ok (.iload_n 1, 1) := by decide +kernel
theorem dX11_does_5 : decode cX11_does 5 = .ok (.iaload, 1) := by decide +kernel
theorem dX11_does_6 : decode cX11_does 6 = .ok (.bipush 42, 2) := by decide +kernel
theorem dX11_does_8 : decode cX11_does 8 = .ok (.if_icmp .ne 29, 3) := by decide +kernel
theorem dX11_does_11 : decode cX11_does 11 = .ok (.aload_n 0, 1) := by decide +kernel
theorem dX11_does_12 : decode cX11_does 12 = .ok (.aload_n 0, 1) := by decide +kernel
theorem dX11_does_13 : decode cX11_does 13 = .ok (.iload_n 1, 1) := by decide +kernel
theorem dX11_does_14 : decode cX11_does 14 = .ok (.iconst 1, 1) := by decide +kernel
theorem dX11_does_15 : decode cX11_does 15 = .ok (.iadd, 1) := by decide +kernel
theorem dX11_does_16 : decode cX11_does 16 = .ok (.invokevirtual 170, 3) := by decide +kernel
theorem dX11_does_19 : decode cX11_does 19 = .ok (.aload_n 0, 1) := by decide +kernel
theorem dX11_does_20 : decode cX11_does 20 = .ok (.iload_n 1, 1) := by decide +kernel
theorem dX11_does_21 : decode cX11_does 21 = .ok (.iconst 2, 1) := by decide +kernel
theorem dX11_does_22 : decode cX11_does 22 = .ok (.iadd, 1) := by decide +kernel
theorem dX11_does_23 : decode cX11_does 23 = .ok (.invokevirtual 170, 3) := by decide +kernel
theorem dX11_does_26 : decode cX11_does 26 = .ok (.aload_n 0, 1) := by decide +kernel
theorem dX11_does_27 : decode cX11_does 27 = .ok (.iload_n 1, 1) := by decide +kernel
theorem dX11_does_28 : decode cX11_does 28 = .ok (.iconst 3, 1) := by decide +kernel
theorem dX11_does_29 : decode cX11_does 29 = .ok (.iadd, 1) := by decide +kernel
theorem dX11_does_30 : decode cX11_does 30 = .ok (.invokevirtual 170, 3) := by decide +kernel
theorem dX11_does_33 : decode cX11_does 33 = .ok (.invokevirtual 173, 3) := by decide +kernel
theorem dX11_does_36 : decode cX11_does 36 = .ok (.ireturn, 1) := by decide +kernel
theorem dX11_does_37 : decode cX11_does 37 = .ok (.aload_n 0, 1) := by decide +kernel
theorem dX11_does_38 : decode cX11_does 38 = .ok (.getfield 25, 3) := by decide +kernel
theorem dX11_does_41 : decode cX11_does 41 = .ok (.iload_n 1, 1) := by decide +kernel
theorem dX11_does_42 : decode cX11_does 42 = .ok (.iaload, 1) := by decide +kernel
theorem dX11_does_43 : decode cX11_does 43 = .ok (.bipush 109, 2) := by decide +kernel
theorem dX11_does_45 : decode cX11_does 45 = .ok (.if_icmp .ne 34, 3) := by decide +kernel
theorem dX11_does_48 : decode cX11_does 48 = .ok (.aload_n 0, 1) := by decide +kernel
theorem dX11_does_49 : decode cX11_does 49 = .ok (.getfield 9, 3) := by decide +kernel
theorem dX11_does_52 : decode cX11_does 52 = .ok (.bipush 41, 2) := by decide +kernel
theorem dX11_does_54 : decode cX11_does 54 = .ok (.aload_n 0, 1) := by decide +kernel
theorem dX11_does_55 : decode cX11_does 55 = .ok (.iload_n 1, 1) := by decide +kernel
theorem dX11_does_56 : decode cX11_does 56 = .ok (.iconst 1, 1) := by decide +kernel
theorem dX11_does_57 : decode cX11_does 57 = .ok (.iadd, 1) := by decide +kernel
theorem dX11_does_58 : decode cX11_does 58 = .ok (.invokevirtual 170, 3) := by decide +kernel
theorem dX11_does_61 : decode cX11_does 61 = .ok (.iastore, 1) := by decide +kernel
theorem dX11_does_62 : decode cX11_does 62 = .ok (.aload_n 0, 1) := by decide +kernel
theorem dX11_does_63 : decode cX11_does 63 = .ok (.getfield 9, 3) := by decide +kernel
theorem dX11_does_66 : decode cX11_does 66 = .ok (.bipush 41, 2) := by decide +kernel
theorem dX11_does_68 : decode cX11_does 68 = .ok (.iaload, 1) := by decide +kernel
theorem dX11_does_69 : decode cX11_does 69 = .ok (.iconst 4, 1) := by decide +kernel
theorem dX11_does_70 : decode cX11_does 70 = .ok (.if_icmp .ge 7, 3) := by decide +kernel
theorem dX11_does_73 : decode cX11_does 73 = .ok (.iconst 1, 1) := by decide +kernel
theorem dX11_does_74 : decode cX11_does 74 = .ok (.goto 4, 3) := by decide +kernel
theorem dX11_does_77 : decode cX11_does 77 = .ok (.iconst 0, 1) := by decide +kernel
theorem dX11_does_78 : decode cX11_does 78 = .ok (.ireturn, 1) := by decide +kernel
theorem dX11_does_79 : decode cX11_does 79 = .ok (.aload_n 0, 1) := by decide +kernel
theorem dX11_does_80 : decode cX11_does 80 = .ok (.getfield 25, 3) := by decide +kernel
theorem dX11_does_83 : decode cX11_does 83 = .ok (.iload_n 1, 1) := by decide +kernel
theorem dX11_does_84 : decode cX11_does 84 = .ok (.iaload, 1) := by decide +kernel
theorem dX11_does_85 : decode cX11_does 85 = .ok (.bipush 97, 2) := by decide +kernel
theorem dX11_does_87 : decode cX11_does 87 = .ok (.isub, 1) := by decide +kernel
theorem dX11_does_88 : decode cX11_does 88 = .ok (.istore_n 2, 1) := by decide +kernel
theorem dX11_does_89 : decode cX11_does 89 = .ok (.aload_n 0, 1) := by decide +kernel
theorem dX11_does_90 : decode cX11_does 90 = .ok (.iload_n 2, 1) := by decide +kernel
theorem dX11_does_91 : decode cX11_does 91 = .ok (.invokevirtual 167, 3) := by decide +kernel
theorem dX11_does_94 : decode cX11_does 94 = .ok (.ifCond .ne 5, 3) := by decide +kernel
theorem dX11_does_97 : decode cX11_does 97 = .ok (.iconst 0, 1) := by decide +kernel
theorem dX11_does_98 : decode cX11_does 98 = .ok (.ireturn, 1) := by decide +kernel
theorem dX11_does_99 : decode cX11_does 99 = .ok (.aload_n 0, 1) := by decide +kernel
theorem dX11_does_100 : decode cX11_does 100 = .ok (.getfield 25, 3) := by decide +kernel
theorem dX11_does_103 : decode cX11_does 103 = .ok (.iload_n 1, 1) := by decide +kernel
theorem dX11_does_104 : decode cX11_does 104 = .ok (.iconst 1, 1) := by decide +kernel
theorem dX11_does_105 : decode cX11_does 105 = .ok (.iadd, 1) := by decide +kernel
theorem dX11_does_106 : decode cX11_does 106 = .ok (.iaload, 1) := by decide +kernel
theorem dX11_does_107 : decode cX11_does 107 = .ok (.bipush 58, 2) := by decide +kernel
theorem dX11_does_109 : decode cX11_does 109 = .ok (.if_icmp .ne 23, 3) := by decide +kernel
theorem dX11_does_112 : decode cX11_does 112 = .ok (.aload_n 0, 1) := by decide +kernel
theorem dX11_does_113 : decode cX11_does 113 = .ok (.iload_n 2, 1) := by decide +kernel
theorem dX11_does_114 : decode cX11_does 114 = .ok (.aload_n 0, 1) := by decide +kernel
theorem dX11_does_115 : decode cX11_does 115 = .ok (.iload_n 1, 1) := by decide +kernel
theorem dX11_does_116 : decode cX11_does 116 = .ok (.iconst 2, 1) := by decide +kernel
theorem dX11_does_117 : decode cX11_does 117 = .ok (.iadd, 1) := by decide +kernel
theorem dX11_does_118 : decode cX11_does 118 = .ok (.invokevirtual 170, 3) := by decide +kernel
theorem dX11_does_121 : decode cX11_does 121 = .ok (.aload_n 0, 1) := by decide +kernel
theorem dX11_does_122 : decode cX11_does 122 = .ok (.iload_n 1, 1) := by decide +kernel
theorem dX11_does_123 : decode cX11_does 123 = .ok (.iconst 3, 1) := by decide +kernel
theorem dX11_does_124 : decode cX11_does 124 = .ok (.iadd, 1) := by decide +kernel
theorem dX11_does_125 : decode cX11_does 125 = .ok (.invokevirtual 170, 3) := by decide +kernel
theorem dX11_does_128 : decode cX11_does 128 = .ok (.invokevirtual 177, 3) := by decide +kernel
theorem dX11_does_131 : decode cX11_does 131 = .ok (.ireturn, 1) := by decide +kernel
theorem dX11_does_132 : decode cX11_does 132 = .ok (.aload_n 0, 1) := by decide +kernel
theorem dX11_does_133 : decode cX11_does 133 = .ok (.getfield 9, 3) := by decide +kernel
theorem dX11_does_136 : decode cX11_does 136 = .ok (.bipush 40, 2) := by decide +kernel
theorem dX11_does_138 : decode cX11_does 138 = .ok (.dup2, 1) := by decide +kernel
theorem dX11_does_139 : decode cX11_does 139 = .ok (.iaload, 1) := by decide +kernel
theorem dX11_does_140 : decode cX11_does 140 = .ok (.aload_n 0, 1) := by decide +kernel
theorem dX11_does_141 : decode cX11_does 141 = .ok (.getfield 25, 3) := by decide +kernel
theorem dX11_does_144 : decode cX11_does 144 = .ok (.iload_n 1, 1) := by decide +kernel
theorem dX11_does_145 : decode cX11_does 145 = .ok (.iconst 1, 1) := by decide +kernel
theorem dX11_does_146 : decode cX11_does 146 = .ok (.iadd, 1) := by decide +kernel
theorem dX11_does_147 : decode cX11_does 147 = .ok (.iaload, 1) := by decide +kernel
theorem dX11_does_148 : decode cX11_does 148 = .ok (.bipush 33, 2) := by decide +kernel
theorem dX11_does_150 : decode cX11_does 150 = .ok (.if_icmp .ne 9, 3) := by decide +kernel
theorem dX11_does_153 : decode cX11_does 153 = .ok (.iconst 1, 1) := by decide +kernel
theorem dX11_does_154 : decode cX11_does 154 = .ok (.iload_n 2, 1) := by decide +kernel
theorem dX11_does_155 : decode cX11_does 155 = .ok (.ishl, 1) := by decide +kernel
theorem dX11_does_156 : decode cX11_does 156 = .ok (.goto 4, 3) := by decide +kernel
theorem dX11_does_159 : decode cX11_does 159 = .ok (.iconst 0, 1) := by decide +kernel
theorem dX11_does_160 : decode cX11_does 160 = .ok (.ixor, 1) := by decide +kernel
theorem dX11_does_161 : decode cX11_does 161 = .ok (.iastore, 1) := by decide +kernel
theorem dX11_does_162 : decode cX11_does 162 = .ok (.aload_n 0, 1) := by decide +kernel
theorem dX11_does_163 : decode cX11_does 163 = .ok (.getfield 25, 3) := by decide +kernel
theorem dX11_does_166 : decode cX11_does 166 = .ok (.iload_n 1, 1) := by decide +kernel
theorem dX11_does_167 : decode cX11_does 167 = .ok (.iconst 1, 1) := by decide +kernel
theorem dX11_does_168 : decode cX11_does 168 = .ok (.iadd, 1) := by decide +kernel
theorem dX11_does_169 : decode cX11_does 169 = .ok (.iaload, 1) := by decide +kernel
theorem dX11_does_170 : decode cX11_does 170 = .ok (.bipush 33, 2) := by decide +kernel
theorem dX11_does_172 : decode cX11_does 172 = .ok (.if_icmp .eq 11, 3) := by decide +kernel
theorem dX11_does_175 : decode cX11_does 175 = .ok (.aload_n 0, 1) := by decide +kernel
theorem dX11_does_176 : decode cX11_does 176 = .ok (.iload_n 1, 1) := by decide +kernel
theorem dX11_does_177 : decode cX11_does 177 = .ok (.invokevirtual 180, 3) := by decide +kernel
theorem dX11_does_180 : decode cX11_does 180 = .ok (.ifCond .eq 7, 3) := by decide +kernel
theorem dX11_does_183 : decode cX11_does 183 = .ok (.iconst 1, 1) := by decide +kernel
theorem dX11_does_184 : decode cX11_does 184 = .ok (.goto 4, 3) := by decide +kernel
theorem dX11_does_187 : decode cX11_does 187 = .ok (.iconst 0, 1) := by decide +kernel
theorem dX11_does_188 : decode cX11_does 188 = .ok (.ireturn, 1) := by decide +kernel
theorem dX11_nextStatement_0 : decode cX11_nextStatement 0 = .ok (.iload_n 1, 1) := by decide +kernel
theorem dX11_nextStatement_1 : decode cX11_nextStatement 1 = .ok (.istore_n 2, 1) := by decide +kernel
theorem dX11_nextStatement_2 : decode cX11_nextStatement 2 = .ok (.aload_n 0, 1) := by decide +kernel
theorem dX11_nextStatement_3 : decode cX11_nextStatement 3 = .ok (.getfield 25, 3) := by decide +kernel
theorem dX11_nextStatement_6 : decode cX11_nextStatement 6 = .ok (.iload_n 2, 1) := by decide +kernel
theorem dX11_nextStatement_7 : decode cX11_nextStatement 7 = .ok (.iaload, 1) := by decide +kernel
theorem dX11_nextStatement_8 : decode cX11_nextStatement 8 = .ok (.bipush 59, 2) := by decide +kernel
theorem dX11_nextStatement_10 : decode cX11_nextStatement 10 = .ok (.if_icmp .eq 9, 3) := by decide +kernel
theorem dX11_nextStatement_13 : decode cX11_nextStatement 13 = .ok (.iinc 2 1, 3) := by decide +kernel
theorem dX11_nextStatement_16 : decode cX11_nextStatement 16 = .ok (.goto (-14), 3) := by decide +kernel
theorem dX11_nextStatement_19 : decode cX11_nextStatement 19 = .ok (.iload_n 2, 1) := by decide +kernel
theorem dX11_nextStatement_20 : decode cX11_nextStatement 20 = .ok (.iconst 1, 1) := by decide +kernel
theorem dX11_nextStatement_21 : decode cX11_nextStatement 21 = .ok (.iadd, 1) := by decide +kernel
theorem dX11_nextStatement_22 : decode cX11_nextStatement 22 = .ok (.ireturn, 1) := by decide +kernel
set_option maxRecDepth 20000 in
theorem ggX11_readsAll_X11_goesThrough : GoodIn wsX11_readsAll wsX11_goesThrough := goodIn_r _ [8, 1, 9, 10, 2, 11, 12, 13, 7, 14, 3, 15, 16, 17, 18, 19, 20, 21, 22, 23, 24, 25, 26, 27, 28, 29, 30, 31, 32, 33, 34, 35, 36, 37, 38, 80, 81, 82, 83, 84, 85, 86, 87, 88, 89, 90, 91, 92, 93, 94, 95, 96, 97, 98, 99, 100, 101, 102, 103] (by decide +kernel) (by decide +kernel)
set_option maxRecDepth 20000 in
theorem gX11_readsAll_X11_goesThrough : GoodIn wsX11_readsAll (wsV RX11 183 RX11 yX11_goesThrough wsX11_goesThrough) := goodIn_app (goodIn_of _ (by decide +kernel)) ggX11_readsAll_X11_goesThrough
set_option maxRecDepth 20000 in
theorem ggX11_readsAll_X11_minds : GoodIn wsX11_readsAll wsX11_minds := goodIn_r _ [42, 43, 44, 45, 46, 7, 47, 80, 81, 82, 83, 84, 85, 86, 87, 88, 89, 90, 91, 92, 93, 94, 95, 96, 97, 98, 99, 100, 101, 102, 103] (by decide +kernel) (by decide +kernel)
set_option maxRecDepth 20000 in
theorem gX11_readsAll_X11_minds : GoodIn wsX11_readsAll (wsV RX11 186 RX11 yX11_minds wsX11_minds) := goodIn_app (goodIn_of _ (by decide +kernel)) ggX11_readsAll_X11_minds
set_option maxRecDepth 20000 in
theorem ggX11_readsAll_X11_does : GoodIn wsX11_readsAll wsX11_does := goodIn_r _ [51, 15, 43, 52, 53, 54, 7, 55, 56, 57, 58, 59, 60, 61, 62, 63, 16, 17, 18, 64, 65, 66, 67, 68, 69, 70, 71, 33, 34, 35, 80, 81, 82, 83, 84, 85, 86, 87, 88, 89, 90, 91, 92, 93, 94, 95, 96, 97, 98, 99, 100, 101, 102, 103] (by decide +kernel) (by decide +kernel)
set_option maxRecDepth 20000 in
theorem gX11_readsAll_X11_does : GoodIn wsX11_readsAll (wsV RX11 189 RX11 yX11_does wsX11_does) := goodIn_app (goodIn_of _ (by decide +kernel)) ggX11_readsAll_X11_does
set_option maxRecDepth 20000 in
theorem ggX11_readsAll_X11_forgets : GoodIn wsX11_readsAll wsX11_forgets := goodIn_r _ [75, 44, 43, 45, 46, 7, 47, 80, 81, 82, 83, 84, 85, 86, 87, 88, 89, 90, 91, 92, 93, 94, 95, 96, 97, 98, 99, 100, 101, 102, 103] (by decide +kernel) (by decide +kernel)
set_option maxRecDepth 20000 in
theorem gX11_readsAll_X11_forgets : GoodIn wsX11_readsAll (wsV RX11 192 RX11 yX11_forgets wsX11_forgets) := goodIn_app (goodIn_of _ (by decide +kernel)) ggX11_readsAll_X11_forgets
set_option maxRecDepth 20000 in
theorem ggX11_readsAll_X11_nextStatement : GoodIn wsX11_readsAll wsX11_nextStatement := goodIn_r _ [79, 15, 80, 81, 82, 83, 84, 85, 86, 87, 88, 89, 90, 91, 92, 93, 94, 95, 96, 97, 98, 99, 100, 101, 102, 103] (by decide +kernel) (by decide +kernel)
set_option maxRecDepth 20000 in
theorem gX11_readsAll_X11_nextStatement : GoodIn wsX11_readsAll (wsV RX11 195 RX11 yX11_nextStatement wsX11_nextStatement) := goodIn_app (goodIn_of _ (by decide +kernel)) ggX11_readsAll_X11_nextStatement
theorem dX11_readsAll_0 : decode cX11_readsAll 0 = .ok (.aload_n 0, 1) := by decide +kernel
theorem dX11_readsAll_1 : decode cX11_readsAll 1 = .ok (.iconst 0, 1) := by decide +kernel
theorem dX11_readsAll_2 : decode cX11_readsAll 2 = .ok (.putfield 137, 3) := by decide +kernel
theorem dX11_readsAll_5 : decode cX11_readsAll 5 = .ok (.aload_n 0, 1) := by decide +kernel
theorem dX11_readsAll_6 : decode cX11_readsAll 6 = .ok (.iconst 1, 1) := by decide +kernel
theorem dX11_readsAll_7 : decode cX11_readsAll 7 = .ok (.putfield 133, 3) := by decide +kernel
theorem dX11_readsAll_10 : decode cX11_readsAll 10 = .ok (.iconst 0, 1) := by decide +kernel
theorem dX11_readsAll_11 : decode cX11_readsAll 11 = .ok (.istore_n 1, 1) := by decide +kernel
theorem dX11_readsAll_12 : decode cX11_readsAll 12 = .ok (.aload_n 0, 1) := by decide +kernel
theorem dX11_readsAll_13 : decode cX11_readsAll 13 = .ok (.getfield 133, 3) := by decide +kernel
theorem dX11_readsAll_16 : decode cX11_readsAll 16 = .ok (.ifCond .eq 28, 3) := by decide +kernel
theorem dX11_readsAll_19 : decode cX11_readsAll 19 = .ok (.iload_n 1, 1) := by decide +kernel
theorem dX11_readsAll_20 : decode cX11_readsAll 20 = .ok (.ifCond .eq 14, 3) := by decide +kernel
theorem dX11_readsAll_23 : decode cX11_readsAll 23 = .ok (.aload_n 0, 1) := by decide +kernel
theorem dX11_readsAll_24 : decode cX11_readsAll 24 = .ok (.getfield 137, 3) := by decide +kernel
theorem dX11_readsAll_27 : decode cX11_readsAll 27 = .ok (.aload_n 0, 1) := by decide +kernel
theorem dX11_readsAll_28 : decode cX11_readsAll 28 = .ok (.getfield 130, 3) := by decide +kernel
theorem dX11_readsAll_31 : decode cX11_readsAll 31 = .ok (.if_icmp .ge 13, 3) := by decide +kernel
theorem dX11_readsAll_34 : decode cX11_readsAll 34 = .ok (.aload_n 0, 1) := by decide +kernel
theorem dX11_readsAll_35 : decode cX11_readsAll 35 = .ok (.invokevirtual 183, 3) := by decide +kernel
theorem dX11_readsAll_38 : decode cX11_readsAll 38 = .ok (.iinc 1 1, 3) := by decide +kernel
theorem dX11_readsAll_41 : decode cX11_readsAll 41 = .ok (.goto (-29), 3) := by decide +kernel
theorem dX11_readsAll_44 : decode cX11_readsAll 44 = .ok (.aload_n 0, 1) := by decide +kernel
theorem dX11_readsAll_45 : decode cX11_readsAll 45 = .ok (.getfield 133, 3) := by decide +kernel
theorem dX11_readsAll_48 : decode cX11_readsAll 48 = .ok (.ifCond .ne 12, 3) := by decide +kernel
theorem dX11_readsAll_51 : decode cX11_readsAll 51 = .ok (.sipush (-1000), 3) := by decide +kernel
theorem dX11_readsAll_54 : decode cX11_readsAll 54 = .ok (.aload_n 0, 1) := by decide +kernel
theorem dX11_readsAll_55 : decode cX11_readsAll 55 = .ok (.getfield 137, 3) := by decide +kernel
theorem dX11_readsAll_58 : decode cX11_readsAll 58 = .ok (.isub, 1) := by decide +kernel
theorem dX11_readsAll_59 : decode cX11_readsAll 59 = .ok (.ireturn, 1) := by decide +kernel
theorem dX11_readsAll_60 : decode cX11_readsAll 60 = .ok (.aload_n 0, 1) := by decide +kernel
theorem dX11_readsAll_61 : decode cX11_readsAll 61 = .ok (.invokevirtual 186, 3) := by decide +kernel
theorem dX11_readsAll_64 : decode cX11_readsAll 64 = .ok (.iconst 0, 1) := by decide +kernel
theorem dX11_readsAll_65 : decode cX11_readsAll 65 = .ok (.istore_n 2, 1) := by decide +kernel
theorem dX11_readsAll_66 : decode cX11_readsAll 66 = .ok (.iload_n 2, 1) := by decide +kernel
theorem dX11_readsAll_67 : decode cX11_readsAll 67 = .ok (.aload_n 0, 1) := by decide +kernel
theorem dX11_readsAll_68 : decode cX11_readsAll 68 = .ok (.getfield 130, 3) := by decide +kernel
theorem dX11_readsAll_71 : decode cX11_readsAll 71 = .ok (.if_icmp .ge 30, 3) := by decide +kernel
theorem dX11_readsAll_74 : decode cX11_readsAll 74 = .ok (.aload_n 0, 1) := by decide +kernel
theorem dX11_readsAll_75 : decode cX11_readsAll 75 = .ok (.iload_n 2, 1) := by decide +kernel
theorem dX11_readsAll_76 : decode cX11_readsAll 76 = .ok (.invokevirtual 189, 3) := by decide +kernel
theorem dX11_readsAll_79 : decode cX11_readsAll 79 = .ok (.ifCond .ne 13, 3) := by decide +kernel
theorem dX11_readsAll_82 : decode cX11_readsAll 82 = .ok (.aload_n 0, 1) := by decide +kernel
theorem dX11_readsAll_83 : decode cX11_readsAll 83 = .ok (.invokevirtual 192, 3) := by decide +kernel
theorem dX11_readsAll_86 : decode cX11_readsAll 86 = .ok (.sipush (-2000), 3) := by decide +kernel
theorem dX11_readsAll_89 : decode cX11_readsAll 89 = .ok (.iload_n 2, 1) := by decide +kernel
theorem dX11_readsAll_90 : decode cX11_readsAll 90 = .ok (.isub, 1) := by decide +kernel
theorem dX11_readsAll_91 : decode cX11_readsAll 91 = .ok (.ireturn, 1) := by decide +kernel
theorem dX11_readsAll_92 : decode cX11_readsAll 92 = .ok (.aload_n 0, 1) := by decide +kernel
theorem dX11_readsAll_93 : decode cX11_readsAll 93 = .ok (.iload_n 2, 1) := by decide +kernel
theorem dX11_readsAll_94 : decode cX11_readsAll 94 = .ok (.invokevirtual 195, 3) := by decide +kernel
theorem dX11_readsAll_97 : decode cX11_readsAll 97 = .ok (.istore_n 2, 1) := by decide +kernel
theorem dX11_readsAll_98 : decode cX11_readsAll 98 = .ok (.goto (-32), 3) := by decide +kernel
theorem dX11_readsAll_101 : decode cX11_readsAll 101 = .ok (.iload_n 1, 1) := by decide +kernel
theorem dX11_readsAll_102 : decode cX11_readsAll 102 = .ok (.ireturn, 1) := by decide +kernel
set_option maxRecDepth 20000 in
theorem ggX11_letter_X11_in : GoodIn wsX11_letter wsX11_in := goodIn_r _ [7] (by decide +kernel) (by decide +kernel)
set_option maxRecDepth 20000 in
theorem gX11_letter_X11_in : GoodIn wsX11_letter (va_wsS RX11 57 yX11_in wsX11_in) := goodIn_app (goodIn_of _ (by decide +kernel)) ggX11_letter_X11_in
set_option maxRecDepth 20000 in
theorem ggX11_letter_X11_refused : GoodIn wsX11_letter wsX11_refused := goodIn_r _ [11, 12, 13, 14, 15, 16, 17, 18, 19, 20, 21, 22, 23, 24, 25, 26, 27, 28, 29, 30, 31, 32, 33, 34, 35, 36] (by decide +kernel) (by decide +kernel)
set_option maxRecDepth 20000 in
theorem gX11_letter_X11_refused : GoodIn wsX11_letter (wsV RX11 200 RX11 yX11_refused wsX11_refused) := goodIn_app (goodIn_of _ (by decide +kernel)) ggX11_letter_X11_refused
theorem dX11_letter_0 : decode cX11_letter 0 = .ok (.iload_n 1, 1) := by decide +kernel
theorem dX11_letter_1 : decode cX11_letter 1 = .ok (.i2l, 1) := by decide +kernel
theorem dX11_letter_2 : decode cX11_letter 2 = .ok (.lconst 0, 1) := by decide +kernel
theorem dX11_letter_3 : decode cX11_letter 3 = .ok (.ldc2_w 198, 3) := by decide +kernel
theorem dX11_letter_6 : decode cX11_letter 6 = .ok (.invokestatic 57, 3) := by decide +kernel
theorem dX11_letter_9 : decode cX11_letter 9 = .ok (.ifCond .ne 19, 3) := by decide +kernel
theorem dX11_letter_12 : decode cX11_letter 12 = .ok (.aload_n 0, 1) := by decide +kernel
theorem dX11_letter_13 : decode cX11_letter 13 = .ok (.iload_n 1, 1) := by decide +kernel
theorem dX11_letter_14 : decode cX11_letter 14 = .ok (.ifCond .ge 8, 3) := by decide +kernel
theorem dX11_letter_17 : decode cX11_letter 17 = .ok (.bipush (-4), 2) := by decide +kernel
theorem dX11_letter_19 : decode cX11_letter 19 = .ok (.goto 5, 3) := by decide +kernel
theorem dX11_letter_22 : decode cX11_letter 22 = .ok (.bipush (-6), 2) := by decide +kernel
theorem dX11_letter_24 : decode cX11_letter 24 = .ok (.invokevirtual 200, 3) := by decide +kernel
theorem dX11_letter_27 : decode cX11_letter 27 = .ok (.ireturn, 1) := by decide +kernel
theorem dX11_letter_28 : decode cX11_letter 28 = .ok (.aload_n 0, 1) := by decide +kernel
theorem dX11_letter_29 : decode cX11_letter 29 = .ok (.getfield 130, 3) := by decide +kernel
theorem dX11_letter_32 : decode cX11_letter 32 = .ok (.bipush 96, 2) := by decide +kernel
theorem dX11_letter_34 : decode cX11_letter 34 = .ok (.if_icmp .ne 10, 3) := by decide +kernel
theorem dX11_letter_37 : decode cX11_letter 37 = .ok (.aload_n 0, 1) := by decide +kernel
theorem dX11_letter_38 : decode cX11_letter 38 = .ok (.bipush (-6), 2) := by decide +kernel
theorem dX11_letter_40 : decode cX11_letter 40 = .ok (.invokevirtual 200, 3) := by decide +kernel
theorem dX11_letter_43 : decode cX11_letter 43 = .ok (.ireturn, 1) := by decide +kernel
theorem dX11_letter_44 : decode cX11_letter 44 = .ok (.aload_n 0, 1) := by decide +kernel
theorem dX11_letter_45 : decode cX11_letter 45 = .ok (.getfield 25, 3) := by decide +kernel
theorem dX11_letter_48 : decode cX11_letter 48 = .ok (.aload_n 0, 1) := by decide +kernel
theorem dX11_letter_49 : decode cX11_letter 49 = .ok (.getfield 130, 3) := by decide +kernel
theorem dX11_letter_52 : decode cX11_letter 52 = .ok (.iload_n 1, 1) := by decide +kernel
theorem dX11_letter_53 : decode cX11_letter 53 = .ok (.iastore, 1) := by decide +kernel
theorem dX11_letter_54 : decode cX11_letter 54 = .ok (.aload_n 0, 1) := by decide +kernel
theorem dX11_letter_55 : decode cX11_letter 55 = .ok (.dup, 1) := by decide +kernel
theorem dX11_letter_56 : decode cX11_letter 56 = .ok (.getfield 130, 3) := by decide +kernel
theorem dX11_letter_59 : decode cX11_letter 59 = .ok (.iconst 1, 1) := by decide +kernel
theorem dX11_letter_60 : decode cX11_letter 60 = .ok (.iadd, 1) := by decide +kernel
theorem dX11_letter_61 : decode cX11_letter 61 = .ok (.putfield 130, 3) := by decide +kernel
theorem dX11_letter_64 : decode cX11_letter 64 = .ok (.aload_n 0, 1) := by decide +kernel
theorem dX11_letter_65 : decode cX11_letter 65 = .ok (.getfield 130, 3) := by decide +kernel
theorem dX11_letter_68 : decode cX11_letter 68 = .ok (.ireturn, 1) := by decide +kernel
set_option maxRecDepth 20000 in
theorem ggX11_hall_X11_readsAll : GoodIn wsX11_hall wsX11_readsAll := goodIn_r _ [6, 7, 8, 1, 9, 10, 11, 5, 12, 13, 14, 15, 16, 17, 18, 19, 20, 21, 22, 23, 24, 25, 26, 27, 28, 29, 30, 31, 32, 33, 34, 35, 36, 37, 38, 39, 40, 41, 42, 43, 44, 45, 46, 47, 48, 49, 50, 51, 52, 53, 54, 55, 56, 57, 58, 59, 60, 61, 62, 63, 64, 65, 66, 67, 68, 69, 70, 71, 72, 73, 74, 75, 76, 77, 78, 79, 80, 81, 82, 83, 84, 85, 86, 87, 88, 89, 90, 91, 92, 93, 94, 95, 96, 97, 98, 99, 100, 101, 102, 103, 104, 105, 106, 107] (by decide +kernel) (by decide +kernel)
set_option maxRecDepth 20000 in
theorem gX11_hall_X11_readsAll : GoodIn wsX11_hall (wsV RX11 203 RX11 yX11_readsAll wsX11_readsAll) := goodIn_app (goodIn_of _ (by decide +kernel)) ggX11_hall_X11_readsAll
theorem dX11_hall_0 : decode cX11_hall 0 = .ok (.aload_n 0, 1) := by decide +kernel
theorem dX11_hall_1 : decode cX11_hall 1 = .ok (.invokevirtual 203, 3) := by decide +kernel
theorem dX11_hall_4 : decode cX11_hall 4 = .ok (.istore_n 1, 1) := by decide +kernel
theorem dX11_hall_5 : decode cX11_hall 5 = .ok (.aload_n 0, 1) := by decide +kernel
theorem dX11_hall_6 : decode cX11_hall 6 = .ok (.iconst 0, 1) := by decide +kernel
theorem dX11_hall_7 : decode cX11_hall 7 = .ok (.putfield 130, 3) := by decide +kernel
theorem dX11_hall_10 : decode cX11_hall 10 = .ok (.iload_n 1, 1) := by decide +kernel
theorem dX11_hall_11 : decode cX11_hall 11 = .ok (.ireturn, 1) := by decide +kernel
set_option maxRecDepth 20000 in
theorem ggX11_claims_X11_in : GoodIn wsX11_claims wsX11_in := goodIn_r _ [6] (by decide +kernel) (by decide +kernel)
set_option maxRecDepth 20000 in
theorem gX11_claims_X11_in : GoodIn wsX11_claims (va_wsS RX11 57 yX11_in wsX11_in) := goodIn_app (goodIn_of _ (by decide +kernel)) ggX11_claims_X11_in
set_option maxRecDepth 20000 in
theorem ggX11_claims_X11_refused : GoodIn wsX11_claims wsX11_refused := goodIn_r _ [10, 11, 16, 17, 18, 19, 20, 21, 22, 23, 24, 25, 26, 27, 28, 29, 30, 31, 32, 33, 34, 35, 36, 37, 38, 39] (by decide +kernel) (by decide +kernel)
set_option maxRecDepth 20000 in
theorem gX11_claims_X11_refused : GoodIn wsX11_claims (wsV RX11 200 RX11 yX11_refused wsX11_refused) := goodIn_app (goodIn_of _ (by decide +kernel)) ggX11_claims_X11_refused
set_option maxRecDepth 20000 in
theorem ggX11_claims_X11_comes : GoodIn wsX11_claims wsX11_comes := goodIn_r _ [15, 2, 16, 17, 18, 19, 20, 21, 22, 23, 24, 25, 26, 27, 28, 29, 30, 31, 32, 33, 34, 35, 36, 37, 38, 39] (by decide +kernel) (by decide +kernel)
set_option maxRecDepth 20000 in
theorem gX11_claims_X11_comes : GoodIn wsX11_claims (wsV RX11 173 RX11 yX11_comes wsX11_comes) := goodIn_app (goodIn_of _ (by decide +kernel)) ggX11_claims_X11_comes
theorem dX11_claims_0 : decode cX11_claims 0 = .ok (.iload_n 1, 1) := by decide +kernel
theorem dX11_claims_1 : decode cX11_claims 1 = .ok (.i2l, 1) := by decide +kernel
theorem dX11_claims_2 : decode cX11_claims 2 = .ok (.lconst 0, 1) := by decide +kernel
theorem dX11_claims_3 : decode cX11_claims 3 = .ok (.ldc2_w 206, 3) := by decide +kernel
theorem dX11_claims_6 : decode cX11_claims 6 = .ok (.invokestatic 57, 3) := by decide +kernel
theorem dX11_claims_9 : decode cX11_claims 9 = .ok (.ifCond .ne 10, 3) := by decide +kernel
theorem dX11_claims_12 : decode cX11_claims 12 = .ok (.aload_n 0, 1) := by decide +kernel
theorem dX11_claims_13 : decode cX11_claims 13 = .ok (.bipush (-2), 2) := by decide +kernel
theorem dX11_claims_15 : decode cX11_claims 15 = .ok (.invokevirtual 200, 3) := by decide +kernel
theorem dX11_claims_18 : decode cX11_claims 18 = .ok (.ireturn, 1) := by decide +kernel
theorem dX11_claims_19 : decode cX11_claims 19 = .ok (.iload_n 2, 1) := by decide +kernel
theorem dX11_claims_20 : decode cX11_claims 20 = .ok (.ifCond .lt 7, 3) := by decide +kernel
theorem dX11_claims_23 : decode cX11_claims 23 = .ok (.iload_n 3, 1) := by decide +kernel
theorem dX11_claims_24 : decode cX11_claims 24 = .ok (.ifCond .ge 10, 3) := by decide +kernel
theorem dX11_claims_27 : decode cX11_claims 27 = .ok (.aload_n 0, 1) := by decide +kernel
theorem dX11_claims_28 : decode cX11_claims 28 = .ok (.bipush (-4), 2) := by decide +kernel
theorem dX11_claims_30 : decode cX11_claims 30 = .ok (.invokevirtual 200, 3) := by decide +kernel
theorem dX11_claims_33 : decode cX11_claims 33 = .ok (.ireturn, 1) := by decide +kernel
theorem dX11_claims_34 : decode cX11_claims 34 = .ok (.iload_n 2, 1) := by decide +kernel
theorem dX11_claims_35 : decode cX11_claims 35 = .ok (.bipush 9, 2) := by decide +kernel
theorem dX11_claims_37 : decode cX11_claims 37 = .ok (.if_icmp .gt 19, 3) := by decide +kernel
theorem dX11_claims_40 : decode cX11_claims 40 = .ok (.iload_n 3, 1) := by decide +kernel
theorem dX11_claims_41 : decode cX11_claims 41 = .ok (.bipush 9, 2) := by decide +kernel
theorem dX11_claims_43 : decode cX11_claims 43 = .ok (.if_icmp .gt 13, 3) := by decide +kernel
theorem dX11_claims_46 : decode cX11_claims 46 = .ok (.aload_n 0, 1) := by decide +kernel
theorem dX11_claims_47 : decode cX11_claims 47 = .ok (.iload_n 1, 1) := by decide +kernel
theorem dX11_claims_48 : decode cX11_claims 48 = .ok (.iload_n 2, 1) := by decide +kernel
theorem dX11_claims_49 : decode cX11_claims 49 = .ok (.iload_n 3, 1) := by decide +kernel
theorem dX11_claims_50 : decode cX11_claims 50 = .ok (.invokevirtual 173, 3) := by decide +kernel
theorem dX11_claims_53 : decode cX11_claims 53 = .ok (.ifCond .ne 10, 3) := by decide +kernel
theorem dX11_claims_56 : decode cX11_claims 56 = .ok (.aload_n 0, 1) := by decide +kernel
theorem dX11_claims_57 : decode cX11_claims 57 = .ok (.bipush (-6), 2) := by decide +kernel
theorem dX11_claims_59 : decode cX11_claims 59 = .ok (.invokevirtual 200, 3) := by decide +kernel
theorem dX11_claims_62 : decode cX11_claims 62 = .ok (.ireturn, 1) := by decide +kernel
theorem dX11_claims_63 : decode cX11_claims 63 = .ok (.aload_n 0, 1) := by decide +kernel
theorem dX11_claims_64 : decode cX11_claims 64 = .ok (.getfield 9, 3) := by decide +kernel
theorem dX11_claims_67 : decode cX11_claims 67 = .ok (.bipush 42, 2) := by decide +kernel
theorem dX11_claims_69 : decode cX11_claims 69 = .ok (.iaload, 1) := by decide +kernel
theorem dX11_claims_70 : decode cX11_claims 70 = .ok (.iconst 1, 1) := by decide +kernel
theorem dX11_claims_71 : decode cX11_claims 71 = .ok (.isub, 1) := by decide +kernel
theorem dX11_claims_72 : decode cX11_claims 72 = .ok (.ireturn, 1) := by decide +kernel
set_option maxRecDepth 20000 in
theorem ggX11_turns_X11_isClaim : GoodIn wsX11_turns wsX11_isClaim := goodIn_r _ [6, 1, 7, 8, 5, 9, 15, 16, 17, 18, 19, 20, 21, 22, 23, 24, 25, 26, 27, 28, 29, 30, 31, 32, 33, 34, 35, 36, 37, 38] (by decide +kernel) (by decide +kernel)
set_option maxRecDepth 20000 in
theorem gX11_turns_X11_isClaim : GoodIn wsX11_turns (wsV RX11 167 RX11 yX11_isClaim wsX11_isClaim) := goodIn_app (goodIn_of _ (by decide +kernel)) ggX11_turns_X11_isClaim
set_option maxRecDepth 20000 in
theorem ggX11_turns_X11_refused : GoodIn wsX11_turns wsX11_refused := goodIn_r _ [13, 14, 15, 16, 17, 18, 19, 20, 21, 22, 23, 24, 25, 26, 27, 28, 29, 30, 31, 32, 33, 34, 35, 36, 37, 38] (by decide +kernel) (by decide +kernel)
set_option maxRecDepth 20000 in
theorem gX11_turns_X11_refused : GoodIn wsX11_turns (wsV RX11 200 RX11 yX11_refused wsX11_refused) := goodIn_app (goodIn_of _ (by decide +kernel)) ggX11_turns_X11_refused
theorem dX11_turns_0 : decode cX11_turns 0 = .ok (.aload_n 0, 1) := by decide +kernel
theorem dX11_turns_1 : decode cX11_turns 1 = .ok (.iload_n 1, 1) := by decide +kernel
theorem dX11_turns_2 : decode cX11_turns 2 = .ok (.invokevirtual 167, 3) := by decide +kernel
theorem dX11_turns_5 : decode cX11_turns 5 = .ok (.ifCond .ne 9, 3) := by decide +kernel
theorem dX11_turns_8 : decode cX11_turns 8 = .ok (.aload_n 0, 1) := by decide +kernel
theorem dX11_turns_9 : decode cX11_turns 9 = .ok (.iconst (-1), 1) := by decide +kernel
theorem dX11_turns_10 : decode cX11_turns 10 = .ok (.invokevirtual 200, 3) := by decide +kernel
theorem dX11_turns_13 : decode cX11_turns 13 = .ok (.ireturn, 1) := by decide +kernel
theorem dX11_turns_14 : decode cX11_turns 14 = .ok (.aload_n 0, 1) := by decide +kernel
theorem dX11_turns_15 : decode cX11_turns 15 = .ok (.getfield 9, 3) := by decide +kernel
theorem dX11_turns_18 : decode cX11_turns 18 = .ok (.bipush 40, 2) := by decide +kernel
theorem dX11_turns_20 : decode cX11_turns 20 = .ok (.dup2, 1) := by decide +kernel
theorem dX11_turns_21 : decode cX11_turns 21 = .ok (.iaload, 1) := by decide +kernel
theorem dX11_turns_22 : decode cX11_turns 22 = .ok (.iconst 1, 1) := by decide +kernel
theorem dX11_turns_23 : decode cX11_turns 23 = .ok (.iload_n 1, 1) := by decide +kernel
theorem dX11_turns_24 : decode cX11_turns 24 = .ok (.ishl, 1) := by decide +kernel
theorem dX11_turns_25 : decode cX11_turns 25 = .ok (.ixor, 1) := by decide +kernel
theorem dX11_turns_26 : decode cX11_turns 26 = .ok (.iastore, 1) := by decide +kernel
theorem dX11_turns_27 : decode cX11_turns 27 = .ok (.aload_n 0, 1) := by decide +kernel
theorem dX11_turns_28 : decode cX11_turns 28 = .ok (.getfield 9, 3) := by decide +kernel
theorem dX11_turns_31 : decode cX11_turns 31 = .ok (.bipush 40, 2) := by decide +kernel
theorem dX11_turns_33 : decode cX11_turns 33 = .ok (.iaload, 1) := by decide +kernel
theorem dX11_turns_34 : decode cX11_turns 34 = .ok (.iload_n 1, 1) := by decide +kernel
theorem dX11_turns_35 : decode cX11_turns 35 = .ok (.ishr, 1) := by decide +kernel
theorem dX11_turns_36 : decode cX11_turns 36 = .ok (.iconst 1, 1) := by decide +kernel
theorem dX11_turns_37 : decode cX11_turns 37 = .ok (.iand, 1) := by decide +kernel
theorem dX11_turns_38 : decode cX11_turns 38 = .ok (.ireturn, 1) := by decide +kernel
set_option maxRecDepth 20000 in
theorem ggX11_kind_X11_isClaim : GoodIn wsX11_kind wsX11_isClaim := goodIn_r _ [8, 3, 9, 10, 7, 11, 17, 18, 19, 20, 21, 22, 23, 24, 25, 26, 27, 28, 29, 30, 31, 32, 33, 34, 35, 36, 37, 38, 39, 40] (by decide +kernel) (by decide +kernel)
set_option maxRecDepth 20000 in
theorem gX11_kind_X11_isClaim : GoodIn wsX11_kind (wsV RX11 167 RX11 yX11_isClaim wsX11_isClaim) := goodIn_app (goodIn_of _ (by decide +kernel)) ggX11_kind_X11_isClaim
set_option maxRecDepth 20000 in
theorem ggX11_kind_X11_refused : GoodIn wsX11_kind wsX11_refused := goodIn_r _ [15, 16, 17, 18, 19, 20, 21, 22, 23, 24, 25, 26, 27, 28, 29, 30, 31, 32, 33, 34, 35, 36, 37, 38, 39, 40] (by decide +kernel) (by decide +kernel)
set_option maxRecDepth 20000 in
theorem gX11_kind_X11_refused : GoodIn wsX11_kind (wsV RX11 200 RX11 yX11_refused wsX11_refused) := goodIn_app (goodIn_of _ (by decide +kernel)) ggX11_kind_X11_refused
set_option maxRecDepth 20000 in
theorem ggX11_kind_X11_in : GoodIn wsX11_kind wsX11_in := goodIn_r _ [11] (by decide +kernel) (by decide +kernel)
set_option maxRecDepth 20000 in
theorem gX11_kind_X11_in : GoodIn wsX11_kind (va_wsS RX11 57 yX11_in wsX11_in) := goodIn_app (goodIn_of _ (by decide +kernel)) ggX11_kind_X11_in
theorem dX11_kind_0 : decode cX11_kind 0 = .ok (.aload_n 0, 1) := by decide +kernel
theorem dX11_kind_1 : decode cX11_kind 1 = .ok (.iload_n 1, 1) := by decide +kernel
theorem dX11_kind_2 : decode cX11_kind 2 = .ok (.invokevirtual 167, 3) := by decide +kernel
theorem dX11_kind_5 : decode cX11_kind 5 = .ok (.ifCond .ne 9, 3) := by decide +kernel
theorem dX11_kind_8 : decode cX11_kind 8 = .ok (.aload_n 0, 1) := by decide +kernel
theorem dX11_kind_9 : decode cX11_kind 9 = .ok (.iconst (-1), 1) := by decide +kernel
theorem dX11_kind_10 : decode cX11_kind 10 = .ok (.invokevirtual 200, 3) := by decide +kernel
theorem dX11_kind_13 : decode cX11_kind 13 = .ok (.ireturn, 1) := by decide +kernel
theorem dX11_kind_14 : decode cX11_kind 14 = .ok (.iload_n 2, 1) := by decide +kernel
theorem dX11_kind_15 : decode cX11_kind 15 = .ok (.i2l, 1) := by decide +kernel
theorem dX11_kind_16 : decode cX11_kind 16 = .ok (.lconst 0, 1) := by decide +kernel
theorem dX11_kind_17 : decode cX11_kind 17 = .ok (.ldc2_w 206, 3) := by decide +kernel
theorem dX11_kind_20 : decode cX11_kind 20 = .ok (.invokestatic 57, 3) := by decide +kernel
theorem dX11_kind_23 : decode cX11_kind 23 = .ok (.ifCond .ne 10, 3) := by decide +kernel
theorem dX11_kind_26 : decode cX11_kind 26 = .ok (.aload_n 0, 1) := by decide +kernel
theorem dX11_kind_27 : decode cX11_kind 27 = .ok (.bipush (-2), 2) := by decide +kernel
theorem dX11_kind_29 : decode cX11_kind 29 = .ok (.invokevirtual 200, 3) := by decide +kernel
theorem dX11_kind_32 : decode cX11_kind 32 = .ok (.ireturn, 1) := by decide +kernel
theorem dX11_kind_33 : decode cX11_kind 33 = .ok (.iload_n 3, 1) := by decide +kernel
theorem dX11_kind_34 : decode cX11_kind 34 = .ok (.i2l, 1) := by decide +kernel
theorem dX11_kind_35 : decode cX11_kind 35 = .ok (.lconst 0, 1) := by decide +kernel
theorem dX11_kind_36 : decode cX11_kind 36 = .ok (.ldc2_w 208, 3) := by decide +kernel
theorem dX11_kind_39 : decode cX11_kind 39 = .ok (.invokestatic 57, 3) := by decide +kernel
theorem dX11_kind_42 : decode cX11_kind 42 = .ok (.ifCond .ne 19, 3) := by decide +kernel
theorem dX11_kind_45 : decode cX11_kind 45 = .ok (.aload_n 0, 1) := by decide +kernel
theorem dX11_kind_46 : decode cX11_kind 46 = .ok (.iload_n 3, 1) := by decide +kernel
theorem dX11_kind_47 : decode cX11_kind 47 = .ok (.ifCond .ge 8, 3) := by decide +kernel
theorem dX11_kind_50 : decode cX11_kind 50 = .ok (.bipush (-4), 2) := by decide +kernel
theorem dX11_kind_52 : decode cX11_kind 52 = .ok (.goto 5, 3) := by decide +kernel
theorem dX11_kind_55 : decode cX11_kind 55 = .ok (.bipush (-6), 2) := by decide +kernel
theorem dX11_kind_57 : decode cX11_kind 57 = .ok (.invokevirtual 200, 3) := by decide +kernel
theorem dX11_kind_60 : decode cX11_kind 60 = .ok (.ireturn, 1) := by decide +kernel
theorem dX11_kind_61 : decode cX11_kind 61 = .ok (.bipush 10, 2) := by decide +kernel
theorem dX11_kind_63 : decode cX11_kind 63 = .ok (.aload_n 0, 1) := by decide +kernel
theorem dX11_kind_64 : decode cX11_kind 64 = .ok (.getfield 9, 3) := by decide +kernel
theorem dX11_kind_67 : decode cX11_kind 67 = .ok (.iconst 0, 1) := by decide +kernel
theorem dX11_kind_68 : decode cX11_kind 68 = .ok (.iload_n 1, 1) := by decide +kernel
theorem dX11_kind_69 : decode cX11_kind 69 = .ok (.iadd, 1) := by decide +kernel
theorem dX11_kind_70 : decode cX11_kind 70 = .ok (.iaload, 1) := by decide +kernel
theorem dX11_kind_71 : decode cX11_kind 71 = .ok (.imul, 1) := by decide +kernel
theorem dX11_kind_72 : decode cX11_kind 72 = .ok (.aload_n 0, 1) := by decide +kernel
theorem dX11_kind_73 : decode cX11_kind 73 = .ok (.getfield 9, 3) := by decide +kernel
theorem dX11_kind_76 : decode cX11_kind 76 = .ok (.bipush 8, 2) := by decide +kernel
theorem dX11_kind_78 : decode cX11_kind 78 = .ok (.iload_n 1, 1) := by decide +kernel
theorem dX11_kind_79 : decode cX11_kind 79 = .ok (.iadd, 1) := by decide +kernel
theorem dX11_kind_80 : decode cX11_kind 80 = .ok (.iaload, 1) := by decide +kernel
theorem dX11_kind_81 : decode cX11_kind 81 = .ok (.iadd, 1) := by decide +kernel
theorem dX11_kind_82 : decode cX11_kind 82 = .ok (.istore 4, 2) := by decide +kernel
theorem dX11_kind_84 : decode cX11_kind 84 = .ok (.aload_n 0, 1) := by decide +kernel
theorem dX11_kind_85 : decode cX11_kind 85 = .ok (.getfield 9, 3) := by decide +kernel
theorem dX11_kind_88 : decode cX11_kind 88 = .ok (.iconst 0, 1) := by decide +kernel
theorem dX11_kind_89 : decode cX11_kind 89 = .ok (.iload_n 1, 1) := by decide +kernel
theorem dX11_kind_90 : decode cX11_kind 90 = .ok (.iadd, 1) := by decide +kernel
theorem dX11_kind_91 : decode cX11_kind 91 = .ok (.iload_n 2, 1) := by decide +kernel
theorem dX11_kind_92 : decode cX11_kind 92 = .ok (.iastore, 1) := by decide +kernel
theorem dX11_kind_93 : decode cX11_kind 93 = .ok (.aload_n 0, 1) := by decide +kernel
theorem dX11_kind_94 : decode cX11_kind 94 = .ok (.getfield 9, 3) := by decide +kernel
theorem dX11_kind_97 : decode cX11_kind 97 = .ok (.bipush 8, 2) := by decide +kernel
theorem dX11_kind_99 : decode cX11_kind 99 = .ok (.iload_n 1, 1) := by decide +kernel
theorem dX11_kind_100 : decode cX11_kind 100 = .ok (.iadd, 1) := by decide +kernel
theorem dX11_kind_101 : decode cX11_kind 101 = .ok (.iload_n 3, 1) := by decide +kernel
theorem dX11_kind_102 : decode cX11_kind 102 = .ok (.iastore, 1) := by decide +kernel
theorem dX11_kind_103 : decode cX11_kind 103 = .ok (.iload 4, 2) := by decide +kernel
theorem dX11_kind_105 : decode cX11_kind 105 = .ok (.ireturn, 1) := by decide +kernel
set_option maxRecDepth 20000 in
theorem ggX11_toggles_X11_isClaim : GoodIn wsX11_toggles wsX11_isClaim := goodIn_r _ [6, 1, 7, 8, 5, 9, 15, 16, 17, 18, 19, 20, 21, 22, 23, 24, 25, 26, 27, 28, 29, 30, 31, 32, 33, 34, 35, 36, 37, 38] (by decide +kernel) (by decide +kernel)
set_option maxRecDepth 20000 in
theorem gX11_toggles_X11_isClaim : GoodIn wsX11_toggles (wsV RX11 167 RX11 yX11_isClaim wsX11_isClaim) := goodIn_app (goodIn_of _ (by decide +kernel)) ggX11_toggles_X11_isClaim
set_option maxRecDepth 20000 in
theorem ggX11_toggles_X11_refused : GoodIn wsX11_toggles wsX11_refused := goodIn_r _ [13, 14, 15, 16, 17, 18, 19, 20, 21, 22, 23, 24, 25, 26, 27, 28, 29, 30, 31, 32, 33, 34, 35, 36, 37, 38] (by decide +kernel) (by decide +kernel)
set_option maxRecDepth 20000 in
theorem gX11_toggles_X11_refused : GoodIn wsX11_toggles (wsV RX11 200 RX11 yX11_refused wsX11_refused) := goodIn_app (goodIn_of _ (by decide +kernel)) ggX11_toggles_X11_refused
theorem dX11_toggles_0 : decode cX11_toggles 0 = .ok (.aload_n 0, 1) := by decide +kernel
theorem dX11_toggles_1 : decode cX11_toggles 1 = .ok (.iload_n 2, 1) := by decide +kernel
theorem dX11_toggles_2 : decode cX11_toggles 2 = .ok (.invokevirtual 167, 3) := by decide +kernel
theorem dX11_toggles_5 : decode cX11_toggles 5 = .ok (.ifCond .eq 11, 3) := by decide +kernel
theorem dX11_toggles_8 : decode cX11_toggles 8 = .ok (.aload_n 0, 1) := by decide +kernel
theorem dX11_toggles_9 : decode cX11_toggles 9 = .ok (.iload_n 3, 1) := by decide +kernel
theorem dX11_toggles_10 : decode cX11_toggles 10 = .ok (.invokevirtual 167, 3) := by decide +kernel
theorem dX11_toggles_13 : decode cX11_toggles 13 = .ok (.ifCond .ne 9, 3) := by decide +kernel
theorem dX11_toggles_16 : decode cX11_toggles 16 = .ok (.aload_n 0, 1) := by decide +kernel
theorem dX11_toggles_17 : decode cX11_toggles 17 = .ok (.iconst (-1), 1) := by decide +kernel
theorem dX11_toggles_18 : decode cX11_toggles 18 = .ok (.invokevirtual 200, 3) := by decide +kernel
theorem dX11_toggles_21 : decode cX11_toggles 21 = .ok (.ireturn, 1) := by decide +kernel
theorem dX11_toggles_22 : decode cX11_toggles 22 = .ok (.iload_n 2, 1) := by decide +kernel
theorem dX11_toggles_23 : decode cX11_toggles 23 = .ok (.iload_n 3, 1) := by decide +kernel
theorem dX11_toggles_24 : decode cX11_toggles 24 = .ok (.if_icmp .ne 10, 3) := by decide +kernel
theorem dX11_toggles_27 : decode cX11_toggles 27 = .ok (.aload_n 0, 1) := by decide +kernel
theorem dX11_toggles_28 : decode cX11_toggles 28 = .ok (.bipush (-3), 2) := by decide +kernel
theorem dX11_toggles_30 : decode cX11_toggles 30 = .ok (.invokevirtual 200, 3) := by decide +kernel
theorem dX11_toggles_33 : decode cX11_toggles 33 = .ok (.ireturn, 1) := by decide +kernel
theorem dX11_toggles_34 : decode cX11_toggles 34 = .ok (.aload_n 0, 1) := by decide +kernel
theorem dX11_toggles_35 : decode cX11_toggles 35 = .ok (.getfield 9, 3) := by decide +kernel
theorem dX11_toggles_38 : decode cX11_toggles 38 = .ok (.iload_n 1, 1) := by decide +kernel
theorem dX11_toggles_39 : decode cX11_toggles 39 = .ok (.iload_n 2, 1) := by decide +kernel
theorem dX11_toggles_40 : decode cX11_toggles 40 = .ok (.iadd, 1) := by decide +kernel
theorem dX11_toggles_41 : decode cX11_toggles 41 = .ok (.dup2, 1) := by decide +kernel
theorem dX11_toggles_42 : decode cX11_toggles 42 = .ok (.iaload, 1) := by decide +kernel
theorem dX11_toggles_43 : decode cX11_toggles 43 = .ok (.iconst 1, 1) := by decide +kernel
theorem dX11_toggles_44 : decode cX11_toggles 44 = .ok (.iload_n 3, 1) := by decide +kernel
theorem dX11_toggles_45 : decode cX11_toggles 45 = .ok (.ishl, 1) := by decide +kernel
theorem dX11_toggles_46 : decode cX11_toggles 46 = .ok (.ixor, 1) := by decide +kernel
theorem dX11_toggles_47 : decode cX11_toggles 47 = .ok (.iastore, 1) := by decide +kernel
theorem dX11_toggles_48 : decode cX11_toggles 48 = .ok (.aload_n 0, 1) := by decide +kernel
theorem dX11_toggles_49 : decode cX11_toggles 49 = .ok (.getfield 9, 3) := by decide +kernel
theorem dX11_toggles_52 : decode cX11_toggles 52 = .ok (.iload_n 1, 1) := by decide +kernel
theorem dX11_toggles_53 : decode cX11_toggles 53 = .ok (.iload_n 2, 1) := by decide +kernel
theorem dX11_toggles_54 : decode cX11_toggles 54 = .ok (.iadd, 1) := by decide +kernel
theorem dX11_toggles_55 : decode cX11_toggles 55 = .ok (.iaload, 1) := by decide +kernel
theorem dX11_toggles_56 : decode cX11_toggles 56 = .ok (.iload_n 3, 1) := by decide +kernel
theorem dX11_toggles_57 : decode cX11_toggles 57 = .ok (.ishr, 1) := by decide +kernel
theorem dX11_toggles_58 : decode cX11_toggles 58 = .ok (.iconst 1, 1) := by decide +kernel
theorem dX11_toggles_59 : decode cX11_toggles 59 = .ok (.iand, 1) := by decide +kernel
theorem dX11_toggles_60 : decode cX11_toggles 60 = .ok (.ireturn, 1) := by decide +kernel
set_option maxRecDepth 20000 in
theorem ggX11_attacks_X11_toggles : GoodIn wsX11_attacks wsX11_toggles := goodIn_r _ [5, 6, 7, 8, 9, 4, 10, 11, 12, 13, 14, 15, 16, 17, 18, 19, 20, 21, 22, 23, 24, 25, 26, 27, 28, 29, 30, 31, 32, 33, 34, 35, 36, 37, 38, 39, 40, 41, 42] (by decide +kernel) (by decide +kernel)
set_option maxRecDepth 20000 in
theorem gX11_attacks_X11_toggles : GoodIn wsX11_attacks (wsV RX11 210 RX11 yX11_toggles wsX11_toggles) := goodIn_app (goodIn_of _ (by decide +kernel)) ggX11_attacks_X11_toggles
theorem dX11_attacks_0 : decode cX11_attacks 0 = .ok (.aload_n 0, 1) := by decide +kernel
theorem dX11_attacks_1 : decode cX11_attacks 1 = .ok (.bipush 24, 2) := by decide +kernel
theorem dX11_attacks_3 : decode cX11_attacks 3 = .ok (.iload_n 1, 1) := by decide +kernel
theorem dX11_attacks_4 : decode cX11_attacks 4 = .ok (.iload_n 2, 1) := by decide +kernel
theorem dX11_attacks_5 : decode cX11_attacks 5 = .ok (.invokevirtual 210, 3) := by decide +kernel
theorem dX11_attacks_8 : decode cX11_attacks 8 = .ok (.ireturn, 1) := by decide +kernel
set_option maxRecDepth 20000 in
theorem ggX11_supports_X11_toggles : GoodIn wsX11_supports wsX11_toggles := goodIn_r _ [5, 6, 7, 8, 9, 4, 10, 11, 12, 13, 14, 15, 16, 17, 18, 19, 20, 21, 22, 23, 24, 25, 26, 27, 28, 29, 30, 31, 32, 33, 34, 35, 36, 37, 38, 39, 40, 41, 42] (by decide +kernel) (by decide +kernel)
set_option maxRecDepth 20000 in
theorem gX11_supports_X11_toggles : GoodIn wsX11_supports (wsV RX11 210 RX11 yX11_toggles wsX11_toggles) := goodIn_app (goodIn_of _ (by decide +kernel)) ggX11_supports_X11_toggles
theorem dX11_supports_0 : decode cX11_supports 0 = .ok (.aload_n 0, 1) := by decide +kernel
theorem dX11_supports_1 : decode cX11_supports 1 = .ok (.bipush 32, 2) := by decide +kernel
theorem dX11_supports_3 : decode cX11_supports 3 = .ok (.iload_n 1, 1) := by decide +kernel
theorem dX11_supports_4 : decode cX11_supports 4 = .ok (.iload_n 2, 1) := by decide +kernel
theorem dX11_supports_5 : decode cX11_supports 5 = .ok (.invokevirtual 210, 3) := by decide +kernel
theorem dX11_supports_8 : decode cX11_supports 8 = .ok (.ireturn, 1) := by decide +kernel
set_option maxRecDepth 20000 in
theorem ggX11_mode_X11_in : GoodIn wsX11_mode wsX11_in := goodIn_r _ [6] (by decide +kernel) (by decide +kernel)
set_option maxRecDepth 20000 in
theorem gX11_mode_X11_in : GoodIn wsX11_mode (va_wsS RX11 57 yX11_in wsX11_in) := goodIn_app (goodIn_of _ (by decide +kernel)) ggX11_mode_X11_in
set_option maxRecDepth 20000 in
theorem ggX11_mode_X11_refused : GoodIn wsX11_mode wsX11_refused := goodIn_r _ [10, 11, 12, 13, 14, 15, 16, 17, 18, 19, 20, 21, 22, 23, 24, 25, 26, 27, 28, 29, 30, 31, 32, 33, 34, 35] (by decide +kernel) (by decide +kernel)
set_option maxRecDepth 20000 in
theorem gX11_mode_X11_refused : GoodIn wsX11_mode (wsV RX11 200 RX11 yX11_refused wsX11_refused) := goodIn_app (goodIn_of _ (by decide +kernel)) ggX11_mode_X11_refused
theorem dX11_mode_0 : decode cX11_mode 0 = .ok (.iload_n 1, 1) := by decide +kernel
theorem dX11_mode_1 : decode cX11_mode 1 = .ok (.i2l, 1) := by decide +kernel
theorem dX11_mode_2 : decode cX11_mode 2 = .ok (.lconst 0, 1) := by decide +kernel
theorem dX11_mode_3 : decode cX11_mode 3 = .ok (.ldc2_w 214, 3) := by decide +kernel
theorem dX11_mode_6 : decode cX11_mode 6 = .ok (.invokestatic 57, 3) := by decide +kernel
theorem dX11_mode_9 : decode cX11_mode 9 = .ok (.ifCond .ne 19, 3) := by decide +kernel
theorem dX11_mode_12 : decode cX11_mode 12 = .ok (.aload_n 0, 1) := by decide +kernel
theorem dX11_mode_13 : decode cX11_mode 13 = .ok (.iload_n 1, 1) := by decide +kernel
theorem dX11_mode_14 : decode cX11_mode 14 = .ok (.ifCond .ge 8, 3) := by decide +kernel
theorem dX11_mode_17 : decode cX11_mode 17 = .ok (.bipush (-4), 2) := by decide +kernel
theorem dX11_mode_19 : decode cX11_mode 19 = .ok (.goto 5, 3) := by decide +kernel
theorem dX11_mode_22 : decode cX11_mode 22 = .ok (.bipush (-6), 2) := by decide +kernel
theorem dX11_mode_24 : decode cX11_mode 24 = .ok (.invokevirtual 200, 3) := by decide +kernel
theorem dX11_mode_27 : decode cX11_mode 27 = .ok (.ireturn, 1) := by decide +kernel
theorem dX11_mode_28 : decode cX11_mode 28 = .ok (.aload_n 0, 1) := by decide +kernel
theorem dX11_mode_29 : decode cX11_mode 29 = .ok (.getfield 9, 3) := by decide +kernel
theorem dX11_mode_32 : decode cX11_mode 32 = .ok (.bipush 41, 2) := by decide +kernel
theorem dX11_mode_34 : decode cX11_mode 34 = .ok (.iaload, 1) := by decide +kernel
theorem dX11_mode_35 : decode cX11_mode 35 = .ok (.istore_n 2, 1) := by decide +kernel
theorem dX11_mode_36 : decode cX11_mode 36 = .ok (.aload_n 0, 1) := by decide +kernel
theorem dX11_mode_37 : decode cX11_mode 37 = .ok (.getfield 9, 3) := by decide +kernel
theorem dX11_mode_40 : decode cX11_mode 40 = .ok (.bipush 41, 2) := by decide +kernel
theorem dX11_mode_42 : decode cX11_mode 42 = .ok (.iload_n 1, 1) := by decide +kernel
theorem dX11_mode_43 : decode cX11_mode 43 = .ok (.iastore, 1) := by decide +kernel
theorem dX11_mode_44 : decode cX11_mode 44 = .ok (.iload_n 2, 1) := by decide +kernel
theorem dX11_mode_45 : decode cX11_mode 45 = .ok (.ireturn, 1) := by decide +kernel
set_option maxRecDepth 20000 in
theorem ggX11_claim_X11_isClaim : GoodIn wsX11_claim wsX11_isClaim := goodIn_r _ [10, 1, 11, 12, 9, 13, 38, 39, 40, 41, 42, 43, 44, 45, 46, 47, 48, 49, 50, 51, 52, 53, 54, 55, 56, 57, 58, 59, 60, 61] (by decide +kernel) (by decide +kernel)
set_option maxRecDepth 20000 in
theorem gX11_claim_X11_isClaim : GoodIn wsX11_claim (wsV RX11 167 RX11 yX11_isClaim wsX11_isClaim) := goodIn_app (goodIn_of _ (by decide +kernel)) ggX11_claim_X11_isClaim
set_option maxRecDepth 20000 in
theorem ggX11_claim_X11_refused : GoodIn wsX11_claim wsX11_refused := goodIn_r _ [17, 18, 38, 39, 40, 41, 42, 43, 44, 45, 46, 47, 48, 49, 50, 51, 52, 53, 54, 55, 56, 57, 58, 59, 60, 61] (by decide +kernel) (by decide +kernel)
set_option maxRecDepth 20000 in
theorem gX11_claim_X11_refused : GoodIn wsX11_claim (wsV RX11 200 RX11 yX11_refused wsX11_refused) := goodIn_app (goodIn_of _ (by decide +kernel)) ggX11_claim_X11_refused
set_option maxRecDepth 20000 in
theorem ggX11_claim_X11_reckons : GoodIn wsX11_claim wsX11_reckons := goodIn_r _ [22, 2, 3, 1, 4, 5, 23, 24, 25, 9, 26, 27, 28, 29, 30, 31, 32, 33, 34, 35, 36, 37, 38, 39, 40, 41, 42, 43, 44, 45, 46, 47, 48, 49, 50, 51, 52, 53, 54, 55, 56, 57, 58, 59, 60, 61] (by decide +kernel) (by decide +kernel)
set_option maxRecDepth 20000 in
theorem gX11_claim_X11_reckons : GoodIn wsX11_claim (wsV RX11 86 RX11 yX11_reckons wsX11_reckons) := goodIn_app (goodIn_of _ (by decide +kernel)) ggX11_claim_X11_reckons
theorem dX11_claim_0 : decode cX11_claim 0 = .ok (.aload_n 0, 1) := by decide +kernel
theorem dX11_claim_1 : decode cX11_claim 1 = .ok (.iload_n 1, 1) := by decide +kernel
theorem dX11_claim_2 : decode cX11_claim 2 = .ok (.invokevirtual 167, 3) := by decide +kernel
theorem dX11_claim_5 : decode cX11_claim 5 = .ok (.ifCond .ne 9, 3) := by decide +kernel
theorem dX11_claim_8 : decode cX11_claim 8 = .ok (.aload_n 0, 1) := by decide +kernel
theorem dX11_claim_9 : decode cX11_claim 9 = .ok (.iconst (-1), 1) := by decide +kernel
theorem dX11_claim_10 : decode cX11_claim 10 = .ok (.invokevirtual 200, 3) := by decide +kernel
theorem dX11_claim_13 : decode cX11_claim 13 = .ok (.ireturn, 1) := by decide +kernel
theorem dX11_claim_14 : decode cX11_claim 14 = .ok (.aload_n 0, 1) := by decide +kernel
theorem dX11_claim_15 : decode cX11_claim 15 = .ok (.invokevirtual 86, 3) := by decide +kernel
theorem dX11_claim_18 : decode cX11_claim 18 = .ok (.iload_n 2, 1) := by decide +kernel
theorem dX11_claim_19 : decode cX11_claim 19 = .ok (.tableswitch 142 0 9 #[53, 62, 72, 82, 94, 104, 114, 121, 128, 135], 53) := by decide +kernel
theorem dX11_claim_72 : decode cX11_claim 72 = .ok (.aload_n 0, 1) := by decide +kernel
theorem dX11_claim_73 : decode cX11_claim 73 = .ok (.getfield 9, 3) := by decide +kernel
theorem dX11_claim_76 : decode cX11_claim 76 = .ok (.iconst 0, 1) := by decide +kernel
theorem dX11_claim_77 : decode cX11_claim 77 = .ok (.iload_n 1, 1) := by decide +kernel
theorem dX11_claim_78 : decode cX11_claim 78 = .ok (.iadd, 1) := by decide +kernel
theorem dX11_claim_79 : decode cX11_claim 79 = .ok (.iaload, 1) := by decide +kernel
theorem dX11_claim_80 : decode cX11_claim 80 = .ok (.ireturn, 1) := by decide +kernel
theorem dX11_claim_81 : decode cX11_claim 81 = .ok (.aload_n 0, 1) := by decide +kernel
theorem dX11_claim_82 : decode cX11_claim 82 = .ok (.getfield 9, 3) := by decide +kernel
theorem dX11_claim_85 : decode cX11_claim 85 = .ok (.bipush 8, 2) := by decide +kernel
theorem dX11_claim_87 : decode cX11_claim 87 = .ok (.iload_n 1, 1) := by decide +kernel
theorem dX11_claim_88 : decode cX11_claim 88 = .ok (.iadd, 1) := by decide +kernel
theorem dX11_claim_89 : decode cX11_claim 89 = .ok (.iaload, 1) := by decide +kernel
theorem dX11_claim_90 : decode cX11_claim 90 = .ok (.ireturn, 1) := by decide +kernel
theorem dX11_claim_91 : decode cX11_claim 91 = .ok (.aload_n 0, 1) := by decide +kernel
theorem dX11_claim_92 : decode cX11_claim 92 = .ok (.getfield 9, 3) := by decide +kernel
theorem dX11_claim_95 : decode cX11_claim 95 = .ok (.bipush 16, 2) := by decide +kernel
theorem dX11_claim_97 : decode cX11_claim 97 = .ok (.iload_n 1, 1) := by decide +kernel
theorem dX11_claim_98 : decode cX11_claim 98 = .ok (.iadd, 1) := by decide +kernel
theorem dX11_claim_99 : decode cX11_claim 99 = .ok (.iaload, 1) := by decide +kernel
theorem dX11_claim_100 : decode cX11_claim 100 = .ok (.ireturn, 1) := by decide +kernel
theorem dX11_claim_101 : decode cX11_claim 101 = .ok (.aload_n 0, 1) := by decide +kernel
theorem dX11_claim_102 : decode cX11_claim 102 = .ok (.getfield 9, 3) := by decide +kernel
theorem dX11_claim_105 : decode cX11_claim 105 = .ok (.bipush 40, 2) := by decide +kernel
theorem dX11_claim_107 : decode cX11_claim 107 = .ok (.iaload, 1) := by decide +kernel
theorem dX11_claim_108 : decode cX11_claim 108 = .ok (.iload_n 1, 1) := by decide +kernel
theorem dX11_claim_109 : decode cX11_claim 109 = .ok (.ishr, 1) := by decide +kernel
theorem dX11_claim_110 : decode cX11_claim 110 = .ok (.iconst 1, 1) := by decide +kernel
theorem dX11_claim_111 : decode cX11_claim 111 = .ok (.iand, 1) := by decide +kernel
theorem dX11_claim_112 : decode cX11_claim 112 = .ok (.ireturn, 1) := by decide +kernel
theorem dX11_claim_113 : decode cX11_claim 113 = .ok (.aload_n 0, 1) := by decide +kernel
theorem dX11_claim_114 : decode cX11_claim 114 = .ok (.getfield 9, 3) := by decide +kernel
theorem dX11_claim_117 : decode cX11_claim 117 = .ok (.bipush 24, 2) := by decide +kernel
theorem dX11_claim_119 : decode cX11_claim 119 = .ok (.iload_n 1, 1) := by decide +kernel
theorem dX11_claim_120 : decode cX11_claim 120 = .ok (.iadd, 1) := by decide +kernel
theorem dX11_claim_121 : decode cX11_claim 121 = .ok (.iaload, 1) := by decide +kernel
theorem dX11_claim_122 : decode cX11_claim 122 = .ok (.ireturn, 1) := by decide +kernel
theorem dX11_claim_123 : decode cX11_claim 123 = .ok (.aload_n 0, 1) := by decide +kernel
theorem dX11_claim_124 : decode cX11_claim 124 = .ok (.getfield 9, 3) := by decide +kernel
theorem dX11_claim_127 : decode cX11_claim 127 = .ok (.bipush 32, 2) := by decide +kernel
theorem dX11_claim_129 : decode cX11_claim 129 = .ok (.iload_n 1, 1) := by decide +kernel
theorem dX11_claim_130 : decode cX11_claim 130 = .ok (.iadd, 1) := by decide +kernel
theorem dX11_claim_131 : decode cX11_claim 131 = .ok (.iaload, 1) := by decide +kernel
theorem dX11_claim_132 : decode cX11_claim 132 = .ok (.ireturn, 1) := by decide +kernel
theorem dX11_claim_133 : decode cX11_claim 133 = .ok (.aload_n 0, 1) := by decide +kernel
theorem dX11_claim_134 : decode cX11_claim 134 = .ok (.getfield 28, 3) := by decide +kernel
theorem dX11_claim_137 : decode cX11_claim 137 = .ok (.iload_n 1, 1) := by decide +kernel
theorem dX11_claim_138 : decode cX11_claim 138 = .ok (.iaload, 1) := by decide +kernel
theorem dX11_claim_139 : decode cX11_claim 139 = .ok (.ireturn, 1) := by decide +kernel
theorem dX11_claim_140 : decode cX11_claim 140 = .ok (.aload_n 0, 1) := by decide +kernel
theorem dX11_claim_141 : decode cX11_claim 141 = .ok (.getfield 31, 3) := by decide +kernel
theorem dX11_claim_144 : decode cX11_claim 144 = .ok (.iload_n 1, 1) := by decide +kernel
theorem dX11_claim_145 : decode cX11_claim 145 = .ok (.iaload, 1) := by decide +kernel
theorem dX11_claim_146 : decode cX11_claim 146 = .ok (.ireturn, 1) := by decide +kernel
theorem dX11_claim_147 : decode cX11_claim 147 = .ok (.aload_n 0, 1) := by decide +kernel
theorem dX11_claim_148 : decode cX11_claim 148 = .ok (.getfield 34, 3) := by decide +kernel
theorem dX11_claim_151 : decode cX11_claim 151 = .ok (.iload_n 1, 1) := by decide +kernel
theorem dX11_claim_152 : decode cX11_claim 152 = .ok (.iaload, 1) := by decide +kernel
theorem dX11_claim_153 : decode cX11_claim 153 = .ok (.ireturn, 1) := by decide +kernel
theorem dX11_claim_154 : decode cX11_claim 154 = .ok (.aload_n 0, 1) := by decide +kernel
theorem dX11_claim_155 : decode cX11_claim 155 = .ok (.getfield 37, 3) := by decide +kernel
theorem dX11_claim_158 : decode cX11_claim 158 = .ok (.iload_n 1, 1) := by decide +kernel
theorem dX11_claim_159 : decode cX11_claim 159 = .ok (.iaload, 1) := by decide +kernel
theorem dX11_claim_160 : decode cX11_claim 160 = .ok (.ireturn, 1) := by decide +kernel
theorem dX11_claim_161 : decode cX11_claim 161 = .ok (.aload_n 0, 1) := by decide +kernel
theorem dX11_claim_162 : decode cX11_claim 162 = .ok (.bipush (-2), 2) := by decide +kernel
theorem dX11_claim_164 : decode cX11_claim 164 = .ok (.invokevirtual 200, 3) := by decide +kernel
theorem dX11_claim_167 : decode cX11_claim 167 = .ok (.ireturn, 1) := by decide +kernel
set_option maxRecDepth 20000 in
theorem ggX11_label_X11_isClaim : GoodIn wsX11_label wsX11_isClaim := goodIn_r _ [5, 6, 7, 8, 4, 9, 54, 55, 56, 57, 58, 59, 60, 61, 62, 63, 64, 65, 66, 67, 68, 69, 70, 71, 72, 73, 74, 75, 76, 77] (by decide +kernel) (by decide +kernel)
set_option maxRecDepth 20000 in
theorem gX11_label_X11_isClaim : GoodIn wsX11_label (wsV RX11 167 RX11 yX11_isClaim wsX11_isClaim) := goodIn_app (goodIn_of _ (by decide +kernel)) ggX11_label_X11_isClaim
set_option maxRecDepth 20000 in
theorem ggX11_label_X11_refused : GoodIn wsX11_label wsX11_refused := goodIn_r _ [13, 14, 54, 55, 56, 57, 58, 59, 60, 61, 62, 63, 64, 65, 66, 67, 68, 69, 70, 71, 72, 73, 74, 75, 76, 77] (by decide +kernel) (by decide +kernel)
set_option maxRecDepth 20000 in
theorem gX11_label_X11_refused : GoodIn wsX11_label (wsV RX11 200 RX11 yX11_refused wsX11_refused) := goodIn_app (goodIn_of _ (by decide +kernel)) ggX11_label_X11_refused
set_option maxRecDepth 20000 in
theorem ggX11_label_X11_turnsAll : GoodIn wsX11_label wsX11_turnsAll := goodIn_r _ [18, 19, 20, 21, 22, 23, 24, 25, 26, 4, 27, 28, 29, 6, 30, 31, 32, 33, 34, 35, 36, 37, 38, 39, 40, 41, 42, 43, 44, 45, 46, 47, 48, 49, 54, 55, 56, 57, 58, 59, 60, 61, 62, 63, 64, 65, 66, 67, 68, 69, 70, 71, 72, 73, 74, 75, 76, 77] (by decide +kernel) (by decide +kernel)
set_option maxRecDepth 20000 in
theorem gX11_label_X11_turnsAll : GoodIn wsX11_label (wsV RX11 216 RX11 yX11_turnsAll wsX11_turnsAll) := goodIn_app (goodIn_of _ (by decide +kernel)) ggX11_label_X11_turnsAll
set_option maxRecDepth 20000 in
theorem ggX11_label_X11_labelOf : GoodIn wsX11_label wsX11_labelOf := goodIn_r _ [53, 19, 20, 31, 32, 33, 4, 34, 6, 35, 36, 37, 54, 55, 56, 57, 58, 59, 60, 61, 62, 63, 64, 65, 66, 67, 68, 69, 70, 71, 72, 73, 74, 75, 76, 77] (by decide +kernel) (by decide +kernel)
set_option maxRecDepth 20000 in
theorem gX11_label_X11_labelOf : GoodIn wsX11_label (wsV RX11 219 RX11 yX11_labelOf wsX11_labelOf) := goodIn_app (goodIn_of _ (by decide +kernel)) ggX11_label_X11_labelOf
theorem dX11_label_0 : decode cX11_label 0 = .ok (.aload_n 0, 1) := by decide +kernel
theorem dX11_label_1 : decode cX11_label 1 = .ok (.iload_n 1, 1) := by decide +kernel
theorem dX11_label_2 : decode cX11_label 2 = .ok (.invokevirtual 167, 3) := by decide +kernel
theorem dX11_label_5 : decode cX11_label 5 = .ok (.ifCond .ne 9, 3) := by decide +kernel
theorem dX11_label_8 : decode cX11_label 8 = .ok (.aload_n 0, 1) := by decide +kernel
theorem dX11_label_9 : decode cX11_label 9 = .ok (.iconst (-1), 1) := by decide +kernel
theorem dX11_label_10 : decode cX11_label 10 = .ok (.invokevirtual 200, 3) := by decide +kernel
theorem dX11_label_13 : decode cX11_label 13 = .ok (.ireturn, 1) := by decide +kernel
theorem dX11_label_14 : decode cX11_label 14 = .ok (.aload_n 0, 1) := by decide +kernel
theorem dX11_label_15 : decode cX11_label 15 = .ok (.invokevirtual 216, 3) := by decide +kernel
theorem dX11_label_18 : decode cX11_label 18 = .ok (.aload_n 0, 1) := by decide +kernel
theorem dX11_label_19 : decode cX11_label 19 = .ok (.iload_n 1, 1) := by decide +kernel
theorem dX11_label_20 : decode cX11_label 20 = .ok (.invokevirtual 219, 3) := by decide +kernel
theorem dX11_label_23 : decode cX11_label 23 = .ok (.ireturn, 1) := by decide +kernel
set_option maxRecDepth 20000 in
theorem ggX11_turn_X11_refused : GoodIn wsX11_turn wsX11_refused := goodIn_r _ [7, 8, 43, 44, 45, 46, 47, 48, 49, 50, 51, 52, 53, 54, 55, 56, 57, 58, 59, 60, 61, 62, 63, 64, 65, 66] (by decide +kernel) (by decide +kernel)
set_option maxRecDepth 20000 in
theorem gX11_turn_X11_refused : GoodIn wsX11_turn (wsV RX11 200 RX11 yX11_refused wsX11_refused) := goodIn_app (goodIn_of _ (by decide +kernel)) ggX11_turn_X11_refused
set_option maxRecDepth 20000 in
theorem ggX11_turn_X11_turnsAll : GoodIn wsX11_turn wsX11_turnsAll := goodIn_r _ [12, 13, 14, 1, 15, 2, 16, 17, 18, 6, 19, 20, 21, 22, 23, 24, 25, 26, 27, 28, 29, 30, 31, 32, 33, 34, 35, 36, 37, 38, 39, 40, 41, 42, 43, 44, 45, 46, 47, 48, 49, 50, 51, 52, 53, 54, 55, 56, 57, 58, 59, 60, 61, 62, 63, 64, 65, 66] (by decide +kernel) (by decide +kernel)
set_option maxRecDepth 20000 in
theorem gX11_turn_X11_turnsAll : GoodIn wsX11_turn (wsV RX11 216 RX11 yX11_turnsAll wsX11_turnsAll) := goodIn_app (goodIn_of _ (by decide +kernel)) ggX11_turn_X11_turnsAll
theorem dX11_turn_0 : decode cX11_turn 0 = .ok (.iload_n 1, 1) := by decide +kernel
theorem dX11_turn_1 : decode cX11_turn 1 = .ok (.iconst (-1), 1) := by decide +kernel
theorem dX11_turn_2 : decode cX11_turn 2 = .ok (.if_icmp .ge 10, 3) := by decide +kernel
theorem dX11_turn_5 : decode cX11_turn 5 = .ok (.aload_n 0, 1) := by decide +kernel
theorem dX11_turn_6 : decode cX11_turn 6 = .ok (.bipush (-4), 2) := by decide +kernel
theorem dX11_turn_8 : decode cX11_turn 8 = .ok (.invokevirtual 200, 3) := by decide +kernel
theorem dX11_turn_11 : decode cX11_turn 11 = .ok (.ireturn, 1) := by decide +kernel
theorem dX11_turn_12 : decode cX11_turn 12 = .ok (.aload_n 0, 1) := by decide +kernel
theorem dX11_turn_13 : decode cX11_turn 13 = .ok (.invokevirtual 216, 3) := by decide +kernel
theorem dX11_turn_16 : decode cX11_turn 16 = .ok (.iload_n 1, 1) := by decide +kernel
theorem dX11_turn_17 : decode cX11_turn 17 = .ok (.ifCond .ge 10, 3) := by decide +kernel
theorem dX11_turn_20 : decode cX11_turn 20 = .ok (.aload_n 0, 1) := by decide +kernel
theorem dX11_turn_21 : decode cX11_turn 21 = .ok (.getfield 89, 3) := by decide +kernel
theorem dX11_turn_24 : decode cX11_turn 24 = .ok (.goto 22, 3) := by decide +kernel
theorem dX11_turn_27 : decode cX11_turn 27 = .ok (.iload_n 1, 1) := by decide +kernel
theorem dX11_turn_28 : decode cX11_turn 28 = .ok (.aload_n 0, 1) := by decide +kernel
theorem dX11_turn_29 : decode cX11_turn 29 = .ok (.getfield 89, 3) := by decide +kernel
theorem dX11_turn_32 : decode cX11_turn 32 = .ok (.if_icmp .ge 12, 3) := by decide +kernel
theorem dX11_turn_35 : decode cX11_turn 35 = .ok (.aload_n 0, 1) := by decide +kernel
theorem dX11_turn_36 : decode cX11_turn 36 = .ok (.getfield 40, 3) := by decide +kernel
theorem dX11_turn_39 : decode cX11_turn 39 = .ok (.iload_n 1, 1) := by decide +kernel
theorem dX11_turn_40 : decode cX11_turn 40 = .ok (.iaload, 1) := by decide +kernel
theorem dX11_turn_41 : decode cX11_turn 41 = .ok (.goto 5, 3) := by decide +kernel
theorem dX11_turn_44 : decode cX11_turn 44 = .ok (.bipush (-9), 2) := by decide +kernel
theorem dX11_turn_46 : decode cX11_turn 46 = .ok (.ireturn, 1) := by decide +kernel
set_option maxRecDepth 20000 in
theorem ggX11_sets_X11_in : GoodIn wsX11_sets wsX11_in := goodIn_r _ [5] (by decide +kernel) (by decide +kernel)
set_option maxRecDepth 20000 in
theorem gX11_sets_X11_in : GoodIn wsX11_sets (va_wsS RX11 57 yX11_in wsX11_in) := goodIn_app (goodIn_of _ (by decide +kernel)) ggX11_sets_X11_in
set_option maxRecDepth 20000 in
theorem ggX11_sets_X11_refused : GoodIn wsX11_sets wsX11_refused := goodIn_r _ [9, 10, 88, 89, 90, 91, 92, 93, 94, 95, 96, 97, 98, 99, 100, 101, 102, 103, 104, 105, 106, 107, 108, 109, 110, 111] (by decide +kernel) (by decide +kernel)
set_option maxRecDepth 20000 in
theorem gX11_sets_X11_refused : GoodIn wsX11_sets (wsV RX11 200 RX11 yX11_refused wsX11_refused) := goodIn_app (goodIn_of _ (by decide +kernel)) ggX11_sets_X11_refused
set_option maxRecDepth 20000 in
theorem ggX11_sets_X11_reckons : GoodIn wsX11_sets wsX11_reckons := goodIn_r _ [14, 15, 16, 17, 18, 19, 20, 21, 22, 4, 23, 24, 25, 26, 27, 28, 29, 30, 31, 32, 33, 34, 88, 89, 90, 91, 92, 93, 94, 95, 96, 97, 98, 99, 100, 101, 102, 103, 104, 105, 106, 107, 108, 109, 110, 111] (by decide +kernel) (by decide +kernel)
set_option maxRecDepth 20000 in
theorem gX11_sets_X11_reckons : GoodIn wsX11_sets (wsV RX11 86 RX11 yX11_reckons wsX11_reckons) := goodIn_app (goodIn_of _ (by decide +kernel)) ggX11_sets_X11_reckons
set_option maxRecDepth 20000 in
theorem ggX11_sets_X11_finds : GoodIn wsX11_sets wsX11_finds := goodIn_r _ [38, 39, 40, 41, 42, 43, 4, 44, 45, 46, 47, 48, 17, 49, 50, 51, 52, 18, 24, 25, 26, 53, 54, 55, 56, 57, 58, 59, 60, 61, 62, 63, 64, 19, 65, 66, 67, 68, 20, 21, 22, 23, 69, 70, 71, 72, 73, 74, 75, 76, 88, 89, 90, 91, 92, 93, 94, 95, 96, 97, 98, 99, 100, 101, 102, 103, 104, 105, 106, 107, 108, 109, 110, 111] (by decide +kernel) (by decide +kernel)
set_option maxRecDepth 20000 in
theorem gX11_sets_X11_finds : GoodIn wsX11_sets (wsV RX11 222 RX11 yX11_finds wsX11_finds) := goodIn_app (goodIn_of _ (by decide +kernel)) ggX11_sets_X11_finds
set_option maxRecDepth 20000 in
theorem ggX11_sets_X11_found : GoodIn wsX11_sets wsX11_found := goodIn_r _ [80, 40, 88, 89, 90, 91, 92, 93, 94, 95, 96, 97, 98, 99, 100, 101, 102, 103, 104, 105, 106, 107, 108, 109, 110, 111] (by decide +kernel) (by decide +kernel)
set_option maxRecDepth 20000 in
theorem gX11_sets_X11_found : GoodIn wsX11_sets (wsV RX11 225 RX11 yX11_found wsX11_found) := goodIn_app (goodIn_of _ (by decide +kernel)) ggX11_sets_X11_found
set_option maxRecDepth 20000 in
theorem ggX11_sets_X11_foundAt : GoodIn wsX11_sets wsX11_foundAt := goodIn_r _ [84, 40, 85, 86, 4, 87, 88, 89, 90, 91, 92, 93, 94, 95, 96, 97, 98, 99, 100, 101, 102, 103, 104, 105, 106, 107, 108, 109, 110, 111] (by decide +kernel) (by decide +kernel)
set_option maxRecDepth 20000 in
theorem gX11_sets_X11_foundAt : GoodIn wsX11_sets (wsV RX11 228 RX11 yX11_foundAt wsX11_foundAt) := goodIn_app (goodIn_of _ (by decide +kernel)) ggX11_sets_X11_foundAt
theorem dX11_sets_0 : decode cX11_sets 0 = .ok (.iload_n 1, 1) := by decide +kernel
theorem dX11_sets_1 : decode cX11_sets 1 = .ok (.i2l, 1) := by decide +kernel
theorem dX11_sets_2 : decode cX11_sets 2 = .ok (.lconst 0, 1) := by decide +kernel
theorem dX11_sets_3 : decode cX11_sets 3 = .ok (.ldc2_w 206, 3) := by decide +kernel
theorem dX11_sets_6 : decode cX11_sets 6 = .ok (.invokestatic 57, 3) := by decide +kernel
theorem dX11_sets_9 : decode cX11_sets 9 = .ok (.ifCond .ne 10, 3) := by decide +kernel
theorem dX11_sets_12 : decode cX11_sets 12 = .ok (.aload_n 0, 1) := by decide +kernel
theorem dX11_sets_13 : decode cX11_sets 13 = .ok (.bipush (-2), 2) := by decide +kernel
theorem dX11_sets_15 : decode cX11_sets 15 = .ok (.invokevirtual 200, 3) := by decide +kernel
theorem dX11_sets_18 : decode cX11_sets 18 = .ok (.ireturn, 1) := by decide +kernel
theorem dX11_sets_19 : decode cX11_sets 19 = .ok (.iload_n 2, 1) := by decide +kernel
theorem dX11_sets_20 : decode cX11_sets 20 = .ok (.iconst (-1), 1) := by decide +kernel
theorem dX11_sets_21 : decode cX11_sets 21 = .ok (.if_icmp .ge 10, 3) := by decide +kernel
theorem dX11_sets_24 : decode cX11_sets 24 = .ok (.aload_n 0, 1) := by decide +kernel
theorem dX11_sets_25 : decode cX11_sets 25 = .ok (.bipush (-4), 2) := by decide +kernel
theorem dX11_sets_27 : decode cX11_sets 27 = .ok (.invokevirtual 200, 3) := by decide +kernel
theorem dX11_sets_30 : decode cX11_sets 30 = .ok (.ireturn, 1) := by decide +kernel
theorem dX11_sets_31 : decode cX11_sets 31 = .ok (.aload_n 0, 1) := by decide +kernel
theorem dX11_sets_32 : decode cX11_sets 32 = .ok (.invokevirtual 86, 3) := by decide +kernel
theorem dX11_sets_35 : decode cX11_sets 35 = .ok (.aload_n 0, 1) := by decide +kernel
theorem dX11_sets_36 : decode cX11_sets 36 = .ok (.iload_n 1, 1) := by decide +kernel
theorem dX11_sets_37 : decode cX11_sets 37 = .ok (.invokevirtual 222, 3) := by decide +kernel
theorem dX11_sets_40 : decode cX11_sets 40 = .ok (.iload_n 2, 1) := by decide +kernel
theorem dX11_sets_41 : decode cX11_sets 41 = .ok (.ifCond .ge 10, 3) := by decide +kernel
theorem dX11_sets_44 : decode cX11_sets 44 = .ok (.aload_n 0, 1) := by decide +kernel
theorem dX11_sets_45 : decode cX11_sets 45 = .ok (.invokevirtual 225, 3) := by decide +kernel
theorem dX11_sets_48 : decode cX11_sets 48 = .ok (.goto 8, 3) := by decide +kernel
theorem dX11_sets_51 : decode cX11_sets 51 = .ok (.aload_n 0, 1) := by decide +kernel
theorem dX11_sets_52 : decode cX11_sets 52 = .ok (.iload_n 2, 1) := by decide +kernel
theorem dX11_sets_53 : decode cX11_sets 53 = .ok (.invokevirtual 228, 3) := by decide +kernel
theorem dX11_sets_56 : decode cX11_sets 56 = .ok (.ireturn, 1) := by decide +kernel
set_option maxRecDepth 20000 in
theorem ggX11_among_X11_in : GoodIn wsX11_among wsX11_in := goodIn_r _ [6] (by decide +kernel) (by decide +kernel)
set_option maxRecDepth 20000 in
theorem gX11_among_X11_in : GoodIn wsX11_among (va_wsS RX11 57 yX11_in wsX11_in) := goodIn_app (goodIn_of _ (by decide +kernel)) ggX11_among_X11_in
set_option maxRecDepth 20000 in
theorem ggX11_among_X11_refused : GoodIn wsX11_among wsX11_refused := goodIn_r _ [10, 11, 85, 86, 87, 88, 89, 90, 91, 92, 93, 94, 95, 96, 97, 98, 99, 100, 101, 102, 103, 104, 105, 106, 107, 108] (by decide +kernel) (by decide +kernel)
set_option maxRecDepth 20000 in
theorem gX11_among_X11_refused : GoodIn wsX11_among (wsV RX11 200 RX11 yX11_refused wsX11_refused) := goodIn_app (goodIn_of _ (by decide +kernel)) ggX11_among_X11_refused
set_option maxRecDepth 20000 in
theorem ggX11_among_X11_isClaim : GoodIn wsX11_among wsX11_isClaim := goodIn_r _ [15, 16, 3, 4, 5, 6, 85, 86, 87, 88, 89, 90, 91, 92, 93, 94, 95, 96, 97, 98, 99, 100, 101, 102, 103, 104, 105, 106, 107, 108] (by decide +kernel) (by decide +kernel)
set_option maxRecDepth 20000 in
theorem gX11_among_X11_isClaim : GoodIn wsX11_among (wsV RX11 167 RX11 yX11_isClaim wsX11_isClaim) := goodIn_app (goodIn_of _ (by decide +kernel)) ggX11_among_X11_isClaim
set_option maxRecDepth 20000 in
theorem ggX11_among_X11_reckons : GoodIn wsX11_among wsX11_reckons := goodIn_r _ [20, 21, 22, 16, 23, 24, 25, 26, 27, 5, 28, 29, 30, 31, 32, 33, 34, 35, 36, 37, 38, 39, 85, 86, 87, 88, 89, 90, 91, 92, 93, 94, 95, 96, 97, 98, 99, 100, 101, 102, 103, 104, 105, 106, 107, 108] (by decide +kernel) (by decide +kernel)
set_option maxRecDepth 20000 in
theorem gX11_among_X11_reckons : GoodIn wsX11_among (wsV RX11 86 RX11 yX11_reckons wsX11_reckons) := goodIn_app (goodIn_of _ (by decide +kernel)) ggX11_among_X11_reckons
set_option maxRecDepth 20000 in
theorem ggX11_among_X11_finds : GoodIn wsX11_among wsX11_finds := goodIn_r _ [43, 44, 2, 45, 46, 47, 5, 48, 49, 50, 51, 52, 16, 53, 54, 55, 56, 23, 29, 30, 31, 57, 58, 59, 60, 61, 62, 63, 64, 65, 66, 67, 68, 24, 69, 70, 71, 72, 25, 26, 27, 28, 73, 74, 75, 76, 77, 78, 79, 80, 85, 86, 87, 88, 89, 90, 91, 92, 93, 94, 95, 96, 97, 98, 99, 100, 101, 102, 103, 104, 105, 106, 107, 108] (by decide +kernel) (by decide +kernel)
set_option maxRecDepth 20000 in
theorem gX11_among_X11_finds : GoodIn wsX11_among (wsV RX11 222 RX11 yX11_finds wsX11_finds) := goodIn_app (goodIn_of _ (by decide +kernel)) ggX11_among_X11_finds
set_option maxRecDepth 20000 in
theorem ggX11_among_X11_has : GoodIn wsX11_among wsX11_has := goodIn_r _ [31] (by decide +kernel) (by decide +kernel)
set_option maxRecDepth 20000 in
theorem gX11_among_X11_has : GoodIn wsX11_among (va_wsS RX11 61 yX11_has wsX11_has) := goodIn_app (goodIn_of _ (by decide +kernel)) ggX11_among_X11_has
set_option maxRecDepth 20000 in
theorem ggX11_among_X11_found : GoodIn wsX11_among wsX11_found := goodIn_r _ [84, 2, 85, 86, 87, 88, 89, 90, 91, 92, 93, 94, 95, 96, 97, 98, 99, 100, 101, 102, 103, 104, 105, 106, 107, 108] (by decide +kernel) (by decide +kernel)
set_option maxRecDepth 20000 in
theorem gX11_among_X11_found : GoodIn wsX11_among (wsV RX11 225 RX11 yX11_found wsX11_found) := goodIn_app (goodIn_of _ (by decide +kernel)) ggX11_among_X11_found
theorem dX11_among_0 : decode cX11_among 0 = .ok (.iload_n 1, 1) := by decide +kernel
theorem dX11_among_1 : decode cX11_among 1 = .ok (.i2l, 1) := by decide +kernel
theorem dX11_among_2 : decode cX11_among 2 = .ok (.lconst 0, 1) := by decide +kernel
theorem dX11_among_3 : decode cX11_among 3 = .ok (.ldc2_w 206, 3) := by decide +kernel
theorem dX11_among_6 : decode cX11_among 6 = .ok (.invokestatic 57, 3) := by decide +kernel
theorem dX11_among_9 : decode cX11_among 9 = .ok (.ifCond .ne 10, 3) := by decide +kernel
theorem dX11_among_12 : decode cX11_among 12 = .ok (.aload_n 0, 1) := by decide +kernel
theorem dX11_among_13 : decode cX11_among 13 = .ok (.bipush (-2), 2) := by decide +kernel
theorem dX11_among_15 : decode cX11_among 15 = .ok (.invokevirtual 200, 3) := by decide +kernel
theorem dX11_among_18 : decode cX11_among 18 = .ok (.ireturn, 1) := by decide +kernel
theorem dX11_among_19 : decode cX11_among 19 = .ok (.aload_n 0, 1) := by decide +kernel
theorem dX11_among_20 : decode cX11_among 20 = .ok (.iload_n 2, 1) := by decide +kernel
theorem dX11_among_21 : decode cX11_among 21 = .ok (.invokevirtual 167, 3) := by decide +kernel
theorem dX11_among_24 : decode cX11_among 24 = .ok (.ifCond .ne 9, 3) := by decide +kernel
theorem dX11_among_27 : decode cX11_among 27 = .ok (.aload_n 0, 1) := by decide +kernel
theorem dX11_among_28 : decode cX11_among 28 = .ok (.iconst (-1), 1) := by decide +kernel
theorem dX11_among_29 : decode cX11_among 29 = .ok (.invokevirtual 200, 3) := by decide +kernel
theorem dX11_among_32 : decode cX11_among 32 = .ok (.ireturn, 1) := by decide +kernel
theorem dX11_among_33 : decode cX11_among 33 = .ok (.iload_n 3, 1) := by decide +kernel
theorem dX11_among_34 : decode cX11_among 34 = .ok (.i2l, 1) := by decide +kernel
theorem dX11_among_35 : decode cX11_among 35 = .ok (.lconst 0, 1) := by decide +kernel
theorem dX11_among_36 : decode cX11_among 36 = .ok (.lconst 1, 1) := by decide +kernel
theorem dX11_among_37 : decode cX11_among 37 = .ok (.invokestatic 57, 3) := by decide +kernel
theorem dX11_among_40 : decode cX11_among 40 = .ok (.ifCond .ne 10, 3) := by decide +kernel
theorem dX11_among_43 : decode cX11_among 43 = .ok (.aload_n 0, 1) := by decide +kernel
theorem dX11_among_44 : decode cX11_among 44 = .ok (.bipush (-2), 2) := by decide +kernel
theorem dX11_among_46 : decode cX11_among 46 = .ok (.invokevirtual 200, 3) := by decide +kernel
theorem dX11_among_49 : decode cX11_among 49 = .ok (.ireturn, 1) := by decide +kernel
theorem dX11_among_50 : decode cX11_among 50 = .ok (.aload_n 0, 1) := by decide +kernel
theorem dX11_among_51 : decode cX11_among 51 = .ok (.invokevirtual 86, 3) := by decide +kernel
theorem dX11_among_54 : decode cX11_among 54 = .ok (.aload_n 0, 1) := by decide +kernel
theorem dX11_among_55 : decode cX11_among 55 = .ok (.iload_n 1, 1) := by decide +kernel
theorem dX11_among_56 : decode cX11_among 56 = .ok (.invokevirtual 222, 3) := by decide +kernel
theorem dX11_among_59 : decode cX11_among 59 = .ok (.iconst 0, 1) := by decide +kernel
theorem dX11_among_60 : decode cX11_among 60 = .ok (.istore 4, 2) := by decide +kernel
theorem dX11_among_62 : decode cX11_among 62 = .ok (.iconst 0, 1) := by decide +kernel
theorem dX11_among_63 : decode cX11_among 63 = .ok (.istore 5, 2) := by decide +kernel
theorem dX11_among_65 : decode cX11_among 65 = .ok (.iload 5, 2) := by decide +kernel
theorem dX11_among_67 : decode cX11_among 67 = .ok (.sipush 256, 3) := by decide +kernel
theorem dX11_among_70 : decode cX11_among 70 = .ok (.if_icmp .ge 38, 3) := by decide +kernel
theorem dX11_among_73 : decode cX11_among 73 = .ok (.iload 4, 2) := by decide +kernel
theorem dX11_among_75 : decode cX11_among 75 = .ok (.aload_n 0, 1) := by decide +kernel
theorem dX11_among_76 : decode cX11_among 76 = .ok (.getfield 43, 3) := by decide +kernel
theorem dX11_among_79 : decode cX11_among 79 = .ok (.iload 5, 2) := by decide +kernel
theorem dX11_among_81 : decode cX11_among 81 = .ok (.baload, 1) := by decide +kernel
theorem dX11_among_82 : decode cX11_among 82 = .ok (.ifCond .eq 16, 3) := by decide +kernel
theorem dX11_among_85 : decode cX11_among 85 = .ok (.iload 5, 2) := by decide +kernel
theorem dX11_among_87 : decode cX11_among 87 = .ok (.iload_n 2, 1) := by decide +kernel
theorem dX11_among_88 : decode cX11_among 88 = .ok (.invokestatic 61, 3) := by decide +kernel
theorem dX11_among_91 : decode cX11_among 91 = .ok (.ifCond .eq 7, 3) := by decide +kernel
theorem dX11_among_94 : decode cX11_among 94 = .ok (.iconst 1, 1) := by decide +kernel
theorem dX11_among_95 : decode cX11_among 95 = .ok (.goto 4, 3) := by decide +kernel
theorem dX11_among_98 : decode cX11_among 98 = .ok (.iconst 0, 1) := by decide +kernel
theorem dX11_among_99 : decode cX11_among 99 = .ok (.iadd, 1) := by decide +kernel
theorem dX11_among_100 : decode cX11_among 100 = .ok (.istore 4, 2) := by decide +kernel
theorem dX11_among_102 : decode cX11_among 102 = .ok (.iinc 5 1, 3) := by decide +kernel
theorem dX11_among_105 : decode cX11_among 105 = .ok (.goto (-40), 3) := by decide +kernel
theorem dX11_among_108 : decode cX11_among 108 = .ok (.iload 4, 2) := by decide +kernel
theorem dX11_among_110 : decode cX11_among 110 = .ok (.ifCond .le 20, 3) := by decide +kernel
theorem dX11_among_113 : decode cX11_among 113 = .ok (.iload_n 3, 1) := by decide +kernel
theorem dX11_among_114 : decode cX11_among 114 = .ok (.ifCond .eq 12, 3) := by decide +kernel
theorem dX11_among_117 : decode cX11_among 117 = .ok (.iload 4, 2) := by decide +kernel
theorem dX11_among_119 : decode cX11_among 119 = .ok (.aload_n 0, 1) := by decide +kernel
theorem dX11_among_120 : decode cX11_among 120 = .ok (.invokevirtual 225, 3) := by decide +kernel
theorem dX11_among_123 : decode cX11_among 123 = .ok (.if_icmp .ne 7, 3) := by decide +kernel
theorem dX11_among_126 : decode cX11_among 126 = .ok (.iconst 1, 1) := by decide +kernel
theorem dX11_among_127 : decode cX11_among 127 = .ok (.goto 4, 3) := by decide +kernel
theorem dX11_among_130 : decode cX11_among 130 = .ok (.iconst 0, 1) := by decide +kernel
theorem dX11_among_131 : decode cX11_among 131 = .ok (.ireturn, 1) := by decide +kernel
set_option maxRecDepth 20000 in
theorem ggX11_ideal_X11_reckons : GoodIn wsX11_ideal wsX11_reckons := goodIn_r _ [6, 7, 8, 9, 10, 11, 12, 13, 14, 5, 15, 16, 17, 18, 19, 20, 21, 22, 23, 24, 25, 26, 71, 72, 73, 74, 75, 76, 77, 78, 79, 80, 81, 82, 83, 84, 85, 86, 87, 88, 89, 90, 91, 92, 93, 94] (by decide +kernel) (by decide +kernel)
set_option maxRecDepth 20000 in
theorem gX11_ideal_X11_reckons : GoodIn wsX11_ideal (wsV RX11 86 RX11 yX11_reckons wsX11_reckons) := goodIn_app (goodIn_of _ (by decide +kernel)) ggX11_ideal_X11_reckons
set_option maxRecDepth 20000 in
theorem ggX11_ideal_X11_finds : GoodIn wsX11_ideal wsX11_finds := goodIn_r _ [30, 31, 1, 32, 33, 34, 5, 35, 36, 37, 38, 39, 9, 40, 41, 42, 43, 10, 16, 17, 18, 44, 45, 46, 47, 48, 49, 50, 51, 52, 53, 54, 55, 11, 56, 57, 58, 59, 12, 13, 14, 15, 60, 61, 62, 63, 64, 65, 66, 67, 71, 72, 73, 74, 75, 76, 77, 78, 79, 80, 81, 82, 83, 84, 85, 86, 87, 88, 89, 90, 91, 92, 93, 94] (by decide +kernel) (by decide +kernel)
set_option maxRecDepth 20000 in
theorem gX11_ideal_X11_finds : GoodIn wsX11_ideal (wsV RX11 222 RX11 yX11_finds wsX11_finds) := goodIn_app (goodIn_of _ (by decide +kernel)) ggX11_ideal_X11_finds
set_option maxRecDepth 20000 in
theorem ggX11_ideal_X11_ones : GoodIn wsX11_ideal wsX11_ones := goodIn_r _ [70] (by decide +kernel) (by decide +kernel)
set_option maxRecDepth 20000 in
theorem gX11_ideal_X11_ones : GoodIn wsX11_ideal (va_wsS RX11 127 yX11_ones wsX11_ones) := goodIn_app (goodIn_of _ (by decide +kernel)) ggX11_ideal_X11_ones
set_option maxRecDepth 20000 in
theorem ggX11_ideal_X11_isAdmissible : GoodIn wsX11_ideal wsX11_isAdmissible := goodIn_r _ [51, 9, 36, 37, 38, 5, 39, 40, 41, 42, 43, 10, 16, 17, 18, 52, 53, 54, 55, 11, 71, 72, 73, 74, 75, 76, 77, 78, 79, 80, 81, 82, 83, 84, 85, 86, 87, 88, 89, 90, 91, 92, 93, 94] (by decide +kernel) (by decide +kernel)
set_option maxRecDepth 20000 in
theorem gX11_ideal_X11_isAdmissible : GoodIn wsX11_ideal (wsV RX11 106 RX11 yX11_isAdmissible wsX11_isAdmissible) := goodIn_app (goodIn_of _ (by decide +kernel)) ggX11_ideal_X11_isAdmissible
theorem dX11_ideal_0 : decode cX11_ideal 0 = .ok (.aload_n 0, 1) := by decide +kernel
theorem dX11_ideal_1 : decode cX11_ideal 1 = .ok (.invokevirtual 86, 3) := by decide +kernel
theorem dX11_ideal_4 : decode cX11_ideal 4 = .ok (.aload_n 0, 1) := by decide +kernel
theorem dX11_ideal_5 : decode cX11_ideal 5 = .ok (.iconst 3, 1) := by decide +kernel
theorem dX11_ideal_6 : decode cX11_ideal 6 = .ok (.invokevirtual 222, 3) := by decide +kernel
theorem dX11_ideal_9 : decode cX11_ideal 9 = .ok (.sipush 255, 3) := by decide +kernel
theorem dX11_ideal_12 : decode cX11_ideal 12 = .ok (.istore_n 1, 1) := by decide +kernel
theorem dX11_ideal_13 : decode cX11_ideal 13 = .ok (.iconst 0, 1) := by decide +kernel
theorem dX11_ideal_14 : decode cX11_ideal 14 = .ok (.istore_n 2, 1) := by decide +kernel
theorem dX11_ideal_15 : decode cX11_ideal 15 = .ok (.iload_n 2, 1) := by decide +kernel
theorem dX11_ideal_16 : decode cX11_ideal 16 = .ok (.sipush 256, 3) := by decide +kernel
theorem dX11_ideal_19 : decode cX11_ideal 19 = .ok (.if_icmp .ge 26, 3) := by decide +kernel
theorem dX11_ideal_22 : decode cX11_ideal 22 = .ok (.iload_n 1, 1) := by decide +kernel
theorem dX11_ideal_23 : decode cX11_ideal 23 = .ok (.aload_n 0, 1) := by decide +kernel
theorem dX11_ideal_24 : decode cX11_ideal 24 = .ok (.getfield 43, 3) := by decide +kernel
theorem dX11_ideal_27 : decode cX11_ideal 27 = .ok (.iload_n 2, 1) := by decide +kernel
theorem dX11_ideal_28 : decode cX11_ideal 28 = .ok (.baload, 1) := by decide +kernel
theorem dX11_ideal_29 : decode cX11_ideal 29 = .ok (.ifCond .eq 7, 3) := by decide +kernel
theorem dX11_ideal_32 : decode cX11_ideal 32 = .ok (.iload_n 2, 1) := by decide +kernel
theorem dX11_ideal_33 : decode cX11_ideal 33 = .ok (.goto 4, 3) := by decide +kernel
theorem dX11_ideal_36 : decode cX11_ideal 36 = .ok (.iload_n 1, 1) := by decide +kernel
theorem dX11_ideal_37 : decode cX11_ideal 37 = .ok (.iand, 1) := by decide +kernel
theorem dX11_ideal_38 : decode cX11_ideal 38 = .ok (.istore_n 1, 1) := by decide +kernel
theorem dX11_ideal_39 : decode cX11_ideal 39 = .ok (.iinc 2 1, 3) := by decide +kernel
theorem dX11_ideal_42 : decode cX11_ideal 42 = .ok (.goto (-27), 3) := by decide +kernel
theorem dX11_ideal_45 : decode cX11_ideal 45 = .ok (.iconst 0, 1) := by decide +kernel
theorem dX11_ideal_46 : decode cX11_ideal 46 = .ok (.istore_n 2, 1) := by decide +kernel
theorem dX11_ideal_47 : decode cX11_ideal 47 = .ok (.iconst 0, 1) := by decide +kernel
theorem dX11_ideal_48 : decode cX11_ideal 48 = .ok (.istore_n 3, 1) := by decide +kernel
theorem dX11_ideal_49 : decode cX11_ideal 49 = .ok (.iload_n 3, 1) := by decide +kernel
theorem dX11_ideal_50 : decode cX11_ideal 50 = .ok (.sipush 256, 3) := by decide +kernel
theorem dX11_ideal_53 : decode cX11_ideal 53 = .ok (.if_icmp .ge 38, 3) := by decide +kernel
theorem dX11_ideal_56 : decode cX11_ideal 56 = .ok (.iload_n 3, 1) := by decide +kernel
theorem dX11_ideal_57 : decode cX11_ideal 57 = .ok (.iload_n 1, 1) := by decide +kernel
theorem dX11_ideal_58 : decode cX11_ideal 58 = .ok (.iconst (-1), 1) := by decide +kernel
theorem dX11_ideal_59 : decode cX11_ideal 59 = .ok (.ixor, 1) := by decide +kernel
theorem dX11_ideal_60 : decode cX11_ideal 60 = .ok (.iand, 1) := by decide +kernel
theorem dX11_ideal_61 : decode cX11_ideal 61 = .ok (.ifCond .ne 24, 3) := by decide +kernel
theorem dX11_ideal_64 : decode cX11_ideal 64 = .ok (.iload_n 3, 1) := by decide +kernel
theorem dX11_ideal_65 : decode cX11_ideal 65 = .ok (.invokestatic 127, 3) := by decide +kernel
theorem dX11_ideal_68 : decode cX11_ideal 68 = .ok (.iload_n 2, 1) := by decide +kernel
theorem dX11_ideal_69 : decode cX11_ideal 69 = .ok (.invokestatic 127, 3) := by decide +kernel
theorem dX11_ideal_72 : decode cX11_ideal 72 = .ok (.if_icmp .le 13, 3) := by decide +kernel
theorem dX11_ideal_75 : decode cX11_ideal 75 = .ok (.aload_n 0, 1) := by decide +kernel
theorem dX11_ideal_76 : decode cX11_ideal 76 = .ok (.iload_n 3, 1) := by decide +kernel
theorem dX11_ideal_77 : decode cX11_ideal 77 = .ok (.invokevirtual 106, 3) := by decide +kernel
theorem dX11_ideal_80 : decode cX11_ideal 80 = .ok (.ifCond .eq 5, 3) := by decide +kernel
theorem dX11_ideal_83 : decode cX11_ideal 83 = .ok (.iload_n 3, 1) := by decide +kernel
theorem dX11_ideal_84 : decode cX11_ideal 84 = .ok (.istore_n 2, 1) := by decide +kernel
theorem dX11_ideal_85 : decode cX11_ideal 85 = .ok (.iinc 3 1, 3) := by decide +kernel
theorem dX11_ideal_88 : decode cX11_ideal 88 = .ok (.goto (-39), 3) := by decide +kernel
theorem dX11_ideal_91 : decode cX11_ideal 91 = .ok (.iload_n 2, 1) := by decide +kernel
theorem dX11_ideal_92 : decode cX11_ideal 92 = .ok (.ireturn, 1) := by decide +kernel
set_option maxRecDepth 20000 in
theorem ggX11_depth_X11_has : GoodIn wsX11_depth wsX11_has := goodIn_r _ [6] (by decide +kernel) (by decide +kernel)
set_option maxRecDepth 20000 in
theorem gX11_depth_X11_has : GoodIn wsX11_depth (va_wsS RX11 61 yX11_has wsX11_has) := goodIn_app (goodIn_of _ (by decide +kernel)) ggX11_depth_X11_has
set_option maxRecDepth 20000 in
theorem ggX11_depth_X11_answered : GoodIn wsX11_depth wsX11_answered := goodIn_r _ [13, 1, 2, 3, 4, 5, 6, 14, 15, 16, 0, 7, 8, 9, 10, 11, 12, 17, 18, 19, 20, 21, 22, 23, 24, 25, 26, 27, 28, 29, 30, 31, 32, 33, 34, 35, 36, 37, 38, 39, 40, 41, 42] (by decide +kernel) (by decide +kernel)
set_option maxRecDepth 20000 in
theorem gX11_depth_X11_answered : GoodIn wsX11_depth (wsV RX11 231 RX11 yX11_answered wsX11_answered) := goodIn_app (goodIn_of _ (by decide +kernel)) ggX11_depth_X11_answered
set_option maxRecDepth 20000 in
theorem ggX11_depth_X11_depth : GoodIn wsX11_depth wsX11_depth := goodIn_r _ [0, 1, 2, 3, 4, 5, 6, 7, 8, 9, 10, 11, 12, 13, 14, 15, 16, 17, 18, 19, 20, 21, 22, 23, 24, 25, 26, 27, 28, 29, 30, 31, 32, 33, 34, 35, 36, 37, 38, 39, 40, 41, 42] (by decide +kernel) (by decide +kernel)
set_option maxRecDepth 20000 in
theorem gX11_depth_X11_depth : GoodIn wsX11_depth (wsV RX11 235 RX11 yX11_depth wsX11_depth) := goodIn_app (goodIn_of _ (by decide +kernel)) ggX11_depth_X11_depth
theorem dX11_depth_0 : decode cX11_depth 0 = .ok (.iconst 0, 1) := by decide +kernel
theorem dX11_depth_1 : decode cX11_depth 1 = .ok (.istore_n 3, 1) := by decide +kernel
theorem dX11_depth_2 : decode cX11_depth 2 = .ok (.iconst 0, 1) := by decide +kernel
theorem dX11_depth_3 : decode cX11_depth 3 = .ok (.istore 4, 2) := by decide +kernel
theorem dX11_depth_5 : decode cX11_depth 5 = .ok (.iload 4, 2) := by decide +kernel
theorem dX11_depth_7 : decode cX11_depth 7 = .ok (.aload_n 0, 1) := by decide +kernel
theorem dX11_depth_8 : decode cX11_depth 8 = .ok (.getfield 9, 3) := by decide +kernel
theorem dX11_depth_11 : decode cX11_depth 11 = .ok (.bipush 42, 2) := by decide +kernel
theorem dX11_depth_13 : decode cX11_depth 13 = .ok (.iaload, 1) := by decide +kernel
theorem dX11_depth_14 : decode cX11_depth 14 = .ok (.if_icmp .ge 71, 3) := by decide +kernel
theorem dX11_depth_17 : decode cX11_depth 17 = .ok (.aload_n 0, 1) := by decide +kernel
theorem dX11_depth_18 : decode cX11_depth 18 = .ok (.getfield 37, 3) := by decide +kernel
theorem dX11_depth_21 : decode cX11_depth 21 = .ok (.iload_n 2, 1) := by decide +kernel
theorem dX11_depth_22 : decode cX11_depth 22 = .ok (.iaload, 1) := by decide +kernel
theorem dX11_depth_23 : decode cX11_depth 23 = .ok (.iload 4, 2) := by decide +kernel
theorem dX11_depth_25 : decode cX11_depth 25 = .ok (.invokestatic 61, 3) := by decide +kernel
theorem dX11_depth_28 : decode cX11_depth 28 = .ok (.ifCond .eq 51, 3) := by decide +kernel
theorem dX11_depth_31 : decode cX11_depth 31 = .ok (.aload_n 0, 1) := by decide +kernel
theorem dX11_depth_32 : decode cX11_depth 32 = .ok (.iload_n 1, 1) := by decide +kernel
theorem dX11_depth_33 : decode cX11_depth 33 = .ok (.iload 4, 2) := by decide +kernel
theorem dX11_depth_35 : decode cX11_depth 35 = .ok (.invokevirtual 231, 3) := by decide +kernel
theorem dX11_depth_38 : decode cX11_depth 38 = .ok (.istore 5, 2) := by decide +kernel
theorem dX11_depth_40 : decode cX11_depth 40 = .ok (.iload 5, 2) := by decide +kernel
theorem dX11_depth_42 : decode cX11_depth 42 = .ok (.ifCond .ge 6, 3) := by decide +kernel
theorem dX11_depth_45 : decode cX11_depth 45 = .ok (.bipush (-9), 2) := by decide +kernel
theorem dX11_depth_47 : decode cX11_depth 47 = .ok (.ireturn, 1) := by decide +kernel
theorem dX11_depth_48 : decode cX11_depth 48 = .ok (.aload_n 0, 1) := by decide +kernel
theorem dX11_depth_49 : decode cX11_depth 49 = .ok (.iload_n 1, 1) := by decide +kernel
theorem dX11_depth_50 : decode cX11_depth 50 = .ok (.iconst 1, 1) := by decide +kernel
theorem dX11_depth_51 : decode cX11_depth 51 = .ok (.iload 5, 2) := by decide +kernel
theorem dX11_depth_53 : decode cX11_depth 53 = .ok (.ishl, 1) := by decide +kernel
theorem dX11_depth_54 : decode cX11_depth 54 = .ok (.ior, 1) := by decide +kernel
theorem dX11_depth_55 : decode cX11_depth 55 = .ok (.iload 5, 2) := by decide +kernel
theorem dX11_depth_57 : decode cX11_depth 57 = .ok (.invokevirtual 235, 3) := by decide +kernel
theorem dX11_depth_60 : decode cX11_depth 60 = .ok (.istore 6, 2) := by decide +kernel
theorem dX11_depth_62 : decode cX11_depth 62 = .ok (.iload 6, 2) := by decide +kernel
theorem dX11_depth_64 : decode cX11_depth 64 = .ok (.iconst 1, 1) := by decide +kernel
theorem dX11_depth_65 : decode cX11_depth 65 = .ok (.iadd, 1) := by decide +kernel
theorem dX11_depth_66 : decode cX11_depth 66 = .ok (.iload_n 3, 1) := by decide +kernel
theorem dX11_depth_67 : decode cX11_depth 67 = .ok (.if_icmp .le 10, 3) := by decide +kernel
theorem dX11_depth_70 : decode cX11_depth 70 = .ok (.iload 6, 2) := by decide +kernel
theorem dX11_depth_72 : decode cX11_depth 72 = .ok (.iconst 1, 1) := by decide +kernel
theorem dX11_depth_73 : decode cX11_depth 73 = .ok (.iadd, 1) := by decide +kernel
theorem dX11_depth_74 : decode cX11_depth 74 = .ok (.goto 4, 3) := by decide +kernel
theorem dX11_depth_77 : decode cX11_depth 77 = .ok (.iload_n 3, 1) := by decide +kernel
theorem dX11_depth_78 : decode cX11_depth 78 = .ok (.istore_n 3, 1) := by decide +kernel
theorem dX11_depth_79 : decode cX11_depth 79 = .ok (.iinc 4 1, 3) := by decide +kernel
theorem dX11_depth_82 : decode cX11_depth 82 = .ok (.goto (-77), 3) := by decide +kernel
theorem dX11_depth_85 : decode cX11_depth 85 = .ok (.iconst 1, 1) := by decide +kernel
theorem dX11_depth_86 : decode cX11_depth 86 = .ok (.iload_n 3, 1) := by decide +kernel
theorem dX11_depth_87 : decode cX11_depth 87 = .ok (.iadd, 1) := by decide +kernel
theorem dX11_depth_88 : decode cX11_depth 88 = .ok (.ireturn, 1) := by decide +kernel
set_option maxRecDepth 20000 in
theorem ggX11_answered_X11_has : GoodIn wsX11_answered wsX11_has := goodIn_r _ [6] (by decide +kernel) (by decide +kernel)
set_option maxRecDepth 20000 in
theorem gX11_answered_X11_has : GoodIn wsX11_answered (va_wsS RX11 61 yX11_has wsX11_has) := goodIn_app (goodIn_of _ (by decide +kernel)) ggX11_answered_X11_has
set_option maxRecDepth 20000 in
theorem ggX11_answered_X11_depthAt : GoodIn wsX11_answered wsX11_depthAt := goodIn_r _ [17, 18, 14, 15, 16, 5, 0, 1, 2, 3, 4, 6, 7, 8, 9, 10, 11, 12, 13, 19, 20, 21, 22, 23, 24, 25, 26, 27, 28, 29, 30, 31, 32, 33, 34, 35, 36, 37, 38, 39, 40, 41, 42] (by decide +kernel) (by decide +kernel)
set_option maxRecDepth 20000 in
theorem gX11_answered_X11_depthAt : GoodIn wsX11_answered (wsV RX11 238 RX11 yX11_depthAt wsX11_depthAt) := goodIn_app (goodIn_of _ (by decide +kernel)) ggX11_answered_X11_depthAt
theorem dX11_answered_0 : decode cX11_answered 0 = .ok (.iconst (-1), 1) := by decide +kernel
theorem dX11_answered_1 : decode cX11_answered 1 = .ok (.istore_n 3, 1) := by decide +kernel
theorem dX11_answered_2 : decode cX11_answered 2 = .ok (.iconst 0, 1) := by decide +kernel
theorem dX11_answered_3 : decode cX11_answered 3 = .ok (.istore 4, 2) := by decide +kernel
theorem dX11_answered_5 : decode cX11_answered 5 = .ok (.iconst 0, 1) := by decide +kernel
theorem dX11_answered_6 : decode cX11_answered 6 = .ok (.istore 5, 2) := by decide +kernel
theorem dX11_answered_8 : decode cX11_answered 8 = .ok (.iload 5, 2) := by decide +kernel
theorem dX11_answered_10 : decode cX11_answered 10 = .ok (.aload_n 0, 1) := by decide +kernel
theorem dX11_answered_11 : decode cX11_answered 11 = .ok (.getfield 9, 3) := by decide +kernel
theorem dX11_answered_14 : decode cX11_answered 14 = .ok (.bipush 42, 2) := by decide +kernel
theorem dX11_answered_16 : decode cX11_answered 16 = .ok (.iaload, 1) := by decide +kernel
theorem dX11_answered_17 : decode cX11_answered 17 = .ok (.if_icmp .ge 64, 3) := by decide +kernel
theorem dX11_answered_20 : decode cX11_answered 20 = .ok (.aload_n 0, 1) := by decide +kernel
theorem dX11_answered_21 : decode cX11_answered 21 = .ok (.getfield 37, 3) := by decide +kernel
theorem dX11_answered_24 : decode cX11_answered 24 = .ok (.iload_n 2, 1) := by decide +kernel
theorem dX11_answered_25 : decode cX11_answered 25 = .ok (.iaload, 1) := by decide +kernel
theorem dX11_answered_26 : decode cX11_answered 26 = .ok (.iload_n 1, 1) := by decide +kernel
theorem dX11_answered_27 : decode cX11_answered 27 = .ok (.iconst (-1), 1) := by decide +kernel
theorem dX11_answered_28 : decode cX11_answered 28 = .ok (.ixor, 1) := by decide +kernel
theorem dX11_answered_29 : decode cX11_answered 29 = .ok (.iand, 1) := by decide +kernel
theorem dX11_answered_30 : decode cX11_answered 30 = .ok (.iload 5, 2) := by decide +kernel
theorem dX11_answered_32 : decode cX11_answered 32 = .ok (.invokestatic 61, 3) := by decide +kernel
theorem dX11_answered_35 : decode cX11_answered 35 = .ok (.ifCond .eq 40, 3) := by decide +kernel
theorem dX11_answered_38 : decode cX11_answered 38 = .ok (.aload_n 0, 1) := by decide +kernel
theorem dX11_answered_39 : decode cX11_answered 39 = .ok (.iload_n 1, 1) := by decide +kernel
theorem dX11_answered_40 : decode cX11_answered 40 = .ok (.iconst 1, 1) := by decide +kernel
theorem dX11_answered_41 : decode cX11_answered 41 = .ok (.iload 5, 2) := by decide +kernel
theorem dX11_answered_43 : decode cX11_answered 43 = .ok (.ishl, 1) := by decide +kernel
theorem dX11_answered_44 : decode cX11_answered 44 = .ok (.ior, 1) := by decide +kernel
theorem dX11_answered_45 : decode cX11_answered 45 = .ok (.iload 5, 2) := by decide +kernel
theorem dX11_answered_47 : decode cX11_answered 47 = .ok (.invokevirtual 238, 3) := by decide +kernel
theorem dX11_answered_50 : decode cX11_answered 50 = .ok (.istore 6, 2) := by decide +kernel
theorem dX11_answered_52 : decode cX11_answered 52 = .ok (.iload 6, 2) := by decide +kernel
theorem dX11_answered_54 : decode cX11_answered 54 = .ok (.ifCond .lt 21, 3) := by decide +kernel
theorem dX11_answered_57 : decode cX11_answered 57 = .ok (.iload_n 3, 1) := by decide +kernel
theorem dX11_answered_58 : decode cX11_answered 58 = .ok (.ifCond .lt 10, 3) := by decide +kernel
theorem dX11_answered_61 : decode cX11_answered 61 = .ok (.iload 6, 2) := by decide +kernel
theorem dX11_answered_63 : decode cX11_answered 63 = .ok (.iload 4, 2) := by decide +kernel
theorem dX11_answered_65 : decode cX11_answered 65 = .ok (.if_icmp .ge 10, 3) := by decide +kernel
theorem dX11_answered_68 : decode cX11_answered 68 = .ok (.iload 5, 2) := by decide +kernel
theorem dX11_answered_70 : decode cX11_answered 70 = .ok (.istore_n 3, 1) := by decide +kernel
theorem dX11_answered_71 : decode cX11_answered 71 = .ok (.iload 6, 2) := by decide +kernel
theorem dX11_answered_73 : decode cX11_answered 73 = .ok (.istore 4, 2) := by decide +kernel
theorem dX11_answered_75 : decode cX11_answered 75 = .ok (.iinc 5 1, 3) := by decide +kernel
theorem dX11_answered_78 : decode cX11_answered 78 = .ok (.goto (-70), 3) := by decide +kernel
theorem dX11_answered_81 : decode cX11_answered 81 = .ok (.iload_n 3, 1) := by decide +kernel
theorem dX11_answered_82 : decode cX11_answered 82 = .ok (.ireturn, 1) := by decide +kernel
set_option maxRecDepth 20000 in
theorem ggX11_depthAt_X11_depth : GoodIn wsX11_depthAt wsX11_depth := goodIn_r _ [15, 7, 8, 9, 10, 5, 11, 16, 17, 18, 2, 3, 4, 6, 12, 13, 14, 0, 1, 19, 20, 21, 22, 23, 24, 25, 26, 27, 28, 29, 30, 31, 32, 33, 34, 35, 36, 37, 38, 39, 40, 41, 42] (by decide +kernel) (by decide +kernel)
set_option maxRecDepth 20000 in
theorem gX11_depthAt_X11_depth : GoodIn wsX11_depthAt (wsV RX11 235 RX11 yX11_depth wsX11_depth) := goodIn_app (goodIn_of _ (by decide +kernel)) ggX11_depthAt_X11_depth
theorem dX11_depthAt_0 : decode cX11_depthAt 0 = .ok (.bipush 8, 2) := by decide +kernel
theorem dX11_depthAt_2 : decode cX11_depthAt 2 = .ok (.iload_n 1, 1) := by decide +kernel
theorem dX11_depthAt_3 : decode cX11_depthAt 3 = .ok (.imul, 1) := by decide +kernel
theorem dX11_depthAt_4 : decode cX11_depthAt 4 = .ok (.iload_n 2, 1) := by decide +kernel
theorem dX11_depthAt_5 : decode cX11_depthAt 5 = .ok (.iadd, 1) := by decide +kernel
theorem dX11_depthAt_6 : decode cX11_depthAt 6 = .ok (.istore_n 3, 1) := by decide +kernel
theorem dX11_depthAt_7 : decode cX11_depthAt 7 = .ok (.aload_n 0, 1) := by decide +kernel
theorem dX11_depthAt_8 : decode cX11_depthAt 8 = .ok (.getfield 50, 3) := by decide +kernel
theorem dX11_depthAt_11 : decode cX11_depthAt 11 = .ok (.iload_n 3, 1) := by decide +kernel
theorem dX11_depthAt_12 : decode cX11_depthAt 12 = .ok (.iaload, 1) := by decide +kernel
theorem dX11_depthAt_13 : decode cX11_depthAt 13 = .ok (.iconst (-1), 1) := by decide +kernel
theorem dX11_depthAt_14 : decode cX11_depthAt 14 = .ok (.if_icmp .ne 15, 3) := by decide +kernel
theorem dX11_depthAt_17 : decode cX11_depthAt 17 = .ok (.aload_n 0, 1) := by decide +kernel
theorem dX11_depthAt_18 : decode cX11_depthAt 18 = .ok (.getfield 50, 3) := by decide +kernel
theorem dX11_depthAt_21 : decode cX11_depthAt 21 = .ok (.iload_n 3, 1) := by decide +kernel
theorem dX11_depthAt_22 : decode cX11_depthAt 22 = .ok (.aload_n 0, 1) := by decide +kernel
theorem dX11_depthAt_23 : decode cX11_depthAt 23 = .ok (.iload_n 1, 1) := by decide +kernel
theorem dX11_depthAt_24 : decode cX11_depthAt 24 = .ok (.iload_n 2, 1) := by decide +kernel
theorem dX11_depthAt_25 : decode cX11_depthAt 25 = .ok (.invokevirtual 235, 3) := by decide +kernel
theorem dX11_depthAt_28 : decode cX11_depthAt 28 = .ok (.iastore, 1) := by decide +kernel
theorem dX11_depthAt_29 : decode cX11_depthAt 29 = .ok (.aload_n 0, 1) := by decide +kernel
theorem dX11_depthAt_30 : decode cX11_depthAt 30 = .ok (.getfield 50, 3) := by decide +kernel
theorem dX11_depthAt_33 : decode cX11_depthAt 33 = .ok (.iload_n 3, 1) := by decide +kernel
theorem dX11_depthAt_34 : decode cX11_depthAt 34 = .ok (.iaload, 1) := by decide +kernel
theorem dX11_depthAt_35 : decode cX11_depthAt 35 = .ok (.ireturn, 1) := by decide +kernel
set_option maxRecDepth 20000 in
theorem ggX11_waysAt_X11_has : GoodIn wsX11_waysAt wsX11_has := goodIn_r _ [8] (by decide +kernel) (by decide +kernel)
set_option maxRecDepth 20000 in
theorem gX11_waysAt_X11_has : GoodIn wsX11_waysAt (va_wsS RX11 61 yX11_has wsX11_has) := goodIn_app (goodIn_of _ (by decide +kernel)) ggX11_waysAt_X11_has
set_option maxRecDepth 20000 in
theorem ggX11_waysAt_X11_waysAt : GoodIn wsX11_waysAt wsX11_waysAt := goodIn_r _ [0, 1, 2, 3, 4, 5, 6, 7, 8, 9, 10, 11, 12, 13, 14, 15, 16, 17, 18, 19, 20, 21, 22, 23, 24, 25, 26, 27, 28, 29, 30, 31, 32, 33, 34, 35] (by decide +kernel) (by decide +kernel)
set_option maxRecDepth 20000 in
theorem gX11_waysAt_X11_waysAt : GoodIn wsX11_waysAt (wsV RX11 241 RX11 yX11_waysAt wsX11_waysAt) := goodIn_app (goodIn_of _ (by decide +kernel)) ggX11_waysAt_X11_waysAt
theorem dX11_waysAt_0 : decode cX11_waysAt 0 = .ok (.bipush 8, 2) := by decide +kernel
theorem dX11_waysAt_2 : decode cX11_waysAt 2 = .ok (.iload_n 1, 1) := by decide +kernel
theorem dX11_waysAt_3 : decode cX11_waysAt 3 = .ok (.imul, 1) := by decide +kernel
theorem dX11_waysAt_4 : decode cX11_waysAt 4 = .ok (.iload_n 2, 1) := by decide +kernel
theorem dX11_waysAt_5 : decode cX11_waysAt 5 = .ok (.iadd, 1) := by decide +kernel
theorem dX11_waysAt_6 : decode cX11_waysAt 6 = .ok (.istore_n 3, 1) := by decide +kernel
theorem dX11_waysAt_7 : decode cX11_waysAt 7 = .ok (.aload_n 0, 1) := by decide +kernel
theorem dX11_waysAt_8 : decode cX11_waysAt 8 = .ok (.getfield 53, 3) := by decide +kernel
theorem dX11_waysAt_11 : decode cX11_waysAt 11 = .ok (.iload_n 3, 1) := by decide +kernel
theorem dX11_waysAt_12 : decode cX11_waysAt 12 = .ok (.laload, 1) := by decide +kernel
theorem dX11_waysAt_13 : decode cX11_waysAt 13 = .ok (.lconst 0, 1) := by decide +kernel
theorem dX11_waysAt_14 : decode cX11_waysAt 14 = .ok (.lcmp, 1) := by decide +kernel
theorem dX11_waysAt_15 : decode cX11_waysAt 15 = .ok (.ifCond .lt 10, 3) := by decide +kernel
theorem dX11_waysAt_18 : decode cX11_waysAt 18 = .ok (.aload_n 0, 1) := by decide +kernel
theorem dX11_waysAt_19 : decode cX11_waysAt 19 = .ok (.getfield 53, 3) := by decide +kernel
theorem dX11_waysAt_22 : decode cX11_waysAt 22 = .ok (.iload_n 3, 1) := by decide +kernel
theorem dX11_waysAt_23 : decode cX11_waysAt 23 = .ok (.laload, 1) := by decide +kernel
theorem dX11_waysAt_24 : decode cX11_waysAt 24 = .ok (.lreturn, 1) := by decide +kernel
theorem dX11_waysAt_25 : decode cX11_waysAt 25 = .ok (.lconst 1, 1) := by decide +kernel
theorem dX11_waysAt_26 : decode cX11_waysAt 26 = .ok (.lstore 4, 2) := by decide +kernel
theorem dX11_waysAt_28 : decode cX11_waysAt 28 = .ok (.iconst 0, 1) := by decide +kernel
theorem dX11_waysAt_29 : decode cX11_waysAt 29 = .ok (.istore 6, 2) := by decide +kernel
theorem dX11_waysAt_31 : decode cX11_waysAt 31 = .ok (.iload 6, 2) := by decide +kernel
theorem dX11_waysAt_33 : decode cX11_waysAt 33 = .ok (.aload_n 0, 1) := by decide +kernel
theorem dX11_waysAt_34 : decode cX11_waysAt 34 = .ok (.getfield 9, 3) := by decide +kernel
theorem dX11_waysAt_37 : decode cX11_waysAt 37 = .ok (.bipush 42, 2) := by decide +kernel
theorem dX11_waysAt_39 : decode cX11_waysAt 39 = .ok (.iaload, 1) := by decide +kernel
theorem dX11_waysAt_40 : decode cX11_waysAt 40 = .ok (.if_icmp .ge 102, 3) := by decide +kernel
theorem dX11_waysAt_43 : decode cX11_waysAt 43 = .ok (.aload_n 0, 1) := by decide +kernel
theorem dX11_waysAt_44 : decode cX11_waysAt 44 = .ok (.getfield 37, 3) := by decide +kernel
theorem dX11_waysAt_47 : decode cX11_waysAt 47 = .ok (.iload_n 2, 1) := by decide +kernel
theorem dX11_waysAt_48 : decode cX11_waysAt 48 = .ok (.iaload, 1) := by decide +kernel
theorem dX11_waysAt_49 : decode cX11_waysAt 49 = .ok (.iload 6, 2) := by decide +kernel
theorem dX11_waysAt_51 : decode cX11_waysAt 51 = .ok (.invokestatic 61, 3) := by decide +kernel
theorem dX11_waysAt_54 : decode cX11_waysAt 54 = .ok (.ifCond .eq 82, 3) := by decide +kernel
theorem dX11_waysAt_57 : decode cX11_waysAt 57 = .ok (.lconst 0, 1) := by decide +kernel
theorem dX11_waysAt_58 : decode cX11_waysAt 58 = .ok (.lstore 7, 2) := by decide +kernel
theorem dX11_waysAt_60 : decode cX11_waysAt 60 = .ok (.iconst 0, 1) := by decide +kernel
theorem dX11_waysAt_61 : decode cX11_waysAt 61 = .ok (.istore 9, 2) := by decide +kernel
theorem dX11_waysAt_63 : decode cX11_waysAt 63 = .ok (.iload 9, 2) := by decide +kernel
theorem dX11_waysAt_65 : decode cX11_waysAt 65 = .ok (.aload_n 0, 1) := by decide +kernel
theorem dX11_waysAt_66 : decode cX11_waysAt 66 = .ok (.getfield 9, 3) := by decide +kernel
theorem dX11_waysAt_69 : decode cX11_waysAt 69 = .ok (.bipush 42, 2) := by decide +kernel
theorem dX11_waysAt_71 : decode cX11_waysAt 71 = .ok (.iaload, 1) := by decide +kernel
theorem dX11_waysAt_72 : decode cX11_waysAt 72 = .ok (.if_icmp .ge 49, 3) := by decide +kernel
theorem dX11_waysAt_75 : decode cX11_waysAt 75 = .ok (.lload 7, 2) := by decide +kernel
theorem dX11_waysAt_77 : decode cX11_waysAt 77 = .ok (.aload_n 0, 1) := by decide +kernel
theorem dX11_waysAt_78 : decode cX11_waysAt 78 = .ok (.getfield 37, 3) := by decide +kernel
theorem dX11_waysAt_81 : decode cX11_waysAt 81 = .ok (.iload 6, 2) := by decide +kernel
theorem dX11_waysAt_83 : decode cX11_waysAt 83 = .ok (.iaload, 1) := by decide +kernel
theorem dX11_waysAt_84 : decode cX11_waysAt 84 = .ok (.iload_n 1, 1) := by decide +kernel
theorem dX11_waysAt_85 : decode cX11_waysAt 85 = .ok (.iconst (-1), 1) := by decide +kernel
theorem dX11_waysAt_86 : decode cX11_waysAt 86 = .ok (.ixor, 1) := by decide +kernel
theorem dX11_waysAt_87 : decode cX11_waysAt 87 = .ok (.iand, 1) := by decide +kernel
theorem dX11_waysAt_88 : decode cX11_waysAt 88 = .ok (.iload 9, 2) := by decide +kernel
theorem dX11_waysAt_90 : decode cX11_waysAt 90 = .ok (.invokestatic 61, 3) := by decide +kernel
theorem dX11_waysAt_93 : decode cX11_waysAt 93 = .ok (.ifCond .eq 18, 3) := by decide +kernel
theorem dX11_waysAt_96 : decode cX11_waysAt 96 = .ok (.aload_n 0, 1) := by decide +kernel
theorem dX11_waysAt_97 : decode cX11_waysAt 97 = .ok (.iload_n 1, 1) := by decide +kernel
theorem dX11_waysAt_98 : decode cX11_waysAt 98 = .ok (.iconst 1, 1) := by decide +kernel
theorem dX11_waysAt_99 : decode cX11_waysAt 99 = .ok (.iload 9, 2) := by decide +kernel
theorem dX11_waysAt_101 : decode cX11_waysAt 101 = .ok (.ishl, 1) := by decide +kernel
theorem dX11_waysAt_102 : decode cX11_waysAt 102 = .ok (.ior, 1) := by decide +kernel
theorem dX11_waysAt_103 : decode cX11_waysAt 103 = .ok (.iload 9, 2) := by decide +kernel
theorem dX11_waysAt_105 : decode cX11_waysAt 105 = .ok (.invokevirtual 241, 3) := by decide +kernel
theorem dX11_waysAt_108 : decode cX11_waysAt 108 = .ok (.goto 4, 3) := by decide +kernel
theorem dX11_waysAt_111 : decode cX11_waysAt 111 = .ok (.lconst 0, 1) := by decide +kernel
theorem dX11_waysAt_112 : decode cX11_waysAt 112 = .ok (.ladd, 1) := by decide +kernel
theorem dX11_waysAt_113 : decode cX11_waysAt 113 = .ok (.lstore 7, 2) := by decide +kernel
theorem dX11_waysAt_115 : decode cX11_waysAt 115 = .ok (.iinc 9 1, 3) := by decide +kernel
theorem dX11_waysAt_118 : decode cX11_waysAt 118 = .ok (.goto (-55), 3) := by decide +kernel
theorem dX11_waysAt_121 : decode cX11_waysAt 121 = .ok (.lload 4, 2) := by decide +kernel
theorem dX11_waysAt_123 : decode cX11_waysAt 123 = .ok (.lload 7, 2) := by decide +kernel
theorem dX11_waysAt_125 : decode cX11_waysAt 125 = .ok (.ldc2_w 245, 3) := by decide +kernel
theorem dX11_waysAt_128 : decode cX11_waysAt 128 = .ok (.lrem, 1) := by decide +kernel
theorem dX11_waysAt_129 : decode cX11_waysAt 129 = .ok (.lmul, 1) := by decide +kernel
theorem dX11_waysAt_130 : decode cX11_waysAt 130 = .ok (.ldc2_w 245, 3) := by decide +kernel
theorem dX11_waysAt_133 : decode cX11_waysAt 133 = .ok (.lrem, 1) := by decide +kernel
theorem dX11_waysAt_134 : decode cX11_waysAt 134 = .ok (.lstore 4, 2) := by decide +kernel
theorem dX11_waysAt_136 : decode cX11_waysAt 136 = .ok (.iinc 6 1, 3) := by decide +kernel
theorem dX11_waysAt_139 : decode cX11_waysAt 139 = .ok (.goto (-108), 3) := by decide +kernel
theorem dX11_waysAt_142 : decode cX11_waysAt 142 = .ok (.aload_n 0, 1) := by decide +kernel
theorem dX11_waysAt_143 : decode cX11_waysAt 143 = .ok (.getfield 53, 3) := by decide +kernel
theorem dX11_waysAt_146 : decode cX11_waysAt 146 = .ok (.iload_n 3, 1) := by decide +kernel
