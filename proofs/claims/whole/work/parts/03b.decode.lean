set_option maxRecDepth 20000 in
theorem ggX4_dueBy_X0_contains : GoodIn wsX4_dueBy wsX0_contains := goodIn_r _ [4] (by decide +kernel) (by decide +kernel)
set_option maxRecDepth 20000 in
theorem gX4_dueBy_X0_contains : GoodIn wsX4_dueBy (va_wsS RX4 46 yX0_contains wsX0_contains) := goodIn_app (goodIn_of _ (by decide +kernel)) ggX4_dueBy_X0_contains
set_option maxRecDepth 20000 in
theorem ggX4_dueBy_X6_at : GoodIn wsX4_dueBy wsX6_at := goodIn_r _ [9, 10, 11, 12, 13] (by decide +kernel) (by decide +kernel)
set_option maxRecDepth 20000 in
theorem gX4_dueBy_X6_at : GoodIn wsX4_dueBy (wsV RX4 22 RX6 yX6_at wsX6_at) := goodIn_app (goodIn_of _ (by decide +kernel)) ggX4_dueBy_X6_at
theorem dX4_dueBy_0 : decode cX4_dueBy 0 = .ok (.iconst 1, 1) := by decide +kernel
theorem dX4_dueBy_1 : decode cX4_dueBy 1 = .ok (.istore_n 2, 1) := by decide +kernel
theorem dX4_dueBy_2 : decode cX4_dueBy 2 = .ok (.iconst 0, 1) := by decide +kernel
theorem dX4_dueBy_3 : decode cX4_dueBy 3 = .ok (.istore_n 3, 1) := by decide +kernel
theorem dX4_dueBy_4 : decode cX4_dueBy 4 = .ok (.iload_n 3, 1) := by decide +kernel
theorem dX4_dueBy_5 : decode cX4_dueBy 5 = .ok (.bipush 8, 2) := by decide +kernel
theorem dX4_dueBy_7 : decode cX4_dueBy 7 = .ok (.if_icmp .ge 49, 3) := by decide +kernel
theorem dX4_dueBy_10 : decode cX4_dueBy 10 = .ok (.iload_n 1, 1) := by decide +kernel
theorem dX4_dueBy_11 : decode cX4_dueBy 11 = .ok (.iload_n 3, 1) := by decide +kernel
theorem dX4_dueBy_12 : decode cX4_dueBy 12 = .ok (.invokestatic 46, 3) := by decide +kernel
theorem dX4_dueBy_15 : decode cX4_dueBy 15 = .ok (.ifCond .eq 35, 3) := by decide +kernel
theorem dX4_dueBy_18 : decode cX4_dueBy 18 = .ok (.aload_n 0, 1) := by decide +kernel
theorem dX4_dueBy_19 : decode cX4_dueBy 19 = .ok (.iload_n 3, 1) := by decide +kernel
theorem dX4_dueBy_20 : decode cX4_dueBy 20 = .ok (.bipush 9, 2) := by decide +kernel
theorem dX4_dueBy_22 : decode cX4_dueBy 22 = .ok (.invokevirtual 22, 3) := by decide +kernel
theorem dX4_dueBy_25 : decode cX4_dueBy 25 = .ok (.istore 4, 2) := by decide +kernel
theorem dX4_dueBy_27 : decode cX4_dueBy 27 = .ok (.iload 4, 2) := by decide +kernel
theorem dX4_dueBy_29 : decode cX4_dueBy 29 = .ok (.iconst 1, 1) := by decide +kernel
theorem dX4_dueBy_30 : decode cX4_dueBy 30 = .ok (.if_icmp .ne 5, 3) := by decide +kernel
theorem dX4_dueBy_33 : decode cX4_dueBy 33 = .ok (.iconst 0, 1) := by decide +kernel
theorem dX4_dueBy_34 : decode cX4_dueBy 34 = .ok (.ireturn, 1) := by decide +kernel
theorem dX4_dueBy_35 : decode cX4_dueBy 35 = .ok (.iload_n 2, 1) := by decide +kernel
theorem dX4_dueBy_36 : decode cX4_dueBy 36 = .ok (.ifCond .eq 12, 3) := by decide +kernel
theorem dX4_dueBy_39 : decode cX4_dueBy 39 = .ok (.iload 4, 2) := by decide +kernel
theorem dX4_dueBy_41 : decode cX4_dueBy 41 = .ok (.ifCond .ne 7, 3) := by decide +kernel
theorem dX4_dueBy_44 : decode cX4_dueBy 44 = .ok (.iconst 1, 1) := by decide +kernel
theorem dX4_dueBy_45 : decode cX4_dueBy 45 = .ok (.goto 4, 3) := by decide +kernel
theorem dX4_dueBy_48 : decode cX4_dueBy 48 = .ok (.iconst 0, 1) := by decide +kernel
theorem dX4_dueBy_49 : decode cX4_dueBy 49 = .ok (.istore_n 2, 1) := by decide +kernel
theorem dX4_dueBy_50 : decode cX4_dueBy 50 = .ok (.iinc 3 1, 3) := by decide +kernel
theorem dX4_dueBy_53 : decode cX4_dueBy 53 = .ok (.goto (-49), 3) := by decide +kernel
theorem dX4_dueBy_56 : decode cX4_dueBy 56 = .ok (.iload_n 2, 1) := by decide +kernel
theorem dX4_dueBy_57 : decode cX4_dueBy 57 = .ok (.ifCond .eq 7, 3) := by decide +kernel
theorem dX4_dueBy_60 : decode cX4_dueBy 60 = .ok (.iconst 1, 1) := by decide +kernel
theorem dX4_dueBy_61 : decode cX4_dueBy 61 = .ok (.goto 4, 3) := by decide +kernel
theorem dX4_dueBy_64 : decode cX4_dueBy 64 = .ok (.iconst 2, 1) := by decide +kernel
theorem dX4_dueBy_65 : decode cX4_dueBy 65 = .ok (.ireturn, 1) := by decide +kernel
set_option maxRecDepth 20000 in
theorem ggX5_init_X6_init : GoodIn wsX5_init wsX6_init := goodIn_r _ [14, 15, 2, 3, 16, 17, 18, 19, 20, 21, 22, 34, 35] (by decide +kernel) (by decide +kernel)
set_option maxRecDepth 20000 in
theorem gX5_init_X6_init : GoodIn wsX5_init (wsX6_init) := ggX5_init_X6_init
set_option maxRecDepth 20000 in
theorem ggX5_init_X3_init : GoodIn wsX5_init wsX3_init := goodIn_r _ [24, 25, 2, 3, 26, 27, 28, 29, 30, 31, 32, 33, 38, 39, 40, 41, 42, 43, 44, 45] (by decide +kernel) (by decide +kernel)
set_option maxRecDepth 20000 in
theorem gX5_init_X3_init_n22 : GoodIn wsX5_init (wsX3_init) := ggX5_init_X3_init
theorem dX5_init_0 : decode cX5_init 0 = .ok (.aload_n 0, 1) := by decide +kernel
theorem dX5_init_1 : decode cX5_init 1 = .ok (.invokespecial 3, 3) := by decide +kernel
theorem dX5_init_4 : decode cX5_init 4 = .ok (.aload_n 0, 1) := by decide +kernel
theorem dX5_init_5 : decode cX5_init 5 = .ok (.new 9, 3) := by decide +kernel
theorem dX5_init_8 : decode cX5_init 8 = .ok (.dup, 1) := by decide +kernel
theorem dX5_init_9 : decode cX5_init 9 = .ok (.bipush 96, 2) := by decide +kernel
theorem dX5_init_11 : decode cX5_init 11 = .ok (.invokespecial 11, 3) := by decide +kernel
theorem dX5_init_14 : decode cX5_init 14 = .ok (.putfield 14, 3) := by decide +kernel
theorem dX5_init_17 : decode cX5_init 17 = .ok (.aload_n 0, 1) := by decide +kernel
theorem dX5_init_18 : decode cX5_init 18 = .ok (.new 20, 3) := by decide +kernel
theorem dX5_init_21 : decode cX5_init 21 = .ok (.dup, 1) := by decide +kernel
theorem dX5_init_22 : decode cX5_init 22 = .ok (.invokespecial 22, 3) := by decide +kernel
theorem dX5_init_25 : decode cX5_init 25 = .ok (.putfield 23, 3) := by decide +kernel
theorem dX5_init_28 : decode cX5_init 28 = .ok (.return_, 1) := by decide +kernel
set_option maxRecDepth 20000 in
theorem ggX5_read_X5_badPlace : GoodIn wsX5_read wsX5_badPlace := goodIn_r _ [5, 6, 7, 8, 9, 10, 11, 12, 13, 14, 15, 16, 4, 17, 18, 19, 20, 21, 22, 23, 24, 25, 26, 27, 28, 29, 30, 31, 32, 118, 119, 120, 121] (by decide +kernel) (by decide +kernel)
set_option maxRecDepth 20000 in
theorem gX5_read_X5_badPlace : GoodIn wsX5_read (wsV RX5 27 RX5 yX5_badPlace wsX5_badPlace) := goodIn_app (goodIn_of _ (by decide +kernel)) ggX5_read_X5_badPlace
set_option maxRecDepth 20000 in
theorem ggX5_read_X5_applied : GoodIn wsX5_read wsX5_applied := goodIn_r _ [36, 37, 6, 7, 38, 39, 40, 41, 42, 43, 44, 45, 46, 47, 48, 49, 50, 8, 9, 10, 11, 12, 13, 14, 51, 52, 53, 4, 54, 55, 56, 57, 58, 59, 60, 61, 62, 63, 64, 65, 66, 67, 68, 69, 70, 71, 72, 73, 74, 75, 76, 77, 78, 79, 80, 81, 82, 83, 84, 85, 86, 87, 88, 89, 90, 91, 92, 93, 94, 95, 96, 97, 98, 99, 100, 101, 102, 103, 104, 105, 106, 107, 108, 109, 110, 111, 112, 113, 114, 115, 116, 117, 118, 119, 120, 121, 122, 123, 124, 125, 126, 127, 128, 129] (by decide +kernel) (by decide +kernel)
set_option maxRecDepth 20000 in
theorem gX5_read_X5_applied : GoodIn wsX5_read (wsV RX5 31 RX5 yX5_applied wsX5_applied) := goodIn_app (goodIn_of _ (by decide +kernel)) ggX5_read_X5_applied
theorem dX5_read_0 : decode cX5_read 0 = .ok (.aload_n 0, 1) := by decide +kernel
theorem dX5_read_1 : decode cX5_read 1 = .ok (.invokevirtual 27, 3) := by decide +kernel
theorem dX5_read_4 : decode cX5_read 4 = .ok (.istore_n 2, 1) := by decide +kernel
theorem dX5_read_5 : decode cX5_read 5 = .ok (.iload_n 2, 1) := by decide +kernel
theorem dX5_read_6 : decode cX5_read 6 = .ok (.ifCond .lt 11, 3) := by decide +kernel
theorem dX5_read_9 : decode cX5_read 9 = .ok (.sipush (-1000), 3) := by decide +kernel
theorem dX5_read_12 : decode cX5_read 12 = .ok (.iload_n 2, 1) := by decide +kernel
theorem dX5_read_13 : decode cX5_read 13 = .ok (.isub, 1) := by decide +kernel
theorem dX5_read_14 : decode cX5_read 14 = .ok (.goto 8, 3) := by decide +kernel
theorem dX5_read_17 : decode cX5_read 17 = .ok (.aload_n 0, 1) := by decide +kernel
theorem dX5_read_18 : decode cX5_read 18 = .ok (.aload_n 1, 1) := by decide +kernel
theorem dX5_read_19 : decode cX5_read 19 = .ok (.invokevirtual 31, 3) := by decide +kernel
theorem dX5_read_22 : decode cX5_read 22 = .ok (.ireturn, 1) := by decide +kernel
set_option maxRecDepth 20000 in
theorem ggX5_badPlace_X6_at : GoodIn wsX5_badPlace wsX6_at := goodIn_r _ [7, 8, 9, 31, 32] (by decide +kernel) (by decide +kernel)
set_option maxRecDepth 20000 in
theorem gX5_badPlace_X6_at : GoodIn wsX5_badPlace (wsV RX5 39 RX6 yX6_at wsX6_at) := goodIn_app (goodIn_of _ (by decide +kernel)) ggX5_badPlace_X6_at
set_option maxRecDepth 20000 in
theorem ggX5_badPlace_X5_stepBy : GoodIn wsX5_badPlace wsX5_stepBy := goodIn_r _ [13, 14, 15, 12, 16, 17, 18, 19, 20, 21, 22, 23, 24, 25, 26, 27, 28] (by decide +kernel) (by decide +kernel)
set_option maxRecDepth 20000 in
theorem gX5_badPlace_X5_stepBy : GoodIn wsX5_badPlace (va_wsS RX5 43 yX5_stepBy wsX5_stepBy) := goodIn_app (goodIn_of _ (by decide +kernel)) ggX5_badPlace_X5_stepBy
theorem dX5_badPlace_0 : decode cX5_badPlace 0 = .ok (.iconst 0, 1) := by decide +kernel
theorem dX5_badPlace_1 : decode cX5_badPlace 1 = .ok (.istore_n 1, 1) := by decide +kernel
theorem dX5_badPlace_2 : decode cX5_badPlace 2 = .ok (.iconst 0, 1) := by decide +kernel
theorem dX5_badPlace_3 : decode cX5_badPlace 3 = .ok (.istore_n 2, 1) := by decide +kernel
theorem dX5_badPlace_4 : decode cX5_badPlace 4 = .ok (.iload_n 2, 1) := by decide +kernel
theorem dX5_badPlace_5 : decode cX5_badPlace 5 = .ok (.aload_n 0, 1) := by decide +kernel
theorem dX5_badPlace_6 : decode cX5_badPlace 6 = .ok (.getfield 14, 3) := by decide +kernel
theorem dX5_badPlace_9 : decode cX5_badPlace 9 = .ok (.getfield 35, 3) := by decide +kernel
theorem dX5_badPlace_12 : decode cX5_badPlace 12 = .ok (.if_icmp .ge 31, 3) := by decide +kernel
theorem dX5_badPlace_15 : decode cX5_badPlace 15 = .ok (.iload_n 1, 1) := by decide +kernel
theorem dX5_badPlace_16 : decode cX5_badPlace 16 = .ok (.aload_n 0, 1) := by decide +kernel
theorem dX5_badPlace_17 : decode cX5_badPlace 17 = .ok (.getfield 14, 3) := by decide +kernel
theorem dX5_badPlace_20 : decode cX5_badPlace 20 = .ok (.iload_n 2, 1) := by decide +kernel
theorem dX5_badPlace_21 : decode cX5_badPlace 21 = .ok (.iconst (-1), 1) := by decide +kernel
theorem dX5_badPlace_22 : decode cX5_badPlace 22 = .ok (.invokevirtual 39, 3) := by decide +kernel
theorem dX5_badPlace_25 : decode cX5_badPlace 25 = .ok (.invokestatic 43, 3) := by decide +kernel
theorem dX5_badPlace_28 : decode cX5_badPlace 28 = .ok (.istore_n 1, 1) := by decide +kernel
theorem dX5_badPlace_29 : decode cX5_badPlace 29 = .ok (.iload_n 1, 1) := by decide +kernel
theorem dX5_badPlace_30 : decode cX5_badPlace 30 = .ok (.bipush 8, 2) := by decide +kernel
theorem dX5_badPlace_32 : decode cX5_badPlace 32 = .ok (.if_icmp .ne 5, 3) := by decide +kernel
theorem dX5_badPlace_35 : decode cX5_badPlace 35 = .ok (.iload_n 2, 1) := by decide +kernel
theorem dX5_badPlace_36 : decode cX5_badPlace 36 = .ok (.ireturn, 1) := by decide +kernel
theorem dX5_badPlace_37 : decode cX5_badPlace 37 = .ok (.iinc 2 1, 3) := by decide +kernel
theorem dX5_badPlace_40 : decode cX5_badPlace 40 = .ok (.goto (-36), 3) := by decide +kernel
theorem dX5_badPlace_43 : decode cX5_badPlace 43 = .ok (.iload_n 1, 1) := by decide +kernel
theorem dX5_badPlace_44 : decode cX5_badPlace 44 = .ok (.ifCond .ne 17, 3) := by decide +kernel
theorem dX5_badPlace_47 : decode cX5_badPlace 47 = .ok (.aload_n 0, 1) := by decide +kernel
theorem dX5_badPlace_48 : decode cX5_badPlace 48 = .ok (.getfield 14, 3) := by decide +kernel
theorem dX5_badPlace_51 : decode cX5_badPlace 51 = .ok (.getfield 35, 3) := by decide +kernel
theorem dX5_badPlace_54 : decode cX5_badPlace 54 = .ok (.ifCond .le 7, 3) := by decide +kernel
theorem dX5_badPlace_57 : decode cX5_badPlace 57 = .ok (.iconst (-1), 1) := by decide +kernel
theorem dX5_badPlace_58 : decode cX5_badPlace 58 = .ok (.goto 10, 3) := by decide +kernel
theorem dX5_badPlace_61 : decode cX5_badPlace 61 = .ok (.aload_n 0, 1) := by decide +kernel
theorem dX5_badPlace_62 : decode cX5_badPlace 62 = .ok (.getfield 14, 3) := by decide +kernel
theorem dX5_badPlace_65 : decode cX5_badPlace 65 = .ok (.getfield 35, 3) := by decide +kernel
theorem dX5_badPlace_68 : decode cX5_badPlace 68 = .ok (.ireturn, 1) := by decide +kernel
set_option maxRecDepth 20000 in
theorem ggX5_stepBy_X5_startBy : GoodIn wsX5_stepBy wsX5_startBy := goodIn_r _ [4, 5, 6, 3, 7] (by decide +kernel) (by decide +kernel)
set_option maxRecDepth 20000 in
theorem gX5_stepBy_X5_startBy : GoodIn wsX5_stepBy (va_wsS RX5 46 yX5_startBy wsX5_startBy) := goodIn_app (goodIn_of _ (by decide +kernel)) ggX5_stepBy_X5_startBy
set_option maxRecDepth 20000 in
theorem ggX5_stepBy_X5_isDigit : GoodIn wsX5_stepBy wsX5_isDigit := goodIn_r _ [10] (by decide +kernel) (by decide +kernel)
set_option maxRecDepth 20000 in
theorem gX5_stepBy_X5_isDigit : GoodIn wsX5_stepBy (va_wsS RX5 50 yX5_isDigit wsX5_isDigit) := goodIn_app (goodIn_of _ (by decide +kernel)) ggX5_stepBy_X5_isDigit
set_option maxRecDepth 20000 in
theorem ggX5_stepBy_X5_behindClaim : GoodIn wsX5_stepBy wsX5_behindClaim := goodIn_r _ [13, 14, 15, 3, 16] (by decide +kernel) (by decide +kernel)
set_option maxRecDepth 20000 in
theorem gX5_stepBy_X5_behindClaim : GoodIn wsX5_stepBy (va_wsS RX5 54 yX5_behindClaim wsX5_behindClaim) := goodIn_app (goodIn_of _ (by decide +kernel)) ggX5_stepBy_X5_behindClaim
set_option maxRecDepth 20000 in
theorem ggX5_stepBy_X5_isClaim : GoodIn wsX5_stepBy wsX5_isClaim := goodIn_r _ [7] (by decide +kernel) (by decide +kernel)
set_option maxRecDepth 20000 in
theorem gX5_stepBy_X5_isClaim : GoodIn wsX5_stepBy (va_wsS RX5 57 yX5_isClaim wsX5_isClaim) := goodIn_app (goodIn_of _ (by decide +kernel)) ggX5_stepBy_X5_isClaim
set_option maxRecDepth 20000 in
theorem ggX5_stepBy_X5_isArrow : GoodIn wsX5_stepBy wsX5_isArrow := goodIn_r _ [16] (by decide +kernel) (by decide +kernel)
set_option maxRecDepth 20000 in
theorem gX5_stepBy_X5_isArrow : GoodIn wsX5_stepBy (va_wsS RX5 60 yX5_isArrow wsX5_isArrow) := goodIn_app (goodIn_of _ (by decide +kernel)) ggX5_stepBy_X5_isArrow
theorem dX5_stepBy_0 : decode cX5_stepBy 0 = .ok (.iload_n 0, 1) := by decide +kernel
theorem dX5_stepBy_1 : decode cX5_stepBy 1 = .ok (.tableswitch 150 0 7 #[47, 52, 66, 80, 94, 107, 112, 127], 47) := by decide +kernel
theorem dX5_stepBy_48 : decode cX5_stepBy 48 = .ok (.iload_n 1, 1) := by decide +kernel
theorem dX5_stepBy_49 : decode cX5_stepBy 49 = .ok (.invokestatic 46, 3) := by decide +kernel
theorem dX5_stepBy_52 : decode cX5_stepBy 52 = .ok (.ireturn, 1) := by decide +kernel
theorem dX5_stepBy_53 : decode cX5_stepBy 53 = .ok (.iload_n 1, 1) := by decide +kernel
theorem dX5_stepBy_54 : decode cX5_stepBy 54 = .ok (.invokestatic 50, 3) := by decide +kernel
theorem dX5_stepBy_57 : decode cX5_stepBy 57 = .ok (.ifCond .eq 7, 3) := by decide +kernel
theorem dX5_stepBy_60 : decode cX5_stepBy 60 = .ok (.iconst 2, 1) := by decide +kernel
theorem dX5_stepBy_61 : decode cX5_stepBy 61 = .ok (.goto 5, 3) := by decide +kernel
theorem dX5_stepBy_64 : decode cX5_stepBy 64 = .ok (.bipush 8, 2) := by decide +kernel
theorem dX5_stepBy_66 : decode cX5_stepBy 66 = .ok (.ireturn, 1) := by decide +kernel
theorem dX5_stepBy_67 : decode cX5_stepBy 67 = .ok (.iload_n 1, 1) := by decide +kernel
theorem dX5_stepBy_68 : decode cX5_stepBy 68 = .ok (.invokestatic 50, 3) := by decide +kernel
theorem dX5_stepBy_71 : decode cX5_stepBy 71 = .ok (.ifCond .eq 7, 3) := by decide +kernel
theorem dX5_stepBy_74 : decode cX5_stepBy 74 = .ok (.iconst 3, 1) := by decide +kernel
theorem dX5_stepBy_75 : decode cX5_stepBy 75 = .ok (.goto 5, 3) := by decide +kernel
theorem dX5_stepBy_78 : decode cX5_stepBy 78 = .ok (.bipush 8, 2) := by decide +kernel
theorem dX5_stepBy_80 : decode cX5_stepBy 80 = .ok (.ireturn, 1) := by decide +kernel
theorem dX5_stepBy_81 : decode cX5_stepBy 81 = .ok (.iload_n 1, 1) := by decide +kernel
theorem dX5_stepBy_82 : decode cX5_stepBy 82 = .ok (.invokestatic 50, 3) := by decide +kernel
theorem dX5_stepBy_85 : decode cX5_stepBy 85 = .ok (.ifCond .eq 7, 3) := by decide +kernel
theorem dX5_stepBy_88 : decode cX5_stepBy 88 = .ok (.iconst 4, 1) := by decide +kernel
theorem dX5_stepBy_89 : decode cX5_stepBy 89 = .ok (.goto 5, 3) := by decide +kernel
theorem dX5_stepBy_92 : decode cX5_stepBy 92 = .ok (.bipush 8, 2) := by decide +kernel
theorem dX5_stepBy_94 : decode cX5_stepBy 94 = .ok (.ireturn, 1) := by decide +kernel
theorem dX5_stepBy_95 : decode cX5_stepBy 95 = .ok (.iload_n 1, 1) := by decide +kernel
theorem dX5_stepBy_96 : decode cX5_stepBy 96 = .ok (.bipush 59, 2) := by decide +kernel
theorem dX5_stepBy_98 : decode cX5_stepBy 98 = .ok (.if_icmp .ne 7, 3) := by decide +kernel
theorem dX5_stepBy_101 : decode cX5_stepBy 101 = .ok (.iconst 0, 1) := by decide +kernel
theorem dX5_stepBy_102 : decode cX5_stepBy 102 = .ok (.goto 5, 3) := by decide +kernel
theorem dX5_stepBy_105 : decode cX5_stepBy 105 = .ok (.bipush 8, 2) := by decide +kernel
theorem dX5_stepBy_107 : decode cX5_stepBy 107 = .ok (.ireturn, 1) := by decide +kernel
theorem dX5_stepBy_108 : decode cX5_stepBy 108 = .ok (.iload_n 1, 1) := by decide +kernel
theorem dX5_stepBy_109 : decode cX5_stepBy 109 = .ok (.invokestatic 54, 3) := by decide +kernel
theorem dX5_stepBy_112 : decode cX5_stepBy 112 = .ok (.ireturn, 1) := by decide +kernel
theorem dX5_stepBy_113 : decode cX5_stepBy 113 = .ok (.iload_n 1, 1) := by decide +kernel
theorem dX5_stepBy_114 : decode cX5_stepBy 114 = .ok (.invokestatic 57, 3) := by decide +kernel
theorem dX5_stepBy_117 : decode cX5_stepBy 117 = .ok (.ifCond .eq 8, 3) := by decide +kernel
theorem dX5_stepBy_120 : decode cX5_stepBy 120 = .ok (.bipush 7, 2) := by decide +kernel
theorem dX5_stepBy_122 : decode cX5_stepBy 122 = .ok (.goto 5, 3) := by decide +kernel
theorem dX5_stepBy_125 : decode cX5_stepBy 125 = .ok (.bipush 8, 2) := by decide +kernel
theorem dX5_stepBy_127 : decode cX5_stepBy 127 = .ok (.ireturn, 1) := by decide +kernel
theorem dX5_stepBy_128 : decode cX5_stepBy 128 = .ok (.iload_n 1, 1) := by decide +kernel
theorem dX5_stepBy_129 : decode cX5_stepBy 129 = .ok (.bipush 59, 2) := by decide +kernel
theorem dX5_stepBy_131 : decode cX5_stepBy 131 = .ok (.if_icmp .ne 5, 3) := by decide +kernel
theorem dX5_stepBy_134 : decode cX5_stepBy 134 = .ok (.iconst 0, 1) := by decide +kernel
theorem dX5_stepBy_135 : decode cX5_stepBy 135 = .ok (.ireturn, 1) := by decide +kernel
theorem dX5_stepBy_136 : decode cX5_stepBy 136 = .ok (.iload_n 1, 1) := by decide +kernel
theorem dX5_stepBy_137 : decode cX5_stepBy 137 = .ok (.invokestatic 60, 3) := by decide +kernel
theorem dX5_stepBy_140 : decode cX5_stepBy 140 = .ok (.ifCond .eq 8, 3) := by decide +kernel
theorem dX5_stepBy_143 : decode cX5_stepBy 143 = .ok (.bipush 6, 2) := by decide +kernel
theorem dX5_stepBy_145 : decode cX5_stepBy 145 = .ok (.goto 5, 3) := by decide +kernel
theorem dX5_stepBy_148 : decode cX5_stepBy 148 = .ok (.bipush 8, 2) := by decide +kernel
theorem dX5_stepBy_150 : decode cX5_stepBy 150 = .ok (.ireturn, 1) := by decide +kernel
theorem dX5_stepBy_151 : decode cX5_stepBy 151 = .ok (.bipush 8, 2) := by decide +kernel
theorem dX5_stepBy_153 : decode cX5_stepBy 153 = .ok (.ireturn, 1) := by decide +kernel
set_option maxRecDepth 20000 in
theorem ggX5_startBy_X5_isClaim : GoodIn wsX5_startBy wsX5_isClaim := goodIn_r _ [4] (by decide +kernel) (by decide +kernel)
set_option maxRecDepth 20000 in
theorem gX5_startBy_X5_isClaim : GoodIn wsX5_startBy (va_wsS RX5 57 yX5_isClaim wsX5_isClaim) := goodIn_app (goodIn_of _ (by decide +kernel)) ggX5_startBy_X5_isClaim
theorem dX5_startBy_0 : decode cX5_startBy 0 = .ok (.iload_n 0, 1) := by decide +kernel
theorem dX5_startBy_1 : decode cX5_startBy 1 = .ok (.bipush 42, 2) := by decide +kernel
theorem dX5_startBy_3 : decode cX5_startBy 3 = .ok (.if_icmp .ne 5, 3) := by decide +kernel
theorem dX5_startBy_6 : decode cX5_startBy 6 = .ok (.iconst 1, 1) := by decide +kernel
theorem dX5_startBy_7 : decode cX5_startBy 7 = .ok (.ireturn, 1) := by decide +kernel
theorem dX5_startBy_8 : decode cX5_startBy 8 = .ok (.iload_n 0, 1) := by decide +kernel
theorem dX5_startBy_9 : decode cX5_startBy 9 = .ok (.bipush 109, 2) := by decide +kernel
theorem dX5_startBy_11 : decode cX5_startBy 11 = .ok (.if_icmp .ne 5, 3) := by decide +kernel
theorem dX5_startBy_14 : decode cX5_startBy 14 = .ok (.iconst 3, 1) := by decide +kernel
theorem dX5_startBy_15 : decode cX5_startBy 15 = .ok (.ireturn, 1) := by decide +kernel
theorem dX5_startBy_16 : decode cX5_startBy 16 = .ok (.iload_n 0, 1) := by decide +kernel
theorem dX5_startBy_17 : decode cX5_startBy 17 = .ok (.invokestatic 57, 3) := by decide +kernel
theorem dX5_startBy_20 : decode cX5_startBy 20 = .ok (.ifCond .eq 7, 3) := by decide +kernel
theorem dX5_startBy_23 : decode cX5_startBy 23 = .ok (.iconst 5, 1) := by decide +kernel
theorem dX5_startBy_24 : decode cX5_startBy 24 = .ok (.goto 5, 3) := by decide +kernel
theorem dX5_startBy_27 : decode cX5_startBy 27 = .ok (.bipush 8, 2) := by decide +kernel
theorem dX5_startBy_29 : decode cX5_startBy 29 = .ok (.ireturn, 1) := by decide +kernel
set_option maxRecDepth 20000 in
theorem ggX5_behindClaim_X5_isArrow : GoodIn wsX5_behindClaim wsX5_isArrow := goodIn_r _ [4] (by decide +kernel) (by decide +kernel)
set_option maxRecDepth 20000 in
theorem gX5_behindClaim_X5_isArrow : GoodIn wsX5_behindClaim (va_wsS RX5 60 yX5_isArrow wsX5_isArrow) := goodIn_app (goodIn_of _ (by decide +kernel)) ggX5_behindClaim_X5_isArrow
theorem dX5_behindClaim_0 : decode cX5_behindClaim 0 = .ok (.iload_n 0, 1) := by decide +kernel
theorem dX5_behindClaim_1 : decode cX5_behindClaim 1 = .ok (.bipush 58, 2) := by decide +kernel
theorem dX5_behindClaim_3 : decode cX5_behindClaim 3 = .ok (.if_icmp .ne 5, 3) := by decide +kernel
theorem dX5_behindClaim_6 : decode cX5_behindClaim 6 = .ok (.iconst 2, 1) := by decide +kernel
theorem dX5_behindClaim_7 : decode cX5_behindClaim 7 = .ok (.ireturn, 1) := by decide +kernel
theorem dX5_behindClaim_8 : decode cX5_behindClaim 8 = .ok (.iload_n 0, 1) := by decide +kernel
theorem dX5_behindClaim_9 : decode cX5_behindClaim 9 = .ok (.bipush 33, 2) := by decide +kernel
theorem dX5_behindClaim_11 : decode cX5_behindClaim 11 = .ok (.if_icmp .ne 5, 3) := by decide +kernel
theorem dX5_behindClaim_14 : decode cX5_behindClaim 14 = .ok (.iconst 4, 1) := by decide +kernel
theorem dX5_behindClaim_15 : decode cX5_behindClaim 15 = .ok (.ireturn, 1) := by decide +kernel
theorem dX5_behindClaim_16 : decode cX5_behindClaim 16 = .ok (.iload_n 0, 1) := by decide +kernel
theorem dX5_behindClaim_17 : decode cX5_behindClaim 17 = .ok (.invokestatic 60, 3) := by decide +kernel
theorem dX5_behindClaim_20 : decode cX5_behindClaim 20 = .ok (.ifCond .eq 8, 3) := by decide +kernel
theorem dX5_behindClaim_23 : decode cX5_behindClaim 23 = .ok (.bipush 6, 2) := by decide +kernel
theorem dX5_behindClaim_25 : decode cX5_behindClaim 25 = .ok (.goto 5, 3) := by decide +kernel
theorem dX5_behindClaim_28 : decode cX5_behindClaim 28 = .ok (.bipush 8, 2) := by decide +kernel
theorem dX5_behindClaim_30 : decode cX5_behindClaim 30 = .ok (.ireturn, 1) := by decide +kernel
theorem dX5_isDigit_0 : decode cX5_isDigit 0 = .ok (.iload_n 0, 1) := by decide +kernel
theorem dX5_isDigit_1 : decode cX5_isDigit 1 = .ok (.bipush 48, 2) := by decide +kernel
theorem dX5_isDigit_3 : decode cX5_isDigit 3 = .ok (.if_icmp .lt 13, 3) := by decide +kernel
theorem dX5_isDigit_6 : decode cX5_isDigit 6 = .ok (.iload_n 0, 1) := by decide +kernel
theorem dX5_isDigit_7 : decode cX5_isDigit 7 = .ok (.bipush 57, 2) := by decide +kernel
theorem dX5_isDigit_9 : decode cX5_isDigit 9 = .ok (.if_icmp .gt 7, 3) := by decide +kernel
theorem dX5_isDigit_12 : decode cX5_isDigit 12 = .ok (.iconst 1, 1) := by decide +kernel
theorem dX5_isDigit_13 : decode cX5_isDigit 13 = .ok (.goto 4, 3) := by decide +kernel
theorem dX5_isDigit_16 : decode cX5_isDigit 16 = .ok (.iconst 0, 1) := by decide +kernel
theorem dX5_isDigit_17 : decode cX5_isDigit 17 = .ok (.ireturn, 1) := by decide +kernel
theorem dX5_isClaim_0 : decode cX5_isClaim 0 = .ok (.iload_n 0, 1) := by decide +kernel
theorem dX5_isClaim_1 : decode cX5_isClaim 1 = .ok (.bipush 97, 2) := by decide +kernel
theorem dX5_isClaim_3 : decode cX5_isClaim 3 = .ok (.if_icmp .lt 19, 3) := by decide +kernel
theorem dX5_isClaim_6 : decode cX5_isClaim 6 = .ok (.iload_n 0, 1) := by decide +kernel
theorem dX5_isClaim_7 : decode cX5_isClaim 7 = .ok (.bipush 122, 2) := by decide +kernel
theorem dX5_isClaim_9 : decode cX5_isClaim 9 = .ok (.if_icmp .gt 13, 3) := by decide +kernel
theorem dX5_isClaim_12 : decode cX5_isClaim 12 = .ok (.iload_n 0, 1) := by decide +kernel
theorem dX5_isClaim_13 : decode cX5_isClaim 13 = .ok (.bipush 109, 2) := by decide +kernel
theorem dX5_isClaim_15 : decode cX5_isClaim 15 = .ok (.if_icmp .eq 7, 3) := by decide +kernel
theorem dX5_isClaim_18 : decode cX5_isClaim 18 = .ok (.iconst 1, 1) := by decide +kernel
theorem dX5_isClaim_19 : decode cX5_isClaim 19 = .ok (.goto 4, 3) := by decide +kernel
theorem dX5_isClaim_22 : decode cX5_isClaim 22 = .ok (.iconst 0, 1) := by decide +kernel
theorem dX5_isClaim_23 : decode cX5_isClaim 23 = .ok (.ireturn, 1) := by decide +kernel
theorem dX5_isArrow_0 : decode cX5_isArrow 0 = .ok (.iload_n 0, 1) := by decide +kernel
theorem dX5_isArrow_1 : decode cX5_isArrow 1 = .ok (.bipush 62, 2) := by decide +kernel
theorem dX5_isArrow_3 : decode cX5_isArrow 3 = .ok (.if_icmp .eq 9, 3) := by decide +kernel
theorem dX5_isArrow_6 : decode cX5_isArrow 6 = .ok (.iload_n 0, 1) := by decide +kernel
theorem dX5_isArrow_7 : decode cX5_isArrow 7 = .ok (.bipush 43, 2) := by decide +kernel
theorem dX5_isArrow_9 : decode cX5_isArrow 9 = .ok (.if_icmp .ne 7, 3) := by decide +kernel
theorem dX5_isArrow_12 : decode cX5_isArrow 12 = .ok (.iconst 1, 1) := by decide +kernel
theorem dX5_isArrow_13 : decode cX5_isArrow 13 = .ok (.goto 4, 3) := by decide +kernel
theorem dX5_isArrow_16 : decode cX5_isArrow 16 = .ok (.iconst 0, 1) := by decide +kernel
theorem dX5_isArrow_17 : decode cX5_isArrow 17 = .ok (.ireturn, 1) := by decide +kernel
set_option maxRecDepth 20000 in
theorem ggX5_applied_X3_take : GoodIn wsX5_applied wsX3_take := goodIn_r _ [8, 9, 10, 11, 12, 13, 14, 15, 16, 96, 97, 98, 99, 100, 101, 102, 103] (by decide +kernel) (by decide +kernel)
set_option maxRecDepth 20000 in
theorem gX5_applied_X3_take : GoodIn wsX5_applied (wsV RX5 63 RX3 yX3_take wsX3_take) := goodIn_app (goodIn_of _ (by decide +kernel)) ggX5_applied_X3_take
set_option maxRecDepth 20000 in
theorem ggX5_applied_X6_at : GoodIn wsX5_applied wsX6_at := goodIn_r _ [21, 22, 23, 94, 95] (by decide +kernel) (by decide +kernel)
set_option maxRecDepth 20000 in
theorem gX5_applied_X6_at : GoodIn wsX5_applied (wsV RX5 39 RX6 yX6_at wsX6_at) := goodIn_app (goodIn_of _ (by decide +kernel)) ggX5_applied_X6_at
set_option maxRecDepth 20000 in
theorem ggX5_applied_X5_apply : GoodIn wsX5_applied wsX5_apply := goodIn_r _ [28, 2, 1, 17, 18, 19, 20, 21, 22, 23, 29, 30, 31, 27, 32, 33, 34, 35, 36, 37, 38, 39, 40, 41, 42, 7, 43, 9, 44, 45, 46, 47, 10, 12, 13, 14, 48, 49, 50, 51, 52, 53, 54, 55, 56, 57, 58, 59, 60, 61, 62, 63, 64, 65, 66, 67, 68, 69, 70, 71, 72, 73, 74, 75, 76, 77, 78, 79, 80, 81, 82, 83, 84, 85, 86, 87, 88, 89, 90, 91, 92, 93, 94, 95, 96, 97, 98, 99, 100, 101, 102, 103] (by decide +kernel) (by decide +kernel)
set_option maxRecDepth 20000 in
theorem gX5_applied_X5_apply : GoodIn wsX5_applied (wsV RX5 67 RX5 yX5_apply wsX5_apply) := goodIn_app (goodIn_of _ (by decide +kernel)) ggX5_applied_X5_apply
theorem dX5_applied_0 : decode cX5_applied 0 = .ok (.aload_n 0, 1) := by decide +kernel
theorem dX5_applied_1 : decode cX5_applied 1 = .ok (.getfield 23, 3) := by decide +kernel
theorem dX5_applied_4 : decode cX5_applied 4 = .ok (.aload_n 1, 1) := by decide +kernel
theorem dX5_applied_5 : decode cX5_applied 5 = .ok (.invokevirtual 63, 3) := by decide +kernel
theorem dX5_applied_8 : decode cX5_applied 8 = .ok (.iconst 0, 1) := by decide +kernel
theorem dX5_applied_9 : decode cX5_applied 9 = .ok (.istore_n 2, 1) := by decide +kernel
theorem dX5_applied_10 : decode cX5_applied 10 = .ok (.iconst 0, 1) := by decide +kernel
theorem dX5_applied_11 : decode cX5_applied 11 = .ok (.istore_n 3, 1) := by decide +kernel
theorem dX5_applied_12 : decode cX5_applied 12 = .ok (.iconst 0, 1) := by decide +kernel
theorem dX5_applied_13 : decode cX5_applied 13 = .ok (.istore 4, 2) := by decide +kernel
theorem dX5_applied_15 : decode cX5_applied 15 = .ok (.iload 4, 2) := by decide +kernel
theorem dX5_applied_17 : decode cX5_applied 17 = .ok (.aload_n 0, 1) := by decide +kernel
theorem dX5_applied_18 : decode cX5_applied 18 = .ok (.getfield 14, 3) := by decide +kernel
theorem dX5_applied_21 : decode cX5_applied 21 = .ok (.getfield 35, 3) := by decide +kernel
theorem dX5_applied_24 : decode cX5_applied 24 = .ok (.if_icmp .ge 48, 3) := by decide +kernel
theorem dX5_applied_27 : decode cX5_applied 27 = .ok (.aload_n 0, 1) := by decide +kernel
theorem dX5_applied_28 : decode cX5_applied 28 = .ok (.getfield 14, 3) := by decide +kernel
theorem dX5_applied_31 : decode cX5_applied 31 = .ok (.iload 4, 2) := by decide +kernel
theorem dX5_applied_33 : decode cX5_applied 33 = .ok (.iconst (-1), 1) := by decide +kernel
theorem dX5_applied_34 : decode cX5_applied 34 = .ok (.invokevirtual 39, 3) := by decide +kernel
theorem dX5_applied_37 : decode cX5_applied 37 = .ok (.bipush 59, 2) := by decide +kernel
theorem dX5_applied_39 : decode cX5_applied 39 = .ok (.if_icmp .ne 27, 3) := by decide +kernel
theorem dX5_applied_42 : decode cX5_applied 42 = .ok (.aload_n 0, 1) := by decide +kernel
theorem dX5_applied_43 : decode cX5_applied 43 = .ok (.iload_n 3, 1) := by decide +kernel
theorem dX5_applied_44 : decode cX5_applied 44 = .ok (.iload 4, 2) := by decide +kernel
theorem dX5_applied_46 : decode cX5_applied 46 = .ok (.invokevirtual 67, 3) := by decide +kernel
theorem dX5_applied_49 : decode cX5_applied 49 = .ok (.ifCond .ne 9, 3) := by decide +kernel
theorem dX5_applied_52 : decode cX5_applied 52 = .ok (.sipush (-2000), 3) := by decide +kernel
theorem dX5_applied_55 : decode cX5_applied 55 = .ok (.iload_n 3, 1) := by decide +kernel
theorem dX5_applied_56 : decode cX5_applied 56 = .ok (.isub, 1) := by decide +kernel
theorem dX5_applied_57 : decode cX5_applied 57 = .ok (.ireturn, 1) := by decide +kernel
theorem dX5_applied_58 : decode cX5_applied 58 = .ok (.iinc 2 1, 3) := by decide +kernel
theorem dX5_applied_61 : decode cX5_applied 61 = .ok (.iload 4, 2) := by decide +kernel
theorem dX5_applied_63 : decode cX5_applied 63 = .ok (.iconst 1, 1) := by decide +kernel
theorem dX5_applied_64 : decode cX5_applied 64 = .ok (.iadd, 1) := by decide +kernel
theorem dX5_applied_65 : decode cX5_applied 65 = .ok (.istore_n 3, 1) := by decide +kernel
theorem dX5_applied_66 : decode cX5_applied 66 = .ok (.iinc 4 1, 3) := by decide +kernel
theorem dX5_applied_69 : decode cX5_applied 69 = .ok (.goto (-54), 3) := by decide +kernel
theorem dX5_applied_72 : decode cX5_applied 72 = .ok (.aload_n 1, 1) := by decide +kernel
theorem dX5_applied_73 : decode cX5_applied 73 = .ok (.aload_n 0, 1) := by decide +kernel
theorem dX5_applied_74 : decode cX5_applied 74 = .ok (.getfield 23, 3) := by decide +kernel
theorem dX5_applied_77 : decode cX5_applied 77 = .ok (.invokevirtual 63, 3) := by decide +kernel
theorem dX5_applied_80 : decode cX5_applied 80 = .ok (.iload_n 2, 1) := by decide +kernel
theorem dX5_applied_81 : decode cX5_applied 81 = .ok (.ireturn, 1) := by decide +kernel
set_option maxRecDepth 20000 in
theorem ggX5_apply_X6_at : GoodIn wsX5_apply wsX6_at := goodIn_r _ [7, 8, 9, 82, 83] (by decide +kernel) (by decide +kernel)
set_option maxRecDepth 20000 in
theorem gX5_apply_X6_at : GoodIn wsX5_apply (wsV RX5 39 RX6 yX6_at wsX6_at) := goodIn_app (goodIn_of _ (by decide +kernel)) ggX5_apply_X6_at
set_option maxRecDepth 20000 in
theorem ggX5_apply_X5_applyNew : GoodIn wsX5_apply wsX5_applyNew := goodIn_r _ [14, 2, 15, 16, 17, 13, 18, 1, 3, 4, 5, 6, 7, 8, 9, 19, 20, 21, 22, 23, 24, 25, 26, 27, 28, 29, 30, 31, 32, 33, 34, 35, 36, 37, 38, 39, 40, 41, 80, 81, 82, 83, 84, 85, 86, 87, 88, 89, 90, 91] (by decide +kernel) (by decide +kernel)
set_option maxRecDepth 20000 in
theorem gX5_apply_X5_applyNew : GoodIn wsX5_apply (wsV RX5 71 RX5 yX5_applyNew wsX5_applyNew) := goodIn_app (goodIn_of _ (by decide +kernel)) ggX5_apply_X5_applyNew
set_option maxRecDepth 20000 in
theorem ggX5_apply_X5_digitAt : GoodIn wsX5_apply wsX5_digitAt := goodIn_r _ [18, 1, 3, 4, 5, 6, 7, 8, 9, 80, 81, 82, 83] (by decide +kernel) (by decide +kernel)
set_option maxRecDepth 20000 in
theorem gX5_apply_X5_digitAt : GoodIn wsX5_apply (wsV RX5 74 RX5 yX5_digitAt wsX5_digitAt) := goodIn_app (goodIn_of _ (by decide +kernel)) ggX5_apply_X5_digitAt
set_option maxRecDepth 20000 in
theorem ggX5_apply_X5_applyMode : GoodIn wsX5_apply wsX5_applyMode := goodIn_r _ [45, 2, 46, 80, 81, 84, 85, 86, 87, 88, 89, 90, 91] (by decide +kernel) (by decide +kernel)
set_option maxRecDepth 20000 in
theorem gX5_apply_X5_applyMode : GoodIn wsX5_apply (wsV RX5 77 RX5 yX5_applyMode wsX5_applyMode) := goodIn_app (goodIn_of _ (by decide +kernel)) ggX5_apply_X5_applyMode
set_option maxRecDepth 20000 in
theorem ggX5_apply_X5_claimAt : GoodIn wsX5_apply wsX5_claimAt := goodIn_r _ [50, 1, 3, 4, 5, 6, 7, 8, 9, 80, 81, 82, 83] (by decide +kernel) (by decide +kernel)
set_option maxRecDepth 20000 in
theorem gX5_apply_X5_claimAt : GoodIn wsX5_apply (wsV RX5 80 RX5 yX5_claimAt wsX5_claimAt) := goodIn_app (goodIn_of _ (by decide +kernel)) ggX5_apply_X5_claimAt
set_option maxRecDepth 20000 in
theorem ggX5_apply_X3_knows : GoodIn wsX5_apply wsX3_knows := goodIn_r _ [54, 27, 84, 85, 86, 87, 88, 89, 90, 91] (by decide +kernel) (by decide +kernel)
set_option maxRecDepth 20000 in
theorem gX5_apply_X3_knows : GoodIn wsX5_apply (wsV RX5 83 RX3 yX3_knows wsX3_knows) := goodIn_app (goodIn_of _ (by decide +kernel)) ggX5_apply_X3_knows
set_option maxRecDepth 20000 in
theorem ggX5_apply_X5_applyKind : GoodIn wsX5_apply wsX5_applyKind := goodIn_r _ [58, 2, 19, 20, 21, 59, 60, 61, 25, 62, 33, 34, 36, 37, 38, 39, 40, 41, 80, 81, 84, 85, 86, 87, 88, 89, 90, 91] (by decide +kernel) (by decide +kernel)
set_option maxRecDepth 20000 in
theorem gX5_apply_X5_applyKind : GoodIn wsX5_apply (wsV RX5 86 RX5 yX5_applyKind wsX5_applyKind) := goodIn_app (goodIn_of _ (by decide +kernel)) ggX5_apply_X5_applyKind
set_option maxRecDepth 20000 in
theorem ggX5_apply_X3_flipHeard : GoodIn wsX5_apply wsX3_flipHeard := goodIn_r _ [66, 32, 84, 85, 86, 87, 88, 89, 90, 91] (by decide +kernel) (by decide +kernel)
set_option maxRecDepth 20000 in
theorem gX5_apply_X3_flipHeard : GoodIn wsX5_apply (wsV RX5 90 RX3 yX3_flipHeard wsX3_flipHeard) := goodIn_app (goodIn_of _ (by decide +kernel)) ggX5_apply_X3_flipHeard
set_option maxRecDepth 20000 in
theorem ggX5_apply_X5_applyChain : GoodIn wsX5_apply wsX5_applyChain := goodIn_r _ [70, 1, 47, 48, 49, 13, 50, 3, 4, 5, 6, 7, 8, 9, 71, 72, 73, 74, 2, 75, 76, 51, 52, 53, 25, 54, 27, 77, 78, 38, 79, 80, 81, 82, 83, 84, 85, 86, 87, 88, 89, 90, 91] (by decide +kernel) (by decide +kernel)
set_option maxRecDepth 20000 in
theorem gX5_apply_X5_applyChain : GoodIn wsX5_apply (wsV RX5 93 RX5 yX5_applyChain wsX5_applyChain) := goodIn_app (goodIn_of _ (by decide +kernel)) ggX5_apply_X5_applyChain
theorem dX5_apply_0 : decode cX5_apply 0 = .ok (.aload_n 0, 1) := by decide +kernel
theorem dX5_apply_1 : decode cX5_apply 1 = .ok (.getfield 14, 3) := by decide +kernel
theorem dX5_apply_4 : decode cX5_apply 4 = .ok (.iload_n 1, 1) := by decide +kernel
theorem dX5_apply_5 : decode cX5_apply 5 = .ok (.iconst (-1), 1) := by decide +kernel
theorem dX5_apply_6 : decode cX5_apply 6 = .ok (.invokevirtual 39, 3) := by decide +kernel
theorem dX5_apply_9 : decode cX5_apply 9 = .ok (.istore_n 3, 1) := by decide +kernel
theorem dX5_apply_10 : decode cX5_apply 10 = .ok (.iload_n 3, 1) := by decide +kernel
theorem dX5_apply_11 : decode cX5_apply 11 = .ok (.bipush 42, 2) := by decide +kernel
theorem dX5_apply_13 : decode cX5_apply 13 = .ok (.if_icmp .ne 9, 3) := by decide +kernel
theorem dX5_apply_16 : decode cX5_apply 16 = .ok (.aload_n 0, 1) := by decide +kernel
theorem dX5_apply_17 : decode cX5_apply 17 = .ok (.iload_n 1, 1) := by decide +kernel
theorem dX5_apply_18 : decode cX5_apply 18 = .ok (.invokevirtual 71, 3) := by decide +kernel
theorem dX5_apply_21 : decode cX5_apply 21 = .ok (.ireturn, 1) := by decide +kernel
theorem dX5_apply_22 : decode cX5_apply 22 = .ok (.iload_n 3, 1) := by decide +kernel
theorem dX5_apply_23 : decode cX5_apply 23 = .ok (.bipush 109, 2) := by decide +kernel
theorem dX5_apply_25 : decode cX5_apply 25 = .ok (.if_icmp .ne 15, 3) := by decide +kernel
theorem dX5_apply_28 : decode cX5_apply 28 = .ok (.aload_n 0, 1) := by decide +kernel
theorem dX5_apply_29 : decode cX5_apply 29 = .ok (.aload_n 0, 1) := by decide +kernel
theorem dX5_apply_30 : decode cX5_apply 30 = .ok (.iload_n 1, 1) := by decide +kernel
theorem dX5_apply_31 : decode cX5_apply 31 = .ok (.iconst 1, 1) := by decide +kernel
theorem dX5_apply_32 : decode cX5_apply 32 = .ok (.iadd, 1) := by decide +kernel
theorem dX5_apply_33 : decode cX5_apply 33 = .ok (.invokevirtual 74, 3) := by decide +kernel
theorem dX5_apply_36 : decode cX5_apply 36 = .ok (.invokevirtual 77, 3) := by decide +kernel
theorem dX5_apply_39 : decode cX5_apply 39 = .ok (.ireturn, 1) := by decide +kernel
theorem dX5_apply_40 : decode cX5_apply 40 = .ok (.aload_n 0, 1) := by decide +kernel
theorem dX5_apply_41 : decode cX5_apply 41 = .ok (.iload_n 1, 1) := by decide +kernel
theorem dX5_apply_42 : decode cX5_apply 42 = .ok (.invokevirtual 80, 3) := by decide +kernel
theorem dX5_apply_45 : decode cX5_apply 45 = .ok (.istore 4, 2) := by decide +kernel
theorem dX5_apply_47 : decode cX5_apply 47 = .ok (.aload_n 0, 1) := by decide +kernel
theorem dX5_apply_48 : decode cX5_apply 48 = .ok (.getfield 23, 3) := by decide +kernel
theorem dX5_apply_51 : decode cX5_apply 51 = .ok (.iload 4, 2) := by decide +kernel
theorem dX5_apply_53 : decode cX5_apply 53 = .ok (.invokevirtual 83, 3) := by decide +kernel
theorem dX5_apply_56 : decode cX5_apply 56 = .ok (.ifCond .ne 5, 3) := by decide +kernel
theorem dX5_apply_59 : decode cX5_apply 59 = .ok (.iconst 0, 1) := by decide +kernel
theorem dX5_apply_60 : decode cX5_apply 60 = .ok (.ireturn, 1) := by decide +kernel
theorem dX5_apply_61 : decode cX5_apply 61 = .ok (.aload_n 0, 1) := by decide +kernel
theorem dX5_apply_62 : decode cX5_apply 62 = .ok (.getfield 14, 3) := by decide +kernel
theorem dX5_apply_65 : decode cX5_apply 65 = .ok (.iload_n 1, 1) := by decide +kernel
theorem dX5_apply_66 : decode cX5_apply 66 = .ok (.iconst 1, 1) := by decide +kernel
theorem dX5_apply_67 : decode cX5_apply 67 = .ok (.iadd, 1) := by decide +kernel
theorem dX5_apply_68 : decode cX5_apply 68 = .ok (.iconst (-1), 1) := by decide +kernel
theorem dX5_apply_69 : decode cX5_apply 69 = .ok (.invokevirtual 39, 3) := by decide +kernel
theorem dX5_apply_72 : decode cX5_apply 72 = .ok (.istore 5, 2) := by decide +kernel
theorem dX5_apply_74 : decode cX5_apply 74 = .ok (.iload 5, 2) := by decide +kernel
theorem dX5_apply_76 : decode cX5_apply 76 = .ok (.bipush 58, 2) := by decide +kernel
theorem dX5_apply_78 : decode cX5_apply 78 = .ok (.if_icmp .ne 24, 3) := by decide +kernel
theorem dX5_apply_81 : decode cX5_apply 81 = .ok (.aload_n 0, 1) := by decide +kernel
theorem dX5_apply_82 : decode cX5_apply 82 = .ok (.iload 4, 2) := by decide +kernel
theorem dX5_apply_84 : decode cX5_apply 84 = .ok (.aload_n 0, 1) := by decide +kernel
theorem dX5_apply_85 : decode cX5_apply 85 = .ok (.iload_n 1, 1) := by decide +kernel
theorem dX5_apply_86 : decode cX5_apply 86 = .ok (.iconst 2, 1) := by decide +kernel
theorem dX5_apply_87 : decode cX5_apply 87 = .ok (.iadd, 1) := by decide +kernel
theorem dX5_apply_88 : decode cX5_apply 88 = .ok (.invokevirtual 74, 3) := by decide +kernel
theorem dX5_apply_91 : decode cX5_apply 91 = .ok (.aload_n 0, 1) := by decide +kernel
theorem dX5_apply_92 : decode cX5_apply 92 = .ok (.iload_n 1, 1) := by decide +kernel
theorem dX5_apply_93 : decode cX5_apply 93 = .ok (.iconst 3, 1) := by decide +kernel
theorem dX5_apply_94 : decode cX5_apply 94 = .ok (.iadd, 1) := by decide +kernel
theorem dX5_apply_95 : decode cX5_apply 95 = .ok (.invokevirtual 74, 3) := by decide +kernel
theorem dX5_apply_98 : decode cX5_apply 98 = .ok (.invokevirtual 86, 3) := by decide +kernel
theorem dX5_apply_101 : decode cX5_apply 101 = .ok (.ireturn, 1) := by decide +kernel
theorem dX5_apply_102 : decode cX5_apply 102 = .ok (.iload 5, 2) := by decide +kernel
theorem dX5_apply_104 : decode cX5_apply 104 = .ok (.bipush 33, 2) := by decide +kernel
theorem dX5_apply_106 : decode cX5_apply 106 = .ok (.if_icmp .ne 14, 3) := by decide +kernel
theorem dX5_apply_109 : decode cX5_apply 109 = .ok (.aload_n 0, 1) := by decide +kernel
theorem dX5_apply_110 : decode cX5_apply 110 = .ok (.getfield 23, 3) := by decide +kernel
theorem dX5_apply_113 : decode cX5_apply 113 = .ok (.iload 4, 2) := by decide +kernel
theorem dX5_apply_115 : decode cX5_apply 115 = .ok (.invokevirtual 90, 3) := by decide +kernel
theorem dX5_apply_118 : decode cX5_apply 118 = .ok (.iconst 1, 1) := by decide +kernel
theorem dX5_apply_119 : decode cX5_apply 119 = .ok (.ireturn, 1) := by decide +kernel
theorem dX5_apply_120 : decode cX5_apply 120 = .ok (.aload_n 0, 1) := by decide +kernel
theorem dX5_apply_121 : decode cX5_apply 121 = .ok (.iload_n 1, 1) := by decide +kernel
theorem dX5_apply_122 : decode cX5_apply 122 = .ok (.iload_n 2, 1) := by decide +kernel
theorem dX5_apply_123 : decode cX5_apply 123 = .ok (.invokevirtual 93, 3) := by decide +kernel
theorem dX5_apply_126 : decode cX5_apply 126 = .ok (.ireturn, 1) := by decide +kernel
set_option maxRecDepth 20000 in
theorem ggX5_applyNew_X5_digitAt : GoodIn wsX5_applyNew wsX5_digitAt := goodIn_r _ [6, 7, 8, 9, 10, 11, 12, 13, 14, 38, 39, 40, 41] (by decide +kernel) (by decide +kernel)
set_option maxRecDepth 20000 in
theorem gX5_applyNew_X5_digitAt : GoodIn wsX5_applyNew (wsV RX5 74 RX5 yX5_digitAt wsX5_digitAt) := goodIn_app (goodIn_of _ (by decide +kernel)) ggX5_applyNew_X5_digitAt
set_option maxRecDepth 20000 in
theorem ggX5_applyNew_X10_isKind : GoodIn wsX5_applyNew wsX10_isKind := goodIn_r _ [17] (by decide +kernel) (by decide +kernel)
set_option maxRecDepth 20000 in
theorem gX5_applyNew_X10_isKind_n96 : GoodIn wsX5_applyNew (wsX10_isKind) := ggX5_applyNew_X10_isKind
set_option maxRecDepth 20000 in
theorem ggX5_applyNew_X3_isFull : GoodIn wsX5_applyNew wsX3_isFull := goodIn_r _ [22, 23, 42, 43, 44, 45, 46, 47, 48, 49] (by decide +kernel) (by decide +kernel)
set_option maxRecDepth 20000 in
theorem gX5_applyNew_X3_isFull : GoodIn wsX5_applyNew (wsV RX5 99 RX3 yX3_isFull wsX3_isFull) := goodIn_app (goodIn_of _ (by decide +kernel)) ggX5_applyNew_X3_isFull
set_option maxRecDepth 20000 in
theorem ggX5_applyNew_X3_add : GoodIn wsX5_applyNew wsX3_add := goodIn_r _ [27, 23, 28, 29, 30, 31, 32, 33, 34, 35, 36, 37, 42, 43, 44, 45, 46, 47, 48, 49] (by decide +kernel) (by decide +kernel)
set_option maxRecDepth 20000 in
theorem gX5_applyNew_X3_add : GoodIn wsX5_applyNew (wsV RX5 103 RX3 yX3_add wsX3_add) := goodIn_app (goodIn_of _ (by decide +kernel)) ggX5_applyNew_X3_add
theorem dX5_applyNew_0 : decode cX5_applyNew 0 = .ok (.aload_n 0, 1) := by decide +kernel
theorem dX5_applyNew_1 : decode cX5_applyNew 1 = .ok (.iload_n 1, 1) := by decide +kernel
theorem dX5_applyNew_2 : decode cX5_applyNew 2 = .ok (.iconst 1, 1) := by decide +kernel
theorem dX5_applyNew_3 : decode cX5_applyNew 3 = .ok (.iadd, 1) := by decide +kernel
theorem dX5_applyNew_4 : decode cX5_applyNew 4 = .ok (.invokevirtual 74, 3) := by decide +kernel
theorem dX5_applyNew_7 : decode cX5_applyNew 7 = .ok (.istore_n 2, 1) := by decide +kernel
theorem dX5_applyNew_8 : decode cX5_applyNew 8 = .ok (.iload_n 2, 1) := by decide +kernel
theorem dX5_applyNew_9 : decode cX5_applyNew 9 = .ok (.invokestatic 96, 3) := by decide +kernel
theorem dX5_applyNew_12 : decode cX5_applyNew 12 = .ok (.ifCond .eq 13, 3) := by decide +kernel
theorem dX5_applyNew_15 : decode cX5_applyNew 15 = .ok (.aload_n 0, 1) := by decide +kernel
theorem dX5_applyNew_16 : decode cX5_applyNew 16 = .ok (.getfield 23, 3) := by decide +kernel
theorem dX5_applyNew_19 : decode cX5_applyNew 19 = .ok (.invokevirtual 99, 3) := by decide +kernel
theorem dX5_applyNew_22 : decode cX5_applyNew 22 = .ok (.ifCond .eq 5, 3) := by decide +kernel
theorem dX5_applyNew_25 : decode cX5_applyNew 25 = .ok (.iconst 0, 1) := by decide +kernel
theorem dX5_applyNew_26 : decode cX5_applyNew 26 = .ok (.ireturn, 1) := by decide +kernel
theorem dX5_applyNew_27 : decode cX5_applyNew 27 = .ok (.aload_n 0, 1) := by decide +kernel
theorem dX5_applyNew_28 : decode cX5_applyNew 28 = .ok (.getfield 23, 3) := by decide +kernel
theorem dX5_applyNew_31 : decode cX5_applyNew 31 = .ok (.iload_n 2, 1) := by decide +kernel
theorem dX5_applyNew_32 : decode cX5_applyNew 32 = .ok (.aload_n 0, 1) := by decide +kernel
theorem dX5_applyNew_33 : decode cX5_applyNew 33 = .ok (.iload_n 1, 1) := by decide +kernel
theorem dX5_applyNew_34 : decode cX5_applyNew 34 = .ok (.iconst 2, 1) := by decide +kernel
theorem dX5_applyNew_35 : decode cX5_applyNew 35 = .ok (.iadd, 1) := by decide +kernel
theorem dX5_applyNew_36 : decode cX5_applyNew 36 = .ok (.invokevirtual 74, 3) := by decide +kernel
theorem dX5_applyNew_39 : decode cX5_applyNew 39 = .ok (.aload_n 0, 1) := by decide +kernel
theorem dX5_applyNew_40 : decode cX5_applyNew 40 = .ok (.iload_n 1, 1) := by decide +kernel
theorem dX5_applyNew_41 : decode cX5_applyNew 41 = .ok (.iconst 3, 1) := by decide +kernel
theorem dX5_applyNew_42 : decode cX5_applyNew 42 = .ok (.iadd, 1) := by decide +kernel
theorem dX5_applyNew_43 : decode cX5_applyNew 43 = .ok (.invokevirtual 74, 3) := by decide +kernel
theorem dX5_applyNew_46 : decode cX5_applyNew 46 = .ok (.invokevirtual 103, 3) := by decide +kernel
theorem dX5_applyNew_49 : decode cX5_applyNew 49 = .ok (.pop, 1) := by decide +kernel
theorem dX5_applyNew_50 : decode cX5_applyNew 50 = .ok (.iconst 1, 1) := by decide +kernel
theorem dX5_applyNew_51 : decode cX5_applyNew 51 = .ok (.ireturn, 1) := by decide +kernel
theorem dX5_applyMode_0 : decode cX5_applyMode 0 = .ok (.iload_n 1, 1) := by decide +kernel
theorem dX5_applyMode_1 : decode cX5_applyMode 1 = .ok (.ifCond .lt 8, 3) := by decide +kernel
theorem dX5_applyMode_4 : decode cX5_applyMode 4 = .ok (.iload_n 1, 1) := by decide +kernel
theorem dX5_applyMode_5 : decode cX5_applyMode 5 = .ok (.iconst 4, 1) := by decide +kernel
theorem dX5_applyMode_6 : decode cX5_applyMode 6 = .ok (.if_icmp .lt 5, 3) := by decide +kernel
theorem dX5_applyMode_9 : decode cX5_applyMode 9 = .ok (.iconst 0, 1) := by decide +kernel
theorem dX5_applyMode_10 : decode cX5_applyMode 10 = .ok (.ireturn, 1) := by decide +kernel
theorem dX5_applyMode_11 : decode cX5_applyMode 11 = .ok (.aload_n 0, 1) := by decide +kernel
theorem dX5_applyMode_12 : decode cX5_applyMode 12 = .ok (.getfield 23, 3) := by decide +kernel
theorem dX5_applyMode_15 : decode cX5_applyMode 15 = .ok (.iload_n 1, 1) := by decide +kernel
theorem dX5_applyMode_16 : decode cX5_applyMode 16 = .ok (.putfield 107, 3) := by decide +kernel
theorem dX5_applyMode_19 : decode cX5_applyMode 19 = .ok (.iconst 1, 1) := by decide +kernel
theorem dX5_applyMode_20 : decode cX5_applyMode 20 = .ok (.ireturn, 1) := by decide +kernel
set_option maxRecDepth 20000 in
theorem ggX5_applyKind_X10_isKind : GoodIn wsX5_applyKind wsX10_isKind := goodIn_r _ [4] (by decide +kernel) (by decide +kernel)
set_option maxRecDepth 20000 in
theorem gX5_applyKind_X10_isKind_n96 : GoodIn wsX5_applyKind (wsX10_isKind) := ggX5_applyKind_X10_isKind
set_option maxRecDepth 20000 in
theorem ggX5_applyKind_X3_recast : GoodIn wsX5_applyKind wsX3_recast := goodIn_r _ [9, 10, 11, 12, 13, 14, 15, 16, 17, 20, 21, 22, 23, 24, 25, 26, 27] (by decide +kernel) (by decide +kernel)
set_option maxRecDepth 20000 in
theorem gX5_applyKind_X3_recast : GoodIn wsX5_applyKind (wsV RX5 110 RX3 yX3_recast wsX3_recast) := goodIn_app (goodIn_of _ (by decide +kernel)) ggX5_applyKind_X3_recast
theorem dX5_applyKind_0 : decode cX5_applyKind 0 = .ok (.iload_n 2, 1) := by decide +kernel
theorem dX5_applyKind_1 : decode cX5_applyKind 1 = .ok (.invokestatic 96, 3) := by decide +kernel
theorem dX5_applyKind_4 : decode cX5_applyKind 4 = .ok (.ifCond .ne 5, 3) := by decide +kernel
theorem dX5_applyKind_7 : decode cX5_applyKind 7 = .ok (.iconst 0, 1) := by decide +kernel
theorem dX5_applyKind_8 : decode cX5_applyKind 8 = .ok (.ireturn, 1) := by decide +kernel
theorem dX5_applyKind_9 : decode cX5_applyKind 9 = .ok (.aload_n 0, 1) := by decide +kernel
theorem dX5_applyKind_10 : decode cX5_applyKind 10 = .ok (.getfield 23, 3) := by decide +kernel
theorem dX5_applyKind_13 : decode cX5_applyKind 13 = .ok (.iload_n 1, 1) := by decide +kernel
theorem dX5_applyKind_14 : decode cX5_applyKind 14 = .ok (.iload_n 2, 1) := by decide +kernel
theorem dX5_applyKind_15 : decode cX5_applyKind 15 = .ok (.iload_n 3, 1) := by decide +kernel
theorem dX5_applyKind_16 : decode cX5_applyKind 16 = .ok (.invokevirtual 110, 3) := by decide +kernel
theorem dX5_applyKind_19 : decode cX5_applyKind 19 = .ok (.iconst 1, 1) := by decide +kernel
theorem dX5_applyKind_20 : decode cX5_applyKind 20 = .ok (.ireturn, 1) := by decide +kernel
set_option maxRecDepth 20000 in
theorem ggX5_applyChain_X5_claimAt : GoodIn wsX5_applyChain wsX5_claimAt := goodIn_r _ [6, 1, 7, 8, 9, 10, 11, 12, 13, 31, 32, 33, 34] (by decide +kernel) (by decide +kernel)
set_option maxRecDepth 20000 in
theorem gX5_applyChain_X5_claimAt : GoodIn wsX5_applyChain (wsV RX5 80 RX5 yX5_claimAt wsX5_claimAt) := goodIn_app (goodIn_of _ (by decide +kernel)) ggX5_applyChain_X5_claimAt
set_option maxRecDepth 20000 in
theorem ggX5_applyChain_X6_at : GoodIn wsX5_applyChain wsX6_at := goodIn_r _ [11, 12, 13, 33, 34] (by decide +kernel) (by decide +kernel)
set_option maxRecDepth 20000 in
theorem gX5_applyChain_X6_at : GoodIn wsX5_applyChain (wsV RX5 39 RX6 yX6_at wsX6_at) := goodIn_app (goodIn_of _ (by decide +kernel)) ggX5_applyChain_X6_at
set_option maxRecDepth 20000 in
theorem ggX5_applyChain_X5_applyArrow : GoodIn wsX5_applyChain wsX5_applyArrow := goodIn_r _ [17, 18, 19, 20, 21, 22, 23, 24, 25, 26, 27, 28, 29, 30, 31, 32, 35, 36, 37, 38, 39, 40, 41, 42] (by decide +kernel) (by decide +kernel)
set_option maxRecDepth 20000 in
theorem gX5_applyChain_X5_applyArrow : GoodIn wsX5_applyChain (wsV RX5 114 RX5 yX5_applyArrow wsX5_applyArrow) := goodIn_app (goodIn_of _ (by decide +kernel)) ggX5_applyChain_X5_applyArrow
theorem dX5_applyChain_0 : decode cX5_applyChain 0 = .ok (.iload_n 1, 1) := by decide +kernel
theorem dX5_applyChain_1 : decode cX5_applyChain 1 = .ok (.iconst 1, 1) := by decide +kernel
theorem dX5_applyChain_2 : decode cX5_applyChain 2 = .ok (.iadd, 1) := by decide +kernel
theorem dX5_applyChain_3 : decode cX5_applyChain 3 = .ok (.istore_n 3, 1) := by decide +kernel
theorem dX5_applyChain_4 : decode cX5_applyChain 4 = .ok (.iload_n 3, 1) := by decide +kernel
theorem dX5_applyChain_5 : decode cX5_applyChain 5 = .ok (.iload_n 2, 1) := by decide +kernel
theorem dX5_applyChain_6 : decode cX5_applyChain 6 = .ok (.if_icmp .ge 41, 3) := by decide +kernel
theorem dX5_applyChain_9 : decode cX5_applyChain 9 = .ok (.aload_n 0, 1) := by decide +kernel
theorem dX5_applyChain_10 : decode cX5_applyChain 10 = .ok (.aload_n 0, 1) := by decide +kernel
theorem dX5_applyChain_11 : decode cX5_applyChain 11 = .ok (.iload_n 3, 1) := by decide +kernel
theorem dX5_applyChain_12 : decode cX5_applyChain 12 = .ok (.iconst 1, 1) := by decide +kernel
theorem dX5_applyChain_13 : decode cX5_applyChain 13 = .ok (.isub, 1) := by decide +kernel
theorem dX5_applyChain_14 : decode cX5_applyChain 14 = .ok (.invokevirtual 80, 3) := by decide +kernel
theorem dX5_applyChain_17 : decode cX5_applyChain 17 = .ok (.aload_n 0, 1) := by decide +kernel
theorem dX5_applyChain_18 : decode cX5_applyChain 18 = .ok (.getfield 14, 3) := by decide +kernel
theorem dX5_applyChain_21 : decode cX5_applyChain 21 = .ok (.iload_n 3, 1) := by decide +kernel
theorem dX5_applyChain_22 : decode cX5_applyChain 22 = .ok (.iconst (-1), 1) := by decide +kernel
theorem dX5_applyChain_23 : decode cX5_applyChain 23 = .ok (.invokevirtual 39, 3) := by decide +kernel
theorem dX5_applyChain_26 : decode cX5_applyChain 26 = .ok (.aload_n 0, 1) := by decide +kernel
theorem dX5_applyChain_27 : decode cX5_applyChain 27 = .ok (.iload_n 3, 1) := by decide +kernel
theorem dX5_applyChain_28 : decode cX5_applyChain 28 = .ok (.iconst 1, 1) := by decide +kernel
theorem dX5_applyChain_29 : decode cX5_applyChain 29 = .ok (.iadd, 1) := by decide +kernel
theorem dX5_applyChain_30 : decode cX5_applyChain 30 = .ok (.invokevirtual 80, 3) := by decide +kernel
theorem dX5_applyChain_33 : decode cX5_applyChain 33 = .ok (.invokevirtual 114, 3) := by decide +kernel
theorem dX5_applyChain_36 : decode cX5_applyChain 36 = .ok (.ifCond .ne 5, 3) := by decide +kernel
theorem dX5_applyChain_39 : decode cX5_applyChain 39 = .ok (.iconst 0, 1) := by decide +kernel
theorem dX5_applyChain_40 : decode cX5_applyChain 40 = .ok (.ireturn, 1) := by decide +kernel
theorem dX5_applyChain_41 : decode cX5_applyChain 41 = .ok (.iinc 3 2, 3) := by decide +kernel
theorem dX5_applyChain_44 : decode cX5_applyChain 44 = .ok (.goto (-40), 3) := by decide +kernel
theorem dX5_applyChain_47 : decode cX5_applyChain 47 = .ok (.iconst 1, 1) := by decide +kernel
theorem dX5_applyChain_48 : decode cX5_applyChain 48 = .ok (.ireturn, 1) := by decide +kernel
set_option maxRecDepth 20000 in
theorem ggX5_applyArrow_X3_knows : GoodIn wsX5_applyArrow wsX3_knows := goodIn_r _ [8, 9, 16, 17, 18, 19, 20, 21, 22, 23] (by decide +kernel) (by decide +kernel)
set_option maxRecDepth 20000 in
theorem gX5_applyArrow_X3_knows : GoodIn wsX5_applyArrow (wsV RX5 83 RX3 yX3_knows wsX3_knows) := goodIn_app (goodIn_of _ (by decide +kernel)) ggX5_applyArrow_X3_knows
set_option maxRecDepth 20000 in
theorem ggX5_applyArrow_X0_pair : GoodIn wsX5_applyArrow wsX0_pair := goodIn_r _ [13] (by decide +kernel) (by decide +kernel)
set_option maxRecDepth 20000 in
theorem gX5_applyArrow_X0_pair : GoodIn wsX5_applyArrow (va_wsS RX5 121 yX0_pair wsX0_pair) := goodIn_app (goodIn_of _ (by decide +kernel)) ggX5_applyArrow_X0_pair
theorem dX5_applyArrow_0 : decode cX5_applyArrow 0 = .ok (.aload_n 0, 1) := by decide +kernel
theorem dX5_applyArrow_1 : decode cX5_applyArrow 1 = .ok (.getfield 23, 3) := by decide +kernel
theorem dX5_applyArrow_4 : decode cX5_applyArrow 4 = .ok (.iload_n 1, 1) := by decide +kernel
theorem dX5_applyArrow_5 : decode cX5_applyArrow 5 = .ok (.invokevirtual 83, 3) := by decide +kernel
theorem dX5_applyArrow_8 : decode cX5_applyArrow 8 = .ok (.ifCond .eq 19, 3) := by decide +kernel
theorem dX5_applyArrow_11 : decode cX5_applyArrow 11 = .ok (.aload_n 0, 1) := by decide +kernel
theorem dX5_applyArrow_12 : decode cX5_applyArrow 12 = .ok (.getfield 23, 3) := by decide +kernel
theorem dX5_applyArrow_15 : decode cX5_applyArrow 15 = .ok (.iload_n 3, 1) := by decide +kernel
theorem dX5_applyArrow_16 : decode cX5_applyArrow 16 = .ok (.invokevirtual 83, 3) := by decide +kernel
theorem dX5_applyArrow_19 : decode cX5_applyArrow 19 = .ok (.ifCond .eq 8, 3) := by decide +kernel
theorem dX5_applyArrow_22 : decode cX5_applyArrow 22 = .ok (.iload_n 1, 1) := by decide +kernel
theorem dX5_applyArrow_23 : decode cX5_applyArrow 23 = .ok (.iload_n 3, 1) := by decide +kernel
theorem dX5_applyArrow_24 : decode cX5_applyArrow 24 = .ok (.if_icmp .ne 5, 3) := by decide +kernel
theorem dX5_applyArrow_27 : decode cX5_applyArrow 27 = .ok (.iconst 0, 1) := by decide +kernel
theorem dX5_applyArrow_28 : decode cX5_applyArrow 28 = .ok (.ireturn, 1) := by decide +kernel
theorem dX5_applyArrow_29 : decode cX5_applyArrow 29 = .ok (.iload_n 2, 1) := by decide +kernel
theorem dX5_applyArrow_30 : decode cX5_applyArrow 30 = .ok (.bipush 62, 2) := by decide +kernel
theorem dX5_applyArrow_32 : decode cX5_applyArrow 32 = .ok (.if_icmp .ne 23, 3) := by decide +kernel
theorem dX5_applyArrow_35 : decode cX5_applyArrow 35 = .ok (.aload_n 0, 1) := by decide +kernel
theorem dX5_applyArrow_36 : decode cX5_applyArrow 36 = .ok (.getfield 23, 3) := by decide +kernel
theorem dX5_applyArrow_39 : decode cX5_applyArrow 39 = .ok (.dup, 1) := by decide +kernel
theorem dX5_applyArrow_40 : decode cX5_applyArrow 40 = .ok (.getfield 117, 3) := by decide +kernel
theorem dX5_applyArrow_43 : decode cX5_applyArrow 43 = .ok (.iload_n 1, 1) := by decide +kernel
theorem dX5_applyArrow_44 : decode cX5_applyArrow 44 = .ok (.iload_n 3, 1) := by decide +kernel
theorem dX5_applyArrow_45 : decode cX5_applyArrow 45 = .ok (.invokestatic 121, 3) := by decide +kernel
theorem dX5_applyArrow_48 : decode cX5_applyArrow 48 = .ok (.lor, 1) := by decide +kernel
theorem dX5_applyArrow_49 : decode cX5_applyArrow 49 = .ok (.putfield 117, 3) := by decide +kernel
theorem dX5_applyArrow_52 : decode cX5_applyArrow 52 = .ok (.goto 20, 3) := by decide +kernel
theorem dX5_applyArrow_55 : decode cX5_applyArrow 55 = .ok (.aload_n 0, 1) := by decide +kernel
theorem dX5_applyArrow_56 : decode cX5_applyArrow 56 = .ok (.getfield 23, 3) := by decide +kernel
theorem dX5_applyArrow_59 : decode cX5_applyArrow 59 = .ok (.dup, 1) := by decide +kernel
theorem dX5_applyArrow_60 : decode cX5_applyArrow 60 = .ok (.getfield 127, 3) := by decide +kernel
theorem dX5_applyArrow_63 : decode cX5_applyArrow 63 = .ok (.iload_n 1, 1) := by decide +kernel
theorem dX5_applyArrow_64 : decode cX5_applyArrow 64 = .ok (.iload_n 3, 1) := by decide +kernel
theorem dX5_applyArrow_65 : decode cX5_applyArrow 65 = .ok (.invokestatic 121, 3) := by decide +kernel
theorem dX5_applyArrow_68 : decode cX5_applyArrow 68 = .ok (.lor, 1) := by decide +kernel
theorem dX5_applyArrow_69 : decode cX5_applyArrow 69 = .ok (.putfield 127, 3) := by decide +kernel
theorem dX5_applyArrow_72 : decode cX5_applyArrow 72 = .ok (.iconst 1, 1) := by decide +kernel
theorem dX5_applyArrow_73 : decode cX5_applyArrow 73 = .ok (.ireturn, 1) := by decide +kernel
set_option maxRecDepth 20000 in
theorem ggX5_digitAt_X6_at : GoodIn wsX5_digitAt wsX6_at := goodIn_r _ [6, 7, 8, 11, 12] (by decide +kernel) (by decide +kernel)
set_option maxRecDepth 20000 in
theorem gX5_digitAt_X6_at : GoodIn wsX5_digitAt (wsV RX5 39 RX6 yX6_at wsX6_at) := goodIn_app (goodIn_of _ (by decide +kernel)) ggX5_digitAt_X6_at
theorem dX5_digitAt_0 : decode cX5_digitAt 0 = .ok (.aload_n 0, 1) := by decide +kernel
theorem dX5_digitAt_1 : decode cX5_digitAt 1 = .ok (.getfield 14, 3) := by decide +kernel
theorem dX5_digitAt_4 : decode cX5_digitAt 4 = .ok (.iload_n 1, 1) := by decide +kernel
theorem dX5_digitAt_5 : decode cX5_digitAt 5 = .ok (.iconst (-1), 1) := by decide +kernel
theorem dX5_digitAt_6 : decode cX5_digitAt 6 = .ok (.invokevirtual 39, 3) := by decide +kernel
theorem dX5_digitAt_9 : decode cX5_digitAt 9 = .ok (.bipush 48, 2) := by decide +kernel
theorem dX5_digitAt_11 : decode cX5_digitAt 11 = .ok (.isub, 1) := by decide +kernel
theorem dX5_digitAt_12 : decode cX5_digitAt 12 = .ok (.ireturn, 1) := by decide +kernel
set_option maxRecDepth 20000 in
theorem ggX5_claimAt_X6_at : GoodIn wsX5_claimAt wsX6_at := goodIn_r _ [6, 7, 8, 11, 12] (by decide +kernel) (by decide +kernel)
set_option maxRecDepth 20000 in
theorem gX5_claimAt_X6_at : GoodIn wsX5_claimAt (wsV RX5 39 RX6 yX6_at wsX6_at) := goodIn_app (goodIn_of _ (by decide +kernel)) ggX5_claimAt_X6_at
theorem dX5_claimAt_0 : decode cX5_claimAt 0 = .ok (.aload_n 0, 1) := by decide +kernel
theorem dX5_claimAt_1 : decode cX5_claimAt 1 = .ok (.getfield 14, 3) := by decide +kernel
theorem dX5_claimAt_4 : decode cX5_claimAt 4 = .ok (.iload_n 1, 1) := by decide +kernel
theorem dX5_claimAt_5 : decode cX5_claimAt 5 = .ok (.iconst (-1), 1) := by decide +kernel
theorem dX5_claimAt_6 : decode cX5_claimAt 6 = .ok (.invokevirtual 39, 3) := by decide +kernel
theorem dX5_claimAt_9 : decode cX5_claimAt 9 = .ok (.bipush 97, 2) := by decide +kernel
theorem dX5_claimAt_11 : decode cX5_claimAt 11 = .ok (.isub, 1) := by decide +kernel
theorem dX5_claimAt_12 : decode cX5_claimAt 12 = .ok (.ireturn, 1) := by decide +kernel
theorem dX6_init_0 : decode cX6_init 0 = .ok (.aload_n 0, 1) := by decide +kernel
theorem dX6_init_1 : decode cX6_init 1 = .ok (.invokespecial 1, 3) := by decide +kernel
theorem dX6_init_4 : decode cX6_init 4 = .ok (.aload_n 0, 1) := by decide +kernel
theorem dX6_init_5 : decode cX6_init 5 = .ok (.iconst 0, 1) := by decide +kernel
theorem dX6_init_6 : decode cX6_init 6 = .ok (.putfield 7, 3) := by decide +kernel
theorem dX6_init_9 : decode cX6_init 9 = .ok (.aload_n 0, 1) := by decide +kernel
theorem dX6_init_10 : decode cX6_init 10 = .ok (.iconst 0, 1) := by decide +kernel
theorem dX6_init_11 : decode cX6_init 11 = .ok (.iload_n 1, 1) := by decide +kernel
theorem dX6_init_12 : decode cX6_init 12 = .ok (.invokestatic 13, 3) := by decide +kernel
theorem dX6_init_15 : decode cX6_init 15 = .ok (.newarray .int, 2) := by decide +kernel
theorem dX6_init_17 : decode cX6_init 17 = .ok (.putfield 19, 3) := by decide +kernel
theorem dX6_init_20 : decode cX6_init 20 = .ok (.return_, 1) := by decide +kernel
theorem dX6_isFull_0 : decode cX6_isFull 0 = .ok (.aload_n 0, 1) := by decide +kernel
theorem dX6_isFull_1 : decode cX6_isFull 1 = .ok (.getfield 7, 3) := by decide +kernel
theorem dX6_isFull_4 : decode cX6_isFull 4 = .ok (.aload_n 0, 1) := by decide +kernel
theorem dX6_isFull_5 : decode cX6_isFull 5 = .ok (.getfield 19, 3) := by decide +kernel
theorem dX6_isFull_8 : decode cX6_isFull 8 = .ok (.arraylength, 1) := by decide +kernel
theorem dX6_isFull_9 : decode cX6_isFull 9 = .ok (.if_icmp .lt 7, 3) := by decide +kernel
theorem dX6_isFull_12 : decode cX6_isFull 12 = .ok (.iconst 1, 1) := by decide +kernel
theorem dX6_isFull_13 : decode cX6_isFull 13 = .ok (.goto 4, 3) := by decide +kernel
theorem dX6_isFull_16 : decode cX6_isFull 16 = .ok (.iconst 0, 1) := by decide +kernel
theorem dX6_isFull_17 : decode cX6_isFull 17 = .ok (.ireturn, 1) := by decide +kernel
theorem dX6_add_0 : decode cX6_add 0 = .ok (.aload_n 0, 1) := by decide +kernel
theorem dX6_add_1 : decode cX6_add 1 = .ok (.getfield 7, 3) := by decide +kernel
theorem dX6_add_4 : decode cX6_add 4 = .ok (.ifCond .lt 35, 3) := by decide +kernel
theorem dX6_add_7 : decode cX6_add 7 = .ok (.aload_n 0, 1) := by decide +kernel
theorem dX6_add_8 : decode cX6_add 8 = .ok (.getfield 7, 3) := by decide +kernel
theorem dX6_add_11 : decode cX6_add 11 = .ok (.aload_n 0, 1) := by decide +kernel
theorem dX6_add_12 : decode cX6_add 12 = .ok (.getfield 19, 3) := by decide +kernel
theorem dX6_add_15 : decode cX6_add 15 = .ok (.arraylength, 1) := by decide +kernel
theorem dX6_add_16 : decode cX6_add 16 = .ok (.if_icmp .ge 23, 3) := by decide +kernel
theorem dX6_add_19 : decode cX6_add 19 = .ok (.aload_n 0, 1) := by decide +kernel
theorem dX6_add_20 : decode cX6_add 20 = .ok (.getfield 19, 3) := by decide +kernel
theorem dX6_add_23 : decode cX6_add 23 = .ok (.aload_n 0, 1) := by decide +kernel
theorem dX6_add_24 : decode cX6_add 24 = .ok (.getfield 7, 3) := by decide +kernel
theorem dX6_add_27 : decode cX6_add 27 = .ok (.iload_n 1, 1) := by decide +kernel
theorem dX6_add_28 : decode cX6_add 28 = .ok (.iastore, 1) := by decide +kernel
theorem dX6_add_29 : decode cX6_add 29 = .ok (.aload_n 0, 1) := by decide +kernel
theorem dX6_add_30 : decode cX6_add 30 = .ok (.dup, 1) := by decide +kernel
theorem dX6_add_31 : decode cX6_add 31 = .ok (.getfield 7, 3) := by decide +kernel
theorem dX6_add_34 : decode cX6_add 34 = .ok (.iconst 1, 1) := by decide +kernel
theorem dX6_add_35 : decode cX6_add 35 = .ok (.iadd, 1) := by decide +kernel
theorem dX6_add_36 : decode cX6_add 36 = .ok (.putfield 7, 3) := by decide +kernel
theorem dX6_add_39 : decode cX6_add 39 = .ok (.aload_n 0, 1) := by decide +kernel
theorem dX6_add_40 : decode cX6_add 40 = .ok (.getfield 7, 3) := by decide +kernel
theorem dX6_add_43 : decode cX6_add 43 = .ok (.ireturn, 1) := by decide +kernel
theorem dX6_at_0 : decode cX6_at 0 = .ok (.iload_n 1, 1) := by decide +kernel
theorem dX6_at_1 : decode cX6_at 1 = .ok (.ifCond .lt 29, 3) := by decide +kernel
theorem dX6_at_4 : decode cX6_at 4 = .ok (.iload_n 1, 1) := by decide +kernel
theorem dX6_at_5 : decode cX6_at 5 = .ok (.aload_n 0, 1) := by decide +kernel
theorem dX6_at_6 : decode cX6_at 6 = .ok (.getfield 7, 3) := by decide +kernel
theorem dX6_at_9 : decode cX6_at 9 = .ok (.if_icmp .ge 21, 3) := by decide +kernel
theorem dX6_at_12 : decode cX6_at 12 = .ok (.iload_n 1, 1) := by decide +kernel
theorem dX6_at_13 : decode cX6_at 13 = .ok (.aload_n 0, 1) := by decide +kernel
theorem dX6_at_14 : decode cX6_at 14 = .ok (.getfield 19, 3) := by decide +kernel
theorem dX6_at_17 : decode cX6_at 17 = .ok (.arraylength, 1) := by decide +kernel
theorem dX6_at_18 : decode cX6_at 18 = .ok (.if_icmp .ge 12, 3) := by decide +kernel
theorem dX6_at_21 : decode cX6_at 21 = .ok (.aload_n 0, 1) := by decide +kernel
theorem dX6_at_22 : decode cX6_at 22 = .ok (.getfield 19, 3) := by decide +kernel
theorem dX6_at_25 : decode cX6_at 25 = .ok (.iload_n 1, 1) := by decide +kernel
theorem dX6_at_26 : decode cX6_at 26 = .ok (.iaload, 1) := by decide +kernel
theorem dX6_at_27 : decode cX6_at 27 = .ok (.goto 4, 3) := by decide +kernel
theorem dX6_at_30 : decode cX6_at 30 = .ok (.iload_n 2, 1) := by decide +kernel
theorem dX6_at_31 : decode cX6_at 31 = .ok (.ireturn, 1) := by decide +kernel
theorem dX7_init_0 : decode cX7_init 0 = .ok (.aload_n 0, 1) := by decide +kernel
theorem dX7_init_1 : decode cX7_init 1 = .ok (.invokespecial 3, 3) := by decide +kernel
theorem dX7_init_4 : decode cX7_init 4 = .ok (.aload_n 0, 1) := by decide +kernel
theorem dX7_init_5 : decode cX7_init 5 = .ok (.sipush 256, 3) := by decide +kernel
theorem dX7_init_8 : decode cX7_init 8 = .ok (.newarray .boolean, 2) := by decide +kernel
theorem dX7_init_10 : decode cX7_init 10 = .ok (.putfield 9, 3) := by decide +kernel
theorem dX7_init_13 : decode cX7_init 13 = .ok (.aload_n 0, 1) := by decide +kernel
theorem dX7_init_14 : decode cX7_init 14 = .ok (.sipush 256, 3) := by decide +kernel
theorem dX7_init_17 : decode cX7_init 17 = .ok (.newarray .boolean, 2) := by decide +kernel
theorem dX7_init_19 : decode cX7_init 19 = .ok (.putfield 15, 3) := by decide +kernel
theorem dX7_init_22 : decode cX7_init 22 = .ok (.aload_n 0, 1) := by decide +kernel
theorem dX7_init_23 : decode cX7_init 23 = .ok (.sipush 256, 3) := by decide +kernel
theorem dX7_init_26 : decode cX7_init 26 = .ok (.newarray .boolean, 2) := by decide +kernel
theorem dX7_init_28 : decode cX7_init 28 = .ok (.putfield 18, 3) := by decide +kernel
theorem dX7_init_31 : decode cX7_init 31 = .ok (.aload_n 0, 1) := by decide +kernel
theorem dX7_init_32 : decode cX7_init 32 = .ok (.iconst 0, 1) := by decide +kernel
theorem dX7_init_33 : decode cX7_init 33 = .ok (.putfield 21, 3) := by decide +kernel
theorem dX7_init_36 : decode cX7_init 36 = .ok (.aload_n 0, 1) := by decide +kernel
theorem dX7_init_37 : decode cX7_init 37 = .ok (.lconst 0, 1) := by decide +kernel
theorem dX7_init_38 : decode cX7_init 38 = .ok (.putfield 25, 3) := by decide +kernel
theorem dX7_init_41 : decode cX7_init 41 = .ok (.aload_n 0, 1) := by decide +kernel
theorem dX7_init_42 : decode cX7_init 42 = .ok (.lconst 0, 1) := by decide +kernel
theorem dX7_init_43 : decode cX7_init 43 = .ok (.putfield 29, 3) := by decide +kernel
theorem dX7_init_46 : decode cX7_init 46 = .ok (.return_, 1) := by decide +kernel
set_option maxRecDepth 20000 in
theorem ggX7_select_X7_isOf : GoodIn wsX7_select wsX7_isOf := goodIn_r _ [11, 1, 3, 12, 13, 14, 10, 15, 16, 17, 18, 19, 20, 21, 22, 23, 24, 25, 26, 27, 28, 29, 5, 30, 31, 32, 33, 34, 35, 36, 37, 38, 39, 40, 41, 68, 69, 70, 71, 72, 73] (by decide +kernel) (by decide +kernel)
set_option maxRecDepth 20000 in
theorem gX7_select_X7_isOf : GoodIn wsX7_select (wsV RX7 36 RX7 yX7_isOf wsX7_isOf) := goodIn_app (goodIn_of _ (by decide +kernel)) ggX7_select_X7_isOf
set_option maxRecDepth 20000 in
theorem ggX7_select_X7_dropSurpassed : GoodIn wsX7_select wsX7_dropSurpassed := goodIn_r _ [45, 46, 6, 47, 48, 49, 10, 50, 3, 16, 17, 18, 19, 20, 21, 22, 23, 24, 25, 51, 52, 53, 54, 55, 56, 57, 58, 59, 60, 61, 62, 63, 64, 65, 66, 67, 68, 69, 70, 71, 72, 73] (by decide +kernel) (by decide +kernel)
set_option maxRecDepth 20000 in
theorem gX7_select_X7_dropSurpassed : GoodIn wsX7_select (wsV RX7 40 RX7 yX7_dropSurpassed wsX7_dropSurpassed) := goodIn_app (goodIn_of _ (by decide +kernel)) ggX7_select_X7_dropSurpassed
theorem dX7_select_0 : decode cX7_select 0 = .ok (.aload_n 0, 1) := by decide +kernel
theorem dX7_select_1 : decode cX7_select 1 = .ok (.iload_n 2, 1) := by decide +kernel
theorem dX7_select_2 : decode cX7_select 2 = .ok (.putfield 21, 3) := by decide +kernel
theorem dX7_select_5 : decode cX7_select 5 = .ok (.aload_n 0, 1) := by decide +kernel
theorem dX7_select_6 : decode cX7_select 6 = .ok (.aload_n 3, 1) := by decide +kernel
theorem dX7_select_7 : decode cX7_select 7 = .ok (.getfield 32, 3) := by decide +kernel
theorem dX7_select_10 : decode cX7_select 10 = .ok (.putfield 25, 3) := by decide +kernel
theorem dX7_select_13 : decode cX7_select 13 = .ok (.aload_n 0, 1) := by decide +kernel
theorem dX7_select_14 : decode cX7_select 14 = .ok (.aload_n 3, 1) := by decide +kernel
theorem dX7_select_15 : decode cX7_select 15 = .ok (.getfield 35, 3) := by decide +kernel
theorem dX7_select_18 : decode cX7_select 18 = .ok (.putfield 29, 3) := by decide +kernel
theorem dX7_select_21 : decode cX7_select 21 = .ok (.iconst 0, 1) := by decide +kernel
theorem dX7_select_22 : decode cX7_select 22 = .ok (.istore 4, 2) := by decide +kernel
theorem dX7_select_24 : decode cX7_select 24 = .ok (.iload 4, 2) := by decide +kernel
theorem dX7_select_26 : decode cX7_select 26 = .ok (.aload_n 0, 1) := by decide +kernel
theorem dX7_select_27 : decode cX7_select 27 = .ok (.getfield 9, 3) := by decide +kernel
theorem dX7_select_30 : decode cX7_select 30 = .ok (.arraylength, 1) := by decide +kernel
theorem dX7_select_31 : decode cX7_select 31 = .ok (.if_icmp .ge 43, 3) := by decide +kernel
theorem dX7_select_34 : decode cX7_select 34 = .ok (.aload_n 0, 1) := by decide +kernel
theorem dX7_select_35 : decode cX7_select 35 = .ok (.getfield 9, 3) := by decide +kernel
theorem dX7_select_38 : decode cX7_select 38 = .ok (.iload 4, 2) := by decide +kernel
theorem dX7_select_40 : decode cX7_select 40 = .ok (.iload 4, 2) := by decide +kernel
theorem dX7_select_42 : decode cX7_select 42 = .ok (.aload_n 0, 1) := by decide +kernel
theorem dX7_select_43 : decode cX7_select 43 = .ok (.getfield 21, 3) := by decide +kernel
theorem dX7_select_46 : decode cX7_select 46 = .ok (.iconst (-1), 1) := by decide +kernel
theorem dX7_select_47 : decode cX7_select 47 = .ok (.ixor, 1) := by decide +kernel
theorem dX7_select_48 : decode cX7_select 48 = .ok (.iand, 1) := by decide +kernel
theorem dX7_select_49 : decode cX7_select 49 = .ok (.ifCond .ne 17, 3) := by decide +kernel
theorem dX7_select_52 : decode cX7_select 52 = .ok (.aload_n 0, 1) := by decide +kernel
theorem dX7_select_53 : decode cX7_select 53 = .ok (.iload_n 1, 1) := by decide +kernel
theorem dX7_select_54 : decode cX7_select 54 = .ok (.iload 4, 2) := by decide +kernel
theorem dX7_select_56 : decode cX7_select 56 = .ok (.invokevirtual 36, 3) := by decide +kernel
theorem dX7_select_59 : decode cX7_select 59 = .ok (.ifCond .eq 7, 3) := by decide +kernel
theorem dX7_select_62 : decode cX7_select 62 = .ok (.iconst 1, 1) := by decide +kernel
theorem dX7_select_63 : decode cX7_select 63 = .ok (.goto 4, 3) := by decide +kernel
theorem dX7_select_66 : decode cX7_select 66 = .ok (.iconst 0, 1) := by decide +kernel
theorem dX7_select_67 : decode cX7_select 67 = .ok (.bastore, 1) := by decide +kernel
theorem dX7_select_68 : decode cX7_select 68 = .ok (.iinc 4 1, 3) := by decide +kernel
theorem dX7_select_71 : decode cX7_select 71 = .ok (.goto (-47), 3) := by decide +kernel
theorem dX7_select_74 : decode cX7_select 74 = .ok (.iload_n 1, 1) := by decide +kernel
theorem dX7_select_75 : decode cX7_select 75 = .ok (.iconst 3, 1) := by decide +kernel
theorem dX7_select_76 : decode cX7_select 76 = .ok (.if_icmp .eq 8, 3) := by decide +kernel
theorem dX7_select_79 : decode cX7_select 79 = .ok (.iload_n 1, 1) := by decide +kernel
theorem dX7_select_80 : decode cX7_select 80 = .ok (.iconst 5, 1) := by decide +kernel
theorem dX7_select_81 : decode cX7_select 81 = .ok (.if_icmp .ne 17, 3) := by decide +kernel
theorem dX7_select_84 : decode cX7_select 84 = .ok (.aload_n 0, 1) := by decide +kernel
theorem dX7_select_85 : decode cX7_select 85 = .ok (.iload_n 1, 1) := by decide +kernel
theorem dX7_select_86 : decode cX7_select 86 = .ok (.iconst 5, 1) := by decide +kernel
theorem dX7_select_87 : decode cX7_select 87 = .ok (.if_icmp .ne 7, 3) := by decide +kernel
theorem dX7_select_90 : decode cX7_select 90 = .ok (.iconst 1, 1) := by decide +kernel
theorem dX7_select_91 : decode cX7_select 91 = .ok (.goto 4, 3) := by decide +kernel
theorem dX7_select_94 : decode cX7_select 94 = .ok (.iconst 0, 1) := by decide +kernel
theorem dX7_select_95 : decode cX7_select 95 = .ok (.invokevirtual 40, 3) := by decide +kernel
theorem dX7_select_98 : decode cX7_select 98 = .ok (.return_, 1) := by decide +kernel
set_option maxRecDepth 20000 in
theorem ggX7_isOf_X7_isFree : GoodIn wsX7_isOf wsX7_isFree := goodIn_r _ [7, 2, 8, 9, 10, 11, 12, 13, 14, 15, 16, 17, 35, 36, 37, 38, 39, 40] (by decide +kernel) (by decide +kernel)
set_option maxRecDepth 20000 in
theorem gX7_isOf_X7_isFree : GoodIn wsX7_isOf (wsV RX7 44 RX7 yX7_isFree wsX7_isFree) := goodIn_app (goodIn_of _ (by decide +kernel)) ggX7_isOf_X7_isFree
set_option maxRecDepth 20000 in
theorem ggX7_isOf_X7_isAdmissible : GoodIn wsX7_isOf wsX7_isAdmissible := goodIn_r _ [21, 2, 22, 8, 9, 10, 11, 12, 13, 14, 15, 16, 17, 35, 36, 37, 38, 39, 40] (by decide +kernel) (by decide +kernel)
set_option maxRecDepth 20000 in
theorem gX7_isOf_X7_isAdmissible : GoodIn wsX7_isOf (wsV RX7 48 RX7 yX7_isAdmissible wsX7_isAdmissible) := goodIn_app (goodIn_of _ (by decide +kernel)) ggX7_isOf_X7_isAdmissible
set_option maxRecDepth 20000 in
theorem ggX7_isOf_X7_isComplete : GoodIn wsX7_isOf wsX7_isComplete := goodIn_r _ [26, 18, 19, 20, 6, 21, 2, 22, 8, 9, 10, 11, 12, 13, 14, 15, 16, 17, 27, 28, 29, 30, 1, 31, 35, 36, 37, 38, 39, 40] (by decide +kernel) (by decide +kernel)
set_option maxRecDepth 20000 in
theorem gX7_isOf_X7_isComplete : GoodIn wsX7_isOf (wsV RX7 51 RX7 yX7_isComplete wsX7_isComplete) := goodIn_app (goodIn_of _ (by decide +kernel)) ggX7_isOf_X7_isComplete
set_option maxRecDepth 20000 in
theorem ggX7_isOf_X7_isStable : GoodIn wsX7_isOf wsX7_isStable := goodIn_r _ [34, 8, 9, 10, 11, 12, 13, 14, 15, 16, 17] (by decide +kernel) (by decide +kernel)
set_option maxRecDepth 20000 in
theorem gX7_isOf_X7_isStable : GoodIn wsX7_isOf (va_wsS RX7 54 yX7_isStable wsX7_isStable) := goodIn_app (goodIn_of _ (by decide +kernel)) ggX7_isOf_X7_isStable
theorem dX7_isOf_0 : decode cX7_isOf 0 = .ok (.iload_n 1, 1) := by decide +kernel
theorem dX7_isOf_1 : decode cX7_isOf 1 = .ok (.tableswitch 82 0 5 #[39, 45, 51, 57, 63, 76], 39) := by decide +kernel
theorem dX7_isOf_40 : decode cX7_isOf 40 = .ok (.aload_n 0, 1) := by decide +kernel
theorem dX7_isOf_41 : decode cX7_isOf 41 = .ok (.iload_n 2, 1) := by decide +kernel
theorem dX7_isOf_42 : decode cX7_isOf 42 = .ok (.invokevirtual 44, 3) := by decide +kernel
theorem dX7_isOf_45 : decode cX7_isOf 45 = .ok (.ireturn, 1) := by decide +kernel
theorem dX7_isOf_46 : decode cX7_isOf 46 = .ok (.aload_n 0, 1) := by decide +kernel
theorem dX7_isOf_47 : decode cX7_isOf 47 = .ok (.iload_n 2, 1) := by decide +kernel
theorem dX7_isOf_48 : decode cX7_isOf 48 = .ok (.invokevirtual 48, 3) := by decide +kernel
theorem dX7_isOf_51 : decode cX7_isOf 51 = .ok (.ireturn, 1) := by decide +kernel
theorem dX7_isOf_52 : decode cX7_isOf 52 = .ok (.aload_n 0, 1) := by decide +kernel
theorem dX7_isOf_53 : decode cX7_isOf 53 = .ok (.iload_n 2, 1) := by decide +kernel
theorem dX7_isOf_54 : decode cX7_isOf 54 = .ok (.invokevirtual 51, 3) := by decide +kernel
theorem dX7_isOf_57 : decode cX7_isOf 57 = .ok (.ireturn, 1) := by decide +kernel
theorem dX7_isOf_58 : decode cX7_isOf 58 = .ok (.aload_n 0, 1) := by decide +kernel
theorem dX7_isOf_59 : decode cX7_isOf 59 = .ok (.iload_n 2, 1) := by decide +kernel
theorem dX7_isOf_60 : decode cX7_isOf 60 = .ok (.invokevirtual 48, 3) := by decide +kernel
theorem dX7_isOf_63 : decode cX7_isOf 63 = .ok (.ireturn, 1) := by decide +kernel
theorem dX7_isOf_64 : decode cX7_isOf 64 = .ok (.iload_n 2, 1) := by decide +kernel
theorem dX7_isOf_65 : decode cX7_isOf 65 = .ok (.aload_n 0, 1) := by decide +kernel
theorem dX7_isOf_66 : decode cX7_isOf 66 = .ok (.getfield 21, 3) := by decide +kernel
theorem dX7_isOf_69 : decode cX7_isOf 69 = .ok (.aload_n 0, 1) := by decide +kernel
theorem dX7_isOf_70 : decode cX7_isOf 70 = .ok (.getfield 25, 3) := by decide +kernel
theorem dX7_isOf_73 : decode cX7_isOf 73 = .ok (.invokestatic 54, 3) := by decide +kernel
theorem dX7_isOf_76 : decode cX7_isOf 76 = .ok (.ireturn, 1) := by decide +kernel
theorem dX7_isOf_77 : decode cX7_isOf 77 = .ok (.aload_n 0, 1) := by decide +kernel
theorem dX7_isOf_78 : decode cX7_isOf 78 = .ok (.iload_n 2, 1) := by decide +kernel
theorem dX7_isOf_79 : decode cX7_isOf 79 = .ok (.invokevirtual 51, 3) := by decide +kernel
theorem dX7_isOf_82 : decode cX7_isOf 82 = .ok (.ireturn, 1) := by decide +kernel
theorem dX7_isOf_83 : decode cX7_isOf 83 = .ok (.iconst 0, 1) := by decide +kernel
theorem dX7_isOf_84 : decode cX7_isOf 84 = .ok (.ireturn, 1) := by decide +kernel
set_option maxRecDepth 20000 in
theorem ggX7_isFree_X0_reach : GoodIn wsX7_isFree wsX0_reach := goodIn_r _ [5, 6, 7, 4, 8, 9, 10, 11] (by decide +kernel) (by decide +kernel)
set_option maxRecDepth 20000 in
theorem gX7_isFree_X0_reach : GoodIn wsX7_isFree (va_wsS RX7 58 yX0_reach wsX0_reach) := goodIn_app (goodIn_of _ (by decide +kernel)) ggX7_isFree_X0_reach
theorem dX7_isFree_0 : decode cX7_isFree 0 = .ok (.aload_n 0, 1) := by decide +kernel
theorem dX7_isFree_1 : decode cX7_isFree 1 = .ok (.getfield 25, 3) := by decide +kernel
theorem dX7_isFree_4 : decode cX7_isFree 4 = .ok (.iload_n 1, 1) := by decide +kernel
theorem dX7_isFree_5 : decode cX7_isFree 5 = .ok (.invokestatic 58, 3) := by decide +kernel
theorem dX7_isFree_8 : decode cX7_isFree 8 = .ok (.iload_n 1, 1) := by decide +kernel
theorem dX7_isFree_9 : decode cX7_isFree 9 = .ok (.iand, 1) := by decide +kernel
theorem dX7_isFree_10 : decode cX7_isFree 10 = .ok (.ifCond .ne 7, 3) := by decide +kernel
theorem dX7_isFree_13 : decode cX7_isFree 13 = .ok (.iconst 1, 1) := by decide +kernel
theorem dX7_isFree_14 : decode cX7_isFree 14 = .ok (.goto 4, 3) := by decide +kernel
theorem dX7_isFree_17 : decode cX7_isFree 17 = .ok (.iconst 0, 1) := by decide +kernel
theorem dX7_isFree_18 : decode cX7_isFree 18 = .ok (.ireturn, 1) := by decide +kernel
set_option maxRecDepth 20000 in
theorem ggX7_isAdmissible_X0_reach : GoodIn wsX7_isAdmissible wsX0_reach := goodIn_r _ [6, 7, 8, 5, 9, 10, 11, 12] (by decide +kernel) (by decide +kernel)
set_option maxRecDepth 20000 in
theorem gX7_isAdmissible_X0_reach : GoodIn wsX7_isAdmissible (va_wsS RX7 58 yX0_reach wsX0_reach) := goodIn_app (goodIn_of _ (by decide +kernel)) ggX7_isAdmissible_X0_reach
theorem dX7_isAdmissible_0 : decode cX7_isAdmissible 0 = .ok (.aload_n 0, 1) := by decide +kernel
theorem dX7_isAdmissible_1 : decode cX7_isAdmissible 1 = .ok (.getfield 25, 3) := by decide +kernel
theorem dX7_isAdmissible_4 : decode cX7_isAdmissible 4 = .ok (.iload_n 1, 1) := by decide +kernel
theorem dX7_isAdmissible_5 : decode cX7_isAdmissible 5 = .ok (.invokestatic 58, 3) := by decide +kernel
theorem dX7_isAdmissible_8 : decode cX7_isAdmissible 8 = .ok (.istore_n 2, 1) := by decide +kernel
theorem dX7_isAdmissible_9 : decode cX7_isAdmissible 9 = .ok (.iload_n 2, 1) := by decide +kernel
theorem dX7_isAdmissible_10 : decode cX7_isAdmissible 10 = .ok (.iload_n 1, 1) := by decide +kernel
theorem dX7_isAdmissible_11 : decode cX7_isAdmissible 11 = .ok (.iand, 1) := by decide +kernel
theorem dX7_isAdmissible_12 : decode cX7_isAdmissible 12 = .ok (.ifCond .ne 22, 3) := by decide +kernel
theorem dX7_isAdmissible_15 : decode cX7_isAdmissible 15 = .ok (.aload_n 0, 1) := by decide +kernel
theorem dX7_isAdmissible_16 : decode cX7_isAdmissible 16 = .ok (.getfield 29, 3) := by decide +kernel
theorem dX7_isAdmissible_19 : decode cX7_isAdmissible 19 = .ok (.iload_n 1, 1) := by decide +kernel
theorem dX7_isAdmissible_20 : decode cX7_isAdmissible 20 = .ok (.invokestatic 58, 3) := by decide +kernel
theorem dX7_isAdmissible_23 : decode cX7_isAdmissible 23 = .ok (.iload_n 2, 1) := by decide +kernel
theorem dX7_isAdmissible_24 : decode cX7_isAdmissible 24 = .ok (.iconst (-1), 1) := by decide +kernel
theorem dX7_isAdmissible_25 : decode cX7_isAdmissible 25 = .ok (.ixor, 1) := by decide +kernel
theorem dX7_isAdmissible_26 : decode cX7_isAdmissible 26 = .ok (.iand, 1) := by decide +kernel
theorem dX7_isAdmissible_27 : decode cX7_isAdmissible 27 = .ok (.ifCond .ne 7, 3) := by decide +kernel
theorem dX7_isAdmissible_30 : decode cX7_isAdmissible 30 = .ok (.iconst 1, 1) := by decide +kernel
theorem dX7_isAdmissible_31 : decode cX7_isAdmissible 31 = .ok (.goto 4, 3) := by decide +kernel
theorem dX7_isAdmissible_34 : decode cX7_isAdmissible 34 = .ok (.iconst 0, 1) := by decide +kernel
theorem dX7_isAdmissible_35 : decode cX7_isAdmissible 35 = .ok (.ireturn, 1) := by decide +kernel
set_option maxRecDepth 20000 in
theorem ggX7_isComplete_X7_isAdmissible : GoodIn wsX7_isComplete wsX7_isAdmissible := goodIn_r _ [5, 6, 7, 8, 9, 10, 11, 12, 13, 14, 15, 16, 17, 24, 25, 26, 27, 28, 29] (by decide +kernel) (by decide +kernel)
set_option maxRecDepth 20000 in
theorem gX7_isComplete_X7_isAdmissible : GoodIn wsX7_isComplete (wsV RX7 48 RX7 yX7_isAdmissible wsX7_isAdmissible) := goodIn_app (goodIn_of _ (by decide +kernel)) ggX7_isComplete_X7_isAdmissible
set_option maxRecDepth 20000 in
theorem ggX7_isComplete_X7_defendedBy : GoodIn wsX7_isComplete wsX7_defendedBy := goodIn_r _ [21, 6, 7, 22, 8, 9, 10, 11, 12, 13, 14, 15, 16, 17, 23, 24, 25, 26, 27, 28, 29] (by decide +kernel) (by decide +kernel)
set_option maxRecDepth 20000 in
theorem gX7_isComplete_X7_defendedBy : GoodIn wsX7_isComplete (wsV RX7 64 RX7 yX7_defendedBy wsX7_defendedBy) := goodIn_app (goodIn_of _ (by decide +kernel)) ggX7_isComplete_X7_defendedBy
theorem dX7_isComplete_0 : decode cX7_isComplete 0 = .ok (.aload_n 0, 1) := by decide +kernel
theorem dX7_isComplete_1 : decode cX7_isComplete 1 = .ok (.iload_n 1, 1) := by decide +kernel
theorem dX7_isComplete_2 : decode cX7_isComplete 2 = .ok (.invokevirtual 48, 3) := by decide +kernel
theorem dX7_isComplete_5 : decode cX7_isComplete 5 = .ok (.ifCond .eq 19, 3) := by decide +kernel
theorem dX7_isComplete_8 : decode cX7_isComplete 8 = .ok (.aload_n 0, 1) := by decide +kernel
theorem dX7_isComplete_9 : decode cX7_isComplete 9 = .ok (.iload_n 1, 1) := by decide +kernel
theorem dX7_isComplete_10 : decode cX7_isComplete 10 = .ok (.invokevirtual 64, 3) := by decide +kernel
theorem dX7_isComplete_13 : decode cX7_isComplete 13 = .ok (.iload_n 1, 1) := by decide +kernel
theorem dX7_isComplete_14 : decode cX7_isComplete 14 = .ok (.iconst (-1), 1) := by decide +kernel
theorem dX7_isComplete_15 : decode cX7_isComplete 15 = .ok (.ixor, 1) := by decide +kernel
theorem dX7_isComplete_16 : decode cX7_isComplete 16 = .ok (.iand, 1) := by decide +kernel
theorem dX7_isComplete_17 : decode cX7_isComplete 17 = .ok (.ifCond .ne 7, 3) := by decide +kernel
theorem dX7_isComplete_20 : decode cX7_isComplete 20 = .ok (.iconst 1, 1) := by decide +kernel
theorem dX7_isComplete_21 : decode cX7_isComplete 21 = .ok (.goto 4, 3) := by decide +kernel
theorem dX7_isComplete_24 : decode cX7_isComplete 24 = .ok (.iconst 0, 1) := by decide +kernel
theorem dX7_isComplete_25 : decode cX7_isComplete 25 = .ok (.ireturn, 1) := by decide +kernel
set_option maxRecDepth 20000 in
theorem ggX7_isStable_X0_reach : GoodIn wsX7_isStable wsX0_reach := goodIn_r _ [4, 5, 6, 3, 7, 8, 9, 10] (by decide +kernel) (by decide +kernel)
set_option maxRecDepth 20000 in
theorem gX7_isStable_X0_reach : GoodIn wsX7_isStable (va_wsS RX7 58 yX0_reach wsX0_reach) := goodIn_app (goodIn_of _ (by decide +kernel)) ggX7_isStable_X0_reach
theorem dX7_isStable_0 : decode cX7_isStable 0 = .ok (.lload_n 2, 1) := by decide +kernel
theorem dX7_isStable_1 : decode cX7_isStable 1 = .ok (.iload_n 0, 1) := by decide +kernel
theorem dX7_isStable_2 : decode cX7_isStable 2 = .ok (.invokestatic 58, 3) := by decide +kernel
theorem dX7_isStable_5 : decode cX7_isStable 5 = .ok (.iload_n 1, 1) := by decide +kernel
theorem dX7_isStable_6 : decode cX7_isStable 6 = .ok (.iload_n 0, 1) := by decide +kernel
theorem dX7_isStable_7 : decode cX7_isStable 7 = .ok (.iconst (-1), 1) := by decide +kernel
theorem dX7_isStable_8 : decode cX7_isStable 8 = .ok (.ixor, 1) := by decide +kernel
theorem dX7_isStable_9 : decode cX7_isStable 9 = .ok (.iand, 1) := by decide +kernel
theorem dX7_isStable_10 : decode cX7_isStable 10 = .ok (.if_icmp .ne 7, 3) := by decide +kernel
theorem dX7_isStable_13 : decode cX7_isStable 13 = .ok (.iconst 1, 1) := by decide +kernel
theorem dX7_isStable_14 : decode cX7_isStable 14 = .ok (.goto 4, 3) := by decide +kernel
theorem dX7_isStable_17 : decode cX7_isStable 17 = .ok (.iconst 0, 1) := by decide +kernel
theorem dX7_isStable_18 : decode cX7_isStable 18 = .ok (.ireturn, 1) := by decide +kernel
set_option maxRecDepth 20000 in
theorem ggX7_stableSets_X7_isStable : GoodIn wsX7_stableSets wsX7_isStable := goodIn_r _ [4, 5, 6, 7, 8, 9, 10, 11, 12, 13, 14] (by decide +kernel) (by decide +kernel)
set_option maxRecDepth 20000 in
theorem gX7_stableSets_X7_isStable : GoodIn wsX7_stableSets (va_wsS RX7 54 yX7_isStable wsX7_isStable) := goodIn_app (goodIn_of _ (by decide +kernel)) ggX7_stableSets_X7_isStable
theorem dX7_stableSets_0 : decode cX7_stableSets 0 = .ok (.iconst 0, 1) := by decide +kernel
theorem dX7_stableSets_1 : decode cX7_stableSets 1 = .ok (.istore_n 3, 1) := by decide +kernel
theorem dX7_stableSets_2 : decode cX7_stableSets 2 = .ok (.iconst 0, 1) := by decide +kernel
theorem dX7_stableSets_3 : decode cX7_stableSets 3 = .ok (.istore 4, 2) := by decide +kernel
theorem dX7_stableSets_5 : decode cX7_stableSets 5 = .ok (.iload 4, 2) := by decide +kernel
theorem dX7_stableSets_7 : decode cX7_stableSets 7 = .ok (.sipush 256, 3) := by decide +kernel
theorem dX7_stableSets_10 : decode cX7_stableSets 10 = .ok (.if_icmp .ge 31, 3) := by decide +kernel
theorem dX7_stableSets_13 : decode cX7_stableSets 13 = .ok (.iload 4, 2) := by decide +kernel
theorem dX7_stableSets_15 : decode cX7_stableSets 15 = .ok (.iload_n 0, 1) := by decide +kernel
theorem dX7_stableSets_16 : decode cX7_stableSets 16 = .ok (.iconst (-1), 1) := by decide +kernel
theorem dX7_stableSets_17 : decode cX7_stableSets 17 = .ok (.ixor, 1) := by decide +kernel
theorem dX7_stableSets_18 : decode cX7_stableSets 18 = .ok (.iand, 1) := by decide +kernel
theorem dX7_stableSets_19 : decode cX7_stableSets 19 = .ok (.ifCond .ne 16, 3) := by decide +kernel
theorem dX7_stableSets_22 : decode cX7_stableSets 22 = .ok (.iload 4, 2) := by decide +kernel
theorem dX7_stableSets_24 : decode cX7_stableSets 24 = .ok (.iload_n 0, 1) := by decide +kernel
theorem dX7_stableSets_25 : decode cX7_stableSets 25 = .ok (.lload_n 1, 1) := by decide +kernel
theorem dX7_stableSets_26 : decode cX7_stableSets 26 = .ok (.invokestatic 54, 3) := by decide +kernel
theorem dX7_stableSets_29 : decode cX7_stableSets 29 = .ok (.ifCond .eq 6, 3) := by decide +kernel
theorem dX7_stableSets_32 : decode cX7_stableSets 32 = .ok (.iinc 3 1, 3) := by decide +kernel
theorem dX7_stableSets_35 : decode cX7_stableSets 35 = .ok (.iinc 4 1, 3) := by decide +kernel
theorem dX7_stableSets_38 : decode cX7_stableSets 38 = .ok (.goto (-33), 3) := by decide +kernel
theorem dX7_stableSets_41 : decode cX7_stableSets 41 = .ok (.iload_n 3, 1) := by decide +kernel
theorem dX7_stableSets_42 : decode cX7_stableSets 42 = .ok (.ireturn, 1) := by decide +kernel
set_option maxRecDepth 20000 in
theorem ggX7_defendedBy_X0_reach : GoodIn wsX7_defendedBy wsX0_reach := goodIn_r _ [7, 8, 9, 6, 10, 11, 12, 13] (by decide +kernel) (by decide +kernel)
set_option maxRecDepth 20000 in
theorem gX7_defendedBy_X0_reach : GoodIn wsX7_defendedBy (va_wsS RX7 58 yX0_reach wsX0_reach) := goodIn_app (goodIn_of _ (by decide +kernel)) ggX7_defendedBy_X0_reach
set_option maxRecDepth 20000 in
theorem ggX7_defendedBy_X0_get : GoodIn wsX7_defendedBy wsX0_get := goodIn_r _ [13] (by decide +kernel) (by decide +kernel)
set_option maxRecDepth 20000 in
theorem gX7_defendedBy_X0_get : GoodIn wsX7_defendedBy (va_wsS RX7 68 yX0_get wsX0_get) := goodIn_app (goodIn_of _ (by decide +kernel)) ggX7_defendedBy_X0_get
theorem dX7_defendedBy_0 : decode cX7_defendedBy 0 = .ok (.aload_n 0, 1) := by decide +kernel
theorem dX7_defendedBy_1 : decode cX7_defendedBy 1 = .ok (.getfield 25, 3) := by decide +kernel
theorem dX7_defendedBy_4 : decode cX7_defendedBy 4 = .ok (.iload_n 1, 1) := by decide +kernel
theorem dX7_defendedBy_5 : decode cX7_defendedBy 5 = .ok (.invokestatic 58, 3) := by decide +kernel
theorem dX7_defendedBy_8 : decode cX7_defendedBy 8 = .ok (.istore_n 2, 1) := by decide +kernel
theorem dX7_defendedBy_9 : decode cX7_defendedBy 9 = .ok (.iconst 0, 1) := by decide +kernel
theorem dX7_defendedBy_10 : decode cX7_defendedBy 10 = .ok (.istore_n 3, 1) := by decide +kernel
theorem dX7_defendedBy_11 : decode cX7_defendedBy 11 = .ok (.iconst 0, 1) := by decide +kernel
theorem dX7_defendedBy_12 : decode cX7_defendedBy 12 = .ok (.istore 4, 2) := by decide +kernel
theorem dX7_defendedBy_14 : decode cX7_defendedBy 14 = .ok (.iload 4, 2) := by decide +kernel
theorem dX7_defendedBy_16 : decode cX7_defendedBy 16 = .ok (.bipush 8, 2) := by decide +kernel
theorem dX7_defendedBy_18 : decode cX7_defendedBy 18 = .ok (.if_icmp .ge 32, 3) := by decide +kernel
theorem dX7_defendedBy_21 : decode cX7_defendedBy 21 = .ok (.aload_n 0, 1) := by decide +kernel
theorem dX7_defendedBy_22 : decode cX7_defendedBy 22 = .ok (.getfield 29, 3) := by decide +kernel
theorem dX7_defendedBy_25 : decode cX7_defendedBy 25 = .ok (.iload 4, 2) := by decide +kernel
theorem dX7_defendedBy_27 : decode cX7_defendedBy 27 = .ok (.invokestatic 68, 3) := by decide +kernel
theorem dX7_defendedBy_30 : decode cX7_defendedBy 30 = .ok (.iload_n 2, 1) := by decide +kernel
theorem dX7_defendedBy_31 : decode cX7_defendedBy 31 = .ok (.iconst (-1), 1) := by decide +kernel
theorem dX7_defendedBy_32 : decode cX7_defendedBy 32 = .ok (.ixor, 1) := by decide +kernel
theorem dX7_defendedBy_33 : decode cX7_defendedBy 33 = .ok (.iand, 1) := by decide +kernel
theorem dX7_defendedBy_34 : decode cX7_defendedBy 34 = .ok (.ifCond .ne 10, 3) := by decide +kernel
theorem dX7_defendedBy_37 : decode cX7_defendedBy 37 = .ok (.iload_n 3, 1) := by decide +kernel
theorem dX7_defendedBy_38 : decode cX7_defendedBy 38 = .ok (.iconst 1, 1) := by decide +kernel
theorem dX7_defendedBy_39 : decode cX7_defendedBy 39 = .ok (.iload 4, 2) := by decide +kernel
theorem dX7_defendedBy_41 : decode cX7_defendedBy 41 = .ok (.ishl, 1) := by decide +kernel
theorem dX7_defendedBy_42 : decode cX7_defendedBy 42 = .ok (.ior, 1) := by decide +kernel
theorem dX7_defendedBy_43 : decode cX7_defendedBy 43 = .ok (.istore_n 3, 1) := by decide +kernel
theorem dX7_defendedBy_44 : decode cX7_defendedBy 44 = .ok (.iinc 4 1, 3) := by decide +kernel
theorem dX7_defendedBy_47 : decode cX7_defendedBy 47 = .ok (.goto (-33), 3) := by decide +kernel
theorem dX7_defendedBy_50 : decode cX7_defendedBy 50 = .ok (.iload_n 3, 1) := by decide +kernel
theorem dX7_defendedBy_51 : decode cX7_defendedBy 51 = .ok (.aload_n 0, 1) := by decide +kernel
theorem dX7_defendedBy_52 : decode cX7_defendedBy 52 = .ok (.getfield 21, 3) := by decide +kernel
theorem dX7_defendedBy_55 : decode cX7_defendedBy 55 = .ok (.iand, 1) := by decide +kernel
theorem dX7_defendedBy_56 : decode cX7_defendedBy 56 = .ok (.ireturn, 1) := by decide +kernel
set_option maxRecDepth 20000 in
theorem ggX7_dropSurpassed_X7_rangeOf : GoodIn wsX7_dropSurpassed wsX7_rangeOf := goodIn_r _ [7, 8, 9, 10, 11, 12, 13, 14, 15, 16, 17, 18, 36, 37, 38, 39, 40, 41] (by decide +kernel) (by decide +kernel)
set_option maxRecDepth 20000 in
theorem gX7_dropSurpassed_X7_rangeOf : GoodIn wsX7_dropSurpassed (wsV RX7 71 RX7 yX7_rangeOf wsX7_rangeOf) := goodIn_app (goodIn_of _ (by decide +kernel)) ggX7_dropSurpassed_X7_rangeOf
set_option maxRecDepth 20000 in
theorem ggX7_dropSurpassed_X7_mark : GoodIn wsX7_dropSurpassed wsX7_mark := goodIn_r _ [22, 1, 36, 37, 38, 39, 40, 41] (by decide +kernel) (by decide +kernel)
set_option maxRecDepth 20000 in
theorem gX7_dropSurpassed_X7_mark : GoodIn wsX7_dropSurpassed (wsV RX7 74 RX7 yX7_mark wsX7_mark) := goodIn_app (goodIn_of _ (by decide +kernel)) ggX7_dropSurpassed_X7_mark
set_option maxRecDepth 20000 in
theorem ggX7_dropSurpassed_X7_findSurpassed : GoodIn wsX7_dropSurpassed wsX7_findSurpassed := goodIn_r _ [26, 27, 28, 29, 30, 6, 31, 1, 32, 33, 34, 35, 36, 37, 38, 39, 40, 41] (by decide +kernel) (by decide +kernel)
set_option maxRecDepth 20000 in
theorem gX7_dropSurpassed_X7_findSurpassed : GoodIn wsX7_dropSurpassed (wsV RX7 78 RX7 yX7_findSurpassed wsX7_findSurpassed) := goodIn_app (goodIn_of _ (by decide +kernel)) ggX7_dropSurpassed_X7_findSurpassed
set_option maxRecDepth 20000 in
theorem ggX7_dropSurpassed_X7_isSurpassed : GoodIn wsX7_dropSurpassed wsX7_isSurpassed := goodIn_r _ [35, 27, 36, 37, 38, 39, 40, 41] (by decide +kernel) (by decide +kernel)
set_option maxRecDepth 20000 in
theorem gX7_dropSurpassed_X7_isSurpassed : GoodIn wsX7_dropSurpassed (wsV RX7 81 RX7 yX7_isSurpassed wsX7_isSurpassed) := goodIn_app (goodIn_of _ (by decide +kernel)) ggX7_dropSurpassed_X7_isSurpassed
theorem dX7_dropSurpassed_0 : decode cX7_dropSurpassed 0 = .ok (.iconst 0, 1) := by decide +kernel
theorem dX7_dropSurpassed_1 : decode cX7_dropSurpassed 1 = .ok (.istore_n 2, 1) := by decide +kernel
theorem dX7_dropSurpassed_2 : decode cX7_dropSurpassed 2 = .ok (.iload_n 2, 1) := by decide +kernel
theorem dX7_dropSurpassed_3 : decode cX7_dropSurpassed 3 = .ok (.aload_n 0, 1) := by decide +kernel
theorem dX7_dropSurpassed_4 : decode cX7_dropSurpassed 4 = .ok (.getfield 15, 3) := by decide +kernel
theorem dX7_dropSurpassed_7 : decode cX7_dropSurpassed 7 = .ok (.arraylength, 1) := by decide +kernel
theorem dX7_dropSurpassed_8 : decode cX7_dropSurpassed 8 = .ok (.if_icmp .ge 16, 3) := by decide +kernel
theorem dX7_dropSurpassed_11 : decode cX7_dropSurpassed 11 = .ok (.aload_n 0, 1) := by decide +kernel
theorem dX7_dropSurpassed_12 : decode cX7_dropSurpassed 12 = .ok (.getfield 15, 3) := by decide +kernel
theorem dX7_dropSurpassed_15 : decode cX7_dropSurpassed 15 = .ok (.iload_n 2, 1) := by decide +kernel
theorem dX7_dropSurpassed_16 : decode cX7_dropSurpassed 16 = .ok (.iconst 0, 1) := by decide +kernel
theorem dX7_dropSurpassed_17 : decode cX7_dropSurpassed 17 = .ok (.bastore, 1) := by decide +kernel
theorem dX7_dropSurpassed_18 : decode cX7_dropSurpassed 18 = .ok (.iinc 2 1, 3) := by decide +kernel
theorem dX7_dropSurpassed_21 : decode cX7_dropSurpassed 21 = .ok (.goto (-19), 3) := by decide +kernel
theorem dX7_dropSurpassed_24 : decode cX7_dropSurpassed 24 = .ok (.iconst 0, 1) := by decide +kernel
theorem dX7_dropSurpassed_25 : decode cX7_dropSurpassed 25 = .ok (.istore_n 2, 1) := by decide +kernel
theorem dX7_dropSurpassed_26 : decode cX7_dropSurpassed 26 = .ok (.iload_n 2, 1) := by decide +kernel
theorem dX7_dropSurpassed_27 : decode cX7_dropSurpassed 27 = .ok (.aload_n 0, 1) := by decide +kernel
theorem dX7_dropSurpassed_28 : decode cX7_dropSurpassed 28 = .ok (.getfield 9, 3) := by decide +kernel
theorem dX7_dropSurpassed_31 : decode cX7_dropSurpassed 31 = .ok (.arraylength, 1) := by decide +kernel
theorem dX7_dropSurpassed_32 : decode cX7_dropSurpassed 32 = .ok (.if_icmp .ge 35, 3) := by decide +kernel
theorem dX7_dropSurpassed_35 : decode cX7_dropSurpassed 35 = .ok (.aload_n 0, 1) := by decide +kernel
theorem dX7_dropSurpassed_36 : decode cX7_dropSurpassed 36 = .ok (.getfield 9, 3) := by decide +kernel
theorem dX7_dropSurpassed_39 : decode cX7_dropSurpassed 39 = .ok (.iload_n 2, 1) := by decide +kernel
theorem dX7_dropSurpassed_40 : decode cX7_dropSurpassed 40 = .ok (.baload, 1) := by decide +kernel
theorem dX7_dropSurpassed_41 : decode cX7_dropSurpassed 41 = .ok (.ifCond .eq 20, 3) := by decide +kernel
theorem dX7_dropSurpassed_44 : decode cX7_dropSurpassed 44 = .ok (.aload_n 0, 1) := by decide +kernel
theorem dX7_dropSurpassed_45 : decode cX7_dropSurpassed 45 = .ok (.iload_n 1, 1) := by decide +kernel
theorem dX7_dropSurpassed_46 : decode cX7_dropSurpassed 46 = .ok (.ifCond .eq 11, 3) := by decide +kernel
theorem dX7_dropSurpassed_49 : decode cX7_dropSurpassed 49 = .ok (.aload_n 0, 1) := by decide +kernel
theorem dX7_dropSurpassed_50 : decode cX7_dropSurpassed 50 = .ok (.iload_n 2, 1) := by decide +kernel
theorem dX7_dropSurpassed_51 : decode cX7_dropSurpassed 51 = .ok (.invokevirtual 71, 3) := by decide +kernel
theorem dX7_dropSurpassed_54 : decode cX7_dropSurpassed 54 = .ok (.goto 4, 3) := by decide +kernel
theorem dX7_dropSurpassed_57 : decode cX7_dropSurpassed 57 = .ok (.iload_n 2, 1) := by decide +kernel
theorem dX7_dropSurpassed_58 : decode cX7_dropSurpassed 58 = .ok (.invokevirtual 74, 3) := by decide +kernel
theorem dX7_dropSurpassed_61 : decode cX7_dropSurpassed 61 = .ok (.iinc 2 1, 3) := by decide +kernel
theorem dX7_dropSurpassed_64 : decode cX7_dropSurpassed 64 = .ok (.goto (-38), 3) := by decide +kernel
theorem dX7_dropSurpassed_67 : decode cX7_dropSurpassed 67 = .ok (.aload_n 0, 1) := by decide +kernel
theorem dX7_dropSurpassed_68 : decode cX7_dropSurpassed 68 = .ok (.invokevirtual 78, 3) := by decide +kernel
theorem dX7_dropSurpassed_71 : decode cX7_dropSurpassed 71 = .ok (.iconst 0, 1) := by decide +kernel
theorem dX7_dropSurpassed_72 : decode cX7_dropSurpassed 72 = .ok (.istore_n 2, 1) := by decide +kernel
theorem dX7_dropSurpassed_73 : decode cX7_dropSurpassed 73 = .ok (.iload_n 2, 1) := by decide +kernel
theorem dX7_dropSurpassed_74 : decode cX7_dropSurpassed 74 = .ok (.aload_n 0, 1) := by decide +kernel
theorem dX7_dropSurpassed_75 : decode cX7_dropSurpassed 75 = .ok (.getfield 9, 3) := by decide +kernel
theorem dX7_dropSurpassed_78 : decode cX7_dropSurpassed 78 = .ok (.arraylength, 1) := by decide +kernel
theorem dX7_dropSurpassed_79 : decode cX7_dropSurpassed 79 = .ok (.if_icmp .ge 49, 3) := by decide +kernel
theorem dX7_dropSurpassed_82 : decode cX7_dropSurpassed 82 = .ok (.aload_n 0, 1) := by decide +kernel
theorem dX7_dropSurpassed_83 : decode cX7_dropSurpassed 83 = .ok (.getfield 9, 3) := by decide +kernel
theorem dX7_dropSurpassed_86 : decode cX7_dropSurpassed 86 = .ok (.iload_n 2, 1) := by decide +kernel
theorem dX7_dropSurpassed_87 : decode cX7_dropSurpassed 87 = .ok (.aload_n 0, 1) := by decide +kernel
theorem dX7_dropSurpassed_88 : decode cX7_dropSurpassed 88 = .ok (.getfield 9, 3) := by decide +kernel
theorem dX7_dropSurpassed_91 : decode cX7_dropSurpassed 91 = .ok (.iload_n 2, 1) := by decide +kernel
theorem dX7_dropSurpassed_92 : decode cX7_dropSurpassed 92 = .ok (.baload, 1) := by decide +kernel
theorem dX7_dropSurpassed_93 : decode cX7_dropSurpassed 93 = .ok (.ifCond .eq 27, 3) := by decide +kernel
theorem dX7_dropSurpassed_96 : decode cX7_dropSurpassed 96 = .ok (.aload_n 0, 1) := by decide +kernel
theorem dX7_dropSurpassed_97 : decode cX7_dropSurpassed 97 = .ok (.iload_n 1, 1) := by decide +kernel
theorem dX7_dropSurpassed_98 : decode cX7_dropSurpassed 98 = .ok (.ifCond .eq 11, 3) := by decide +kernel
theorem dX7_dropSurpassed_101 : decode cX7_dropSurpassed 101 = .ok (.aload_n 0, 1) := by decide +kernel
theorem dX7_dropSurpassed_102 : decode cX7_dropSurpassed 102 = .ok (.iload_n 2, 1) := by decide +kernel
theorem dX7_dropSurpassed_103 : decode cX7_dropSurpassed 103 = .ok (.invokevirtual 71, 3) := by decide +kernel
theorem dX7_dropSurpassed_106 : decode cX7_dropSurpassed 106 = .ok (.goto 4, 3) := by decide +kernel
theorem dX7_dropSurpassed_109 : decode cX7_dropSurpassed 109 = .ok (.iload_n 2, 1) := by decide +kernel
theorem dX7_dropSurpassed_110 : decode cX7_dropSurpassed 110 = .ok (.invokevirtual 81, 3) := by decide +kernel
theorem dX7_dropSurpassed_113 : decode cX7_dropSurpassed 113 = .ok (.ifCond .ne 7, 3) := by decide +kernel
theorem dX7_dropSurpassed_116 : decode cX7_dropSurpassed 116 = .ok (.iconst 1, 1) := by decide +kernel
theorem dX7_dropSurpassed_117 : decode cX7_dropSurpassed 117 = .ok (.goto 4, 3) := by decide +kernel
theorem dX7_dropSurpassed_120 : decode cX7_dropSurpassed 120 = .ok (.iconst 0, 1) := by decide +kernel
theorem dX7_dropSurpassed_121 : decode cX7_dropSurpassed 121 = .ok (.bastore, 1) := by decide +kernel
theorem dX7_dropSurpassed_122 : decode cX7_dropSurpassed 122 = .ok (.iinc 2 1, 3) := by decide +kernel
theorem dX7_dropSurpassed_125 : decode cX7_dropSurpassed 125 = .ok (.goto (-52), 3) := by decide +kernel
theorem dX7_dropSurpassed_128 : decode cX7_dropSurpassed 128 = .ok (.return_, 1) := by decide +kernel
set_option maxRecDepth 20000 in
theorem ggX7_rangeOf_X0_reach : GoodIn wsX7_rangeOf wsX0_reach := goodIn_r _ [5, 6, 7, 4, 8, 9, 10, 11] (by decide +kernel) (by decide +kernel)
set_option maxRecDepth 20000 in
theorem gX7_rangeOf_X0_reach : GoodIn wsX7_rangeOf (va_wsS RX7 58 yX0_reach wsX0_reach) := goodIn_app (goodIn_of _ (by decide +kernel)) ggX7_rangeOf_X0_reach
theorem dX7_rangeOf_0 : decode cX7_rangeOf 0 = .ok (.iload_n 1, 1) := by decide +kernel
theorem dX7_rangeOf_1 : decode cX7_rangeOf 1 = .ok (.aload_n 0, 1) := by decide +kernel
theorem dX7_rangeOf_2 : decode cX7_rangeOf 2 = .ok (.getfield 25, 3) := by decide +kernel
theorem dX7_rangeOf_5 : decode cX7_rangeOf 5 = .ok (.iload_n 1, 1) := by decide +kernel
theorem dX7_rangeOf_6 : decode cX7_rangeOf 6 = .ok (.invokestatic 58, 3) := by decide +kernel
theorem dX7_rangeOf_9 : decode cX7_rangeOf 9 = .ok (.ior, 1) := by decide +kernel
theorem dX7_rangeOf_10 : decode cX7_rangeOf 10 = .ok (.ireturn, 1) := by decide +kernel
theorem dX7_mark_0 : decode cX7_mark 0 = .ok (.iload_n 1, 1) := by decide +kernel
theorem dX7_mark_1 : decode cX7_mark 1 = .ok (.ifCond .lt 19, 3) := by decide +kernel
theorem dX7_mark_4 : decode cX7_mark 4 = .ok (.iload_n 1, 1) := by decide +kernel
theorem dX7_mark_5 : decode cX7_mark 5 = .ok (.aload_n 0, 1) := by decide +kernel
theorem dX7_mark_6 : decode cX7_mark 6 = .ok (.getfield 15, 3) := by decide +kernel
theorem dX7_mark_9 : decode cX7_mark 9 = .ok (.arraylength, 1) := by decide +kernel
theorem dX7_mark_10 : decode cX7_mark 10 = .ok (.if_icmp .ge 10, 3) := by decide +kernel
theorem dX7_mark_13 : decode cX7_mark 13 = .ok (.aload_n 0, 1) := by decide +kernel
theorem dX7_mark_14 : decode cX7_mark 14 = .ok (.getfield 15, 3) := by decide +kernel
theorem dX7_mark_17 : decode cX7_mark 17 = .ok (.iload_n 1, 1) := by decide +kernel
theorem dX7_mark_18 : decode cX7_mark 18 = .ok (.iconst 1, 1) := by decide +kernel
theorem dX7_mark_19 : decode cX7_mark 19 = .ok (.bastore, 1) := by decide +kernel
theorem dX7_mark_20 : decode cX7_mark 20 = .ok (.return_, 1) := by decide +kernel
set_option maxRecDepth 20000 in
theorem ggX7_findSurpassed_X7_isMarked : GoodIn wsX7_findSurpassed wsX7_isMarked := goodIn_r _ [6, 7, 12, 13, 14, 15, 16, 17] (by decide +kernel) (by decide +kernel)
set_option maxRecDepth 20000 in
theorem gX7_findSurpassed_X7_isMarked : GoodIn wsX7_findSurpassed (wsV RX7 84 RX7 yX7_isMarked wsX7_isMarked) := goodIn_app (goodIn_of _ (by decide +kernel)) ggX7_findSurpassed_X7_isMarked
set_option maxRecDepth 20000 in
theorem ggX7_findSurpassed_X7_isSurpassed : GoodIn wsX7_findSurpassed wsX7_isSurpassed := goodIn_r _ [11, 1, 12, 13, 14, 15, 16, 17] (by decide +kernel) (by decide +kernel)
set_option maxRecDepth 20000 in
theorem gX7_findSurpassed_X7_isSurpassed : GoodIn wsX7_findSurpassed (wsV RX7 81 RX7 yX7_isSurpassed wsX7_isSurpassed) := goodIn_app (goodIn_of _ (by decide +kernel)) ggX7_findSurpassed_X7_isSurpassed
theorem dX7_findSurpassed_0 : decode cX7_findSurpassed 0 = .ok (.aload_n 0, 1) := by decide +kernel
theorem dX7_findSurpassed_1 : decode cX7_findSurpassed 1 = .ok (.getfield 18, 3) := by decide +kernel
theorem dX7_findSurpassed_4 : decode cX7_findSurpassed 4 = .ok (.arraylength, 1) := by decide +kernel
theorem dX7_findSurpassed_5 : decode cX7_findSurpassed 5 = .ok (.iconst 1, 1) := by decide +kernel
theorem dX7_findSurpassed_6 : decode cX7_findSurpassed 6 = .ok (.isub, 1) := by decide +kernel
theorem dX7_findSurpassed_7 : decode cX7_findSurpassed 7 = .ok (.istore_n 1, 1) := by decide +kernel
theorem dX7_findSurpassed_8 : decode cX7_findSurpassed 8 = .ok (.iload_n 1, 1) := by decide +kernel
theorem dX7_findSurpassed_9 : decode cX7_findSurpassed 9 = .ok (.ifCond .lt 65, 3) := by decide +kernel
theorem dX7_findSurpassed_12 : decode cX7_findSurpassed 12 = .ok (.iconst 0, 1) := by decide +kernel
theorem dX7_findSurpassed_13 : decode cX7_findSurpassed 13 = .ok (.istore_n 2, 1) := by decide +kernel
theorem dX7_findSurpassed_14 : decode cX7_findSurpassed 14 = .ok (.iconst 0, 1) := by decide +kernel
theorem dX7_findSurpassed_15 : decode cX7_findSurpassed 15 = .ok (.istore_n 3, 1) := by decide +kernel
theorem dX7_findSurpassed_16 : decode cX7_findSurpassed 16 = .ok (.iload_n 3, 1) := by decide +kernel
theorem dX7_findSurpassed_17 : decode cX7_findSurpassed 17 = .ok (.bipush 8, 2) := by decide +kernel
theorem dX7_findSurpassed_19 : decode cX7_findSurpassed 19 = .ok (.if_icmp .ge 42, 3) := by decide +kernel
theorem dX7_findSurpassed_22 : decode cX7_findSurpassed 22 = .ok (.iload_n 1, 1) := by decide +kernel
theorem dX7_findSurpassed_23 : decode cX7_findSurpassed 23 = .ok (.iconst 1, 1) := by decide +kernel
theorem dX7_findSurpassed_24 : decode cX7_findSurpassed 24 = .ok (.iload_n 3, 1) := by decide +kernel
theorem dX7_findSurpassed_25 : decode cX7_findSurpassed 25 = .ok (.ishl, 1) := by decide +kernel
theorem dX7_findSurpassed_26 : decode cX7_findSurpassed 26 = .ok (.ior, 1) := by decide +kernel
theorem dX7_findSurpassed_27 : decode cX7_findSurpassed 27 = .ok (.istore 4, 2) := by decide +kernel
theorem dX7_findSurpassed_29 : decode cX7_findSurpassed 29 = .ok (.iload 4, 2) := by decide +kernel
theorem dX7_findSurpassed_31 : decode cX7_findSurpassed 31 = .ok (.iload_n 1, 1) := by decide +kernel
theorem dX7_findSurpassed_32 : decode cX7_findSurpassed 32 = .ok (.if_icmp .eq 23, 3) := by decide +kernel
theorem dX7_findSurpassed_35 : decode cX7_findSurpassed 35 = .ok (.aload_n 0, 1) := by decide +kernel
theorem dX7_findSurpassed_36 : decode cX7_findSurpassed 36 = .ok (.iload 4, 2) := by decide +kernel
theorem dX7_findSurpassed_38 : decode cX7_findSurpassed 38 = .ok (.invokevirtual 84, 3) := by decide +kernel
theorem dX7_findSurpassed_41 : decode cX7_findSurpassed 41 = .ok (.ifCond .ne 12, 3) := by decide +kernel
theorem dX7_findSurpassed_44 : decode cX7_findSurpassed 44 = .ok (.aload_n 0, 1) := by decide +kernel
theorem dX7_findSurpassed_45 : decode cX7_findSurpassed 45 = .ok (.iload 4, 2) := by decide +kernel
theorem dX7_findSurpassed_47 : decode cX7_findSurpassed 47 = .ok (.invokevirtual 81, 3) := by decide +kernel
theorem dX7_findSurpassed_50 : decode cX7_findSurpassed 50 = .ok (.ifCond .eq 5, 3) := by decide +kernel
theorem dX7_findSurpassed_53 : decode cX7_findSurpassed 53 = .ok (.iconst 1, 1) := by decide +kernel
theorem dX7_findSurpassed_54 : decode cX7_findSurpassed 54 = .ok (.istore_n 2, 1) := by decide +kernel
theorem dX7_findSurpassed_55 : decode cX7_findSurpassed 55 = .ok (.iinc 3 1, 3) := by decide +kernel
theorem dX7_findSurpassed_58 : decode cX7_findSurpassed 58 = .ok (.goto (-42), 3) := by decide +kernel
theorem dX7_findSurpassed_61 : decode cX7_findSurpassed 61 = .ok (.aload_n 0, 1) := by decide +kernel
theorem dX7_findSurpassed_62 : decode cX7_findSurpassed 62 = .ok (.getfield 18, 3) := by decide +kernel
theorem dX7_findSurpassed_65 : decode cX7_findSurpassed 65 = .ok (.iload_n 1, 1) := by decide +kernel
theorem dX7_findSurpassed_66 : decode cX7_findSurpassed 66 = .ok (.iload_n 2, 1) := by decide +kernel
theorem dX7_findSurpassed_67 : decode cX7_findSurpassed 67 = .ok (.bastore, 1) := by decide +kernel
theorem dX7_findSurpassed_68 : decode cX7_findSurpassed 68 = .ok (.iinc 1 (-1), 3) := by decide +kernel
theorem dX7_findSurpassed_71 : decode cX7_findSurpassed 71 = .ok (.goto (-63), 3) := by decide +kernel
theorem dX7_findSurpassed_74 : decode cX7_findSurpassed 74 = .ok (.return_, 1) := by decide +kernel
theorem dX7_isMarked_0 : decode cX7_isMarked 0 = .ok (.iload_n 1, 1) := by decide +kernel
theorem dX7_isMarked_1 : decode cX7_isMarked 1 = .ok (.ifCond .lt 25, 3) := by decide +kernel
theorem dX7_isMarked_4 : decode cX7_isMarked 4 = .ok (.iload_n 1, 1) := by decide +kernel
theorem dX7_isMarked_5 : decode cX7_isMarked 5 = .ok (.aload_n 0, 1) := by decide +kernel
theorem dX7_isMarked_6 : decode cX7_isMarked 6 = .ok (.getfield 15, 3) := by decide +kernel
theorem dX7_isMarked_9 : decode cX7_isMarked 9 = .ok (.arraylength, 1) := by decide +kernel
theorem dX7_isMarked_10 : decode cX7_isMarked 10 = .ok (.if_icmp .ge 16, 3) := by decide +kernel
theorem dX7_isMarked_13 : decode cX7_isMarked 13 = .ok (.aload_n 0, 1) := by decide +kernel
theorem dX7_isMarked_14 : decode cX7_isMarked 14 = .ok (.getfield 15, 3) := by decide +kernel
theorem dX7_isMarked_17 : decode cX7_isMarked 17 = .ok (.iload_n 1, 1) := by decide +kernel
theorem dX7_isMarked_18 : decode cX7_isMarked 18 = .ok (.baload, 1) := by decide +kernel
theorem dX7_isMarked_19 : decode cX7_isMarked 19 = .ok (.ifCond .eq 7, 3) := by decide +kernel
theorem dX7_isMarked_22 : decode cX7_isMarked 22 = .ok (.iconst 1, 1) := by decide +kernel
theorem dX7_isMarked_23 : decode cX7_isMarked 23 = .ok (.goto 4, 3) := by decide +kernel
theorem dX7_isMarked_26 : decode cX7_isMarked 26 = .ok (.iconst 0, 1) := by decide +kernel
theorem dX7_isMarked_27 : decode cX7_isMarked 27 = .ok (.ireturn, 1) := by decide +kernel
theorem dX7_isSurpassed_0 : decode cX7_isSurpassed 0 = .ok (.iload_n 1, 1) := by decide +kernel
theorem dX7_isSurpassed_1 : decode cX7_isSurpassed 1 = .ok (.ifCond .lt 25, 3) := by decide +kernel
theorem dX7_isSurpassed_4 : decode cX7_isSurpassed 4 = .ok (.iload_n 1, 1) := by decide +kernel
theorem dX7_isSurpassed_5 : decode cX7_isSurpassed 5 = .ok (.aload_n 0, 1) := by decide +kernel
theorem dX7_isSurpassed_6 : decode cX7_isSurpassed 6 = .ok (.getfield 18, 3) := by decide +kernel
theorem dX7_isSurpassed_9 : decode cX7_isSurpassed 9 = .ok (.arraylength, 1) := by decide +kernel
theorem dX7_isSurpassed_10 : decode cX7_isSurpassed 10 = .ok (.if_icmp .ge 16, 3) := by decide +kernel
theorem dX7_isSurpassed_13 : decode cX7_isSurpassed 13 = .ok (.aload_n 0, 1) := by decide +kernel
theorem dX7_isSurpassed_14 : decode cX7_isSurpassed 14 = .ok (.getfield 18, 3) := by decide +kernel
theorem dX7_isSurpassed_17 : decode cX7_isSurpassed 17 = .ok (.iload_n 1, 1) := by decide +kernel
theorem dX7_isSurpassed_18 : decode cX7_isSurpassed 18 = .ok (.baload, 1) := by decide +kernel
theorem dX7_isSurpassed_19 : decode cX7_isSurpassed 19 = .ok (.ifCond .eq 7, 3) := by decide +kernel
theorem dX7_isSurpassed_22 : decode cX7_isSurpassed 22 = .ok (.iconst 1, 1) := by decide +kernel
theorem dX7_isSurpassed_23 : decode cX7_isSurpassed 23 = .ok (.goto 4, 3) := by decide +kernel
theorem dX7_isSurpassed_26 : decode cX7_isSurpassed 26 = .ok (.iconst 0, 1) := by decide +kernel
theorem dX7_isSurpassed_27 : decode cX7_isSurpassed 27 = .ok (.ireturn, 1) := by decide +kernel
theorem dX7_size_0 : decode cX7_size 0 = .ok (.iconst 0, 1) := by decide +kernel
theorem dX7_size_1 : decode cX7_size 1 = .ok (.istore_n 1, 1) := by decide +kernel
theorem dX7_size_2 : decode cX7_size 2 = .ok (.iconst 0, 1) := by decide +kernel
theorem dX7_size_3 : decode cX7_size 3 = .ok (.istore_n 2, 1) := by decide +kernel
theorem dX7_size_4 : decode cX7_size 4 = .ok (.iload_n 2, 1) := by decide +kernel
theorem dX7_size_5 : decode cX7_size 5 = .ok (.aload_n 0, 1) := by decide +kernel
theorem dX7_size_6 : decode cX7_size 6 = .ok (.getfield 9, 3) := by decide +kernel
theorem dX7_size_9 : decode cX7_size 9 = .ok (.arraylength, 1) := by decide +kernel
theorem dX7_size_10 : decode cX7_size 10 = .ok (.if_icmp .ge 21, 3) := by decide +kernel
theorem dX7_size_13 : decode cX7_size 13 = .ok (.aload_n 0, 1) := by decide +kernel
theorem dX7_size_14 : decode cX7_size 14 = .ok (.getfield 9, 3) := by decide +kernel
theorem dX7_size_17 : decode cX7_size 17 = .ok (.iload_n 2, 1) := by decide +kernel
theorem dX7_size_18 : decode cX7_size 18 = .ok (.baload, 1) := by decide +kernel
theorem dX7_size_19 : decode cX7_size 19 = .ok (.ifCond .eq 6, 3) := by decide +kernel
theorem dX7_size_22 : decode cX7_size 22 = .ok (.iinc 1 1, 3) := by decide +kernel
theorem dX7_size_25 : decode cX7_size 25 = .ok (.iinc 2 1, 3) := by decide +kernel
theorem dX7_size_28 : decode cX7_size 28 = .ok (.goto (-24), 3) := by decide +kernel
theorem dX7_size_31 : decode cX7_size 31 = .ok (.iload_n 1, 1) := by decide +kernel
theorem dX7_size_32 : decode cX7_size 32 = .ok (.ireturn, 1) := by decide +kernel
set_option maxRecDepth 20000 in
theorem ggX7_sizeWith_X0_contains : GoodIn wsX7_sizeWith wsX0_contains := goodIn_r _ [5] (by decide +kernel) (by decide +kernel)
set_option maxRecDepth 20000 in
theorem gX7_sizeWith_X0_contains : GoodIn wsX7_sizeWith (va_wsS RX7 87 yX0_contains wsX0_contains) := goodIn_app (goodIn_of _ (by decide +kernel)) ggX7_sizeWith_X0_contains
theorem dX7_sizeWith_0 : decode cX7_sizeWith 0 = .ok (.iconst 0, 1) := by decide +kernel
theorem dX7_sizeWith_1 : decode cX7_sizeWith 1 = .ok (.istore_n 2, 1) := by decide +kernel
theorem dX7_sizeWith_2 : decode cX7_sizeWith 2 = .ok (.iconst 0, 1) := by decide +kernel
theorem dX7_sizeWith_3 : decode cX7_sizeWith 3 = .ok (.istore_n 3, 1) := by decide +kernel
theorem dX7_sizeWith_4 : decode cX7_sizeWith 4 = .ok (.iload_n 3, 1) := by decide +kernel
theorem dX7_sizeWith_5 : decode cX7_sizeWith 5 = .ok (.aload_n 0, 1) := by decide +kernel
theorem dX7_sizeWith_6 : decode cX7_sizeWith 6 = .ok (.getfield 9, 3) := by decide +kernel
theorem dX7_sizeWith_9 : decode cX7_sizeWith 9 = .ok (.arraylength, 1) := by decide +kernel
theorem dX7_sizeWith_10 : decode cX7_sizeWith 10 = .ok (.if_icmp .ge 29, 3) := by decide +kernel
theorem dX7_sizeWith_13 : decode cX7_sizeWith 13 = .ok (.aload_n 0, 1) := by decide +kernel
theorem dX7_sizeWith_14 : decode cX7_sizeWith 14 = .ok (.getfield 9, 3) := by decide +kernel
theorem dX7_sizeWith_17 : decode cX7_sizeWith 17 = .ok (.iload_n 3, 1) := by decide +kernel
theorem dX7_sizeWith_18 : decode cX7_sizeWith 18 = .ok (.baload, 1) := by decide +kernel
theorem dX7_sizeWith_19 : decode cX7_sizeWith 19 = .ok (.ifCond .eq 14, 3) := by decide +kernel
theorem dX7_sizeWith_22 : decode cX7_sizeWith 22 = .ok (.iload_n 3, 1) := by decide +kernel
theorem dX7_sizeWith_23 : decode cX7_sizeWith 23 = .ok (.iload_n 1, 1) := by decide +kernel
theorem dX7_sizeWith_24 : decode cX7_sizeWith 24 = .ok (.invokestatic 87, 3) := by decide +kernel
theorem dX7_sizeWith_27 : decode cX7_sizeWith 27 = .ok (.ifCond .eq 6, 3) := by decide +kernel
theorem dX7_sizeWith_30 : decode cX7_sizeWith 30 = .ok (.iinc 2 1, 3) := by decide +kernel
theorem dX7_sizeWith_33 : decode cX7_sizeWith 33 = .ok (.iinc 3 1, 3) := by decide +kernel
theorem dX7_sizeWith_36 : decode cX7_sizeWith 36 = .ok (.goto (-32), 3) := by decide +kernel
theorem dX7_sizeWith_39 : decode cX7_sizeWith 39 = .ok (.iload_n 2, 1) := by decide +kernel
theorem dX7_sizeWith_40 : decode cX7_sizeWith 40 = .ok (.ireturn, 1) := by decide +kernel
set_option maxRecDepth 20000 in
theorem ggX7_at_J6_bitCount_0f7a4 : GoodIn wsX7_at wsJ6_bitCount_0f7a4 := goodIn_r _ [5, 6, 7, 8] (by decide +kernel) (by decide +kernel)
set_option maxRecDepth 20000 in
theorem gX7_at_J6_bitCount_0f7a4 : GoodIn wsX7_at (va_wsS RX7 90 yJ6_bitCount_0f7a4 wsJ6_bitCount_0f7a4) := goodIn_app (goodIn_of _ (by decide +kernel)) ggX7_at_J6_bitCount_0f7a4
theorem dX7_at_0 : decode cX7_at 0 = .ok (.iconst 0, 1) := by decide +kernel
theorem dX7_at_1 : decode cX7_at 1 = .ok (.istore_n 2, 1) := by decide +kernel
theorem dX7_at_2 : decode cX7_at 2 = .ok (.bipush 8, 2) := by decide +kernel
theorem dX7_at_4 : decode cX7_at 4 = .ok (.istore_n 3, 1) := by decide +kernel
theorem dX7_at_5 : decode cX7_at 5 = .ok (.iload_n 3, 1) := by decide +kernel
theorem dX7_at_6 : decode cX7_at 6 = .ok (.ifCond .lt 58, 3) := by decide +kernel
theorem dX7_at_9 : decode cX7_at 9 = .ok (.iconst 0, 1) := by decide +kernel
theorem dX7_at_10 : decode cX7_at 10 = .ok (.istore 4, 2) := by decide +kernel
theorem dX7_at_12 : decode cX7_at 12 = .ok (.iload 4, 2) := by decide +kernel
theorem dX7_at_14 : decode cX7_at 14 = .ok (.aload_n 0, 1) := by decide +kernel
theorem dX7_at_15 : decode cX7_at 15 = .ok (.getfield 9, 3) := by decide +kernel
theorem dX7_at_18 : decode cX7_at 18 = .ok (.arraylength, 1) := by decide +kernel
theorem dX7_at_19 : decode cX7_at 19 = .ok (.if_icmp .ge 39, 3) := by decide +kernel
theorem dX7_at_22 : decode cX7_at 22 = .ok (.aload_n 0, 1) := by decide +kernel
theorem dX7_at_23 : decode cX7_at 23 = .ok (.getfield 9, 3) := by decide +kernel
theorem dX7_at_26 : decode cX7_at 26 = .ok (.iload 4, 2) := by decide +kernel
theorem dX7_at_28 : decode cX7_at 28 = .ok (.baload, 1) := by decide +kernel
theorem dX7_at_29 : decode cX7_at 29 = .ok (.ifCond .eq 23, 3) := by decide +kernel
theorem dX7_at_32 : decode cX7_at 32 = .ok (.iload 4, 2) := by decide +kernel
theorem dX7_at_34 : decode cX7_at 34 = .ok (.invokestatic 90, 3) := by decide +kernel
theorem dX7_at_37 : decode cX7_at 37 = .ok (.iload_n 3, 1) := by decide +kernel
theorem dX7_at_38 : decode cX7_at 38 = .ok (.if_icmp .ne 14, 3) := by decide +kernel
theorem dX7_at_41 : decode cX7_at 41 = .ok (.iload_n 2, 1) := by decide +kernel
theorem dX7_at_42 : decode cX7_at 42 = .ok (.iload_n 1, 1) := by decide +kernel
theorem dX7_at_43 : decode cX7_at 43 = .ok (.if_icmp .ne 6, 3) := by decide +kernel
theorem dX7_at_46 : decode cX7_at 46 = .ok (.iload 4, 2) := by decide +kernel
theorem dX7_at_48 : decode cX7_at 48 = .ok (.ireturn, 1) := by decide +kernel
theorem dX7_at_49 : decode cX7_at 49 = .ok (.iinc 2 1, 3) := by decide +kernel
theorem dX7_at_52 : decode cX7_at 52 = .ok (.iinc 4 1, 3) := by decide +kernel
theorem dX7_at_55 : decode cX7_at 55 = .ok (.goto (-43), 3) := by decide +kernel
theorem dX7_at_58 : decode cX7_at 58 = .ok (.iinc 3 (-1), 3) := by decide +kernel
theorem dX7_at_61 : decode cX7_at 61 = .ok (.goto (-56), 3) := by decide +kernel
theorem dX7_at_64 : decode cX7_at 64 = .ok (.bipush (-9), 2) := by decide +kernel
theorem dX7_at_66 : decode cX7_at 66 = .ok (.ireturn, 1) := by decide +kernel
theorem dX7_common_0 : decode cX7_common 0 = .ok (.aload_n 0, 1) := by decide +kernel
theorem dX7_common_1 : decode cX7_common 1 = .ok (.getfield 21, 3) := by decide +kernel
theorem dX7_common_4 : decode cX7_common 4 = .ok (.istore_n 1, 1) := by decide +kernel
theorem dX7_common_5 : decode cX7_common 5 = .ok (.iconst 0, 1) := by decide +kernel
theorem dX7_common_6 : decode cX7_common 6 = .ok (.istore_n 2, 1) := by decide +kernel
theorem dX7_common_7 : decode cX7_common 7 = .ok (.iload_n 2, 1) := by decide +kernel
theorem dX7_common_8 : decode cX7_common 8 = .ok (.aload_n 0, 1) := by decide +kernel
theorem dX7_common_9 : decode cX7_common 9 = .ok (.getfield 9, 3) := by decide +kernel
theorem dX7_common_12 : decode cX7_common 12 = .ok (.arraylength, 1) := by decide +kernel
theorem dX7_common_13 : decode cX7_common 13 = .ok (.if_icmp .ge 22, 3) := by decide +kernel
theorem dX7_common_16 : decode cX7_common 16 = .ok (.aload_n 0, 1) := by decide +kernel
theorem dX7_common_17 : decode cX7_common 17 = .ok (.getfield 9, 3) := by decide +kernel
theorem dX7_common_20 : decode cX7_common 20 = .ok (.iload_n 2, 1) := by decide +kernel
theorem dX7_common_21 : decode cX7_common 21 = .ok (.baload, 1) := by decide +kernel
theorem dX7_common_22 : decode cX7_common 22 = .ok (.ifCond .eq 7, 3) := by decide +kernel
theorem dX7_common_25 : decode cX7_common 25 = .ok (.iload_n 1, 1) := by decide +kernel
theorem dX7_common_26 : decode cX7_common 26 = .ok (.iload_n 2, 1) := by decide +kernel
theorem dX7_common_27 : decode cX7_common 27 = .ok (.iand, 1) := by decide +kernel
theorem dX7_common_28 : decode cX7_common 28 = .ok (.istore_n 1, 1) := by decide +kernel
theorem dX7_common_29 : decode cX7_common 29 = .ok (.iinc 2 1, 3) := by decide +kernel
theorem dX7_common_32 : decode cX7_common 32 = .ok (.goto (-25), 3) := by decide +kernel
theorem dX7_common_35 : decode cX7_common 35 = .ok (.iload_n 1, 1) := by decide +kernel
theorem dX7_common_36 : decode cX7_common 36 = .ok (.ireturn, 1) := by decide +kernel
set_option maxRecDepth 20000 in
theorem ggX7_greatestWithin_J6_bitCount_0f7a4 : GoodIn wsX7_greatestWithin wsJ6_bitCount_0f7a4 := goodIn_r _ [5, 6, 7, 8] (by decide +kernel) (by decide +kernel)
set_option maxRecDepth 20000 in
theorem gX7_greatestWithin_J6_bitCount_0f7a4 : GoodIn wsX7_greatestWithin (va_wsS RX7 90 yJ6_bitCount_0f7a4 wsJ6_bitCount_0f7a4) := goodIn_app (goodIn_of _ (by decide +kernel)) ggX7_greatestWithin_J6_bitCount_0f7a4
