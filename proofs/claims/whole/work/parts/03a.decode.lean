theorem dX0_get_0 : decode cX0_get 0 = .ok (.lload_n 0, 1) := by decide +kernel
theorem dX0_get_1 : decode cX0_get 1 = .ok (.bipush 8, 2) := by decide +kernel
theorem dX0_get_3 : decode cX0_get 3 = .ok (.iload_n 2, 1) := by decide +kernel
theorem dX0_get_4 : decode cX0_get 4 = .ok (.imul, 1) := by decide +kernel
theorem dX0_get_5 : decode cX0_get 5 = .ok (.lushr, 1) := by decide +kernel
theorem dX0_get_6 : decode cX0_get 6 = .ok (.l2i, 1) := by decide +kernel
theorem dX0_get_7 : decode cX0_get 7 = .ok (.sipush 255, 3) := by decide +kernel
theorem dX0_get_10 : decode cX0_get 10 = .ok (.iand, 1) := by decide +kernel
theorem dX0_get_11 : decode cX0_get 11 = .ok (.ireturn, 1) := by decide +kernel
theorem dX0_with_0 : decode cX0_with 0 = .ok (.bipush 8, 2) := by decide +kernel
theorem dX0_with_2 : decode cX0_with 2 = .ok (.iload_n 2, 1) := by decide +kernel
theorem dX0_with_3 : decode cX0_with 3 = .ok (.imul, 1) := by decide +kernel
theorem dX0_with_4 : decode cX0_with 4 = .ok (.istore 4, 2) := by decide +kernel
theorem dX0_with_6 : decode cX0_with 6 = .ok (.lload_n 0, 1) := by decide +kernel
theorem dX0_with_7 : decode cX0_with 7 = .ok (.ldc2_w 9, 3) := by decide +kernel
theorem dX0_with_10 : decode cX0_with 10 = .ok (.iload 4, 2) := by decide +kernel
theorem dX0_with_12 : decode cX0_with 12 = .ok (.lshl, 1) := by decide +kernel
theorem dX0_with_13 : decode cX0_with 13 = .ok (.ldc2_w 11, 3) := by decide +kernel
theorem dX0_with_16 : decode cX0_with 16 = .ok (.lxor, 1) := by decide +kernel
theorem dX0_with_17 : decode cX0_with 17 = .ok (.land, 1) := by decide +kernel
theorem dX0_with_18 : decode cX0_with 18 = .ok (.iload_n 3, 1) := by decide +kernel
theorem dX0_with_19 : decode cX0_with 19 = .ok (.i2l, 1) := by decide +kernel
theorem dX0_with_20 : decode cX0_with 20 = .ok (.ldc2_w 9, 3) := by decide +kernel
theorem dX0_with_23 : decode cX0_with 23 = .ok (.land, 1) := by decide +kernel
theorem dX0_with_24 : decode cX0_with 24 = .ok (.iload 4, 2) := by decide +kernel
theorem dX0_with_26 : decode cX0_with 26 = .ok (.lshl, 1) := by decide +kernel
theorem dX0_with_27 : decode cX0_with 27 = .ok (.lor, 1) := by decide +kernel
theorem dX0_with_28 : decode cX0_with 28 = .ok (.lreturn, 1) := by decide +kernel
theorem dX0_pair_0 : decode cX0_pair 0 = .ok (.lconst 1, 1) := by decide +kernel
theorem dX0_pair_1 : decode cX0_pair 1 = .ok (.bipush 8, 2) := by decide +kernel
theorem dX0_pair_3 : decode cX0_pair 3 = .ok (.iload_n 0, 1) := by decide +kernel
theorem dX0_pair_4 : decode cX0_pair 4 = .ok (.imul, 1) := by decide +kernel
theorem dX0_pair_5 : decode cX0_pair 5 = .ok (.iload_n 1, 1) := by decide +kernel
theorem dX0_pair_6 : decode cX0_pair 6 = .ok (.iadd, 1) := by decide +kernel
theorem dX0_pair_7 : decode cX0_pair 7 = .ok (.lshl, 1) := by decide +kernel
theorem dX0_pair_8 : decode cX0_pair 8 = .ok (.lreturn, 1) := by decide +kernel
set_option maxRecDepth 20000 in
theorem ggX0_has_X0_pair : GoodIn wsX0_has wsX0_pair := goodIn_r _ [4] (by decide +kernel) (by decide +kernel)
set_option maxRecDepth 20000 in
theorem gX0_has_X0_pair : GoodIn wsX0_has (va_wsS RX0 13 yX0_pair wsX0_pair) := goodIn_app (goodIn_of _ (by decide +kernel)) ggX0_has_X0_pair
theorem dX0_has_0 : decode cX0_has 0 = .ok (.lload_n 0, 1) := by decide +kernel
theorem dX0_has_1 : decode cX0_has 1 = .ok (.iload_n 2, 1) := by decide +kernel
theorem dX0_has_2 : decode cX0_has 2 = .ok (.iload_n 3, 1) := by decide +kernel
theorem dX0_has_3 : decode cX0_has 3 = .ok (.invokestatic 13, 3) := by decide +kernel
theorem dX0_has_6 : decode cX0_has 6 = .ok (.land, 1) := by decide +kernel
theorem dX0_has_7 : decode cX0_has 7 = .ok (.lconst 0, 1) := by decide +kernel
theorem dX0_has_8 : decode cX0_has 8 = .ok (.lcmp, 1) := by decide +kernel
theorem dX0_has_9 : decode cX0_has 9 = .ok (.ifCond .eq 7, 3) := by decide +kernel
theorem dX0_has_12 : decode cX0_has 12 = .ok (.iconst 1, 1) := by decide +kernel
theorem dX0_has_13 : decode cX0_has 13 = .ok (.goto 4, 3) := by decide +kernel
theorem dX0_has_16 : decode cX0_has 16 = .ok (.iconst 0, 1) := by decide +kernel
theorem dX0_has_17 : decode cX0_has 17 = .ok (.ireturn, 1) := by decide +kernel
theorem dX0_contains_0 : decode cX0_contains 0 = .ok (.iload_n 0, 1) := by decide +kernel
theorem dX0_contains_1 : decode cX0_contains 1 = .ok (.iload_n 1, 1) := by decide +kernel
theorem dX0_contains_2 : decode cX0_contains 2 = .ok (.iushr, 1) := by decide +kernel
theorem dX0_contains_3 : decode cX0_contains 3 = .ok (.iconst 1, 1) := by decide +kernel
theorem dX0_contains_4 : decode cX0_contains 4 = .ok (.iand, 1) := by decide +kernel
theorem dX0_contains_5 : decode cX0_contains 5 = .ok (.iconst 1, 1) := by decide +kernel
theorem dX0_contains_6 : decode cX0_contains 6 = .ok (.if_icmp .ne 7, 3) := by decide +kernel
theorem dX0_contains_9 : decode cX0_contains 9 = .ok (.iconst 1, 1) := by decide +kernel
theorem dX0_contains_10 : decode cX0_contains 10 = .ok (.goto 4, 3) := by decide +kernel
theorem dX0_contains_13 : decode cX0_contains 13 = .ok (.iconst 0, 1) := by decide +kernel
theorem dX0_contains_14 : decode cX0_contains 14 = .ok (.ireturn, 1) := by decide +kernel
set_option maxRecDepth 20000 in
theorem ggX0_reach_X0_contains : GoodIn wsX0_reach wsX0_contains := goodIn_r _ [4] (by decide +kernel) (by decide +kernel)
set_option maxRecDepth 20000 in
theorem gX0_reach_X0_contains : GoodIn wsX0_reach (va_wsS RX0 19 yX0_contains wsX0_contains) := goodIn_app (goodIn_of _ (by decide +kernel)) ggX0_reach_X0_contains
set_option maxRecDepth 20000 in
theorem ggX0_reach_X0_get : GoodIn wsX0_reach wsX0_get := goodIn_r _ [7] (by decide +kernel) (by decide +kernel)
set_option maxRecDepth 20000 in
theorem gX0_reach_X0_get : GoodIn wsX0_reach (va_wsS RX0 23 yX0_get wsX0_get) := goodIn_app (goodIn_of _ (by decide +kernel)) ggX0_reach_X0_get
theorem dX0_reach_0 : decode cX0_reach 0 = .ok (.iconst 0, 1) := by decide +kernel
theorem dX0_reach_1 : decode cX0_reach 1 = .ok (.istore_n 3, 1) := by decide +kernel
theorem dX0_reach_2 : decode cX0_reach 2 = .ok (.iconst 0, 1) := by decide +kernel
theorem dX0_reach_3 : decode cX0_reach 3 = .ok (.istore 4, 2) := by decide +kernel
theorem dX0_reach_5 : decode cX0_reach 5 = .ok (.iload 4, 2) := by decide +kernel
theorem dX0_reach_7 : decode cX0_reach 7 = .ok (.bipush 8, 2) := by decide +kernel
theorem dX0_reach_9 : decode cX0_reach 9 = .ok (.if_icmp .ge 27, 3) := by decide +kernel
theorem dX0_reach_12 : decode cX0_reach 12 = .ok (.iload_n 2, 1) := by decide +kernel
theorem dX0_reach_13 : decode cX0_reach 13 = .ok (.iload 4, 2) := by decide +kernel
theorem dX0_reach_15 : decode cX0_reach 15 = .ok (.invokestatic 19, 3) := by decide +kernel
theorem dX0_reach_18 : decode cX0_reach 18 = .ok (.ifCond .eq 12, 3) := by decide +kernel
theorem dX0_reach_21 : decode cX0_reach 21 = .ok (.iload_n 3, 1) := by decide +kernel
theorem dX0_reach_22 : decode cX0_reach 22 = .ok (.lload_n 0, 1) := by decide +kernel
theorem dX0_reach_23 : decode cX0_reach 23 = .ok (.iload 4, 2) := by decide +kernel
theorem dX0_reach_25 : decode cX0_reach 25 = .ok (.invokestatic 23, 3) := by decide +kernel
theorem dX0_reach_28 : decode cX0_reach 28 = .ok (.ior, 1) := by decide +kernel
theorem dX0_reach_29 : decode cX0_reach 29 = .ok (.istore_n 3, 1) := by decide +kernel
theorem dX0_reach_30 : decode cX0_reach 30 = .ok (.iinc 4 1, 3) := by decide +kernel
theorem dX0_reach_33 : decode cX0_reach 33 = .ok (.goto (-28), 3) := by decide +kernel
theorem dX0_reach_36 : decode cX0_reach 36 = .ok (.iload_n 3, 1) := by decide +kernel
theorem dX0_reach_37 : decode cX0_reach 37 = .ok (.ireturn, 1) := by decide +kernel
set_option maxRecDepth 20000 in
theorem ggX0_joined_X0_get : GoodIn wsX0_joined wsX0_get := goodIn_r _ [4] (by decide +kernel) (by decide +kernel)
set_option maxRecDepth 20000 in
theorem gX0_joined_X0_get : GoodIn wsX0_joined (va_wsS RX0 23 yX0_get wsX0_get) := goodIn_app (goodIn_of _ (by decide +kernel)) ggX0_joined_X0_get
set_option maxRecDepth 20000 in
theorem ggX0_joined_X0_reach : GoodIn wsX0_joined wsX0_reach := goodIn_r _ [7, 8, 9, 3, 10, 1, 2, 4] (by decide +kernel) (by decide +kernel)
set_option maxRecDepth 20000 in
theorem gX0_joined_X0_reach : GoodIn wsX0_joined (va_wsS RX0 27 yX0_reach wsX0_reach) := goodIn_app (goodIn_of _ (by decide +kernel)) ggX0_joined_X0_reach
set_option maxRecDepth 20000 in
theorem ggX0_joined_X0_with : GoodIn wsX0_joined wsX0_with := goodIn_r _ [13, 14, 15] (by decide +kernel) (by decide +kernel)
set_option maxRecDepth 20000 in
theorem gX0_joined_X0_with : GoodIn wsX0_joined (va_wsS RX0 30 yX0_with wsX0_with) := goodIn_app (goodIn_of _ (by decide +kernel)) ggX0_joined_X0_with
theorem dX0_joined_0 : decode cX0_joined 0 = .ok (.lconst 0, 1) := by decide +kernel
theorem dX0_joined_1 : decode cX0_joined 1 = .ok (.lstore 4, 2) := by decide +kernel
theorem dX0_joined_3 : decode cX0_joined 3 = .ok (.iconst 0, 1) := by decide +kernel
theorem dX0_joined_4 : decode cX0_joined 4 = .ok (.istore 6, 2) := by decide +kernel
theorem dX0_joined_6 : decode cX0_joined 6 = .ok (.iload 6, 2) := by decide +kernel
theorem dX0_joined_8 : decode cX0_joined 8 = .ok (.bipush 8, 2) := by decide +kernel
theorem dX0_joined_10 : decode cX0_joined 10 = .ok (.if_icmp .ge 28, 3) := by decide +kernel
theorem dX0_joined_13 : decode cX0_joined 13 = .ok (.lload 4, 2) := by decide +kernel
theorem dX0_joined_15 : decode cX0_joined 15 = .ok (.iload 6, 2) := by decide +kernel
theorem dX0_joined_17 : decode cX0_joined 17 = .ok (.lload_n 2, 1) := by decide +kernel
theorem dX0_joined_18 : decode cX0_joined 18 = .ok (.lload_n 0, 1) := by decide +kernel
theorem dX0_joined_19 : decode cX0_joined 19 = .ok (.iload 6, 2) := by decide +kernel
theorem dX0_joined_21 : decode cX0_joined 21 = .ok (.invokestatic 23, 3) := by decide +kernel
theorem dX0_joined_24 : decode cX0_joined 24 = .ok (.invokestatic 27, 3) := by decide +kernel
theorem dX0_joined_27 : decode cX0_joined 27 = .ok (.invokestatic 30, 3) := by decide +kernel
theorem dX0_joined_30 : decode cX0_joined 30 = .ok (.lstore 4, 2) := by decide +kernel
theorem dX0_joined_32 : decode cX0_joined 32 = .ok (.iinc 6 1, 3) := by decide +kernel
theorem dX0_joined_35 : decode cX0_joined 35 = .ok (.goto (-29), 3) := by decide +kernel
theorem dX0_joined_38 : decode cX0_joined 38 = .ok (.lload 4, 2) := by decide +kernel
theorem dX0_joined_40 : decode cX0_joined 40 = .ok (.lreturn, 1) := by decide +kernel
set_option maxRecDepth 20000 in
theorem ggX0_turned_X0_has : GoodIn wsX0_turned wsX0_has := goodIn_r _ [4, 5, 6, 3, 7] (by decide +kernel) (by decide +kernel)
set_option maxRecDepth 20000 in
theorem gX0_turned_X0_has : GoodIn wsX0_turned (va_wsS RX0 34 yX0_has wsX0_has) := goodIn_app (goodIn_of _ (by decide +kernel)) ggX0_turned_X0_has
set_option maxRecDepth 20000 in
theorem ggX0_turned_X0_pair : GoodIn wsX0_turned wsX0_pair := goodIn_r _ [7] (by decide +kernel) (by decide +kernel)
set_option maxRecDepth 20000 in
theorem gX0_turned_X0_pair : GoodIn wsX0_turned (va_wsS RX0 13 yX0_pair wsX0_pair) := goodIn_app (goodIn_of _ (by decide +kernel)) ggX0_turned_X0_pair
theorem dX0_turned_0 : decode cX0_turned 0 = .ok (.lconst 0, 1) := by decide +kernel
theorem dX0_turned_1 : decode cX0_turned 1 = .ok (.lstore_n 2, 1) := by decide +kernel
theorem dX0_turned_2 : decode cX0_turned 2 = .ok (.iconst 0, 1) := by decide +kernel
theorem dX0_turned_3 : decode cX0_turned 3 = .ok (.istore 4, 2) := by decide +kernel
theorem dX0_turned_5 : decode cX0_turned 5 = .ok (.iload 4, 2) := by decide +kernel
theorem dX0_turned_7 : decode cX0_turned 7 = .ok (.bipush 8, 2) := by decide +kernel
theorem dX0_turned_9 : decode cX0_turned 9 = .ok (.if_icmp .ge 46, 3) := by decide +kernel
theorem dX0_turned_12 : decode cX0_turned 12 = .ok (.iconst 0, 1) := by decide +kernel
theorem dX0_turned_13 : decode cX0_turned 13 = .ok (.istore 5, 2) := by decide +kernel
theorem dX0_turned_15 : decode cX0_turned 15 = .ok (.iload 5, 2) := by decide +kernel
theorem dX0_turned_17 : decode cX0_turned 17 = .ok (.bipush 8, 2) := by decide +kernel
theorem dX0_turned_19 : decode cX0_turned 19 = .ok (.if_icmp .ge 30, 3) := by decide +kernel
theorem dX0_turned_22 : decode cX0_turned 22 = .ok (.lload_n 0, 1) := by decide +kernel
theorem dX0_turned_23 : decode cX0_turned 23 = .ok (.iload 4, 2) := by decide +kernel
theorem dX0_turned_25 : decode cX0_turned 25 = .ok (.iload 5, 2) := by decide +kernel
theorem dX0_turned_27 : decode cX0_turned 27 = .ok (.invokestatic 34, 3) := by decide +kernel
theorem dX0_turned_30 : decode cX0_turned 30 = .ok (.ifCond .eq 13, 3) := by decide +kernel
theorem dX0_turned_33 : decode cX0_turned 33 = .ok (.lload_n 2, 1) := by decide +kernel
theorem dX0_turned_34 : decode cX0_turned 34 = .ok (.iload 5, 2) := by decide +kernel
theorem dX0_turned_36 : decode cX0_turned 36 = .ok (.iload 4, 2) := by decide +kernel
theorem dX0_turned_38 : decode cX0_turned 38 = .ok (.invokestatic 13, 3) := by decide +kernel
theorem dX0_turned_41 : decode cX0_turned 41 = .ok (.lor, 1) := by decide +kernel
theorem dX0_turned_42 : decode cX0_turned 42 = .ok (.lstore_n 2, 1) := by decide +kernel
theorem dX0_turned_43 : decode cX0_turned 43 = .ok (.iinc 5 1, 3) := by decide +kernel
theorem dX0_turned_46 : decode cX0_turned 46 = .ok (.goto (-31), 3) := by decide +kernel
theorem dX0_turned_49 : decode cX0_turned 49 = .ok (.iinc 4 1, 3) := by decide +kernel
theorem dX0_turned_52 : decode cX0_turned 52 = .ok (.goto (-47), 3) := by decide +kernel
theorem dX0_turned_55 : decode cX0_turned 55 = .ok (.lload_n 2, 1) := by decide +kernel
theorem dX0_turned_56 : decode cX0_turned 56 = .ok (.lreturn, 1) := by decide +kernel
set_option maxRecDepth 20000 in
theorem ggX0_within_X0_contains : GoodIn wsX0_within wsX0_contains := goodIn_r _ [4] (by decide +kernel) (by decide +kernel)
set_option maxRecDepth 20000 in
theorem gX0_within_X0_contains : GoodIn wsX0_within (va_wsS RX0 19 yX0_contains wsX0_contains) := goodIn_app (goodIn_of _ (by decide +kernel)) ggX0_within_X0_contains
set_option maxRecDepth 20000 in
theorem ggX0_within_X0_get : GoodIn wsX0_within wsX0_get := goodIn_r _ [7] (by decide +kernel) (by decide +kernel)
set_option maxRecDepth 20000 in
theorem gX0_within_X0_get : GoodIn wsX0_within (va_wsS RX0 23 yX0_get wsX0_get) := goodIn_app (goodIn_of _ (by decide +kernel)) ggX0_within_X0_get
set_option maxRecDepth 20000 in
theorem ggX0_within_X0_with : GoodIn wsX0_within wsX0_with := goodIn_r _ [10, 11, 12] (by decide +kernel) (by decide +kernel)
set_option maxRecDepth 20000 in
theorem gX0_within_X0_with : GoodIn wsX0_within (va_wsS RX0 30 yX0_with wsX0_with) := goodIn_app (goodIn_of _ (by decide +kernel)) ggX0_within_X0_with
theorem dX0_within_0 : decode cX0_within 0 = .ok (.lconst 0, 1) := by decide +kernel
theorem dX0_within_1 : decode cX0_within 1 = .ok (.lstore_n 3, 1) := by decide +kernel
theorem dX0_within_2 : decode cX0_within 2 = .ok (.iconst 0, 1) := by decide +kernel
theorem dX0_within_3 : decode cX0_within 3 = .ok (.istore 5, 2) := by decide +kernel
theorem dX0_within_5 : decode cX0_within 5 = .ok (.iload 5, 2) := by decide +kernel
theorem dX0_within_7 : decode cX0_within 7 = .ok (.bipush 8, 2) := by decide +kernel
theorem dX0_within_9 : decode cX0_within 9 = .ok (.if_icmp .ge 33, 3) := by decide +kernel
theorem dX0_within_12 : decode cX0_within 12 = .ok (.iload_n 2, 1) := by decide +kernel
theorem dX0_within_13 : decode cX0_within 13 = .ok (.iload 5, 2) := by decide +kernel
theorem dX0_within_15 : decode cX0_within 15 = .ok (.invokestatic 19, 3) := by decide +kernel
theorem dX0_within_18 : decode cX0_within 18 = .ok (.ifCond .eq 18, 3) := by decide +kernel
theorem dX0_within_21 : decode cX0_within 21 = .ok (.lload_n 3, 1) := by decide +kernel
theorem dX0_within_22 : decode cX0_within 22 = .ok (.iload 5, 2) := by decide +kernel
theorem dX0_within_24 : decode cX0_within 24 = .ok (.lload_n 0, 1) := by decide +kernel
theorem dX0_within_25 : decode cX0_within 25 = .ok (.iload 5, 2) := by decide +kernel
theorem dX0_within_27 : decode cX0_within 27 = .ok (.invokestatic 23, 3) := by decide +kernel
theorem dX0_within_30 : decode cX0_within 30 = .ok (.iload_n 2, 1) := by decide +kernel
theorem dX0_within_31 : decode cX0_within 31 = .ok (.iand, 1) := by decide +kernel
theorem dX0_within_32 : decode cX0_within 32 = .ok (.invokestatic 30, 3) := by decide +kernel
theorem dX0_within_35 : decode cX0_within 35 = .ok (.lstore_n 3, 1) := by decide +kernel
theorem dX0_within_36 : decode cX0_within 36 = .ok (.iinc 5 1, 3) := by decide +kernel
theorem dX0_within_39 : decode cX0_within 39 = .ok (.goto (-34), 3) := by decide +kernel
theorem dX0_within_42 : decode cX0_within 42 = .ok (.lload_n 3, 1) := by decide +kernel
theorem dX0_within_43 : decode cX0_within 43 = .ok (.lreturn, 1) := by decide +kernel
set_option maxRecDepth 20000 in
theorem ggX0_closed_X0_has : GoodIn wsX0_closed wsX0_has := goodIn_r _ [4, 5, 6, 3, 7] (by decide +kernel) (by decide +kernel)
set_option maxRecDepth 20000 in
theorem gX0_closed_X0_has : GoodIn wsX0_closed (va_wsS RX0 34 yX0_has wsX0_has) := goodIn_app (goodIn_of _ (by decide +kernel)) ggX0_closed_X0_has
set_option maxRecDepth 20000 in
theorem ggX0_closed_X0_get : GoodIn wsX0_closed wsX0_get := goodIn_r _ [10] (by decide +kernel) (by decide +kernel)
set_option maxRecDepth 20000 in
theorem gX0_closed_X0_get : GoodIn wsX0_closed (va_wsS RX0 23 yX0_get wsX0_get) := goodIn_app (goodIn_of _ (by decide +kernel)) ggX0_closed_X0_get
set_option maxRecDepth 20000 in
theorem ggX0_closed_X0_with : GoodIn wsX0_closed wsX0_with := goodIn_r _ [13, 14, 15] (by decide +kernel) (by decide +kernel)
set_option maxRecDepth 20000 in
theorem gX0_closed_X0_with : GoodIn wsX0_closed (va_wsS RX0 30 yX0_with wsX0_with) := goodIn_app (goodIn_of _ (by decide +kernel)) ggX0_closed_X0_with
theorem dX0_closed_0 : decode cX0_closed 0 = .ok (.lload_n 0, 1) := by decide +kernel
theorem dX0_closed_1 : decode cX0_closed 1 = .ok (.lstore_n 2, 1) := by decide +kernel
theorem dX0_closed_2 : decode cX0_closed 2 = .ok (.iconst 0, 1) := by decide +kernel
theorem dX0_closed_3 : decode cX0_closed 3 = .ok (.istore 4, 2) := by decide +kernel
theorem dX0_closed_5 : decode cX0_closed 5 = .ok (.iload 4, 2) := by decide +kernel
theorem dX0_closed_7 : decode cX0_closed 7 = .ok (.bipush 8, 2) := by decide +kernel
theorem dX0_closed_9 : decode cX0_closed 9 = .ok (.if_icmp .ge 56, 3) := by decide +kernel
theorem dX0_closed_12 : decode cX0_closed 12 = .ok (.iconst 0, 1) := by decide +kernel
theorem dX0_closed_13 : decode cX0_closed 13 = .ok (.istore 5, 2) := by decide +kernel
theorem dX0_closed_15 : decode cX0_closed 15 = .ok (.iload 5, 2) := by decide +kernel
theorem dX0_closed_17 : decode cX0_closed 17 = .ok (.bipush 8, 2) := by decide +kernel
theorem dX0_closed_19 : decode cX0_closed 19 = .ok (.if_icmp .ge 40, 3) := by decide +kernel
theorem dX0_closed_22 : decode cX0_closed 22 = .ok (.lload_n 2, 1) := by decide +kernel
theorem dX0_closed_23 : decode cX0_closed 23 = .ok (.iload 5, 2) := by decide +kernel
theorem dX0_closed_25 : decode cX0_closed 25 = .ok (.iload 4, 2) := by decide +kernel
theorem dX0_closed_27 : decode cX0_closed 27 = .ok (.invokestatic 34, 3) := by decide +kernel
theorem dX0_closed_30 : decode cX0_closed 30 = .ok (.ifCond .eq 23, 3) := by decide +kernel
theorem dX0_closed_33 : decode cX0_closed 33 = .ok (.lload_n 2, 1) := by decide +kernel
theorem dX0_closed_34 : decode cX0_closed 34 = .ok (.iload 5, 2) := by decide +kernel
theorem dX0_closed_36 : decode cX0_closed 36 = .ok (.lload_n 2, 1) := by decide +kernel
theorem dX0_closed_37 : decode cX0_closed 37 = .ok (.iload 5, 2) := by decide +kernel
theorem dX0_closed_39 : decode cX0_closed 39 = .ok (.invokestatic 23, 3) := by decide +kernel
theorem dX0_closed_42 : decode cX0_closed 42 = .ok (.lload_n 2, 1) := by decide +kernel
theorem dX0_closed_43 : decode cX0_closed 43 = .ok (.iload 4, 2) := by decide +kernel
theorem dX0_closed_45 : decode cX0_closed 45 = .ok (.invokestatic 23, 3) := by decide +kernel
theorem dX0_closed_48 : decode cX0_closed 48 = .ok (.ior, 1) := by decide +kernel
theorem dX0_closed_49 : decode cX0_closed 49 = .ok (.invokestatic 30, 3) := by decide +kernel
theorem dX0_closed_52 : decode cX0_closed 52 = .ok (.lstore_n 2, 1) := by decide +kernel
theorem dX0_closed_53 : decode cX0_closed 53 = .ok (.iinc 5 1, 3) := by decide +kernel
theorem dX0_closed_56 : decode cX0_closed 56 = .ok (.goto (-41), 3) := by decide +kernel
theorem dX0_closed_59 : decode cX0_closed 59 = .ok (.iinc 4 1, 3) := by decide +kernel
theorem dX0_closed_62 : decode cX0_closed 62 = .ok (.goto (-57), 3) := by decide +kernel
theorem dX0_closed_65 : decode cX0_closed 65 = .ok (.lload_n 2, 1) := by decide +kernel
theorem dX0_closed_66 : decode cX0_closed 66 = .ok (.lreturn, 1) := by decide +kernel
theorem dX1_init_0 : decode cX1_init 0 = .ok (.aload_n 0, 1) := by decide +kernel
theorem dX1_init_1 : decode cX1_init 1 = .ok (.invokespecial 3, 3) := by decide +kernel
theorem dX1_init_4 : decode cX1_init 4 = .ok (.aload_n 0, 1) := by decide +kernel
theorem dX1_init_5 : decode cX1_init 5 = .ok (.lconst 0, 1) := by decide +kernel
theorem dX1_init_6 : decode cX1_init 6 = .ok (.putfield 9, 3) := by decide +kernel
theorem dX1_init_9 : decode cX1_init 9 = .ok (.aload_n 0, 1) := by decide +kernel
theorem dX1_init_10 : decode cX1_init 10 = .ok (.lconst 0, 1) := by decide +kernel
theorem dX1_init_11 : decode cX1_init 11 = .ok (.putfield 15, 3) := by decide +kernel
theorem dX1_init_14 : decode cX1_init 14 = .ok (.aload_n 0, 1) := by decide +kernel
theorem dX1_init_15 : decode cX1_init 15 = .ok (.lconst 0, 1) := by decide +kernel
theorem dX1_init_16 : decode cX1_init 16 = .ok (.putfield 18, 3) := by decide +kernel
theorem dX1_init_19 : decode cX1_init 19 = .ok (.aload_n 0, 1) := by decide +kernel
theorem dX1_init_20 : decode cX1_init 20 = .ok (.lconst 0, 1) := by decide +kernel
theorem dX1_init_21 : decode cX1_init 21 = .ok (.putfield 21, 3) := by decide +kernel
theorem dX1_init_24 : decode cX1_init 24 = .ok (.return_, 1) := by decide +kernel
set_option maxRecDepth 20000 in
theorem ggX1_reckon_X1_hitsIn : GoodIn wsX1_reckon wsX1_hitsIn := goodIn_r _ [11, 12, 13, 3, 14, 15, 16, 17, 18, 19, 20, 21, 22, 23, 24, 25, 26, 27, 28, 29, 30, 10, 31, 32, 33, 34, 35, 36, 37, 38, 39, 40, 41, 42, 43, 44, 45, 46, 47, 48, 49, 50, 68, 69, 70, 71, 72, 73, 74, 75] (by decide +kernel) (by decide +kernel)
set_option maxRecDepth 20000 in
theorem gX1_reckon_X1_hitsIn : GoodIn wsX1_reckon (va_wsS RX1 24 yX1_hitsIn wsX1_hitsIn) := goodIn_app (goodIn_of _ (by decide +kernel)) ggX1_reckon_X1_hitsIn
set_option maxRecDepth 20000 in
theorem ggX1_reckon_X0_within : GoodIn wsX1_reckon wsX0_within := goodIn_r _ [41, 42, 43, 22, 44, 45, 21, 23, 46, 47, 48, 49, 50] (by decide +kernel) (by decide +kernel)
set_option maxRecDepth 20000 in
theorem gX1_reckon_X0_within : GoodIn wsX1_reckon (va_wsS RX1 37 yX0_within wsX0_within) := goodIn_app (goodIn_of _ (by decide +kernel)) ggX1_reckon_X0_within
set_option maxRecDepth 20000 in
theorem ggX1_reckon_X0_closed : GoodIn wsX1_reckon wsX0_closed := goodIn_r _ [53, 54, 33, 22, 34, 35, 36, 37, 45, 21, 23, 46, 47, 48, 49, 50] (by decide +kernel) (by decide +kernel)
set_option maxRecDepth 20000 in
theorem gX1_reckon_X0_closed : GoodIn wsX1_reckon (va_wsS RX1 43 yX0_closed wsX0_closed) := goodIn_app (goodIn_of _ (by decide +kernel)) ggX1_reckon_X0_closed
set_option maxRecDepth 20000 in
theorem ggX1_reckon_X0_joined : GoodIn wsX1_reckon wsX0_joined := goodIn_r _ [57, 45, 21, 22, 23, 58, 59, 60, 42, 43, 44, 46, 47, 48, 49, 50] (by decide +kernel) (by decide +kernel)
set_option maxRecDepth 20000 in
theorem gX1_reckon_X0_joined : GoodIn wsX1_reckon (va_wsS RX1 50 yX0_joined wsX0_joined) := goodIn_app (goodIn_of _ (by decide +kernel)) ggX1_reckon_X0_joined
set_option maxRecDepth 20000 in
theorem ggX1_reckon_X0_turned : GoodIn wsX1_reckon wsX0_turned := goodIn_r _ [63, 54, 33, 22, 34, 35, 36, 37] (by decide +kernel) (by decide +kernel)
set_option maxRecDepth 20000 in
theorem gX1_reckon_X0_turned : GoodIn wsX1_reckon (va_wsS RX1 54 yX0_turned wsX0_turned) := goodIn_app (goodIn_of _ (by decide +kernel)) ggX1_reckon_X0_turned
theorem dX1_reckon_0 : decode cX1_reckon 0 = .ok (.aload_n 0, 1) := by decide +kernel
theorem dX1_reckon_1 : decode cX1_reckon 1 = .ok (.aload_n 1, 1) := by decide +kernel
theorem dX1_reckon_2 : decode cX1_reckon 2 = .ok (.invokestatic 24, 3) := by decide +kernel
theorem dX1_reckon_5 : decode cX1_reckon 5 = .ok (.putfield 9, 3) := by decide +kernel
theorem dX1_reckon_8 : decode cX1_reckon 8 = .ok (.aload_n 0, 1) := by decide +kernel
theorem dX1_reckon_9 : decode cX1_reckon 9 = .ok (.aload_n 1, 1) := by decide +kernel
theorem dX1_reckon_10 : decode cX1_reckon 10 = .ok (.getfield 28, 3) := by decide +kernel
theorem dX1_reckon_13 : decode cX1_reckon 13 = .ok (.aload_n 1, 1) := by decide +kernel
theorem dX1_reckon_14 : decode cX1_reckon 14 = .ok (.getfield 33, 3) := by decide +kernel
theorem dX1_reckon_17 : decode cX1_reckon 17 = .ok (.invokestatic 37, 3) := by decide +kernel
theorem dX1_reckon_20 : decode cX1_reckon 20 = .ok (.invokestatic 43, 3) := by decide +kernel
theorem dX1_reckon_23 : decode cX1_reckon 23 = .ok (.putfield 15, 3) := by decide +kernel
theorem dX1_reckon_26 : decode cX1_reckon 26 = .ok (.aload_n 0, 1) := by decide +kernel
theorem dX1_reckon_27 : decode cX1_reckon 27 = .ok (.aload_n 0, 1) := by decide +kernel
theorem dX1_reckon_28 : decode cX1_reckon 28 = .ok (.getfield 9, 3) := by decide +kernel
theorem dX1_reckon_31 : decode cX1_reckon 31 = .ok (.putfield 18, 3) := by decide +kernel
theorem dX1_reckon_34 : decode cX1_reckon 34 = .ok (.aload_n 1, 1) := by decide +kernel
theorem dX1_reckon_35 : decode cX1_reckon 35 = .ok (.getfield 47, 3) := by decide +kernel
theorem dX1_reckon_38 : decode cX1_reckon 38 = .ok (.iconst 1, 1) := by decide +kernel
theorem dX1_reckon_39 : decode cX1_reckon 39 = .ok (.if_icmp .eq 11, 3) := by decide +kernel
theorem dX1_reckon_42 : decode cX1_reckon 42 = .ok (.aload_n 1, 1) := by decide +kernel
theorem dX1_reckon_43 : decode cX1_reckon 43 = .ok (.getfield 47, 3) := by decide +kernel
theorem dX1_reckon_46 : decode cX1_reckon 46 = .ok (.iconst 3, 1) := by decide +kernel
theorem dX1_reckon_47 : decode cX1_reckon 47 = .ok (.if_icmp .ne 23, 3) := by decide +kernel
theorem dX1_reckon_50 : decode cX1_reckon 50 = .ok (.aload_n 0, 1) := by decide +kernel
theorem dX1_reckon_51 : decode cX1_reckon 51 = .ok (.dup, 1) := by decide +kernel
theorem dX1_reckon_52 : decode cX1_reckon 52 = .ok (.getfield 18, 3) := by decide +kernel
theorem dX1_reckon_55 : decode cX1_reckon 55 = .ok (.aload_n 0, 1) := by decide +kernel
theorem dX1_reckon_56 : decode cX1_reckon 56 = .ok (.getfield 15, 3) := by decide +kernel
theorem dX1_reckon_59 : decode cX1_reckon 59 = .ok (.aload_n 0, 1) := by decide +kernel
theorem dX1_reckon_60 : decode cX1_reckon 60 = .ok (.getfield 9, 3) := by decide +kernel
theorem dX1_reckon_63 : decode cX1_reckon 63 = .ok (.invokestatic 50, 3) := by decide +kernel
theorem dX1_reckon_66 : decode cX1_reckon 66 = .ok (.lor, 1) := by decide +kernel
theorem dX1_reckon_67 : decode cX1_reckon 67 = .ok (.putfield 18, 3) := by decide +kernel
theorem dX1_reckon_70 : decode cX1_reckon 70 = .ok (.aload_n 1, 1) := by decide +kernel
theorem dX1_reckon_71 : decode cX1_reckon 71 = .ok (.getfield 47, 3) := by decide +kernel
theorem dX1_reckon_74 : decode cX1_reckon 74 = .ok (.iconst 2, 1) := by decide +kernel
theorem dX1_reckon_75 : decode cX1_reckon 75 = .ok (.if_icmp .eq 11, 3) := by decide +kernel
theorem dX1_reckon_78 : decode cX1_reckon 78 = .ok (.aload_n 1, 1) := by decide +kernel
theorem dX1_reckon_79 : decode cX1_reckon 79 = .ok (.getfield 47, 3) := by decide +kernel
theorem dX1_reckon_82 : decode cX1_reckon 82 = .ok (.iconst 3, 1) := by decide +kernel
theorem dX1_reckon_83 : decode cX1_reckon 83 = .ok (.if_icmp .ne 23, 3) := by decide +kernel
theorem dX1_reckon_86 : decode cX1_reckon 86 = .ok (.aload_n 0, 1) := by decide +kernel
theorem dX1_reckon_87 : decode cX1_reckon 87 = .ok (.dup, 1) := by decide +kernel
theorem dX1_reckon_88 : decode cX1_reckon 88 = .ok (.getfield 18, 3) := by decide +kernel
theorem dX1_reckon_91 : decode cX1_reckon 91 = .ok (.aload_n 0, 1) := by decide +kernel
theorem dX1_reckon_92 : decode cX1_reckon 92 = .ok (.getfield 9, 3) := by decide +kernel
theorem dX1_reckon_95 : decode cX1_reckon 95 = .ok (.aload_n 0, 1) := by decide +kernel
theorem dX1_reckon_96 : decode cX1_reckon 96 = .ok (.getfield 15, 3) := by decide +kernel
theorem dX1_reckon_99 : decode cX1_reckon 99 = .ok (.invokestatic 50, 3) := by decide +kernel
theorem dX1_reckon_102 : decode cX1_reckon 102 = .ok (.lor, 1) := by decide +kernel
theorem dX1_reckon_103 : decode cX1_reckon 103 = .ok (.putfield 18, 3) := by decide +kernel
theorem dX1_reckon_106 : decode cX1_reckon 106 = .ok (.aload_n 0, 1) := by decide +kernel
theorem dX1_reckon_107 : decode cX1_reckon 107 = .ok (.aload_n 0, 1) := by decide +kernel
theorem dX1_reckon_108 : decode cX1_reckon 108 = .ok (.getfield 18, 3) := by decide +kernel
theorem dX1_reckon_111 : decode cX1_reckon 111 = .ok (.invokestatic 54, 3) := by decide +kernel
theorem dX1_reckon_114 : decode cX1_reckon 114 = .ok (.putfield 21, 3) := by decide +kernel
theorem dX1_reckon_117 : decode cX1_reckon 117 = .ok (.return_, 1) := by decide +kernel
set_option maxRecDepth 20000 in
theorem ggX1_hitsIn_X3_figureOf : GoodIn wsX1_hitsIn wsX3_figureOf := goodIn_r _ [8, 9, 10, 11, 12, 13, 42, 43, 44, 45, 46, 47, 48, 49] (by decide +kernel) (by decide +kernel)
set_option maxRecDepth 20000 in
theorem gX1_hitsIn_X3_figureOf : GoodIn wsX1_hitsIn (wsV RX1 60 RX3 yX3_figureOf wsX3_figureOf) := goodIn_app (goodIn_of _ (by decide +kernel)) ggX1_hitsIn_X3_figureOf
set_option maxRecDepth 20000 in
theorem ggX1_hitsIn_X3_kindOf : GoodIn wsX1_hitsIn wsX3_kindOf := goodIn_r _ [17, 18, 10, 11, 12, 13, 42, 43, 44, 45, 46, 47, 48, 49] (by decide +kernel) (by decide +kernel)
set_option maxRecDepth 20000 in
theorem gX1_hitsIn_X3_kindOf : GoodIn wsX1_hitsIn (wsV RX1 64 RX3 yX3_kindOf wsX3_kindOf) := goodIn_app (goodIn_of _ (by decide +kernel)) ggX1_hitsIn_X3_kindOf
set_option maxRecDepth 20000 in
theorem ggX1_hitsIn_X1_letHit : GoodIn wsX1_hitsIn wsX1_letHit := goodIn_r _ [22] (by decide +kernel) (by decide +kernel)
set_option maxRecDepth 20000 in
theorem gX1_hitsIn_X1_letHit : GoodIn wsX1_hitsIn (va_wsS RX1 67 yX1_letHit wsX1_letHit) := goodIn_app (goodIn_of _ (by decide +kernel)) ggX1_hitsIn_X1_letHit
set_option maxRecDepth 20000 in
theorem ggX1_hitsIn_X0_has : GoodIn wsX1_hitsIn wsX0_has := goodIn_r _ [25, 26, 27, 12, 28] (by decide +kernel) (by decide +kernel)
set_option maxRecDepth 20000 in
theorem gX1_hitsIn_X0_has : GoodIn wsX1_hitsIn (va_wsS RX1 74 yX0_has wsX0_has) := goodIn_app (goodIn_of _ (by decide +kernel)) ggX1_hitsIn_X0_has
set_option maxRecDepth 20000 in
theorem ggX1_hitsIn_X0_pair : GoodIn wsX1_hitsIn wsX0_pair := goodIn_r _ [28] (by decide +kernel) (by decide +kernel)
set_option maxRecDepth 20000 in
theorem gX1_hitsIn_X0_pair : GoodIn wsX1_hitsIn (va_wsS RX1 78 yX0_pair wsX0_pair) := goodIn_app (goodIn_of _ (by decide +kernel)) ggX1_hitsIn_X0_pair
set_option maxRecDepth 20000 in
theorem ggX1_hitsIn_X0_within : GoodIn wsX1_hitsIn wsX0_within := goodIn_r _ [32, 33, 34, 12, 35, 36, 11, 13, 37, 38, 39, 40, 41] (by decide +kernel) (by decide +kernel)
set_option maxRecDepth 20000 in
theorem gX1_hitsIn_X0_within : GoodIn wsX1_hitsIn (va_wsS RX1 37 yX0_within wsX0_within) := goodIn_app (goodIn_of _ (by decide +kernel)) ggX1_hitsIn_X0_within
theorem dX1_hitsIn_0 : decode cX1_hitsIn 0 = .ok (.lconst 0, 1) := by decide +kernel
theorem dX1_hitsIn_1 : decode cX1_hitsIn 1 = .ok (.lstore_n 1, 1) := by decide +kernel
theorem dX1_hitsIn_2 : decode cX1_hitsIn 2 = .ok (.iconst 0, 1) := by decide +kernel
theorem dX1_hitsIn_3 : decode cX1_hitsIn 3 = .ok (.istore_n 3, 1) := by decide +kernel
theorem dX1_hitsIn_4 : decode cX1_hitsIn 4 = .ok (.iload_n 3, 1) := by decide +kernel
theorem dX1_hitsIn_5 : decode cX1_hitsIn 5 = .ok (.aload_n 0, 1) := by decide +kernel
theorem dX1_hitsIn_6 : decode cX1_hitsIn 6 = .ok (.getfield 57, 3) := by decide +kernel
theorem dX1_hitsIn_9 : decode cX1_hitsIn 9 = .ok (.if_icmp .ge 103, 3) := by decide +kernel
theorem dX1_hitsIn_12 : decode cX1_hitsIn 12 = .ok (.iconst 0, 1) := by decide +kernel
theorem dX1_hitsIn_13 : decode cX1_hitsIn 13 = .ok (.istore 4, 2) := by decide +kernel
theorem dX1_hitsIn_15 : decode cX1_hitsIn 15 = .ok (.iload 4, 2) := by decide +kernel
theorem dX1_hitsIn_17 : decode cX1_hitsIn 17 = .ok (.aload_n 0, 1) := by decide +kernel
theorem dX1_hitsIn_18 : decode cX1_hitsIn 18 = .ok (.getfield 57, 3) := by decide +kernel
theorem dX1_hitsIn_21 : decode cX1_hitsIn 21 = .ok (.if_icmp .ge 68, 3) := by decide +kernel
theorem dX1_hitsIn_24 : decode cX1_hitsIn 24 = .ok (.aload_n 0, 1) := by decide +kernel
theorem dX1_hitsIn_25 : decode cX1_hitsIn 25 = .ok (.iload_n 3, 1) := by decide +kernel
theorem dX1_hitsIn_26 : decode cX1_hitsIn 26 = .ok (.invokevirtual 60, 3) := by decide +kernel
theorem dX1_hitsIn_29 : decode cX1_hitsIn 29 = .ok (.aload_n 0, 1) := by decide +kernel
theorem dX1_hitsIn_30 : decode cX1_hitsIn 30 = .ok (.iload 4, 2) := by decide +kernel
theorem dX1_hitsIn_32 : decode cX1_hitsIn 32 = .ok (.invokevirtual 60, 3) := by decide +kernel
theorem dX1_hitsIn_35 : decode cX1_hitsIn 35 = .ok (.isub, 1) := by decide +kernel
theorem dX1_hitsIn_36 : decode cX1_hitsIn 36 = .ok (.istore 5, 2) := by decide +kernel
theorem dX1_hitsIn_38 : decode cX1_hitsIn 38 = .ok (.aload_n 0, 1) := by decide +kernel
theorem dX1_hitsIn_39 : decode cX1_hitsIn 39 = .ok (.iload_n 3, 1) := by decide +kernel
theorem dX1_hitsIn_40 : decode cX1_hitsIn 40 = .ok (.invokevirtual 64, 3) := by decide +kernel
theorem dX1_hitsIn_43 : decode cX1_hitsIn 43 = .ok (.aload_n 0, 1) := by decide +kernel
theorem dX1_hitsIn_44 : decode cX1_hitsIn 44 = .ok (.iload 4, 2) := by decide +kernel
theorem dX1_hitsIn_46 : decode cX1_hitsIn 46 = .ok (.invokevirtual 64, 3) := by decide +kernel
theorem dX1_hitsIn_49 : decode cX1_hitsIn 49 = .ok (.iload 5, 2) := by decide +kernel
theorem dX1_hitsIn_51 : decode cX1_hitsIn 51 = .ok (.invokestatic 67, 3) := by decide +kernel
theorem dX1_hitsIn_54 : decode cX1_hitsIn 54 = .ok (.istore 6, 2) := by decide +kernel
theorem dX1_hitsIn_56 : decode cX1_hitsIn 56 = .ok (.iload 6, 2) := by decide +kernel
theorem dX1_hitsIn_58 : decode cX1_hitsIn 58 = .ok (.ifCond .eq 25, 3) := by decide +kernel
theorem dX1_hitsIn_61 : decode cX1_hitsIn 61 = .ok (.aload_n 0, 1) := by decide +kernel
theorem dX1_hitsIn_62 : decode cX1_hitsIn 62 = .ok (.getfield 71, 3) := by decide +kernel
theorem dX1_hitsIn_65 : decode cX1_hitsIn 65 = .ok (.iload_n 3, 1) := by decide +kernel
theorem dX1_hitsIn_66 : decode cX1_hitsIn 66 = .ok (.iload 4, 2) := by decide +kernel
theorem dX1_hitsIn_68 : decode cX1_hitsIn 68 = .ok (.invokestatic 74, 3) := by decide +kernel
theorem dX1_hitsIn_71 : decode cX1_hitsIn 71 = .ok (.ifCond .eq 12, 3) := by decide +kernel
theorem dX1_hitsIn_74 : decode cX1_hitsIn 74 = .ok (.lload_n 1, 1) := by decide +kernel
theorem dX1_hitsIn_75 : decode cX1_hitsIn 75 = .ok (.iload_n 3, 1) := by decide +kernel
theorem dX1_hitsIn_76 : decode cX1_hitsIn 76 = .ok (.iload 4, 2) := by decide +kernel
theorem dX1_hitsIn_78 : decode cX1_hitsIn 78 = .ok (.invokestatic 78, 3) := by decide +kernel
theorem dX1_hitsIn_81 : decode cX1_hitsIn 81 = .ok (.lor, 1) := by decide +kernel
theorem dX1_hitsIn_82 : decode cX1_hitsIn 82 = .ok (.lstore_n 1, 1) := by decide +kernel
theorem dX1_hitsIn_83 : decode cX1_hitsIn 83 = .ok (.iinc 4 1, 3) := by decide +kernel
theorem dX1_hitsIn_86 : decode cX1_hitsIn 86 = .ok (.goto (-71), 3) := by decide +kernel
theorem dX1_hitsIn_89 : decode cX1_hitsIn 89 = .ok (.aload_n 0, 1) := by decide +kernel
theorem dX1_hitsIn_90 : decode cX1_hitsIn 90 = .ok (.iload_n 3, 1) := by decide +kernel
theorem dX1_hitsIn_91 : decode cX1_hitsIn 91 = .ok (.invokevirtual 64, 3) := by decide +kernel
theorem dX1_hitsIn_94 : decode cX1_hitsIn 94 = .ok (.iconst 4, 1) := by decide +kernel
theorem dX1_hitsIn_95 : decode cX1_hitsIn 95 = .ok (.if_icmp .ne 11, 3) := by decide +kernel
theorem dX1_hitsIn_98 : decode cX1_hitsIn 98 = .ok (.lload_n 1, 1) := by decide +kernel
theorem dX1_hitsIn_99 : decode cX1_hitsIn 99 = .ok (.iload_n 3, 1) := by decide +kernel
theorem dX1_hitsIn_100 : decode cX1_hitsIn 100 = .ok (.iload_n 3, 1) := by decide +kernel
theorem dX1_hitsIn_101 : decode cX1_hitsIn 101 = .ok (.invokestatic 78, 3) := by decide +kernel
theorem dX1_hitsIn_104 : decode cX1_hitsIn 104 = .ok (.lor, 1) := by decide +kernel
theorem dX1_hitsIn_105 : decode cX1_hitsIn 105 = .ok (.lstore_n 1, 1) := by decide +kernel
theorem dX1_hitsIn_106 : decode cX1_hitsIn 106 = .ok (.iinc 3 1, 3) := by decide +kernel
theorem dX1_hitsIn_109 : decode cX1_hitsIn 109 = .ok (.goto (-105), 3) := by decide +kernel
theorem dX1_hitsIn_112 : decode cX1_hitsIn 112 = .ok (.lload_n 1, 1) := by decide +kernel
theorem dX1_hitsIn_113 : decode cX1_hitsIn 113 = .ok (.aload_n 0, 1) := by decide +kernel
theorem dX1_hitsIn_114 : decode cX1_hitsIn 114 = .ok (.getfield 33, 3) := by decide +kernel
theorem dX1_hitsIn_117 : decode cX1_hitsIn 117 = .ok (.invokestatic 37, 3) := by decide +kernel
theorem dX1_hitsIn_120 : decode cX1_hitsIn 120 = .ok (.lreturn, 1) := by decide +kernel
theorem dX1_letHit_0 : decode cX1_letHit 0 = .ok (.iload_n 0, 1) := by decide +kernel
theorem dX1_letHit_1 : decode cX1_letHit 1 = .ok (.iconst 5, 1) := by decide +kernel
theorem dX1_letHit_2 : decode cX1_letHit 2 = .ok (.if_icmp .eq 13, 3) := by decide +kernel
theorem dX1_letHit_5 : decode cX1_letHit 5 = .ok (.iload_n 1, 1) := by decide +kernel
theorem dX1_letHit_6 : decode cX1_letHit 6 = .ok (.iconst 3, 1) := by decide +kernel
theorem dX1_letHit_7 : decode cX1_letHit 7 = .ok (.if_icmp .ne 10, 3) := by decide +kernel
theorem dX1_letHit_10 : decode cX1_letHit 10 = .ok (.iload_n 0, 1) := by decide +kernel
theorem dX1_letHit_11 : decode cX1_letHit 11 = .ok (.iconst 3, 1) := by decide +kernel
theorem dX1_letHit_12 : decode cX1_letHit 12 = .ok (.if_icmp .eq 5, 3) := by decide +kernel
theorem dX1_letHit_15 : decode cX1_letHit 15 = .ok (.iconst 0, 1) := by decide +kernel
theorem dX1_letHit_16 : decode cX1_letHit 16 = .ok (.ireturn, 1) := by decide +kernel
theorem dX1_letHit_17 : decode cX1_letHit 17 = .ok (.iload_n 0, 1) := by decide +kernel
theorem dX1_letHit_18 : decode cX1_letHit 18 = .ok (.iconst 1, 1) := by decide +kernel
theorem dX1_letHit_19 : decode cX1_letHit 19 = .ok (.if_icmp .eq 8, 3) := by decide +kernel
theorem dX1_letHit_22 : decode cX1_letHit 22 = .ok (.iload_n 0, 1) := by decide +kernel
theorem dX1_letHit_23 : decode cX1_letHit 23 = .ok (.iconst 4, 1) := by decide +kernel
theorem dX1_letHit_24 : decode cX1_letHit 24 = .ok (.if_icmp .ne 9, 3) := by decide +kernel
theorem dX1_letHit_27 : decode cX1_letHit 27 = .ok (.iload_n 2, 1) := by decide +kernel
theorem dX1_letHit_28 : decode cX1_letHit 28 = .ok (.ifCond .ge 5, 3) := by decide +kernel
theorem dX1_letHit_31 : decode cX1_letHit 31 = .ok (.iconst 0, 1) := by decide +kernel
theorem dX1_letHit_32 : decode cX1_letHit 32 = .ok (.ireturn, 1) := by decide +kernel
theorem dX1_letHit_33 : decode cX1_letHit 33 = .ok (.iload_n 1, 1) := by decide +kernel
theorem dX1_letHit_34 : decode cX1_letHit 34 = .ok (.iconst 2, 1) := by decide +kernel
theorem dX1_letHit_35 : decode cX1_letHit 35 = .ok (.if_icmp .eq 8, 3) := by decide +kernel
theorem dX1_letHit_38 : decode cX1_letHit 38 = .ok (.iload_n 1, 1) := by decide +kernel
theorem dX1_letHit_39 : decode cX1_letHit 39 = .ok (.iconst 3, 1) := by decide +kernel
theorem dX1_letHit_40 : decode cX1_letHit 40 = .ok (.if_icmp .ne 7, 3) := by decide +kernel
theorem dX1_letHit_43 : decode cX1_letHit 43 = .ok (.iload_n 2, 1) := by decide +kernel
theorem dX1_letHit_44 : decode cX1_letHit 44 = .ok (.ifCond .lt 7, 3) := by decide +kernel
theorem dX1_letHit_47 : decode cX1_letHit 47 = .ok (.iconst 1, 1) := by decide +kernel
theorem dX1_letHit_48 : decode cX1_letHit 48 = .ok (.goto 4, 3) := by decide +kernel
theorem dX1_letHit_51 : decode cX1_letHit 51 = .ok (.iconst 0, 1) := by decide +kernel
theorem dX1_letHit_52 : decode cX1_letHit 52 = .ok (.ireturn, 1) := by decide +kernel
theorem dX2_init_0 : decode cX2_init 0 = .ok (.aload_n 0, 1) := by decide +kernel
theorem dX2_init_1 : decode cX2_init 1 = .ok (.invokespecial 3, 3) := by decide +kernel
theorem dX2_init_4 : decode cX2_init 4 = .ok (.aload_n 0, 1) := by decide +kernel
theorem dX2_init_5 : decode cX2_init 5 = .ok (.sipush 2048, 3) := by decide +kernel
theorem dX2_init_8 : decode cX2_init 8 = .ok (.newarray .int, 2) := by decide +kernel
theorem dX2_init_10 : decode cX2_init 10 = .ok (.putfield 9, 3) := by decide +kernel
theorem dX2_init_13 : decode cX2_init 13 = .ok (.aload_n 0, 1) := by decide +kernel
theorem dX2_init_14 : decode cX2_init 14 = .ok (.sipush 2048, 3) := by decide +kernel
theorem dX2_init_17 : decode cX2_init 17 = .ok (.newarray .int, 2) := by decide +kernel
theorem dX2_init_19 : decode cX2_init 19 = .ok (.putfield 15, 3) := by decide +kernel
theorem dX2_init_22 : decode cX2_init 22 = .ok (.aload_n 0, 1) := by decide +kernel
theorem dX2_init_23 : decode cX2_init 23 = .ok (.lconst 0, 1) := by decide +kernel
theorem dX2_init_24 : decode cX2_init 24 = .ok (.putfield 18, 3) := by decide +kernel
theorem dX2_init_27 : decode cX2_init 27 = .ok (.return_, 1) := by decide +kernel
set_option maxRecDepth 20000 in
theorem ggX2_play_X0_contains : GoodIn wsX2_play wsX0_contains := goodIn_r _ [5] (by decide +kernel) (by decide +kernel)
set_option maxRecDepth 20000 in
theorem gX2_play_X0_contains : GoodIn wsX2_play (va_wsS RX2 22 yX0_contains wsX0_contains) := goodIn_app (goodIn_of _ (by decide +kernel)) ggX2_play_X0_contains
set_option maxRecDepth 20000 in
theorem ggX2_play_X2_reckon : GoodIn wsX2_play wsX2_reckon := goodIn_r _ [10, 11, 12, 13, 14, 9, 15, 2, 3, 4, 5, 16, 17, 18, 19, 1, 20, 21, 22, 23, 24, 25, 26, 27, 28, 29, 30, 31, 32, 33, 34, 35, 36, 37, 38, 39, 40, 41, 42, 43, 44, 45, 46, 47, 48, 49, 50] (by decide +kernel) (by decide +kernel)
set_option maxRecDepth 20000 in
theorem gX2_play_X2_reckon : GoodIn wsX2_play (wsV RX2 28 RX2 yX2_reckon wsX2_reckon) := goodIn_app (goodIn_of _ (by decide +kernel)) ggX2_play_X2_reckon
theorem dX2_play_0 : decode cX2_play 0 = .ok (.aload_n 0, 1) := by decide +kernel
theorem dX2_play_1 : decode cX2_play 1 = .ok (.lload_n 3, 1) := by decide +kernel
theorem dX2_play_2 : decode cX2_play 2 = .ok (.putfield 18, 3) := by decide +kernel
theorem dX2_play_5 : decode cX2_play 5 = .ok (.sipush 255, 3) := by decide +kernel
theorem dX2_play_8 : decode cX2_play 8 = .ok (.istore 5, 2) := by decide +kernel
theorem dX2_play_10 : decode cX2_play 10 = .ok (.iload 5, 2) := by decide +kernel
theorem dX2_play_12 : decode cX2_play 12 = .ok (.ifCond .lt 33, 3) := by decide +kernel
theorem dX2_play_15 : decode cX2_play 15 = .ok (.iload 5, 2) := by decide +kernel
theorem dX2_play_17 : decode cX2_play 17 = .ok (.iload_n 1, 1) := by decide +kernel
theorem dX2_play_18 : decode cX2_play 18 = .ok (.invokestatic 22, 3) := by decide +kernel
theorem dX2_play_21 : decode cX2_play 21 = .ok (.ifCond .eq 18, 3) := by decide +kernel
theorem dX2_play_24 : decode cX2_play 24 = .ok (.iload 5, 2) := by decide +kernel
theorem dX2_play_26 : decode cX2_play 26 = .ok (.iload_n 2, 1) := by decide +kernel
theorem dX2_play_27 : decode cX2_play 27 = .ok (.iconst (-1), 1) := by decide +kernel
theorem dX2_play_28 : decode cX2_play 28 = .ok (.ixor, 1) := by decide +kernel
theorem dX2_play_29 : decode cX2_play 29 = .ok (.iand, 1) := by decide +kernel
theorem dX2_play_30 : decode cX2_play 30 = .ok (.ifCond .ne 9, 3) := by decide +kernel
theorem dX2_play_33 : decode cX2_play 33 = .ok (.aload_n 0, 1) := by decide +kernel
theorem dX2_play_34 : decode cX2_play 34 = .ok (.iload 5, 2) := by decide +kernel
theorem dX2_play_36 : decode cX2_play 36 = .ok (.invokevirtual 28, 3) := by decide +kernel
theorem dX2_play_39 : decode cX2_play 39 = .ok (.iinc 5 (-1), 3) := by decide +kernel
theorem dX2_play_42 : decode cX2_play 42 = .ok (.goto (-32), 3) := by decide +kernel
theorem dX2_play_45 : decode cX2_play 45 = .ok (.return_, 1) := by decide +kernel
set_option maxRecDepth 20000 in
theorem ggX2_reckon_X2_placeOf : GoodIn wsX2_reckon wsX2_placeOf := goodIn_r _ [6] (by decide +kernel) (by decide +kernel)
set_option maxRecDepth 20000 in
theorem gX2_reckon_X2_placeOf : GoodIn wsX2_reckon (va_wsS RX2 32 yX2_placeOf wsX2_placeOf) := goodIn_app (goodIn_of _ (by decide +kernel)) ggX2_reckon_X2_placeOf
set_option maxRecDepth 20000 in
theorem ggX2_reckon_X0_contains : GoodIn wsX2_reckon wsX0_contains := goodIn_r _ [10] (by decide +kernel) (by decide +kernel)
set_option maxRecDepth 20000 in
theorem gX2_reckon_X0_contains : GoodIn wsX2_reckon (va_wsS RX2 22 yX0_contains wsX0_contains) := goodIn_app (goodIn_of _ (by decide +kernel)) ggX2_reckon_X0_contains
set_option maxRecDepth 20000 in
theorem ggX2_reckon_X2_depthBehind : GoodIn wsX2_reckon wsX2_depthBehind := goodIn_r _ [14, 15, 16, 17, 18, 19, 20, 21, 9, 22, 7, 8, 10, 23, 24, 25, 5, 26, 27, 28, 29, 30, 1, 3, 4, 6, 44, 45, 46] (by decide +kernel) (by decide +kernel)
set_option maxRecDepth 20000 in
theorem gX2_reckon_X2_depthBehind : GoodIn wsX2_reckon (wsV RX2 36 RX2 yX2_depthBehind wsX2_depthBehind) := goodIn_app (goodIn_of _ (by decide +kernel)) ggX2_reckon_X2_depthBehind
set_option maxRecDepth 20000 in
theorem ggX2_reckon_X2_waysBehind : GoodIn wsX2_reckon wsX2_waysBehind := goodIn_r _ [34, 15, 35, 20, 21, 9, 22, 7, 8, 10, 36, 37, 38, 5, 39, 40, 41, 42, 43, 2, 3, 4, 6, 44, 45, 46] (by decide +kernel) (by decide +kernel)
set_option maxRecDepth 20000 in
theorem gX2_reckon_X2_waysBehind : GoodIn wsX2_reckon (wsV RX2 39 RX2 yX2_waysBehind wsX2_waysBehind) := goodIn_app (goodIn_of _ (by decide +kernel)) ggX2_reckon_X2_waysBehind
theorem dX2_reckon_0 : decode cX2_reckon 0 = .ok (.iconst 0, 1) := by decide +kernel
theorem dX2_reckon_1 : decode cX2_reckon 1 = .ok (.istore_n 2, 1) := by decide +kernel
theorem dX2_reckon_2 : decode cX2_reckon 2 = .ok (.iload_n 2, 1) := by decide +kernel
theorem dX2_reckon_3 : decode cX2_reckon 3 = .ok (.bipush 8, 2) := by decide +kernel
theorem dX2_reckon_5 : decode cX2_reckon 5 = .ok (.if_icmp .ge 81, 3) := by decide +kernel
theorem dX2_reckon_8 : decode cX2_reckon 8 = .ok (.iload_n 1, 1) := by decide +kernel
theorem dX2_reckon_9 : decode cX2_reckon 9 = .ok (.iload_n 2, 1) := by decide +kernel
theorem dX2_reckon_10 : decode cX2_reckon 10 = .ok (.invokestatic 32, 3) := by decide +kernel
theorem dX2_reckon_13 : decode cX2_reckon 13 = .ok (.istore_n 3, 1) := by decide +kernel
theorem dX2_reckon_14 : decode cX2_reckon 14 = .ok (.iload_n 3, 1) := by decide +kernel
theorem dX2_reckon_15 : decode cX2_reckon 15 = .ok (.ifCond .lt 25, 3) := by decide +kernel
theorem dX2_reckon_18 : decode cX2_reckon 18 = .ok (.iload_n 3, 1) := by decide +kernel
theorem dX2_reckon_19 : decode cX2_reckon 19 = .ok (.aload_n 0, 1) := by decide +kernel
theorem dX2_reckon_20 : decode cX2_reckon 20 = .ok (.getfield 9, 3) := by decide +kernel
theorem dX2_reckon_23 : decode cX2_reckon 23 = .ok (.arraylength, 1) := by decide +kernel
theorem dX2_reckon_24 : decode cX2_reckon 24 = .ok (.if_icmp .ge 16, 3) := by decide +kernel
theorem dX2_reckon_27 : decode cX2_reckon 27 = .ok (.iload_n 3, 1) := by decide +kernel
theorem dX2_reckon_28 : decode cX2_reckon 28 = .ok (.aload_n 0, 1) := by decide +kernel
theorem dX2_reckon_29 : decode cX2_reckon 29 = .ok (.getfield 15, 3) := by decide +kernel
theorem dX2_reckon_32 : decode cX2_reckon 32 = .ok (.arraylength, 1) := by decide +kernel
theorem dX2_reckon_33 : decode cX2_reckon 33 = .ok (.if_icmp .ge 7, 3) := by decide +kernel
theorem dX2_reckon_36 : decode cX2_reckon 36 = .ok (.iconst 1, 1) := by decide +kernel
theorem dX2_reckon_37 : decode cX2_reckon 37 = .ok (.goto 4, 3) := by decide +kernel
theorem dX2_reckon_40 : decode cX2_reckon 40 = .ok (.iconst 0, 1) := by decide +kernel
theorem dX2_reckon_41 : decode cX2_reckon 41 = .ok (.istore 4, 2) := by decide +kernel
theorem dX2_reckon_43 : decode cX2_reckon 43 = .ok (.iload 4, 2) := by decide +kernel
theorem dX2_reckon_45 : decode cX2_reckon 45 = .ok (.ifCond .eq 35, 3) := by decide +kernel
theorem dX2_reckon_48 : decode cX2_reckon 48 = .ok (.iload_n 1, 1) := by decide +kernel
theorem dX2_reckon_49 : decode cX2_reckon 49 = .ok (.iload_n 2, 1) := by decide +kernel
theorem dX2_reckon_50 : decode cX2_reckon 50 = .ok (.invokestatic 22, 3) := by decide +kernel
theorem dX2_reckon_53 : decode cX2_reckon 53 = .ok (.ifCond .eq 27, 3) := by decide +kernel
theorem dX2_reckon_56 : decode cX2_reckon 56 = .ok (.aload_n 0, 1) := by decide +kernel
theorem dX2_reckon_57 : decode cX2_reckon 57 = .ok (.getfield 9, 3) := by decide +kernel
theorem dX2_reckon_60 : decode cX2_reckon 60 = .ok (.iload_n 3, 1) := by decide +kernel
theorem dX2_reckon_61 : decode cX2_reckon 61 = .ok (.aload_n 0, 1) := by decide +kernel
theorem dX2_reckon_62 : decode cX2_reckon 62 = .ok (.iload_n 1, 1) := by decide +kernel
theorem dX2_reckon_63 : decode cX2_reckon 63 = .ok (.iload_n 2, 1) := by decide +kernel
theorem dX2_reckon_64 : decode cX2_reckon 64 = .ok (.invokevirtual 36, 3) := by decide +kernel
theorem dX2_reckon_67 : decode cX2_reckon 67 = .ok (.iastore, 1) := by decide +kernel
theorem dX2_reckon_68 : decode cX2_reckon 68 = .ok (.aload_n 0, 1) := by decide +kernel
theorem dX2_reckon_69 : decode cX2_reckon 69 = .ok (.getfield 15, 3) := by decide +kernel
theorem dX2_reckon_72 : decode cX2_reckon 72 = .ok (.iload_n 3, 1) := by decide +kernel
theorem dX2_reckon_73 : decode cX2_reckon 73 = .ok (.aload_n 0, 1) := by decide +kernel
theorem dX2_reckon_74 : decode cX2_reckon 74 = .ok (.iload_n 1, 1) := by decide +kernel
theorem dX2_reckon_75 : decode cX2_reckon 75 = .ok (.iload_n 2, 1) := by decide +kernel
theorem dX2_reckon_76 : decode cX2_reckon 76 = .ok (.invokevirtual 39, 3) := by decide +kernel
theorem dX2_reckon_79 : decode cX2_reckon 79 = .ok (.iastore, 1) := by decide +kernel
theorem dX2_reckon_80 : decode cX2_reckon 80 = .ok (.iinc 2 1, 3) := by decide +kernel
theorem dX2_reckon_83 : decode cX2_reckon 83 = .ok (.goto (-81), 3) := by decide +kernel
theorem dX2_reckon_86 : decode cX2_reckon 86 = .ok (.return_, 1) := by decide +kernel
theorem dX2_placeOf_0 : decode cX2_placeOf 0 = .ok (.iload_n 0, 1) := by decide +kernel
theorem dX2_placeOf_1 : decode cX2_placeOf 1 = .ok (.sipush 255, 3) := by decide +kernel
theorem dX2_placeOf_4 : decode cX2_placeOf 4 = .ok (.iand, 1) := by decide +kernel
theorem dX2_placeOf_5 : decode cX2_placeOf 5 = .ok (.bipush 8, 2) := by decide +kernel
theorem dX2_placeOf_7 : decode cX2_placeOf 7 = .ok (.imul, 1) := by decide +kernel
theorem dX2_placeOf_8 : decode cX2_placeOf 8 = .ok (.iload_n 1, 1) := by decide +kernel
theorem dX2_placeOf_9 : decode cX2_placeOf 9 = .ok (.bipush 7, 2) := by decide +kernel
theorem dX2_placeOf_11 : decode cX2_placeOf 11 = .ok (.iand, 1) := by decide +kernel
theorem dX2_placeOf_12 : decode cX2_placeOf 12 = .ok (.iadd, 1) := by decide +kernel
theorem dX2_placeOf_13 : decode cX2_placeOf 13 = .ok (.ireturn, 1) := by decide +kernel
set_option maxRecDepth 20000 in
theorem ggX2_depthBehind_X0_get : GoodIn wsX2_depthBehind wsX0_get := goodIn_r _ [9] (by decide +kernel) (by decide +kernel)
set_option maxRecDepth 20000 in
theorem gX2_depthBehind_X0_get : GoodIn wsX2_depthBehind (va_wsS RX2 42 yX0_get wsX0_get) := goodIn_app (goodIn_of _ (by decide +kernel)) ggX2_depthBehind_X0_get
set_option maxRecDepth 20000 in
theorem ggX2_depthBehind_X0_contains : GoodIn wsX2_depthBehind wsX0_contains := goodIn_r _ [12] (by decide +kernel) (by decide +kernel)
set_option maxRecDepth 20000 in
theorem gX2_depthBehind_X0_contains : GoodIn wsX2_depthBehind (va_wsS RX2 22 yX0_contains wsX0_contains) := goodIn_app (goodIn_of _ (by decide +kernel)) ggX2_depthBehind_X0_contains
set_option maxRecDepth 20000 in
theorem ggX2_depthBehind_X2_bestAnswer : GoodIn wsX2_depthBehind wsX2_bestAnswer := goodIn_r _ [17, 1, 6, 7, 8, 9, 10, 11, 12, 18, 19, 20, 16, 21, 22, 23, 24, 25, 26, 27, 28] (by decide +kernel) (by decide +kernel)
set_option maxRecDepth 20000 in
theorem gX2_depthBehind_X2_bestAnswer : GoodIn wsX2_depthBehind (wsV RX2 46 RX2 yX2_bestAnswer wsX2_bestAnswer) := goodIn_app (goodIn_of _ (by decide +kernel)) ggX2_depthBehind_X2_bestAnswer
set_option maxRecDepth 20000 in
theorem ggX2_depthBehind_X2_depthAt : GoodIn wsX2_depthBehind wsX2_depthAt := goodIn_r _ [21, 22, 23, 24, 16, 25, 26, 27, 28] (by decide +kernel) (by decide +kernel)
set_option maxRecDepth 20000 in
theorem gX2_depthBehind_X2_depthAt : GoodIn wsX2_depthBehind (wsV RX2 49 RX2 yX2_depthAt wsX2_depthAt) := goodIn_app (goodIn_of _ (by decide +kernel)) ggX2_depthBehind_X2_depthAt
theorem dX2_depthBehind_0 : decode cX2_depthBehind 0 = .ok (.iconst 0, 1) := by decide +kernel
theorem dX2_depthBehind_1 : decode cX2_depthBehind 1 = .ok (.istore_n 3, 1) := by decide +kernel
theorem dX2_depthBehind_2 : decode cX2_depthBehind 2 = .ok (.aload_n 0, 1) := by decide +kernel
theorem dX2_depthBehind_3 : decode cX2_depthBehind 3 = .ok (.getfield 18, 3) := by decide +kernel
theorem dX2_depthBehind_6 : decode cX2_depthBehind 6 = .ok (.iload_n 2, 1) := by decide +kernel
theorem dX2_depthBehind_7 : decode cX2_depthBehind 7 = .ok (.invokestatic 42, 3) := by decide +kernel
theorem dX2_depthBehind_10 : decode cX2_depthBehind 10 = .ok (.istore 4, 2) := by decide +kernel
theorem dX2_depthBehind_12 : decode cX2_depthBehind 12 = .ok (.iconst 0, 1) := by decide +kernel
theorem dX2_depthBehind_13 : decode cX2_depthBehind 13 = .ok (.istore 5, 2) := by decide +kernel
theorem dX2_depthBehind_15 : decode cX2_depthBehind 15 = .ok (.iload 5, 2) := by decide +kernel
theorem dX2_depthBehind_17 : decode cX2_depthBehind 17 = .ok (.bipush 8, 2) := by decide +kernel
theorem dX2_depthBehind_19 : decode cX2_depthBehind 19 = .ok (.if_icmp .ge 54, 3) := by decide +kernel
theorem dX2_depthBehind_22 : decode cX2_depthBehind 22 = .ok (.iload 4, 2) := by decide +kernel
theorem dX2_depthBehind_24 : decode cX2_depthBehind 24 = .ok (.iload 5, 2) := by decide +kernel
theorem dX2_depthBehind_26 : decode cX2_depthBehind 26 = .ok (.invokestatic 22, 3) := by decide +kernel
theorem dX2_depthBehind_29 : decode cX2_depthBehind 29 = .ok (.ifCond .eq 38, 3) := by decide +kernel
theorem dX2_depthBehind_32 : decode cX2_depthBehind 32 = .ok (.aload_n 0, 1) := by decide +kernel
theorem dX2_depthBehind_33 : decode cX2_depthBehind 33 = .ok (.iload_n 1, 1) := by decide +kernel
theorem dX2_depthBehind_34 : decode cX2_depthBehind 34 = .ok (.iload 5, 2) := by decide +kernel
theorem dX2_depthBehind_36 : decode cX2_depthBehind 36 = .ok (.invokevirtual 46, 3) := by decide +kernel
theorem dX2_depthBehind_39 : decode cX2_depthBehind 39 = .ok (.istore 6, 2) := by decide +kernel
theorem dX2_depthBehind_41 : decode cX2_depthBehind 41 = .ok (.iload 6, 2) := by decide +kernel
theorem dX2_depthBehind_43 : decode cX2_depthBehind 43 = .ok (.ifCond .ge 5, 3) := by decide +kernel
theorem dX2_depthBehind_46 : decode cX2_depthBehind 46 = .ok (.iconst 0, 1) := by decide +kernel
theorem dX2_depthBehind_47 : decode cX2_depthBehind 47 = .ok (.ireturn, 1) := by decide +kernel
theorem dX2_depthBehind_48 : decode cX2_depthBehind 48 = .ok (.iload_n 3, 1) := by decide +kernel
theorem dX2_depthBehind_49 : decode cX2_depthBehind 49 = .ok (.iconst 1, 1) := by decide +kernel
theorem dX2_depthBehind_50 : decode cX2_depthBehind 50 = .ok (.aload_n 0, 1) := by decide +kernel
theorem dX2_depthBehind_51 : decode cX2_depthBehind 51 = .ok (.iload_n 1, 1) := by decide +kernel
theorem dX2_depthBehind_52 : decode cX2_depthBehind 52 = .ok (.iconst 1, 1) := by decide +kernel
theorem dX2_depthBehind_53 : decode cX2_depthBehind 53 = .ok (.iload 6, 2) := by decide +kernel
theorem dX2_depthBehind_55 : decode cX2_depthBehind 55 = .ok (.ishl, 1) := by decide +kernel
theorem dX2_depthBehind_56 : decode cX2_depthBehind 56 = .ok (.ior, 1) := by decide +kernel
theorem dX2_depthBehind_57 : decode cX2_depthBehind 57 = .ok (.iload 6, 2) := by decide +kernel
theorem dX2_depthBehind_59 : decode cX2_depthBehind 59 = .ok (.invokevirtual 49, 3) := by decide +kernel
theorem dX2_depthBehind_62 : decode cX2_depthBehind 62 = .ok (.iadd, 1) := by decide +kernel
theorem dX2_depthBehind_63 : decode cX2_depthBehind 63 = .ok (.invokestatic 52, 3) := by decide +kernel
theorem dX2_depthBehind_66 : decode cX2_depthBehind 66 = .ok (.istore_n 3, 1) := by decide +kernel
theorem dX2_depthBehind_67 : decode cX2_depthBehind 67 = .ok (.iinc 5 1, 3) := by decide +kernel
theorem dX2_depthBehind_70 : decode cX2_depthBehind 70 = .ok (.goto (-55), 3) := by decide +kernel
theorem dX2_depthBehind_73 : decode cX2_depthBehind 73 = .ok (.iconst 1, 1) := by decide +kernel
theorem dX2_depthBehind_74 : decode cX2_depthBehind 74 = .ok (.iload_n 3, 1) := by decide +kernel
theorem dX2_depthBehind_75 : decode cX2_depthBehind 75 = .ok (.iadd, 1) := by decide +kernel
theorem dX2_depthBehind_76 : decode cX2_depthBehind 76 = .ok (.ireturn, 1) := by decide +kernel
set_option maxRecDepth 20000 in
theorem ggX2_bestAnswer_X0_get : GoodIn wsX2_bestAnswer wsX0_get := goodIn_r _ [5] (by decide +kernel) (by decide +kernel)
set_option maxRecDepth 20000 in
theorem gX2_bestAnswer_X0_get : GoodIn wsX2_bestAnswer (va_wsS RX2 42 yX0_get wsX0_get) := goodIn_app (goodIn_of _ (by decide +kernel)) ggX2_bestAnswer_X0_get
set_option maxRecDepth 20000 in
theorem ggX2_bestAnswer_X0_contains : GoodIn wsX2_bestAnswer wsX0_contains := goodIn_r _ [8] (by decide +kernel) (by decide +kernel)
set_option maxRecDepth 20000 in
theorem gX2_bestAnswer_X0_contains : GoodIn wsX2_bestAnswer (va_wsS RX2 22 yX0_contains wsX0_contains) := goodIn_app (goodIn_of _ (by decide +kernel)) ggX2_bestAnswer_X0_contains
set_option maxRecDepth 20000 in
theorem ggX2_bestAnswer_X2_depthAt : GoodIn wsX2_bestAnswer wsX2_depthAt := goodIn_r _ [13, 14, 15, 16, 12, 17, 18, 19, 20] (by decide +kernel) (by decide +kernel)
set_option maxRecDepth 20000 in
theorem gX2_bestAnswer_X2_depthAt : GoodIn wsX2_bestAnswer (wsV RX2 49 RX2 yX2_depthAt wsX2_depthAt) := goodIn_app (goodIn_of _ (by decide +kernel)) ggX2_bestAnswer_X2_depthAt
theorem dX2_bestAnswer_0 : decode cX2_bestAnswer 0 = .ok (.iconst (-1), 1) := by decide +kernel
theorem dX2_bestAnswer_1 : decode cX2_bestAnswer 1 = .ok (.istore_n 3, 1) := by decide +kernel
theorem dX2_bestAnswer_2 : decode cX2_bestAnswer 2 = .ok (.iconst 0, 1) := by decide +kernel
theorem dX2_bestAnswer_3 : decode cX2_bestAnswer 3 = .ok (.istore 4, 2) := by decide +kernel
theorem dX2_bestAnswer_5 : decode cX2_bestAnswer 5 = .ok (.aload_n 0, 1) := by decide +kernel
theorem dX2_bestAnswer_6 : decode cX2_bestAnswer 6 = .ok (.getfield 18, 3) := by decide +kernel
theorem dX2_bestAnswer_9 : decode cX2_bestAnswer 9 = .ok (.iload_n 2, 1) := by decide +kernel
theorem dX2_bestAnswer_10 : decode cX2_bestAnswer 10 = .ok (.invokestatic 42, 3) := by decide +kernel
theorem dX2_bestAnswer_13 : decode cX2_bestAnswer 13 = .ok (.iload_n 1, 1) := by decide +kernel
theorem dX2_bestAnswer_14 : decode cX2_bestAnswer 14 = .ok (.iconst (-1), 1) := by decide +kernel
theorem dX2_bestAnswer_15 : decode cX2_bestAnswer 15 = .ok (.ixor, 1) := by decide +kernel
theorem dX2_bestAnswer_16 : decode cX2_bestAnswer 16 = .ok (.iand, 1) := by decide +kernel
theorem dX2_bestAnswer_17 : decode cX2_bestAnswer 17 = .ok (.istore 5, 2) := by decide +kernel
theorem dX2_bestAnswer_19 : decode cX2_bestAnswer 19 = .ok (.iconst 0, 1) := by decide +kernel
theorem dX2_bestAnswer_20 : decode cX2_bestAnswer 20 = .ok (.istore 6, 2) := by decide +kernel
theorem dX2_bestAnswer_22 : decode cX2_bestAnswer 22 = .ok (.iload 6, 2) := by decide +kernel
theorem dX2_bestAnswer_24 : decode cX2_bestAnswer 24 = .ok (.bipush 8, 2) := by decide +kernel
theorem dX2_bestAnswer_26 : decode cX2_bestAnswer 26 = .ok (.if_icmp .ge 56, 3) := by decide +kernel
theorem dX2_bestAnswer_29 : decode cX2_bestAnswer 29 = .ok (.iload 5, 2) := by decide +kernel
theorem dX2_bestAnswer_31 : decode cX2_bestAnswer 31 = .ok (.iload 6, 2) := by decide +kernel
theorem dX2_bestAnswer_33 : decode cX2_bestAnswer 33 = .ok (.invokestatic 22, 3) := by decide +kernel
theorem dX2_bestAnswer_36 : decode cX2_bestAnswer 36 = .ok (.ifCond .eq 40, 3) := by decide +kernel
theorem dX2_bestAnswer_39 : decode cX2_bestAnswer 39 = .ok (.aload_n 0, 1) := by decide +kernel
theorem dX2_bestAnswer_40 : decode cX2_bestAnswer 40 = .ok (.iload_n 1, 1) := by decide +kernel
theorem dX2_bestAnswer_41 : decode cX2_bestAnswer 41 = .ok (.iconst 1, 1) := by decide +kernel
theorem dX2_bestAnswer_42 : decode cX2_bestAnswer 42 = .ok (.iload 6, 2) := by decide +kernel
theorem dX2_bestAnswer_44 : decode cX2_bestAnswer 44 = .ok (.ishl, 1) := by decide +kernel
theorem dX2_bestAnswer_45 : decode cX2_bestAnswer 45 = .ok (.ior, 1) := by decide +kernel
theorem dX2_bestAnswer_46 : decode cX2_bestAnswer 46 = .ok (.iload 6, 2) := by decide +kernel
theorem dX2_bestAnswer_48 : decode cX2_bestAnswer 48 = .ok (.invokevirtual 49, 3) := by decide +kernel
theorem dX2_bestAnswer_51 : decode cX2_bestAnswer 51 = .ok (.istore 7, 2) := by decide +kernel
theorem dX2_bestAnswer_53 : decode cX2_bestAnswer 53 = .ok (.iload 7, 2) := by decide +kernel
theorem dX2_bestAnswer_55 : decode cX2_bestAnswer 55 = .ok (.ifCond .le 21, 3) := by decide +kernel
theorem dX2_bestAnswer_58 : decode cX2_bestAnswer 58 = .ok (.iload_n 3, 1) := by decide +kernel
theorem dX2_bestAnswer_59 : decode cX2_bestAnswer 59 = .ok (.ifCond .lt 10, 3) := by decide +kernel
theorem dX2_bestAnswer_62 : decode cX2_bestAnswer 62 = .ok (.iload 7, 2) := by decide +kernel
theorem dX2_bestAnswer_64 : decode cX2_bestAnswer 64 = .ok (.iload 4, 2) := by decide +kernel
theorem dX2_bestAnswer_66 : decode cX2_bestAnswer 66 = .ok (.if_icmp .ge 10, 3) := by decide +kernel
theorem dX2_bestAnswer_69 : decode cX2_bestAnswer 69 = .ok (.iload 6, 2) := by decide +kernel
theorem dX2_bestAnswer_71 : decode cX2_bestAnswer 71 = .ok (.istore_n 3, 1) := by decide +kernel
theorem dX2_bestAnswer_72 : decode cX2_bestAnswer 72 = .ok (.iload 7, 2) := by decide +kernel
theorem dX2_bestAnswer_74 : decode cX2_bestAnswer 74 = .ok (.istore 4, 2) := by decide +kernel
theorem dX2_bestAnswer_76 : decode cX2_bestAnswer 76 = .ok (.iinc 6 1, 3) := by decide +kernel
theorem dX2_bestAnswer_79 : decode cX2_bestAnswer 79 = .ok (.goto (-57), 3) := by decide +kernel
theorem dX2_bestAnswer_82 : decode cX2_bestAnswer 82 = .ok (.iload_n 3, 1) := by decide +kernel
theorem dX2_bestAnswer_83 : decode cX2_bestAnswer 83 = .ok (.ireturn, 1) := by decide +kernel
set_option maxRecDepth 20000 in
theorem ggX2_waysBehind_X0_get : GoodIn wsX2_waysBehind wsX0_get := goodIn_r _ [6] (by decide +kernel) (by decide +kernel)
set_option maxRecDepth 20000 in
theorem gX2_waysBehind_X0_get : GoodIn wsX2_waysBehind (va_wsS RX2 42 yX0_get wsX0_get) := goodIn_app (goodIn_of _ (by decide +kernel)) ggX2_waysBehind_X0_get
set_option maxRecDepth 20000 in
theorem ggX2_waysBehind_X0_contains : GoodIn wsX2_waysBehind wsX0_contains := goodIn_r _ [9] (by decide +kernel) (by decide +kernel)
set_option maxRecDepth 20000 in
theorem gX2_waysBehind_X0_contains : GoodIn wsX2_waysBehind (va_wsS RX2 22 yX0_contains wsX0_contains) := goodIn_app (goodIn_of _ (by decide +kernel)) ggX2_waysBehind_X0_contains
set_option maxRecDepth 20000 in
theorem ggX2_waysBehind_X2_waysToAnswer : GoodIn wsX2_waysBehind wsX2_waysToAnswer := goodIn_r _ [14, 1, 2, 3, 4, 5, 6, 7, 8, 9, 15, 16, 17, 13, 18, 19, 20, 21, 22, 23, 24, 25] (by decide +kernel) (by decide +kernel)
set_option maxRecDepth 20000 in
theorem gX2_waysBehind_X2_waysToAnswer : GoodIn wsX2_waysBehind (wsV RX2 57 RX2 yX2_waysToAnswer wsX2_waysToAnswer) := goodIn_app (goodIn_of _ (by decide +kernel)) ggX2_waysBehind_X2_waysToAnswer
theorem dX2_waysBehind_0 : decode cX2_waysBehind 0 = .ok (.lconst 1, 1) := by decide +kernel
theorem dX2_waysBehind_1 : decode cX2_waysBehind 1 = .ok (.lstore_n 3, 1) := by decide +kernel
theorem dX2_waysBehind_2 : decode cX2_waysBehind 2 = .ok (.aload_n 0, 1) := by decide +kernel
theorem dX2_waysBehind_3 : decode cX2_waysBehind 3 = .ok (.getfield 18, 3) := by decide +kernel
theorem dX2_waysBehind_6 : decode cX2_waysBehind 6 = .ok (.iload_n 2, 1) := by decide +kernel
theorem dX2_waysBehind_7 : decode cX2_waysBehind 7 = .ok (.invokestatic 42, 3) := by decide +kernel
theorem dX2_waysBehind_10 : decode cX2_waysBehind 10 = .ok (.istore 5, 2) := by decide +kernel
theorem dX2_waysBehind_12 : decode cX2_waysBehind 12 = .ok (.iconst 0, 1) := by decide +kernel
theorem dX2_waysBehind_13 : decode cX2_waysBehind 13 = .ok (.istore 6, 2) := by decide +kernel
theorem dX2_waysBehind_15 : decode cX2_waysBehind 15 = .ok (.iload 6, 2) := by decide +kernel
theorem dX2_waysBehind_17 : decode cX2_waysBehind 17 = .ok (.bipush 8, 2) := by decide +kernel
theorem dX2_waysBehind_19 : decode cX2_waysBehind 19 = .ok (.if_icmp .ge 33, 3) := by decide +kernel
theorem dX2_waysBehind_22 : decode cX2_waysBehind 22 = .ok (.iload 5, 2) := by decide +kernel
theorem dX2_waysBehind_24 : decode cX2_waysBehind 24 = .ok (.iload 6, 2) := by decide +kernel
theorem dX2_waysBehind_26 : decode cX2_waysBehind 26 = .ok (.invokestatic 22, 3) := by decide +kernel
theorem dX2_waysBehind_29 : decode cX2_waysBehind 29 = .ok (.ifCond .eq 17, 3) := by decide +kernel
theorem dX2_waysBehind_32 : decode cX2_waysBehind 32 = .ok (.lload_n 3, 1) := by decide +kernel
theorem dX2_waysBehind_33 : decode cX2_waysBehind 33 = .ok (.aload_n 0, 1) := by decide +kernel
theorem dX2_waysBehind_34 : decode cX2_waysBehind 34 = .ok (.iload_n 1, 1) := by decide +kernel
theorem dX2_waysBehind_35 : decode cX2_waysBehind 35 = .ok (.iload 6, 2) := by decide +kernel
theorem dX2_waysBehind_37 : decode cX2_waysBehind 37 = .ok (.invokevirtual 57, 3) := by decide +kernel
theorem dX2_waysBehind_40 : decode cX2_waysBehind 40 = .ok (.lmul, 1) := by decide +kernel
theorem dX2_waysBehind_41 : decode cX2_waysBehind 41 = .ok (.ldc2_w 61, 3) := by decide +kernel
theorem dX2_waysBehind_44 : decode cX2_waysBehind 44 = .ok (.lrem, 1) := by decide +kernel
theorem dX2_waysBehind_45 : decode cX2_waysBehind 45 = .ok (.lstore_n 3, 1) := by decide +kernel
theorem dX2_waysBehind_46 : decode cX2_waysBehind 46 = .ok (.iinc 6 1, 3) := by decide +kernel
theorem dX2_waysBehind_49 : decode cX2_waysBehind 49 = .ok (.goto (-34), 3) := by decide +kernel
theorem dX2_waysBehind_52 : decode cX2_waysBehind 52 = .ok (.lload_n 3, 1) := by decide +kernel
theorem dX2_waysBehind_53 : decode cX2_waysBehind 53 = .ok (.l2i, 1) := by decide +kernel
theorem dX2_waysBehind_54 : decode cX2_waysBehind 54 = .ok (.ireturn, 1) := by decide +kernel
set_option maxRecDepth 20000 in
theorem ggX2_waysToAnswer_X0_get : GoodIn wsX2_waysToAnswer wsX0_get := goodIn_r _ [6] (by decide +kernel) (by decide +kernel)
set_option maxRecDepth 20000 in
theorem gX2_waysToAnswer_X0_get : GoodIn wsX2_waysToAnswer (va_wsS RX2 42 yX0_get wsX0_get) := goodIn_app (goodIn_of _ (by decide +kernel)) ggX2_waysToAnswer_X0_get
set_option maxRecDepth 20000 in
theorem ggX2_waysToAnswer_X0_contains : GoodIn wsX2_waysToAnswer wsX0_contains := goodIn_r _ [9] (by decide +kernel) (by decide +kernel)
set_option maxRecDepth 20000 in
theorem gX2_waysToAnswer_X0_contains : GoodIn wsX2_waysToAnswer (va_wsS RX2 22 yX0_contains wsX0_contains) := goodIn_app (goodIn_of _ (by decide +kernel)) ggX2_waysToAnswer_X0_contains
set_option maxRecDepth 20000 in
theorem ggX2_waysToAnswer_X2_waysAt : GoodIn wsX2_waysToAnswer wsX2_waysAt := goodIn_r _ [14, 15, 16, 17, 13, 18, 19, 20, 21] (by decide +kernel) (by decide +kernel)
set_option maxRecDepth 20000 in
theorem gX2_waysToAnswer_X2_waysAt : GoodIn wsX2_waysToAnswer (wsV RX2 63 RX2 yX2_waysAt wsX2_waysAt) := goodIn_app (goodIn_of _ (by decide +kernel)) ggX2_waysToAnswer_X2_waysAt
theorem dX2_waysToAnswer_0 : decode cX2_waysToAnswer 0 = .ok (.lconst 0, 1) := by decide +kernel
theorem dX2_waysToAnswer_1 : decode cX2_waysToAnswer 1 = .ok (.lstore_n 3, 1) := by decide +kernel
theorem dX2_waysToAnswer_2 : decode cX2_waysToAnswer 2 = .ok (.aload_n 0, 1) := by decide +kernel
theorem dX2_waysToAnswer_3 : decode cX2_waysToAnswer 3 = .ok (.getfield 18, 3) := by decide +kernel
theorem dX2_waysToAnswer_6 : decode cX2_waysToAnswer 6 = .ok (.iload_n 2, 1) := by decide +kernel
theorem dX2_waysToAnswer_7 : decode cX2_waysToAnswer 7 = .ok (.invokestatic 42, 3) := by decide +kernel
theorem dX2_waysToAnswer_10 : decode cX2_waysToAnswer 10 = .ok (.iload_n 1, 1) := by decide +kernel
theorem dX2_waysToAnswer_11 : decode cX2_waysToAnswer 11 = .ok (.iconst (-1), 1) := by decide +kernel
theorem dX2_waysToAnswer_12 : decode cX2_waysToAnswer 12 = .ok (.ixor, 1) := by decide +kernel
theorem dX2_waysToAnswer_13 : decode cX2_waysToAnswer 13 = .ok (.iand, 1) := by decide +kernel
theorem dX2_waysToAnswer_14 : decode cX2_waysToAnswer 14 = .ok (.istore 5, 2) := by decide +kernel
theorem dX2_waysToAnswer_16 : decode cX2_waysToAnswer 16 = .ok (.iconst 0, 1) := by decide +kernel
theorem dX2_waysToAnswer_17 : decode cX2_waysToAnswer 17 = .ok (.istore 6, 2) := by decide +kernel
theorem dX2_waysToAnswer_19 : decode cX2_waysToAnswer 19 = .ok (.iload 6, 2) := by decide +kernel
theorem dX2_waysToAnswer_21 : decode cX2_waysToAnswer 21 = .ok (.bipush 8, 2) := by decide +kernel
theorem dX2_waysToAnswer_23 : decode cX2_waysToAnswer 23 = .ok (.if_icmp .ge 35, 3) := by decide +kernel
theorem dX2_waysToAnswer_26 : decode cX2_waysToAnswer 26 = .ok (.iload 5, 2) := by decide +kernel
theorem dX2_waysToAnswer_28 : decode cX2_waysToAnswer 28 = .ok (.iload 6, 2) := by decide +kernel
theorem dX2_waysToAnswer_30 : decode cX2_waysToAnswer 30 = .ok (.invokestatic 22, 3) := by decide +kernel
theorem dX2_waysToAnswer_33 : decode cX2_waysToAnswer 33 = .ok (.ifCond .eq 19, 3) := by decide +kernel
theorem dX2_waysToAnswer_36 : decode cX2_waysToAnswer 36 = .ok (.lload_n 3, 1) := by decide +kernel
theorem dX2_waysToAnswer_37 : decode cX2_waysToAnswer 37 = .ok (.aload_n 0, 1) := by decide +kernel
theorem dX2_waysToAnswer_38 : decode cX2_waysToAnswer 38 = .ok (.iload_n 1, 1) := by decide +kernel
theorem dX2_waysToAnswer_39 : decode cX2_waysToAnswer 39 = .ok (.iconst 1, 1) := by decide +kernel
theorem dX2_waysToAnswer_40 : decode cX2_waysToAnswer 40 = .ok (.iload 6, 2) := by decide +kernel
theorem dX2_waysToAnswer_42 : decode cX2_waysToAnswer 42 = .ok (.ishl, 1) := by decide +kernel
theorem dX2_waysToAnswer_43 : decode cX2_waysToAnswer 43 = .ok (.ior, 1) := by decide +kernel
theorem dX2_waysToAnswer_44 : decode cX2_waysToAnswer 44 = .ok (.iload 6, 2) := by decide +kernel
theorem dX2_waysToAnswer_46 : decode cX2_waysToAnswer 46 = .ok (.invokevirtual 63, 3) := by decide +kernel
theorem dX2_waysToAnswer_49 : decode cX2_waysToAnswer 49 = .ok (.i2l, 1) := by decide +kernel
theorem dX2_waysToAnswer_50 : decode cX2_waysToAnswer 50 = .ok (.ladd, 1) := by decide +kernel
theorem dX2_waysToAnswer_51 : decode cX2_waysToAnswer 51 = .ok (.lstore_n 3, 1) := by decide +kernel
theorem dX2_waysToAnswer_52 : decode cX2_waysToAnswer 52 = .ok (.iinc 6 1, 3) := by decide +kernel
theorem dX2_waysToAnswer_55 : decode cX2_waysToAnswer 55 = .ok (.goto (-36), 3) := by decide +kernel
theorem dX2_waysToAnswer_58 : decode cX2_waysToAnswer 58 = .ok (.lload_n 3, 1) := by decide +kernel
theorem dX2_waysToAnswer_59 : decode cX2_waysToAnswer 59 = .ok (.ldc2_w 61, 3) := by decide +kernel
theorem dX2_waysToAnswer_62 : decode cX2_waysToAnswer 62 = .ok (.lrem, 1) := by decide +kernel
theorem dX2_waysToAnswer_63 : decode cX2_waysToAnswer 63 = .ok (.lreturn, 1) := by decide +kernel
set_option maxRecDepth 20000 in
theorem ggX2_depthAt_X2_placeOf : GoodIn wsX2_depthAt wsX2_placeOf := goodIn_r _ [5] (by decide +kernel) (by decide +kernel)
set_option maxRecDepth 20000 in
theorem gX2_depthAt_X2_placeOf : GoodIn wsX2_depthAt (va_wsS RX2 32 yX2_placeOf wsX2_placeOf) := goodIn_app (goodIn_of _ (by decide +kernel)) ggX2_depthAt_X2_placeOf
theorem dX2_depthAt_0 : decode cX2_depthAt 0 = .ok (.iload_n 1, 1) := by decide +kernel
theorem dX2_depthAt_1 : decode cX2_depthAt 1 = .ok (.iload_n 2, 1) := by decide +kernel
theorem dX2_depthAt_2 : decode cX2_depthAt 2 = .ok (.invokestatic 32, 3) := by decide +kernel
theorem dX2_depthAt_5 : decode cX2_depthAt 5 = .ok (.istore_n 3, 1) := by decide +kernel
theorem dX2_depthAt_6 : decode cX2_depthAt 6 = .ok (.iload_n 3, 1) := by decide +kernel
theorem dX2_depthAt_7 : decode cX2_depthAt 7 = .ok (.ifCond .lt 21, 3) := by decide +kernel
theorem dX2_depthAt_10 : decode cX2_depthAt 10 = .ok (.iload_n 3, 1) := by decide +kernel
theorem dX2_depthAt_11 : decode cX2_depthAt 11 = .ok (.aload_n 0, 1) := by decide +kernel
theorem dX2_depthAt_12 : decode cX2_depthAt 12 = .ok (.getfield 9, 3) := by decide +kernel
theorem dX2_depthAt_15 : decode cX2_depthAt 15 = .ok (.arraylength, 1) := by decide +kernel
theorem dX2_depthAt_16 : decode cX2_depthAt 16 = .ok (.if_icmp .ge 12, 3) := by decide +kernel
theorem dX2_depthAt_19 : decode cX2_depthAt 19 = .ok (.aload_n 0, 1) := by decide +kernel
theorem dX2_depthAt_20 : decode cX2_depthAt 20 = .ok (.getfield 9, 3) := by decide +kernel
theorem dX2_depthAt_23 : decode cX2_depthAt 23 = .ok (.iload_n 3, 1) := by decide +kernel
theorem dX2_depthAt_24 : decode cX2_depthAt 24 = .ok (.iaload, 1) := by decide +kernel
theorem dX2_depthAt_25 : decode cX2_depthAt 25 = .ok (.goto 4, 3) := by decide +kernel
theorem dX2_depthAt_28 : decode cX2_depthAt 28 = .ok (.iconst 0, 1) := by decide +kernel
theorem dX2_depthAt_29 : decode cX2_depthAt 29 = .ok (.ireturn, 1) := by decide +kernel
set_option maxRecDepth 20000 in
theorem ggX2_waysAt_X2_placeOf : GoodIn wsX2_waysAt wsX2_placeOf := goodIn_r _ [5] (by decide +kernel) (by decide +kernel)
set_option maxRecDepth 20000 in
theorem gX2_waysAt_X2_placeOf : GoodIn wsX2_waysAt (va_wsS RX2 32 yX2_placeOf wsX2_placeOf) := goodIn_app (goodIn_of _ (by decide +kernel)) ggX2_waysAt_X2_placeOf
theorem dX2_waysAt_0 : decode cX2_waysAt 0 = .ok (.iload_n 1, 1) := by decide +kernel
theorem dX2_waysAt_1 : decode cX2_waysAt 1 = .ok (.iload_n 2, 1) := by decide +kernel
theorem dX2_waysAt_2 : decode cX2_waysAt 2 = .ok (.invokestatic 32, 3) := by decide +kernel
theorem dX2_waysAt_5 : decode cX2_waysAt 5 = .ok (.istore_n 3, 1) := by decide +kernel
theorem dX2_waysAt_6 : decode cX2_waysAt 6 = .ok (.iload_n 3, 1) := by decide +kernel
theorem dX2_waysAt_7 : decode cX2_waysAt 7 = .ok (.ifCond .lt 21, 3) := by decide +kernel
theorem dX2_waysAt_10 : decode cX2_waysAt 10 = .ok (.iload_n 3, 1) := by decide +kernel
theorem dX2_waysAt_11 : decode cX2_waysAt 11 = .ok (.aload_n 0, 1) := by decide +kernel
theorem dX2_waysAt_12 : decode cX2_waysAt 12 = .ok (.getfield 15, 3) := by decide +kernel
theorem dX2_waysAt_15 : decode cX2_waysAt 15 = .ok (.arraylength, 1) := by decide +kernel
theorem dX2_waysAt_16 : decode cX2_waysAt 16 = .ok (.if_icmp .ge 12, 3) := by decide +kernel
theorem dX2_waysAt_19 : decode cX2_waysAt 19 = .ok (.aload_n 0, 1) := by decide +kernel
theorem dX2_waysAt_20 : decode cX2_waysAt 20 = .ok (.getfield 15, 3) := by decide +kernel
theorem dX2_waysAt_23 : decode cX2_waysAt 23 = .ok (.iload_n 3, 1) := by decide +kernel
theorem dX2_waysAt_24 : decode cX2_waysAt 24 = .ok (.iaload, 1) := by decide +kernel
theorem dX2_waysAt_25 : decode cX2_waysAt 25 = .ok (.goto 4, 3) := by decide +kernel
theorem dX2_waysAt_28 : decode cX2_waysAt 28 = .ok (.iconst 0, 1) := by decide +kernel
theorem dX2_waysAt_29 : decode cX2_waysAt 29 = .ok (.ireturn, 1) := by decide +kernel
set_option maxRecDepth 20000 in
theorem ggX2_depth_X2_depthAt : GoodIn wsX2_depth wsX2_depthAt := goodIn_r _ [5, 6, 7, 8, 4, 9, 10, 11, 12] (by decide +kernel) (by decide +kernel)
set_option maxRecDepth 20000 in
theorem gX2_depth_X2_depthAt : GoodIn wsX2_depth (wsV RX2 49 RX2 yX2_depthAt wsX2_depthAt) := goodIn_app (goodIn_of _ (by decide +kernel)) ggX2_depth_X2_depthAt
theorem dX2_depth_0 : decode cX2_depth 0 = .ok (.aload_n 0, 1) := by decide +kernel
theorem dX2_depth_1 : decode cX2_depth 1 = .ok (.iconst 1, 1) := by decide +kernel
theorem dX2_depth_2 : decode cX2_depth 2 = .ok (.iload_n 1, 1) := by decide +kernel
theorem dX2_depth_3 : decode cX2_depth 3 = .ok (.ishl, 1) := by decide +kernel
theorem dX2_depth_4 : decode cX2_depth 4 = .ok (.iload_n 1, 1) := by decide +kernel
theorem dX2_depth_5 : decode cX2_depth 5 = .ok (.invokevirtual 49, 3) := by decide +kernel
theorem dX2_depth_8 : decode cX2_depth 8 = .ok (.ireturn, 1) := by decide +kernel
set_option maxRecDepth 20000 in
theorem ggX2_isWon_X2_depth : GoodIn wsX2_isWon wsX2_depth := goodIn_r _ [5, 6, 7, 8, 4, 9, 10, 11, 12, 13, 14, 15, 16] (by decide +kernel) (by decide +kernel)
set_option maxRecDepth 20000 in
theorem gX2_isWon_X2_depth : GoodIn wsX2_isWon (wsV RX2 66 RX2 yX2_depth wsX2_depth) := goodIn_app (goodIn_of _ (by decide +kernel)) ggX2_isWon_X2_depth
theorem dX2_isWon_0 : decode cX2_isWon 0 = .ok (.aload_n 0, 1) := by decide +kernel
theorem dX2_isWon_1 : decode cX2_isWon 1 = .ok (.iload_n 1, 1) := by decide +kernel
theorem dX2_isWon_2 : decode cX2_isWon 2 = .ok (.invokevirtual 66, 3) := by decide +kernel
theorem dX2_isWon_5 : decode cX2_isWon 5 = .ok (.ifCond .le 7, 3) := by decide +kernel
theorem dX2_isWon_8 : decode cX2_isWon 8 = .ok (.iconst 1, 1) := by decide +kernel
theorem dX2_isWon_9 : decode cX2_isWon 9 = .ok (.goto 4, 3) := by decide +kernel
theorem dX2_isWon_12 : decode cX2_isWon 12 = .ok (.iconst 0, 1) := by decide +kernel
theorem dX2_isWon_13 : decode cX2_isWon 13 = .ok (.ireturn, 1) := by decide +kernel
set_option maxRecDepth 20000 in
theorem ggX2_trees_X2_waysAt : GoodIn wsX2_trees wsX2_waysAt := goodIn_r _ [5, 6, 7, 8, 4, 9, 10, 11, 12] (by decide +kernel) (by decide +kernel)
set_option maxRecDepth 20000 in
theorem gX2_trees_X2_waysAt : GoodIn wsX2_trees (wsV RX2 63 RX2 yX2_waysAt wsX2_waysAt) := goodIn_app (goodIn_of _ (by decide +kernel)) ggX2_trees_X2_waysAt
theorem dX2_trees_0 : decode cX2_trees 0 = .ok (.aload_n 0, 1) := by decide +kernel
theorem dX2_trees_1 : decode cX2_trees 1 = .ok (.iconst 1, 1) := by decide +kernel
theorem dX2_trees_2 : decode cX2_trees 2 = .ok (.iload_n 1, 1) := by decide +kernel
theorem dX2_trees_3 : decode cX2_trees 3 = .ok (.ishl, 1) := by decide +kernel
theorem dX2_trees_4 : decode cX2_trees 4 = .ok (.iload_n 1, 1) := by decide +kernel
theorem dX2_trees_5 : decode cX2_trees 5 = .ok (.invokevirtual 63, 3) := by decide +kernel
theorem dX2_trees_8 : decode cX2_trees 8 = .ok (.ireturn, 1) := by decide +kernel
set_option maxRecDepth 20000 in
theorem ggX2_answerTo_X2_bestAnswer : GoodIn wsX2_answerTo wsX2_bestAnswer := goodIn_r _ [5, 6, 7, 8, 9, 10, 11, 12, 13, 14, 15, 16, 4, 17, 18, 19, 20, 21, 22, 23, 24] (by decide +kernel) (by decide +kernel)
set_option maxRecDepth 20000 in
theorem gX2_answerTo_X2_bestAnswer : GoodIn wsX2_answerTo (wsV RX2 46 RX2 yX2_bestAnswer wsX2_bestAnswer) := goodIn_app (goodIn_of _ (by decide +kernel)) ggX2_answerTo_X2_bestAnswer
theorem dX2_answerTo_0 : decode cX2_answerTo 0 = .ok (.aload_n 0, 1) := by decide +kernel
theorem dX2_answerTo_1 : decode cX2_answerTo 1 = .ok (.iconst 1, 1) := by decide +kernel
theorem dX2_answerTo_2 : decode cX2_answerTo 2 = .ok (.iload_n 1, 1) := by decide +kernel
theorem dX2_answerTo_3 : decode cX2_answerTo 3 = .ok (.ishl, 1) := by decide +kernel
theorem dX2_answerTo_4 : decode cX2_answerTo 4 = .ok (.iload_n 2, 1) := by decide +kernel
theorem dX2_answerTo_5 : decode cX2_answerTo 5 = .ok (.invokevirtual 46, 3) := by decide +kernel
theorem dX2_answerTo_8 : decode cX2_answerTo 8 = .ok (.istore_n 3, 1) := by decide +kernel
theorem dX2_answerTo_9 : decode cX2_answerTo 9 = .ok (.iload_n 3, 1) := by decide +kernel
theorem dX2_answerTo_10 : decode cX2_answerTo 10 = .ok (.ifCond .ge 8, 3) := by decide +kernel
theorem dX2_answerTo_13 : decode cX2_answerTo 13 = .ok (.bipush (-9), 2) := by decide +kernel
theorem dX2_answerTo_15 : decode cX2_answerTo 15 = .ok (.goto 4, 3) := by decide +kernel
theorem dX2_answerTo_18 : decode cX2_answerTo 18 = .ok (.iload_n 3, 1) := by decide +kernel
theorem dX2_answerTo_19 : decode cX2_answerTo 19 = .ok (.ireturn, 1) := by decide +kernel
theorem dX3_init_0 : decode cX3_init 0 = .ok (.aload_n 0, 1) := by decide +kernel
theorem dX3_init_1 : decode cX3_init 1 = .ok (.invokespecial 3, 3) := by decide +kernel
theorem dX3_init_4 : decode cX3_init 4 = .ok (.aload_n 0, 1) := by decide +kernel
theorem dX3_init_5 : decode cX3_init 5 = .ok (.iconst 0, 1) := by decide +kernel
theorem dX3_init_6 : decode cX3_init 6 = .ok (.putfield 9, 3) := by decide +kernel
theorem dX3_init_9 : decode cX3_init 9 = .ok (.aload_n 0, 1) := by decide +kernel
theorem dX3_init_10 : decode cX3_init 10 = .ok (.iconst 0, 1) := by decide +kernel
theorem dX3_init_11 : decode cX3_init 11 = .ok (.putfield 15, 3) := by decide +kernel
theorem dX3_init_14 : decode cX3_init 14 = .ok (.aload_n 0, 1) := by decide +kernel
theorem dX3_init_15 : decode cX3_init 15 = .ok (.iconst 3, 1) := by decide +kernel
theorem dX3_init_16 : decode cX3_init 16 = .ok (.putfield 18, 3) := by decide +kernel
theorem dX3_init_19 : decode cX3_init 19 = .ok (.aload_n 0, 1) := by decide +kernel
theorem dX3_init_20 : decode cX3_init 20 = .ok (.lconst 0, 1) := by decide +kernel
theorem dX3_init_21 : decode cX3_init 21 = .ok (.putfield 21, 3) := by decide +kernel
theorem dX3_init_24 : decode cX3_init 24 = .ok (.aload_n 0, 1) := by decide +kernel
theorem dX3_init_25 : decode cX3_init 25 = .ok (.lconst 0, 1) := by decide +kernel
theorem dX3_init_26 : decode cX3_init 26 = .ok (.putfield 25, 3) := by decide +kernel
theorem dX3_init_29 : decode cX3_init 29 = .ok (.aload_n 0, 1) := by decide +kernel
theorem dX3_init_30 : decode cX3_init 30 = .ok (.lconst 0, 1) := by decide +kernel
theorem dX3_init_31 : decode cX3_init 31 = .ok (.putfield 28, 3) := by decide +kernel
theorem dX3_init_34 : decode cX3_init 34 = .ok (.aload_n 0, 1) := by decide +kernel
theorem dX3_init_35 : decode cX3_init 35 = .ok (.lconst 0, 1) := by decide +kernel
theorem dX3_init_36 : decode cX3_init 36 = .ok (.putfield 31, 3) := by decide +kernel
theorem dX3_init_39 : decode cX3_init 39 = .ok (.aload_n 0, 1) := by decide +kernel
theorem dX3_init_40 : decode cX3_init 40 = .ok (.lconst 0, 1) := by decide +kernel
theorem dX3_init_41 : decode cX3_init 41 = .ok (.putfield 34, 3) := by decide +kernel
theorem dX3_init_44 : decode cX3_init 44 = .ok (.return_, 1) := by decide +kernel
theorem dX3_take_0 : decode cX3_take 0 = .ok (.aload_n 0, 1) := by decide +kernel
theorem dX3_take_1 : decode cX3_take 1 = .ok (.aload_n 1, 1) := by decide +kernel
theorem dX3_take_2 : decode cX3_take 2 = .ok (.getfield 9, 3) := by decide +kernel
theorem dX3_take_5 : decode cX3_take 5 = .ok (.putfield 9, 3) := by decide +kernel
theorem dX3_take_8 : decode cX3_take 8 = .ok (.aload_n 0, 1) := by decide +kernel
theorem dX3_take_9 : decode cX3_take 9 = .ok (.aload_n 1, 1) := by decide +kernel
theorem dX3_take_10 : decode cX3_take 10 = .ok (.getfield 15, 3) := by decide +kernel
theorem dX3_take_13 : decode cX3_take 13 = .ok (.putfield 15, 3) := by decide +kernel
theorem dX3_take_16 : decode cX3_take 16 = .ok (.aload_n 0, 1) := by decide +kernel
theorem dX3_take_17 : decode cX3_take 17 = .ok (.aload_n 1, 1) := by decide +kernel
theorem dX3_take_18 : decode cX3_take 18 = .ok (.getfield 18, 3) := by decide +kernel
theorem dX3_take_21 : decode cX3_take 21 = .ok (.putfield 18, 3) := by decide +kernel
theorem dX3_take_24 : decode cX3_take 24 = .ok (.aload_n 0, 1) := by decide +kernel
theorem dX3_take_25 : decode cX3_take 25 = .ok (.aload_n 1, 1) := by decide +kernel
theorem dX3_take_26 : decode cX3_take 26 = .ok (.getfield 21, 3) := by decide +kernel
theorem dX3_take_29 : decode cX3_take 29 = .ok (.putfield 21, 3) := by decide +kernel
theorem dX3_take_32 : decode cX3_take 32 = .ok (.aload_n 0, 1) := by decide +kernel
theorem dX3_take_33 : decode cX3_take 33 = .ok (.aload_n 1, 1) := by decide +kernel
theorem dX3_take_34 : decode cX3_take 34 = .ok (.getfield 25, 3) := by decide +kernel
theorem dX3_take_37 : decode cX3_take 37 = .ok (.putfield 25, 3) := by decide +kernel
theorem dX3_take_40 : decode cX3_take 40 = .ok (.aload_n 0, 1) := by decide +kernel
theorem dX3_take_41 : decode cX3_take 41 = .ok (.aload_n 1, 1) := by decide +kernel
theorem dX3_take_42 : decode cX3_take 42 = .ok (.getfield 28, 3) := by decide +kernel
theorem dX3_take_45 : decode cX3_take 45 = .ok (.putfield 28, 3) := by decide +kernel
theorem dX3_take_48 : decode cX3_take 48 = .ok (.aload_n 0, 1) := by decide +kernel
theorem dX3_take_49 : decode cX3_take 49 = .ok (.aload_n 1, 1) := by decide +kernel
theorem dX3_take_50 : decode cX3_take 50 = .ok (.getfield 31, 3) := by decide +kernel
theorem dX3_take_53 : decode cX3_take 53 = .ok (.putfield 31, 3) := by decide +kernel
theorem dX3_take_56 : decode cX3_take 56 = .ok (.aload_n 0, 1) := by decide +kernel
theorem dX3_take_57 : decode cX3_take 57 = .ok (.aload_n 1, 1) := by decide +kernel
theorem dX3_take_58 : decode cX3_take 58 = .ok (.getfield 34, 3) := by decide +kernel
theorem dX3_take_61 : decode cX3_take 61 = .ok (.putfield 34, 3) := by decide +kernel
theorem dX3_take_64 : decode cX3_take 64 = .ok (.return_, 1) := by decide +kernel
theorem dX3_isFull_0 : decode cX3_isFull 0 = .ok (.aload_n 0, 1) := by decide +kernel
theorem dX3_isFull_1 : decode cX3_isFull 1 = .ok (.getfield 9, 3) := by decide +kernel
theorem dX3_isFull_4 : decode cX3_isFull 4 = .ok (.bipush 8, 2) := by decide +kernel
theorem dX3_isFull_6 : decode cX3_isFull 6 = .ok (.if_icmp .lt 7, 3) := by decide +kernel
theorem dX3_isFull_9 : decode cX3_isFull 9 = .ok (.iconst 1, 1) := by decide +kernel
theorem dX3_isFull_10 : decode cX3_isFull 10 = .ok (.goto 4, 3) := by decide +kernel
theorem dX3_isFull_13 : decode cX3_isFull 13 = .ok (.iconst 0, 1) := by decide +kernel
theorem dX3_isFull_14 : decode cX3_isFull 14 = .ok (.ireturn, 1) := by decide +kernel
theorem dX3_knows_0 : decode cX3_knows 0 = .ok (.iload_n 1, 1) := by decide +kernel
theorem dX3_knows_1 : decode cX3_knows 1 = .ok (.ifCond .lt 15, 3) := by decide +kernel
theorem dX3_knows_4 : decode cX3_knows 4 = .ok (.iload_n 1, 1) := by decide +kernel
theorem dX3_knows_5 : decode cX3_knows 5 = .ok (.aload_n 0, 1) := by decide +kernel
theorem dX3_knows_6 : decode cX3_knows 6 = .ok (.getfield 9, 3) := by decide +kernel
theorem dX3_knows_9 : decode cX3_knows 9 = .ok (.if_icmp .ge 7, 3) := by decide +kernel
theorem dX3_knows_12 : decode cX3_knows 12 = .ok (.iconst 1, 1) := by decide +kernel
theorem dX3_knows_13 : decode cX3_knows 13 = .ok (.goto 4, 3) := by decide +kernel
theorem dX3_knows_16 : decode cX3_knows 16 = .ok (.iconst 0, 1) := by decide +kernel
theorem dX3_knows_17 : decode cX3_knows 17 = .ok (.ireturn, 1) := by decide +kernel
set_option maxRecDepth 20000 in
theorem ggX3_hears_X3_knows : GoodIn wsX3_hears wsX3_knows := goodIn_r _ [6, 7, 12, 13, 14, 15, 16, 17, 18, 19] (by decide +kernel) (by decide +kernel)
set_option maxRecDepth 20000 in
theorem gX3_hears_X3_knows : GoodIn wsX3_hears (wsV RX3 37 RX3 yX3_knows wsX3_knows) := goodIn_app (goodIn_of _ (by decide +kernel)) ggX3_hears_X3_knows
set_option maxRecDepth 20000 in
theorem ggX3_hears_X0_contains : GoodIn wsX3_hears wsX0_contains := goodIn_r _ [11] (by decide +kernel) (by decide +kernel)
set_option maxRecDepth 20000 in
theorem gX3_hears_X0_contains : GoodIn wsX3_hears (va_wsS RX3 41 yX0_contains wsX0_contains) := goodIn_app (goodIn_of _ (by decide +kernel)) ggX3_hears_X0_contains
theorem dX3_hears_0 : decode cX3_hears 0 = .ok (.aload_n 0, 1) := by decide +kernel
theorem dX3_hears_1 : decode cX3_hears 1 = .ok (.iload_n 1, 1) := by decide +kernel
theorem dX3_hears_2 : decode cX3_hears 2 = .ok (.invokevirtual 37, 3) := by decide +kernel
theorem dX3_hears_5 : decode cX3_hears 5 = .ok (.ifCond .eq 18, 3) := by decide +kernel
theorem dX3_hears_8 : decode cX3_hears 8 = .ok (.aload_n 0, 1) := by decide +kernel
theorem dX3_hears_9 : decode cX3_hears 9 = .ok (.getfield 15, 3) := by decide +kernel
theorem dX3_hears_12 : decode cX3_hears 12 = .ok (.iload_n 1, 1) := by decide +kernel
theorem dX3_hears_13 : decode cX3_hears 13 = .ok (.invokestatic 41, 3) := by decide +kernel
theorem dX3_hears_16 : decode cX3_hears 16 = .ok (.ifCond .eq 7, 3) := by decide +kernel
theorem dX3_hears_19 : decode cX3_hears 19 = .ok (.iconst 1, 1) := by decide +kernel
theorem dX3_hears_20 : decode cX3_hears 20 = .ok (.goto 4, 3) := by decide +kernel
theorem dX3_hears_23 : decode cX3_hears 23 = .ok (.iconst 0, 1) := by decide +kernel
theorem dX3_hears_24 : decode cX3_hears 24 = .ok (.ireturn, 1) := by decide +kernel
set_option maxRecDepth 20000 in
theorem ggX3_kindOf_X0_get : GoodIn wsX3_kindOf wsX0_get := goodIn_r _ [5] (by decide +kernel) (by decide +kernel)
set_option maxRecDepth 20000 in
theorem gX3_kindOf_X0_get : GoodIn wsX3_kindOf (va_wsS RX3 47 yX0_get wsX0_get) := goodIn_app (goodIn_of _ (by decide +kernel)) ggX3_kindOf_X0_get
theorem dX3_kindOf_0 : decode cX3_kindOf 0 = .ok (.aload_n 0, 1) := by decide +kernel
theorem dX3_kindOf_1 : decode cX3_kindOf 1 = .ok (.getfield 21, 3) := by decide +kernel
theorem dX3_kindOf_4 : decode cX3_kindOf 4 = .ok (.iload_n 1, 1) := by decide +kernel
theorem dX3_kindOf_5 : decode cX3_kindOf 5 = .ok (.invokestatic 47, 3) := by decide +kernel
theorem dX3_kindOf_8 : decode cX3_kindOf 8 = .ok (.ireturn, 1) := by decide +kernel
set_option maxRecDepth 20000 in
theorem ggX3_figureOf_X0_get : GoodIn wsX3_figureOf wsX0_get := goodIn_r _ [5] (by decide +kernel) (by decide +kernel)
set_option maxRecDepth 20000 in
theorem gX3_figureOf_X0_get : GoodIn wsX3_figureOf (va_wsS RX3 47 yX0_get wsX0_get) := goodIn_app (goodIn_of _ (by decide +kernel)) ggX3_figureOf_X0_get
theorem dX3_figureOf_0 : decode cX3_figureOf 0 = .ok (.aload_n 0, 1) := by decide +kernel
theorem dX3_figureOf_1 : decode cX3_figureOf 1 = .ok (.getfield 25, 3) := by decide +kernel
theorem dX3_figureOf_4 : decode cX3_figureOf 4 = .ok (.iload_n 1, 1) := by decide +kernel
theorem dX3_figureOf_5 : decode cX3_figureOf 5 = .ok (.invokestatic 47, 3) := by decide +kernel
theorem dX3_figureOf_8 : decode cX3_figureOf 8 = .ok (.ireturn, 1) := by decide +kernel
set_option maxRecDepth 20000 in
theorem ggX3_speakerOf_X0_get : GoodIn wsX3_speakerOf wsX0_get := goodIn_r _ [5] (by decide +kernel) (by decide +kernel)
set_option maxRecDepth 20000 in
theorem gX3_speakerOf_X0_get : GoodIn wsX3_speakerOf (va_wsS RX3 47 yX0_get wsX0_get) := goodIn_app (goodIn_of _ (by decide +kernel)) ggX3_speakerOf_X0_get
theorem dX3_speakerOf_0 : decode cX3_speakerOf 0 = .ok (.aload_n 0, 1) := by decide +kernel
theorem dX3_speakerOf_1 : decode cX3_speakerOf 1 = .ok (.getfield 28, 3) := by decide +kernel
theorem dX3_speakerOf_4 : decode cX3_speakerOf 4 = .ok (.iload_n 1, 1) := by decide +kernel
theorem dX3_speakerOf_5 : decode cX3_speakerOf 5 = .ok (.invokestatic 47, 3) := by decide +kernel
theorem dX3_speakerOf_8 : decode cX3_speakerOf 8 = .ok (.ireturn, 1) := by decide +kernel
set_option maxRecDepth 20000 in
theorem ggX3_add_X0_with : GoodIn wsX3_add wsX0_with := goodIn_r _ [9, 10, 11] (by decide +kernel) (by decide +kernel)
set_option maxRecDepth 20000 in
theorem gX3_add_X0_with : GoodIn wsX3_add (va_wsS RX3 51 yX0_with wsX0_with) := goodIn_app (goodIn_of _ (by decide +kernel)) ggX3_add_X0_with
theorem dX3_add_0 : decode cX3_add 0 = .ok (.aload_n 0, 1) := by decide +kernel
theorem dX3_add_1 : decode cX3_add 1 = .ok (.getfield 9, 3) := by decide +kernel
theorem dX3_add_4 : decode cX3_add 4 = .ok (.istore 4, 2) := by decide +kernel
theorem dX3_add_6 : decode cX3_add 6 = .ok (.aload_n 0, 1) := by decide +kernel
theorem dX3_add_7 : decode cX3_add 7 = .ok (.dup, 1) := by decide +kernel
theorem dX3_add_8 : decode cX3_add 8 = .ok (.getfield 9, 3) := by decide +kernel
theorem dX3_add_11 : decode cX3_add 11 = .ok (.iconst 1, 1) := by decide +kernel
theorem dX3_add_12 : decode cX3_add 12 = .ok (.iadd, 1) := by decide +kernel
theorem dX3_add_13 : decode cX3_add 13 = .ok (.putfield 9, 3) := by decide +kernel
theorem dX3_add_16 : decode cX3_add 16 = .ok (.aload_n 0, 1) := by decide +kernel
theorem dX3_add_17 : decode cX3_add 17 = .ok (.dup, 1) := by decide +kernel
theorem dX3_add_18 : decode cX3_add 18 = .ok (.getfield 15, 3) := by decide +kernel
theorem dX3_add_21 : decode cX3_add 21 = .ok (.iconst 1, 1) := by decide +kernel
theorem dX3_add_22 : decode cX3_add 22 = .ok (.iload 4, 2) := by decide +kernel
theorem dX3_add_24 : decode cX3_add 24 = .ok (.ishl, 1) := by decide +kernel
theorem dX3_add_25 : decode cX3_add 25 = .ok (.ior, 1) := by decide +kernel
theorem dX3_add_26 : decode cX3_add 26 = .ok (.putfield 15, 3) := by decide +kernel
theorem dX3_add_29 : decode cX3_add 29 = .ok (.aload_n 0, 1) := by decide +kernel
theorem dX3_add_30 : decode cX3_add 30 = .ok (.aload_n 0, 1) := by decide +kernel
theorem dX3_add_31 : decode cX3_add 31 = .ok (.getfield 21, 3) := by decide +kernel
theorem dX3_add_34 : decode cX3_add 34 = .ok (.iload 4, 2) := by decide +kernel
theorem dX3_add_36 : decode cX3_add 36 = .ok (.iload_n 1, 1) := by decide +kernel
theorem dX3_add_37 : decode cX3_add 37 = .ok (.invokestatic 51, 3) := by decide +kernel
theorem dX3_add_40 : decode cX3_add 40 = .ok (.putfield 21, 3) := by decide +kernel
theorem dX3_add_43 : decode cX3_add 43 = .ok (.aload_n 0, 1) := by decide +kernel
theorem dX3_add_44 : decode cX3_add 44 = .ok (.aload_n 0, 1) := by decide +kernel
theorem dX3_add_45 : decode cX3_add 45 = .ok (.getfield 25, 3) := by decide +kernel
theorem dX3_add_48 : decode cX3_add 48 = .ok (.iload 4, 2) := by decide +kernel
theorem dX3_add_50 : decode cX3_add 50 = .ok (.iload_n 2, 1) := by decide +kernel
theorem dX3_add_51 : decode cX3_add 51 = .ok (.invokestatic 51, 3) := by decide +kernel
theorem dX3_add_54 : decode cX3_add 54 = .ok (.putfield 25, 3) := by decide +kernel
theorem dX3_add_57 : decode cX3_add 57 = .ok (.aload_n 0, 1) := by decide +kernel
theorem dX3_add_58 : decode cX3_add 58 = .ok (.aload_n 0, 1) := by decide +kernel
theorem dX3_add_59 : decode cX3_add 59 = .ok (.getfield 28, 3) := by decide +kernel
theorem dX3_add_62 : decode cX3_add 62 = .ok (.iload 4, 2) := by decide +kernel
theorem dX3_add_64 : decode cX3_add 64 = .ok (.iload_n 3, 1) := by decide +kernel
theorem dX3_add_65 : decode cX3_add 65 = .ok (.invokestatic 51, 3) := by decide +kernel
theorem dX3_add_68 : decode cX3_add 68 = .ok (.putfield 28, 3) := by decide +kernel
theorem dX3_add_71 : decode cX3_add 71 = .ok (.iload 4, 2) := by decide +kernel
theorem dX3_add_73 : decode cX3_add 73 = .ok (.ireturn, 1) := by decide +kernel
set_option maxRecDepth 20000 in
theorem ggX3_recast_X0_with : GoodIn wsX3_recast wsX0_with := goodIn_r _ [6, 7, 8] (by decide +kernel) (by decide +kernel)
set_option maxRecDepth 20000 in
theorem gX3_recast_X0_with : GoodIn wsX3_recast (va_wsS RX3 51 yX0_with wsX0_with) := goodIn_app (goodIn_of _ (by decide +kernel)) ggX3_recast_X0_with
theorem dX3_recast_0 : decode cX3_recast 0 = .ok (.aload_n 0, 1) := by decide +kernel
theorem dX3_recast_1 : decode cX3_recast 1 = .ok (.aload_n 0, 1) := by decide +kernel
theorem dX3_recast_2 : decode cX3_recast 2 = .ok (.getfield 21, 3) := by decide +kernel
theorem dX3_recast_5 : decode cX3_recast 5 = .ok (.iload_n 1, 1) := by decide +kernel
theorem dX3_recast_6 : decode cX3_recast 6 = .ok (.iload_n 2, 1) := by decide +kernel
theorem dX3_recast_7 : decode cX3_recast 7 = .ok (.invokestatic 51, 3) := by decide +kernel
theorem dX3_recast_10 : decode cX3_recast 10 = .ok (.putfield 21, 3) := by decide +kernel
theorem dX3_recast_13 : decode cX3_recast 13 = .ok (.aload_n 0, 1) := by decide +kernel
theorem dX3_recast_14 : decode cX3_recast 14 = .ok (.aload_n 0, 1) := by decide +kernel
theorem dX3_recast_15 : decode cX3_recast 15 = .ok (.getfield 25, 3) := by decide +kernel
theorem dX3_recast_18 : decode cX3_recast 18 = .ok (.iload_n 1, 1) := by decide +kernel
theorem dX3_recast_19 : decode cX3_recast 19 = .ok (.iload_n 3, 1) := by decide +kernel
theorem dX3_recast_20 : decode cX3_recast 20 = .ok (.invokestatic 51, 3) := by decide +kernel
theorem dX3_recast_23 : decode cX3_recast 23 = .ok (.putfield 25, 3) := by decide +kernel
theorem dX3_recast_26 : decode cX3_recast 26 = .ok (.return_, 1) := by decide +kernel
theorem dX3_flipHeard_0 : decode cX3_flipHeard 0 = .ok (.aload_n 0, 1) := by decide +kernel
theorem dX3_flipHeard_1 : decode cX3_flipHeard 1 = .ok (.dup, 1) := by decide +kernel
theorem dX3_flipHeard_2 : decode cX3_flipHeard 2 = .ok (.getfield 15, 3) := by decide +kernel
theorem dX3_flipHeard_5 : decode cX3_flipHeard 5 = .ok (.iconst 1, 1) := by decide +kernel
theorem dX3_flipHeard_6 : decode cX3_flipHeard 6 = .ok (.iload_n 1, 1) := by decide +kernel
theorem dX3_flipHeard_7 : decode cX3_flipHeard 7 = .ok (.ishl, 1) := by decide +kernel
theorem dX3_flipHeard_8 : decode cX3_flipHeard 8 = .ok (.ixor, 1) := by decide +kernel
theorem dX3_flipHeard_9 : decode cX3_flipHeard 9 = .ok (.putfield 15, 3) := by decide +kernel
theorem dX3_flipHeard_12 : decode cX3_flipHeard 12 = .ok (.return_, 1) := by decide +kernel
set_option maxRecDepth 20000 in
theorem ggX3_flipAttack_X0_pair : GoodIn wsX3_flipAttack wsX0_pair := goodIn_r _ [5] (by decide +kernel) (by decide +kernel)
set_option maxRecDepth 20000 in
theorem gX3_flipAttack_X0_pair : GoodIn wsX3_flipAttack (va_wsS RX3 55 yX0_pair wsX0_pair) := goodIn_app (goodIn_of _ (by decide +kernel)) ggX3_flipAttack_X0_pair
theorem dX3_flipAttack_0 : decode cX3_flipAttack 0 = .ok (.aload_n 0, 1) := by decide +kernel
theorem dX3_flipAttack_1 : decode cX3_flipAttack 1 = .ok (.dup, 1) := by decide +kernel
theorem dX3_flipAttack_2 : decode cX3_flipAttack 2 = .ok (.getfield 31, 3) := by decide +kernel
theorem dX3_flipAttack_5 : decode cX3_flipAttack 5 = .ok (.iload_n 1, 1) := by decide +kernel
theorem dX3_flipAttack_6 : decode cX3_flipAttack 6 = .ok (.iload_n 2, 1) := by decide +kernel
theorem dX3_flipAttack_7 : decode cX3_flipAttack 7 = .ok (.invokestatic 55, 3) := by decide +kernel
theorem dX3_flipAttack_10 : decode cX3_flipAttack 10 = .ok (.lxor, 1) := by decide +kernel
theorem dX3_flipAttack_11 : decode cX3_flipAttack 11 = .ok (.putfield 31, 3) := by decide +kernel
theorem dX3_flipAttack_14 : decode cX3_flipAttack 14 = .ok (.return_, 1) := by decide +kernel
set_option maxRecDepth 20000 in
theorem ggX3_flipSupport_X0_pair : GoodIn wsX3_flipSupport wsX0_pair := goodIn_r _ [5] (by decide +kernel) (by decide +kernel)
set_option maxRecDepth 20000 in
theorem gX3_flipSupport_X0_pair : GoodIn wsX3_flipSupport (va_wsS RX3 55 yX0_pair wsX0_pair) := goodIn_app (goodIn_of _ (by decide +kernel)) ggX3_flipSupport_X0_pair
theorem dX3_flipSupport_0 : decode cX3_flipSupport 0 = .ok (.aload_n 0, 1) := by decide +kernel
theorem dX3_flipSupport_1 : decode cX3_flipSupport 1 = .ok (.dup, 1) := by decide +kernel
theorem dX3_flipSupport_2 : decode cX3_flipSupport 2 = .ok (.getfield 34, 3) := by decide +kernel
theorem dX3_flipSupport_5 : decode cX3_flipSupport 5 = .ok (.iload_n 1, 1) := by decide +kernel
theorem dX3_flipSupport_6 : decode cX3_flipSupport 6 = .ok (.iload_n 2, 1) := by decide +kernel
theorem dX3_flipSupport_7 : decode cX3_flipSupport 7 = .ok (.invokestatic 55, 3) := by decide +kernel
theorem dX3_flipSupport_10 : decode cX3_flipSupport 10 = .ok (.lxor, 1) := by decide +kernel
theorem dX3_flipSupport_11 : decode cX3_flipSupport 11 = .ok (.putfield 34, 3) := by decide +kernel
theorem dX3_flipSupport_14 : decode cX3_flipSupport 14 = .ok (.return_, 1) := by decide +kernel
set_option maxRecDepth 20000 in
theorem ggX3_claimsOf_X3_speakerOf : GoodIn wsX3_claimsOf wsX3_speakerOf := goodIn_r _ [6, 7, 8, 9, 10, 11, 12, 13, 14, 15, 16, 17, 18, 19] (by decide +kernel) (by decide +kernel)
set_option maxRecDepth 20000 in
theorem gX3_claimsOf_X3_speakerOf : GoodIn wsX3_claimsOf (wsV RX3 59 RX3 yX3_speakerOf wsX3_speakerOf) := goodIn_app (goodIn_of _ (by decide +kernel)) ggX3_claimsOf_X3_speakerOf
theorem dX3_claimsOf_0 : decode cX3_claimsOf 0 = .ok (.iconst 0, 1) := by decide +kernel
theorem dX3_claimsOf_1 : decode cX3_claimsOf 1 = .ok (.istore_n 2, 1) := by decide +kernel
theorem dX3_claimsOf_2 : decode cX3_claimsOf 2 = .ok (.iconst 0, 1) := by decide +kernel
theorem dX3_claimsOf_3 : decode cX3_claimsOf 3 = .ok (.istore_n 3, 1) := by decide +kernel
theorem dX3_claimsOf_4 : decode cX3_claimsOf 4 = .ok (.iload_n 3, 1) := by decide +kernel
theorem dX3_claimsOf_5 : decode cX3_claimsOf 5 = .ok (.aload_n 0, 1) := by decide +kernel
theorem dX3_claimsOf_6 : decode cX3_claimsOf 6 = .ok (.getfield 9, 3) := by decide +kernel
theorem dX3_claimsOf_9 : decode cX3_claimsOf 9 = .ok (.if_icmp .ge 24, 3) := by decide +kernel
theorem dX3_claimsOf_12 : decode cX3_claimsOf 12 = .ok (.aload_n 0, 1) := by decide +kernel
theorem dX3_claimsOf_13 : decode cX3_claimsOf 13 = .ok (.iload_n 3, 1) := by decide +kernel
theorem dX3_claimsOf_14 : decode cX3_claimsOf 14 = .ok (.invokevirtual 59, 3) := by decide +kernel
theorem dX3_claimsOf_17 : decode cX3_claimsOf 17 = .ok (.iload_n 1, 1) := by decide +kernel
theorem dX3_claimsOf_18 : decode cX3_claimsOf 18 = .ok (.if_icmp .ne 9, 3) := by decide +kernel
theorem dX3_claimsOf_21 : decode cX3_claimsOf 21 = .ok (.iload_n 2, 1) := by decide +kernel
theorem dX3_claimsOf_22 : decode cX3_claimsOf 22 = .ok (.iconst 1, 1) := by decide +kernel
theorem dX3_claimsOf_23 : decode cX3_claimsOf 23 = .ok (.iload_n 3, 1) := by decide +kernel
theorem dX3_claimsOf_24 : decode cX3_claimsOf 24 = .ok (.ishl, 1) := by decide +kernel
theorem dX3_claimsOf_25 : decode cX3_claimsOf 25 = .ok (.ior, 1) := by decide +kernel
theorem dX3_claimsOf_26 : decode cX3_claimsOf 26 = .ok (.istore_n 2, 1) := by decide +kernel
theorem dX3_claimsOf_27 : decode cX3_claimsOf 27 = .ok (.iinc 3 1, 3) := by decide +kernel
theorem dX3_claimsOf_30 : decode cX3_claimsOf 30 = .ok (.goto (-26), 3) := by decide +kernel
theorem dX3_claimsOf_33 : decode cX3_claimsOf 33 = .ok (.iload_n 2, 1) := by decide +kernel
theorem dX3_claimsOf_34 : decode cX3_claimsOf 34 = .ok (.ireturn, 1) := by decide +kernel
set_option maxRecDepth 20000 in
theorem ggX3_speakersThere_X3_claimsOf : GoodIn wsX3_speakersThere wsX3_claimsOf := goodIn_r _ [5, 6, 7, 8, 9, 4, 10, 11, 12, 13, 14, 15, 16, 17, 18, 19, 20, 21, 22, 23] (by decide +kernel) (by decide +kernel)
set_option maxRecDepth 20000 in
theorem gX3_speakersThere_X3_claimsOf : GoodIn wsX3_speakersThere (wsV RX3 63 RX3 yX3_claimsOf wsX3_claimsOf) := goodIn_app (goodIn_of _ (by decide +kernel)) ggX3_speakersThere_X3_claimsOf
theorem dX3_speakersThere_0 : decode cX3_speakersThere 0 = .ok (.iconst 0, 1) := by decide +kernel
theorem dX3_speakersThere_1 : decode cX3_speakersThere 1 = .ok (.istore_n 1, 1) := by decide +kernel
theorem dX3_speakersThere_2 : decode cX3_speakersThere 2 = .ok (.iconst 0, 1) := by decide +kernel
theorem dX3_speakersThere_3 : decode cX3_speakersThere 3 = .ok (.istore_n 2, 1) := by decide +kernel
theorem dX3_speakersThere_4 : decode cX3_speakersThere 4 = .ok (.iload_n 2, 1) := by decide +kernel
theorem dX3_speakersThere_5 : decode cX3_speakersThere 5 = .ok (.bipush 10, 2) := by decide +kernel
theorem dX3_speakersThere_7 : decode cX3_speakersThere 7 = .ok (.if_icmp .ge 20, 3) := by decide +kernel
theorem dX3_speakersThere_10 : decode cX3_speakersThere 10 = .ok (.aload_n 0, 1) := by decide +kernel
theorem dX3_speakersThere_11 : decode cX3_speakersThere 11 = .ok (.iload_n 2, 1) := by decide +kernel
theorem dX3_speakersThere_12 : decode cX3_speakersThere 12 = .ok (.invokevirtual 63, 3) := by decide +kernel
theorem dX3_speakersThere_15 : decode cX3_speakersThere 15 = .ok (.ifCond .eq 6, 3) := by decide +kernel
theorem dX3_speakersThere_18 : decode cX3_speakersThere 18 = .ok (.iinc 1 1, 3) := by decide +kernel
theorem dX3_speakersThere_21 : decode cX3_speakersThere 21 = .ok (.iinc 2 1, 3) := by decide +kernel
theorem dX3_speakersThere_24 : decode cX3_speakersThere 24 = .ok (.goto (-20), 3) := by decide +kernel
theorem dX3_speakersThere_27 : decode cX3_speakersThere 27 = .ok (.iload_n 1, 1) := by decide +kernel
theorem dX3_speakersThere_28 : decode cX3_speakersThere 28 = .ok (.ireturn, 1) := by decide +kernel
set_option maxRecDepth 20000 in
theorem ggX3_speakerAt_X3_claimsOf : GoodIn wsX3_speakerAt wsX3_claimsOf := goodIn_r _ [5, 6, 7, 8, 9, 4, 10, 11, 12, 13, 14, 15, 16, 17, 18, 19, 20, 21, 22, 23] (by decide +kernel) (by decide +kernel)
set_option maxRecDepth 20000 in
theorem gX3_speakerAt_X3_claimsOf : GoodIn wsX3_speakerAt (wsV RX3 63 RX3 yX3_claimsOf wsX3_claimsOf) := goodIn_app (goodIn_of _ (by decide +kernel)) ggX3_speakerAt_X3_claimsOf
theorem dX3_speakerAt_0 : decode cX3_speakerAt 0 = .ok (.iconst 0, 1) := by decide +kernel
theorem dX3_speakerAt_1 : decode cX3_speakerAt 1 = .ok (.istore_n 2, 1) := by decide +kernel
theorem dX3_speakerAt_2 : decode cX3_speakerAt 2 = .ok (.iconst 0, 1) := by decide +kernel
theorem dX3_speakerAt_3 : decode cX3_speakerAt 3 = .ok (.istore_n 3, 1) := by decide +kernel
theorem dX3_speakerAt_4 : decode cX3_speakerAt 4 = .ok (.iload_n 3, 1) := by decide +kernel
theorem dX3_speakerAt_5 : decode cX3_speakerAt 5 = .ok (.bipush 10, 2) := by decide +kernel
theorem dX3_speakerAt_7 : decode cX3_speakerAt 7 = .ok (.if_icmp .ge 27, 3) := by decide +kernel
theorem dX3_speakerAt_10 : decode cX3_speakerAt 10 = .ok (.aload_n 0, 1) := by decide +kernel
theorem dX3_speakerAt_11 : decode cX3_speakerAt 11 = .ok (.iload_n 3, 1) := by decide +kernel
theorem dX3_speakerAt_12 : decode cX3_speakerAt 12 = .ok (.invokevirtual 63, 3) := by decide +kernel
theorem dX3_speakerAt_15 : decode cX3_speakerAt 15 = .ok (.ifCond .eq 13, 3) := by decide +kernel
theorem dX3_speakerAt_18 : decode cX3_speakerAt 18 = .ok (.iload_n 2, 1) := by decide +kernel
theorem dX3_speakerAt_19 : decode cX3_speakerAt 19 = .ok (.iload_n 1, 1) := by decide +kernel
theorem dX3_speakerAt_20 : decode cX3_speakerAt 20 = .ok (.if_icmp .ne 5, 3) := by decide +kernel
theorem dX3_speakerAt_23 : decode cX3_speakerAt 23 = .ok (.iload_n 3, 1) := by decide +kernel
theorem dX3_speakerAt_24 : decode cX3_speakerAt 24 = .ok (.ireturn, 1) := by decide +kernel
theorem dX3_speakerAt_25 : decode cX3_speakerAt 25 = .ok (.iinc 2 1, 3) := by decide +kernel
theorem dX3_speakerAt_28 : decode cX3_speakerAt 28 = .ok (.iinc 3 1, 3) := by decide +kernel
theorem dX3_speakerAt_31 : decode cX3_speakerAt 31 = .ok (.goto (-27), 3) := by decide +kernel
theorem dX3_speakerAt_34 : decode cX3_speakerAt 34 = .ok (.iconst (-1), 1) := by decide +kernel
theorem dX3_speakerAt_35 : decode cX3_speakerAt 35 = .ok (.ireturn, 1) := by decide +kernel
set_option maxRecDepth 20000 in
theorem ggX3_greatestFigure_X0_contains : GoodIn wsX3_greatestFigure wsX0_contains := goodIn_r _ [9] (by decide +kernel) (by decide +kernel)
set_option maxRecDepth 20000 in
theorem gX3_greatestFigure_X0_contains : GoodIn wsX3_greatestFigure (va_wsS RX3 41 yX0_contains wsX0_contains) := goodIn_app (goodIn_of _ (by decide +kernel)) ggX3_greatestFigure_X0_contains
set_option maxRecDepth 20000 in
theorem ggX3_greatestFigure_X3_figureOf : GoodIn wsX3_greatestFigure wsX3_figureOf := goodIn_r _ [14, 15, 16, 17, 8, 18, 19, 20, 21, 22, 23, 24, 25, 26] (by decide +kernel) (by decide +kernel)
set_option maxRecDepth 20000 in
theorem gX3_greatestFigure_X3_figureOf : GoodIn wsX3_greatestFigure (wsV RX3 66 RX3 yX3_figureOf wsX3_figureOf) := goodIn_app (goodIn_of _ (by decide +kernel)) ggX3_greatestFigure_X3_figureOf
theorem dX3_greatestFigure_0 : decode cX3_greatestFigure 0 = .ok (.iconst 0, 1) := by decide +kernel
theorem dX3_greatestFigure_1 : decode cX3_greatestFigure 1 = .ok (.istore_n 2, 1) := by decide +kernel
theorem dX3_greatestFigure_2 : decode cX3_greatestFigure 2 = .ok (.iconst 0, 1) := by decide +kernel
theorem dX3_greatestFigure_3 : decode cX3_greatestFigure 3 = .ok (.istore_n 3, 1) := by decide +kernel
theorem dX3_greatestFigure_4 : decode cX3_greatestFigure 4 = .ok (.iload_n 3, 1) := by decide +kernel
theorem dX3_greatestFigure_5 : decode cX3_greatestFigure 5 = .ok (.aload_n 0, 1) := by decide +kernel
theorem dX3_greatestFigure_6 : decode cX3_greatestFigure 6 = .ok (.getfield 9, 3) := by decide +kernel
theorem dX3_greatestFigure_9 : decode cX3_greatestFigure 9 = .ok (.if_icmp .ge 27, 3) := by decide +kernel
theorem dX3_greatestFigure_12 : decode cX3_greatestFigure 12 = .ok (.iload_n 1, 1) := by decide +kernel
theorem dX3_greatestFigure_13 : decode cX3_greatestFigure 13 = .ok (.iload_n 3, 1) := by decide +kernel
theorem dX3_greatestFigure_14 : decode cX3_greatestFigure 14 = .ok (.invokestatic 41, 3) := by decide +kernel
theorem dX3_greatestFigure_17 : decode cX3_greatestFigure 17 = .ok (.ifCond .eq 13, 3) := by decide +kernel
theorem dX3_greatestFigure_20 : decode cX3_greatestFigure 20 = .ok (.iload_n 2, 1) := by decide +kernel
theorem dX3_greatestFigure_21 : decode cX3_greatestFigure 21 = .ok (.aload_n 0, 1) := by decide +kernel
theorem dX3_greatestFigure_22 : decode cX3_greatestFigure 22 = .ok (.iload_n 3, 1) := by decide +kernel
theorem dX3_greatestFigure_23 : decode cX3_greatestFigure 23 = .ok (.invokevirtual 66, 3) := by decide +kernel
theorem dX3_greatestFigure_26 : decode cX3_greatestFigure 26 = .ok (.invokestatic 69, 3) := by decide +kernel
theorem dX3_greatestFigure_29 : decode cX3_greatestFigure 29 = .ok (.istore_n 2, 1) := by decide +kernel
theorem dX3_greatestFigure_30 : decode cX3_greatestFigure 30 = .ok (.iinc 3 1, 3) := by decide +kernel
theorem dX3_greatestFigure_33 : decode cX3_greatestFigure 33 = .ok (.goto (-29), 3) := by decide +kernel
theorem dX3_greatestFigure_36 : decode cX3_greatestFigure 36 = .ok (.iload_n 2, 1) := by decide +kernel
theorem dX3_greatestFigure_37 : decode cX3_greatestFigure 37 = .ok (.ireturn, 1) := by decide +kernel
set_option maxRecDepth 20000 in
theorem ggX4_beginSo_X6_at : GoodIn wsX4_beginSo wsX6_at := goodIn_r _ [7, 8, 9, 33, 34] (by decide +kernel) (by decide +kernel)
set_option maxRecDepth 20000 in
theorem gX4_beginSo_X6_at : GoodIn wsX4_beginSo (wsV RX4 22 RX6 yX6_at wsX6_at) := goodIn_app (goodIn_of _ (by decide +kernel)) ggX4_beginSo_X6_at
set_option maxRecDepth 20000 in
theorem ggX4_beginSo_X9_labelOf : GoodIn wsX4_beginSo wsX9_labelOf := goodIn_r _ [14, 15, 16, 17, 18, 19, 20, 21, 22, 23, 24, 25, 26, 27, 28, 29, 30, 31, 32, 43, 44, 45, 46, 35, 36, 37, 38, 39, 40, 41, 42] (by decide +kernel) (by decide +kernel)
set_option maxRecDepth 20000 in
theorem gX4_beginSo_X9_labelOf : GoodIn wsX4_beginSo (wsV RX4 26 RX9 yX9_labelOf wsX9_labelOf) := goodIn_app (goodIn_of _ (by decide +kernel)) ggX4_beginSo_X9_labelOf
theorem dX4_beginSo_0 : decode cX4_beginSo 0 = .ok (.aload_n 0, 1) := by decide +kernel
theorem dX4_beginSo_1 : decode cX4_beginSo 1 = .ok (.getfield 9, 3) := by decide +kernel
theorem dX4_beginSo_4 : decode cX4_beginSo 4 = .ok (.aload_n 1, 1) := by decide +kernel
theorem dX4_beginSo_5 : decode cX4_beginSo 5 = .ok (.getfield 15, 3) := by decide +kernel
theorem dX4_beginSo_8 : decode cX4_beginSo 8 = .ok (.if_icmp .le 5, 3) := by decide +kernel
theorem dX4_beginSo_11 : decode cX4_beginSo 11 = .ok (.iconst 0, 1) := by decide +kernel
theorem dX4_beginSo_12 : decode cX4_beginSo 12 = .ok (.ireturn, 1) := by decide +kernel
theorem dX4_beginSo_13 : decode cX4_beginSo 13 = .ok (.iconst 0, 1) := by decide +kernel
theorem dX4_beginSo_14 : decode cX4_beginSo 14 = .ok (.istore_n 3, 1) := by decide +kernel
theorem dX4_beginSo_15 : decode cX4_beginSo 15 = .ok (.iload_n 3, 1) := by decide +kernel
theorem dX4_beginSo_16 : decode cX4_beginSo 16 = .ok (.aload_n 0, 1) := by decide +kernel
theorem dX4_beginSo_17 : decode cX4_beginSo 17 = .ok (.getfield 9, 3) := by decide +kernel
theorem dX4_beginSo_20 : decode cX4_beginSo 20 = .ok (.if_icmp .ge 27, 3) := by decide +kernel
theorem dX4_beginSo_23 : decode cX4_beginSo 23 = .ok (.aload_n 0, 1) := by decide +kernel
theorem dX4_beginSo_24 : decode cX4_beginSo 24 = .ok (.iload_n 3, 1) := by decide +kernel
theorem dX4_beginSo_25 : decode cX4_beginSo 25 = .ok (.bipush 9, 2) := by decide +kernel
theorem dX4_beginSo_27 : decode cX4_beginSo 27 = .ok (.invokevirtual 22, 3) := by decide +kernel
theorem dX4_beginSo_30 : decode cX4_beginSo 30 = .ok (.aload_n 2, 1) := by decide +kernel
theorem dX4_beginSo_31 : decode cX4_beginSo 31 = .ok (.aload_n 1, 1) := by decide +kernel
theorem dX4_beginSo_32 : decode cX4_beginSo 32 = .ok (.iload_n 3, 1) := by decide +kernel
theorem dX4_beginSo_33 : decode cX4_beginSo 33 = .ok (.invokevirtual 26, 3) := by decide +kernel
theorem dX4_beginSo_36 : decode cX4_beginSo 36 = .ok (.if_icmp .eq 5, 3) := by decide +kernel
theorem dX4_beginSo_39 : decode cX4_beginSo 39 = .ok (.iconst 0, 1) := by decide +kernel
theorem dX4_beginSo_40 : decode cX4_beginSo 40 = .ok (.ireturn, 1) := by decide +kernel
theorem dX4_beginSo_41 : decode cX4_beginSo 41 = .ok (.iinc 3 1, 3) := by decide +kernel
theorem dX4_beginSo_44 : decode cX4_beginSo 44 = .ok (.goto (-29), 3) := by decide +kernel
theorem dX4_beginSo_47 : decode cX4_beginSo 47 = .ok (.iconst 1, 1) := by decide +kernel
theorem dX4_beginSo_48 : decode cX4_beginSo 48 = .ok (.ireturn, 1) := by decide +kernel
set_option maxRecDepth 20000 in
theorem ggX4_judged_X3_hears : GoodIn wsX4_judged wsX3_hears := goodIn_r _ [7, 8, 9, 10, 11, 6, 12, 13, 14, 15, 16, 17, 33, 34, 35, 36, 37, 38, 39, 40] (by decide +kernel) (by decide +kernel)
set_option maxRecDepth 20000 in
theorem gX4_judged_X3_hears : GoodIn wsX4_judged (wsV RX4 32 RX3 yX3_hears wsX3_hears) := goodIn_app (goodIn_of _ (by decide +kernel)) ggX4_judged_X3_hears
set_option maxRecDepth 20000 in
theorem ggX4_judged_X0_get : GoodIn wsX4_judged wsX0_get := goodIn_r _ [20] (by decide +kernel) (by decide +kernel)
set_option maxRecDepth 20000 in
theorem gX4_judged_X0_get : GoodIn wsX4_judged (va_wsS RX4 36 yX0_get wsX0_get) := goodIn_app (goodIn_of _ (by decide +kernel)) ggX4_judged_X0_get
set_option maxRecDepth 20000 in
theorem ggX4_judged_X4_dueBy : GoodIn wsX4_judged wsX4_dueBy := goodIn_r _ [24, 25, 15, 16, 17, 26, 27, 28, 29, 30, 31, 32, 41, 42] (by decide +kernel) (by decide +kernel)
set_option maxRecDepth 20000 in
theorem gX4_judged_X4_dueBy : GoodIn wsX4_judged (va_wsS RX4 42 yX4_dueBy wsX4_dueBy) := goodIn_app (goodIn_of _ (by decide +kernel)) ggX4_judged_X4_dueBy
set_option maxRecDepth 20000 in
theorem ggX4_judged_X6_at : GoodIn wsX4_judged wsX6_at := goodIn_r _ [30, 31, 32, 41, 42] (by decide +kernel) (by decide +kernel)
set_option maxRecDepth 20000 in
theorem gX4_judged_X6_at : GoodIn wsX4_judged (wsV RX4 22 RX6 yX6_at wsX6_at) := goodIn_app (goodIn_of _ (by decide +kernel)) ggX4_judged_X6_at
theorem dX4_judged_0 : decode cX4_judged 0 = .ok (.iconst 0, 1) := by decide +kernel
theorem dX4_judged_1 : decode cX4_judged 1 = .ok (.istore 4, 2) := by decide +kernel
theorem dX4_judged_3 : decode cX4_judged 3 = .ok (.iload 4, 2) := by decide +kernel
theorem dX4_judged_5 : decode cX4_judged 5 = .ok (.aload_n 1, 1) := by decide +kernel
theorem dX4_judged_6 : decode cX4_judged 6 = .ok (.getfield 15, 3) := by decide +kernel
theorem dX4_judged_9 : decode cX4_judged 9 = .ok (.if_icmp .ge 50, 3) := by decide +kernel
theorem dX4_judged_12 : decode cX4_judged 12 = .ok (.aload_n 1, 1) := by decide +kernel
theorem dX4_judged_13 : decode cX4_judged 13 = .ok (.iload 4, 2) := by decide +kernel
theorem dX4_judged_15 : decode cX4_judged 15 = .ok (.invokevirtual 32, 3) := by decide +kernel
theorem dX4_judged_18 : decode cX4_judged 18 = .ok (.ifCond .eq 16, 3) := by decide +kernel
theorem dX4_judged_21 : decode cX4_judged 21 = .ok (.aload_n 0, 1) := by decide +kernel
theorem dX4_judged_22 : decode cX4_judged 22 = .ok (.lload_n 2, 1) := by decide +kernel
theorem dX4_judged_23 : decode cX4_judged 23 = .ok (.iload 4, 2) := by decide +kernel
theorem dX4_judged_25 : decode cX4_judged 25 = .ok (.invokestatic 36, 3) := by decide +kernel
theorem dX4_judged_28 : decode cX4_judged 28 = .ok (.invokestatic 42, 3) := by decide +kernel
theorem dX4_judged_31 : decode cX4_judged 31 = .ok (.goto 4, 3) := by decide +kernel
theorem dX4_judged_34 : decode cX4_judged 34 = .ok (.iconst 3, 1) := by decide +kernel
theorem dX4_judged_35 : decode cX4_judged 35 = .ok (.istore 5, 2) := by decide +kernel
theorem dX4_judged_37 : decode cX4_judged 37 = .ok (.aload_n 0, 1) := by decide +kernel
theorem dX4_judged_38 : decode cX4_judged 38 = .ok (.iload 4, 2) := by decide +kernel
theorem dX4_judged_40 : decode cX4_judged 40 = .ok (.bipush 9, 2) := by decide +kernel
theorem dX4_judged_42 : decode cX4_judged 42 = .ok (.invokevirtual 22, 3) := by decide +kernel
theorem dX4_judged_45 : decode cX4_judged 45 = .ok (.iload 5, 2) := by decide +kernel
theorem dX4_judged_47 : decode cX4_judged 47 = .ok (.if_icmp .eq 6, 3) := by decide +kernel
theorem dX4_judged_50 : decode cX4_judged 50 = .ok (.iload 4, 2) := by decide +kernel
theorem dX4_judged_52 : decode cX4_judged 52 = .ok (.ireturn, 1) := by decide +kernel
theorem dX4_judged_53 : decode cX4_judged 53 = .ok (.iinc 4 1, 3) := by decide +kernel
theorem dX4_judged_56 : decode cX4_judged 56 = .ok (.goto (-53), 3) := by decide +kernel
theorem dX4_judged_59 : decode cX4_judged 59 = .ok (.aload_n 0, 1) := by decide +kernel
theorem dX4_judged_60 : decode cX4_judged 60 = .ok (.getfield 9, 3) := by decide +kernel
theorem dX4_judged_63 : decode cX4_judged 63 = .ok (.aload_n 1, 1) := by decide +kernel
theorem dX4_judged_64 : decode cX4_judged 64 = .ok (.getfield 15, 3) := by decide +kernel
theorem dX4_judged_67 : decode cX4_judged 67 = .ok (.if_icmp .le 10, 3) := by decide +kernel
theorem dX4_judged_70 : decode cX4_judged 70 = .ok (.aload_n 1, 1) := by decide +kernel
theorem dX4_judged_71 : decode cX4_judged 71 = .ok (.getfield 15, 3) := by decide +kernel
theorem dX4_judged_74 : decode cX4_judged 74 = .ok (.goto 5, 3) := by decide +kernel
theorem dX4_judged_77 : decode cX4_judged 77 = .ok (.bipush (-9), 2) := by decide +kernel
theorem dX4_judged_79 : decode cX4_judged 79 = .ok (.ireturn, 1) := by decide +kernel
