theorem dX7_greatestWithin_0 : decode cX7_greatestWithin 0 = .ok (.iconst 0, 1) := by decide +kernel
theorem dX7_greatestWithin_1 : decode cX7_greatestWithin 1 = .ok (.istore_n 2, 1) := by decide +kernel
theorem dX7_greatestWithin_2 : decode cX7_greatestWithin 2 = .ok (.iconst 0, 1) := by decide +kernel
theorem dX7_greatestWithin_3 : decode cX7_greatestWithin 3 = .ok (.istore_n 3, 1) := by decide +kernel
theorem dX7_greatestWithin_4 : decode cX7_greatestWithin 4 = .ok (.iload_n 3, 1) := by decide +kernel
theorem dX7_greatestWithin_5 : decode cX7_greatestWithin 5 = .ok (.aload_n 0, 1) := by decide +kernel
theorem dX7_greatestWithin_6 : decode cX7_greatestWithin 6 = .ok (.getfield 9, 3) := by decide +kernel
theorem dX7_greatestWithin_9 : decode cX7_greatestWithin 9 = .ok (.arraylength, 1) := by decide +kernel
theorem dX7_greatestWithin_10 : decode cX7_greatestWithin 10 = .ok (.if_icmp .ge 51, 3) := by decide +kernel
theorem dX7_greatestWithin_13 : decode cX7_greatestWithin 13 = .ok (.iload_n 3, 1) := by decide +kernel
theorem dX7_greatestWithin_14 : decode cX7_greatestWithin 14 = .ok (.invokestatic 90, 3) := by decide +kernel
theorem dX7_greatestWithin_17 : decode cX7_greatestWithin 17 = .ok (.iload_n 2, 1) := by decide +kernel
theorem dX7_greatestWithin_18 : decode cX7_greatestWithin 18 = .ok (.invokestatic 90, 3) := by decide +kernel
theorem dX7_greatestWithin_21 : decode cX7_greatestWithin 21 = .ok (.if_icmp .le 7, 3) := by decide +kernel
theorem dX7_greatestWithin_24 : decode cX7_greatestWithin 24 = .ok (.iconst 1, 1) := by decide +kernel
theorem dX7_greatestWithin_25 : decode cX7_greatestWithin 25 = .ok (.goto 4, 3) := by decide +kernel
theorem dX7_greatestWithin_28 : decode cX7_greatestWithin 28 = .ok (.iconst 0, 1) := by decide +kernel
theorem dX7_greatestWithin_29 : decode cX7_greatestWithin 29 = .ok (.istore 4, 2) := by decide +kernel
theorem dX7_greatestWithin_31 : decode cX7_greatestWithin 31 = .ok (.aload_n 0, 1) := by decide +kernel
theorem dX7_greatestWithin_32 : decode cX7_greatestWithin 32 = .ok (.getfield 9, 3) := by decide +kernel
theorem dX7_greatestWithin_35 : decode cX7_greatestWithin 35 = .ok (.iload_n 3, 1) := by decide +kernel
theorem dX7_greatestWithin_36 : decode cX7_greatestWithin 36 = .ok (.baload, 1) := by decide +kernel
theorem dX7_greatestWithin_37 : decode cX7_greatestWithin 37 = .ok (.ifCond .eq 18, 3) := by decide +kernel
theorem dX7_greatestWithin_40 : decode cX7_greatestWithin 40 = .ok (.iload_n 3, 1) := by decide +kernel
theorem dX7_greatestWithin_41 : decode cX7_greatestWithin 41 = .ok (.iload_n 1, 1) := by decide +kernel
theorem dX7_greatestWithin_42 : decode cX7_greatestWithin 42 = .ok (.iconst (-1), 1) := by decide +kernel
theorem dX7_greatestWithin_43 : decode cX7_greatestWithin 43 = .ok (.ixor, 1) := by decide +kernel
theorem dX7_greatestWithin_44 : decode cX7_greatestWithin 44 = .ok (.iand, 1) := by decide +kernel
theorem dX7_greatestWithin_45 : decode cX7_greatestWithin 45 = .ok (.ifCond .ne 10, 3) := by decide +kernel
theorem dX7_greatestWithin_48 : decode cX7_greatestWithin 48 = .ok (.iload 4, 2) := by decide +kernel
theorem dX7_greatestWithin_50 : decode cX7_greatestWithin 50 = .ok (.ifCond .eq 5, 3) := by decide +kernel
theorem dX7_greatestWithin_53 : decode cX7_greatestWithin 53 = .ok (.iload_n 3, 1) := by decide +kernel
theorem dX7_greatestWithin_54 : decode cX7_greatestWithin 54 = .ok (.istore_n 2, 1) := by decide +kernel
theorem dX7_greatestWithin_55 : decode cX7_greatestWithin 55 = .ok (.iinc 3 1, 3) := by decide +kernel
theorem dX7_greatestWithin_58 : decode cX7_greatestWithin 58 = .ok (.goto (-54), 3) := by decide +kernel
theorem dX7_greatestWithin_61 : decode cX7_greatestWithin 61 = .ok (.iload_n 2, 1) := by decide +kernel
theorem dX7_greatestWithin_62 : decode cX7_greatestWithin 62 = .ok (.ireturn, 1) := by decide +kernel
set_option maxRecDepth 20000 in
theorem ggX8_init_X3_init : GoodIn wsX8_init wsX3_init := goodIn_r _ [17, 18, 2, 3, 19, 20, 21, 22, 23, 24, 25, 26, 41, 42, 43, 44, 45, 46, 47, 48] (by decide +kernel) (by decide +kernel)
set_option maxRecDepth 20000 in
theorem gX8_init_X3_init_n11 : GoodIn wsX8_init (wsX3_init) := ggX8_init_X3_init
set_option maxRecDepth 20000 in
theorem ggX8_init_X1_init : GoodIn wsX8_init wsX1_init := goodIn_r _ [28, 29, 2, 3, 30, 31, 32, 33, 52, 53, 54, 55] (by decide +kernel) (by decide +kernel)
set_option maxRecDepth 20000 in
theorem gX8_init_X1_init_n20 : GoodIn wsX8_init (wsX1_init) := ggX8_init_X1_init
set_option maxRecDepth 20000 in
theorem ggX8_init_X9_init : GoodIn wsX8_init wsX9_init := goodIn_r _ [35, 36, 2, 3, 37, 38, 39, 40, 56, 57, 58, 59] (by decide +kernel) (by decide +kernel)
set_option maxRecDepth 20000 in
theorem gX8_init_X9_init_n27 : GoodIn wsX8_init (wsX9_init) := ggX8_init_X9_init
theorem dX8_init_0 : decode cX8_init 0 = .ok (.aload_n 0, 1) := by decide +kernel
theorem dX8_init_1 : decode cX8_init 1 = .ok (.invokespecial 3, 3) := by decide +kernel
theorem dX8_init_4 : decode cX8_init 4 = .ok (.aload_n 0, 1) := by decide +kernel
theorem dX8_init_5 : decode cX8_init 5 = .ok (.new 9, 3) := by decide +kernel
theorem dX8_init_8 : decode cX8_init 8 = .ok (.dup, 1) := by decide +kernel
theorem dX8_init_9 : decode cX8_init 9 = .ok (.invokespecial 11, 3) := by decide +kernel
theorem dX8_init_12 : decode cX8_init 12 = .ok (.putfield 12, 3) := by decide +kernel
theorem dX8_init_15 : decode cX8_init 15 = .ok (.aload_n 0, 1) := by decide +kernel
theorem dX8_init_16 : decode cX8_init 16 = .ok (.new 18, 3) := by decide +kernel
theorem dX8_init_19 : decode cX8_init 19 = .ok (.dup, 1) := by decide +kernel
theorem dX8_init_20 : decode cX8_init 20 = .ok (.invokespecial 20, 3) := by decide +kernel
theorem dX8_init_23 : decode cX8_init 23 = .ok (.putfield 21, 3) := by decide +kernel
theorem dX8_init_26 : decode cX8_init 26 = .ok (.aload_n 0, 1) := by decide +kernel
theorem dX8_init_27 : decode cX8_init 27 = .ok (.new 25, 3) := by decide +kernel
theorem dX8_init_30 : decode cX8_init 30 = .ok (.dup, 1) := by decide +kernel
theorem dX8_init_31 : decode cX8_init 31 = .ok (.invokespecial 27, 3) := by decide +kernel
theorem dX8_init_34 : decode cX8_init 34 = .ok (.putfield 28, 3) := by decide +kernel
theorem dX8_init_37 : decode cX8_init 37 = .ok (.return_, 1) := by decide +kernel
set_option maxRecDepth 20000 in
theorem ggX8_draftIn_X1_reckon : GoodIn wsX8_draftIn wsX1_reckon := goodIn_r _ [9, 10, 11, 12, 13, 14, 15, 16, 17, 18, 8, 19, 20, 21, 22, 23, 24, 25, 26, 27, 28, 29, 30, 31, 32, 33, 34, 35, 36, 37, 38, 39, 40, 41, 42, 43, 44, 45, 46, 47, 48, 49, 50, 51, 52, 53, 54, 55, 56, 57, 58, 59, 60, 61, 62, 63, 64, 65, 66, 67, 68, 69, 70, 71, 100, 101, 102, 103, 104, 105, 106, 107, 108, 109, 110, 111] (by decide +kernel) (by decide +kernel)
set_option maxRecDepth 20000 in
theorem gX8_draftIn_X1_reckon : GoodIn wsX8_draftIn (wsV RX8 32 RX1 yX1_reckon wsX1_reckon) := goodIn_app (goodIn_of _ (by decide +kernel)) ggX8_draftIn_X1_reckon
set_option maxRecDepth 20000 in
theorem ggX8_draftIn_X9_run : GoodIn wsX8_draftIn wsX9_run := goodIn_r _ [76, 77, 78, 79, 80, 81, 82, 83, 84, 85, 86, 75, 87, 88, 89, 29, 30, 31, 90, 51, 52, 91, 23, 24, 25, 26, 27, 28, 92, 55, 56, 57, 58, 96, 97, 98, 99, 104, 105, 106, 107, 108, 109, 110, 111, 100, 101, 102, 103] (by decide +kernel) (by decide +kernel)
set_option maxRecDepth 20000 in
theorem gX8_draftIn_X9_run : GoodIn wsX8_draftIn (wsV RX8 36 RX9 yX9_run wsX9_run) := goodIn_app (goodIn_of _ (by decide +kernel)) ggX8_draftIn_X9_run
theorem dX8_draftIn_0 : decode cX8_draftIn 0 = .ok (.aload_n 0, 1) := by decide +kernel
theorem dX8_draftIn_1 : decode cX8_draftIn 1 = .ok (.getfield 21, 3) := by decide +kernel
theorem dX8_draftIn_4 : decode cX8_draftIn 4 = .ok (.aload_n 0, 1) := by decide +kernel
theorem dX8_draftIn_5 : decode cX8_draftIn 5 = .ok (.getfield 12, 3) := by decide +kernel
theorem dX8_draftIn_8 : decode cX8_draftIn 8 = .ok (.invokevirtual 32, 3) := by decide +kernel
theorem dX8_draftIn_11 : decode cX8_draftIn 11 = .ok (.aload_n 0, 1) := by decide +kernel
theorem dX8_draftIn_12 : decode cX8_draftIn 12 = .ok (.getfield 28, 3) := by decide +kernel
theorem dX8_draftIn_15 : decode cX8_draftIn 15 = .ok (.aload_n 0, 1) := by decide +kernel
theorem dX8_draftIn_16 : decode cX8_draftIn 16 = .ok (.getfield 12, 3) := by decide +kernel
theorem dX8_draftIn_19 : decode cX8_draftIn 19 = .ok (.aload_n 0, 1) := by decide +kernel
theorem dX8_draftIn_20 : decode cX8_draftIn 20 = .ok (.getfield 21, 3) := by decide +kernel
theorem dX8_draftIn_23 : decode cX8_draftIn 23 = .ok (.invokevirtual 36, 3) := by decide +kernel
theorem dX8_draftIn_26 : decode cX8_draftIn 26 = .ok (.aload_n 0, 1) := by decide +kernel
theorem dX8_draftIn_27 : decode cX8_draftIn 27 = .ok (.getfield 28, 3) := by decide +kernel
theorem dX8_draftIn_30 : decode cX8_draftIn 30 = .ok (.getfield 40, 3) := by decide +kernel
theorem dX8_draftIn_33 : decode cX8_draftIn 33 = .ok (.ireturn, 1) := by decide +kernel
set_option maxRecDepth 20000 in
theorem ggX8_draftStable_X1_reckon : GoodIn wsX8_draftStable wsX1_reckon := goodIn_r _ [9, 10, 11, 12, 13, 14, 15, 16, 17, 18, 8, 19, 20, 21, 22, 23, 24, 25, 26, 27, 28, 29, 30, 31, 32, 33, 34, 35, 36, 37, 38, 39, 40, 41, 42, 43, 44, 45, 46, 47, 48, 49, 50, 51, 52, 53, 54, 55, 56, 57, 58, 59, 60, 61, 62, 63, 64, 65, 66, 67, 68, 69, 70, 71, 91, 92, 93, 94, 83, 84, 85, 86, 87, 88, 89, 90] (by decide +kernel) (by decide +kernel)
set_option maxRecDepth 20000 in
theorem gX8_draftStable_X1_reckon : GoodIn wsX8_draftStable (wsV RX8 32 RX1 yX1_reckon wsX1_reckon) := goodIn_app (goodIn_of _ (by decide +kernel)) ggX8_draftStable_X1_reckon
set_option maxRecDepth 20000 in
theorem ggX8_draftStable_X7_stableSets : GoodIn wsX8_draftStable wsX7_stableSets := goodIn_r _ [75, 76, 77, 74, 78, 79, 67, 30, 68, 50, 51, 52, 53, 29, 31] (by decide +kernel) (by decide +kernel)
set_option maxRecDepth 20000 in
theorem gX8_draftStable_X7_stableSets : GoodIn wsX8_draftStable (va_wsS RX8 51 yX7_stableSets wsX7_stableSets) := goodIn_app (goodIn_of _ (by decide +kernel)) ggX8_draftStable_X7_stableSets
theorem dX8_draftStable_0 : decode cX8_draftStable 0 = .ok (.aload_n 0, 1) := by decide +kernel
theorem dX8_draftStable_1 : decode cX8_draftStable 1 = .ok (.getfield 21, 3) := by decide +kernel
theorem dX8_draftStable_4 : decode cX8_draftStable 4 = .ok (.aload_n 0, 1) := by decide +kernel
theorem dX8_draftStable_5 : decode cX8_draftStable 5 = .ok (.getfield 12, 3) := by decide +kernel
theorem dX8_draftStable_8 : decode cX8_draftStable 8 = .ok (.invokevirtual 32, 3) := by decide +kernel
theorem dX8_draftStable_11 : decode cX8_draftStable 11 = .ok (.aload_n 0, 1) := by decide +kernel
theorem dX8_draftStable_12 : decode cX8_draftStable 12 = .ok (.getfield 12, 3) := by decide +kernel
theorem dX8_draftStable_15 : decode cX8_draftStable 15 = .ok (.getfield 44, 3) := by decide +kernel
theorem dX8_draftStable_18 : decode cX8_draftStable 18 = .ok (.aload_n 0, 1) := by decide +kernel
theorem dX8_draftStable_19 : decode cX8_draftStable 19 = .ok (.getfield 21, 3) := by decide +kernel
theorem dX8_draftStable_22 : decode cX8_draftStable 22 = .ok (.getfield 47, 3) := by decide +kernel
theorem dX8_draftStable_25 : decode cX8_draftStable 25 = .ok (.invokestatic 51, 3) := by decide +kernel
theorem dX8_draftStable_28 : decode cX8_draftStable 28 = .ok (.ireturn, 1) := by decide +kernel
set_option maxRecDepth 20000 in
theorem ggX8_changesFor_X3_take : GoodIn wsX8_changesFor wsX3_take := goodIn_r _ [7, 8, 9, 10, 11, 12, 13, 14, 15, 127, 128, 129, 130, 131, 132, 133, 134] (by decide +kernel) (by decide +kernel)
set_option maxRecDepth 20000 in
theorem gX8_changesFor_X3_take : GoodIn wsX8_changesFor (wsV RX8 57 RX3 yX3_take wsX3_take) := goodIn_app (goodIn_of _ (by decide +kernel)) ggX8_changesFor_X3_take
set_option maxRecDepth 20000 in
theorem ggX8_changesFor_X8_draftIn : GoodIn wsX8_changesFor wsX8_draftIn := goodIn_r _ [20, 21, 1, 22, 23, 24, 25, 26, 27, 28, 29, 30, 31, 32, 33, 34, 35, 36, 37, 38, 39, 40, 41, 42, 43, 6, 44, 12, 45, 46, 47, 48, 49, 50, 51, 52, 11, 53, 54, 55, 56, 57, 58, 59, 60, 61, 62, 63, 64, 65, 66, 67, 68, 69, 70, 71, 72, 73, 74, 75, 76, 77, 78, 79, 80, 81, 82, 83, 84, 85, 86, 87, 88, 89, 90, 91, 92, 93, 94, 95, 96, 97, 98, 99, 100, 101, 102, 103, 104, 105, 106, 107, 108, 124, 125, 126, 135, 136, 137, 138, 139, 140, 141, 142, 127, 128, 129, 130, 131, 132, 133, 134] (by decide +kernel) (by decide +kernel)
set_option maxRecDepth 20000 in
theorem gX8_changesFor_X8_draftIn : GoodIn wsX8_changesFor (wsV RX8 60 RX8 yX8_draftIn wsX8_draftIn) := goodIn_app (goodIn_of _ (by decide +kernel)) ggX8_changesFor_X8_draftIn
set_option maxRecDepth 20000 in
theorem ggX8_changesFor_X0_contains : GoodIn wsX8_changesFor wsX0_contains := goodIn_r _ [68] (by decide +kernel) (by decide +kernel)
set_option maxRecDepth 20000 in
theorem gX8_changesFor_X0_contains : GoodIn wsX8_changesFor (va_wsS RX8 64 yX0_contains wsX0_contains) := goodIn_app (goodIn_of _ (by decide +kernel)) ggX8_changesFor_X0_contains
set_option maxRecDepth 20000 in
theorem ggX8_changesFor_X3_hears : GoodIn wsX8_changesFor wsX3_hears := goodIn_r _ [113, 9, 114, 115, 116, 6, 117, 8, 118, 67, 47, 68, 127, 128, 129, 130, 131, 132, 133, 134] (by decide +kernel) (by decide +kernel)
set_option maxRecDepth 20000 in
theorem gX8_changesFor_X3_hears : GoodIn wsX8_changesFor (wsV RX8 73 RX3 yX3_hears wsX3_hears) := goodIn_app (goodIn_of _ (by decide +kernel)) ggX8_changesFor_X3_hears
set_option maxRecDepth 20000 in
theorem ggX8_changesFor_X3_flipAttack : GoodIn wsX8_changesFor wsX3_flipAttack := goodIn_r _ [122, 14, 123, 60, 47, 61, 127, 128, 129, 130, 131, 132, 133, 134] (by decide +kernel) (by decide +kernel)
set_option maxRecDepth 20000 in
theorem gX8_changesFor_X3_flipAttack : GoodIn wsX8_changesFor (wsV RX8 77 RX3 yX3_flipAttack wsX3_flipAttack) := goodIn_app (goodIn_of _ (by decide +kernel)) ggX8_changesFor_X3_flipAttack
theorem dX8_changesFor_0 : decode cX8_changesFor 0 = .ok (.aload_n 0, 1) := by decide +kernel
theorem dX8_changesFor_1 : decode cX8_changesFor 1 = .ok (.getfield 12, 3) := by decide +kernel
theorem dX8_changesFor_4 : decode cX8_changesFor 4 = .ok (.aload_n 1, 1) := by decide +kernel
theorem dX8_changesFor_5 : decode cX8_changesFor 5 = .ok (.invokevirtual 57, 3) := by decide +kernel
theorem dX8_changesFor_8 : decode cX8_changesFor 8 = .ok (.aload_n 0, 1) := by decide +kernel
theorem dX8_changesFor_9 : decode cX8_changesFor 9 = .ok (.invokevirtual 60, 3) := by decide +kernel
theorem dX8_changesFor_12 : decode cX8_changesFor 12 = .ok (.iload_n 2, 1) := by decide +kernel
theorem dX8_changesFor_13 : decode cX8_changesFor 13 = .ok (.invokestatic 64, 3) := by decide +kernel
theorem dX8_changesFor_16 : decode cX8_changesFor 16 = .ok (.istore 4, 2) := by decide +kernel
theorem dX8_changesFor_18 : decode cX8_changesFor 18 = .ok (.iconst 0, 1) := by decide +kernel
theorem dX8_changesFor_19 : decode cX8_changesFor 19 = .ok (.istore 5, 2) := by decide +kernel
theorem dX8_changesFor_21 : decode cX8_changesFor 21 = .ok (.iconst 0, 1) := by decide +kernel
theorem dX8_changesFor_22 : decode cX8_changesFor 22 = .ok (.istore 6, 2) := by decide +kernel
theorem dX8_changesFor_24 : decode cX8_changesFor 24 = .ok (.iload 6, 2) := by decide +kernel
theorem dX8_changesFor_26 : decode cX8_changesFor 26 = .ok (.aload_n 1, 1) := by decide +kernel
theorem dX8_changesFor_27 : decode cX8_changesFor 27 = .ok (.getfield 70, 3) := by decide +kernel
theorem dX8_changesFor_30 : decode cX8_changesFor 30 = .ok (.if_icmp .ge 121, 3) := by decide +kernel
theorem dX8_changesFor_33 : decode cX8_changesFor 33 = .ok (.iconst 0, 1) := by decide +kernel
theorem dX8_changesFor_34 : decode cX8_changesFor 34 = .ok (.istore 7, 2) := by decide +kernel
theorem dX8_changesFor_36 : decode cX8_changesFor 36 = .ok (.iload 7, 2) := by decide +kernel
theorem dX8_changesFor_38 : decode cX8_changesFor 38 = .ok (.aload_n 1, 1) := by decide +kernel
theorem dX8_changesFor_39 : decode cX8_changesFor 39 = .ok (.getfield 70, 3) := by decide +kernel
theorem dX8_changesFor_42 : decode cX8_changesFor 42 = .ok (.if_icmp .ge 103, 3) := by decide +kernel
theorem dX8_changesFor_45 : decode cX8_changesFor 45 = .ok (.iload 6, 2) := by decide +kernel
theorem dX8_changesFor_47 : decode cX8_changesFor 47 = .ok (.iload 7, 2) := by decide +kernel
theorem dX8_changesFor_49 : decode cX8_changesFor 49 = .ok (.if_icmp .eq 90, 3) := by decide +kernel
theorem dX8_changesFor_52 : decode cX8_changesFor 52 = .ok (.aload_n 1, 1) := by decide +kernel
theorem dX8_changesFor_53 : decode cX8_changesFor 53 = .ok (.iload 6, 2) := by decide +kernel
theorem dX8_changesFor_55 : decode cX8_changesFor 55 = .ok (.invokevirtual 73, 3) := by decide +kernel
theorem dX8_changesFor_58 : decode cX8_changesFor 58 = .ok (.ifCond .eq 81, 3) := by decide +kernel
theorem dX8_changesFor_61 : decode cX8_changesFor 61 = .ok (.aload_n 1, 1) := by decide +kernel
theorem dX8_changesFor_62 : decode cX8_changesFor 62 = .ok (.iload 7, 2) := by decide +kernel
theorem dX8_changesFor_64 : decode cX8_changesFor 64 = .ok (.invokevirtual 73, 3) := by decide +kernel
theorem dX8_changesFor_67 : decode cX8_changesFor 67 = .ok (.ifCond .eq 72, 3) := by decide +kernel
theorem dX8_changesFor_70 : decode cX8_changesFor 70 = .ok (.aload_n 0, 1) := by decide +kernel
theorem dX8_changesFor_71 : decode cX8_changesFor 71 = .ok (.getfield 12, 3) := by decide +kernel
theorem dX8_changesFor_74 : decode cX8_changesFor 74 = .ok (.iload 6, 2) := by decide +kernel
theorem dX8_changesFor_76 : decode cX8_changesFor 76 = .ok (.iload 7, 2) := by decide +kernel
theorem dX8_changesFor_78 : decode cX8_changesFor 78 = .ok (.invokevirtual 77, 3) := by decide +kernel
theorem dX8_changesFor_81 : decode cX8_changesFor 81 = .ok (.aload_n 0, 1) := by decide +kernel
theorem dX8_changesFor_82 : decode cX8_changesFor 82 = .ok (.invokevirtual 60, 3) := by decide +kernel
theorem dX8_changesFor_85 : decode cX8_changesFor 85 = .ok (.iload_n 2, 1) := by decide +kernel
theorem dX8_changesFor_86 : decode cX8_changesFor 86 = .ok (.invokestatic 64, 3) := by decide +kernel
theorem dX8_changesFor_89 : decode cX8_changesFor 89 = .ok (.istore 8, 2) := by decide +kernel
theorem dX8_changesFor_91 : decode cX8_changesFor 91 = .ok (.aload_n 0, 1) := by decide +kernel
theorem dX8_changesFor_92 : decode cX8_changesFor 92 = .ok (.getfield 12, 3) := by decide +kernel
theorem dX8_changesFor_95 : decode cX8_changesFor 95 = .ok (.iload 6, 2) := by decide +kernel
theorem dX8_changesFor_97 : decode cX8_changesFor 97 = .ok (.iload 7, 2) := by decide +kernel
theorem dX8_changesFor_99 : decode cX8_changesFor 99 = .ok (.invokevirtual 77, 3) := by decide +kernel
theorem dX8_changesFor_102 : decode cX8_changesFor 102 = .ok (.iload 8, 2) := by decide +kernel
theorem dX8_changesFor_104 : decode cX8_changesFor 104 = .ok (.iload 4, 2) := by decide +kernel
theorem dX8_changesFor_106 : decode cX8_changesFor 106 = .ok (.if_icmp .eq 16, 3) := by decide +kernel
theorem dX8_changesFor_109 : decode cX8_changesFor 109 = .ok (.iload_n 3, 1) := by decide +kernel
theorem dX8_changesFor_110 : decode cX8_changesFor 110 = .ok (.ifCond .eq 12, 3) := by decide +kernel
theorem dX8_changesFor_113 : decode cX8_changesFor 113 = .ok (.bipush 10, 2) := by decide +kernel
theorem dX8_changesFor_115 : decode cX8_changesFor 115 = .ok (.iload 6, 2) := by decide +kernel
theorem dX8_changesFor_117 : decode cX8_changesFor 117 = .ok (.imul, 1) := by decide +kernel
theorem dX8_changesFor_118 : decode cX8_changesFor 118 = .ok (.iload 7, 2) := by decide +kernel
theorem dX8_changesFor_120 : decode cX8_changesFor 120 = .ok (.iadd, 1) := by decide +kernel
theorem dX8_changesFor_121 : decode cX8_changesFor 121 = .ok (.ireturn, 1) := by decide +kernel
theorem dX8_changesFor_122 : decode cX8_changesFor 122 = .ok (.iload 5, 2) := by decide +kernel
theorem dX8_changesFor_124 : decode cX8_changesFor 124 = .ok (.iload 8, 2) := by decide +kernel
theorem dX8_changesFor_126 : decode cX8_changesFor 126 = .ok (.iload 4, 2) := by decide +kernel
theorem dX8_changesFor_128 : decode cX8_changesFor 128 = .ok (.if_icmp .eq 7, 3) := by decide +kernel
theorem dX8_changesFor_131 : decode cX8_changesFor 131 = .ok (.iconst 1, 1) := by decide +kernel
theorem dX8_changesFor_132 : decode cX8_changesFor 132 = .ok (.goto 4, 3) := by decide +kernel
theorem dX8_changesFor_135 : decode cX8_changesFor 135 = .ok (.iconst 0, 1) := by decide +kernel
theorem dX8_changesFor_136 : decode cX8_changesFor 136 = .ok (.iadd, 1) := by decide +kernel
theorem dX8_changesFor_137 : decode cX8_changesFor 137 = .ok (.istore 5, 2) := by decide +kernel
theorem dX8_changesFor_139 : decode cX8_changesFor 139 = .ok (.iinc 7 1, 3) := by decide +kernel
theorem dX8_changesFor_142 : decode cX8_changesFor 142 = .ok (.goto (-106), 3) := by decide +kernel
theorem dX8_changesFor_145 : decode cX8_changesFor 145 = .ok (.iinc 6 1, 3) := by decide +kernel
theorem dX8_changesFor_148 : decode cX8_changesFor 148 = .ok (.goto (-124), 3) := by decide +kernel
theorem dX8_changesFor_151 : decode cX8_changesFor 151 = .ok (.iload_n 3, 1) := by decide +kernel
theorem dX8_changesFor_152 : decode cX8_changesFor 152 = .ok (.ifCond .eq 8, 3) := by decide +kernel
theorem dX8_changesFor_155 : decode cX8_changesFor 155 = .ok (.bipush (-9), 2) := by decide +kernel
theorem dX8_changesFor_157 : decode cX8_changesFor 157 = .ok (.goto 5, 3) := by decide +kernel
theorem dX8_changesFor_160 : decode cX8_changesFor 160 = .ok (.iload 5, 2) := by decide +kernel
theorem dX8_changesFor_162 : decode cX8_changesFor 162 = .ok (.ireturn, 1) := by decide +kernel
set_option maxRecDepth 20000 in
theorem ggX8_draftWithout_X3_take : GoodIn wsX8_draftWithout wsX3_take := goodIn_r _ [7, 8, 9, 10, 11, 12, 13, 14, 15, 19, 20, 21, 22, 23, 24, 25, 26] (by decide +kernel) (by decide +kernel)
set_option maxRecDepth 20000 in
theorem gX8_draftWithout_X3_take : GoodIn wsX8_draftWithout (wsV RX8 57 RX3 yX3_take wsX3_take) := goodIn_app (goodIn_of _ (by decide +kernel)) ggX8_draftWithout_X3_take
theorem dX8_draftWithout_0 : decode cX8_draftWithout 0 = .ok (.aload_n 0, 1) := by decide +kernel
theorem dX8_draftWithout_1 : decode cX8_draftWithout 1 = .ok (.getfield 12, 3) := by decide +kernel
theorem dX8_draftWithout_4 : decode cX8_draftWithout 4 = .ok (.aload_n 1, 1) := by decide +kernel
theorem dX8_draftWithout_5 : decode cX8_draftWithout 5 = .ok (.invokevirtual 57, 3) := by decide +kernel
theorem dX8_draftWithout_8 : decode cX8_draftWithout 8 = .ok (.aload_n 0, 1) := by decide +kernel
theorem dX8_draftWithout_9 : decode cX8_draftWithout 9 = .ok (.getfield 12, 3) := by decide +kernel
theorem dX8_draftWithout_12 : decode cX8_draftWithout 12 = .ok (.aload_n 1, 1) := by decide +kernel
theorem dX8_draftWithout_13 : decode cX8_draftWithout 13 = .ok (.getfield 44, 3) := by decide +kernel
theorem dX8_draftWithout_16 : decode cX8_draftWithout 16 = .ok (.iload_n 2, 1) := by decide +kernel
theorem dX8_draftWithout_17 : decode cX8_draftWithout 17 = .ok (.iconst (-1), 1) := by decide +kernel
theorem dX8_draftWithout_18 : decode cX8_draftWithout 18 = .ok (.ixor, 1) := by decide +kernel
theorem dX8_draftWithout_19 : decode cX8_draftWithout 19 = .ok (.iand, 1) := by decide +kernel
theorem dX8_draftWithout_20 : decode cX8_draftWithout 20 = .ok (.putfield 44, 3) := by decide +kernel
theorem dX8_draftWithout_23 : decode cX8_draftWithout 23 = .ok (.return_, 1) := by decide +kernel
set_option maxRecDepth 20000 in
theorem ggX8_inWithout_X8_draftWithout : GoodIn wsX8_inWithout wsX8_draftWithout := goodIn_r _ [5, 6, 7, 8, 9, 10, 11, 12, 13, 14, 15, 16, 17, 18, 19, 20, 120, 121, 122, 123, 124, 125, 126, 127, 128, 129, 130] (by decide +kernel) (by decide +kernel)
set_option maxRecDepth 20000 in
theorem gX8_inWithout_X8_draftWithout : GoodIn wsX8_inWithout (wsV RX8 81 RX8 yX8_draftWithout wsX8_draftWithout) := goodIn_app (goodIn_of _ (by decide +kernel)) ggX8_inWithout_X8_draftWithout
set_option maxRecDepth 20000 in
theorem ggX8_inWithout_X8_draftIn : GoodIn wsX8_inWithout wsX8_draftIn := goodIn_r _ [24, 25, 6, 26, 27, 28, 29, 30, 31, 32, 33, 34, 35, 36, 37, 38, 39, 40, 41, 42, 43, 44, 45, 46, 47, 11, 48, 17, 49, 50, 51, 52, 53, 54, 55, 56, 16, 57, 58, 59, 60, 61, 62, 63, 64, 65, 66, 67, 68, 69, 70, 71, 72, 73, 74, 75, 76, 77, 78, 79, 80, 81, 82, 83, 84, 85, 86, 87, 88, 89, 90, 91, 92, 93, 94, 95, 96, 97, 98, 99, 100, 101, 102, 103, 104, 105, 106, 107, 108, 109, 110, 111, 112, 120, 121, 122, 131, 132, 133, 134, 135, 136, 137, 138, 123, 124, 125, 126, 127, 128, 129, 130] (by decide +kernel) (by decide +kernel)
set_option maxRecDepth 20000 in
theorem gX8_inWithout_X8_draftIn : GoodIn wsX8_inWithout (wsV RX8 60 RX8 yX8_draftIn wsX8_draftIn) := goodIn_app (goodIn_of _ (by decide +kernel)) ggX8_inWithout_X8_draftIn
set_option maxRecDepth 20000 in
theorem ggX8_inWithout_J6_bitCount_0f7a4 : GoodIn wsX8_inWithout wsJ6_bitCount_0f7a4 := goodIn_r _ [116, 117, 118, 119] (by decide +kernel) (by decide +kernel)
set_option maxRecDepth 20000 in
theorem gX8_inWithout_J6_bitCount_0f7a4 : GoodIn wsX8_inWithout (va_wsS RX8 85 yJ6_bitCount_0f7a4 wsJ6_bitCount_0f7a4) := goodIn_app (goodIn_of _ (by decide +kernel)) ggX8_inWithout_J6_bitCount_0f7a4
theorem dX8_inWithout_0 : decode cX8_inWithout 0 = .ok (.aload_n 0, 1) := by decide +kernel
theorem dX8_inWithout_1 : decode cX8_inWithout 1 = .ok (.aload_n 1, 1) := by decide +kernel
theorem dX8_inWithout_2 : decode cX8_inWithout 2 = .ok (.iload_n 2, 1) := by decide +kernel
theorem dX8_inWithout_3 : decode cX8_inWithout 3 = .ok (.invokevirtual 81, 3) := by decide +kernel
theorem dX8_inWithout_6 : decode cX8_inWithout 6 = .ok (.aload_n 0, 1) := by decide +kernel
theorem dX8_inWithout_7 : decode cX8_inWithout 7 = .ok (.invokevirtual 60, 3) := by decide +kernel
theorem dX8_inWithout_10 : decode cX8_inWithout 10 = .ok (.invokestatic 85, 3) := by decide +kernel
theorem dX8_inWithout_13 : decode cX8_inWithout 13 = .ok (.ireturn, 1) := by decide +kernel
set_option maxRecDepth 20000 in
theorem ggX8_spared_J6_bitCount_0f7a4 : GoodIn wsX8_spared wsJ6_bitCount_0f7a4 := goodIn_r _ [5, 6, 7, 8] (by decide +kernel) (by decide +kernel)
set_option maxRecDepth 20000 in
theorem gX8_spared_J6_bitCount_0f7a4 : GoodIn wsX8_spared (va_wsS RX8 85 yJ6_bitCount_0f7a4 wsJ6_bitCount_0f7a4) := goodIn_app (goodIn_of _ (by decide +kernel)) ggX8_spared_J6_bitCount_0f7a4
set_option maxRecDepth 20000 in
theorem ggX8_spared_X8_draftWithout : GoodIn wsX8_spared wsX8_draftWithout := goodIn_r _ [13, 14, 1, 15, 16, 17, 18, 19, 20, 21, 22, 23, 24, 25, 26, 27, 114, 115, 116, 106, 107, 108, 109, 110, 111, 112, 113] (by decide +kernel) (by decide +kernel)
set_option maxRecDepth 20000 in
theorem gX8_spared_X8_draftWithout : GoodIn wsX8_spared (wsV RX8 81 RX8 yX8_draftWithout wsX8_draftWithout) := goodIn_app (goodIn_of _ (by decide +kernel)) ggX8_spared_X8_draftWithout
set_option maxRecDepth 20000 in
theorem ggX8_spared_X8_draftStable : GoodIn wsX8_spared wsX8_draftStable := goodIn_r _ [31, 32, 14, 1, 33, 34, 35, 36, 37, 38, 39, 40, 41, 42, 43, 44, 45, 46, 47, 48, 49, 50, 51, 52, 53, 18, 54, 24, 55, 56, 57, 58, 59, 60, 61, 62, 23, 63, 64, 65, 66, 67, 68, 69, 70, 71, 72, 73, 74, 75, 76, 77, 78, 79, 80, 81, 82, 83, 84, 85, 86, 87, 88, 89, 90, 91, 92, 93, 94, 95, 96, 97, 98, 99, 100, 101, 102, 103, 104, 105, 114, 115, 116, 106, 107, 108, 109, 110, 111, 112, 113, 117, 118, 119, 120] (by decide +kernel) (by decide +kernel)
set_option maxRecDepth 20000 in
theorem gX8_spared_X8_draftStable : GoodIn wsX8_spared (wsV RX8 91 RX8 yX8_draftStable wsX8_draftStable) := goodIn_app (goodIn_of _ (by decide +kernel)) ggX8_spared_X8_draftStable
theorem dX8_spared_0 : decode cX8_spared 0 = .ok (.iconst 0, 1) := by decide +kernel
theorem dX8_spared_1 : decode cX8_spared 1 = .ok (.istore_n 2, 1) := by decide +kernel
theorem dX8_spared_2 : decode cX8_spared 2 = .ok (.iload_n 2, 1) := by decide +kernel
theorem dX8_spared_3 : decode cX8_spared 3 = .ok (.bipush 8, 2) := by decide +kernel
theorem dX8_spared_5 : decode cX8_spared 5 = .ok (.if_icmp .gt 58, 3) := by decide +kernel
theorem dX8_spared_8 : decode cX8_spared 8 = .ok (.iconst 0, 1) := by decide +kernel
theorem dX8_spared_9 : decode cX8_spared 9 = .ok (.istore_n 3, 1) := by decide +kernel
theorem dX8_spared_10 : decode cX8_spared 10 = .ok (.iload_n 3, 1) := by decide +kernel
theorem dX8_spared_11 : decode cX8_spared 11 = .ok (.sipush 256, 3) := by decide +kernel
theorem dX8_spared_14 : decode cX8_spared 14 = .ok (.if_icmp .ge 43, 3) := by decide +kernel
theorem dX8_spared_17 : decode cX8_spared 17 = .ok (.iload_n 3, 1) := by decide +kernel
theorem dX8_spared_18 : decode cX8_spared 18 = .ok (.invokestatic 85, 3) := by decide +kernel
theorem dX8_spared_21 : decode cX8_spared 21 = .ok (.iload_n 2, 1) := by decide +kernel
theorem dX8_spared_22 : decode cX8_spared 22 = .ok (.if_icmp .ne 29, 3) := by decide +kernel
theorem dX8_spared_25 : decode cX8_spared 25 = .ok (.iload_n 3, 1) := by decide +kernel
theorem dX8_spared_26 : decode cX8_spared 26 = .ok (.aload_n 1, 1) := by decide +kernel
theorem dX8_spared_27 : decode cX8_spared 27 = .ok (.getfield 44, 3) := by decide +kernel
theorem dX8_spared_30 : decode cX8_spared 30 = .ok (.iconst (-1), 1) := by decide +kernel
theorem dX8_spared_31 : decode cX8_spared 31 = .ok (.ixor, 1) := by decide +kernel
theorem dX8_spared_32 : decode cX8_spared 32 = .ok (.iand, 1) := by decide +kernel
theorem dX8_spared_33 : decode cX8_spared 33 = .ok (.ifCond .ne 18, 3) := by decide +kernel
theorem dX8_spared_36 : decode cX8_spared 36 = .ok (.aload_n 0, 1) := by decide +kernel
theorem dX8_spared_37 : decode cX8_spared 37 = .ok (.aload_n 1, 1) := by decide +kernel
theorem dX8_spared_38 : decode cX8_spared 38 = .ok (.iload_n 3, 1) := by decide +kernel
theorem dX8_spared_39 : decode cX8_spared 39 = .ok (.invokevirtual 81, 3) := by decide +kernel
theorem dX8_spared_42 : decode cX8_spared 42 = .ok (.aload_n 0, 1) := by decide +kernel
theorem dX8_spared_43 : decode cX8_spared 43 = .ok (.invokevirtual 91, 3) := by decide +kernel
theorem dX8_spared_46 : decode cX8_spared 46 = .ok (.ifCond .le 5, 3) := by decide +kernel
theorem dX8_spared_49 : decode cX8_spared 49 = .ok (.iload_n 3, 1) := by decide +kernel
theorem dX8_spared_50 : decode cX8_spared 50 = .ok (.ireturn, 1) := by decide +kernel
theorem dX8_spared_51 : decode cX8_spared 51 = .ok (.iinc 3 1, 3) := by decide +kernel
theorem dX8_spared_54 : decode cX8_spared 54 = .ok (.goto (-44), 3) := by decide +kernel
theorem dX8_spared_57 : decode cX8_spared 57 = .ok (.iinc 2 1, 3) := by decide +kernel
theorem dX8_spared_60 : decode cX8_spared 60 = .ok (.goto (-58), 3) := by decide +kernel
theorem dX8_spared_63 : decode cX8_spared 63 = .ok (.aload_n 1, 1) := by decide +kernel
theorem dX8_spared_64 : decode cX8_spared 64 = .ok (.getfield 44, 3) := by decide +kernel
theorem dX8_spared_67 : decode cX8_spared 67 = .ok (.ireturn, 1) := by decide +kernel
set_option maxRecDepth 20000 in
theorem ggX8_allOdds_J6_bitCount_0f7a4 : GoodIn wsX8_allOdds wsJ6_bitCount_0f7a4 := goodIn_r _ [5, 6, 7, 8] (by decide +kernel) (by decide +kernel)
set_option maxRecDepth 20000 in
theorem gX8_allOdds_J6_bitCount_0f7a4 : GoodIn wsX8_allOdds (va_wsS RX8 85 yJ6_bitCount_0f7a4 wsJ6_bitCount_0f7a4) := goodIn_app (goodIn_of _ (by decide +kernel)) ggX8_allOdds_J6_bitCount_0f7a4
set_option maxRecDepth 20000 in
theorem ggX8_allOdds_X8_power : GoodIn wsX8_allOdds wsX8_power := goodIn_r _ [12] (by decide +kernel) (by decide +kernel)
set_option maxRecDepth 20000 in
theorem gX8_allOdds_X8_power : GoodIn wsX8_allOdds (va_wsS RX8 94 yX8_power wsX8_power) := goodIn_app (goodIn_of _ (by decide +kernel)) ggX8_allOdds_X8_power
theorem dX8_allOdds_0 : decode cX8_allOdds 0 = .ok (.iload_n 2, 1) := by decide +kernel
theorem dX8_allOdds_1 : decode cX8_allOdds 1 = .ok (.aload_n 1, 1) := by decide +kernel
theorem dX8_allOdds_2 : decode cX8_allOdds 2 = .ok (.getfield 44, 3) := by decide +kernel
theorem dX8_allOdds_5 : decode cX8_allOdds 5 = .ok (.bipush 31, 2) := by decide +kernel
theorem dX8_allOdds_7 : decode cX8_allOdds 7 = .ok (.iand, 1) := by decide +kernel
theorem dX8_allOdds_8 : decode cX8_allOdds 8 = .ok (.invokestatic 85, 3) := by decide +kernel
theorem dX8_allOdds_11 : decode cX8_allOdds 11 = .ok (.invokestatic 94, 3) := by decide +kernel
theorem dX8_allOdds_14 : decode cX8_allOdds 14 = .ok (.lreturn, 1) := by decide +kernel
set_option maxRecDepth 20000 in
theorem ggX8_oddsOfIn_X8_draftWithout : GoodIn wsX8_oddsOfIn wsX8_draftWithout := goodIn_r _ [6, 7, 1, 8, 9, 10, 11, 12, 13, 14, 15, 16, 17, 18, 19, 20, 132, 133, 134, 124, 125, 126, 127, 128, 129, 130, 131] (by decide +kernel) (by decide +kernel)
set_option maxRecDepth 20000 in
theorem gX8_oddsOfIn_X8_draftWithout : GoodIn wsX8_oddsOfIn (wsV RX8 81 RX8 yX8_draftWithout wsX8_draftWithout) := goodIn_app (goodIn_of _ (by decide +kernel)) ggX8_oddsOfIn_X8_draftWithout
set_option maxRecDepth 20000 in
theorem ggX8_oddsOfIn_X8_draftIn : GoodIn wsX8_oddsOfIn wsX8_draftIn := goodIn_r _ [24, 25, 7, 26, 27, 28, 29, 30, 31, 32, 33, 34, 35, 36, 37, 38, 39, 40, 41, 42, 43, 44, 45, 46, 47, 11, 48, 17, 49, 50, 51, 52, 53, 54, 55, 56, 16, 57, 58, 59, 60, 61, 62, 63, 64, 65, 66, 67, 68, 69, 70, 71, 72, 73, 74, 75, 76, 77, 78, 79, 80, 81, 82, 83, 84, 85, 86, 87, 88, 89, 90, 91, 92, 93, 94, 95, 96, 97, 98, 99, 100, 101, 102, 103, 104, 105, 106, 107, 108, 109, 110, 111, 112, 132, 133, 134, 135, 136, 137, 138, 139, 140, 141, 142, 124, 125, 126, 127, 128, 129, 130, 131] (by decide +kernel) (by decide +kernel)
set_option maxRecDepth 20000 in
theorem gX8_oddsOfIn_X8_draftIn : GoodIn wsX8_oddsOfIn (wsV RX8 60 RX8 yX8_draftIn wsX8_draftIn) := goodIn_app (goodIn_of _ (by decide +kernel)) ggX8_oddsOfIn_X8_draftIn
set_option maxRecDepth 20000 in
theorem ggX8_oddsOfIn_X0_contains : GoodIn wsX8_oddsOfIn wsX0_contains := goodIn_r _ [72] (by decide +kernel) (by decide +kernel)
set_option maxRecDepth 20000 in
theorem gX8_oddsOfIn_X0_contains : GoodIn wsX8_oddsOfIn (va_wsS RX8 64 yX0_contains wsX0_contains) := goodIn_app (goodIn_of _ (by decide +kernel)) ggX8_oddsOfIn_X0_contains
set_option maxRecDepth 20000 in
theorem ggX8_oddsOfIn_J6_bitCount_0f7a4 : GoodIn wsX8_oddsOfIn wsJ6_bitCount_0f7a4 := goodIn_r _ [117, 118, 119, 120] (by decide +kernel) (by decide +kernel)
set_option maxRecDepth 20000 in
theorem gX8_oddsOfIn_J6_bitCount_0f7a4 : GoodIn wsX8_oddsOfIn (va_wsS RX8 85 yJ6_bitCount_0f7a4 wsJ6_bitCount_0f7a4) := goodIn_app (goodIn_of _ (by decide +kernel)) ggX8_oddsOfIn_J6_bitCount_0f7a4
set_option maxRecDepth 20000 in
theorem ggX8_oddsOfIn_X8_power : GoodIn wsX8_oddsOfIn wsX8_power := goodIn_r _ [123] (by decide +kernel) (by decide +kernel)
set_option maxRecDepth 20000 in
theorem gX8_oddsOfIn_X8_power : GoodIn wsX8_oddsOfIn (va_wsS RX8 94 yX8_power wsX8_power) := goodIn_app (goodIn_of _ (by decide +kernel)) ggX8_oddsOfIn_X8_power
theorem dX8_oddsOfIn_0 : decode cX8_oddsOfIn 0 = .ok (.aload_n 1, 1) := by decide +kernel
theorem dX8_oddsOfIn_1 : decode cX8_oddsOfIn 1 = .ok (.getfield 44, 3) := by decide +kernel
theorem dX8_oddsOfIn_4 : decode cX8_oddsOfIn 4 = .ok (.bipush 31, 2) := by decide +kernel
theorem dX8_oddsOfIn_6 : decode cX8_oddsOfIn 6 = .ok (.iand, 1) := by decide +kernel
theorem dX8_oddsOfIn_7 : decode cX8_oddsOfIn 7 = .ok (.istore 4, 2) := by decide +kernel
theorem dX8_oddsOfIn_9 : decode cX8_oddsOfIn 9 = .ok (.lconst 0, 1) := by decide +kernel
theorem dX8_oddsOfIn_10 : decode cX8_oddsOfIn 10 = .ok (.lstore 5, 2) := by decide +kernel
theorem dX8_oddsOfIn_12 : decode cX8_oddsOfIn 12 = .ok (.iconst 0, 1) := by decide +kernel
theorem dX8_oddsOfIn_13 : decode cX8_oddsOfIn 13 = .ok (.istore 7, 2) := by decide +kernel
theorem dX8_oddsOfIn_15 : decode cX8_oddsOfIn 15 = .ok (.iload 7, 2) := by decide +kernel
theorem dX8_oddsOfIn_17 : decode cX8_oddsOfIn 17 = .ok (.bipush 31, 2) := by decide +kernel
theorem dX8_oddsOfIn_19 : decode cX8_oddsOfIn 19 = .ok (.if_icmp .gt 58, 3) := by decide +kernel
theorem dX8_oddsOfIn_22 : decode cX8_oddsOfIn 22 = .ok (.iload 7, 2) := by decide +kernel
theorem dX8_oddsOfIn_24 : decode cX8_oddsOfIn 24 = .ok (.iload 4, 2) := by decide +kernel
theorem dX8_oddsOfIn_26 : decode cX8_oddsOfIn 26 = .ok (.iconst (-1), 1) := by decide +kernel
theorem dX8_oddsOfIn_27 : decode cX8_oddsOfIn 27 = .ok (.ixor, 1) := by decide +kernel
theorem dX8_oddsOfIn_28 : decode cX8_oddsOfIn 28 = .ok (.iand, 1) := by decide +kernel
theorem dX8_oddsOfIn_29 : decode cX8_oddsOfIn 29 = .ok (.ifCond .ne 42, 3) := by decide +kernel
theorem dX8_oddsOfIn_32 : decode cX8_oddsOfIn 32 = .ok (.aload_n 0, 1) := by decide +kernel
theorem dX8_oddsOfIn_33 : decode cX8_oddsOfIn 33 = .ok (.aload_n 1, 1) := by decide +kernel
theorem dX8_oddsOfIn_34 : decode cX8_oddsOfIn 34 = .ok (.iload 7, 2) := by decide +kernel
theorem dX8_oddsOfIn_36 : decode cX8_oddsOfIn 36 = .ok (.invokevirtual 81, 3) := by decide +kernel
theorem dX8_oddsOfIn_39 : decode cX8_oddsOfIn 39 = .ok (.aload_n 0, 1) := by decide +kernel
theorem dX8_oddsOfIn_40 : decode cX8_oddsOfIn 40 = .ok (.invokevirtual 60, 3) := by decide +kernel
theorem dX8_oddsOfIn_43 : decode cX8_oddsOfIn 43 = .ok (.iload_n 2, 1) := by decide +kernel
theorem dX8_oddsOfIn_44 : decode cX8_oddsOfIn 44 = .ok (.invokestatic 64, 3) := by decide +kernel
theorem dX8_oddsOfIn_47 : decode cX8_oddsOfIn 47 = .ok (.ifCond .eq 24, 3) := by decide +kernel
theorem dX8_oddsOfIn_50 : decode cX8_oddsOfIn 50 = .ok (.lload 5, 2) := by decide +kernel
theorem dX8_oddsOfIn_52 : decode cX8_oddsOfIn 52 = .ok (.iload_n 3, 1) := by decide +kernel
theorem dX8_oddsOfIn_53 : decode cX8_oddsOfIn 53 = .ok (.iconst 1, 1) := by decide +kernel
theorem dX8_oddsOfIn_54 : decode cX8_oddsOfIn 54 = .ok (.isub, 1) := by decide +kernel
theorem dX8_oddsOfIn_55 : decode cX8_oddsOfIn 55 = .ok (.iload 4, 2) := by decide +kernel
theorem dX8_oddsOfIn_57 : decode cX8_oddsOfIn 57 = .ok (.iload 7, 2) := by decide +kernel
theorem dX8_oddsOfIn_59 : decode cX8_oddsOfIn 59 = .ok (.iconst (-1), 1) := by decide +kernel
theorem dX8_oddsOfIn_60 : decode cX8_oddsOfIn 60 = .ok (.ixor, 1) := by decide +kernel
theorem dX8_oddsOfIn_61 : decode cX8_oddsOfIn 61 = .ok (.iand, 1) := by decide +kernel
theorem dX8_oddsOfIn_62 : decode cX8_oddsOfIn 62 = .ok (.invokestatic 85, 3) := by decide +kernel
theorem dX8_oddsOfIn_65 : decode cX8_oddsOfIn 65 = .ok (.invokestatic 94, 3) := by decide +kernel
theorem dX8_oddsOfIn_68 : decode cX8_oddsOfIn 68 = .ok (.ladd, 1) := by decide +kernel
theorem dX8_oddsOfIn_69 : decode cX8_oddsOfIn 69 = .ok (.lstore 5, 2) := by decide +kernel
theorem dX8_oddsOfIn_71 : decode cX8_oddsOfIn 71 = .ok (.iinc 7 1, 3) := by decide +kernel
theorem dX8_oddsOfIn_74 : decode cX8_oddsOfIn 74 = .ok (.goto (-59), 3) := by decide +kernel
theorem dX8_oddsOfIn_77 : decode cX8_oddsOfIn 77 = .ok (.lload 5, 2) := by decide +kernel
theorem dX8_oddsOfIn_79 : decode cX8_oddsOfIn 79 = .ok (.lreturn, 1) := by decide +kernel
theorem dX8_power_0 : decode cX8_power 0 = .ok (.lconst 1, 1) := by decide +kernel
theorem dX8_power_1 : decode cX8_power 1 = .ok (.lstore_n 2, 1) := by decide +kernel
theorem dX8_power_2 : decode cX8_power 2 = .ok (.iconst 0, 1) := by decide +kernel
theorem dX8_power_3 : decode cX8_power 3 = .ok (.istore 4, 2) := by decide +kernel
theorem dX8_power_5 : decode cX8_power 5 = .ok (.iload 4, 2) := by decide +kernel
theorem dX8_power_7 : decode cX8_power 7 = .ok (.iload_n 1, 1) := by decide +kernel
theorem dX8_power_8 : decode cX8_power 8 = .ok (.if_icmp .ge 14, 3) := by decide +kernel
theorem dX8_power_11 : decode cX8_power 11 = .ok (.lload_n 2, 1) := by decide +kernel
theorem dX8_power_12 : decode cX8_power 12 = .ok (.iload_n 0, 1) := by decide +kernel
theorem dX8_power_13 : decode cX8_power 13 = .ok (.i2l, 1) := by decide +kernel
theorem dX8_power_14 : decode cX8_power 14 = .ok (.lmul, 1) := by decide +kernel
theorem dX8_power_15 : decode cX8_power 15 = .ok (.lstore_n 2, 1) := by decide +kernel
theorem dX8_power_16 : decode cX8_power 16 = .ok (.iinc 4 1, 3) := by decide +kernel
theorem dX8_power_19 : decode cX8_power 19 = .ok (.goto (-14), 3) := by decide +kernel
theorem dX8_power_22 : decode cX8_power 22 = .ok (.lload_n 2, 1) := by decide +kernel
theorem dX8_power_23 : decode cX8_power 23 = .ok (.lreturn, 1) := by decide +kernel
theorem dX8_commonDivisor_0 : decode cX8_commonDivisor 0 = .ok (.lload_n 2, 1) := by decide +kernel
theorem dX8_commonDivisor_1 : decode cX8_commonDivisor 1 = .ok (.lstore 4, 2) := by decide +kernel
theorem dX8_commonDivisor_3 : decode cX8_commonDivisor 3 = .ok (.lload_n 0, 1) := by decide +kernel
theorem dX8_commonDivisor_4 : decode cX8_commonDivisor 4 = .ok (.lstore 6, 2) := by decide +kernel
theorem dX8_commonDivisor_6 : decode cX8_commonDivisor 6 = .ok (.iconst 0, 1) := by decide +kernel
theorem dX8_commonDivisor_7 : decode cX8_commonDivisor 7 = .ok (.istore 8, 2) := by decide +kernel
theorem dX8_commonDivisor_9 : decode cX8_commonDivisor 9 = .ok (.iload 8, 2) := by decide +kernel
theorem dX8_commonDivisor_11 : decode cX8_commonDivisor 11 = .ok (.bipush 100, 2) := by decide +kernel
theorem dX8_commonDivisor_13 : decode cX8_commonDivisor 13 = .ok (.if_icmp .ge 31, 3) := by decide +kernel
theorem dX8_commonDivisor_16 : decode cX8_commonDivisor 16 = .ok (.lload 6, 2) := by decide +kernel
theorem dX8_commonDivisor_18 : decode cX8_commonDivisor 18 = .ok (.lconst 0, 1) := by decide +kernel
theorem dX8_commonDivisor_19 : decode cX8_commonDivisor 19 = .ok (.lcmp, 1) := by decide +kernel
theorem dX8_commonDivisor_20 : decode cX8_commonDivisor 20 = .ok (.ifCond .eq 24, 3) := by decide +kernel
theorem dX8_commonDivisor_23 : decode cX8_commonDivisor 23 = .ok (.lload 4, 2) := by decide +kernel
theorem dX8_commonDivisor_25 : decode cX8_commonDivisor 25 = .ok (.lload 6, 2) := by decide +kernel
theorem dX8_commonDivisor_27 : decode cX8_commonDivisor 27 = .ok (.lrem, 1) := by decide +kernel
theorem dX8_commonDivisor_28 : decode cX8_commonDivisor 28 = .ok (.lstore 9, 2) := by decide +kernel
theorem dX8_commonDivisor_30 : decode cX8_commonDivisor 30 = .ok (.lload 6, 2) := by decide +kernel
theorem dX8_commonDivisor_32 : decode cX8_commonDivisor 32 = .ok (.lstore 4, 2) := by decide +kernel
theorem dX8_commonDivisor_34 : decode cX8_commonDivisor 34 = .ok (.lload 9, 2) := by decide +kernel
theorem dX8_commonDivisor_36 : decode cX8_commonDivisor 36 = .ok (.lstore 6, 2) := by decide +kernel
theorem dX8_commonDivisor_38 : decode cX8_commonDivisor 38 = .ok (.iinc 8 1, 3) := by decide +kernel
theorem dX8_commonDivisor_41 : decode cX8_commonDivisor 41 = .ok (.goto (-32), 3) := by decide +kernel
theorem dX8_commonDivisor_44 : decode cX8_commonDivisor 44 = .ok (.lload 4, 2) := by decide +kernel
theorem dX8_commonDivisor_46 : decode cX8_commonDivisor 46 = .ok (.lreturn, 1) := by decide +kernel
set_option maxRecDepth 20000 in
theorem ggX8_kindsBy_X3_take : GoodIn wsX8_kindsBy wsX3_take := goodIn_r _ [7, 8, 9, 10, 11, 12, 13, 14, 15, 143, 144, 145, 146, 147, 148, 149, 150] (by decide +kernel) (by decide +kernel)
set_option maxRecDepth 20000 in
theorem gX8_kindsBy_X3_take : GoodIn wsX8_kindsBy (wsV RX8 57 RX3 yX3_take wsX3_take) := goodIn_app (goodIn_of _ (by decide +kernel)) ggX8_kindsBy_X3_take
set_option maxRecDepth 20000 in
theorem ggX8_kindsBy_X3_figureOf : GoodIn wsX8_kindsBy wsX3_figureOf := goodIn_r _ [19, 12, 20, 21, 22, 23, 143, 144, 145, 146, 147, 148, 149, 150] (by decide +kernel) (by decide +kernel)
set_option maxRecDepth 20000 in
theorem gX8_kindsBy_X3_figureOf : GoodIn wsX8_kindsBy (wsV RX8 98 RX3 yX3_figureOf wsX3_figureOf) := goodIn_app (goodIn_of _ (by decide +kernel)) ggX8_kindsBy_X3_figureOf
set_option maxRecDepth 20000 in
theorem ggX8_kindsBy_X3_recast : GoodIn wsX8_kindsBy wsX3_recast := goodIn_r _ [27, 11, 12, 28, 29, 22, 30, 31, 32, 143, 144, 145, 146, 147, 148, 149, 150] (by decide +kernel) (by decide +kernel)
set_option maxRecDepth 20000 in
theorem gX8_kindsBy_X3_recast : GoodIn wsX8_kindsBy (wsV RX8 101 RX3 yX3_recast wsX3_recast) := goodIn_app (goodIn_of _ (by decide +kernel)) ggX8_kindsBy_X3_recast
set_option maxRecDepth 20000 in
theorem ggX8_kindsBy_X8_draftIn : GoodIn wsX8_kindsBy wsX8_draftIn := goodIn_r _ [37, 38, 1, 2, 39, 40, 41, 42, 43, 44, 45, 46, 47, 48, 49, 50, 51, 52, 53, 54, 55, 56, 57, 17, 18, 6, 19, 12, 20, 21, 22, 23, 58, 59, 60, 61, 11, 62, 63, 64, 65, 66, 67, 68, 69, 70, 71, 72, 73, 74, 75, 76, 77, 78, 79, 29, 30, 31, 32, 80, 81, 82, 83, 84, 85, 86, 87, 88, 89, 90, 91, 92, 93, 94, 95, 96, 97, 98, 99, 100, 101, 102, 103, 104, 105, 106, 107, 108, 109, 110, 111, 112, 113, 140, 141, 142, 151, 152, 153, 154, 155, 156, 157, 158, 143, 144, 145, 146, 147, 148, 149, 150] (by decide +kernel) (by decide +kernel)
set_option maxRecDepth 20000 in
theorem gX8_kindsBy_X8_draftIn : GoodIn wsX8_kindsBy (wsV RX8 60 RX8 yX8_draftIn wsX8_draftIn) := goodIn_app (goodIn_of _ (by decide +kernel)) ggX8_kindsBy_X8_draftIn
set_option maxRecDepth 20000 in
theorem ggX8_kindsBy_X4_beginSo : GoodIn wsX8_kindsBy wsX4_beginSo := goodIn_r _ [117, 118, 119, 120, 121, 122, 123, 124, 125, 126, 127, 128, 129, 96, 130, 98, 99, 131, 132, 133, 6, 134, 9, 135, 136, 137, 138, 8, 139, 76, 22, 77, 111, 159, 160, 143, 144, 145, 146, 147, 148, 149, 150, 151, 152, 153, 154] (by decide +kernel) (by decide +kernel)
set_option maxRecDepth 20000 in
theorem gX8_kindsBy_X4_beginSo : GoodIn wsX8_kindsBy (va_wsS RX8 105 yX4_beginSo wsX4_beginSo) := goodIn_app (goodIn_of _ (by decide +kernel)) ggX8_kindsBy_X4_beginSo
theorem dX8_kindsBy_0 : decode cX8_kindsBy 0 = .ok (.aload_n 0, 1) := by decide +kernel
theorem dX8_kindsBy_1 : decode cX8_kindsBy 1 = .ok (.getfield 12, 3) := by decide +kernel
theorem dX8_kindsBy_4 : decode cX8_kindsBy 4 = .ok (.aload_n 2, 1) := by decide +kernel
theorem dX8_kindsBy_5 : decode cX8_kindsBy 5 = .ok (.invokevirtual 57, 3) := by decide +kernel
theorem dX8_kindsBy_8 : decode cX8_kindsBy 8 = .ok (.iconst 0, 1) := by decide +kernel
theorem dX8_kindsBy_9 : decode cX8_kindsBy 9 = .ok (.istore 4, 2) := by decide +kernel
theorem dX8_kindsBy_11 : decode cX8_kindsBy 11 = .ok (.iconst 0, 1) := by decide +kernel
theorem dX8_kindsBy_12 : decode cX8_kindsBy 12 = .ok (.istore 5, 2) := by decide +kernel
theorem dX8_kindsBy_14 : decode cX8_kindsBy 14 = .ok (.iload 5, 2) := by decide +kernel
theorem dX8_kindsBy_16 : decode cX8_kindsBy 16 = .ok (.bipush 6, 2) := by decide +kernel
theorem dX8_kindsBy_18 : decode cX8_kindsBy 18 = .ok (.if_icmp .ge 53, 3) := by decide +kernel
theorem dX8_kindsBy_21 : decode cX8_kindsBy 21 = .ok (.aload_n 0, 1) := by decide +kernel
theorem dX8_kindsBy_22 : decode cX8_kindsBy 22 = .ok (.getfield 12, 3) := by decide +kernel
theorem dX8_kindsBy_25 : decode cX8_kindsBy 25 = .ok (.iload_n 3, 1) := by decide +kernel
theorem dX8_kindsBy_26 : decode cX8_kindsBy 26 = .ok (.iload 5, 2) := by decide +kernel
theorem dX8_kindsBy_28 : decode cX8_kindsBy 28 = .ok (.aload_n 2, 1) := by decide +kernel
theorem dX8_kindsBy_29 : decode cX8_kindsBy 29 = .ok (.iload_n 3, 1) := by decide +kernel
theorem dX8_kindsBy_30 : decode cX8_kindsBy 30 = .ok (.invokevirtual 98, 3) := by decide +kernel
theorem dX8_kindsBy_33 : decode cX8_kindsBy 33 = .ok (.invokevirtual 101, 3) := by decide +kernel
theorem dX8_kindsBy_36 : decode cX8_kindsBy 36 = .ok (.aload_n 0, 1) := by decide +kernel
theorem dX8_kindsBy_37 : decode cX8_kindsBy 37 = .ok (.invokevirtual 60, 3) := by decide +kernel
theorem dX8_kindsBy_40 : decode cX8_kindsBy 40 = .ok (.pop, 1) := by decide +kernel
theorem dX8_kindsBy_41 : decode cX8_kindsBy 41 = .ok (.aload_n 1, 1) := by decide +kernel
theorem dX8_kindsBy_42 : decode cX8_kindsBy 42 = .ok (.aload_n 0, 1) := by decide +kernel
theorem dX8_kindsBy_43 : decode cX8_kindsBy 43 = .ok (.getfield 12, 3) := by decide +kernel
theorem dX8_kindsBy_46 : decode cX8_kindsBy 46 = .ok (.aload_n 0, 1) := by decide +kernel
theorem dX8_kindsBy_47 : decode cX8_kindsBy 47 = .ok (.getfield 28, 3) := by decide +kernel
theorem dX8_kindsBy_50 : decode cX8_kindsBy 50 = .ok (.invokestatic 105, 3) := by decide +kernel
theorem dX8_kindsBy_53 : decode cX8_kindsBy 53 = .ok (.ifCond .eq 12, 3) := by decide +kernel
theorem dX8_kindsBy_56 : decode cX8_kindsBy 56 = .ok (.iload 4, 2) := by decide +kernel
theorem dX8_kindsBy_58 : decode cX8_kindsBy 58 = .ok (.iconst 1, 1) := by decide +kernel
theorem dX8_kindsBy_59 : decode cX8_kindsBy 59 = .ok (.iload 5, 2) := by decide +kernel
theorem dX8_kindsBy_61 : decode cX8_kindsBy 61 = .ok (.ishl, 1) := by decide +kernel
theorem dX8_kindsBy_62 : decode cX8_kindsBy 62 = .ok (.ior, 1) := by decide +kernel
theorem dX8_kindsBy_63 : decode cX8_kindsBy 63 = .ok (.istore 4, 2) := by decide +kernel
theorem dX8_kindsBy_65 : decode cX8_kindsBy 65 = .ok (.iinc 5 1, 3) := by decide +kernel
theorem dX8_kindsBy_68 : decode cX8_kindsBy 68 = .ok (.goto (-54), 3) := by decide +kernel
theorem dX8_kindsBy_71 : decode cX8_kindsBy 71 = .ok (.iload 4, 2) := by decide +kernel
theorem dX8_kindsBy_73 : decode cX8_kindsBy 73 = .ok (.ireturn, 1) := by decide +kernel
set_option maxRecDepth 20000 in
theorem ggX8_figuresBy_X3_take : GoodIn wsX8_figuresBy wsX3_take := goodIn_r _ [7, 8, 9, 10, 11, 12, 13, 14, 15, 143, 144, 145, 146, 147, 148, 149, 150] (by decide +kernel) (by decide +kernel)
set_option maxRecDepth 20000 in
theorem gX8_figuresBy_X3_take : GoodIn wsX8_figuresBy (wsV RX8 57 RX3 yX3_take wsX3_take) := goodIn_app (goodIn_of _ (by decide +kernel)) ggX8_figuresBy_X3_take
set_option maxRecDepth 20000 in
theorem ggX8_figuresBy_X3_kindOf : GoodIn wsX8_figuresBy wsX3_kindOf := goodIn_r _ [19, 11, 20, 21, 22, 23, 143, 144, 145, 146, 147, 148, 149, 150] (by decide +kernel) (by decide +kernel)
set_option maxRecDepth 20000 in
theorem gX8_figuresBy_X3_kindOf : GoodIn wsX8_figuresBy (wsV RX8 111 RX3 yX3_kindOf wsX3_kindOf) := goodIn_app (goodIn_of _ (by decide +kernel)) ggX8_figuresBy_X3_kindOf
set_option maxRecDepth 20000 in
theorem ggX8_figuresBy_X3_recast : GoodIn wsX8_figuresBy wsX3_recast := goodIn_r _ [27, 11, 12, 28, 29, 22, 30, 31, 32, 143, 144, 145, 146, 147, 148, 149, 150] (by decide +kernel) (by decide +kernel)
set_option maxRecDepth 20000 in
theorem gX8_figuresBy_X3_recast : GoodIn wsX8_figuresBy (wsV RX8 101 RX3 yX3_recast wsX3_recast) := goodIn_app (goodIn_of _ (by decide +kernel)) ggX8_figuresBy_X3_recast
set_option maxRecDepth 20000 in
theorem ggX8_figuresBy_X8_draftIn : GoodIn wsX8_figuresBy wsX8_draftIn := goodIn_r _ [37, 38, 1, 2, 39, 40, 41, 42, 43, 44, 45, 46, 47, 48, 49, 50, 51, 52, 53, 54, 55, 56, 57, 58, 59, 6, 60, 12, 20, 21, 22, 23, 61, 17, 18, 19, 11, 62, 63, 64, 65, 66, 67, 68, 69, 70, 71, 72, 73, 74, 75, 76, 77, 78, 79, 29, 30, 31, 32, 80, 81, 82, 83, 84, 85, 86, 87, 88, 89, 90, 91, 92, 93, 94, 95, 96, 97, 98, 99, 100, 101, 102, 103, 104, 105, 106, 107, 108, 109, 110, 111, 112, 113, 140, 141, 142, 151, 152, 153, 154, 155, 156, 157, 158, 143, 144, 145, 146, 147, 148, 149, 150] (by decide +kernel) (by decide +kernel)
set_option maxRecDepth 20000 in
theorem gX8_figuresBy_X8_draftIn : GoodIn wsX8_figuresBy (wsV RX8 60 RX8 yX8_draftIn wsX8_draftIn) := goodIn_app (goodIn_of _ (by decide +kernel)) ggX8_figuresBy_X8_draftIn
set_option maxRecDepth 20000 in
theorem ggX8_figuresBy_X4_beginSo : GoodIn wsX8_figuresBy wsX4_beginSo := goodIn_r _ [117, 118, 119, 120, 121, 122, 123, 124, 125, 126, 127, 128, 129, 96, 130, 98, 99, 131, 132, 133, 6, 134, 9, 135, 136, 137, 138, 8, 139, 76, 22, 77, 111, 159, 160, 143, 144, 145, 146, 147, 148, 149, 150, 151, 152, 153, 154] (by decide +kernel) (by decide +kernel)
set_option maxRecDepth 20000 in
theorem gX8_figuresBy_X4_beginSo : GoodIn wsX8_figuresBy (va_wsS RX8 105 yX4_beginSo wsX4_beginSo) := goodIn_app (goodIn_of _ (by decide +kernel)) ggX8_figuresBy_X4_beginSo
theorem dX8_figuresBy_0 : decode cX8_figuresBy 0 = .ok (.aload_n 0, 1) := by decide +kernel
theorem dX8_figuresBy_1 : decode cX8_figuresBy 1 = .ok (.getfield 12, 3) := by decide +kernel
theorem dX8_figuresBy_4 : decode cX8_figuresBy 4 = .ok (.aload_n 2, 1) := by decide +kernel
theorem dX8_figuresBy_5 : decode cX8_figuresBy 5 = .ok (.invokevirtual 57, 3) := by decide +kernel
theorem dX8_figuresBy_8 : decode cX8_figuresBy 8 = .ok (.iconst 0, 1) := by decide +kernel
theorem dX8_figuresBy_9 : decode cX8_figuresBy 9 = .ok (.istore 4, 2) := by decide +kernel
theorem dX8_figuresBy_11 : decode cX8_figuresBy 11 = .ok (.iconst 0, 1) := by decide +kernel
theorem dX8_figuresBy_12 : decode cX8_figuresBy 12 = .ok (.istore 5, 2) := by decide +kernel
theorem dX8_figuresBy_14 : decode cX8_figuresBy 14 = .ok (.iload 5, 2) := by decide +kernel
theorem dX8_figuresBy_16 : decode cX8_figuresBy 16 = .ok (.bipush 10, 2) := by decide +kernel
theorem dX8_figuresBy_18 : decode cX8_figuresBy 18 = .ok (.if_icmp .ge 53, 3) := by decide +kernel
theorem dX8_figuresBy_21 : decode cX8_figuresBy 21 = .ok (.aload_n 0, 1) := by decide +kernel
theorem dX8_figuresBy_22 : decode cX8_figuresBy 22 = .ok (.getfield 12, 3) := by decide +kernel
theorem dX8_figuresBy_25 : decode cX8_figuresBy 25 = .ok (.iload_n 3, 1) := by decide +kernel
theorem dX8_figuresBy_26 : decode cX8_figuresBy 26 = .ok (.aload_n 2, 1) := by decide +kernel
theorem dX8_figuresBy_27 : decode cX8_figuresBy 27 = .ok (.iload_n 3, 1) := by decide +kernel
theorem dX8_figuresBy_28 : decode cX8_figuresBy 28 = .ok (.invokevirtual 111, 3) := by decide +kernel
theorem dX8_figuresBy_31 : decode cX8_figuresBy 31 = .ok (.iload 5, 2) := by decide +kernel
theorem dX8_figuresBy_33 : decode cX8_figuresBy 33 = .ok (.invokevirtual 101, 3) := by decide +kernel
theorem dX8_figuresBy_36 : decode cX8_figuresBy 36 = .ok (.aload_n 0, 1) := by decide +kernel
theorem dX8_figuresBy_37 : decode cX8_figuresBy 37 = .ok (.invokevirtual 60, 3) := by decide +kernel
theorem dX8_figuresBy_40 : decode cX8_figuresBy 40 = .ok (.pop, 1) := by decide +kernel
theorem dX8_figuresBy_41 : decode cX8_figuresBy 41 = .ok (.aload_n 1, 1) := by decide +kernel
theorem dX8_figuresBy_42 : decode cX8_figuresBy 42 = .ok (.aload_n 0, 1) := by decide +kernel
theorem dX8_figuresBy_43 : decode cX8_figuresBy 43 = .ok (.getfield 12, 3) := by decide +kernel
theorem dX8_figuresBy_46 : decode cX8_figuresBy 46 = .ok (.aload_n 0, 1) := by decide +kernel
theorem dX8_figuresBy_47 : decode cX8_figuresBy 47 = .ok (.getfield 28, 3) := by decide +kernel
theorem dX8_figuresBy_50 : decode cX8_figuresBy 50 = .ok (.invokestatic 105, 3) := by decide +kernel
theorem dX8_figuresBy_53 : decode cX8_figuresBy 53 = .ok (.ifCond .eq 12, 3) := by decide +kernel
theorem dX8_figuresBy_56 : decode cX8_figuresBy 56 = .ok (.iload 4, 2) := by decide +kernel
theorem dX8_figuresBy_58 : decode cX8_figuresBy 58 = .ok (.iconst 1, 1) := by decide +kernel
theorem dX8_figuresBy_59 : decode cX8_figuresBy 59 = .ok (.iload 5, 2) := by decide +kernel
theorem dX8_figuresBy_61 : decode cX8_figuresBy 61 = .ok (.ishl, 1) := by decide +kernel
theorem dX8_figuresBy_62 : decode cX8_figuresBy 62 = .ok (.ior, 1) := by decide +kernel
theorem dX8_figuresBy_63 : decode cX8_figuresBy 63 = .ok (.istore 4, 2) := by decide +kernel
theorem dX8_figuresBy_65 : decode cX8_figuresBy 65 = .ok (.iinc 5 1, 3) := by decide +kernel
theorem dX8_figuresBy_68 : decode cX8_figuresBy 68 = .ok (.goto (-54), 3) := by decide +kernel
theorem dX8_figuresBy_71 : decode cX8_figuresBy 71 = .ok (.iload 4, 2) := by decide +kernel
theorem dX8_figuresBy_73 : decode cX8_figuresBy 73 = .ok (.ireturn, 1) := by decide +kernel
set_option maxRecDepth 20000 in
theorem ggX8_drawn_X3_take : GoodIn wsX8_drawn wsX3_take := goodIn_r _ [6, 7, 8, 9, 10, 11, 12, 13, 14, 146, 147, 148, 149, 150, 151, 152, 153] (by decide +kernel) (by decide +kernel)
set_option maxRecDepth 20000 in
theorem gX8_drawn_X3_take : GoodIn wsX8_drawn (wsV RX8 57 RX3 yX3_take wsX3_take) := goodIn_app (goodIn_of _ (by decide +kernel)) ggX8_drawn_X3_take
set_option maxRecDepth 20000 in
theorem ggX8_drawn_X8_drawAttacks : GoodIn wsX8_drawn wsX8_drawAttacks := goodIn_r _ [19, 1, 20, 21, 22, 23, 24, 25, 26, 27, 5, 28, 13, 29, 30, 31, 32, 143, 144, 145, 146, 147, 148, 149, 150, 151, 152, 153] (by decide +kernel) (by decide +kernel)
set_option maxRecDepth 20000 in
theorem gX8_drawn_X8_drawAttacks : GoodIn wsX8_drawn (wsV RX8 114 RX8 yX8_drawAttacks wsX8_drawAttacks) := goodIn_app (goodIn_of _ (by decide +kernel)) ggX8_drawn_X8_drawAttacks
set_option maxRecDepth 20000 in
theorem ggX8_drawn_X8_draftStable : GoodIn wsX8_drawn wsX8_draftStable := goodIn_r _ [36, 37, 1, 38, 39, 40, 41, 42, 43, 44, 45, 46, 47, 48, 49, 50, 51, 52, 53, 54, 55, 56, 57, 58, 59, 5, 60, 11, 61, 62, 31, 63, 64, 65, 66, 67, 10, 68, 69, 70, 71, 72, 73, 74, 30, 32, 75, 76, 77, 78, 79, 80, 81, 82, 83, 84, 85, 86, 87, 88, 89, 90, 91, 92, 93, 94, 95, 96, 97, 98, 99, 100, 101, 102, 103, 104, 105, 106, 107, 108, 143, 144, 145, 146, 147, 148, 149, 150, 151, 152, 153, 154, 155, 156, 157] (by decide +kernel) (by decide +kernel)
set_option maxRecDepth 20000 in
theorem gX8_drawn_X8_draftStable : GoodIn wsX8_drawn (wsV RX8 91 RX8 yX8_draftStable wsX8_draftStable) := goodIn_app (goodIn_of _ (by decide +kernel)) ggX8_drawn_X8_draftStable
set_option maxRecDepth 20000 in
theorem ggX8_drawn_X8_draftIn : GoodIn wsX8_drawn wsX8_draftIn := goodIn_r _ [112, 37, 1, 113, 114, 40, 41, 42, 43, 44, 45, 46, 47, 48, 49, 50, 51, 52, 53, 54, 55, 56, 57, 58, 59, 5, 60, 11, 61, 62, 31, 63, 64, 65, 66, 67, 10, 68, 69, 70, 71, 72, 73, 74, 30, 32, 75, 76, 77, 78, 79, 80, 81, 82, 83, 84, 85, 86, 87, 88, 89, 90, 91, 92, 93, 94, 95, 96, 97, 98, 99, 100, 115, 116, 117, 118, 119, 120, 121, 122, 123, 124, 125, 126, 127, 128, 129, 130, 131, 132, 133, 134, 135, 143, 144, 145, 158, 159, 160, 161, 154, 155, 156, 157, 146, 147, 148, 149, 150, 151, 152, 153] (by decide +kernel) (by decide +kernel)
set_option maxRecDepth 20000 in
theorem gX8_drawn_X8_draftIn : GoodIn wsX8_drawn (wsV RX8 60 RX8 yX8_draftIn wsX8_draftIn) := goodIn_app (goodIn_of _ (by decide +kernel)) ggX8_drawn_X8_draftIn
set_option maxRecDepth 20000 in
theorem ggX8_drawn_J6_bitCount_0f7a4 : GoodIn wsX8_drawn wsJ6_bitCount_0f7a4 := goodIn_r _ [139, 140, 141, 142] (by decide +kernel) (by decide +kernel)
set_option maxRecDepth 20000 in
theorem gX8_drawn_J6_bitCount_0f7a4 : GoodIn wsX8_drawn (va_wsS RX8 85 yJ6_bitCount_0f7a4 wsJ6_bitCount_0f7a4) := goodIn_app (goodIn_of _ (by decide +kernel)) ggX8_drawn_J6_bitCount_0f7a4
theorem dX8_drawn_0 : decode cX8_drawn 0 = .ok (.aload_n 0, 1) := by decide +kernel
theorem dX8_drawn_1 : decode cX8_drawn 1 = .ok (.getfield 12, 3) := by decide +kernel
theorem dX8_drawn_4 : decode cX8_drawn 4 = .ok (.aload_n 1, 1) := by decide +kernel
theorem dX8_drawn_5 : decode cX8_drawn 5 = .ok (.invokevirtual 57, 3) := by decide +kernel
theorem dX8_drawn_8 : decode cX8_drawn 8 = .ok (.iload_n 3, 1) := by decide +kernel
theorem dX8_drawn_9 : decode cX8_drawn 9 = .ok (.istore 5, 2) := by decide +kernel
theorem dX8_drawn_11 : decode cX8_drawn 11 = .ok (.iconst 0, 1) := by decide +kernel
theorem dX8_drawn_12 : decode cX8_drawn 12 = .ok (.istore 6, 2) := by decide +kernel
theorem dX8_drawn_14 : decode cX8_drawn 14 = .ok (.iconst 0, 1) := by decide +kernel
theorem dX8_drawn_15 : decode cX8_drawn 15 = .ok (.istore 7, 2) := by decide +kernel
theorem dX8_drawn_17 : decode cX8_drawn 17 = .ok (.iload 7, 2) := by decide +kernel
theorem dX8_drawn_19 : decode cX8_drawn 19 = .ok (.iload_n 2, 1) := by decide +kernel
theorem dX8_drawn_20 : decode cX8_drawn 20 = .ok (.if_icmp .ge 41, 3) := by decide +kernel
theorem dX8_drawn_23 : decode cX8_drawn 23 = .ok (.aload_n 0, 1) := by decide +kernel
theorem dX8_drawn_24 : decode cX8_drawn 24 = .ok (.iload 5, 2) := by decide +kernel
theorem dX8_drawn_26 : decode cX8_drawn 26 = .ok (.invokevirtual 114, 3) := by decide +kernel
theorem dX8_drawn_29 : decode cX8_drawn 29 = .ok (.istore 5, 2) := by decide +kernel
theorem dX8_drawn_31 : decode cX8_drawn 31 = .ok (.iload 6, 2) := by decide +kernel
theorem dX8_drawn_33 : decode cX8_drawn 33 = .ok (.iload 4, 2) := by decide +kernel
theorem dX8_drawn_35 : decode cX8_drawn 35 = .ok (.ifCond .eq 10, 3) := by decide +kernel
theorem dX8_drawn_38 : decode cX8_drawn 38 = .ok (.aload_n 0, 1) := by decide +kernel
theorem dX8_drawn_39 : decode cX8_drawn 39 = .ok (.invokevirtual 91, 3) := by decide +kernel
theorem dX8_drawn_42 : decode cX8_drawn 42 = .ok (.goto 10, 3) := by decide +kernel
theorem dX8_drawn_45 : decode cX8_drawn 45 = .ok (.aload_n 0, 1) := by decide +kernel
theorem dX8_drawn_46 : decode cX8_drawn 46 = .ok (.invokevirtual 60, 3) := by decide +kernel
theorem dX8_drawn_49 : decode cX8_drawn 49 = .ok (.invokestatic 85, 3) := by decide +kernel
theorem dX8_drawn_52 : decode cX8_drawn 52 = .ok (.iadd, 1) := by decide +kernel
theorem dX8_drawn_53 : decode cX8_drawn 53 = .ok (.istore 6, 2) := by decide +kernel
theorem dX8_drawn_55 : decode cX8_drawn 55 = .ok (.iinc 7 1, 3) := by decide +kernel
theorem dX8_drawn_58 : decode cX8_drawn 58 = .ok (.goto (-41), 3) := by decide +kernel
theorem dX8_drawn_61 : decode cX8_drawn 61 = .ok (.iload 6, 2) := by decide +kernel
theorem dX8_drawn_63 : decode cX8_drawn 63 = .ok (.ireturn, 1) := by decide +kernel
set_option maxRecDepth 20000 in
theorem ggX8_drawAttacks_X3_flipAttack : GoodIn wsX8_drawAttacks wsX3_flipAttack := goodIn_r _ [11, 12, 13, 14, 15, 16, 20, 21, 22, 23, 24, 25, 26, 27] (by decide +kernel) (by decide +kernel)
set_option maxRecDepth 20000 in
theorem gX8_drawAttacks_X3_flipAttack : GoodIn wsX8_drawAttacks (wsV RX8 77 RX3 yX3_flipAttack wsX3_flipAttack) := goodIn_app (goodIn_of _ (by decide +kernel)) ggX8_drawAttacks_X3_flipAttack
theorem dX8_drawAttacks_0 : decode cX8_drawAttacks 0 = .ok (.iload_n 1, 1) := by decide +kernel
theorem dX8_drawAttacks_1 : decode cX8_drawAttacks 1 = .ok (.istore_n 2, 1) := by decide +kernel
theorem dX8_drawAttacks_2 : decode cX8_drawAttacks 2 = .ok (.aload_n 0, 1) := by decide +kernel
theorem dX8_drawAttacks_3 : decode cX8_drawAttacks 3 = .ok (.getfield 12, 3) := by decide +kernel
theorem dX8_drawAttacks_6 : decode cX8_drawAttacks 6 = .ok (.lconst 0, 1) := by decide +kernel
theorem dX8_drawAttacks_7 : decode cX8_drawAttacks 7 = .ok (.putfield 117, 3) := by decide +kernel
theorem dX8_drawAttacks_10 : decode cX8_drawAttacks 10 = .ok (.iconst 0, 1) := by decide +kernel
theorem dX8_drawAttacks_11 : decode cX8_drawAttacks 11 = .ok (.istore_n 3, 1) := by decide +kernel
theorem dX8_drawAttacks_12 : decode cX8_drawAttacks 12 = .ok (.iload_n 3, 1) := by decide +kernel
theorem dX8_drawAttacks_13 : decode cX8_drawAttacks 13 = .ok (.aload_n 0, 1) := by decide +kernel
theorem dX8_drawAttacks_14 : decode cX8_drawAttacks 14 = .ok (.getfield 12, 3) := by decide +kernel
theorem dX8_drawAttacks_17 : decode cX8_drawAttacks 17 = .ok (.getfield 70, 3) := by decide +kernel
theorem dX8_drawAttacks_20 : decode cX8_drawAttacks 20 = .ok (.if_icmp .ge 67, 3) := by decide +kernel
theorem dX8_drawAttacks_23 : decode cX8_drawAttacks 23 = .ok (.iconst 0, 1) := by decide +kernel
theorem dX8_drawAttacks_24 : decode cX8_drawAttacks 24 = .ok (.istore 4, 2) := by decide +kernel
theorem dX8_drawAttacks_26 : decode cX8_drawAttacks 26 = .ok (.iload 4, 2) := by decide +kernel
theorem dX8_drawAttacks_28 : decode cX8_drawAttacks 28 = .ok (.aload_n 0, 1) := by decide +kernel
theorem dX8_drawAttacks_29 : decode cX8_drawAttacks 29 = .ok (.getfield 12, 3) := by decide +kernel
theorem dX8_drawAttacks_32 : decode cX8_drawAttacks 32 = .ok (.getfield 70, 3) := by decide +kernel
theorem dX8_drawAttacks_35 : decode cX8_drawAttacks 35 = .ok (.if_icmp .ge 46, 3) := by decide +kernel
theorem dX8_drawAttacks_38 : decode cX8_drawAttacks 38 = .ok (.iload_n 3, 1) := by decide +kernel
theorem dX8_drawAttacks_39 : decode cX8_drawAttacks 39 = .ok (.iload 4, 2) := by decide +kernel
theorem dX8_drawAttacks_41 : decode cX8_drawAttacks 41 = .ok (.if_icmp .eq 34, 3) := by decide +kernel
theorem dX8_drawAttacks_44 : decode cX8_drawAttacks 44 = .ok (.iload_n 2, 1) := by decide +kernel
theorem dX8_drawAttacks_45 : decode cX8_drawAttacks 45 = .ok (.ldc 120, 2) := by decide +kernel
theorem dX8_drawAttacks_47 : decode cX8_drawAttacks 47 = .ok (.imul, 1) := by decide +kernel
theorem dX8_drawAttacks_48 : decode cX8_drawAttacks 48 = .ok (.ldc 121, 2) := by decide +kernel
theorem dX8_drawAttacks_50 : decode cX8_drawAttacks 50 = .ok (.iadd, 1) := by decide +kernel
theorem dX8_drawAttacks_51 : decode cX8_drawAttacks 51 = .ok (.istore_n 2, 1) := by decide +kernel
theorem dX8_drawAttacks_52 : decode cX8_drawAttacks 52 = .ok (.iload_n 2, 1) := by decide +kernel
theorem dX8_drawAttacks_53 : decode cX8_drawAttacks 53 = .ok (.ldc 122, 2) := by decide +kernel
theorem dX8_drawAttacks_55 : decode cX8_drawAttacks 55 = .ok (.iand, 1) := by decide +kernel
theorem dX8_drawAttacks_56 : decode cX8_drawAttacks 56 = .ok (.sipush 256, 3) := by decide +kernel
theorem dX8_drawAttacks_59 : decode cX8_drawAttacks 59 = .ok (.idiv, 1) := by decide +kernel
theorem dX8_drawAttacks_60 : decode cX8_drawAttacks 60 = .ok (.iconst 4, 1) := by decide +kernel
theorem dX8_drawAttacks_61 : decode cX8_drawAttacks 61 = .ok (.irem, 1) := by decide +kernel
theorem dX8_drawAttacks_62 : decode cX8_drawAttacks 62 = .ok (.ifCond .ne 13, 3) := by decide +kernel
theorem dX8_drawAttacks_65 : decode cX8_drawAttacks 65 = .ok (.aload_n 0, 1) := by decide +kernel
theorem dX8_drawAttacks_66 : decode cX8_drawAttacks 66 = .ok (.getfield 12, 3) := by decide +kernel
theorem dX8_drawAttacks_69 : decode cX8_drawAttacks 69 = .ok (.iload_n 3, 1) := by decide +kernel
theorem dX8_drawAttacks_70 : decode cX8_drawAttacks 70 = .ok (.iload 4, 2) := by decide +kernel
theorem dX8_drawAttacks_72 : decode cX8_drawAttacks 72 = .ok (.invokevirtual 77, 3) := by decide +kernel
theorem dX8_drawAttacks_75 : decode cX8_drawAttacks 75 = .ok (.iinc 4 1, 3) := by decide +kernel
theorem dX8_drawAttacks_78 : decode cX8_drawAttacks 78 = .ok (.goto (-52), 3) := by decide +kernel
theorem dX8_drawAttacks_81 : decode cX8_drawAttacks 81 = .ok (.iinc 3 1, 3) := by decide +kernel
theorem dX8_drawAttacks_84 : decode cX8_drawAttacks 84 = .ok (.goto (-72), 3) := by decide +kernel
theorem dX8_drawAttacks_87 : decode cX8_drawAttacks 87 = .ok (.iload_n 2, 1) := by decide +kernel
theorem dX8_drawAttacks_88 : decode cX8_drawAttacks 88 = .ok (.ireturn, 1) := by decide +kernel
theorem dX9_init_0 : decode cX9_init 0 = .ok (.aload_n 0, 1) := by decide +kernel
theorem dX9_init_1 : decode cX9_init 1 = .ok (.invokespecial 3, 3) := by decide +kernel
theorem dX9_init_4 : decode cX9_init 4 = .ok (.aload_n 0, 1) := by decide +kernel
theorem dX9_init_5 : decode cX9_init 5 = .ok (.iconst 0, 1) := by decide +kernel
theorem dX9_init_6 : decode cX9_init 6 = .ok (.putfield 9, 3) := by decide +kernel
theorem dX9_init_9 : decode cX9_init 9 = .ok (.aload_n 0, 1) := by decide +kernel
theorem dX9_init_10 : decode cX9_init 10 = .ok (.iconst 0, 1) := by decide +kernel
theorem dX9_init_11 : decode cX9_init 11 = .ok (.putfield 15, 3) := by decide +kernel
theorem dX9_init_14 : decode cX9_init 14 = .ok (.aload_n 0, 1) := by decide +kernel
theorem dX9_init_15 : decode cX9_init 15 = .ok (.iconst 0, 1) := by decide +kernel
theorem dX9_init_16 : decode cX9_init 16 = .ok (.putfield 18, 3) := by decide +kernel
theorem dX9_init_19 : decode cX9_init 19 = .ok (.aload_n 0, 1) := by decide +kernel
theorem dX9_init_20 : decode cX9_init 20 = .ok (.lconst 0, 1) := by decide +kernel
theorem dX9_init_21 : decode cX9_init 21 = .ok (.putfield 21, 3) := by decide +kernel
theorem dX9_init_24 : decode cX9_init 24 = .ok (.return_, 1) := by decide +kernel
set_option maxRecDepth 20000 in
theorem ggX9_run_X9_next : GoodIn wsX9_run wsX9_next := goodIn_r _ [12, 13, 1, 2, 5, 14, 15, 16, 17, 18, 19, 20, 21, 22, 23, 24, 25, 26, 27, 37, 38, 39, 40, 41, 42, 43, 44, 33, 34, 35, 36] (by decide +kernel) (by decide +kernel)
set_option maxRecDepth 20000 in
theorem gX9_run_X9_next : GoodIn wsX9_run (wsV RX9 35 RX9 yX9_next wsX9_next) := goodIn_app (goodIn_of _ (by decide +kernel)) ggX9_run_X9_next
set_option maxRecDepth 20000 in
theorem ggX9_run_X0_get : GoodIn wsX9_run wsX0_get := goodIn_r _ [17] (by decide +kernel) (by decide +kernel)
set_option maxRecDepth 20000 in
theorem gX9_run_X0_get : GoodIn wsX9_run (va_wsS RX9 42 yX0_get wsX0_get) := goodIn_app (goodIn_of _ (by decide +kernel)) ggX9_run_X0_get
set_option maxRecDepth 20000 in
theorem ggX9_run_X0_with : GoodIn wsX9_run wsX0_with := goodIn_r _ [30, 31, 32] (by decide +kernel) (by decide +kernel)
set_option maxRecDepth 20000 in
theorem gX9_run_X0_with : GoodIn wsX9_run (va_wsS RX9 48 yX0_with wsX0_with) := goodIn_app (goodIn_of _ (by decide +kernel)) ggX9_run_X0_with
theorem dX9_run_0 : decode cX9_run 0 = .ok (.aload_n 0, 1) := by decide +kernel
theorem dX9_run_1 : decode cX9_run 1 = .ok (.iconst 0, 1) := by decide +kernel
theorem dX9_run_2 : decode cX9_run 2 = .ok (.putfield 9, 3) := by decide +kernel
theorem dX9_run_5 : decode cX9_run 5 = .ok (.aload_n 0, 1) := by decide +kernel
theorem dX9_run_6 : decode cX9_run 6 = .ok (.iconst 0, 1) := by decide +kernel
theorem dX9_run_7 : decode cX9_run 7 = .ok (.putfield 15, 3) := by decide +kernel
theorem dX9_run_10 : decode cX9_run 10 = .ok (.aload_n 0, 1) := by decide +kernel
theorem dX9_run_11 : decode cX9_run 11 = .ok (.iconst 0, 1) := by decide +kernel
theorem dX9_run_12 : decode cX9_run 12 = .ok (.putfield 18, 3) := by decide +kernel
theorem dX9_run_15 : decode cX9_run 15 = .ok (.aload_n 0, 1) := by decide +kernel
theorem dX9_run_16 : decode cX9_run 16 = .ok (.lconst 0, 1) := by decide +kernel
theorem dX9_run_17 : decode cX9_run 17 = .ok (.putfield 21, 3) := by decide +kernel
theorem dX9_run_20 : decode cX9_run 20 = .ok (.iconst 0, 1) := by decide +kernel
theorem dX9_run_21 : decode cX9_run 21 = .ok (.istore_n 3, 1) := by decide +kernel
theorem dX9_run_22 : decode cX9_run 22 = .ok (.iload_n 3, 1) := by decide +kernel
theorem dX9_run_23 : decode cX9_run 23 = .ok (.aload_n 1, 1) := by decide +kernel
theorem dX9_run_24 : decode cX9_run 24 = .ok (.getfield 25, 3) := by decide +kernel
theorem dX9_run_27 : decode cX9_run 27 = .ok (.if_icmp .ge 86, 3) := by decide +kernel
theorem dX9_run_30 : decode cX9_run 30 = .ok (.aload_n 0, 1) := by decide +kernel
theorem dX9_run_31 : decode cX9_run 31 = .ok (.aload_n 1, 1) := by decide +kernel
theorem dX9_run_32 : decode cX9_run 32 = .ok (.aload_n 2, 1) := by decide +kernel
theorem dX9_run_33 : decode cX9_run 33 = .ok (.getfield 30, 3) := by decide +kernel
theorem dX9_run_36 : decode cX9_run 36 = .ok (.invokevirtual 35, 3) := by decide +kernel
theorem dX9_run_39 : decode cX9_run 39 = .ok (.istore 4, 2) := by decide +kernel
theorem dX9_run_41 : decode cX9_run 41 = .ok (.iload 4, 2) := by decide +kernel
theorem dX9_run_43 : decode cX9_run 43 = .ok (.ifCond .ge 6, 3) := by decide +kernel
theorem dX9_run_46 : decode cX9_run 46 = .ok (.goto 67, 3) := by decide +kernel
theorem dX9_run_49 : decode cX9_run 49 = .ok (.aload_n 0, 1) := by decide +kernel
theorem dX9_run_50 : decode cX9_run 50 = .ok (.dup, 1) := by decide +kernel
theorem dX9_run_51 : decode cX9_run 51 = .ok (.getfield 9, 3) := by decide +kernel
theorem dX9_run_54 : decode cX9_run 54 = .ok (.iconst 1, 1) := by decide +kernel
theorem dX9_run_55 : decode cX9_run 55 = .ok (.iload 4, 2) := by decide +kernel
theorem dX9_run_57 : decode cX9_run 57 = .ok (.ishl, 1) := by decide +kernel
theorem dX9_run_58 : decode cX9_run 58 = .ok (.ior, 1) := by decide +kernel
theorem dX9_run_59 : decode cX9_run 59 = .ok (.putfield 9, 3) := by decide +kernel
theorem dX9_run_62 : decode cX9_run 62 = .ok (.aload_n 0, 1) := by decide +kernel
theorem dX9_run_63 : decode cX9_run 63 = .ok (.dup, 1) := by decide +kernel
theorem dX9_run_64 : decode cX9_run 64 = .ok (.getfield 15, 3) := by decide +kernel
theorem dX9_run_67 : decode cX9_run 67 = .ok (.aload_n 2, 1) := by decide +kernel
theorem dX9_run_68 : decode cX9_run 68 = .ok (.getfield 39, 3) := by decide +kernel
theorem dX9_run_71 : decode cX9_run 71 = .ok (.iload 4, 2) := by decide +kernel
theorem dX9_run_73 : decode cX9_run 73 = .ok (.invokestatic 42, 3) := by decide +kernel
theorem dX9_run_76 : decode cX9_run 76 = .ok (.ior, 1) := by decide +kernel
theorem dX9_run_77 : decode cX9_run 77 = .ok (.putfield 15, 3) := by decide +kernel
theorem dX9_run_80 : decode cX9_run 80 = .ok (.aload_n 0, 1) := by decide +kernel
theorem dX9_run_81 : decode cX9_run 81 = .ok (.aload_n 0, 1) := by decide +kernel
theorem dX9_run_82 : decode cX9_run 82 = .ok (.getfield 21, 3) := by decide +kernel
theorem dX9_run_85 : decode cX9_run 85 = .ok (.aload_n 0, 1) := by decide +kernel
theorem dX9_run_86 : decode cX9_run 86 = .ok (.getfield 18, 3) := by decide +kernel
theorem dX9_run_89 : decode cX9_run 89 = .ok (.iload 4, 2) := by decide +kernel
theorem dX9_run_91 : decode cX9_run 91 = .ok (.invokestatic 48, 3) := by decide +kernel
theorem dX9_run_94 : decode cX9_run 94 = .ok (.putfield 21, 3) := by decide +kernel
theorem dX9_run_97 : decode cX9_run 97 = .ok (.aload_n 0, 1) := by decide +kernel
theorem dX9_run_98 : decode cX9_run 98 = .ok (.dup, 1) := by decide +kernel
theorem dX9_run_99 : decode cX9_run 99 = .ok (.getfield 18, 3) := by decide +kernel
theorem dX9_run_102 : decode cX9_run 102 = .ok (.iconst 1, 1) := by decide +kernel
theorem dX9_run_103 : decode cX9_run 103 = .ok (.iadd, 1) := by decide +kernel
theorem dX9_run_104 : decode cX9_run 104 = .ok (.putfield 18, 3) := by decide +kernel
theorem dX9_run_107 : decode cX9_run 107 = .ok (.iinc 3 1, 3) := by decide +kernel
theorem dX9_run_110 : decode cX9_run 110 = .ok (.goto (-88), 3) := by decide +kernel
theorem dX9_run_113 : decode cX9_run 113 = .ok (.return_, 1) := by decide +kernel
set_option maxRecDepth 20000 in
theorem ggX9_next_X0_get : GoodIn wsX9_next wsX0_get := goodIn_r _ [8] (by decide +kernel) (by decide +kernel)
set_option maxRecDepth 20000 in
theorem gX9_next_X0_get : GoodIn wsX9_next (va_wsS RX9 42 yX0_get wsX0_get) := goodIn_app (goodIn_of _ (by decide +kernel)) ggX9_next_X0_get
set_option maxRecDepth 20000 in
theorem ggX9_next_X0_contains : GoodIn wsX9_next wsX0_contains := goodIn_r _ [11] (by decide +kernel) (by decide +kernel)
set_option maxRecDepth 20000 in
theorem gX9_next_X0_contains : GoodIn wsX9_next (va_wsS RX9 55 yX0_contains wsX0_contains) := goodIn_app (goodIn_of _ (by decide +kernel)) ggX9_next_X0_contains
set_option maxRecDepth 20000 in
theorem ggX9_next_X3_figureOf : GoodIn wsX9_next wsX3_figureOf := goodIn_r _ [16, 17, 18, 6, 7, 8, 19, 20, 21, 22, 23, 24, 25, 26] (by decide +kernel) (by decide +kernel)
set_option maxRecDepth 20000 in
theorem gX9_next_X3_figureOf : GoodIn wsX9_next (wsV RX9 59 RX3 yX3_figureOf wsX3_figureOf) := goodIn_app (goodIn_of _ (by decide +kernel)) ggX9_next_X3_figureOf
theorem dX9_next_0 : decode cX9_next 0 = .ok (.iconst (-1), 1) := by decide +kernel
theorem dX9_next_1 : decode cX9_next 1 = .ok (.istore 4, 2) := by decide +kernel
theorem dX9_next_3 : decode cX9_next 3 = .ok (.aload_n 1, 1) := by decide +kernel
theorem dX9_next_4 : decode cX9_next 4 = .ok (.getfield 52, 3) := by decide +kernel
theorem dX9_next_7 : decode cX9_next 7 = .ok (.aload_n 0, 1) := by decide +kernel
theorem dX9_next_8 : decode cX9_next 8 = .ok (.getfield 9, 3) := by decide +kernel
theorem dX9_next_11 : decode cX9_next 11 = .ok (.iconst (-1), 1) := by decide +kernel
theorem dX9_next_12 : decode cX9_next 12 = .ok (.ixor, 1) := by decide +kernel
theorem dX9_next_13 : decode cX9_next 13 = .ok (.iand, 1) := by decide +kernel
theorem dX9_next_14 : decode cX9_next 14 = .ok (.aload_n 0, 1) := by decide +kernel
theorem dX9_next_15 : decode cX9_next 15 = .ok (.getfield 15, 3) := by decide +kernel
theorem dX9_next_18 : decode cX9_next 18 = .ok (.iconst (-1), 1) := by decide +kernel
theorem dX9_next_19 : decode cX9_next 19 = .ok (.ixor, 1) := by decide +kernel
theorem dX9_next_20 : decode cX9_next 20 = .ok (.iand, 1) := by decide +kernel
theorem dX9_next_21 : decode cX9_next 21 = .ok (.istore 5, 2) := by decide +kernel
theorem dX9_next_23 : decode cX9_next 23 = .ok (.iconst 0, 1) := by decide +kernel
theorem dX9_next_24 : decode cX9_next 24 = .ok (.istore 6, 2) := by decide +kernel
theorem dX9_next_26 : decode cX9_next 26 = .ok (.iload 6, 2) := by decide +kernel
theorem dX9_next_28 : decode cX9_next 28 = .ok (.aload_n 1, 1) := by decide +kernel
theorem dX9_next_29 : decode cX9_next 29 = .ok (.getfield 25, 3) := by decide +kernel
theorem dX9_next_32 : decode cX9_next 32 = .ok (.if_icmp .ge 71, 3) := by decide +kernel
theorem dX9_next_35 : decode cX9_next 35 = .ok (.lload_n 2, 1) := by decide +kernel
theorem dX9_next_36 : decode cX9_next 36 = .ok (.iload 6, 2) := by decide +kernel
theorem dX9_next_38 : decode cX9_next 38 = .ok (.invokestatic 42, 3) := by decide +kernel
theorem dX9_next_41 : decode cX9_next 41 = .ok (.aload_n 0, 1) := by decide +kernel
theorem dX9_next_42 : decode cX9_next 42 = .ok (.getfield 15, 3) := by decide +kernel
theorem dX9_next_45 : decode cX9_next 45 = .ok (.iconst (-1), 1) := by decide +kernel
theorem dX9_next_46 : decode cX9_next 46 = .ok (.ixor, 1) := by decide +kernel
theorem dX9_next_47 : decode cX9_next 47 = .ok (.iand, 1) := by decide +kernel
theorem dX9_next_48 : decode cX9_next 48 = .ok (.ifCond .ne 7, 3) := by decide +kernel
theorem dX9_next_51 : decode cX9_next 51 = .ok (.iconst 1, 1) := by decide +kernel
theorem dX9_next_52 : decode cX9_next 52 = .ok (.goto 4, 3) := by decide +kernel
theorem dX9_next_55 : decode cX9_next 55 = .ok (.iconst 0, 1) := by decide +kernel
theorem dX9_next_56 : decode cX9_next 56 = .ok (.istore 7, 2) := by decide +kernel
theorem dX9_next_58 : decode cX9_next 58 = .ok (.iload 5, 2) := by decide +kernel
theorem dX9_next_60 : decode cX9_next 60 = .ok (.iload 6, 2) := by decide +kernel
theorem dX9_next_62 : decode cX9_next 62 = .ok (.invokestatic 55, 3) := by decide +kernel
theorem dX9_next_65 : decode cX9_next 65 = .ok (.ifCond .eq 32, 3) := by decide +kernel
theorem dX9_next_68 : decode cX9_next 68 = .ok (.iload 7, 2) := by decide +kernel
theorem dX9_next_70 : decode cX9_next 70 = .ok (.ifCond .eq 27, 3) := by decide +kernel
theorem dX9_next_73 : decode cX9_next 73 = .ok (.iload 4, 2) := by decide +kernel
theorem dX9_next_75 : decode cX9_next 75 = .ok (.ifCond .lt 18, 3) := by decide +kernel
theorem dX9_next_78 : decode cX9_next 78 = .ok (.aload_n 1, 1) := by decide +kernel
theorem dX9_next_79 : decode cX9_next 79 = .ok (.iload 6, 2) := by decide +kernel
theorem dX9_next_81 : decode cX9_next 81 = .ok (.invokevirtual 59, 3) := by decide +kernel
theorem dX9_next_84 : decode cX9_next 84 = .ok (.aload_n 1, 1) := by decide +kernel
theorem dX9_next_85 : decode cX9_next 85 = .ok (.iload 4, 2) := by decide +kernel
theorem dX9_next_87 : decode cX9_next 87 = .ok (.invokevirtual 59, 3) := by decide +kernel
theorem dX9_next_90 : decode cX9_next 90 = .ok (.if_icmp .le 7, 3) := by decide +kernel
theorem dX9_next_93 : decode cX9_next 93 = .ok (.iload 6, 2) := by decide +kernel
theorem dX9_next_95 : decode cX9_next 95 = .ok (.istore 4, 2) := by decide +kernel
theorem dX9_next_97 : decode cX9_next 97 = .ok (.iinc 6 1, 3) := by decide +kernel
theorem dX9_next_100 : decode cX9_next 100 = .ok (.goto (-74), 3) := by decide +kernel
theorem dX9_next_103 : decode cX9_next 103 = .ok (.iload 4, 2) := by decide +kernel
theorem dX9_next_105 : decode cX9_next 105 = .ok (.ireturn, 1) := by decide +kernel
set_option maxRecDepth 20000 in
theorem ggX9_at_X0_get : GoodIn wsX9_at wsX0_get := goodIn_r _ [6] (by decide +kernel) (by decide +kernel)
set_option maxRecDepth 20000 in
theorem gX9_at_X0_get : GoodIn wsX9_at (va_wsS RX9 42 yX0_get wsX0_get) := goodIn_app (goodIn_of _ (by decide +kernel)) ggX9_at_X0_get
theorem dX9_at_0 : decode cX9_at 0 = .ok (.iload_n 1, 1) := by decide +kernel
theorem dX9_at_1 : decode cX9_at 1 = .ok (.ifCond .lt 22, 3) := by decide +kernel
theorem dX9_at_4 : decode cX9_at 4 = .ok (.iload_n 1, 1) := by decide +kernel
theorem dX9_at_5 : decode cX9_at 5 = .ok (.aload_n 0, 1) := by decide +kernel
theorem dX9_at_6 : decode cX9_at 6 = .ok (.getfield 18, 3) := by decide +kernel
theorem dX9_at_9 : decode cX9_at 9 = .ok (.if_icmp .ge 14, 3) := by decide +kernel
theorem dX9_at_12 : decode cX9_at 12 = .ok (.aload_n 0, 1) := by decide +kernel
theorem dX9_at_13 : decode cX9_at 13 = .ok (.getfield 21, 3) := by decide +kernel
theorem dX9_at_16 : decode cX9_at 16 = .ok (.iload_n 1, 1) := by decide +kernel
theorem dX9_at_17 : decode cX9_at 17 = .ok (.invokestatic 42, 3) := by decide +kernel
theorem dX9_at_20 : decode cX9_at 20 = .ok (.goto 5, 3) := by decide +kernel
theorem dX9_at_23 : decode cX9_at 23 = .ok (.bipush (-9), 2) := by decide +kernel
theorem dX9_at_25 : decode cX9_at 25 = .ok (.ireturn, 1) := by decide +kernel
set_option maxRecDepth 20000 in
theorem ggX9_labelOf_X3_hears : GoodIn wsX9_labelOf wsX3_hears := goodIn_r _ [7, 8, 9, 10, 11, 6, 12, 13, 14, 15, 16, 17, 23, 24, 25, 26, 27, 28, 29, 30] (by decide +kernel) (by decide +kernel)
set_option maxRecDepth 20000 in
theorem gX9_labelOf_X3_hears : GoodIn wsX9_labelOf (wsV RX9 63 RX3 yX3_hears wsX3_hears) := goodIn_app (goodIn_of _ (by decide +kernel)) ggX9_labelOf_X3_hears
set_option maxRecDepth 20000 in
theorem ggX9_labelOf_X0_contains : GoodIn wsX9_labelOf wsX0_contains := goodIn_r _ [17] (by decide +kernel) (by decide +kernel)
set_option maxRecDepth 20000 in
theorem gX9_labelOf_X0_contains : GoodIn wsX9_labelOf (va_wsS RX9 55 yX0_contains wsX0_contains) := goodIn_app (goodIn_of _ (by decide +kernel)) ggX9_labelOf_X0_contains
theorem dX9_labelOf_0 : decode cX9_labelOf 0 = .ok (.aload_n 1, 1) := by decide +kernel
theorem dX9_labelOf_1 : decode cX9_labelOf 1 = .ok (.iload_n 2, 1) := by decide +kernel
theorem dX9_labelOf_2 : decode cX9_labelOf 2 = .ok (.invokevirtual 63, 3) := by decide +kernel
theorem dX9_labelOf_5 : decode cX9_labelOf 5 = .ok (.ifCond .ne 5, 3) := by decide +kernel
theorem dX9_labelOf_8 : decode cX9_labelOf 8 = .ok (.iconst 3, 1) := by decide +kernel
theorem dX9_labelOf_9 : decode cX9_labelOf 9 = .ok (.ireturn, 1) := by decide +kernel
theorem dX9_labelOf_10 : decode cX9_labelOf 10 = .ok (.aload_n 0, 1) := by decide +kernel
theorem dX9_labelOf_11 : decode cX9_labelOf 11 = .ok (.getfield 9, 3) := by decide +kernel
theorem dX9_labelOf_14 : decode cX9_labelOf 14 = .ok (.iload_n 2, 1) := by decide +kernel
theorem dX9_labelOf_15 : decode cX9_labelOf 15 = .ok (.invokestatic 55, 3) := by decide +kernel
theorem dX9_labelOf_18 : decode cX9_labelOf 18 = .ok (.ifCond .eq 5, 3) := by decide +kernel
theorem dX9_labelOf_21 : decode cX9_labelOf 21 = .ok (.iconst 1, 1) := by decide +kernel
theorem dX9_labelOf_22 : decode cX9_labelOf 22 = .ok (.ireturn, 1) := by decide +kernel
theorem dX9_labelOf_23 : decode cX9_labelOf 23 = .ok (.aload_n 0, 1) := by decide +kernel
theorem dX9_labelOf_24 : decode cX9_labelOf 24 = .ok (.getfield 15, 3) := by decide +kernel
theorem dX9_labelOf_27 : decode cX9_labelOf 27 = .ok (.iload_n 2, 1) := by decide +kernel
theorem dX9_labelOf_28 : decode cX9_labelOf 28 = .ok (.invokestatic 55, 3) := by decide +kernel
theorem dX9_labelOf_31 : decode cX9_labelOf 31 = .ok (.ifCond .eq 7, 3) := by decide +kernel
theorem dX9_labelOf_34 : decode cX9_labelOf 34 = .ok (.iconst 0, 1) := by decide +kernel
theorem dX9_labelOf_35 : decode cX9_labelOf 35 = .ok (.goto 4, 3) := by decide +kernel
theorem dX9_labelOf_38 : decode cX9_labelOf 38 = .ok (.iconst 2, 1) := by decide +kernel
theorem dX9_labelOf_39 : decode cX9_labelOf 39 = .ok (.ireturn, 1) := by decide +kernel
set_option maxRecDepth 20000 in
theorem ggX10_init_X3_init : GoodIn wsX10_init wsX3_init := goodIn_r _ [41, 42, 2, 3, 43, 44, 45, 46, 47, 48, 49, 50, 108, 109, 110, 111, 112, 113, 114, 115] (by decide +kernel) (by decide +kernel)
set_option maxRecDepth 20000 in
theorem gX10_init_X3_init_n9 : GoodIn wsX10_init (wsX3_init) := ggX10_init_X3_init
set_option maxRecDepth 20000 in
theorem ggX10_init_X5_init : GoodIn wsX10_init wsX5_init := goodIn_r _ [52, 53, 2, 3, 54, 14, 15, 55, 56, 5, 6, 57, 58, 59, 60, 61, 62, 63, 64, 65, 66, 37, 67, 40, 41, 42, 43, 44, 45, 46, 47, 48, 49, 50, 129, 130, 127, 128, 108, 109, 110, 111, 112, 113, 114, 115] (by decide +kernel) (by decide +kernel)
set_option maxRecDepth 20000 in
theorem gX10_init_X5_init_n21 : GoodIn wsX10_init (wsX5_init) := ggX10_init_X5_init
set_option maxRecDepth 20000 in
theorem ggX10_init_X6_init : GoodIn wsX10_init wsX6_init := goodIn_r _ [60, 61, 2, 3, 62, 63, 64, 65, 66, 37, 67, 129, 130] (by decide +kernel) (by decide +kernel)
set_option maxRecDepth 20000 in
theorem gX10_init_X6_init : GoodIn wsX10_init (wsX6_init) := ggX10_init_X6_init
set_option maxRecDepth 20000 in
theorem ggX10_init_X1_init : GoodIn wsX10_init wsX1_init := goodIn_r _ [70, 71, 2, 3, 72, 73, 74, 75, 131, 132, 133, 134] (by decide +kernel) (by decide +kernel)
set_option maxRecDepth 20000 in
theorem gX10_init_X1_init_n37 : GoodIn wsX10_init (wsX1_init) := ggX10_init_X1_init
set_option maxRecDepth 20000 in
theorem ggX10_init_X9_init : GoodIn wsX10_init wsX9_init := goodIn_r _ [77, 78, 2, 3, 79, 80, 81, 82, 135, 136, 137, 138] (by decide +kernel) (by decide +kernel)
set_option maxRecDepth 20000 in
theorem gX10_init_X9_init_n44 : GoodIn wsX10_init (wsX9_init) := ggX10_init_X9_init
set_option maxRecDepth 20000 in
theorem ggX10_init_X7_init : GoodIn wsX10_init wsX7_init := goodIn_r _ [84, 85, 2, 3, 86, 87, 88, 89, 90, 91, 92, 139, 140, 141, 142, 143, 144] (by decide +kernel) (by decide +kernel)
set_option maxRecDepth 20000 in
theorem gX10_init_X7_init_n51 : GoodIn wsX10_init (wsX7_init) := ggX10_init_X7_init
set_option maxRecDepth 20000 in
theorem ggX10_init_X2_init : GoodIn wsX10_init wsX2_init := goodIn_r _ [94, 95, 2, 3, 37, 96, 97, 98, 145, 146, 147] (by decide +kernel) (by decide +kernel)
set_option maxRecDepth 20000 in
theorem gX10_init_X2_init_n58 : GoodIn wsX10_init (wsX2_init) := ggX10_init_X2_init
set_option maxRecDepth 20000 in
theorem ggX10_init_X8_init : GoodIn wsX10_init wsX8_init := goodIn_r _ [100, 101, 2, 3, 102, 5, 6, 103, 104, 18, 19, 105, 106, 22, 23, 107, 40, 41, 42, 43, 44, 45, 46, 47, 48, 49, 50, 69, 70, 71, 72, 73, 74, 75, 76, 77, 78, 79, 80, 81, 82, 108, 109, 110, 111, 112, 113, 114, 115, 148, 149, 150, 131, 132, 133, 134, 135, 136, 137, 138] (by decide +kernel) (by decide +kernel)
set_option maxRecDepth 20000 in
theorem gX10_init_X8_init_n65 : GoodIn wsX10_init (wsX8_init) := ggX10_init_X8_init
theorem dX10_init_0 : decode cX10_init 0 = .ok (.aload_n 0, 1) := by decide +kernel
theorem dX10_init_1 : decode cX10_init 1 = .ok (.invokespecial 1, 3) := by decide +kernel
theorem dX10_init_4 : decode cX10_init 4 = .ok (.aload_n 0, 1) := by decide +kernel
theorem dX10_init_5 : decode cX10_init 5 = .ok (.new 7, 3) := by decide +kernel
theorem dX10_init_8 : decode cX10_init 8 = .ok (.dup, 1) := by decide +kernel
theorem dX10_init_9 : decode cX10_init 9 = .ok (.invokespecial 9, 3) := by decide +kernel
theorem dX10_init_12 : decode cX10_init 12 = .ok (.putfield 10, 3) := by decide +kernel
theorem dX10_init_15 : decode cX10_init 15 = .ok (.aload_n 0, 1) := by decide +kernel
theorem dX10_init_16 : decode cX10_init 16 = .ok (.new 7, 3) := by decide +kernel
theorem dX10_init_19 : decode cX10_init 19 = .ok (.dup, 1) := by decide +kernel
theorem dX10_init_20 : decode cX10_init 20 = .ok (.invokespecial 9, 3) := by decide +kernel
theorem dX10_init_23 : decode cX10_init 23 = .ok (.putfield 16, 3) := by decide +kernel
theorem dX10_init_26 : decode cX10_init 26 = .ok (.aload_n 0, 1) := by decide +kernel
theorem dX10_init_27 : decode cX10_init 27 = .ok (.new 19, 3) := by decide +kernel
theorem dX10_init_30 : decode cX10_init 30 = .ok (.dup, 1) := by decide +kernel
theorem dX10_init_31 : decode cX10_init 31 = .ok (.invokespecial 21, 3) := by decide +kernel
theorem dX10_init_34 : decode cX10_init 34 = .ok (.putfield 22, 3) := by decide +kernel
theorem dX10_init_37 : decode cX10_init 37 = .ok (.aload_n 0, 1) := by decide +kernel
theorem dX10_init_38 : decode cX10_init 38 = .ok (.new 26, 3) := by decide +kernel
theorem dX10_init_41 : decode cX10_init 41 = .ok (.dup, 1) := by decide +kernel
theorem dX10_init_42 : decode cX10_init 42 = .ok (.bipush 12, 2) := by decide +kernel
theorem dX10_init_44 : decode cX10_init 44 = .ok (.invokespecial 28, 3) := by decide +kernel
theorem dX10_init_47 : decode cX10_init 47 = .ok (.putfield 31, 3) := by decide +kernel
theorem dX10_init_50 : decode cX10_init 50 = .ok (.aload_n 0, 1) := by decide +kernel
theorem dX10_init_51 : decode cX10_init 51 = .ok (.new 35, 3) := by decide +kernel
theorem dX10_init_54 : decode cX10_init 54 = .ok (.dup, 1) := by decide +kernel
theorem dX10_init_55 : decode cX10_init 55 = .ok (.invokespecial 37, 3) := by decide +kernel
theorem dX10_init_58 : decode cX10_init 58 = .ok (.putfield 38, 3) := by decide +kernel
theorem dX10_init_61 : decode cX10_init 61 = .ok (.aload_n 0, 1) := by decide +kernel
theorem dX10_init_62 : decode cX10_init 62 = .ok (.new 42, 3) := by decide +kernel
theorem dX10_init_65 : decode cX10_init 65 = .ok (.dup, 1) := by decide +kernel
theorem dX10_init_66 : decode cX10_init 66 = .ok (.invokespecial 44, 3) := by decide +kernel
theorem dX10_init_69 : decode cX10_init 69 = .ok (.putfield 45, 3) := by decide +kernel
theorem dX10_init_72 : decode cX10_init 72 = .ok (.aload_n 0, 1) := by decide +kernel
theorem dX10_init_73 : decode cX10_init 73 = .ok (.new 49, 3) := by decide +kernel
theorem dX10_init_76 : decode cX10_init 76 = .ok (.dup, 1) := by decide +kernel
theorem dX10_init_77 : decode cX10_init 77 = .ok (.invokespecial 51, 3) := by decide +kernel
theorem dX10_init_80 : decode cX10_init 80 = .ok (.putfield 52, 3) := by decide +kernel
theorem dX10_init_83 : decode cX10_init 83 = .ok (.aload_n 0, 1) := by decide +kernel
theorem dX10_init_84 : decode cX10_init 84 = .ok (.new 56, 3) := by decide +kernel
theorem dX10_init_87 : decode cX10_init 87 = .ok (.dup, 1) := by decide +kernel
theorem dX10_init_88 : decode cX10_init 88 = .ok (.invokespecial 58, 3) := by decide +kernel
theorem dX10_init_91 : decode cX10_init 91 = .ok (.putfield 59, 3) := by decide +kernel
theorem dX10_init_94 : decode cX10_init 94 = .ok (.aload_n 0, 1) := by decide +kernel
theorem dX10_init_95 : decode cX10_init 95 = .ok (.new 63, 3) := by decide +kernel
theorem dX10_init_98 : decode cX10_init 98 = .ok (.dup, 1) := by decide +kernel
theorem dX10_init_99 : decode cX10_init 99 = .ok (.invokespecial 65, 3) := by decide +kernel
theorem dX10_init_102 : decode cX10_init 102 = .ok (.putfield 66, 3) := by decide +kernel
theorem dX10_init_105 : decode cX10_init 105 = .ok (.aload_n 0, 1) := by decide +kernel
theorem dX10_init_106 : decode cX10_init 106 = .ok (.bipush 7, 2) := by decide +kernel
theorem dX10_init_108 : decode cX10_init 108 = .ok (.newarray .int, 2) := by decide +kernel
theorem dX10_init_110 : decode cX10_init 110 = .ok (.putfield 70, 3) := by decide +kernel
theorem dX10_init_113 : decode cX10_init 113 = .ok (.aload_n 0, 1) := by decide +kernel
theorem dX10_init_114 : decode cX10_init 114 = .ok (.iconst 0, 1) := by decide +kernel
theorem dX10_init_115 : decode cX10_init 115 = .ok (.putfield 74, 3) := by decide +kernel
theorem dX10_init_118 : decode cX10_init 118 = .ok (.return_, 1) := by decide +kernel
set_option maxRecDepth 20000 in
theorem ggX10_letter_X10_refuse : GoodIn wsX10_letter wsX10_refuse := goodIn_r _ [7, 8, 20, 21, 22, 23, 24, 25, 26, 27, 28, 29, 30] (by decide +kernel) (by decide +kernel)
set_option maxRecDepth 20000 in
theorem gX10_letter_X10_refuse : GoodIn wsX10_letter (wsV RX10 78 RX10 yX10_refuse wsX10_refuse) := goodIn_app (goodIn_of _ (by decide +kernel)) ggX10_letter_X10_refuse
set_option maxRecDepth 20000 in
theorem ggX10_letter_X6_isFull : GoodIn wsX10_letter wsX6_isFull := goodIn_r _ [13, 14, 15, 33, 34] (by decide +kernel) (by decide +kernel)
set_option maxRecDepth 20000 in
theorem gX10_letter_X6_isFull : GoodIn wsX10_letter (wsV RX10 85 RX6 yX6_isFull wsX6_isFull) := goodIn_app (goodIn_of _ (by decide +kernel)) ggX10_letter_X6_isFull
set_option maxRecDepth 20000 in
theorem ggX10_letter_X6_add : GoodIn wsX10_letter wsX6_add := goodIn_r _ [19, 14, 15, 33, 34] (by decide +kernel) (by decide +kernel)
set_option maxRecDepth 20000 in
theorem gX10_letter_X6_add : GoodIn wsX10_letter (wsV RX10 89 RX6 yX6_add wsX6_add) := goodIn_app (goodIn_of _ (by decide +kernel)) ggX10_letter_X6_add
theorem dX10_letter_0 : decode cX10_letter 0 = .ok (.iload_n 1, 1) := by decide +kernel
theorem dX10_letter_1 : decode cX10_letter 1 = .ok (.ifCond .ge 10, 3) := by decide +kernel
theorem dX10_letter_4 : decode cX10_letter 4 = .ok (.aload_n 0, 1) := by decide +kernel
theorem dX10_letter_5 : decode cX10_letter 5 = .ok (.bipush (-4), 2) := by decide +kernel
theorem dX10_letter_7 : decode cX10_letter 7 = .ok (.invokevirtual 78, 3) := by decide +kernel
theorem dX10_letter_10 : decode cX10_letter 10 = .ok (.ireturn, 1) := by decide +kernel
theorem dX10_letter_11 : decode cX10_letter 11 = .ok (.iload_n 1, 1) := by decide +kernel
theorem dX10_letter_12 : decode cX10_letter 12 = .ok (.sipush 255, 3) := by decide +kernel
theorem dX10_letter_15 : decode cX10_letter 15 = .ok (.if_icmp .gt 16, 3) := by decide +kernel
theorem dX10_letter_18 : decode cX10_letter 18 = .ok (.aload_n 0, 1) := by decide +kernel
theorem dX10_letter_19 : decode cX10_letter 19 = .ok (.getfield 22, 3) := by decide +kernel
theorem dX10_letter_22 : decode cX10_letter 22 = .ok (.getfield 82, 3) := by decide +kernel
theorem dX10_letter_25 : decode cX10_letter 25 = .ok (.invokevirtual 85, 3) := by decide +kernel
theorem dX10_letter_28 : decode cX10_letter 28 = .ok (.ifCond .eq 10, 3) := by decide +kernel
theorem dX10_letter_31 : decode cX10_letter 31 = .ok (.aload_n 0, 1) := by decide +kernel
theorem dX10_letter_32 : decode cX10_letter 32 = .ok (.bipush (-6), 2) := by decide +kernel
theorem dX10_letter_34 : decode cX10_letter 34 = .ok (.invokevirtual 78, 3) := by decide +kernel
theorem dX10_letter_37 : decode cX10_letter 37 = .ok (.ireturn, 1) := by decide +kernel
theorem dX10_letter_38 : decode cX10_letter 38 = .ok (.aload_n 0, 1) := by decide +kernel
theorem dX10_letter_39 : decode cX10_letter 39 = .ok (.getfield 22, 3) := by decide +kernel
theorem dX10_letter_42 : decode cX10_letter 42 = .ok (.getfield 82, 3) := by decide +kernel
theorem dX10_letter_45 : decode cX10_letter 45 = .ok (.iload_n 1, 1) := by decide +kernel
theorem dX10_letter_46 : decode cX10_letter 46 = .ok (.invokevirtual 89, 3) := by decide +kernel
theorem dX10_letter_49 : decode cX10_letter 49 = .ok (.ireturn, 1) := by decide +kernel
set_option maxRecDepth 20000 in
theorem ggX10_hall_X5_read : GoodIn wsX10_hall wsX5_read := goodIn_r _ [9, 10, 11, 12, 8, 13, 14, 15, 16, 17, 18, 19, 20, 21, 22, 23, 24, 25, 26, 27, 28, 29, 30, 31, 32, 33, 34, 35, 36, 37, 38, 39, 40, 41, 42, 43, 44, 45, 46, 47, 48, 49, 50, 51, 52, 53, 54, 55, 56, 57, 58, 59, 60, 61, 62, 63, 64, 65, 66, 67, 68, 69, 70, 71, 72, 73, 74, 75, 76, 77, 78, 79, 80, 81, 82, 83, 84, 85, 86, 87, 88, 89, 90, 91, 92, 93, 94, 95, 96, 97, 98, 99, 100, 101, 102, 103, 104, 105, 106, 107, 108, 109, 110, 111, 112, 113, 114, 115, 116, 117, 118, 119, 120, 121, 122, 123, 124, 125, 137, 138, 139, 140, 141, 142, 143, 144, 145, 146, 147, 148] (by decide +kernel) (by decide +kernel)
set_option maxRecDepth 20000 in
theorem gX10_hall_X5_read : GoodIn wsX10_hall (wsV RX10 92 RX5 yX5_read wsX5_read) := goodIn_app (goodIn_of _ (by decide +kernel)) ggX10_hall_X5_read
theorem dX10_hall_0 : decode cX10_hall 0 = .ok (.aload_n 0, 1) := by decide +kernel
theorem dX10_hall_1 : decode cX10_hall 1 = .ok (.getfield 22, 3) := by decide +kernel
theorem dX10_hall_4 : decode cX10_hall 4 = .ok (.aload_n 0, 1) := by decide +kernel
theorem dX10_hall_5 : decode cX10_hall 5 = .ok (.getfield 10, 3) := by decide +kernel
theorem dX10_hall_8 : decode cX10_hall 8 = .ok (.invokevirtual 92, 3) := by decide +kernel
theorem dX10_hall_11 : decode cX10_hall 11 = .ok (.istore_n 1, 1) := by decide +kernel
theorem dX10_hall_12 : decode cX10_hall 12 = .ok (.aload_n 0, 1) := by decide +kernel
theorem dX10_hall_13 : decode cX10_hall 13 = .ok (.getfield 22, 3) := by decide +kernel
theorem dX10_hall_16 : decode cX10_hall 16 = .ok (.getfield 82, 3) := by decide +kernel
theorem dX10_hall_19 : decode cX10_hall 19 = .ok (.iconst 0, 1) := by decide +kernel
theorem dX10_hall_20 : decode cX10_hall 20 = .ok (.putfield 96, 3) := by decide +kernel
theorem dX10_hall_23 : decode cX10_hall 23 = .ok (.iload_n 1, 1) := by decide +kernel
theorem dX10_hall_24 : decode cX10_hall 24 = .ok (.ireturn, 1) := by decide +kernel
set_option maxRecDepth 20000 in
theorem ggX10_claims_X10_isKind : GoodIn wsX10_claims wsX10_isKind := goodIn_r _ [5] (by decide +kernel) (by decide +kernel)
set_option maxRecDepth 20000 in
theorem gX10_claims_X10_isKind : GoodIn wsX10_claims (va_wsS RX10 100 yX10_isKind wsX10_isKind) := goodIn_app (goodIn_of _ (by decide +kernel)) ggX10_claims_X10_isKind
set_option maxRecDepth 20000 in
theorem ggX10_claims_X10_refuse : GoodIn wsX10_claims wsX10_refuse := goodIn_r _ [9, 10, 31, 32, 33, 34, 35, 36, 37, 38, 39, 40, 41] (by decide +kernel) (by decide +kernel)
set_option maxRecDepth 20000 in
theorem gX10_claims_X10_refuse : GoodIn wsX10_claims (wsV RX10 78 RX10 yX10_refuse wsX10_refuse) := goodIn_app (goodIn_of _ (by decide +kernel)) ggX10_claims_X10_refuse
set_option maxRecDepth 20000 in
theorem ggX10_claims_X3_isFull : GoodIn wsX10_claims wsX3_isFull := goodIn_r _ [15, 16, 42, 43, 44, 45, 46, 47, 48, 49] (by decide +kernel) (by decide +kernel)
set_option maxRecDepth 20000 in
theorem gX10_claims_X3_isFull : GoodIn wsX10_claims (wsV RX10 104 RX3 yX3_isFull wsX3_isFull) := goodIn_app (goodIn_of _ (by decide +kernel)) ggX10_claims_X3_isFull
set_option maxRecDepth 20000 in
theorem ggX10_claims_X3_add : GoodIn wsX10_claims wsX3_add := goodIn_r _ [20, 16, 21, 22, 23, 24, 25, 26, 27, 28, 29, 30, 42, 43, 44, 45, 46, 47, 48, 49] (by decide +kernel) (by decide +kernel)
set_option maxRecDepth 20000 in
theorem gX10_claims_X3_add : GoodIn wsX10_claims (wsV RX10 105 RX3 yX3_add wsX3_add) := goodIn_app (goodIn_of _ (by decide +kernel)) ggX10_claims_X3_add
theorem dX10_claims_0 : decode cX10_claims 0 = .ok (.iload_n 1, 1) := by decide +kernel
theorem dX10_claims_1 : decode cX10_claims 1 = .ok (.invokestatic 100, 3) := by decide +kernel
theorem dX10_claims_4 : decode cX10_claims 4 = .ok (.ifCond .ne 10, 3) := by decide +kernel
theorem dX10_claims_7 : decode cX10_claims 7 = .ok (.aload_n 0, 1) := by decide +kernel
theorem dX10_claims_8 : decode cX10_claims 8 = .ok (.bipush (-2), 2) := by decide +kernel
theorem dX10_claims_10 : decode cX10_claims 10 = .ok (.invokevirtual 78, 3) := by decide +kernel
theorem dX10_claims_13 : decode cX10_claims 13 = .ok (.ireturn, 1) := by decide +kernel
theorem dX10_claims_14 : decode cX10_claims 14 = .ok (.iload_n 2, 1) := by decide +kernel
theorem dX10_claims_15 : decode cX10_claims 15 = .ok (.ifCond .lt 7, 3) := by decide +kernel
theorem dX10_claims_18 : decode cX10_claims 18 = .ok (.iload_n 3, 1) := by decide +kernel
theorem dX10_claims_19 : decode cX10_claims 19 = .ok (.ifCond .ge 10, 3) := by decide +kernel
theorem dX10_claims_22 : decode cX10_claims 22 = .ok (.aload_n 0, 1) := by decide +kernel
theorem dX10_claims_23 : decode cX10_claims 23 = .ok (.bipush (-4), 2) := by decide +kernel
theorem dX10_claims_25 : decode cX10_claims 25 = .ok (.invokevirtual 78, 3) := by decide +kernel
theorem dX10_claims_28 : decode cX10_claims 28 = .ok (.ireturn, 1) := by decide +kernel
theorem dX10_claims_29 : decode cX10_claims 29 = .ok (.iload_n 2, 1) := by decide +kernel
theorem dX10_claims_30 : decode cX10_claims 30 = .ok (.bipush 10, 2) := by decide +kernel
theorem dX10_claims_32 : decode cX10_claims 32 = .ok (.if_icmp .ge 19, 3) := by decide +kernel
theorem dX10_claims_35 : decode cX10_claims 35 = .ok (.iload_n 3, 1) := by decide +kernel
theorem dX10_claims_36 : decode cX10_claims 36 = .ok (.bipush 10, 2) := by decide +kernel
theorem dX10_claims_38 : decode cX10_claims 38 = .ok (.if_icmp .ge 13, 3) := by decide +kernel
theorem dX10_claims_41 : decode cX10_claims 41 = .ok (.aload_n 0, 1) := by decide +kernel
theorem dX10_claims_42 : decode cX10_claims 42 = .ok (.getfield 10, 3) := by decide +kernel
theorem dX10_claims_45 : decode cX10_claims 45 = .ok (.invokevirtual 104, 3) := by decide +kernel
theorem dX10_claims_48 : decode cX10_claims 48 = .ok (.ifCond .eq 10, 3) := by decide +kernel
theorem dX10_claims_51 : decode cX10_claims 51 = .ok (.aload_n 0, 1) := by decide +kernel
theorem dX10_claims_52 : decode cX10_claims 52 = .ok (.bipush (-6), 2) := by decide +kernel
theorem dX10_claims_54 : decode cX10_claims 54 = .ok (.invokevirtual 78, 3) := by decide +kernel
theorem dX10_claims_57 : decode cX10_claims 57 = .ok (.ireturn, 1) := by decide +kernel
theorem dX10_claims_58 : decode cX10_claims 58 = .ok (.aload_n 0, 1) := by decide +kernel
theorem dX10_claims_59 : decode cX10_claims 59 = .ok (.getfield 10, 3) := by decide +kernel
theorem dX10_claims_62 : decode cX10_claims 62 = .ok (.iload_n 1, 1) := by decide +kernel
theorem dX10_claims_63 : decode cX10_claims 63 = .ok (.iload_n 2, 1) := by decide +kernel
theorem dX10_claims_64 : decode cX10_claims 64 = .ok (.iload_n 3, 1) := by decide +kernel
theorem dX10_claims_65 : decode cX10_claims 65 = .ok (.invokevirtual 105, 3) := by decide +kernel
theorem dX10_claims_68 : decode cX10_claims 68 = .ok (.ireturn, 1) := by decide +kernel
set_option maxRecDepth 20000 in
theorem ggX10_turns_X3_knows : GoodIn wsX10_turns wsX3_knows := goodIn_r _ [6, 7, 39, 40, 41, 42, 43, 44, 45, 46] (by decide +kernel) (by decide +kernel)
set_option maxRecDepth 20000 in
theorem gX10_turns_X3_knows : GoodIn wsX10_turns (wsV RX10 108 RX3 yX3_knows wsX3_knows) := goodIn_app (goodIn_of _ (by decide +kernel)) ggX10_turns_X3_knows
set_option maxRecDepth 20000 in
theorem ggX10_turns_X10_refuse : GoodIn wsX10_turns wsX10_refuse := goodIn_r _ [12, 13, 28, 29, 30, 31, 32, 33, 34, 35, 36, 37, 38] (by decide +kernel) (by decide +kernel)
set_option maxRecDepth 20000 in
theorem gX10_turns_X10_refuse : GoodIn wsX10_turns (wsV RX10 78 RX10 yX10_refuse wsX10_refuse) := goodIn_app (goodIn_of _ (by decide +kernel)) ggX10_turns_X10_refuse
set_option maxRecDepth 20000 in
theorem ggX10_turns_X3_flipHeard : GoodIn wsX10_turns wsX3_flipHeard := goodIn_r _ [17, 18, 39, 40, 41, 42, 43, 44, 45, 46] (by decide +kernel) (by decide +kernel)
set_option maxRecDepth 20000 in
theorem gX10_turns_X3_flipHeard : GoodIn wsX10_turns (wsV RX10 111 RX3 yX3_flipHeard wsX3_flipHeard) := goodIn_app (goodIn_of _ (by decide +kernel)) ggX10_turns_X3_flipHeard
set_option maxRecDepth 20000 in
theorem ggX10_turns_X3_hears : GoodIn wsX10_turns wsX3_hears := goodIn_r _ [22, 18, 23, 3, 4, 5, 6, 7, 24, 25, 26, 27, 39, 40, 41, 42, 43, 44, 45, 46] (by decide +kernel) (by decide +kernel)
set_option maxRecDepth 20000 in
theorem gX10_turns_X3_hears : GoodIn wsX10_turns (wsV RX10 114 RX3 yX3_hears wsX3_hears) := goodIn_app (goodIn_of _ (by decide +kernel)) ggX10_turns_X3_hears
theorem dX10_turns_0 : decode cX10_turns 0 = .ok (.aload_n 0, 1) := by decide +kernel
theorem dX10_turns_1 : decode cX10_turns 1 = .ok (.getfield 10, 3) := by decide +kernel
theorem dX10_turns_4 : decode cX10_turns 4 = .ok (.iload_n 1, 1) := by decide +kernel
theorem dX10_turns_5 : decode cX10_turns 5 = .ok (.invokevirtual 108, 3) := by decide +kernel
theorem dX10_turns_8 : decode cX10_turns 8 = .ok (.ifCond .ne 9, 3) := by decide +kernel
theorem dX10_turns_11 : decode cX10_turns 11 = .ok (.aload_n 0, 1) := by decide +kernel
theorem dX10_turns_12 : decode cX10_turns 12 = .ok (.iconst (-1), 1) := by decide +kernel
theorem dX10_turns_13 : decode cX10_turns 13 = .ok (.invokevirtual 78, 3) := by decide +kernel
theorem dX10_turns_16 : decode cX10_turns 16 = .ok (.ireturn, 1) := by decide +kernel
theorem dX10_turns_17 : decode cX10_turns 17 = .ok (.aload_n 0, 1) := by decide +kernel
theorem dX10_turns_18 : decode cX10_turns 18 = .ok (.getfield 10, 3) := by decide +kernel
theorem dX10_turns_21 : decode cX10_turns 21 = .ok (.iload_n 1, 1) := by decide +kernel
theorem dX10_turns_22 : decode cX10_turns 22 = .ok (.invokevirtual 111, 3) := by decide +kernel
theorem dX10_turns_25 : decode cX10_turns 25 = .ok (.aload_n 0, 1) := by decide +kernel
theorem dX10_turns_26 : decode cX10_turns 26 = .ok (.getfield 10, 3) := by decide +kernel
theorem dX10_turns_29 : decode cX10_turns 29 = .ok (.iload_n 1, 1) := by decide +kernel
theorem dX10_turns_30 : decode cX10_turns 30 = .ok (.invokevirtual 114, 3) := by decide +kernel
theorem dX10_turns_33 : decode cX10_turns 33 = .ok (.ifCond .eq 7, 3) := by decide +kernel
theorem dX10_turns_36 : decode cX10_turns 36 = .ok (.iconst 1, 1) := by decide +kernel
theorem dX10_turns_37 : decode cX10_turns 37 = .ok (.goto 4, 3) := by decide +kernel
theorem dX10_turns_40 : decode cX10_turns 40 = .ok (.iconst 0, 1) := by decide +kernel
theorem dX10_turns_41 : decode cX10_turns 41 = .ok (.ireturn, 1) := by decide +kernel
set_option maxRecDepth 20000 in
theorem ggX10_kind_X3_knows : GoodIn wsX10_kind wsX3_knows := goodIn_r _ [6, 7, 51, 52, 53, 54, 55, 56, 57, 58] (by decide +kernel) (by decide +kernel)
set_option maxRecDepth 20000 in
theorem gX10_kind_X3_knows : GoodIn wsX10_kind (wsV RX10 108 RX3 yX3_knows wsX3_knows) := goodIn_app (goodIn_of _ (by decide +kernel)) ggX10_kind_X3_knows
set_option maxRecDepth 20000 in
theorem ggX10_kind_X10_refuse : GoodIn wsX10_kind wsX10_refuse := goodIn_r _ [12, 13, 40, 41, 42, 43, 44, 45, 46, 47, 48, 49, 50] (by decide +kernel) (by decide +kernel)
set_option maxRecDepth 20000 in
theorem gX10_kind_X10_refuse : GoodIn wsX10_kind (wsV RX10 78 RX10 yX10_refuse wsX10_refuse) := goodIn_app (goodIn_of _ (by decide +kernel)) ggX10_kind_X10_refuse
set_option maxRecDepth 20000 in
theorem ggX10_kind_X10_isKind : GoodIn wsX10_kind wsX10_isKind := goodIn_r _ [16] (by decide +kernel) (by decide +kernel)
set_option maxRecDepth 20000 in
theorem gX10_kind_X10_isKind : GoodIn wsX10_kind (va_wsS RX10 100 yX10_isKind wsX10_isKind) := goodIn_app (goodIn_of _ (by decide +kernel)) ggX10_kind_X10_isKind
set_option maxRecDepth 20000 in
theorem ggX10_kind_X3_kindOf : GoodIn wsX10_kind wsX3_kindOf := goodIn_r _ [20, 21, 22, 23, 24, 25, 51, 52, 53, 54, 55, 56, 57, 58] (by decide +kernel) (by decide +kernel)
set_option maxRecDepth 20000 in
theorem gX10_kind_X3_kindOf : GoodIn wsX10_kind (wsV RX10 117 RX3 yX3_kindOf wsX3_kindOf) := goodIn_app (goodIn_of _ (by decide +kernel)) ggX10_kind_X3_kindOf
set_option maxRecDepth 20000 in
theorem ggX10_kind_X3_figureOf : GoodIn wsX10_kind wsX3_figureOf := goodIn_r _ [29, 30, 22, 23, 24, 25, 51, 52, 53, 54, 55, 56, 57, 58] (by decide +kernel) (by decide +kernel)
set_option maxRecDepth 20000 in
theorem gX10_kind_X3_figureOf : GoodIn wsX10_kind (wsV RX10 120 RX3 yX3_figureOf wsX3_figureOf) := goodIn_app (goodIn_of _ (by decide +kernel)) ggX10_kind_X3_figureOf
set_option maxRecDepth 20000 in
theorem ggX10_kind_X3_recast : GoodIn wsX10_kind wsX3_recast := goodIn_r _ [34, 21, 30, 35, 36, 24, 37, 38, 39, 51, 52, 53, 54, 55, 56, 57, 58] (by decide +kernel) (by decide +kernel)
set_option maxRecDepth 20000 in
theorem gX10_kind_X3_recast : GoodIn wsX10_kind (wsV RX10 123 RX3 yX3_recast wsX3_recast) := goodIn_app (goodIn_of _ (by decide +kernel)) ggX10_kind_X3_recast
theorem dX10_kind_0 : decode cX10_kind 0 = .ok (.aload_n 0, 1) := by decide +kernel
theorem dX10_kind_1 : decode cX10_kind 1 = .ok (.getfield 10, 3) := by decide +kernel
theorem dX10_kind_4 : decode cX10_kind 4 = .ok (.iload_n 1, 1) := by decide +kernel
theorem dX10_kind_5 : decode cX10_kind 5 = .ok (.invokevirtual 108, 3) := by decide +kernel
theorem dX10_kind_8 : decode cX10_kind 8 = .ok (.ifCond .ne 9, 3) := by decide +kernel
theorem dX10_kind_11 : decode cX10_kind 11 = .ok (.aload_n 0, 1) := by decide +kernel
theorem dX10_kind_12 : decode cX10_kind 12 = .ok (.iconst (-1), 1) := by decide +kernel
theorem dX10_kind_13 : decode cX10_kind 13 = .ok (.invokevirtual 78, 3) := by decide +kernel
theorem dX10_kind_16 : decode cX10_kind 16 = .ok (.ireturn, 1) := by decide +kernel
theorem dX10_kind_17 : decode cX10_kind 17 = .ok (.iload_n 2, 1) := by decide +kernel
theorem dX10_kind_18 : decode cX10_kind 18 = .ok (.invokestatic 100, 3) := by decide +kernel
theorem dX10_kind_21 : decode cX10_kind 21 = .ok (.ifCond .ne 10, 3) := by decide +kernel
theorem dX10_kind_24 : decode cX10_kind 24 = .ok (.aload_n 0, 1) := by decide +kernel
theorem dX10_kind_25 : decode cX10_kind 25 = .ok (.bipush (-2), 2) := by decide +kernel
theorem dX10_kind_27 : decode cX10_kind 27 = .ok (.invokevirtual 78, 3) := by decide +kernel
theorem dX10_kind_30 : decode cX10_kind 30 = .ok (.ireturn, 1) := by decide +kernel
theorem dX10_kind_31 : decode cX10_kind 31 = .ok (.iload_n 3, 1) := by decide +kernel
theorem dX10_kind_32 : decode cX10_kind 32 = .ok (.ifCond .ge 10, 3) := by decide +kernel
theorem dX10_kind_35 : decode cX10_kind 35 = .ok (.aload_n 0, 1) := by decide +kernel
theorem dX10_kind_36 : decode cX10_kind 36 = .ok (.bipush (-4), 2) := by decide +kernel
theorem dX10_kind_38 : decode cX10_kind 38 = .ok (.invokevirtual 78, 3) := by decide +kernel
theorem dX10_kind_41 : decode cX10_kind 41 = .ok (.ireturn, 1) := by decide +kernel
theorem dX10_kind_42 : decode cX10_kind 42 = .ok (.iload_n 3, 1) := by decide +kernel
theorem dX10_kind_43 : decode cX10_kind 43 = .ok (.bipush 10, 2) := by decide +kernel
theorem dX10_kind_45 : decode cX10_kind 45 = .ok (.if_icmp .lt 10, 3) := by decide +kernel
theorem dX10_kind_48 : decode cX10_kind 48 = .ok (.aload_n 0, 1) := by decide +kernel
theorem dX10_kind_49 : decode cX10_kind 49 = .ok (.bipush (-6), 2) := by decide +kernel
theorem dX10_kind_51 : decode cX10_kind 51 = .ok (.invokevirtual 78, 3) := by decide +kernel
theorem dX10_kind_54 : decode cX10_kind 54 = .ok (.ireturn, 1) := by decide +kernel
theorem dX10_kind_55 : decode cX10_kind 55 = .ok (.bipush 10, 2) := by decide +kernel
theorem dX10_kind_57 : decode cX10_kind 57 = .ok (.aload_n 0, 1) := by decide +kernel
theorem dX10_kind_58 : decode cX10_kind 58 = .ok (.getfield 10, 3) := by decide +kernel
theorem dX10_kind_61 : decode cX10_kind 61 = .ok (.iload_n 1, 1) := by decide +kernel
theorem dX10_kind_62 : decode cX10_kind 62 = .ok (.invokevirtual 117, 3) := by decide +kernel
theorem dX10_kind_65 : decode cX10_kind 65 = .ok (.imul, 1) := by decide +kernel
theorem dX10_kind_66 : decode cX10_kind 66 = .ok (.aload_n 0, 1) := by decide +kernel
theorem dX10_kind_67 : decode cX10_kind 67 = .ok (.getfield 10, 3) := by decide +kernel
theorem dX10_kind_70 : decode cX10_kind 70 = .ok (.iload_n 1, 1) := by decide +kernel
theorem dX10_kind_71 : decode cX10_kind 71 = .ok (.invokevirtual 120, 3) := by decide +kernel
theorem dX10_kind_74 : decode cX10_kind 74 = .ok (.iadd, 1) := by decide +kernel
theorem dX10_kind_75 : decode cX10_kind 75 = .ok (.istore 4, 2) := by decide +kernel
theorem dX10_kind_77 : decode cX10_kind 77 = .ok (.aload_n 0, 1) := by decide +kernel
theorem dX10_kind_78 : decode cX10_kind 78 = .ok (.getfield 10, 3) := by decide +kernel
theorem dX10_kind_81 : decode cX10_kind 81 = .ok (.iload_n 1, 1) := by decide +kernel
theorem dX10_kind_82 : decode cX10_kind 82 = .ok (.iload_n 2, 1) := by decide +kernel
theorem dX10_kind_83 : decode cX10_kind 83 = .ok (.iload_n 3, 1) := by decide +kernel
theorem dX10_kind_84 : decode cX10_kind 84 = .ok (.invokevirtual 123, 3) := by decide +kernel
theorem dX10_kind_87 : decode cX10_kind 87 = .ok (.iload 4, 2) := by decide +kernel
theorem dX10_kind_89 : decode cX10_kind 89 = .ok (.ireturn, 1) := by decide +kernel
set_option maxRecDepth 20000 in
theorem ggX10_attacks_X3_knows : GoodIn wsX10_attacks wsX3_knows := goodIn_r _ [7, 8, 39, 40, 41, 42, 43, 44, 45, 46] (by decide +kernel) (by decide +kernel)
set_option maxRecDepth 20000 in
theorem gX10_attacks_X3_knows : GoodIn wsX10_attacks (wsV RX10 108 RX3 yX3_knows wsX3_knows) := goodIn_app (goodIn_of _ (by decide +kernel)) ggX10_attacks_X3_knows
set_option maxRecDepth 20000 in
theorem ggX10_attacks_X10_refuse : GoodIn wsX10_attacks wsX10_refuse := goodIn_r _ [13, 14, 28, 29, 30, 31, 32, 33, 34, 35, 36, 37, 38] (by decide +kernel) (by decide +kernel)
set_option maxRecDepth 20000 in
theorem gX10_attacks_X10_refuse : GoodIn wsX10_attacks (wsV RX10 78 RX10 yX10_refuse wsX10_refuse) := goodIn_app (goodIn_of _ (by decide +kernel)) ggX10_attacks_X10_refuse
set_option maxRecDepth 20000 in
theorem ggX10_attacks_X3_flipAttack : GoodIn wsX10_attacks wsX3_flipAttack := goodIn_r _ [18, 19, 20, 21, 22, 23, 39, 40, 41, 42, 43, 44, 45, 46] (by decide +kernel) (by decide +kernel)
set_option maxRecDepth 20000 in
theorem gX10_attacks_X3_flipAttack : GoodIn wsX10_attacks (wsV RX10 127 RX3 yX3_flipAttack wsX3_flipAttack) := goodIn_app (goodIn_of _ (by decide +kernel)) ggX10_attacks_X3_flipAttack
set_option maxRecDepth 20000 in
theorem ggX10_attacks_X0_has : GoodIn wsX10_attacks wsX0_has := goodIn_r _ [26, 27, 21, 22, 23] (by decide +kernel) (by decide +kernel)
set_option maxRecDepth 20000 in
theorem gX10_attacks_X0_has : GoodIn wsX10_attacks (va_wsS RX10 135 yX0_has wsX0_has) := goodIn_app (goodIn_of _ (by decide +kernel)) ggX10_attacks_X0_has
theorem dX10_attacks_0 : decode cX10_attacks 0 = .ok (.aload_n 0, 1) := by decide +kernel
theorem dX10_attacks_1 : decode cX10_attacks 1 = .ok (.getfield 10, 3) := by decide +kernel
theorem dX10_attacks_4 : decode cX10_attacks 4 = .ok (.iload_n 1, 1) := by decide +kernel
theorem dX10_attacks_5 : decode cX10_attacks 5 = .ok (.invokevirtual 108, 3) := by decide +kernel
theorem dX10_attacks_8 : decode cX10_attacks 8 = .ok (.ifCond .eq 14, 3) := by decide +kernel
theorem dX10_attacks_11 : decode cX10_attacks 11 = .ok (.aload_n 0, 1) := by decide +kernel
theorem dX10_attacks_12 : decode cX10_attacks 12 = .ok (.getfield 10, 3) := by decide +kernel
theorem dX10_attacks_15 : decode cX10_attacks 15 = .ok (.iload_n 2, 1) := by decide +kernel
theorem dX10_attacks_16 : decode cX10_attacks 16 = .ok (.invokevirtual 108, 3) := by decide +kernel
theorem dX10_attacks_19 : decode cX10_attacks 19 = .ok (.ifCond .ne 9, 3) := by decide +kernel
theorem dX10_attacks_22 : decode cX10_attacks 22 = .ok (.aload_n 0, 1) := by decide +kernel
theorem dX10_attacks_23 : decode cX10_attacks 23 = .ok (.iconst (-1), 1) := by decide +kernel
theorem dX10_attacks_24 : decode cX10_attacks 24 = .ok (.invokevirtual 78, 3) := by decide +kernel
theorem dX10_attacks_27 : decode cX10_attacks 27 = .ok (.ireturn, 1) := by decide +kernel
theorem dX10_attacks_28 : decode cX10_attacks 28 = .ok (.iload_n 1, 1) := by decide +kernel
theorem dX10_attacks_29 : decode cX10_attacks 29 = .ok (.iload_n 2, 1) := by decide +kernel
theorem dX10_attacks_30 : decode cX10_attacks 30 = .ok (.if_icmp .ne 10, 3) := by decide +kernel
theorem dX10_attacks_33 : decode cX10_attacks 33 = .ok (.aload_n 0, 1) := by decide +kernel
theorem dX10_attacks_34 : decode cX10_attacks 34 = .ok (.bipush (-3), 2) := by decide +kernel
theorem dX10_attacks_36 : decode cX10_attacks 36 = .ok (.invokevirtual 78, 3) := by decide +kernel
theorem dX10_attacks_39 : decode cX10_attacks 39 = .ok (.ireturn, 1) := by decide +kernel
theorem dX10_attacks_40 : decode cX10_attacks 40 = .ok (.aload_n 0, 1) := by decide +kernel
theorem dX10_attacks_41 : decode cX10_attacks 41 = .ok (.getfield 10, 3) := by decide +kernel
theorem dX10_attacks_44 : decode cX10_attacks 44 = .ok (.iload_n 1, 1) := by decide +kernel
theorem dX10_attacks_45 : decode cX10_attacks 45 = .ok (.iload_n 2, 1) := by decide +kernel
theorem dX10_attacks_46 : decode cX10_attacks 46 = .ok (.invokevirtual 127, 3) := by decide +kernel
theorem dX10_attacks_49 : decode cX10_attacks 49 = .ok (.aload_n 0, 1) := by decide +kernel
theorem dX10_attacks_50 : decode cX10_attacks 50 = .ok (.getfield 10, 3) := by decide +kernel
theorem dX10_attacks_53 : decode cX10_attacks 53 = .ok (.getfield 131, 3) := by decide +kernel
theorem dX10_attacks_56 : decode cX10_attacks 56 = .ok (.iload_n 1, 1) := by decide +kernel
theorem dX10_attacks_57 : decode cX10_attacks 57 = .ok (.iload_n 2, 1) := by decide +kernel
theorem dX10_attacks_58 : decode cX10_attacks 58 = .ok (.invokestatic 135, 3) := by decide +kernel
theorem dX10_attacks_61 : decode cX10_attacks 61 = .ok (.ifCond .eq 7, 3) := by decide +kernel
theorem dX10_attacks_64 : decode cX10_attacks 64 = .ok (.iconst 1, 1) := by decide +kernel
theorem dX10_attacks_65 : decode cX10_attacks 65 = .ok (.goto 4, 3) := by decide +kernel
theorem dX10_attacks_68 : decode cX10_attacks 68 = .ok (.iconst 0, 1) := by decide +kernel
theorem dX10_attacks_69 : decode cX10_attacks 69 = .ok (.ireturn, 1) := by decide +kernel
set_option maxRecDepth 20000 in
theorem ggX10_supports_X3_knows : GoodIn wsX10_supports wsX3_knows := goodIn_r _ [7, 8, 39, 40, 41, 42, 43, 44, 45, 46] (by decide +kernel) (by decide +kernel)
set_option maxRecDepth 20000 in
theorem gX10_supports_X3_knows : GoodIn wsX10_supports (wsV RX10 108 RX3 yX3_knows wsX3_knows) := goodIn_app (goodIn_of _ (by decide +kernel)) ggX10_supports_X3_knows
set_option maxRecDepth 20000 in
theorem ggX10_supports_X10_refuse : GoodIn wsX10_supports wsX10_refuse := goodIn_r _ [13, 14, 28, 29, 30, 31, 32, 33, 34, 35, 36, 37, 38] (by decide +kernel) (by decide +kernel)
set_option maxRecDepth 20000 in
theorem gX10_supports_X10_refuse : GoodIn wsX10_supports (wsV RX10 78 RX10 yX10_refuse wsX10_refuse) := goodIn_app (goodIn_of _ (by decide +kernel)) ggX10_supports_X10_refuse
set_option maxRecDepth 20000 in
theorem ggX10_supports_X3_flipSupport : GoodIn wsX10_supports wsX3_flipSupport := goodIn_r _ [18, 19, 20, 21, 22, 23, 39, 40, 41, 42, 43, 44, 45, 46] (by decide +kernel) (by decide +kernel)
set_option maxRecDepth 20000 in
theorem gX10_supports_X3_flipSupport : GoodIn wsX10_supports (wsV RX10 141 RX3 yX3_flipSupport wsX3_flipSupport) := goodIn_app (goodIn_of _ (by decide +kernel)) ggX10_supports_X3_flipSupport
set_option maxRecDepth 20000 in
theorem ggX10_supports_X0_has : GoodIn wsX10_supports wsX0_has := goodIn_r _ [26, 27, 21, 22, 23] (by decide +kernel) (by decide +kernel)
set_option maxRecDepth 20000 in
theorem gX10_supports_X0_has : GoodIn wsX10_supports (va_wsS RX10 135 yX0_has wsX0_has) := goodIn_app (goodIn_of _ (by decide +kernel)) ggX10_supports_X0_has
theorem dX10_supports_0 : decode cX10_supports 0 = .ok (.aload_n 0, 1) := by decide +kernel
theorem dX10_supports_1 : decode cX10_supports 1 = .ok (.getfield 10, 3) := by decide +kernel
theorem dX10_supports_4 : decode cX10_supports 4 = .ok (.iload_n 1, 1) := by decide +kernel
theorem dX10_supports_5 : decode cX10_supports 5 = .ok (.invokevirtual 108, 3) := by decide +kernel
theorem dX10_supports_8 : decode cX10_supports 8 = .ok (.ifCond .eq 14, 3) := by decide +kernel
theorem dX10_supports_11 : decode cX10_supports 11 = .ok (.aload_n 0, 1) := by decide +kernel
theorem dX10_supports_12 : decode cX10_supports 12 = .ok (.getfield 10, 3) := by decide +kernel
theorem dX10_supports_15 : decode cX10_supports 15 = .ok (.iload_n 2, 1) := by decide +kernel
theorem dX10_supports_16 : decode cX10_supports 16 = .ok (.invokevirtual 108, 3) := by decide +kernel
theorem dX10_supports_19 : decode cX10_supports 19 = .ok (.ifCond .ne 9, 3) := by decide +kernel
theorem dX10_supports_22 : decode cX10_supports 22 = .ok (.aload_n 0, 1) := by decide +kernel
theorem dX10_supports_23 : decode cX10_supports 23 = .ok (.iconst (-1), 1) := by decide +kernel
theorem dX10_supports_24 : decode cX10_supports 24 = .ok (.invokevirtual 78, 3) := by decide +kernel
theorem dX10_supports_27 : decode cX10_supports 27 = .ok (.ireturn, 1) := by decide +kernel
theorem dX10_supports_28 : decode cX10_supports 28 = .ok (.iload_n 1, 1) := by decide +kernel
theorem dX10_supports_29 : decode cX10_supports 29 = .ok (.iload_n 2, 1) := by decide +kernel
theorem dX10_supports_30 : decode cX10_supports 30 = .ok (.if_icmp .ne 10, 3) := by decide +kernel
theorem dX10_supports_33 : decode cX10_supports 33 = .ok (.aload_n 0, 1) := by decide +kernel
theorem dX10_supports_34 : decode cX10_supports 34 = .ok (.bipush (-3), 2) := by decide +kernel
theorem dX10_supports_36 : decode cX10_supports 36 = .ok (.invokevirtual 78, 3) := by decide +kernel
theorem dX10_supports_39 : decode cX10_supports 39 = .ok (.ireturn, 1) := by decide +kernel
theorem dX10_supports_40 : decode cX10_supports 40 = .ok (.aload_n 0, 1) := by decide +kernel
theorem dX10_supports_41 : decode cX10_supports 41 = .ok (.getfield 10, 3) := by decide +kernel
theorem dX10_supports_44 : decode cX10_supports 44 = .ok (.iload_n 1, 1) := by decide +kernel
theorem dX10_supports_45 : decode cX10_supports 45 = .ok (.iload_n 2, 1) := by decide +kernel
theorem dX10_supports_46 : decode cX10_supports 46 = .ok (.invokevirtual 141, 3) := by decide +kernel
theorem dX10_supports_49 : decode cX10_supports 49 = .ok (.aload_n 0, 1) := by decide +kernel
theorem dX10_supports_50 : decode cX10_supports 50 = .ok (.getfield 10, 3) := by decide +kernel
theorem dX10_supports_53 : decode cX10_supports 53 = .ok (.getfield 144, 3) := by decide +kernel
theorem dX10_supports_56 : decode cX10_supports 56 = .ok (.iload_n 1, 1) := by decide +kernel
theorem dX10_supports_57 : decode cX10_supports 57 = .ok (.iload_n 2, 1) := by decide +kernel
theorem dX10_supports_58 : decode cX10_supports 58 = .ok (.invokestatic 135, 3) := by decide +kernel
theorem dX10_supports_61 : decode cX10_supports 61 = .ok (.ifCond .eq 7, 3) := by decide +kernel
theorem dX10_supports_64 : decode cX10_supports 64 = .ok (.iconst 1, 1) := by decide +kernel
theorem dX10_supports_65 : decode cX10_supports 65 = .ok (.goto 4, 3) := by decide +kernel
theorem dX10_supports_68 : decode cX10_supports 68 = .ok (.iconst 0, 1) := by decide +kernel
theorem dX10_supports_69 : decode cX10_supports 69 = .ok (.ireturn, 1) := by decide +kernel
set_option maxRecDepth 20000 in
theorem ggX10_mode_X10_refuse : GoodIn wsX10_mode wsX10_refuse := goodIn_r _ [7, 8, 9, 10, 11, 12, 13, 14, 15, 16, 17, 18, 19] (by decide +kernel) (by decide +kernel)
set_option maxRecDepth 20000 in
theorem gX10_mode_X10_refuse : GoodIn wsX10_mode (wsV RX10 78 RX10 yX10_refuse wsX10_refuse) := goodIn_app (goodIn_of _ (by decide +kernel)) ggX10_mode_X10_refuse
theorem dX10_mode_0 : decode cX10_mode 0 = .ok (.iload_n 1, 1) := by decide +kernel
theorem dX10_mode_1 : decode cX10_mode 1 = .ok (.ifCond .ge 10, 3) := by decide +kernel
theorem dX10_mode_4 : decode cX10_mode 4 = .ok (.aload_n 0, 1) := by decide +kernel
theorem dX10_mode_5 : decode cX10_mode 5 = .ok (.bipush (-4), 2) := by decide +kernel
theorem dX10_mode_7 : decode cX10_mode 7 = .ok (.invokevirtual 78, 3) := by decide +kernel
theorem dX10_mode_10 : decode cX10_mode 10 = .ok (.ireturn, 1) := by decide +kernel
theorem dX10_mode_11 : decode cX10_mode 11 = .ok (.iload_n 1, 1) := by decide +kernel
theorem dX10_mode_12 : decode cX10_mode 12 = .ok (.iconst 4, 1) := by decide +kernel
theorem dX10_mode_13 : decode cX10_mode 13 = .ok (.if_icmp .lt 10, 3) := by decide +kernel
theorem dX10_mode_16 : decode cX10_mode 16 = .ok (.aload_n 0, 1) := by decide +kernel
theorem dX10_mode_17 : decode cX10_mode 17 = .ok (.bipush (-6), 2) := by decide +kernel
theorem dX10_mode_19 : decode cX10_mode 19 = .ok (.invokevirtual 78, 3) := by decide +kernel
theorem dX10_mode_22 : decode cX10_mode 22 = .ok (.ireturn, 1) := by decide +kernel
theorem dX10_mode_23 : decode cX10_mode 23 = .ok (.aload_n 0, 1) := by decide +kernel
theorem dX10_mode_24 : decode cX10_mode 24 = .ok (.getfield 10, 3) := by decide +kernel
theorem dX10_mode_27 : decode cX10_mode 27 = .ok (.getfield 147, 3) := by decide +kernel
theorem dX10_mode_30 : decode cX10_mode 30 = .ok (.istore_n 2, 1) := by decide +kernel
theorem dX10_mode_31 : decode cX10_mode 31 = .ok (.aload_n 0, 1) := by decide +kernel
theorem dX10_mode_32 : decode cX10_mode 32 = .ok (.getfield 10, 3) := by decide +kernel
theorem dX10_mode_35 : decode cX10_mode 35 = .ok (.iload_n 1, 1) := by decide +kernel
theorem dX10_mode_36 : decode cX10_mode 36 = .ok (.putfield 147, 3) := by decide +kernel
theorem dX10_mode_39 : decode cX10_mode 39 = .ok (.iload_n 2, 1) := by decide +kernel
theorem dX10_mode_40 : decode cX10_mode 40 = .ok (.ireturn, 1) := by decide +kernel
set_option maxRecDepth 20000 in
theorem ggX10_claim_X3_knows : GoodIn wsX10_claim wsX3_knows := goodIn_r _ [13, 14, 113, 114, 115, 116, 117, 118, 119, 120] (by decide +kernel) (by decide +kernel)
set_option maxRecDepth 20000 in
theorem gX10_claim_X3_knows : GoodIn wsX10_claim (wsV RX10 108 RX3 yX3_knows wsX3_knows) := goodIn_app (goodIn_of _ (by decide +kernel)) ggX10_claim_X3_knows
set_option maxRecDepth 20000 in
theorem ggX10_claim_X10_refuse : GoodIn wsX10_claim wsX10_refuse := goodIn_r _ [19, 20, 102, 103, 104, 105, 106, 107, 108, 109, 110, 111, 112] (by decide +kernel) (by decide +kernel)
set_option maxRecDepth 20000 in
theorem gX10_claim_X10_refuse : GoodIn wsX10_claim (wsV RX10 78 RX10 yX10_refuse wsX10_refuse) := goodIn_app (goodIn_of _ (by decide +kernel)) ggX10_claim_X10_refuse
set_option maxRecDepth 20000 in
theorem ggX10_claim_X1_reckon : GoodIn wsX10_claim wsX1_reckon := goodIn_r _ [25, 26, 27, 28, 29, 30, 31, 32, 33, 34, 24, 35, 36, 37, 38, 39, 40, 12, 41, 42, 43, 44, 45, 46, 47, 48, 49, 50, 51, 52, 53, 54, 55, 56, 57, 58, 59, 60, 61, 62, 63, 64, 65, 66, 67, 68, 69, 70, 71, 72, 73, 74, 75, 76, 77, 78, 79, 80, 81, 82, 83, 84, 85, 86, 121, 122, 123, 124, 113, 114, 115, 116, 117, 118, 119, 120] (by decide +kernel) (by decide +kernel)
set_option maxRecDepth 20000 in
theorem gX10_claim_X1_reckon : GoodIn wsX10_claim (wsV RX10 150 RX1 yX1_reckon wsX1_reckon) := goodIn_app (goodIn_of _ (by decide +kernel)) ggX10_claim_X1_reckon
set_option maxRecDepth 20000 in
theorem ggX10_claim_X3_kindOf : GoodIn wsX10_claim wsX3_kindOf := goodIn_r _ [50, 51, 43, 44, 45, 46, 113, 114, 115, 116, 117, 118, 119, 120] (by decide +kernel) (by decide +kernel)
set_option maxRecDepth 20000 in
theorem gX10_claim_X3_kindOf : GoodIn wsX10_claim (wsV RX10 117 RX3 yX3_kindOf wsX3_kindOf) := goodIn_app (goodIn_of _ (by decide +kernel)) ggX10_claim_X3_kindOf
set_option maxRecDepth 20000 in
theorem ggX10_claim_X3_figureOf : GoodIn wsX10_claim wsX3_figureOf := goodIn_r _ [41, 42, 43, 44, 45, 46, 113, 114, 115, 116, 117, 118, 119, 120] (by decide +kernel) (by decide +kernel)
set_option maxRecDepth 20000 in
theorem gX10_claim_X3_figureOf : GoodIn wsX10_claim (wsV RX10 120 RX3 yX3_figureOf wsX3_figureOf) := goodIn_app (goodIn_of _ (by decide +kernel)) ggX10_claim_X3_figureOf
