theorem dX11_waysAt_147 : decode cX11_waysAt 147 = .ok (.lload 4, 2) := by decide +kernel
theorem dX11_waysAt_149 : decode cX11_waysAt 149 = .ok (.lastore, 1) := by decide +kernel
theorem dX11_waysAt_150 : decode cX11_waysAt 150 = .ok (.lload 4, 2) := by decide +kernel
theorem dX11_waysAt_152 : decode cX11_waysAt 152 = .ok (.lreturn, 1) := by decide +kernel
set_option maxRecDepth 20000 in
theorem ggX11_plays_X11_reckons : GoodIn wsX11_plays wsX11_reckons := goodIn_r _ [8, 9, 10, 11, 12, 13, 14, 15, 16, 7, 17, 18, 19, 20, 21, 22, 23, 24, 25, 26, 27, 28, 29, 30, 31, 32, 33, 34, 35, 36, 37, 38, 39, 40, 41, 42, 43, 44, 45, 46, 47, 48, 49, 50, 51, 52] (by decide +kernel) (by decide +kernel)
set_option maxRecDepth 20000 in
theorem gX11_plays_X11_reckons : GoodIn wsX11_plays (wsV RX11 86 RX11 yX11_reckons wsX11_reckons) := goodIn_app (goodIn_of _ (by decide +kernel)) ggX11_plays_X11_reckons
theorem dX11_plays_0 : decode cX11_plays 0 = .ok (.aload_n 0, 1) := by decide +kernel
theorem dX11_plays_1 : decode cX11_plays 1 = .ok (.invokevirtual 86, 3) := by decide +kernel
theorem dX11_plays_4 : decode cX11_plays 4 = .ok (.iconst 0, 1) := by decide +kernel
theorem dX11_plays_5 : decode cX11_plays 5 = .ok (.istore_n 1, 1) := by decide +kernel
theorem dX11_plays_6 : decode cX11_plays 6 = .ok (.iload_n 1, 1) := by decide +kernel
theorem dX11_plays_7 : decode cX11_plays 7 = .ok (.sipush 2048, 3) := by decide +kernel
theorem dX11_plays_10 : decode cX11_plays 10 = .ok (.if_icmp .ge 25, 3) := by decide +kernel
theorem dX11_plays_13 : decode cX11_plays 13 = .ok (.aload_n 0, 1) := by decide +kernel
theorem dX11_plays_14 : decode cX11_plays 14 = .ok (.getfield 50, 3) := by decide +kernel
theorem dX11_plays_17 : decode cX11_plays 17 = .ok (.iload_n 1, 1) := by decide +kernel
theorem dX11_plays_18 : decode cX11_plays 18 = .ok (.iconst (-1), 1) := by decide +kernel
theorem dX11_plays_19 : decode cX11_plays 19 = .ok (.iastore, 1) := by decide +kernel
theorem dX11_plays_20 : decode cX11_plays 20 = .ok (.aload_n 0, 1) := by decide +kernel
theorem dX11_plays_21 : decode cX11_plays 21 = .ok (.getfield 53, 3) := by decide +kernel
theorem dX11_plays_24 : decode cX11_plays 24 = .ok (.iload_n 1, 1) := by decide +kernel
theorem dX11_plays_25 : decode cX11_plays 25 = .ok (.ldc2_w 247, 3) := by decide +kernel
theorem dX11_plays_28 : decode cX11_plays 28 = .ok (.lastore, 1) := by decide +kernel
theorem dX11_plays_29 : decode cX11_plays 29 = .ok (.iinc 1 1, 3) := by decide +kernel
theorem dX11_plays_32 : decode cX11_plays 32 = .ok (.goto (-26), 3) := by decide +kernel
theorem dX11_plays_35 : decode cX11_plays 35 = .ok (.return_, 1) := by decide +kernel
set_option maxRecDepth 20000 in
theorem ggX11_game_X11_isClaim : GoodIn wsX11_game wsX11_isClaim := goodIn_r _ [5, 6, 7, 8, 4, 9, 62, 63, 64, 65, 66, 67, 68, 69, 70, 71, 72, 73, 74, 75, 76, 77, 78, 79, 80, 81, 82, 83, 84, 85] (by decide +kernel) (by decide +kernel)
set_option maxRecDepth 20000 in
theorem gX11_game_X11_isClaim : GoodIn wsX11_game (wsV RX11 167 RX11 yX11_isClaim wsX11_isClaim) := goodIn_app (goodIn_of _ (by decide +kernel)) ggX11_game_X11_isClaim
set_option maxRecDepth 20000 in
theorem ggX11_game_X11_refused : GoodIn wsX11_game wsX11_refused := goodIn_r _ [13, 14, 62, 63, 64, 65, 66, 67, 68, 69, 70, 71, 72, 73, 74, 75, 76, 77, 78, 79, 80, 81, 82, 83, 84, 85] (by decide +kernel) (by decide +kernel)
set_option maxRecDepth 20000 in
theorem gX11_game_X11_refused : GoodIn wsX11_game (wsV RX11 200 RX11 yX11_refused wsX11_refused) := goodIn_app (goodIn_of _ (by decide +kernel)) ggX11_game_X11_refused
set_option maxRecDepth 20000 in
theorem ggX11_game_X11_isHeard : GoodIn wsX11_game wsX11_isHeard := goodIn_r _ [18, 6, 19, 20, 4, 21, 62, 63, 64, 65, 66, 67, 68, 69, 70, 71, 72, 73, 74, 75, 76, 77, 78, 79, 80, 81, 82, 83, 84, 85] (by decide +kernel) (by decide +kernel)
set_option maxRecDepth 20000 in
theorem gX11_game_X11_isHeard : GoodIn wsX11_game (wsV RX11 69 RX11 yX11_isHeard wsX11_isHeard) := goodIn_app (goodIn_of _ (by decide +kernel)) ggX11_game_X11_isHeard
set_option maxRecDepth 20000 in
theorem ggX11_game_X11_in : GoodIn wsX11_game wsX11_in := goodIn_r _ [9] (by decide +kernel) (by decide +kernel)
set_option maxRecDepth 20000 in
theorem gX11_game_X11_in : GoodIn wsX11_game (va_wsS RX11 57 yX11_in wsX11_in) := goodIn_app (goodIn_of _ (by decide +kernel)) ggX11_game_X11_in
set_option maxRecDepth 20000 in
theorem ggX11_game_X11_plays : GoodIn wsX11_game wsX11_plays := goodIn_r _ [25, 26, 27, 28, 29, 30, 31, 4, 32, 33, 34, 6, 35, 36, 15, 16, 17, 18, 19, 20, 21, 37, 38, 39, 40, 41, 42, 43, 44, 62, 63, 64, 65, 66, 67, 68, 69, 70, 71, 72, 73, 74, 75, 76, 77, 78, 79, 80, 81, 82, 83, 84, 85] (by decide +kernel) (by decide +kernel)
set_option maxRecDepth 20000 in
theorem gX11_game_X11_plays : GoodIn wsX11_game (wsV RX11 249 RX11 yX11_plays wsX11_plays) := goodIn_app (goodIn_of _ (by decide +kernel)) ggX11_game_X11_plays
set_option maxRecDepth 20000 in
theorem ggX11_game_X11_depthAt : GoodIn wsX11_game wsX11_depthAt := goodIn_r _ [48, 26, 49, 50, 51, 4, 52, 6, 36, 19, 20, 21, 45, 46, 47, 53, 54, 55, 56, 62, 63, 64, 65, 66, 67, 68, 69, 70, 71, 72, 73, 74, 75, 76, 77, 78, 79, 80, 81, 82, 83, 84, 85] (by decide +kernel) (by decide +kernel)
set_option maxRecDepth 20000 in
theorem gX11_game_X11_depthAt : GoodIn wsX11_game (wsV RX11 238 RX11 yX11_depthAt wsX11_depthAt) := goodIn_app (goodIn_of _ (by decide +kernel)) ggX11_game_X11_depthAt
set_option maxRecDepth 20000 in
theorem ggX11_game_X11_waysAt : GoodIn wsX11_game wsX11_waysAt := goodIn_r _ [60, 27, 6, 36, 61, 19, 20, 4, 21, 57, 58, 59, 62, 63, 64, 65, 66, 67, 68, 69, 70, 71, 72, 73, 74, 75, 76, 77, 78, 79, 80, 81, 82, 83, 84, 85] (by decide +kernel) (by decide +kernel)
set_option maxRecDepth 20000 in
theorem gX11_game_X11_waysAt : GoodIn wsX11_game (wsV RX11 241 RX11 yX11_waysAt wsX11_waysAt) := goodIn_app (goodIn_of _ (by decide +kernel)) ggX11_game_X11_waysAt
theorem dX11_game_0 : decode cX11_game 0 = .ok (.aload_n 0, 1) := by decide +kernel
theorem dX11_game_1 : decode cX11_game 1 = .ok (.iload_n 1, 1) := by decide +kernel
theorem dX11_game_2 : decode cX11_game 2 = .ok (.invokevirtual 167, 3) := by decide +kernel
theorem dX11_game_5 : decode cX11_game 5 = .ok (.ifCond .ne 9, 3) := by decide +kernel
theorem dX11_game_8 : decode cX11_game 8 = .ok (.aload_n 0, 1) := by decide +kernel
theorem dX11_game_9 : decode cX11_game 9 = .ok (.iconst (-1), 1) := by decide +kernel
theorem dX11_game_10 : decode cX11_game 10 = .ok (.invokevirtual 200, 3) := by decide +kernel
theorem dX11_game_13 : decode cX11_game 13 = .ok (.ireturn, 1) := by decide +kernel
theorem dX11_game_14 : decode cX11_game 14 = .ok (.aload_n 0, 1) := by decide +kernel
theorem dX11_game_15 : decode cX11_game 15 = .ok (.iload_n 1, 1) := by decide +kernel
theorem dX11_game_16 : decode cX11_game 16 = .ok (.invokevirtual 69, 3) := by decide +kernel
theorem dX11_game_19 : decode cX11_game 19 = .ok (.ifCond .ne 10, 3) := by decide +kernel
theorem dX11_game_22 : decode cX11_game 22 = .ok (.aload_n 0, 1) := by decide +kernel
theorem dX11_game_23 : decode cX11_game 23 = .ok (.bipush (-3), 2) := by decide +kernel
theorem dX11_game_25 : decode cX11_game 25 = .ok (.invokevirtual 200, 3) := by decide +kernel
theorem dX11_game_28 : decode cX11_game 28 = .ok (.ireturn, 1) := by decide +kernel
theorem dX11_game_29 : decode cX11_game 29 = .ok (.iload_n 2, 1) := by decide +kernel
theorem dX11_game_30 : decode cX11_game 30 = .ok (.i2l, 1) := by decide +kernel
theorem dX11_game_31 : decode cX11_game 31 = .ok (.lconst 0, 1) := by decide +kernel
theorem dX11_game_32 : decode cX11_game 32 = .ok (.lconst 1, 1) := by decide +kernel
theorem dX11_game_33 : decode cX11_game 33 = .ok (.invokestatic 57, 3) := by decide +kernel
theorem dX11_game_36 : decode cX11_game 36 = .ok (.ifCond .ne 10, 3) := by decide +kernel
theorem dX11_game_39 : decode cX11_game 39 = .ok (.aload_n 0, 1) := by decide +kernel
theorem dX11_game_40 : decode cX11_game 40 = .ok (.bipush (-2), 2) := by decide +kernel
theorem dX11_game_42 : decode cX11_game 42 = .ok (.invokevirtual 200, 3) := by decide +kernel
theorem dX11_game_45 : decode cX11_game 45 = .ok (.ireturn, 1) := by decide +kernel
theorem dX11_game_46 : decode cX11_game 46 = .ok (.aload_n 0, 1) := by decide +kernel
theorem dX11_game_47 : decode cX11_game 47 = .ok (.invokevirtual 249, 3) := by decide +kernel
theorem dX11_game_50 : decode cX11_game 50 = .ok (.iload_n 2, 1) := by decide +kernel
theorem dX11_game_51 : decode cX11_game 51 = .ok (.ifCond .ne 14, 3) := by decide +kernel
theorem dX11_game_54 : decode cX11_game 54 = .ok (.aload_n 0, 1) := by decide +kernel
theorem dX11_game_55 : decode cX11_game 55 = .ok (.iconst 1, 1) := by decide +kernel
theorem dX11_game_56 : decode cX11_game 56 = .ok (.iload_n 1, 1) := by decide +kernel
theorem dX11_game_57 : decode cX11_game 57 = .ok (.ishl, 1) := by decide +kernel
theorem dX11_game_58 : decode cX11_game 58 = .ok (.iload_n 1, 1) := by decide +kernel
theorem dX11_game_59 : decode cX11_game 59 = .ok (.invokevirtual 238, 3) := by decide +kernel
theorem dX11_game_62 : decode cX11_game 62 = .ok (.goto 12, 3) := by decide +kernel
theorem dX11_game_65 : decode cX11_game 65 = .ok (.aload_n 0, 1) := by decide +kernel
theorem dX11_game_66 : decode cX11_game 66 = .ok (.iconst 1, 1) := by decide +kernel
theorem dX11_game_67 : decode cX11_game 67 = .ok (.iload_n 1, 1) := by decide +kernel
theorem dX11_game_68 : decode cX11_game 68 = .ok (.ishl, 1) := by decide +kernel
theorem dX11_game_69 : decode cX11_game 69 = .ok (.iload_n 1, 1) := by decide +kernel
theorem dX11_game_70 : decode cX11_game 70 = .ok (.invokevirtual 241, 3) := by decide +kernel
theorem dX11_game_73 : decode cX11_game 73 = .ok (.l2i, 1) := by decide +kernel
theorem dX11_game_74 : decode cX11_game 74 = .ok (.ireturn, 1) := by decide +kernel
set_option maxRecDepth 20000 in
theorem ggX11_answer_X11_isClaim : GoodIn wsX11_answer wsX11_isClaim := goodIn_r _ [6, 7, 8, 9, 5, 10, 57, 58, 59, 60, 61, 62, 63, 64, 65, 66, 67, 68, 69, 70, 71, 72, 73, 74, 75, 76, 77, 78, 79, 80] (by decide +kernel) (by decide +kernel)
set_option maxRecDepth 20000 in
theorem gX11_answer_X11_isClaim : GoodIn wsX11_answer (wsV RX11 167 RX11 yX11_isClaim wsX11_isClaim) := goodIn_app (goodIn_of _ (by decide +kernel)) ggX11_answer_X11_isClaim
set_option maxRecDepth 20000 in
theorem ggX11_answer_X11_refused : GoodIn wsX11_answer wsX11_refused := goodIn_r _ [14, 15, 57, 58, 59, 60, 61, 62, 63, 64, 65, 66, 67, 68, 69, 70, 71, 72, 73, 74, 75, 76, 77, 78, 79, 80] (by decide +kernel) (by decide +kernel)
set_option maxRecDepth 20000 in
theorem gX11_answer_X11_refused : GoodIn wsX11_answer (wsV RX11 200 RX11 yX11_refused wsX11_refused) := goodIn_app (goodIn_of _ (by decide +kernel)) ggX11_answer_X11_refused
set_option maxRecDepth 20000 in
theorem ggX11_answer_X11_plays : GoodIn wsX11_answer wsX11_plays := goodIn_r _ [19, 20, 21, 22, 23, 24, 25, 5, 26, 27, 28, 7, 29, 1, 30, 31, 32, 33, 34, 35, 36, 37, 38, 39, 40, 41, 42, 43, 44, 57, 58, 59, 60, 61, 62, 63, 64, 65, 66, 67, 68, 69, 70, 71, 72, 73, 74, 75, 76, 77, 78, 79, 80] (by decide +kernel) (by decide +kernel)
set_option maxRecDepth 20000 in
theorem gX11_answer_X11_plays : GoodIn wsX11_answer (wsV RX11 249 RX11 yX11_plays wsX11_plays) := goodIn_app (goodIn_of _ (by decide +kernel)) ggX11_answer_X11_plays
set_option maxRecDepth 20000 in
theorem ggX11_answer_X11_has : GoodIn wsX11_answer wsX11_has := goodIn_r _ [36] (by decide +kernel) (by decide +kernel)
set_option maxRecDepth 20000 in
theorem gX11_answer_X11_has : GoodIn wsX11_answer (va_wsS RX11 61 yX11_has wsX11_has) := goodIn_app (goodIn_of _ (by decide +kernel)) ggX11_answer_X11_has
set_option maxRecDepth 20000 in
theorem ggX11_answer_X11_depthAt : GoodIn wsX11_answer wsX11_depthAt := goodIn_r _ [48, 20, 49, 50, 51, 5, 52, 7, 1, 34, 35, 36, 45, 46, 47, 53, 54, 55, 56, 57, 58, 59, 60, 61, 62, 63, 64, 65, 66, 67, 68, 69, 70, 71, 72, 73, 74, 75, 76, 77, 78, 79, 80] (by decide +kernel) (by decide +kernel)
set_option maxRecDepth 20000 in
theorem gX11_answer_X11_depthAt : GoodIn wsX11_answer (wsV RX11 238 RX11 yX11_depthAt wsX11_depthAt) := goodIn_app (goodIn_of _ (by decide +kernel)) ggX11_answer_X11_depthAt
set_option maxRecDepth 20000 in
theorem ggX11_answer_X11_answered : GoodIn wsX11_answer wsX11_answered := goodIn_r _ [52, 7, 1, 34, 35, 5, 36, 45, 46, 47, 53, 54, 55, 56, 49, 50, 51, 48, 20, 57, 58, 59, 60, 61, 62, 63, 64, 65, 66, 67, 68, 69, 70, 71, 72, 73, 74, 75, 76, 77, 78, 79, 80] (by decide +kernel) (by decide +kernel)
set_option maxRecDepth 20000 in
theorem gX11_answer_X11_answered : GoodIn wsX11_answer (wsV RX11 231 RX11 yX11_answered wsX11_answered) := goodIn_app (goodIn_of _ (by decide +kernel)) ggX11_answer_X11_answered
theorem dX11_answer_0 : decode cX11_answer 0 = .ok (.aload_n 0, 1) := by decide +kernel
theorem dX11_answer_1 : decode cX11_answer 1 = .ok (.iload_n 1, 1) := by decide +kernel
theorem dX11_answer_2 : decode cX11_answer 2 = .ok (.invokevirtual 167, 3) := by decide +kernel
theorem dX11_answer_5 : decode cX11_answer 5 = .ok (.ifCond .eq 11, 3) := by decide +kernel
theorem dX11_answer_8 : decode cX11_answer 8 = .ok (.aload_n 0, 1) := by decide +kernel
theorem dX11_answer_9 : decode cX11_answer 9 = .ok (.iload_n 2, 1) := by decide +kernel
theorem dX11_answer_10 : decode cX11_answer 10 = .ok (.invokevirtual 167, 3) := by decide +kernel
theorem dX11_answer_13 : decode cX11_answer 13 = .ok (.ifCond .ne 9, 3) := by decide +kernel
theorem dX11_answer_16 : decode cX11_answer 16 = .ok (.aload_n 0, 1) := by decide +kernel
theorem dX11_answer_17 : decode cX11_answer 17 = .ok (.iconst (-1), 1) := by decide +kernel
theorem dX11_answer_18 : decode cX11_answer 18 = .ok (.invokevirtual 200, 3) := by decide +kernel
theorem dX11_answer_21 : decode cX11_answer 21 = .ok (.ireturn, 1) := by decide +kernel
theorem dX11_answer_22 : decode cX11_answer 22 = .ok (.aload_n 0, 1) := by decide +kernel
theorem dX11_answer_23 : decode cX11_answer 23 = .ok (.invokevirtual 249, 3) := by decide +kernel
theorem dX11_answer_26 : decode cX11_answer 26 = .ok (.aload_n 0, 1) := by decide +kernel
theorem dX11_answer_27 : decode cX11_answer 27 = .ok (.getfield 37, 3) := by decide +kernel
theorem dX11_answer_30 : decode cX11_answer 30 = .ok (.iload_n 1, 1) := by decide +kernel
theorem dX11_answer_31 : decode cX11_answer 31 = .ok (.iaload, 1) := by decide +kernel
theorem dX11_answer_32 : decode cX11_answer 32 = .ok (.iload_n 2, 1) := by decide +kernel
theorem dX11_answer_33 : decode cX11_answer 33 = .ok (.invokestatic 61, 3) := by decide +kernel
theorem dX11_answer_36 : decode cX11_answer 36 = .ok (.ifCond .ne 10, 3) := by decide +kernel
theorem dX11_answer_39 : decode cX11_answer 39 = .ok (.aload_n 0, 1) := by decide +kernel
theorem dX11_answer_40 : decode cX11_answer 40 = .ok (.bipush (-3), 2) := by decide +kernel
theorem dX11_answer_42 : decode cX11_answer 42 = .ok (.invokevirtual 200, 3) := by decide +kernel
theorem dX11_answer_45 : decode cX11_answer 45 = .ok (.ireturn, 1) := by decide +kernel
theorem dX11_answer_46 : decode cX11_answer 46 = .ok (.aload_n 0, 1) := by decide +kernel
theorem dX11_answer_47 : decode cX11_answer 47 = .ok (.iconst 1, 1) := by decide +kernel
theorem dX11_answer_48 : decode cX11_answer 48 = .ok (.iload_n 1, 1) := by decide +kernel
theorem dX11_answer_49 : decode cX11_answer 49 = .ok (.ishl, 1) := by decide +kernel
theorem dX11_answer_50 : decode cX11_answer 50 = .ok (.iload_n 1, 1) := by decide +kernel
theorem dX11_answer_51 : decode cX11_answer 51 = .ok (.invokevirtual 238, 3) := by decide +kernel
theorem dX11_answer_54 : decode cX11_answer 54 = .ok (.ifCond .ge 8, 3) := by decide +kernel
theorem dX11_answer_57 : decode cX11_answer 57 = .ok (.bipush (-9), 2) := by decide +kernel
theorem dX11_answer_59 : decode cX11_answer 59 = .ok (.goto 11, 3) := by decide +kernel
theorem dX11_answer_62 : decode cX11_answer 62 = .ok (.aload_n 0, 1) := by decide +kernel
theorem dX11_answer_63 : decode cX11_answer 63 = .ok (.iconst 1, 1) := by decide +kernel
theorem dX11_answer_64 : decode cX11_answer 64 = .ok (.iload_n 1, 1) := by decide +kernel
theorem dX11_answer_65 : decode cX11_answer 65 = .ok (.ishl, 1) := by decide +kernel
theorem dX11_answer_66 : decode cX11_answer 66 = .ok (.iload_n 2, 1) := by decide +kernel
theorem dX11_answer_67 : decode cX11_answer 67 = .ok (.invokevirtual 231, 3) := by decide +kernel
theorem dX11_answer_70 : decode cX11_answer 70 = .ok (.ireturn, 1) := by decide +kernel
set_option maxRecDepth 20000 in
theorem ggX11_isIn_X11_turnsAll : GoodIn wsX11_isIn wsX11_turnsAll := goodIn_r _ [6, 1, 7, 8, 9, 10, 11, 12, 13, 5, 14, 15, 16, 17, 18, 19, 20, 21, 22, 23, 24, 25, 26, 27, 28, 29, 30, 31, 32, 33, 34, 35, 36, 37, 38, 39, 40, 41, 42, 43, 44, 45, 46, 47, 48, 49, 50, 51, 52, 53, 54, 55, 56, 57, 58, 59, 60, 61] (by decide +kernel) (by decide +kernel)
set_option maxRecDepth 20000 in
theorem gX11_isIn_X11_turnsAll : GoodIn wsX11_isIn (wsV RX11 216 RX11 yX11_turnsAll wsX11_turnsAll) := goodIn_app (goodIn_of _ (by decide +kernel)) ggX11_isIn_X11_turnsAll
set_option maxRecDepth 20000 in
theorem ggX11_isIn_X11_has : GoodIn wsX11_isIn wsX11_has := goodIn_r _ [25] (by decide +kernel) (by decide +kernel)
set_option maxRecDepth 20000 in
theorem gX11_isIn_X11_has : GoodIn wsX11_isIn (va_wsS RX11 61 yX11_has wsX11_has) := goodIn_app (goodIn_of _ (by decide +kernel)) ggX11_isIn_X11_has
theorem dX11_isIn_0 : decode cX11_isIn 0 = .ok (.aload_n 0, 1) := by decide +kernel
theorem dX11_isIn_1 : decode cX11_isIn 1 = .ok (.invokevirtual 216, 3) := by decide +kernel
theorem dX11_isIn_4 : decode cX11_isIn 4 = .ok (.aload_n 0, 1) := by decide +kernel
theorem dX11_isIn_5 : decode cX11_isIn 5 = .ok (.getfield 79, 3) := by decide +kernel
theorem dX11_isIn_8 : decode cX11_isIn 8 = .ok (.iload_n 1, 1) := by decide +kernel
theorem dX11_isIn_9 : decode cX11_isIn 9 = .ok (.invokestatic 61, 3) := by decide +kernel
theorem dX11_isIn_12 : decode cX11_isIn 12 = .ok (.ireturn, 1) := by decide +kernel
set_option maxRecDepth 20000 in
theorem ggX11_changes_X11_isClaim : GoodIn wsX11_changes wsX11_isClaim := goodIn_r _ [6, 1, 7, 8, 5, 9, 54, 55, 56, 57, 58, 59, 60, 61, 62, 63, 64, 65, 66, 67, 68, 69, 70, 71, 72, 73, 74, 75, 76, 77] (by decide +kernel) (by decide +kernel)
set_option maxRecDepth 20000 in
theorem gX11_changes_X11_isClaim : GoodIn wsX11_changes (wsV RX11 167 RX11 yX11_isClaim wsX11_isClaim) := goodIn_app (goodIn_of _ (by decide +kernel)) ggX11_changes_X11_isClaim
set_option maxRecDepth 20000 in
theorem ggX11_changes_X11_refused : GoodIn wsX11_changes wsX11_refused := goodIn_r _ [13, 14, 54, 55, 56, 57, 58, 59, 60, 61, 62, 63, 64, 65, 66, 67, 68, 69, 70, 71, 72, 73, 74, 75, 76, 77] (by decide +kernel) (by decide +kernel)
set_option maxRecDepth 20000 in
theorem gX11_changes_X11_refused : GoodIn wsX11_changes (wsV RX11 200 RX11 yX11_refused wsX11_refused) := goodIn_app (goodIn_of _ (by decide +kernel)) ggX11_changes_X11_refused
set_option maxRecDepth 20000 in
theorem ggX11_changes_X11_isHeard : GoodIn wsX11_changes wsX11_isHeard := goodIn_r _ [18, 1, 19, 20, 5, 21, 54, 55, 56, 57, 58, 59, 60, 61, 62, 63, 64, 65, 66, 67, 68, 69, 70, 71, 72, 73, 74, 75, 76, 77] (by decide +kernel) (by decide +kernel)
set_option maxRecDepth 20000 in
theorem gX11_changes_X11_isHeard : GoodIn wsX11_changes (wsV RX11 69 RX11 yX11_isHeard wsX11_isHeard) := goodIn_app (goodIn_of _ (by decide +kernel)) ggX11_changes_X11_isHeard
set_option maxRecDepth 20000 in
theorem ggX11_changes_X11_in : GoodIn wsX11_changes wsX11_in := goodIn_r _ [9] (by decide +kernel) (by decide +kernel)
set_option maxRecDepth 20000 in
theorem gX11_changes_X11_in : GoodIn wsX11_changes (va_wsS RX11 57 yX11_in wsX11_in) := goodIn_app (goodIn_of _ (by decide +kernel)) ggX11_changes_X11_in
set_option maxRecDepth 20000 in
theorem ggX11_changes_X11_isIn : GoodIn wsX11_changes wsX11_isIn := goodIn_r _ [25, 26, 27, 28, 29, 5, 30, 31, 32, 33, 34, 35, 36, 37, 38, 39, 40, 1, 41, 15, 16, 17, 18, 19, 20, 21, 42, 43, 44, 45, 46, 47, 48, 49, 50, 51, 52, 53, 54, 55, 56, 57, 58, 59, 60, 61, 62, 63, 64, 65, 66, 67, 68, 69, 70, 71, 72, 73, 74, 75, 76, 77] (by decide +kernel) (by decide +kernel)
set_option maxRecDepth 20000 in
theorem gX11_changes_X11_isIn : GoodIn wsX11_changes (wsV RX11 252 RX11 yX11_isIn wsX11_isIn) := goodIn_app (goodIn_of _ (by decide +kernel)) ggX11_changes_X11_isIn
theorem dX11_changes_0 : decode cX11_changes 0 = .ok (.aload_n 0, 1) := by decide +kernel
theorem dX11_changes_1 : decode cX11_changes 1 = .ok (.iload_n 1, 1) := by decide +kernel
theorem dX11_changes_2 : decode cX11_changes 2 = .ok (.invokevirtual 167, 3) := by decide +kernel
theorem dX11_changes_5 : decode cX11_changes 5 = .ok (.ifCond .ne 9, 3) := by decide +kernel
theorem dX11_changes_8 : decode cX11_changes 8 = .ok (.aload_n 0, 1) := by decide +kernel
theorem dX11_changes_9 : decode cX11_changes 9 = .ok (.iconst (-1), 1) := by decide +kernel
theorem dX11_changes_10 : decode cX11_changes 10 = .ok (.invokevirtual 200, 3) := by decide +kernel
theorem dX11_changes_13 : decode cX11_changes 13 = .ok (.ireturn, 1) := by decide +kernel
theorem dX11_changes_14 : decode cX11_changes 14 = .ok (.aload_n 0, 1) := by decide +kernel
theorem dX11_changes_15 : decode cX11_changes 15 = .ok (.iload_n 1, 1) := by decide +kernel
theorem dX11_changes_16 : decode cX11_changes 16 = .ok (.invokevirtual 69, 3) := by decide +kernel
theorem dX11_changes_19 : decode cX11_changes 19 = .ok (.ifCond .ne 10, 3) := by decide +kernel
theorem dX11_changes_22 : decode cX11_changes 22 = .ok (.aload_n 0, 1) := by decide +kernel
theorem dX11_changes_23 : decode cX11_changes 23 = .ok (.bipush (-3), 2) := by decide +kernel
theorem dX11_changes_25 : decode cX11_changes 25 = .ok (.invokevirtual 200, 3) := by decide +kernel
theorem dX11_changes_28 : decode cX11_changes 28 = .ok (.ireturn, 1) := by decide +kernel
theorem dX11_changes_29 : decode cX11_changes 29 = .ok (.iload_n 2, 1) := by decide +kernel
theorem dX11_changes_30 : decode cX11_changes 30 = .ok (.i2l, 1) := by decide +kernel
theorem dX11_changes_31 : decode cX11_changes 31 = .ok (.lconst 0, 1) := by decide +kernel
theorem dX11_changes_32 : decode cX11_changes 32 = .ok (.lconst 1, 1) := by decide +kernel
theorem dX11_changes_33 : decode cX11_changes 33 = .ok (.invokestatic 57, 3) := by decide +kernel
theorem dX11_changes_36 : decode cX11_changes 36 = .ok (.ifCond .ne 10, 3) := by decide +kernel
theorem dX11_changes_39 : decode cX11_changes 39 = .ok (.aload_n 0, 1) := by decide +kernel
theorem dX11_changes_40 : decode cX11_changes 40 = .ok (.bipush (-2), 2) := by decide +kernel
theorem dX11_changes_42 : decode cX11_changes 42 = .ok (.invokevirtual 200, 3) := by decide +kernel
theorem dX11_changes_45 : decode cX11_changes 45 = .ok (.ireturn, 1) := by decide +kernel
theorem dX11_changes_46 : decode cX11_changes 46 = .ok (.aload_n 0, 1) := by decide +kernel
theorem dX11_changes_47 : decode cX11_changes 47 = .ok (.iload_n 1, 1) := by decide +kernel
theorem dX11_changes_48 : decode cX11_changes 48 = .ok (.invokevirtual 252, 3) := by decide +kernel
theorem dX11_changes_51 : decode cX11_changes 51 = .ok (.istore_n 3, 1) := by decide +kernel
theorem dX11_changes_52 : decode cX11_changes 52 = .ok (.iconst 0, 1) := by decide +kernel
theorem dX11_changes_53 : decode cX11_changes 53 = .ok (.istore 4, 2) := by decide +kernel
theorem dX11_changes_55 : decode cX11_changes 55 = .ok (.bipush (-9), 2) := by decide +kernel
theorem dX11_changes_57 : decode cX11_changes 57 = .ok (.istore 5, 2) := by decide +kernel
theorem dX11_changes_59 : decode cX11_changes 59 = .ok (.iconst 0, 1) := by decide +kernel
theorem dX11_changes_60 : decode cX11_changes 60 = .ok (.istore 6, 2) := by decide +kernel
theorem dX11_changes_62 : decode cX11_changes 62 = .ok (.iload 6, 2) := by decide +kernel
theorem dX11_changes_64 : decode cX11_changes 64 = .ok (.aload_n 0, 1) := by decide +kernel
theorem dX11_changes_65 : decode cX11_changes 65 = .ok (.getfield 9, 3) := by decide +kernel
theorem dX11_changes_68 : decode cX11_changes 68 = .ok (.bipush 42, 2) := by decide +kernel
theorem dX11_changes_70 : decode cX11_changes 70 = .ok (.iaload, 1) := by decide +kernel
theorem dX11_changes_71 : decode cX11_changes 71 = .ok (.if_icmp .ge 138, 3) := by decide +kernel
theorem dX11_changes_74 : decode cX11_changes 74 = .ok (.iconst 0, 1) := by decide +kernel
theorem dX11_changes_75 : decode cX11_changes 75 = .ok (.istore 7, 2) := by decide +kernel
theorem dX11_changes_77 : decode cX11_changes 77 = .ok (.iload 7, 2) := by decide +kernel
theorem dX11_changes_79 : decode cX11_changes 79 = .ok (.aload_n 0, 1) := by decide +kernel
theorem dX11_changes_80 : decode cX11_changes 80 = .ok (.getfield 9, 3) := by decide +kernel
theorem dX11_changes_83 : decode cX11_changes 83 = .ok (.bipush 42, 2) := by decide +kernel
theorem dX11_changes_85 : decode cX11_changes 85 = .ok (.iaload, 1) := by decide +kernel
theorem dX11_changes_86 : decode cX11_changes 86 = .ok (.if_icmp .ge 117, 3) := by decide +kernel
theorem dX11_changes_89 : decode cX11_changes 89 = .ok (.iload 6, 2) := by decide +kernel
theorem dX11_changes_91 : decode cX11_changes 91 = .ok (.iload 7, 2) := by decide +kernel
theorem dX11_changes_93 : decode cX11_changes 93 = .ok (.if_icmp .eq 104, 3) := by decide +kernel
theorem dX11_changes_96 : decode cX11_changes 96 = .ok (.aload_n 0, 1) := by decide +kernel
theorem dX11_changes_97 : decode cX11_changes 97 = .ok (.iload 6, 2) := by decide +kernel
theorem dX11_changes_99 : decode cX11_changes 99 = .ok (.invokevirtual 69, 3) := by decide +kernel
theorem dX11_changes_102 : decode cX11_changes 102 = .ok (.ifCond .eq 95, 3) := by decide +kernel
theorem dX11_changes_105 : decode cX11_changes 105 = .ok (.aload_n 0, 1) := by decide +kernel
theorem dX11_changes_106 : decode cX11_changes 106 = .ok (.iload 7, 2) := by decide +kernel
theorem dX11_changes_108 : decode cX11_changes 108 = .ok (.invokevirtual 69, 3) := by decide +kernel
theorem dX11_changes_111 : decode cX11_changes 111 = .ok (.ifCond .eq 86, 3) := by decide +kernel
theorem dX11_changes_114 : decode cX11_changes 114 = .ok (.aload_n 0, 1) := by decide +kernel
theorem dX11_changes_115 : decode cX11_changes 115 = .ok (.getfield 9, 3) := by decide +kernel
theorem dX11_changes_118 : decode cX11_changes 118 = .ok (.bipush 24, 2) := by decide +kernel
theorem dX11_changes_120 : decode cX11_changes 120 = .ok (.iload 6, 2) := by decide +kernel
theorem dX11_changes_122 : decode cX11_changes 122 = .ok (.iadd, 1) := by decide +kernel
theorem dX11_changes_123 : decode cX11_changes 123 = .ok (.dup2, 1) := by decide +kernel
theorem dX11_changes_124 : decode cX11_changes 124 = .ok (.iaload, 1) := by decide +kernel
theorem dX11_changes_125 : decode cX11_changes 125 = .ok (.iconst 1, 1) := by decide +kernel
theorem dX11_changes_126 : decode cX11_changes 126 = .ok (.iload 7, 2) := by decide +kernel
theorem dX11_changes_128 : decode cX11_changes 128 = .ok (.ishl, 1) := by decide +kernel
theorem dX11_changes_129 : decode cX11_changes 129 = .ok (.ixor, 1) := by decide +kernel
theorem dX11_changes_130 : decode cX11_changes 130 = .ok (.iastore, 1) := by decide +kernel
theorem dX11_changes_131 : decode cX11_changes 131 = .ok (.aload_n 0, 1) := by decide +kernel
theorem dX11_changes_132 : decode cX11_changes 132 = .ok (.iload_n 1, 1) := by decide +kernel
theorem dX11_changes_133 : decode cX11_changes 133 = .ok (.invokevirtual 252, 3) := by decide +kernel
theorem dX11_changes_136 : decode cX11_changes 136 = .ok (.istore 8, 2) := by decide +kernel
theorem dX11_changes_138 : decode cX11_changes 138 = .ok (.aload_n 0, 1) := by decide +kernel
theorem dX11_changes_139 : decode cX11_changes 139 = .ok (.getfield 9, 3) := by decide +kernel
theorem dX11_changes_142 : decode cX11_changes 142 = .ok (.bipush 24, 2) := by decide +kernel
theorem dX11_changes_144 : decode cX11_changes 144 = .ok (.iload 6, 2) := by decide +kernel
theorem dX11_changes_146 : decode cX11_changes 146 = .ok (.iadd, 1) := by decide +kernel
theorem dX11_changes_147 : decode cX11_changes 147 = .ok (.dup2, 1) := by decide +kernel
theorem dX11_changes_148 : decode cX11_changes 148 = .ok (.iaload, 1) := by decide +kernel
theorem dX11_changes_149 : decode cX11_changes 149 = .ok (.iconst 1, 1) := by decide +kernel
theorem dX11_changes_150 : decode cX11_changes 150 = .ok (.iload 7, 2) := by decide +kernel
theorem dX11_changes_152 : decode cX11_changes 152 = .ok (.ishl, 1) := by decide +kernel
theorem dX11_changes_153 : decode cX11_changes 153 = .ok (.ixor, 1) := by decide +kernel
theorem dX11_changes_154 : decode cX11_changes 154 = .ok (.iastore, 1) := by decide +kernel
theorem dX11_changes_155 : decode cX11_changes 155 = .ok (.iload 4, 2) := by decide +kernel
theorem dX11_changes_157 : decode cX11_changes 157 = .ok (.iload 8, 2) := by decide +kernel
theorem dX11_changes_159 : decode cX11_changes 159 = .ok (.iload_n 3, 1) := by decide +kernel
theorem dX11_changes_160 : decode cX11_changes 160 = .ok (.if_icmp .eq 7, 3) := by decide +kernel
theorem dX11_changes_163 : decode cX11_changes 163 = .ok (.iconst 1, 1) := by decide +kernel
theorem dX11_changes_164 : decode cX11_changes 164 = .ok (.goto 4, 3) := by decide +kernel
theorem dX11_changes_167 : decode cX11_changes 167 = .ok (.iconst 0, 1) := by decide +kernel
theorem dX11_changes_168 : decode cX11_changes 168 = .ok (.iadd, 1) := by decide +kernel
theorem dX11_changes_169 : decode cX11_changes 169 = .ok (.istore 4, 2) := by decide +kernel
theorem dX11_changes_171 : decode cX11_changes 171 = .ok (.iload 8, 2) := by decide +kernel
theorem dX11_changes_173 : decode cX11_changes 173 = .ok (.iload_n 3, 1) := by decide +kernel
theorem dX11_changes_174 : decode cX11_changes 174 = .ok (.if_icmp .eq 19, 3) := by decide +kernel
theorem dX11_changes_177 : decode cX11_changes 177 = .ok (.iload 5, 2) := by decide +kernel
theorem dX11_changes_179 : decode cX11_changes 179 = .ok (.ifCond .ge 14, 3) := by decide +kernel
theorem dX11_changes_182 : decode cX11_changes 182 = .ok (.bipush 10, 2) := by decide +kernel
theorem dX11_changes_184 : decode cX11_changes 184 = .ok (.iload 6, 2) := by decide +kernel
theorem dX11_changes_186 : decode cX11_changes 186 = .ok (.imul, 1) := by decide +kernel
theorem dX11_changes_187 : decode cX11_changes 187 = .ok (.iload 7, 2) := by decide +kernel
theorem dX11_changes_189 : decode cX11_changes 189 = .ok (.iadd, 1) := by decide +kernel
theorem dX11_changes_190 : decode cX11_changes 190 = .ok (.goto 5, 3) := by decide +kernel
theorem dX11_changes_193 : decode cX11_changes 193 = .ok (.iload 5, 2) := by decide +kernel
theorem dX11_changes_195 : decode cX11_changes 195 = .ok (.istore 5, 2) := by decide +kernel
theorem dX11_changes_197 : decode cX11_changes 197 = .ok (.iinc 7 1, 3) := by decide +kernel
theorem dX11_changes_200 : decode cX11_changes 200 = .ok (.goto (-123), 3) := by decide +kernel
theorem dX11_changes_203 : decode cX11_changes 203 = .ok (.iinc 6 1, 3) := by decide +kernel
theorem dX11_changes_206 : decode cX11_changes 206 = .ok (.goto (-144), 3) := by decide +kernel
theorem dX11_changes_209 : decode cX11_changes 209 = .ok (.iload_n 2, 1) := by decide +kernel
theorem dX11_changes_210 : decode cX11_changes 210 = .ok (.ifCond .ne 8, 3) := by decide +kernel
theorem dX11_changes_213 : decode cX11_changes 213 = .ok (.iload 4, 2) := by decide +kernel
theorem dX11_changes_215 : decode cX11_changes 215 = .ok (.goto 5, 3) := by decide +kernel
theorem dX11_changes_218 : decode cX11_changes 218 = .ok (.iload 5, 2) := by decide +kernel
theorem dX11_changes_220 : decode cX11_changes 220 = .ok (.ireturn, 1) := by decide +kernel
set_option maxRecDepth 20000 in
theorem ggX11_without_X11_isClaim : GoodIn wsX11_without wsX11_isClaim := goodIn_r _ [7, 1, 8, 9, 6, 10, 53, 54, 55, 56, 57, 58, 59, 60, 61, 62, 63, 64, 65, 66, 67, 68, 69, 70, 71, 72, 73, 74, 75, 76] (by decide +kernel) (by decide +kernel)
set_option maxRecDepth 20000 in
theorem gX11_without_X11_isClaim : GoodIn wsX11_without (wsV RX11 167 RX11 yX11_isClaim wsX11_isClaim) := goodIn_app (goodIn_of _ (by decide +kernel)) ggX11_without_X11_isClaim
set_option maxRecDepth 20000 in
theorem ggX11_without_X11_refused : GoodIn wsX11_without wsX11_refused := goodIn_r _ [14, 15, 53, 54, 55, 56, 57, 58, 59, 60, 61, 62, 63, 64, 65, 66, 67, 68, 69, 70, 71, 72, 73, 74, 75, 76] (by decide +kernel) (by decide +kernel)
set_option maxRecDepth 20000 in
theorem gX11_without_X11_refused : GoodIn wsX11_without (wsV RX11 200 RX11 yX11_refused wsX11_refused) := goodIn_app (goodIn_of _ (by decide +kernel)) ggX11_without_X11_refused
set_option maxRecDepth 20000 in
theorem ggX11_without_X11_turnsAll : GoodIn wsX11_without wsX11_turnsAll := goodIn_r _ [19, 2, 20, 21, 22, 23, 24, 25, 26, 6, 27, 28, 29, 1, 30, 31, 32, 33, 34, 35, 36, 37, 38, 39, 40, 41, 42, 43, 44, 45, 46, 47, 48, 49, 53, 54, 55, 56, 57, 58, 59, 60, 61, 62, 63, 64, 65, 66, 67, 68, 69, 70, 71, 72, 73, 74, 75, 76] (by decide +kernel) (by decide +kernel)
set_option maxRecDepth 20000 in
theorem gX11_without_X11_turnsAll : GoodIn wsX11_without (wsV RX11 216 RX11 yX11_turnsAll wsX11_turnsAll) := goodIn_app (goodIn_of _ (by decide +kernel)) ggX11_without_X11_turnsAll
set_option maxRecDepth 20000 in
theorem ggX11_without_X11_ones : GoodIn wsX11_without wsX11_ones := goodIn_r _ [52] (by decide +kernel) (by decide +kernel)
set_option maxRecDepth 20000 in
theorem gX11_without_X11_ones : GoodIn wsX11_without (va_wsS RX11 127 yX11_ones wsX11_ones) := goodIn_app (goodIn_of _ (by decide +kernel)) ggX11_without_X11_ones
theorem dX11_without_0 : decode cX11_without 0 = .ok (.aload_n 0, 1) := by decide +kernel
theorem dX11_without_1 : decode cX11_without 1 = .ok (.iload_n 1, 1) := by decide +kernel
theorem dX11_without_2 : decode cX11_without 2 = .ok (.invokevirtual 167, 3) := by decide +kernel
theorem dX11_without_5 : decode cX11_without 5 = .ok (.ifCond .ne 9, 3) := by decide +kernel
theorem dX11_without_8 : decode cX11_without 8 = .ok (.aload_n 0, 1) := by decide +kernel
theorem dX11_without_9 : decode cX11_without 9 = .ok (.iconst (-1), 1) := by decide +kernel
theorem dX11_without_10 : decode cX11_without 10 = .ok (.invokevirtual 200, 3) := by decide +kernel
theorem dX11_without_13 : decode cX11_without 13 = .ok (.ireturn, 1) := by decide +kernel
theorem dX11_without_14 : decode cX11_without 14 = .ok (.aload_n 0, 1) := by decide +kernel
theorem dX11_without_15 : decode cX11_without 15 = .ok (.getfield 9, 3) := by decide +kernel
theorem dX11_without_18 : decode cX11_without 18 = .ok (.bipush 40, 2) := by decide +kernel
theorem dX11_without_20 : decode cX11_without 20 = .ok (.iaload, 1) := by decide +kernel
theorem dX11_without_21 : decode cX11_without 21 = .ok (.istore_n 2, 1) := by decide +kernel
theorem dX11_without_22 : decode cX11_without 22 = .ok (.aload_n 0, 1) := by decide +kernel
theorem dX11_without_23 : decode cX11_without 23 = .ok (.getfield 9, 3) := by decide +kernel
theorem dX11_without_26 : decode cX11_without 26 = .ok (.bipush 40, 2) := by decide +kernel
theorem dX11_without_28 : decode cX11_without 28 = .ok (.dup2, 1) := by decide +kernel
theorem dX11_without_29 : decode cX11_without 29 = .ok (.iaload, 1) := by decide +kernel
theorem dX11_without_30 : decode cX11_without 30 = .ok (.iconst 1, 1) := by decide +kernel
theorem dX11_without_31 : decode cX11_without 31 = .ok (.iload_n 1, 1) := by decide +kernel
theorem dX11_without_32 : decode cX11_without 32 = .ok (.ishl, 1) := by decide +kernel
theorem dX11_without_33 : decode cX11_without 33 = .ok (.iconst (-1), 1) := by decide +kernel
theorem dX11_without_34 : decode cX11_without 34 = .ok (.ixor, 1) := by decide +kernel
theorem dX11_without_35 : decode cX11_without 35 = .ok (.iand, 1) := by decide +kernel
theorem dX11_without_36 : decode cX11_without 36 = .ok (.iastore, 1) := by decide +kernel
theorem dX11_without_37 : decode cX11_without 37 = .ok (.aload_n 0, 1) := by decide +kernel
theorem dX11_without_38 : decode cX11_without 38 = .ok (.invokevirtual 216, 3) := by decide +kernel
theorem dX11_without_41 : decode cX11_without 41 = .ok (.aload_n 0, 1) := by decide +kernel
theorem dX11_without_42 : decode cX11_without 42 = .ok (.getfield 9, 3) := by decide +kernel
theorem dX11_without_45 : decode cX11_without 45 = .ok (.bipush 40, 2) := by decide +kernel
theorem dX11_without_47 : decode cX11_without 47 = .ok (.iload_n 2, 1) := by decide +kernel
theorem dX11_without_48 : decode cX11_without 48 = .ok (.iastore, 1) := by decide +kernel
theorem dX11_without_49 : decode cX11_without 49 = .ok (.aload_n 0, 1) := by decide +kernel
theorem dX11_without_50 : decode cX11_without 50 = .ok (.getfield 79, 3) := by decide +kernel
theorem dX11_without_53 : decode cX11_without 53 = .ok (.invokestatic 127, 3) := by decide +kernel
theorem dX11_without_56 : decode cX11_without 56 = .ok (.ireturn, 1) := by decide +kernel
set_option maxRecDepth 20000 in
theorem ggX11_hasStable_X11_reckons : GoodIn wsX11_hasStable wsX11_reckons := goodIn_r _ [5, 6, 7, 8, 9, 10, 11, 12, 13, 4, 14, 15, 16, 17, 18, 19, 20, 21, 22, 23, 24, 25, 38, 39, 40, 41, 42, 43, 44, 45, 46, 47, 48, 49, 50, 51, 52, 53, 54, 55, 56, 57, 58, 59, 60, 61] (by decide +kernel) (by decide +kernel)
set_option maxRecDepth 20000 in
theorem gX11_hasStable_X11_reckons : GoodIn wsX11_hasStable (wsV RX11 86 RX11 yX11_reckons wsX11_reckons) := goodIn_app (goodIn_of _ (by decide +kernel)) ggX11_hasStable_X11_reckons
set_option maxRecDepth 20000 in
theorem ggX11_hasStable_X11_isStable : GoodIn wsX11_hasStable wsX11_isStable := goodIn_r _ [29, 8, 30, 31, 32, 4, 33, 34, 35, 36, 37, 9, 15, 16, 17, 38, 39, 40, 41, 42, 43, 44, 45, 46, 47, 48, 49, 50, 51, 52, 53, 54, 55, 56, 57, 58, 59, 60, 61] (by decide +kernel) (by decide +kernel)
set_option maxRecDepth 20000 in
theorem gX11_hasStable_X11_isStable : GoodIn wsX11_hasStable (wsV RX11 109 RX11 yX11_isStable wsX11_isStable) := goodIn_app (goodIn_of _ (by decide +kernel)) ggX11_hasStable_X11_isStable
theorem dX11_hasStable_0 : decode cX11_hasStable 0 = .ok (.aload_n 0, 1) := by decide +kernel
theorem dX11_hasStable_1 : decode cX11_hasStable 1 = .ok (.invokevirtual 86, 3) := by decide +kernel
theorem dX11_hasStable_4 : decode cX11_hasStable 4 = .ok (.iconst 0, 1) := by decide +kernel
theorem dX11_hasStable_5 : decode cX11_hasStable 5 = .ok (.istore_n 1, 1) := by decide +kernel
theorem dX11_hasStable_6 : decode cX11_hasStable 6 = .ok (.iload_n 1, 1) := by decide +kernel
theorem dX11_hasStable_7 : decode cX11_hasStable 7 = .ok (.sipush 256, 3) := by decide +kernel
theorem dX11_hasStable_10 : decode cX11_hasStable 10 = .ok (.if_icmp .ge 19, 3) := by decide +kernel
theorem dX11_hasStable_13 : decode cX11_hasStable 13 = .ok (.aload_n 0, 1) := by decide +kernel
theorem dX11_hasStable_14 : decode cX11_hasStable 14 = .ok (.iload_n 1, 1) := by decide +kernel
theorem dX11_hasStable_15 : decode cX11_hasStable 15 = .ok (.invokevirtual 109, 3) := by decide +kernel
theorem dX11_hasStable_18 : decode cX11_hasStable 18 = .ok (.ifCond .eq 5, 3) := by decide +kernel
theorem dX11_hasStable_21 : decode cX11_hasStable 21 = .ok (.iconst 1, 1) := by decide +kernel
theorem dX11_hasStable_22 : decode cX11_hasStable 22 = .ok (.ireturn, 1) := by decide +kernel
theorem dX11_hasStable_23 : decode cX11_hasStable 23 = .ok (.iinc 1 1, 3) := by decide +kernel
theorem dX11_hasStable_26 : decode cX11_hasStable 26 = .ok (.goto (-20), 3) := by decide +kernel
theorem dX11_hasStable_29 : decode cX11_hasStable 29 = .ok (.iconst 0, 1) := by decide +kernel
theorem dX11_hasStable_30 : decode cX11_hasStable 30 = .ok (.ireturn, 1) := by decide +kernel
set_option maxRecDepth 20000 in
theorem ggX11_spare_X11_in : GoodIn wsX11_spare wsX11_in := goodIn_r _ [5] (by decide +kernel) (by decide +kernel)
set_option maxRecDepth 20000 in
theorem gX11_spare_X11_in : GoodIn wsX11_spare (va_wsS RX11 57 yX11_in wsX11_in) := goodIn_app (goodIn_of _ (by decide +kernel)) ggX11_spare_X11_in
set_option maxRecDepth 20000 in
theorem ggX11_spare_X11_refused : GoodIn wsX11_spare wsX11_refused := goodIn_r _ [9, 10, 53, 54, 55, 56, 57, 58, 59, 60, 61, 62, 63, 64, 65, 66, 67, 68, 69, 70, 71, 72, 73, 74, 75, 76] (by decide +kernel) (by decide +kernel)
set_option maxRecDepth 20000 in
theorem gX11_spare_X11_refused : GoodIn wsX11_spare (wsV RX11 200 RX11 yX11_refused wsX11_refused) := goodIn_app (goodIn_of _ (by decide +kernel)) ggX11_spare_X11_refused
set_option maxRecDepth 20000 in
theorem ggX11_spare_X11_ones : GoodIn wsX11_spare wsX11_ones := goodIn_r _ [13] (by decide +kernel) (by decide +kernel)
set_option maxRecDepth 20000 in
theorem gX11_spare_X11_ones : GoodIn wsX11_spare (va_wsS RX11 127 yX11_ones wsX11_ones) := goodIn_app (goodIn_of _ (by decide +kernel)) ggX11_spare_X11_ones
set_option maxRecDepth 20000 in
theorem ggX11_spare_X11_hasStable : GoodIn wsX11_spare wsX11_hasStable := goodIn_r _ [17, 18, 19, 20, 4, 21, 22, 23, 1, 24, 25, 26, 27, 28, 29, 30, 31, 32, 33, 34, 35, 36, 37, 38, 39, 40, 41, 42, 43, 44, 45, 46, 47, 48, 49, 50, 51, 52, 53, 54, 55, 56, 57, 58, 59, 60, 61, 62, 63, 64, 65, 66, 67, 68, 69, 70, 71, 72, 73, 74, 75, 76] (by decide +kernel) (by decide +kernel)
set_option maxRecDepth 20000 in
theorem gX11_spare_X11_hasStable : GoodIn wsX11_spare (wsV RX11 255 RX11 yX11_hasStable wsX11_hasStable) := goodIn_app (goodIn_of _ (by decide +kernel)) ggX11_spare_X11_hasStable
theorem dX11_spare_0 : decode cX11_spare 0 = .ok (.iload_n 1, 1) := by decide +kernel
theorem dX11_spare_1 : decode cX11_spare 1 = .ok (.i2l, 1) := by decide +kernel
theorem dX11_spare_2 : decode cX11_spare 2 = .ok (.lconst 0, 1) := by decide +kernel
theorem dX11_spare_3 : decode cX11_spare 3 = .ok (.lconst 1, 1) := by decide +kernel
theorem dX11_spare_4 : decode cX11_spare 4 = .ok (.invokestatic 57, 3) := by decide +kernel
theorem dX11_spare_7 : decode cX11_spare 7 = .ok (.ifCond .ne 10, 3) := by decide +kernel
theorem dX11_spare_10 : decode cX11_spare 10 = .ok (.aload_n 0, 1) := by decide +kernel
theorem dX11_spare_11 : decode cX11_spare 11 = .ok (.bipush (-2), 2) := by decide +kernel
theorem dX11_spare_13 : decode cX11_spare 13 = .ok (.invokevirtual 200, 3) := by decide +kernel
theorem dX11_spare_16 : decode cX11_spare 16 = .ok (.ireturn, 1) := by decide +kernel
theorem dX11_spare_17 : decode cX11_spare 17 = .ok (.aload_n 0, 1) := by decide +kernel
theorem dX11_spare_18 : decode cX11_spare 18 = .ok (.getfield 9, 3) := by decide +kernel
theorem dX11_spare_21 : decode cX11_spare 21 = .ok (.bipush 40, 2) := by decide +kernel
theorem dX11_spare_23 : decode cX11_spare 23 = .ok (.iaload, 1) := by decide +kernel
theorem dX11_spare_24 : decode cX11_spare 24 = .ok (.istore_n 2, 1) := by decide +kernel
theorem dX11_spare_25 : decode cX11_spare 25 = .ok (.iconst (-1), 1) := by decide +kernel
theorem dX11_spare_26 : decode cX11_spare 26 = .ok (.istore_n 3, 1) := by decide +kernel
theorem dX11_spare_27 : decode cX11_spare 27 = .ok (.iconst 0, 1) := by decide +kernel
theorem dX11_spare_28 : decode cX11_spare 28 = .ok (.istore 4, 2) := by decide +kernel
theorem dX11_spare_30 : decode cX11_spare 30 = .ok (.iload 4, 2) := by decide +kernel
theorem dX11_spare_32 : decode cX11_spare 32 = .ok (.sipush 256, 3) := by decide +kernel
theorem dX11_spare_35 : decode cX11_spare 35 = .ok (.if_icmp .ge 61, 3) := by decide +kernel
theorem dX11_spare_38 : decode cX11_spare 38 = .ok (.iload 4, 2) := by decide +kernel
theorem dX11_spare_40 : decode cX11_spare 40 = .ok (.iload_n 2, 1) := by decide +kernel
theorem dX11_spare_41 : decode cX11_spare 41 = .ok (.iconst (-1), 1) := by decide +kernel
theorem dX11_spare_42 : decode cX11_spare 42 = .ok (.ixor, 1) := by decide +kernel
theorem dX11_spare_43 : decode cX11_spare 43 = .ok (.iand, 1) := by decide +kernel
theorem dX11_spare_44 : decode cX11_spare 44 = .ok (.ifCond .ne 46, 3) := by decide +kernel
theorem dX11_spare_47 : decode cX11_spare 47 = .ok (.iload_n 3, 1) := by decide +kernel
theorem dX11_spare_48 : decode cX11_spare 48 = .ok (.ifCond .lt 15, 3) := by decide +kernel
theorem dX11_spare_51 : decode cX11_spare 51 = .ok (.iload 4, 2) := by decide +kernel
theorem dX11_spare_53 : decode cX11_spare 53 = .ok (.invokestatic 127, 3) := by decide +kernel
theorem dX11_spare_56 : decode cX11_spare 56 = .ok (.iload_n 3, 1) := by decide +kernel
theorem dX11_spare_57 : decode cX11_spare 57 = .ok (.invokestatic 127, 3) := by decide +kernel
theorem dX11_spare_60 : decode cX11_spare 60 = .ok (.if_icmp .ge 30, 3) := by decide +kernel
theorem dX11_spare_63 : decode cX11_spare 63 = .ok (.aload_n 0, 1) := by decide +kernel
theorem dX11_spare_64 : decode cX11_spare 64 = .ok (.getfield 9, 3) := by decide +kernel
theorem dX11_spare_67 : decode cX11_spare 67 = .ok (.bipush 40, 2) := by decide +kernel
theorem dX11_spare_69 : decode cX11_spare 69 = .ok (.iload_n 2, 1) := by decide +kernel
theorem dX11_spare_70 : decode cX11_spare 70 = .ok (.iload 4, 2) := by decide +kernel
theorem dX11_spare_72 : decode cX11_spare 72 = .ok (.iconst (-1), 1) := by decide +kernel
theorem dX11_spare_73 : decode cX11_spare 73 = .ok (.ixor, 1) := by decide +kernel
theorem dX11_spare_74 : decode cX11_spare 74 = .ok (.iand, 1) := by decide +kernel
theorem dX11_spare_75 : decode cX11_spare 75 = .ok (.iastore, 1) := by decide +kernel
theorem dX11_spare_76 : decode cX11_spare 76 = .ok (.aload_n 0, 1) := by decide +kernel
theorem dX11_spare_77 : decode cX11_spare 77 = .ok (.invokevirtual 255, 3) := by decide +kernel
theorem dX11_spare_80 : decode cX11_spare 80 = .ok (.ifCond .eq 8, 3) := by decide +kernel
theorem dX11_spare_83 : decode cX11_spare 83 = .ok (.iload 4, 2) := by decide +kernel
theorem dX11_spare_85 : decode cX11_spare 85 = .ok (.goto 4, 3) := by decide +kernel
theorem dX11_spare_88 : decode cX11_spare 88 = .ok (.iload_n 3, 1) := by decide +kernel
theorem dX11_spare_89 : decode cX11_spare 89 = .ok (.istore_n 3, 1) := by decide +kernel
theorem dX11_spare_90 : decode cX11_spare 90 = .ok (.iinc 4 1, 3) := by decide +kernel
theorem dX11_spare_93 : decode cX11_spare 93 = .ok (.goto (-63), 3) := by decide +kernel
theorem dX11_spare_96 : decode cX11_spare 96 = .ok (.aload_n 0, 1) := by decide +kernel
theorem dX11_spare_97 : decode cX11_spare 97 = .ok (.getfield 9, 3) := by decide +kernel
theorem dX11_spare_100 : decode cX11_spare 100 = .ok (.bipush 40, 2) := by decide +kernel
theorem dX11_spare_102 : decode cX11_spare 102 = .ok (.iload_n 2, 1) := by decide +kernel
theorem dX11_spare_103 : decode cX11_spare 103 = .ok (.iastore, 1) := by decide +kernel
theorem dX11_spare_104 : decode cX11_spare 104 = .ok (.iload_n 1, 1) := by decide +kernel
theorem dX11_spare_105 : decode cX11_spare 105 = .ok (.ifCond .ne 10, 3) := by decide +kernel
theorem dX11_spare_108 : decode cX11_spare 108 = .ok (.iload_n 3, 1) := by decide +kernel
theorem dX11_spare_109 : decode cX11_spare 109 = .ok (.invokestatic 127, 3) := by decide +kernel
theorem dX11_spare_112 : decode cX11_spare 112 = .ok (.goto 4, 3) := by decide +kernel
theorem dX11_spare_115 : decode cX11_spare 115 = .ok (.iload_n 3, 1) := by decide +kernel
theorem dX11_spare_116 : decode cX11_spare 116 = .ok (.ireturn, 1) := by decide +kernel
theorem dX11_part_0 : decode cX11_part 0 = .ok (.lload_n 0, 1) := by decide +kernel
theorem dX11_part_1 : decode cX11_part 1 = .ok (.lstore 5, 2) := by decide +kernel
theorem dX11_part_3 : decode cX11_part 3 = .ok (.lload_n 2, 1) := by decide +kernel
theorem dX11_part_4 : decode cX11_part 4 = .ok (.lstore 7, 2) := by decide +kernel
theorem dX11_part_6 : decode cX11_part 6 = .ok (.lload 7, 2) := by decide +kernel
theorem dX11_part_8 : decode cX11_part 8 = .ok (.lconst 0, 1) := by decide +kernel
theorem dX11_part_9 : decode cX11_part 9 = .ok (.lcmp, 1) := by decide +kernel
theorem dX11_part_10 : decode cX11_part 10 = .ok (.ifCond .eq 21, 3) := by decide +kernel
theorem dX11_part_13 : decode cX11_part 13 = .ok (.lload 5, 2) := by decide +kernel
theorem dX11_part_15 : decode cX11_part 15 = .ok (.lload 7, 2) := by decide +kernel
theorem dX11_part_17 : decode cX11_part 17 = .ok (.lrem, 1) := by decide +kernel
theorem dX11_part_18 : decode cX11_part 18 = .ok (.lstore 9, 2) := by decide +kernel
theorem dX11_part_20 : decode cX11_part 20 = .ok (.lload 7, 2) := by decide +kernel
theorem dX11_part_22 : decode cX11_part 22 = .ok (.lstore 5, 2) := by decide +kernel
theorem dX11_part_24 : decode cX11_part 24 = .ok (.lload 9, 2) := by decide +kernel
theorem dX11_part_26 : decode cX11_part 26 = .ok (.lstore 7, 2) := by decide +kernel
theorem dX11_part_28 : decode cX11_part 28 = .ok (.goto (-22), 3) := by decide +kernel
theorem dX11_part_31 : decode cX11_part 31 = .ok (.iload 4, 2) := by decide +kernel
theorem dX11_part_33 : decode cX11_part 33 = .ok (.ifCond .ne 10, 3) := by decide +kernel
theorem dX11_part_36 : decode cX11_part 36 = .ok (.lload_n 0, 1) := by decide +kernel
theorem dX11_part_37 : decode cX11_part 37 = .ok (.lload 5, 2) := by decide +kernel
theorem dX11_part_39 : decode cX11_part 39 = .ok (.ldiv, 1) := by decide +kernel
theorem dX11_part_40 : decode cX11_part 40 = .ok (.goto 7, 3) := by decide +kernel
theorem dX11_part_43 : decode cX11_part 43 = .ok (.lload_n 2, 1) := by decide +kernel
theorem dX11_part_44 : decode cX11_part 44 = .ok (.lload 5, 2) := by decide +kernel
theorem dX11_part_46 : decode cX11_part 46 = .ok (.ldiv, 1) := by decide +kernel
theorem dX11_part_47 : decode cX11_part 47 = .ok (.lreturn, 1) := by decide +kernel
set_option maxRecDepth 20000 in
theorem ggX11_missing_X11_isClaim : GoodIn wsX11_missing wsX11_isClaim := goodIn_r _ [9, 4, 10, 11, 8, 12, 60, 61, 62, 63, 64, 65, 66, 67, 68, 69, 70, 71, 72, 73, 74, 75, 76, 77, 78, 79, 80, 81, 82, 83] (by decide +kernel) (by decide +kernel)
set_option maxRecDepth 20000 in
theorem gX11_missing_X11_isClaim : GoodIn wsX11_missing (wsV RX11 167 RX11 yX11_isClaim wsX11_isClaim) := goodIn_app (goodIn_of _ (by decide +kernel)) ggX11_missing_X11_isClaim
set_option maxRecDepth 20000 in
theorem ggX11_missing_X11_refused : GoodIn wsX11_missing wsX11_refused := goodIn_r _ [16, 17, 60, 61, 62, 63, 64, 65, 66, 67, 68, 69, 70, 71, 72, 73, 74, 75, 76, 77, 78, 79, 80, 81, 82, 83] (by decide +kernel) (by decide +kernel)
set_option maxRecDepth 20000 in
theorem gX11_missing_X11_refused : GoodIn wsX11_missing (wsV RX11 200 RX11 yX11_refused wsX11_refused) := goodIn_app (goodIn_of _ (by decide +kernel)) ggX11_missing_X11_refused
set_option maxRecDepth 20000 in
theorem ggX11_missing_X11_in : GoodIn wsX11_missing wsX11_in := goodIn_r _ [12] (by decide +kernel) (by decide +kernel)
set_option maxRecDepth 20000 in
theorem gX11_missing_X11_in : GoodIn wsX11_missing (va_wsS RX11 57 yX11_in wsX11_in) := goodIn_app (goodIn_of _ (by decide +kernel)) ggX11_missing_X11_in
set_option maxRecDepth 20000 in
theorem ggX11_missing_X11_has : GoodIn wsX11_missing wsX11_has := goodIn_r _ [20] (by decide +kernel) (by decide +kernel)
set_option maxRecDepth 20000 in
theorem gX11_missing_X11_has : GoodIn wsX11_missing (va_wsS RX11 61 yX11_has wsX11_has) := goodIn_app (goodIn_of _ (by decide +kernel)) ggX11_missing_X11_has
set_option maxRecDepth 20000 in
theorem ggX11_missing_X11_isIn : GoodIn wsX11_missing wsX11_isIn := goodIn_r _ [24, 25, 26, 27, 28, 8, 29, 30, 31, 32, 33, 34, 35, 36, 37, 38, 39, 4, 40, 41, 42, 43, 44, 18, 19, 20, 45, 46, 47, 48, 49, 50, 51, 52, 53, 54, 55, 56, 60, 61, 62, 63, 64, 65, 66, 67, 68, 69, 70, 71, 72, 73, 74, 75, 76, 77, 78, 79, 80, 81, 82, 83] (by decide +kernel) (by decide +kernel)
set_option maxRecDepth 20000 in
theorem gX11_missing_X11_isIn : GoodIn wsX11_missing (wsV RX11 252 RX11 yX11_isIn wsX11_isIn) := goodIn_app (goodIn_of _ (by decide +kernel)) ggX11_missing_X11_isIn
set_option maxRecDepth 20000 in
theorem ggX11_missing_X11_part : GoodIn wsX11_missing wsX11_part := goodIn_r _ [59] (by decide +kernel) (by decide +kernel)
set_option maxRecDepth 20000 in
theorem gX11_missing_X11_part : GoodIn wsX11_missing (va_wsS RX11 265 yX11_part wsX11_part) := goodIn_app (goodIn_of _ (by decide +kernel)) ggX11_missing_X11_part
theorem dX11_missing_0 : decode cX11_missing 0 = .ok (.aload_n 0, 1) := by decide +kernel
theorem dX11_missing_1 : decode cX11_missing 1 = .ok (.iload_n 1, 1) := by decide +kernel
theorem dX11_missing_2 : decode cX11_missing 2 = .ok (.invokevirtual 167, 3) := by decide +kernel
theorem dX11_missing_5 : decode cX11_missing 5 = .ok (.ifCond .ne 14, 3) := by decide +kernel
theorem dX11_missing_8 : decode cX11_missing 8 = .ok (.ldc2_w 259, 3) := by decide +kernel
theorem dX11_missing_11 : decode cX11_missing 11 = .ok (.aload_n 0, 1) := by decide +kernel
theorem dX11_missing_12 : decode cX11_missing 12 = .ok (.iconst (-1), 1) := by decide +kernel
theorem dX11_missing_13 : decode cX11_missing 13 = .ok (.invokevirtual 200, 3) := by decide +kernel
theorem dX11_missing_16 : decode cX11_missing 16 = .ok (.i2l, 1) := by decide +kernel
theorem dX11_missing_17 : decode cX11_missing 17 = .ok (.lsub, 1) := by decide +kernel
theorem dX11_missing_18 : decode cX11_missing 18 = .ok (.lreturn, 1) := by decide +kernel
theorem dX11_missing_19 : decode cX11_missing 19 = .ok (.iload_n 2, 1) := by decide +kernel
theorem dX11_missing_20 : decode cX11_missing 20 = .ok (.i2l, 1) := by decide +kernel
theorem dX11_missing_21 : decode cX11_missing 21 = .ok (.ldc2_w 261, 3) := by decide +kernel
theorem dX11_missing_24 : decode cX11_missing 24 = .ok (.ldc2_w 263, 3) := by decide +kernel
theorem dX11_missing_27 : decode cX11_missing 27 = .ok (.invokestatic 57, 3) := by decide +kernel
theorem dX11_missing_30 : decode cX11_missing 30 = .ok (.ifCond .ne 25, 3) := by decide +kernel
theorem dX11_missing_33 : decode cX11_missing 33 = .ok (.ldc2_w 259, 3) := by decide +kernel
theorem dX11_missing_36 : decode cX11_missing 36 = .ok (.aload_n 0, 1) := by decide +kernel
theorem dX11_missing_37 : decode cX11_missing 37 = .ok (.iload_n 2, 1) := by decide +kernel
theorem dX11_missing_38 : decode cX11_missing 38 = .ok (.iconst 2, 1) := by decide +kernel
theorem dX11_missing_39 : decode cX11_missing 39 = .ok (.if_icmp .ge 8, 3) := by decide +kernel
theorem dX11_missing_42 : decode cX11_missing 42 = .ok (.bipush (-4), 2) := by decide +kernel
theorem dX11_missing_44 : decode cX11_missing 44 = .ok (.goto 5, 3) := by decide +kernel
theorem dX11_missing_47 : decode cX11_missing 47 = .ok (.bipush (-6), 2) := by decide +kernel
theorem dX11_missing_49 : decode cX11_missing 49 = .ok (.invokevirtual 200, 3) := by decide +kernel
theorem dX11_missing_52 : decode cX11_missing 52 = .ok (.i2l, 1) := by decide +kernel
theorem dX11_missing_53 : decode cX11_missing 53 = .ok (.lsub, 1) := by decide +kernel
theorem dX11_missing_54 : decode cX11_missing 54 = .ok (.lreturn, 1) := by decide +kernel
theorem dX11_missing_55 : decode cX11_missing 55 = .ok (.iload_n 3, 1) := by decide +kernel
theorem dX11_missing_56 : decode cX11_missing 56 = .ok (.i2l, 1) := by decide +kernel
theorem dX11_missing_57 : decode cX11_missing 57 = .ok (.lconst 0, 1) := by decide +kernel
theorem dX11_missing_58 : decode cX11_missing 58 = .ok (.lconst 1, 1) := by decide +kernel
theorem dX11_missing_59 : decode cX11_missing 59 = .ok (.invokestatic 57, 3) := by decide +kernel
theorem dX11_missing_62 : decode cX11_missing 62 = .ok (.ifCond .ne 15, 3) := by decide +kernel
theorem dX11_missing_65 : decode cX11_missing 65 = .ok (.ldc2_w 259, 3) := by decide +kernel
theorem dX11_missing_68 : decode cX11_missing 68 = .ok (.aload_n 0, 1) := by decide +kernel
theorem dX11_missing_69 : decode cX11_missing 69 = .ok (.bipush (-2), 2) := by decide +kernel
theorem dX11_missing_71 : decode cX11_missing 71 = .ok (.invokevirtual 200, 3) := by decide +kernel
theorem dX11_missing_74 : decode cX11_missing 74 = .ok (.i2l, 1) := by decide +kernel
theorem dX11_missing_75 : decode cX11_missing 75 = .ok (.lsub, 1) := by decide +kernel
theorem dX11_missing_76 : decode cX11_missing 76 = .ok (.lreturn, 1) := by decide +kernel
theorem dX11_missing_77 : decode cX11_missing 77 = .ok (.aload_n 0, 1) := by decide +kernel
theorem dX11_missing_78 : decode cX11_missing 78 = .ok (.getfield 9, 3) := by decide +kernel
theorem dX11_missing_81 : decode cX11_missing 81 = .ok (.bipush 40, 2) := by decide +kernel
theorem dX11_missing_83 : decode cX11_missing 83 = .ok (.iaload, 1) := by decide +kernel
theorem dX11_missing_84 : decode cX11_missing 84 = .ok (.istore 4, 2) := by decide +kernel
theorem dX11_missing_86 : decode cX11_missing 86 = .ok (.lconst 0, 1) := by decide +kernel
theorem dX11_missing_87 : decode cX11_missing 87 = .ok (.lstore 5, 2) := by decide +kernel
theorem dX11_missing_89 : decode cX11_missing 89 = .ok (.lconst 1, 1) := by decide +kernel
theorem dX11_missing_90 : decode cX11_missing 90 = .ok (.lstore 7, 2) := by decide +kernel
theorem dX11_missing_92 : decode cX11_missing 92 = .ok (.iconst 0, 1) := by decide +kernel
theorem dX11_missing_93 : decode cX11_missing 93 = .ok (.istore 9, 2) := by decide +kernel
theorem dX11_missing_95 : decode cX11_missing 95 = .ok (.iload 9, 2) := by decide +kernel
theorem dX11_missing_97 : decode cX11_missing 97 = .ok (.iconst 5, 1) := by decide +kernel
theorem dX11_missing_98 : decode cX11_missing 98 = .ok (.if_icmp .ge 30, 3) := by decide +kernel
theorem dX11_missing_101 : decode cX11_missing 101 = .ok (.lload 7, 2) := by decide +kernel
theorem dX11_missing_103 : decode cX11_missing 103 = .ok (.iload 4, 2) := by decide +kernel
theorem dX11_missing_105 : decode cX11_missing 105 = .ok (.iload 9, 2) := by decide +kernel
theorem dX11_missing_107 : decode cX11_missing 107 = .ok (.invokestatic 61, 3) := by decide +kernel
theorem dX11_missing_110 : decode cX11_missing 110 = .ok (.ifCond .eq 8, 3) := by decide +kernel
theorem dX11_missing_113 : decode cX11_missing 113 = .ok (.iload_n 2, 1) := by decide +kernel
theorem dX11_missing_114 : decode cX11_missing 114 = .ok (.i2l, 1) := by decide +kernel
theorem dX11_missing_115 : decode cX11_missing 115 = .ok (.goto 4, 3) := by decide +kernel
theorem dX11_missing_118 : decode cX11_missing 118 = .ok (.lconst 1, 1) := by decide +kernel
theorem dX11_missing_119 : decode cX11_missing 119 = .ok (.lmul, 1) := by decide +kernel
theorem dX11_missing_120 : decode cX11_missing 120 = .ok (.lstore 7, 2) := by decide +kernel
theorem dX11_missing_122 : decode cX11_missing 122 = .ok (.iinc 9 1, 3) := by decide +kernel
theorem dX11_missing_125 : decode cX11_missing 125 = .ok (.goto (-30), 3) := by decide +kernel
theorem dX11_missing_128 : decode cX11_missing 128 = .ok (.iconst 0, 1) := by decide +kernel
theorem dX11_missing_129 : decode cX11_missing 129 = .ok (.istore 9, 2) := by decide +kernel
theorem dX11_missing_131 : decode cX11_missing 131 = .ok (.iload 9, 2) := by decide +kernel
theorem dX11_missing_133 : decode cX11_missing 133 = .ok (.bipush 32, 2) := by decide +kernel
theorem dX11_missing_135 : decode cX11_missing 135 = .ok (.if_icmp .ge 98, 3) := by decide +kernel
theorem dX11_missing_138 : decode cX11_missing 138 = .ok (.iload 9, 2) := by decide +kernel
theorem dX11_missing_140 : decode cX11_missing 140 = .ok (.iload 4, 2) := by decide +kernel
theorem dX11_missing_142 : decode cX11_missing 142 = .ok (.iconst (-1), 1) := by decide +kernel
theorem dX11_missing_143 : decode cX11_missing 143 = .ok (.ixor, 1) := by decide +kernel
theorem dX11_missing_144 : decode cX11_missing 144 = .ok (.iand, 1) := by decide +kernel
theorem dX11_missing_145 : decode cX11_missing 145 = .ok (.ifCond .ne 82, 3) := by decide +kernel
theorem dX11_missing_148 : decode cX11_missing 148 = .ok (.lconst 1, 1) := by decide +kernel
theorem dX11_missing_149 : decode cX11_missing 149 = .ok (.lstore 10, 2) := by decide +kernel
theorem dX11_missing_151 : decode cX11_missing 151 = .ok (.iconst 0, 1) := by decide +kernel
theorem dX11_missing_152 : decode cX11_missing 152 = .ok (.istore 12, 2) := by decide +kernel
theorem dX11_missing_154 : decode cX11_missing 154 = .ok (.iload 12, 2) := by decide +kernel
theorem dX11_missing_156 : decode cX11_missing 156 = .ok (.iconst 5, 1) := by decide +kernel
theorem dX11_missing_157 : decode cX11_missing 157 = .ok (.if_icmp .ge 37, 3) := by decide +kernel
theorem dX11_missing_160 : decode cX11_missing 160 = .ok (.lload 10, 2) := by decide +kernel
theorem dX11_missing_162 : decode cX11_missing 162 = .ok (.iload 4, 2) := by decide +kernel
theorem dX11_missing_164 : decode cX11_missing 164 = .ok (.iload 9, 2) := by decide +kernel
theorem dX11_missing_166 : decode cX11_missing 166 = .ok (.iconst (-1), 1) := by decide +kernel
theorem dX11_missing_167 : decode cX11_missing 167 = .ok (.ixor, 1) := by decide +kernel
theorem dX11_missing_168 : decode cX11_missing 168 = .ok (.iand, 1) := by decide +kernel
theorem dX11_missing_169 : decode cX11_missing 169 = .ok (.iload 12, 2) := by decide +kernel
theorem dX11_missing_171 : decode cX11_missing 171 = .ok (.invokestatic 61, 3) := by decide +kernel
theorem dX11_missing_174 : decode cX11_missing 174 = .ok (.ifCond .eq 10, 3) := by decide +kernel
theorem dX11_missing_177 : decode cX11_missing 177 = .ok (.iload_n 2, 1) := by decide +kernel
theorem dX11_missing_178 : decode cX11_missing 178 = .ok (.iconst 1, 1) := by decide +kernel
theorem dX11_missing_179 : decode cX11_missing 179 = .ok (.isub, 1) := by decide +kernel
theorem dX11_missing_180 : decode cX11_missing 180 = .ok (.i2l, 1) := by decide +kernel
theorem dX11_missing_181 : decode cX11_missing 181 = .ok (.goto 4, 3) := by decide +kernel
theorem dX11_missing_184 : decode cX11_missing 184 = .ok (.lconst 1, 1) := by decide +kernel
theorem dX11_missing_185 : decode cX11_missing 185 = .ok (.lmul, 1) := by decide +kernel
theorem dX11_missing_186 : decode cX11_missing 186 = .ok (.lstore 10, 2) := by decide +kernel
theorem dX11_missing_188 : decode cX11_missing 188 = .ok (.iinc 12 1, 3) := by decide +kernel
theorem dX11_missing_191 : decode cX11_missing 191 = .ok (.goto (-37), 3) := by decide +kernel
theorem dX11_missing_194 : decode cX11_missing 194 = .ok (.aload_n 0, 1) := by decide +kernel
theorem dX11_missing_195 : decode cX11_missing 195 = .ok (.getfield 9, 3) := by decide +kernel
theorem dX11_missing_198 : decode cX11_missing 198 = .ok (.bipush 40, 2) := by decide +kernel
theorem dX11_missing_200 : decode cX11_missing 200 = .ok (.iload 4, 2) := by decide +kernel
theorem dX11_missing_202 : decode cX11_missing 202 = .ok (.iload 9, 2) := by decide +kernel
theorem dX11_missing_204 : decode cX11_missing 204 = .ok (.iconst (-1), 1) := by decide +kernel
theorem dX11_missing_205 : decode cX11_missing 205 = .ok (.ixor, 1) := by decide +kernel
theorem dX11_missing_206 : decode cX11_missing 206 = .ok (.iand, 1) := by decide +kernel
theorem dX11_missing_207 : decode cX11_missing 207 = .ok (.iastore, 1) := by decide +kernel
theorem dX11_missing_208 : decode cX11_missing 208 = .ok (.lload 5, 2) := by decide +kernel
theorem dX11_missing_210 : decode cX11_missing 210 = .ok (.aload_n 0, 1) := by decide +kernel
theorem dX11_missing_211 : decode cX11_missing 211 = .ok (.iload_n 1, 1) := by decide +kernel
theorem dX11_missing_212 : decode cX11_missing 212 = .ok (.invokevirtual 252, 3) := by decide +kernel
theorem dX11_missing_215 : decode cX11_missing 215 = .ok (.ifCond .eq 8, 3) := by decide +kernel
theorem dX11_missing_218 : decode cX11_missing 218 = .ok (.lload 10, 2) := by decide +kernel
theorem dX11_missing_220 : decode cX11_missing 220 = .ok (.goto 4, 3) := by decide +kernel
theorem dX11_missing_223 : decode cX11_missing 223 = .ok (.lconst 0, 1) := by decide +kernel
theorem dX11_missing_224 : decode cX11_missing 224 = .ok (.ladd, 1) := by decide +kernel
theorem dX11_missing_225 : decode cX11_missing 225 = .ok (.lstore 5, 2) := by decide +kernel
theorem dX11_missing_227 : decode cX11_missing 227 = .ok (.iinc 9 1, 3) := by decide +kernel
theorem dX11_missing_230 : decode cX11_missing 230 = .ok (.goto (-99), 3) := by decide +kernel
theorem dX11_missing_233 : decode cX11_missing 233 = .ok (.aload_n 0, 1) := by decide +kernel
theorem dX11_missing_234 : decode cX11_missing 234 = .ok (.getfield 9, 3) := by decide +kernel
theorem dX11_missing_237 : decode cX11_missing 237 = .ok (.bipush 40, 2) := by decide +kernel
theorem dX11_missing_239 : decode cX11_missing 239 = .ok (.iload 4, 2) := by decide +kernel
theorem dX11_missing_241 : decode cX11_missing 241 = .ok (.iastore, 1) := by decide +kernel
theorem dX11_missing_242 : decode cX11_missing 242 = .ok (.lload 5, 2) := by decide +kernel
theorem dX11_missing_244 : decode cX11_missing 244 = .ok (.lload 7, 2) := by decide +kernel
theorem dX11_missing_246 : decode cX11_missing 246 = .ok (.iload_n 3, 1) := by decide +kernel
theorem dX11_missing_247 : decode cX11_missing 247 = .ok (.invokestatic 265, 3) := by decide +kernel
theorem dX11_missing_250 : decode cX11_missing 250 = .ok (.lreturn, 1) := by decide +kernel
set_option maxRecDepth 20000 in
theorem ggX11_isAsTold_X11_turnsAll : GoodIn wsX11_isAsTold wsX11_turnsAll := goodIn_r _ [8, 9, 10, 11, 12, 13, 14, 15, 16, 7, 17, 18, 19, 2, 20, 21, 22, 23, 24, 25, 26, 27, 28, 29, 30, 31, 32, 33, 34, 35, 36, 37, 38, 39, 44, 45, 46, 47, 48, 49, 50, 51, 52, 53, 54, 55, 56, 57, 58, 59, 60, 61, 62, 63, 64, 65, 66, 67] (by decide +kernel) (by decide +kernel)
set_option maxRecDepth 20000 in
theorem gX11_isAsTold_X11_turnsAll : GoodIn wsX11_isAsTold (wsV RX11 216 RX11 yX11_turnsAll wsX11_turnsAll) := goodIn_app (goodIn_of _ (by decide +kernel)) ggX11_isAsTold_X11_turnsAll
set_option maxRecDepth 20000 in
theorem ggX11_isAsTold_X11_labelOf : GoodIn wsX11_isAsTold wsX11_labelOf := goodIn_r _ [43, 9, 10, 21, 22, 23, 7, 24, 2, 25, 26, 27, 44, 45, 46, 47, 48, 49, 50, 51, 52, 53, 54, 55, 56, 57, 58, 59, 60, 61, 62, 63, 64, 65, 66, 67] (by decide +kernel) (by decide +kernel)
set_option maxRecDepth 20000 in
theorem gX11_isAsTold_X11_labelOf : GoodIn wsX11_isAsTold (wsV RX11 219 RX11 yX11_labelOf wsX11_labelOf) := goodIn_app (goodIn_of _ (by decide +kernel)) ggX11_isAsTold_X11_labelOf
theorem dX11_isAsTold_0 : decode cX11_isAsTold 0 = .ok (.aload_n 0, 1) := by decide +kernel
theorem dX11_isAsTold_1 : decode cX11_isAsTold 1 = .ok (.invokevirtual 216, 3) := by decide +kernel
theorem dX11_isAsTold_4 : decode cX11_isAsTold 4 = .ok (.iconst 0, 1) := by decide +kernel
theorem dX11_isAsTold_5 : decode cX11_isAsTold 5 = .ok (.istore_n 1, 1) := by decide +kernel
theorem dX11_isAsTold_6 : decode cX11_isAsTold 6 = .ok (.iload_n 1, 1) := by decide +kernel
theorem dX11_isAsTold_7 : decode cX11_isAsTold 7 = .ok (.aload_n 0, 1) := by decide +kernel
theorem dX11_isAsTold_8 : decode cX11_isAsTold 8 = .ok (.getfield 269, 3) := by decide +kernel
theorem dX11_isAsTold_11 : decode cX11_isAsTold 11 = .ok (.if_icmp .ge 36, 3) := by decide +kernel
theorem dX11_isAsTold_14 : decode cX11_isAsTold 14 = .ok (.iload_n 1, 1) := by decide +kernel
theorem dX11_isAsTold_15 : decode cX11_isAsTold 15 = .ok (.aload_n 0, 1) := by decide +kernel
theorem dX11_isAsTold_16 : decode cX11_isAsTold 16 = .ok (.getfield 9, 3) := by decide +kernel
theorem dX11_isAsTold_19 : decode cX11_isAsTold 19 = .ok (.bipush 42, 2) := by decide +kernel
theorem dX11_isAsTold_21 : decode cX11_isAsTold 21 = .ok (.iaload, 1) := by decide +kernel
theorem dX11_isAsTold_22 : decode cX11_isAsTold 22 = .ok (.if_icmp .ge 17, 3) := by decide +kernel
theorem dX11_isAsTold_25 : decode cX11_isAsTold 25 = .ok (.aload_n 0, 1) := by decide +kernel
theorem dX11_isAsTold_26 : decode cX11_isAsTold 26 = .ok (.iload_n 1, 1) := by decide +kernel
theorem dX11_isAsTold_27 : decode cX11_isAsTold 27 = .ok (.invokevirtual 219, 3) := by decide +kernel
theorem dX11_isAsTold_30 : decode cX11_isAsTold 30 = .ok (.aload_n 0, 1) := by decide +kernel
theorem dX11_isAsTold_31 : decode cX11_isAsTold 31 = .ok (.getfield 22, 3) := by decide +kernel
theorem dX11_isAsTold_34 : decode cX11_isAsTold 34 = .ok (.iload_n 1, 1) := by decide +kernel
theorem dX11_isAsTold_35 : decode cX11_isAsTold 35 = .ok (.iaload, 1) := by decide +kernel
theorem dX11_isAsTold_36 : decode cX11_isAsTold 36 = .ok (.if_icmp .eq 5, 3) := by decide +kernel
theorem dX11_isAsTold_39 : decode cX11_isAsTold 39 = .ok (.iconst 0, 1) := by decide +kernel
theorem dX11_isAsTold_40 : decode cX11_isAsTold 40 = .ok (.ireturn, 1) := by decide +kernel
theorem dX11_isAsTold_41 : decode cX11_isAsTold 41 = .ok (.iinc 1 1, 3) := by decide +kernel
theorem dX11_isAsTold_44 : decode cX11_isAsTold 44 = .ok (.goto (-38), 3) := by decide +kernel
theorem dX11_isAsTold_47 : decode cX11_isAsTold 47 = .ok (.iconst 1, 1) := by decide +kernel
theorem dX11_isAsTold_48 : decode cX11_isAsTold 48 = .ok (.ireturn, 1) := by decide +kernel
set_option maxRecDepth 20000 in
theorem ggX11_whatIs_X11_isClaim : GoodIn wsX11_whatIs wsX11_isClaim := goodIn_r _ [6, 1, 7, 8, 5, 9, 60, 61, 62, 63, 64, 65, 66, 67, 68, 69, 70, 71, 72, 73, 74, 75, 76, 77, 78, 79, 80, 81, 82, 83] (by decide +kernel) (by decide +kernel)
set_option maxRecDepth 20000 in
theorem gX11_whatIs_X11_isClaim : GoodIn wsX11_whatIs (wsV RX11 167 RX11 yX11_isClaim wsX11_isClaim) := goodIn_app (goodIn_of _ (by decide +kernel)) ggX11_whatIs_X11_isClaim
set_option maxRecDepth 20000 in
theorem ggX11_whatIs_X11_refused : GoodIn wsX11_whatIs wsX11_refused := goodIn_r _ [13, 14, 60, 61, 62, 63, 64, 65, 66, 67, 68, 69, 70, 71, 72, 73, 74, 75, 76, 77, 78, 79, 80, 81, 82, 83] (by decide +kernel) (by decide +kernel)
set_option maxRecDepth 20000 in
theorem gX11_whatIs_X11_refused : GoodIn wsX11_whatIs (wsV RX11 200 RX11 yX11_refused wsX11_refused) := goodIn_app (goodIn_of _ (by decide +kernel)) ggX11_whatIs_X11_refused
set_option maxRecDepth 20000 in
theorem ggX11_whatIs_X11_in : GoodIn wsX11_whatIs wsX11_in := goodIn_r _ [9] (by decide +kernel) (by decide +kernel)
set_option maxRecDepth 20000 in
theorem gX11_whatIs_X11_in : GoodIn wsX11_whatIs (va_wsS RX11 57 yX11_in wsX11_in) := goodIn_app (goodIn_of _ (by decide +kernel)) ggX11_whatIs_X11_in
set_option maxRecDepth 20000 in
theorem ggX11_whatIs_X11_isAsTold : GoodIn wsX11_whatIs wsX11_isAsTold := goodIn_r _ [18, 19, 1, 20, 21, 22, 23, 5, 24, 25, 26, 27, 28, 29, 30, 31, 32, 33, 34, 35, 36, 37, 38, 39, 40, 41, 42, 43, 44, 45, 46, 47, 48, 49, 50, 51, 52, 53, 54, 55, 56, 57, 58, 59, 60, 61, 62, 63, 64, 65, 66, 67, 68, 69, 70, 71, 72, 73, 74, 75, 76, 77, 78, 79, 80, 81, 82, 83] (by decide +kernel) (by decide +kernel)
set_option maxRecDepth 20000 in
theorem gX11_whatIs_X11_isAsTold : GoodIn wsX11_whatIs (wsV RX11 272 RX11 yX11_isAsTold wsX11_isAsTold) := goodIn_app (goodIn_of _ (by decide +kernel)) ggX11_whatIs_X11_isAsTold
theorem dX11_whatIs_0 : decode cX11_whatIs 0 = .ok (.aload_n 0, 1) := by decide +kernel
theorem dX11_whatIs_1 : decode cX11_whatIs 1 = .ok (.iload_n 1, 1) := by decide +kernel
theorem dX11_whatIs_2 : decode cX11_whatIs 2 = .ok (.invokevirtual 167, 3) := by decide +kernel
theorem dX11_whatIs_5 : decode cX11_whatIs 5 = .ok (.ifCond .ne 9, 3) := by decide +kernel
theorem dX11_whatIs_8 : decode cX11_whatIs 8 = .ok (.aload_n 0, 1) := by decide +kernel
theorem dX11_whatIs_9 : decode cX11_whatIs 9 = .ok (.iconst (-1), 1) := by decide +kernel
theorem dX11_whatIs_10 : decode cX11_whatIs 10 = .ok (.invokevirtual 200, 3) := by decide +kernel
theorem dX11_whatIs_13 : decode cX11_whatIs 13 = .ok (.ireturn, 1) := by decide +kernel
theorem dX11_whatIs_14 : decode cX11_whatIs 14 = .ok (.iload_n 2, 1) := by decide +kernel
theorem dX11_whatIs_15 : decode cX11_whatIs 15 = .ok (.i2l, 1) := by decide +kernel
theorem dX11_whatIs_16 : decode cX11_whatIs 16 = .ok (.lconst 0, 1) := by decide +kernel
theorem dX11_whatIs_17 : decode cX11_whatIs 17 = .ok (.lconst 1, 1) := by decide +kernel
theorem dX11_whatIs_18 : decode cX11_whatIs 18 = .ok (.invokestatic 57, 3) := by decide +kernel
theorem dX11_whatIs_21 : decode cX11_whatIs 21 = .ok (.ifCond .ne 10, 3) := by decide +kernel
theorem dX11_whatIs_24 : decode cX11_whatIs 24 = .ok (.aload_n 0, 1) := by decide +kernel
theorem dX11_whatIs_25 : decode cX11_whatIs 25 = .ok (.bipush (-2), 2) := by decide +kernel
theorem dX11_whatIs_27 : decode cX11_whatIs 27 = .ok (.invokevirtual 200, 3) := by decide +kernel
theorem dX11_whatIs_30 : decode cX11_whatIs 30 = .ok (.ireturn, 1) := by decide +kernel
theorem dX11_whatIs_31 : decode cX11_whatIs 31 = .ok (.iload_n 2, 1) := by decide +kernel
theorem dX11_whatIs_32 : decode cX11_whatIs 32 = .ok (.ifCond .ne 7, 3) := by decide +kernel
theorem dX11_whatIs_35 : decode cX11_whatIs 35 = .ok (.iconst 0, 1) := by decide +kernel
theorem dX11_whatIs_36 : decode cX11_whatIs 36 = .ok (.goto 5, 3) := by decide +kernel
theorem dX11_whatIs_39 : decode cX11_whatIs 39 = .ok (.bipush 8, 2) := by decide +kernel
theorem dX11_whatIs_41 : decode cX11_whatIs 41 = .ok (.iload_n 1, 1) := by decide +kernel
theorem dX11_whatIs_42 : decode cX11_whatIs 42 = .ok (.iadd, 1) := by decide +kernel
theorem dX11_whatIs_43 : decode cX11_whatIs 43 = .ok (.istore_n 3, 1) := by decide +kernel
theorem dX11_whatIs_44 : decode cX11_whatIs 44 = .ok (.aload_n 0, 1) := by decide +kernel
theorem dX11_whatIs_45 : decode cX11_whatIs 45 = .ok (.getfield 9, 3) := by decide +kernel
theorem dX11_whatIs_48 : decode cX11_whatIs 48 = .ok (.iload_n 3, 1) := by decide +kernel
theorem dX11_whatIs_49 : decode cX11_whatIs 49 = .ok (.iaload, 1) := by decide +kernel
theorem dX11_whatIs_50 : decode cX11_whatIs 50 = .ok (.istore 4, 2) := by decide +kernel
theorem dX11_whatIs_52 : decode cX11_whatIs 52 = .ok (.iconst 0, 1) := by decide +kernel
theorem dX11_whatIs_53 : decode cX11_whatIs 53 = .ok (.istore 5, 2) := by decide +kernel
theorem dX11_whatIs_55 : decode cX11_whatIs 55 = .ok (.iconst 0, 1) := by decide +kernel
theorem dX11_whatIs_56 : decode cX11_whatIs 56 = .ok (.istore 6, 2) := by decide +kernel
theorem dX11_whatIs_58 : decode cX11_whatIs 58 = .ok (.iload 6, 2) := by decide +kernel
theorem dX11_whatIs_60 : decode cX11_whatIs 60 = .ok (.iload_n 2, 1) := by decide +kernel
theorem dX11_whatIs_61 : decode cX11_whatIs 61 = .ok (.ifCond .ne 8, 3) := by decide +kernel
theorem dX11_whatIs_64 : decode cX11_whatIs 64 = .ok (.bipush 6, 2) := by decide +kernel
theorem dX11_whatIs_66 : decode cX11_whatIs 66 = .ok (.goto 5, 3) := by decide +kernel
theorem dX11_whatIs_69 : decode cX11_whatIs 69 = .ok (.bipush 10, 2) := by decide +kernel
theorem dX11_whatIs_71 : decode cX11_whatIs 71 = .ok (.if_icmp .ge 37, 3) := by decide +kernel
theorem dX11_whatIs_74 : decode cX11_whatIs 74 = .ok (.aload_n 0, 1) := by decide +kernel
theorem dX11_whatIs_75 : decode cX11_whatIs 75 = .ok (.getfield 9, 3) := by decide +kernel
theorem dX11_whatIs_78 : decode cX11_whatIs 78 = .ok (.iload_n 3, 1) := by decide +kernel
theorem dX11_whatIs_79 : decode cX11_whatIs 79 = .ok (.iload 6, 2) := by decide +kernel
theorem dX11_whatIs_81 : decode cX11_whatIs 81 = .ok (.iastore, 1) := by decide +kernel
theorem dX11_whatIs_82 : decode cX11_whatIs 82 = .ok (.iload 5, 2) := by decide +kernel
theorem dX11_whatIs_84 : decode cX11_whatIs 84 = .ok (.aload_n 0, 1) := by decide +kernel
theorem dX11_whatIs_85 : decode cX11_whatIs 85 = .ok (.invokevirtual 272, 3) := by decide +kernel
theorem dX11_whatIs_88 : decode cX11_whatIs 88 = .ok (.ifCond .eq 10, 3) := by decide +kernel
theorem dX11_whatIs_91 : decode cX11_whatIs 91 = .ok (.iconst 1, 1) := by decide +kernel
theorem dX11_whatIs_92 : decode cX11_whatIs 92 = .ok (.iload 6, 2) := by decide +kernel
theorem dX11_whatIs_94 : decode cX11_whatIs 94 = .ok (.ishl, 1) := by decide +kernel
theorem dX11_whatIs_95 : decode cX11_whatIs 95 = .ok (.goto 4, 3) := by decide +kernel
theorem dX11_whatIs_98 : decode cX11_whatIs 98 = .ok (.iconst 0, 1) := by decide +kernel
theorem dX11_whatIs_99 : decode cX11_whatIs 99 = .ok (.ior, 1) := by decide +kernel
theorem dX11_whatIs_100 : decode cX11_whatIs 100 = .ok (.istore 5, 2) := by decide +kernel
theorem dX11_whatIs_102 : decode cX11_whatIs 102 = .ok (.iinc 6 1, 3) := by decide +kernel
theorem dX11_whatIs_105 : decode cX11_whatIs 105 = .ok (.goto (-47), 3) := by decide +kernel
theorem dX11_whatIs_108 : decode cX11_whatIs 108 = .ok (.aload_n 0, 1) := by decide +kernel
theorem dX11_whatIs_109 : decode cX11_whatIs 109 = .ok (.getfield 9, 3) := by decide +kernel
theorem dX11_whatIs_112 : decode cX11_whatIs 112 = .ok (.iload_n 3, 1) := by decide +kernel
theorem dX11_whatIs_113 : decode cX11_whatIs 113 = .ok (.iload 4, 2) := by decide +kernel
theorem dX11_whatIs_115 : decode cX11_whatIs 115 = .ok (.iastore, 1) := by decide +kernel
theorem dX11_whatIs_116 : decode cX11_whatIs 116 = .ok (.iload 5, 2) := by decide +kernel
theorem dX11_whatIs_118 : decode cX11_whatIs 118 = .ok (.ireturn, 1) := by decide +kernel
set_option maxRecDepth 20000 in
theorem ggX11_row_X11_in : GoodIn wsX11_row wsX11_in := goodIn_r _ [7] (by decide +kernel) (by decide +kernel)
set_option maxRecDepth 20000 in
theorem gX11_row_X11_in : GoodIn wsX11_row (va_wsS RX11 57 yX11_in wsX11_in) := goodIn_app (goodIn_of _ (by decide +kernel)) ggX11_row_X11_in
set_option maxRecDepth 20000 in
theorem ggX11_row_X11_refused : GoodIn wsX11_row wsX11_refused := goodIn_r _ [11, 12, 13, 14, 15, 16, 17, 18, 19, 20, 21, 22, 23, 24, 25, 26, 27, 28, 29, 30, 31, 32, 33, 34, 35, 36] (by decide +kernel) (by decide +kernel)
set_option maxRecDepth 20000 in
theorem gX11_row_X11_refused : GoodIn wsX11_row (wsV RX11 200 RX11 yX11_refused wsX11_refused) := goodIn_app (goodIn_of _ (by decide +kernel)) ggX11_row_X11_refused
theorem dX11_row_0 : decode cX11_row 0 = .ok (.iload_n 1, 1) := by decide +kernel
theorem dX11_row_1 : decode cX11_row 1 = .ok (.i2l, 1) := by decide +kernel
theorem dX11_row_2 : decode cX11_row 2 = .ok (.lconst 0, 1) := by decide +kernel
theorem dX11_row_3 : decode cX11_row 3 = .ok (.ldc2_w 208, 3) := by decide +kernel
theorem dX11_row_6 : decode cX11_row 6 = .ok (.invokestatic 57, 3) := by decide +kernel
theorem dX11_row_9 : decode cX11_row 9 = .ok (.ifCond .ne 19, 3) := by decide +kernel
theorem dX11_row_12 : decode cX11_row 12 = .ok (.aload_n 0, 1) := by decide +kernel
theorem dX11_row_13 : decode cX11_row 13 = .ok (.iload_n 1, 1) := by decide +kernel
theorem dX11_row_14 : decode cX11_row 14 = .ok (.ifCond .ge 8, 3) := by decide +kernel
theorem dX11_row_17 : decode cX11_row 17 = .ok (.bipush (-4), 2) := by decide +kernel
theorem dX11_row_19 : decode cX11_row 19 = .ok (.goto 5, 3) := by decide +kernel
theorem dX11_row_22 : decode cX11_row 22 = .ok (.bipush (-6), 2) := by decide +kernel
theorem dX11_row_24 : decode cX11_row 24 = .ok (.invokevirtual 200, 3) := by decide +kernel
theorem dX11_row_27 : decode cX11_row 27 = .ok (.ireturn, 1) := by decide +kernel
theorem dX11_row_28 : decode cX11_row 28 = .ok (.aload_n 0, 1) := by decide +kernel
theorem dX11_row_29 : decode cX11_row 29 = .ok (.getfield 269, 3) := by decide +kernel
theorem dX11_row_32 : decode cX11_row 32 = .ok (.bipush 12, 2) := by decide +kernel
theorem dX11_row_34 : decode cX11_row 34 = .ok (.if_icmp .ne 10, 3) := by decide +kernel
theorem dX11_row_37 : decode cX11_row 37 = .ok (.aload_n 0, 1) := by decide +kernel
theorem dX11_row_38 : decode cX11_row 38 = .ok (.bipush (-6), 2) := by decide +kernel
theorem dX11_row_40 : decode cX11_row 40 = .ok (.invokevirtual 200, 3) := by decide +kernel
theorem dX11_row_43 : decode cX11_row 43 = .ok (.ireturn, 1) := by decide +kernel
theorem dX11_row_44 : decode cX11_row 44 = .ok (.aload_n 0, 1) := by decide +kernel
theorem dX11_row_45 : decode cX11_row 45 = .ok (.getfield 22, 3) := by decide +kernel
theorem dX11_row_48 : decode cX11_row 48 = .ok (.aload_n 0, 1) := by decide +kernel
theorem dX11_row_49 : decode cX11_row 49 = .ok (.getfield 269, 3) := by decide +kernel
theorem dX11_row_52 : decode cX11_row 52 = .ok (.iload_n 1, 1) := by decide +kernel
theorem dX11_row_53 : decode cX11_row 53 = .ok (.iastore, 1) := by decide +kernel
theorem dX11_row_54 : decode cX11_row 54 = .ok (.aload_n 0, 1) := by decide +kernel
theorem dX11_row_55 : decode cX11_row 55 = .ok (.dup, 1) := by decide +kernel
theorem dX11_row_56 : decode cX11_row 56 = .ok (.getfield 269, 3) := by decide +kernel
theorem dX11_row_59 : decode cX11_row 59 = .ok (.iconst 1, 1) := by decide +kernel
theorem dX11_row_60 : decode cX11_row 60 = .ok (.iadd, 1) := by decide +kernel
theorem dX11_row_61 : decode cX11_row 61 = .ok (.putfield 269, 3) := by decide +kernel
theorem dX11_row_64 : decode cX11_row 64 = .ok (.aload_n 0, 1) := by decide +kernel
theorem dX11_row_65 : decode cX11_row 65 = .ok (.getfield 269, 3) := by decide +kernel
theorem dX11_row_68 : decode cX11_row 68 = .ok (.ireturn, 1) := by decide +kernel
theorem dX11_toldOf_0 : decode cX11_toldOf 0 = .ok (.iload_n 1, 1) := by decide +kernel
theorem dX11_toldOf_1 : decode cX11_toldOf 1 = .ok (.aload_n 0, 1) := by decide +kernel
theorem dX11_toldOf_2 : decode cX11_toldOf 2 = .ok (.getfield 269, 3) := by decide +kernel
theorem dX11_toldOf_5 : decode cX11_toldOf 5 = .ok (.if_icmp .ge 12, 3) := by decide +kernel
theorem dX11_toldOf_8 : decode cX11_toldOf 8 = .ok (.aload_n 0, 1) := by decide +kernel
theorem dX11_toldOf_9 : decode cX11_toldOf 9 = .ok (.getfield 22, 3) := by decide +kernel
theorem dX11_toldOf_12 : decode cX11_toldOf 12 = .ok (.iload_n 1, 1) := by decide +kernel
theorem dX11_toldOf_13 : decode cX11_toldOf 13 = .ok (.iaload, 1) := by decide +kernel
theorem dX11_toldOf_14 : decode cX11_toldOf 14 = .ok (.goto 5, 3) := by decide +kernel
theorem dX11_toldOf_17 : decode cX11_toldOf 17 = .ok (.bipush 9, 2) := by decide +kernel
theorem dX11_toldOf_19 : decode cX11_toldOf 19 = .ok (.ireturn, 1) := by decide +kernel
set_option maxRecDepth 20000 in
theorem ggX11_dueOf_X11_isHeard : GoodIn wsX11_dueOf wsX11_isHeard := goodIn_r _ [7, 1, 8, 9, 6, 10, 17, 18, 19, 20, 21, 22, 23, 24, 25, 26, 27, 28, 29, 30, 31, 32, 33, 34, 35, 36, 37, 38, 39, 40] (by decide +kernel) (by decide +kernel)
set_option maxRecDepth 20000 in
theorem gX11_dueOf_X11_isHeard : GoodIn wsX11_dueOf (wsV RX11 69 RX11 yX11_isHeard wsX11_isHeard) := goodIn_app (goodIn_of _ (by decide +kernel)) ggX11_dueOf_X11_isHeard
set_option maxRecDepth 20000 in
theorem ggX11_dueOf_X11_has : GoodIn wsX11_dueOf wsX11_has := goodIn_r _ [10] (by decide +kernel) (by decide +kernel)
set_option maxRecDepth 20000 in
theorem gX11_dueOf_X11_has : GoodIn wsX11_dueOf (va_wsS RX11 61 yX11_has wsX11_has) := goodIn_app (goodIn_of _ (by decide +kernel)) ggX11_dueOf_X11_has
set_option maxRecDepth 20000 in
theorem ggX11_dueOf_X11_toldOf : GoodIn wsX11_dueOf wsX11_toldOf := goodIn_r _ [14, 15, 16, 17, 18, 19, 20, 21, 22, 23, 24, 25, 26, 27, 28, 29, 30, 31, 32, 33, 34, 35, 36, 37, 38, 39, 40] (by decide +kernel) (by decide +kernel)
set_option maxRecDepth 20000 in
theorem gX11_dueOf_X11_toldOf : GoodIn wsX11_dueOf (wsV RX11 275 RX11 yX11_toldOf wsX11_toldOf) := goodIn_app (goodIn_of _ (by decide +kernel)) ggX11_dueOf_X11_toldOf
theorem dX11_dueOf_0 : decode cX11_dueOf 0 = .ok (.aload_n 0, 1) := by decide +kernel
theorem dX11_dueOf_1 : decode cX11_dueOf 1 = .ok (.iload_n 1, 1) := by decide +kernel
theorem dX11_dueOf_2 : decode cX11_dueOf 2 = .ok (.invokevirtual 69, 3) := by decide +kernel
theorem dX11_dueOf_5 : decode cX11_dueOf 5 = .ok (.ifCond .ne 5, 3) := by decide +kernel
theorem dX11_dueOf_8 : decode cX11_dueOf 8 = .ok (.iconst 3, 1) := by decide +kernel
theorem dX11_dueOf_9 : decode cX11_dueOf 9 = .ok (.ireturn, 1) := by decide +kernel
theorem dX11_dueOf_10 : decode cX11_dueOf 10 = .ok (.iconst 1, 1) := by decide +kernel
theorem dX11_dueOf_11 : decode cX11_dueOf 11 = .ok (.istore_n 2, 1) := by decide +kernel
theorem dX11_dueOf_12 : decode cX11_dueOf 12 = .ok (.iconst 0, 1) := by decide +kernel
theorem dX11_dueOf_13 : decode cX11_dueOf 13 = .ok (.istore_n 3, 1) := by decide +kernel
theorem dX11_dueOf_14 : decode cX11_dueOf 14 = .ok (.iconst 0, 1) := by decide +kernel
theorem dX11_dueOf_15 : decode cX11_dueOf 15 = .ok (.istore 4, 2) := by decide +kernel
theorem dX11_dueOf_17 : decode cX11_dueOf 17 = .ok (.iload 4, 2) := by decide +kernel
theorem dX11_dueOf_19 : decode cX11_dueOf 19 = .ok (.aload_n 0, 1) := by decide +kernel
theorem dX11_dueOf_20 : decode cX11_dueOf 20 = .ok (.getfield 9, 3) := by decide +kernel
theorem dX11_dueOf_23 : decode cX11_dueOf 23 = .ok (.bipush 42, 2) := by decide +kernel
theorem dX11_dueOf_25 : decode cX11_dueOf 25 = .ok (.iaload, 1) := by decide +kernel
theorem dX11_dueOf_26 : decode cX11_dueOf 26 = .ok (.if_icmp .ge 76, 3) := by decide +kernel
theorem dX11_dueOf_29 : decode cX11_dueOf 29 = .ok (.iload_n 2, 1) := by decide +kernel
theorem dX11_dueOf_30 : decode cX11_dueOf 30 = .ok (.ifCond .eq 30, 3) := by decide +kernel
theorem dX11_dueOf_33 : decode cX11_dueOf 33 = .ok (.aload_n 0, 1) := by decide +kernel
theorem dX11_dueOf_34 : decode cX11_dueOf 34 = .ok (.getfield 37, 3) := by decide +kernel
theorem dX11_dueOf_37 : decode cX11_dueOf 37 = .ok (.iload_n 1, 1) := by decide +kernel
theorem dX11_dueOf_38 : decode cX11_dueOf 38 = .ok (.iaload, 1) := by decide +kernel
theorem dX11_dueOf_39 : decode cX11_dueOf 39 = .ok (.iload 4, 2) := by decide +kernel
theorem dX11_dueOf_41 : decode cX11_dueOf 41 = .ok (.invokestatic 61, 3) := by decide +kernel
theorem dX11_dueOf_44 : decode cX11_dueOf 44 = .ok (.ifCond .eq 12, 3) := by decide +kernel
theorem dX11_dueOf_47 : decode cX11_dueOf 47 = .ok (.aload_n 0, 1) := by decide +kernel
theorem dX11_dueOf_48 : decode cX11_dueOf 48 = .ok (.iload 4, 2) := by decide +kernel
theorem dX11_dueOf_50 : decode cX11_dueOf 50 = .ok (.invokevirtual 275, 3) := by decide +kernel
theorem dX11_dueOf_53 : decode cX11_dueOf 53 = .ok (.ifCond .ne 7, 3) := by decide +kernel
theorem dX11_dueOf_56 : decode cX11_dueOf 56 = .ok (.iconst 1, 1) := by decide +kernel
theorem dX11_dueOf_57 : decode cX11_dueOf 57 = .ok (.goto 4, 3) := by decide +kernel
theorem dX11_dueOf_60 : decode cX11_dueOf 60 = .ok (.iconst 0, 1) := by decide +kernel
theorem dX11_dueOf_61 : decode cX11_dueOf 61 = .ok (.istore_n 2, 1) := by decide +kernel
theorem dX11_dueOf_62 : decode cX11_dueOf 62 = .ok (.iload_n 3, 1) := by decide +kernel
theorem dX11_dueOf_63 : decode cX11_dueOf 63 = .ok (.ifCond .ne 27, 3) := by decide +kernel
theorem dX11_dueOf_66 : decode cX11_dueOf 66 = .ok (.aload_n 0, 1) := by decide +kernel
theorem dX11_dueOf_67 : decode cX11_dueOf 67 = .ok (.getfield 37, 3) := by decide +kernel
theorem dX11_dueOf_70 : decode cX11_dueOf 70 = .ok (.iload_n 1, 1) := by decide +kernel
theorem dX11_dueOf_71 : decode cX11_dueOf 71 = .ok (.iaload, 1) := by decide +kernel
theorem dX11_dueOf_72 : decode cX11_dueOf 72 = .ok (.iload 4, 2) := by decide +kernel
theorem dX11_dueOf_74 : decode cX11_dueOf 74 = .ok (.invokestatic 61, 3) := by decide +kernel
theorem dX11_dueOf_77 : decode cX11_dueOf 77 = .ok (.ifCond .eq 17, 3) := by decide +kernel
theorem dX11_dueOf_80 : decode cX11_dueOf 80 = .ok (.aload_n 0, 1) := by decide +kernel
theorem dX11_dueOf_81 : decode cX11_dueOf 81 = .ok (.iload 4, 2) := by decide +kernel
theorem dX11_dueOf_83 : decode cX11_dueOf 83 = .ok (.invokevirtual 275, 3) := by decide +kernel
theorem dX11_dueOf_86 : decode cX11_dueOf 86 = .ok (.iconst 1, 1) := by decide +kernel
theorem dX11_dueOf_87 : decode cX11_dueOf 87 = .ok (.if_icmp .ne 7, 3) := by decide +kernel
theorem dX11_dueOf_90 : decode cX11_dueOf 90 = .ok (.iconst 1, 1) := by decide +kernel
theorem dX11_dueOf_91 : decode cX11_dueOf 91 = .ok (.goto 4, 3) := by decide +kernel
theorem dX11_dueOf_94 : decode cX11_dueOf 94 = .ok (.iconst 0, 1) := by decide +kernel
theorem dX11_dueOf_95 : decode cX11_dueOf 95 = .ok (.istore_n 3, 1) := by decide +kernel
theorem dX11_dueOf_96 : decode cX11_dueOf 96 = .ok (.iinc 4 1, 3) := by decide +kernel
theorem dX11_dueOf_99 : decode cX11_dueOf 99 = .ok (.goto (-82), 3) := by decide +kernel
theorem dX11_dueOf_102 : decode cX11_dueOf 102 = .ok (.iload_n 2, 1) := by decide +kernel
theorem dX11_dueOf_103 : decode cX11_dueOf 103 = .ok (.ifCond .eq 7, 3) := by decide +kernel
theorem dX11_dueOf_106 : decode cX11_dueOf 106 = .ok (.iconst 1, 1) := by decide +kernel
theorem dX11_dueOf_107 : decode cX11_dueOf 107 = .ok (.goto 12, 3) := by decide +kernel
theorem dX11_dueOf_110 : decode cX11_dueOf 110 = .ok (.iload_n 3, 1) := by decide +kernel
theorem dX11_dueOf_111 : decode cX11_dueOf 111 = .ok (.ifCond .eq 7, 3) := by decide +kernel
theorem dX11_dueOf_114 : decode cX11_dueOf 114 = .ok (.iconst 0, 1) := by decide +kernel
theorem dX11_dueOf_115 : decode cX11_dueOf 115 = .ok (.goto 4, 3) := by decide +kernel
theorem dX11_dueOf_118 : decode cX11_dueOf 118 = .ok (.iconst 2, 1) := by decide +kernel
theorem dX11_dueOf_119 : decode cX11_dueOf 119 = .ok (.ireturn, 1) := by decide +kernel
set_option maxRecDepth 20000 in
theorem ggX11_judged_X11_reckons : GoodIn wsX11_judged wsX11_reckons := goodIn_r _ [7, 8, 9, 1, 10, 11, 12, 13, 14, 6, 15, 16, 17, 18, 19, 20, 21, 22, 23, 24, 25, 26, 36, 37, 38, 39, 40, 41, 42, 43, 44, 45, 46, 47, 48, 49, 50, 51, 52, 53, 54, 55, 56, 57, 58, 59] (by decide +kernel) (by decide +kernel)
set_option maxRecDepth 20000 in
theorem gX11_judged_X11_reckons : GoodIn wsX11_judged (wsV RX11 86 RX11 yX11_reckons wsX11_reckons) := goodIn_app (goodIn_of _ (by decide +kernel)) ggX11_judged_X11_reckons
set_option maxRecDepth 20000 in
theorem ggX11_judged_X11_toldOf : GoodIn wsX11_judged wsX11_toldOf := goodIn_r _ [30, 2, 31, 36, 37, 38, 39, 40, 41, 42, 43, 44, 45, 46, 47, 48, 49, 50, 51, 52, 53, 54, 55, 56, 57, 58, 59] (by decide +kernel) (by decide +kernel)
set_option maxRecDepth 20000 in
theorem gX11_judged_X11_toldOf : GoodIn wsX11_judged (wsV RX11 275 RX11 yX11_toldOf wsX11_toldOf) := goodIn_app (goodIn_of _ (by decide +kernel)) ggX11_judged_X11_toldOf
set_option maxRecDepth 20000 in
theorem ggX11_judged_X11_dueOf : GoodIn wsX11_judged wsX11_dueOf := goodIn_r _ [35, 1, 11, 12, 13, 14, 6, 15, 16, 17, 18, 27, 28, 29, 30, 2, 31, 36, 37, 38, 39, 40, 41, 42, 43, 44, 45, 46, 47, 48, 49, 50, 51, 52, 53, 54, 55, 56, 57, 58, 59] (by decide +kernel) (by decide +kernel)
set_option maxRecDepth 20000 in
theorem gX11_judged_X11_dueOf : GoodIn wsX11_judged (wsV RX11 278 RX11 yX11_dueOf wsX11_dueOf) := goodIn_app (goodIn_of _ (by decide +kernel)) ggX11_judged_X11_dueOf
theorem dX11_judged_0 : decode cX11_judged 0 = .ok (.aload_n 0, 1) := by decide +kernel
theorem dX11_judged_1 : decode cX11_judged 1 = .ok (.invokevirtual 86, 3) := by decide +kernel
theorem dX11_judged_4 : decode cX11_judged 4 = .ok (.iconst 0, 1) := by decide +kernel
theorem dX11_judged_5 : decode cX11_judged 5 = .ok (.istore_n 1, 1) := by decide +kernel
theorem dX11_judged_6 : decode cX11_judged 6 = .ok (.iload_n 1, 1) := by decide +kernel
theorem dX11_judged_7 : decode cX11_judged 7 = .ok (.aload_n 0, 1) := by decide +kernel
theorem dX11_judged_8 : decode cX11_judged 8 = .ok (.getfield 9, 3) := by decide +kernel
theorem dX11_judged_11 : decode cX11_judged 11 = .ok (.bipush 42, 2) := by decide +kernel
theorem dX11_judged_13 : decode cX11_judged 13 = .ok (.iaload, 1) := by decide +kernel
theorem dX11_judged_14 : decode cX11_judged 14 = .ok (.if_icmp .ge 24, 3) := by decide +kernel
theorem dX11_judged_17 : decode cX11_judged 17 = .ok (.aload_n 0, 1) := by decide +kernel
theorem dX11_judged_18 : decode cX11_judged 18 = .ok (.iload_n 1, 1) := by decide +kernel
theorem dX11_judged_19 : decode cX11_judged 19 = .ok (.invokevirtual 275, 3) := by decide +kernel
theorem dX11_judged_22 : decode cX11_judged 22 = .ok (.aload_n 0, 1) := by decide +kernel
theorem dX11_judged_23 : decode cX11_judged 23 = .ok (.iload_n 1, 1) := by decide +kernel
theorem dX11_judged_24 : decode cX11_judged 24 = .ok (.invokevirtual 278, 3) := by decide +kernel
theorem dX11_judged_27 : decode cX11_judged 27 = .ok (.if_icmp .eq 5, 3) := by decide +kernel
theorem dX11_judged_30 : decode cX11_judged 30 = .ok (.iload_n 1, 1) := by decide +kernel
theorem dX11_judged_31 : decode cX11_judged 31 = .ok (.ireturn, 1) := by decide +kernel
theorem dX11_judged_32 : decode cX11_judged 32 = .ok (.iinc 1 1, 3) := by decide +kernel
theorem dX11_judged_35 : decode cX11_judged 35 = .ok (.goto (-29), 3) := by decide +kernel
theorem dX11_judged_38 : decode cX11_judged 38 = .ok (.aload_n 0, 1) := by decide +kernel
theorem dX11_judged_39 : decode cX11_judged 39 = .ok (.getfield 269, 3) := by decide +kernel
theorem dX11_judged_42 : decode cX11_judged 42 = .ok (.aload_n 0, 1) := by decide +kernel
theorem dX11_judged_43 : decode cX11_judged 43 = .ok (.getfield 9, 3) := by decide +kernel
theorem dX11_judged_46 : decode cX11_judged 46 = .ok (.bipush 42, 2) := by decide +kernel
theorem dX11_judged_48 : decode cX11_judged 48 = .ok (.iaload, 1) := by decide +kernel
theorem dX11_judged_49 : decode cX11_judged 49 = .ok (.if_icmp .le 13, 3) := by decide +kernel
theorem dX11_judged_52 : decode cX11_judged 52 = .ok (.aload_n 0, 1) := by decide +kernel
theorem dX11_judged_53 : decode cX11_judged 53 = .ok (.getfield 9, 3) := by decide +kernel
theorem dX11_judged_56 : decode cX11_judged 56 = .ok (.bipush 42, 2) := by decide +kernel
theorem dX11_judged_58 : decode cX11_judged 58 = .ok (.iaload, 1) := by decide +kernel
theorem dX11_judged_59 : decode cX11_judged 59 = .ok (.goto 5, 3) := by decide +kernel
theorem dX11_judged_62 : decode cX11_judged 62 = .ok (.bipush (-9), 2) := by decide +kernel
theorem dX11_judged_64 : decode cX11_judged 64 = .ok (.ireturn, 1) := by decide +kernel
set_option maxRecDepth 20000 in
theorem ggX11_judge_X11_judged : GoodIn wsX11_judge wsX11_judged := goodIn_r _ [6, 7, 1, 8, 9, 10, 5, 11, 12, 13, 14, 15, 16, 17, 18, 19, 20, 21, 22, 23, 24, 25, 26, 27, 28, 29, 30, 31, 32, 33, 34, 35, 36, 37, 38, 39, 40, 41, 42, 43, 44, 45, 46, 47, 48, 49, 50, 51, 52, 53, 54, 55, 56, 57, 58, 59, 60, 61, 62, 63] (by decide +kernel) (by decide +kernel)
set_option maxRecDepth 20000 in
theorem gX11_judge_X11_judged : GoodIn wsX11_judge (wsV RX11 281 RX11 yX11_judged wsX11_judged) := goodIn_app (goodIn_of _ (by decide +kernel)) ggX11_judge_X11_judged
theorem dX11_judge_0 : decode cX11_judge 0 = .ok (.aload_n 0, 1) := by decide +kernel
theorem dX11_judge_1 : decode cX11_judge 1 = .ok (.invokevirtual 281, 3) := by decide +kernel
theorem dX11_judge_4 : decode cX11_judge 4 = .ok (.istore_n 1, 1) := by decide +kernel
theorem dX11_judge_5 : decode cX11_judge 5 = .ok (.aload_n 0, 1) := by decide +kernel
theorem dX11_judge_6 : decode cX11_judge 6 = .ok (.iconst 0, 1) := by decide +kernel
theorem dX11_judge_7 : decode cX11_judge 7 = .ok (.putfield 269, 3) := by decide +kernel
theorem dX11_judge_10 : decode cX11_judge 10 = .ok (.iload_n 1, 1) := by decide +kernel
theorem dX11_judge_11 : decode cX11_judge 11 = .ok (.ireturn, 1) := by decide +kernel
theorem dX11_clear_0 : decode cX11_clear 0 = .ok (.aload_n 0, 1) := by decide +kernel
theorem dX11_clear_1 : decode cX11_clear 1 = .ok (.getfield 269, 3) := by decide +kernel
theorem dX11_clear_4 : decode cX11_clear 4 = .ok (.istore_n 1, 1) := by decide +kernel
theorem dX11_clear_5 : decode cX11_clear 5 = .ok (.aload_n 0, 1) := by decide +kernel
theorem dX11_clear_6 : decode cX11_clear 6 = .ok (.iconst 0, 1) := by decide +kernel
theorem dX11_clear_7 : decode cX11_clear 7 = .ok (.putfield 269, 3) := by decide +kernel
theorem dX11_clear_10 : decode cX11_clear 10 = .ok (.iload_n 1, 1) := by decide +kernel
theorem dX11_clear_11 : decode cX11_clear 11 = .ok (.ireturn, 1) := by decide +kernel
theorem dX11_claimsOf_0 : decode cX11_claimsOf 0 = .ok (.iconst 0, 1) := by decide +kernel
theorem dX11_claimsOf_1 : decode cX11_claimsOf 1 = .ok (.istore_n 2, 1) := by decide +kernel
theorem dX11_claimsOf_2 : decode cX11_claimsOf 2 = .ok (.iconst 0, 1) := by decide +kernel
theorem dX11_claimsOf_3 : decode cX11_claimsOf 3 = .ok (.istore_n 3, 1) := by decide +kernel
theorem dX11_claimsOf_4 : decode cX11_claimsOf 4 = .ok (.iload_n 3, 1) := by decide +kernel
theorem dX11_claimsOf_5 : decode cX11_claimsOf 5 = .ok (.aload_n 0, 1) := by decide +kernel
theorem dX11_claimsOf_6 : decode cX11_claimsOf 6 = .ok (.getfield 9, 3) := by decide +kernel
theorem dX11_claimsOf_9 : decode cX11_claimsOf 9 = .ok (.bipush 42, 2) := by decide +kernel
theorem dX11_claimsOf_11 : decode cX11_claimsOf 11 = .ok (.iaload, 1) := by decide +kernel
theorem dX11_claimsOf_12 : decode cX11_claimsOf 12 = .ok (.if_icmp .ge 32, 3) := by decide +kernel
theorem dX11_claimsOf_15 : decode cX11_claimsOf 15 = .ok (.iload_n 2, 1) := by decide +kernel
theorem dX11_claimsOf_16 : decode cX11_claimsOf 16 = .ok (.aload_n 0, 1) := by decide +kernel
theorem dX11_claimsOf_17 : decode cX11_claimsOf 17 = .ok (.getfield 9, 3) := by decide +kernel
theorem dX11_claimsOf_20 : decode cX11_claimsOf 20 = .ok (.bipush 16, 2) := by decide +kernel
theorem dX11_claimsOf_22 : decode cX11_claimsOf 22 = .ok (.iload_n 3, 1) := by decide +kernel
theorem dX11_claimsOf_23 : decode cX11_claimsOf 23 = .ok (.iadd, 1) := by decide +kernel
theorem dX11_claimsOf_24 : decode cX11_claimsOf 24 = .ok (.iaload, 1) := by decide +kernel
theorem dX11_claimsOf_25 : decode cX11_claimsOf 25 = .ok (.iload_n 1, 1) := by decide +kernel
theorem dX11_claimsOf_26 : decode cX11_claimsOf 26 = .ok (.if_icmp .ne 9, 3) := by decide +kernel
theorem dX11_claimsOf_29 : decode cX11_claimsOf 29 = .ok (.iconst 1, 1) := by decide +kernel
theorem dX11_claimsOf_30 : decode cX11_claimsOf 30 = .ok (.iload_n 3, 1) := by decide +kernel
theorem dX11_claimsOf_31 : decode cX11_claimsOf 31 = .ok (.ishl, 1) := by decide +kernel
theorem dX11_claimsOf_32 : decode cX11_claimsOf 32 = .ok (.goto 4, 3) := by decide +kernel
theorem dX11_claimsOf_35 : decode cX11_claimsOf 35 = .ok (.iconst 0, 1) := by decide +kernel
theorem dX11_claimsOf_36 : decode cX11_claimsOf 36 = .ok (.ior, 1) := by decide +kernel
theorem dX11_claimsOf_37 : decode cX11_claimsOf 37 = .ok (.istore_n 2, 1) := by decide +kernel
theorem dX11_claimsOf_38 : decode cX11_claimsOf 38 = .ok (.iinc 3 1, 3) := by decide +kernel
theorem dX11_claimsOf_41 : decode cX11_claimsOf 41 = .ok (.goto (-37), 3) := by decide +kernel
theorem dX11_claimsOf_44 : decode cX11_claimsOf 44 = .ok (.iload_n 2, 1) := by decide +kernel
theorem dX11_claimsOf_45 : decode cX11_claimsOf 45 = .ok (.ireturn, 1) := by decide +kernel
set_option maxRecDepth 20000 in
theorem ggX11_speakersAll_X11_claimsOf : GoodIn wsX11_speakersAll wsX11_claimsOf := goodIn_r _ [5, 6, 7, 8, 9, 10, 11, 12, 13, 14, 15, 16, 17, 18, 19, 20, 21, 22, 23, 24, 25, 26, 27, 28, 29, 30] (by decide +kernel) (by decide +kernel)
set_option maxRecDepth 20000 in
theorem gX11_speakersAll_X11_claimsOf : GoodIn wsX11_speakersAll (wsV RX11 284 RX11 yX11_claimsOf wsX11_claimsOf) := goodIn_app (goodIn_of _ (by decide +kernel)) ggX11_speakersAll_X11_claimsOf
theorem dX11_speakersAll_0 : decode cX11_speakersAll 0 = .ok (.iconst 0, 1) := by decide +kernel
theorem dX11_speakersAll_1 : decode cX11_speakersAll 1 = .ok (.istore_n 1, 1) := by decide +kernel
theorem dX11_speakersAll_2 : decode cX11_speakersAll 2 = .ok (.iconst 0, 1) := by decide +kernel
theorem dX11_speakersAll_3 : decode cX11_speakersAll 3 = .ok (.istore_n 2, 1) := by decide +kernel
theorem dX11_speakersAll_4 : decode cX11_speakersAll 4 = .ok (.iload_n 2, 1) := by decide +kernel
theorem dX11_speakersAll_5 : decode cX11_speakersAll 5 = .ok (.bipush 10, 2) := by decide +kernel
theorem dX11_speakersAll_7 : decode cX11_speakersAll 7 = .ok (.if_icmp .ge 25, 3) := by decide +kernel
theorem dX11_speakersAll_10 : decode cX11_speakersAll 10 = .ok (.iload_n 1, 1) := by decide +kernel
theorem dX11_speakersAll_11 : decode cX11_speakersAll 11 = .ok (.aload_n 0, 1) := by decide +kernel
theorem dX11_speakersAll_12 : decode cX11_speakersAll 12 = .ok (.iload_n 2, 1) := by decide +kernel
theorem dX11_speakersAll_13 : decode cX11_speakersAll 13 = .ok (.invokevirtual 284, 3) := by decide +kernel
theorem dX11_speakersAll_16 : decode cX11_speakersAll 16 = .ok (.ifCond .eq 7, 3) := by decide +kernel
theorem dX11_speakersAll_19 : decode cX11_speakersAll 19 = .ok (.iconst 1, 1) := by decide +kernel
theorem dX11_speakersAll_20 : decode cX11_speakersAll 20 = .ok (.goto 4, 3) := by decide +kernel
theorem dX11_speakersAll_23 : decode cX11_speakersAll 23 = .ok (.iconst 0, 1) := by decide +kernel
theorem dX11_speakersAll_24 : decode cX11_speakersAll 24 = .ok (.iadd, 1) := by decide +kernel
theorem dX11_speakersAll_25 : decode cX11_speakersAll 25 = .ok (.istore_n 1, 1) := by decide +kernel
theorem dX11_speakersAll_26 : decode cX11_speakersAll 26 = .ok (.iinc 2 1, 3) := by decide +kernel
theorem dX11_speakersAll_29 : decode cX11_speakersAll 29 = .ok (.goto (-25), 3) := by decide +kernel
theorem dX11_speakersAll_32 : decode cX11_speakersAll 32 = .ok (.iload_n 1, 1) := by decide +kernel
theorem dX11_speakersAll_33 : decode cX11_speakersAll 33 = .ok (.ireturn, 1) := by decide +kernel
set_option maxRecDepth 20000 in
theorem ggX11_speakerAt_X11_claimsOf : GoodIn wsX11_speakerAt wsX11_claimsOf := goodIn_r _ [5, 6, 7, 8, 9, 10, 11, 12, 13, 14, 15, 16, 17, 18, 19, 20, 21, 22, 23, 24, 25, 26, 27, 28, 29, 30] (by decide +kernel) (by decide +kernel)
set_option maxRecDepth 20000 in
theorem gX11_speakerAt_X11_claimsOf : GoodIn wsX11_speakerAt (wsV RX11 284 RX11 yX11_claimsOf wsX11_claimsOf) := goodIn_app (goodIn_of _ (by decide +kernel)) ggX11_speakerAt_X11_claimsOf
theorem dX11_speakerAt_0 : decode cX11_speakerAt 0 = .ok (.iload_n 1, 1) := by decide +kernel
theorem dX11_speakerAt_1 : decode cX11_speakerAt 1 = .ok (.istore_n 2, 1) := by decide +kernel
theorem dX11_speakerAt_2 : decode cX11_speakerAt 2 = .ok (.iconst 0, 1) := by decide +kernel
theorem dX11_speakerAt_3 : decode cX11_speakerAt 3 = .ok (.istore_n 3, 1) := by decide +kernel
theorem dX11_speakerAt_4 : decode cX11_speakerAt 4 = .ok (.aload_n 0, 1) := by decide +kernel
theorem dX11_speakerAt_5 : decode cX11_speakerAt 5 = .ok (.iload_n 3, 1) := by decide +kernel
theorem dX11_speakerAt_6 : decode cX11_speakerAt 6 = .ok (.invokevirtual 284, 3) := by decide +kernel
theorem dX11_speakerAt_9 : decode cX11_speakerAt 9 = .ok (.ifCond .eq 7, 3) := by decide +kernel
theorem dX11_speakerAt_12 : decode cX11_speakerAt 12 = .ok (.iload_n 2, 1) := by decide +kernel
theorem dX11_speakerAt_13 : decode cX11_speakerAt 13 = .ok (.ifCond .le 25, 3) := by decide +kernel
theorem dX11_speakerAt_16 : decode cX11_speakerAt 16 = .ok (.iload_n 2, 1) := by decide +kernel
theorem dX11_speakerAt_17 : decode cX11_speakerAt 17 = .ok (.aload_n 0, 1) := by decide +kernel
theorem dX11_speakerAt_18 : decode cX11_speakerAt 18 = .ok (.iload_n 3, 1) := by decide +kernel
theorem dX11_speakerAt_19 : decode cX11_speakerAt 19 = .ok (.invokevirtual 284, 3) := by decide +kernel
theorem dX11_speakerAt_22 : decode cX11_speakerAt 22 = .ok (.ifCond .eq 7, 3) := by decide +kernel
theorem dX11_speakerAt_25 : decode cX11_speakerAt 25 = .ok (.iconst 1, 1) := by decide +kernel
theorem dX11_speakerAt_26 : decode cX11_speakerAt 26 = .ok (.goto 4, 3) := by decide +kernel
theorem dX11_speakerAt_29 : decode cX11_speakerAt 29 = .ok (.iconst 0, 1) := by decide +kernel
theorem dX11_speakerAt_30 : decode cX11_speakerAt 30 = .ok (.isub, 1) := by decide +kernel
theorem dX11_speakerAt_31 : decode cX11_speakerAt 31 = .ok (.istore_n 2, 1) := by decide +kernel
theorem dX11_speakerAt_32 : decode cX11_speakerAt 32 = .ok (.iinc 3 1, 3) := by decide +kernel
theorem dX11_speakerAt_35 : decode cX11_speakerAt 35 = .ok (.goto (-31), 3) := by decide +kernel
theorem dX11_speakerAt_38 : decode cX11_speakerAt 38 = .ok (.iload_n 3, 1) := by decide +kernel
theorem dX11_speakerAt_39 : decode cX11_speakerAt 39 = .ok (.ireturn, 1) := by decide +kernel
set_option maxRecDepth 20000 in
theorem ggX11_greatestOf_X11_has : GoodIn wsX11_greatestOf wsX11_has := goodIn_r _ [5] (by decide +kernel) (by decide +kernel)
set_option maxRecDepth 20000 in
theorem gX11_greatestOf_X11_has : GoodIn wsX11_greatestOf (va_wsS RX11 61 yX11_has wsX11_has) := goodIn_app (goodIn_of _ (by decide +kernel)) ggX11_greatestOf_X11_has
theorem dX11_greatestOf_0 : decode cX11_greatestOf 0 = .ok (.iconst 0, 1) := by decide +kernel
theorem dX11_greatestOf_1 : decode cX11_greatestOf 1 = .ok (.istore_n 2, 1) := by decide +kernel
theorem dX11_greatestOf_2 : decode cX11_greatestOf 2 = .ok (.iconst 0, 1) := by decide +kernel
theorem dX11_greatestOf_3 : decode cX11_greatestOf 3 = .ok (.istore_n 3, 1) := by decide +kernel
theorem dX11_greatestOf_4 : decode cX11_greatestOf 4 = .ok (.iload_n 3, 1) := by decide +kernel
theorem dX11_greatestOf_5 : decode cX11_greatestOf 5 = .ok (.aload_n 0, 1) := by decide +kernel
theorem dX11_greatestOf_6 : decode cX11_greatestOf 6 = .ok (.getfield 9, 3) := by decide +kernel
theorem dX11_greatestOf_9 : decode cX11_greatestOf 9 = .ok (.bipush 42, 2) := by decide +kernel
theorem dX11_greatestOf_11 : decode cX11_greatestOf 11 = .ok (.iaload, 1) := by decide +kernel
theorem dX11_greatestOf_12 : decode cX11_greatestOf 12 = .ok (.if_icmp .ge 44, 3) := by decide +kernel
theorem dX11_greatestOf_15 : decode cX11_greatestOf 15 = .ok (.iload_n 1, 1) := by decide +kernel
theorem dX11_greatestOf_16 : decode cX11_greatestOf 16 = .ok (.iload_n 3, 1) := by decide +kernel
theorem dX11_greatestOf_17 : decode cX11_greatestOf 17 = .ok (.invokestatic 61, 3) := by decide +kernel
theorem dX11_greatestOf_20 : decode cX11_greatestOf 20 = .ok (.ifCond .eq 28, 3) := by decide +kernel
theorem dX11_greatestOf_23 : decode cX11_greatestOf 23 = .ok (.aload_n 0, 1) := by decide +kernel
theorem dX11_greatestOf_24 : decode cX11_greatestOf 24 = .ok (.getfield 9, 3) := by decide +kernel
theorem dX11_greatestOf_27 : decode cX11_greatestOf 27 = .ok (.bipush 8, 2) := by decide +kernel
theorem dX11_greatestOf_29 : decode cX11_greatestOf 29 = .ok (.iload_n 3, 1) := by decide +kernel
theorem dX11_greatestOf_30 : decode cX11_greatestOf 30 = .ok (.iadd, 1) := by decide +kernel
theorem dX11_greatestOf_31 : decode cX11_greatestOf 31 = .ok (.iaload, 1) := by decide +kernel
theorem dX11_greatestOf_32 : decode cX11_greatestOf 32 = .ok (.iload_n 2, 1) := by decide +kernel
theorem dX11_greatestOf_33 : decode cX11_greatestOf 33 = .ok (.if_icmp .le 15, 3) := by decide +kernel
theorem dX11_greatestOf_36 : decode cX11_greatestOf 36 = .ok (.aload_n 0, 1) := by decide +kernel
theorem dX11_greatestOf_37 : decode cX11_greatestOf 37 = .ok (.getfield 9, 3) := by decide +kernel
theorem dX11_greatestOf_40 : decode cX11_greatestOf 40 = .ok (.bipush 8, 2) := by decide +kernel
theorem dX11_greatestOf_42 : decode cX11_greatestOf 42 = .ok (.iload_n 3, 1) := by decide +kernel
theorem dX11_greatestOf_43 : decode cX11_greatestOf 43 = .ok (.iadd, 1) := by decide +kernel
theorem dX11_greatestOf_44 : decode cX11_greatestOf 44 = .ok (.iaload, 1) := by decide +kernel
theorem dX11_greatestOf_45 : decode cX11_greatestOf 45 = .ok (.goto 4, 3) := by decide +kernel
theorem dX11_greatestOf_48 : decode cX11_greatestOf 48 = .ok (.iload_n 2, 1) := by decide +kernel
theorem dX11_greatestOf_49 : decode cX11_greatestOf 49 = .ok (.istore_n 2, 1) := by decide +kernel
theorem dX11_greatestOf_50 : decode cX11_greatestOf 50 = .ok (.iinc 3 1, 3) := by decide +kernel
theorem dX11_greatestOf_53 : decode cX11_greatestOf 53 = .ok (.goto (-49), 3) := by decide +kernel
theorem dX11_greatestOf_56 : decode cX11_greatestOf 56 = .ok (.iload_n 2, 1) := by decide +kernel
theorem dX11_greatestOf_57 : decode cX11_greatestOf 57 = .ok (.ireturn, 1) := by decide +kernel
set_option maxRecDepth 20000 in
theorem ggX11_speakers_X11_speakersAll : GoodIn wsX11_speakers wsX11_speakersAll := goodIn_r _ [6, 7, 8, 9, 5, 10, 11, 65, 66, 67, 68, 69, 70, 71, 72, 73, 74, 75, 76, 77, 78, 79, 80, 81, 82, 83, 84, 85, 86, 87, 88] (by decide +kernel) (by decide +kernel)
set_option maxRecDepth 20000 in
theorem gX11_speakers_X11_speakersAll : GoodIn wsX11_speakers (wsV RX11 287 RX11 yX11_speakersAll wsX11_speakersAll) := goodIn_app (goodIn_of _ (by decide +kernel)) ggX11_speakers_X11_speakersAll
set_option maxRecDepth 20000 in
theorem ggX11_speakers_X11_in : GoodIn wsX11_speakers wsX11_in := goodIn_r _ [14] (by decide +kernel) (by decide +kernel)
set_option maxRecDepth 20000 in
theorem gX11_speakers_X11_in : GoodIn wsX11_speakers (va_wsS RX11 57 yX11_in wsX11_in) := goodIn_app (goodIn_of _ (by decide +kernel)) ggX11_speakers_X11_in
set_option maxRecDepth 20000 in
theorem ggX11_speakers_X11_refused : GoodIn wsX11_speakers wsX11_refused := goodIn_r _ [18, 19, 65, 66, 67, 68, 69, 70, 71, 72, 73, 74, 75, 76, 77, 78, 79, 80, 81, 82, 83, 84, 85, 86, 87, 88] (by decide +kernel) (by decide +kernel)
set_option maxRecDepth 20000 in
theorem gX11_speakers_X11_refused : GoodIn wsX11_speakers (wsV RX11 200 RX11 yX11_refused wsX11_refused) := goodIn_app (goodIn_of _ (by decide +kernel)) ggX11_speakers_X11_refused
set_option maxRecDepth 20000 in
theorem ggX11_speakers_X11_speakerAt : GoodIn wsX11_speakers wsX11_speakerAt := goodIn_r _ [23, 7, 8, 9, 5, 10, 11, 65, 66, 67, 68, 69, 70, 71, 72, 73, 74, 75, 76, 77, 78, 79, 80, 81, 82, 83, 84, 85, 86, 87, 88] (by decide +kernel) (by decide +kernel)
set_option maxRecDepth 20000 in
theorem gX11_speakers_X11_speakerAt : GoodIn wsX11_speakers (wsV RX11 290 RX11 yX11_speakerAt wsX11_speakerAt) := goodIn_app (goodIn_of _ (by decide +kernel)) ggX11_speakers_X11_speakerAt
set_option maxRecDepth 20000 in
theorem ggX11_speakers_X11_claimsOf : GoodIn wsX11_speakers wsX11_claimsOf := goodIn_r _ [10, 11, 65, 66, 67, 68, 69, 70, 71, 72, 73, 74, 75, 76, 77, 78, 79, 80, 81, 82, 83, 84, 85, 86, 87, 88] (by decide +kernel) (by decide +kernel)
set_option maxRecDepth 20000 in
theorem gX11_speakers_X11_claimsOf : GoodIn wsX11_speakers (wsV RX11 284 RX11 yX11_claimsOf wsX11_claimsOf) := goodIn_app (goodIn_of _ (by decide +kernel)) ggX11_speakers_X11_claimsOf
set_option maxRecDepth 20000 in
theorem ggX11_speakers_X11_ones : GoodIn wsX11_speakers wsX11_ones := goodIn_r _ [26] (by decide +kernel) (by decide +kernel)
set_option maxRecDepth 20000 in
theorem gX11_speakers_X11_ones : GoodIn wsX11_speakers (va_wsS RX11 127 yX11_ones wsX11_ones) := goodIn_app (goodIn_of _ (by decide +kernel)) ggX11_speakers_X11_ones
set_option maxRecDepth 20000 in
theorem ggX11_speakers_X11_turnsAll : GoodIn wsX11_speakers wsX11_turnsAll := goodIn_r _ [30, 1, 31, 32, 33, 34, 35, 36, 37, 5, 38, 39, 40, 11, 41, 42, 43, 44, 45, 46, 47, 48, 49, 50, 51, 52, 53, 54, 55, 56, 57, 58, 59, 60, 65, 66, 67, 68, 69, 70, 71, 72, 73, 74, 75, 76, 77, 78, 79, 80, 81, 82, 83, 84, 85, 86, 87, 88] (by decide +kernel) (by decide +kernel)
set_option maxRecDepth 20000 in
theorem gX11_speakers_X11_turnsAll : GoodIn wsX11_speakers (wsV RX11 216 RX11 yX11_turnsAll wsX11_turnsAll) := goodIn_app (goodIn_of _ (by decide +kernel)) ggX11_speakers_X11_turnsAll
set_option maxRecDepth 20000 in
theorem ggX11_speakers_X11_greatestOf : GoodIn wsX11_speakers wsX11_greatestOf := goodIn_r _ [64, 11, 46, 47, 5, 48, 65, 66, 67, 68, 69, 70, 71, 72, 73, 74, 75, 76, 77, 78, 79, 80, 81, 82, 83, 84, 85, 86, 87, 88] (by decide +kernel) (by decide +kernel)
set_option maxRecDepth 20000 in
theorem gX11_speakers_X11_greatestOf : GoodIn wsX11_speakers (wsV RX11 293 RX11 yX11_greatestOf wsX11_greatestOf) := goodIn_app (goodIn_of _ (by decide +kernel)) ggX11_speakers_X11_greatestOf
theorem dX11_speakers_0 : decode cX11_speakers 0 = .ok (.iload_n 1, 1) := by decide +kernel
theorem dX11_speakers_1 : decode cX11_speakers 1 = .ok (.iconst (-1), 1) := by decide +kernel
theorem dX11_speakers_2 : decode cX11_speakers 2 = .ok (.if_icmp .ne 8, 3) := by decide +kernel
theorem dX11_speakers_5 : decode cX11_speakers 5 = .ok (.aload_n 0, 1) := by decide +kernel
theorem dX11_speakers_6 : decode cX11_speakers 6 = .ok (.invokevirtual 287, 3) := by decide +kernel
theorem dX11_speakers_9 : decode cX11_speakers 9 = .ok (.ireturn, 1) := by decide +kernel
theorem dX11_speakers_10 : decode cX11_speakers 10 = .ok (.iload_n 1, 1) := by decide +kernel
theorem dX11_speakers_11 : decode cX11_speakers 11 = .ok (.i2l, 1) := by decide +kernel
theorem dX11_speakers_12 : decode cX11_speakers 12 = .ok (.lconst 0, 1) := by decide +kernel
theorem dX11_speakers_13 : decode cX11_speakers 13 = .ok (.aload_n 0, 1) := by decide +kernel
theorem dX11_speakers_14 : decode cX11_speakers 14 = .ok (.invokevirtual 287, 3) := by decide +kernel
theorem dX11_speakers_17 : decode cX11_speakers 17 = .ok (.iconst 1, 1) := by decide +kernel
theorem dX11_speakers_18 : decode cX11_speakers 18 = .ok (.isub, 1) := by decide +kernel
theorem dX11_speakers_19 : decode cX11_speakers 19 = .ok (.i2l, 1) := by decide +kernel
theorem dX11_speakers_20 : decode cX11_speakers 20 = .ok (.invokestatic 57, 3) := by decide +kernel
theorem dX11_speakers_23 : decode cX11_speakers 23 = .ok (.ifCond .ne 9, 3) := by decide +kernel
theorem dX11_speakers_26 : decode cX11_speakers 26 = .ok (.aload_n 0, 1) := by decide +kernel
theorem dX11_speakers_27 : decode cX11_speakers 27 = .ok (.iconst (-1), 1) := by decide +kernel
theorem dX11_speakers_28 : decode cX11_speakers 28 = .ok (.invokevirtual 200, 3) := by decide +kernel
theorem dX11_speakers_31 : decode cX11_speakers 31 = .ok (.ireturn, 1) := by decide +kernel
theorem dX11_speakers_32 : decode cX11_speakers 32 = .ok (.aload_n 0, 1) := by decide +kernel
theorem dX11_speakers_33 : decode cX11_speakers 33 = .ok (.iload_n 1, 1) := by decide +kernel
theorem dX11_speakers_34 : decode cX11_speakers 34 = .ok (.invokevirtual 290, 3) := by decide +kernel
theorem dX11_speakers_37 : decode cX11_speakers 37 = .ok (.istore_n 3, 1) := by decide +kernel
theorem dX11_speakers_38 : decode cX11_speakers 38 = .ok (.iload_n 2, 1) := by decide +kernel
theorem dX11_speakers_39 : decode cX11_speakers 39 = .ok (.tableswitch 68 0 3 #[29, 31, 40, 58], 29) := by decide +kernel
theorem dX11_speakers_68 : decode cX11_speakers 68 = .ok (.iload_n 3, 1) := by decide +kernel
theorem dX11_speakers_69 : decode cX11_speakers 69 = .ok (.ireturn, 1) := by decide +kernel
theorem dX11_speakers_70 : decode cX11_speakers 70 = .ok (.aload_n 0, 1) := by decide +kernel
theorem dX11_speakers_71 : decode cX11_speakers 71 = .ok (.iload_n 3, 1) := by decide +kernel
theorem dX11_speakers_72 : decode cX11_speakers 72 = .ok (.invokevirtual 284, 3) := by decide +kernel
theorem dX11_speakers_75 : decode cX11_speakers 75 = .ok (.invokestatic 127, 3) := by decide +kernel
theorem dX11_speakers_78 : decode cX11_speakers 78 = .ok (.ireturn, 1) := by decide +kernel
theorem dX11_speakers_79 : decode cX11_speakers 79 = .ok (.aload_n 0, 1) := by decide +kernel
theorem dX11_speakers_80 : decode cX11_speakers 80 = .ok (.invokevirtual 216, 3) := by decide +kernel
theorem dX11_speakers_83 : decode cX11_speakers 83 = .ok (.aload_n 0, 1) := by decide +kernel
theorem dX11_speakers_84 : decode cX11_speakers 84 = .ok (.iload_n 3, 1) := by decide +kernel
theorem dX11_speakers_85 : decode cX11_speakers 85 = .ok (.invokevirtual 284, 3) := by decide +kernel
theorem dX11_speakers_88 : decode cX11_speakers 88 = .ok (.aload_n 0, 1) := by decide +kernel
theorem dX11_speakers_89 : decode cX11_speakers 89 = .ok (.getfield 79, 3) := by decide +kernel
theorem dX11_speakers_92 : decode cX11_speakers 92 = .ok (.iand, 1) := by decide +kernel
theorem dX11_speakers_93 : decode cX11_speakers 93 = .ok (.invokestatic 127, 3) := by decide +kernel
theorem dX11_speakers_96 : decode cX11_speakers 96 = .ok (.ireturn, 1) := by decide +kernel
theorem dX11_speakers_97 : decode cX11_speakers 97 = .ok (.aload_n 0, 1) := by decide +kernel
theorem dX11_speakers_98 : decode cX11_speakers 98 = .ok (.aload_n 0, 1) := by decide +kernel
theorem dX11_speakers_99 : decode cX11_speakers 99 = .ok (.iload_n 3, 1) := by decide +kernel
theorem dX11_speakers_100 : decode cX11_speakers 100 = .ok (.invokevirtual 284, 3) := by decide +kernel
theorem dX11_speakers_103 : decode cX11_speakers 103 = .ok (.invokevirtual 293, 3) := by decide +kernel
theorem dX11_speakers_106 : decode cX11_speakers 106 = .ok (.ireturn, 1) := by decide +kernel
theorem dX11_speakers_107 : decode cX11_speakers 107 = .ok (.aload_n 0, 1) := by decide +kernel
theorem dX11_speakers_108 : decode cX11_speakers 108 = .ok (.bipush (-2), 2) := by decide +kernel
theorem dX11_speakers_110 : decode cX11_speakers 110 = .ok (.invokevirtual 200, 3) := by decide +kernel
theorem dX11_speakers_113 : decode cX11_speakers 113 = .ok (.ireturn, 1) := by decide +kernel
theorem dX11_draw_0 : decode cX11_draw 0 = .ok (.aload_n 0, 1) := by decide +kernel
theorem dX11_draw_1 : decode cX11_draw 1 = .ok (.aload_n 0, 1) := by decide +kernel
theorem dX11_draw_2 : decode cX11_draw 2 = .ok (.getfield 296, 3) := by decide +kernel
theorem dX11_draw_5 : decode cX11_draw 5 = .ok (.ldc_w 299, 3) := by decide +kernel
theorem dX11_draw_8 : decode cX11_draw 8 = .ok (.imul, 1) := by decide +kernel
theorem dX11_draw_9 : decode cX11_draw 9 = .ok (.ldc_w 300, 3) := by decide +kernel
theorem dX11_draw_12 : decode cX11_draw 12 = .ok (.iadd, 1) := by decide +kernel
theorem dX11_draw_13 : decode cX11_draw 13 = .ok (.putfield 296, 3) := by decide +kernel
theorem dX11_draw_16 : decode cX11_draw 16 = .ok (.aload_n 0, 1) := by decide +kernel
theorem dX11_draw_17 : decode cX11_draw 17 = .ok (.getfield 296, 3) := by decide +kernel
theorem dX11_draw_20 : decode cX11_draw 20 = .ok (.ldc_w 301, 3) := by decide +kernel
theorem dX11_draw_23 : decode cX11_draw 23 = .ok (.iand, 1) := by decide +kernel
theorem dX11_draw_24 : decode cX11_draw 24 = .ok (.sipush 256, 3) := by decide +kernel
theorem dX11_draw_27 : decode cX11_draw 27 = .ok (.idiv, 1) := by decide +kernel
theorem dX11_draw_28 : decode cX11_draw 28 = .ok (.iload_n 1, 1) := by decide +kernel
theorem dX11_draw_29 : decode cX11_draw 29 = .ok (.irem, 1) := by decide +kernel
theorem dX11_draw_30 : decode cX11_draw 30 = .ok (.ireturn, 1) := by decide +kernel
set_option maxRecDepth 20000 in
theorem ggX11_drawsAttacks_X11_draw : GoodIn wsX11_drawsAttacks wsX11_draw := goodIn_r _ [6, 7, 8, 9, 10, 11, 12, 13, 14, 15, 16, 17, 18, 19, 20, 21, 22, 23, 24, 25, 26, 27, 28, 29, 30, 31, 32, 33, 34] (by decide +kernel) (by decide +kernel)
set_option maxRecDepth 20000 in
theorem gX11_drawsAttacks_X11_draw : GoodIn wsX11_drawsAttacks (wsV RX11 302 RX11 yX11_draw wsX11_draw) := goodIn_app (goodIn_of _ (by decide +kernel)) ggX11_drawsAttacks_X11_draw
theorem dX11_drawsAttacks_0 : decode cX11_drawsAttacks 0 = .ok (.iconst 0, 1) := by decide +kernel
theorem dX11_drawsAttacks_1 : decode cX11_drawsAttacks 1 = .ok (.istore_n 1, 1) := by decide +kernel
theorem dX11_drawsAttacks_2 : decode cX11_drawsAttacks 2 = .ok (.iload_n 1, 1) := by decide +kernel
theorem dX11_drawsAttacks_3 : decode cX11_drawsAttacks 3 = .ok (.aload_n 0, 1) := by decide +kernel
theorem dX11_drawsAttacks_4 : decode cX11_drawsAttacks 4 = .ok (.getfield 9, 3) := by decide +kernel
theorem dX11_drawsAttacks_7 : decode cX11_drawsAttacks 7 = .ok (.bipush 42, 2) := by decide +kernel
theorem dX11_drawsAttacks_9 : decode cX11_drawsAttacks 9 = .ok (.iaload, 1) := by decide +kernel
theorem dX11_drawsAttacks_10 : decode cX11_drawsAttacks 10 = .ok (.if_icmp .ge 70, 3) := by decide +kernel
theorem dX11_drawsAttacks_13 : decode cX11_drawsAttacks 13 = .ok (.aload_n 0, 1) := by decide +kernel
theorem dX11_drawsAttacks_14 : decode cX11_drawsAttacks 14 = .ok (.getfield 9, 3) := by decide +kernel
theorem dX11_drawsAttacks_17 : decode cX11_drawsAttacks 17 = .ok (.bipush 24, 2) := by decide +kernel
theorem dX11_drawsAttacks_19 : decode cX11_drawsAttacks 19 = .ok (.iload_n 1, 1) := by decide +kernel
theorem dX11_drawsAttacks_20 : decode cX11_drawsAttacks 20 = .ok (.iadd, 1) := by decide +kernel
theorem dX11_drawsAttacks_21 : decode cX11_drawsAttacks 21 = .ok (.iconst 0, 1) := by decide +kernel
theorem dX11_drawsAttacks_22 : decode cX11_drawsAttacks 22 = .ok (.iastore, 1) := by decide +kernel
theorem dX11_drawsAttacks_23 : decode cX11_drawsAttacks 23 = .ok (.iconst 0, 1) := by decide +kernel
theorem dX11_drawsAttacks_24 : decode cX11_drawsAttacks 24 = .ok (.istore_n 2, 1) := by decide +kernel
theorem dX11_drawsAttacks_25 : decode cX11_drawsAttacks 25 = .ok (.iload_n 2, 1) := by decide +kernel
theorem dX11_drawsAttacks_26 : decode cX11_drawsAttacks 26 = .ok (.aload_n 0, 1) := by decide +kernel
theorem dX11_drawsAttacks_27 : decode cX11_drawsAttacks 27 = .ok (.getfield 9, 3) := by decide +kernel
theorem dX11_drawsAttacks_30 : decode cX11_drawsAttacks 30 = .ok (.bipush 42, 2) := by decide +kernel
theorem dX11_drawsAttacks_32 : decode cX11_drawsAttacks 32 = .ok (.iaload, 1) := by decide +kernel
theorem dX11_drawsAttacks_33 : decode cX11_drawsAttacks 33 = .ok (.if_icmp .ge 41, 3) := by decide +kernel
theorem dX11_drawsAttacks_36 : decode cX11_drawsAttacks 36 = .ok (.iload_n 1, 1) := by decide +kernel
theorem dX11_drawsAttacks_37 : decode cX11_drawsAttacks 37 = .ok (.iload_n 2, 1) := by decide +kernel
theorem dX11_drawsAttacks_38 : decode cX11_drawsAttacks 38 = .ok (.if_icmp .eq 30, 3) := by decide +kernel
theorem dX11_drawsAttacks_41 : decode cX11_drawsAttacks 41 = .ok (.aload_n 0, 1) := by decide +kernel
theorem dX11_drawsAttacks_42 : decode cX11_drawsAttacks 42 = .ok (.getfield 9, 3) := by decide +kernel
theorem dX11_drawsAttacks_45 : decode cX11_drawsAttacks 45 = .ok (.bipush 24, 2) := by decide +kernel
theorem dX11_drawsAttacks_47 : decode cX11_drawsAttacks 47 = .ok (.iload_n 1, 1) := by decide +kernel
theorem dX11_drawsAttacks_48 : decode cX11_drawsAttacks 48 = .ok (.iadd, 1) := by decide +kernel
theorem dX11_drawsAttacks_49 : decode cX11_drawsAttacks 49 = .ok (.dup2, 1) := by decide +kernel
theorem dX11_drawsAttacks_50 : decode cX11_drawsAttacks 50 = .ok (.iaload, 1) := by decide +kernel
theorem dX11_drawsAttacks_51 : decode cX11_drawsAttacks 51 = .ok (.aload_n 0, 1) := by decide +kernel
theorem dX11_drawsAttacks_52 : decode cX11_drawsAttacks 52 = .ok (.iconst 4, 1) := by decide +kernel
theorem dX11_drawsAttacks_53 : decode cX11_drawsAttacks 53 = .ok (.invokevirtual 302, 3) := by decide +kernel
theorem dX11_drawsAttacks_56 : decode cX11_drawsAttacks 56 = .ok (.ifCond .ne 9, 3) := by decide +kernel
theorem dX11_drawsAttacks_59 : decode cX11_drawsAttacks 59 = .ok (.iconst 1, 1) := by decide +kernel
theorem dX11_drawsAttacks_60 : decode cX11_drawsAttacks 60 = .ok (.iload_n 2, 1) := by decide +kernel
theorem dX11_drawsAttacks_61 : decode cX11_drawsAttacks 61 = .ok (.ishl, 1) := by decide +kernel
theorem dX11_drawsAttacks_62 : decode cX11_drawsAttacks 62 = .ok (.goto 4, 3) := by decide +kernel
theorem dX11_drawsAttacks_65 : decode cX11_drawsAttacks 65 = .ok (.iconst 0, 1) := by decide +kernel
theorem dX11_drawsAttacks_66 : decode cX11_drawsAttacks 66 = .ok (.ior, 1) := by decide +kernel
theorem dX11_drawsAttacks_67 : decode cX11_drawsAttacks 67 = .ok (.iastore, 1) := by decide +kernel
theorem dX11_drawsAttacks_68 : decode cX11_drawsAttacks 68 = .ok (.iinc 2 1, 3) := by decide +kernel
theorem dX11_drawsAttacks_71 : decode cX11_drawsAttacks 71 = .ok (.goto (-46), 3) := by decide +kernel
theorem dX11_drawsAttacks_74 : decode cX11_drawsAttacks 74 = .ok (.iinc 1 1, 3) := by decide +kernel
theorem dX11_drawsAttacks_77 : decode cX11_drawsAttacks 77 = .ok (.goto (-75), 3) := by decide +kernel
theorem dX11_drawsAttacks_80 : decode cX11_drawsAttacks 80 = .ok (.return_, 1) := by decide +kernel
set_option maxRecDepth 20000 in
theorem ggX11_lots_X11_in : GoodIn wsX11_lots wsX11_in := goodIn_r _ [7] (by decide +kernel) (by decide +kernel)
set_option maxRecDepth 20000 in
theorem gX11_lots_X11_in : GoodIn wsX11_lots (va_wsS RX11 57 yX11_in wsX11_in) := goodIn_app (goodIn_of _ (by decide +kernel)) ggX11_lots_X11_in
set_option maxRecDepth 20000 in
theorem ggX11_lots_X11_refused : GoodIn wsX11_lots wsX11_refused := goodIn_r _ [11, 12, 107, 108, 109, 110, 111, 112, 113, 114, 115, 116, 117, 118, 119, 120, 121, 122, 123, 124, 125, 126, 127, 128, 129, 130] (by decide +kernel) (by decide +kernel)
set_option maxRecDepth 20000 in
theorem gX11_lots_X11_refused : GoodIn wsX11_lots (wsV RX11 200 RX11 yX11_refused wsX11_refused) := goodIn_app (goodIn_of _ (by decide +kernel)) ggX11_lots_X11_refused
set_option maxRecDepth 20000 in
theorem ggX11_lots_X11_minds : GoodIn wsX11_lots wsX11_minds := goodIn_r _ [16, 17, 18, 19, 20, 6, 21, 107, 108, 109, 110, 111, 112, 113, 114, 115, 116, 117, 118, 119, 120, 121, 122, 123, 124, 125, 126, 127, 128, 129, 130] (by decide +kernel) (by decide +kernel)
set_option maxRecDepth 20000 in
theorem gX11_lots_X11_minds : GoodIn wsX11_lots (wsV RX11 186 RX11 yX11_minds wsX11_minds) := goodIn_app (goodIn_of _ (by decide +kernel)) ggX11_lots_X11_minds
set_option maxRecDepth 20000 in
theorem ggX11_lots_X11_drawsAttacks : GoodIn wsX11_lots wsX11_drawsAttacks := goodIn_r _ [25, 17, 26, 27, 28, 6, 29, 2, 30, 31, 32, 107, 108, 109, 110, 111, 112, 113, 114, 115, 116, 117, 118, 119, 120, 121, 122, 123, 124, 125, 126, 127, 128, 129, 130] (by decide +kernel) (by decide +kernel)
set_option maxRecDepth 20000 in
theorem gX11_lots_X11_drawsAttacks : GoodIn wsX11_lots (wsV RX11 305 RX11 yX11_drawsAttacks wsX11_drawsAttacks) := goodIn_app (goodIn_of _ (by decide +kernel)) ggX11_lots_X11_drawsAttacks
set_option maxRecDepth 20000 in
theorem ggX11_lots_X11_turnsAll : GoodIn wsX11_lots wsX11_turnsAll := goodIn_r _ [36, 3, 37, 38, 39, 40, 41, 42, 43, 6, 44, 45, 46, 17, 47, 48, 49, 50, 51, 52, 53, 54, 55, 56, 57, 58, 59, 60, 61, 62, 63, 64, 65, 66, 107, 108, 109, 110, 111, 112, 113, 114, 115, 116, 117, 118, 119, 120, 121, 122, 123, 124, 125, 126, 127, 128, 129, 130] (by decide +kernel) (by decide +kernel)
set_option maxRecDepth 20000 in
theorem gX11_lots_X11_turnsAll : GoodIn wsX11_lots (wsV RX11 216 RX11 yX11_turnsAll wsX11_turnsAll) := goodIn_app (goodIn_of _ (by decide +kernel)) ggX11_lots_X11_turnsAll
set_option maxRecDepth 20000 in
theorem ggX11_lots_X11_findsPlain : GoodIn wsX11_lots wsX11_findsPlain := goodIn_r _ [70, 71, 72, 73, 74, 6, 75, 17, 76, 77, 78, 79, 39, 52, 53, 54, 80, 81, 82, 83, 84, 85, 86, 87, 88, 89, 90, 91, 47, 92, 93, 94, 95, 48, 49, 50, 51, 107, 108, 109, 110, 111, 112, 113, 114, 115, 116, 117, 118, 119, 120, 121, 122, 123, 124, 125, 126, 127, 128, 129, 130] (by decide +kernel) (by decide +kernel)
set_option maxRecDepth 20000 in
theorem gX11_lots_X11_findsPlain : GoodIn wsX11_lots (wsV RX11 119 RX11 yX11_findsPlain wsX11_findsPlain) := goodIn_app (goodIn_of _ (by decide +kernel)) ggX11_lots_X11_findsPlain
set_option maxRecDepth 20000 in
theorem ggX11_lots_X11_ones : GoodIn wsX11_lots wsX11_ones := goodIn_r _ [98] (by decide +kernel) (by decide +kernel)
set_option maxRecDepth 20000 in
theorem gX11_lots_X11_ones : GoodIn wsX11_lots (va_wsS RX11 127 yX11_ones wsX11_ones) := goodIn_app (goodIn_of _ (by decide +kernel)) ggX11_lots_X11_ones
set_option maxRecDepth 20000 in
theorem ggX11_lots_X11_found : GoodIn wsX11_lots wsX11_found := goodIn_r _ [102, 71, 107, 108, 109, 110, 111, 112, 113, 114, 115, 116, 117, 118, 119, 120, 121, 122, 123, 124, 125, 126, 127, 128, 129, 130] (by decide +kernel) (by decide +kernel)
set_option maxRecDepth 20000 in
theorem gX11_lots_X11_found : GoodIn wsX11_lots (wsV RX11 225 RX11 yX11_found wsX11_found) := goodIn_app (goodIn_of _ (by decide +kernel)) ggX11_lots_X11_found
set_option maxRecDepth 20000 in
theorem ggX11_lots_X11_forgets : GoodIn wsX11_lots wsX11_forgets := goodIn_r _ [106, 18, 17, 19, 20, 6, 21, 107, 108, 109, 110, 111, 112, 113, 114, 115, 116, 117, 118, 119, 120, 121, 122, 123, 124, 125, 126, 127, 128, 129, 130] (by decide +kernel) (by decide +kernel)
set_option maxRecDepth 20000 in
theorem gX11_lots_X11_forgets : GoodIn wsX11_lots (wsV RX11 192 RX11 yX11_forgets wsX11_forgets) := goodIn_app (goodIn_of _ (by decide +kernel)) ggX11_lots_X11_forgets
