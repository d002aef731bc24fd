set_option maxRecDepth 20000 in
theorem ggX10_claim_X3_speakerOf : GoodIn wsX10_claim wsX3_speakerOf := goodIn_r _ [92, 93, 43, 44, 45, 46, 113, 114, 115, 116, 117, 118, 119, 120] (by decide +kernel) (by decide +kernel)
set_option maxRecDepth 20000 in
theorem gX10_claim_X3_speakerOf : GoodIn wsX10_claim (wsV RX10 154 RX3 yX3_speakerOf wsX3_speakerOf) := goodIn_app (goodIn_of _ (by decide +kernel)) ggX10_claim_X3_speakerOf
set_option maxRecDepth 20000 in
theorem ggX10_claim_X3_hears : GoodIn wsX10_claim wsX3_hears := goodIn_r _ [97, 98, 99, 10, 11, 12, 13, 14, 100, 66, 45, 67, 113, 114, 115, 116, 117, 118, 119, 120] (by decide +kernel) (by decide +kernel)
set_option maxRecDepth 20000 in
theorem gX10_claim_X3_hears : GoodIn wsX10_claim (wsV RX10 114 RX3 yX3_hears wsX3_hears) := goodIn_app (goodIn_of _ (by decide +kernel)) ggX10_claim_X3_hears
set_option maxRecDepth 20000 in
theorem ggX10_claim_X0_get : GoodIn wsX10_claim wsX0_get := goodIn_r _ [46] (by decide +kernel) (by decide +kernel)
set_option maxRecDepth 20000 in
theorem gX10_claim_X0_get : GoodIn wsX10_claim (va_wsS RX10 157 yX0_get wsX0_get) := goodIn_app (goodIn_of _ (by decide +kernel)) ggX10_claim_X0_get
theorem dX10_claim_0 : decode cX10_claim 0 = .ok (.aload_n 0, 1) := by decide +kernel
theorem dX10_claim_1 : decode cX10_claim 1 = .ok (.getfield 10, 3) := by decide +kernel
theorem dX10_claim_4 : decode cX10_claim 4 = .ok (.iload_n 1, 1) := by decide +kernel
theorem dX10_claim_5 : decode cX10_claim 5 = .ok (.invokevirtual 108, 3) := by decide +kernel
theorem dX10_claim_8 : decode cX10_claim 8 = .ok (.ifCond .ne 9, 3) := by decide +kernel
theorem dX10_claim_11 : decode cX10_claim 11 = .ok (.aload_n 0, 1) := by decide +kernel
theorem dX10_claim_12 : decode cX10_claim 12 = .ok (.iconst (-1), 1) := by decide +kernel
theorem dX10_claim_13 : decode cX10_claim 13 = .ok (.invokevirtual 78, 3) := by decide +kernel
theorem dX10_claim_16 : decode cX10_claim 16 = .ok (.ireturn, 1) := by decide +kernel
theorem dX10_claim_17 : decode cX10_claim 17 = .ok (.iload_n 2, 1) := by decide +kernel
theorem dX10_claim_18 : decode cX10_claim 18 = .ok (.ifCond .lt 9, 3) := by decide +kernel
theorem dX10_claim_21 : decode cX10_claim 21 = .ok (.iload_n 2, 1) := by decide +kernel
theorem dX10_claim_22 : decode cX10_claim 22 = .ok (.bipush 9, 2) := by decide +kernel
theorem dX10_claim_24 : decode cX10_claim 24 = .ok (.if_icmp .le 10, 3) := by decide +kernel
theorem dX10_claim_27 : decode cX10_claim 27 = .ok (.aload_n 0, 1) := by decide +kernel
theorem dX10_claim_28 : decode cX10_claim 28 = .ok (.bipush (-2), 2) := by decide +kernel
theorem dX10_claim_30 : decode cX10_claim 30 = .ok (.invokevirtual 78, 3) := by decide +kernel
theorem dX10_claim_33 : decode cX10_claim 33 = .ok (.ireturn, 1) := by decide +kernel
theorem dX10_claim_34 : decode cX10_claim 34 = .ok (.aload_n 0, 1) := by decide +kernel
theorem dX10_claim_35 : decode cX10_claim 35 = .ok (.getfield 38, 3) := by decide +kernel
theorem dX10_claim_38 : decode cX10_claim 38 = .ok (.aload_n 0, 1) := by decide +kernel
theorem dX10_claim_39 : decode cX10_claim 39 = .ok (.getfield 10, 3) := by decide +kernel
theorem dX10_claim_42 : decode cX10_claim 42 = .ok (.invokevirtual 150, 3) := by decide +kernel
theorem dX10_claim_45 : decode cX10_claim 45 = .ok (.iload_n 2, 1) := by decide +kernel
theorem dX10_claim_46 : decode cX10_claim 46 = .ok (.tableswitch 154 0 8 #[50, 59, 68, 77, 94, 106, 118, 130, 142], 50) := by decide +kernel
theorem dX10_claim_96 : decode cX10_claim 96 = .ok (.aload_n 0, 1) := by decide +kernel
theorem dX10_claim_97 : decode cX10_claim 97 = .ok (.getfield 10, 3) := by decide +kernel
theorem dX10_claim_100 : decode cX10_claim 100 = .ok (.iload_n 1, 1) := by decide +kernel
theorem dX10_claim_101 : decode cX10_claim 101 = .ok (.invokevirtual 117, 3) := by decide +kernel
theorem dX10_claim_104 : decode cX10_claim 104 = .ok (.ireturn, 1) := by decide +kernel
theorem dX10_claim_105 : decode cX10_claim 105 = .ok (.aload_n 0, 1) := by decide +kernel
theorem dX10_claim_106 : decode cX10_claim 106 = .ok (.getfield 10, 3) := by decide +kernel
theorem dX10_claim_109 : decode cX10_claim 109 = .ok (.iload_n 1, 1) := by decide +kernel
theorem dX10_claim_110 : decode cX10_claim 110 = .ok (.invokevirtual 120, 3) := by decide +kernel
theorem dX10_claim_113 : decode cX10_claim 113 = .ok (.ireturn, 1) := by decide +kernel
theorem dX10_claim_114 : decode cX10_claim 114 = .ok (.aload_n 0, 1) := by decide +kernel
theorem dX10_claim_115 : decode cX10_claim 115 = .ok (.getfield 10, 3) := by decide +kernel
theorem dX10_claim_118 : decode cX10_claim 118 = .ok (.iload_n 1, 1) := by decide +kernel
theorem dX10_claim_119 : decode cX10_claim 119 = .ok (.invokevirtual 154, 3) := by decide +kernel
theorem dX10_claim_122 : decode cX10_claim 122 = .ok (.ireturn, 1) := by decide +kernel
theorem dX10_claim_123 : decode cX10_claim 123 = .ok (.aload_n 0, 1) := by decide +kernel
theorem dX10_claim_124 : decode cX10_claim 124 = .ok (.getfield 10, 3) := by decide +kernel
theorem dX10_claim_127 : decode cX10_claim 127 = .ok (.iload_n 1, 1) := by decide +kernel
theorem dX10_claim_128 : decode cX10_claim 128 = .ok (.invokevirtual 114, 3) := by decide +kernel
theorem dX10_claim_131 : decode cX10_claim 131 = .ok (.ifCond .eq 7, 3) := by decide +kernel
theorem dX10_claim_134 : decode cX10_claim 134 = .ok (.iconst 1, 1) := by decide +kernel
theorem dX10_claim_135 : decode cX10_claim 135 = .ok (.goto 4, 3) := by decide +kernel
theorem dX10_claim_138 : decode cX10_claim 138 = .ok (.iconst 0, 1) := by decide +kernel
theorem dX10_claim_139 : decode cX10_claim 139 = .ok (.ireturn, 1) := by decide +kernel
theorem dX10_claim_140 : decode cX10_claim 140 = .ok (.aload_n 0, 1) := by decide +kernel
theorem dX10_claim_141 : decode cX10_claim 141 = .ok (.getfield 10, 3) := by decide +kernel
theorem dX10_claim_144 : decode cX10_claim 144 = .ok (.getfield 131, 3) := by decide +kernel
theorem dX10_claim_147 : decode cX10_claim 147 = .ok (.iload_n 1, 1) := by decide +kernel
theorem dX10_claim_148 : decode cX10_claim 148 = .ok (.invokestatic 157, 3) := by decide +kernel
theorem dX10_claim_151 : decode cX10_claim 151 = .ok (.ireturn, 1) := by decide +kernel
theorem dX10_claim_152 : decode cX10_claim 152 = .ok (.aload_n 0, 1) := by decide +kernel
theorem dX10_claim_153 : decode cX10_claim 153 = .ok (.getfield 10, 3) := by decide +kernel
theorem dX10_claim_156 : decode cX10_claim 156 = .ok (.getfield 144, 3) := by decide +kernel
theorem dX10_claim_159 : decode cX10_claim 159 = .ok (.iload_n 1, 1) := by decide +kernel
theorem dX10_claim_160 : decode cX10_claim 160 = .ok (.invokestatic 157, 3) := by decide +kernel
theorem dX10_claim_163 : decode cX10_claim 163 = .ok (.ireturn, 1) := by decide +kernel
theorem dX10_claim_164 : decode cX10_claim 164 = .ok (.aload_n 0, 1) := by decide +kernel
theorem dX10_claim_165 : decode cX10_claim 165 = .ok (.getfield 38, 3) := by decide +kernel
theorem dX10_claim_168 : decode cX10_claim 168 = .ok (.getfield 161, 3) := by decide +kernel
theorem dX10_claim_171 : decode cX10_claim 171 = .ok (.iload_n 1, 1) := by decide +kernel
theorem dX10_claim_172 : decode cX10_claim 172 = .ok (.invokestatic 157, 3) := by decide +kernel
theorem dX10_claim_175 : decode cX10_claim 175 = .ok (.ireturn, 1) := by decide +kernel
theorem dX10_claim_176 : decode cX10_claim 176 = .ok (.aload_n 0, 1) := by decide +kernel
theorem dX10_claim_177 : decode cX10_claim 177 = .ok (.getfield 38, 3) := by decide +kernel
theorem dX10_claim_180 : decode cX10_claim 180 = .ok (.getfield 164, 3) := by decide +kernel
theorem dX10_claim_183 : decode cX10_claim 183 = .ok (.iload_n 1, 1) := by decide +kernel
theorem dX10_claim_184 : decode cX10_claim 184 = .ok (.invokestatic 157, 3) := by decide +kernel
theorem dX10_claim_187 : decode cX10_claim 187 = .ok (.ireturn, 1) := by decide +kernel
theorem dX10_claim_188 : decode cX10_claim 188 = .ok (.aload_n 0, 1) := by decide +kernel
theorem dX10_claim_189 : decode cX10_claim 189 = .ok (.getfield 38, 3) := by decide +kernel
theorem dX10_claim_192 : decode cX10_claim 192 = .ok (.getfield 167, 3) := by decide +kernel
theorem dX10_claim_195 : decode cX10_claim 195 = .ok (.iload_n 1, 1) := by decide +kernel
theorem dX10_claim_196 : decode cX10_claim 196 = .ok (.invokestatic 157, 3) := by decide +kernel
theorem dX10_claim_199 : decode cX10_claim 199 = .ok (.ireturn, 1) := by decide +kernel
theorem dX10_claim_200 : decode cX10_claim 200 = .ok (.aload_n 0, 1) := by decide +kernel
theorem dX10_claim_201 : decode cX10_claim 201 = .ok (.getfield 38, 3) := by decide +kernel
theorem dX10_claim_204 : decode cX10_claim 204 = .ok (.getfield 170, 3) := by decide +kernel
theorem dX10_claim_207 : decode cX10_claim 207 = .ok (.iload_n 1, 1) := by decide +kernel
theorem dX10_claim_208 : decode cX10_claim 208 = .ok (.invokestatic 157, 3) := by decide +kernel
theorem dX10_claim_211 : decode cX10_claim 211 = .ok (.ireturn, 1) := by decide +kernel
set_option maxRecDepth 20000 in
theorem ggX10_label_X3_knows : GoodIn wsX10_label wsX3_knows := goodIn_r _ [7, 8, 129, 130, 131, 132, 133, 134, 135, 136] (by decide +kernel) (by decide +kernel)
set_option maxRecDepth 20000 in
theorem gX10_label_X3_knows : GoodIn wsX10_label (wsV RX10 108 RX3 yX3_knows wsX3_knows) := goodIn_app (goodIn_of _ (by decide +kernel)) ggX10_label_X3_knows
set_option maxRecDepth 20000 in
theorem ggX10_label_X10_refuse : GoodIn wsX10_label wsX10_refuse := goodIn_r _ [13, 14, 118, 119, 120, 121, 122, 123, 124, 125, 126, 127, 128] (by decide +kernel) (by decide +kernel)
set_option maxRecDepth 20000 in
theorem gX10_label_X10_refuse : GoodIn wsX10_label (wsV RX10 78 RX10 yX10_refuse wsX10_refuse) := goodIn_app (goodIn_of _ (by decide +kernel)) ggX10_label_X10_refuse
set_option maxRecDepth 20000 in
theorem ggX10_label_X10_settle : GoodIn wsX10_label wsX10_settle := goodIn_r _ [18, 19, 1, 2, 20, 21, 22, 23, 24, 25, 26, 27, 28, 29, 30, 31, 32, 33, 34, 35, 36, 37, 38, 39, 6, 40, 41, 42, 43, 44, 45, 46, 47, 48, 49, 50, 51, 52, 53, 54, 55, 56, 57, 58, 59, 60, 61, 62, 63, 64, 65, 66, 67, 68, 69, 70, 71, 72, 73, 74, 75, 76, 77, 78, 79, 80, 81, 82, 83, 84, 85, 86, 87, 88, 89, 90, 91, 92, 93, 94, 95, 96, 97, 98, 99, 100, 101, 102, 103, 104, 105, 106, 118, 119, 120, 121, 122, 123, 124, 125, 126, 127, 128, 137, 138, 139, 140, 129, 130, 131, 132, 133, 134, 135, 136, 141, 142, 143, 144] (by decide +kernel) (by decide +kernel)
set_option maxRecDepth 20000 in
theorem gX10_label_X10_settle : GoodIn wsX10_label (wsV RX10 173 RX10 yX10_settle wsX10_settle) := goodIn_app (goodIn_of _ (by decide +kernel)) ggX10_label_X10_settle
set_option maxRecDepth 20000 in
theorem ggX10_label_X9_labelOf : GoodIn wsX10_label wsX9_labelOf := goodIn_r _ [110, 91, 92, 111, 112, 113, 6, 114, 115, 116, 4, 5, 7, 8, 117, 65, 44, 66, 104, 141, 142, 143, 144, 129, 130, 131, 132, 133, 134, 135, 136] (by decide +kernel) (by decide +kernel)
set_option maxRecDepth 20000 in
theorem gX10_label_X9_labelOf : GoodIn wsX10_label (wsV RX10 176 RX9 yX9_labelOf wsX9_labelOf) := goodIn_app (goodIn_of _ (by decide +kernel)) ggX10_label_X9_labelOf
theorem dX10_label_0 : decode cX10_label 0 = .ok (.aload_n 0, 1) := by decide +kernel
theorem dX10_label_1 : decode cX10_label 1 = .ok (.getfield 10, 3) := by decide +kernel
theorem dX10_label_4 : decode cX10_label 4 = .ok (.iload_n 1, 1) := by decide +kernel
theorem dX10_label_5 : decode cX10_label 5 = .ok (.invokevirtual 108, 3) := by decide +kernel
theorem dX10_label_8 : decode cX10_label 8 = .ok (.ifCond .ne 9, 3) := by decide +kernel
theorem dX10_label_11 : decode cX10_label 11 = .ok (.aload_n 0, 1) := by decide +kernel
theorem dX10_label_12 : decode cX10_label 12 = .ok (.iconst (-1), 1) := by decide +kernel
theorem dX10_label_13 : decode cX10_label 13 = .ok (.invokevirtual 78, 3) := by decide +kernel
theorem dX10_label_16 : decode cX10_label 16 = .ok (.ireturn, 1) := by decide +kernel
theorem dX10_label_17 : decode cX10_label 17 = .ok (.aload_n 0, 1) := by decide +kernel
theorem dX10_label_18 : decode cX10_label 18 = .ok (.invokevirtual 173, 3) := by decide +kernel
theorem dX10_label_21 : decode cX10_label 21 = .ok (.aload_n 0, 1) := by decide +kernel
theorem dX10_label_22 : decode cX10_label 22 = .ok (.getfield 45, 3) := by decide +kernel
theorem dX10_label_25 : decode cX10_label 25 = .ok (.aload_n 0, 1) := by decide +kernel
theorem dX10_label_26 : decode cX10_label 26 = .ok (.getfield 10, 3) := by decide +kernel
theorem dX10_label_29 : decode cX10_label 29 = .ok (.iload_n 1, 1) := by decide +kernel
theorem dX10_label_30 : decode cX10_label 30 = .ok (.invokevirtual 176, 3) := by decide +kernel
theorem dX10_label_33 : decode cX10_label 33 = .ok (.ireturn, 1) := by decide +kernel
set_option maxRecDepth 20000 in
theorem ggX10_turn_X10_refuse : GoodIn wsX10_turn wsX10_refuse := goodIn_r _ [7, 8, 107, 108, 109, 110, 111, 112, 113, 114, 115, 116, 117] (by decide +kernel) (by decide +kernel)
set_option maxRecDepth 20000 in
theorem gX10_turn_X10_refuse : GoodIn wsX10_turn (wsV RX10 78 RX10 yX10_refuse wsX10_refuse) := goodIn_app (goodIn_of _ (by decide +kernel)) ggX10_turn_X10_refuse
set_option maxRecDepth 20000 in
theorem ggX10_turn_X10_settle : GoodIn wsX10_turn wsX10_settle := goodIn_r _ [12, 13, 14, 1, 15, 16, 17, 18, 19, 20, 21, 22, 23, 24, 25, 26, 27, 28, 29, 30, 31, 32, 33, 34, 35, 36, 37, 38, 39, 40, 41, 42, 43, 44, 45, 46, 47, 48, 49, 50, 51, 52, 53, 54, 55, 56, 57, 58, 59, 60, 61, 62, 63, 64, 65, 66, 67, 68, 69, 70, 71, 72, 73, 74, 75, 76, 77, 78, 79, 80, 81, 82, 83, 84, 85, 86, 87, 88, 89, 90, 91, 92, 93, 94, 95, 96, 97, 98, 99, 100, 101, 102, 107, 108, 109, 110, 111, 112, 113, 114, 115, 116, 117, 122, 123, 124, 125, 126, 127, 128, 129, 130, 131, 132, 133, 118, 119, 120, 121] (by decide +kernel) (by decide +kernel)
set_option maxRecDepth 20000 in
theorem gX10_turn_X10_settle : GoodIn wsX10_turn (wsV RX10 173 RX10 yX10_settle wsX10_settle) := goodIn_app (goodIn_of _ (by decide +kernel)) ggX10_turn_X10_settle
set_option maxRecDepth 20000 in
theorem ggX10_turn_X9_at : GoodIn wsX10_turn wsX9_at := goodIn_r _ [106, 89, 90, 99, 39, 40, 41, 118, 119, 120, 121] (by decide +kernel) (by decide +kernel)
set_option maxRecDepth 20000 in
theorem gX10_turn_X9_at : GoodIn wsX10_turn (wsV RX10 181 RX9 yX9_at wsX9_at) := goodIn_app (goodIn_of _ (by decide +kernel)) ggX10_turn_X9_at
theorem dX10_turn_0 : decode cX10_turn 0 = .ok (.iload_n 1, 1) := by decide +kernel
theorem dX10_turn_1 : decode cX10_turn 1 = .ok (.iconst (-1), 1) := by decide +kernel
theorem dX10_turn_2 : decode cX10_turn 2 = .ok (.if_icmp .ge 10, 3) := by decide +kernel
theorem dX10_turn_5 : decode cX10_turn 5 = .ok (.aload_n 0, 1) := by decide +kernel
theorem dX10_turn_6 : decode cX10_turn 6 = .ok (.bipush (-4), 2) := by decide +kernel
theorem dX10_turn_8 : decode cX10_turn 8 = .ok (.invokevirtual 78, 3) := by decide +kernel
theorem dX10_turn_11 : decode cX10_turn 11 = .ok (.ireturn, 1) := by decide +kernel
theorem dX10_turn_12 : decode cX10_turn 12 = .ok (.aload_n 0, 1) := by decide +kernel
theorem dX10_turn_13 : decode cX10_turn 13 = .ok (.invokevirtual 173, 3) := by decide +kernel
theorem dX10_turn_16 : decode cX10_turn 16 = .ok (.iload_n 1, 1) := by decide +kernel
theorem dX10_turn_17 : decode cX10_turn 17 = .ok (.iconst (-1), 1) := by decide +kernel
theorem dX10_turn_18 : decode cX10_turn 18 = .ok (.if_icmp .ne 13, 3) := by decide +kernel
theorem dX10_turn_21 : decode cX10_turn 21 = .ok (.aload_n 0, 1) := by decide +kernel
theorem dX10_turn_22 : decode cX10_turn 22 = .ok (.getfield 45, 3) := by decide +kernel
theorem dX10_turn_25 : decode cX10_turn 25 = .ok (.getfield 180, 3) := by decide +kernel
theorem dX10_turn_28 : decode cX10_turn 28 = .ok (.goto 11, 3) := by decide +kernel
theorem dX10_turn_31 : decode cX10_turn 31 = .ok (.aload_n 0, 1) := by decide +kernel
theorem dX10_turn_32 : decode cX10_turn 32 = .ok (.getfield 45, 3) := by decide +kernel
theorem dX10_turn_35 : decode cX10_turn 35 = .ok (.iload_n 1, 1) := by decide +kernel
theorem dX10_turn_36 : decode cX10_turn 36 = .ok (.invokevirtual 181, 3) := by decide +kernel
theorem dX10_turn_39 : decode cX10_turn 39 = .ok (.ireturn, 1) := by decide +kernel
set_option maxRecDepth 20000 in
theorem ggX10_sets_X10_isSort : GoodIn wsX10_sets wsX10_isSort := goodIn_r _ [8] (by decide +kernel) (by decide +kernel)
set_option maxRecDepth 20000 in
theorem gX10_sets_X10_isSort : GoodIn wsX10_sets (va_wsS RX10 184 yX10_isSort wsX10_isSort) := goodIn_app (goodIn_of _ (by decide +kernel)) ggX10_sets_X10_isSort
set_option maxRecDepth 20000 in
theorem ggX10_sets_X10_refuse : GoodIn wsX10_sets wsX10_refuse := goodIn_r _ [12, 13, 158, 159, 160, 161, 162, 163, 164, 165, 166, 167, 168] (by decide +kernel) (by decide +kernel)
set_option maxRecDepth 20000 in
theorem gX10_sets_X10_refuse : GoodIn wsX10_sets (wsV RX10 78 RX10 yX10_refuse wsX10_refuse) := goodIn_app (goodIn_of _ (by decide +kernel)) ggX10_sets_X10_refuse
set_option maxRecDepth 20000 in
theorem ggX10_sets_X1_reckon : GoodIn wsX10_sets wsX1_reckon := goodIn_r _ [18, 19, 20, 21, 22, 23, 24, 25, 26, 27, 17, 28, 29, 30, 31, 32, 33, 34, 35, 36, 37, 38, 39, 40, 41, 42, 43, 44, 45, 46, 47, 48, 49, 50, 51, 52, 53, 54, 55, 56, 57, 58, 59, 60, 61, 62, 63, 64, 65, 66, 67, 68, 69, 70, 71, 72, 73, 74, 75, 76, 77, 78, 79, 80, 177, 178, 179, 180, 169, 170, 171, 172, 173, 174, 175, 176] (by decide +kernel) (by decide +kernel)
set_option maxRecDepth 20000 in
theorem gX10_sets_X1_reckon : GoodIn wsX10_sets (wsV RX10 150 RX1 yX1_reckon wsX1_reckon) := goodIn_app (goodIn_of _ (by decide +kernel)) ggX10_sets_X1_reckon
set_option maxRecDepth 20000 in
theorem ggX10_sets_X7_select : GoodIn wsX10_sets wsX7_select := goodIn_r _ [85, 86, 87, 88, 89, 90, 91, 92, 93, 94, 84, 95, 96, 97, 98, 99, 100, 76, 39, 77, 59, 60, 61, 62, 38, 40, 101, 102, 103, 104, 105, 106, 107, 108, 109, 110, 111, 112, 113, 114, 115, 116, 117, 118, 119, 120, 121, 122, 123, 124, 125, 126, 127, 128, 129, 130, 131, 132, 133, 134, 135, 136, 137, 138, 139, 140, 141, 142, 181, 182, 183, 184, 185, 186, 177, 178, 179, 180] (by decide +kernel) (by decide +kernel)
set_option maxRecDepth 20000 in
theorem gX10_sets_X7_select : GoodIn wsX10_sets (wsV RX10 190 RX7 yX7_select wsX7_select) := goodIn_app (goodIn_of _ (by decide +kernel)) ggX10_sets_X7_select
set_option maxRecDepth 20000 in
theorem ggX10_sets_X7_size : GoodIn wsX10_sets wsX7_size := goodIn_r _ [146, 91, 181, 182, 183, 184, 185, 186] (by decide +kernel) (by decide +kernel)
set_option maxRecDepth 20000 in
theorem gX10_sets_X7_size : GoodIn wsX10_sets (wsV RX10 194 RX7 yX7_size wsX7_size) := goodIn_app (goodIn_of _ (by decide +kernel)) ggX10_sets_X7_size
set_option maxRecDepth 20000 in
theorem ggX10_sets_X7_at : GoodIn wsX10_sets wsX7_at := goodIn_r _ [150, 91, 151, 152, 153, 154, 155, 156, 157, 181, 182, 183, 184, 185, 186] (by decide +kernel) (by decide +kernel)
set_option maxRecDepth 20000 in
theorem gX10_sets_X7_at : GoodIn wsX10_sets (wsV RX10 198 RX7 yX7_at wsX7_at) := goodIn_app (goodIn_of _ (by decide +kernel)) ggX10_sets_X7_at
theorem dX10_sets_0 : decode cX10_sets 0 = .ok (.iload_n 1, 1) := by decide +kernel
theorem dX10_sets_1 : decode cX10_sets 1 = .ok (.invokestatic 184, 3) := by decide +kernel
theorem dX10_sets_4 : decode cX10_sets 4 = .ok (.ifCond .ne 10, 3) := by decide +kernel
theorem dX10_sets_7 : decode cX10_sets 7 = .ok (.aload_n 0, 1) := by decide +kernel
theorem dX10_sets_8 : decode cX10_sets 8 = .ok (.bipush (-2), 2) := by decide +kernel
theorem dX10_sets_10 : decode cX10_sets 10 = .ok (.invokevirtual 78, 3) := by decide +kernel
theorem dX10_sets_13 : decode cX10_sets 13 = .ok (.ireturn, 1) := by decide +kernel
theorem dX10_sets_14 : decode cX10_sets 14 = .ok (.iload_n 2, 1) := by decide +kernel
theorem dX10_sets_15 : decode cX10_sets 15 = .ok (.iconst (-1), 1) := by decide +kernel
theorem dX10_sets_16 : decode cX10_sets 16 = .ok (.if_icmp .ge 10, 3) := by decide +kernel
theorem dX10_sets_19 : decode cX10_sets 19 = .ok (.aload_n 0, 1) := by decide +kernel
theorem dX10_sets_20 : decode cX10_sets 20 = .ok (.bipush (-4), 2) := by decide +kernel
theorem dX10_sets_22 : decode cX10_sets 22 = .ok (.invokevirtual 78, 3) := by decide +kernel
theorem dX10_sets_25 : decode cX10_sets 25 = .ok (.ireturn, 1) := by decide +kernel
theorem dX10_sets_26 : decode cX10_sets 26 = .ok (.aload_n 0, 1) := by decide +kernel
theorem dX10_sets_27 : decode cX10_sets 27 = .ok (.getfield 38, 3) := by decide +kernel
theorem dX10_sets_30 : decode cX10_sets 30 = .ok (.aload_n 0, 1) := by decide +kernel
theorem dX10_sets_31 : decode cX10_sets 31 = .ok (.getfield 10, 3) := by decide +kernel
theorem dX10_sets_34 : decode cX10_sets 34 = .ok (.invokevirtual 150, 3) := by decide +kernel
theorem dX10_sets_37 : decode cX10_sets 37 = .ok (.aload_n 0, 1) := by decide +kernel
theorem dX10_sets_38 : decode cX10_sets 38 = .ok (.getfield 52, 3) := by decide +kernel
theorem dX10_sets_41 : decode cX10_sets 41 = .ok (.iload_n 1, 1) := by decide +kernel
theorem dX10_sets_42 : decode cX10_sets 42 = .ok (.aload_n 0, 1) := by decide +kernel
theorem dX10_sets_43 : decode cX10_sets 43 = .ok (.getfield 10, 3) := by decide +kernel
theorem dX10_sets_46 : decode cX10_sets 46 = .ok (.getfield 187, 3) := by decide +kernel
theorem dX10_sets_49 : decode cX10_sets 49 = .ok (.aload_n 0, 1) := by decide +kernel
theorem dX10_sets_50 : decode cX10_sets 50 = .ok (.getfield 38, 3) := by decide +kernel
theorem dX10_sets_53 : decode cX10_sets 53 = .ok (.invokevirtual 190, 3) := by decide +kernel
theorem dX10_sets_56 : decode cX10_sets 56 = .ok (.iload_n 2, 1) := by decide +kernel
theorem dX10_sets_57 : decode cX10_sets 57 = .ok (.iconst (-1), 1) := by decide +kernel
theorem dX10_sets_58 : decode cX10_sets 58 = .ok (.if_icmp .ne 13, 3) := by decide +kernel
theorem dX10_sets_61 : decode cX10_sets 61 = .ok (.aload_n 0, 1) := by decide +kernel
theorem dX10_sets_62 : decode cX10_sets 62 = .ok (.getfield 52, 3) := by decide +kernel
theorem dX10_sets_65 : decode cX10_sets 65 = .ok (.invokevirtual 194, 3) := by decide +kernel
theorem dX10_sets_68 : decode cX10_sets 68 = .ok (.goto 11, 3) := by decide +kernel
theorem dX10_sets_71 : decode cX10_sets 71 = .ok (.aload_n 0, 1) := by decide +kernel
theorem dX10_sets_72 : decode cX10_sets 72 = .ok (.getfield 52, 3) := by decide +kernel
theorem dX10_sets_75 : decode cX10_sets 75 = .ok (.iload_n 2, 1) := by decide +kernel
theorem dX10_sets_76 : decode cX10_sets 76 = .ok (.invokevirtual 198, 3) := by decide +kernel
theorem dX10_sets_79 : decode cX10_sets 79 = .ok (.ireturn, 1) := by decide +kernel
set_option maxRecDepth 20000 in
theorem ggX10_among_X10_isSort : GoodIn wsX10_among wsX10_isSort := goodIn_r _ [8] (by decide +kernel) (by decide +kernel)
set_option maxRecDepth 20000 in
theorem gX10_among_X10_isSort : GoodIn wsX10_among (va_wsS RX10 184 yX10_isSort wsX10_isSort) := goodIn_app (goodIn_of _ (by decide +kernel)) ggX10_among_X10_isSort
set_option maxRecDepth 20000 in
theorem ggX10_among_X10_refuse : GoodIn wsX10_among wsX10_refuse := goodIn_r _ [12, 13, 160, 161, 162, 163, 164, 165, 166, 167, 168, 169, 170] (by decide +kernel) (by decide +kernel)
set_option maxRecDepth 20000 in
theorem gX10_among_X10_refuse : GoodIn wsX10_among (wsV RX10 78 RX10 yX10_refuse wsX10_refuse) := goodIn_app (goodIn_of _ (by decide +kernel)) ggX10_among_X10_refuse
set_option maxRecDepth 20000 in
theorem ggX10_among_X3_knows : GoodIn wsX10_among wsX3_knows := goodIn_r _ [18, 19, 171, 172, 173, 174, 175, 176, 177, 178] (by decide +kernel) (by decide +kernel)
set_option maxRecDepth 20000 in
theorem gX10_among_X3_knows : GoodIn wsX10_among (wsV RX10 108 RX3 yX3_knows wsX3_knows) := goodIn_app (goodIn_of _ (by decide +kernel)) ggX10_among_X3_knows
set_option maxRecDepth 20000 in
theorem ggX10_among_X10_isFirstOrSecond : GoodIn wsX10_among wsX10_isFirstOrSecond := goodIn_r _ [22] (by decide +kernel) (by decide +kernel)
set_option maxRecDepth 20000 in
theorem gX10_among_X10_isFirstOrSecond : GoodIn wsX10_among (va_wsS RX10 199 yX10_isFirstOrSecond wsX10_isFirstOrSecond) := goodIn_app (goodIn_of _ (by decide +kernel)) ggX10_among_X10_isFirstOrSecond
set_option maxRecDepth 20000 in
theorem ggX10_among_X1_reckon : GoodIn wsX10_among wsX1_reckon := goodIn_r _ [27, 28, 29, 30, 31, 32, 33, 34, 35, 36, 26, 37, 38, 39, 40, 41, 42, 17, 43, 44, 45, 46, 47, 48, 49, 50, 51, 52, 53, 54, 55, 56, 57, 58, 59, 60, 61, 62, 63, 64, 65, 66, 67, 68, 69, 70, 71, 72, 73, 74, 75, 76, 77, 78, 79, 80, 81, 82, 83, 84, 85, 86, 87, 88, 179, 180, 181, 182, 171, 172, 173, 174, 175, 176, 177, 178] (by decide +kernel) (by decide +kernel)
set_option maxRecDepth 20000 in
theorem gX10_among_X1_reckon : GoodIn wsX10_among (wsV RX10 150 RX1 yX1_reckon wsX1_reckon) := goodIn_app (goodIn_of _ (by decide +kernel)) ggX10_among_X1_reckon
set_option maxRecDepth 20000 in
theorem ggX10_among_X7_select : GoodIn wsX10_among wsX7_select := goodIn_r _ [93, 94, 95, 96, 97, 98, 99, 100, 101, 102, 92, 103, 104, 105, 106, 107, 108, 84, 47, 85, 67, 68, 69, 70, 46, 48, 109, 110, 111, 112, 113, 114, 115, 116, 117, 118, 119, 120, 121, 122, 123, 124, 125, 126, 127, 128, 129, 130, 131, 132, 133, 134, 135, 136, 137, 138, 139, 140, 141, 142, 143, 144, 145, 146, 147, 148, 149, 150, 183, 184, 185, 186, 187, 188, 179, 180, 181, 182] (by decide +kernel) (by decide +kernel)
set_option maxRecDepth 20000 in
theorem gX10_among_X7_select : GoodIn wsX10_among (wsV RX10 190 RX7 yX7_select wsX7_select) := goodIn_app (goodIn_of _ (by decide +kernel)) ggX10_among_X7_select
set_option maxRecDepth 20000 in
theorem ggX10_among_X7_size : GoodIn wsX10_among wsX7_size := goodIn_r _ [154, 99, 183, 184, 185, 186, 187, 188] (by decide +kernel) (by decide +kernel)
set_option maxRecDepth 20000 in
theorem gX10_among_X7_size : GoodIn wsX10_among (wsV RX10 194 RX7 yX7_size wsX7_size) := goodIn_app (goodIn_of _ (by decide +kernel)) ggX10_among_X7_size
set_option maxRecDepth 20000 in
theorem ggX10_among_X7_sizeWith : GoodIn wsX10_among wsX7_sizeWith := goodIn_r _ [158, 99, 159, 68, 47, 69, 183, 184, 185, 186, 187, 188] (by decide +kernel) (by decide +kernel)
set_option maxRecDepth 20000 in
theorem gX10_among_X7_sizeWith : GoodIn wsX10_among (wsV RX10 202 RX7 yX7_sizeWith wsX7_sizeWith) := goodIn_app (goodIn_of _ (by decide +kernel)) ggX10_among_X7_sizeWith
theorem dX10_among_0 : decode cX10_among 0 = .ok (.iload_n 1, 1) := by decide +kernel
theorem dX10_among_1 : decode cX10_among 1 = .ok (.invokestatic 184, 3) := by decide +kernel
theorem dX10_among_4 : decode cX10_among 4 = .ok (.ifCond .ne 10, 3) := by decide +kernel
theorem dX10_among_7 : decode cX10_among 7 = .ok (.aload_n 0, 1) := by decide +kernel
theorem dX10_among_8 : decode cX10_among 8 = .ok (.bipush (-2), 2) := by decide +kernel
theorem dX10_among_10 : decode cX10_among 10 = .ok (.invokevirtual 78, 3) := by decide +kernel
theorem dX10_among_13 : decode cX10_among 13 = .ok (.ireturn, 1) := by decide +kernel
theorem dX10_among_14 : decode cX10_among 14 = .ok (.aload_n 0, 1) := by decide +kernel
theorem dX10_among_15 : decode cX10_among 15 = .ok (.getfield 10, 3) := by decide +kernel
theorem dX10_among_18 : decode cX10_among 18 = .ok (.iload_n 2, 1) := by decide +kernel
theorem dX10_among_19 : decode cX10_among 19 = .ok (.invokevirtual 108, 3) := by decide +kernel
theorem dX10_among_22 : decode cX10_among 22 = .ok (.ifCond .ne 9, 3) := by decide +kernel
theorem dX10_among_25 : decode cX10_among 25 = .ok (.aload_n 0, 1) := by decide +kernel
theorem dX10_among_26 : decode cX10_among 26 = .ok (.iconst (-1), 1) := by decide +kernel
theorem dX10_among_27 : decode cX10_among 27 = .ok (.invokevirtual 78, 3) := by decide +kernel
theorem dX10_among_30 : decode cX10_among 30 = .ok (.ireturn, 1) := by decide +kernel
theorem dX10_among_31 : decode cX10_among 31 = .ok (.iload_n 3, 1) := by decide +kernel
theorem dX10_among_32 : decode cX10_among 32 = .ok (.invokestatic 199, 3) := by decide +kernel
theorem dX10_among_35 : decode cX10_among 35 = .ok (.ifCond .ne 10, 3) := by decide +kernel
theorem dX10_among_38 : decode cX10_among 38 = .ok (.aload_n 0, 1) := by decide +kernel
theorem dX10_among_39 : decode cX10_among 39 = .ok (.bipush (-2), 2) := by decide +kernel
theorem dX10_among_41 : decode cX10_among 41 = .ok (.invokevirtual 78, 3) := by decide +kernel
theorem dX10_among_44 : decode cX10_among 44 = .ok (.ireturn, 1) := by decide +kernel
theorem dX10_among_45 : decode cX10_among 45 = .ok (.aload_n 0, 1) := by decide +kernel
theorem dX10_among_46 : decode cX10_among 46 = .ok (.getfield 38, 3) := by decide +kernel
theorem dX10_among_49 : decode cX10_among 49 = .ok (.aload_n 0, 1) := by decide +kernel
theorem dX10_among_50 : decode cX10_among 50 = .ok (.getfield 10, 3) := by decide +kernel
theorem dX10_among_53 : decode cX10_among 53 = .ok (.invokevirtual 150, 3) := by decide +kernel
theorem dX10_among_56 : decode cX10_among 56 = .ok (.aload_n 0, 1) := by decide +kernel
theorem dX10_among_57 : decode cX10_among 57 = .ok (.getfield 52, 3) := by decide +kernel
theorem dX10_among_60 : decode cX10_among 60 = .ok (.iload_n 1, 1) := by decide +kernel
theorem dX10_among_61 : decode cX10_among 61 = .ok (.aload_n 0, 1) := by decide +kernel
theorem dX10_among_62 : decode cX10_among 62 = .ok (.getfield 10, 3) := by decide +kernel
theorem dX10_among_65 : decode cX10_among 65 = .ok (.getfield 187, 3) := by decide +kernel
theorem dX10_among_68 : decode cX10_among 68 = .ok (.aload_n 0, 1) := by decide +kernel
theorem dX10_among_69 : decode cX10_among 69 = .ok (.getfield 38, 3) := by decide +kernel
theorem dX10_among_72 : decode cX10_among 72 = .ok (.invokevirtual 190, 3) := by decide +kernel
theorem dX10_among_75 : decode cX10_among 75 = .ok (.aload_n 0, 1) := by decide +kernel
theorem dX10_among_76 : decode cX10_among 76 = .ok (.getfield 52, 3) := by decide +kernel
theorem dX10_among_79 : decode cX10_among 79 = .ok (.invokevirtual 194, 3) := by decide +kernel
theorem dX10_among_82 : decode cX10_among 82 = .ok (.istore 4, 2) := by decide +kernel
theorem dX10_among_84 : decode cX10_among 84 = .ok (.aload_n 0, 1) := by decide +kernel
theorem dX10_among_85 : decode cX10_among 85 = .ok (.getfield 52, 3) := by decide +kernel
theorem dX10_among_88 : decode cX10_among 88 = .ok (.iload_n 2, 1) := by decide +kernel
theorem dX10_among_89 : decode cX10_among 89 = .ok (.invokevirtual 202, 3) := by decide +kernel
theorem dX10_among_92 : decode cX10_among 92 = .ok (.istore 5, 2) := by decide +kernel
theorem dX10_among_94 : decode cX10_among 94 = .ok (.iload_n 3, 1) := by decide +kernel
theorem dX10_among_95 : decode cX10_among 95 = .ok (.ifCond .ne 16, 3) := by decide +kernel
theorem dX10_among_98 : decode cX10_among 98 = .ok (.iload 5, 2) := by decide +kernel
theorem dX10_among_100 : decode cX10_among 100 = .ok (.ifCond .le 7, 3) := by decide +kernel
theorem dX10_among_103 : decode cX10_among 103 = .ok (.iconst 1, 1) := by decide +kernel
theorem dX10_among_104 : decode cX10_among 104 = .ok (.goto 24, 3) := by decide +kernel
theorem dX10_among_107 : decode cX10_among 107 = .ok (.iconst 0, 1) := by decide +kernel
theorem dX10_among_108 : decode cX10_among 108 = .ok (.goto 20, 3) := by decide +kernel
theorem dX10_among_111 : decode cX10_among 111 = .ok (.iload 4, 2) := by decide +kernel
theorem dX10_among_113 : decode cX10_among 113 = .ok (.ifCond .le 14, 3) := by decide +kernel
theorem dX10_among_116 : decode cX10_among 116 = .ok (.iload 5, 2) := by decide +kernel
theorem dX10_among_118 : decode cX10_among 118 = .ok (.iload 4, 2) := by decide +kernel
theorem dX10_among_120 : decode cX10_among 120 = .ok (.if_icmp .ne 7, 3) := by decide +kernel
theorem dX10_among_123 : decode cX10_among 123 = .ok (.iconst 1, 1) := by decide +kernel
theorem dX10_among_124 : decode cX10_among 124 = .ok (.goto 4, 3) := by decide +kernel
theorem dX10_among_127 : decode cX10_among 127 = .ok (.iconst 0, 1) := by decide +kernel
theorem dX10_among_128 : decode cX10_among 128 = .ok (.istore 6, 2) := by decide +kernel
theorem dX10_among_130 : decode cX10_among 130 = .ok (.iload 6, 2) := by decide +kernel
theorem dX10_among_132 : decode cX10_among 132 = .ok (.ifCond .eq 7, 3) := by decide +kernel
theorem dX10_among_135 : decode cX10_among 135 = .ok (.iconst 1, 1) := by decide +kernel
theorem dX10_among_136 : decode cX10_among 136 = .ok (.goto 4, 3) := by decide +kernel
theorem dX10_among_139 : decode cX10_among 139 = .ok (.iconst 0, 1) := by decide +kernel
theorem dX10_among_140 : decode cX10_among 140 = .ok (.ireturn, 1) := by decide +kernel
set_option maxRecDepth 20000 in
theorem ggX10_ideal_X1_reckon : GoodIn wsX10_ideal wsX1_reckon := goodIn_r _ [9, 10, 11, 12, 13, 14, 15, 16, 17, 18, 8, 19, 20, 21, 22, 23, 24, 25, 26, 27, 28, 29, 30, 31, 32, 33, 34, 35, 36, 37, 38, 39, 40, 41, 42, 43, 44, 45, 46, 47, 48, 49, 50, 51, 52, 53, 54, 55, 56, 57, 58, 59, 60, 61, 62, 63, 64, 65, 66, 67, 68, 69, 70, 71, 168, 169, 170, 171, 160, 161, 162, 163, 164, 165, 166, 167] (by decide +kernel) (by decide +kernel)
set_option maxRecDepth 20000 in
theorem gX10_ideal_X1_reckon : GoodIn wsX10_ideal (wsV RX10 150 RX1 yX1_reckon wsX1_reckon) := goodIn_app (goodIn_of _ (by decide +kernel)) ggX10_ideal_X1_reckon
set_option maxRecDepth 20000 in
theorem ggX10_ideal_X7_select : GoodIn wsX10_ideal wsX7_select := goodIn_r _ [76, 77, 78, 79, 80, 81, 82, 83, 84, 85, 75, 86, 87, 88, 89, 90, 91, 67, 30, 68, 50, 51, 52, 53, 29, 31, 92, 93, 94, 95, 96, 97, 98, 99, 100, 101, 102, 103, 104, 105, 106, 107, 108, 109, 110, 111, 112, 113, 114, 115, 116, 117, 118, 119, 120, 121, 122, 123, 124, 125, 126, 127, 128, 129, 130, 131, 132, 133, 172, 173, 174, 175, 176, 177, 168, 169, 170, 171] (by decide +kernel) (by decide +kernel)
set_option maxRecDepth 20000 in
theorem gX10_ideal_X7_select : GoodIn wsX10_ideal (wsV RX10 190 RX7 yX7_select wsX7_select) := goodIn_app (goodIn_of _ (by decide +kernel)) ggX10_ideal_X7_select
set_option maxRecDepth 20000 in
theorem ggX10_ideal_X7_common : GoodIn wsX10_ideal wsX7_common := goodIn_r _ [137, 77, 82, 172, 173, 174, 175, 176, 177] (by decide +kernel) (by decide +kernel)
set_option maxRecDepth 20000 in
theorem gX10_ideal_X7_common : GoodIn wsX10_ideal (wsV RX10 205 RX7 yX7_common wsX7_common) := goodIn_app (goodIn_of _ (by decide +kernel)) ggX10_ideal_X7_common
set_option maxRecDepth 20000 in
theorem ggX10_ideal_X7_greatestWithin : GoodIn wsX10_ideal wsX7_greatestWithin := goodIn_r _ [141, 82, 142, 143, 144, 145, 146, 147, 148, 172, 173, 174, 175, 176, 177] (by decide +kernel) (by decide +kernel)
set_option maxRecDepth 20000 in
theorem gX10_ideal_X7_greatestWithin : GoodIn wsX10_ideal (wsV RX10 208 RX7 yX7_greatestWithin wsX7_greatestWithin) := goodIn_app (goodIn_of _ (by decide +kernel)) ggX10_ideal_X7_greatestWithin
theorem dX10_ideal_0 : decode cX10_ideal 0 = .ok (.aload_n 0, 1) := by decide +kernel
theorem dX10_ideal_1 : decode cX10_ideal 1 = .ok (.getfield 38, 3) := by decide +kernel
theorem dX10_ideal_4 : decode cX10_ideal 4 = .ok (.aload_n 0, 1) := by decide +kernel
theorem dX10_ideal_5 : decode cX10_ideal 5 = .ok (.getfield 10, 3) := by decide +kernel
theorem dX10_ideal_8 : decode cX10_ideal 8 = .ok (.invokevirtual 150, 3) := by decide +kernel
theorem dX10_ideal_11 : decode cX10_ideal 11 = .ok (.aload_n 0, 1) := by decide +kernel
theorem dX10_ideal_12 : decode cX10_ideal 12 = .ok (.getfield 52, 3) := by decide +kernel
theorem dX10_ideal_15 : decode cX10_ideal 15 = .ok (.iconst 3, 1) := by decide +kernel
theorem dX10_ideal_16 : decode cX10_ideal 16 = .ok (.aload_n 0, 1) := by decide +kernel
theorem dX10_ideal_17 : decode cX10_ideal 17 = .ok (.getfield 10, 3) := by decide +kernel
theorem dX10_ideal_20 : decode cX10_ideal 20 = .ok (.getfield 187, 3) := by decide +kernel
theorem dX10_ideal_23 : decode cX10_ideal 23 = .ok (.aload_n 0, 1) := by decide +kernel
theorem dX10_ideal_24 : decode cX10_ideal 24 = .ok (.getfield 38, 3) := by decide +kernel
theorem dX10_ideal_27 : decode cX10_ideal 27 = .ok (.invokevirtual 190, 3) := by decide +kernel
theorem dX10_ideal_30 : decode cX10_ideal 30 = .ok (.aload_n 0, 1) := by decide +kernel
theorem dX10_ideal_31 : decode cX10_ideal 31 = .ok (.getfield 52, 3) := by decide +kernel
theorem dX10_ideal_34 : decode cX10_ideal 34 = .ok (.invokevirtual 205, 3) := by decide +kernel
theorem dX10_ideal_37 : decode cX10_ideal 37 = .ok (.istore_n 1, 1) := by decide +kernel
theorem dX10_ideal_38 : decode cX10_ideal 38 = .ok (.aload_n 0, 1) := by decide +kernel
theorem dX10_ideal_39 : decode cX10_ideal 39 = .ok (.getfield 52, 3) := by decide +kernel
theorem dX10_ideal_42 : decode cX10_ideal 42 = .ok (.iconst 1, 1) := by decide +kernel
theorem dX10_ideal_43 : decode cX10_ideal 43 = .ok (.aload_n 0, 1) := by decide +kernel
theorem dX10_ideal_44 : decode cX10_ideal 44 = .ok (.getfield 10, 3) := by decide +kernel
theorem dX10_ideal_47 : decode cX10_ideal 47 = .ok (.getfield 187, 3) := by decide +kernel
theorem dX10_ideal_50 : decode cX10_ideal 50 = .ok (.aload_n 0, 1) := by decide +kernel
theorem dX10_ideal_51 : decode cX10_ideal 51 = .ok (.getfield 38, 3) := by decide +kernel
theorem dX10_ideal_54 : decode cX10_ideal 54 = .ok (.invokevirtual 190, 3) := by decide +kernel
theorem dX10_ideal_57 : decode cX10_ideal 57 = .ok (.aload_n 0, 1) := by decide +kernel
theorem dX10_ideal_58 : decode cX10_ideal 58 = .ok (.getfield 52, 3) := by decide +kernel
theorem dX10_ideal_61 : decode cX10_ideal 61 = .ok (.iload_n 1, 1) := by decide +kernel
theorem dX10_ideal_62 : decode cX10_ideal 62 = .ok (.invokevirtual 208, 3) := by decide +kernel
theorem dX10_ideal_65 : decode cX10_ideal 65 = .ok (.ireturn, 1) := by decide +kernel
set_option maxRecDepth 20000 in
theorem ggX10_game_X3_knows : GoodIn wsX10_game wsX3_knows := goodIn_r _ [10, 11, 164, 165, 166, 167, 168, 169, 170, 171] (by decide +kernel) (by decide +kernel)
set_option maxRecDepth 20000 in
theorem gX10_game_X3_knows : GoodIn wsX10_game (wsV RX10 108 RX3 yX3_knows wsX3_knows) := goodIn_app (goodIn_of _ (by decide +kernel)) ggX10_game_X3_knows
set_option maxRecDepth 20000 in
theorem ggX10_game_X10_refuse : GoodIn wsX10_game wsX10_refuse := goodIn_r _ [16, 17, 153, 154, 155, 156, 157, 158, 159, 160, 161, 162, 163] (by decide +kernel) (by decide +kernel)
set_option maxRecDepth 20000 in
theorem gX10_game_X10_refuse : GoodIn wsX10_game (wsV RX10 78 RX10 yX10_refuse wsX10_refuse) := goodIn_app (goodIn_of _ (by decide +kernel)) ggX10_game_X10_refuse
set_option maxRecDepth 20000 in
theorem ggX10_game_X3_hears : GoodIn wsX10_game wsX3_hears := goodIn_r _ [21, 22, 23, 7, 8, 9, 10, 11, 24, 25, 26, 27, 164, 165, 166, 167, 168, 169, 170, 171] (by decide +kernel) (by decide +kernel)
set_option maxRecDepth 20000 in
theorem gX10_game_X3_hears : GoodIn wsX10_game (wsV RX10 114 RX3 yX3_hears wsX3_hears) := goodIn_app (goodIn_of _ (by decide +kernel)) ggX10_game_X3_hears
set_option maxRecDepth 20000 in
theorem ggX10_game_X10_isFirstOrSecond : GoodIn wsX10_game wsX10_isFirstOrSecond := goodIn_r _ [30] (by decide +kernel) (by decide +kernel)
set_option maxRecDepth 20000 in
theorem gX10_game_X10_isFirstOrSecond : GoodIn wsX10_game (va_wsS RX10 199 yX10_isFirstOrSecond wsX10_isFirstOrSecond) := goodIn_app (goodIn_of _ (by decide +kernel)) ggX10_game_X10_isFirstOrSecond
set_option maxRecDepth 20000 in
theorem ggX10_game_X1_reckon : GoodIn wsX10_game wsX1_reckon := goodIn_r _ [35, 36, 37, 38, 39, 40, 41, 42, 43, 44, 34, 45, 46, 47, 48, 49, 50, 9, 51, 52, 53, 54, 26, 55, 56, 57, 58, 59, 60, 61, 62, 63, 64, 65, 66, 67, 68, 69, 70, 71, 72, 73, 74, 25, 27, 75, 76, 77, 78, 79, 80, 81, 82, 83, 84, 85, 86, 87, 88, 89, 90, 91, 92, 93, 172, 173, 174, 175, 164, 165, 166, 167, 168, 169, 170, 171] (by decide +kernel) (by decide +kernel)
set_option maxRecDepth 20000 in
theorem gX10_game_X1_reckon : GoodIn wsX10_game (wsV RX10 150 RX1 yX1_reckon wsX1_reckon) := goodIn_app (goodIn_of _ (by decide +kernel)) ggX10_game_X1_reckon
set_option maxRecDepth 20000 in
theorem ggX10_game_X2_play : GoodIn wsX10_game wsX2_play := goodIn_r _ [98, 99, 100, 25, 26, 27, 101, 102, 103, 97, 104, 105, 106, 107, 108, 109, 110, 111, 112, 113, 114, 115, 116, 117, 118, 54, 55, 119, 120, 121, 122, 123, 124, 125, 126, 127, 128, 129, 130, 131, 132, 133, 134, 135, 136, 137, 138, 139, 176, 177, 178] (by decide +kernel) (by decide +kernel)
set_option maxRecDepth 20000 in
theorem gX10_game_X2_play : GoodIn wsX10_game (wsV RX10 211 RX2 yX2_play wsX2_play) := goodIn_app (goodIn_of _ (by decide +kernel)) ggX10_game_X2_play
set_option maxRecDepth 20000 in
theorem ggX10_game_X2_trees : GoodIn wsX10_game wsX2_trees := goodIn_r _ [143, 136, 137, 138, 97, 139, 106, 107, 108, 109, 176, 177, 178] (by decide +kernel) (by decide +kernel)
set_option maxRecDepth 20000 in
theorem gX10_game_X2_trees : GoodIn wsX10_game (wsV RX10 215 RX2 yX2_trees wsX2_trees) := goodIn_app (goodIn_of _ (by decide +kernel)) ggX10_game_X2_trees
set_option maxRecDepth 20000 in
theorem ggX10_game_X2_isWon : GoodIn wsX10_game wsX2_isWon := goodIn_r _ [147, 148, 149, 150, 97, 151, 123, 124, 125, 126, 105, 107, 108, 109, 176, 177, 178] (by decide +kernel) (by decide +kernel)
set_option maxRecDepth 20000 in
theorem gX10_game_X2_isWon : GoodIn wsX10_game (wsV RX10 218 RX2 yX2_isWon wsX2_isWon) := goodIn_app (goodIn_of _ (by decide +kernel)) ggX10_game_X2_isWon
set_option maxRecDepth 20000 in
theorem ggX10_game_X2_depth : GoodIn wsX10_game wsX2_depth := goodIn_r _ [151, 123, 124, 125, 97, 126, 105, 107, 108, 109, 176, 177, 178] (by decide +kernel) (by decide +kernel)
set_option maxRecDepth 20000 in
theorem gX10_game_X2_depth : GoodIn wsX10_game (wsV RX10 221 RX2 yX2_depth wsX2_depth) := goodIn_app (goodIn_of _ (by decide +kernel)) ggX10_game_X2_depth
theorem dX10_game_0 : decode cX10_game 0 = .ok (.aload_n 0, 1) := by decide +kernel
theorem dX10_game_1 : decode cX10_game 1 = .ok (.getfield 10, 3) := by decide +kernel
theorem dX10_game_4 : decode cX10_game 4 = .ok (.iload_n 1, 1) := by decide +kernel
theorem dX10_game_5 : decode cX10_game 5 = .ok (.invokevirtual 108, 3) := by decide +kernel
theorem dX10_game_8 : decode cX10_game 8 = .ok (.ifCond .ne 9, 3) := by decide +kernel
theorem dX10_game_11 : decode cX10_game 11 = .ok (.aload_n 0, 1) := by decide +kernel
theorem dX10_game_12 : decode cX10_game 12 = .ok (.iconst (-1), 1) := by decide +kernel
theorem dX10_game_13 : decode cX10_game 13 = .ok (.invokevirtual 78, 3) := by decide +kernel
theorem dX10_game_16 : decode cX10_game 16 = .ok (.ireturn, 1) := by decide +kernel
theorem dX10_game_17 : decode cX10_game 17 = .ok (.aload_n 0, 1) := by decide +kernel
theorem dX10_game_18 : decode cX10_game 18 = .ok (.getfield 10, 3) := by decide +kernel
theorem dX10_game_21 : decode cX10_game 21 = .ok (.iload_n 1, 1) := by decide +kernel
theorem dX10_game_22 : decode cX10_game 22 = .ok (.invokevirtual 114, 3) := by decide +kernel
theorem dX10_game_25 : decode cX10_game 25 = .ok (.ifCond .ne 10, 3) := by decide +kernel
theorem dX10_game_28 : decode cX10_game 28 = .ok (.aload_n 0, 1) := by decide +kernel
theorem dX10_game_29 : decode cX10_game 29 = .ok (.bipush (-3), 2) := by decide +kernel
theorem dX10_game_31 : decode cX10_game 31 = .ok (.invokevirtual 78, 3) := by decide +kernel
theorem dX10_game_34 : decode cX10_game 34 = .ok (.ireturn, 1) := by decide +kernel
theorem dX10_game_35 : decode cX10_game 35 = .ok (.iload_n 2, 1) := by decide +kernel
theorem dX10_game_36 : decode cX10_game 36 = .ok (.invokestatic 199, 3) := by decide +kernel
theorem dX10_game_39 : decode cX10_game 39 = .ok (.ifCond .ne 10, 3) := by decide +kernel
theorem dX10_game_42 : decode cX10_game 42 = .ok (.aload_n 0, 1) := by decide +kernel
theorem dX10_game_43 : decode cX10_game 43 = .ok (.bipush (-2), 2) := by decide +kernel
theorem dX10_game_45 : decode cX10_game 45 = .ok (.invokevirtual 78, 3) := by decide +kernel
theorem dX10_game_48 : decode cX10_game 48 = .ok (.ireturn, 1) := by decide +kernel
theorem dX10_game_49 : decode cX10_game 49 = .ok (.aload_n 0, 1) := by decide +kernel
theorem dX10_game_50 : decode cX10_game 50 = .ok (.getfield 38, 3) := by decide +kernel
theorem dX10_game_53 : decode cX10_game 53 = .ok (.aload_n 0, 1) := by decide +kernel
theorem dX10_game_54 : decode cX10_game 54 = .ok (.getfield 10, 3) := by decide +kernel
theorem dX10_game_57 : decode cX10_game 57 = .ok (.invokevirtual 150, 3) := by decide +kernel
theorem dX10_game_60 : decode cX10_game 60 = .ok (.aload_n 0, 1) := by decide +kernel
theorem dX10_game_61 : decode cX10_game 61 = .ok (.getfield 59, 3) := by decide +kernel
theorem dX10_game_64 : decode cX10_game 64 = .ok (.iload_n 1, 1) := by decide +kernel
theorem dX10_game_65 : decode cX10_game 65 = .ok (.aload_n 0, 1) := by decide +kernel
theorem dX10_game_66 : decode cX10_game 66 = .ok (.getfield 10, 3) := by decide +kernel
theorem dX10_game_69 : decode cX10_game 69 = .ok (.getfield 187, 3) := by decide +kernel
theorem dX10_game_72 : decode cX10_game 72 = .ok (.aload_n 0, 1) := by decide +kernel
theorem dX10_game_73 : decode cX10_game 73 = .ok (.getfield 38, 3) := by decide +kernel
theorem dX10_game_76 : decode cX10_game 76 = .ok (.getfield 170, 3) := by decide +kernel
theorem dX10_game_79 : decode cX10_game 79 = .ok (.invokevirtual 211, 3) := by decide +kernel
theorem dX10_game_82 : decode cX10_game 82 = .ok (.iload_n 2, 1) := by decide +kernel
theorem dX10_game_83 : decode cX10_game 83 = .ok (.iconst 1, 1) := by decide +kernel
theorem dX10_game_84 : decode cX10_game 84 = .ok (.if_icmp .ne 12, 3) := by decide +kernel
theorem dX10_game_87 : decode cX10_game 87 = .ok (.aload_n 0, 1) := by decide +kernel
theorem dX10_game_88 : decode cX10_game 88 = .ok (.getfield 59, 3) := by decide +kernel
theorem dX10_game_91 : decode cX10_game 91 = .ok (.iload_n 1, 1) := by decide +kernel
theorem dX10_game_92 : decode cX10_game 92 = .ok (.invokevirtual 215, 3) := by decide +kernel
theorem dX10_game_95 : decode cX10_game 95 = .ok (.ireturn, 1) := by decide +kernel
theorem dX10_game_96 : decode cX10_game 96 = .ok (.aload_n 0, 1) := by decide +kernel
theorem dX10_game_97 : decode cX10_game 97 = .ok (.getfield 59, 3) := by decide +kernel
theorem dX10_game_100 : decode cX10_game 100 = .ok (.iload_n 1, 1) := by decide +kernel
theorem dX10_game_101 : decode cX10_game 101 = .ok (.invokevirtual 218, 3) := by decide +kernel
theorem dX10_game_104 : decode cX10_game 104 = .ok (.ifCond .eq 14, 3) := by decide +kernel
theorem dX10_game_107 : decode cX10_game 107 = .ok (.aload_n 0, 1) := by decide +kernel
theorem dX10_game_108 : decode cX10_game 108 = .ok (.getfield 59, 3) := by decide +kernel
theorem dX10_game_111 : decode cX10_game 111 = .ok (.iload_n 1, 1) := by decide +kernel
theorem dX10_game_112 : decode cX10_game 112 = .ok (.invokevirtual 221, 3) := by decide +kernel
theorem dX10_game_115 : decode cX10_game 115 = .ok (.goto 5, 3) := by decide +kernel
theorem dX10_game_118 : decode cX10_game 118 = .ok (.bipush (-9), 2) := by decide +kernel
theorem dX10_game_120 : decode cX10_game 120 = .ok (.ireturn, 1) := by decide +kernel
set_option maxRecDepth 20000 in
theorem ggX10_answer_X3_knows : GoodIn wsX10_answer wsX3_knows := goodIn_r _ [11, 12, 159, 160, 161, 162, 163, 164, 165, 166] (by decide +kernel) (by decide +kernel)
set_option maxRecDepth 20000 in
theorem gX10_answer_X3_knows : GoodIn wsX10_answer (wsV RX10 108 RX3 yX3_knows wsX3_knows) := goodIn_app (goodIn_of _ (by decide +kernel)) ggX10_answer_X3_knows
set_option maxRecDepth 20000 in
theorem ggX10_answer_X10_refuse : GoodIn wsX10_answer wsX10_refuse := goodIn_r _ [17, 18, 144, 145, 146, 147, 148, 149, 150, 151, 152, 153, 154] (by decide +kernel) (by decide +kernel)
set_option maxRecDepth 20000 in
theorem gX10_answer_X10_refuse : GoodIn wsX10_answer (wsV RX10 78 RX10 yX10_refuse wsX10_refuse) := goodIn_app (goodIn_of _ (by decide +kernel)) ggX10_answer_X10_refuse
set_option maxRecDepth 20000 in
theorem ggX10_answer_X1_reckon : GoodIn wsX10_answer wsX1_reckon := goodIn_r _ [23, 24, 25, 26, 27, 28, 29, 30, 31, 32, 22, 33, 34, 35, 36, 37, 38, 10, 39, 40, 41, 42, 43, 44, 45, 46, 47, 48, 49, 50, 51, 52, 53, 54, 55, 56, 57, 58, 59, 60, 61, 62, 63, 64, 65, 66, 67, 68, 69, 70, 71, 72, 73, 74, 75, 76, 77, 78, 79, 80, 81, 82, 83, 84, 155, 156, 157, 158, 159, 160, 161, 162, 163, 164, 165, 166] (by decide +kernel) (by decide +kernel)
set_option maxRecDepth 20000 in
theorem gX10_answer_X1_reckon : GoodIn wsX10_answer (wsV RX10 150 RX1 yX1_reckon wsX1_reckon) := goodIn_app (goodIn_of _ (by decide +kernel)) ggX10_answer_X1_reckon
set_option maxRecDepth 20000 in
theorem ggX10_answer_X0_has : GoodIn wsX10_answer wsX0_has := goodIn_r _ [55, 56, 57, 43, 58] (by decide +kernel) (by decide +kernel)
set_option maxRecDepth 20000 in
theorem gX10_answer_X0_has : GoodIn wsX10_answer (va_wsS RX10 135 yX0_has wsX0_has) := goodIn_app (goodIn_of _ (by decide +kernel)) ggX10_answer_X0_has
set_option maxRecDepth 20000 in
theorem ggX10_answer_X2_play : GoodIn wsX10_answer wsX2_play := goodIn_r _ [90, 91, 92, 64, 43, 65, 93, 94, 95, 89, 96, 97, 98, 99, 100, 101, 102, 103, 104, 105, 106, 107, 108, 109, 110, 42, 44, 111, 112, 113, 114, 115, 116, 117, 118, 119, 120, 121, 122, 123, 124, 125, 126, 127, 128, 129, 130, 131, 167, 168, 169] (by decide +kernel) (by decide +kernel)
set_option maxRecDepth 20000 in
theorem gX10_answer_X2_play : GoodIn wsX10_answer (wsV RX10 211 RX2 yX2_play wsX2_play) := goodIn_app (goodIn_of _ (by decide +kernel)) ggX10_answer_X2_play
set_option maxRecDepth 20000 in
theorem ggX10_answer_X2_isWon : GoodIn wsX10_answer wsX2_isWon := goodIn_r _ [135, 136, 137, 138, 89, 139, 115, 116, 117, 118, 97, 99, 100, 101, 167, 168, 169] (by decide +kernel) (by decide +kernel)
set_option maxRecDepth 20000 in
theorem gX10_answer_X2_isWon : GoodIn wsX10_answer (wsV RX10 218 RX2 yX2_isWon wsX2_isWon) := goodIn_app (goodIn_of _ (by decide +kernel)) ggX10_answer_X2_isWon
set_option maxRecDepth 20000 in
theorem ggX10_answer_X2_answerTo : GoodIn wsX10_answer wsX2_answerTo := goodIn_r _ [143, 111, 112, 113, 89, 114, 91, 110, 42, 43, 44, 92, 64, 65, 115, 116, 117, 118, 97, 99, 100, 101, 167, 168, 169] (by decide +kernel) (by decide +kernel)
set_option maxRecDepth 20000 in
theorem gX10_answer_X2_answerTo : GoodIn wsX10_answer (wsV RX10 224 RX2 yX2_answerTo wsX2_answerTo) := goodIn_app (goodIn_of _ (by decide +kernel)) ggX10_answer_X2_answerTo
theorem dX10_answer_0 : decode cX10_answer 0 = .ok (.aload_n 0, 1) := by decide +kernel
theorem dX10_answer_1 : decode cX10_answer 1 = .ok (.getfield 10, 3) := by decide +kernel
theorem dX10_answer_4 : decode cX10_answer 4 = .ok (.iload_n 1, 1) := by decide +kernel
theorem dX10_answer_5 : decode cX10_answer 5 = .ok (.invokevirtual 108, 3) := by decide +kernel
theorem dX10_answer_8 : decode cX10_answer 8 = .ok (.ifCond .eq 14, 3) := by decide +kernel
theorem dX10_answer_11 : decode cX10_answer 11 = .ok (.aload_n 0, 1) := by decide +kernel
theorem dX10_answer_12 : decode cX10_answer 12 = .ok (.getfield 10, 3) := by decide +kernel
theorem dX10_answer_15 : decode cX10_answer 15 = .ok (.iload_n 2, 1) := by decide +kernel
theorem dX10_answer_16 : decode cX10_answer 16 = .ok (.invokevirtual 108, 3) := by decide +kernel
theorem dX10_answer_19 : decode cX10_answer 19 = .ok (.ifCond .ne 9, 3) := by decide +kernel
theorem dX10_answer_22 : decode cX10_answer 22 = .ok (.aload_n 0, 1) := by decide +kernel
theorem dX10_answer_23 : decode cX10_answer 23 = .ok (.iconst (-1), 1) := by decide +kernel
theorem dX10_answer_24 : decode cX10_answer 24 = .ok (.invokevirtual 78, 3) := by decide +kernel
theorem dX10_answer_27 : decode cX10_answer 27 = .ok (.ireturn, 1) := by decide +kernel
theorem dX10_answer_28 : decode cX10_answer 28 = .ok (.aload_n 0, 1) := by decide +kernel
theorem dX10_answer_29 : decode cX10_answer 29 = .ok (.getfield 38, 3) := by decide +kernel
theorem dX10_answer_32 : decode cX10_answer 32 = .ok (.aload_n 0, 1) := by decide +kernel
theorem dX10_answer_33 : decode cX10_answer 33 = .ok (.getfield 10, 3) := by decide +kernel
theorem dX10_answer_36 : decode cX10_answer 36 = .ok (.invokevirtual 150, 3) := by decide +kernel
theorem dX10_answer_39 : decode cX10_answer 39 = .ok (.aload_n 0, 1) := by decide +kernel
theorem dX10_answer_40 : decode cX10_answer 40 = .ok (.getfield 38, 3) := by decide +kernel
theorem dX10_answer_43 : decode cX10_answer 43 = .ok (.getfield 167, 3) := by decide +kernel
theorem dX10_answer_46 : decode cX10_answer 46 = .ok (.iload_n 2, 1) := by decide +kernel
theorem dX10_answer_47 : decode cX10_answer 47 = .ok (.iload_n 1, 1) := by decide +kernel
theorem dX10_answer_48 : decode cX10_answer 48 = .ok (.invokestatic 135, 3) := by decide +kernel
theorem dX10_answer_51 : decode cX10_answer 51 = .ok (.ifCond .ne 10, 3) := by decide +kernel
theorem dX10_answer_54 : decode cX10_answer 54 = .ok (.aload_n 0, 1) := by decide +kernel
theorem dX10_answer_55 : decode cX10_answer 55 = .ok (.bipush (-3), 2) := by decide +kernel
theorem dX10_answer_57 : decode cX10_answer 57 = .ok (.invokevirtual 78, 3) := by decide +kernel
theorem dX10_answer_60 : decode cX10_answer 60 = .ok (.ireturn, 1) := by decide +kernel
theorem dX10_answer_61 : decode cX10_answer 61 = .ok (.aload_n 0, 1) := by decide +kernel
theorem dX10_answer_62 : decode cX10_answer 62 = .ok (.getfield 59, 3) := by decide +kernel
theorem dX10_answer_65 : decode cX10_answer 65 = .ok (.iload_n 1, 1) := by decide +kernel
theorem dX10_answer_66 : decode cX10_answer 66 = .ok (.aload_n 0, 1) := by decide +kernel
theorem dX10_answer_67 : decode cX10_answer 67 = .ok (.getfield 10, 3) := by decide +kernel
theorem dX10_answer_70 : decode cX10_answer 70 = .ok (.getfield 187, 3) := by decide +kernel
theorem dX10_answer_73 : decode cX10_answer 73 = .ok (.aload_n 0, 1) := by decide +kernel
theorem dX10_answer_74 : decode cX10_answer 74 = .ok (.getfield 38, 3) := by decide +kernel
theorem dX10_answer_77 : decode cX10_answer 77 = .ok (.getfield 170, 3) := by decide +kernel
theorem dX10_answer_80 : decode cX10_answer 80 = .ok (.invokevirtual 211, 3) := by decide +kernel
theorem dX10_answer_83 : decode cX10_answer 83 = .ok (.aload_n 0, 1) := by decide +kernel
theorem dX10_answer_84 : decode cX10_answer 84 = .ok (.getfield 59, 3) := by decide +kernel
theorem dX10_answer_87 : decode cX10_answer 87 = .ok (.iload_n 1, 1) := by decide +kernel
theorem dX10_answer_88 : decode cX10_answer 88 = .ok (.invokevirtual 218, 3) := by decide +kernel
theorem dX10_answer_91 : decode cX10_answer 91 = .ok (.ifCond .eq 15, 3) := by decide +kernel
theorem dX10_answer_94 : decode cX10_answer 94 = .ok (.aload_n 0, 1) := by decide +kernel
theorem dX10_answer_95 : decode cX10_answer 95 = .ok (.getfield 59, 3) := by decide +kernel
theorem dX10_answer_98 : decode cX10_answer 98 = .ok (.iload_n 1, 1) := by decide +kernel
theorem dX10_answer_99 : decode cX10_answer 99 = .ok (.iload_n 2, 1) := by decide +kernel
theorem dX10_answer_100 : decode cX10_answer 100 = .ok (.invokevirtual 224, 3) := by decide +kernel
theorem dX10_answer_103 : decode cX10_answer 103 = .ok (.goto 5, 3) := by decide +kernel
theorem dX10_answer_106 : decode cX10_answer 106 = .ok (.bipush (-9), 2) := by decide +kernel
theorem dX10_answer_108 : decode cX10_answer 108 = .ok (.ireturn, 1) := by decide +kernel
set_option maxRecDepth 20000 in
theorem ggX10_changes_X3_knows : GoodIn wsX10_changes wsX3_knows := goodIn_r _ [7, 8, 152, 153, 154, 155, 156, 157, 158, 159] (by decide +kernel) (by decide +kernel)
set_option maxRecDepth 20000 in
theorem gX10_changes_X3_knows : GoodIn wsX10_changes (wsV RX10 108 RX3 yX3_knows wsX3_knows) := goodIn_app (goodIn_of _ (by decide +kernel)) ggX10_changes_X3_knows
set_option maxRecDepth 20000 in
theorem ggX10_changes_X10_refuse : GoodIn wsX10_changes wsX10_refuse := goodIn_r _ [13, 14, 141, 142, 143, 144, 145, 146, 147, 148, 149, 150, 151] (by decide +kernel) (by decide +kernel)
set_option maxRecDepth 20000 in
theorem gX10_changes_X10_refuse : GoodIn wsX10_changes (wsV RX10 78 RX10 yX10_refuse wsX10_refuse) := goodIn_app (goodIn_of _ (by decide +kernel)) ggX10_changes_X10_refuse
set_option maxRecDepth 20000 in
theorem ggX10_changes_X3_hears : GoodIn wsX10_changes wsX3_hears := goodIn_r _ [18, 19, 20, 4, 5, 6, 7, 8, 21, 22, 23, 24, 152, 153, 154, 155, 156, 157, 158, 159] (by decide +kernel) (by decide +kernel)
set_option maxRecDepth 20000 in
theorem gX10_changes_X3_hears : GoodIn wsX10_changes (wsV RX10 114 RX3 yX3_hears wsX3_hears) := goodIn_app (goodIn_of _ (by decide +kernel)) ggX10_changes_X3_hears
set_option maxRecDepth 20000 in
theorem ggX10_changes_X10_isFirstOrSecond : GoodIn wsX10_changes wsX10_isFirstOrSecond := goodIn_r _ [27] (by decide +kernel) (by decide +kernel)
set_option maxRecDepth 20000 in
theorem gX10_changes_X10_isFirstOrSecond : GoodIn wsX10_changes (va_wsS RX10 199 yX10_isFirstOrSecond wsX10_isFirstOrSecond) := goodIn_app (goodIn_of _ (by decide +kernel)) ggX10_changes_X10_isFirstOrSecond
set_option maxRecDepth 20000 in
theorem ggX10_changes_X8_changesFor : GoodIn wsX10_changes wsX8_changesFor := goodIn_r _ [32, 33, 34, 35, 36, 37, 6, 38, 8, 19, 39, 40, 41, 42, 43, 44, 45, 46, 47, 31, 48, 49, 50, 51, 52, 53, 54, 55, 56, 57, 58, 59, 60, 61, 62, 63, 64, 65, 66, 67, 68, 69, 70, 71, 72, 73, 74, 23, 75, 76, 77, 78, 79, 80, 81, 82, 83, 84, 85, 86, 87, 88, 89, 90, 91, 92, 93, 22, 24, 94, 95, 96, 97, 98, 99, 100, 101, 102, 103, 104, 105, 106, 107, 108, 109, 110, 111, 112, 113, 114, 115, 116, 117, 118, 119, 120, 121, 122, 123, 124, 125, 126, 127, 128, 129, 130, 131, 132, 133, 134, 135, 16, 17, 18, 20, 4, 5, 7, 21, 136, 137, 138, 139, 140, 160, 161, 162, 152, 153, 154, 155, 156, 157, 158, 159, 163, 164, 165, 166, 167, 168, 169, 170] (by decide +kernel) (by decide +kernel)
set_option maxRecDepth 20000 in
theorem gX10_changes_X8_changesFor : GoodIn wsX10_changes (wsV RX10 228 RX8 yX8_changesFor wsX8_changesFor) := goodIn_app (goodIn_of _ (by decide +kernel)) ggX10_changes_X8_changesFor
theorem dX10_changes_0 : decode cX10_changes 0 = .ok (.aload_n 0, 1) := by decide +kernel
theorem dX10_changes_1 : decode cX10_changes 1 = .ok (.getfield 10, 3) := by decide +kernel
theorem dX10_changes_4 : decode cX10_changes 4 = .ok (.iload_n 1, 1) := by decide +kernel
theorem dX10_changes_5 : decode cX10_changes 5 = .ok (.invokevirtual 108, 3) := by decide +kernel
theorem dX10_changes_8 : decode cX10_changes 8 = .ok (.ifCond .ne 9, 3) := by decide +kernel
theorem dX10_changes_11 : decode cX10_changes 11 = .ok (.aload_n 0, 1) := by decide +kernel
theorem dX10_changes_12 : decode cX10_changes 12 = .ok (.iconst (-1), 1) := by decide +kernel
theorem dX10_changes_13 : decode cX10_changes 13 = .ok (.invokevirtual 78, 3) := by decide +kernel
theorem dX10_changes_16 : decode cX10_changes 16 = .ok (.ireturn, 1) := by decide +kernel
theorem dX10_changes_17 : decode cX10_changes 17 = .ok (.aload_n 0, 1) := by decide +kernel
theorem dX10_changes_18 : decode cX10_changes 18 = .ok (.getfield 10, 3) := by decide +kernel
theorem dX10_changes_21 : decode cX10_changes 21 = .ok (.iload_n 1, 1) := by decide +kernel
theorem dX10_changes_22 : decode cX10_changes 22 = .ok (.invokevirtual 114, 3) := by decide +kernel
theorem dX10_changes_25 : decode cX10_changes 25 = .ok (.ifCond .ne 10, 3) := by decide +kernel
theorem dX10_changes_28 : decode cX10_changes 28 = .ok (.aload_n 0, 1) := by decide +kernel
theorem dX10_changes_29 : decode cX10_changes 29 = .ok (.bipush (-3), 2) := by decide +kernel
theorem dX10_changes_31 : decode cX10_changes 31 = .ok (.invokevirtual 78, 3) := by decide +kernel
theorem dX10_changes_34 : decode cX10_changes 34 = .ok (.ireturn, 1) := by decide +kernel
theorem dX10_changes_35 : decode cX10_changes 35 = .ok (.iload_n 2, 1) := by decide +kernel
theorem dX10_changes_36 : decode cX10_changes 36 = .ok (.invokestatic 199, 3) := by decide +kernel
theorem dX10_changes_39 : decode cX10_changes 39 = .ok (.ifCond .ne 10, 3) := by decide +kernel
theorem dX10_changes_42 : decode cX10_changes 42 = .ok (.aload_n 0, 1) := by decide +kernel
theorem dX10_changes_43 : decode cX10_changes 43 = .ok (.bipush (-2), 2) := by decide +kernel
theorem dX10_changes_45 : decode cX10_changes 45 = .ok (.invokevirtual 78, 3) := by decide +kernel
theorem dX10_changes_48 : decode cX10_changes 48 = .ok (.ireturn, 1) := by decide +kernel
theorem dX10_changes_49 : decode cX10_changes 49 = .ok (.aload_n 0, 1) := by decide +kernel
theorem dX10_changes_50 : decode cX10_changes 50 = .ok (.getfield 66, 3) := by decide +kernel
theorem dX10_changes_53 : decode cX10_changes 53 = .ok (.aload_n 0, 1) := by decide +kernel
theorem dX10_changes_54 : decode cX10_changes 54 = .ok (.getfield 10, 3) := by decide +kernel
theorem dX10_changes_57 : decode cX10_changes 57 = .ok (.iload_n 1, 1) := by decide +kernel
theorem dX10_changes_58 : decode cX10_changes 58 = .ok (.iload_n 2, 1) := by decide +kernel
theorem dX10_changes_59 : decode cX10_changes 59 = .ok (.iconst 1, 1) := by decide +kernel
theorem dX10_changes_60 : decode cX10_changes 60 = .ok (.if_icmp .ne 7, 3) := by decide +kernel
theorem dX10_changes_63 : decode cX10_changes 63 = .ok (.iconst 1, 1) := by decide +kernel
theorem dX10_changes_64 : decode cX10_changes 64 = .ok (.goto 4, 3) := by decide +kernel
theorem dX10_changes_67 : decode cX10_changes 67 = .ok (.iconst 0, 1) := by decide +kernel
theorem dX10_changes_68 : decode cX10_changes 68 = .ok (.invokevirtual 228, 3) := by decide +kernel
theorem dX10_changes_71 : decode cX10_changes 71 = .ok (.ireturn, 1) := by decide +kernel
set_option maxRecDepth 20000 in
theorem ggX10_without_X3_knows : GoodIn wsX10_without wsX3_knows := goodIn_r _ [7, 8, 147, 148, 149, 150, 151, 152, 153, 154] (by decide +kernel) (by decide +kernel)
set_option maxRecDepth 20000 in
theorem gX10_without_X3_knows : GoodIn wsX10_without (wsV RX10 108 RX3 yX3_knows wsX3_knows) := goodIn_app (goodIn_of _ (by decide +kernel)) ggX10_without_X3_knows
set_option maxRecDepth 20000 in
theorem ggX10_without_X10_refuse : GoodIn wsX10_without wsX10_refuse := goodIn_r _ [13, 14, 136, 137, 138, 139, 140, 141, 142, 143, 144, 145, 146] (by decide +kernel) (by decide +kernel)
set_option maxRecDepth 20000 in
theorem gX10_without_X10_refuse : GoodIn wsX10_without (wsV RX10 78 RX10 yX10_refuse wsX10_refuse) := goodIn_app (goodIn_of _ (by decide +kernel)) ggX10_without_X10_refuse
set_option maxRecDepth 20000 in
theorem ggX10_without_X8_inWithout : GoodIn wsX10_without wsX8_inWithout := goodIn_r _ [19, 20, 21, 22, 18, 23, 24, 25, 26, 27, 28, 6, 29, 8, 30, 31, 32, 33, 34, 35, 36, 37, 38, 39, 40, 41, 42, 43, 44, 45, 46, 47, 48, 49, 50, 51, 52, 53, 54, 55, 56, 57, 58, 59, 60, 61, 62, 63, 64, 65, 66, 67, 68, 69, 70, 71, 72, 73, 74, 75, 76, 77, 78, 79, 80, 81, 82, 83, 84, 85, 86, 87, 88, 89, 90, 91, 92, 93, 94, 95, 96, 97, 98, 99, 100, 101, 102, 103, 104, 105, 106, 107, 108, 109, 110, 111, 112, 113, 114, 115, 116, 117, 118, 119, 120, 121, 122, 123, 124, 125, 126, 127, 128, 129, 130, 131, 132, 133, 134, 135, 155, 156, 157, 147, 148, 149, 150, 151, 152, 153, 154, 158, 159, 160, 161, 162, 163, 164, 165] (by decide +kernel) (by decide +kernel)
set_option maxRecDepth 20000 in
theorem gX10_without_X8_inWithout : GoodIn wsX10_without (wsV RX10 232 RX8 yX8_inWithout wsX8_inWithout) := goodIn_app (goodIn_of _ (by decide +kernel)) ggX10_without_X8_inWithout
theorem dX10_without_0 : decode cX10_without 0 = .ok (.aload_n 0, 1) := by decide +kernel
theorem dX10_without_1 : decode cX10_without 1 = .ok (.getfield 10, 3) := by decide +kernel
theorem dX10_without_4 : decode cX10_without 4 = .ok (.iload_n 1, 1) := by decide +kernel
theorem dX10_without_5 : decode cX10_without 5 = .ok (.invokevirtual 108, 3) := by decide +kernel
theorem dX10_without_8 : decode cX10_without 8 = .ok (.ifCond .ne 9, 3) := by decide +kernel
theorem dX10_without_11 : decode cX10_without 11 = .ok (.aload_n 0, 1) := by decide +kernel
theorem dX10_without_12 : decode cX10_without 12 = .ok (.iconst (-1), 1) := by decide +kernel
theorem dX10_without_13 : decode cX10_without 13 = .ok (.invokevirtual 78, 3) := by decide +kernel
theorem dX10_without_16 : decode cX10_without 16 = .ok (.ireturn, 1) := by decide +kernel
theorem dX10_without_17 : decode cX10_without 17 = .ok (.aload_n 0, 1) := by decide +kernel
theorem dX10_without_18 : decode cX10_without 18 = .ok (.getfield 66, 3) := by decide +kernel
theorem dX10_without_21 : decode cX10_without 21 = .ok (.aload_n 0, 1) := by decide +kernel
theorem dX10_without_22 : decode cX10_without 22 = .ok (.getfield 10, 3) := by decide +kernel
theorem dX10_without_25 : decode cX10_without 25 = .ok (.iconst 1, 1) := by decide +kernel
theorem dX10_without_26 : decode cX10_without 26 = .ok (.iload_n 1, 1) := by decide +kernel
theorem dX10_without_27 : decode cX10_without 27 = .ok (.ishl, 1) := by decide +kernel
theorem dX10_without_28 : decode cX10_without 28 = .ok (.invokevirtual 232, 3) := by decide +kernel
theorem dX10_without_31 : decode cX10_without 31 = .ok (.ireturn, 1) := by decide +kernel
set_option maxRecDepth 20000 in
theorem ggX10_spare_X10_isFirstOrSecond : GoodIn wsX10_spare wsX10_isFirstOrSecond := goodIn_r _ [6] (by decide +kernel) (by decide +kernel)
set_option maxRecDepth 20000 in
theorem gX10_spare_X10_isFirstOrSecond : GoodIn wsX10_spare (va_wsS RX10 199 yX10_isFirstOrSecond wsX10_isFirstOrSecond) := goodIn_app (goodIn_of _ (by decide +kernel)) ggX10_spare_X10_isFirstOrSecond
set_option maxRecDepth 20000 in
theorem ggX10_spare_X10_refuse : GoodIn wsX10_spare wsX10_refuse := goodIn_r _ [10, 11, 122, 123, 124, 125, 126, 127, 128, 129, 130, 131, 132] (by decide +kernel) (by decide +kernel)
set_option maxRecDepth 20000 in
theorem gX10_spare_X10_refuse : GoodIn wsX10_spare (wsV RX10 78 RX10 yX10_refuse wsX10_refuse) := goodIn_app (goodIn_of _ (by decide +kernel)) ggX10_spare_X10_refuse
set_option maxRecDepth 20000 in
theorem ggX10_spare_X8_spared : GoodIn wsX10_spare wsX8_spared := goodIn_r _ [16, 17, 18, 19, 20, 21, 22, 23, 24, 25, 26, 27, 15, 28, 29, 30, 31, 32, 33, 34, 35, 36, 37, 38, 39, 40, 41, 42, 43, 44, 45, 46, 47, 48, 49, 50, 51, 52, 53, 54, 55, 56, 57, 58, 59, 60, 61, 62, 63, 64, 65, 66, 67, 68, 69, 70, 71, 72, 73, 74, 75, 76, 77, 78, 79, 80, 81, 82, 83, 84, 85, 86, 87, 88, 89, 90, 91, 92, 93, 94, 95, 96, 97, 98, 99, 100, 101, 102, 103, 104, 105, 106, 107, 108, 109, 110, 111, 112, 113, 114, 115, 116, 117, 118, 119, 120, 133, 134, 135, 136, 137, 138, 139, 140, 141, 142, 143, 144, 145, 146, 147] (by decide +kernel) (by decide +kernel)
set_option maxRecDepth 20000 in
theorem gX10_spare_X8_spared : GoodIn wsX10_spare (wsV RX10 235 RX8 yX8_spared wsX8_spared) := goodIn_app (goodIn_of _ (by decide +kernel)) ggX10_spare_X8_spared
set_option maxRecDepth 20000 in
theorem ggX10_spare_J6_bitCount_0f7a4 : GoodIn wsX10_spare wsJ6_bitCount_0f7a4 := goodIn_r _ [21, 22, 23, 24] (by decide +kernel) (by decide +kernel)
set_option maxRecDepth 20000 in
theorem gX10_spare_J6_bitCount_0f7a4 : GoodIn wsX10_spare (va_wsS RX10 238 yJ6_bitCount_0f7a4 wsJ6_bitCount_0f7a4) := goodIn_app (goodIn_of _ (by decide +kernel)) ggX10_spare_J6_bitCount_0f7a4
theorem dX10_spare_0 : decode cX10_spare 0 = .ok (.iload_n 1, 1) := by decide +kernel
theorem dX10_spare_1 : decode cX10_spare 1 = .ok (.invokestatic 199, 3) := by decide +kernel
theorem dX10_spare_4 : decode cX10_spare 4 = .ok (.ifCond .ne 10, 3) := by decide +kernel
theorem dX10_spare_7 : decode cX10_spare 7 = .ok (.aload_n 0, 1) := by decide +kernel
theorem dX10_spare_8 : decode cX10_spare 8 = .ok (.bipush (-2), 2) := by decide +kernel
theorem dX10_spare_10 : decode cX10_spare 10 = .ok (.invokevirtual 78, 3) := by decide +kernel
theorem dX10_spare_13 : decode cX10_spare 13 = .ok (.ireturn, 1) := by decide +kernel
theorem dX10_spare_14 : decode cX10_spare 14 = .ok (.aload_n 0, 1) := by decide +kernel
theorem dX10_spare_15 : decode cX10_spare 15 = .ok (.getfield 66, 3) := by decide +kernel
theorem dX10_spare_18 : decode cX10_spare 18 = .ok (.aload_n 0, 1) := by decide +kernel
theorem dX10_spare_19 : decode cX10_spare 19 = .ok (.getfield 10, 3) := by decide +kernel
theorem dX10_spare_22 : decode cX10_spare 22 = .ok (.invokevirtual 235, 3) := by decide +kernel
theorem dX10_spare_25 : decode cX10_spare 25 = .ok (.istore_n 2, 1) := by decide +kernel
theorem dX10_spare_26 : decode cX10_spare 26 = .ok (.iload_n 1, 1) := by decide +kernel
theorem dX10_spare_27 : decode cX10_spare 27 = .ok (.ifCond .ne 10, 3) := by decide +kernel
theorem dX10_spare_30 : decode cX10_spare 30 = .ok (.iload_n 2, 1) := by decide +kernel
theorem dX10_spare_31 : decode cX10_spare 31 = .ok (.invokestatic 238, 3) := by decide +kernel
theorem dX10_spare_34 : decode cX10_spare 34 = .ok (.goto 4, 3) := by decide +kernel
theorem dX10_spare_37 : decode cX10_spare 37 = .ok (.iload_n 2, 1) := by decide +kernel
theorem dX10_spare_38 : decode cX10_spare 38 = .ok (.ireturn, 1) := by decide +kernel
set_option maxRecDepth 20000 in
theorem ggX10_missing_X3_knows : GoodIn wsX10_missing wsX3_knows := goodIn_r _ [7, 8, 166, 167, 168, 169, 170, 171, 172, 173] (by decide +kernel) (by decide +kernel)
set_option maxRecDepth 20000 in
theorem gX10_missing_X3_knows : GoodIn wsX10_missing (wsV RX10 108 RX3 yX3_knows wsX3_knows) := goodIn_app (goodIn_of _ (by decide +kernel)) ggX10_missing_X3_knows
set_option maxRecDepth 20000 in
theorem ggX10_missing_X10_refuseFar : GoodIn wsX10_missing wsX10_refuseFar := goodIn_r _ [13, 14, 15, 16, 17, 12, 18, 19, 155, 156, 157, 158, 159, 160, 161, 162, 163, 164, 165] (by decide +kernel) (by decide +kernel)
set_option maxRecDepth 20000 in
theorem gX10_missing_X10_refuseFar : GoodIn wsX10_missing (wsV RX10 243 RX10 yX10_refuseFar wsX10_refuseFar) := goodIn_app (goodIn_of _ (by decide +kernel)) ggX10_missing_X10_refuseFar
set_option maxRecDepth 20000 in
theorem ggX10_missing_X10_isFirstOrSecond : GoodIn wsX10_missing wsX10_isFirstOrSecond := goodIn_r _ [22] (by decide +kernel) (by decide +kernel)
set_option maxRecDepth 20000 in
theorem gX10_missing_X10_isFirstOrSecond : GoodIn wsX10_missing (va_wsS RX10 199 yX10_isFirstOrSecond wsX10_isFirstOrSecond) := goodIn_app (goodIn_of _ (by decide +kernel)) ggX10_missing_X10_isFirstOrSecond
set_option maxRecDepth 20000 in
theorem ggX10_missing_X8_allOdds : GoodIn wsX10_missing wsX8_allOdds := goodIn_r _ [27, 28, 29, 30, 31, 32, 33, 34, 35, 36, 37, 26, 38, 166, 167, 168, 169, 170, 171, 172, 173] (by decide +kernel) (by decide +kernel)
set_option maxRecDepth 20000 in
theorem gX10_missing_X8_allOdds : GoodIn wsX10_missing (wsV RX10 247 RX8 yX8_allOdds wsX8_allOdds) := goodIn_app (goodIn_of _ (by decide +kernel)) ggX10_missing_X8_allOdds
set_option maxRecDepth 20000 in
theorem ggX10_missing_X8_oddsOfIn : GoodIn wsX10_missing wsX8_oddsOfIn := goodIn_r _ [42, 28, 43, 44, 45, 26, 46, 47, 48, 49, 50, 6, 51, 8, 52, 53, 54, 55, 56, 57, 58, 59, 60, 61, 62, 63, 64, 65, 66, 67, 68, 69, 70, 71, 72, 73, 74, 75, 76, 77, 78, 79, 80, 81, 82, 83, 84, 85, 86, 87, 88, 89, 90, 91, 92, 93, 94, 95, 96, 97, 98, 99, 100, 101, 102, 103, 104, 105, 106, 107, 108, 109, 110, 111, 112, 113, 114, 115, 116, 117, 118, 119, 120, 121, 122, 123, 124, 125, 126, 127, 128, 129, 130, 131, 132, 133, 134, 135, 136, 137, 138, 139, 140, 141, 142, 143, 144, 145, 146, 147, 148, 149, 150, 151, 29, 30, 31, 32, 33, 34, 35, 36, 37, 38, 166, 167, 168, 169, 170, 171, 172, 173, 174, 175, 176, 177, 178, 179, 180, 181, 182, 183, 184] (by decide +kernel) (by decide +kernel)
set_option maxRecDepth 20000 in
theorem gX10_missing_X8_oddsOfIn : GoodIn wsX10_missing (wsV RX10 251 RX8 yX8_oddsOfIn wsX8_oddsOfIn) := goodIn_app (goodIn_of _ (by decide +kernel)) ggX10_missing_X8_oddsOfIn
set_option maxRecDepth 20000 in
theorem ggX10_missing_X8_commonDivisor : GoodIn wsX10_missing wsX8_commonDivisor := goodIn_r _ [154] (by decide +kernel) (by decide +kernel)
set_option maxRecDepth 20000 in
theorem gX10_missing_X8_commonDivisor : GoodIn wsX10_missing (va_wsS RX10 255 yX8_commonDivisor wsX8_commonDivisor) := goodIn_app (goodIn_of _ (by decide +kernel)) ggX10_missing_X8_commonDivisor
theorem dX10_missing_0 : decode cX10_missing 0 = .ok (.aload_n 0, 1) := by decide +kernel
theorem dX10_missing_1 : decode cX10_missing 1 = .ok (.getfield 10, 3) := by decide +kernel
theorem dX10_missing_4 : decode cX10_missing 4 = .ok (.iload_n 1, 1) := by decide +kernel
theorem dX10_missing_5 : decode cX10_missing 5 = .ok (.invokevirtual 108, 3) := by decide +kernel
theorem dX10_missing_8 : decode cX10_missing 8 = .ok (.ifCond .ne 9, 3) := by decide +kernel
theorem dX10_missing_11 : decode cX10_missing 11 = .ok (.aload_n 0, 1) := by decide +kernel
theorem dX10_missing_12 : decode cX10_missing 12 = .ok (.iconst (-1), 1) := by decide +kernel
theorem dX10_missing_13 : decode cX10_missing 13 = .ok (.invokevirtual 243, 3) := by decide +kernel
theorem dX10_missing_16 : decode cX10_missing 16 = .ok (.lreturn, 1) := by decide +kernel
theorem dX10_missing_17 : decode cX10_missing 17 = .ok (.iload_n 2, 1) := by decide +kernel
theorem dX10_missing_18 : decode cX10_missing 18 = .ok (.iconst 2, 1) := by decide +kernel
theorem dX10_missing_19 : decode cX10_missing 19 = .ok (.if_icmp .ge 10, 3) := by decide +kernel
theorem dX10_missing_22 : decode cX10_missing 22 = .ok (.aload_n 0, 1) := by decide +kernel
theorem dX10_missing_23 : decode cX10_missing 23 = .ok (.bipush (-4), 2) := by decide +kernel
theorem dX10_missing_25 : decode cX10_missing 25 = .ok (.invokevirtual 243, 3) := by decide +kernel
theorem dX10_missing_28 : decode cX10_missing 28 = .ok (.lreturn, 1) := by decide +kernel
theorem dX10_missing_29 : decode cX10_missing 29 = .ok (.iload_n 2, 1) := by decide +kernel
theorem dX10_missing_30 : decode cX10_missing 30 = .ok (.bipush 20, 2) := by decide +kernel
theorem dX10_missing_32 : decode cX10_missing 32 = .ok (.if_icmp .le 10, 3) := by decide +kernel
theorem dX10_missing_35 : decode cX10_missing 35 = .ok (.aload_n 0, 1) := by decide +kernel
theorem dX10_missing_36 : decode cX10_missing 36 = .ok (.bipush (-6), 2) := by decide +kernel
theorem dX10_missing_38 : decode cX10_missing 38 = .ok (.invokevirtual 243, 3) := by decide +kernel
theorem dX10_missing_41 : decode cX10_missing 41 = .ok (.lreturn, 1) := by decide +kernel
theorem dX10_missing_42 : decode cX10_missing 42 = .ok (.iload_n 3, 1) := by decide +kernel
theorem dX10_missing_43 : decode cX10_missing 43 = .ok (.invokestatic 199, 3) := by decide +kernel
theorem dX10_missing_46 : decode cX10_missing 46 = .ok (.ifCond .ne 10, 3) := by decide +kernel
theorem dX10_missing_49 : decode cX10_missing 49 = .ok (.aload_n 0, 1) := by decide +kernel
theorem dX10_missing_50 : decode cX10_missing 50 = .ok (.bipush (-2), 2) := by decide +kernel
theorem dX10_missing_52 : decode cX10_missing 52 = .ok (.invokevirtual 243, 3) := by decide +kernel
theorem dX10_missing_55 : decode cX10_missing 55 = .ok (.lreturn, 1) := by decide +kernel
theorem dX10_missing_56 : decode cX10_missing 56 = .ok (.aload_n 0, 1) := by decide +kernel
theorem dX10_missing_57 : decode cX10_missing 57 = .ok (.getfield 66, 3) := by decide +kernel
theorem dX10_missing_60 : decode cX10_missing 60 = .ok (.aload_n 0, 1) := by decide +kernel
theorem dX10_missing_61 : decode cX10_missing 61 = .ok (.getfield 10, 3) := by decide +kernel
theorem dX10_missing_64 : decode cX10_missing 64 = .ok (.iload_n 2, 1) := by decide +kernel
theorem dX10_missing_65 : decode cX10_missing 65 = .ok (.invokevirtual 247, 3) := by decide +kernel
theorem dX10_missing_68 : decode cX10_missing 68 = .ok (.lstore 4, 2) := by decide +kernel
theorem dX10_missing_70 : decode cX10_missing 70 = .ok (.aload_n 0, 1) := by decide +kernel
theorem dX10_missing_71 : decode cX10_missing 71 = .ok (.getfield 66, 3) := by decide +kernel
theorem dX10_missing_74 : decode cX10_missing 74 = .ok (.aload_n 0, 1) := by decide +kernel
theorem dX10_missing_75 : decode cX10_missing 75 = .ok (.getfield 10, 3) := by decide +kernel
theorem dX10_missing_78 : decode cX10_missing 78 = .ok (.iload_n 1, 1) := by decide +kernel
theorem dX10_missing_79 : decode cX10_missing 79 = .ok (.iload_n 2, 1) := by decide +kernel
theorem dX10_missing_80 : decode cX10_missing 80 = .ok (.invokevirtual 251, 3) := by decide +kernel
theorem dX10_missing_83 : decode cX10_missing 83 = .ok (.lstore 6, 2) := by decide +kernel
theorem dX10_missing_85 : decode cX10_missing 85 = .ok (.lload 6, 2) := by decide +kernel
theorem dX10_missing_87 : decode cX10_missing 87 = .ok (.lload 4, 2) := by decide +kernel
theorem dX10_missing_89 : decode cX10_missing 89 = .ok (.invokestatic 255, 3) := by decide +kernel
theorem dX10_missing_92 : decode cX10_missing 92 = .ok (.lstore 8, 2) := by decide +kernel
theorem dX10_missing_94 : decode cX10_missing 94 = .ok (.lload 8, 2) := by decide +kernel
theorem dX10_missing_96 : decode cX10_missing 96 = .ok (.lconst 1, 1) := by decide +kernel
theorem dX10_missing_97 : decode cX10_missing 97 = .ok (.lcmp, 1) := by decide +kernel
theorem dX10_missing_98 : decode cX10_missing 98 = .ok (.ifCond .ge 5, 3) := by decide +kernel
theorem dX10_missing_101 : decode cX10_missing 101 = .ok (.lconst 0, 1) := by decide +kernel
theorem dX10_missing_102 : decode cX10_missing 102 = .ok (.lreturn, 1) := by decide +kernel
theorem dX10_missing_103 : decode cX10_missing 103 = .ok (.iload_n 3, 1) := by decide +kernel
theorem dX10_missing_104 : decode cX10_missing 104 = .ok (.ifCond .ne 11, 3) := by decide +kernel
theorem dX10_missing_107 : decode cX10_missing 107 = .ok (.lload 6, 2) := by decide +kernel
theorem dX10_missing_109 : decode cX10_missing 109 = .ok (.lload 8, 2) := by decide +kernel
theorem dX10_missing_111 : decode cX10_missing 111 = .ok (.ldiv, 1) := by decide +kernel
theorem dX10_missing_112 : decode cX10_missing 112 = .ok (.goto 8, 3) := by decide +kernel
theorem dX10_missing_115 : decode cX10_missing 115 = .ok (.lload 4, 2) := by decide +kernel
theorem dX10_missing_117 : decode cX10_missing 117 = .ok (.lload 8, 2) := by decide +kernel
theorem dX10_missing_119 : decode cX10_missing 119 = .ok (.ldiv, 1) := by decide +kernel
theorem dX10_missing_120 : decode cX10_missing 120 = .ok (.lreturn, 1) := by decide +kernel
set_option maxRecDepth 20000 in
theorem ggX10_whatIs_X3_knows : GoodIn wsX10_whatIs wsX3_knows := goodIn_r _ [8, 9, 173, 174, 175, 176, 177, 178, 179, 180] (by decide +kernel) (by decide +kernel)
set_option maxRecDepth 20000 in
theorem gX10_whatIs_X3_knows : GoodIn wsX10_whatIs (wsV RX10 108 RX3 yX3_knows wsX3_knows) := goodIn_app (goodIn_of _ (by decide +kernel)) ggX10_whatIs_X3_knows
set_option maxRecDepth 20000 in
theorem ggX10_whatIs_X10_refuse : GoodIn wsX10_whatIs wsX10_refuse := goodIn_r _ [14, 15, 162, 163, 164, 165, 166, 167, 168, 169, 170, 171, 172] (by decide +kernel) (by decide +kernel)
set_option maxRecDepth 20000 in
theorem gX10_whatIs_X10_refuse : GoodIn wsX10_whatIs (wsV RX10 78 RX10 yX10_refuse wsX10_refuse) := goodIn_app (goodIn_of _ (by decide +kernel)) ggX10_whatIs_X10_refuse
set_option maxRecDepth 20000 in
theorem ggX10_whatIs_X10_isFirstOrSecond : GoodIn wsX10_whatIs wsX10_isFirstOrSecond := goodIn_r _ [18] (by decide +kernel) (by decide +kernel)
set_option maxRecDepth 20000 in
theorem gX10_whatIs_X10_isFirstOrSecond : GoodIn wsX10_whatIs (va_wsS RX10 199 yX10_isFirstOrSecond wsX10_isFirstOrSecond) := goodIn_app (goodIn_of _ (by decide +kernel)) ggX10_whatIs_X10_isFirstOrSecond
set_option maxRecDepth 20000 in
theorem ggX10_whatIs_X8_kindsBy : GoodIn wsX10_whatIs wsX8_kindsBy := goodIn_r _ [23, 24, 25, 26, 27, 28, 7, 29, 9, 30, 31, 32, 33, 34, 35, 36, 37, 38, 39, 40, 41, 42, 43, 44, 45, 46, 47, 48, 49, 50, 51, 52, 53, 54, 55, 56, 22, 57, 58, 59, 60, 61, 62, 63, 64, 65, 66, 67, 68, 69, 70, 71, 72, 73, 74, 75, 76, 77, 78, 79, 80, 81, 82, 83, 84, 85, 86, 87, 88, 89, 90, 91, 92, 93, 94, 95, 96, 97, 98, 99, 100, 101, 102, 103, 104, 105, 106, 107, 108, 109, 110, 111, 112, 113, 114, 115, 116, 117, 118, 119, 120, 121, 122, 123, 124, 125, 126, 127, 128, 129, 130, 131, 132, 133, 134, 135, 136, 137, 138, 139, 140, 141, 142, 143, 144, 145, 146, 147, 148, 149, 150, 151, 152, 153, 154, 155, 5, 6, 8, 156, 181, 182, 183, 173, 174, 175, 176, 177, 178, 179, 180, 184, 185, 186, 187, 188, 189, 190, 191, 192, 193] (by decide +kernel) (by decide +kernel)
set_option maxRecDepth 20000 in
theorem gX10_whatIs_X8_kindsBy : GoodIn wsX10_whatIs (wsV RX10 259 RX8 yX8_kindsBy wsX8_kindsBy) := goodIn_app (goodIn_of _ (by decide +kernel)) ggX10_whatIs_X8_kindsBy
set_option maxRecDepth 20000 in
theorem ggX10_whatIs_X8_figuresBy : GoodIn wsX10_whatIs wsX8_figuresBy := goodIn_r _ [160, 24, 25, 26, 27, 28, 7, 29, 9, 30, 31, 32, 33, 34, 35, 36, 161, 79, 80, 81, 41, 42, 43, 44, 45, 46, 47, 48, 49, 50, 51, 52, 53, 54, 55, 56, 22, 57, 58, 59, 60, 61, 62, 63, 64, 65, 66, 67, 68, 69, 70, 71, 72, 73, 74, 75, 76, 77, 38, 39, 40, 78, 82, 83, 84, 85, 86, 87, 88, 89, 90, 91, 92, 93, 94, 95, 96, 97, 98, 99, 100, 101, 102, 103, 104, 105, 106, 107, 108, 109, 110, 111, 112, 113, 114, 115, 116, 117, 118, 119, 120, 121, 122, 123, 124, 125, 126, 127, 128, 129, 130, 131, 132, 133, 134, 135, 136, 137, 138, 139, 140, 141, 142, 143, 144, 145, 146, 147, 148, 149, 150, 151, 152, 153, 154, 155, 5, 6, 8, 156, 181, 182, 183, 173, 174, 175, 176, 177, 178, 179, 180, 184, 185, 186, 187, 188, 189, 190, 191, 192, 193] (by decide +kernel) (by decide +kernel)
set_option maxRecDepth 20000 in
theorem gX10_whatIs_X8_figuresBy : GoodIn wsX10_whatIs (wsV RX10 263 RX8 yX8_figuresBy wsX8_figuresBy) := goodIn_app (goodIn_of _ (by decide +kernel)) ggX10_whatIs_X8_figuresBy
theorem dX10_whatIs_0 : decode cX10_whatIs 0 = .ok (.aload_n 0, 1) := by decide +kernel
theorem dX10_whatIs_1 : decode cX10_whatIs 1 = .ok (.getfield 10, 3) := by decide +kernel
theorem dX10_whatIs_4 : decode cX10_whatIs 4 = .ok (.iload_n 1, 1) := by decide +kernel
theorem dX10_whatIs_5 : decode cX10_whatIs 5 = .ok (.invokevirtual 108, 3) := by decide +kernel
theorem dX10_whatIs_8 : decode cX10_whatIs 8 = .ok (.ifCond .ne 9, 3) := by decide +kernel
theorem dX10_whatIs_11 : decode cX10_whatIs 11 = .ok (.aload_n 0, 1) := by decide +kernel
theorem dX10_whatIs_12 : decode cX10_whatIs 12 = .ok (.iconst (-1), 1) := by decide +kernel
theorem dX10_whatIs_13 : decode cX10_whatIs 13 = .ok (.invokevirtual 78, 3) := by decide +kernel
theorem dX10_whatIs_16 : decode cX10_whatIs 16 = .ok (.ireturn, 1) := by decide +kernel
theorem dX10_whatIs_17 : decode cX10_whatIs 17 = .ok (.iload_n 2, 1) := by decide +kernel
theorem dX10_whatIs_18 : decode cX10_whatIs 18 = .ok (.invokestatic 199, 3) := by decide +kernel
theorem dX10_whatIs_21 : decode cX10_whatIs 21 = .ok (.ifCond .ne 10, 3) := by decide +kernel
theorem dX10_whatIs_24 : decode cX10_whatIs 24 = .ok (.aload_n 0, 1) := by decide +kernel
theorem dX10_whatIs_25 : decode cX10_whatIs 25 = .ok (.bipush (-2), 2) := by decide +kernel
theorem dX10_whatIs_27 : decode cX10_whatIs 27 = .ok (.invokevirtual 78, 3) := by decide +kernel
theorem dX10_whatIs_30 : decode cX10_whatIs 30 = .ok (.ireturn, 1) := by decide +kernel
theorem dX10_whatIs_31 : decode cX10_whatIs 31 = .ok (.iload_n 2, 1) := by decide +kernel
theorem dX10_whatIs_32 : decode cX10_whatIs 32 = .ok (.ifCond .ne 22, 3) := by decide +kernel
theorem dX10_whatIs_35 : decode cX10_whatIs 35 = .ok (.aload_n 0, 1) := by decide +kernel
theorem dX10_whatIs_36 : decode cX10_whatIs 36 = .ok (.getfield 66, 3) := by decide +kernel
theorem dX10_whatIs_39 : decode cX10_whatIs 39 = .ok (.aload_n 0, 1) := by decide +kernel
theorem dX10_whatIs_40 : decode cX10_whatIs 40 = .ok (.getfield 31, 3) := by decide +kernel
theorem dX10_whatIs_43 : decode cX10_whatIs 43 = .ok (.aload_n 0, 1) := by decide +kernel
theorem dX10_whatIs_44 : decode cX10_whatIs 44 = .ok (.getfield 10, 3) := by decide +kernel
theorem dX10_whatIs_47 : decode cX10_whatIs 47 = .ok (.iload_n 1, 1) := by decide +kernel
theorem dX10_whatIs_48 : decode cX10_whatIs 48 = .ok (.invokevirtual 259, 3) := by decide +kernel
theorem dX10_whatIs_51 : decode cX10_whatIs 51 = .ok (.goto 19, 3) := by decide +kernel
theorem dX10_whatIs_54 : decode cX10_whatIs 54 = .ok (.aload_n 0, 1) := by decide +kernel
theorem dX10_whatIs_55 : decode cX10_whatIs 55 = .ok (.getfield 66, 3) := by decide +kernel
theorem dX10_whatIs_58 : decode cX10_whatIs 58 = .ok (.aload_n 0, 1) := by decide +kernel
theorem dX10_whatIs_59 : decode cX10_whatIs 59 = .ok (.getfield 31, 3) := by decide +kernel
theorem dX10_whatIs_62 : decode cX10_whatIs 62 = .ok (.aload_n 0, 1) := by decide +kernel
theorem dX10_whatIs_63 : decode cX10_whatIs 63 = .ok (.getfield 10, 3) := by decide +kernel
theorem dX10_whatIs_66 : decode cX10_whatIs 66 = .ok (.iload_n 1, 1) := by decide +kernel
theorem dX10_whatIs_67 : decode cX10_whatIs 67 = .ok (.invokevirtual 263, 3) := by decide +kernel
theorem dX10_whatIs_70 : decode cX10_whatIs 70 = .ok (.ireturn, 1) := by decide +kernel
set_option maxRecDepth 20000 in
theorem ggX10_row_X10_refuse : GoodIn wsX10_row wsX10_refuse := goodIn_r _ [6, 7, 19, 20, 21, 22, 23, 24, 25, 26, 27, 28, 29] (by decide +kernel) (by decide +kernel)
set_option maxRecDepth 20000 in
theorem gX10_row_X10_refuse : GoodIn wsX10_row (wsV RX10 78 RX10 yX10_refuse wsX10_refuse) := goodIn_app (goodIn_of _ (by decide +kernel)) ggX10_row_X10_refuse
set_option maxRecDepth 20000 in
theorem ggX10_row_X6_isFull : GoodIn wsX10_row wsX6_isFull := goodIn_r _ [12, 13, 14, 30, 31] (by decide +kernel) (by decide +kernel)
set_option maxRecDepth 20000 in
theorem gX10_row_X6_isFull : GoodIn wsX10_row (wsV RX10 85 RX6 yX6_isFull wsX6_isFull) := goodIn_app (goodIn_of _ (by decide +kernel)) ggX10_row_X6_isFull
set_option maxRecDepth 20000 in
theorem ggX10_row_X6_add : GoodIn wsX10_row wsX6_add := goodIn_r _ [18, 13, 14, 30, 31] (by decide +kernel) (by decide +kernel)
set_option maxRecDepth 20000 in
theorem gX10_row_X6_add : GoodIn wsX10_row (wsV RX10 89 RX6 yX6_add wsX6_add) := goodIn_app (goodIn_of _ (by decide +kernel)) ggX10_row_X6_add
theorem dX10_row_0 : decode cX10_row 0 = .ok (.iload_n 1, 1) := by decide +kernel
theorem dX10_row_1 : decode cX10_row 1 = .ok (.ifCond .ge 10, 3) := by decide +kernel
theorem dX10_row_4 : decode cX10_row 4 = .ok (.aload_n 0, 1) := by decide +kernel
theorem dX10_row_5 : decode cX10_row 5 = .ok (.bipush (-4), 2) := by decide +kernel
theorem dX10_row_7 : decode cX10_row 7 = .ok (.invokevirtual 78, 3) := by decide +kernel
theorem dX10_row_10 : decode cX10_row 10 = .ok (.ireturn, 1) := by decide +kernel
theorem dX10_row_11 : decode cX10_row 11 = .ok (.iload_n 1, 1) := by decide +kernel
theorem dX10_row_12 : decode cX10_row 12 = .ok (.bipush 10, 2) := by decide +kernel
theorem dX10_row_14 : decode cX10_row 14 = .ok (.if_icmp .ge 13, 3) := by decide +kernel
theorem dX10_row_17 : decode cX10_row 17 = .ok (.aload_n 0, 1) := by decide +kernel
theorem dX10_row_18 : decode cX10_row 18 = .ok (.getfield 31, 3) := by decide +kernel
theorem dX10_row_21 : decode cX10_row 21 = .ok (.invokevirtual 85, 3) := by decide +kernel
theorem dX10_row_24 : decode cX10_row 24 = .ok (.ifCond .eq 10, 3) := by decide +kernel
theorem dX10_row_27 : decode cX10_row 27 = .ok (.aload_n 0, 1) := by decide +kernel
theorem dX10_row_28 : decode cX10_row 28 = .ok (.bipush (-6), 2) := by decide +kernel
theorem dX10_row_30 : decode cX10_row 30 = .ok (.invokevirtual 78, 3) := by decide +kernel
theorem dX10_row_33 : decode cX10_row 33 = .ok (.ireturn, 1) := by decide +kernel
theorem dX10_row_34 : decode cX10_row 34 = .ok (.aload_n 0, 1) := by decide +kernel
theorem dX10_row_35 : decode cX10_row 35 = .ok (.getfield 31, 3) := by decide +kernel
theorem dX10_row_38 : decode cX10_row 38 = .ok (.iload_n 1, 1) := by decide +kernel
theorem dX10_row_39 : decode cX10_row 39 = .ok (.invokevirtual 89, 3) := by decide +kernel
theorem dX10_row_42 : decode cX10_row 42 = .ok (.ireturn, 1) := by decide +kernel
set_option maxRecDepth 20000 in
theorem ggX10_judge_X1_reckon : GoodIn wsX10_judge wsX1_reckon := goodIn_r _ [10, 11, 12, 13, 14, 15, 16, 17, 18, 19, 9, 20, 21, 22, 23, 24, 25, 26, 27, 28, 29, 30, 31, 32, 33, 34, 35, 36, 37, 38, 39, 40, 41, 42, 43, 44, 45, 46, 47, 48, 49, 50, 51, 52, 53, 54, 55, 56, 57, 58, 59, 60, 61, 62, 63, 64, 65, 66, 67, 68, 69, 70, 71, 72, 113, 114, 115, 116, 119, 120, 121, 122, 123, 124, 125, 126] (by decide +kernel) (by decide +kernel)
set_option maxRecDepth 20000 in
theorem gX10_judge_X1_reckon : GoodIn wsX10_judge (wsV RX10 150 RX1 yX1_reckon wsX1_reckon) := goodIn_app (goodIn_of _ (by decide +kernel)) ggX10_judge_X1_reckon
set_option maxRecDepth 20000 in
theorem ggX10_judge_X4_judged : GoodIn wsX10_judge wsX4_judged := goodIn_r _ [76, 77, 78, 79, 80, 81, 26, 82, 83, 84, 85, 86, 87, 88, 89, 52, 31, 53, 90, 30, 32, 91, 92, 75, 93, 94, 95, 96, 97, 98, 99, 100, 101, 119, 120, 121, 122, 123, 124, 125, 126, 117, 118] (by decide +kernel) (by decide +kernel)
set_option maxRecDepth 20000 in
theorem gX10_judge_X4_judged : GoodIn wsX10_judge (va_wsS RX10 266 yX4_judged wsX4_judged) := goodIn_app (goodIn_of _ (by decide +kernel)) ggX10_judge_X4_judged
theorem dX10_judge_0 : decode cX10_judge 0 = .ok (.aload_n 0, 1) := by decide +kernel
theorem dX10_judge_1 : decode cX10_judge 1 = .ok (.getfield 38, 3) := by decide +kernel
theorem dX10_judge_4 : decode cX10_judge 4 = .ok (.aload_n 0, 1) := by decide +kernel
theorem dX10_judge_5 : decode cX10_judge 5 = .ok (.getfield 10, 3) := by decide +kernel
theorem dX10_judge_8 : decode cX10_judge 8 = .ok (.invokevirtual 150, 3) := by decide +kernel
theorem dX10_judge_11 : decode cX10_judge 11 = .ok (.aload_n 0, 1) := by decide +kernel
theorem dX10_judge_12 : decode cX10_judge 12 = .ok (.getfield 31, 3) := by decide +kernel
theorem dX10_judge_15 : decode cX10_judge 15 = .ok (.aload_n 0, 1) := by decide +kernel
theorem dX10_judge_16 : decode cX10_judge 16 = .ok (.getfield 10, 3) := by decide +kernel
theorem dX10_judge_19 : decode cX10_judge 19 = .ok (.aload_n 0, 1) := by decide +kernel
theorem dX10_judge_20 : decode cX10_judge 20 = .ok (.getfield 38, 3) := by decide +kernel
theorem dX10_judge_23 : decode cX10_judge 23 = .ok (.getfield 170, 3) := by decide +kernel
theorem dX10_judge_26 : decode cX10_judge 26 = .ok (.invokestatic 266, 3) := by decide +kernel
theorem dX10_judge_29 : decode cX10_judge 29 = .ok (.istore_n 1, 1) := by decide +kernel
theorem dX10_judge_30 : decode cX10_judge 30 = .ok (.aload_n 0, 1) := by decide +kernel
theorem dX10_judge_31 : decode cX10_judge 31 = .ok (.getfield 31, 3) := by decide +kernel
theorem dX10_judge_34 : decode cX10_judge 34 = .ok (.iconst 0, 1) := by decide +kernel
theorem dX10_judge_35 : decode cX10_judge 35 = .ok (.putfield 96, 3) := by decide +kernel
theorem dX10_judge_38 : decode cX10_judge 38 = .ok (.iload_n 1, 1) := by decide +kernel
theorem dX10_judge_39 : decode cX10_judge 39 = .ok (.ireturn, 1) := by decide +kernel
theorem dX10_clear_0 : decode cX10_clear 0 = .ok (.aload_n 0, 1) := by decide +kernel
theorem dX10_clear_1 : decode cX10_clear 1 = .ok (.getfield 31, 3) := by decide +kernel
theorem dX10_clear_4 : decode cX10_clear 4 = .ok (.getfield 96, 3) := by decide +kernel
theorem dX10_clear_7 : decode cX10_clear 7 = .ok (.istore_n 1, 1) := by decide +kernel
theorem dX10_clear_8 : decode cX10_clear 8 = .ok (.aload_n 0, 1) := by decide +kernel
theorem dX10_clear_9 : decode cX10_clear 9 = .ok (.getfield 31, 3) := by decide +kernel
theorem dX10_clear_12 : decode cX10_clear 12 = .ok (.iconst 0, 1) := by decide +kernel
theorem dX10_clear_13 : decode cX10_clear 13 = .ok (.putfield 96, 3) := by decide +kernel
theorem dX10_clear_16 : decode cX10_clear 16 = .ok (.iload_n 1, 1) := by decide +kernel
theorem dX10_clear_17 : decode cX10_clear 17 = .ok (.ireturn, 1) := by decide +kernel
set_option maxRecDepth 20000 in
theorem ggX10_speakers_X3_speakersThere : GoodIn wsX10_speakers wsX3_speakersThere := goodIn_r _ [8, 9, 10, 11, 7, 12, 13, 14, 15, 16, 17, 18, 19, 20, 21, 22, 154, 155, 156, 157, 158, 159, 160, 161] (by decide +kernel) (by decide +kernel)
set_option maxRecDepth 20000 in
theorem gX10_speakers_X3_speakersThere : GoodIn wsX10_speakers (wsV RX10 272 RX3 yX3_speakersThere wsX3_speakersThere) := goodIn_app (goodIn_of _ (by decide +kernel)) ggX10_speakers_X3_speakersThere
set_option maxRecDepth 20000 in
theorem ggX10_speakers_X3_speakerAt : GoodIn wsX10_speakers wsX3_speakerAt := goodIn_r _ [26, 9, 10, 11, 7, 12, 13, 14, 15, 16, 17, 18, 19, 20, 21, 22, 154, 155, 156, 157, 158, 159, 160, 161] (by decide +kernel) (by decide +kernel)
set_option maxRecDepth 20000 in
theorem gX10_speakers_X3_speakerAt : GoodIn wsX10_speakers (wsV RX10 275 RX3 yX3_speakerAt wsX3_speakerAt) := goodIn_app (goodIn_of _ (by decide +kernel)) ggX10_speakers_X3_speakerAt
set_option maxRecDepth 20000 in
theorem ggX10_speakers_X10_refuse : GoodIn wsX10_speakers wsX10_refuse := goodIn_r _ [31, 32, 139, 140, 141, 142, 143, 144, 145, 146, 147, 148, 149] (by decide +kernel) (by decide +kernel)
set_option maxRecDepth 20000 in
theorem gX10_speakers_X10_refuse : GoodIn wsX10_speakers (wsV RX10 78 RX10 yX10_refuse wsX10_refuse) := goodIn_app (goodIn_of _ (by decide +kernel)) ggX10_speakers_X10_refuse
set_option maxRecDepth 20000 in
theorem ggX10_speakers_X3_claimsOf : GoodIn wsX10_speakers wsX3_claimsOf := goodIn_r _ [12, 13, 14, 15, 16, 7, 17, 18, 19, 20, 21, 22, 154, 155, 156, 157, 158, 159, 160, 161] (by decide +kernel) (by decide +kernel)
set_option maxRecDepth 20000 in
theorem gX10_speakers_X3_claimsOf : GoodIn wsX10_speakers (wsV RX10 278 RX3 yX3_claimsOf wsX3_claimsOf) := goodIn_app (goodIn_of _ (by decide +kernel)) ggX10_speakers_X3_claimsOf
set_option maxRecDepth 20000 in
theorem ggX10_speakers_J6_bitCount_0f7a4 : GoodIn wsX10_speakers wsJ6_bitCount_0f7a4 := goodIn_r _ [37, 38, 39, 40] (by decide +kernel) (by decide +kernel)
set_option maxRecDepth 20000 in
theorem gX10_speakers_J6_bitCount_0f7a4 : GoodIn wsX10_speakers (va_wsS RX10 238 yJ6_bitCount_0f7a4 wsJ6_bitCount_0f7a4) := goodIn_app (goodIn_of _ (by decide +kernel)) ggX10_speakers_J6_bitCount_0f7a4
set_option maxRecDepth 20000 in
theorem ggX10_speakers_X10_settle : GoodIn wsX10_speakers wsX10_settle := goodIn_r _ [44, 45, 1, 2, 46, 47, 48, 49, 50, 51, 52, 53, 54, 55, 56, 57, 58, 59, 60, 61, 62, 63, 64, 65, 7, 66, 67, 19, 20, 21, 22, 68, 69, 70, 71, 72, 73, 74, 75, 76, 77, 78, 79, 80, 81, 82, 83, 84, 85, 86, 87, 88, 89, 90, 91, 92, 93, 94, 95, 96, 97, 98, 99, 100, 101, 102, 103, 104, 105, 106, 107, 108, 109, 110, 111, 112, 113, 114, 115, 116, 117, 118, 119, 120, 121, 122, 123, 124, 125, 126, 127, 128, 139, 140, 141, 142, 143, 144, 145, 146, 147, 148, 149, 162, 163, 164, 165, 154, 155, 156, 157, 158, 159, 160, 161, 150, 151, 152, 153] (by decide +kernel) (by decide +kernel)
set_option maxRecDepth 20000 in
theorem gX10_speakers_X10_settle : GoodIn wsX10_speakers (wsV RX10 173 RX10 yX10_settle wsX10_settle) := goodIn_app (goodIn_of _ (by decide +kernel)) ggX10_speakers_X10_settle
set_option maxRecDepth 20000 in
theorem ggX10_speakers_X3_greatestFigure : GoodIn wsX10_speakers wsX3_greatestFigure := goodIn_r _ [132, 13, 133, 134, 135, 136, 137, 87, 21, 88, 138, 64, 65, 7, 66, 67, 19, 20, 22, 154, 155, 156, 157, 158, 159, 160, 161] (by decide +kernel) (by decide +kernel)
set_option maxRecDepth 20000 in
theorem gX10_speakers_X3_greatestFigure : GoodIn wsX10_speakers (wsV RX10 284 RX3 yX3_greatestFigure wsX3_greatestFigure) := goodIn_app (goodIn_of _ (by decide +kernel)) ggX10_speakers_X3_greatestFigure
theorem dX10_speakers_0 : decode cX10_speakers 0 = .ok (.iload_n 1, 1) := by decide +kernel
theorem dX10_speakers_1 : decode cX10_speakers 1 = .ok (.iconst (-1), 1) := by decide +kernel
theorem dX10_speakers_2 : decode cX10_speakers 2 = .ok (.if_icmp .ne 11, 3) := by decide +kernel
theorem dX10_speakers_5 : decode cX10_speakers 5 = .ok (.aload_n 0, 1) := by decide +kernel
theorem dX10_speakers_6 : decode cX10_speakers 6 = .ok (.getfield 10, 3) := by decide +kernel
theorem dX10_speakers_9 : decode cX10_speakers 9 = .ok (.invokevirtual 272, 3) := by decide +kernel
theorem dX10_speakers_12 : decode cX10_speakers 12 = .ok (.ireturn, 1) := by decide +kernel
theorem dX10_speakers_13 : decode cX10_speakers 13 = .ok (.aload_n 0, 1) := by decide +kernel
theorem dX10_speakers_14 : decode cX10_speakers 14 = .ok (.getfield 10, 3) := by decide +kernel
theorem dX10_speakers_17 : decode cX10_speakers 17 = .ok (.iload_n 1, 1) := by decide +kernel
theorem dX10_speakers_18 : decode cX10_speakers 18 = .ok (.invokevirtual 275, 3) := by decide +kernel
theorem dX10_speakers_21 : decode cX10_speakers 21 = .ok (.istore_n 3, 1) := by decide +kernel
theorem dX10_speakers_22 : decode cX10_speakers 22 = .ok (.iload_n 3, 1) := by decide +kernel
theorem dX10_speakers_23 : decode cX10_speakers 23 = .ok (.ifCond .ge 9, 3) := by decide +kernel
theorem dX10_speakers_26 : decode cX10_speakers 26 = .ok (.aload_n 0, 1) := by decide +kernel
theorem dX10_speakers_27 : decode cX10_speakers 27 = .ok (.iconst (-1), 1) := by decide +kernel
theorem dX10_speakers_28 : decode cX10_speakers 28 = .ok (.invokevirtual 78, 3) := by decide +kernel
theorem dX10_speakers_31 : decode cX10_speakers 31 = .ok (.ireturn, 1) := by decide +kernel
theorem dX10_speakers_32 : decode cX10_speakers 32 = .ok (.iload_n 2, 1) := by decide +kernel
theorem dX10_speakers_33 : decode cX10_speakers 33 = .ok (.ifCond .lt 8, 3) := by decide +kernel
theorem dX10_speakers_36 : decode cX10_speakers 36 = .ok (.iload_n 2, 1) := by decide +kernel
theorem dX10_speakers_37 : decode cX10_speakers 37 = .ok (.iconst 3, 1) := by decide +kernel
theorem dX10_speakers_38 : decode cX10_speakers 38 = .ok (.if_icmp .le 10, 3) := by decide +kernel
theorem dX10_speakers_41 : decode cX10_speakers 41 = .ok (.aload_n 0, 1) := by decide +kernel
theorem dX10_speakers_42 : decode cX10_speakers 42 = .ok (.bipush (-2), 2) := by decide +kernel
theorem dX10_speakers_44 : decode cX10_speakers 44 = .ok (.invokevirtual 78, 3) := by decide +kernel
theorem dX10_speakers_47 : decode cX10_speakers 47 = .ok (.ireturn, 1) := by decide +kernel
theorem dX10_speakers_48 : decode cX10_speakers 48 = .ok (.aload_n 0, 1) := by decide +kernel
theorem dX10_speakers_49 : decode cX10_speakers 49 = .ok (.getfield 10, 3) := by decide +kernel
theorem dX10_speakers_52 : decode cX10_speakers 52 = .ok (.iload_n 3, 1) := by decide +kernel
theorem dX10_speakers_53 : decode cX10_speakers 53 = .ok (.invokevirtual 278, 3) := by decide +kernel
theorem dX10_speakers_56 : decode cX10_speakers 56 = .ok (.istore 4, 2) := by decide +kernel
theorem dX10_speakers_58 : decode cX10_speakers 58 = .ok (.iload_n 2, 1) := by decide +kernel
theorem dX10_speakers_59 : decode cX10_speakers 59 = .ok (.tableswitch 51 0 2 #[25, 27, 33], 25) := by decide +kernel
theorem dX10_speakers_84 : decode cX10_speakers 84 = .ok (.iload_n 3, 1) := by decide +kernel
theorem dX10_speakers_85 : decode cX10_speakers 85 = .ok (.ireturn, 1) := by decide +kernel
theorem dX10_speakers_86 : decode cX10_speakers 86 = .ok (.iload 4, 2) := by decide +kernel
theorem dX10_speakers_88 : decode cX10_speakers 88 = .ok (.invokestatic 238, 3) := by decide +kernel
theorem dX10_speakers_91 : decode cX10_speakers 91 = .ok (.ireturn, 1) := by decide +kernel
theorem dX10_speakers_92 : decode cX10_speakers 92 = .ok (.aload_n 0, 1) := by decide +kernel
theorem dX10_speakers_93 : decode cX10_speakers 93 = .ok (.invokevirtual 173, 3) := by decide +kernel
theorem dX10_speakers_96 : decode cX10_speakers 96 = .ok (.iload 4, 2) := by decide +kernel
theorem dX10_speakers_98 : decode cX10_speakers 98 = .ok (.aload_n 0, 1) := by decide +kernel
theorem dX10_speakers_99 : decode cX10_speakers 99 = .ok (.getfield 45, 3) := by decide +kernel
theorem dX10_speakers_102 : decode cX10_speakers 102 = .ok (.getfield 281, 3) := by decide +kernel
theorem dX10_speakers_105 : decode cX10_speakers 105 = .ok (.iand, 1) := by decide +kernel
theorem dX10_speakers_106 : decode cX10_speakers 106 = .ok (.invokestatic 238, 3) := by decide +kernel
theorem dX10_speakers_109 : decode cX10_speakers 109 = .ok (.ireturn, 1) := by decide +kernel
theorem dX10_speakers_110 : decode cX10_speakers 110 = .ok (.aload_n 0, 1) := by decide +kernel
theorem dX10_speakers_111 : decode cX10_speakers 111 = .ok (.getfield 10, 3) := by decide +kernel
theorem dX10_speakers_114 : decode cX10_speakers 114 = .ok (.iload 4, 2) := by decide +kernel
theorem dX10_speakers_116 : decode cX10_speakers 116 = .ok (.invokevirtual 284, 3) := by decide +kernel
theorem dX10_speakers_119 : decode cX10_speakers 119 = .ok (.ireturn, 1) := by decide +kernel
set_option maxRecDepth 20000 in
theorem ggX10_lots_X10_refuse : GoodIn wsX10_lots wsX10_refuse := goodIn_r _ [7, 8, 158, 159, 160, 161, 162, 163, 164, 165, 166, 167, 168] (by decide +kernel) (by decide +kernel)
set_option maxRecDepth 20000 in
theorem gX10_lots_X10_refuse : GoodIn wsX10_lots (wsV RX10 78 RX10 yX10_refuse wsX10_refuse) := goodIn_app (goodIn_of _ (by decide +kernel)) ggX10_lots_X10_refuse
set_option maxRecDepth 20000 in
theorem ggX10_lots_X10_isFirstOrSecond : GoodIn wsX10_lots wsX10_isFirstOrSecond := goodIn_r _ [11] (by decide +kernel) (by decide +kernel)
set_option maxRecDepth 20000 in
theorem gX10_lots_X10_isFirstOrSecond : GoodIn wsX10_lots (va_wsS RX10 199 yX10_isFirstOrSecond wsX10_isFirstOrSecond) := goodIn_app (goodIn_of _ (by decide +kernel)) ggX10_lots_X10_isFirstOrSecond
set_option maxRecDepth 20000 in
theorem ggX10_lots_X8_drawn : GoodIn wsX10_lots wsX8_drawn := goodIn_r _ [16, 17, 18, 19, 20, 21, 22, 23, 24, 25, 26, 27, 28, 29, 30, 31, 32, 33, 15, 34, 35, 36, 37, 38, 39, 40, 41, 42, 43, 44, 45, 46, 47, 48, 49, 50, 51, 52, 53, 54, 55, 56, 57, 58, 59, 60, 61, 62, 63, 64, 65, 66, 67, 68, 69, 70, 71, 72, 73, 74, 75, 76, 77, 78, 79, 80, 81, 82, 83, 84, 85, 86, 87, 88, 89, 90, 91, 92, 93, 94, 95, 96, 97, 98, 99, 100, 101, 102, 103, 104, 105, 106, 107, 108, 109, 110, 111, 112, 113, 114, 115, 116, 117, 118, 119, 120, 121, 122, 123, 124, 125, 126, 127, 128, 129, 130, 131, 132, 133, 134, 135, 136, 137, 138, 139, 140, 141, 142, 143, 144, 145, 146, 147, 148, 149, 150, 151, 152, 153, 154, 155, 156, 157, 169, 170, 171, 172, 173, 174, 175, 176, 177, 178, 179, 180, 181, 182, 183, 184, 185, 186, 187] (by decide +kernel) (by decide +kernel)
set_option maxRecDepth 20000 in
theorem gX10_lots_X8_drawn : GoodIn wsX10_lots (wsV RX10 287 RX8 yX8_drawn wsX8_drawn) := goodIn_app (goodIn_of _ (by decide +kernel)) ggX10_lots_X8_drawn
theorem dX10_lots_0 : decode cX10_lots 0 = .ok (.iload_n 1, 1) := by decide +kernel
theorem dX10_lots_1 : decode cX10_lots 1 = .ok (.iconst 1, 1) := by decide +kernel
theorem dX10_lots_2 : decode cX10_lots 2 = .ok (.if_icmp .ge 10, 3) := by decide +kernel
theorem dX10_lots_5 : decode cX10_lots 5 = .ok (.aload_n 0, 1) := by decide +kernel
theorem dX10_lots_6 : decode cX10_lots 6 = .ok (.bipush (-4), 2) := by decide +kernel
theorem dX10_lots_8 : decode cX10_lots 8 = .ok (.invokevirtual 78, 3) := by decide +kernel
theorem dX10_lots_11 : decode cX10_lots 11 = .ok (.ireturn, 1) := by decide +kernel
theorem dX10_lots_12 : decode cX10_lots 12 = .ok (.iload_n 1, 1) := by decide +kernel
theorem dX10_lots_13 : decode cX10_lots 13 = .ok (.bipush 20, 2) := by decide +kernel
theorem dX10_lots_15 : decode cX10_lots 15 = .ok (.if_icmp .le 10, 3) := by decide +kernel
theorem dX10_lots_18 : decode cX10_lots 18 = .ok (.aload_n 0, 1) := by decide +kernel
theorem dX10_lots_19 : decode cX10_lots 19 = .ok (.bipush (-6), 2) := by decide +kernel
theorem dX10_lots_21 : decode cX10_lots 21 = .ok (.invokevirtual 78, 3) := by decide +kernel
theorem dX10_lots_24 : decode cX10_lots 24 = .ok (.ireturn, 1) := by decide +kernel
theorem dX10_lots_25 : decode cX10_lots 25 = .ok (.iload_n 3, 1) := by decide +kernel
theorem dX10_lots_26 : decode cX10_lots 26 = .ok (.invokestatic 199, 3) := by decide +kernel
theorem dX10_lots_29 : decode cX10_lots 29 = .ok (.ifCond .ne 10, 3) := by decide +kernel
theorem dX10_lots_32 : decode cX10_lots 32 = .ok (.aload_n 0, 1) := by decide +kernel
theorem dX10_lots_33 : decode cX10_lots 33 = .ok (.bipush (-2), 2) := by decide +kernel
theorem dX10_lots_35 : decode cX10_lots 35 = .ok (.invokevirtual 78, 3) := by decide +kernel
theorem dX10_lots_38 : decode cX10_lots 38 = .ok (.ireturn, 1) := by decide +kernel
theorem dX10_lots_39 : decode cX10_lots 39 = .ok (.aload_n 0, 1) := by decide +kernel
theorem dX10_lots_40 : decode cX10_lots 40 = .ok (.getfield 66, 3) := by decide +kernel
theorem dX10_lots_43 : decode cX10_lots 43 = .ok (.aload_n 0, 1) := by decide +kernel
theorem dX10_lots_44 : decode cX10_lots 44 = .ok (.getfield 10, 3) := by decide +kernel
theorem dX10_lots_47 : decode cX10_lots 47 = .ok (.iload_n 1, 1) := by decide +kernel
theorem dX10_lots_48 : decode cX10_lots 48 = .ok (.iload_n 2, 1) := by decide +kernel
theorem dX10_lots_49 : decode cX10_lots 49 = .ok (.iload_n 3, 1) := by decide +kernel
theorem dX10_lots_50 : decode cX10_lots 50 = .ok (.iconst 1, 1) := by decide +kernel
theorem dX10_lots_51 : decode cX10_lots 51 = .ok (.if_icmp .ne 7, 3) := by decide +kernel
theorem dX10_lots_54 : decode cX10_lots 54 = .ok (.iconst 1, 1) := by decide +kernel
theorem dX10_lots_55 : decode cX10_lots 55 = .ok (.goto 4, 3) := by decide +kernel
theorem dX10_lots_58 : decode cX10_lots 58 = .ok (.iconst 0, 1) := by decide +kernel
theorem dX10_lots_59 : decode cX10_lots 59 = .ok (.invokevirtual 287, 3) := by decide +kernel
theorem dX10_lots_62 : decode cX10_lots 62 = .ok (.ireturn, 1) := by decide +kernel
set_option maxRecDepth 20000 in
theorem ggX10_image_X3_take : GoodIn wsX10_image wsX3_take := goodIn_r _ [9, 10, 11, 12, 13, 14, 15, 16, 17, 29, 30, 31, 32, 33, 34, 35, 36] (by decide +kernel) (by decide +kernel)
set_option maxRecDepth 20000 in
theorem gX10_image_X3_take : GoodIn wsX10_image (wsV RX10 291 RX3 yX3_take wsX3_take) := goodIn_app (goodIn_of _ (by decide +kernel)) ggX10_image_X3_take
theorem dX10_image_0 : decode cX10_image 0 = .ok (.aload_n 0, 1) := by decide +kernel
theorem dX10_image_1 : decode cX10_image 1 = .ok (.getfield 16, 3) := by decide +kernel
theorem dX10_image_4 : decode cX10_image 4 = .ok (.aload_n 0, 1) := by decide +kernel
theorem dX10_image_5 : decode cX10_image 5 = .ok (.getfield 10, 3) := by decide +kernel
theorem dX10_image_8 : decode cX10_image 8 = .ok (.invokevirtual 291, 3) := by decide +kernel
theorem dX10_image_11 : decode cX10_image 11 = .ok (.aload_n 0, 1) := by decide +kernel
theorem dX10_image_12 : decode cX10_image 12 = .ok (.iconst 1, 1) := by decide +kernel
theorem dX10_image_13 : decode cX10_image 13 = .ok (.putfield 74, 3) := by decide +kernel
theorem dX10_image_16 : decode cX10_image 16 = .ok (.aload_n 0, 1) := by decide +kernel
theorem dX10_image_17 : decode cX10_image 17 = .ok (.getfield 16, 3) := by decide +kernel
theorem dX10_image_20 : decode cX10_image 20 = .ok (.getfield 294, 3) := by decide +kernel
theorem dX10_image_23 : decode cX10_image 23 = .ok (.ireturn, 1) := by decide +kernel
set_option maxRecDepth 20000 in
theorem ggX10_on_X10_refuse : GoodIn wsX10_on wsX10_refuse := goodIn_r _ [9, 10, 24, 25, 26, 27, 28, 29, 30, 31, 32, 33, 34] (by decide +kernel) (by decide +kernel)
set_option maxRecDepth 20000 in
theorem gX10_on_X10_refuse : GoodIn wsX10_on (wsV RX10 78 RX10 yX10_refuse wsX10_refuse) := goodIn_app (goodIn_of _ (by decide +kernel)) ggX10_on_X10_refuse
set_option maxRecDepth 20000 in
theorem ggX10_on_X3_take : GoodIn wsX10_on wsX3_take := goodIn_r _ [15, 16, 17, 18, 19, 20, 21, 22, 23, 35, 36, 37, 38, 39, 40, 41, 42] (by decide +kernel) (by decide +kernel)
set_option maxRecDepth 20000 in
theorem gX10_on_X3_take : GoodIn wsX10_on (wsV RX10 291 RX3 yX3_take wsX3_take) := goodIn_app (goodIn_of _ (by decide +kernel)) ggX10_on_X3_take
theorem dX10_on_0 : decode cX10_on 0 = .ok (.aload_n 0, 1) := by decide +kernel
theorem dX10_on_1 : decode cX10_on 1 = .ok (.getfield 74, 3) := by decide +kernel
theorem dX10_on_4 : decode cX10_on 4 = .ok (.ifCond .ne 10, 3) := by decide +kernel
theorem dX10_on_7 : decode cX10_on 7 = .ok (.aload_n 0, 1) := by decide +kernel
theorem dX10_on_8 : decode cX10_on 8 = .ok (.bipush (-3), 2) := by decide +kernel
theorem dX10_on_10 : decode cX10_on 10 = .ok (.invokevirtual 78, 3) := by decide +kernel
theorem dX10_on_13 : decode cX10_on 13 = .ok (.ireturn, 1) := by decide +kernel
theorem dX10_on_14 : decode cX10_on 14 = .ok (.aload_n 0, 1) := by decide +kernel
theorem dX10_on_15 : decode cX10_on 15 = .ok (.getfield 10, 3) := by decide +kernel
theorem dX10_on_18 : decode cX10_on 18 = .ok (.aload_n 0, 1) := by decide +kernel
theorem dX10_on_19 : decode cX10_on 19 = .ok (.getfield 16, 3) := by decide +kernel
theorem dX10_on_22 : decode cX10_on 22 = .ok (.invokevirtual 291, 3) := by decide +kernel
theorem dX10_on_25 : decode cX10_on 25 = .ok (.aload_n 0, 1) := by decide +kernel
theorem dX10_on_26 : decode cX10_on 26 = .ok (.getfield 10, 3) := by decide +kernel
theorem dX10_on_29 : decode cX10_on 29 = .ok (.getfield 294, 3) := by decide +kernel
theorem dX10_on_32 : decode cX10_on 32 = .ok (.ireturn, 1) := by decide +kernel
set_option maxRecDepth 20000 in
theorem ggX10_count_J13_bitCount_95d88 : GoodIn wsX10_count wsJ13_bitCount_95d88 := goodIn_r _ [14, 15, 16, 17] (by decide +kernel) (by decide +kernel)
set_option maxRecDepth 20000 in
theorem gX10_count_J13_bitCount_95d88 : GoodIn wsX10_count (va_wsS RX10 296 yJ13_bitCount_95d88 wsJ13_bitCount_95d88) := goodIn_app (goodIn_of _ (by decide +kernel)) ggX10_count_J13_bitCount_95d88
set_option maxRecDepth 20000 in
theorem ggX10_count_X10_refusalsAt : GoodIn wsX10_count wsX10_refusalsAt := goodIn_r _ [22, 23, 24, 25, 26, 27, 28, 29, 30, 31, 32, 33, 34] (by decide +kernel) (by decide +kernel)
set_option maxRecDepth 20000 in
theorem gX10_count_X10_refusalsAt : GoodIn wsX10_count (wsV RX10 301 RX10 yX10_refusalsAt wsX10_refusalsAt) := goodIn_app (goodIn_of _ (by decide +kernel)) ggX10_count_X10_refusalsAt
theorem dX10_count_0 : decode cX10_count 0 = .ok (.iload_n 1, 1) := by decide +kernel
theorem dX10_count_1 : decode cX10_count 1 = .ok (.tableswitch 108 0 6 #[43, 51, 59, 70, 81, 89, 97], 43) := by decide +kernel
theorem dX10_count_44 : decode cX10_count 44 = .ok (.aload_n 0, 1) := by decide +kernel
theorem dX10_count_45 : decode cX10_count 45 = .ok (.getfield 10, 3) := by decide +kernel
theorem dX10_count_48 : decode cX10_count 48 = .ok (.getfield 294, 3) := by decide +kernel
theorem dX10_count_51 : decode cX10_count 51 = .ok (.ireturn, 1) := by decide +kernel
theorem dX10_count_52 : decode cX10_count 52 = .ok (.aload_n 0, 1) := by decide +kernel
theorem dX10_count_53 : decode cX10_count 53 = .ok (.getfield 10, 3) := by decide +kernel
theorem dX10_count_56 : decode cX10_count 56 = .ok (.getfield 187, 3) := by decide +kernel
theorem dX10_count_59 : decode cX10_count 59 = .ok (.ireturn, 1) := by decide +kernel
theorem dX10_count_60 : decode cX10_count 60 = .ok (.aload_n 0, 1) := by decide +kernel
theorem dX10_count_61 : decode cX10_count 61 = .ok (.getfield 10, 3) := by decide +kernel
theorem dX10_count_64 : decode cX10_count 64 = .ok (.getfield 131, 3) := by decide +kernel
theorem dX10_count_67 : decode cX10_count 67 = .ok (.invokestatic 296, 3) := by decide +kernel
theorem dX10_count_70 : decode cX10_count 70 = .ok (.ireturn, 1) := by decide +kernel
theorem dX10_count_71 : decode cX10_count 71 = .ok (.aload_n 0, 1) := by decide +kernel
theorem dX10_count_72 : decode cX10_count 72 = .ok (.getfield 10, 3) := by decide +kernel
theorem dX10_count_75 : decode cX10_count 75 = .ok (.getfield 144, 3) := by decide +kernel
theorem dX10_count_78 : decode cX10_count 78 = .ok (.invokestatic 296, 3) := by decide +kernel
theorem dX10_count_81 : decode cX10_count 81 = .ok (.ireturn, 1) := by decide +kernel
theorem dX10_count_82 : decode cX10_count 82 = .ok (.aload_n 0, 1) := by decide +kernel
theorem dX10_count_83 : decode cX10_count 83 = .ok (.getfield 10, 3) := by decide +kernel
theorem dX10_count_86 : decode cX10_count 86 = .ok (.getfield 147, 3) := by decide +kernel
theorem dX10_count_89 : decode cX10_count 89 = .ok (.ireturn, 1) := by decide +kernel
theorem dX10_count_90 : decode cX10_count 90 = .ok (.aload_n 0, 1) := by decide +kernel
theorem dX10_count_91 : decode cX10_count 91 = .ok (.getfield 31, 3) := by decide +kernel
theorem dX10_count_94 : decode cX10_count 94 = .ok (.getfield 96, 3) := by decide +kernel
theorem dX10_count_97 : decode cX10_count 97 = .ok (.ireturn, 1) := by decide +kernel
theorem dX10_count_98 : decode cX10_count 98 = .ok (.aload_n 0, 1) := by decide +kernel
theorem dX10_count_99 : decode cX10_count 99 = .ok (.getfield 22, 3) := by decide +kernel
theorem dX10_count_102 : decode cX10_count 102 = .ok (.getfield 82, 3) := by decide +kernel
theorem dX10_count_105 : decode cX10_count 105 = .ok (.getfield 96, 3) := by decide +kernel
theorem dX10_count_108 : decode cX10_count 108 = .ok (.ireturn, 1) := by decide +kernel
theorem dX10_count_109 : decode cX10_count 109 = .ok (.aload_n 0, 1) := by decide +kernel
theorem dX10_count_110 : decode cX10_count 110 = .ok (.iload_n 1, 1) := by decide +kernel
theorem dX10_count_111 : decode cX10_count 111 = .ok (.bipush 10, 2) := by decide +kernel
theorem dX10_count_113 : decode cX10_count 113 = .ok (.isub, 1) := by decide +kernel
theorem dX10_count_114 : decode cX10_count 114 = .ok (.invokevirtual 301, 3) := by decide +kernel
theorem dX10_count_117 : decode cX10_count 117 = .ok (.ireturn, 1) := by decide +kernel
theorem dX10_refusalsAt_0 : decode cX10_refusalsAt 0 = .ok (.iload_n 1, 1) := by decide +kernel
theorem dX10_refusalsAt_1 : decode cX10_refusalsAt 1 = .ok (.ifCond .le 21, 3) := by decide +kernel
theorem dX10_refusalsAt_4 : decode cX10_refusalsAt 4 = .ok (.iload_n 1, 1) := by decide +kernel
theorem dX10_refusalsAt_5 : decode cX10_refusalsAt 5 = .ok (.aload_n 0, 1) := by decide +kernel
theorem dX10_refusalsAt_6 : decode cX10_refusalsAt 6 = .ok (.getfield 70, 3) := by decide +kernel
theorem dX10_refusalsAt_9 : decode cX10_refusalsAt 9 = .ok (.arraylength, 1) := by decide +kernel
theorem dX10_refusalsAt_10 : decode cX10_refusalsAt 10 = .ok (.if_icmp .ge 12, 3) := by decide +kernel
theorem dX10_refusalsAt_13 : decode cX10_refusalsAt 13 = .ok (.aload_n 0, 1) := by decide +kernel
theorem dX10_refusalsAt_14 : decode cX10_refusalsAt 14 = .ok (.getfield 70, 3) := by decide +kernel
theorem dX10_refusalsAt_17 : decode cX10_refusalsAt 17 = .ok (.iload_n 1, 1) := by decide +kernel
theorem dX10_refusalsAt_18 : decode cX10_refusalsAt 18 = .ok (.iaload, 1) := by decide +kernel
theorem dX10_refusalsAt_19 : decode cX10_refusalsAt 19 = .ok (.goto 5, 3) := by decide +kernel
theorem dX10_refusalsAt_22 : decode cX10_refusalsAt 22 = .ok (.bipush (-9), 2) := by decide +kernel
theorem dX10_refusalsAt_24 : decode cX10_refusalsAt 24 = .ok (.ireturn, 1) := by decide +kernel
theorem dX10_refuse_0 : decode cX10_refuse 0 = .ok (.iload_n 1, 1) := by decide +kernel
theorem dX10_refuse_1 : decode cX10_refuse 1 = .ok (.ineg, 1) := by decide +kernel
theorem dX10_refuse_2 : decode cX10_refuse 2 = .ok (.istore_n 2, 1) := by decide +kernel
theorem dX10_refuse_3 : decode cX10_refuse 3 = .ok (.iload_n 2, 1) := by decide +kernel
theorem dX10_refuse_4 : decode cX10_refuse 4 = .ok (.ifCond .le 22, 3) := by decide +kernel
theorem dX10_refuse_7 : decode cX10_refuse 7 = .ok (.iload_n 2, 1) := by decide +kernel
theorem dX10_refuse_8 : decode cX10_refuse 8 = .ok (.aload_n 0, 1) := by decide +kernel
theorem dX10_refuse_9 : decode cX10_refuse 9 = .ok (.getfield 70, 3) := by decide +kernel
theorem dX10_refuse_12 : decode cX10_refuse 12 = .ok (.arraylength, 1) := by decide +kernel
theorem dX10_refuse_13 : decode cX10_refuse 13 = .ok (.if_icmp .ge 13, 3) := by decide +kernel
theorem dX10_refuse_16 : decode cX10_refuse 16 = .ok (.aload_n 0, 1) := by decide +kernel
theorem dX10_refuse_17 : decode cX10_refuse 17 = .ok (.getfield 70, 3) := by decide +kernel
theorem dX10_refuse_20 : decode cX10_refuse 20 = .ok (.iload_n 2, 1) := by decide +kernel
theorem dX10_refuse_21 : decode cX10_refuse 21 = .ok (.dup2, 1) := by decide +kernel
theorem dX10_refuse_22 : decode cX10_refuse 22 = .ok (.iaload, 1) := by decide +kernel
theorem dX10_refuse_23 : decode cX10_refuse 23 = .ok (.iconst 1, 1) := by decide +kernel
theorem dX10_refuse_24 : decode cX10_refuse 24 = .ok (.iadd, 1) := by decide +kernel
theorem dX10_refuse_25 : decode cX10_refuse 25 = .ok (.iastore, 1) := by decide +kernel
theorem dX10_refuse_26 : decode cX10_refuse 26 = .ok (.iload_n 1, 1) := by decide +kernel
theorem dX10_refuse_27 : decode cX10_refuse 27 = .ok (.ireturn, 1) := by decide +kernel
set_option maxRecDepth 20000 in
theorem ggX10_refuseFar_X10_refuse : GoodIn wsX10_refuseFar wsX10_refuse := goodIn_r _ [6, 7, 8, 9, 10, 11, 12, 13, 14, 15, 16, 17, 18] (by decide +kernel) (by decide +kernel)
set_option maxRecDepth 20000 in
theorem gX10_refuseFar_X10_refuse : GoodIn wsX10_refuseFar (wsV RX10 78 RX10 yX10_refuse wsX10_refuse) := goodIn_app (goodIn_of _ (by decide +kernel)) ggX10_refuseFar_X10_refuse
theorem dX10_refuseFar_0 : decode cX10_refuseFar 0 = .ok (.ldc2_w 304, 3) := by decide +kernel
theorem dX10_refuseFar_3 : decode cX10_refuseFar 3 = .ok (.aload_n 0, 1) := by decide +kernel
theorem dX10_refuseFar_4 : decode cX10_refuseFar 4 = .ok (.iload_n 1, 1) := by decide +kernel
theorem dX10_refuseFar_5 : decode cX10_refuseFar 5 = .ok (.invokevirtual 78, 3) := by decide +kernel
theorem dX10_refuseFar_8 : decode cX10_refuseFar 8 = .ok (.i2l, 1) := by decide +kernel
theorem dX10_refuseFar_9 : decode cX10_refuseFar 9 = .ok (.lsub, 1) := by decide +kernel
theorem dX10_refuseFar_10 : decode cX10_refuseFar 10 = .ok (.lreturn, 1) := by decide +kernel
set_option maxRecDepth 20000 in
theorem ggX10_settle_X1_reckon : GoodIn wsX10_settle wsX1_reckon := goodIn_r _ [8, 9, 10, 11, 12, 13, 14, 15, 16, 17, 7, 18, 19, 20, 21, 22, 23, 24, 25, 26, 27, 28, 29, 30, 31, 32, 33, 34, 35, 36, 37, 38, 39, 40, 41, 42, 43, 44, 45, 46, 47, 48, 49, 50, 51, 52, 53, 54, 55, 56, 57, 58, 59, 60, 61, 62, 63, 64, 65, 66, 67, 68, 69, 70, 103, 104, 105, 106, 107, 108, 109, 110, 111, 112, 113, 114] (by decide +kernel) (by decide +kernel)
set_option maxRecDepth 20000 in
theorem gX10_settle_X1_reckon : GoodIn wsX10_settle (wsV RX10 150 RX1 yX1_reckon wsX1_reckon) := goodIn_app (goodIn_of _ (by decide +kernel)) ggX10_settle_X1_reckon
set_option maxRecDepth 20000 in
theorem ggX10_settle_X9_run : GoodIn wsX10_settle wsX9_run := goodIn_r _ [75, 76, 77, 78, 79, 80, 81, 82, 83, 84, 85, 74, 86, 87, 88, 28, 29, 30, 89, 50, 51, 90, 22, 23, 24, 25, 26, 27, 91, 54, 55, 56, 57, 115, 116, 117, 118, 107, 108, 109, 110, 111, 112, 113, 114, 103, 104, 105, 106] (by decide +kernel) (by decide +kernel)
set_option maxRecDepth 20000 in
theorem gX10_settle_X9_run : GoodIn wsX10_settle (wsV RX10 306 RX9 yX9_run wsX9_run) := goodIn_app (goodIn_of _ (by decide +kernel)) ggX10_settle_X9_run
theorem dX10_settle_0 : decode cX10_settle 0 = .ok (.aload_n 0, 1) := by decide +kernel
theorem dX10_settle_1 : decode cX10_settle 1 = .ok (.getfield 38, 3) := by decide +kernel
theorem dX10_settle_4 : decode cX10_settle 4 = .ok (.aload_n 0, 1) := by decide +kernel
theorem dX10_settle_5 : decode cX10_settle 5 = .ok (.getfield 10, 3) := by decide +kernel
theorem dX10_settle_8 : decode cX10_settle 8 = .ok (.invokevirtual 150, 3) := by decide +kernel
theorem dX10_settle_11 : decode cX10_settle 11 = .ok (.aload_n 0, 1) := by decide +kernel
theorem dX10_settle_12 : decode cX10_settle 12 = .ok (.getfield 45, 3) := by decide +kernel
theorem dX10_settle_15 : decode cX10_settle 15 = .ok (.aload_n 0, 1) := by decide +kernel
theorem dX10_settle_16 : decode cX10_settle 16 = .ok (.getfield 10, 3) := by decide +kernel
theorem dX10_settle_19 : decode cX10_settle 19 = .ok (.aload_n 0, 1) := by decide +kernel
theorem dX10_settle_20 : decode cX10_settle 20 = .ok (.getfield 38, 3) := by decide +kernel
theorem dX10_settle_23 : decode cX10_settle 23 = .ok (.invokevirtual 306, 3) := by decide +kernel
theorem dX10_settle_26 : decode cX10_settle 26 = .ok (.return_, 1) := by decide +kernel
theorem dX10_isKind_0 : decode cX10_isKind 0 = .ok (.iload_n 0, 1) := by decide +kernel
theorem dX10_isKind_1 : decode cX10_isKind 1 = .ok (.ifCond .lt 13, 3) := by decide +kernel
theorem dX10_isKind_4 : decode cX10_isKind 4 = .ok (.iload_n 0, 1) := by decide +kernel
theorem dX10_isKind_5 : decode cX10_isKind 5 = .ok (.bipush 6, 2) := by decide +kernel
theorem dX10_isKind_7 : decode cX10_isKind 7 = .ok (.if_icmp .ge 7, 3) := by decide +kernel
theorem dX10_isKind_10 : decode cX10_isKind 10 = .ok (.iconst 1, 1) := by decide +kernel
theorem dX10_isKind_11 : decode cX10_isKind 11 = .ok (.goto 4, 3) := by decide +kernel
theorem dX10_isKind_14 : decode cX10_isKind 14 = .ok (.iconst 0, 1) := by decide +kernel
theorem dX10_isKind_15 : decode cX10_isKind 15 = .ok (.ireturn, 1) := by decide +kernel
theorem dX10_isSort_0 : decode cX10_isSort 0 = .ok (.iload_n 0, 1) := by decide +kernel
theorem dX10_isSort_1 : decode cX10_isSort 1 = .ok (.ifCond .lt 13, 3) := by decide +kernel
theorem dX10_isSort_4 : decode cX10_isSort 4 = .ok (.iload_n 0, 1) := by decide +kernel
theorem dX10_isSort_5 : decode cX10_isSort 5 = .ok (.bipush 6, 2) := by decide +kernel
theorem dX10_isSort_7 : decode cX10_isSort 7 = .ok (.if_icmp .ge 7, 3) := by decide +kernel
theorem dX10_isSort_10 : decode cX10_isSort 10 = .ok (.iconst 1, 1) := by decide +kernel
theorem dX10_isSort_11 : decode cX10_isSort 11 = .ok (.goto 4, 3) := by decide +kernel
theorem dX10_isSort_14 : decode cX10_isSort 14 = .ok (.iconst 0, 1) := by decide +kernel
theorem dX10_isSort_15 : decode cX10_isSort 15 = .ok (.ireturn, 1) := by decide +kernel
theorem dX10_isFirstOrSecond_0 : decode cX10_isFirstOrSecond 0 = .ok (.iload_n 0, 1) := by decide +kernel
theorem dX10_isFirstOrSecond_1 : decode cX10_isFirstOrSecond 1 = .ok (.ifCond .eq 8, 3) := by decide +kernel
theorem dX10_isFirstOrSecond_4 : decode cX10_isFirstOrSecond 4 = .ok (.iload_n 0, 1) := by decide +kernel
theorem dX10_isFirstOrSecond_5 : decode cX10_isFirstOrSecond 5 = .ok (.iconst 1, 1) := by decide +kernel
theorem dX10_isFirstOrSecond_6 : decode cX10_isFirstOrSecond 6 = .ok (.if_icmp .ne 7, 3) := by decide +kernel
theorem dX10_isFirstOrSecond_9 : decode cX10_isFirstOrSecond 9 = .ok (.iconst 1, 1) := by decide +kernel
theorem dX10_isFirstOrSecond_10 : decode cX10_isFirstOrSecond 10 = .ok (.goto 4, 3) := by decide +kernel
theorem dX10_isFirstOrSecond_13 : decode cX10_isFirstOrSecond 13 = .ok (.iconst 0, 1) := by decide +kernel
theorem dX10_isFirstOrSecond_14 : decode cX10_isFirstOrSecond 14 = .ok (.ireturn, 1) := by decide +kernel
theorem dX11_init_0 : decode cX11_init 0 = .ok (.aload_n 0, 1) := by decide +kernel
theorem dX11_init_1 : decode cX11_init 1 = .ok (.invokespecial 1, 3) := by decide +kernel
theorem dX11_init_4 : decode cX11_init 4 = .ok (.aload_n 0, 1) := by decide +kernel
theorem dX11_init_5 : decode cX11_init 5 = .ok (.bipush 43, 2) := by decide +kernel
theorem dX11_init_7 : decode cX11_init 7 = .ok (.newarray .int, 2) := by decide +kernel
theorem dX11_init_9 : decode cX11_init 9 = .ok (.putfield 9, 3) := by decide +kernel
theorem dX11_init_12 : decode cX11_init 12 = .ok (.aload_n 0, 1) := by decide +kernel
theorem dX11_init_13 : decode cX11_init 13 = .ok (.bipush 43, 2) := by decide +kernel
theorem dX11_init_15 : decode cX11_init 15 = .ok (.newarray .int, 2) := by decide +kernel
theorem dX11_init_17 : decode cX11_init 17 = .ok (.putfield 13, 3) := by decide +kernel
theorem dX11_init_20 : decode cX11_init 20 = .ok (.aload_n 0, 1) := by decide +kernel
theorem dX11_init_21 : decode cX11_init 21 = .ok (.bipush 43, 2) := by decide +kernel
theorem dX11_init_23 : decode cX11_init 23 = .ok (.newarray .int, 2) := by decide +kernel
theorem dX11_init_25 : decode cX11_init 25 = .ok (.putfield 16, 3) := by decide +kernel
theorem dX11_init_28 : decode cX11_init 28 = .ok (.aload_n 0, 1) := by decide +kernel
theorem dX11_init_29 : decode cX11_init 29 = .ok (.bipush 7, 2) := by decide +kernel
theorem dX11_init_31 : decode cX11_init 31 = .ok (.newarray .int, 2) := by decide +kernel
theorem dX11_init_33 : decode cX11_init 33 = .ok (.putfield 19, 3) := by decide +kernel
theorem dX11_init_36 : decode cX11_init 36 = .ok (.aload_n 0, 1) := by decide +kernel
theorem dX11_init_37 : decode cX11_init 37 = .ok (.bipush 12, 2) := by decide +kernel
theorem dX11_init_39 : decode cX11_init 39 = .ok (.newarray .int, 2) := by decide +kernel
theorem dX11_init_41 : decode cX11_init 41 = .ok (.putfield 22, 3) := by decide +kernel
theorem dX11_init_44 : decode cX11_init 44 = .ok (.aload_n 0, 1) := by decide +kernel
theorem dX11_init_45 : decode cX11_init 45 = .ok (.bipush 96, 2) := by decide +kernel
theorem dX11_init_47 : decode cX11_init 47 = .ok (.newarray .int, 2) := by decide +kernel
theorem dX11_init_49 : decode cX11_init 49 = .ok (.putfield 25, 3) := by decide +kernel
theorem dX11_init_52 : decode cX11_init 52 = .ok (.aload_n 0, 1) := by decide +kernel
theorem dX11_init_53 : decode cX11_init 53 = .ok (.bipush 8, 2) := by decide +kernel
theorem dX11_init_55 : decode cX11_init 55 = .ok (.newarray .int, 2) := by decide +kernel
theorem dX11_init_57 : decode cX11_init 57 = .ok (.putfield 28, 3) := by decide +kernel
theorem dX11_init_60 : decode cX11_init 60 = .ok (.aload_n 0, 1) := by decide +kernel
theorem dX11_init_61 : decode cX11_init 61 = .ok (.bipush 8, 2) := by decide +kernel
theorem dX11_init_63 : decode cX11_init 63 = .ok (.newarray .int, 2) := by decide +kernel
theorem dX11_init_65 : decode cX11_init 65 = .ok (.putfield 31, 3) := by decide +kernel
theorem dX11_init_68 : decode cX11_init 68 = .ok (.aload_n 0, 1) := by decide +kernel
theorem dX11_init_69 : decode cX11_init 69 = .ok (.bipush 8, 2) := by decide +kernel
theorem dX11_init_71 : decode cX11_init 71 = .ok (.newarray .int, 2) := by decide +kernel
theorem dX11_init_73 : decode cX11_init 73 = .ok (.putfield 34, 3) := by decide +kernel
theorem dX11_init_76 : decode cX11_init 76 = .ok (.aload_n 0, 1) := by decide +kernel
theorem dX11_init_77 : decode cX11_init 77 = .ok (.bipush 8, 2) := by decide +kernel
theorem dX11_init_79 : decode cX11_init 79 = .ok (.newarray .int, 2) := by decide +kernel
theorem dX11_init_81 : decode cX11_init 81 = .ok (.putfield 37, 3) := by decide +kernel
theorem dX11_init_84 : decode cX11_init 84 = .ok (.aload_n 0, 1) := by decide +kernel
theorem dX11_init_85 : decode cX11_init 85 = .ok (.bipush 8, 2) := by decide +kernel
theorem dX11_init_87 : decode cX11_init 87 = .ok (.newarray .int, 2) := by decide +kernel
theorem dX11_init_89 : decode cX11_init 89 = .ok (.putfield 40, 3) := by decide +kernel
theorem dX11_init_92 : decode cX11_init 92 = .ok (.aload_n 0, 1) := by decide +kernel
theorem dX11_init_93 : decode cX11_init 93 = .ok (.sipush 256, 3) := by decide +kernel
theorem dX11_init_96 : decode cX11_init 96 = .ok (.newarray .boolean, 2) := by decide +kernel
theorem dX11_init_98 : decode cX11_init 98 = .ok (.putfield 43, 3) := by decide +kernel
theorem dX11_init_101 : decode cX11_init 101 = .ok (.aload_n 0, 1) := by decide +kernel
theorem dX11_init_102 : decode cX11_init 102 = .ok (.sipush 256, 3) := by decide +kernel
theorem dX11_init_105 : decode cX11_init 105 = .ok (.newarray .boolean, 2) := by decide +kernel
theorem dX11_init_107 : decode cX11_init 107 = .ok (.putfield 47, 3) := by decide +kernel
theorem dX11_init_110 : decode cX11_init 110 = .ok (.aload_n 0, 1) := by decide +kernel
theorem dX11_init_111 : decode cX11_init 111 = .ok (.sipush 2048, 3) := by decide +kernel
theorem dX11_init_114 : decode cX11_init 114 = .ok (.newarray .int, 2) := by decide +kernel
theorem dX11_init_116 : decode cX11_init 116 = .ok (.putfield 50, 3) := by decide +kernel
theorem dX11_init_119 : decode cX11_init 119 = .ok (.aload_n 0, 1) := by decide +kernel
theorem dX11_init_120 : decode cX11_init 120 = .ok (.sipush 2048, 3) := by decide +kernel
theorem dX11_init_123 : decode cX11_init 123 = .ok (.newarray .long, 2) := by decide +kernel
theorem dX11_init_125 : decode cX11_init 125 = .ok (.putfield 53, 3) := by decide +kernel
theorem dX11_init_128 : decode cX11_init 128 = .ok (.aload_n 0, 1) := by decide +kernel
theorem dX11_init_129 : decode cX11_init 129 = .ok (.getfield 9, 3) := by decide +kernel
theorem dX11_init_132 : decode cX11_init 132 = .ok (.bipush 41, 2) := by decide +kernel
theorem dX11_init_134 : decode cX11_init 134 = .ok (.iconst 3, 1) := by decide +kernel
theorem dX11_init_135 : decode cX11_init 135 = .ok (.iastore, 1) := by decide +kernel
theorem dX11_init_136 : decode cX11_init 136 = .ok (.return_, 1) := by decide +kernel
theorem dX11_in_0 : decode cX11_in 0 = .ok (.lload_n 0, 1) := by decide +kernel
theorem dX11_in_1 : decode cX11_in 1 = .ok (.lload_n 2, 1) := by decide +kernel
theorem dX11_in_2 : decode cX11_in 2 = .ok (.lcmp, 1) := by decide +kernel
theorem dX11_in_3 : decode cX11_in 3 = .ok (.ifCond .lt 14, 3) := by decide +kernel
theorem dX11_in_6 : decode cX11_in 6 = .ok (.lload_n 0, 1) := by decide +kernel
theorem dX11_in_7 : decode cX11_in 7 = .ok (.lload 4, 2) := by decide +kernel
theorem dX11_in_9 : decode cX11_in 9 = .ok (.lcmp, 1) := by decide +kernel
theorem dX11_in_10 : decode cX11_in 10 = .ok (.ifCond .gt 7, 3) := by decide +kernel
theorem dX11_in_13 : decode cX11_in 13 = .ok (.iconst 1, 1) := by decide +kernel
theorem dX11_in_14 : decode cX11_in 14 = .ok (.goto 4, 3) := by decide +kernel
theorem dX11_in_17 : decode cX11_in 17 = .ok (.iconst 0, 1) := by decide +kernel
theorem dX11_in_18 : decode cX11_in 18 = .ok (.ireturn, 1) := by decide +kernel
theorem dX11_refused_0 : decode cX11_refused 0 = .ok (.aload_n 0, 1) := by decide +kernel
theorem dX11_refused_1 : decode cX11_refused 1 = .ok (.getfield 19, 3) := by decide +kernel
theorem dX11_refused_4 : decode cX11_refused 4 = .ok (.iload_n 1, 1) := by decide +kernel
theorem dX11_refused_5 : decode cX11_refused 5 = .ok (.ineg, 1) := by decide +kernel
theorem dX11_refused_6 : decode cX11_refused 6 = .ok (.dup2, 1) := by decide +kernel
theorem dX11_refused_7 : decode cX11_refused 7 = .ok (.iaload, 1) := by decide +kernel
theorem dX11_refused_8 : decode cX11_refused 8 = .ok (.iconst 1, 1) := by decide +kernel
theorem dX11_refused_9 : decode cX11_refused 9 = .ok (.iadd, 1) := by decide +kernel
theorem dX11_refused_10 : decode cX11_refused 10 = .ok (.iastore, 1) := by decide +kernel
theorem dX11_refused_11 : decode cX11_refused 11 = .ok (.iload_n 1, 1) := by decide +kernel
theorem dX11_refused_12 : decode cX11_refused 12 = .ok (.ireturn, 1) := by decide +kernel
theorem dX11_copies_0 : decode cX11_copies 0 = .ok (.iconst 0, 1) := by decide +kernel
theorem dX11_copies_1 : decode cX11_copies 1 = .ok (.istore_n 2, 1) := by decide +kernel
theorem dX11_copies_2 : decode cX11_copies 2 = .ok (.iload_n 2, 1) := by decide +kernel
theorem dX11_copies_3 : decode cX11_copies 3 = .ok (.bipush 43, 2) := by decide +kernel
theorem dX11_copies_5 : decode cX11_copies 5 = .ok (.if_icmp .ge 15, 3) := by decide +kernel
theorem dX11_copies_8 : decode cX11_copies 8 = .ok (.aload_n 1, 1) := by decide +kernel
