set_option maxRecDepth 20000 in
theorem wi_wsL_law_r1 : ∀ w ∈ wsL_law_r1, w ∈ lw_tbl := by
  intro w hw
  rw [show wsL_law_r1 = ([106, 107, 91, 939, 940, 101, 108, 109, 110, 111, 112, 113, 114, 115, 92, 316, 317, 164, 165, 93, 318, 200, 171, 94] : List Nat).filterMap (fun i => lw_tbl[i]?) from by decide +kernel] at hw
  obtain ⟨i, -, hi⟩ := List.mem_filterMap.mp hw
  exact List.mem_of_getElem? hi
set_option maxRecDepth 20000 in
theorem wi_wsL_law_r2 : ∀ w ∈ wsL_law_r2, w ∈ lw_tbl := by
  intro w hw
  rw [show wsL_law_r2 = ([319, 202, 203, 96, 320, 230, 231, 97, 321, 252, 253, 98, 322, 278, 279, 99, 323, 294, 295, 100, 324, 189, 325, 326] : List Nat).filterMap (fun i => lw_tbl[i]?) from by decide +kernel] at hw
  obtain ⟨i, -, hi⟩ := List.mem_filterMap.mp hw
  exact List.mem_of_getElem? hi
set_option maxRecDepth 20000 in
theorem wi_wsL_law_r3 : ∀ w ∈ wsL_law_r3, w ∈ lw_tbl := by
  intro w hw
  rw [show wsL_law_r3 = ([117, 118, 119, 120, 126, 131, 135, 136, 137, 138, 143, 167, 168, 169, 170, 192, 190, 194, 172, 173, 174, 175, 180, 176] : List Nat).filterMap (fun i => lw_tbl[i]?) from by decide +kernel] at hw
  obtain ⟨i, -, hi⟩ := List.mem_filterMap.mp hw
  exact List.mem_of_getElem? hi
set_option maxRecDepth 20000 in
theorem wi_wsL_law_r4 : ∀ w ∈ wsL_law_r4, w ∈ lw_tbl := by
  intro w hw
  rw [show wsL_law_r4 = ([177, 95, 178, 179, 201, 205, 206, 207, 208, 210, 212, 217, 233, 234, 235, 236, 239, 240, 242, 255, 256, 257, 277, 258] : List Nat).filterMap (fun i => lw_tbl[i]?) from by decide +kernel] at hw
  obtain ⟨i, -, hi⟩ := List.mem_filterMap.mp hw
  exact List.mem_of_getElem? hi
set_option maxRecDepth 20000 in
theorem wi_wsL_law_r5 : ∀ w ∈ wsL_law_r5, w ∈ lw_tbl := by
  intro w hw
  rw [show wsL_law_r5 = ([259, 260, 261, 262, 263, 281, 282, 283, 284, 285, 286, 297, 298, 299, 300, 306, 302, 307, 304, 308, 941, 942, 943, 944] : List Nat).filterMap (fun i => lw_tbl[i]?) from by decide +kernel] at hw
  obtain ⟨i, -, hi⟩ := List.mem_filterMap.mp hw
  exact List.mem_of_getElem? hi
set_option maxRecDepth 20000 in
theorem wi_wsL_law_r6 : ∀ w ∈ wsL_law_r6, w ∈ lw_tbl := by
  intro w hw
  rw [show wsL_law_r6 = ([945, 946, 947, 949, 950, 952, 954, 955, 956, 957, 960, 962, 963, 966, 1018, 967, 350, 351, 352, 353, 193, 354, 356, 0] : List Nat).filterMap (fun i => lw_tbl[i]?) from by decide +kernel] at hw
  obtain ⟨i, -, hi⟩ := List.mem_filterMap.mp hw
  exact List.mem_of_getElem? hi
set_option maxRecDepth 20000 in
theorem wi_wsL_law_r7 : ∀ w ∈ wsL_law_r7, w ∈ lw_tbl := by
  intro w hw
  rw [show wsL_law_r7 = ([357, 358, 359, 360, 361, 362, 363, 364, 365, 1019, 1020, 1021, 1022, 1023, 953, 1024, 1025, 1026, 1027, 1029, 36, 1030, 366, 367] : List Nat).filterMap (fun i => lw_tbl[i]?) from by decide +kernel] at hw
  obtain ⟨i, -, hi⟩ := List.mem_filterMap.mp hw
  exact List.mem_of_getElem? hi
set_option maxRecDepth 20000 in
theorem wi_wsL_law_r8 : ∀ w ∈ wsL_law_r8, w ∈ lw_tbl := by
  intro w hw
  rw [show wsL_law_r8 = ([368, 369, 183, 370, 371, 372, 373, 374, 376, 1, 377, 182, 378, 379, 380, 381, 382, 383, 384, 385, 386, 387, 388, 389] : List Nat).filterMap (fun i => lw_tbl[i]?) from by decide +kernel] at hw
  obtain ⟨i, -, hi⟩ := List.mem_filterMap.mp hw
  exact List.mem_of_getElem? hi
set_option maxRecDepth 20000 in
theorem wi_wsL_law_r9 : ∀ w ∈ wsL_law_r9, w ∈ lw_tbl := by
  intro w hw
  rw [show wsL_law_r9 = ([390, 391, 392, 393, 394, 395, 396, 397, 398, 399, 400, 402, 2, 403, 404, 405, 406, 407, 408, 410, 3, 411, 412, 414] : List Nat).filterMap (fun i => lw_tbl[i]?) from by decide +kernel] at hw
  obtain ⟨i, -, hi⟩ := List.mem_filterMap.mp hw
  exact List.mem_of_getElem? hi
set_option maxRecDepth 20000 in
theorem wi_wsL_law_r10 : ∀ w ∈ wsL_law_r10, w ∈ lw_tbl := by
  intro w hw
  rw [show wsL_law_r10 = ([4, 415, 416, 418, 5, 419, 421, 422, 423, 424, 425, 426, 427, 428, 429, 430, 431, 432, 102, 433, 434, 435, 436, 438] : List Nat).filterMap (fun i => lw_tbl[i]?) from by decide +kernel] at hw
  obtain ⟨i, -, hi⟩ := List.mem_filterMap.mp hw
  exact List.mem_of_getElem? hi
set_option maxRecDepth 20000 in
theorem wi_wsL_law_r11 : ∀ w ∈ wsL_law_r11, w ∈ lw_tbl := by
  intro w hw
  rw [show wsL_law_r11 = ([6, 439, 134, 440, 442, 7, 443, 444, 445, 446, 447, 448, 450, 8, 451, 452, 453, 454, 455, 456, 457, 458, 459, 460] : List Nat).filterMap (fun i => lw_tbl[i]?) from by decide +kernel] at hw
  obtain ⟨i, -, hi⟩ := List.mem_filterMap.mp hw
  exact List.mem_of_getElem? hi
set_option maxRecDepth 20000 in
theorem wi_wsL_law_r12 : ∀ w ∈ wsL_law_r12, w ∈ lw_tbl := by
  intro w hw
  rw [show wsL_law_r12 = ([462, 9, 463, 464, 466, 10, 467, 142, 146, 468, 469, 470, 1031, 1032, 1033, 1034, 1035, 1037, 37, 1038, 964, 965, 1039, 1041] : List Nat).filterMap (fun i => lw_tbl[i]?) from by decide +kernel] at hw
  obtain ⟨i, -, hi⟩ := List.mem_filterMap.mp hw
  exact List.mem_of_getElem? hi
set_option maxRecDepth 20000 in
theorem wi_wsL_law_r13 : ∀ w ∈ wsL_law_r13, w ∈ lw_tbl := by
  intro w hw
  rw [show wsL_law_r13 = ([38, 1042, 1047, 1048, 1043, 1045, 39, 1046, 1049, 1051, 40, 1052, 1053, 1055, 41, 1056, 1057, 1058, 1059, 1061, 42, 1062, 1063, 1064] : List Nat).filterMap (fun i => lw_tbl[i]?) from by decide +kernel] at hw
  obtain ⟨i, -, hi⟩ := List.mem_filterMap.mp hw
  exact List.mem_of_getElem? hi
set_option maxRecDepth 20000 in
theorem wi_wsL_law_r14 : ∀ w ∈ wsL_law_r14, w ∈ lw_tbl := by
  intro w hw
  rw [show wsL_law_r14 = ([1065, 1066, 1067, 1068, 1069, 1071, 43, 1072, 1073, 1074, 1075, 1076, 1078, 44, 1079, 1080, 1082, 45, 1083, 1084, 1086, 46, 1087, 1088] : List Nat).filterMap (fun i => lw_tbl[i]?) from by decide +kernel] at hw
  obtain ⟨i, -, hi⟩ := List.mem_filterMap.mp hw
  exact List.mem_of_getElem? hi
set_option maxRecDepth 20000 in
theorem wi_wsL_law_r15 : ∀ w ∈ wsL_law_r15, w ∈ lw_tbl := by
  intro w hw
  rw [show wsL_law_r15 = ([1090, 47, 1091, 1092, 1094, 48, 1095, 1096, 1098, 49, 1099, 1100, 1102, 50, 1103, 1104, 1106, 51, 1107, 471, 472, 473, 474, 475] : List Nat).filterMap (fun i => lw_tbl[i]?) from by decide +kernel] at hw
  obtain ⟨i, -, hi⟩ := List.mem_filterMap.mp hw
  exact List.mem_of_getElem? hi
set_option maxRecDepth 20000 in
theorem wi_wsL_law_r16 : ∀ w ∈ wsL_law_r16, w ∈ lw_tbl := by
  intro w hw
  rw [show wsL_law_r16 = ([476, 477, 1108, 1109, 1110, 1111, 1112, 478, 479, 480, 481, 482, 483, 484, 485, 486, 487, 488, 489, 490, 491, 1113, 1114, 1115] : List Nat).filterMap (fun i => lw_tbl[i]?) from by decide +kernel] at hw
  obtain ⟨i, -, hi⟩ := List.mem_filterMap.mp hw
  exact List.mem_of_getElem? hi
set_option maxRecDepth 20000 in
theorem wi_wsL_law_r17 : ∀ w ∈ wsL_law_r17, w ∈ lw_tbl := by
  intro w hw
  rw [show wsL_law_r17 = ([1116, 492, 493, 494, 495, 496, 497, 498, 499, 500, 501, 502, 503, 504, 505, 506, 507, 1117, 1118, 1119, 1120, 1121, 508, 509] : List Nat).filterMap (fun i => lw_tbl[i]?) from by decide +kernel] at hw
  obtain ⟨i, -, hi⟩ := List.mem_filterMap.mp hw
  exact List.mem_of_getElem? hi
set_option maxRecDepth 20000 in
theorem wi_wsL_law_r18 : ∀ w ∈ wsL_law_r18, w ∈ lw_tbl := by
  intro w hw
  rw [show wsL_law_r18 = ([510, 511, 140, 512, 513, 514, 515, 516, 517, 518, 519, 520, 1122, 1123, 1124, 1125, 1126, 1128, 52, 1129, 521, 522, 523, 524] : List Nat).filterMap (fun i => lw_tbl[i]?) from by decide +kernel] at hw
  obtain ⟨i, -, hi⟩ := List.mem_filterMap.mp hw
  exact List.mem_of_getElem? hi
set_option maxRecDepth 20000 in
theorem wi_wsL_law_r19 : ∀ w ∈ wsL_law_r19, w ∈ lw_tbl := by
  intro w hw
  rw [show wsL_law_r19 = ([145, 525, 526, 527, 528, 1130, 1131, 1132, 1133, 529, 530, 531, 532, 133, 1134, 1135, 1136, 1137, 1138, 533, 534, 535, 536, 209] : List Nat).filterMap (fun i => lw_tbl[i]?) from by decide +kernel] at hw
  obtain ⟨i, -, hi⟩ := List.mem_filterMap.mp hw
  exact List.mem_of_getElem? hi
set_option maxRecDepth 20000 in
theorem wi_wsL_law_r20 : ∀ w ∈ wsL_law_r20, w ∈ lw_tbl := by
  intro w hw
  rw [show wsL_law_r20 = ([211, 216, 220, 537, 538, 539, 540, 144, 127, 132, 541, 542, 543, 123, 139, 544, 545, 546, 547, 548, 549, 550, 551, 552] : List Nat).filterMap (fun i => lw_tbl[i]?) from by decide +kernel] at hw
  obtain ⟨i, -, hi⟩ := List.mem_filterMap.mp hw
  exact List.mem_of_getElem? hi
set_option maxRecDepth 20000 in
theorem wi_wsL_law_r21 : ∀ w ∈ wsL_law_r21, w ∈ lw_tbl := by
  intro w hw
  rw [show wsL_law_r21 = ([553, 554, 555, 556, 557, 558, 559, 560, 561, 562, 563, 564, 565, 566, 567, 568, 569, 570, 571, 572, 573, 574, 1139, 1140] : List Nat).filterMap (fun i => lw_tbl[i]?) from by decide +kernel] at hw
  obtain ⟨i, -, hi⟩ := List.mem_filterMap.mp hw
  exact List.mem_of_getElem? hi
set_option maxRecDepth 20000 in
theorem wi_wsL_law_r22 : ∀ w ∈ wsL_law_r22, w ∈ lw_tbl := by
  intro w hw
  rw [show wsL_law_r22 = ([1141, 1142, 1143, 1145, 53, 1146, 1147, 1149, 54, 1150, 1151, 1152, 1153, 1154, 1156, 55, 1157, 1158, 1160, 56, 1161, 575, 576, 577] : List Nat).filterMap (fun i => lw_tbl[i]?) from by decide +kernel] at hw
  obtain ⟨i, -, hi⟩ := List.mem_filterMap.mp hw
  exact List.mem_of_getElem? hi
set_option maxRecDepth 20000 in
theorem wi_wsL_law_r23 : ∀ w ∈ wsL_law_r23, w ∈ lw_tbl := by
  intro w hw
  rw [show wsL_law_r23 = ([578, 579, 581, 11, 582, 583, 584, 585, 586, 122, 219, 214, 587, 589, 12, 590, 128, 591, 592, 593, 594, 595, 596, 597] : List Nat).filterMap (fun i => lw_tbl[i]?) from by decide +kernel] at hw
  obtain ⟨i, -, hi⟩ := List.mem_filterMap.mp hw
  exact List.mem_of_getElem? hi
set_option maxRecDepth 20000 in
theorem wi_wsL_law_r24 : ∀ w ∈ wsL_law_r24, w ∈ lw_tbl := by
  intro w hw
  rw [show wsL_law_r24 = ([598, 599, 1162, 1163, 1164, 1165, 1166, 1168, 57, 1169, 958, 959, 961, 1170, 1172, 58, 1173, 1174, 1176, 59, 1177, 600, 601, 602] : List Nat).filterMap (fun i => lw_tbl[i]?) from by decide +kernel] at hw
  obtain ⟨i, -, hi⟩ := List.mem_filterMap.mp hw
  exact List.mem_of_getElem? hi
set_option maxRecDepth 20000 in
theorem wi_wsL_law_r25 : ∀ w ∈ wsL_law_r25, w ∈ lw_tbl := by
  intro w hw
  rw [show wsL_law_r25 = ([603, 241, 604, 605, 606, 607, 1178, 1179, 1180, 1181, 608, 609, 610, 611, 130, 612, 613, 614, 615, 616, 617, 618, 213, 218] : List Nat).filterMap (fun i => lw_tbl[i]?) from by decide +kernel] at hw
  obtain ⟨i, -, hi⟩ := List.mem_filterMap.mp hw
  exact List.mem_of_getElem? hi
set_option maxRecDepth 20000 in
theorem wi_wsL_law_r26 : ∀ w ∈ wsL_law_r26, w ∈ lw_tbl := by
  intro w hw
  rw [show wsL_law_r26 = ([619, 621, 13, 622, 623, 625, 14, 626, 627, 628, 630, 15, 631, 632, 634, 16, 635, 636, 638, 17, 639, 640, 641, 642] : List Nat).filterMap (fun i => lw_tbl[i]?) from by decide +kernel] at hw
  obtain ⟨i, -, hi⟩ := List.mem_filterMap.mp hw
  exact List.mem_of_getElem? hi
set_option maxRecDepth 20000 in
theorem wi_wsL_law_r27 : ∀ w ∈ wsL_law_r27, w ∈ lw_tbl := by
  intro w hw
  rw [show wsL_law_r27 = ([643, 644, 646, 18, 647, 648, 650, 19, 651, 652, 654, 20, 655, 656, 658, 21, 659, 660, 662, 22, 663, 664, 666, 23] : List Nat).filterMap (fun i => lw_tbl[i]?) from by decide +kernel] at hw
  obtain ⟨i, -, hi⟩ := List.mem_filterMap.mp hw
  exact List.mem_of_getElem? hi
set_option maxRecDepth 20000 in
theorem wi_wsL_law_r28 : ∀ w ∈ wsL_law_r28, w ∈ lw_tbl := by
  intro w hw
  rw [show wsL_law_r28 = ([667, 668, 669, 670, 671, 672, 673, 674, 675, 676, 677, 103, 678, 679, 680, 681, 1182, 1183, 1184, 1185, 1186, 1188, 60, 1189] : List Nat).filterMap (fun i => lw_tbl[i]?) from by decide +kernel] at hw
  obtain ⟨i, -, hi⟩ := List.mem_filterMap.mp hw
  exact List.mem_of_getElem? hi
set_option maxRecDepth 20000 in
theorem wi_wsL_law_r29 : ∀ w ∈ wsL_law_r29, w ∈ lw_tbl := by
  intro w hw
  rw [show wsL_law_r29 = ([1190, 1192, 61, 1193, 1194, 1196, 62, 1197, 1198, 1200, 63, 1201, 1202, 1204, 64, 1205, 1206, 1208, 65, 1209, 1210, 1212, 66, 1213] : List Nat).filterMap (fun i => lw_tbl[i]?) from by decide +kernel] at hw
  obtain ⟨i, -, hi⟩ := List.mem_filterMap.mp hw
  exact List.mem_of_getElem? hi
set_option maxRecDepth 20000 in
theorem wi_wsL_law_r30 : ∀ w ∈ wsL_law_r30, w ∈ lw_tbl := by
  intro w hw
  rw [show wsL_law_r30 = ([1214, 1216, 67, 1217, 1218, 1220, 68, 1221, 1222, 1224, 69, 1225, 1226, 1228, 70, 1229, 1230, 1232, 71, 1233, 1234, 1235, 1236, 682] : List Nat).filterMap (fun i => lw_tbl[i]?) from by decide +kernel] at hw
  obtain ⟨i, -, hi⟩ := List.mem_filterMap.mp hw
  exact List.mem_of_getElem? hi
set_option maxRecDepth 20000 in
theorem wi_wsL_law_r31 : ∀ w ∈ wsL_law_r31, w ∈ lw_tbl := by
  intro w hw
  rw [show wsL_law_r31 = ([683, 684, 685, 686, 687, 688, 689, 690, 691, 692, 693, 1237, 1238, 1239, 1240, 694, 695, 696, 697, 698, 699, 700, 701, 702] : List Nat).filterMap (fun i => lw_tbl[i]?) from by decide +kernel] at hw
  obtain ⟨i, -, hi⟩ := List.mem_filterMap.mp hw
  exact List.mem_of_getElem? hi
set_option maxRecDepth 20000 in
theorem wi_wsL_law_r32 : ∀ w ∈ wsL_law_r32, w ∈ lw_tbl := by
  intro w hw
  rw [show wsL_law_r32 = ([703, 704, 705, 1241, 1242, 1243, 1244, 706, 707, 708, 709, 710, 711, 712, 713, 714, 715, 717, 24, 718, 719, 720, 721, 722] : List Nat).filterMap (fun i => lw_tbl[i]?) from by decide +kernel] at hw
  obtain ⟨i, -, hi⟩ := List.mem_filterMap.mp hw
  exact List.mem_of_getElem? hi
set_option maxRecDepth 20000 in
theorem wi_wsL_law_r33 : ∀ w ∈ wsL_law_r33, w ∈ lw_tbl := by
  intro w hw
  rw [show wsL_law_r33 = ([724, 25, 725, 735, 726, 727, 729, 26, 730, 731, 733, 27, 734, 736, 738, 28, 739, 748, 740, 742, 29, 743, 744, 746] : List Nat).filterMap (fun i => lw_tbl[i]?) from by decide +kernel] at hw
  obtain ⟨i, -, hi⟩ := List.mem_filterMap.mp hw
  exact List.mem_of_getElem? hi
set_option maxRecDepth 20000 in
theorem wi_wsL_law_r34 : ∀ w ∈ wsL_law_r34, w ∈ lw_tbl := by
  intro w hw
  rw [show wsL_law_r34 = ([30, 747, 749, 750, 751, 752, 753, 754, 755, 756, 757, 758, 759, 760, 761, 1245, 1246, 1247, 1248, 1249, 1251, 72, 1252, 1253] : List Nat).filterMap (fun i => lw_tbl[i]?) from by decide +kernel] at hw
  obtain ⟨i, -, hi⟩ := List.mem_filterMap.mp hw
  exact List.mem_of_getElem? hi
set_option maxRecDepth 20000 in
theorem wi_wsL_law_r35 : ∀ w ∈ wsL_law_r35, w ∈ lw_tbl := by
  intro w hw
  rw [show wsL_law_r35 = ([1254, 1256, 73, 1257, 1258, 1260, 74, 1265, 1261, 1262, 1264, 75, 1266, 1268, 76, 1269, 1270, 762, 763, 764, 765, 766, 767, 768] : List Nat).filterMap (fun i => lw_tbl[i]?) from by decide +kernel] at hw
  obtain ⟨i, -, hi⟩ := List.mem_filterMap.mp hw
  exact List.mem_of_getElem? hi
set_option maxRecDepth 20000 in
theorem wi_wsL_law_r36 : ∀ w ∈ wsL_law_r36, w ∈ lw_tbl := by
  intro w hw
  rw [show wsL_law_r36 = ([769, 1271, 1272, 1273, 1274, 770, 771, 772, 773, 774, 775, 776, 777, 124, 778, 779, 781, 31, 782, 237, 783, 784, 785, 786] : List Nat).filterMap (fun i => lw_tbl[i]?) from by decide +kernel] at hw
  obtain ⟨i, -, hi⟩ := List.mem_filterMap.mp hw
  exact List.mem_of_getElem? hi
set_option maxRecDepth 20000 in
theorem wi_wsL_law_r37 : ∀ w ∈ wsL_law_r37, w ∈ lw_tbl := by
  intro w hw
  rw [show wsL_law_r37 = ([787, 1275, 1276, 1277, 1278, 1279, 1281, 77, 1282, 788, 789, 790, 791, 792, 793, 794, 795, 796, 798, 32, 799, 129, 800, 1283] : List Nat).filterMap (fun i => lw_tbl[i]?) from by decide +kernel] at hw
  obtain ⟨i, -, hi⟩ := List.mem_filterMap.mp hw
  exact List.mem_of_getElem? hi
set_option maxRecDepth 20000 in
theorem wi_wsL_law_r38 : ∀ w ∈ wsL_law_r38, w ∈ lw_tbl := by
  intro w hw
  rw [show wsL_law_r38 = ([1284, 1285, 1286, 801, 802, 803, 804, 805, 806, 807, 808, 809, 811, 33, 812, 215, 813, 814, 815, 816, 1287, 1288, 1289, 1290] : List Nat).filterMap (fun i => lw_tbl[i]?) from by decide +kernel] at hw
  obtain ⟨i, -, hi⟩ := List.mem_filterMap.mp hw
  exact List.mem_of_getElem? hi
set_option maxRecDepth 20000 in
theorem wi_wsL_law_r39 : ∀ w ∈ wsL_law_r39, w ∈ lw_tbl := by
  intro w hw
  rw [show wsL_law_r39 = ([1291, 1293, 78, 1294, 817, 818, 819, 820, 821, 823, 34, 824, 825, 826, 827, 828, 829, 830, 831, 832, 833, 834, 835, 836] : List Nat).filterMap (fun i => lw_tbl[i]?) from by decide +kernel] at hw
  obtain ⟨i, -, hi⟩ := List.mem_filterMap.mp hw
  exact List.mem_of_getElem? hi
set_option maxRecDepth 20000 in
theorem wi_wsL_law_r40 : ∀ w ∈ wsL_law_r40, w ∈ lw_tbl := by
  intro w hw
  rw [show wsL_law_r40 = ([837, 838, 839, 1295, 1296, 1297, 1298, 1299, 1300, 1301, 1302, 1303, 1304, 840, 841, 842, 843, 844, 845, 846, 847, 848, 849, 850] : List Nat).filterMap (fun i => lw_tbl[i]?) from by decide +kernel] at hw
  obtain ⟨i, -, hi⟩ := List.mem_filterMap.mp hw
  exact List.mem_of_getElem? hi
set_option maxRecDepth 20000 in
theorem wi_wsL_law_r41 : ∀ w ∈ wsL_law_r41, w ∈ lw_tbl := by
  intro w hw
  rw [show wsL_law_r41 = ([851, 104, 852, 181, 121, 853, 854, 855, 856, 857, 858, 859, 1305, 1306, 1307, 1308, 1309, 1311, 79, 1312, 951, 860, 861, 862] : List Nat).filterMap (fun i => lw_tbl[i]?) from by decide +kernel] at hw
  obtain ⟨i, -, hi⟩ := List.mem_filterMap.mp hw
  exact List.mem_of_getElem? hi
set_option maxRecDepth 20000 in
theorem wi_wsL_law_r42 : ∀ w ∈ wsL_law_r42, w ∈ lw_tbl := by
  intro w hw
  rw [show wsL_law_r42 = ([863, 1313, 1314, 1315, 1316, 864, 865, 866, 867, 868, 869, 870, 871, 872, 873, 874, 875, 876, 1317, 1318, 1319, 1320, 1321, 1323] : List Nat).filterMap (fun i => lw_tbl[i]?) from by decide +kernel] at hw
  obtain ⟨i, -, hi⟩ := List.mem_filterMap.mp hw
  exact List.mem_of_getElem? hi
set_option maxRecDepth 20000 in
theorem wi_wsL_law_r43 : ∀ w ∈ wsL_law_r43, w ∈ lw_tbl := by
  intro w hw
  rw [show wsL_law_r43 = ([80, 1324, 1325, 1327, 81, 1328, 1329, 1331, 82, 1332, 877, 878, 879, 880, 1333, 1334, 1335, 1336, 881, 882, 883, 884, 238, 885] : List Nat).filterMap (fun i => lw_tbl[i]?) from by decide +kernel] at hw
  obtain ⟨i, -, hi⟩ := List.mem_filterMap.mp hw
  exact List.mem_of_getElem? hi
set_option maxRecDepth 20000 in
theorem wi_wsL_law_r44 : ∀ w ∈ wsL_law_r44, w ∈ lw_tbl := by
  intro w hw
  rw [show wsL_law_r44 = ([886, 887, 888, 889, 890, 891, 892, 893, 894, 895, 896, 897, 898, 899, 900, 901, 902, 904, 903, 1337, 1338, 1339, 1340, 1341] : List Nat).filterMap (fun i => lw_tbl[i]?) from by decide +kernel] at hw
  obtain ⟨i, -, hi⟩ := List.mem_filterMap.mp hw
  exact List.mem_of_getElem? hi
set_option maxRecDepth 20000 in
theorem wi_wsL_law_r45 : ∀ w ∈ wsL_law_r45, w ∈ lw_tbl := by
  intro w hw
  rw [show wsL_law_r45 = ([1343, 83, 1344, 1345, 1347, 84, 1348, 1349, 1351, 85, 1352, 1353, 1355, 86, 1356, 905, 906, 907, 908, 909, 910, 911, 912, 913] : List Nat).filterMap (fun i => lw_tbl[i]?) from by decide +kernel] at hw
  obtain ⟨i, -, hi⟩ := List.mem_filterMap.mp hw
  exact List.mem_of_getElem? hi
set_option maxRecDepth 20000 in
theorem wi_wsL_law_r46 : ∀ w ∈ wsL_law_r46, w ∈ lw_tbl := by
  intro w hw
  rw [show wsL_law_r46 = ([915, 35, 916, 141, 917, 918, 919, 1357, 1358, 1359, 1360, 968, 1361, 1363, 87, 1364, 1365, 1367, 88, 1368, 1369, 1370, 1371, 920] : List Nat).filterMap (fun i => lw_tbl[i]?) from by decide +kernel] at hw
  obtain ⟨i, -, hi⟩ := List.mem_filterMap.mp hw
  exact List.mem_of_getElem? hi
set_option maxRecDepth 20000 in
theorem wi_wsL_law_r47 : ∀ w ∈ wsL_law_r47, w ∈ lw_tbl := by
  intro w hw
  rw [show wsL_law_r47 = ([921, 922, 923, 125, 924, 1372, 1373, 1374, 1375, 948, 925, 926, 927, 928, 1376, 1377, 1378, 1379, 929, 930, 931, 932, 933, 934] : List Nat).filterMap (fun i => lw_tbl[i]?) from by decide +kernel] at hw
  obtain ⟨i, -, hi⟩ := List.mem_filterMap.mp hw
  exact List.mem_of_getElem? hi
set_option maxRecDepth 20000 in
theorem wi_wsL_law_r48 : ∀ w ∈ wsL_law_r48, w ∈ lw_tbl := by
  intro w hw
  rw [show wsL_law_r48 = ([105, 935, 936, 937, 938, 1380, 1381, 1382, 1383, 1388, 1389, 1384, 1386, 89, 1387] : List Nat).filterMap (fun i => lw_tbl[i]?) from by decide +kernel] at hw
  obtain ⟨i, -, hi⟩ := List.mem_filterMap.mp hw
  exact List.mem_of_getElem? hi
set_option maxRecDepth 20000 in
theorem wi_wsX100 : ∀ w ∈ wsX100, w ∈ lw_tbl := by decide +kernel
set_option maxRecDepth 20000 in
theorem wi_wsX110 : ∀ w ∈ wsX110, w ∈ lw_tbl := by decide +kernel
set_option maxRecDepth 20000 in
theorem wi_wsX30 : ∀ w ∈ wsX30, w ∈ lw_tbl := by decide +kernel
set_option maxRecDepth 20000 in
theorem wi_wsX50 : ∀ w ∈ wsX50, w ∈ lw_tbl := by decide +kernel
set_option maxRecDepth 20000 in
theorem wi_wsX60 : ∀ w ∈ wsX60, w ∈ lw_tbl := by decide +kernel
set_option maxRecDepth 20000 in
theorem wi_wsX10 : ∀ w ∈ wsX10, w ∈ lw_tbl := by decide +kernel
set_option maxRecDepth 20000 in
theorem wi_wsX90 : ∀ w ∈ wsX90, w ∈ lw_tbl := by decide +kernel
set_option maxRecDepth 20000 in
theorem wi_wsX70 : ∀ w ∈ wsX70, w ∈ lw_tbl := by decide +kernel
set_option maxRecDepth 20000 in
theorem wi_wsX20 : ∀ w ∈ wsX20, w ∈ lw_tbl := by decide +kernel
set_option maxRecDepth 20000 in
theorem wi_wsX80 : ∀ w ∈ wsX80, w ∈ lw_tbl := by decide +kernel
theorem wsL_law_in : ∀ w ∈ wsL_law, w ∈ lw_tbl := by
  unfold wsL_law
  exact (List.forall_mem_append.mpr ⟨(List.forall_mem_append.mpr ⟨(List.forall_mem_append.mpr ⟨(List.forall_mem_append.mpr ⟨(List.forall_mem_append.mpr ⟨(List.forall_mem_append.mpr ⟨(List.forall_mem_append.mpr ⟨(List.forall_mem_append.mpr ⟨(List.forall_mem_append.mpr ⟨(List.forall_mem_append.mpr ⟨(List.forall_mem_append.mpr ⟨(List.forall_mem_append.mpr ⟨wi_wsL_law_r1, (List.forall_mem_append.mpr ⟨wi_wsL_law_r2, (List.forall_mem_append.mpr ⟨wi_wsL_law_r3, (List.forall_mem_append.mpr ⟨wi_wsL_law_r4, (List.forall_mem_append.mpr ⟨wi_wsL_law_r5, (List.forall_mem_append.mpr ⟨wi_wsL_law_r6, (List.forall_mem_append.mpr ⟨wi_wsL_law_r7, (List.forall_mem_append.mpr ⟨wi_wsL_law_r8, (List.forall_mem_append.mpr ⟨wi_wsL_law_r9, (List.forall_mem_append.mpr ⟨wi_wsL_law_r10, (List.forall_mem_append.mpr ⟨wi_wsL_law_r11, (List.forall_mem_append.mpr ⟨wi_wsL_law_r12, (List.forall_mem_append.mpr ⟨wi_wsL_law_r13, (List.forall_mem_append.mpr ⟨wi_wsL_law_r14, (List.forall_mem_append.mpr ⟨wi_wsL_law_r15, (List.forall_mem_append.mpr ⟨wi_wsL_law_r16, (List.forall_mem_append.mpr ⟨wi_wsL_law_r17, (List.forall_mem_append.mpr ⟨wi_wsL_law_r18, (List.forall_mem_append.mpr ⟨wi_wsL_law_r19, (List.forall_mem_append.mpr ⟨wi_wsL_law_r20, (List.forall_mem_append.mpr ⟨wi_wsL_law_r21, (List.forall_mem_append.mpr ⟨wi_wsL_law_r22, (List.forall_mem_append.mpr ⟨wi_wsL_law_r23, (List.forall_mem_append.mpr ⟨wi_wsL_law_r24, (List.forall_mem_append.mpr ⟨wi_wsL_law_r25, (List.forall_mem_append.mpr ⟨wi_wsL_law_r26, (List.forall_mem_append.mpr ⟨wi_wsL_law_r27, (List.forall_mem_append.mpr ⟨wi_wsL_law_r28, (List.forall_mem_append.mpr ⟨wi_wsL_law_r29, (List.forall_mem_append.mpr ⟨wi_wsL_law_r30, (List.forall_mem_append.mpr ⟨wi_wsL_law_r31, (List.forall_mem_append.mpr ⟨wi_wsL_law_r32, (List.forall_mem_append.mpr ⟨wi_wsL_law_r33, (List.forall_mem_append.mpr ⟨wi_wsL_law_r34, (List.forall_mem_append.mpr ⟨wi_wsL_law_r35, (List.forall_mem_append.mpr ⟨wi_wsL_law_r36, (List.forall_mem_append.mpr ⟨wi_wsL_law_r37, (List.forall_mem_append.mpr ⟨wi_wsL_law_r38, (List.forall_mem_append.mpr ⟨wi_wsL_law_r39, (List.forall_mem_append.mpr ⟨wi_wsL_law_r40, (List.forall_mem_append.mpr ⟨wi_wsL_law_r41, (List.forall_mem_append.mpr ⟨wi_wsL_law_r42, (List.forall_mem_append.mpr ⟨wi_wsL_law_r43, (List.forall_mem_append.mpr ⟨wi_wsL_law_r44, (List.forall_mem_append.mpr ⟨wi_wsL_law_r45, (List.forall_mem_append.mpr ⟨wi_wsL_law_r46, (List.forall_mem_append.mpr ⟨wi_wsL_law_r47, wi_wsL_law_r48⟩)⟩)⟩)⟩)⟩)⟩)⟩)⟩)⟩)⟩)⟩)⟩)⟩)⟩)⟩)⟩)⟩)⟩)⟩)⟩)⟩)⟩)⟩)⟩)⟩)⟩)⟩)⟩)⟩)⟩)⟩)⟩)⟩)⟩)⟩)⟩)⟩)⟩)⟩)⟩)⟩)⟩)⟩)⟩)⟩)⟩)⟩), wi_wsX100⟩), wi_wsX110⟩), wi_wsX30⟩), wi_wsX50⟩), wi_wsX60⟩), wi_wsX10⟩), wi_wsX90⟩), wi_wsX70⟩), wi_wsX20⟩), wi_wsX80⟩), (fun _ h => absurd h List.not_mem_nil)⟩)
theorem inX0 : ∀ w ∈ wsX00, w ∈ lw_tbl := by decide +kernel
theorem inlX1 : ∀ w ∈ wsX10, w ∈ wsL_law := fun _ h => List.mem_append_left _ (List.mem_append_left _ (List.mem_append_left _ (List.mem_append_left _ (List.mem_append_left _ (List.mem_append_right _ h)))))
theorem inX1 : ∀ w ∈ wsX10, w ∈ lw_tbl := fun w h => wsL_law_in w (inlX1 w h)
theorem inlX2 : ∀ w ∈ wsX20, w ∈ wsL_law := fun _ h => List.mem_append_left _ (List.mem_append_left _ (List.mem_append_right _ h))
theorem inX2 : ∀ w ∈ wsX20, w ∈ lw_tbl := fun w h => wsL_law_in w (inlX2 w h)
theorem inlX3 : ∀ w ∈ wsX30, w ∈ wsL_law := fun _ h => List.mem_append_left _ (List.mem_append_left _ (List.mem_append_left _ (List.mem_append_left _ (List.mem_append_left _ (List.mem_append_left _ (List.mem_append_left _ (List.mem_append_left _ (List.mem_append_right _ h))))))))
theorem inX3 : ∀ w ∈ wsX30, w ∈ lw_tbl := fun w h => wsL_law_in w (inlX3 w h)
theorem inX4 : ∀ w ∈ wsX40, w ∈ lw_tbl := by decide +kernel
theorem inlX5 : ∀ w ∈ wsX50, w ∈ wsL_law := fun _ h => List.mem_append_left _ (List.mem_append_left _ (List.mem_append_left _ (List.mem_append_left _ (List.mem_append_left _ (List.mem_append_left _ (List.mem_append_left _ (List.mem_append_right _ h)))))))
theorem inX5 : ∀ w ∈ wsX50, w ∈ lw_tbl := fun w h => wsL_law_in w (inlX5 w h)
theorem inlX6 : ∀ w ∈ wsX60, w ∈ wsL_law := fun _ h => List.mem_append_left _ (List.mem_append_left _ (List.mem_append_left _ (List.mem_append_left _ (List.mem_append_left _ (List.mem_append_left _ (List.mem_append_right _ h))))))
theorem inX6 : ∀ w ∈ wsX60, w ∈ lw_tbl := fun w h => wsL_law_in w (inlX6 w h)
theorem inlX7 : ∀ w ∈ wsX70, w ∈ wsL_law := fun _ h => List.mem_append_left _ (List.mem_append_left _ (List.mem_append_left _ (List.mem_append_right _ h)))
theorem inX7 : ∀ w ∈ wsX70, w ∈ lw_tbl := fun w h => wsL_law_in w (inlX7 w h)
theorem inlX8 : ∀ w ∈ wsX80, w ∈ wsL_law := fun _ h => List.mem_append_left _ (List.mem_append_right _ h)
theorem inX8 : ∀ w ∈ wsX80, w ∈ lw_tbl := fun w h => wsL_law_in w (inlX8 w h)
theorem inlX9 : ∀ w ∈ wsX90, w ∈ wsL_law := fun _ h => List.mem_append_left _ (List.mem_append_left _ (List.mem_append_left _ (List.mem_append_left _ (List.mem_append_right _ h))))
theorem inX9 : ∀ w ∈ wsX90, w ∈ lw_tbl := fun w h => wsL_law_in w (inlX9 w h)
theorem inlX10 : ∀ w ∈ wsX100, w ∈ wsL_law := fun _ h => List.mem_append_left _ (List.mem_append_left _ (List.mem_append_left _ (List.mem_append_left _ (List.mem_append_left _ (List.mem_append_left _ (List.mem_append_left _ (List.mem_append_left _ (List.mem_append_left _ (List.mem_append_left _ (List.mem_append_right _ h))))))))))
theorem inX10 : ∀ w ∈ wsX100, w ∈ lw_tbl := fun w h => wsL_law_in w (inlX10 w h)
theorem inlX11 : ∀ w ∈ wsX110, w ∈ wsL_law := fun _ h => List.mem_append_left _ (List.mem_append_left _ (List.mem_append_left _ (List.mem_append_left _ (List.mem_append_left _ (List.mem_append_left _ (List.mem_append_left _ (List.mem_append_left _ (List.mem_append_left _ (List.mem_append_right _ h)))))))))
theorem inX11 : ∀ w ∈ wsX110, w ∈ lw_tbl := fun w h => wsL_law_in w (inlX11 w h)
theorem inJ6 : ∀ w ∈ wsJ60, w ∈ lw_tbl := by decide +kernel
theorem inJ13 : ∀ w ∈ wsJ130, w ∈ lw_tbl := by decide +kernel
theorem inJ9 : ∀ w ∈ wsJ90, w ∈ lw_tbl := by decide +kernel
