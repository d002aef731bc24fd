set_option maxRecDepth 20000 in
theorem wi_wsL_law_r1 : ∀ w ∈ wsL_law_r1, w ∈ lw_tbl := by
  intro w hw
  rw [show wsL_law_r1 = ([107, 108, 92, 944, 945, 102, 109, 110, 111, 112, 113, 114, 115, 116, 93, 317, 318, 165, 166, 94, 319, 201, 172, 95] : List Nat).filterMap (fun i => lw_tbl[i]?) from by decide +kernel] at hw
  obtain ⟨i, -, hi⟩ := List.mem_filterMap.mp hw
  exact List.mem_of_getElem? hi
set_option maxRecDepth 20000 in
theorem wi_wsL_law_r2 : ∀ w ∈ wsL_law_r2, w ∈ lw_tbl := by
  intro w hw
  rw [show wsL_law_r2 = ([320, 203, 204, 97, 321, 231, 232, 98, 322, 253, 254, 99, 323, 279, 280, 100, 324, 295, 296, 101, 325, 190, 326, 327] : List Nat).filterMap (fun i => lw_tbl[i]?) from by decide +kernel] at hw
  obtain ⟨i, -, hi⟩ := List.mem_filterMap.mp hw
  exact List.mem_of_getElem? hi
set_option maxRecDepth 20000 in
theorem wi_wsL_law_r3 : ∀ w ∈ wsL_law_r3, w ∈ lw_tbl := by
  intro w hw
  rw [show wsL_law_r3 = ([118, 119, 120, 121, 127, 132, 136, 137, 138, 139, 144, 168, 169, 170, 171, 193, 191, 195, 173, 174, 175, 176, 181, 177] : List Nat).filterMap (fun i => lw_tbl[i]?) from by decide +kernel] at hw
  obtain ⟨i, -, hi⟩ := List.mem_filterMap.mp hw
  exact List.mem_of_getElem? hi
set_option maxRecDepth 20000 in
theorem wi_wsL_law_r4 : ∀ w ∈ wsL_law_r4, w ∈ lw_tbl := by
  intro w hw
  rw [show wsL_law_r4 = ([178, 96, 179, 180, 202, 206, 207, 208, 209, 211, 213, 218, 234, 235, 236, 237, 240, 241, 243, 256, 257, 258, 278, 259] : List Nat).filterMap (fun i => lw_tbl[i]?) from by decide +kernel] at hw
  obtain ⟨i, -, hi⟩ := List.mem_filterMap.mp hw
  exact List.mem_of_getElem? hi
set_option maxRecDepth 20000 in
theorem wi_wsL_law_r5 : ∀ w ∈ wsL_law_r5, w ∈ lw_tbl := by
  intro w hw
  rw [show wsL_law_r5 = ([260, 261, 262, 263, 264, 282, 283, 284, 285, 286, 287, 298, 299, 300, 301, 307, 303, 308, 305, 309, 946, 947, 948, 949] : List Nat).filterMap (fun i => lw_tbl[i]?) from by decide +kernel] at hw
  obtain ⟨i, -, hi⟩ := List.mem_filterMap.mp hw
  exact List.mem_of_getElem? hi
set_option maxRecDepth 20000 in
theorem wi_wsL_law_r6 : ∀ w ∈ wsL_law_r6, w ∈ lw_tbl := by
  intro w hw
  rw [show wsL_law_r6 = ([950, 951, 952, 954, 955, 957, 959, 960, 961, 962, 965, 967, 968, 971, 1023, 972, 351, 352, 353, 354, 194, 355, 357, 0] : List Nat).filterMap (fun i => lw_tbl[i]?) from by decide +kernel] at hw
  obtain ⟨i, -, hi⟩ := List.mem_filterMap.mp hw
  exact List.mem_of_getElem? hi
set_option maxRecDepth 20000 in
theorem wi_wsL_law_r7 : ∀ w ∈ wsL_law_r7, w ∈ lw_tbl := by
  intro w hw
  rw [show wsL_law_r7 = ([358, 359, 360, 361, 362, 363, 364, 365, 366, 1024, 1025, 1026, 1027, 1028, 958, 1029, 1030, 1031, 1032, 1034, 37, 1035, 367, 368] : List Nat).filterMap (fun i => lw_tbl[i]?) from by decide +kernel] at hw
  obtain ⟨i, -, hi⟩ := List.mem_filterMap.mp hw
  exact List.mem_of_getElem? hi
set_option maxRecDepth 20000 in
theorem wi_wsL_law_r8 : ∀ w ∈ wsL_law_r8, w ∈ lw_tbl := by
  intro w hw
  rw [show wsL_law_r8 = ([369, 370, 184, 371, 372, 373, 374, 375, 377, 1, 378, 183, 379, 380, 381, 382, 383, 384, 385, 386, 387, 388, 389, 390] : List Nat).filterMap (fun i => lw_tbl[i]?) from by decide +kernel] at hw
  obtain ⟨i, -, hi⟩ := List.mem_filterMap.mp hw
  exact List.mem_of_getElem? hi
set_option maxRecDepth 20000 in
theorem wi_wsL_law_r9 : ∀ w ∈ wsL_law_r9, w ∈ lw_tbl := by
  intro w hw
  rw [show wsL_law_r9 = ([391, 392, 393, 394, 395, 396, 397, 398, 399, 400, 401, 403, 2, 404, 405, 406, 407, 408, 409, 411, 3, 412, 413, 415] : List Nat).filterMap (fun i => lw_tbl[i]?) from by decide +kernel] at hw
  obtain ⟨i, -, hi⟩ := List.mem_filterMap.mp hw
  exact List.mem_of_getElem? hi
set_option maxRecDepth 20000 in
theorem wi_wsL_law_r10 : ∀ w ∈ wsL_law_r10, w ∈ lw_tbl := by
  intro w hw
  rw [show wsL_law_r10 = ([4, 416, 417, 419, 5, 420, 422, 423, 424, 425, 426, 427, 428, 429, 430, 431, 432, 433, 103, 434, 435, 436, 437, 439] : List Nat).filterMap (fun i => lw_tbl[i]?) from by decide +kernel] at hw
  obtain ⟨i, -, hi⟩ := List.mem_filterMap.mp hw
  exact List.mem_of_getElem? hi
set_option maxRecDepth 20000 in
theorem wi_wsL_law_r11 : ∀ w ∈ wsL_law_r11, w ∈ lw_tbl := by
  intro w hw
  rw [show wsL_law_r11 = ([6, 440, 135, 441, 443, 7, 444, 445, 446, 447, 448, 449, 451, 8, 452, 453, 454, 455, 456, 457, 458, 459, 460, 461] : List Nat).filterMap (fun i => lw_tbl[i]?) from by decide +kernel] at hw
  obtain ⟨i, -, hi⟩ := List.mem_filterMap.mp hw
  exact List.mem_of_getElem? hi
set_option maxRecDepth 20000 in
theorem wi_wsL_law_r12 : ∀ w ∈ wsL_law_r12, w ∈ lw_tbl := by
  intro w hw
  rw [show wsL_law_r12 = ([463, 9, 464, 465, 467, 10, 468, 143, 147, 469, 470, 471, 1036, 1037, 1038, 1039, 1040, 1042, 38, 1043, 969, 970, 1044, 1046] : List Nat).filterMap (fun i => lw_tbl[i]?) from by decide +kernel] at hw
  obtain ⟨i, -, hi⟩ := List.mem_filterMap.mp hw
  exact List.mem_of_getElem? hi
set_option maxRecDepth 20000 in
theorem wi_wsL_law_r13 : ∀ w ∈ wsL_law_r13, w ∈ lw_tbl := by
  intro w hw
  rw [show wsL_law_r13 = ([39, 1047, 1052, 1053, 1048, 1050, 40, 1051, 1054, 1056, 41, 1057, 1058, 1060, 42, 1061, 1062, 1063, 1064, 1066, 43, 1067, 1068, 1069] : List Nat).filterMap (fun i => lw_tbl[i]?) from by decide +kernel] at hw
  obtain ⟨i, -, hi⟩ := List.mem_filterMap.mp hw
  exact List.mem_of_getElem? hi
set_option maxRecDepth 20000 in
theorem wi_wsL_law_r14 : ∀ w ∈ wsL_law_r14, w ∈ lw_tbl := by
  intro w hw
  rw [show wsL_law_r14 = ([1070, 1071, 1072, 1073, 1074, 1076, 44, 1077, 1078, 1079, 1080, 1081, 1083, 45, 1084, 1085, 1087, 46, 1088, 1089, 1091, 47, 1092, 1093] : List Nat).filterMap (fun i => lw_tbl[i]?) from by decide +kernel] at hw
  obtain ⟨i, -, hi⟩ := List.mem_filterMap.mp hw
  exact List.mem_of_getElem? hi
set_option maxRecDepth 20000 in
theorem wi_wsL_law_r15 : ∀ w ∈ wsL_law_r15, w ∈ lw_tbl := by
  intro w hw
  rw [show wsL_law_r15 = ([1095, 48, 1096, 1097, 1099, 49, 1100, 1101, 1103, 50, 1104, 1105, 1107, 51, 1108, 1109, 1111, 52, 1112, 472, 473, 474, 475, 476] : List Nat).filterMap (fun i => lw_tbl[i]?) from by decide +kernel] at hw
  obtain ⟨i, -, hi⟩ := List.mem_filterMap.mp hw
  exact List.mem_of_getElem? hi
set_option maxRecDepth 20000 in
theorem wi_wsL_law_r16 : ∀ w ∈ wsL_law_r16, w ∈ lw_tbl := by
  intro w hw
  rw [show wsL_law_r16 = ([477, 478, 1113, 1114, 1115, 1116, 1117, 479, 480, 481, 482, 483, 484, 485, 486, 487, 488, 489, 490, 491, 492, 1118, 1119, 1120] : List Nat).filterMap (fun i => lw_tbl[i]?) from by decide +kernel] at hw
  obtain ⟨i, -, hi⟩ := List.mem_filterMap.mp hw
  exact List.mem_of_getElem? hi
set_option maxRecDepth 20000 in
theorem wi_wsL_law_r17 : ∀ w ∈ wsL_law_r17, w ∈ lw_tbl := by
  intro w hw
  rw [show wsL_law_r17 = ([1121, 493, 494, 495, 496, 497, 498, 499, 500, 501, 502, 503, 504, 505, 506, 507, 508, 1122, 1123, 1124, 1125, 1126, 509, 510] : List Nat).filterMap (fun i => lw_tbl[i]?) from by decide +kernel] at hw
  obtain ⟨i, -, hi⟩ := List.mem_filterMap.mp hw
  exact List.mem_of_getElem? hi
set_option maxRecDepth 20000 in
theorem wi_wsL_law_r18 : ∀ w ∈ wsL_law_r18, w ∈ lw_tbl := by
  intro w hw
  rw [show wsL_law_r18 = ([511, 512, 141, 513, 514, 515, 516, 517, 518, 519, 520, 521, 1127, 1128, 1129, 1130, 1131, 1133, 53, 1134, 522, 523, 524, 525] : List Nat).filterMap (fun i => lw_tbl[i]?) from by decide +kernel] at hw
  obtain ⟨i, -, hi⟩ := List.mem_filterMap.mp hw
  exact List.mem_of_getElem? hi
set_option maxRecDepth 20000 in
theorem wi_wsL_law_r19 : ∀ w ∈ wsL_law_r19, w ∈ lw_tbl := by
  intro w hw
  rw [show wsL_law_r19 = ([146, 526, 527, 528, 529, 1135, 1136, 1137, 1138, 530, 531, 532, 533, 134, 1139, 1140, 1141, 1142, 1143, 534, 535, 536, 537, 210] : List Nat).filterMap (fun i => lw_tbl[i]?) from by decide +kernel] at hw
  obtain ⟨i, -, hi⟩ := List.mem_filterMap.mp hw
  exact List.mem_of_getElem? hi
set_option maxRecDepth 20000 in
theorem wi_wsL_law_r20 : ∀ w ∈ wsL_law_r20, w ∈ lw_tbl := by
  intro w hw
  rw [show wsL_law_r20 = ([212, 217, 221, 538, 539, 540, 541, 145, 128, 133, 542, 543, 544, 124, 140, 545, 546, 547, 548, 549, 550, 551, 552, 553] : List Nat).filterMap (fun i => lw_tbl[i]?) from by decide +kernel] at hw
  obtain ⟨i, -, hi⟩ := List.mem_filterMap.mp hw
  exact List.mem_of_getElem? hi
set_option maxRecDepth 20000 in
theorem wi_wsL_law_r21 : ∀ w ∈ wsL_law_r21, w ∈ lw_tbl := by
  intro w hw
  rw [show wsL_law_r21 = ([554, 555, 556, 557, 558, 559, 560, 561, 562, 563, 564, 565, 566, 567, 568, 569, 570, 571, 572, 573, 574, 575, 1144, 1145] : List Nat).filterMap (fun i => lw_tbl[i]?) from by decide +kernel] at hw
  obtain ⟨i, -, hi⟩ := List.mem_filterMap.mp hw
  exact List.mem_of_getElem? hi
set_option maxRecDepth 20000 in
theorem wi_wsL_law_r22 : ∀ w ∈ wsL_law_r22, w ∈ lw_tbl := by
  intro w hw
  rw [show wsL_law_r22 = ([1146, 1147, 1148, 1150, 54, 1151, 1152, 1154, 55, 1155, 1156, 1157, 1158, 1159, 1161, 56, 1162, 1163, 1165, 57, 1166, 576, 577, 578] : List Nat).filterMap (fun i => lw_tbl[i]?) from by decide +kernel] at hw
  obtain ⟨i, -, hi⟩ := List.mem_filterMap.mp hw
  exact List.mem_of_getElem? hi
set_option maxRecDepth 20000 in
theorem wi_wsL_law_r23 : ∀ w ∈ wsL_law_r23, w ∈ lw_tbl := by
  intro w hw
  rw [show wsL_law_r23 = ([579, 580, 582, 11, 583, 584, 585, 586, 587, 123, 220, 215, 588, 590, 12, 591, 129, 592, 593, 594, 595, 596, 597, 598] : List Nat).filterMap (fun i => lw_tbl[i]?) from by decide +kernel] at hw
  obtain ⟨i, -, hi⟩ := List.mem_filterMap.mp hw
  exact List.mem_of_getElem? hi
set_option maxRecDepth 20000 in
theorem wi_wsL_law_r24 : ∀ w ∈ wsL_law_r24, w ∈ lw_tbl := by
  intro w hw
  rw [show wsL_law_r24 = ([599, 600, 1167, 1168, 1169, 1170, 1171, 1173, 58, 1174, 963, 964, 966, 1175, 1177, 59, 1178, 1179, 1181, 60, 1182, 601, 602, 603] : List Nat).filterMap (fun i => lw_tbl[i]?) from by decide +kernel] at hw
  obtain ⟨i, -, hi⟩ := List.mem_filterMap.mp hw
  exact List.mem_of_getElem? hi
set_option maxRecDepth 20000 in
theorem wi_wsL_law_r25 : ∀ w ∈ wsL_law_r25, w ∈ lw_tbl := by
  intro w hw
  rw [show wsL_law_r25 = ([604, 242, 605, 606, 607, 608, 1183, 1184, 1185, 1186, 609, 610, 611, 612, 131, 613, 614, 615, 616, 617, 618, 619, 214, 219] : List Nat).filterMap (fun i => lw_tbl[i]?) from by decide +kernel] at hw
  obtain ⟨i, -, hi⟩ := List.mem_filterMap.mp hw
  exact List.mem_of_getElem? hi
set_option maxRecDepth 20000 in
theorem wi_wsL_law_r26 : ∀ w ∈ wsL_law_r26, w ∈ lw_tbl := by
  intro w hw
  rw [show wsL_law_r26 = ([620, 622, 13, 623, 624, 626, 14, 627, 628, 629, 631, 15, 632, 633, 635, 16, 636, 637, 639, 17, 640, 641, 642, 643] : List Nat).filterMap (fun i => lw_tbl[i]?) from by decide +kernel] at hw
  obtain ⟨i, -, hi⟩ := List.mem_filterMap.mp hw
  exact List.mem_of_getElem? hi
set_option maxRecDepth 20000 in
theorem wi_wsL_law_r27 : ∀ w ∈ wsL_law_r27, w ∈ lw_tbl := by
  intro w hw
  rw [show wsL_law_r27 = ([644, 645, 647, 18, 648, 649, 651, 19, 652, 653, 655, 20, 656, 657, 659, 21, 660, 661, 663, 22, 664, 665, 667, 23] : List Nat).filterMap (fun i => lw_tbl[i]?) from by decide +kernel] at hw
  obtain ⟨i, -, hi⟩ := List.mem_filterMap.mp hw
  exact List.mem_of_getElem? hi
set_option maxRecDepth 20000 in
theorem wi_wsL_law_r28 : ∀ w ∈ wsL_law_r28, w ∈ lw_tbl := by
  intro w hw
  rw [show wsL_law_r28 = ([668, 669, 670, 671, 672, 673, 674, 675, 676, 677, 678, 104, 679, 680, 681, 682, 1187, 1188, 1189, 1190, 1191, 1193, 61, 1194] : List Nat).filterMap (fun i => lw_tbl[i]?) from by decide +kernel] at hw
  obtain ⟨i, -, hi⟩ := List.mem_filterMap.mp hw
  exact List.mem_of_getElem? hi
set_option maxRecDepth 20000 in
theorem wi_wsL_law_r29 : ∀ w ∈ wsL_law_r29, w ∈ lw_tbl := by
  intro w hw
  rw [show wsL_law_r29 = ([1195, 1197, 62, 1198, 1199, 1201, 63, 1202, 1203, 1205, 64, 1206, 1207, 1209, 65, 1210, 1211, 1213, 66, 1214, 1215, 1217, 67, 1218] : List Nat).filterMap (fun i => lw_tbl[i]?) from by decide +kernel] at hw
  obtain ⟨i, -, hi⟩ := List.mem_filterMap.mp hw
  exact List.mem_of_getElem? hi
set_option maxRecDepth 20000 in
theorem wi_wsL_law_r30 : ∀ w ∈ wsL_law_r30, w ∈ lw_tbl := by
  intro w hw
  rw [show wsL_law_r30 = ([1219, 1221, 68, 1222, 1223, 1225, 69, 1226, 1227, 1229, 70, 1230, 1231, 1233, 71, 1234, 1235, 1237, 72, 1238, 1239, 1240, 1241, 683] : List Nat).filterMap (fun i => lw_tbl[i]?) from by decide +kernel] at hw
  obtain ⟨i, -, hi⟩ := List.mem_filterMap.mp hw
  exact List.mem_of_getElem? hi
set_option maxRecDepth 20000 in
theorem wi_wsL_law_r31 : ∀ w ∈ wsL_law_r31, w ∈ lw_tbl := by
  intro w hw
  rw [show wsL_law_r31 = ([684, 685, 686, 687, 688, 689, 690, 691, 692, 693, 694, 1242, 1243, 1244, 1245, 695, 696, 697, 698, 699, 700, 701, 702, 703] : List Nat).filterMap (fun i => lw_tbl[i]?) from by decide +kernel] at hw
  obtain ⟨i, -, hi⟩ := List.mem_filterMap.mp hw
  exact List.mem_of_getElem? hi
set_option maxRecDepth 20000 in
theorem wi_wsL_law_r32 : ∀ w ∈ wsL_law_r32, w ∈ lw_tbl := by
  intro w hw
  rw [show wsL_law_r32 = ([704, 705, 706, 1246, 1247, 1248, 1249, 707, 708, 709, 710, 711, 712, 713, 714, 715, 716, 718, 24, 719, 720, 721, 722, 723] : List Nat).filterMap (fun i => lw_tbl[i]?) from by decide +kernel] at hw
  obtain ⟨i, -, hi⟩ := List.mem_filterMap.mp hw
  exact List.mem_of_getElem? hi
set_option maxRecDepth 20000 in
theorem wi_wsL_law_r33 : ∀ w ∈ wsL_law_r33, w ∈ lw_tbl := by
  intro w hw
  rw [show wsL_law_r33 = ([725, 25, 726, 736, 727, 728, 730, 26, 731, 732, 734, 27, 735, 737, 739, 28, 740, 749, 741, 743, 29, 744, 745, 747] : List Nat).filterMap (fun i => lw_tbl[i]?) from by decide +kernel] at hw
  obtain ⟨i, -, hi⟩ := List.mem_filterMap.mp hw
  exact List.mem_of_getElem? hi
set_option maxRecDepth 20000 in
theorem wi_wsL_law_r34 : ∀ w ∈ wsL_law_r34, w ∈ lw_tbl := by
  intro w hw
  rw [show wsL_law_r34 = ([30, 748, 750, 751, 752, 753, 754, 755, 756, 757, 758, 759, 760, 761, 762, 1250, 1251, 1252, 1253, 1254, 1256, 73, 1257, 1258] : List Nat).filterMap (fun i => lw_tbl[i]?) from by decide +kernel] at hw
  obtain ⟨i, -, hi⟩ := List.mem_filterMap.mp hw
  exact List.mem_of_getElem? hi
set_option maxRecDepth 20000 in
theorem wi_wsL_law_r35 : ∀ w ∈ wsL_law_r35, w ∈ lw_tbl := by
  intro w hw
  rw [show wsL_law_r35 = ([1259, 1261, 74, 1262, 1263, 1265, 75, 1270, 1266, 1267, 1269, 76, 1271, 1273, 77, 1274, 1275, 763, 764, 765, 766, 767, 768, 769] : List Nat).filterMap (fun i => lw_tbl[i]?) from by decide +kernel] at hw
  obtain ⟨i, -, hi⟩ := List.mem_filterMap.mp hw
  exact List.mem_of_getElem? hi
set_option maxRecDepth 20000 in
theorem wi_wsL_law_r36 : ∀ w ∈ wsL_law_r36, w ∈ lw_tbl := by
  intro w hw
  rw [show wsL_law_r36 = ([770, 1276, 1277, 1278, 1279, 771, 772, 773, 774, 775, 776, 777, 778, 125, 779, 780, 782, 31, 783, 238, 784, 785, 786, 787] : List Nat).filterMap (fun i => lw_tbl[i]?) from by decide +kernel] at hw
  obtain ⟨i, -, hi⟩ := List.mem_filterMap.mp hw
  exact List.mem_of_getElem? hi
set_option maxRecDepth 20000 in
theorem wi_wsL_law_r37 : ∀ w ∈ wsL_law_r37, w ∈ lw_tbl := by
  intro w hw
  rw [show wsL_law_r37 = ([788, 1280, 1281, 1282, 1283, 1284, 1286, 78, 1287, 789, 790, 791, 792, 793, 794, 795, 796, 797, 799, 32, 800, 130, 801, 1288] : List Nat).filterMap (fun i => lw_tbl[i]?) from by decide +kernel] at hw
  obtain ⟨i, -, hi⟩ := List.mem_filterMap.mp hw
  exact List.mem_of_getElem? hi
set_option maxRecDepth 20000 in
theorem wi_wsL_law_r38 : ∀ w ∈ wsL_law_r38, w ∈ lw_tbl := by
  intro w hw
  rw [show wsL_law_r38 = ([1289, 1290, 1291, 802, 803, 804, 805, 806, 807, 808, 809, 810, 812, 33, 813, 216, 814, 815, 816, 817, 1292, 1293, 1294, 1295] : List Nat).filterMap (fun i => lw_tbl[i]?) from by decide +kernel] at hw
  obtain ⟨i, -, hi⟩ := List.mem_filterMap.mp hw
  exact List.mem_of_getElem? hi
set_option maxRecDepth 20000 in
theorem wi_wsL_law_r39 : ∀ w ∈ wsL_law_r39, w ∈ lw_tbl := by
  intro w hw
  rw [show wsL_law_r39 = ([1296, 1298, 79, 1299, 818, 819, 820, 821, 822, 824, 34, 825, 826, 827, 828, 829, 830, 831, 832, 833, 834, 835, 836, 837] : List Nat).filterMap (fun i => lw_tbl[i]?) from by decide +kernel] at hw
  obtain ⟨i, -, hi⟩ := List.mem_filterMap.mp hw
  exact List.mem_of_getElem? hi
set_option maxRecDepth 20000 in
theorem wi_wsL_law_r40 : ∀ w ∈ wsL_law_r40, w ∈ lw_tbl := by
  intro w hw
  rw [show wsL_law_r40 = ([838, 839, 840, 1300, 1301, 1302, 1303, 1304, 1305, 1306, 1307, 1308, 1309, 841, 842, 843, 844, 845, 846, 847, 848, 849, 850, 851] : List Nat).filterMap (fun i => lw_tbl[i]?) from by decide +kernel] at hw
  obtain ⟨i, -, hi⟩ := List.mem_filterMap.mp hw
  exact List.mem_of_getElem? hi
set_option maxRecDepth 20000 in
theorem wi_wsL_law_r41 : ∀ w ∈ wsL_law_r41, w ∈ lw_tbl := by
  intro w hw
  rw [show wsL_law_r41 = ([852, 105, 853, 182, 122, 854, 855, 856, 857, 858, 859, 860, 1310, 1311, 1312, 1313, 1314, 1316, 80, 1317, 956, 861, 862, 863] : List Nat).filterMap (fun i => lw_tbl[i]?) from by decide +kernel] at hw
  obtain ⟨i, -, hi⟩ := List.mem_filterMap.mp hw
  exact List.mem_of_getElem? hi
set_option maxRecDepth 20000 in
theorem wi_wsL_law_r42 : ∀ w ∈ wsL_law_r42, w ∈ lw_tbl := by
  intro w hw
  rw [show wsL_law_r42 = ([864, 1318, 1319, 1320, 1321, 865, 866, 867, 868, 869, 870, 871, 872, 873, 874, 875, 876, 877, 1322, 1323, 1324, 1325, 1326, 1328] : List Nat).filterMap (fun i => lw_tbl[i]?) from by decide +kernel] at hw
  obtain ⟨i, -, hi⟩ := List.mem_filterMap.mp hw
  exact List.mem_of_getElem? hi
set_option maxRecDepth 20000 in
theorem wi_wsL_law_r43 : ∀ w ∈ wsL_law_r43, w ∈ lw_tbl := by
  intro w hw
  rw [show wsL_law_r43 = ([81, 1329, 1330, 1332, 82, 1333, 1334, 1336, 83, 1337, 878, 879, 880, 881, 1338, 1339, 1340, 1341, 882, 883, 884, 885, 239, 886] : List Nat).filterMap (fun i => lw_tbl[i]?) from by decide +kernel] at hw
  obtain ⟨i, -, hi⟩ := List.mem_filterMap.mp hw
  exact List.mem_of_getElem? hi
set_option maxRecDepth 20000 in
theorem wi_wsL_law_r44 : ∀ w ∈ wsL_law_r44, w ∈ lw_tbl := by
  intro w hw
  rw [show wsL_law_r44 = ([887, 888, 889, 890, 891, 892, 893, 894, 895, 896, 897, 898, 899, 900, 901, 902, 903, 905, 904, 1342, 1343, 1344, 1345, 1346] : List Nat).filterMap (fun i => lw_tbl[i]?) from by decide +kernel] at hw
  obtain ⟨i, -, hi⟩ := List.mem_filterMap.mp hw
  exact List.mem_of_getElem? hi
set_option maxRecDepth 20000 in
theorem wi_wsL_law_r45 : ∀ w ∈ wsL_law_r45, w ∈ lw_tbl := by
  intro w hw
  rw [show wsL_law_r45 = ([1348, 84, 1349, 1350, 1352, 85, 1353, 1354, 1356, 86, 1357, 1358, 1360, 87, 1361, 906, 907, 908, 909, 910, 911, 912, 913, 914] : List Nat).filterMap (fun i => lw_tbl[i]?) from by decide +kernel] at hw
  obtain ⟨i, -, hi⟩ := List.mem_filterMap.mp hw
  exact List.mem_of_getElem? hi
set_option maxRecDepth 20000 in
theorem wi_wsL_law_r46 : ∀ w ∈ wsL_law_r46, w ∈ lw_tbl := by
  intro w hw
  rw [show wsL_law_r46 = ([916, 35, 917, 142, 918, 919, 920, 1362, 1363, 1364, 1365, 973, 1366, 1368, 88, 1369, 1370, 1372, 89, 1373, 1374, 1375, 1376, 921] : List Nat).filterMap (fun i => lw_tbl[i]?) from by decide +kernel] at hw
  obtain ⟨i, -, hi⟩ := List.mem_filterMap.mp hw
  exact List.mem_of_getElem? hi
set_option maxRecDepth 20000 in
theorem wi_wsL_law_r47 : ∀ w ∈ wsL_law_r47, w ∈ lw_tbl := by
  intro w hw
  rw [show wsL_law_r47 = ([922, 923, 924, 126, 925, 1377, 1378, 1379, 1380, 953, 926, 927, 928, 929, 1381, 1382, 1383, 1384, 930, 931, 932, 933, 934, 935] : List Nat).filterMap (fun i => lw_tbl[i]?) from by decide +kernel] at hw
  obtain ⟨i, -, hi⟩ := List.mem_filterMap.mp hw
  exact List.mem_of_getElem? hi
set_option maxRecDepth 20000 in
theorem wi_wsL_law_r48 : ∀ w ∈ wsL_law_r48, w ∈ lw_tbl := by
  intro w hw
  rw [show wsL_law_r48 = ([106, 936, 937, 938, 939, 940, 942, 36, 943, 1385, 1386, 1387, 1388, 1393, 1394, 1389, 1391, 90, 1392] : List Nat).filterMap (fun i => lw_tbl[i]?) from by decide +kernel] at hw
  obtain ⟨i, -, hi⟩ := List.mem_filterMap.mp hw
  exact List.mem_of_getElem? hi
set_option maxRecDepth 20000 in
theorem wi_wsX100 : ∀ w ∈ wsX100, w ∈ lw_tbl := by decide +kernel
set_option maxRecDepth 20000 in
theorem wi_wsX110 : ∀ w ∈ wsX110, w ∈ lw_tbl := by decide +kernel
set_option maxRecDepth 20000 in
theorem wi_wsX30 : ∀ w ∈ wsX30, w ∈ lw_tbl := by decide +kernel
set_option maxRecDepth 20000 in
theorem wi_wsX50 : ∀ w ∈ wsX50, w ∈ lw_tbl := by decide +kernel
set_option maxRecDepth 20000 in
theorem wi_wsX60 : ∀ w ∈ wsX60, w ∈ lw_tbl := by decide +kernel
set_option maxRecDepth 20000 in
theorem wi_wsX10 : ∀ w ∈ wsX10, w ∈ lw_tbl := by decide +kernel
set_option maxRecDepth 20000 in
theorem wi_wsX90 : ∀ w ∈ wsX90, w ∈ lw_tbl := by decide +kernel
set_option maxRecDepth 20000 in
theorem wi_wsX70 : ∀ w ∈ wsX70, w ∈ lw_tbl := by decide +kernel
set_option maxRecDepth 20000 in
theorem wi_wsX20 : ∀ w ∈ wsX20, w ∈ lw_tbl := by decide +kernel
set_option maxRecDepth 20000 in
theorem wi_wsX80 : ∀ w ∈ wsX80, w ∈ lw_tbl := by decide +kernel
theorem wsL_law_in : ∀ w ∈ wsL_law, w ∈ lw_tbl := by
  unfold wsL_law
  exact (List.forall_mem_append.mpr ⟨(List.forall_mem_append.mpr ⟨(List.forall_mem_append.mpr ⟨(List.forall_mem_append.mpr ⟨(List.forall_mem_append.mpr ⟨(List.forall_mem_append.mpr ⟨(List.forall_mem_append.mpr ⟨(List.forall_mem_append.mpr ⟨(List.forall_mem_append.mpr ⟨(List.forall_mem_append.mpr ⟨(List.forall_mem_append.mpr ⟨(List.forall_mem_append.mpr ⟨wi_wsL_law_r1, (List.forall_mem_append.mpr ⟨wi_wsL_law_r2, (List.forall_mem_append.mpr ⟨wi_wsL_law_r3, (List.forall_mem_append.mpr ⟨wi_wsL_law_r4, (List.forall_mem_append.mpr ⟨wi_wsL_law_r5, (List.forall_mem_append.mpr ⟨wi_wsL_law_r6, (List.forall_mem_append.mpr ⟨wi_wsL_law_r7, (List.forall_mem_append.mpr ⟨wi_wsL_law_r8, (List.forall_mem_append.mpr ⟨wi_wsL_law_r9, (List.forall_mem_append.mpr ⟨wi_wsL_law_r10, (List.forall_mem_append.mpr ⟨wi_wsL_law_r11, (List.forall_mem_append.mpr ⟨wi_wsL_law_r12, (List.forall_mem_append.mpr ⟨wi_wsL_law_r13, (List.forall_mem_append.mpr ⟨wi_wsL_law_r14, (List.forall_mem_append.mpr ⟨wi_wsL_law_r15, (List.forall_mem_append.mpr ⟨wi_wsL_law_r16, (List.forall_mem_append.mpr ⟨wi_wsL_law_r17, (List.forall_mem_append.mpr ⟨wi_wsL_law_r18, (List.forall_mem_append.mpr ⟨wi_wsL_law_r19, (List.forall_mem_append.mpr ⟨wi_wsL_law_r20, (List.forall_mem_append.mpr ⟨wi_wsL_law_r21, (List.forall_mem_append.mpr ⟨wi_wsL_law_r22, (List.forall_mem_append.mpr ⟨wi_wsL_law_r23, (List.forall_mem_append.mpr ⟨wi_wsL_law_r24, (List.forall_mem_append.mpr ⟨wi_wsL_law_r25, (List.forall_mem_append.mpr ⟨wi_wsL_law_r26, (List.forall_mem_append.mpr ⟨wi_wsL_law_r27, (List.forall_mem_append.mpr ⟨wi_wsL_law_r28, (List.forall_mem_append.mpr ⟨wi_wsL_law_r29, (List.forall_mem_append.mpr ⟨wi_wsL_law_r30, (List.forall_mem_append.mpr ⟨wi_wsL_law_r31, (List.forall_mem_append.mpr ⟨wi_wsL_law_r32, (List.forall_mem_append.mpr ⟨wi_wsL_law_r33, (List.forall_mem_append.mpr ⟨wi_wsL_law_r34, (List.forall_mem_append.mpr ⟨wi_wsL_law_r35, (List.forall_mem_append.mpr ⟨wi_wsL_law_r36, (List.forall_mem_append.mpr ⟨wi_wsL_law_r37, (List.forall_mem_append.mpr ⟨wi_wsL_law_r38, (List.forall_mem_append.mpr ⟨wi_wsL_law_r39, (List.forall_mem_append.mpr ⟨wi_wsL_law_r40, (List.forall_mem_append.mpr ⟨wi_wsL_law_r41, (List.forall_mem_append.mpr ⟨wi_wsL_law_r42, (List.forall_mem_append.mpr ⟨wi_wsL_law_r43, (List.forall_mem_append.mpr ⟨wi_wsL_law_r44, (List.forall_mem_append.mpr ⟨wi_wsL_law_r45, (List.forall_mem_append.mpr ⟨wi_wsL_law_r46, (List.forall_mem_append.mpr ⟨wi_wsL_law_r47, wi_wsL_law_r48⟩)⟩)⟩)⟩)⟩)⟩)⟩)⟩)⟩)⟩)⟩)⟩)⟩)⟩)⟩)⟩)⟩)⟩)⟩)⟩)⟩)⟩)⟩)⟩)⟩)⟩)⟩)⟩)⟩)⟩)⟩)⟩)⟩)⟩)⟩)⟩)⟩)⟩)⟩)⟩)⟩)⟩)⟩)⟩)⟩)⟩)⟩), wi_wsX100⟩), wi_wsX110⟩), wi_wsX30⟩), wi_wsX50⟩), wi_wsX60⟩), wi_wsX10⟩), wi_wsX90⟩), wi_wsX70⟩), wi_wsX20⟩), wi_wsX80⟩), (fun _ h => absurd h List.not_mem_nil)⟩)
theorem inX0 : ∀ w ∈ wsX00, w ∈ lw_tbl := by decide +kernel
theorem inlX1 : ∀ w ∈ wsX10, w ∈ wsL_law := fun _ h => List.mem_append_left _ (List.mem_append_left _ (List.mem_append_left _ (List.mem_append_left _ (List.mem_append_left _ (List.mem_append_right _ h)))))
theorem inX1 : ∀ w ∈ wsX10, w ∈ lw_tbl := fun w h => wsL_law_in w (inlX1 w h)
theorem inlX2 : ∀ w ∈ wsX20, w ∈ wsL_law := fun _ h => List.mem_append_left _ (List.mem_append_left _ (List.mem_append_right _ h))
theorem inX2 : ∀ w ∈ wsX20, w ∈ lw_tbl := fun w h => wsL_law_in w (inlX2 w h)
theorem inlX3 : ∀ w ∈ wsX30, w ∈ wsL_law := fun _ h => List.mem_append_left _ (List.mem_append_left _ (List.mem_append_left _ (List.mem_append_left _ (List.mem_append_left _ (List.mem_append_left _ (List.mem_append_left _ (List.mem_append_left _ (List.mem_append_right _ h))))))))
theorem inX3 : ∀ w ∈ wsX30, w ∈ lw_tbl := fun w h => wsL_law_in w (inlX3 w h)
theorem inX4 : ∀ w ∈ wsX40, w ∈ lw_tbl := by decide +kernel
theorem inlX5 : ∀ w ∈ wsX50, w ∈ wsL_law := fun _ h => List.mem_append_left _ (List.mem_append_left _ (List.mem_append_left _ (List.mem_append_left _ (List.mem_append_left _ (List.mem_append_left _ (List.mem_append_left _ (List.mem_append_right _ h)))))))
theorem inX5 : ∀ w ∈ wsX50, w ∈ lw_tbl := fun w h => wsL_law_in w (inlX5 w h)
theorem inlX6 : ∀ w ∈ wsX60, w ∈ wsL_law := fun _ h => List.mem_append_left _ (List.mem_append_left _ (List.mem_append_left _ (List.mem_append_left _ (List.mem_append_left _ (List.mem_append_left _ (List.mem_append_right _ h))))))
theorem inX6 : ∀ w ∈ wsX60, w ∈ lw_tbl := fun w h => wsL_law_in w (inlX6 w h)
theorem inlX7 : ∀ w ∈ wsX70, w ∈ wsL_law := fun _ h => List.mem_append_left _ (List.mem_append_left _ (List.mem_append_left _ (List.mem_append_right _ h)))
theorem inX7 : ∀ w ∈ wsX70, w ∈ lw_tbl := fun w h => wsL_law_in w (inlX7 w h)
theorem inlX8 : ∀ w ∈ wsX80, w ∈ wsL_law := fun _ h => List.mem_append_left _ (List.mem_append_right _ h)
theorem inX8 : ∀ w ∈ wsX80, w ∈ lw_tbl := fun w h => wsL_law_in w (inlX8 w h)
theorem inlX9 : ∀ w ∈ wsX90, w ∈ wsL_law := fun _ h => List.mem_append_left _ (List.mem_append_left _ (List.mem_append_left _ (List.mem_append_left _ (List.mem_append_right _ h))))
theorem inX9 : ∀ w ∈ wsX90, w ∈ lw_tbl := fun w h => wsL_law_in w (inlX9 w h)
theorem inlX10 : ∀ w ∈ wsX100, w ∈ wsL_law := fun _ h => List.mem_append_left _ (List.mem_append_left _ (List.mem_append_left _ (List.mem_append_left _ (List.mem_append_left _ (List.mem_append_left _ (List.mem_append_left _ (List.mem_append_left _ (List.mem_append_left _ (List.mem_append_left _ (List.mem_append_right _ h))))))))))
theorem inX10 : ∀ w ∈ wsX100, w ∈ lw_tbl := fun w h => wsL_law_in w (inlX10 w h)
theorem inlX11 : ∀ w ∈ wsX110, w ∈ wsL_law := fun _ h => List.mem_append_left _ (List.mem_append_left _ (List.mem_append_left _ (List.mem_append_left _ (List.mem_append_left _ (List.mem_append_left _ (List.mem_append_left _ (List.mem_append_left _ (List.mem_append_left _ (List.mem_append_right _ h)))))))))
theorem inX11 : ∀ w ∈ wsX110, w ∈ lw_tbl := fun w h => wsL_law_in w (inlX11 w h)
theorem inJ6 : ∀ w ∈ wsJ60, w ∈ lw_tbl := by decide +kernel
theorem inJ13 : ∀ w ∈ wsJ130, w ∈ lw_tbl := by decide +kernel
theorem inJ9 : ∀ w ∈ wsJ90, w ∈ lw_tbl := by decide +kernel
