/-! the words of the law, in the tables: by pieces -/
theorem mem_r {big : List Cond} (ws : List Cond) (ps : List Nat) (hp : ws = ps.filterMap (fun i => big[i]?)) : ∀ w ∈ ws, w ∈ big := by
  intro w hw
  rw [hp] at hw
  obtain ⟨i, -, hi⟩ := List.mem_filterMap.mp hw
  exact List.mem_of_getElem? hi
set_option maxRecDepth 20000 in
theorem lwi_r1 : ∀ w ∈ wsL_law_r1, w ∈ lw_tbl := mem_r _ [59, 60, 49, 751, 752, 55, 61, 62, 63, 64, 65, 66, 67, 68, 50, 195, 196, 87, 88, 52, 197, 114, 115, 53] (by decide +kernel)
set_option maxRecDepth 20000 in
theorem lwi_r2 : ∀ w ∈ wsL_law_r2, w ∈ lw_tbl := mem_r _ [198, 199, 169, 170, 54, 200, 86, 201, 202, 206, 69, 70, 71, 72, 73, 74, 51, 75, 76, 77, 78, 90, 91, 92] (by decide +kernel)
set_option maxRecDepth 20000 in
theorem lwi_r3 : ∀ w ∈ wsL_law_r3, w ∈ lw_tbl := mem_r _ [93, 95, 97, 117, 118, 119, 126, 130, 132, 133, 134, 136, 138, 139, 140, 172, 173, 174, 753, 754, 755, 756, 760, 762] (by decide +kernel)
set_option maxRecDepth 20000 in
theorem lwi_r4 : ∀ w ∈ wsL_law_r4, w ∈ lw_tbl := mem_r _ [763, 764, 765, 766, 861, 767, 772, 773, 774, 776, 777, 778, 779, 781, 782, 783, 788, 757, 789, 790, 232, 233, 234, 235] (by decide +kernel)
set_option maxRecDepth 20000 in
theorem lwi_r5 : ∀ w ∈ wsL_law_r5, w ∈ lw_tbl := mem_r _ [236, 237, 238, 239, 240, 242, 0, 243, 203, 244, 245, 246, 247, 248, 885, 886, 887, 888, 889, 890, 891, 882, 883, 884] (by decide +kernel)
set_option maxRecDepth 20000 in
theorem lwi_r6 : ∀ w ∈ wsL_law_r6, w ∈ lw_tbl := mem_r _ [892, 894, 19, 895, 761, 249, 250, 251, 252, 204, 253, 255, 1, 256, 257, 259, 2, 260, 261, 262, 263, 264, 265, 266] (by decide +kernel)
set_option maxRecDepth 20000 in
theorem lwi_r7 : ∀ w ∈ wsL_law_r7, w ∈ lw_tbl := mem_r _ [267, 268, 269, 270, 271, 272, 273, 274, 275, 276, 277, 278, 279, 280, 281, 896, 897, 898, 899, 900, 902, 20, 903, 904] (by decide +kernel)
set_option maxRecDepth 20000 in
theorem lwi_r8 : ∀ w ∈ wsL_law_r8, w ∈ lw_tbl := mem_r _ [906, 21, 907, 758, 282, 283, 284, 285, 908, 909, 910, 911, 286, 287, 288, 289, 290, 291, 292, 293, 912, 913, 914, 915] (by decide +kernel)
set_option maxRecDepth 20000 in
theorem lwi_r9 : ∀ w ∈ wsL_law_r9, w ∈ lw_tbl := mem_r _ [294, 295, 296, 297, 298, 299, 300, 301, 302, 303, 304, 305, 307, 309, 308, 56, 306, 916, 917, 918, 919, 310, 311, 312] (by decide +kernel)
set_option maxRecDepth 20000 in
theorem lwi_r10 : ∀ w ∈ wsL_law_r10, w ∈ lw_tbl := mem_r _ [313, 314, 920, 921, 922, 923, 315, 316, 317, 318, 924, 925, 926, 927, 928, 929, 930, 319, 320, 321, 322, 931, 932, 933] (by decide +kernel)
set_option maxRecDepth 20000 in
theorem lwi_r11 : ∀ w ∈ wsL_law_r11, w ∈ lw_tbl := mem_r _ [934, 323, 324, 325, 326, 327, 328, 329, 330, 101, 99, 331, 332, 333, 334, 335, 336, 337, 338, 339, 341, 3, 342, 343] (by decide +kernel)
set_option maxRecDepth 20000 in
theorem lwi_r12 : ∀ w ∈ wsL_law_r12, w ∈ lw_tbl := mem_r _ [344, 57, 345, 935, 936, 937, 938, 939, 941, 22, 942, 768, 769, 771, 943, 945, 23, 946, 947, 949, 24, 950, 951, 952] (by decide +kernel)
set_option maxRecDepth 20000 in
theorem lwi_r13 : ∀ w ∈ wsL_law_r13, w ∈ lw_tbl := mem_r _ [953, 954, 956, 25, 957, 958, 960, 26, 961, 770, 346, 347, 348, 349, 350, 351, 352, 353, 120, 122, 354, 355, 356, 357] (by decide +kernel)
set_option maxRecDepth 20000 in
theorem lwi_r14 : ∀ w ∈ wsL_law_r14, w ∈ lw_tbl := mem_r _ [124, 128, 358, 359, 360, 361, 362, 363, 962, 963, 964, 965, 775, 780, 364, 365, 366, 367, 368, 369, 370, 371, 372, 373] (by decide +kernel)
set_option maxRecDepth 20000 in
theorem lwi_r15 : ∀ w ∈ wsL_law_r15, w ∈ lw_tbl := mem_r _ [374, 375, 376, 377, 378, 379, 380, 381, 382, 383, 384, 385, 386, 387, 388, 389, 390, 391, 392, 393, 394, 395, 396, 397] (by decide +kernel)
set_option maxRecDepth 20000 in
theorem lwi_r16 : ∀ w ∈ wsL_law_r16, w ∈ lw_tbl := mem_r _ [966, 967, 968, 969, 970, 972, 27, 973, 974, 976, 28, 977, 978, 980, 29, 981, 982, 984, 30, 985, 1000, 986, 987, 988] (by decide +kernel)
set_option maxRecDepth 20000 in
theorem lwi_r17 : ∀ w ∈ wsL_law_r17, w ∈ lw_tbl := mem_r _ [989, 990, 991, 992, 994, 31, 995, 996, 998, 32, 999, 1001, 1002, 1003, 398, 399, 400, 401, 412, 413, 402, 403, 404, 405] (by decide +kernel)
set_option maxRecDepth 20000 in
theorem lwi_r18 : ∀ w ∈ wsL_law_r18, w ∈ lw_tbl := mem_r _ [406, 407, 58, 408, 409, 410, 411, 1004, 1005, 1006, 1007, 1008, 1009, 1010, 1011, 1012, 1013, 1014, 1015, 1016, 1017, 1019, 33, 1020] (by decide +kernel)
set_option maxRecDepth 20000 in
theorem lwi_r19 : ∀ w ∈ wsL_law_r19, w ∈ lw_tbl := mem_r _ [414, 415, 416, 417, 418, 419, 420, 421, 422, 423, 1021, 1022, 1023, 1024, 1025, 1026, 1027, 424, 425, 426, 427, 428, 429, 430] (by decide +kernel)
set_option maxRecDepth 20000 in
theorem lwi_r20 : ∀ w ∈ wsL_law_r20, w ∈ lw_tbl := mem_r _ [431, 432, 433, 434, 435, 436, 437, 438, 439, 440, 442, 4, 443, 444, 446, 5, 447, 1028, 1029, 1030, 1031, 1032, 1034, 34] (by decide +kernel)
set_option maxRecDepth 20000 in
theorem lwi_r21 : ∀ w ∈ wsL_law_r21, w ∈ lw_tbl := mem_r _ [1035, 1036, 1038, 35, 1039, 448, 449, 450, 451, 452, 453, 454, 455, 457, 458, 459, 460, 461, 463, 6, 464, 466, 467, 468] (by decide +kernel)
set_option maxRecDepth 20000 in
theorem lwi_r22 : ∀ w ∈ wsL_law_r22, w ∈ lw_tbl := mem_r _ [1040, 1041, 1042, 1043, 1044, 1046, 36, 1047, 469, 470, 471, 472, 473, 474, 475, 476, 477, 478, 479, 480, 481, 483, 7, 484] (by decide +kernel)
set_option maxRecDepth 20000 in
theorem lwi_r23 : ∀ w ∈ wsL_law_r23, w ∈ lw_tbl := mem_r _ [1048, 1049, 1050, 1051, 1052, 1054, 37, 1055, 485, 486, 487, 488, 489, 490, 491, 492, 493, 494, 495, 496, 497, 498, 499, 1056] (by decide +kernel)
set_option maxRecDepth 20000 in
theorem lwi_r24 : ∀ w ∈ wsL_law_r24, w ∈ lw_tbl := mem_r _ [1057, 1058, 1059, 500, 501, 502, 503, 504, 505, 506, 507, 508, 510, 8, 511, 1060, 1061, 1062, 1063, 512, 513, 514, 515, 516] (by decide +kernel)
set_option maxRecDepth 20000 in
theorem lwi_r25 : ∀ w ∈ wsL_law_r25, w ∈ lw_tbl := mem_r _ [517, 518, 519, 520, 1064, 1065, 1066, 1067, 521, 522, 523, 524, 1068, 1069, 1070, 1071, 525, 526, 527, 528, 529, 530, 532, 9] (by decide +kernel)
set_option maxRecDepth 20000 in
theorem lwi_r26 : ∀ w ∈ wsL_law_r26, w ∈ lw_tbl := mem_r _ [533, 205, 534, 535, 536, 1072, 1073, 1074, 1075, 1076, 1077, 1079, 38, 1080, 759, 537, 538, 539, 540, 541, 542, 543, 544, 545] (by decide +kernel)
set_option maxRecDepth 20000 in
theorem lwi_r27 : ∀ w ∈ wsL_law_r27, w ∈ lw_tbl := mem_r _ [175, 176, 178, 180, 182, 546, 548, 10, 549, 556, 558, 550, 552, 11, 553, 555, 554, 1081, 1082, 1083, 1084, 784, 787, 1085] (by decide +kernel)
set_option maxRecDepth 20000 in
theorem lwi_r28 : ∀ w ∈ wsL_law_r28, w ∈ lw_tbl := mem_r _ [1087, 39, 1088, 1089, 1091, 40, 1092, 785, 786, 562, 563, 564, 565, 1093, 1094, 1095, 1096, 1097, 566, 567, 568, 569, 1098, 1099] (by decide +kernel)
set_option maxRecDepth 20000 in
theorem lwi_r29 : ∀ w ∈ wsL_law_r29, w ∈ lw_tbl := mem_r _ [1100, 1101, 570, 571, 572, 573, 1102, 1103, 1104, 1105, 1106, 1108, 41, 1109, 574, 575, 576, 577, 578, 580, 12, 581, 1110, 1111] (by decide +kernel)
set_option maxRecDepth 20000 in
theorem lwi_r30 : ∀ w ∈ wsL_law_r30, w ∈ lw_tbl := mem_r _ [1112, 1113, 1114, 582, 583, 584, 585, 1115, 1116, 1117, 1118, 586, 587, 588, 589, 590, 592, 13, 593, 1119, 1120, 1121, 1122, 1123] (by decide +kernel)
set_option maxRecDepth 20000 in
theorem lwi_r31 : ∀ w ∈ wsL_law_r31, w ∈ lw_tbl := mem_r _ [1125, 42, 1126, 594, 595, 596, 597, 1127, 1128, 1129, 1130, 598, 599, 600, 601, 602, 604, 14, 605, 606, 1131, 1132, 1133, 1134] (by decide +kernel)
set_option maxRecDepth 20000 in
theorem lwi_r32 : ∀ w ∈ wsL_law_r32, w ∈ lw_tbl := mem_r _ [607, 608, 609, 610, 611, 613, 15, 614, 615, 617, 16, 618, 619, 620, 621, 623, 1135, 1136, 1137, 1138, 1139, 1141, 43, 1142] (by decide +kernel)
set_option maxRecDepth 20000 in
theorem lwi_r33 : ∀ w ∈ wsL_law_r33, w ∈ lw_tbl := mem_r _ [1143, 1145, 44, 1146, 624, 625, 626, 627, 628, 1147, 1148, 1149, 1150, 629, 630, 631, 632, 633, 634, 635, 636, 637, 638, 639] (by decide +kernel)
set_option maxRecDepth 20000 in
theorem lwi_r34 : ∀ w ∈ wsL_law_r34, w ∈ lw_tbl := mem_r _ [640, 641, 642, 644, 17, 645, 646, 647, 648, 649, 650, 651, 51, 652, 1151, 1152, 1153, 1154, 1159, 1155, 1157, 45, 1158, 653] (by decide +kernel)
set_option maxRecDepth 20000 in
theorem lwi_r35 : ∀ w ∈ wsL_law_r35, w ∈ lw_tbl := mem_r _ [654, 655, 656, 657, 658, 659, 660, 661, 662, 663, 664, 1160, 1161, 1162, 1163, 1164, 665, 666, 667, 668, 669, 1165, 1166, 1167] (by decide +kernel)
set_option maxRecDepth 20000 in
theorem lwi_r36 : ∀ w ∈ wsL_law_r36, w ∈ lw_tbl := mem_r _ [1168, 1169, 670, 671, 672, 673, 674, 675, 676, 677, 678, 679, 680, 681, 682, 683, 684, 685, 686, 687, 688, 689, 690, 1170] (by decide +kernel)
set_option maxRecDepth 20000 in
theorem lwi_r37 : ∀ w ∈ wsL_law_r37, w ∈ lw_tbl := mem_r _ [1171, 1172, 1173, 1174, 1175, 1176, 1177, 1178, 1179, 1180, 1181, 1182, 1184, 46, 1185, 691, 692, 693, 694, 862, 863, 864, 865, 695] (by decide +kernel)
set_option maxRecDepth 20000 in
theorem lwi_r38 : ∀ w ∈ wsL_law_r38, w ∈ lw_tbl := mem_r _ [696, 697, 698, 866, 867, 868, 869, 699, 700, 701, 702, 870, 871, 872, 873, 703, 704, 705, 706, 707, 708, 709, 710, 711] (by decide +kernel)
set_option maxRecDepth 20000 in
theorem lwi_r39 : ∀ w ∈ wsL_law_r39, w ∈ lw_tbl := mem_r _ [712, 713, 714, 715, 716, 717, 718, 719, 720, 721, 723, 18, 724, 725, 726, 727, 728, 729, 1186, 1187, 1188, 1189, 730, 731] (by decide +kernel)
set_option maxRecDepth 20000 in
theorem lwi_r40 : ∀ w ∈ wsL_law_r40, w ∈ lw_tbl := mem_r _ [732, 733, 874, 875, 876, 877, 734, 735, 736, 737, 878, 879, 880, 881, 738, 739, 740, 741, 742, 743, 744, 745, 746, 747] (by decide +kernel)
set_option maxRecDepth 20000 in
theorem lwi_r41 : ∀ w ∈ wsL_law_r41, w ∈ lw_tbl := mem_r _ [748, 749, 750, 1190, 1191, 1192, 1193, 1194, 791, 1195, 1197, 47, 1198, 1199] (by decide +kernel)
set_option maxRecDepth 20000 in
theorem lwi_X5 : ∀ w ∈ wsX50, w ∈ lw_tbl := mem_r _ [207, 209, 211, 213, 215, 217, 219, 221, 223, 225, 227, 229] (by decide +kernel)
set_option maxRecDepth 20000 in
theorem lwi_X6 : ∀ w ∈ wsX60, w ∈ lw_tbl := mem_r _ [792, 794, 796, 798, 800, 802, 804, 806, 808, 810, 812, 814, 816, 818, 820, 822, 824, 826, 828, 830, 832, 834, 836, 838, 840, 842, 844, 846, 848, 850, 852, 854, 856, 858] (by decide +kernel)
set_option maxRecDepth 20000 in
theorem lwi_X3 : ∀ w ∈ wsX30, w ∈ lw_tbl := mem_r _ [79, 81, 83] (by decide +kernel)
set_option maxRecDepth 20000 in
theorem lwi_X2 : ∀ w ∈ wsX20, w ∈ lw_tbl := mem_r _ [103, 105, 107, 109, 111] (by decide +kernel)
set_option maxRecDepth 20000 in
theorem lwi_X4 : ∀ w ∈ wsX40, w ∈ lw_tbl := mem_r _ [141, 143, 145, 147, 149, 151, 153, 155, 157, 159, 161, 163, 165] (by decide +kernel)
set_option maxRecDepth 20000 in
theorem lwi_X1 : ∀ w ∈ wsX10, w ∈ lw_tbl := mem_r _ [184, 186, 188, 190, 192] (by decide +kernel)
theorem wsL_in : ∀ w ∈ wsL_law, w ∈ lw_tbl := List.forall_mem_append.mpr ⟨(List.forall_mem_append.mpr ⟨(List.forall_mem_append.mpr ⟨(List.forall_mem_append.mpr ⟨(List.forall_mem_append.mpr ⟨(List.forall_mem_append.mpr ⟨(List.forall_mem_append.mpr ⟨(List.forall_mem_append.mpr ⟨lwi_r1, (List.forall_mem_append.mpr ⟨lwi_r2, (List.forall_mem_append.mpr ⟨lwi_r3, (List.forall_mem_append.mpr ⟨lwi_r4, (List.forall_mem_append.mpr ⟨lwi_r5, (List.forall_mem_append.mpr ⟨lwi_r6, (List.forall_mem_append.mpr ⟨lwi_r7, (List.forall_mem_append.mpr ⟨lwi_r8, (List.forall_mem_append.mpr ⟨lwi_r9, (List.forall_mem_append.mpr ⟨lwi_r10, (List.forall_mem_append.mpr ⟨lwi_r11, (List.forall_mem_append.mpr ⟨lwi_r12, (List.forall_mem_append.mpr ⟨lwi_r13, (List.forall_mem_append.mpr ⟨lwi_r14, (List.forall_mem_append.mpr ⟨lwi_r15, (List.forall_mem_append.mpr ⟨lwi_r16, (List.forall_mem_append.mpr ⟨lwi_r17, (List.forall_mem_append.mpr ⟨lwi_r18, (List.forall_mem_append.mpr ⟨lwi_r19, (List.forall_mem_append.mpr ⟨lwi_r20, (List.forall_mem_append.mpr ⟨lwi_r21, (List.forall_mem_append.mpr ⟨lwi_r22, (List.forall_mem_append.mpr ⟨lwi_r23, (List.forall_mem_append.mpr ⟨lwi_r24, (List.forall_mem_append.mpr ⟨lwi_r25, (List.forall_mem_append.mpr ⟨lwi_r26, (List.forall_mem_append.mpr ⟨lwi_r27, (List.forall_mem_append.mpr ⟨lwi_r28, (List.forall_mem_append.mpr ⟨lwi_r29, (List.forall_mem_append.mpr ⟨lwi_r30, (List.forall_mem_append.mpr ⟨lwi_r31, (List.forall_mem_append.mpr ⟨lwi_r32, (List.forall_mem_append.mpr ⟨lwi_r33, (List.forall_mem_append.mpr ⟨lwi_r34, (List.forall_mem_append.mpr ⟨lwi_r35, (List.forall_mem_append.mpr ⟨lwi_r36, (List.forall_mem_append.mpr ⟨lwi_r37, (List.forall_mem_append.mpr ⟨lwi_r38, (List.forall_mem_append.mpr ⟨lwi_r39, (List.forall_mem_append.mpr ⟨lwi_r40, lwi_r41⟩)⟩)⟩)⟩)⟩)⟩)⟩)⟩)⟩)⟩)⟩)⟩)⟩)⟩)⟩)⟩)⟩)⟩)⟩)⟩)⟩)⟩)⟩)⟩)⟩)⟩)⟩)⟩)⟩)⟩)⟩)⟩)⟩)⟩)⟩)⟩)⟩)⟩)⟩)⟩), lwi_X5⟩), lwi_X6⟩), lwi_X3⟩), lwi_X2⟩), lwi_X4⟩), lwi_X1⟩), fun _ h => absurd h List.not_mem_nil⟩
