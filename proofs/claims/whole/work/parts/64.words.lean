/-! the words of the law, in the tables: by pieces -/
theorem mem_r {big : List Cond} (ws : List Cond) (ps : List Nat) (hp : ws = ps.filterMap (fun i => big[i]?)) : ∀ w ∈ ws, w ∈ big := by
  intro w hw
  rw [hp] at hw
  obtain ⟨i, -, hi⟩ := List.mem_filterMap.mp hw
  exact List.mem_of_getElem? hi
set_option maxRecDepth 20000 in
theorem lwi_r1 : ∀ w ∈ wsL_law_r1, w ∈ lw_tbl := mem_r _ [59, 60, 49, 750, 751, 54, 61, 62, 63, 64, 65, 66, 67, 68, 50, 192, 193, 84, 85, 51, 194, 111, 112, 52] (by decide +kernel)
set_option maxRecDepth 20000 in
theorem lwi_r2 : ∀ w ∈ wsL_law_r2, w ∈ lw_tbl := mem_r _ [195, 196, 166, 167, 53, 197, 83, 198, 199, 203, 69, 70, 71, 72, 73, 74, 75, 87, 88, 89, 90, 92, 94, 114] (by decide +kernel)
set_option maxRecDepth 20000 in
theorem lwi_r3 : ∀ w ∈ wsL_law_r3, w ∈ lw_tbl := mem_r _ [115, 116, 123, 127, 129, 130, 131, 133, 135, 136, 137, 169, 170, 171, 752, 753, 754, 755, 759, 761, 762, 763, 764, 765] (by decide +kernel)
set_option maxRecDepth 20000 in
theorem lwi_r4 : ∀ w ∈ wsL_law_r4, w ∈ lw_tbl := mem_r _ [860, 766, 771, 772, 773, 775, 776, 777, 778, 780, 781, 782, 787, 756, 788, 789, 229, 230, 231, 232, 233, 234, 235, 236] (by decide +kernel)
set_option maxRecDepth 20000 in
theorem lwi_r5 : ∀ w ∈ wsL_law_r5, w ∈ lw_tbl := mem_r _ [237, 239, 0, 240, 200, 241, 242, 243, 244, 245, 884, 885, 886, 887, 888, 889, 890, 881, 882, 883, 891, 893, 19, 894] (by decide +kernel)
set_option maxRecDepth 20000 in
theorem lwi_r6 : ∀ w ∈ wsL_law_r6, w ∈ lw_tbl := mem_r _ [760, 246, 247, 248, 249, 201, 250, 252, 1, 253, 254, 256, 2, 257, 258, 259, 260, 261, 262, 263, 264, 265, 266, 267] (by decide +kernel)
set_option maxRecDepth 20000 in
theorem lwi_r7 : ∀ w ∈ wsL_law_r7, w ∈ lw_tbl := mem_r _ [268, 269, 270, 271, 272, 273, 274, 275, 276, 277, 278, 895, 896, 897, 898, 899, 901, 20, 902, 903, 905, 21, 906, 757] (by decide +kernel)
set_option maxRecDepth 20000 in
theorem lwi_r8 : ∀ w ∈ wsL_law_r8, w ∈ lw_tbl := mem_r _ [279, 280, 281, 282, 907, 908, 909, 910, 283, 284, 285, 286, 287, 288, 289, 290, 911, 912, 913, 914, 291, 292, 293, 294] (by decide +kernel)
set_option maxRecDepth 20000 in
theorem lwi_r9 : ∀ w ∈ wsL_law_r9, w ∈ lw_tbl := mem_r _ [295, 296, 297, 298, 299, 300, 301, 302, 304, 306, 305, 55, 303, 915, 916, 917, 918, 307, 308, 309, 310, 311, 919, 920] (by decide +kernel)
set_option maxRecDepth 20000 in
theorem lwi_r10 : ∀ w ∈ wsL_law_r10, w ∈ lw_tbl := mem_r _ [921, 922, 312, 313, 314, 315, 923, 924, 925, 926, 927, 928, 929, 316, 317, 318, 319, 930, 931, 932, 933, 320, 321, 322] (by decide +kernel)
set_option maxRecDepth 20000 in
theorem lwi_r11 : ∀ w ∈ wsL_law_r11, w ∈ lw_tbl := mem_r _ [323, 324, 325, 326, 327, 98, 96, 328, 329, 330, 331, 332, 333, 334, 335, 336, 338, 3, 339, 340, 341, 56, 342, 934] (by decide +kernel)
set_option maxRecDepth 20000 in
theorem lwi_r12 : ∀ w ∈ wsL_law_r12, w ∈ lw_tbl := mem_r _ [935, 936, 937, 938, 940, 22, 941, 767, 768, 770, 942, 944, 23, 945, 946, 948, 24, 949, 950, 951, 952, 953, 955, 25] (by decide +kernel)
set_option maxRecDepth 20000 in
theorem lwi_r13 : ∀ w ∈ wsL_law_r13, w ∈ lw_tbl := mem_r _ [956, 957, 959, 26, 960, 769, 343, 344, 345, 346, 347, 348, 349, 350, 117, 119, 351, 352, 353, 354, 121, 125, 355, 356] (by decide +kernel)
set_option maxRecDepth 20000 in
theorem lwi_r14 : ∀ w ∈ wsL_law_r14, w ∈ lw_tbl := mem_r _ [357, 358, 359, 360, 961, 962, 963, 964, 774, 779, 361, 362, 363, 364, 365, 366, 367, 368, 369, 370, 371, 372, 373, 374] (by decide +kernel)
set_option maxRecDepth 20000 in
theorem lwi_r15 : ∀ w ∈ wsL_law_r15, w ∈ lw_tbl := mem_r _ [375, 376, 377, 378, 379, 380, 381, 382, 383, 384, 385, 386, 387, 388, 389, 390, 391, 392, 393, 394, 57, 395, 396, 965] (by decide +kernel)
set_option maxRecDepth 20000 in
theorem lwi_r16 : ∀ w ∈ wsL_law_r16, w ∈ lw_tbl := mem_r _ [966, 967, 968, 969, 971, 27, 972, 973, 975, 28, 976, 977, 979, 29, 980, 981, 983, 30, 984, 999, 985, 986, 987, 988] (by decide +kernel)
set_option maxRecDepth 20000 in
theorem lwi_r17 : ∀ w ∈ wsL_law_r17, w ∈ lw_tbl := mem_r _ [989, 990, 991, 993, 31, 994, 995, 997, 32, 998, 1000, 1001, 1002, 397, 398, 399, 400, 411, 412, 401, 402, 403, 404, 405] (by decide +kernel)
set_option maxRecDepth 20000 in
theorem lwi_r18 : ∀ w ∈ wsL_law_r18, w ∈ lw_tbl := mem_r _ [406, 58, 407, 408, 409, 410, 1003, 1004, 1005, 1006, 1007, 1008, 1009, 1010, 1011, 1012, 1013, 1014, 1015, 1016, 1018, 33, 1019, 413] (by decide +kernel)
set_option maxRecDepth 20000 in
theorem lwi_r19 : ∀ w ∈ wsL_law_r19, w ∈ lw_tbl := mem_r _ [414, 415, 416, 417, 418, 419, 420, 421, 422, 1020, 1021, 1022, 1023, 1024, 1025, 1026, 423, 424, 425, 426, 427, 428, 429, 430] (by decide +kernel)
set_option maxRecDepth 20000 in
theorem lwi_r20 : ∀ w ∈ wsL_law_r20, w ∈ lw_tbl := mem_r _ [431, 432, 433, 434, 435, 436, 437, 438, 439, 441, 4, 442, 443, 445, 5, 446, 1027, 1028, 1029, 1030, 1031, 1033, 34, 1034] (by decide +kernel)
set_option maxRecDepth 20000 in
theorem lwi_r21 : ∀ w ∈ wsL_law_r21, w ∈ lw_tbl := mem_r _ [1035, 1037, 35, 1038, 447, 448, 449, 450, 451, 452, 453, 454, 456, 457, 458, 459, 460, 462, 6, 463, 465, 466, 467, 1039] (by decide +kernel)
set_option maxRecDepth 20000 in
theorem lwi_r22 : ∀ w ∈ wsL_law_r22, w ∈ lw_tbl := mem_r _ [1040, 1041, 1042, 1043, 1045, 36, 1046, 468, 469, 470, 471, 472, 473, 474, 475, 476, 477, 478, 479, 480, 482, 7, 483, 1047] (by decide +kernel)
set_option maxRecDepth 20000 in
theorem lwi_r23 : ∀ w ∈ wsL_law_r23, w ∈ lw_tbl := mem_r _ [1048, 1049, 1050, 1051, 1053, 37, 1054, 484, 485, 486, 487, 488, 489, 490, 491, 492, 493, 494, 495, 496, 497, 498, 1055, 1056] (by decide +kernel)
set_option maxRecDepth 20000 in
theorem lwi_r24 : ∀ w ∈ wsL_law_r24, w ∈ lw_tbl := mem_r _ [1057, 1058, 499, 500, 501, 502, 503, 504, 505, 506, 507, 509, 8, 510, 1059, 1060, 1061, 1062, 511, 512, 513, 514, 515, 516] (by decide +kernel)
set_option maxRecDepth 20000 in
theorem lwi_r25 : ∀ w ∈ wsL_law_r25, w ∈ lw_tbl := mem_r _ [517, 518, 519, 1063, 1064, 1065, 1066, 520, 521, 522, 523, 1067, 1068, 1069, 1070, 524, 525, 526, 527, 528, 529, 531, 9, 532] (by decide +kernel)
set_option maxRecDepth 20000 in
theorem lwi_r26 : ∀ w ∈ wsL_law_r26, w ∈ lw_tbl := mem_r _ [202, 533, 534, 535, 1071, 1072, 1073, 1074, 1075, 1076, 1078, 38, 1079, 758, 536, 537, 538, 539, 540, 541, 542, 543, 544, 172] (by decide +kernel)
set_option maxRecDepth 20000 in
theorem lwi_r27 : ∀ w ∈ wsL_law_r27, w ∈ lw_tbl := mem_r _ [173, 175, 177, 179, 545, 547, 10, 548, 555, 557, 549, 551, 11, 552, 554, 553, 1080, 1081, 1082, 1083, 783, 786, 1084, 1086] (by decide +kernel)
set_option maxRecDepth 20000 in
theorem lwi_r28 : ∀ w ∈ wsL_law_r28, w ∈ lw_tbl := mem_r _ [39, 1087, 1088, 1090, 40, 1091, 784, 785, 561, 562, 563, 564, 1092, 1093, 1094, 1095, 1096, 565, 566, 567, 568, 1097, 1098, 1099] (by decide +kernel)
set_option maxRecDepth 20000 in
theorem lwi_r29 : ∀ w ∈ wsL_law_r29, w ∈ lw_tbl := mem_r _ [1100, 569, 570, 571, 572, 1101, 1102, 1103, 1104, 1105, 1107, 41, 1108, 573, 574, 575, 576, 577, 579, 12, 580, 1109, 1110, 1111] (by decide +kernel)
set_option maxRecDepth 20000 in
theorem lwi_r30 : ∀ w ∈ wsL_law_r30, w ∈ lw_tbl := mem_r _ [1112, 1113, 581, 582, 583, 584, 1114, 1115, 1116, 1117, 585, 586, 587, 588, 589, 591, 13, 592, 1118, 1119, 1120, 1121, 1122, 1124] (by decide +kernel)
set_option maxRecDepth 20000 in
theorem lwi_r31 : ∀ w ∈ wsL_law_r31, w ∈ lw_tbl := mem_r _ [42, 1125, 593, 594, 595, 596, 1126, 1127, 1128, 1129, 597, 598, 599, 600, 601, 603, 14, 604, 605, 1130, 1131, 1132, 1133, 606] (by decide +kernel)
set_option maxRecDepth 20000 in
theorem lwi_r32 : ∀ w ∈ wsL_law_r32, w ∈ lw_tbl := mem_r _ [607, 608, 609, 610, 612, 15, 613, 614, 616, 16, 617, 618, 619, 620, 622, 1134, 1135, 1136, 1137, 1138, 1140, 43, 1141, 1142] (by decide +kernel)
set_option maxRecDepth 20000 in
theorem lwi_r33 : ∀ w ∈ wsL_law_r33, w ∈ lw_tbl := mem_r _ [1144, 44, 1145, 623, 624, 625, 626, 627, 1146, 1147, 1148, 1149, 628, 629, 630, 631, 632, 633, 634, 635, 636, 637, 638, 639] (by decide +kernel)
set_option maxRecDepth 20000 in
theorem lwi_r34 : ∀ w ∈ wsL_law_r34, w ∈ lw_tbl := mem_r _ [640, 641, 643, 17, 644, 645, 646, 647, 648, 649, 650, 57, 651, 1150, 1151, 1152, 1153, 1158, 1154, 1156, 45, 1157, 652, 653] (by decide +kernel)
set_option maxRecDepth 20000 in
theorem lwi_r35 : ∀ w ∈ wsL_law_r35, w ∈ lw_tbl := mem_r _ [654, 655, 656, 657, 658, 659, 660, 661, 662, 663, 1159, 1160, 1161, 1162, 1163, 664, 665, 666, 667, 668, 1164, 1165, 1166, 1167] (by decide +kernel)
set_option maxRecDepth 20000 in
theorem lwi_r36 : ∀ w ∈ wsL_law_r36, w ∈ lw_tbl := mem_r _ [1168, 669, 670, 671, 672, 673, 674, 675, 676, 677, 678, 679, 680, 681, 682, 683, 684, 685, 686, 687, 688, 689, 1169, 1170] (by decide +kernel)
set_option maxRecDepth 20000 in
theorem lwi_r37 : ∀ w ∈ wsL_law_r37, w ∈ lw_tbl := mem_r _ [1171, 1172, 1173, 1174, 1175, 1176, 1177, 1178, 1179, 1180, 1181, 1183, 46, 1184, 690, 691, 692, 693, 861, 862, 863, 864, 694, 695] (by decide +kernel)
set_option maxRecDepth 20000 in
theorem lwi_r38 : ∀ w ∈ wsL_law_r38, w ∈ lw_tbl := mem_r _ [696, 697, 865, 866, 867, 868, 698, 699, 700, 701, 869, 870, 871, 872, 702, 703, 704, 705, 706, 707, 708, 709, 710, 711] (by decide +kernel)
set_option maxRecDepth 20000 in
theorem lwi_r39 : ∀ w ∈ wsL_law_r39, w ∈ lw_tbl := mem_r _ [712, 713, 714, 715, 716, 717, 718, 719, 720, 722, 18, 723, 724, 725, 726, 727, 728, 1185, 1186, 1187, 1188, 729, 730, 731] (by decide +kernel)
set_option maxRecDepth 20000 in
theorem lwi_r40 : ∀ w ∈ wsL_law_r40, w ∈ lw_tbl := mem_r _ [732, 873, 874, 875, 876, 733, 734, 735, 736, 877, 878, 879, 880, 737, 738, 739, 740, 741, 742, 743, 744, 745, 746, 747] (by decide +kernel)
set_option maxRecDepth 20000 in
theorem lwi_r41 : ∀ w ∈ wsL_law_r41, w ∈ lw_tbl := mem_r _ [748, 749, 1189, 1190, 1191, 1192, 1193, 790, 1194, 1196, 47, 1197, 1198] (by decide +kernel)
set_option maxRecDepth 20000 in
theorem lwi_X5 : ∀ w ∈ wsX50, w ∈ lw_tbl := mem_r _ [204, 206, 208, 210, 212, 214, 216, 218, 220, 222, 224, 226] (by decide +kernel)
set_option maxRecDepth 20000 in
theorem lwi_X6 : ∀ w ∈ wsX60, w ∈ lw_tbl := mem_r _ [791, 793, 795, 797, 799, 801, 803, 805, 807, 809, 811, 813, 815, 817, 819, 821, 823, 825, 827, 829, 831, 833, 835, 837, 839, 841, 843, 845, 847, 849, 851, 853, 855, 857] (by decide +kernel)
set_option maxRecDepth 20000 in
theorem lwi_X3 : ∀ w ∈ wsX30, w ∈ lw_tbl := mem_r _ [76, 78, 80] (by decide +kernel)
set_option maxRecDepth 20000 in
theorem lwi_X2 : ∀ w ∈ wsX20, w ∈ lw_tbl := mem_r _ [100, 102, 104, 106, 108] (by decide +kernel)
set_option maxRecDepth 20000 in
theorem lwi_X4 : ∀ w ∈ wsX40, w ∈ lw_tbl := mem_r _ [138, 140, 142, 144, 146, 148, 150, 152, 154, 156, 158, 160, 162] (by decide +kernel)
set_option maxRecDepth 20000 in
theorem lwi_X1 : ∀ w ∈ wsX10, w ∈ lw_tbl := mem_r _ [181, 183, 185, 187, 189] (by decide +kernel)
theorem wsL_in : ∀ w ∈ wsL_law, w ∈ lw_tbl := List.forall_mem_append.mpr ⟨(List.forall_mem_append.mpr ⟨(List.forall_mem_append.mpr ⟨(List.forall_mem_append.mpr ⟨(List.forall_mem_append.mpr ⟨(List.forall_mem_append.mpr ⟨(List.forall_mem_append.mpr ⟨(List.forall_mem_append.mpr ⟨lwi_r1, (List.forall_mem_append.mpr ⟨lwi_r2, (List.forall_mem_append.mpr ⟨lwi_r3, (List.forall_mem_append.mpr ⟨lwi_r4, (List.forall_mem_append.mpr ⟨lwi_r5, (List.forall_mem_append.mpr ⟨lwi_r6, (List.forall_mem_append.mpr ⟨lwi_r7, (List.forall_mem_append.mpr ⟨lwi_r8, (List.forall_mem_append.mpr ⟨lwi_r9, (List.forall_mem_append.mpr ⟨lwi_r10, (List.forall_mem_append.mpr ⟨lwi_r11, (List.forall_mem_append.mpr ⟨lwi_r12, (List.forall_mem_append.mpr ⟨lwi_r13, (List.forall_mem_append.mpr ⟨lwi_r14, (List.forall_mem_append.mpr ⟨lwi_r15, (List.forall_mem_append.mpr ⟨lwi_r16, (List.forall_mem_append.mpr ⟨lwi_r17, (List.forall_mem_append.mpr ⟨lwi_r18, (List.forall_mem_append.mpr ⟨lwi_r19, (List.forall_mem_append.mpr ⟨lwi_r20, (List.forall_mem_append.mpr ⟨lwi_r21, (List.forall_mem_append.mpr ⟨lwi_r22, (List.forall_mem_append.mpr ⟨lwi_r23, (List.forall_mem_append.mpr ⟨lwi_r24, (List.forall_mem_append.mpr ⟨lwi_r25, (List.forall_mem_append.mpr ⟨lwi_r26, (List.forall_mem_append.mpr ⟨lwi_r27, (List.forall_mem_append.mpr ⟨lwi_r28, (List.forall_mem_append.mpr ⟨lwi_r29, (List.forall_mem_append.mpr ⟨lwi_r30, (List.forall_mem_append.mpr ⟨lwi_r31, (List.forall_mem_append.mpr ⟨lwi_r32, (List.forall_mem_append.mpr ⟨lwi_r33, (List.forall_mem_append.mpr ⟨lwi_r34, (List.forall_mem_append.mpr ⟨lwi_r35, (List.forall_mem_append.mpr ⟨lwi_r36, (List.forall_mem_append.mpr ⟨lwi_r37, (List.forall_mem_append.mpr ⟨lwi_r38, (List.forall_mem_append.mpr ⟨lwi_r39, (List.forall_mem_append.mpr ⟨lwi_r40, lwi_r41⟩)⟩)⟩)⟩)⟩)⟩)⟩)⟩)⟩)⟩)⟩)⟩)⟩)⟩)⟩)⟩)⟩)⟩)⟩)⟩)⟩)⟩)⟩)⟩)⟩)⟩)⟩)⟩)⟩)⟩)⟩)⟩)⟩)⟩)⟩)⟩)⟩)⟩)⟩)⟩), lwi_X5⟩), lwi_X6⟩), lwi_X3⟩), lwi_X2⟩), lwi_X4⟩), lwi_X1⟩), fun _ h => absurd h List.not_mem_nil⟩
