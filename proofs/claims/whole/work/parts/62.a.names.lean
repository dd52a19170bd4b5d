/-! THE LAW'S WORDS among the tables' -/
theorem li_m {big ws : List Cond} (ps : List Nat) (hp : ws = ps.filterMap (fun i => big[i]?)) : ∀ w ∈ ws, w ∈ big := by
  intro w hw
  rw [hp] at hw
  obtain ⟨i, -, hi⟩ := List.mem_filterMap.mp hw
  first | exact List.mem_of_getElem? hi | exact List.getElem?_mem hi
theorem li_a {big a b : List Cond} (ha : ∀ w ∈ a, w ∈ big) (hb : ∀ w ∈ b, w ∈ big) : ∀ w ∈ a ++ b, w ∈ big := fun w h => (List.mem_append.mp h).elim (ha w) (hb w)

set_option maxRecDepth 20000 in
theorem li_wsL_law0_r1 : ∀ w ∈ wsL_law0_r1, w ∈ lw_tbl := li_m [78, 79, 62, 885, 886, 69, 1251, 1252, 80, 81, 82, 83, 84, 85, 86, 87, 63, 207, 173, 174, 67, 208, 193, 194] (by decide +kernel)
set_option maxRecDepth 20000 in
theorem li_wsL_law0_r2 : ∀ w ∈ wsL_law0_r2, w ∈ lw_tbl := li_m [68, 209, 89, 90, 91, 92, 93, 64, 131, 129, 99, 65, 133, 123, 135, 138, 140, 95, 96, 97, 98, 124, 100, 101] (by decide +kernel)
set_option maxRecDepth 20000 in
theorem li_wsL_law0_r3 : ∀ w ∈ wsL_law0_r3, w ∈ lw_tbl := li_m [102, 103, 104, 105, 66, 106, 108, 109, 107, 130, 175, 176, 177, 178, 179, 182, 196, 197, 198, 199, 887, 888, 889, 890] (by decide +kernel)
set_option maxRecDepth 20000 in
theorem li_wsL_law0_r4 : ∀ w ∈ wsL_law0_r4, w ∈ lw_tbl := li_m [891, 893, 895, 897, 484, 485, 61, 486, 487, 488, 489, 490, 491, 492, 493, 526, 76, 494, 496, 5, 497, 498, 73, 357] (by decide +kernel)
set_option maxRecDepth 20000 in
theorem li_wsL_law0_r5 : ∀ w ∈ wsL_law0_r5, w ∈ lw_tbl := li_m [337, 338, 339, 261, 262, 263, 264, 74, 514, 515, 516, 517, 518, 519, 520, 521, 110, 370, 346, 347, 348, 344, 349, 350] (by decide +kernel)
set_option maxRecDepth 20000 in
theorem li_wsL_law0_r6 : ∀ w ∈ wsL_law0_r6, w ∈ lw_tbl := li_m [351, 352, 522, 523, 524, 525, 371, 372, 373, 374, 375, 376, 377, 378, 379, 380, 75, 381, 382, 383, 384, 542, 543, 544] (by decide +kernel)
set_option maxRecDepth 20000 in
theorem li_wsL_law0_r7 : ∀ w ∈ wsL_law0_r7, w ∈ lw_tbl := li_m [545, 183, 184, 546, 548, 6, 549, 550, 551, 552, 553, 554, 555, 556, 136, 142, 143, 144, 145, 146, 147, 557, 558, 559] (by decide +kernel)
set_option maxRecDepth 20000 in
theorem li_wsL_law0_r8 : ∀ w ∈ wsL_law0_r8, w ∈ lw_tbl := li_m [560, 561, 562, 563, 564, 565, 566, 567, 568, 569, 570, 571, 572, 573, 574, 929, 930, 931, 932, 896, 933, 934, 935, 936] (by decide +kernel)
set_option maxRecDepth 20000 in
theorem li_wsL_law0_r9 : ∀ w ∈ wsL_law0_r9, w ∈ lw_tbl := li_m [937, 938, 939, 940, 941, 942, 944, 15, 945, 946, 948, 16, 949, 950, 952, 17, 953, 954, 956, 18, 957, 958, 960, 19] (by decide +kernel)
set_option maxRecDepth 20000 in
theorem li_wsL_law0_r10 : ∀ w ∈ wsL_law0_r10, w ∈ lw_tbl := li_m [961, 962, 964, 20, 965, 966, 968, 21, 969, 892, 970, 972, 22, 973, 925, 926, 927, 928, 575, 576, 577, 578, 579, 580] (by decide +kernel)
set_option maxRecDepth 20000 in
theorem li_wsL_law0_r11 : ∀ w ∈ wsL_law0_r11, w ∈ lw_tbl := li_m [581, 582, 584, 7, 585, 586, 588, 589, 590, 591, 592, 390, 391, 392, 345, 393, 394, 395, 593, 594, 595, 596, 432, 433] (by decide +kernel)
set_option maxRecDepth 20000 in
theorem li_wsL_law0_r12 : ∀ w ∈ wsL_law0_r12, w ∈ lw_tbl := li_m [434, 435, 401, 436, 597, 598, 599, 600, 601, 602, 974, 975, 976, 977, 978, 980, 23, 981, 982, 984, 24, 985, 986, 988] (by decide +kernel)
set_option maxRecDepth 20000 in
theorem li_wsL_law0_r13 : ∀ w ∈ wsL_law0_r13, w ∈ lw_tbl := li_m [25, 989, 990, 991, 992, 993, 995, 26, 996, 997, 999, 27, 1000, 1001, 1002, 1003, 603, 604, 605, 606, 607, 608, 609, 610] (by decide +kernel)
set_option maxRecDepth 20000 in
theorem li_wsL_law0_r14 : ∀ w ∈ wsL_law0_r14, w ∈ lw_tbl := li_m [611, 612, 613, 614, 616, 617, 618, 619, 620, 621, 622, 623, 1004, 1005, 1006, 1007, 1008, 1010, 28, 1011, 624, 625, 626, 627] (by decide +kernel)
set_option maxRecDepth 20000 in
theorem li_wsL_law0_r15 : ∀ w ∈ wsL_law0_r15, w ∈ lw_tbl := li_m [628, 629, 630, 631, 1012, 1013, 1014, 1015, 632, 633, 634, 635, 636, 637, 638, 639, 641, 8, 642, 643, 644, 645, 646, 647] (by decide +kernel)
set_option maxRecDepth 20000 in
theorem li_wsL_law0_r16 : ∀ w ∈ wsL_law0_r16, w ∈ lw_tbl := li_m [403, 404, 405, 406, 407, 408, 409, 410, 411, 412, 413, 648, 419, 420, 421, 366, 367, 368, 369, 650, 651, 652, 653, 654] (by decide +kernel)
set_option maxRecDepth 20000 in
theorem li_wsL_law0_r17 : ∀ w ∈ wsL_law0_r17, w ∈ lw_tbl := li_m [656, 9, 657, 658, 659, 660, 661, 662, 664, 10, 665, 666, 667, 1016, 1017, 1018, 1019, 1020, 1022, 29, 1023, 1024, 1026, 30] (by decide +kernel)
set_option maxRecDepth 20000 in
theorem li_wsL_law0_r18 : ∀ w ∈ wsL_law0_r18, w ∈ lw_tbl := li_m [1027, 1028, 1030, 31, 1031, 1032, 1034, 32, 1035, 1036, 1038, 33, 1039, 1040, 1042, 34, 1043, 1044, 1046, 35, 1047, 668, 669, 670] (by decide +kernel)
set_option maxRecDepth 20000 in
theorem li_wsL_law0_r19 : ∀ w ∈ wsL_law0_r19, w ∈ lw_tbl := li_m [671, 672, 673, 674, 1048, 1049, 1050, 1051, 675, 676, 677, 678, 679, 680, 681, 682, 684, 11, 685, 687, 688, 689, 691, 692] (by decide +kernel)
set_option maxRecDepth 20000 in
theorem li_wsL_law0_r20 : ∀ w ∈ wsL_law0_r20, w ∈ lw_tbl := li_m [693, 694, 456, 457, 458, 459, 460, 461, 462, 463, 480, 481, 482, 696, 697, 698, 699, 700, 702, 12, 703, 704, 705, 706] (by decide +kernel)
set_option maxRecDepth 20000 in
theorem li_wsL_law0_r21 : ∀ w ∈ wsL_law0_r21, w ∈ lw_tbl := li_m [707, 1052, 1053, 1054, 1055, 1056, 1058, 36, 1059, 1060, 1062, 37, 1063, 1064, 1066, 38, 1067, 1068, 1070, 39, 1071, 708, 709, 710] (by decide +kernel)
set_option maxRecDepth 20000 in
theorem li_wsL_law0_r22 : ∀ w ∈ wsL_law0_r22, w ∈ lw_tbl := li_m [711, 712, 713, 714, 715, 717, 1072, 1073, 1074, 1075, 718, 719, 720, 721, 722, 723, 724, 726, 727, 728, 729, 730, 731, 732] (by decide +kernel)
set_option maxRecDepth 20000 in
theorem li_wsL_law0_r23 : ∀ w ∈ wsL_law0_r23, w ∈ lw_tbl := li_m [733, 734, 736, 13, 737, 738, 1076, 1077, 1078, 1079, 1080, 1082, 40, 1083, 1084, 1086, 41, 1087, 739, 740, 741, 742, 743, 744] (by decide +kernel)
set_option maxRecDepth 20000 in
theorem li_wsL_law0_r24 : ∀ w ∈ wsL_law0_r24, w ∈ lw_tbl := li_m [745, 746, 747, 748, 750, 751, 752, 753, 754, 755, 756, 757, 1088, 1089, 1090, 1091, 1092, 1093, 1094, 758, 759, 760, 761, 762] (by decide +kernel)
set_option maxRecDepth 20000 in
theorem li_wsL_law0_r25 : ∀ w ∈ wsL_law0_r25, w ∈ lw_tbl := li_m [763, 764, 765, 766, 767, 768, 200, 770, 771, 772, 773, 1095, 1096, 1097, 1098, 894, 217, 218, 219, 220, 221, 222, 223, 224] (by decide +kernel)
set_option maxRecDepth 20000 in
theorem li_wsL_law0_r26 : ∀ w ∈ wsL_law0_r26, w ∈ lw_tbl := li_m [1099, 1100, 1101, 1102, 225, 226, 227, 228, 229, 230, 231, 232, 233, 234, 235, 236, 237, 238, 239, 240, 241, 242, 243, 244] (by decide +kernel)
set_option maxRecDepth 20000 in
theorem li_wsL_law0_r27 : ∀ w ∈ wsL_law0_r27, w ∈ lw_tbl := li_m [245, 246, 247, 248, 249, 250, 251, 1103, 1104, 1105, 1106, 1107, 1109, 42, 1110, 898, 900, 1111, 1113, 43, 1114, 899, 1115, 1117] (by decide +kernel)
set_option maxRecDepth 20000 in
theorem li_wsL_law0_r28 : ∀ w ∈ wsL_law0_r28, w ∈ lw_tbl := li_m [44, 1118, 774, 775, 776, 777, 778, 779, 780, 781, 782, 783, 784, 786, 788, 14, 789, 483, 790, 791, 792, 793, 794, 795] (by decide +kernel)
set_option maxRecDepth 20000 in
theorem li_wsL_law0_r29 : ∀ w ∈ wsL_law0_r29, w ∈ lw_tbl := li_m [796, 797, 1119, 1120, 1121, 1122, 1123, 1125, 45, 1126, 798, 799, 800, 801, 802, 803, 804, 806, 807, 808, 809, 1127, 1128, 1129] (by decide +kernel)
set_option maxRecDepth 20000 in
theorem li_wsL_law0_r30 : ∀ w ∈ wsL_law0_r30, w ∈ lw_tbl := li_m [1130, 810, 811, 812, 813, 814, 815, 816, 362, 363, 364, 365, 385, 386, 387, 388, 396, 389, 397, 399, 2, 400, 1131, 1132] (by decide +kernel)
set_option maxRecDepth 20000 in
theorem li_wsL_law0_r31 : ∀ w ∈ wsL_law0_r31, w ∈ lw_tbl := li_m [1133, 1134, 1135, 1137, 46, 1138, 1139, 1141, 47, 1142, 817, 818, 819, 820, 821, 822, 823, 452, 453, 454, 455, 1143, 1144, 1145] (by decide +kernel)
set_option maxRecDepth 20000 in
theorem li_wsL_law0_r32 : ∀ w ∈ wsL_law0_r32, w ∈ lw_tbl := li_m [1146, 1147, 1149, 48, 1150, 1151, 1153, 49, 1154, 824, 825, 826, 827, 828, 829, 830, 464, 465, 466, 467, 468, 469, 470, 471] (by decide +kernel)
set_option maxRecDepth 20000 in
theorem li_wsL_law0_r33 : ∀ w ∈ wsL_law0_r33, w ∈ lw_tbl := li_m [472, 473, 474, 475, 476, 478, 4, 479, 1155, 1156, 1157, 1158, 1159, 1161, 50, 1162, 1163, 1165, 51, 1166, 1167, 1169, 52, 1170] (by decide +kernel)
set_option maxRecDepth 20000 in
theorem li_wsL_law0_r34 : ∀ w ∈ wsL_law0_r34, w ∈ lw_tbl := li_m [831, 832, 833, 834, 258, 259, 260, 332, 333, 334, 335, 336, 340, 341, 342, 343, 1171, 1172, 1173, 1174, 1175, 1177, 53, 1178] (by decide +kernel)
set_option maxRecDepth 20000 in
theorem li_wsL_law0_r35 : ∀ w ∈ wsL_law0_r35, w ∈ lw_tbl := li_m [1179, 1181, 54, 1182, 835, 836, 837, 838, 839, 840, 841, 842, 1183, 1184, 1185, 1186, 843, 844, 845, 846, 847, 848, 849, 402] (by decide +kernel)
set_option maxRecDepth 20000 in
theorem li_wsL_law0_r36 : ∀ w ∈ wsL_law0_r36, w ∈ lw_tbl := li_m [1187, 1188, 1189, 1190, 850, 851, 852, 853, 854, 855, 856, 414, 415, 416, 417, 422, 423, 424, 418, 1191, 1192, 1193, 1194, 1195] (by decide +kernel)
set_option maxRecDepth 20000 in
theorem li_wsL_law0_r37 : ∀ w ∈ wsL_law0_r37, w ∈ lw_tbl := li_m [1197, 55, 1198, 857, 858, 859, 860, 861, 862, 863, 425, 1199, 1200, 1201, 1202, 1203, 1205, 56, 1206, 864, 865, 866, 867, 868] (by decide +kernel)
set_option maxRecDepth 20000 in
theorem li_wsL_law0_r38 : ∀ w ∈ wsL_law0_r38, w ∈ lw_tbl := li_m [869, 870, 426, 1207, 1208, 1209, 1210, 871, 872, 873, 874, 875, 876, 877, 427, 428, 429, 430, 442, 431, 437, 439, 3, 440] (by decide +kernel)
set_option maxRecDepth 20000 in
theorem li_wsL_law0_r39 : ∀ w ∈ wsL_law0_r39, w ∈ lw_tbl := li_m [441, 1211, 1212, 1213, 1214, 1215, 1217, 57, 1218, 878, 879, 880, 881, 882, 883, 884, 443, 444, 445, 446, 1219, 1220, 1221, 1222] (by decide +kernel)
set_option maxRecDepth 20000 in
theorem li_wsL_law0_r40 : ∀ w ∈ wsL_law0_r40, w ∈ lw_tbl := li_m [1223, 1225, 58, 1226, 252, 253, 254, 255, 256, 257, 353, 354, 355, 356, 358, 360, 1, 361, 447, 448, 449, 450, 451, 1227] (by decide +kernel)
set_option maxRecDepth 20000 in
theorem li_wsL_law0_r41 : ∀ w ∈ wsL_law0_r41, w ∈ lw_tbl := li_m [1228, 1229, 1230, 1231, 901, 1232, 1234, 59, 1235, 1236, 1237, 1239, 60, 1240, 1241, 1242, 77, 1243, 1247, 1249, 1248, 77, 1250, 1244] (by decide +kernel)
set_option maxRecDepth 20000 in
theorem li_wsL_law0_r42 : ∀ w ∈ wsL_law0_r42, w ∈ lw_tbl := li_m [1245, 1246] (by decide +kernel)
set_option maxRecDepth 20000 in
theorem li_wsX00 : ∀ w ∈ wsX00, w ∈ lw_tbl := li_m [148, 150, 152, 154, 156, 158, 160, 162, 164, 166, 168, 170] (by decide +kernel)
set_option maxRecDepth 20000 in
theorem li_wsX10 : ∀ w ∈ wsX10, w ∈ lw_tbl := li_m [186, 188, 190] (by decide +kernel)
set_option maxRecDepth 20000 in
theorem li_wsX20 : ∀ w ∈ wsX20, w ∈ lw_tbl := li_m [126] (by decide +kernel)
set_option maxRecDepth 20000 in
theorem li_wsX30 : ∀ w ∈ wsX30, w ∈ lw_tbl := li_m [114, 116, 118, 120] (by decide +kernel)
set_option maxRecDepth 20000 in
theorem li_wsX40 : ∀ w ∈ wsX40, w ∈ lw_tbl := li_m [202, 204] (by decide +kernel)
set_option maxRecDepth 20000 in
theorem li_wsX50 : ∀ w ∈ wsX50, w ∈ lw_tbl := li_m [210, 212, 214] (by decide +kernel)
set_option maxRecDepth 20000 in
theorem li_wsX60 : ∀ w ∈ wsX60, w ∈ lw_tbl := li_m [902, 904, 906, 908, 910, 912, 914, 916, 918, 920, 922] (by decide +kernel)
set_option maxRecDepth 20000 in
theorem li_x0 : ∀ w ∈ (vx_atS RX5 46 "java/lang/IllegalStateException" ["java/lang/RuntimeException", "java/lang/Exception"]).filter goodWord, w ∈ lw_tbl := li_m [70, 286, 295, 299, 302, 304, 287, 288, 84, 85, 289, 294, 300, 320, 276, 321, 278, 322, 280, 290, 292, 282, 316, 317, 319, 282, 537, 538, 539, 310, 310, 311, 312, 313, 313, 314, 315, 316, 536, 527, 529, 297, 530, 531, 532, 533, 285, 284, 534] (by decide +kernel)
set_option maxRecDepth 20000 in
theorem li_x1 : ∀ w ∈ (vx_atS RX5 238 "java/lang/IndexOutOfBoundsException" ["java/lang/RuntimeException", "java/lang/Exception"]).filter goodWord, w ∈ lw_tbl := li_m [70, 286, 295, 299, 302, 304, 287, 288, 84, 85, 289, 294, 300, 320, 276, 321, 278, 322, 280, 290, 292, 282, 316, 317, 319, 282, 509, 510, 511, 310, 310, 311, 312, 313, 313, 314, 315, 316, 508, 499, 501, 298, 502, 503, 504, 505, 285, 284, 506] (by decide +kernel)
set_option maxRecDepth 20000 in
theorem li_x2 : ∀ w ∈ (vx_atS RX5 149 "java/lang/IllegalArgumentException" ["java/lang/RuntimeException", "java/lang/Exception"]).filter goodWord, w ∈ lw_tbl := li_m [70, 286, 295, 299, 302, 304, 287, 288, 84, 85, 289, 294, 300, 320, 276, 321, 278, 322, 280, 290, 292, 282, 316, 317, 319, 282, 307, 308, 309, 310, 310, 311, 312, 313, 313, 314, 315, 316, 306, 265, 273, 274, 275, 277, 279, 281, 285, 284, 283] (by decide +kernel)
theorem wsL_law_in0 : ∀ w ∈ wsL_law0, w ∈ lw_tbl := (li_a (li_a (li_a (li_a (li_a (li_a (li_a (li_a (li_a li_wsL_law0_r1 (li_a li_wsL_law0_r2 (li_a li_wsL_law0_r3 (li_a li_wsL_law0_r4 (li_a li_wsL_law0_r5 (li_a li_wsL_law0_r6 (li_a li_wsL_law0_r7 (li_a li_wsL_law0_r8 (li_a li_wsL_law0_r9 (li_a li_wsL_law0_r10 (li_a li_wsL_law0_r11 (li_a li_wsL_law0_r12 (li_a li_wsL_law0_r13 (li_a li_wsL_law0_r14 (li_a li_wsL_law0_r15 (li_a li_wsL_law0_r16 (li_a li_wsL_law0_r17 (li_a li_wsL_law0_r18 (li_a li_wsL_law0_r19 (li_a li_wsL_law0_r20 (li_a li_wsL_law0_r21 (li_a li_wsL_law0_r22 (li_a li_wsL_law0_r23 (li_a li_wsL_law0_r24 (li_a li_wsL_law0_r25 (li_a li_wsL_law0_r26 (li_a li_wsL_law0_r27 (li_a li_wsL_law0_r28 (li_a li_wsL_law0_r29 (li_a li_wsL_law0_r30 (li_a li_wsL_law0_r31 (li_a li_wsL_law0_r32 (li_a li_wsL_law0_r33 (li_a li_wsL_law0_r34 (li_a li_wsL_law0_r35 (li_a li_wsL_law0_r36 (li_a li_wsL_law0_r37 (li_a li_wsL_law0_r38 (li_a li_wsL_law0_r39 (li_a li_wsL_law0_r40 (li_a li_wsL_law0_r41 li_wsL_law0_r42))))))))))))))))))))))))))))))))))))))))) li_wsX50) li_wsX60) li_wsX00) li_wsX10) li_wsX40) li_wsX20) li_wsX30) (fun w h => absurd h List.not_mem_nil))
theorem wsL_law_in : ∀ w ∈ wsL_law, w ∈ lw_tbl := li_a (li_a (li_a wsL_law_in0 li_x0) li_x1) li_x2
theorem inlX0 : ∀ w ∈ wsX00, w ∈ wsL_law := fun _ h => List.mem_append_left _ (List.mem_append_left _ (List.mem_append_left _ (List.mem_append_left _ (List.mem_append_left _ (List.mem_append_left _ (List.mem_append_left _ (List.mem_append_left _ (List.mem_append_right _ h))))))))
theorem inX0 : ∀ w ∈ wsX00, w ∈ lw_tbl := fun w h => wsL_law_in w (inlX0 w h)
theorem inlX1 : ∀ w ∈ wsX10, w ∈ wsL_law := fun _ h => List.mem_append_left _ (List.mem_append_left _ (List.mem_append_left _ (List.mem_append_left _ (List.mem_append_left _ (List.mem_append_left _ (List.mem_append_left _ (List.mem_append_right _ h)))))))
theorem inX1 : ∀ w ∈ wsX10, w ∈ lw_tbl := fun w h => wsL_law_in w (inlX1 w h)
theorem inlX2 : ∀ w ∈ wsX20, w ∈ wsL_law := fun _ h => List.mem_append_left _ (List.mem_append_left _ (List.mem_append_left _ (List.mem_append_left _ (List.mem_append_left _ (List.mem_append_right _ h)))))
theorem inX2 : ∀ w ∈ wsX20, w ∈ lw_tbl := fun w h => wsL_law_in w (inlX2 w h)
theorem inlX3 : ∀ w ∈ wsX30, w ∈ wsL_law := fun _ h => List.mem_append_left _ (List.mem_append_left _ (List.mem_append_left _ (List.mem_append_left _ (List.mem_append_right _ h))))
theorem inX3 : ∀ w ∈ wsX30, w ∈ lw_tbl := fun w h => wsL_law_in w (inlX3 w h)
theorem inlX4 : ∀ w ∈ wsX40, w ∈ wsL_law := fun _ h => List.mem_append_left _ (List.mem_append_left _ (List.mem_append_left _ (List.mem_append_left _ (List.mem_append_left _ (List.mem_append_left _ (List.mem_append_right _ h))))))
theorem inX4 : ∀ w ∈ wsX40, w ∈ lw_tbl := fun w h => wsL_law_in w (inlX4 w h)
theorem inlX5 : ∀ w ∈ wsX50, w ∈ wsL_law := fun _ h => List.mem_append_left _ (List.mem_append_left _ (List.mem_append_left _ (List.mem_append_left _ (List.mem_append_left _ (List.mem_append_left _ (List.mem_append_left _ (List.mem_append_left _ (List.mem_append_left _ (List.mem_append_left _ (List.mem_append_right _ h))))))))))
theorem inX5 : ∀ w ∈ wsX50, w ∈ lw_tbl := fun w h => wsL_law_in w (inlX5 w h)
theorem inlX6 : ∀ w ∈ wsX60, w ∈ wsL_law := fun _ h => List.mem_append_left _ (List.mem_append_left _ (List.mem_append_left _ (List.mem_append_left _ (List.mem_append_left _ (List.mem_append_left _ (List.mem_append_left _ (List.mem_append_left _ (List.mem_append_left _ (List.mem_append_right _ h)))))))))
theorem inX6 : ∀ w ∈ wsX60, w ∈ lw_tbl := fun w h => wsL_law_in w (inlX6 w h)
