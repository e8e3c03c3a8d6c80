/-! 12a: the words stand in the tables -/
theorem tb_of {ws : List Cond} (ps : List Nat) (h : ws = ps.filterMap (fun i => lw_tbl[i]?)) : ∀ w ∈ ws, w ∈ lw_tbl := fun w hw => by
  rw [h] at hw
  obtain ⟨i, -, hi⟩ := List.mem_filterMap.mp hw
  exact List.mem_of_getElem? hi
set_option maxRecDepth 100000 in
theorem tb_wt0 : ∀ w ∈ wt0, w ∈ lw_tbl := tb_of [78, 79, 823, 824, 80, 81, 82, 83, 84, 85, 86, 88, 89, 115, 116, 140, 141, 162, 163, 182, 184, 185, 218, 219, 239] (by decide +kernel)
set_option maxRecDepth 100000 in
theorem tb_wt1 : ∀ w ∈ wt1, w ∈ lw_tbl := tb_of [240, 114, 263, 278, 91, 92, 93, 118, 119, 120, 121, 143, 144, 145, 146, 165, 166, 167, 187, 188, 189, 221, 222, 223, 238] (by decide +kernel)
set_option maxRecDepth 100000 in
theorem tb_wt2 : ∀ w ∈ wt2, w ∈ lw_tbl := tb_of [242, 243, 244, 264, 265, 266, 267, 280, 281, 282, 825, 826, 827, 828, 340, 341, 342, 343, 948, 949, 950, 951, 430, 431, 432] (by decide +kernel)
set_option maxRecDepth 100000 in
theorem tb_wt3 : ∀ w ∈ wt3, w ∈ lw_tbl := tb_of [433, 956, 957, 958, 959, 434, 435, 436, 437, 960, 961, 962, 963, 438, 964, 965, 966, 967, 442, 443, 444, 445, 988, 989, 990] (by decide +kernel)
set_option maxRecDepth 100000 in
theorem tb_wt4 : ∀ w ∈ wt4, w ∈ lw_tbl := tb_of [991, 454, 1000, 1001, 1002, 1003, 462, 463, 464, 465, 1009, 480, 481, 482, 483, 1015, 1016, 1017, 1018, 488, 489, 490, 491, 1019, 1020] (by decide +kernel)
set_option maxRecDepth 100000 in
theorem tb_wt5 : ∀ w ∈ wt5, w ∈ lw_tbl := tb_of [1021, 1022, 496, 1024, 1025, 1026, 1027, 504, 1039, 1040, 1041, 1042, 516, 1075, 1076, 1077, 1078, 525, 1083, 1084, 1085, 1086, 541, 1091, 1092] (by decide +kernel)
set_option maxRecDepth 100000 in
theorem tb_wt6 : ∀ w ∈ wt6, w ∈ lw_tbl := tb_of [1093, 1094, 553, 1103, 1104, 1105, 1106, 561, 562, 563, 564, 1111, 1112, 1113, 1114, 599, 600, 601, 602, 1124, 1125, 1126, 1127, 616, 617] (by decide +kernel)
set_option maxRecDepth 100000 in
theorem tb_wt7 : ∀ w ∈ wt7, w ∈ lw_tbl := tb_of [618, 619, 1136, 1137, 1138, 1139, 640, 641, 642, 643, 1147, 1148, 1149, 1150, 653, 654, 655, 656, 1152, 1153, 1154, 1155, 657, 658, 659] (by decide +kernel)
set_option maxRecDepth 100000 in
theorem tb_wt8 : ∀ w ∈ wt8, w ∈ lw_tbl := tb_of [660, 1156, 1157, 1158, 1159, 678, 1168, 1169, 1170, 1171, 682, 1176, 1177, 1178, 1179, 698, 1184, 1185, 1186, 1187, 741, 1200, 1201, 1202, 1203] (by decide +kernel)
set_option maxRecDepth 100000 in
theorem tb_wt9 : ∀ w ∈ wt9, w ∈ lw_tbl := tb_of [750, 751, 752, 753, 908, 909, 910, 911, 759, 760, 761, 762, 924, 925, 926, 927, 763, 764, 765, 766, 928, 929, 930, 931, 774] (by decide +kernel)
set_option maxRecDepth 100000 in
theorem tb_wt10 : ∀ w ∈ wt10, w ∈ lw_tbl := tb_of [775, 776, 777, 939, 940, 941, 942, 779, 780, 781, 782, 944, 945, 946, 947, 787, 788, 789, 790, 1213, 1214, 1215, 1216, 792, 1220] (by decide +kernel)
set_option maxRecDepth 100000 in
theorem tb_wt11 : ∀ w ∈ wt11, w ∈ lw_tbl := tb_of [796, 797, 798, 799, 1224, 1225, 1226, 1227] (by decide +kernel)
set_option maxRecDepth 100000 in
theorem tb_wg0 : ∀ w ∈ wg0, w ∈ lw_tbl := tb_of [75, 398, 397, 636, 389, 725, 739, 729, 715, 735, 1135, 1183, 1050, 1143, 986, 1192, 974, 1119, 1035, 1223, 938, 995, 923, 1110, 1074] (by decide +kernel)
set_option maxRecDepth 100000 in
theorem tb_wg1 : ∀ w ∈ wg1, w ∈ lw_tbl := tb_of [918, 1007, 999, 1038, 1031, 1167, 914, 1045, 1123, 954, 935, 1219, 1163, 1054, 1207, 1211, 1198, 1146, 1066, 1195, 1082, 1062, 982, 971, 1131] (by decide +kernel)
set_option maxRecDepth 100000 in
theorem tb_wg2 : ∀ w ∈ wg2, w ∈ lw_tbl := tb_of [1012, 1070, 1058, 1238, 1234, 1102, 1098, 1175, 1090, 379, 383, 386, 370, 363, 367, 453, 409, 406, 598, 610, 572, 477, 720, 710, 487] (by decide +kernel)
set_option maxRecDepth 100000 in
theorem tb_wg3 : ∀ w ∈ wg3, w ∈ lw_tbl := tb_of [473, 468, 786, 773, 757, 672, 651, 647, 354, 374, 350, 614, 560, 523, 503, 552, 425, 422, 429, 418, 515, 511, 413, 593, 627] (by decide +kernel)
set_option maxRecDepth 100000 in
theorem tb_wg4 : ∀ w ∈ wg4, w ∈ lw_tbl := tb_of [588, 548, 632, 536, 532, 685, 507, 701, 457, 668, 795, 814, 807, 748, 441, 706, 495, 556, 694, 461, 449, 346, 769, 402, 499] (by decide +kernel)
set_option maxRecDepth 100000 in
theorem tb_wg5 : ∀ w ∈ wg5, w ∈ lw_tbl := tb_of [677, 664, 576, 744, 519, 623, 568, 606, 395, 690, 544, 584, 681, 359, 528, 225, 226, 224, 836, 838, 830, 840, 850, 831, 848] (by decide +kernel)
set_option maxRecDepth 100000 in
theorem tb_wg6 : ∀ w ∈ wg6, w ∈ lw_tbl := tb_of [849, 832, 834, 851, 835, 854, 837, 839, 841, 844, 845, 846, 847, 852, 853, 843, 842, 833, 829, 123, 125, 129, 127, 95, 97] (by decide +kernel)
set_option maxRecDepth 100000 in
theorem tb_wg7 : ∀ w ∈ wg7, w ∈ lw_tbl := tb_of [101, 99, 94, 246, 247, 248, 250, 245, 148, 149, 151, 147, 289, 285, 287, 283, 169, 170, 171, 168, 269, 268, 192, 194, 195] (by decide +kernel)
set_option maxRecDepth 100000 in
theorem tb_wg8 : ∀ w ∈ wg8, w ∈ lw_tbl := tb_of [196, 197, 200, 190, 300, 301, 302, 312, 303, 577, 579, 304, 305, 306, 307, 308, 309, 310, 311, 723, 737, 728, 713, 1134, 1182] (by decide +kernel)
set_option maxRecDepth 100000 in
theorem tb_wg9 : ∀ w ∈ wg9, w ∈ lw_tbl := tb_of [1049, 1142, 985, 1191, 1118, 1034, 1221, 994, 922, 1109, 1073, 1006, 998, 1030, 1166, 1122, 934, 1162, 1053, 1206, 1210, 1065, 1081, 1061, 981] (by decide +kernel)
set_option maxRecDepth 100000 in
theorem tb_wg10 : ∀ w ∈ wg10, w ∈ lw_tbl := tb_of [970, 1130, 1010, 1069, 1057, 1237, 1233, 1101, 1097, 1174, 1089, 377, 382, 361, 366, 451, 404, 596, 608, 570, 475, 718, 708, 485, 471] (by decide +kernel)
set_option maxRecDepth 100000 in
theorem tb_wg11 : ∀ w ∈ wg11, w ∈ lw_tbl := tb_of [784, 771, 755, 670, 649, 645, 352, 372, 348, 612, 558, 521, 501, 550, 421, 428, 417, 513, 509, 411, 591, 625, 586, 546, 630] (by decide +kernel)
set_option maxRecDepth 100000 in
theorem tb_wg12 : ∀ w ∈ wg12, w ∈ lw_tbl := tb_of [534, 530, 683, 505, 699, 455, 667, 793, 813, 806, 747, 439, 705, 494, 554, 693, 460, 448, 401, 497, 676, 663, 575, 742, 517] (by decide +kernel)
set_option maxRecDepth 100000 in
theorem tb_wg13 : ∀ w ∈ wg13, w ∈ lw_tbl := tb_of [622, 567, 605, 394, 689, 542, 583, 679, 358, 526, 637, 638, 639, 731, 977, 978, 987, 1046, 1008, 1013, 1014, 1115, 1151, 1188, 1212] (by decide +kernel)
set_option maxRecDepth 100000 in
theorem tb_wg14 : ∀ w ∈ wg14, w ∈ lw_tbl := tb_of [1229, 1228, 1199, 915, 919, 943, 955, 975, 976, 702, 740, 778, 800, 801, 749, 716, 726, 733, 730, 732, 972, 983, 968, 979, 992] (by decide +kernel)
set_option maxRecDepth 100000 in
theorem tb_wg15 : ∀ w ∈ wg15, w ∈ lw_tbl := tb_of [996, 1004, 1023, 1036, 1032, 1028, 1067, 1071, 1059, 1063, 1055, 1051, 1043, 1047, 1079, 1087, 1099, 1095, 1107, 1120, 1116, 1132, 1128, 1144, 1140] (by decide +kernel)
set_option maxRecDepth 100000 in
theorem tb_wg16 : ∀ w ∈ wg16, w ∈ lw_tbl := tb_of [1164, 1160, 1172, 1180, 1193, 1189, 1196, 1208, 1204, 1217, 1230, 1231, 1235, 916, 912, 920, 932, 936, 952, 380, 384, 390, 387, 364, 368] (by decide +kernel)
set_option maxRecDepth 100000 in
theorem tb_wg17 : ∀ w ∈ wg17, w ∈ lw_tbl := tb_of [371, 407, 478, 479, 721, 711, 758, 652, 673, 355, 589, 414, 415, 419, 423, 426, 512, 540, 549, 633, 634, 533, 537, 615, 446] (by decide +kernel)
set_option maxRecDepth 100000 in
theorem tb_wg18 : ∀ w ∈ wg18, w ∈ lw_tbl := tb_of [450, 458, 466, 470, 474, 392, 484, 492, 500, 508, 520, 524, 529, 545, 557, 565, 595, 603, 620, 644, 648, 661, 674, 669, 573] (by decide +kernel)
set_option maxRecDepth 100000 in
theorem tb_wg19 : ∀ w ∈ wg19, w ∈ lw_tbl := tb_of [581, 686, 665, 687, 691, 703, 722, 736, 745, 754, 767, 770, 783, 396, 791, 629, 611, 802, 803, 804, 811, 821, 822, 808, 809] (by decide +kernel)
set_option maxRecDepth 100000 in
theorem tb_wg20 : ∀ w ∈ wg20, w ∈ lw_tbl := tb_of [810, 815, 816, 817, 818, 819, 820, 360, 376, 399, 410, 403, 585, 590, 569, 594, 607, 624, 695, 707, 712, 717, 344, 347, 351] (by decide +kernel)
set_option maxRecDepth 100000 in
theorem tb_wg21 : ∀ w ∈ wg21, w ∈ lw_tbl := tb_of [356, 76, 697, 696, 539, 538, 77, 74, 69, 65, 73, 64, 70, 66, 72, 67, 71, 68, 63, 724, 738, 22, 714, 51, 56] (by decide +kernel)
set_option maxRecDepth 100000 in
theorem tb_wg22 : ∀ w ∈ wg22, w ∈ lw_tbl := tb_of [36, 52, 30, 57, 48, 35, 1222, 31, 26, 47, 42, 33, 32, 34, 54, 49, 27, 53, 37, 58, 59, 40, 43, 39, 29] (by decide +kernel)
set_option maxRecDepth 100000 in
theorem tb_wg23 : ∀ w ∈ wg23, w ∈ lw_tbl := tb_of [28, 50, 1011, 41, 38, 61, 60, 46, 45, 55, 44, 378, 2, 362, 1, 452, 405, 597, 609, 571, 476, 719, 709, 486, 472] (by decide +kernel)
set_option maxRecDepth 100000 in
theorem tb_wg24 : ∀ w ∈ wg24, w ∈ lw_tbl := tb_of [785, 772, 756, 671, 650, 646, 353, 373, 349, 613, 559, 522, 502, 551, 6, 7, 5, 514, 510, 412, 592, 626, 587, 547, 631] (by decide +kernel)
set_option maxRecDepth 100000 in
theorem tb_wg25 : ∀ w ∈ wg25, w ∈ lw_tbl := tb_of [535, 531, 684, 506, 700, 456, 17, 794, 25, 24, 23, 440, 21, 10, 555, 20, 9, 8, 4, 498, 18, 16, 12, 743, 518] (by decide +kernel)
set_option maxRecDepth 100000 in
theorem tb_wg26 : ∀ w ∈ wg26, w ∈ lw_tbl := tb_of [15, 11, 14, 3, 19, 543, 13, 680, 0, 527, 635, 388, 734, 973, 937, 917, 1037, 913, 1044, 953, 1218, 1197, 1145, 1194, 385] (by decide +kernel)
set_option maxRecDepth 100000 in
theorem tb_wg27 : ∀ w ∈ wg27, w ∈ lw_tbl := tb_of [369, 408, 467, 424, 345, 768] (by decide +kernel)
set_option maxRecDepth 100000 in
theorem tb_wsX00 : ∀ w ∈ wsX00, w ∈ lw_tbl := tb_of [229, 231, 233, 235] (by decide +kernel)
set_option maxRecDepth 100000 in
theorem tb_wsX10 : ∀ w ∈ wsX10, w ∈ lw_tbl := tb_of [131, 133, 135, 137] (by decide +kernel)
set_option maxRecDepth 100000 in
theorem tb_wsX20 : ∀ w ∈ wsX20, w ∈ lw_tbl := tb_of [103, 105, 107, 109, 111] (by decide +kernel)
set_option maxRecDepth 100000 in
theorem tb_wsX30 : ∀ w ∈ wsX30, w ∈ lw_tbl := tb_of [252, 254, 256, 258, 260] (by decide +kernel)
set_option maxRecDepth 100000 in
theorem tb_wsX40 : ∀ w ∈ wsX40, w ∈ lw_tbl := tb_of [153, 155, 157, 159] (by decide +kernel)
set_option maxRecDepth 100000 in
theorem tb_wsX50 : ∀ w ∈ wsX50, w ∈ lw_tbl := tb_of [291, 293, 295, 297] (by decide +kernel)
set_option maxRecDepth 100000 in
theorem tb_wsX60 : ∀ w ∈ wsX60, w ∈ lw_tbl := tb_of [173, 175, 177, 179] (by decide +kernel)
set_option maxRecDepth 100000 in
theorem tb_wsX70 : ∀ w ∈ wsX70, w ∈ lw_tbl := tb_of [273, 275] (by decide +kernel)
set_option maxRecDepth 100000 in
theorem tb_wsX80 : ∀ w ∈ wsX80, w ∈ lw_tbl := tb_of [203, 205, 207, 209, 211, 213, 215] (by decide +kernel)
set_option maxRecDepth 100000 in
theorem tb_wsX90 : ∀ w ∈ wsX90, w ∈ lw_tbl := tb_of [313, 315, 317, 319, 321, 323, 325, 327, 329, 331, 333, 335, 337] (by decide +kernel)
set_option maxRecDepth 100000 in
theorem tb_wsX100 : ∀ w ∈ wsX100, w ∈ lw_tbl := tb_of [855, 857, 859, 861, 863, 865, 867, 869, 871, 873, 875, 877, 879, 881, 883, 885, 887, 889, 891, 893, 895, 897, 899, 901, 903, 905] (by decide +kernel)
def nFw : List Cond := nF.map (fun q => Cond.fieldLinkNest q.1 q.2.1 q.2.2.1 q.2.2.2.1 q.2.2.2.2.1 q.2.2.2.2.2)
def nMw : List Cond := nM.map (fun q => Cond.methodLinkNest q.1 q.2.1 q.2.2.1 q.2.2.2)
theorem tb_nF : ∀ w ∈ nFw, w ∈ lw_tbl := tb_of [102, 130, 126, 124, 152, 290, 288, 284, 128, 249, 251, 172, 98, 286, 100, 228, 198, 202, 193, 191, 96, 150, 227, 272, 199, 271, 270, 201] (by decide +kernel)
theorem tb_nM : ∀ w ∈ nMw, w ∈ lw_tbl := tb_of [90, 117, 142, 164, 186, 220, 241, 279, 391, 375, 469, 628] (by decide +kernel)
theorem tb_aoT : Cond.arrayOver (.object "BowingBridges$Text") ∈ lw_tbl := List.mem_of_getElem? (i := 87) (by decide +kernel)
theorem tb_aoS : Cond.arrayOver (.object "BowingBridges$Sheet") ∈ lw_tbl := List.mem_of_getElem? (i := 183) (by decide +kernel)
theorem tb_aoA : Cond.arrayOver (.array .int) ∈ lw_tbl := List.mem_of_getElem? (i := 122) (by decide +kernel)
theorem tb_lsF : Cond.laysStatic "BowingBridges" "CARGO_FIRST" "[I" ∈ lw_tbl := List.mem_of_getElem? (i := 578) (by decide +kernel)
theorem tb_lsS : Cond.laysStatic "BowingBridges" "CARGO_SECOND" "[I" ∈ lw_tbl := List.mem_of_getElem? (i := 580) (by decide +kernel)
theorem tb_G : ∀ w ∈ wG, w ∈ lw_tbl := List.forall_mem_append.mpr ⟨tb_wg0, List.forall_mem_append.mpr ⟨tb_wg1, List.forall_mem_append.mpr ⟨tb_wg2, List.forall_mem_append.mpr ⟨tb_wg3, List.forall_mem_append.mpr ⟨tb_wg4, List.forall_mem_append.mpr ⟨tb_wg5, List.forall_mem_append.mpr ⟨tb_wg6, List.forall_mem_append.mpr ⟨tb_wg7, List.forall_mem_append.mpr ⟨tb_wg8, List.forall_mem_append.mpr ⟨tb_wg9, List.forall_mem_append.mpr ⟨tb_wg10, List.forall_mem_append.mpr ⟨tb_wg11, List.forall_mem_append.mpr ⟨tb_wg12, List.forall_mem_append.mpr ⟨tb_wg13, List.forall_mem_append.mpr ⟨tb_wg14, List.forall_mem_append.mpr ⟨tb_wg15, List.forall_mem_append.mpr ⟨tb_wg16, List.forall_mem_append.mpr ⟨tb_wg17, List.forall_mem_append.mpr ⟨tb_wg18, List.forall_mem_append.mpr ⟨tb_wg19, List.forall_mem_append.mpr ⟨tb_wg20, List.forall_mem_append.mpr ⟨tb_wg21, List.forall_mem_append.mpr ⟨tb_wg22, List.forall_mem_append.mpr ⟨tb_wg23, List.forall_mem_append.mpr ⟨tb_wg24, List.forall_mem_append.mpr ⟨tb_wg25, List.forall_mem_append.mpr ⟨tb_wg26, List.forall_mem_append.mpr ⟨tb_wg27, List.forall_mem_append.mpr ⟨tb_wsX00, List.forall_mem_append.mpr ⟨tb_wsX10, List.forall_mem_append.mpr ⟨tb_wsX20, List.forall_mem_append.mpr ⟨tb_wsX30, List.forall_mem_append.mpr ⟨tb_wsX40, List.forall_mem_append.mpr ⟨tb_wsX50, List.forall_mem_append.mpr ⟨tb_wsX60, List.forall_mem_append.mpr ⟨tb_wsX70, List.forall_mem_append.mpr ⟨tb_wsX80, List.forall_mem_append.mpr ⟨tb_wsX90, tb_wsX100⟩⟩⟩⟩⟩⟩⟩⟩⟩⟩⟩⟩⟩⟩⟩⟩⟩⟩⟩⟩⟩⟩⟩⟩⟩⟩⟩⟩⟩⟩⟩⟩⟩⟩⟩⟩⟩⟩
theorem tb_T : ∀ w ∈ wT, w ∈ lw_tbl := List.forall_mem_append.mpr ⟨tb_wt0, List.forall_mem_append.mpr ⟨tb_wt1, List.forall_mem_append.mpr ⟨tb_wt2, List.forall_mem_append.mpr ⟨tb_wt3, List.forall_mem_append.mpr ⟨tb_wt4, List.forall_mem_append.mpr ⟨tb_wt5, List.forall_mem_append.mpr ⟨tb_wt6, List.forall_mem_append.mpr ⟨tb_wt7, List.forall_mem_append.mpr ⟨tb_wt8, List.forall_mem_append.mpr ⟨tb_wt9, List.forall_mem_append.mpr ⟨tb_wt10, List.forall_mem_append.mpr ⟨tb_wt11, tb_G⟩⟩⟩⟩⟩⟩⟩⟩⟩⟩⟩⟩
