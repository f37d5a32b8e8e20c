-- PART 73b: the same, on
theorem in_r21 : ∀ w ∈ wsL_law_r21, w ∈ lw_tb2 := mem_of_idx [43, 418, 1014, 419, 420, 421, 422, 423, 1015, 800, 801, 802, 44, 803, 804, 805, 806, 807, 808, 810, 809, 811, 812, 813] (by decide +kernel)
theorem in_r22 : ∀ w ∈ wsL_law_r22, w ∈ lw_tb2 := mem_of_idx [814, 815, 816, 817, 818, 819, 809, 820, 912, 821, 1211, 0, 823, 824, 825, 1212, 1, 827, 828, 829, 1213, 2, 831, 832] (by decide +kernel)
theorem in_r23 : ∀ w ∈ wsL_law_r23, w ∈ lw_tb2 := mem_of_idx [833, 834, 45, 835, 836, 837, 838, 839, 840, 841, 842, 843, 844, 46, 845, 846, 847, 848, 849, 850, 852, 853, 854, 855] (by decide +kernel)
theorem in_r24 : ∀ w ∈ wsL_law_r24, w ∈ lw_tb2 := mem_of_idx [857, 858, 856, 859, 860, 861, 862, 863, 457, 864, 865, 866, 450, 451, 452, 867, 868, 869, 439, 870, 871, 47, 872, 873] (by decide +kernel)
theorem in_r25 : ∀ w ∈ wsL_law_r25, w ∈ lw_tb2 := mem_of_idx [874, 875, 459, 461, 876, 1214, 3, 878, 879, 880, 1215, 4, 882, 883, 884, 1216, 5, 886, 887, 888, 889, 48, 890, 891] (by decide +kernel)
theorem in_r26 : ∀ w ∈ wsL_law_r26, w ∈ lw_tb2 := mem_of_idx [892, 893, 894, 895, 896, 897, 898, 899, 900, 901, 902, 903, 904, 905, 906, 907, 908, 921, 922, 923, 924, 925, 1217, 926] (by decide +kernel)
theorem in_r27 : ∀ w ∈ wsL_law_r27, w ∈ lw_tb2 := mem_of_idx [927, 928, 929, 49, 930, 931, 932, 933, 934, 936, 938, 939, 940, 941, 942, 943, 944, 945, 947, 949, 950, 951, 952, 953] (by decide +kernel)
theorem in_r28 : ∀ w ∈ wsL_law_r28, w ∈ lw_tb2 := mem_of_idx [1218, 954, 955, 956, 957, 958, 959, 960, 961, 447, 448, 449, 453, 437, 438, 441, 442, 443, 968, 969, 970, 971, 972, 973] (by decide +kernel)
theorem in_r29 : ∀ w ∈ wsL_law_r29, w ∈ lw_tb2 := mem_of_idx [974, 975, 976, 977, 978, 979, 980, 911, 981, 983, 984, 982, 985, 986, 988, 987, 989, 990, 991, 992, 987, 993, 994, 995] (by decide +kernel)
theorem in_r30 : ∀ w ∈ wsL_law_r30, w ∈ lw_tb2 := mem_of_idx [996, 997, 998, 999, 1000, 1001, 1002, 1003, 1004, 1005, 1006, 1007, 1008, 1009, 454, 455, 456, 1010, 1011, 1012, 1013, 767, 768, 769] (by decide +kernel)
theorem in_r31 : ∀ w ∈ wsL_law_r31, w ∈ lw_tb2 := mem_of_idx [770, 771, 426, 427, 428, 429, 430, 431, 432, 433, 434, 435, 436, 444, 445, 446, 772, 773, 774, 775, 269, 776, 777, 778] (by decide +kernel)
theorem in_r32 : ∀ w ∈ wsL_law_r32, w ∈ lw_tb2 := mem_of_idx [779, 736, 737, 738, 739, 270, 780, 781, 782, 783, 356, 357, 358, 359, 360, 361, 362, 363, 283, 280, 364, 365, 366, 367] (by decide +kernel)
theorem in_r33 : ∀ w ∈ wsL_law_r33, w ∈ lw_tb2 := mem_of_idx [91, 166, 168, 368, 369, 370, 371, 282, 372, 373, 374, 375, 281, 271, 284, 376, 378, 6, 379, 380, 381, 382, 383, 384] (by decide +kernel)
theorem in_r34 : ∀ w ∈ wsL_law_r34, w ∈ lw_tb2 := mem_of_idx [385, 386, 387, 388, 389, 390, 392, 7, 393, 286, 394, 395, 396, 397, 399, 8, 400, 401, 402, 403, 411, 412, 413, 414] (by decide +kernel)
theorem in_r35 : ∀ w ∈ wsL_law_r35, w ∈ lw_tb2 := mem_of_idx [415, 425, 463, 465, 9, 466, 467, 469, 10, 470, 182, 304, 471, 473, 11, 474, 475, 479, 481, 12, 482, 285, 487, 489] (by decide +kernel)
theorem in_r36 : ∀ w ∈ wsL_law_r36, w ∈ lw_tb2 := mem_of_idx [13, 490, 188, 93, 491, 492, 493, 494, 498, 499, 501, 14, 502, 85, 185, 504, 505, 506, 507, 511, 513, 15, 514, 191] (by decide +kernel)
set_option maxRecDepth 100000 in
theorem cm_37 : Cond.code yL_does cL_does 8 (some .boolean) ∈ lw_tb2 := List.mem_append_right selW (List.mem_append_right (k2_sels lw_privs) (List.mem_append_right _ (List.mem_append_right _ (List.mem_append_right _ (List.mem_append_right _ (List.mem_of_getElem? (i := 189) rfl))))))
theorem in_r37a : ∀ w ∈ ([Cond.methodLink RX4 110 yX2_isOpen, Cond.methodLink RX4 117 yX8_add, Cond.methodLink RX9 85 yX5_forget, Cond.instanceMethod yX5_forget, Cond.selects RX5 yX5_forget yX5_forget, Cond.code yX5_forget cX5_forget 2 none, Cond.methodLink RX9 88 yX0_forget, Cond.instanceMethod yX0_forget, Cond.selects RX0 yX0_forget yX0_forget, Cond.code yX0_forget cX0_forget 1 none, Cond.methodLink RL 194 yX9_errorPosition, Cond.instanceMethod yX9_errorPosition, Cond.selects RX9 yX9_errorPosition yX9_errorPosition, Cond.code yX9_errorPosition cX9_errorPosition 1 (some .int), Cond.methodLink RL 197 yL_does, Cond.static yL_does] : List Cond), w ∈ lw_tb2 := mem_of_idx [515, 519, 548, 549, 550, 551, 552, 553, 554, 555, 556, 557, 558, 559, 1175, 1176] (by decide +kernel)
theorem in_r37b : ∀ w ∈ ([Cond.methodLink RL 129 yL_state, Cond.static yL_state, Cond.code yL_state cL_state 5 (some .long), Cond.constantLong RL 69 (7), Cond.constantLong RL 71 (31), Cond.constantLong RL 76 (101), Cond.constantLong RL 86 (10)] : List Cond), w ∈ lw_tb2 := mem_of_idx [1039, 1040, 1041, 1042, 1043, 1044, 1064] (by decide +kernel)
theorem in_r37 : ∀ w ∈ wsL_law_r37, w ∈ lw_tb2 := mem_app3 in_r37a cm_37 in_r37b
theorem in_r38 : ∀ w ∈ wsL_law_r38, w ∈ lw_tb2 := mem_of_idx [1065, 1178, 1179, 1180, 1181, 1182, 1157, 1158, 1159, 1160, 1148, 1149, 1150, 1151, 76, 1152, 1153, 1154, 1155, 1156, 1183, 1184, 1185, 1186] (by decide +kernel)
theorem in_r39 : ∀ w ∈ wsL_law_r39, w ∈ lw_tb2 := mem_of_idx [1187, 1169, 1170, 1171, 1172, 140, 1173, 1174, 1188, 1189, 1190, 1191, 1192, 1140, 1141, 1142, 1143, 1193, 1194, 1195, 1196, 1197, 1198, 1199] (by decide +kernel)
set_option maxRecDepth 100000 in
theorem cm_40 : Cond.code yL_would cL_would 27 (some .boolean) ∈ lw_tb2 := List.mem_append_right selW (List.mem_append_right (k2_sels lw_privs) (List.mem_append_right _ (List.mem_append_right _ (List.mem_append_right _ (List.mem_append_right _ (List.mem_of_getElem? (i := 151) rfl))))))
theorem in_r40a : ∀ w ∈ ([Cond.code yX5_fill cX5_fill 4 none, Cond.methodLink RX5 22 yX6_copyFrom, Cond.methodLink RL 171 yX9_restore, Cond.instanceMethod yX9_restore, Cond.selects RX9 yX9_restore yX9_restore, Cond.code yX9_restore cX9_restore 3 (some .int), Cond.methodLink RX9 210 yX5_keptIn, Cond.instanceMethod yX5_keptIn, Cond.selects RX5 yX5_keptIn yX5_keptIn, Cond.code yX5_keptIn cX5_keptIn 2 (some (.object "RingOffices$State")), Cond.methodLink RL 201 yL_would, Cond.static yL_would] : List Cond), w ∈ lw_tb2 := mem_of_idx [1200, 1201, 1202, 1203, 1204, 1205, 1206, 1207, 1208, 1209, 1137, 1138] (by decide +kernel)
theorem in_r40b : ∀ w ∈ ([Cond.methodLink RL 138 yX9_ifShut, Cond.instanceMethod yX9_ifShut, Cond.selects RX9 yX9_ifShut yX9_ifShut, Cond.code yX9_ifShut cX9_ifShut 4 (some .int), Cond.methodLink RL 150 yX9_leastQuota, Cond.instanceMethod yX9_leastQuota, Cond.selects RX9 yX9_leastQuota yX9_leastQuota, Cond.code yX9_leastQuota cX9_leastQuota 3 (some .int), Cond.methodLink RL 153 yX9_bestSpeak, Cond.instanceMethod yX9_bestSpeak, Cond.selects RX9 yX9_bestSpeak yX9_bestSpeak] : List Cond), w ∈ lw_tb2 := mem_of_idx [1144, 1145, 1146, 1147, 1161, 1162, 1163, 1164, 1165, 1166, 1167] (by decide +kernel)
theorem in_r40 : ∀ w ∈ wsL_law_r40, w ∈ lw_tb2 := mem_app3 in_r40a cm_40 in_r40b
theorem in_r41 : ∀ w ∈ wsL_law_r41, w ∈ lw_tb2 := mem_of_idx [1168, 1025, 1026, 1027, 1028, 1029, 1030, 1031, 1032, 1033, 723, 724, 725, 726, 727, 729, 23, 730, 732, 733, 734, 735, 740, 741] (by decide +kernel)
theorem in_r42 : ∀ w ∈ wsL_law_r42, w ∈ lw_tb2 := mem_of_idx [742, 743, 744, 747, 748, 750, 24, 751, 755, 757, 25, 758, 762, 763, 764, 765, 1034, 1035, 1036, 1037, 1038] (by decide +kernel)
theorem in_X9 : ∀ w ∈ wsX90, w ∈ lw_tb2 := by decide +kernel
theorem in_X6 : ∀ w ∈ wsX60, w ∈ lw_tb2 := by decide +kernel
theorem in_X0 : ∀ w ∈ wsX00, w ∈ lw_tb2 := by decide +kernel
theorem in_X5 : ∀ w ∈ wsX50, w ∈ lw_tb2 := by decide +kernel
theorem in_X4 : ∀ w ∈ wsX40, w ∈ lw_tb2 := by decide +kernel
theorem in_X3 : ∀ w ∈ wsX30, w ∈ lw_tb2 := by decide +kernel
theorem in_X7 : ∀ w ∈ wsX70, w ∈ lw_tb2 := by decide +kernel
theorem in_X2 : ∀ w ∈ wsX20, w ∈ lw_tb2 := by decide +kernel
theorem in_X8 : ∀ w ∈ wsX80, w ∈ lw_tb2 := by decide +kernel
theorem in_X1 : ∀ w ∈ wsX10, w ∈ lw_tb2 := by decide +kernel
theorem in_J4 : ∀ w ∈ wsJ40, w ∈ lw_tb2 := by decide +kernel
theorem in_J0 : ∀ w ∈ wsJ00, w ∈ lw_tb2 := by decide +kernel
