theorem zz_in {big ws : List Cond} (ps : List Nat) (hp : ws = ps.filterMap (fun i => big[i]?)) : ∀ w ∈ ws, w ∈ big := by
  intro w hw
  rw [hp] at hw
  obtain ⟨i, -, hi⟩ := List.mem_filterMap.mp hw
  exact List.mem_of_getElem? hi
theorem zz_app {big a b : List Cond} (ha : ∀ w ∈ a, w ∈ big) (hb : ∀ w ∈ b, w ∈ big) : ∀ w ∈ a ++ b, w ∈ big := fun w h => (List.mem_append.mp h).elim (ha w) (hb w)
set_option maxRecDepth 20000 in
theorem zl_wsL_law_r1 : ∀ w ∈ wsL_law_r1, w ∈ lw_tbl := zz_in [67, 68, 53, 737, 738, 58, 1146, 69, 70, 71, 72, 73, 74, 75, 76, 54, 254, 255, 252, 83, 55, 256, 77, 78] (by decide +kernel)
set_option maxRecDepth 20000 in
theorem zl_wsL_law_r2 : ∀ w ∈ wsL_law_r2, w ∈ lw_tbl := zz_in [79, 80, 81, 211, 114, 213, 82, 217, 221, 117, 223, 119, 56, 85, 86, 87, 115, 90, 91, 92, 93, 94, 95, 116] (by decide +kernel)
set_option maxRecDepth 20000 in
theorem zl_wsL_law_r3 : ∀ w ∈ wsL_law_r3, w ∈ lw_tbl := zz_in [96, 121, 122, 123, 180, 124, 125, 57, 189, 127, 128, 129, 140, 168, 141, 142, 143, 144, 739, 740, 741, 742, 745, 746] (by decide +kernel)
set_option maxRecDepth 20000 in
theorem zl_wsL_law_r4 : ∀ w ∈ wsL_law_r4, w ∈ lw_tbl := zz_in [747, 748, 749, 750, 751, 752, 753, 754, 755, 756, 757, 758, 759, 760, 761, 762, 763, 764, 765, 766, 767, 768, 779, 780] (by decide +kernel)
set_option maxRecDepth 20000 in
theorem zl_wsL_law_r5 : ∀ w ∈ wsL_law_r5, w ∈ lw_tbl := zz_in [781, 782, 783, 784, 786, 787, 788, 789, 790, 791, 792, 793, 743, 264, 265, 266, 267, 228, 268, 212, 269, 270, 271, 272] (by decide +kernel)
set_option maxRecDepth 20000 in
theorem zl_wsL_law_r6 : ∀ w ∈ wsL_law_r6, w ∈ lw_tbl := zz_in [190, 137, 895, 896, 897, 898, 744, 899, 900, 902, 21, 903, 273, 274, 275, 276, 216, 277, 278, 279, 280, 215, 904, 905] (by decide +kernel)
set_option maxRecDepth 20000 in
theorem zl_wsL_law_r7 : ∀ w ∈ wsL_law_r7, w ∈ lw_tbl := zz_in [906, 907, 908, 910, 22, 911, 281, 282, 283, 284, 912, 913, 914, 915, 916, 917, 918, 285, 286, 287, 288, 293, 294, 59] (by decide +kernel)
set_option maxRecDepth 20000 in
theorem zl_wsL_law_r8 : ∀ w ∈ wsL_law_r8, w ∈ lw_tbl := zz_in [214, 218, 89, 289, 290, 291, 292, 219, 295, 296, 297, 298, 307, 299, 300, 301, 326, 327, 328, 329, 304, 305, 302, 330] (by decide +kernel)
set_option maxRecDepth 20000 in
theorem zl_wsL_law_r9 : ∀ w ∈ wsL_law_r9, w ∈ lw_tbl := zz_in [331, 332, 333, 88, 334, 336, 0, 337, 303, 338, 339, 340, 341, 343, 1, 344, 345, 347, 2, 348, 350, 352, 3, 353] (by decide +kernel)
set_option maxRecDepth 20000 in
theorem zl_wsL_law_r10 : ∀ w ∈ wsL_law_r10, w ∈ lw_tbl := zz_in [354, 356, 4, 357, 358, 359, 360, 60, 361, 1147, 362, 363, 364, 365, 366, 1148, 368, 369, 370, 371, 372, 373, 374, 375] (by decide +kernel)
set_option maxRecDepth 20000 in
theorem zl_wsL_law_r11 : ∀ w ∈ wsL_law_r11, w ∈ lw_tbl := zz_in [376, 377, 61, 378, 379, 380, 381, 382, 384, 385, 62, 386, 387, 388, 63, 389, 390, 391, 392, 393, 394, 395, 396, 397] (by decide +kernel)
set_option maxRecDepth 20000 in
theorem zl_wsL_law_r12 : ∀ w ∈ wsL_law_r12, w ∈ lw_tbl := zz_in [398, 399, 400, 402, 404, 406, 408, 5, 409, 411, 413, 6, 414, 421, 423, 7, 424, 425, 426, 427, 428, 430, 432, 8] (by decide +kernel)
set_option maxRecDepth 20000 in
theorem zl_wsL_law_r13 : ∀ w ∈ wsL_law_r13, w ∈ lw_tbl := zz_in [433, 434, 436, 9, 437, 442, 443, 444, 445, 446, 447, 448, 449, 450, 451, 452, 453, 454, 183, 186, 178, 172, 174, 176] (by decide +kernel)
set_option maxRecDepth 20000 in
theorem zl_wsL_law_r14 : ∀ w ∈ wsL_law_r14, w ∈ lw_tbl := zz_in [484, 485, 65, 486, 487, 488, 489, 455, 456, 457, 458, 459, 461, 10, 462, 463, 464, 465, 466, 467, 64, 468, 469, 470] (by decide +kernel)
set_option maxRecDepth 20000 in
theorem zl_wsL_law_r15 : ∀ w ∈ wsL_law_r15, w ∈ lw_tbl := zz_in [471, 472, 473, 474, 475, 477, 11, 478, 479, 480, 481, 482, 483, 490, 491, 492, 493, 185, 494, 495, 496, 497, 188, 498] (by decide +kernel)
set_option maxRecDepth 20000 in
theorem zl_wsL_law_r16 : ∀ w ∈ wsL_law_r16, w ∈ lw_tbl := zz_in [500, 12, 501, 919, 920, 921, 922, 770, 769, 775, 776, 778, 772, 777, 923, 925, 23, 926, 771, 773, 774, 927, 929, 24] (by decide +kernel)
set_option maxRecDepth 20000 in
theorem zl_wsL_law_r17 : ∀ w ∈ wsL_law_r17, w ∈ lw_tbl := zz_in [930, 931, 933, 25, 934, 939, 959, 968, 969, 970, 971, 935, 937, 26, 938, 940, 942, 27, 943, 944, 946, 28, 947, 948] (by decide +kernel)
set_option maxRecDepth 20000 in
theorem zl_wsL_law_r18 : ∀ w ∈ wsL_law_r18, w ∈ lw_tbl := zz_in [949, 950, 951, 952, 953, 954, 955, 957, 29, 958, 960, 962, 30, 963, 964, 966, 31, 967, 972, 974, 32, 975, 785, 976] (by decide +kernel)
set_option maxRecDepth 20000 in
theorem zl_wsL_law_r19 : ∀ w ∈ wsL_law_r19, w ∈ lw_tbl := zz_in [978, 33, 979, 980, 982, 34, 983, 984, 986, 35, 987, 988, 990, 36, 991, 992, 994, 37, 995, 996, 998, 38, 999, 1000] (by decide +kernel)
set_option maxRecDepth 20000 in
theorem zl_wsL_law_r20 : ∀ w ∈ wsL_law_r20, w ∈ lw_tbl := zz_in [1002, 39, 1003, 1011, 1012, 1004, 1006, 40, 1007, 1008, 1009, 1010, 1013, 1015, 41, 1016, 1017, 1019, 42, 1020, 1021, 1022, 1024, 43] (by decide +kernel)
set_option maxRecDepth 20000 in
theorem zl_wsL_law_r21 : ∀ w ∈ wsL_law_r21, w ∈ lw_tbl := zz_in [1025, 502, 503, 504, 505, 220, 222, 1026, 1027, 1028, 1029, 506, 507, 508, 509, 510, 511, 512, 513, 514, 515, 516, 224, 517] (by decide +kernel)
set_option maxRecDepth 20000 in
theorem zl_wsL_law_r22 : ∀ w ∈ wsL_law_r22, w ∈ lw_tbl := zz_in [518, 519, 520, 169, 521, 522, 523, 524, 525, 1030, 1031, 1032, 1033, 1034, 1035, 1036, 526, 527, 528, 529, 179, 530, 531, 532] (by decide +kernel)
set_option maxRecDepth 20000 in
theorem zl_wsL_law_r23 : ∀ w ∈ wsL_law_r23, w ∈ lw_tbl := zz_in [533, 534, 535, 536, 537, 538, 1037, 1038, 1039, 1040, 1041, 1043, 44, 1044, 1045, 1047, 45, 1048, 539, 540, 541, 542, 182, 543] (by decide +kernel)
set_option maxRecDepth 20000 in
theorem zl_wsL_law_r24 : ∀ w ∈ wsL_law_r24, w ∈ lw_tbl := zz_in [544, 545, 546, 181, 547, 548, 549, 170, 550, 551, 552, 553, 554, 555, 556, 557, 558, 1049, 1050, 1051, 1052, 1053, 1055, 46] (by decide +kernel)
set_option maxRecDepth 20000 in
theorem zl_wsL_law_r25 : ∀ w ∈ wsL_law_r25, w ∈ lw_tbl := zz_in [1056, 559, 560, 561, 562, 563, 187, 1057, 1058, 1059, 1060, 564, 565, 566, 567, 568, 569, 570, 571, 572, 573, 574, 575, 1061] (by decide +kernel)
set_option maxRecDepth 20000 in
theorem zl_wsL_law_r26 : ∀ w ∈ wsL_law_r26, w ∈ lw_tbl := zz_in [1062, 1063, 1064, 576, 577, 578, 579, 580, 1065, 1066, 1067, 1068, 581, 582, 583, 584, 585, 1069, 1070, 1071, 1072, 1073, 586, 587] (by decide +kernel)
set_option maxRecDepth 20000 in
theorem zl_wsL_law_r27 : ∀ w ∈ wsL_law_r27, w ∈ lw_tbl := zz_in [588, 589, 171, 173, 175, 177, 184, 191, 131, 133, 135, 590, 591, 592, 593, 1074, 1075, 1076, 1077, 594, 595, 596, 597, 598] (by decide +kernel)
set_option maxRecDepth 20000 in
theorem zl_wsL_law_r28 : ∀ w ∈ wsL_law_r28, w ∈ lw_tbl := zz_in [599, 600, 601, 602, 603, 604, 605, 606, 132, 607, 134, 136, 138, 139, 608, 610, 13, 611, 612, 614, 14, 615, 1078, 1079] (by decide +kernel)
set_option maxRecDepth 20000 in
theorem zl_wsL_law_r29 : ∀ w ∈ wsL_law_r29, w ∈ lw_tbl := zz_in [1080, 1081, 1082, 1083, 1085, 47, 1086, 616, 617, 618, 619, 1087, 1088, 1089, 1090, 620, 621, 622, 623, 624, 625, 626, 627, 628] (by decide +kernel)
set_option maxRecDepth 20000 in
theorem zl_wsL_law_r30 : ∀ w ∈ wsL_law_r30, w ∈ lw_tbl := zz_in [1091, 1092, 1093, 1094, 1095, 629, 630, 631, 632, 633, 634, 635, 636, 1096, 1097, 1098, 1099, 637, 638, 639, 640, 641, 642, 643] (by decide +kernel)
set_option maxRecDepth 20000 in
theorem zl_wsL_law_r31 : ∀ w ∈ wsL_law_r31, w ∈ lw_tbl := zz_in [644, 646, 226, 645, 647, 648, 649, 650, 651, 652, 653, 654, 130, 655, 656, 658, 15, 659, 660, 661, 663, 16, 664, 665] (by decide +kernel)
set_option maxRecDepth 20000 in
theorem zl_wsL_law_r32 : ∀ w ∈ wsL_law_r32, w ∈ lw_tbl := zz_in [667, 17, 668, 1100, 1101, 1102, 1103, 1104, 1106, 48, 1107, 669, 670, 671, 672, 673, 674, 675, 676, 677, 678, 679, 680, 681] (by decide +kernel)
set_option maxRecDepth 20000 in
theorem zl_wsL_law_r33 : ∀ w ∈ wsL_law_r33, w ∈ lw_tbl := zz_in [229, 682, 684, 18, 685, 686, 688, 19, 689, 690, 692, 20, 693, 694, 1108, 1109, 1110, 1111, 1112, 1114, 49, 1115, 695, 696] (by decide +kernel)
set_option maxRecDepth 20000 in
theorem zl_wsL_law_r34 : ∀ w ∈ wsL_law_r34, w ∈ lw_tbl := zz_in [697, 698, 699, 700, 701, 702, 703, 1116, 1117, 1118, 1119, 704, 705, 706, 707, 225, 227, 1120, 1121, 1122, 1123, 708, 709, 710] (by decide +kernel)
set_option maxRecDepth 20000 in
theorem zl_wsL_law_r35 : ∀ w ∈ wsL_law_r35, w ∈ lw_tbl := zz_in [711, 712, 713, 714, 715, 716, 718, 717, 66, 719, 720, 721, 722, 723, 724, 725, 726, 727, 728, 729, 730, 731, 732, 1124] (by decide +kernel)
set_option maxRecDepth 20000 in
theorem zl_wsL_law_r36 : ∀ w ∈ wsL_law_r36, w ∈ lw_tbl := zz_in [1125, 1126, 1127, 1128, 1130, 50, 1131, 1132, 1133, 1134, 1135, 1136, 1137, 1138, 1140, 51, 1141, 733, 734, 735, 736, 1142, 1143, 1144] (by decide +kernel)
set_option maxRecDepth 20000 in
theorem zl_wsL_law_r37 : ∀ w ∈ wsL_law_r37, w ∈ lw_tbl := zz_in [1145] (by decide +kernel)
set_option maxRecDepth 20000 in
theorem zl_wsX50 : ∀ w ∈ wsX50, w ∈ lw_tbl := zz_in [257, 259, 261] (by decide +kernel)
set_option maxRecDepth 20000 in
theorem zl_wsX60 : ∀ w ∈ wsX60, w ∈ lw_tbl := zz_in [794, 796, 798, 800, 802, 804, 806, 808, 810, 812, 814, 816, 818, 820, 822, 824, 826, 828, 830, 832, 834, 836, 838, 840, 842, 844, 846, 848, 850, 852, 854, 856, 858, 860, 862, 864, 866, 868, 870, 872, 874, 876, 878, 880, 882, 884, 886, 888, 890, 892] (by decide +kernel)
set_option maxRecDepth 20000 in
theorem zl_wsX00 : ∀ w ∈ wsX00, w ∈ lw_tbl := zz_in [230, 232, 234, 236, 238, 240, 242, 244, 246, 248] (by decide +kernel)
set_option maxRecDepth 20000 in
theorem zl_wsX20 : ∀ w ∈ wsX20, w ∈ lw_tbl := zz_in [97, 99, 101, 103, 105, 107, 109, 111] (by decide +kernel)
set_option maxRecDepth 20000 in
theorem zl_wsX10 : ∀ w ∈ wsX10, w ∈ lw_tbl := zz_in [192, 194, 196, 198, 200, 202, 204, 206, 208] (by decide +kernel)
set_option maxRecDepth 20000 in
theorem zl_wsX30 : ∀ w ∈ wsX30, w ∈ lw_tbl := zz_in [145, 147, 149, 151, 153, 155, 157, 159, 161, 163, 165] (by decide +kernel)
set_option maxRecDepth 20000 in
theorem zl_wsX40 : ∀ w ∈ wsX40, w ∈ lw_tbl := zz_in [309, 311, 313, 315, 317, 319, 321, 323] (by decide +kernel)
theorem wsL_law_in : ∀ w ∈ wsL_law, w ∈ lw_tbl := (zz_app (zz_app (zz_app (zz_app (zz_app (zz_app (zz_app (zz_app (zz_app zl_wsL_law_r1 (zz_app zl_wsL_law_r2 (zz_app zl_wsL_law_r3 (zz_app zl_wsL_law_r4 (zz_app zl_wsL_law_r5 (zz_app zl_wsL_law_r6 (zz_app zl_wsL_law_r7 (zz_app zl_wsL_law_r8 (zz_app zl_wsL_law_r9 (zz_app zl_wsL_law_r10 (zz_app zl_wsL_law_r11 (zz_app zl_wsL_law_r12 (zz_app zl_wsL_law_r13 (zz_app zl_wsL_law_r14 (zz_app zl_wsL_law_r15 (zz_app zl_wsL_law_r16 (zz_app zl_wsL_law_r17 (zz_app zl_wsL_law_r18 (zz_app zl_wsL_law_r19 (zz_app zl_wsL_law_r20 (zz_app zl_wsL_law_r21 (zz_app zl_wsL_law_r22 (zz_app zl_wsL_law_r23 (zz_app zl_wsL_law_r24 (zz_app zl_wsL_law_r25 (zz_app zl_wsL_law_r26 (zz_app zl_wsL_law_r27 (zz_app zl_wsL_law_r28 (zz_app zl_wsL_law_r29 (zz_app zl_wsL_law_r30 (zz_app zl_wsL_law_r31 (zz_app zl_wsL_law_r32 (zz_app zl_wsL_law_r33 (zz_app zl_wsL_law_r34 (zz_app zl_wsL_law_r35 (zz_app zl_wsL_law_r36 zl_wsL_law_r37)))))))))))))))))))))))))))))))))))) zl_wsX50) zl_wsX60) zl_wsX00) zl_wsX20) zl_wsX10) zl_wsX30) zl_wsX40) (fun w h => absurd h List.not_mem_nil))
theorem inlX0 : ∀ w ∈ wsX00, w ∈ wsL_law := fun _ h => List.mem_append_left _ (List.mem_append_left _ (List.mem_append_left _ (List.mem_append_left _ (List.mem_append_left _ (List.mem_append_right _ h)))))
theorem inX0 : ∀ w ∈ wsX00, w ∈ lw_tbl := fun w h => wsL_law_in w (inlX0 w h)
theorem inlX1 : ∀ w ∈ wsX10, w ∈ wsL_law := fun _ h => List.mem_append_left _ (List.mem_append_left _ (List.mem_append_left _ (List.mem_append_right _ h)))
theorem inX1 : ∀ w ∈ wsX10, w ∈ lw_tbl := fun w h => wsL_law_in w (inlX1 w h)
theorem inlX2 : ∀ w ∈ wsX20, w ∈ wsL_law := fun _ h => List.mem_append_left _ (List.mem_append_left _ (List.mem_append_left _ (List.mem_append_left _ (List.mem_append_right _ h))))
theorem inX2 : ∀ w ∈ wsX20, w ∈ lw_tbl := fun w h => wsL_law_in w (inlX2 w h)
theorem inlX3 : ∀ w ∈ wsX30, w ∈ wsL_law := fun _ h => List.mem_append_left _ (List.mem_append_left _ (List.mem_append_right _ h))
theorem inX3 : ∀ w ∈ wsX30, w ∈ lw_tbl := fun w h => wsL_law_in w (inlX3 w h)
theorem inlX4 : ∀ w ∈ wsX40, w ∈ wsL_law := fun _ h => List.mem_append_left _ (List.mem_append_right _ h)
theorem inX4 : ∀ w ∈ wsX40, w ∈ lw_tbl := fun w h => wsL_law_in w (inlX4 w h)
theorem inlX5 : ∀ w ∈ wsX50, w ∈ wsL_law := fun _ h => List.mem_append_left _ (List.mem_append_left _ (List.mem_append_left _ (List.mem_append_left _ (List.mem_append_left _ (List.mem_append_left _ (List.mem_append_left _ (List.mem_append_right _ h)))))))
theorem inX5 : ∀ w ∈ wsX50, w ∈ lw_tbl := fun w h => wsL_law_in w (inlX5 w h)
theorem inlX6 : ∀ w ∈ wsX60, w ∈ wsL_law := fun _ h => List.mem_append_left _ (List.mem_append_left _ (List.mem_append_left _ (List.mem_append_left _ (List.mem_append_left _ (List.mem_append_left _ (List.mem_append_right _ h))))))
theorem inX6 : ∀ w ∈ wsX60, w ∈ lw_tbl := fun w h => wsL_law_in w (inlX6 w h)
theorem inJ6 : ∀ w ∈ wsJ60, w ∈ lw_tbl := by decide +kernel
theorem inJ9 : ∀ w ∈ wsJ90, w ∈ lw_tbl := by decide +kernel
theorem inJ0 : ∀ w ∈ wsJ00, w ∈ lw_tbl := by decide +kernel
theorem inJ1 : ∀ w ∈ wsJ10, w ∈ lw_tbl := by decide +kernel
theorem inJ2 : ∀ w ∈ wsJ20, w ∈ lw_tbl := by decide +kernel
theorem inJ10 : ∀ w ∈ wsJ100, w ∈ lw_tbl := by decide +kernel
theorem inJ3 : ∀ w ∈ wsJ30, w ∈ lw_tbl := by decide +kernel
set_option maxRecDepth 20000 in
theorem ggX0_init_X2_init : GoodIn wsX0_init wsX2_init := goodIn_r _ [18, 19, 2, 3, 20, 21, 22, 23, 24, 25, 26, 27, 28, 56, 57, 58, 59, 60, 61, 62, 63] (by decide +kernel) (by decide +kernel)
set_option maxRecDepth 20000 in
theorem gX0_init_X2_init_n23 : GoodIn wsX0_init (wsX2_init) := ggX0_init_X2_init
set_option maxRecDepth 20000 in
theorem ggX0_init_X1_init : GoodIn wsX0_init wsX1_init := goodIn_r _ [30, 31, 2, 3, 32, 33, 34, 35, 36, 37, 38, 39, 20, 40, 41, 42, 43, 44, 45, 64, 65, 66, 67, 68, 69, 70, 71, 72, 73, 74, 75, 76, 77, 78, 79, 80, 81, 82, 83] (by decide +kernel) (by decide +kernel)
set_option maxRecDepth 20000 in
theorem gX0_init_X1_init_n38 : GoodIn wsX0_init (wsX1_init) := ggX0_init_X1_init
theorem dX0_init_0 : decode cX0_init 0 = .ok (.aload_n 0, 1) := by decide +kernel
theorem dX0_init_1 : decode cX0_init 1 = .ok (.invokespecial 3, 3) := by decide +kernel
theorem dX0_init_4 : decode cX0_init 4 = .ok (.aload_n 0, 1) := by decide +kernel
theorem dX0_init_5 : decode cX0_init 5 = .ok (.ldc2_w 9, 3) := by decide +kernel
theorem dX0_init_8 : decode cX0_init 8 = .ok (.putfield 11, 3) := by decide +kernel
theorem dX0_init_11 : decode cX0_init 11 = .ok (.aload_n 0, 1) := by decide +kernel
theorem dX0_init_12 : decode cX0_init 12 = .ok (.sipush 400, 3) := by decide +kernel
theorem dX0_init_15 : decode cX0_init 15 = .ok (.newarray .byte, 2) := by decide +kernel
theorem dX0_init_17 : decode cX0_init 17 = .ok (.putfield 17, 3) := by decide +kernel
theorem dX0_init_20 : decode cX0_init 20 = .ok (.aload_n 0, 1) := by decide +kernel
theorem dX0_init_21 : decode cX0_init 21 = .ok (.new 21, 3) := by decide +kernel
theorem dX0_init_24 : decode cX0_init 24 = .ok (.dup, 1) := by decide +kernel
theorem dX0_init_25 : decode cX0_init 25 = .ok (.invokespecial 23, 3) := by decide +kernel
theorem dX0_init_28 : decode cX0_init 28 = .ok (.putfield 24, 3) := by decide +kernel
theorem dX0_init_31 : decode cX0_init 31 = .ok (.aload_n 0, 1) := by decide +kernel
theorem dX0_init_32 : decode cX0_init 32 = .ok (.iconst (-1), 1) := by decide +kernel
theorem dX0_init_33 : decode cX0_init 33 = .ok (.putfield 28, 3) := by decide +kernel
theorem dX0_init_36 : decode cX0_init 36 = .ok (.aload_n 0, 1) := by decide +kernel
theorem dX0_init_37 : decode cX0_init 37 = .ok (.bipush 16, 2) := by decide +kernel
theorem dX0_init_39 : decode cX0_init 39 = .ok (.anewarray 32, 3) := by decide +kernel
theorem dX0_init_42 : decode cX0_init 42 = .ok (.putfield 34, 3) := by decide +kernel
theorem dX0_init_45 : decode cX0_init 45 = .ok (.iconst 0, 1) := by decide +kernel
theorem dX0_init_46 : decode cX0_init 46 = .ok (.istore_n 1, 1) := by decide +kernel
theorem dX0_init_47 : decode cX0_init 47 = .ok (.iload_n 1, 1) := by decide +kernel
theorem dX0_init_48 : decode cX0_init 48 = .ok (.bipush 16, 2) := by decide +kernel
theorem dX0_init_50 : decode cX0_init 50 = .ok (.if_icmp .ge 22, 3) := by decide +kernel
theorem dX0_init_53 : decode cX0_init 53 = .ok (.aload_n 0, 1) := by decide +kernel
theorem dX0_init_54 : decode cX0_init 54 = .ok (.getfield 34, 3) := by decide +kernel
theorem dX0_init_57 : decode cX0_init 57 = .ok (.iload_n 1, 1) := by decide +kernel
theorem dX0_init_58 : decode cX0_init 58 = .ok (.new 32, 3) := by decide +kernel
theorem dX0_init_61 : decode cX0_init 61 = .ok (.dup, 1) := by decide +kernel
theorem dX0_init_62 : decode cX0_init 62 = .ok (.invokespecial 38, 3) := by decide +kernel
theorem dX0_init_65 : decode cX0_init 65 = .ok (.aastore, 1) := by decide +kernel
theorem dX0_init_66 : decode cX0_init 66 = .ok (.iinc 1 1, 3) := by decide +kernel
theorem dX0_init_69 : decode cX0_init 69 = .ok (.goto (-22), 3) := by decide +kernel
theorem dX0_init_72 : decode cX0_init 72 = .ok (.return_, 1) := by decide +kernel
set_option maxRecDepth 20000 in
theorem ggX0_copyFrom_X2_copyFrom : GoodIn wsX0_copyFrom wsX2_copyFrom := goodIn_r _ [19, 20, 21, 22, 4, 5, 6, 23, 24, 25, 26, 27, 28, 70, 71, 72, 73, 74, 75, 76, 77] (by decide +kernel) (by decide +kernel)
set_option maxRecDepth 20000 in
theorem gX0_copyFrom_X2_copyFrom : GoodIn wsX0_copyFrom (wsV RX0 48 RX2 yX2_copyFrom wsX2_copyFrom) := goodIn_app (goodIn_of _ (by decide +kernel)) ggX0_copyFrom_X2_copyFrom
set_option maxRecDepth 20000 in
theorem ggX0_copyFrom_X1_copyFrom : GoodIn wsX0_copyFrom wsX1_copyFrom := goodIn_r _ [33, 34, 35, 36, 37, 38, 39, 40, 41, 42, 43, 44, 45, 46, 47, 48, 49, 50, 51, 52, 53, 54, 55, 4, 5, 6, 56, 57, 58, 59, 78, 79, 80, 81, 82, 83, 84, 85, 86, 87, 88, 89, 90, 91, 92, 93, 94, 95, 96, 97] (by decide +kernel) (by decide +kernel)
set_option maxRecDepth 20000 in
theorem gX0_copyFrom_X1_copyFrom : GoodIn wsX0_copyFrom (wsV RX0 55 RX1 yX1_copyFrom wsX1_copyFrom) := goodIn_app (goodIn_of _ (by decide +kernel)) ggX0_copyFrom_X1_copyFrom
theorem dX0_copyFrom_0 : decode cX0_copyFrom 0 = .ok (.aload_n 0, 1) := by decide +kernel
theorem dX0_copyFrom_1 : decode cX0_copyFrom 1 = .ok (.aload_n 1, 1) := by decide +kernel
theorem dX0_copyFrom_2 : decode cX0_copyFrom 2 = .ok (.getfield 11, 3) := by decide +kernel
theorem dX0_copyFrom_5 : decode cX0_copyFrom 5 = .ok (.putfield 11, 3) := by decide +kernel
theorem dX0_copyFrom_8 : decode cX0_copyFrom 8 = .ok (.aload_n 1, 1) := by decide +kernel
theorem dX0_copyFrom_9 : decode cX0_copyFrom 9 = .ok (.getfield 17, 3) := by decide +kernel
theorem dX0_copyFrom_12 : decode cX0_copyFrom 12 = .ok (.iconst 0, 1) := by decide +kernel
theorem dX0_copyFrom_13 : decode cX0_copyFrom 13 = .ok (.aload_n 0, 1) := by decide +kernel
theorem dX0_copyFrom_14 : decode cX0_copyFrom 14 = .ok (.getfield 17, 3) := by decide +kernel
theorem dX0_copyFrom_17 : decode cX0_copyFrom 17 = .ok (.iconst 0, 1) := by decide +kernel
theorem dX0_copyFrom_18 : decode cX0_copyFrom 18 = .ok (.sipush 400, 3) := by decide +kernel
theorem dX0_copyFrom_21 : decode cX0_copyFrom 21 = .ok (.invokestatic 39, 3) := by decide +kernel
theorem dX0_copyFrom_24 : decode cX0_copyFrom 24 = .ok (.aload_n 0, 1) := by decide +kernel
theorem dX0_copyFrom_25 : decode cX0_copyFrom 25 = .ok (.aload_n 1, 1) := by decide +kernel
theorem dX0_copyFrom_26 : decode cX0_copyFrom 26 = .ok (.getfield 45, 3) := by decide +kernel
theorem dX0_copyFrom_29 : decode cX0_copyFrom 29 = .ok (.putfield 45, 3) := by decide +kernel
theorem dX0_copyFrom_32 : decode cX0_copyFrom 32 = .ok (.aload_n 0, 1) := by decide +kernel
theorem dX0_copyFrom_33 : decode cX0_copyFrom 33 = .ok (.getfield 24, 3) := by decide +kernel
theorem dX0_copyFrom_36 : decode cX0_copyFrom 36 = .ok (.aload_n 1, 1) := by decide +kernel
theorem dX0_copyFrom_37 : decode cX0_copyFrom 37 = .ok (.getfield 24, 3) := by decide +kernel
theorem dX0_copyFrom_40 : decode cX0_copyFrom 40 = .ok (.invokevirtual 48, 3) := by decide +kernel
theorem dX0_copyFrom_43 : decode cX0_copyFrom 43 = .ok (.aload_n 0, 1) := by decide +kernel
theorem dX0_copyFrom_44 : decode cX0_copyFrom 44 = .ok (.aload_n 1, 1) := by decide +kernel
theorem dX0_copyFrom_45 : decode cX0_copyFrom 45 = .ok (.getfield 52, 3) := by decide +kernel
theorem dX0_copyFrom_48 : decode cX0_copyFrom 48 = .ok (.putfield 52, 3) := by decide +kernel
theorem dX0_copyFrom_51 : decode cX0_copyFrom 51 = .ok (.aload_n 0, 1) := by decide +kernel
theorem dX0_copyFrom_52 : decode cX0_copyFrom 52 = .ok (.aload_n 1, 1) := by decide +kernel
theorem dX0_copyFrom_53 : decode cX0_copyFrom 53 = .ok (.getfield 28, 3) := by decide +kernel
theorem dX0_copyFrom_56 : decode cX0_copyFrom 56 = .ok (.putfield 28, 3) := by decide +kernel
theorem dX0_copyFrom_59 : decode cX0_copyFrom 59 = .ok (.iconst 0, 1) := by decide +kernel
theorem dX0_copyFrom_60 : decode cX0_copyFrom 60 = .ok (.istore_n 2, 1) := by decide +kernel
theorem dX0_copyFrom_61 : decode cX0_copyFrom 61 = .ok (.iload_n 2, 1) := by decide +kernel
theorem dX0_copyFrom_62 : decode cX0_copyFrom 62 = .ok (.bipush 16, 2) := by decide +kernel
theorem dX0_copyFrom_64 : decode cX0_copyFrom 64 = .ok (.if_icmp .ge 24, 3) := by decide +kernel
theorem dX0_copyFrom_67 : decode cX0_copyFrom 67 = .ok (.aload_n 0, 1) := by decide +kernel
theorem dX0_copyFrom_68 : decode cX0_copyFrom 68 = .ok (.getfield 34, 3) := by decide +kernel
theorem dX0_copyFrom_71 : decode cX0_copyFrom 71 = .ok (.iload_n 2, 1) := by decide +kernel
theorem dX0_copyFrom_72 : decode cX0_copyFrom 72 = .ok (.aaload, 1) := by decide +kernel
theorem dX0_copyFrom_73 : decode cX0_copyFrom 73 = .ok (.aload_n 1, 1) := by decide +kernel
theorem dX0_copyFrom_74 : decode cX0_copyFrom 74 = .ok (.getfield 34, 3) := by decide +kernel
theorem dX0_copyFrom_77 : decode cX0_copyFrom 77 = .ok (.iload_n 2, 1) := by decide +kernel
theorem dX0_copyFrom_78 : decode cX0_copyFrom 78 = .ok (.aaload, 1) := by decide +kernel
theorem dX0_copyFrom_79 : decode cX0_copyFrom 79 = .ok (.invokevirtual 55, 3) := by decide +kernel
theorem dX0_copyFrom_82 : decode cX0_copyFrom 82 = .ok (.iinc 2 1, 3) := by decide +kernel
theorem dX0_copyFrom_85 : decode cX0_copyFrom 85 = .ok (.goto (-24), 3) := by decide +kernel
theorem dX0_copyFrom_88 : decode cX0_copyFrom 88 = .ok (.aload_n 0, 1) := by decide +kernel
theorem dX0_copyFrom_89 : decode cX0_copyFrom 89 = .ok (.aload_n 1, 1) := by decide +kernel
theorem dX0_copyFrom_90 : decode cX0_copyFrom 90 = .ok (.getfield 58, 3) := by decide +kernel
theorem dX0_copyFrom_93 : decode cX0_copyFrom 93 = .ok (.putfield 58, 3) := by decide +kernel
theorem dX0_copyFrom_96 : decode cX0_copyFrom 96 = .ok (.aload_n 0, 1) := by decide +kernel
theorem dX0_copyFrom_97 : decode cX0_copyFrom 97 = .ok (.aload_n 1, 1) := by decide +kernel
theorem dX0_copyFrom_98 : decode cX0_copyFrom 98 = .ok (.getfield 61, 3) := by decide +kernel
theorem dX0_copyFrom_101 : decode cX0_copyFrom 101 = .ok (.putfield 61, 3) := by decide +kernel
theorem dX0_copyFrom_104 : decode cX0_copyFrom 104 = .ok (.aload_n 0, 1) := by decide +kernel
theorem dX0_copyFrom_105 : decode cX0_copyFrom 105 = .ok (.aload_n 1, 1) := by decide +kernel
theorem dX0_copyFrom_106 : decode cX0_copyFrom 106 = .ok (.getfield 64, 3) := by decide +kernel
theorem dX0_copyFrom_109 : decode cX0_copyFrom 109 = .ok (.putfield 64, 3) := by decide +kernel
theorem dX0_copyFrom_112 : decode cX0_copyFrom 112 = .ok (.return_, 1) := by decide +kernel
theorem dX0_addBytes_0 : decode cX0_addBytes 0 = .ok (.bipush 24, 2) := by decide +kernel
theorem dX0_addBytes_2 : decode cX0_addBytes 2 = .ok (.istore_n 2, 1) := by decide +kernel
theorem dX0_addBytes_3 : decode cX0_addBytes 3 = .ok (.iload_n 2, 1) := by decide +kernel
theorem dX0_addBytes_4 : decode cX0_addBytes 4 = .ok (.ifCond .lt 42, 3) := by decide +kernel
theorem dX0_addBytes_7 : decode cX0_addBytes 7 = .ok (.aload_n 0, 1) := by decide +kernel
theorem dX0_addBytes_8 : decode cX0_addBytes 8 = .ok (.getfield 45, 3) := by decide +kernel
theorem dX0_addBytes_11 : decode cX0_addBytes 11 = .ok (.sipush 400, 3) := by decide +kernel
theorem dX0_addBytes_14 : decode cX0_addBytes 14 = .ok (.if_icmp .ge 32, 3) := by decide +kernel
theorem dX0_addBytes_17 : decode cX0_addBytes 17 = .ok (.aload_n 0, 1) := by decide +kernel
theorem dX0_addBytes_18 : decode cX0_addBytes 18 = .ok (.getfield 17, 3) := by decide +kernel
theorem dX0_addBytes_21 : decode cX0_addBytes 21 = .ok (.aload_n 0, 1) := by decide +kernel
theorem dX0_addBytes_22 : decode cX0_addBytes 22 = .ok (.getfield 45, 3) := by decide +kernel
theorem dX0_addBytes_25 : decode cX0_addBytes 25 = .ok (.iload_n 1, 1) := by decide +kernel
theorem dX0_addBytes_26 : decode cX0_addBytes 26 = .ok (.iload_n 2, 1) := by decide +kernel
theorem dX0_addBytes_27 : decode cX0_addBytes 27 = .ok (.iushr, 1) := by decide +kernel
theorem dX0_addBytes_28 : decode cX0_addBytes 28 = .ok (.i2b, 1) := by decide +kernel
theorem dX0_addBytes_29 : decode cX0_addBytes 29 = .ok (.bastore, 1) := by decide +kernel
theorem dX0_addBytes_30 : decode cX0_addBytes 30 = .ok (.aload_n 0, 1) := by decide +kernel
theorem dX0_addBytes_31 : decode cX0_addBytes 31 = .ok (.dup, 1) := by decide +kernel
theorem dX0_addBytes_32 : decode cX0_addBytes 32 = .ok (.getfield 45, 3) := by decide +kernel
theorem dX0_addBytes_35 : decode cX0_addBytes 35 = .ok (.iconst 1, 1) := by decide +kernel
theorem dX0_addBytes_36 : decode cX0_addBytes 36 = .ok (.iadd, 1) := by decide +kernel
theorem dX0_addBytes_37 : decode cX0_addBytes 37 = .ok (.putfield 45, 3) := by decide +kernel
theorem dX0_addBytes_40 : decode cX0_addBytes 40 = .ok (.iinc 2 (-8), 3) := by decide +kernel
theorem dX0_addBytes_43 : decode cX0_addBytes 43 = .ok (.goto (-40), 3) := by decide +kernel
theorem dX0_addBytes_46 : decode cX0_addBytes 46 = .ok (.return_, 1) := by decide +kernel
theorem dX0_setFault_0 : decode cX0_setFault 0 = .ok (.aload_n 0, 1) := by decide +kernel
theorem dX0_setFault_1 : decode cX0_setFault 1 = .ok (.iload_n 1, 1) := by decide +kernel
theorem dX0_setFault_2 : decode cX0_setFault 2 = .ok (.putfield 52, 3) := by decide +kernel
theorem dX0_setFault_5 : decode cX0_setFault 5 = .ok (.aload_n 0, 1) := by decide +kernel
theorem dX0_setFault_6 : decode cX0_setFault 6 = .ok (.iload_n 2, 1) := by decide +kernel
theorem dX0_setFault_7 : decode cX0_setFault 7 = .ok (.putfield 28, 3) := by decide +kernel
theorem dX0_setFault_10 : decode cX0_setFault 10 = .ok (.return_, 1) := by decide +kernel
set_option maxRecDepth 20000 in
theorem ggX0_useRules_X1_measure : GoodIn wsX0_useRules wsX1_measure := goodIn_r _ [7, 8, 9, 10, 11, 12, 13, 14, 15, 16, 17, 18, 19, 20, 21, 22, 23, 24, 25, 26, 27, 28, 29, 30, 31, 32, 33, 34, 35, 36, 37, 38, 39, 40, 41, 42, 43, 44, 45, 46, 47, 48, 49, 50, 51, 52, 53, 54, 55, 56, 57, 58, 59, 60, 61, 72, 73, 74, 75, 76, 77, 78, 79, 80, 81, 82, 83, 84, 85, 86, 87, 88] (by decide +kernel) (by decide +kernel)
set_option maxRecDepth 20000 in
theorem gX0_useRules_X1_measure : GoodIn wsX0_useRules (wsV RX0 68 RX1 yX1_measure wsX1_measure) := goodIn_app (goodIn_of _ (by decide +kernel)) ggX0_useRules_X1_measure
theorem dX0_useRules_0 : decode cX0_useRules 0 = .ok (.aload_n 0, 1) := by decide +kernel
theorem dX0_useRules_1 : decode cX0_useRules 1 = .ok (.aload_n 1, 1) := by decide +kernel
theorem dX0_useRules_2 : decode cX0_useRules 2 = .ok (.putfield 24, 3) := by decide +kernel
theorem dX0_useRules_5 : decode cX0_useRules 5 = .ok (.aload_n 0, 1) := by decide +kernel
theorem dX0_useRules_6 : decode cX0_useRules 6 = .ok (.getfield 34, 3) := by decide +kernel
theorem dX0_useRules_9 : decode cX0_useRules 9 = .ok (.astore_n 2, 1) := by decide +kernel
theorem dX0_useRules_10 : decode cX0_useRules 10 = .ok (.aload_n 2, 1) := by decide +kernel
theorem dX0_useRules_11 : decode cX0_useRules 11 = .ok (.arraylength, 1) := by decide +kernel
theorem dX0_useRules_12 : decode cX0_useRules 12 = .ok (.istore_n 3, 1) := by decide +kernel
theorem dX0_useRules_13 : decode cX0_useRules 13 = .ok (.iconst 0, 1) := by decide +kernel
theorem dX0_useRules_14 : decode cX0_useRules 14 = .ok (.istore 4, 2) := by decide +kernel
theorem dX0_useRules_16 : decode cX0_useRules 16 = .ok (.iload 4, 2) := by decide +kernel
theorem dX0_useRules_18 : decode cX0_useRules 18 = .ok (.iload_n 3, 1) := by decide +kernel
theorem dX0_useRules_19 : decode cX0_useRules 19 = .ok (.if_icmp .ge 24, 3) := by decide +kernel
theorem dX0_useRules_22 : decode cX0_useRules 22 = .ok (.aload_n 2, 1) := by decide +kernel
theorem dX0_useRules_23 : decode cX0_useRules 23 = .ok (.iload 4, 2) := by decide +kernel
theorem dX0_useRules_25 : decode cX0_useRules 25 = .ok (.aaload, 1) := by decide +kernel
theorem dX0_useRules_26 : decode cX0_useRules 26 = .ok (.astore 5, 2) := by decide +kernel
theorem dX0_useRules_28 : decode cX0_useRules 28 = .ok (.aload 5, 2) := by decide +kernel
theorem dX0_useRules_30 : decode cX0_useRules 30 = .ok (.aload_n 0, 1) := by decide +kernel
theorem dX0_useRules_31 : decode cX0_useRules 31 = .ok (.getfield 24, 3) := by decide +kernel
theorem dX0_useRules_34 : decode cX0_useRules 34 = .ok (.invokevirtual 68, 3) := by decide +kernel
theorem dX0_useRules_37 : decode cX0_useRules 37 = .ok (.iinc 4 1, 3) := by decide +kernel
theorem dX0_useRules_40 : decode cX0_useRules 40 = .ok (.goto (-24), 3) := by decide +kernel
theorem dX0_useRules_43 : decode cX0_useRules 43 = .ok (.return_, 1) := by decide +kernel
theorem dX0_claimAt_0 : decode cX0_claimAt 0 = .ok (.iload_n 1, 1) := by decide +kernel
theorem dX0_claimAt_1 : decode cX0_claimAt 1 = .ok (.ifCond .lt 17, 3) := by decide +kernel
theorem dX0_claimAt_4 : decode cX0_claimAt 4 = .ok (.iload_n 1, 1) := by decide +kernel
theorem dX0_claimAt_5 : decode cX0_claimAt 5 = .ok (.aload_n 0, 1) := by decide +kernel
theorem dX0_claimAt_6 : decode cX0_claimAt 6 = .ok (.getfield 58, 3) := by decide +kernel
theorem dX0_claimAt_9 : decode cX0_claimAt 9 = .ok (.if_icmp .ge 9, 3) := by decide +kernel
theorem dX0_claimAt_12 : decode cX0_claimAt 12 = .ok (.iload_n 1, 1) := by decide +kernel
theorem dX0_claimAt_13 : decode cX0_claimAt 13 = .ok (.bipush 16, 2) := by decide +kernel
theorem dX0_claimAt_15 : decode cX0_claimAt 15 = .ok (.if_icmp .lt 7, 3) := by decide +kernel
theorem dX0_claimAt_18 : decode cX0_claimAt 18 = .ok (.aconst_null, 1) := by decide +kernel
theorem dX0_claimAt_19 : decode cX0_claimAt 19 = .ok (.goto 9, 3) := by decide +kernel
theorem dX0_claimAt_22 : decode cX0_claimAt 22 = .ok (.aload_n 0, 1) := by decide +kernel
theorem dX0_claimAt_23 : decode cX0_claimAt 23 = .ok (.getfield 34, 3) := by decide +kernel
theorem dX0_claimAt_26 : decode cX0_claimAt 26 = .ok (.iload_n 1, 1) := by decide +kernel
theorem dX0_claimAt_27 : decode cX0_claimAt 27 = .ok (.aaload, 1) := by decide +kernel
theorem dX0_claimAt_28 : decode cX0_claimAt 28 = .ok (.areturn, 1) := by decide +kernel
set_option maxRecDepth 20000 in
theorem ggX0_admit_X1_begin : GoodIn wsX0_admit wsX1_begin := goodIn_r _ [8, 9, 10, 11, 12, 13, 14, 100, 101, 102, 103, 104, 105, 106, 107, 108] (by decide +kernel) (by decide +kernel)
set_option maxRecDepth 20000 in
theorem gX0_admit_X1_begin : GoodIn wsX0_admit (wsV RX0 71 RX1 yX1_begin wsX1_begin) := goodIn_app (goodIn_of _ (by decide +kernel)) ggX0_admit_X1_begin
set_option maxRecDepth 20000 in
theorem ggX0_admit_X1_measure : GoodIn wsX0_admit wsX1_measure := goodIn_r _ [18, 14, 19, 20, 21, 13, 10, 11, 12, 22, 23, 24, 25, 26, 27, 28, 29, 30, 31, 32, 33, 34, 35, 36, 37, 38, 39, 40, 41, 42, 43, 44, 45, 46, 47, 48, 49, 50, 51, 52, 53, 54, 55, 56, 57, 58, 59, 60, 61, 62, 63, 64, 65, 66, 67, 100, 101, 102, 103, 104, 105, 106, 107, 108, 109, 110, 111, 112, 113, 114, 115, 116] (by decide +kernel) (by decide +kernel)
set_option maxRecDepth 20000 in
theorem gX0_admit_X1_measure : GoodIn wsX0_admit (wsV RX0 68 RX1 yX1_measure wsX1_measure) := goodIn_app (goodIn_of _ (by decide +kernel)) ggX0_admit_X1_measure
set_option maxRecDepth 20000 in
theorem ggX0_admit_X0_holds : GoodIn wsX0_admit wsX0_holds := goodIn_r _ [72, 2, 73, 74, 75, 76, 77, 78, 71, 79, 80, 81, 82, 83, 84, 85, 90, 91, 92, 93, 94, 95, 96, 97, 98, 99, 100, 101, 102, 103, 104, 105, 106, 107, 108, 117, 118, 119, 120, 121, 122, 123, 124, 125, 126, 127] (by decide +kernel) (by decide +kernel)
set_option maxRecDepth 20000 in
theorem gX0_admit_X0_holds : GoodIn wsX0_admit (wsV RX0 75 RX0 yX0_holds wsX0_holds) := goodIn_app (goodIn_of _ (by decide +kernel)) ggX0_admit_X0_holds
set_option maxRecDepth 20000 in
theorem ggX0_admit_X1_settle : GoodIn wsX0_admit wsX1_settle := goodIn_r _ [89, 14, 20, 21, 100, 101, 102, 103, 104, 105, 106, 107, 108] (by decide +kernel) (by decide +kernel)
set_option maxRecDepth 20000 in
theorem gX0_admit_X1_settle : GoodIn wsX0_admit (wsV RX0 79 RX1 yX1_settle wsX1_settle) := goodIn_app (goodIn_of _ (by decide +kernel)) ggX0_admit_X1_settle
theorem dX0_admit_0 : decode cX0_admit 0 = .ok (.aload_n 0, 1) := by decide +kernel
theorem dX0_admit_1 : decode cX0_admit 1 = .ok (.getfield 58, 3) := by decide +kernel
theorem dX0_admit_4 : decode cX0_admit 4 = .ok (.bipush 16, 2) := by decide +kernel
theorem dX0_admit_6 : decode cX0_admit 6 = .ok (.if_icmp .lt 5, 3) := by decide +kernel
theorem dX0_admit_9 : decode cX0_admit 9 = .ok (.iconst (-1), 1) := by decide +kernel
theorem dX0_admit_10 : decode cX0_admit 10 = .ok (.ireturn, 1) := by decide +kernel
theorem dX0_admit_11 : decode cX0_admit 11 = .ok (.aload_n 0, 1) := by decide +kernel
theorem dX0_admit_12 : decode cX0_admit 12 = .ok (.getfield 34, 3) := by decide +kernel
theorem dX0_admit_15 : decode cX0_admit 15 = .ok (.aload_n 0, 1) := by decide +kernel
theorem dX0_admit_16 : decode cX0_admit 16 = .ok (.getfield 58, 3) := by decide +kernel
theorem dX0_admit_19 : decode cX0_admit 19 = .ok (.aaload, 1) := by decide +kernel
theorem dX0_admit_20 : decode cX0_admit 20 = .ok (.astore 6, 2) := by decide +kernel
theorem dX0_admit_22 : decode cX0_admit 22 = .ok (.aload 6, 2) := by decide +kernel
theorem dX0_admit_24 : decode cX0_admit 24 = .ok (.iload_n 1, 1) := by decide +kernel
theorem dX0_admit_25 : decode cX0_admit 25 = .ok (.iload_n 2, 1) := by decide +kernel
theorem dX0_admit_26 : decode cX0_admit 26 = .ok (.iload_n 3, 1) := by decide +kernel
theorem dX0_admit_27 : decode cX0_admit 27 = .ok (.iload 4, 2) := by decide +kernel
theorem dX0_admit_29 : decode cX0_admit 29 = .ok (.iload 5, 2) := by decide +kernel
theorem dX0_admit_31 : decode cX0_admit 31 = .ok (.invokevirtual 71, 3) := by decide +kernel
theorem dX0_admit_34 : decode cX0_admit 34 = .ok (.aload 6, 2) := by decide +kernel
theorem dX0_admit_36 : decode cX0_admit 36 = .ok (.aload_n 0, 1) := by decide +kernel
theorem dX0_admit_37 : decode cX0_admit 37 = .ok (.getfield 24, 3) := by decide +kernel
theorem dX0_admit_40 : decode cX0_admit 40 = .ok (.invokevirtual 68, 3) := by decide +kernel
theorem dX0_admit_43 : decode cX0_admit 43 = .ok (.aload_n 0, 1) := by decide +kernel
theorem dX0_admit_44 : decode cX0_admit 44 = .ok (.invokevirtual 75, 3) := by decide +kernel
theorem dX0_admit_47 : decode cX0_admit 47 = .ok (.ifCond .ne 12, 3) := by decide +kernel
theorem dX0_admit_50 : decode cX0_admit 50 = .ok (.aload 6, 2) := by decide +kernel
theorem dX0_admit_52 : decode cX0_admit 52 = .ok (.iconst 3, 1) := by decide +kernel
theorem dX0_admit_53 : decode cX0_admit 53 = .ok (.iconst 0, 1) := by decide +kernel
theorem dX0_admit_54 : decode cX0_admit 54 = .ok (.invokevirtual 79, 3) := by decide +kernel
theorem dX0_admit_57 : decode cX0_admit 57 = .ok (.iconst (-1), 1) := by decide +kernel
theorem dX0_admit_58 : decode cX0_admit 58 = .ok (.ireturn, 1) := by decide +kernel
theorem dX0_admit_59 : decode cX0_admit 59 = .ok (.aload_n 0, 1) := by decide +kernel
theorem dX0_admit_60 : decode cX0_admit 60 = .ok (.dup, 1) := by decide +kernel
theorem dX0_admit_61 : decode cX0_admit 61 = .ok (.getfield 58, 3) := by decide +kernel
theorem dX0_admit_64 : decode cX0_admit 64 = .ok (.iconst 1, 1) := by decide +kernel
theorem dX0_admit_65 : decode cX0_admit 65 = .ok (.iadd, 1) := by decide +kernel
theorem dX0_admit_66 : decode cX0_admit 66 = .ok (.putfield 58, 3) := by decide +kernel
theorem dX0_admit_69 : decode cX0_admit 69 = .ok (.aload_n 0, 1) := by decide +kernel
theorem dX0_admit_70 : decode cX0_admit 70 = .ok (.getfield 58, 3) := by decide +kernel
theorem dX0_admit_73 : decode cX0_admit 73 = .ok (.iconst 1, 1) := by decide +kernel
theorem dX0_admit_74 : decode cX0_admit 74 = .ok (.isub, 1) := by decide +kernel
theorem dX0_admit_75 : decode cX0_admit 75 = .ok (.ireturn, 1) := by decide +kernel
set_option maxRecDepth 20000 in
theorem ggX0_sendOut_X1_settle : GoodIn wsX0_sendOut wsX1_settle := goodIn_r _ [8, 9, 10, 11, 12, 13, 14, 15, 16, 17, 18, 19, 20] (by decide +kernel) (by decide +kernel)
set_option maxRecDepth 20000 in
theorem gX0_sendOut_X1_settle : GoodIn wsX0_sendOut (wsV RX0 79 RX1 yX1_settle wsX1_settle) := goodIn_app (goodIn_of _ (by decide +kernel)) ggX0_sendOut_X1_settle
theorem dX0_sendOut_0 : decode cX0_sendOut 0 = .ok (.aload_n 1, 1) := by decide +kernel
theorem dX0_sendOut_1 : decode cX0_sendOut 1 = .ok (.getfield 83, 3) := by decide +kernel
theorem dX0_sendOut_4 : decode cX0_sendOut 4 = .ok (.iconst 2, 1) := by decide +kernel
theorem dX0_sendOut_5 : decode cX0_sendOut 5 = .ok (.if_icmp .eq 15, 3) := by decide +kernel
theorem dX0_sendOut_8 : decode cX0_sendOut 8 = .ok (.aload_n 1, 1) := by decide +kernel
theorem dX0_sendOut_9 : decode cX0_sendOut 9 = .ok (.getfield 86, 3) := by decide +kernel
theorem dX0_sendOut_12 : decode cX0_sendOut 12 = .ok (.getfield 90, 3) := by decide +kernel
theorem dX0_sendOut_15 : decode cX0_sendOut 15 = .ok (.lconst 0, 1) := by decide +kernel
theorem dX0_sendOut_16 : decode cX0_sendOut 16 = .ok (.lcmp, 1) := by decide +kernel
theorem dX0_sendOut_17 : decode cX0_sendOut 17 = .ok (.ifCond .le 5, 3) := by decide +kernel
theorem dX0_sendOut_20 : decode cX0_sendOut 20 = .ok (.iconst 0, 1) := by decide +kernel
theorem dX0_sendOut_21 : decode cX0_sendOut 21 = .ok (.ireturn, 1) := by decide +kernel
theorem dX0_sendOut_22 : decode cX0_sendOut 22 = .ok (.aload_n 1, 1) := by decide +kernel
theorem dX0_sendOut_23 : decode cX0_sendOut 23 = .ok (.iconst 2, 1) := by decide +kernel
theorem dX0_sendOut_24 : decode cX0_sendOut 24 = .ok (.iconst 0, 1) := by decide +kernel
theorem dX0_sendOut_25 : decode cX0_sendOut 25 = .ok (.invokevirtual 79, 3) := by decide +kernel
theorem dX0_sendOut_28 : decode cX0_sendOut 28 = .ok (.iconst 1, 1) := by decide +kernel
theorem dX0_sendOut_29 : decode cX0_sendOut 29 = .ok (.ireturn, 1) := by decide +kernel
set_option maxRecDepth 20000 in
theorem ggX0_takeBack_X1_measure : GoodIn wsX0_takeBack wsX1_measure := goodIn_r _ [7, 8, 9, 10, 11, 12, 13, 14, 15, 16, 17, 18, 19, 20, 21, 22, 23, 24, 25, 26, 27, 28, 29, 30, 31, 32, 33, 34, 35, 36, 37, 38, 39, 40, 41, 42, 43, 44, 45, 46, 47, 48, 49, 50, 51, 52, 53, 54, 55, 56, 57, 58, 59, 60, 61, 85, 86, 87, 88, 89, 90, 91, 92, 93, 104, 105, 106, 107, 108, 109, 110, 111] (by decide +kernel) (by decide +kernel)
set_option maxRecDepth 20000 in
theorem gX0_takeBack_X1_measure : GoodIn wsX0_takeBack (wsV RX0 68 RX1 yX1_measure wsX1_measure) := goodIn_app (goodIn_of _ (by decide +kernel)) ggX0_takeBack_X1_measure
set_option maxRecDepth 20000 in
theorem ggX0_takeBack_X0_holds : GoodIn wsX0_takeBack wsX0_holds := goodIn_r _ [66, 67, 68, 69, 70, 71, 72, 73, 65, 74, 75, 76, 77, 78, 79, 80, 94, 95, 96, 97, 98, 99, 100, 101, 102, 103, 85, 86, 87, 88, 89, 90, 91, 92, 93, 112, 113, 114, 115, 116, 117, 118, 119, 120, 121, 122] (by decide +kernel) (by decide +kernel)
set_option maxRecDepth 20000 in
theorem gX0_takeBack_X0_holds : GoodIn wsX0_takeBack (wsV RX0 75 RX0 yX0_holds wsX0_holds) := goodIn_app (goodIn_of _ (by decide +kernel)) ggX0_takeBack_X0_holds
set_option maxRecDepth 20000 in
theorem ggX0_takeBack_X1_settle : GoodIn wsX0_takeBack wsX1_settle := goodIn_r _ [84, 8, 10, 11, 85, 86, 87, 88, 89, 90, 91, 92, 93] (by decide +kernel) (by decide +kernel)
set_option maxRecDepth 20000 in
theorem gX0_takeBack_X1_settle : GoodIn wsX0_takeBack (wsV RX0 79 RX1 yX1_settle wsX1_settle) := goodIn_app (goodIn_of _ (by decide +kernel)) ggX0_takeBack_X1_settle
theorem dX0_takeBack_0 : decode cX0_takeBack 0 = .ok (.aload_n 1, 1) := by decide +kernel
theorem dX0_takeBack_1 : decode cX0_takeBack 1 = .ok (.getfield 83, 3) := by decide +kernel
theorem dX0_takeBack_4 : decode cX0_takeBack 4 = .ok (.iconst 2, 1) := by decide +kernel
theorem dX0_takeBack_5 : decode cX0_takeBack 5 = .ok (.if_icmp .eq 5, 3) := by decide +kernel
theorem dX0_takeBack_8 : decode cX0_takeBack 8 = .ok (.iconst 0, 1) := by decide +kernel
theorem dX0_takeBack_9 : decode cX0_takeBack 9 = .ok (.ireturn, 1) := by decide +kernel
theorem dX0_takeBack_10 : decode cX0_takeBack 10 = .ok (.aload_n 1, 1) := by decide +kernel
theorem dX0_takeBack_11 : decode cX0_takeBack 11 = .ok (.iconst 0, 1) := by decide +kernel
theorem dX0_takeBack_12 : decode cX0_takeBack 12 = .ok (.putfield 83, 3) := by decide +kernel
theorem dX0_takeBack_15 : decode cX0_takeBack 15 = .ok (.aload_n 1, 1) := by decide +kernel
theorem dX0_takeBack_16 : decode cX0_takeBack 16 = .ok (.aload_n 0, 1) := by decide +kernel
theorem dX0_takeBack_17 : decode cX0_takeBack 17 = .ok (.getfield 24, 3) := by decide +kernel
theorem dX0_takeBack_20 : decode cX0_takeBack 20 = .ok (.invokevirtual 68, 3) := by decide +kernel
theorem dX0_takeBack_23 : decode cX0_takeBack 23 = .ok (.aload_n 0, 1) := by decide +kernel
theorem dX0_takeBack_24 : decode cX0_takeBack 24 = .ok (.invokevirtual 75, 3) := by decide +kernel
theorem dX0_takeBack_27 : decode cX0_takeBack 27 = .ok (.ifCond .ne 11, 3) := by decide +kernel
theorem dX0_takeBack_30 : decode cX0_takeBack 30 = .ok (.aload_n 1, 1) := by decide +kernel
theorem dX0_takeBack_31 : decode cX0_takeBack 31 = .ok (.iconst 2, 1) := by decide +kernel
theorem dX0_takeBack_32 : decode cX0_takeBack 32 = .ok (.iconst 0, 1) := by decide +kernel
theorem dX0_takeBack_33 : decode cX0_takeBack 33 = .ok (.invokevirtual 79, 3) := by decide +kernel
theorem dX0_takeBack_36 : decode cX0_takeBack 36 = .ok (.iconst 0, 1) := by decide +kernel
theorem dX0_takeBack_37 : decode cX0_takeBack 37 = .ok (.ireturn, 1) := by decide +kernel
theorem dX0_takeBack_38 : decode cX0_takeBack 38 = .ok (.iconst 1, 1) := by decide +kernel
theorem dX0_takeBack_39 : decode cX0_takeBack 39 = .ok (.ireturn, 1) := by decide +kernel
set_option maxRecDepth 20000 in
theorem ggX0_twinsOf_X0_areTwins : GoodIn wsX0_twinsOf wsX0_areTwins := goodIn_r _ [5, 6, 7, 8, 9, 10, 11, 12, 23, 24, 25, 26, 27, 28, 29, 30, 31] (by decide +kernel) (by decide +kernel)
set_option maxRecDepth 20000 in
theorem gX0_twinsOf_X0_areTwins : GoodIn wsX0_twinsOf (va_wsS RX0 95 yX0_areTwins wsX0_areTwins) := goodIn_app (goodIn_of _ (by decide +kernel)) ggX0_twinsOf_X0_areTwins
theorem dX0_twinsOf_0 : decode cX0_twinsOf 0 = .ok (.iconst 0, 1) := by decide +kernel
theorem dX0_twinsOf_1 : decode cX0_twinsOf 1 = .ok (.istore_n 2, 1) := by decide +kernel
theorem dX0_twinsOf_2 : decode cX0_twinsOf 2 = .ok (.aload_n 0, 1) := by decide +kernel
theorem dX0_twinsOf_3 : decode cX0_twinsOf 3 = .ok (.getfield 34, 3) := by decide +kernel
theorem dX0_twinsOf_6 : decode cX0_twinsOf 6 = .ok (.astore_n 3, 1) := by decide +kernel
theorem dX0_twinsOf_7 : decode cX0_twinsOf 7 = .ok (.aload_n 3, 1) := by decide +kernel
theorem dX0_twinsOf_8 : decode cX0_twinsOf 8 = .ok (.arraylength, 1) := by decide +kernel
theorem dX0_twinsOf_9 : decode cX0_twinsOf 9 = .ok (.istore 4, 2) := by decide +kernel
theorem dX0_twinsOf_11 : decode cX0_twinsOf 11 = .ok (.iconst 0, 1) := by decide +kernel
theorem dX0_twinsOf_12 : decode cX0_twinsOf 12 = .ok (.istore 5, 2) := by decide +kernel
theorem dX0_twinsOf_14 : decode cX0_twinsOf 14 = .ok (.iload 5, 2) := by decide +kernel
theorem dX0_twinsOf_16 : decode cX0_twinsOf 16 = .ok (.iload 4, 2) := by decide +kernel
theorem dX0_twinsOf_18 : decode cX0_twinsOf 18 = .ok (.if_icmp .ge 27, 3) := by decide +kernel
theorem dX0_twinsOf_21 : decode cX0_twinsOf 21 = .ok (.aload_n 3, 1) := by decide +kernel
theorem dX0_twinsOf_22 : decode cX0_twinsOf 22 = .ok (.iload 5, 2) := by decide +kernel
theorem dX0_twinsOf_24 : decode cX0_twinsOf 24 = .ok (.aaload, 1) := by decide +kernel
theorem dX0_twinsOf_25 : decode cX0_twinsOf 25 = .ok (.astore 6, 2) := by decide +kernel
theorem dX0_twinsOf_27 : decode cX0_twinsOf 27 = .ok (.aload_n 1, 1) := by decide +kernel
theorem dX0_twinsOf_28 : decode cX0_twinsOf 28 = .ok (.aload 6, 2) := by decide +kernel
theorem dX0_twinsOf_30 : decode cX0_twinsOf 30 = .ok (.invokestatic 95, 3) := by decide +kernel
theorem dX0_twinsOf_33 : decode cX0_twinsOf 33 = .ok (.ifCond .eq 6, 3) := by decide +kernel
theorem dX0_twinsOf_36 : decode cX0_twinsOf 36 = .ok (.iinc 2 1, 3) := by decide +kernel
theorem dX0_twinsOf_39 : decode cX0_twinsOf 39 = .ok (.iinc 5 1, 3) := by decide +kernel
theorem dX0_twinsOf_42 : decode cX0_twinsOf 42 = .ok (.goto (-28), 3) := by decide +kernel
theorem dX0_twinsOf_45 : decode cX0_twinsOf 45 = .ok (.iload_n 2, 1) := by decide +kernel
theorem dX0_twinsOf_46 : decode cX0_twinsOf 46 = .ok (.ireturn, 1) := by decide +kernel
set_option maxRecDepth 20000 in
theorem ggX0_hasJudgedTwin_X0_areTwins : GoodIn wsX0_hasJudgedTwin wsX0_areTwins := goodIn_r _ [6, 7, 8, 9, 10, 11, 12, 13, 24, 25, 26, 27, 28, 29, 30, 31, 32] (by decide +kernel) (by decide +kernel)
set_option maxRecDepth 20000 in
theorem gX0_hasJudgedTwin_X0_areTwins : GoodIn wsX0_hasJudgedTwin (va_wsS RX0 95 yX0_areTwins wsX0_areTwins) := goodIn_app (goodIn_of _ (by decide +kernel)) ggX0_hasJudgedTwin_X0_areTwins
theorem dX0_hasJudgedTwin_0 : decode cX0_hasJudgedTwin 0 = .ok (.aload_n 0, 1) := by decide +kernel
theorem dX0_hasJudgedTwin_1 : decode cX0_hasJudgedTwin 1 = .ok (.getfield 34, 3) := by decide +kernel
theorem dX0_hasJudgedTwin_4 : decode cX0_hasJudgedTwin 4 = .ok (.astore_n 2, 1) := by decide +kernel
theorem dX0_hasJudgedTwin_5 : decode cX0_hasJudgedTwin 5 = .ok (.aload_n 2, 1) := by decide +kernel
theorem dX0_hasJudgedTwin_6 : decode cX0_hasJudgedTwin 6 = .ok (.arraylength, 1) := by decide +kernel
theorem dX0_hasJudgedTwin_7 : decode cX0_hasJudgedTwin 7 = .ok (.istore_n 3, 1) := by decide +kernel
theorem dX0_hasJudgedTwin_8 : decode cX0_hasJudgedTwin 8 = .ok (.iconst 0, 1) := by decide +kernel
theorem dX0_hasJudgedTwin_9 : decode cX0_hasJudgedTwin 9 = .ok (.istore 4, 2) := by decide +kernel
theorem dX0_hasJudgedTwin_11 : decode cX0_hasJudgedTwin 11 = .ok (.iload 4, 2) := by decide +kernel
theorem dX0_hasJudgedTwin_13 : decode cX0_hasJudgedTwin 13 = .ok (.iload_n 3, 1) := by decide +kernel
theorem dX0_hasJudgedTwin_14 : decode cX0_hasJudgedTwin 14 = .ok (.if_icmp .ge 35, 3) := by decide +kernel
theorem dX0_hasJudgedTwin_17 : decode cX0_hasJudgedTwin 17 = .ok (.aload_n 2, 1) := by decide +kernel
theorem dX0_hasJudgedTwin_18 : decode cX0_hasJudgedTwin 18 = .ok (.iload 4, 2) := by decide +kernel
theorem dX0_hasJudgedTwin_20 : decode cX0_hasJudgedTwin 20 = .ok (.aaload, 1) := by decide +kernel
theorem dX0_hasJudgedTwin_21 : decode cX0_hasJudgedTwin 21 = .ok (.astore 5, 2) := by decide +kernel
theorem dX0_hasJudgedTwin_23 : decode cX0_hasJudgedTwin 23 = .ok (.aload 5, 2) := by decide +kernel
theorem dX0_hasJudgedTwin_25 : decode cX0_hasJudgedTwin 25 = .ok (.getfield 83, 3) := by decide +kernel
theorem dX0_hasJudgedTwin_28 : decode cX0_hasJudgedTwin 28 = .ok (.iconst 1, 1) := by decide +kernel
theorem dX0_hasJudgedTwin_29 : decode cX0_hasJudgedTwin 29 = .ok (.if_icmp .ne 14, 3) := by decide +kernel
theorem dX0_hasJudgedTwin_32 : decode cX0_hasJudgedTwin 32 = .ok (.aload_n 1, 1) := by decide +kernel
theorem dX0_hasJudgedTwin_33 : decode cX0_hasJudgedTwin 33 = .ok (.aload 5, 2) := by decide +kernel
theorem dX0_hasJudgedTwin_35 : decode cX0_hasJudgedTwin 35 = .ok (.invokestatic 95, 3) := by decide +kernel
theorem dX0_hasJudgedTwin_38 : decode cX0_hasJudgedTwin 38 = .ok (.ifCond .eq 5, 3) := by decide +kernel
theorem dX0_hasJudgedTwin_41 : decode cX0_hasJudgedTwin 41 = .ok (.iconst 1, 1) := by decide +kernel
theorem dX0_hasJudgedTwin_42 : decode cX0_hasJudgedTwin 42 = .ok (.ireturn, 1) := by decide +kernel
theorem dX0_hasJudgedTwin_43 : decode cX0_hasJudgedTwin 43 = .ok (.iinc 4 1, 3) := by decide +kernel
theorem dX0_hasJudgedTwin_46 : decode cX0_hasJudgedTwin 46 = .ok (.goto (-35), 3) := by decide +kernel
theorem dX0_hasJudgedTwin_49 : decode cX0_hasJudgedTwin 49 = .ok (.iconst 0, 1) := by decide +kernel
theorem dX0_hasJudgedTwin_50 : decode cX0_hasJudgedTwin 50 = .ok (.ireturn, 1) := by decide +kernel
set_option maxRecDepth 20000 in
theorem ggX0_areTwins_X1_isIn : GoodIn wsX0_areTwins wsX1_isIn := goodIn_r _ [6, 7, 8, 9, 10, 11, 12, 13, 14, 15, 16] (by decide +kernel) (by decide +kernel)
set_option maxRecDepth 20000 in
theorem gX0_areTwins_X1_isIn : GoodIn wsX0_areTwins (wsV RX0 99 RX1 yX1_isIn wsX1_isIn) := goodIn_app (goodIn_of _ (by decide +kernel)) ggX0_areTwins_X1_isIn
theorem dX0_areTwins_0 : decode cX0_areTwins 0 = .ok (.aload_n 0, 1) := by decide +kernel
theorem dX0_areTwins_1 : decode cX0_areTwins 1 = .ok (.aload_n 1, 1) := by decide +kernel
theorem dX0_areTwins_2 : decode cX0_areTwins 2 = .ok (.if_acmp .eq 32, 3) := by decide +kernel
theorem dX0_areTwins_5 : decode cX0_areTwins 5 = .ok (.aload_n 0, 1) := by decide +kernel
theorem dX0_areTwins_6 : decode cX0_areTwins 6 = .ok (.invokevirtual 99, 3) := by decide +kernel
theorem dX0_areTwins_9 : decode cX0_areTwins 9 = .ok (.ifCond .eq 25, 3) := by decide +kernel
theorem dX0_areTwins_12 : decode cX0_areTwins 12 = .ok (.aload_n 1, 1) := by decide +kernel
theorem dX0_areTwins_13 : decode cX0_areTwins 13 = .ok (.invokevirtual 99, 3) := by decide +kernel
theorem dX0_areTwins_16 : decode cX0_areTwins 16 = .ok (.ifCond .eq 18, 3) := by decide +kernel
theorem dX0_areTwins_19 : decode cX0_areTwins 19 = .ok (.aload_n 0, 1) := by decide +kernel
theorem dX0_areTwins_20 : decode cX0_areTwins 20 = .ok (.getfield 102, 3) := by decide +kernel
theorem dX0_areTwins_23 : decode cX0_areTwins 23 = .ok (.aload_n 1, 1) := by decide +kernel
theorem dX0_areTwins_24 : decode cX0_areTwins 24 = .ok (.getfield 102, 3) := by decide +kernel
theorem dX0_areTwins_27 : decode cX0_areTwins 27 = .ok (.if_icmp .ne 7, 3) := by decide +kernel
theorem dX0_areTwins_30 : decode cX0_areTwins 30 = .ok (.iconst 1, 1) := by decide +kernel
theorem dX0_areTwins_31 : decode cX0_areTwins 31 = .ok (.goto 4, 3) := by decide +kernel
theorem dX0_areTwins_34 : decode cX0_areTwins 34 = .ok (.iconst 0, 1) := by decide +kernel
theorem dX0_areTwins_35 : decode cX0_areTwins 35 = .ok (.ireturn, 1) := by decide +kernel
theorem dX0_inState_0 : decode cX0_inState 0 = .ok (.iconst 0, 1) := by decide +kernel
theorem dX0_inState_1 : decode cX0_inState 1 = .ok (.istore_n 2, 1) := by decide +kernel
theorem dX0_inState_2 : decode cX0_inState 2 = .ok (.aload_n 0, 1) := by decide +kernel
theorem dX0_inState_3 : decode cX0_inState 3 = .ok (.getfield 34, 3) := by decide +kernel
theorem dX0_inState_6 : decode cX0_inState 6 = .ok (.astore_n 3, 1) := by decide +kernel
theorem dX0_inState_7 : decode cX0_inState 7 = .ok (.aload_n 3, 1) := by decide +kernel
theorem dX0_inState_8 : decode cX0_inState 8 = .ok (.arraylength, 1) := by decide +kernel
theorem dX0_inState_9 : decode cX0_inState 9 = .ok (.istore 4, 2) := by decide +kernel
theorem dX0_inState_11 : decode cX0_inState 11 = .ok (.iconst 0, 1) := by decide +kernel
theorem dX0_inState_12 : decode cX0_inState 12 = .ok (.istore 5, 2) := by decide +kernel
theorem dX0_inState_14 : decode cX0_inState 14 = .ok (.iload 5, 2) := by decide +kernel
theorem dX0_inState_16 : decode cX0_inState 16 = .ok (.iload 4, 2) := by decide +kernel
theorem dX0_inState_18 : decode cX0_inState 18 = .ok (.if_icmp .ge 27, 3) := by decide +kernel
theorem dX0_inState_21 : decode cX0_inState 21 = .ok (.aload_n 3, 1) := by decide +kernel
theorem dX0_inState_22 : decode cX0_inState 22 = .ok (.iload 5, 2) := by decide +kernel
theorem dX0_inState_24 : decode cX0_inState 24 = .ok (.aaload, 1) := by decide +kernel
theorem dX0_inState_25 : decode cX0_inState 25 = .ok (.astore 6, 2) := by decide +kernel
theorem dX0_inState_27 : decode cX0_inState 27 = .ok (.aload 6, 2) := by decide +kernel
theorem dX0_inState_29 : decode cX0_inState 29 = .ok (.getfield 83, 3) := by decide +kernel
theorem dX0_inState_32 : decode cX0_inState 32 = .ok (.iload_n 1, 1) := by decide +kernel
theorem dX0_inState_33 : decode cX0_inState 33 = .ok (.if_icmp .ne 6, 3) := by decide +kernel
theorem dX0_inState_36 : decode cX0_inState 36 = .ok (.iinc 2 1, 3) := by decide +kernel
theorem dX0_inState_39 : decode cX0_inState 39 = .ok (.iinc 5 1, 3) := by decide +kernel
theorem dX0_inState_42 : decode cX0_inState 42 = .ok (.goto (-28), 3) := by decide +kernel
theorem dX0_inState_45 : decode cX0_inState 45 = .ok (.iload_n 2, 1) := by decide +kernel
theorem dX0_inState_46 : decode cX0_inState 46 = .ok (.ireturn, 1) := by decide +kernel
theorem dX0_mostInAll_0 : decode cX0_mostInAll 0 = .ok (.lconst 0, 1) := by decide +kernel
theorem dX0_mostInAll_1 : decode cX0_mostInAll 1 = .ok (.lstore_n 1, 1) := by decide +kernel
theorem dX0_mostInAll_2 : decode cX0_mostInAll 2 = .ok (.aload_n 0, 1) := by decide +kernel
theorem dX0_mostInAll_3 : decode cX0_mostInAll 3 = .ok (.getfield 34, 3) := by decide +kernel
theorem dX0_mostInAll_6 : decode cX0_mostInAll 6 = .ok (.astore_n 3, 1) := by decide +kernel
theorem dX0_mostInAll_7 : decode cX0_mostInAll 7 = .ok (.aload_n 3, 1) := by decide +kernel
theorem dX0_mostInAll_8 : decode cX0_mostInAll 8 = .ok (.arraylength, 1) := by decide +kernel
theorem dX0_mostInAll_9 : decode cX0_mostInAll 9 = .ok (.istore 4, 2) := by decide +kernel
theorem dX0_mostInAll_11 : decode cX0_mostInAll 11 = .ok (.iconst 0, 1) := by decide +kernel
theorem dX0_mostInAll_12 : decode cX0_mostInAll 12 = .ok (.istore 5, 2) := by decide +kernel
theorem dX0_mostInAll_14 : decode cX0_mostInAll 14 = .ok (.iload 5, 2) := by decide +kernel
theorem dX0_mostInAll_16 : decode cX0_mostInAll 16 = .ok (.iload 4, 2) := by decide +kernel
theorem dX0_mostInAll_18 : decode cX0_mostInAll 18 = .ok (.if_icmp .ge 24, 3) := by decide +kernel
theorem dX0_mostInAll_21 : decode cX0_mostInAll 21 = .ok (.aload_n 3, 1) := by decide +kernel
theorem dX0_mostInAll_22 : decode cX0_mostInAll 22 = .ok (.iload 5, 2) := by decide +kernel
theorem dX0_mostInAll_24 : decode cX0_mostInAll 24 = .ok (.aaload, 1) := by decide +kernel
theorem dX0_mostInAll_25 : decode cX0_mostInAll 25 = .ok (.astore 6, 2) := by decide +kernel
theorem dX0_mostInAll_27 : decode cX0_mostInAll 27 = .ok (.lload_n 1, 1) := by decide +kernel
theorem dX0_mostInAll_28 : decode cX0_mostInAll 28 = .ok (.aload 6, 2) := by decide +kernel
theorem dX0_mostInAll_30 : decode cX0_mostInAll 30 = .ok (.getfield 105, 3) := by decide +kernel
theorem dX0_mostInAll_33 : decode cX0_mostInAll 33 = .ok (.i2l, 1) := by decide +kernel
theorem dX0_mostInAll_34 : decode cX0_mostInAll 34 = .ok (.ladd, 1) := by decide +kernel
theorem dX0_mostInAll_35 : decode cX0_mostInAll 35 = .ok (.lstore_n 1, 1) := by decide +kernel
theorem dX0_mostInAll_36 : decode cX0_mostInAll 36 = .ok (.iinc 5 1, 3) := by decide +kernel
theorem dX0_mostInAll_39 : decode cX0_mostInAll 39 = .ok (.goto (-25), 3) := by decide +kernel
theorem dX0_mostInAll_42 : decode cX0_mostInAll 42 = .ok (.lload_n 1, 1) := by decide +kernel
theorem dX0_mostInAll_43 : decode cX0_mostInAll 43 = .ok (.lreturn, 1) := by decide +kernel
theorem dX0_leastInAll_0 : decode cX0_leastInAll 0 = .ok (.lconst 0, 1) := by decide +kernel
theorem dX0_leastInAll_1 : decode cX0_leastInAll 1 = .ok (.lstore_n 1, 1) := by decide +kernel
theorem dX0_leastInAll_2 : decode cX0_leastInAll 2 = .ok (.aload_n 0, 1) := by decide +kernel
theorem dX0_leastInAll_3 : decode cX0_leastInAll 3 = .ok (.getfield 34, 3) := by decide +kernel
theorem dX0_leastInAll_6 : decode cX0_leastInAll 6 = .ok (.astore_n 3, 1) := by decide +kernel
theorem dX0_leastInAll_7 : decode cX0_leastInAll 7 = .ok (.aload_n 3, 1) := by decide +kernel
theorem dX0_leastInAll_8 : decode cX0_leastInAll 8 = .ok (.arraylength, 1) := by decide +kernel
theorem dX0_leastInAll_9 : decode cX0_leastInAll 9 = .ok (.istore 4, 2) := by decide +kernel
theorem dX0_leastInAll_11 : decode cX0_leastInAll 11 = .ok (.iconst 0, 1) := by decide +kernel
theorem dX0_leastInAll_12 : decode cX0_leastInAll 12 = .ok (.istore 5, 2) := by decide +kernel
theorem dX0_leastInAll_14 : decode cX0_leastInAll 14 = .ok (.iload 5, 2) := by decide +kernel
theorem dX0_leastInAll_16 : decode cX0_leastInAll 16 = .ok (.iload 4, 2) := by decide +kernel
theorem dX0_leastInAll_18 : decode cX0_leastInAll 18 = .ok (.if_icmp .ge 24, 3) := by decide +kernel
theorem dX0_leastInAll_21 : decode cX0_leastInAll 21 = .ok (.aload_n 3, 1) := by decide +kernel
theorem dX0_leastInAll_22 : decode cX0_leastInAll 22 = .ok (.iload 5, 2) := by decide +kernel
theorem dX0_leastInAll_24 : decode cX0_leastInAll 24 = .ok (.aaload, 1) := by decide +kernel
theorem dX0_leastInAll_25 : decode cX0_leastInAll 25 = .ok (.astore 6, 2) := by decide +kernel
theorem dX0_leastInAll_27 : decode cX0_leastInAll 27 = .ok (.lload_n 1, 1) := by decide +kernel
theorem dX0_leastInAll_28 : decode cX0_leastInAll 28 = .ok (.aload 6, 2) := by decide +kernel
theorem dX0_leastInAll_30 : decode cX0_leastInAll 30 = .ok (.getfield 108, 3) := by decide +kernel
theorem dX0_leastInAll_33 : decode cX0_leastInAll 33 = .ok (.i2l, 1) := by decide +kernel
theorem dX0_leastInAll_34 : decode cX0_leastInAll 34 = .ok (.ladd, 1) := by decide +kernel
theorem dX0_leastInAll_35 : decode cX0_leastInAll 35 = .ok (.lstore_n 1, 1) := by decide +kernel
theorem dX0_leastInAll_36 : decode cX0_leastInAll 36 = .ok (.iinc 5 1, 3) := by decide +kernel
theorem dX0_leastInAll_39 : decode cX0_leastInAll 39 = .ok (.goto (-25), 3) := by decide +kernel
theorem dX0_leastInAll_42 : decode cX0_leastInAll 42 = .ok (.lload_n 1, 1) := by decide +kernel
theorem dX0_leastInAll_43 : decode cX0_leastInAll 43 = .ok (.lreturn, 1) := by decide +kernel
theorem dX0_paidInAll_0 : decode cX0_paidInAll 0 = .ok (.lconst 0, 1) := by decide +kernel
theorem dX0_paidInAll_1 : decode cX0_paidInAll 1 = .ok (.lstore_n 1, 1) := by decide +kernel
theorem dX0_paidInAll_2 : decode cX0_paidInAll 2 = .ok (.aload_n 0, 1) := by decide +kernel
theorem dX0_paidInAll_3 : decode cX0_paidInAll 3 = .ok (.getfield 34, 3) := by decide +kernel
theorem dX0_paidInAll_6 : decode cX0_paidInAll 6 = .ok (.astore_n 3, 1) := by decide +kernel
theorem dX0_paidInAll_7 : decode cX0_paidInAll 7 = .ok (.aload_n 3, 1) := by decide +kernel
theorem dX0_paidInAll_8 : decode cX0_paidInAll 8 = .ok (.arraylength, 1) := by decide +kernel
theorem dX0_paidInAll_9 : decode cX0_paidInAll 9 = .ok (.istore 4, 2) := by decide +kernel
theorem dX0_paidInAll_11 : decode cX0_paidInAll 11 = .ok (.iconst 0, 1) := by decide +kernel
theorem dX0_paidInAll_12 : decode cX0_paidInAll 12 = .ok (.istore 5, 2) := by decide +kernel
theorem dX0_paidInAll_14 : decode cX0_paidInAll 14 = .ok (.iload 5, 2) := by decide +kernel
theorem dX0_paidInAll_16 : decode cX0_paidInAll 16 = .ok (.iload 4, 2) := by decide +kernel
theorem dX0_paidInAll_18 : decode cX0_paidInAll 18 = .ok (.if_icmp .ge 26, 3) := by decide +kernel
theorem dX0_paidInAll_21 : decode cX0_paidInAll 21 = .ok (.aload_n 3, 1) := by decide +kernel
theorem dX0_paidInAll_22 : decode cX0_paidInAll 22 = .ok (.iload 5, 2) := by decide +kernel
theorem dX0_paidInAll_24 : decode cX0_paidInAll 24 = .ok (.aaload, 1) := by decide +kernel
theorem dX0_paidInAll_25 : decode cX0_paidInAll 25 = .ok (.astore 6, 2) := by decide +kernel
theorem dX0_paidInAll_27 : decode cX0_paidInAll 27 = .ok (.lload_n 1, 1) := by decide +kernel
theorem dX0_paidInAll_28 : decode cX0_paidInAll 28 = .ok (.aload 6, 2) := by decide +kernel
theorem dX0_paidInAll_30 : decode cX0_paidInAll 30 = .ok (.getfield 86, 3) := by decide +kernel
theorem dX0_paidInAll_33 : decode cX0_paidInAll 33 = .ok (.getfield 90, 3) := by decide +kernel
theorem dX0_paidInAll_36 : decode cX0_paidInAll 36 = .ok (.ladd, 1) := by decide +kernel
theorem dX0_paidInAll_37 : decode cX0_paidInAll 37 = .ok (.lstore_n 1, 1) := by decide +kernel
theorem dX0_paidInAll_38 : decode cX0_paidInAll 38 = .ok (.iinc 5 1, 3) := by decide +kernel
theorem dX0_paidInAll_41 : decode cX0_paidInAll 41 = .ok (.goto (-27), 3) := by decide +kernel
theorem dX0_paidInAll_44 : decode cX0_paidInAll 44 = .ok (.lload_n 1, 1) := by decide +kernel
theorem dX0_paidInAll_45 : decode cX0_paidInAll 45 = .ok (.lreturn, 1) := by decide +kernel
set_option maxRecDepth 20000 in
theorem ggX0_worstOf_X0_mostInAll : GoodIn wsX0_worstOf wsX0_mostInAll := goodIn_r _ [6, 7, 8, 23, 24, 25, 26, 27, 28, 29, 30, 31, 32, 14, 15, 16, 17, 18, 19, 20, 21, 22] (by decide +kernel) (by decide +kernel)
set_option maxRecDepth 20000 in
theorem gX0_worstOf_X0_mostInAll : GoodIn wsX0_worstOf (wsV RX0 111 RX0 yX0_mostInAll wsX0_mostInAll) := goodIn_app (goodIn_of _ (by decide +kernel)) ggX0_worstOf_X0_mostInAll
set_option maxRecDepth 20000 in
theorem ggX0_worstOf_X0_shareOf : GoodIn wsX0_worstOf wsX0_shareOf := goodIn_r _ [12, 13, 23, 24, 25, 26, 27, 28, 29, 30, 31, 32] (by decide +kernel) (by decide +kernel)
set_option maxRecDepth 20000 in
theorem gX0_worstOf_X0_shareOf : GoodIn wsX0_worstOf (wsV RX0 115 RX0 yX0_shareOf wsX0_shareOf) := goodIn_app (goodIn_of _ (by decide +kernel)) ggX0_worstOf_X0_shareOf
theorem dX0_worstOf_0 : decode cX0_worstOf 0 = .ok (.aload_n 0, 1) := by decide +kernel
theorem dX0_worstOf_1 : decode cX0_worstOf 1 = .ok (.aload_n 1, 1) := by decide +kernel
theorem dX0_worstOf_2 : decode cX0_worstOf 2 = .ok (.getfield 108, 3) := by decide +kernel
theorem dX0_worstOf_5 : decode cX0_worstOf 5 = .ok (.aload_n 0, 1) := by decide +kernel
theorem dX0_worstOf_6 : decode cX0_worstOf 6 = .ok (.invokevirtual 111, 3) := by decide +kernel
theorem dX0_worstOf_9 : decode cX0_worstOf 9 = .ok (.invokevirtual 115, 3) := by decide +kernel
theorem dX0_worstOf_12 : decode cX0_worstOf 12 = .ok (.lreturn, 1) := by decide +kernel
theorem dX0_shareOf_0 : decode cX0_shareOf 0 = .ok (.lload_n 2, 1) := by decide +kernel
theorem dX0_shareOf_1 : decode cX0_shareOf 1 = .ok (.lconst 0, 1) := by decide +kernel
theorem dX0_shareOf_2 : decode cX0_shareOf 2 = .ok (.lcmp, 1) := by decide +kernel
theorem dX0_shareOf_3 : decode cX0_shareOf 3 = .ok (.ifCond .le 15, 3) := by decide +kernel
theorem dX0_shareOf_6 : decode cX0_shareOf 6 = .ok (.aload_n 0, 1) := by decide +kernel
theorem dX0_shareOf_7 : decode cX0_shareOf 7 = .ok (.getfield 11, 3) := by decide +kernel
theorem dX0_shareOf_10 : decode cX0_shareOf 10 = .ok (.iload_n 1, 1) := by decide +kernel
theorem dX0_shareOf_11 : decode cX0_shareOf 11 = .ok (.i2l, 1) := by decide +kernel
theorem dX0_shareOf_12 : decode cX0_shareOf 12 = .ok (.lmul, 1) := by decide +kernel
theorem dX0_shareOf_13 : decode cX0_shareOf 13 = .ok (.lload_n 2, 1) := by decide +kernel
theorem dX0_shareOf_14 : decode cX0_shareOf 14 = .ok (.ldiv, 1) := by decide +kernel
theorem dX0_shareOf_15 : decode cX0_shareOf 15 = .ok (.goto 4, 3) := by decide +kernel
theorem dX0_shareOf_18 : decode cX0_shareOf 18 = .ok (.lconst 0, 1) := by decide +kernel
theorem dX0_shareOf_19 : decode cX0_shareOf 19 = .ok (.lreturn, 1) := by decide +kernel
theorem dX0_restOf_0 : decode cX0_restOf 0 = .ok (.lload_n 2, 1) := by decide +kernel
theorem dX0_restOf_1 : decode cX0_restOf 1 = .ok (.lconst 0, 1) := by decide +kernel
theorem dX0_restOf_2 : decode cX0_restOf 2 = .ok (.lcmp, 1) := by decide +kernel
theorem dX0_restOf_3 : decode cX0_restOf 3 = .ok (.ifCond .le 15, 3) := by decide +kernel
theorem dX0_restOf_6 : decode cX0_restOf 6 = .ok (.aload_n 0, 1) := by decide +kernel
theorem dX0_restOf_7 : decode cX0_restOf 7 = .ok (.getfield 11, 3) := by decide +kernel
theorem dX0_restOf_10 : decode cX0_restOf 10 = .ok (.iload_n 1, 1) := by decide +kernel
theorem dX0_restOf_11 : decode cX0_restOf 11 = .ok (.i2l, 1) := by decide +kernel
theorem dX0_restOf_12 : decode cX0_restOf 12 = .ok (.lmul, 1) := by decide +kernel
theorem dX0_restOf_13 : decode cX0_restOf 13 = .ok (.lload_n 2, 1) := by decide +kernel
theorem dX0_restOf_14 : decode cX0_restOf 14 = .ok (.lrem, 1) := by decide +kernel
theorem dX0_restOf_15 : decode cX0_restOf 15 = .ok (.goto 4, 3) := by decide +kernel
theorem dX0_restOf_18 : decode cX0_restOf 18 = .ok (.lconst 0, 1) := by decide +kernel
theorem dX0_restOf_19 : decode cX0_restOf 19 = .ok (.lreturn, 1) := by decide +kernel
set_option maxRecDepth 20000 in
theorem ggX0_holds_X0_mostInAll : GoodIn wsX0_holds wsX0_mostInAll := goodIn_r _ [9, 1, 10, 16, 17, 18, 19, 20, 21, 22, 23, 24, 25, 26, 27, 28, 29, 30, 31, 32, 33, 34] (by decide +kernel) (by decide +kernel)
set_option maxRecDepth 20000 in
theorem gX0_holds_X0_mostInAll : GoodIn wsX0_holds (wsV RX0 111 RX0 yX0_mostInAll wsX0_mostInAll) := goodIn_app (goodIn_of _ (by decide +kernel)) ggX0_holds_X0_mostInAll
set_option maxRecDepth 20000 in
theorem ggX0_holds_X0_shareOf : GoodIn wsX0_holds wsX0_shareOf := goodIn_r _ [14, 15, 16, 17, 18, 19, 20, 21, 22, 23, 24, 25] (by decide +kernel) (by decide +kernel)
set_option maxRecDepth 20000 in
theorem gX0_holds_X0_shareOf : GoodIn wsX0_holds (wsV RX0 115 RX0 yX0_shareOf wsX0_shareOf) := goodIn_app (goodIn_of _ (by decide +kernel)) ggX0_holds_X0_shareOf
theorem dX0_holds_0 : decode cX0_holds 0 = .ok (.aload_n 0, 1) := by decide +kernel
theorem dX0_holds_1 : decode cX0_holds 1 = .ok (.invokevirtual 111, 3) := by decide +kernel
theorem dX0_holds_4 : decode cX0_holds 4 = .ok (.lstore_n 1, 1) := by decide +kernel
theorem dX0_holds_5 : decode cX0_holds 5 = .ok (.aload_n 0, 1) := by decide +kernel
theorem dX0_holds_6 : decode cX0_holds 6 = .ok (.getfield 34, 3) := by decide +kernel
theorem dX0_holds_9 : decode cX0_holds 9 = .ok (.astore_n 3, 1) := by decide +kernel
theorem dX0_holds_10 : decode cX0_holds 10 = .ok (.aload_n 3, 1) := by decide +kernel
theorem dX0_holds_11 : decode cX0_holds 11 = .ok (.arraylength, 1) := by decide +kernel
theorem dX0_holds_12 : decode cX0_holds 12 = .ok (.istore 4, 2) := by decide +kernel
theorem dX0_holds_14 : decode cX0_holds 14 = .ok (.iconst 0, 1) := by decide +kernel
theorem dX0_holds_15 : decode cX0_holds 15 = .ok (.istore 5, 2) := by decide +kernel
theorem dX0_holds_17 : decode cX0_holds 17 = .ok (.iload 5, 2) := by decide +kernel
theorem dX0_holds_19 : decode cX0_holds 19 = .ok (.iload 4, 2) := by decide +kernel
theorem dX0_holds_21 : decode cX0_holds 21 = .ok (.if_icmp .ge 39, 3) := by decide +kernel
theorem dX0_holds_24 : decode cX0_holds 24 = .ok (.aload_n 3, 1) := by decide +kernel
theorem dX0_holds_25 : decode cX0_holds 25 = .ok (.iload 5, 2) := by decide +kernel
theorem dX0_holds_27 : decode cX0_holds 27 = .ok (.aaload, 1) := by decide +kernel
theorem dX0_holds_28 : decode cX0_holds 28 = .ok (.astore 6, 2) := by decide +kernel
theorem dX0_holds_30 : decode cX0_holds 30 = .ok (.aload 6, 2) := by decide +kernel
theorem dX0_holds_32 : decode cX0_holds 32 = .ok (.getfield 86, 3) := by decide +kernel
theorem dX0_holds_35 : decode cX0_holds 35 = .ok (.getfield 90, 3) := by decide +kernel
theorem dX0_holds_38 : decode cX0_holds 38 = .ok (.aload_n 0, 1) := by decide +kernel
theorem dX0_holds_39 : decode cX0_holds 39 = .ok (.aload 6, 2) := by decide +kernel
theorem dX0_holds_41 : decode cX0_holds 41 = .ok (.getfield 108, 3) := by decide +kernel
theorem dX0_holds_44 : decode cX0_holds 44 = .ok (.lload_n 1, 1) := by decide +kernel
theorem dX0_holds_45 : decode cX0_holds 45 = .ok (.invokevirtual 115, 3) := by decide +kernel
theorem dX0_holds_48 : decode cX0_holds 48 = .ok (.lcmp, 1) := by decide +kernel
theorem dX0_holds_49 : decode cX0_holds 49 = .ok (.ifCond .le 5, 3) := by decide +kernel
theorem dX0_holds_52 : decode cX0_holds 52 = .ok (.iconst 0, 1) := by decide +kernel
theorem dX0_holds_53 : decode cX0_holds 53 = .ok (.ireturn, 1) := by decide +kernel
theorem dX0_holds_54 : decode cX0_holds 54 = .ok (.iinc 5 1, 3) := by decide +kernel
theorem dX0_holds_57 : decode cX0_holds 57 = .ok (.goto (-40), 3) := by decide +kernel
theorem dX0_holds_60 : decode cX0_holds 60 = .ok (.iconst 1, 1) := by decide +kernel
theorem dX0_holds_61 : decode cX0_holds 61 = .ok (.ireturn, 1) := by decide +kernel
set_option maxRecDepth 20000 in
theorem ggX0_payWave_X0_paidInAll : GoodIn wsX0_payWave wsX0_paidInAll := goodIn_r _ [11, 1, 3, 12, 60, 61, 62, 63, 64, 65, 66, 67, 68, 69, 70, 71, 72, 73, 74, 75, 76, 77, 78, 79, 80, 81, 82, 83, 84, 85, 86, 87, 88, 89] (by decide +kernel) (by decide +kernel)
set_option maxRecDepth 20000 in
theorem gX0_payWave_X0_paidInAll : GoodIn wsX0_payWave (wsV RX0 119 RX0 yX0_paidInAll wsX0_paidInAll) := goodIn_app (goodIn_of _ (by decide +kernel)) ggX0_payWave_X0_paidInAll
set_option maxRecDepth 20000 in
theorem ggX0_payWave_X0_mostInAll : GoodIn wsX0_payWave wsX0_mostInAll := goodIn_r _ [16, 1, 17, 60, 61, 62, 63, 64, 65, 66, 67, 68, 69, 70, 71, 72, 73, 74, 75, 76, 77, 78] (by decide +kernel) (by decide +kernel)
set_option maxRecDepth 20000 in
theorem gX0_payWave_X0_mostInAll : GoodIn wsX0_payWave (wsV RX0 111 RX0 yX0_mostInAll wsX0_mostInAll) := goodIn_app (goodIn_of _ (by decide +kernel)) ggX0_payWave_X0_mostInAll
set_option maxRecDepth 20000 in
theorem ggX0_payWave_X0_shareOf : GoodIn wsX0_payWave wsX0_shareOf := goodIn_r _ [21, 22, 60, 61, 62, 63, 64, 65, 66, 67, 68, 69] (by decide +kernel) (by decide +kernel)
set_option maxRecDepth 20000 in
theorem gX0_payWave_X0_shareOf : GoodIn wsX0_payWave (wsV RX0 115 RX0 yX0_shareOf wsX0_shareOf) := goodIn_app (goodIn_of _ (by decide +kernel)) ggX0_payWave_X0_shareOf
set_option maxRecDepth 20000 in
theorem ggX0_payWave_X3_payUpTo : GoodIn wsX0_payWave wsX3_payUpTo := goodIn_r _ [27, 28, 29, 30, 31, 26, 32, 33, 34, 35, 36, 37, 38, 39, 40, 41, 42, 43, 44, 45, 46, 47, 48, 49, 50, 51, 52, 53, 54, 55, 56, 57, 58, 59, 79, 80, 81, 82, 83, 84, 85, 86, 87, 88, 89] (by decide +kernel) (by decide +kernel)
set_option maxRecDepth 20000 in
theorem gX0_payWave_X3_payUpTo : GoodIn wsX0_payWave (wsV RX0 124 RX3 yX3_payUpTo wsX3_payUpTo) := goodIn_app (goodIn_of _ (by decide +kernel)) ggX0_payWave_X3_payUpTo
theorem dX0_payWave_0 : decode cX0_payWave 0 = .ok (.aload_n 0, 1) := by decide +kernel
theorem dX0_payWave_1 : decode cX0_payWave 1 = .ok (.invokevirtual 119, 3) := by decide +kernel
theorem dX0_payWave_4 : decode cX0_payWave 4 = .ok (.lstore_n 2, 1) := by decide +kernel
theorem dX0_payWave_5 : decode cX0_payWave 5 = .ok (.aload_n 0, 1) := by decide +kernel
theorem dX0_payWave_6 : decode cX0_payWave 6 = .ok (.invokevirtual 111, 3) := by decide +kernel
theorem dX0_payWave_9 : decode cX0_payWave 9 = .ok (.lstore 4, 2) := by decide +kernel
theorem dX0_payWave_11 : decode cX0_payWave 11 = .ok (.aload_n 0, 1) := by decide +kernel
theorem dX0_payWave_12 : decode cX0_payWave 12 = .ok (.getfield 34, 3) := by decide +kernel
theorem dX0_payWave_15 : decode cX0_payWave 15 = .ok (.astore 6, 2) := by decide +kernel
theorem dX0_payWave_17 : decode cX0_payWave 17 = .ok (.aload 6, 2) := by decide +kernel
theorem dX0_payWave_19 : decode cX0_payWave 19 = .ok (.arraylength, 1) := by decide +kernel
theorem dX0_payWave_20 : decode cX0_payWave 20 = .ok (.istore 7, 2) := by decide +kernel
theorem dX0_payWave_22 : decode cX0_payWave 22 = .ok (.iconst 0, 1) := by decide +kernel
theorem dX0_payWave_23 : decode cX0_payWave 23 = .ok (.istore 8, 2) := by decide +kernel
theorem dX0_payWave_25 : decode cX0_payWave 25 = .ok (.iload 8, 2) := by decide +kernel
theorem dX0_payWave_27 : decode cX0_payWave 27 = .ok (.iload 7, 2) := by decide +kernel
theorem dX0_payWave_29 : decode cX0_payWave 29 = .ok (.if_icmp .ge 51, 3) := by decide +kernel
theorem dX0_payWave_32 : decode cX0_payWave 32 = .ok (.aload 6, 2) := by decide +kernel
theorem dX0_payWave_34 : decode cX0_payWave 34 = .ok (.iload 8, 2) := by decide +kernel
theorem dX0_payWave_36 : decode cX0_payWave 36 = .ok (.aaload, 1) := by decide +kernel
theorem dX0_payWave_37 : decode cX0_payWave 37 = .ok (.astore 9, 2) := by decide +kernel
theorem dX0_payWave_39 : decode cX0_payWave 39 = .ok (.aload 9, 2) := by decide +kernel
theorem dX0_payWave_41 : decode cX0_payWave 41 = .ok (.getfield 83, 3) := by decide +kernel
theorem dX0_payWave_44 : decode cX0_payWave 44 = .ok (.iconst 1, 1) := by decide +kernel
theorem dX0_payWave_45 : decode cX0_payWave 45 = .ok (.if_icmp .ne 29, 3) := by decide +kernel
theorem dX0_payWave_48 : decode cX0_payWave 48 = .ok (.aload 9, 2) := by decide +kernel
theorem dX0_payWave_50 : decode cX0_payWave 50 = .ok (.getfield 86, 3) := by decide +kernel
theorem dX0_payWave_53 : decode cX0_payWave 53 = .ok (.aload_n 0, 1) := by decide +kernel
theorem dX0_payWave_54 : decode cX0_payWave 54 = .ok (.aload 9, 2) := by decide +kernel
theorem dX0_payWave_56 : decode cX0_payWave 56 = .ok (.getfield 108, 3) := by decide +kernel
theorem dX0_payWave_59 : decode cX0_payWave 59 = .ok (.lload 4, 2) := by decide +kernel
theorem dX0_payWave_61 : decode cX0_payWave 61 = .ok (.invokevirtual 115, 3) := by decide +kernel
theorem dX0_payWave_64 : decode cX0_payWave 64 = .ok (.iload_n 1, 1) := by decide +kernel
theorem dX0_payWave_65 : decode cX0_payWave 65 = .ok (.i2l, 1) := by decide +kernel
theorem dX0_payWave_66 : decode cX0_payWave 66 = .ok (.lmul, 1) := by decide +kernel
theorem dX0_payWave_67 : decode cX0_payWave 67 = .ok (.ldc2_w 122, 3) := by decide +kernel
theorem dX0_payWave_70 : decode cX0_payWave 70 = .ok (.ldiv, 1) := by decide +kernel
theorem dX0_payWave_71 : decode cX0_payWave 71 = .ok (.invokevirtual 124, 3) := by decide +kernel
theorem dX0_payWave_74 : decode cX0_payWave 74 = .ok (.iinc 8 1, 3) := by decide +kernel
theorem dX0_payWave_77 : decode cX0_payWave 77 = .ok (.goto (-52), 3) := by decide +kernel
theorem dX0_payWave_80 : decode cX0_payWave 80 = .ok (.aload_n 0, 1) := by decide +kernel
theorem dX0_payWave_81 : decode cX0_payWave 81 = .ok (.dup, 1) := by decide +kernel
theorem dX0_payWave_82 : decode cX0_payWave 82 = .ok (.getfield 61, 3) := by decide +kernel
theorem dX0_payWave_85 : decode cX0_payWave 85 = .ok (.iconst 1, 1) := by decide +kernel
theorem dX0_payWave_86 : decode cX0_payWave 86 = .ok (.iadd, 1) := by decide +kernel
theorem dX0_payWave_87 : decode cX0_payWave 87 = .ok (.putfield 61, 3) := by decide +kernel
theorem dX0_payWave_90 : decode cX0_payWave 90 = .ok (.aload_n 0, 1) := by decide +kernel
theorem dX0_payWave_91 : decode cX0_payWave 91 = .ok (.invokevirtual 119, 3) := by decide +kernel
theorem dX0_payWave_94 : decode cX0_payWave 94 = .ok (.lload_n 2, 1) := by decide +kernel
theorem dX0_payWave_95 : decode cX0_payWave 95 = .ok (.lsub, 1) := by decide +kernel
theorem dX0_payWave_96 : decode cX0_payWave 96 = .ok (.lreturn, 1) := by decide +kernel
set_option maxRecDepth 20000 in
theorem ggX0_payAll_X0_mostInAll : GoodIn wsX0_payAll wsX0_mostInAll := goodIn_r _ [11, 2, 5, 72, 73, 74, 75, 76, 77, 78, 79, 80, 81, 82, 83, 84, 85, 86, 87, 88, 89, 90] (by decide +kernel) (by decide +kernel)
set_option maxRecDepth 20000 in
theorem gX0_payAll_X0_mostInAll : GoodIn wsX0_payAll (wsV RX0 111 RX0 yX0_mostInAll wsX0_mostInAll) := goodIn_app (goodIn_of _ (by decide +kernel)) ggX0_payAll_X0_mostInAll
set_option maxRecDepth 20000 in
theorem ggX0_payAll_X0_paidInAll : GoodIn wsX0_payAll wsX0_paidInAll := goodIn_r _ [15, 2, 4, 16, 72, 73, 74, 75, 76, 77, 78, 79, 80, 81, 82, 83, 84, 85, 86, 87, 88, 89, 90, 91, 92, 93, 94, 95, 96, 97, 98, 99, 100, 101] (by decide +kernel) (by decide +kernel)
set_option maxRecDepth 20000 in
theorem gX0_payAll_X0_paidInAll : GoodIn wsX0_payAll (wsV RX0 119 RX0 yX0_paidInAll wsX0_paidInAll) := goodIn_app (goodIn_of _ (by decide +kernel)) ggX0_payAll_X0_paidInAll
set_option maxRecDepth 20000 in
theorem ggX0_payAll_X0_shareOf : GoodIn wsX0_payAll wsX0_shareOf := goodIn_r _ [20, 21, 72, 73, 74, 75, 76, 77, 78, 79, 80, 81] (by decide +kernel) (by decide +kernel)
set_option maxRecDepth 20000 in
theorem gX0_payAll_X0_shareOf : GoodIn wsX0_payAll (wsV RX0 115 RX0 yX0_shareOf wsX0_shareOf) := goodIn_app (goodIn_of _ (by decide +kernel)) ggX0_payAll_X0_shareOf
set_option maxRecDepth 20000 in
theorem ggX0_payAll_X3_payUpTo : GoodIn wsX0_payAll wsX3_payUpTo := goodIn_r _ [26, 27, 28, 29, 30, 25, 31, 32, 33, 34, 35, 36, 37, 38, 39, 40, 41, 42, 43, 44, 45, 46, 47, 48, 49, 50, 51, 52, 53, 54, 55, 56, 57, 58, 91, 92, 93, 94, 95, 96, 97, 98, 99, 100, 101] (by decide +kernel) (by decide +kernel)
set_option maxRecDepth 20000 in
theorem gX0_payAll_X3_payUpTo : GoodIn wsX0_payAll (wsV RX0 124 RX3 yX3_payUpTo wsX3_payUpTo) := goodIn_app (goodIn_of _ (by decide +kernel)) ggX0_payAll_X3_payUpTo
set_option maxRecDepth 20000 in
theorem ggX0_payAll_X0_payRests : GoodIn wsX0_payAll wsX0_payRests := goodIn_r _ [62, 21, 2, 4, 12, 13, 14, 10, 15, 16, 63, 64, 65, 66, 1, 5, 3, 67, 68, 69, 70, 71, 29, 30, 25, 31, 27, 32, 33, 34, 35, 36, 37, 38, 39, 40, 41, 42, 43, 44, 45, 46, 47, 48, 49, 50, 51, 52, 53, 54, 55, 56, 57, 58, 72, 73, 74, 75, 76, 77, 78, 79, 80, 81, 82, 83, 84, 85, 86, 87, 88, 89, 90, 91, 92, 93, 94, 95, 96, 97, 98, 99, 100, 101] (by decide +kernel) (by decide +kernel)
set_option maxRecDepth 20000 in
theorem gX0_payAll_X0_payRests : GoodIn wsX0_payAll (wsV RX0 130 RX0 yX0_payRests wsX0_payRests) := goodIn_app (goodIn_of _ (by decide +kernel)) ggX0_payAll_X0_payRests
theorem dX0_payAll_0 : decode cX0_payAll 0 = .ok (.aload_n 0, 1) := by decide +kernel
theorem dX0_payAll_1 : decode cX0_payAll 1 = .ok (.invokevirtual 111, 3) := by decide +kernel
theorem dX0_payAll_4 : decode cX0_payAll 4 = .ok (.lstore_n 1, 1) := by decide +kernel
theorem dX0_payAll_5 : decode cX0_payAll 5 = .ok (.lload_n 1, 1) := by decide +kernel
theorem dX0_payAll_6 : decode cX0_payAll 6 = .ok (.lconst 0, 1) := by decide +kernel
theorem dX0_payAll_7 : decode cX0_payAll 7 = .ok (.lcmp, 1) := by decide +kernel
theorem dX0_payAll_8 : decode cX0_payAll 8 = .ok (.ifCond .ne 7, 3) := by decide +kernel
theorem dX0_payAll_11 : decode cX0_payAll 11 = .ok (.ldc2_w 128, 3) := by decide +kernel
theorem dX0_payAll_14 : decode cX0_payAll 14 = .ok (.lreturn, 1) := by decide +kernel
theorem dX0_payAll_15 : decode cX0_payAll 15 = .ok (.aload_n 0, 1) := by decide +kernel
theorem dX0_payAll_16 : decode cX0_payAll 16 = .ok (.invokevirtual 119, 3) := by decide +kernel
theorem dX0_payAll_19 : decode cX0_payAll 19 = .ok (.lstore_n 3, 1) := by decide +kernel
theorem dX0_payAll_20 : decode cX0_payAll 20 = .ok (.aload_n 0, 1) := by decide +kernel
theorem dX0_payAll_21 : decode cX0_payAll 21 = .ok (.getfield 34, 3) := by decide +kernel
theorem dX0_payAll_24 : decode cX0_payAll 24 = .ok (.astore 5, 2) := by decide +kernel
theorem dX0_payAll_26 : decode cX0_payAll 26 = .ok (.aload 5, 2) := by decide +kernel
theorem dX0_payAll_28 : decode cX0_payAll 28 = .ok (.arraylength, 1) := by decide +kernel
theorem dX0_payAll_29 : decode cX0_payAll 29 = .ok (.istore 6, 2) := by decide +kernel
theorem dX0_payAll_31 : decode cX0_payAll 31 = .ok (.iconst 0, 1) := by decide +kernel
theorem dX0_payAll_32 : decode cX0_payAll 32 = .ok (.istore 7, 2) := by decide +kernel
theorem dX0_payAll_34 : decode cX0_payAll 34 = .ok (.iload 7, 2) := by decide +kernel
theorem dX0_payAll_36 : decode cX0_payAll 36 = .ok (.iload 6, 2) := by decide +kernel
theorem dX0_payAll_38 : decode cX0_payAll 38 = .ok (.if_icmp .ge 43, 3) := by decide +kernel
theorem dX0_payAll_41 : decode cX0_payAll 41 = .ok (.aload 5, 2) := by decide +kernel
theorem dX0_payAll_43 : decode cX0_payAll 43 = .ok (.iload 7, 2) := by decide +kernel
theorem dX0_payAll_45 : decode cX0_payAll 45 = .ok (.aaload, 1) := by decide +kernel
theorem dX0_payAll_46 : decode cX0_payAll 46 = .ok (.astore 8, 2) := by decide +kernel
theorem dX0_payAll_48 : decode cX0_payAll 48 = .ok (.aload 8, 2) := by decide +kernel
theorem dX0_payAll_50 : decode cX0_payAll 50 = .ok (.getfield 83, 3) := by decide +kernel
theorem dX0_payAll_53 : decode cX0_payAll 53 = .ok (.iconst 1, 1) := by decide +kernel
theorem dX0_payAll_54 : decode cX0_payAll 54 = .ok (.if_icmp .ne 21, 3) := by decide +kernel
theorem dX0_payAll_57 : decode cX0_payAll 57 = .ok (.aload 8, 2) := by decide +kernel
theorem dX0_payAll_59 : decode cX0_payAll 59 = .ok (.getfield 86, 3) := by decide +kernel
theorem dX0_payAll_62 : decode cX0_payAll 62 = .ok (.aload_n 0, 1) := by decide +kernel
theorem dX0_payAll_63 : decode cX0_payAll 63 = .ok (.aload 8, 2) := by decide +kernel
theorem dX0_payAll_65 : decode cX0_payAll 65 = .ok (.getfield 105, 3) := by decide +kernel
theorem dX0_payAll_68 : decode cX0_payAll 68 = .ok (.lload_n 1, 1) := by decide +kernel
theorem dX0_payAll_69 : decode cX0_payAll 69 = .ok (.invokevirtual 115, 3) := by decide +kernel
theorem dX0_payAll_72 : decode cX0_payAll 72 = .ok (.invokevirtual 124, 3) := by decide +kernel
theorem dX0_payAll_75 : decode cX0_payAll 75 = .ok (.iinc 7 1, 3) := by decide +kernel
theorem dX0_payAll_78 : decode cX0_payAll 78 = .ok (.goto (-44), 3) := by decide +kernel
theorem dX0_payAll_81 : decode cX0_payAll 81 = .ok (.aload_n 0, 1) := by decide +kernel
theorem dX0_payAll_82 : decode cX0_payAll 82 = .ok (.lload_n 1, 1) := by decide +kernel
theorem dX0_payAll_83 : decode cX0_payAll 83 = .ok (.invokevirtual 130, 3) := by decide +kernel
theorem dX0_payAll_86 : decode cX0_payAll 86 = .ok (.aload_n 0, 1) := by decide +kernel
theorem dX0_payAll_87 : decode cX0_payAll 87 = .ok (.iconst 1, 1) := by decide +kernel
theorem dX0_payAll_88 : decode cX0_payAll 88 = .ok (.putfield 64, 3) := by decide +kernel
theorem dX0_payAll_91 : decode cX0_payAll 91 = .ok (.aload_n 0, 1) := by decide +kernel
theorem dX0_payAll_92 : decode cX0_payAll 92 = .ok (.invokevirtual 119, 3) := by decide +kernel
theorem dX0_payAll_95 : decode cX0_payAll 95 = .ok (.lload_n 3, 1) := by decide +kernel
theorem dX0_payAll_96 : decode cX0_payAll 96 = .ok (.lsub, 1) := by decide +kernel
theorem dX0_payAll_97 : decode cX0_payAll 97 = .ok (.lreturn, 1) := by decide +kernel
set_option maxRecDepth 20000 in
theorem ggX0_payRests_X0_paidInAll : GoodIn wsX0_payRests wsX0_paidInAll := goodIn_r _ [8, 2, 3, 9, 54, 55, 56, 57, 58, 59, 60, 61, 62, 63, 64, 65, 66, 67, 68, 69, 70, 71, 72, 73, 74, 75, 76, 77, 78, 79, 80, 81, 82, 83] (by decide +kernel) (by decide +kernel)
set_option maxRecDepth 20000 in
theorem gX0_payRests_X0_paidInAll : GoodIn wsX0_payRests (wsV RX0 119 RX0 yX0_paidInAll wsX0_paidInAll) := goodIn_app (goodIn_of _ (by decide +kernel)) ggX0_payRests_X0_paidInAll
set_option maxRecDepth 20000 in
theorem ggX0_payRests_X0_greatestRest : GoodIn wsX0_payRests wsX0_greatestRest := goodIn_r _ [13, 14, 2, 15, 16, 17, 18, 19, 7, 20, 1, 54, 55, 56, 57, 58, 59, 60, 61, 62, 63, 64, 65, 66, 67, 68, 69, 70, 71, 72] (by decide +kernel) (by decide +kernel)
set_option maxRecDepth 20000 in
theorem gX0_payRests_X0_greatestRest : GoodIn wsX0_payRests (wsV RX0 133 RX0 yX0_greatestRest wsX0_greatestRest) := goodIn_app (goodIn_of _ (by decide +kernel)) ggX0_payRests_X0_greatestRest
set_option maxRecDepth 20000 in
theorem ggX0_payRests_X3_pay : GoodIn wsX0_payRests wsX3_pay := goodIn_r _ [25, 26, 27, 28, 29, 30, 31, 32, 24, 33, 34, 35, 36, 37, 38, 39, 40, 41, 42, 43, 44, 45, 46, 47, 48, 49, 50, 51, 52, 53, 73, 74, 75, 76, 77, 78, 79, 80, 81, 82, 83] (by decide +kernel) (by decide +kernel)
set_option maxRecDepth 20000 in
theorem gX0_payRests_X3_pay : GoodIn wsX0_payRests (wsV RX0 137 RX3 yX3_pay wsX3_pay) := goodIn_app (goodIn_of _ (by decide +kernel)) ggX0_payRests_X3_pay
theorem dX0_payRests_0 : decode cX0_payRests 0 = .ok (.aload_n 0, 1) := by decide +kernel
theorem dX0_payRests_1 : decode cX0_payRests 1 = .ok (.getfield 11, 3) := by decide +kernel
theorem dX0_payRests_4 : decode cX0_payRests 4 = .ok (.aload_n 0, 1) := by decide +kernel
theorem dX0_payRests_5 : decode cX0_payRests 5 = .ok (.invokevirtual 119, 3) := by decide +kernel
theorem dX0_payRests_8 : decode cX0_payRests 8 = .ok (.lsub, 1) := by decide +kernel
theorem dX0_payRests_9 : decode cX0_payRests 9 = .ok (.lstore_n 3, 1) := by decide +kernel
theorem dX0_payRests_10 : decode cX0_payRests 10 = .ok (.iconst 0, 1) := by decide +kernel
theorem dX0_payRests_11 : decode cX0_payRests 11 = .ok (.istore 5, 2) := by decide +kernel
theorem dX0_payRests_13 : decode cX0_payRests 13 = .ok (.iconst 0, 1) := by decide +kernel
theorem dX0_payRests_14 : decode cX0_payRests 14 = .ok (.istore 6, 2) := by decide +kernel
theorem dX0_payRests_16 : decode cX0_payRests 16 = .ok (.iload 6, 2) := by decide +kernel
theorem dX0_payRests_18 : decode cX0_payRests 18 = .ok (.bipush 16, 2) := by decide +kernel
theorem dX0_payRests_20 : decode cX0_payRests 20 = .ok (.if_icmp .ge 62, 3) := by decide +kernel
theorem dX0_payRests_23 : decode cX0_payRests 23 = .ok (.iload 6, 2) := by decide +kernel
theorem dX0_payRests_25 : decode cX0_payRests 25 = .ok (.i2l, 1) := by decide +kernel
theorem dX0_payRests_26 : decode cX0_payRests 26 = .ok (.lload_n 3, 1) := by decide +kernel
theorem dX0_payRests_27 : decode cX0_payRests 27 = .ok (.lcmp, 1) := by decide +kernel
theorem dX0_payRests_28 : decode cX0_payRests 28 = .ok (.ifCond .ge 54, 3) := by decide +kernel
theorem dX0_payRests_31 : decode cX0_payRests 31 = .ok (.aload_n 0, 1) := by decide +kernel
theorem dX0_payRests_32 : decode cX0_payRests 32 = .ok (.lload_n 1, 1) := by decide +kernel
theorem dX0_payRests_33 : decode cX0_payRests 33 = .ok (.iload 5, 2) := by decide +kernel
theorem dX0_payRests_35 : decode cX0_payRests 35 = .ok (.invokevirtual 133, 3) := by decide +kernel
theorem dX0_payRests_38 : decode cX0_payRests 38 = .ok (.istore 7, 2) := by decide +kernel
theorem dX0_payRests_40 : decode cX0_payRests 40 = .ok (.iload 7, 2) := by decide +kernel
theorem dX0_payRests_42 : decode cX0_payRests 42 = .ok (.ifCond .lt 10, 3) := by decide +kernel
theorem dX0_payRests_45 : decode cX0_payRests 45 = .ok (.iload 7, 2) := by decide +kernel
theorem dX0_payRests_47 : decode cX0_payRests 47 = .ok (.bipush 16, 2) := by decide +kernel
theorem dX0_payRests_49 : decode cX0_payRests 49 = .ok (.if_icmp .lt 4, 3) := by decide +kernel
theorem dX0_payRests_52 : decode cX0_payRests 52 = .ok (.return_, 1) := by decide +kernel
theorem dX0_payRests_53 : decode cX0_payRests 53 = .ok (.iload 5, 2) := by decide +kernel
theorem dX0_payRests_55 : decode cX0_payRests 55 = .ok (.iconst 1, 1) := by decide +kernel
theorem dX0_payRests_56 : decode cX0_payRests 56 = .ok (.iload 7, 2) := by decide +kernel
theorem dX0_payRests_58 : decode cX0_payRests 58 = .ok (.ishl, 1) := by decide +kernel
theorem dX0_payRests_59 : decode cX0_payRests 59 = .ok (.ior, 1) := by decide +kernel
theorem dX0_payRests_60 : decode cX0_payRests 60 = .ok (.istore 5, 2) := by decide +kernel
theorem dX0_payRests_62 : decode cX0_payRests 62 = .ok (.aload_n 0, 1) := by decide +kernel
theorem dX0_payRests_63 : decode cX0_payRests 63 = .ok (.getfield 34, 3) := by decide +kernel
theorem dX0_payRests_66 : decode cX0_payRests 66 = .ok (.iload 7, 2) := by decide +kernel
theorem dX0_payRests_68 : decode cX0_payRests 68 = .ok (.aaload, 1) := by decide +kernel
theorem dX0_payRests_69 : decode cX0_payRests 69 = .ok (.getfield 86, 3) := by decide +kernel
theorem dX0_payRests_72 : decode cX0_payRests 72 = .ok (.lconst 1, 1) := by decide +kernel
theorem dX0_payRests_73 : decode cX0_payRests 73 = .ok (.invokevirtual 137, 3) := by decide +kernel
theorem dX0_payRests_76 : decode cX0_payRests 76 = .ok (.iinc 6 1, 3) := by decide +kernel
theorem dX0_payRests_79 : decode cX0_payRests 79 = .ok (.goto (-63), 3) := by decide +kernel
theorem dX0_payRests_82 : decode cX0_payRests 82 = .ok (.return_, 1) := by decide +kernel
set_option maxRecDepth 20000 in
theorem ggX0_greatestRest_X0_restOf : GoodIn wsX0_greatestRest wsX0_restOf := goodIn_r _ [9, 10, 11, 12, 13, 14, 15, 16, 17, 18, 19, 20] (by decide +kernel) (by decide +kernel)
set_option maxRecDepth 20000 in
theorem gX0_greatestRest_X0_restOf : GoodIn wsX0_greatestRest (wsV RX0 140 RX0 yX0_restOf wsX0_restOf) := goodIn_app (goodIn_of _ (by decide +kernel)) ggX0_greatestRest_X0_restOf
theorem dX0_greatestRest_0 : decode cX0_greatestRest 0 = .ok (.iconst (-1), 1) := by decide +kernel
theorem dX0_greatestRest_1 : decode cX0_greatestRest 1 = .ok (.istore 4, 2) := by decide +kernel
theorem dX0_greatestRest_3 : decode cX0_greatestRest 3 = .ok (.ldc2_w 128, 3) := by decide +kernel
theorem dX0_greatestRest_6 : decode cX0_greatestRest 6 = .ok (.lstore 5, 2) := by decide +kernel
theorem dX0_greatestRest_8 : decode cX0_greatestRest 8 = .ok (.iconst 0, 1) := by decide +kernel
theorem dX0_greatestRest_9 : decode cX0_greatestRest 9 = .ok (.istore 7, 2) := by decide +kernel
theorem dX0_greatestRest_11 : decode cX0_greatestRest 11 = .ok (.iload 7, 2) := by decide +kernel
theorem dX0_greatestRest_13 : decode cX0_greatestRest 13 = .ok (.bipush 16, 2) := by decide +kernel
theorem dX0_greatestRest_15 : decode cX0_greatestRest 15 = .ok (.if_icmp .ge 64, 3) := by decide +kernel
theorem dX0_greatestRest_18 : decode cX0_greatestRest 18 = .ok (.aload_n 0, 1) := by decide +kernel
theorem dX0_greatestRest_19 : decode cX0_greatestRest 19 = .ok (.getfield 34, 3) := by decide +kernel
theorem dX0_greatestRest_22 : decode cX0_greatestRest 22 = .ok (.iload 7, 2) := by decide +kernel
theorem dX0_greatestRest_24 : decode cX0_greatestRest 24 = .ok (.aaload, 1) := by decide +kernel
theorem dX0_greatestRest_25 : decode cX0_greatestRest 25 = .ok (.astore 8, 2) := by decide +kernel
theorem dX0_greatestRest_27 : decode cX0_greatestRest 27 = .ok (.aload_n 0, 1) := by decide +kernel
theorem dX0_greatestRest_28 : decode cX0_greatestRest 28 = .ok (.aload 8, 2) := by decide +kernel
theorem dX0_greatestRest_30 : decode cX0_greatestRest 30 = .ok (.getfield 105, 3) := by decide +kernel
theorem dX0_greatestRest_33 : decode cX0_greatestRest 33 = .ok (.lload_n 1, 1) := by decide +kernel
theorem dX0_greatestRest_34 : decode cX0_greatestRest 34 = .ok (.invokevirtual 140, 3) := by decide +kernel
theorem dX0_greatestRest_37 : decode cX0_greatestRest 37 = .ok (.lstore 9, 2) := by decide +kernel
theorem dX0_greatestRest_39 : decode cX0_greatestRest 39 = .ok (.aload 8, 2) := by decide +kernel
theorem dX0_greatestRest_41 : decode cX0_greatestRest 41 = .ok (.getfield 83, 3) := by decide +kernel
theorem dX0_greatestRest_44 : decode cX0_greatestRest 44 = .ok (.iconst 1, 1) := by decide +kernel
theorem dX0_greatestRest_45 : decode cX0_greatestRest 45 = .ok (.if_icmp .ne 28, 3) := by decide +kernel
theorem dX0_greatestRest_48 : decode cX0_greatestRest 48 = .ok (.iload_n 3, 1) := by decide +kernel
theorem dX0_greatestRest_49 : decode cX0_greatestRest 49 = .ok (.iload 7, 2) := by decide +kernel
theorem dX0_greatestRest_51 : decode cX0_greatestRest 51 = .ok (.ishr, 1) := by decide +kernel
theorem dX0_greatestRest_52 : decode cX0_greatestRest 52 = .ok (.iconst 1, 1) := by decide +kernel
theorem dX0_greatestRest_53 : decode cX0_greatestRest 53 = .ok (.iand, 1) := by decide +kernel
theorem dX0_greatestRest_54 : decode cX0_greatestRest 54 = .ok (.ifCond .ne 19, 3) := by decide +kernel
theorem dX0_greatestRest_57 : decode cX0_greatestRest 57 = .ok (.lload 9, 2) := by decide +kernel
theorem dX0_greatestRest_59 : decode cX0_greatestRest 59 = .ok (.lload 5, 2) := by decide +kernel
theorem dX0_greatestRest_61 : decode cX0_greatestRest 61 = .ok (.lcmp, 1) := by decide +kernel
theorem dX0_greatestRest_62 : decode cX0_greatestRest 62 = .ok (.ifCond .le 11, 3) := by decide +kernel
theorem dX0_greatestRest_65 : decode cX0_greatestRest 65 = .ok (.iload 7, 2) := by decide +kernel
theorem dX0_greatestRest_67 : decode cX0_greatestRest 67 = .ok (.istore 4, 2) := by decide +kernel
theorem dX0_greatestRest_69 : decode cX0_greatestRest 69 = .ok (.lload 9, 2) := by decide +kernel
theorem dX0_greatestRest_71 : decode cX0_greatestRest 71 = .ok (.lstore 5, 2) := by decide +kernel
theorem dX0_greatestRest_73 : decode cX0_greatestRest 73 = .ok (.iinc 7 1, 3) := by decide +kernel
theorem dX0_greatestRest_76 : decode cX0_greatestRest 76 = .ok (.goto (-65), 3) := by decide +kernel
theorem dX0_greatestRest_79 : decode cX0_greatestRest 79 = .ok (.iload 4, 2) := by decide +kernel
theorem dX0_greatestRest_81 : decode cX0_greatestRest 81 = .ok (.ireturn, 1) := by decide +kernel
set_option maxRecDepth 20000 in
theorem ggX1_init_X3_init : GoodIn wsX1_init wsX3_init := goodIn_r _ [10, 11, 2, 3, 12, 13, 14, 15, 16, 17, 18, 28, 29, 30, 31, 32, 33, 34, 35, 36, 37, 38] (by decide +kernel) (by decide +kernel)
set_option maxRecDepth 20000 in
theorem gX1_init_X3_init_n17 : GoodIn wsX1_init (wsX3_init) := ggX1_init_X3_init
theorem dX1_init_0 : decode cX1_init 0 = .ok (.aload_n 0, 1) := by decide +kernel
theorem dX1_init_1 : decode cX1_init 1 = .ok (.invokespecial 3, 3) := by decide +kernel
theorem dX1_init_4 : decode cX1_init 4 = .ok (.aload_n 0, 1) := by decide +kernel
theorem dX1_init_5 : decode cX1_init 5 = .ok (.iconst 3, 1) := by decide +kernel
theorem dX1_init_6 : decode cX1_init 6 = .ok (.putfield 9, 3) := by decide +kernel
theorem dX1_init_9 : decode cX1_init 9 = .ok (.aload_n 0, 1) := by decide +kernel
theorem dX1_init_10 : decode cX1_init 10 = .ok (.new 15, 3) := by decide +kernel
theorem dX1_init_13 : decode cX1_init 13 = .ok (.dup, 1) := by decide +kernel
theorem dX1_init_14 : decode cX1_init 14 = .ok (.invokespecial 17, 3) := by decide +kernel
theorem dX1_init_17 : decode cX1_init 17 = .ok (.putfield 18, 3) := by decide +kernel
theorem dX1_init_20 : decode cX1_init 20 = .ok (.return_, 1) := by decide +kernel
set_option maxRecDepth 20000 in
theorem ggX1_copyFrom_X3_copyFrom : GoodIn wsX1_copyFrom wsX3_copyFrom := goodIn_r _ [14, 15, 16, 17, 18, 19, 20, 21, 22, 23, 24, 25, 26, 27, 28, 29, 39, 40, 41, 42, 43, 44, 45, 46, 47, 48, 49] (by decide +kernel) (by decide +kernel)
set_option maxRecDepth 20000 in
theorem gX1_copyFrom_X3_copyFrom : GoodIn wsX1_copyFrom (wsV RX1 43 RX3 yX3_copyFrom wsX3_copyFrom) := goodIn_app (goodIn_of _ (by decide +kernel)) ggX1_copyFrom_X3_copyFrom
theorem dX1_copyFrom_0 : decode cX1_copyFrom 0 = .ok (.aload_n 0, 1) := by decide +kernel
theorem dX1_copyFrom_1 : decode cX1_copyFrom 1 = .ok (.aload_n 1, 1) := by decide +kernel
theorem dX1_copyFrom_2 : decode cX1_copyFrom 2 = .ok (.getfield 22, 3) := by decide +kernel
theorem dX1_copyFrom_5 : decode cX1_copyFrom 5 = .ok (.putfield 22, 3) := by decide +kernel
theorem dX1_copyFrom_8 : decode cX1_copyFrom 8 = .ok (.aload_n 0, 1) := by decide +kernel
theorem dX1_copyFrom_9 : decode cX1_copyFrom 9 = .ok (.aload_n 1, 1) := by decide +kernel
theorem dX1_copyFrom_10 : decode cX1_copyFrom 10 = .ok (.getfield 25, 3) := by decide +kernel
theorem dX1_copyFrom_13 : decode cX1_copyFrom 13 = .ok (.putfield 25, 3) := by decide +kernel
theorem dX1_copyFrom_16 : decode cX1_copyFrom 16 = .ok (.aload_n 0, 1) := by decide +kernel
theorem dX1_copyFrom_17 : decode cX1_copyFrom 17 = .ok (.aload_n 1, 1) := by decide +kernel
theorem dX1_copyFrom_18 : decode cX1_copyFrom 18 = .ok (.getfield 28, 3) := by decide +kernel
theorem dX1_copyFrom_21 : decode cX1_copyFrom 21 = .ok (.putfield 28, 3) := by decide +kernel
theorem dX1_copyFrom_24 : decode cX1_copyFrom 24 = .ok (.aload_n 0, 1) := by decide +kernel
theorem dX1_copyFrom_25 : decode cX1_copyFrom 25 = .ok (.aload_n 1, 1) := by decide +kernel
theorem dX1_copyFrom_26 : decode cX1_copyFrom 26 = .ok (.getfield 31, 3) := by decide +kernel
theorem dX1_copyFrom_29 : decode cX1_copyFrom 29 = .ok (.putfield 31, 3) := by decide +kernel
theorem dX1_copyFrom_32 : decode cX1_copyFrom 32 = .ok (.aload_n 0, 1) := by decide +kernel
theorem dX1_copyFrom_33 : decode cX1_copyFrom 33 = .ok (.aload_n 1, 1) := by decide +kernel
theorem dX1_copyFrom_34 : decode cX1_copyFrom 34 = .ok (.getfield 34, 3) := by decide +kernel
theorem dX1_copyFrom_37 : decode cX1_copyFrom 37 = .ok (.putfield 34, 3) := by decide +kernel
theorem dX1_copyFrom_40 : decode cX1_copyFrom 40 = .ok (.aload_n 0, 1) := by decide +kernel
theorem dX1_copyFrom_41 : decode cX1_copyFrom 41 = .ok (.aload_n 1, 1) := by decide +kernel
theorem dX1_copyFrom_42 : decode cX1_copyFrom 42 = .ok (.getfield 9, 3) := by decide +kernel
theorem dX1_copyFrom_45 : decode cX1_copyFrom 45 = .ok (.putfield 9, 3) := by decide +kernel
theorem dX1_copyFrom_48 : decode cX1_copyFrom 48 = .ok (.aload_n 0, 1) := by decide +kernel
theorem dX1_copyFrom_49 : decode cX1_copyFrom 49 = .ok (.aload_n 1, 1) := by decide +kernel
theorem dX1_copyFrom_50 : decode cX1_copyFrom 50 = .ok (.getfield 37, 3) := by decide +kernel
theorem dX1_copyFrom_53 : decode cX1_copyFrom 53 = .ok (.putfield 37, 3) := by decide +kernel
theorem dX1_copyFrom_56 : decode cX1_copyFrom 56 = .ok (.aload_n 0, 1) := by decide +kernel
theorem dX1_copyFrom_57 : decode cX1_copyFrom 57 = .ok (.aload_n 1, 1) := by decide +kernel
theorem dX1_copyFrom_58 : decode cX1_copyFrom 58 = .ok (.getfield 40, 3) := by decide +kernel
theorem dX1_copyFrom_61 : decode cX1_copyFrom 61 = .ok (.putfield 40, 3) := by decide +kernel
theorem dX1_copyFrom_64 : decode cX1_copyFrom 64 = .ok (.aload_n 0, 1) := by decide +kernel
theorem dX1_copyFrom_65 : decode cX1_copyFrom 65 = .ok (.getfield 18, 3) := by decide +kernel
theorem dX1_copyFrom_68 : decode cX1_copyFrom 68 = .ok (.aload_n 1, 1) := by decide +kernel
theorem dX1_copyFrom_69 : decode cX1_copyFrom 69 = .ok (.getfield 18, 3) := by decide +kernel
theorem dX1_copyFrom_72 : decode cX1_copyFrom 72 = .ok (.invokevirtual 43, 3) := by decide +kernel
theorem dX1_copyFrom_75 : decode cX1_copyFrom 75 = .ok (.return_, 1) := by decide +kernel
theorem dX1_begin_0 : decode cX1_begin 0 = .ok (.aload_n 0, 1) := by decide +kernel
theorem dX1_begin_1 : decode cX1_begin 1 = .ok (.iload_n 1, 1) := by decide +kernel
theorem dX1_begin_2 : decode cX1_begin 2 = .ok (.putfield 22, 3) := by decide +kernel
theorem dX1_begin_5 : decode cX1_begin 5 = .ok (.aload_n 0, 1) := by decide +kernel
theorem dX1_begin_6 : decode cX1_begin 6 = .ok (.iload_n 2, 1) := by decide +kernel
theorem dX1_begin_7 : decode cX1_begin 7 = .ok (.putfield 25, 3) := by decide +kernel
theorem dX1_begin_10 : decode cX1_begin 10 = .ok (.aload_n 0, 1) := by decide +kernel
theorem dX1_begin_11 : decode cX1_begin 11 = .ok (.iload_n 3, 1) := by decide +kernel
theorem dX1_begin_12 : decode cX1_begin 12 = .ok (.putfield 28, 3) := by decide +kernel
theorem dX1_begin_15 : decode cX1_begin 15 = .ok (.aload_n 0, 1) := by decide +kernel
theorem dX1_begin_16 : decode cX1_begin 16 = .ok (.iload 4, 2) := by decide +kernel
theorem dX1_begin_18 : decode cX1_begin 18 = .ok (.putfield 31, 3) := by decide +kernel
theorem dX1_begin_21 : decode cX1_begin 21 = .ok (.aload_n 0, 1) := by decide +kernel
theorem dX1_begin_22 : decode cX1_begin 22 = .ok (.iload 5, 2) := by decide +kernel
theorem dX1_begin_24 : decode cX1_begin 24 = .ok (.putfield 34, 3) := by decide +kernel
theorem dX1_begin_27 : decode cX1_begin 27 = .ok (.aload_n 0, 1) := by decide +kernel
theorem dX1_begin_28 : decode cX1_begin 28 = .ok (.iconst 0, 1) := by decide +kernel
theorem dX1_begin_29 : decode cX1_begin 29 = .ok (.putfield 9, 3) := by decide +kernel
theorem dX1_begin_32 : decode cX1_begin 32 = .ok (.return_, 1) := by decide +kernel
theorem dX1_isIn_0 : decode cX1_isIn 0 = .ok (.aload_n 0, 1) := by decide +kernel
theorem dX1_isIn_1 : decode cX1_isIn 1 = .ok (.getfield 9, 3) := by decide +kernel
theorem dX1_isIn_4 : decode cX1_isIn 4 = .ok (.ifCond .eq 11, 3) := by decide +kernel
theorem dX1_isIn_7 : decode cX1_isIn 7 = .ok (.aload_n 0, 1) := by decide +kernel
theorem dX1_isIn_8 : decode cX1_isIn 8 = .ok (.getfield 9, 3) := by decide +kernel
theorem dX1_isIn_11 : decode cX1_isIn 11 = .ok (.iconst 1, 1) := by decide +kernel
theorem dX1_isIn_12 : decode cX1_isIn 12 = .ok (.if_icmp .ne 7, 3) := by decide +kernel
theorem dX1_isIn_15 : decode cX1_isIn 15 = .ok (.iconst 1, 1) := by decide +kernel
theorem dX1_isIn_16 : decode cX1_isIn 16 = .ok (.goto 4, 3) := by decide +kernel
theorem dX1_isIn_19 : decode cX1_isIn 19 = .ok (.iconst 0, 1) := by decide +kernel
theorem dX1_isIn_20 : decode cX1_isIn 20 = .ok (.ireturn, 1) := by decide +kernel
theorem dX1_mayBring_0 : decode cX1_mayBring 0 = .ok (.aload_n 0, 1) := by decide +kernel
theorem dX1_mayBring_1 : decode cX1_mayBring 1 = .ok (.getfield 9, 3) := by decide +kernel
theorem dX1_mayBring_4 : decode cX1_mayBring 4 = .ok (.ifCond .ne 28, 3) := by decide +kernel
theorem dX1_mayBring_7 : decode cX1_mayBring 7 = .ok (.iload_n 1, 1) := by decide +kernel
theorem dX1_mayBring_8 : decode cX1_mayBring 8 = .ok (.ifCond .lt 24, 3) := by decide +kernel
theorem dX1_mayBring_11 : decode cX1_mayBring 11 = .ok (.iload_n 1, 1) := by decide +kernel
theorem dX1_mayBring_12 : decode cX1_mayBring 12 = .ok (.bipush 6, 2) := by decide +kernel
theorem dX1_mayBring_14 : decode cX1_mayBring 14 = .ok (.if_icmp .ge 18, 3) := by decide +kernel
theorem dX1_mayBring_17 : decode cX1_mayBring 17 = .ok (.aload_n 0, 1) := by decide +kernel
theorem dX1_mayBring_18 : decode cX1_mayBring 18 = .ok (.getfield 34, 3) := by decide +kernel
theorem dX1_mayBring_21 : decode cX1_mayBring 21 = .ok (.iload_n 1, 1) := by decide +kernel
theorem dX1_mayBring_22 : decode cX1_mayBring 22 = .ok (.ishr, 1) := by decide +kernel
theorem dX1_mayBring_23 : decode cX1_mayBring 23 = .ok (.iconst 1, 1) := by decide +kernel
theorem dX1_mayBring_24 : decode cX1_mayBring 24 = .ok (.iand, 1) := by decide +kernel
theorem dX1_mayBring_25 : decode cX1_mayBring 25 = .ok (.ifCond .ne 7, 3) := by decide +kernel
theorem dX1_mayBring_28 : decode cX1_mayBring 28 = .ok (.iconst 1, 1) := by decide +kernel
theorem dX1_mayBring_29 : decode cX1_mayBring 29 = .ok (.goto 4, 3) := by decide +kernel
theorem dX1_mayBring_32 : decode cX1_mayBring 32 = .ok (.iconst 0, 1) := by decide +kernel
theorem dX1_mayBring_33 : decode cX1_mayBring 33 = .ok (.ireturn, 1) := by decide +kernel
theorem dX1_settle_0 : decode cX1_settle 0 = .ok (.aload_n 0, 1) := by decide +kernel
theorem dX1_settle_1 : decode cX1_settle 1 = .ok (.iload_n 1, 1) := by decide +kernel
theorem dX1_settle_2 : decode cX1_settle 2 = .ok (.putfield 9, 3) := by decide +kernel
theorem dX1_settle_5 : decode cX1_settle 5 = .ok (.aload_n 0, 1) := by decide +kernel
theorem dX1_settle_6 : decode cX1_settle 6 = .ok (.iload_n 2, 1) := by decide +kernel
theorem dX1_settle_7 : decode cX1_settle 7 = .ok (.putfield 37, 3) := by decide +kernel
theorem dX1_settle_10 : decode cX1_settle 10 = .ok (.aload_n 0, 1) := by decide +kernel
theorem dX1_settle_11 : decode cX1_settle 11 = .ok (.iload_n 2, 1) := by decide +kernel
theorem dX1_settle_12 : decode cX1_settle 12 = .ok (.putfield 40, 3) := by decide +kernel
theorem dX1_settle_15 : decode cX1_settle 15 = .ok (.return_, 1) := by decide +kernel
set_option maxRecDepth 20000 in
theorem ggX1_pointsWith_X2_pointsFor : GoodIn wsX1_pointsWith wsX2_pointsFor := goodIn_r _ [8, 9, 10, 11, 12, 13, 7, 14, 15, 16, 17, 18, 19, 20, 21, 22, 23, 24, 25, 26, 27, 28, 29, 30, 31, 32, 33, 34, 35, 36, 37, 38, 39, 40, 41, 42, 43, 53, 54, 55, 56, 57, 58, 59, 60] (by decide +kernel) (by decide +kernel)
set_option maxRecDepth 20000 in
theorem gX1_pointsWith_X2_pointsFor : GoodIn wsX1_pointsWith (wsV RX1 47 RX2 yX2_pointsFor wsX2_pointsFor) := goodIn_app (goodIn_of _ (by decide +kernel)) ggX1_pointsWith_X2_pointsFor
theorem dX1_pointsWith_0 : decode cX1_pointsWith 0 = .ok (.aload_n 1, 1) := by decide +kernel
theorem dX1_pointsWith_1 : decode cX1_pointsWith 1 = .ok (.aload_n 0, 1) := by decide +kernel
theorem dX1_pointsWith_2 : decode cX1_pointsWith 2 = .ok (.getfield 25, 3) := by decide +kernel
theorem dX1_pointsWith_5 : decode cX1_pointsWith 5 = .ok (.aload_n 0, 1) := by decide +kernel
theorem dX1_pointsWith_6 : decode cX1_pointsWith 6 = .ok (.getfield 28, 3) := by decide +kernel
theorem dX1_pointsWith_9 : decode cX1_pointsWith 9 = .ok (.aload_n 0, 1) := by decide +kernel
theorem dX1_pointsWith_10 : decode cX1_pointsWith 10 = .ok (.getfield 31, 3) := by decide +kernel
theorem dX1_pointsWith_13 : decode cX1_pointsWith 13 = .ok (.iload_n 2, 1) := by decide +kernel
theorem dX1_pointsWith_14 : decode cX1_pointsWith 14 = .ok (.invokevirtual 47, 3) := by decide +kernel
theorem dX1_pointsWith_17 : decode cX1_pointsWith 17 = .ok (.ireturn, 1) := by decide +kernel
set_option maxRecDepth 20000 in
theorem ggX1_measure_X2_pointsFor : GoodIn wsX1_measure wsX2_pointsFor := goodIn_r _ [20, 21, 22, 23, 24, 25, 19, 26, 27, 28, 29, 30, 31, 32, 33, 34, 35, 36, 37, 38, 39, 40, 41, 42, 43, 44, 45, 46, 47, 48, 49, 50, 51, 52, 53, 11, 54, 64, 65, 66, 67, 68, 69, 70, 71] (by decide +kernel) (by decide +kernel)
set_option maxRecDepth 20000 in
theorem gX1_measure_X2_pointsFor : GoodIn wsX1_measure (wsV RX1 47 RX2 yX2_pointsFor wsX2_pointsFor) := goodIn_app (goodIn_of _ (by decide +kernel)) ggX1_measure_X2_pointsFor
theorem dX1_measure_0 : decode cX1_measure 0 = .ok (.aload_n 0, 1) := by decide +kernel
theorem dX1_measure_1 : decode cX1_measure 1 = .ok (.getfield 9, 3) := by decide +kernel
theorem dX1_measure_4 : decode cX1_measure 4 = .ok (.ifCond .eq 4, 3) := by decide +kernel
theorem dX1_measure_7 : decode cX1_measure 7 = .ok (.return_, 1) := by decide +kernel
theorem dX1_measure_8 : decode cX1_measure 8 = .ok (.aload_n 0, 1) := by decide +kernel
theorem dX1_measure_9 : decode cX1_measure 9 = .ok (.ldc 53, 2) := by decide +kernel
theorem dX1_measure_11 : decode cX1_measure 11 = .ok (.putfield 37, 3) := by decide +kernel
theorem dX1_measure_14 : decode cX1_measure 14 = .ok (.aload_n 0, 1) := by decide +kernel
theorem dX1_measure_15 : decode cX1_measure 15 = .ok (.iconst 0, 1) := by decide +kernel
theorem dX1_measure_16 : decode cX1_measure 16 = .ok (.putfield 40, 3) := by decide +kernel
theorem dX1_measure_19 : decode cX1_measure 19 = .ok (.aload_n 0, 1) := by decide +kernel
theorem dX1_measure_20 : decode cX1_measure 20 = .ok (.getfield 34, 3) := by decide +kernel
theorem dX1_measure_23 : decode cX1_measure 23 = .ok (.istore_n 2, 1) := by decide +kernel
theorem dX1_measure_24 : decode cX1_measure 24 = .ok (.iload_n 2, 1) := by decide +kernel
theorem dX1_measure_25 : decode cX1_measure 25 = .ok (.bipush 63, 2) := by decide +kernel
theorem dX1_measure_27 : decode cX1_measure 27 = .ok (.if_icmp .gt 64, 3) := by decide +kernel
theorem dX1_measure_30 : decode cX1_measure 30 = .ok (.iload_n 2, 1) := by decide +kernel
theorem dX1_measure_31 : decode cX1_measure 31 = .ok (.aload_n 0, 1) := by decide +kernel
theorem dX1_measure_32 : decode cX1_measure 32 = .ok (.getfield 34, 3) := by decide +kernel
theorem dX1_measure_35 : decode cX1_measure 35 = .ok (.iand, 1) := by decide +kernel
theorem dX1_measure_36 : decode cX1_measure 36 = .ok (.aload_n 0, 1) := by decide +kernel
theorem dX1_measure_37 : decode cX1_measure 37 = .ok (.getfield 34, 3) := by decide +kernel
theorem dX1_measure_40 : decode cX1_measure 40 = .ok (.if_icmp .ne 45, 3) := by decide +kernel
theorem dX1_measure_43 : decode cX1_measure 43 = .ok (.aload_n 1, 1) := by decide +kernel
theorem dX1_measure_44 : decode cX1_measure 44 = .ok (.aload_n 0, 1) := by decide +kernel
theorem dX1_measure_45 : decode cX1_measure 45 = .ok (.getfield 25, 3) := by decide +kernel
theorem dX1_measure_48 : decode cX1_measure 48 = .ok (.aload_n 0, 1) := by decide +kernel
theorem dX1_measure_49 : decode cX1_measure 49 = .ok (.getfield 28, 3) := by decide +kernel
theorem dX1_measure_52 : decode cX1_measure 52 = .ok (.aload_n 0, 1) := by decide +kernel
theorem dX1_measure_53 : decode cX1_measure 53 = .ok (.getfield 31, 3) := by decide +kernel
theorem dX1_measure_56 : decode cX1_measure 56 = .ok (.iload_n 2, 1) := by decide +kernel
theorem dX1_measure_57 : decode cX1_measure 57 = .ok (.invokevirtual 47, 3) := by decide +kernel
theorem dX1_measure_60 : decode cX1_measure 60 = .ok (.istore_n 3, 1) := by decide +kernel
theorem dX1_measure_61 : decode cX1_measure 61 = .ok (.aload_n 0, 1) := by decide +kernel
theorem dX1_measure_62 : decode cX1_measure 62 = .ok (.aload_n 0, 1) := by decide +kernel
theorem dX1_measure_63 : decode cX1_measure 63 = .ok (.getfield 37, 3) := by decide +kernel
theorem dX1_measure_66 : decode cX1_measure 66 = .ok (.iload_n 3, 1) := by decide +kernel
theorem dX1_measure_67 : decode cX1_measure 67 = .ok (.invokestatic 54, 3) := by decide +kernel
theorem dX1_measure_70 : decode cX1_measure 70 = .ok (.putfield 37, 3) := by decide +kernel
theorem dX1_measure_73 : decode cX1_measure 73 = .ok (.aload_n 0, 1) := by decide +kernel
theorem dX1_measure_74 : decode cX1_measure 74 = .ok (.aload_n 0, 1) := by decide +kernel
theorem dX1_measure_75 : decode cX1_measure 75 = .ok (.getfield 40, 3) := by decide +kernel
theorem dX1_measure_78 : decode cX1_measure 78 = .ok (.iload_n 3, 1) := by decide +kernel
theorem dX1_measure_79 : decode cX1_measure 79 = .ok (.invokestatic 60, 3) := by decide +kernel
theorem dX1_measure_82 : decode cX1_measure 82 = .ok (.putfield 40, 3) := by decide +kernel
theorem dX1_measure_85 : decode cX1_measure 85 = .ok (.iinc 2 1, 3) := by decide +kernel
theorem dX1_measure_88 : decode cX1_measure 88 = .ok (.goto (-64), 3) := by decide +kernel
theorem dX1_measure_91 : decode cX1_measure 91 = .ok (.return_, 1) := by decide +kernel
theorem dX2_init_0 : decode cX2_init 0 = .ok (.aload_n 0, 1) := by decide +kernel
theorem dX2_init_1 : decode cX2_init 1 = .ok (.invokespecial 3, 3) := by decide +kernel
theorem dX2_init_4 : decode cX2_init 4 = .ok (.aload_n 0, 1) := by decide +kernel
theorem dX2_init_5 : decode cX2_init 5 = .ok (.bipush 16, 2) := by decide +kernel
theorem dX2_init_7 : decode cX2_init 7 = .ok (.newarray .int, 2) := by decide +kernel
theorem dX2_init_9 : decode cX2_init 9 = .ok (.putfield 9, 3) := by decide +kernel
theorem dX2_init_12 : decode cX2_init 12 = .ok (.aload_n 0, 1) := by decide +kernel
theorem dX2_init_13 : decode cX2_init 13 = .ok (.bipush 16, 2) := by decide +kernel
theorem dX2_init_15 : decode cX2_init 15 = .ok (.newarray .int, 2) := by decide +kernel
theorem dX2_init_17 : decode cX2_init 17 = .ok (.putfield 15, 3) := by decide +kernel
theorem dX2_init_20 : decode cX2_init 20 = .ok (.aload_n 0, 1) := by decide +kernel
theorem dX2_init_21 : decode cX2_init 21 = .ok (.bipush 16, 2) := by decide +kernel
theorem dX2_init_23 : decode cX2_init 23 = .ok (.newarray .int, 2) := by decide +kernel
theorem dX2_init_25 : decode cX2_init 25 = .ok (.putfield 18, 3) := by decide +kernel
theorem dX2_init_28 : decode cX2_init 28 = .ok (.aload_n 0, 1) := by decide +kernel
theorem dX2_init_29 : decode cX2_init 29 = .ok (.bipush 64, 2) := by decide +kernel
theorem dX2_init_31 : decode cX2_init 31 = .ok (.newarray .int, 2) := by decide +kernel
theorem dX2_init_33 : decode cX2_init 33 = .ok (.putfield 21, 3) := by decide +kernel
theorem dX2_init_36 : decode cX2_init 36 = .ok (.aload_n 0, 1) := by decide +kernel
theorem dX2_init_37 : decode cX2_init 37 = .ok (.bipush 64, 2) := by decide +kernel
theorem dX2_init_39 : decode cX2_init 39 = .ok (.newarray .int, 2) := by decide +kernel
theorem dX2_init_41 : decode cX2_init 41 = .ok (.putfield 24, 3) := by decide +kernel
theorem dX2_init_44 : decode cX2_init 44 = .ok (.aload_n 0, 1) := by decide +kernel
theorem dX2_init_45 : decode cX2_init 45 = .ok (.bipush 64, 2) := by decide +kernel
theorem dX2_init_47 : decode cX2_init 47 = .ok (.newarray .int, 2) := by decide +kernel
theorem dX2_init_49 : decode cX2_init 49 = .ok (.putfield 27, 3) := by decide +kernel
theorem dX2_init_52 : decode cX2_init 52 = .ok (.aload_n 0, 1) := by decide +kernel
theorem dX2_init_53 : decode cX2_init 53 = .ok (.bipush 64, 2) := by decide +kernel
theorem dX2_init_55 : decode cX2_init 55 = .ok (.newarray .boolean, 2) := by decide +kernel
theorem dX2_init_57 : decode cX2_init 57 = .ok (.putfield 30, 3) := by decide +kernel
theorem dX2_init_60 : decode cX2_init 60 = .ok (.return_, 1) := by decide +kernel
theorem dX2_empty_0 : decode cX2_empty 0 = .ok (.aload_n 0, 1) := by decide +kernel
theorem dX2_empty_1 : decode cX2_empty 1 = .ok (.iconst 0, 1) := by decide +kernel
theorem dX2_empty_2 : decode cX2_empty 2 = .ok (.putfield 34, 3) := by decide +kernel
theorem dX2_empty_5 : decode cX2_empty 5 = .ok (.aload_n 0, 1) := by decide +kernel
theorem dX2_empty_6 : decode cX2_empty 6 = .ok (.getfield 18, 3) := by decide +kernel
theorem dX2_empty_9 : decode cX2_empty 9 = .ok (.iconst 0, 1) := by decide +kernel
theorem dX2_empty_10 : decode cX2_empty 10 = .ok (.iconst 0, 1) := by decide +kernel
theorem dX2_empty_11 : decode cX2_empty 11 = .ok (.iastore, 1) := by decide +kernel
theorem dX2_empty_12 : decode cX2_empty 12 = .ok (.return_, 1) := by decide +kernel
theorem dX2_copyFrom_0 : decode cX2_copyFrom 0 = .ok (.aload_n 0, 1) := by decide +kernel
theorem dX2_copyFrom_1 : decode cX2_copyFrom 1 = .ok (.aload_n 1, 1) := by decide +kernel
theorem dX2_copyFrom_2 : decode cX2_copyFrom 2 = .ok (.getfield 34, 3) := by decide +kernel
theorem dX2_copyFrom_5 : decode cX2_copyFrom 5 = .ok (.putfield 34, 3) := by decide +kernel
theorem dX2_copyFrom_8 : decode cX2_copyFrom 8 = .ok (.aload_n 1, 1) := by decide +kernel
theorem dX2_copyFrom_9 : decode cX2_copyFrom 9 = .ok (.getfield 9, 3) := by decide +kernel
theorem dX2_copyFrom_12 : decode cX2_copyFrom 12 = .ok (.iconst 0, 1) := by decide +kernel
theorem dX2_copyFrom_13 : decode cX2_copyFrom 13 = .ok (.aload_n 0, 1) := by decide +kernel
theorem dX2_copyFrom_14 : decode cX2_copyFrom 14 = .ok (.getfield 9, 3) := by decide +kernel
theorem dX2_copyFrom_17 : decode cX2_copyFrom 17 = .ok (.iconst 0, 1) := by decide +kernel
theorem dX2_copyFrom_18 : decode cX2_copyFrom 18 = .ok (.bipush 16, 2) := by decide +kernel
theorem dX2_copyFrom_20 : decode cX2_copyFrom 20 = .ok (.invokestatic 38, 3) := by decide +kernel
theorem dX2_copyFrom_23 : decode cX2_copyFrom 23 = .ok (.aload_n 1, 1) := by decide +kernel
theorem dX2_copyFrom_24 : decode cX2_copyFrom 24 = .ok (.getfield 15, 3) := by decide +kernel
theorem dX2_copyFrom_27 : decode cX2_copyFrom 27 = .ok (.iconst 0, 1) := by decide +kernel
theorem dX2_copyFrom_28 : decode cX2_copyFrom 28 = .ok (.aload_n 0, 1) := by decide +kernel
theorem dX2_copyFrom_29 : decode cX2_copyFrom 29 = .ok (.getfield 15, 3) := by decide +kernel
theorem dX2_copyFrom_32 : decode cX2_copyFrom 32 = .ok (.iconst 0, 1) := by decide +kernel
theorem dX2_copyFrom_33 : decode cX2_copyFrom 33 = .ok (.bipush 16, 2) := by decide +kernel
theorem dX2_copyFrom_35 : decode cX2_copyFrom 35 = .ok (.invokestatic 38, 3) := by decide +kernel
theorem dX2_copyFrom_38 : decode cX2_copyFrom 38 = .ok (.aload_n 1, 1) := by decide +kernel
theorem dX2_copyFrom_39 : decode cX2_copyFrom 39 = .ok (.getfield 18, 3) := by decide +kernel
theorem dX2_copyFrom_42 : decode cX2_copyFrom 42 = .ok (.iconst 0, 1) := by decide +kernel
theorem dX2_copyFrom_43 : decode cX2_copyFrom 43 = .ok (.aload_n 0, 1) := by decide +kernel
theorem dX2_copyFrom_44 : decode cX2_copyFrom 44 = .ok (.getfield 18, 3) := by decide +kernel
theorem dX2_copyFrom_47 : decode cX2_copyFrom 47 = .ok (.iconst 0, 1) := by decide +kernel
theorem dX2_copyFrom_48 : decode cX2_copyFrom 48 = .ok (.bipush 16, 2) := by decide +kernel
theorem dX2_copyFrom_50 : decode cX2_copyFrom 50 = .ok (.invokestatic 38, 3) := by decide +kernel
theorem dX2_copyFrom_53 : decode cX2_copyFrom 53 = .ok (.aload_n 1, 1) := by decide +kernel
theorem dX2_copyFrom_54 : decode cX2_copyFrom 54 = .ok (.getfield 21, 3) := by decide +kernel
theorem dX2_copyFrom_57 : decode cX2_copyFrom 57 = .ok (.iconst 0, 1) := by decide +kernel
theorem dX2_copyFrom_58 : decode cX2_copyFrom 58 = .ok (.aload_n 0, 1) := by decide +kernel
theorem dX2_copyFrom_59 : decode cX2_copyFrom 59 = .ok (.getfield 21, 3) := by decide +kernel
theorem dX2_copyFrom_62 : decode cX2_copyFrom 62 = .ok (.iconst 0, 1) := by decide +kernel
theorem dX2_copyFrom_63 : decode cX2_copyFrom 63 = .ok (.bipush 64, 2) := by decide +kernel
theorem dX2_copyFrom_65 : decode cX2_copyFrom 65 = .ok (.invokestatic 38, 3) := by decide +kernel
theorem dX2_copyFrom_68 : decode cX2_copyFrom 68 = .ok (.aload_n 1, 1) := by decide +kernel
theorem dX2_copyFrom_69 : decode cX2_copyFrom 69 = .ok (.getfield 24, 3) := by decide +kernel
theorem dX2_copyFrom_72 : decode cX2_copyFrom 72 = .ok (.iconst 0, 1) := by decide +kernel
theorem dX2_copyFrom_73 : decode cX2_copyFrom 73 = .ok (.aload_n 0, 1) := by decide +kernel
theorem dX2_copyFrom_74 : decode cX2_copyFrom 74 = .ok (.getfield 24, 3) := by decide +kernel
theorem dX2_copyFrom_77 : decode cX2_copyFrom 77 = .ok (.iconst 0, 1) := by decide +kernel
theorem dX2_copyFrom_78 : decode cX2_copyFrom 78 = .ok (.bipush 64, 2) := by decide +kernel
theorem dX2_copyFrom_80 : decode cX2_copyFrom 80 = .ok (.invokestatic 38, 3) := by decide +kernel
theorem dX2_copyFrom_83 : decode cX2_copyFrom 83 = .ok (.aload_n 1, 1) := by decide +kernel
theorem dX2_copyFrom_84 : decode cX2_copyFrom 84 = .ok (.getfield 27, 3) := by decide +kernel
theorem dX2_copyFrom_87 : decode cX2_copyFrom 87 = .ok (.iconst 0, 1) := by decide +kernel
theorem dX2_copyFrom_88 : decode cX2_copyFrom 88 = .ok (.aload_n 0, 1) := by decide +kernel
theorem dX2_copyFrom_89 : decode cX2_copyFrom 89 = .ok (.getfield 27, 3) := by decide +kernel
theorem dX2_copyFrom_92 : decode cX2_copyFrom 92 = .ok (.iconst 0, 1) := by decide +kernel
theorem dX2_copyFrom_93 : decode cX2_copyFrom 93 = .ok (.bipush 64, 2) := by decide +kernel
theorem dX2_copyFrom_95 : decode cX2_copyFrom 95 = .ok (.invokestatic 38, 3) := by decide +kernel
theorem dX2_copyFrom_98 : decode cX2_copyFrom 98 = .ok (.aload_n 1, 1) := by decide +kernel
theorem dX2_copyFrom_99 : decode cX2_copyFrom 99 = .ok (.getfield 30, 3) := by decide +kernel
theorem dX2_copyFrom_102 : decode cX2_copyFrom 102 = .ok (.iconst 0, 1) := by decide +kernel
theorem dX2_copyFrom_103 : decode cX2_copyFrom 103 = .ok (.aload_n 0, 1) := by decide +kernel
theorem dX2_copyFrom_104 : decode cX2_copyFrom 104 = .ok (.getfield 30, 3) := by decide +kernel
theorem dX2_copyFrom_107 : decode cX2_copyFrom 107 = .ok (.iconst 0, 1) := by decide +kernel
theorem dX2_copyFrom_108 : decode cX2_copyFrom 108 = .ok (.bipush 64, 2) := by decide +kernel
theorem dX2_copyFrom_110 : decode cX2_copyFrom 110 = .ok (.invokestatic 38, 3) := by decide +kernel
theorem dX2_copyFrom_113 : decode cX2_copyFrom 113 = .ok (.return_, 1) := by decide +kernel
theorem dX2_addTest_0 : decode cX2_addTest 0 = .ok (.aload_n 0, 1) := by decide +kernel
theorem dX2_addTest_1 : decode cX2_addTest 1 = .ok (.getfield 34, 3) := by decide +kernel
theorem dX2_addTest_4 : decode cX2_addTest 4 = .ok (.bipush 16, 2) := by decide +kernel
theorem dX2_addTest_6 : decode cX2_addTest 6 = .ok (.if_icmp .ge 16, 3) := by decide +kernel
theorem dX2_addTest_9 : decode cX2_addTest 9 = .ok (.aload_n 0, 1) := by decide +kernel
theorem dX2_addTest_10 : decode cX2_addTest 10 = .ok (.getfield 18, 3) := by decide +kernel
theorem dX2_addTest_13 : decode cX2_addTest 13 = .ok (.aload_n 0, 1) := by decide +kernel
theorem dX2_addTest_14 : decode cX2_addTest 14 = .ok (.getfield 34, 3) := by decide +kernel
theorem dX2_addTest_17 : decode cX2_addTest 17 = .ok (.iaload, 1) := by decide +kernel
theorem dX2_addTest_18 : decode cX2_addTest 18 = .ok (.iconst 4, 1) := by decide +kernel
theorem dX2_addTest_19 : decode cX2_addTest 19 = .ok (.if_icmp .lt 4, 3) := by decide +kernel
theorem dX2_addTest_22 : decode cX2_addTest 22 = .ok (.return_, 1) := by decide +kernel
theorem dX2_addTest_23 : decode cX2_addTest 23 = .ok (.aload_n 0, 1) := by decide +kernel
theorem dX2_addTest_24 : decode cX2_addTest 24 = .ok (.getfield 34, 3) := by decide +kernel
theorem dX2_addTest_27 : decode cX2_addTest 27 = .ok (.iconst 4, 1) := by decide +kernel
theorem dX2_addTest_28 : decode cX2_addTest 28 = .ok (.imul, 1) := by decide +kernel
theorem dX2_addTest_29 : decode cX2_addTest 29 = .ok (.aload_n 0, 1) := by decide +kernel
theorem dX2_addTest_30 : decode cX2_addTest 30 = .ok (.getfield 18, 3) := by decide +kernel
theorem dX2_addTest_33 : decode cX2_addTest 33 = .ok (.aload_n 0, 1) := by decide +kernel
theorem dX2_addTest_34 : decode cX2_addTest 34 = .ok (.getfield 34, 3) := by decide +kernel
theorem dX2_addTest_37 : decode cX2_addTest 37 = .ok (.iaload, 1) := by decide +kernel
theorem dX2_addTest_38 : decode cX2_addTest 38 = .ok (.iadd, 1) := by decide +kernel
theorem dX2_addTest_39 : decode cX2_addTest 39 = .ok (.istore 5, 2) := by decide +kernel
theorem dX2_addTest_41 : decode cX2_addTest 41 = .ok (.aload_n 0, 1) := by decide +kernel
theorem dX2_addTest_42 : decode cX2_addTest 42 = .ok (.getfield 21, 3) := by decide +kernel
theorem dX2_addTest_45 : decode cX2_addTest 45 = .ok (.iload 5, 2) := by decide +kernel
theorem dX2_addTest_47 : decode cX2_addTest 47 = .ok (.iload_n 1, 1) := by decide +kernel
theorem dX2_addTest_48 : decode cX2_addTest 48 = .ok (.iastore, 1) := by decide +kernel
theorem dX2_addTest_49 : decode cX2_addTest 49 = .ok (.aload_n 0, 1) := by decide +kernel
theorem dX2_addTest_50 : decode cX2_addTest 50 = .ok (.getfield 24, 3) := by decide +kernel
theorem dX2_addTest_53 : decode cX2_addTest 53 = .ok (.iload 5, 2) := by decide +kernel
theorem dX2_addTest_55 : decode cX2_addTest 55 = .ok (.iload_n 2, 1) := by decide +kernel
theorem dX2_addTest_56 : decode cX2_addTest 56 = .ok (.iastore, 1) := by decide +kernel
theorem dX2_addTest_57 : decode cX2_addTest 57 = .ok (.aload_n 0, 1) := by decide +kernel
theorem dX2_addTest_58 : decode cX2_addTest 58 = .ok (.getfield 27, 3) := by decide +kernel
theorem dX2_addTest_61 : decode cX2_addTest 61 = .ok (.iload 5, 2) := by decide +kernel
theorem dX2_addTest_63 : decode cX2_addTest 63 = .ok (.iload_n 3, 1) := by decide +kernel
theorem dX2_addTest_64 : decode cX2_addTest 64 = .ok (.iastore, 1) := by decide +kernel
theorem dX2_addTest_65 : decode cX2_addTest 65 = .ok (.aload_n 0, 1) := by decide +kernel
theorem dX2_addTest_66 : decode cX2_addTest 66 = .ok (.getfield 30, 3) := by decide +kernel
theorem dX2_addTest_69 : decode cX2_addTest 69 = .ok (.iload 5, 2) := by decide +kernel
theorem dX2_addTest_71 : decode cX2_addTest 71 = .ok (.iload 4, 2) := by decide +kernel
theorem dX2_addTest_73 : decode cX2_addTest 73 = .ok (.bastore, 1) := by decide +kernel
theorem dX2_addTest_74 : decode cX2_addTest 74 = .ok (.aload_n 0, 1) := by decide +kernel
theorem dX2_addTest_75 : decode cX2_addTest 75 = .ok (.getfield 18, 3) := by decide +kernel
theorem dX2_addTest_78 : decode cX2_addTest 78 = .ok (.aload_n 0, 1) := by decide +kernel
theorem dX2_addTest_79 : decode cX2_addTest 79 = .ok (.getfield 34, 3) := by decide +kernel
theorem dX2_addTest_82 : decode cX2_addTest 82 = .ok (.dup2, 1) := by decide +kernel
theorem dX2_addTest_83 : decode cX2_addTest 83 = .ok (.iaload, 1) := by decide +kernel
theorem dX2_addTest_84 : decode cX2_addTest 84 = .ok (.iconst 1, 1) := by decide +kernel
theorem dX2_addTest_85 : decode cX2_addTest 85 = .ok (.iadd, 1) := by decide +kernel
theorem dX2_addTest_86 : decode cX2_addTest 86 = .ok (.iastore, 1) := by decide +kernel
theorem dX2_addTest_87 : decode cX2_addTest 87 = .ok (.return_, 1) := by decide +kernel
theorem dX2_endLine_0 : decode cX2_endLine 0 = .ok (.aload_n 0, 1) := by decide +kernel
theorem dX2_endLine_1 : decode cX2_endLine 1 = .ok (.getfield 34, 3) := by decide +kernel
theorem dX2_endLine_4 : decode cX2_endLine 4 = .ok (.bipush 16, 2) := by decide +kernel
theorem dX2_endLine_6 : decode cX2_endLine 6 = .ok (.if_icmp .lt 4, 3) := by decide +kernel
theorem dX2_endLine_9 : decode cX2_endLine 9 = .ok (.return_, 1) := by decide +kernel
theorem dX2_endLine_10 : decode cX2_endLine 10 = .ok (.aload_n 0, 1) := by decide +kernel
theorem dX2_endLine_11 : decode cX2_endLine 11 = .ok (.getfield 9, 3) := by decide +kernel
theorem dX2_endLine_14 : decode cX2_endLine 14 = .ok (.aload_n 0, 1) := by decide +kernel
theorem dX2_endLine_15 : decode cX2_endLine 15 = .ok (.getfield 34, 3) := by decide +kernel
theorem dX2_endLine_18 : decode cX2_endLine 18 = .ok (.iload_n 1, 1) := by decide +kernel
theorem dX2_endLine_19 : decode cX2_endLine 19 = .ok (.iastore, 1) := by decide +kernel
theorem dX2_endLine_20 : decode cX2_endLine 20 = .ok (.aload_n 0, 1) := by decide +kernel
theorem dX2_endLine_21 : decode cX2_endLine 21 = .ok (.getfield 15, 3) := by decide +kernel
theorem dX2_endLine_24 : decode cX2_endLine 24 = .ok (.aload_n 0, 1) := by decide +kernel
theorem dX2_endLine_25 : decode cX2_endLine 25 = .ok (.getfield 34, 3) := by decide +kernel
theorem dX2_endLine_28 : decode cX2_endLine 28 = .ok (.iload_n 2, 1) := by decide +kernel
theorem dX2_endLine_29 : decode cX2_endLine 29 = .ok (.iastore, 1) := by decide +kernel
theorem dX2_endLine_30 : decode cX2_endLine 30 = .ok (.aload_n 0, 1) := by decide +kernel
theorem dX2_endLine_31 : decode cX2_endLine 31 = .ok (.dup, 1) := by decide +kernel
theorem dX2_endLine_32 : decode cX2_endLine 32 = .ok (.getfield 34, 3) := by decide +kernel
theorem dX2_endLine_35 : decode cX2_endLine 35 = .ok (.iconst 1, 1) := by decide +kernel
theorem dX2_endLine_36 : decode cX2_endLine 36 = .ok (.iadd, 1) := by decide +kernel
theorem dX2_endLine_37 : decode cX2_endLine 37 = .ok (.putfield 34, 3) := by decide +kernel
theorem dX2_endLine_40 : decode cX2_endLine 40 = .ok (.aload_n 0, 1) := by decide +kernel
theorem dX2_endLine_41 : decode cX2_endLine 41 = .ok (.getfield 34, 3) := by decide +kernel
theorem dX2_endLine_44 : decode cX2_endLine 44 = .ok (.bipush 16, 2) := by decide +kernel
theorem dX2_endLine_46 : decode cX2_endLine 46 = .ok (.if_icmp .ge 13, 3) := by decide +kernel
theorem dX2_endLine_49 : decode cX2_endLine 49 = .ok (.aload_n 0, 1) := by decide +kernel
theorem dX2_endLine_50 : decode cX2_endLine 50 = .ok (.getfield 18, 3) := by decide +kernel
theorem dX2_endLine_53 : decode cX2_endLine 53 = .ok (.aload_n 0, 1) := by decide +kernel
theorem dX2_endLine_54 : decode cX2_endLine 54 = .ok (.getfield 34, 3) := by decide +kernel
theorem dX2_endLine_57 : decode cX2_endLine 57 = .ok (.iconst 0, 1) := by decide +kernel
theorem dX2_endLine_58 : decode cX2_endLine 58 = .ok (.iastore, 1) := by decide +kernel
theorem dX2_endLine_59 : decode cX2_endLine 59 = .ok (.return_, 1) := by decide +kernel
set_option maxRecDepth 20000 in
theorem ggX2_pointsFor_X2_lineHolds : GoodIn wsX2_pointsFor wsX2_lineHolds := goodIn_r _ [7, 8, 9, 10, 11, 12, 13, 14, 6, 15, 16, 17, 18, 19, 20, 21, 22, 23, 24, 25, 37, 38, 39, 40, 41, 42, 43, 44] (by decide +kernel) (by decide +kernel)
set_option maxRecDepth 20000 in
theorem gX2_pointsFor_X2_lineHolds : GoodIn wsX2_pointsFor (wsV RX2 44 RX2 yX2_lineHolds wsX2_lineHolds) := goodIn_app (goodIn_of _ (by decide +kernel)) ggX2_pointsFor_X2_lineHolds
set_option maxRecDepth 20000 in
theorem ggX2_pointsFor_X2_pointsAfter : GoodIn wsX2_pointsFor wsX2_pointsAfter := goodIn_r _ [29, 30, 2, 31, 32, 33, 34, 35, 36, 37, 38, 39, 40, 41, 42, 43, 44] (by decide +kernel) (by decide +kernel)
set_option maxRecDepth 20000 in
theorem gX2_pointsFor_X2_pointsAfter : GoodIn wsX2_pointsFor (wsV RX2 48 RX2 yX2_pointsAfter wsX2_pointsAfter) := goodIn_app (goodIn_of _ (by decide +kernel)) ggX2_pointsFor_X2_pointsAfter
theorem dX2_pointsFor_0 : decode cX2_pointsFor 0 = .ok (.iconst 0, 1) := by decide +kernel
theorem dX2_pointsFor_1 : decode cX2_pointsFor 1 = .ok (.istore 5, 2) := by decide +kernel
theorem dX2_pointsFor_3 : decode cX2_pointsFor 3 = .ok (.iconst 0, 1) := by decide +kernel
theorem dX2_pointsFor_4 : decode cX2_pointsFor 4 = .ok (.istore 6, 2) := by decide +kernel
theorem dX2_pointsFor_6 : decode cX2_pointsFor 6 = .ok (.iload 6, 2) := by decide +kernel
theorem dX2_pointsFor_8 : decode cX2_pointsFor 8 = .ok (.aload_n 0, 1) := by decide +kernel
theorem dX2_pointsFor_9 : decode cX2_pointsFor 9 = .ok (.getfield 34, 3) := by decide +kernel
theorem dX2_pointsFor_12 : decode cX2_pointsFor 12 = .ok (.if_icmp .ge 58, 3) := by decide +kernel
theorem dX2_pointsFor_15 : decode cX2_pointsFor 15 = .ok (.iload 6, 2) := by decide +kernel
theorem dX2_pointsFor_17 : decode cX2_pointsFor 17 = .ok (.bipush 16, 2) := by decide +kernel
theorem dX2_pointsFor_19 : decode cX2_pointsFor 19 = .ok (.if_icmp .ge 51, 3) := by decide +kernel
theorem dX2_pointsFor_22 : decode cX2_pointsFor 22 = .ok (.aload_n 0, 1) := by decide +kernel
theorem dX2_pointsFor_23 : decode cX2_pointsFor 23 = .ok (.iload 6, 2) := by decide +kernel
theorem dX2_pointsFor_25 : decode cX2_pointsFor 25 = .ok (.iload_n 1, 1) := by decide +kernel
theorem dX2_pointsFor_26 : decode cX2_pointsFor 26 = .ok (.iload_n 2, 1) := by decide +kernel
theorem dX2_pointsFor_27 : decode cX2_pointsFor 27 = .ok (.iload_n 3, 1) := by decide +kernel
theorem dX2_pointsFor_28 : decode cX2_pointsFor 28 = .ok (.iload 4, 2) := by decide +kernel
theorem dX2_pointsFor_30 : decode cX2_pointsFor 30 = .ok (.iload 5, 2) := by decide +kernel
theorem dX2_pointsFor_32 : decode cX2_pointsFor 32 = .ok (.invokevirtual 44, 3) := by decide +kernel
theorem dX2_pointsFor_35 : decode cX2_pointsFor 35 = .ok (.ifCond .ne 6, 3) := by decide +kernel
theorem dX2_pointsFor_38 : decode cX2_pointsFor 38 = .ok (.goto 26, 3) := by decide +kernel
theorem dX2_pointsFor_41 : decode cX2_pointsFor 41 = .ok (.aload_n 0, 1) := by decide +kernel
theorem dX2_pointsFor_42 : decode cX2_pointsFor 42 = .ok (.getfield 9, 3) := by decide +kernel
theorem dX2_pointsFor_45 : decode cX2_pointsFor 45 = .ok (.iload 6, 2) := by decide +kernel
theorem dX2_pointsFor_47 : decode cX2_pointsFor 47 = .ok (.iaload, 1) := by decide +kernel
theorem dX2_pointsFor_48 : decode cX2_pointsFor 48 = .ok (.iconst 3, 1) := by decide +kernel
theorem dX2_pointsFor_49 : decode cX2_pointsFor 49 = .ok (.if_icmp .ne 5, 3) := by decide +kernel
theorem dX2_pointsFor_52 : decode cX2_pointsFor 52 = .ok (.iconst 0, 1) := by decide +kernel
theorem dX2_pointsFor_53 : decode cX2_pointsFor 53 = .ok (.ireturn, 1) := by decide +kernel
theorem dX2_pointsFor_54 : decode cX2_pointsFor 54 = .ok (.aload_n 0, 1) := by decide +kernel
theorem dX2_pointsFor_55 : decode cX2_pointsFor 55 = .ok (.iload 6, 2) := by decide +kernel
theorem dX2_pointsFor_57 : decode cX2_pointsFor 57 = .ok (.iload 5, 2) := by decide +kernel
theorem dX2_pointsFor_59 : decode cX2_pointsFor 59 = .ok (.invokevirtual 48, 3) := by decide +kernel
theorem dX2_pointsFor_62 : decode cX2_pointsFor 62 = .ok (.istore 5, 2) := by decide +kernel
theorem dX2_pointsFor_64 : decode cX2_pointsFor 64 = .ok (.iinc 6 1, 3) := by decide +kernel
theorem dX2_pointsFor_67 : decode cX2_pointsFor 67 = .ok (.goto (-61), 3) := by decide +kernel
theorem dX2_pointsFor_70 : decode cX2_pointsFor 70 = .ok (.iload 5, 2) := by decide +kernel
theorem dX2_pointsFor_72 : decode cX2_pointsFor 72 = .ok (.ireturn, 1) := by decide +kernel
theorem dX2_pointsAfter_0 : decode cX2_pointsAfter 0 = .ok (.aload_n 0, 1) := by decide +kernel
theorem dX2_pointsAfter_1 : decode cX2_pointsAfter 1 = .ok (.getfield 15, 3) := by decide +kernel
theorem dX2_pointsAfter_4 : decode cX2_pointsAfter 4 = .ok (.iload_n 1, 1) := by decide +kernel
theorem dX2_pointsAfter_5 : decode cX2_pointsAfter 5 = .ok (.iaload, 1) := by decide +kernel
theorem dX2_pointsAfter_6 : decode cX2_pointsAfter 6 = .ok (.i2l, 1) := by decide +kernel
theorem dX2_pointsAfter_7 : decode cX2_pointsAfter 7 = .ok (.lstore_n 3, 1) := by decide +kernel
theorem dX2_pointsAfter_8 : decode cX2_pointsAfter 8 = .ok (.aload_n 0, 1) := by decide +kernel
theorem dX2_pointsAfter_9 : decode cX2_pointsAfter 9 = .ok (.getfield 9, 3) := by decide +kernel
theorem dX2_pointsAfter_12 : decode cX2_pointsAfter 12 = .ok (.iload_n 1, 1) := by decide +kernel
theorem dX2_pointsAfter_13 : decode cX2_pointsAfter 13 = .ok (.iaload, 1) := by decide +kernel
theorem dX2_pointsAfter_14 : decode cX2_pointsAfter 14 = .ok (.iconst 1, 1) := by decide +kernel
theorem dX2_pointsAfter_15 : decode cX2_pointsAfter 15 = .ok (.if_icmp .ne 11, 3) := by decide +kernel
theorem dX2_pointsAfter_18 : decode cX2_pointsAfter 18 = .ok (.iload_n 2, 1) := by decide +kernel
theorem dX2_pointsAfter_19 : decode cX2_pointsAfter 19 = .ok (.i2l, 1) := by decide +kernel
theorem dX2_pointsAfter_20 : decode cX2_pointsAfter 20 = .ok (.lload_n 3, 1) := by decide +kernel
theorem dX2_pointsAfter_21 : decode cX2_pointsAfter 21 = .ok (.ladd, 1) := by decide +kernel
theorem dX2_pointsAfter_22 : decode cX2_pointsAfter 22 = .ok (.lstore_n 3, 1) := by decide +kernel
theorem dX2_pointsAfter_23 : decode cX2_pointsAfter 23 = .ok (.goto 22, 3) := by decide +kernel
theorem dX2_pointsAfter_26 : decode cX2_pointsAfter 26 = .ok (.aload_n 0, 1) := by decide +kernel
theorem dX2_pointsAfter_27 : decode cX2_pointsAfter 27 = .ok (.getfield 9, 3) := by decide +kernel
theorem dX2_pointsAfter_30 : decode cX2_pointsAfter 30 = .ok (.iload_n 1, 1) := by decide +kernel
theorem dX2_pointsAfter_31 : decode cX2_pointsAfter 31 = .ok (.iaload, 1) := by decide +kernel
theorem dX2_pointsAfter_32 : decode cX2_pointsAfter 32 = .ok (.iconst 2, 1) := by decide +kernel
theorem dX2_pointsAfter_33 : decode cX2_pointsAfter 33 = .ok (.if_icmp .ne 12, 3) := by decide +kernel
theorem dX2_pointsAfter_36 : decode cX2_pointsAfter 36 = .ok (.iload_n 2, 1) := by decide +kernel
theorem dX2_pointsAfter_37 : decode cX2_pointsAfter 37 = .ok (.i2l, 1) := by decide +kernel
theorem dX2_pointsAfter_38 : decode cX2_pointsAfter 38 = .ok (.lload_n 3, 1) := by decide +kernel
theorem dX2_pointsAfter_39 : decode cX2_pointsAfter 39 = .ok (.lmul, 1) := by decide +kernel
theorem dX2_pointsAfter_40 : decode cX2_pointsAfter 40 = .ok (.ldc2_w 52, 3) := by decide +kernel
theorem dX2_pointsAfter_43 : decode cX2_pointsAfter 43 = .ok (.ldiv, 1) := by decide +kernel
theorem dX2_pointsAfter_44 : decode cX2_pointsAfter 44 = .ok (.lstore_n 3, 1) := by decide +kernel
theorem dX2_pointsAfter_45 : decode cX2_pointsAfter 45 = .ok (.lload_n 3, 1) := by decide +kernel
theorem dX2_pointsAfter_46 : decode cX2_pointsAfter 46 = .ok (.ldc2_w 54, 3) := by decide +kernel
theorem dX2_pointsAfter_49 : decode cX2_pointsAfter 49 = .ok (.invokestatic 56, 3) := by decide +kernel
theorem dX2_pointsAfter_52 : decode cX2_pointsAfter 52 = .ok (.l2i, 1) := by decide +kernel
theorem dX2_pointsAfter_53 : decode cX2_pointsAfter 53 = .ok (.ireturn, 1) := by decide +kernel
set_option maxRecDepth 20000 in
theorem ggX2_lineHolds_X2_seenBy : GoodIn wsX2_lineHolds wsX2_seenBy := goodIn_r _ [9, 10, 11, 12, 13, 14, 15, 16] (by decide +kernel) (by decide +kernel)
set_option maxRecDepth 20000 in
theorem gX2_lineHolds_X2_seenBy : GoodIn wsX2_lineHolds (va_wsS RX2 62 yX2_seenBy wsX2_seenBy) := goodIn_app (goodIn_of _ (by decide +kernel)) ggX2_lineHolds_X2_seenBy
set_option maxRecDepth 20000 in
theorem ggX2_lineHolds_X2_compares : GoodIn wsX2_lineHolds wsX2_compares := goodIn_r _ [19] (by decide +kernel) (by decide +kernel)
set_option maxRecDepth 20000 in
theorem gX2_lineHolds_X2_compares : GoodIn wsX2_lineHolds (va_wsS RX2 66 yX2_compares wsX2_compares) := goodIn_app (goodIn_of _ (by decide +kernel)) ggX2_lineHolds_X2_compares
theorem dX2_lineHolds_0 : decode cX2_lineHolds 0 = .ok (.iconst 0, 1) := by decide +kernel
theorem dX2_lineHolds_1 : decode cX2_lineHolds 1 = .ok (.istore 7, 2) := by decide +kernel
theorem dX2_lineHolds_3 : decode cX2_lineHolds 3 = .ok (.iload 7, 2) := by decide +kernel
theorem dX2_lineHolds_5 : decode cX2_lineHolds 5 = .ok (.aload_n 0, 1) := by decide +kernel
theorem dX2_lineHolds_6 : decode cX2_lineHolds 6 = .ok (.getfield 18, 3) := by decide +kernel
theorem dX2_lineHolds_9 : decode cX2_lineHolds 9 = .ok (.iload_n 1, 1) := by decide +kernel
theorem dX2_lineHolds_10 : decode cX2_lineHolds 10 = .ok (.iaload, 1) := by decide +kernel
theorem dX2_lineHolds_11 : decode cX2_lineHolds 11 = .ok (.if_icmp .ge 113, 3) := by decide +kernel
theorem dX2_lineHolds_14 : decode cX2_lineHolds 14 = .ok (.iload 7, 2) := by decide +kernel
theorem dX2_lineHolds_16 : decode cX2_lineHolds 16 = .ok (.iconst 4, 1) := by decide +kernel
theorem dX2_lineHolds_17 : decode cX2_lineHolds 17 = .ok (.if_icmp .ge 107, 3) := by decide +kernel
theorem dX2_lineHolds_20 : decode cX2_lineHolds 20 = .ok (.iload_n 1, 1) := by decide +kernel
theorem dX2_lineHolds_21 : decode cX2_lineHolds 21 = .ok (.iconst 4, 1) := by decide +kernel
theorem dX2_lineHolds_22 : decode cX2_lineHolds 22 = .ok (.imul, 1) := by decide +kernel
theorem dX2_lineHolds_23 : decode cX2_lineHolds 23 = .ok (.iload 7, 2) := by decide +kernel
theorem dX2_lineHolds_25 : decode cX2_lineHolds 25 = .ok (.iadd, 1) := by decide +kernel
theorem dX2_lineHolds_26 : decode cX2_lineHolds 26 = .ok (.istore 8, 2) := by decide +kernel
theorem dX2_lineHolds_28 : decode cX2_lineHolds 28 = .ok (.aload_n 0, 1) := by decide +kernel
theorem dX2_lineHolds_29 : decode cX2_lineHolds 29 = .ok (.getfield 21, 3) := by decide +kernel
theorem dX2_lineHolds_32 : decode cX2_lineHolds 32 = .ok (.iload 8, 2) := by decide +kernel
theorem dX2_lineHolds_34 : decode cX2_lineHolds 34 = .ok (.iaload, 1) := by decide +kernel
theorem dX2_lineHolds_35 : decode cX2_lineHolds 35 = .ok (.iload_n 2, 1) := by decide +kernel
theorem dX2_lineHolds_36 : decode cX2_lineHolds 36 = .ok (.iload_n 3, 1) := by decide +kernel
theorem dX2_lineHolds_37 : decode cX2_lineHolds 37 = .ok (.iload 4, 2) := by decide +kernel
theorem dX2_lineHolds_39 : decode cX2_lineHolds 39 = .ok (.iload 5, 2) := by decide +kernel
theorem dX2_lineHolds_41 : decode cX2_lineHolds 41 = .ok (.iload 6, 2) := by decide +kernel
theorem dX2_lineHolds_43 : decode cX2_lineHolds 43 = .ok (.invokestatic 62, 3) := by decide +kernel
theorem dX2_lineHolds_46 : decode cX2_lineHolds 46 = .ok (.istore 9, 2) := by decide +kernel
theorem dX2_lineHolds_48 : decode cX2_lineHolds 48 = .ok (.aload_n 0, 1) := by decide +kernel
theorem dX2_lineHolds_49 : decode cX2_lineHolds 49 = .ok (.getfield 21, 3) := by decide +kernel
theorem dX2_lineHolds_52 : decode cX2_lineHolds 52 = .ok (.iload 8, 2) := by decide +kernel
theorem dX2_lineHolds_54 : decode cX2_lineHolds 54 = .ok (.iaload, 1) := by decide +kernel
theorem dX2_lineHolds_55 : decode cX2_lineHolds 55 = .ok (.iconst 5, 1) := by decide +kernel
theorem dX2_lineHolds_56 : decode cX2_lineHolds 56 = .ok (.if_icmp .ne 27, 3) := by decide +kernel
theorem dX2_lineHolds_59 : decode cX2_lineHolds 59 = .ok (.iload 5, 2) := by decide +kernel
theorem dX2_lineHolds_61 : decode cX2_lineHolds 61 = .ok (.aload_n 0, 1) := by decide +kernel
theorem dX2_lineHolds_62 : decode cX2_lineHolds 62 = .ok (.getfield 27, 3) := by decide +kernel
theorem dX2_lineHolds_65 : decode cX2_lineHolds 65 = .ok (.iload 8, 2) := by decide +kernel
theorem dX2_lineHolds_67 : decode cX2_lineHolds 67 = .ok (.iaload, 1) := by decide +kernel
theorem dX2_lineHolds_68 : decode cX2_lineHolds 68 = .ok (.ishr, 1) := by decide +kernel
theorem dX2_lineHolds_69 : decode cX2_lineHolds 69 = .ok (.iconst 1, 1) := by decide +kernel
theorem dX2_lineHolds_70 : decode cX2_lineHolds 70 = .ok (.iand, 1) := by decide +kernel
theorem dX2_lineHolds_71 : decode cX2_lineHolds 71 = .ok (.iconst 1, 1) := by decide +kernel
theorem dX2_lineHolds_72 : decode cX2_lineHolds 72 = .ok (.if_icmp .ne 7, 3) := by decide +kernel
theorem dX2_lineHolds_75 : decode cX2_lineHolds 75 = .ok (.iconst 1, 1) := by decide +kernel
theorem dX2_lineHolds_76 : decode cX2_lineHolds 76 = .ok (.goto 26, 3) := by decide +kernel
theorem dX2_lineHolds_79 : decode cX2_lineHolds 79 = .ok (.iconst 0, 1) := by decide +kernel
theorem dX2_lineHolds_80 : decode cX2_lineHolds 80 = .ok (.goto 22, 3) := by decide +kernel
theorem dX2_lineHolds_83 : decode cX2_lineHolds 83 = .ok (.iload 9, 2) := by decide +kernel
theorem dX2_lineHolds_85 : decode cX2_lineHolds 85 = .ok (.aload_n 0, 1) := by decide +kernel
theorem dX2_lineHolds_86 : decode cX2_lineHolds 86 = .ok (.getfield 24, 3) := by decide +kernel
theorem dX2_lineHolds_89 : decode cX2_lineHolds 89 = .ok (.iload 8, 2) := by decide +kernel
theorem dX2_lineHolds_91 : decode cX2_lineHolds 91 = .ok (.iaload, 1) := by decide +kernel
theorem dX2_lineHolds_92 : decode cX2_lineHolds 92 = .ok (.aload_n 0, 1) := by decide +kernel
theorem dX2_lineHolds_93 : decode cX2_lineHolds 93 = .ok (.getfield 27, 3) := by decide +kernel
theorem dX2_lineHolds_96 : decode cX2_lineHolds 96 = .ok (.iload 8, 2) := by decide +kernel
theorem dX2_lineHolds_98 : decode cX2_lineHolds 98 = .ok (.iaload, 1) := by decide +kernel
theorem dX2_lineHolds_99 : decode cX2_lineHolds 99 = .ok (.invokestatic 66, 3) := by decide +kernel
theorem dX2_lineHolds_102 : decode cX2_lineHolds 102 = .ok (.istore 10, 2) := by decide +kernel
theorem dX2_lineHolds_104 : decode cX2_lineHolds 104 = .ok (.iload 10, 2) := by decide +kernel
theorem dX2_lineHolds_106 : decode cX2_lineHolds 106 = .ok (.aload_n 0, 1) := by decide +kernel
theorem dX2_lineHolds_107 : decode cX2_lineHolds 107 = .ok (.getfield 30, 3) := by decide +kernel
theorem dX2_lineHolds_110 : decode cX2_lineHolds 110 = .ok (.iload 8, 2) := by decide +kernel
theorem dX2_lineHolds_112 : decode cX2_lineHolds 112 = .ok (.baload, 1) := by decide +kernel
theorem dX2_lineHolds_113 : decode cX2_lineHolds 113 = .ok (.if_icmp .ne 5, 3) := by decide +kernel
theorem dX2_lineHolds_116 : decode cX2_lineHolds 116 = .ok (.iconst 0, 1) := by decide +kernel
theorem dX2_lineHolds_117 : decode cX2_lineHolds 117 = .ok (.ireturn, 1) := by decide +kernel
theorem dX2_lineHolds_118 : decode cX2_lineHolds 118 = .ok (.iinc 7 1, 3) := by decide +kernel
theorem dX2_lineHolds_121 : decode cX2_lineHolds 121 = .ok (.goto (-118), 3) := by decide +kernel
theorem dX2_lineHolds_124 : decode cX2_lineHolds 124 = .ok (.iconst 1, 1) := by decide +kernel
theorem dX2_lineHolds_125 : decode cX2_lineHolds 125 = .ok (.ireturn, 1) := by decide +kernel
set_option maxRecDepth 20000 in
theorem ggX2_seenBy_J6_bitCount_0f7a4 : GoodIn wsX2_seenBy wsJ6_bitCount_0f7a4 := goodIn_r _ [4, 5, 6, 7] (by decide +kernel) (by decide +kernel)
set_option maxRecDepth 20000 in
theorem gX2_seenBy_J6_bitCount_0f7a4 : GoodIn wsX2_seenBy (va_wsS RX2 70 yJ6_bitCount_0f7a4 wsJ6_bitCount_0f7a4) := goodIn_app (goodIn_of _ (by decide +kernel)) ggX2_seenBy_J6_bitCount_0f7a4
theorem dX2_seenBy_0 : decode cX2_seenBy 0 = .ok (.iload_n 0, 1) := by decide +kernel
theorem dX2_seenBy_1 : decode cX2_seenBy 1 = .ok (.tableswitch 43 0 3 #[31, 33, 35, 37], 31) := by decide +kernel
theorem dX2_seenBy_32 : decode cX2_seenBy 32 = .ok (.iload_n 1, 1) := by decide +kernel
theorem dX2_seenBy_33 : decode cX2_seenBy 33 = .ok (.ireturn, 1) := by decide +kernel
theorem dX2_seenBy_34 : decode cX2_seenBy 34 = .ok (.iload_n 2, 1) := by decide +kernel
theorem dX2_seenBy_35 : decode cX2_seenBy 35 = .ok (.ireturn, 1) := by decide +kernel
theorem dX2_seenBy_36 : decode cX2_seenBy 36 = .ok (.iload_n 3, 1) := by decide +kernel
theorem dX2_seenBy_37 : decode cX2_seenBy 37 = .ok (.ireturn, 1) := by decide +kernel
theorem dX2_seenBy_38 : decode cX2_seenBy 38 = .ok (.iload 4, 2) := by decide +kernel
theorem dX2_seenBy_40 : decode cX2_seenBy 40 = .ok (.invokestatic 70, 3) := by decide +kernel
theorem dX2_seenBy_43 : decode cX2_seenBy 43 = .ok (.ireturn, 1) := by decide +kernel
theorem dX2_seenBy_44 : decode cX2_seenBy 44 = .ok (.iload 5, 2) := by decide +kernel
theorem dX2_seenBy_46 : decode cX2_seenBy 46 = .ok (.ireturn, 1) := by decide +kernel
theorem dX2_compares_0 : decode cX2_compares 0 = .ok (.iload_n 1, 1) := by decide +kernel
theorem dX2_compares_1 : decode cX2_compares 1 = .ok (.bipush 60, 2) := by decide +kernel
theorem dX2_compares_3 : decode cX2_compares 3 = .ok (.if_icmp .ne 14, 3) := by decide +kernel
theorem dX2_compares_6 : decode cX2_compares 6 = .ok (.iload_n 0, 1) := by decide +kernel
theorem dX2_compares_7 : decode cX2_compares 7 = .ok (.iload_n 2, 1) := by decide +kernel
theorem dX2_compares_8 : decode cX2_compares 8 = .ok (.if_icmp .ge 7, 3) := by decide +kernel
theorem dX2_compares_11 : decode cX2_compares 11 = .ok (.iconst 1, 1) := by decide +kernel
theorem dX2_compares_12 : decode cX2_compares 12 = .ok (.goto 4, 3) := by decide +kernel
theorem dX2_compares_15 : decode cX2_compares 15 = .ok (.iconst 0, 1) := by decide +kernel
theorem dX2_compares_16 : decode cX2_compares 16 = .ok (.ireturn, 1) := by decide +kernel
theorem dX2_compares_17 : decode cX2_compares 17 = .ok (.iload_n 1, 1) := by decide +kernel
theorem dX2_compares_18 : decode cX2_compares 18 = .ok (.bipush 62, 2) := by decide +kernel
theorem dX2_compares_20 : decode cX2_compares 20 = .ok (.if_icmp .ne 16, 3) := by decide +kernel
theorem dX2_compares_23 : decode cX2_compares 23 = .ok (.iload_n 0, 1) := by decide +kernel
theorem dX2_compares_24 : decode cX2_compares 24 = .ok (.iload_n 2, 1) := by decide +kernel
theorem dX2_compares_25 : decode cX2_compares 25 = .ok (.if_icmp .le 7, 3) := by decide +kernel
theorem dX2_compares_28 : decode cX2_compares 28 = .ok (.iconst 1, 1) := by decide +kernel
theorem dX2_compares_29 : decode cX2_compares 29 = .ok (.goto 17, 3) := by decide +kernel
theorem dX2_compares_32 : decode cX2_compares 32 = .ok (.iconst 0, 1) := by decide +kernel
theorem dX2_compares_33 : decode cX2_compares 33 = .ok (.goto 13, 3) := by decide +kernel
theorem dX2_compares_36 : decode cX2_compares 36 = .ok (.iload_n 0, 1) := by decide +kernel
theorem dX2_compares_37 : decode cX2_compares 37 = .ok (.iload_n 2, 1) := by decide +kernel
theorem dX2_compares_38 : decode cX2_compares 38 = .ok (.if_icmp .ne 7, 3) := by decide +kernel
theorem dX2_compares_41 : decode cX2_compares 41 = .ok (.iconst 1, 1) := by decide +kernel
theorem dX2_compares_42 : decode cX2_compares 42 = .ok (.goto 4, 3) := by decide +kernel
theorem dX2_compares_45 : decode cX2_compares 45 = .ok (.iconst 0, 1) := by decide +kernel
theorem dX2_compares_46 : decode cX2_compares 46 = .ok (.ireturn, 1) := by decide +kernel
theorem dX3_init_0 : decode cX3_init 0 = .ok (.aload_n 0, 1) := by decide +kernel
theorem dX3_init_1 : decode cX3_init 1 = .ok (.invokespecial 3, 3) := by decide +kernel
theorem dX3_init_4 : decode cX3_init 4 = .ok (.aload_n 0, 1) := by decide +kernel
theorem dX3_init_5 : decode cX3_init 5 = .ok (.iconst 4, 1) := by decide +kernel
theorem dX3_init_6 : decode cX3_init 6 = .ok (.newarray .int, 2) := by decide +kernel
theorem dX3_init_8 : decode cX3_init 8 = .ok (.putfield 9, 3) := by decide +kernel
theorem dX3_init_11 : decode cX3_init 11 = .ok (.aload_n 0, 1) := by decide +kernel
theorem dX3_init_12 : decode cX3_init 12 = .ok (.iconst 4, 1) := by decide +kernel
theorem dX3_init_13 : decode cX3_init 13 = .ok (.newarray .long, 2) := by decide +kernel
theorem dX3_init_15 : decode cX3_init 15 = .ok (.putfield 15, 3) := by decide +kernel
theorem dX3_init_18 : decode cX3_init 18 = .ok (.aload_n 0, 1) := by decide +kernel
theorem dX3_init_19 : decode cX3_init 19 = .ok (.iconst 4, 1) := by decide +kernel
theorem dX3_init_20 : decode cX3_init 20 = .ok (.newarray .long, 2) := by decide +kernel
theorem dX3_init_22 : decode cX3_init 22 = .ok (.putfield 19, 3) := by decide +kernel
theorem dX3_init_25 : decode cX3_init 25 = .ok (.aload_n 0, 1) := by decide +kernel
theorem dX3_init_26 : decode cX3_init 26 = .ok (.iconst 4, 1) := by decide +kernel
theorem dX3_init_27 : decode cX3_init 27 = .ok (.newarray .int, 2) := by decide +kernel
theorem dX3_init_29 : decode cX3_init 29 = .ok (.putfield 22, 3) := by decide +kernel
theorem dX3_init_32 : decode cX3_init 32 = .ok (.aload_n 0, 1) := by decide +kernel
theorem dX3_init_33 : decode cX3_init 33 = .ok (.iconst 4, 1) := by decide +kernel
theorem dX3_init_34 : decode cX3_init 34 = .ok (.newarray .long, 2) := by decide +kernel
theorem dX3_init_36 : decode cX3_init 36 = .ok (.putfield 25, 3) := by decide +kernel
theorem dX3_init_39 : decode cX3_init 39 = .ok (.return_, 1) := by decide +kernel
theorem dX3_copyFrom_0 : decode cX3_copyFrom 0 = .ok (.aload_n 0, 1) := by decide +kernel
theorem dX3_copyFrom_1 : decode cX3_copyFrom 1 = .ok (.aload_n 1, 1) := by decide +kernel
theorem dX3_copyFrom_2 : decode cX3_copyFrom 2 = .ok (.getfield 28, 3) := by decide +kernel
theorem dX3_copyFrom_5 : decode cX3_copyFrom 5 = .ok (.putfield 28, 3) := by decide +kernel
theorem dX3_copyFrom_8 : decode cX3_copyFrom 8 = .ok (.aload_n 0, 1) := by decide +kernel
theorem dX3_copyFrom_9 : decode cX3_copyFrom 9 = .ok (.aload_n 1, 1) := by decide +kernel
theorem dX3_copyFrom_10 : decode cX3_copyFrom 10 = .ok (.getfield 32, 3) := by decide +kernel
theorem dX3_copyFrom_13 : decode cX3_copyFrom 13 = .ok (.putfield 32, 3) := by decide +kernel
theorem dX3_copyFrom_16 : decode cX3_copyFrom 16 = .ok (.aload_n 0, 1) := by decide +kernel
theorem dX3_copyFrom_17 : decode cX3_copyFrom 17 = .ok (.aload_n 1, 1) := by decide +kernel
theorem dX3_copyFrom_18 : decode cX3_copyFrom 18 = .ok (.getfield 35, 3) := by decide +kernel
theorem dX3_copyFrom_21 : decode cX3_copyFrom 21 = .ok (.putfield 35, 3) := by decide +kernel
theorem dX3_copyFrom_24 : decode cX3_copyFrom 24 = .ok (.aload_n 0, 1) := by decide +kernel
theorem dX3_copyFrom_25 : decode cX3_copyFrom 25 = .ok (.aload_n 1, 1) := by decide +kernel
theorem dX3_copyFrom_26 : decode cX3_copyFrom 26 = .ok (.getfield 38, 3) := by decide +kernel
theorem dX3_copyFrom_29 : decode cX3_copyFrom 29 = .ok (.putfield 38, 3) := by decide +kernel
theorem dX3_copyFrom_32 : decode cX3_copyFrom 32 = .ok (.aload_n 0, 1) := by decide +kernel
theorem dX3_copyFrom_33 : decode cX3_copyFrom 33 = .ok (.aload_n 1, 1) := by decide +kernel
theorem dX3_copyFrom_34 : decode cX3_copyFrom 34 = .ok (.getfield 42, 3) := by decide +kernel
theorem dX3_copyFrom_37 : decode cX3_copyFrom 37 = .ok (.putfield 42, 3) := by decide +kernel
theorem dX3_copyFrom_40 : decode cX3_copyFrom 40 = .ok (.aload_n 0, 1) := by decide +kernel
theorem dX3_copyFrom_41 : decode cX3_copyFrom 41 = .ok (.aload_n 1, 1) := by decide +kernel
theorem dX3_copyFrom_42 : decode cX3_copyFrom 42 = .ok (.getfield 45, 3) := by decide +kernel
theorem dX3_copyFrom_45 : decode cX3_copyFrom 45 = .ok (.putfield 45, 3) := by decide +kernel
theorem dX3_copyFrom_48 : decode cX3_copyFrom 48 = .ok (.aload_n 1, 1) := by decide +kernel
theorem dX3_copyFrom_49 : decode cX3_copyFrom 49 = .ok (.getfield 9, 3) := by decide +kernel
theorem dX3_copyFrom_52 : decode cX3_copyFrom 52 = .ok (.iconst 0, 1) := by decide +kernel
theorem dX3_copyFrom_53 : decode cX3_copyFrom 53 = .ok (.aload_n 0, 1) := by decide +kernel
theorem dX3_copyFrom_54 : decode cX3_copyFrom 54 = .ok (.getfield 9, 3) := by decide +kernel
theorem dX3_copyFrom_57 : decode cX3_copyFrom 57 = .ok (.iconst 0, 1) := by decide +kernel
theorem dX3_copyFrom_58 : decode cX3_copyFrom 58 = .ok (.iconst 4, 1) := by decide +kernel
theorem dX3_copyFrom_59 : decode cX3_copyFrom 59 = .ok (.invokestatic 48, 3) := by decide +kernel
theorem dX3_copyFrom_62 : decode cX3_copyFrom 62 = .ok (.aload_n 1, 1) := by decide +kernel
theorem dX3_copyFrom_63 : decode cX3_copyFrom 63 = .ok (.getfield 15, 3) := by decide +kernel
theorem dX3_copyFrom_66 : decode cX3_copyFrom 66 = .ok (.iconst 0, 1) := by decide +kernel
theorem dX3_copyFrom_67 : decode cX3_copyFrom 67 = .ok (.aload_n 0, 1) := by decide +kernel
theorem dX3_copyFrom_68 : decode cX3_copyFrom 68 = .ok (.getfield 15, 3) := by decide +kernel
theorem dX3_copyFrom_71 : decode cX3_copyFrom 71 = .ok (.iconst 0, 1) := by decide +kernel
theorem dX3_copyFrom_72 : decode cX3_copyFrom 72 = .ok (.iconst 4, 1) := by decide +kernel
theorem dX3_copyFrom_73 : decode cX3_copyFrom 73 = .ok (.invokestatic 48, 3) := by decide +kernel
theorem dX3_copyFrom_76 : decode cX3_copyFrom 76 = .ok (.aload_n 1, 1) := by decide +kernel
theorem dX3_copyFrom_77 : decode cX3_copyFrom 77 = .ok (.getfield 19, 3) := by decide +kernel
theorem dX3_copyFrom_80 : decode cX3_copyFrom 80 = .ok (.iconst 0, 1) := by decide +kernel
theorem dX3_copyFrom_81 : decode cX3_copyFrom 81 = .ok (.aload_n 0, 1) := by decide +kernel
theorem dX3_copyFrom_82 : decode cX3_copyFrom 82 = .ok (.getfield 19, 3) := by decide +kernel
theorem dX3_copyFrom_85 : decode cX3_copyFrom 85 = .ok (.iconst 0, 1) := by decide +kernel
theorem dX3_copyFrom_86 : decode cX3_copyFrom 86 = .ok (.iconst 4, 1) := by decide +kernel
theorem dX3_copyFrom_87 : decode cX3_copyFrom 87 = .ok (.invokestatic 48, 3) := by decide +kernel
theorem dX3_copyFrom_90 : decode cX3_copyFrom 90 = .ok (.aload_n 1, 1) := by decide +kernel
theorem dX3_copyFrom_91 : decode cX3_copyFrom 91 = .ok (.getfield 22, 3) := by decide +kernel
theorem dX3_copyFrom_94 : decode cX3_copyFrom 94 = .ok (.iconst 0, 1) := by decide +kernel
theorem dX3_copyFrom_95 : decode cX3_copyFrom 95 = .ok (.aload_n 0, 1) := by decide +kernel
theorem dX3_copyFrom_96 : decode cX3_copyFrom 96 = .ok (.getfield 22, 3) := by decide +kernel
theorem dX3_copyFrom_99 : decode cX3_copyFrom 99 = .ok (.iconst 0, 1) := by decide +kernel
theorem dX3_copyFrom_100 : decode cX3_copyFrom 100 = .ok (.iconst 4, 1) := by decide +kernel
theorem dX3_copyFrom_101 : decode cX3_copyFrom 101 = .ok (.invokestatic 48, 3) := by decide +kernel
theorem dX3_copyFrom_104 : decode cX3_copyFrom 104 = .ok (.aload_n 1, 1) := by decide +kernel
theorem dX3_copyFrom_105 : decode cX3_copyFrom 105 = .ok (.getfield 25, 3) := by decide +kernel
theorem dX3_copyFrom_108 : decode cX3_copyFrom 108 = .ok (.iconst 0, 1) := by decide +kernel
theorem dX3_copyFrom_109 : decode cX3_copyFrom 109 = .ok (.aload_n 0, 1) := by decide +kernel
theorem dX3_copyFrom_110 : decode cX3_copyFrom 110 = .ok (.getfield 25, 3) := by decide +kernel
theorem dX3_copyFrom_113 : decode cX3_copyFrom 113 = .ok (.iconst 0, 1) := by decide +kernel
theorem dX3_copyFrom_114 : decode cX3_copyFrom 114 = .ok (.iconst 4, 1) := by decide +kernel
theorem dX3_copyFrom_115 : decode cX3_copyFrom 115 = .ok (.invokestatic 48, 3) := by decide +kernel
theorem dX3_copyFrom_118 : decode cX3_copyFrom 118 = .ok (.return_, 1) := by decide +kernel
theorem dX3_addLien_0 : decode cX3_addLien 0 = .ok (.aload_n 0, 1) := by decide +kernel
theorem dX3_addLien_1 : decode cX3_addLien 1 = .ok (.getfield 32, 3) := by decide +kernel
theorem dX3_addLien_4 : decode cX3_addLien 4 = .ok (.iconst 4, 1) := by decide +kernel
theorem dX3_addLien_5 : decode cX3_addLien 5 = .ok (.if_icmp .lt 5, 3) := by decide +kernel
theorem dX3_addLien_8 : decode cX3_addLien 8 = .ok (.iconst (-1), 1) := by decide +kernel
theorem dX3_addLien_9 : decode cX3_addLien 9 = .ok (.ireturn, 1) := by decide +kernel
theorem dX3_addLien_10 : decode cX3_addLien 10 = .ok (.aload_n 0, 1) := by decide +kernel
theorem dX3_addLien_11 : decode cX3_addLien 11 = .ok (.getfield 9, 3) := by decide +kernel
theorem dX3_addLien_14 : decode cX3_addLien 14 = .ok (.aload_n 0, 1) := by decide +kernel
theorem dX3_addLien_15 : decode cX3_addLien 15 = .ok (.getfield 32, 3) := by decide +kernel
theorem dX3_addLien_18 : decode cX3_addLien 18 = .ok (.iload_n 1, 1) := by decide +kernel
theorem dX3_addLien_19 : decode cX3_addLien 19 = .ok (.iastore, 1) := by decide +kernel
theorem dX3_addLien_20 : decode cX3_addLien 20 = .ok (.aload_n 0, 1) := by decide +kernel
theorem dX3_addLien_21 : decode cX3_addLien 21 = .ok (.getfield 15, 3) := by decide +kernel
theorem dX3_addLien_24 : decode cX3_addLien 24 = .ok (.aload_n 0, 1) := by decide +kernel
theorem dX3_addLien_25 : decode cX3_addLien 25 = .ok (.getfield 32, 3) := by decide +kernel
theorem dX3_addLien_28 : decode cX3_addLien 28 = .ok (.lload_n 2, 1) := by decide +kernel
theorem dX3_addLien_29 : decode cX3_addLien 29 = .ok (.lastore, 1) := by decide +kernel
theorem dX3_addLien_30 : decode cX3_addLien 30 = .ok (.aload_n 0, 1) := by decide +kernel
theorem dX3_addLien_31 : decode cX3_addLien 31 = .ok (.dup, 1) := by decide +kernel
theorem dX3_addLien_32 : decode cX3_addLien 32 = .ok (.getfield 32, 3) := by decide +kernel
theorem dX3_addLien_35 : decode cX3_addLien 35 = .ok (.iconst 1, 1) := by decide +kernel
theorem dX3_addLien_36 : decode cX3_addLien 36 = .ok (.iadd, 1) := by decide +kernel
theorem dX3_addLien_37 : decode cX3_addLien 37 = .ok (.putfield 32, 3) := by decide +kernel
theorem dX3_addLien_40 : decode cX3_addLien 40 = .ok (.aload_n 0, 1) := by decide +kernel
theorem dX3_addLien_41 : decode cX3_addLien 41 = .ok (.getfield 32, 3) := by decide +kernel
theorem dX3_addLien_44 : decode cX3_addLien 44 = .ok (.iconst 1, 1) := by decide +kernel
theorem dX3_addLien_45 : decode cX3_addLien 45 = .ok (.isub, 1) := by decide +kernel
theorem dX3_addLien_46 : decode cX3_addLien 46 = .ok (.ireturn, 1) := by decide +kernel
theorem dX3_addHeir_0 : decode cX3_addHeir 0 = .ok (.aload_n 0, 1) := by decide +kernel
theorem dX3_addHeir_1 : decode cX3_addHeir 1 = .ok (.getfield 35, 3) := by decide +kernel
theorem dX3_addHeir_4 : decode cX3_addHeir 4 = .ok (.iconst 4, 1) := by decide +kernel
theorem dX3_addHeir_5 : decode cX3_addHeir 5 = .ok (.if_icmp .lt 5, 3) := by decide +kernel
theorem dX3_addHeir_8 : decode cX3_addHeir 8 = .ok (.iconst (-1), 1) := by decide +kernel
theorem dX3_addHeir_9 : decode cX3_addHeir 9 = .ok (.ireturn, 1) := by decide +kernel
theorem dX3_addHeir_10 : decode cX3_addHeir 10 = .ok (.aload_n 0, 1) := by decide +kernel
theorem dX3_addHeir_11 : decode cX3_addHeir 11 = .ok (.getfield 22, 3) := by decide +kernel
theorem dX3_addHeir_14 : decode cX3_addHeir 14 = .ok (.aload_n 0, 1) := by decide +kernel
theorem dX3_addHeir_15 : decode cX3_addHeir 15 = .ok (.getfield 35, 3) := by decide +kernel
theorem dX3_addHeir_18 : decode cX3_addHeir 18 = .ok (.iload_n 1, 1) := by decide +kernel
theorem dX3_addHeir_19 : decode cX3_addHeir 19 = .ok (.iastore, 1) := by decide +kernel
theorem dX3_addHeir_20 : decode cX3_addHeir 20 = .ok (.aload_n 0, 1) := by decide +kernel
theorem dX3_addHeir_21 : decode cX3_addHeir 21 = .ok (.dup, 1) := by decide +kernel
theorem dX3_addHeir_22 : decode cX3_addHeir 22 = .ok (.getfield 35, 3) := by decide +kernel
theorem dX3_addHeir_25 : decode cX3_addHeir 25 = .ok (.iconst 1, 1) := by decide +kernel
theorem dX3_addHeir_26 : decode cX3_addHeir 26 = .ok (.iadd, 1) := by decide +kernel
theorem dX3_addHeir_27 : decode cX3_addHeir 27 = .ok (.putfield 35, 3) := by decide +kernel
theorem dX3_addHeir_30 : decode cX3_addHeir 30 = .ok (.aload_n 0, 1) := by decide +kernel
theorem dX3_addHeir_31 : decode cX3_addHeir 31 = .ok (.getfield 35, 3) := by decide +kernel
theorem dX3_addHeir_34 : decode cX3_addHeir 34 = .ok (.iconst 1, 1) := by decide +kernel
theorem dX3_addHeir_35 : decode cX3_addHeir 35 = .ok (.isub, 1) := by decide +kernel
theorem dX3_addHeir_36 : decode cX3_addHeir 36 = .ok (.ireturn, 1) := by decide +kernel
set_option maxRecDepth 20000 in
theorem ggX3_coinsOf_X3_lienCoins : GoodIn wsX3_coinsOf wsX3_lienCoins := goodIn_r _ [13, 1, 2, 18, 19, 20, 21, 22, 23, 24, 25, 26, 27, 28] (by decide +kernel) (by decide +kernel)
set_option maxRecDepth 20000 in
theorem gX3_coinsOf_X3_lienCoins : GoodIn wsX3_coinsOf (wsV RX3 56 RX3 yX3_lienCoins wsX3_lienCoins) := goodIn_app (goodIn_of _ (by decide +kernel)) ggX3_coinsOf_X3_lienCoins
set_option maxRecDepth 20000 in
theorem ggX3_coinsOf_X3_heirCoins : GoodIn wsX3_coinsOf wsX3_heirCoins := goodIn_r _ [17, 4, 5, 18, 19, 20, 21, 22, 23, 24, 25, 26, 27, 28] (by decide +kernel) (by decide +kernel)
set_option maxRecDepth 20000 in
theorem gX3_coinsOf_X3_heirCoins : GoodIn wsX3_coinsOf (wsV RX3 60 RX3 yX3_heirCoins wsX3_heirCoins) := goodIn_app (goodIn_of _ (by decide +kernel)) ggX3_coinsOf_X3_heirCoins
theorem dX3_coinsOf_0 : decode cX3_coinsOf 0 = .ok (.iload_n 1, 1) := by decide +kernel
theorem dX3_coinsOf_1 : decode cX3_coinsOf 1 = .ok (.bipush 10, 2) := by decide +kernel
theorem dX3_coinsOf_3 : decode cX3_coinsOf 3 = .ok (.if_icmp .lt 36, 3) := by decide +kernel
theorem dX3_coinsOf_6 : decode cX3_coinsOf 6 = .ok (.iload_n 1, 1) := by decide +kernel
theorem dX3_coinsOf_7 : decode cX3_coinsOf 7 = .ok (.bipush 14, 2) := by decide +kernel
theorem dX3_coinsOf_9 : decode cX3_coinsOf 9 = .ok (.if_icmp .ge 30, 3) := by decide +kernel
theorem dX3_coinsOf_12 : decode cX3_coinsOf 12 = .ok (.iload_n 1, 1) := by decide +kernel
theorem dX3_coinsOf_13 : decode cX3_coinsOf 13 = .ok (.bipush 10, 2) := by decide +kernel
theorem dX3_coinsOf_15 : decode cX3_coinsOf 15 = .ok (.isub, 1) := by decide +kernel
theorem dX3_coinsOf_16 : decode cX3_coinsOf 16 = .ok (.aload_n 0, 1) := by decide +kernel
theorem dX3_coinsOf_17 : decode cX3_coinsOf 17 = .ok (.getfield 32, 3) := by decide +kernel
theorem dX3_coinsOf_20 : decode cX3_coinsOf 20 = .ok (.if_icmp .ge 15, 3) := by decide +kernel
theorem dX3_coinsOf_23 : decode cX3_coinsOf 23 = .ok (.aload_n 0, 1) := by decide +kernel
theorem dX3_coinsOf_24 : decode cX3_coinsOf 24 = .ok (.getfield 19, 3) := by decide +kernel
theorem dX3_coinsOf_27 : decode cX3_coinsOf 27 = .ok (.iload_n 1, 1) := by decide +kernel
theorem dX3_coinsOf_28 : decode cX3_coinsOf 28 = .ok (.bipush 10, 2) := by decide +kernel
theorem dX3_coinsOf_30 : decode cX3_coinsOf 30 = .ok (.isub, 1) := by decide +kernel
theorem dX3_coinsOf_31 : decode cX3_coinsOf 31 = .ok (.laload, 1) := by decide +kernel
theorem dX3_coinsOf_32 : decode cX3_coinsOf 32 = .ok (.goto 6, 3) := by decide +kernel
theorem dX3_coinsOf_35 : decode cX3_coinsOf 35 = .ok (.ldc2_w 54, 3) := by decide +kernel
theorem dX3_coinsOf_38 : decode cX3_coinsOf 38 = .ok (.lreturn, 1) := by decide +kernel
theorem dX3_coinsOf_39 : decode cX3_coinsOf 39 = .ok (.iload_n 1, 1) := by decide +kernel
theorem dX3_coinsOf_40 : decode cX3_coinsOf 40 = .ok (.bipush 20, 2) := by decide +kernel
theorem dX3_coinsOf_42 : decode cX3_coinsOf 42 = .ok (.if_icmp .lt 36, 3) := by decide +kernel
theorem dX3_coinsOf_45 : decode cX3_coinsOf 45 = .ok (.iload_n 1, 1) := by decide +kernel
theorem dX3_coinsOf_46 : decode cX3_coinsOf 46 = .ok (.bipush 24, 2) := by decide +kernel
theorem dX3_coinsOf_48 : decode cX3_coinsOf 48 = .ok (.if_icmp .ge 30, 3) := by decide +kernel
theorem dX3_coinsOf_51 : decode cX3_coinsOf 51 = .ok (.iload_n 1, 1) := by decide +kernel
theorem dX3_coinsOf_52 : decode cX3_coinsOf 52 = .ok (.bipush 20, 2) := by decide +kernel
theorem dX3_coinsOf_54 : decode cX3_coinsOf 54 = .ok (.isub, 1) := by decide +kernel
theorem dX3_coinsOf_55 : decode cX3_coinsOf 55 = .ok (.aload_n 0, 1) := by decide +kernel
theorem dX3_coinsOf_56 : decode cX3_coinsOf 56 = .ok (.getfield 35, 3) := by decide +kernel
theorem dX3_coinsOf_59 : decode cX3_coinsOf 59 = .ok (.if_icmp .ge 15, 3) := by decide +kernel
theorem dX3_coinsOf_62 : decode cX3_coinsOf 62 = .ok (.aload_n 0, 1) := by decide +kernel
theorem dX3_coinsOf_63 : decode cX3_coinsOf 63 = .ok (.getfield 25, 3) := by decide +kernel
theorem dX3_coinsOf_66 : decode cX3_coinsOf 66 = .ok (.iload_n 1, 1) := by decide +kernel
theorem dX3_coinsOf_67 : decode cX3_coinsOf 67 = .ok (.bipush 20, 2) := by decide +kernel
theorem dX3_coinsOf_69 : decode cX3_coinsOf 69 = .ok (.isub, 1) := by decide +kernel
theorem dX3_coinsOf_70 : decode cX3_coinsOf 70 = .ok (.laload, 1) := by decide +kernel
theorem dX3_coinsOf_71 : decode cX3_coinsOf 71 = .ok (.goto 6, 3) := by decide +kernel
theorem dX3_coinsOf_74 : decode cX3_coinsOf 74 = .ok (.ldc2_w 54, 3) := by decide +kernel
theorem dX3_coinsOf_77 : decode cX3_coinsOf 77 = .ok (.lreturn, 1) := by decide +kernel
theorem dX3_coinsOf_78 : decode cX3_coinsOf 78 = .ok (.iload_n 1, 1) := by decide +kernel
theorem dX3_coinsOf_79 : decode cX3_coinsOf 79 = .ok (.tableswitch 58 1 5 #[33, 38, 43, 48, 53], 33) := by decide +kernel
theorem dX3_coinsOf_112 : decode cX3_coinsOf 112 = .ok (.aload_n 0, 1) := by decide +kernel
theorem dX3_coinsOf_113 : decode cX3_coinsOf 113 = .ok (.getfield 38, 3) := by decide +kernel
theorem dX3_coinsOf_116 : decode cX3_coinsOf 116 = .ok (.lreturn, 1) := by decide +kernel
theorem dX3_coinsOf_117 : decode cX3_coinsOf 117 = .ok (.aload_n 0, 1) := by decide +kernel
theorem dX3_coinsOf_118 : decode cX3_coinsOf 118 = .ok (.getfield 42, 3) := by decide +kernel
theorem dX3_coinsOf_121 : decode cX3_coinsOf 121 = .ok (.lreturn, 1) := by decide +kernel
theorem dX3_coinsOf_122 : decode cX3_coinsOf 122 = .ok (.aload_n 0, 1) := by decide +kernel
theorem dX3_coinsOf_123 : decode cX3_coinsOf 123 = .ok (.invokevirtual 56, 3) := by decide +kernel
theorem dX3_coinsOf_126 : decode cX3_coinsOf 126 = .ok (.lreturn, 1) := by decide +kernel
theorem dX3_coinsOf_127 : decode cX3_coinsOf 127 = .ok (.aload_n 0, 1) := by decide +kernel
theorem dX3_coinsOf_128 : decode cX3_coinsOf 128 = .ok (.invokevirtual 60, 3) := by decide +kernel
theorem dX3_coinsOf_131 : decode cX3_coinsOf 131 = .ok (.lreturn, 1) := by decide +kernel
theorem dX3_coinsOf_132 : decode cX3_coinsOf 132 = .ok (.aload_n 0, 1) := by decide +kernel
theorem dX3_coinsOf_133 : decode cX3_coinsOf 133 = .ok (.getfield 45, 3) := by decide +kernel
theorem dX3_coinsOf_136 : decode cX3_coinsOf 136 = .ok (.lreturn, 1) := by decide +kernel
theorem dX3_coinsOf_137 : decode cX3_coinsOf 137 = .ok (.ldc2_w 54, 3) := by decide +kernel
theorem dX3_coinsOf_140 : decode cX3_coinsOf 140 = .ok (.lreturn, 1) := by decide +kernel
theorem dX3_lienCoins_0 : decode cX3_lienCoins 0 = .ok (.lconst 0, 1) := by decide +kernel
theorem dX3_lienCoins_1 : decode cX3_lienCoins 1 = .ok (.lstore_n 1, 1) := by decide +kernel
theorem dX3_lienCoins_2 : decode cX3_lienCoins 2 = .ok (.iconst 0, 1) := by decide +kernel
theorem dX3_lienCoins_3 : decode cX3_lienCoins 3 = .ok (.istore_n 3, 1) := by decide +kernel
theorem dX3_lienCoins_4 : decode cX3_lienCoins 4 = .ok (.iload_n 3, 1) := by decide +kernel
theorem dX3_lienCoins_5 : decode cX3_lienCoins 5 = .ok (.aload_n 0, 1) := by decide +kernel
theorem dX3_lienCoins_6 : decode cX3_lienCoins 6 = .ok (.getfield 32, 3) := by decide +kernel
theorem dX3_lienCoins_9 : decode cX3_lienCoins 9 = .ok (.if_icmp .ge 23, 3) := by decide +kernel
theorem dX3_lienCoins_12 : decode cX3_lienCoins 12 = .ok (.iload_n 3, 1) := by decide +kernel
theorem dX3_lienCoins_13 : decode cX3_lienCoins 13 = .ok (.iconst 4, 1) := by decide +kernel
theorem dX3_lienCoins_14 : decode cX3_lienCoins 14 = .ok (.if_icmp .ge 18, 3) := by decide +kernel
theorem dX3_lienCoins_17 : decode cX3_lienCoins 17 = .ok (.lload_n 1, 1) := by decide +kernel
theorem dX3_lienCoins_18 : decode cX3_lienCoins 18 = .ok (.aload_n 0, 1) := by decide +kernel
theorem dX3_lienCoins_19 : decode cX3_lienCoins 19 = .ok (.getfield 19, 3) := by decide +kernel
theorem dX3_lienCoins_22 : decode cX3_lienCoins 22 = .ok (.iload_n 3, 1) := by decide +kernel
theorem dX3_lienCoins_23 : decode cX3_lienCoins 23 = .ok (.laload, 1) := by decide +kernel
theorem dX3_lienCoins_24 : decode cX3_lienCoins 24 = .ok (.ladd, 1) := by decide +kernel
theorem dX3_lienCoins_25 : decode cX3_lienCoins 25 = .ok (.lstore_n 1, 1) := by decide +kernel
theorem dX3_lienCoins_26 : decode cX3_lienCoins 26 = .ok (.iinc 3 1, 3) := by decide +kernel
theorem dX3_lienCoins_29 : decode cX3_lienCoins 29 = .ok (.goto (-25), 3) := by decide +kernel
theorem dX3_lienCoins_32 : decode cX3_lienCoins 32 = .ok (.lload_n 1, 1) := by decide +kernel
theorem dX3_lienCoins_33 : decode cX3_lienCoins 33 = .ok (.lreturn, 1) := by decide +kernel
theorem dX3_heirCoins_0 : decode cX3_heirCoins 0 = .ok (.lconst 0, 1) := by decide +kernel
theorem dX3_heirCoins_1 : decode cX3_heirCoins 1 = .ok (.lstore_n 1, 1) := by decide +kernel
theorem dX3_heirCoins_2 : decode cX3_heirCoins 2 = .ok (.iconst 0, 1) := by decide +kernel
theorem dX3_heirCoins_3 : decode cX3_heirCoins 3 = .ok (.istore_n 3, 1) := by decide +kernel
theorem dX3_heirCoins_4 : decode cX3_heirCoins 4 = .ok (.iload_n 3, 1) := by decide +kernel
theorem dX3_heirCoins_5 : decode cX3_heirCoins 5 = .ok (.aload_n 0, 1) := by decide +kernel
theorem dX3_heirCoins_6 : decode cX3_heirCoins 6 = .ok (.getfield 35, 3) := by decide +kernel
theorem dX3_heirCoins_9 : decode cX3_heirCoins 9 = .ok (.if_icmp .ge 23, 3) := by decide +kernel
theorem dX3_heirCoins_12 : decode cX3_heirCoins 12 = .ok (.iload_n 3, 1) := by decide +kernel
theorem dX3_heirCoins_13 : decode cX3_heirCoins 13 = .ok (.iconst 4, 1) := by decide +kernel
theorem dX3_heirCoins_14 : decode cX3_heirCoins 14 = .ok (.if_icmp .ge 18, 3) := by decide +kernel
theorem dX3_heirCoins_17 : decode cX3_heirCoins 17 = .ok (.lload_n 1, 1) := by decide +kernel
theorem dX3_heirCoins_18 : decode cX3_heirCoins 18 = .ok (.aload_n 0, 1) := by decide +kernel
theorem dX3_heirCoins_19 : decode cX3_heirCoins 19 = .ok (.getfield 25, 3) := by decide +kernel
theorem dX3_heirCoins_22 : decode cX3_heirCoins 22 = .ok (.iload_n 3, 1) := by decide +kernel
theorem dX3_heirCoins_23 : decode cX3_heirCoins 23 = .ok (.laload, 1) := by decide +kernel
theorem dX3_heirCoins_24 : decode cX3_heirCoins 24 = .ok (.ladd, 1) := by decide +kernel
theorem dX3_heirCoins_25 : decode cX3_heirCoins 25 = .ok (.lstore_n 1, 1) := by decide +kernel
theorem dX3_heirCoins_26 : decode cX3_heirCoins 26 = .ok (.iinc 3 1, 3) := by decide +kernel
theorem dX3_heirCoins_29 : decode cX3_heirCoins 29 = .ok (.goto (-25), 3) := by decide +kernel
theorem dX3_heirCoins_32 : decode cX3_heirCoins 32 = .ok (.lload_n 1, 1) := by decide +kernel
theorem dX3_heirCoins_33 : decode cX3_heirCoins 33 = .ok (.lreturn, 1) := by decide +kernel
set_option maxRecDepth 20000 in
theorem ggX3_payUpTo_X3_pay : GoodIn wsX3_payUpTo wsX3_pay := goodIn_r _ [6, 1, 7, 8, 9, 10, 11, 12, 5, 13, 14, 15, 16, 17, 18, 19, 20, 21, 22, 23, 24, 25, 26, 27, 28, 29, 30, 31, 32, 33, 34, 35, 36, 37, 38, 39, 40, 41, 42, 43, 44] (by decide +kernel) (by decide +kernel)
set_option maxRecDepth 20000 in
theorem gX3_payUpTo_X3_pay : GoodIn wsX3_payUpTo (wsV RX3 63 RX3 yX3_pay wsX3_pay) := goodIn_app (goodIn_of _ (by decide +kernel)) ggX3_payUpTo_X3_pay
theorem dX3_payUpTo_0 : decode cX3_payUpTo 0 = .ok (.lload_n 1, 1) := by decide +kernel
theorem dX3_payUpTo_1 : decode cX3_payUpTo 1 = .ok (.aload_n 0, 1) := by decide +kernel
theorem dX3_payUpTo_2 : decode cX3_payUpTo 2 = .ok (.getfield 38, 3) := by decide +kernel
theorem dX3_payUpTo_5 : decode cX3_payUpTo 5 = .ok (.lcmp, 1) := by decide +kernel
theorem dX3_payUpTo_6 : decode cX3_payUpTo 6 = .ok (.ifCond .le 13, 3) := by decide +kernel
theorem dX3_payUpTo_9 : decode cX3_payUpTo 9 = .ok (.aload_n 0, 1) := by decide +kernel
theorem dX3_payUpTo_10 : decode cX3_payUpTo 10 = .ok (.lload_n 1, 1) := by decide +kernel
theorem dX3_payUpTo_11 : decode cX3_payUpTo 11 = .ok (.aload_n 0, 1) := by decide +kernel
theorem dX3_payUpTo_12 : decode cX3_payUpTo 12 = .ok (.getfield 38, 3) := by decide +kernel
theorem dX3_payUpTo_15 : decode cX3_payUpTo 15 = .ok (.lsub, 1) := by decide +kernel
theorem dX3_payUpTo_16 : decode cX3_payUpTo 16 = .ok (.invokevirtual 63, 3) := by decide +kernel
theorem dX3_payUpTo_19 : decode cX3_payUpTo 19 = .ok (.return_, 1) := by decide +kernel
set_option maxRecDepth 20000 in
theorem ggX3_pay_X3_payLiens : GoodIn wsX3_pay wsX3_payLiens := goodIn_r _ [9, 10, 11, 12, 13, 14, 15, 16, 17, 30, 31, 32, 33, 34, 35, 36, 37, 38, 39, 40] (by decide +kernel) (by decide +kernel)
set_option maxRecDepth 20000 in
theorem gX3_pay_X3_payLiens : GoodIn wsX3_pay (wsV RX3 69 RX3 yX3_payLiens wsX3_payLiens) := goodIn_app (goodIn_of _ (by decide +kernel)) ggX3_pay_X3_payLiens
set_option maxRecDepth 20000 in
theorem ggX3_pay_X3_payHeirs : GoodIn wsX3_pay wsX3_payHeirs := goodIn_r _ [21, 22, 23, 24, 25, 26, 27, 28, 8, 29, 30, 31, 32, 33, 34, 35, 36, 37, 38, 39, 40] (by decide +kernel) (by decide +kernel)
set_option maxRecDepth 20000 in
theorem gX3_pay_X3_payHeirs : GoodIn wsX3_pay (wsV RX3 73 RX3 yX3_payHeirs wsX3_payHeirs) := goodIn_app (goodIn_of _ (by decide +kernel)) ggX3_pay_X3_payHeirs
theorem dX3_pay_0 : decode cX3_pay 0 = .ok (.aload_n 0, 1) := by decide +kernel
theorem dX3_pay_1 : decode cX3_pay 1 = .ok (.dup, 1) := by decide +kernel
theorem dX3_pay_2 : decode cX3_pay 2 = .ok (.getfield 38, 3) := by decide +kernel
theorem dX3_pay_5 : decode cX3_pay 5 = .ok (.lload_n 1, 1) := by decide +kernel
theorem dX3_pay_6 : decode cX3_pay 6 = .ok (.ladd, 1) := by decide +kernel
theorem dX3_pay_7 : decode cX3_pay 7 = .ok (.putfield 38, 3) := by decide +kernel
theorem dX3_pay_10 : decode cX3_pay 10 = .ok (.lload_n 1, 1) := by decide +kernel
theorem dX3_pay_11 : decode cX3_pay 11 = .ok (.aload_n 0, 1) := by decide +kernel
theorem dX3_pay_12 : decode cX3_pay 12 = .ok (.getfield 28, 3) := by decide +kernel
theorem dX3_pay_15 : decode cX3_pay 15 = .ok (.i2l, 1) := by decide +kernel
theorem dX3_pay_16 : decode cX3_pay 16 = .ok (.lmul, 1) := by decide +kernel
theorem dX3_pay_17 : decode cX3_pay 17 = .ok (.ldc2_w 67, 3) := by decide +kernel
theorem dX3_pay_20 : decode cX3_pay 20 = .ok (.ldiv, 1) := by decide +kernel
theorem dX3_pay_21 : decode cX3_pay 21 = .ok (.lstore_n 3, 1) := by decide +kernel
theorem dX3_pay_22 : decode cX3_pay 22 = .ok (.aload_n 0, 1) := by decide +kernel
theorem dX3_pay_23 : decode cX3_pay 23 = .ok (.dup, 1) := by decide +kernel
theorem dX3_pay_24 : decode cX3_pay 24 = .ok (.getfield 42, 3) := by decide +kernel
theorem dX3_pay_27 : decode cX3_pay 27 = .ok (.lload_n 3, 1) := by decide +kernel
theorem dX3_pay_28 : decode cX3_pay 28 = .ok (.ladd, 1) := by decide +kernel
theorem dX3_pay_29 : decode cX3_pay 29 = .ok (.putfield 42, 3) := by decide +kernel
theorem dX3_pay_32 : decode cX3_pay 32 = .ok (.aload_n 0, 1) := by decide +kernel
theorem dX3_pay_33 : decode cX3_pay 33 = .ok (.aload_n 0, 1) := by decide +kernel
theorem dX3_pay_34 : decode cX3_pay 34 = .ok (.lload_n 1, 1) := by decide +kernel
theorem dX3_pay_35 : decode cX3_pay 35 = .ok (.lload_n 3, 1) := by decide +kernel
theorem dX3_pay_36 : decode cX3_pay 36 = .ok (.lsub, 1) := by decide +kernel
theorem dX3_pay_37 : decode cX3_pay 37 = .ok (.invokevirtual 69, 3) := by decide +kernel
theorem dX3_pay_40 : decode cX3_pay 40 = .ok (.invokevirtual 73, 3) := by decide +kernel
theorem dX3_pay_43 : decode cX3_pay 43 = .ok (.return_, 1) := by decide +kernel
theorem dX3_payLiens_0 : decode cX3_payLiens 0 = .ok (.lload_n 1, 1) := by decide +kernel
theorem dX3_payLiens_1 : decode cX3_payLiens 1 = .ok (.lstore_n 3, 1) := by decide +kernel
theorem dX3_payLiens_2 : decode cX3_payLiens 2 = .ok (.iconst 0, 1) := by decide +kernel
theorem dX3_payLiens_3 : decode cX3_payLiens 3 = .ok (.istore 5, 2) := by decide +kernel
theorem dX3_payLiens_5 : decode cX3_payLiens 5 = .ok (.iload 5, 2) := by decide +kernel
theorem dX3_payLiens_7 : decode cX3_payLiens 7 = .ok (.bipush 9, 2) := by decide +kernel
theorem dX3_payLiens_9 : decode cX3_payLiens 9 = .ok (.if_icmp .gt 83, 3) := by decide +kernel
theorem dX3_payLiens_12 : decode cX3_payLiens 12 = .ok (.iconst 0, 1) := by decide +kernel
theorem dX3_payLiens_13 : decode cX3_payLiens 13 = .ok (.istore 6, 2) := by decide +kernel
theorem dX3_payLiens_15 : decode cX3_payLiens 15 = .ok (.iload 6, 2) := by decide +kernel
theorem dX3_payLiens_17 : decode cX3_payLiens 17 = .ok (.aload_n 0, 1) := by decide +kernel
theorem dX3_payLiens_18 : decode cX3_payLiens 18 = .ok (.getfield 32, 3) := by decide +kernel
theorem dX3_payLiens_21 : decode cX3_payLiens 21 = .ok (.if_icmp .ge 65, 3) := by decide +kernel
theorem dX3_payLiens_24 : decode cX3_payLiens 24 = .ok (.iload 6, 2) := by decide +kernel
theorem dX3_payLiens_26 : decode cX3_payLiens 26 = .ok (.iconst 4, 1) := by decide +kernel
theorem dX3_payLiens_27 : decode cX3_payLiens 27 = .ok (.if_icmp .ge 59, 3) := by decide +kernel
theorem dX3_payLiens_30 : decode cX3_payLiens 30 = .ok (.aload_n 0, 1) := by decide +kernel
theorem dX3_payLiens_31 : decode cX3_payLiens 31 = .ok (.getfield 9, 3) := by decide +kernel
theorem dX3_payLiens_34 : decode cX3_payLiens 34 = .ok (.iload 6, 2) := by decide +kernel
theorem dX3_payLiens_36 : decode cX3_payLiens 36 = .ok (.iaload, 1) := by decide +kernel
theorem dX3_payLiens_37 : decode cX3_payLiens 37 = .ok (.iload 5, 2) := by decide +kernel
theorem dX3_payLiens_39 : decode cX3_payLiens 39 = .ok (.if_icmp .ne 41, 3) := by decide +kernel
theorem dX3_payLiens_42 : decode cX3_payLiens 42 = .ok (.lload_n 3, 1) := by decide +kernel
theorem dX3_payLiens_43 : decode cX3_payLiens 43 = .ok (.aload_n 0, 1) := by decide +kernel
theorem dX3_payLiens_44 : decode cX3_payLiens 44 = .ok (.getfield 15, 3) := by decide +kernel
theorem dX3_payLiens_47 : decode cX3_payLiens 47 = .ok (.iload 6, 2) := by decide +kernel
theorem dX3_payLiens_49 : decode cX3_payLiens 49 = .ok (.laload, 1) := by decide +kernel
theorem dX3_payLiens_50 : decode cX3_payLiens 50 = .ok (.aload_n 0, 1) := by decide +kernel
theorem dX3_payLiens_51 : decode cX3_payLiens 51 = .ok (.getfield 19, 3) := by decide +kernel
theorem dX3_payLiens_54 : decode cX3_payLiens 54 = .ok (.iload 6, 2) := by decide +kernel
theorem dX3_payLiens_56 : decode cX3_payLiens 56 = .ok (.laload, 1) := by decide +kernel
theorem dX3_payLiens_57 : decode cX3_payLiens 57 = .ok (.lsub, 1) := by decide +kernel
theorem dX3_payLiens_58 : decode cX3_payLiens 58 = .ok (.invokestatic 76, 3) := by decide +kernel
theorem dX3_payLiens_61 : decode cX3_payLiens 61 = .ok (.lstore 7, 2) := by decide +kernel
theorem dX3_payLiens_63 : decode cX3_payLiens 63 = .ok (.aload_n 0, 1) := by decide +kernel
theorem dX3_payLiens_64 : decode cX3_payLiens 64 = .ok (.getfield 19, 3) := by decide +kernel
theorem dX3_payLiens_67 : decode cX3_payLiens 67 = .ok (.iload 6, 2) := by decide +kernel
theorem dX3_payLiens_69 : decode cX3_payLiens 69 = .ok (.dup2, 1) := by decide +kernel
theorem dX3_payLiens_70 : decode cX3_payLiens 70 = .ok (.laload, 1) := by decide +kernel
theorem dX3_payLiens_71 : decode cX3_payLiens 71 = .ok (.lload 7, 2) := by decide +kernel
theorem dX3_payLiens_73 : decode cX3_payLiens 73 = .ok (.ladd, 1) := by decide +kernel
theorem dX3_payLiens_74 : decode cX3_payLiens 74 = .ok (.lastore, 1) := by decide +kernel
theorem dX3_payLiens_75 : decode cX3_payLiens 75 = .ok (.lload_n 3, 1) := by decide +kernel
theorem dX3_payLiens_76 : decode cX3_payLiens 76 = .ok (.lload 7, 2) := by decide +kernel
theorem dX3_payLiens_78 : decode cX3_payLiens 78 = .ok (.lsub, 1) := by decide +kernel
theorem dX3_payLiens_79 : decode cX3_payLiens 79 = .ok (.lstore_n 3, 1) := by decide +kernel
theorem dX3_payLiens_80 : decode cX3_payLiens 80 = .ok (.iinc 6 1, 3) := by decide +kernel
theorem dX3_payLiens_83 : decode cX3_payLiens 83 = .ok (.goto (-68), 3) := by decide +kernel
theorem dX3_payLiens_86 : decode cX3_payLiens 86 = .ok (.iinc 5 1, 3) := by decide +kernel
theorem dX3_payLiens_89 : decode cX3_payLiens 89 = .ok (.goto (-84), 3) := by decide +kernel
theorem dX3_payLiens_92 : decode cX3_payLiens 92 = .ok (.lload_n 3, 1) := by decide +kernel
theorem dX3_payLiens_93 : decode cX3_payLiens 93 = .ok (.lreturn, 1) := by decide +kernel
set_option maxRecDepth 20000 in
theorem ggX3_payHeirs_X3_allParts : GoodIn wsX3_payHeirs wsX3_allParts := goodIn_r _ [9, 2, 3, 10, 11, 12, 13, 14, 15, 16, 17, 18, 19, 20] (by decide +kernel) (by decide +kernel)
set_option maxRecDepth 20000 in
theorem gX3_payHeirs_X3_allParts : GoodIn wsX3_payHeirs (wsV RX3 82 RX3 yX3_allParts wsX3_allParts) := goodIn_app (goodIn_of _ (by decide +kernel)) ggX3_payHeirs_X3_allParts
theorem dX3_payHeirs_0 : decode cX3_payHeirs 0 = .ok (.aload_n 0, 1) := by decide +kernel
theorem dX3_payHeirs_1 : decode cX3_payHeirs 1 = .ok (.invokevirtual 82, 3) := by decide +kernel
theorem dX3_payHeirs_4 : decode cX3_payHeirs 4 = .ok (.istore_n 3, 1) := by decide +kernel
theorem dX3_payHeirs_5 : decode cX3_payHeirs 5 = .ok (.iload_n 3, 1) := by decide +kernel
theorem dX3_payHeirs_6 : decode cX3_payHeirs 6 = .ok (.ifCond .ne 14, 3) := by decide +kernel
theorem dX3_payHeirs_9 : decode cX3_payHeirs 9 = .ok (.aload_n 0, 1) := by decide +kernel
theorem dX3_payHeirs_10 : decode cX3_payHeirs 10 = .ok (.dup, 1) := by decide +kernel
theorem dX3_payHeirs_11 : decode cX3_payHeirs 11 = .ok (.getfield 45, 3) := by decide +kernel
theorem dX3_payHeirs_14 : decode cX3_payHeirs 14 = .ok (.lload_n 1, 1) := by decide +kernel
theorem dX3_payHeirs_15 : decode cX3_payHeirs 15 = .ok (.ladd, 1) := by decide +kernel
theorem dX3_payHeirs_16 : decode cX3_payHeirs 16 = .ok (.putfield 45, 3) := by decide +kernel
theorem dX3_payHeirs_19 : decode cX3_payHeirs 19 = .ok (.return_, 1) := by decide +kernel
theorem dX3_payHeirs_20 : decode cX3_payHeirs 20 = .ok (.lload_n 1, 1) := by decide +kernel
theorem dX3_payHeirs_21 : decode cX3_payHeirs 21 = .ok (.lstore 4, 2) := by decide +kernel
theorem dX3_payHeirs_23 : decode cX3_payHeirs 23 = .ok (.iconst 0, 1) := by decide +kernel
theorem dX3_payHeirs_24 : decode cX3_payHeirs 24 = .ok (.istore 6, 2) := by decide +kernel
theorem dX3_payHeirs_26 : decode cX3_payHeirs 26 = .ok (.iload 6, 2) := by decide +kernel
theorem dX3_payHeirs_28 : decode cX3_payHeirs 28 = .ok (.aload_n 0, 1) := by decide +kernel
theorem dX3_payHeirs_29 : decode cX3_payHeirs 29 = .ok (.getfield 35, 3) := by decide +kernel
theorem dX3_payHeirs_32 : decode cX3_payHeirs 32 = .ok (.if_icmp .ge 49, 3) := by decide +kernel
theorem dX3_payHeirs_35 : decode cX3_payHeirs 35 = .ok (.iload 6, 2) := by decide +kernel
theorem dX3_payHeirs_37 : decode cX3_payHeirs 37 = .ok (.iconst 4, 1) := by decide +kernel
theorem dX3_payHeirs_38 : decode cX3_payHeirs 38 = .ok (.if_icmp .ge 43, 3) := by decide +kernel
theorem dX3_payHeirs_41 : decode cX3_payHeirs 41 = .ok (.lload_n 1, 1) := by decide +kernel
theorem dX3_payHeirs_42 : decode cX3_payHeirs 42 = .ok (.aload_n 0, 1) := by decide +kernel
theorem dX3_payHeirs_43 : decode cX3_payHeirs 43 = .ok (.getfield 22, 3) := by decide +kernel
theorem dX3_payHeirs_46 : decode cX3_payHeirs 46 = .ok (.iload 6, 2) := by decide +kernel
theorem dX3_payHeirs_48 : decode cX3_payHeirs 48 = .ok (.iaload, 1) := by decide +kernel
theorem dX3_payHeirs_49 : decode cX3_payHeirs 49 = .ok (.i2l, 1) := by decide +kernel
theorem dX3_payHeirs_50 : decode cX3_payHeirs 50 = .ok (.lmul, 1) := by decide +kernel
theorem dX3_payHeirs_51 : decode cX3_payHeirs 51 = .ok (.iload_n 3, 1) := by decide +kernel
theorem dX3_payHeirs_52 : decode cX3_payHeirs 52 = .ok (.i2l, 1) := by decide +kernel
theorem dX3_payHeirs_53 : decode cX3_payHeirs 53 = .ok (.ldiv, 1) := by decide +kernel
theorem dX3_payHeirs_54 : decode cX3_payHeirs 54 = .ok (.lstore 7, 2) := by decide +kernel
theorem dX3_payHeirs_56 : decode cX3_payHeirs 56 = .ok (.aload_n 0, 1) := by decide +kernel
theorem dX3_payHeirs_57 : decode cX3_payHeirs 57 = .ok (.getfield 25, 3) := by decide +kernel
theorem dX3_payHeirs_60 : decode cX3_payHeirs 60 = .ok (.iload 6, 2) := by decide +kernel
theorem dX3_payHeirs_62 : decode cX3_payHeirs 62 = .ok (.dup2, 1) := by decide +kernel
theorem dX3_payHeirs_63 : decode cX3_payHeirs 63 = .ok (.laload, 1) := by decide +kernel
theorem dX3_payHeirs_64 : decode cX3_payHeirs 64 = .ok (.lload 7, 2) := by decide +kernel
theorem dX3_payHeirs_66 : decode cX3_payHeirs 66 = .ok (.ladd, 1) := by decide +kernel
theorem dX3_payHeirs_67 : decode cX3_payHeirs 67 = .ok (.lastore, 1) := by decide +kernel
theorem dX3_payHeirs_68 : decode cX3_payHeirs 68 = .ok (.lload 4, 2) := by decide +kernel
theorem dX3_payHeirs_70 : decode cX3_payHeirs 70 = .ok (.lload 7, 2) := by decide +kernel
theorem dX3_payHeirs_72 : decode cX3_payHeirs 72 = .ok (.lsub, 1) := by decide +kernel
theorem dX3_payHeirs_73 : decode cX3_payHeirs 73 = .ok (.lstore 4, 2) := by decide +kernel
theorem dX3_payHeirs_75 : decode cX3_payHeirs 75 = .ok (.iinc 6 1, 3) := by decide +kernel
theorem dX3_payHeirs_78 : decode cX3_payHeirs 78 = .ok (.goto (-52), 3) := by decide +kernel
theorem dX3_payHeirs_81 : decode cX3_payHeirs 81 = .ok (.aload_n 0, 1) := by decide +kernel
theorem dX3_payHeirs_82 : decode cX3_payHeirs 82 = .ok (.getfield 25, 3) := by decide +kernel
theorem dX3_payHeirs_85 : decode cX3_payHeirs 85 = .ok (.iconst 0, 1) := by decide +kernel
theorem dX3_payHeirs_86 : decode cX3_payHeirs 86 = .ok (.dup2, 1) := by decide +kernel
theorem dX3_payHeirs_87 : decode cX3_payHeirs 87 = .ok (.laload, 1) := by decide +kernel
theorem dX3_payHeirs_88 : decode cX3_payHeirs 88 = .ok (.lload 4, 2) := by decide +kernel
theorem dX3_payHeirs_90 : decode cX3_payHeirs 90 = .ok (.ladd, 1) := by decide +kernel
theorem dX3_payHeirs_91 : decode cX3_payHeirs 91 = .ok (.lastore, 1) := by decide +kernel
theorem dX3_payHeirs_92 : decode cX3_payHeirs 92 = .ok (.return_, 1) := by decide +kernel
theorem dX3_allParts_0 : decode cX3_allParts 0 = .ok (.iconst 0, 1) := by decide +kernel
theorem dX3_allParts_1 : decode cX3_allParts 1 = .ok (.istore_n 1, 1) := by decide +kernel
theorem dX3_allParts_2 : decode cX3_allParts 2 = .ok (.iconst 0, 1) := by decide +kernel
theorem dX3_allParts_3 : decode cX3_allParts 3 = .ok (.istore_n 2, 1) := by decide +kernel
theorem dX3_allParts_4 : decode cX3_allParts 4 = .ok (.iload_n 2, 1) := by decide +kernel
theorem dX3_allParts_5 : decode cX3_allParts 5 = .ok (.aload_n 0, 1) := by decide +kernel
theorem dX3_allParts_6 : decode cX3_allParts 6 = .ok (.getfield 35, 3) := by decide +kernel
theorem dX3_allParts_9 : decode cX3_allParts 9 = .ok (.if_icmp .ge 23, 3) := by decide +kernel
theorem dX3_allParts_12 : decode cX3_allParts 12 = .ok (.iload_n 2, 1) := by decide +kernel
theorem dX3_allParts_13 : decode cX3_allParts 13 = .ok (.iconst 4, 1) := by decide +kernel
theorem dX3_allParts_14 : decode cX3_allParts 14 = .ok (.if_icmp .ge 18, 3) := by decide +kernel
theorem dX3_allParts_17 : decode cX3_allParts 17 = .ok (.iload_n 1, 1) := by decide +kernel
theorem dX3_allParts_18 : decode cX3_allParts 18 = .ok (.aload_n 0, 1) := by decide +kernel
theorem dX3_allParts_19 : decode cX3_allParts 19 = .ok (.getfield 22, 3) := by decide +kernel
theorem dX3_allParts_22 : decode cX3_allParts 22 = .ok (.iload_n 2, 1) := by decide +kernel
theorem dX3_allParts_23 : decode cX3_allParts 23 = .ok (.iaload, 1) := by decide +kernel
theorem dX3_allParts_24 : decode cX3_allParts 24 = .ok (.iadd, 1) := by decide +kernel
theorem dX3_allParts_25 : decode cX3_allParts 25 = .ok (.istore_n 1, 1) := by decide +kernel
theorem dX3_allParts_26 : decode cX3_allParts 26 = .ok (.iinc 2 1, 3) := by decide +kernel
theorem dX3_allParts_29 : decode cX3_allParts 29 = .ok (.goto (-25), 3) := by decide +kernel
theorem dX3_allParts_32 : decode cX3_allParts 32 = .ok (.iload_n 1, 1) := by decide +kernel
theorem dX3_allParts_33 : decode cX3_allParts 33 = .ok (.ireturn, 1) := by decide +kernel
theorem dX4_init_0 : decode cX4_init 0 = .ok (.aload_n 0, 1) := by decide +kernel
theorem dX4_init_1 : decode cX4_init 1 = .ok (.invokespecial 3, 3) := by decide +kernel
theorem dX4_init_4 : decode cX4_init 4 = .ok (.aload_n 0, 1) := by decide +kernel
theorem dX4_init_5 : decode cX4_init 5 = .ok (.iconst (-1), 1) := by decide +kernel
theorem dX4_init_6 : decode cX4_init 6 = .ok (.putfield 9, 3) := by decide +kernel
theorem dX4_init_9 : decode cX4_init 9 = .ok (.aload_n 0, 1) := by decide +kernel
theorem dX4_init_10 : decode cX4_init 10 = .ok (.aload_n 1, 1) := by decide +kernel
theorem dX4_init_11 : decode cX4_init 11 = .ok (.putfield 15, 3) := by decide +kernel
theorem dX4_init_14 : decode cX4_init 14 = .ok (.aload_n 0, 1) := by decide +kernel
theorem dX4_init_15 : decode cX4_init 15 = .ok (.iload_n 2, 1) := by decide +kernel
theorem dX4_init_16 : decode cX4_init 16 = .ok (.putfield 19, 3) := by decide +kernel
theorem dX4_init_19 : decode cX4_init 19 = .ok (.aload_n 0, 1) := by decide +kernel
theorem dX4_init_20 : decode cX4_init 20 = .ok (.aload_n 3, 1) := by decide +kernel
theorem dX4_init_21 : decode cX4_init 21 = .ok (.putfield 22, 3) := by decide +kernel
theorem dX4_init_24 : decode cX4_init 24 = .ok (.return_, 1) := by decide +kernel
set_option maxRecDepth 20000 in
theorem ggX4_read_X2_empty : GoodIn wsX4_read wsX2_empty := goodIn_r _ [11, 12, 13, 131, 132, 133, 134, 135, 136, 137, 138] (by decide +kernel) (by decide +kernel)
set_option maxRecDepth 20000 in
theorem gX4_read_X2_empty : GoodIn wsX4_read (wsV RX4 26 RX2 yX2_empty wsX2_empty) := goodIn_app (goodIn_of _ (by decide +kernel)) ggX4_read_X2_empty
set_option maxRecDepth 20000 in
theorem ggX4_read_X4_advance : GoodIn wsX4_read wsX4_advance := goodIn_r _ [18, 19, 5, 2, 20, 3, 21, 22, 17, 23, 123, 124, 125, 126, 127, 128, 129, 130] (by decide +kernel) (by decide +kernel)
set_option maxRecDepth 20000 in
theorem gX4_read_X4_advance : GoodIn wsX4_read (wsV RX4 31 RX4 yX4_advance wsX4_advance) := goodIn_app (goodIn_of _ (by decide +kernel)) ggX4_read_X4_advance
set_option maxRecDepth 20000 in
theorem ggX4_read_X4_note : GoodIn wsX4_read wsX4_note := goodIn_r _ [27, 4, 5, 6, 123, 124, 125, 126, 127, 128, 129, 130] (by decide +kernel) (by decide +kernel)
set_option maxRecDepth 20000 in
theorem gX4_read_X4_note : GoodIn wsX4_read (wsV RX4 37 RX4 yX4_note wsX4_note) := goodIn_app (goodIn_of _ (by decide +kernel)) ggX4_read_X4_note
set_option maxRecDepth 20000 in
theorem ggX4_read_X4_readLine : GoodIn wsX4_read wsX4_readLine := goodIn_r _ [31, 2, 3, 32, 33, 34, 17, 35, 36, 37, 38, 39, 19, 5, 20, 40, 41, 42, 43, 44, 45, 46, 47, 48, 49, 50, 51, 52, 53, 54, 55, 56, 57, 58, 59, 60, 61, 62, 63, 64, 65, 66, 67, 68, 69, 70, 71, 72, 73, 74, 75, 76, 77, 78, 79, 80, 81, 82, 83, 84, 85, 86, 87, 88, 14, 15, 16, 18, 21, 22, 23, 24, 25, 26, 27, 4, 6, 89, 90, 91, 92, 1, 93, 94, 95, 96, 97, 98, 99, 100, 101, 102, 103, 10, 104, 12, 13, 105, 106, 107, 108, 109, 110, 111, 112, 113, 114, 115, 116, 117, 118, 119, 120, 121, 122, 123, 124, 125, 126, 127, 128, 129, 130, 131, 132, 133, 134, 135, 136, 137, 138] (by decide +kernel) (by decide +kernel)
set_option maxRecDepth 20000 in
theorem gX4_read_X4_readLine : GoodIn wsX4_read (wsV RX4 41 RX4 yX4_readLine wsX4_readLine) := goodIn_app (goodIn_of _ (by decide +kernel)) ggX4_read_X4_readLine
theorem dX4_read_0 : decode cX4_read 0 = .ok (.aload_n 0, 1) := by decide +kernel
theorem dX4_read_1 : decode cX4_read 1 = .ok (.getfield 22, 3) := by decide +kernel
theorem dX4_read_4 : decode cX4_read 4 = .ok (.invokevirtual 26, 3) := by decide +kernel
theorem dX4_read_7 : decode cX4_read 7 = .ok (.aload_n 0, 1) := by decide +kernel
theorem dX4_read_8 : decode cX4_read 8 = .ok (.invokevirtual 31, 3) := by decide +kernel
theorem dX4_read_11 : decode cX4_read 11 = .ok (.iconst 0, 1) := by decide +kernel
theorem dX4_read_12 : decode cX4_read 12 = .ok (.istore_n 1, 1) := by decide +kernel
theorem dX4_read_13 : decode cX4_read 13 = .ok (.iload_n 1, 1) := by decide +kernel
theorem dX4_read_14 : decode cX4_read 14 = .ok (.aload_n 0, 1) := by decide +kernel
theorem dX4_read_15 : decode cX4_read 15 = .ok (.getfield 19, 3) := by decide +kernel
theorem dX4_read_18 : decode cX4_read 18 = .ok (.if_icmp .ge 48, 3) := by decide +kernel
theorem dX4_read_21 : decode cX4_read 21 = .ok (.aload_n 0, 1) := by decide +kernel
theorem dX4_read_22 : decode cX4_read 22 = .ok (.getfield 34, 3) := by decide +kernel
theorem dX4_read_25 : decode cX4_read 25 = .ok (.ifCond .eq 41, 3) := by decide +kernel
theorem dX4_read_28 : decode cX4_read 28 = .ok (.iload_n 1, 1) := by decide +kernel
theorem dX4_read_29 : decode cX4_read 29 = .ok (.bipush 16, 2) := by decide +kernel
theorem dX4_read_31 : decode cX4_read 31 = .ok (.if_icmp .lt 8, 3) := by decide +kernel
theorem dX4_read_34 : decode cX4_read 34 = .ok (.aload_n 0, 1) := by decide +kernel
theorem dX4_read_35 : decode cX4_read 35 = .ok (.iconst 3, 1) := by decide +kernel
theorem dX4_read_36 : decode cX4_read 36 = .ok (.invokevirtual 37, 3) := by decide +kernel
theorem dX4_read_39 : decode cX4_read 39 = .ok (.aload_n 0, 1) := by decide +kernel
theorem dX4_read_40 : decode cX4_read 40 = .ok (.invokevirtual 41, 3) := by decide +kernel
theorem dX4_read_43 : decode cX4_read 43 = .ok (.ifCond .ne 17, 3) := by decide +kernel
theorem dX4_read_46 : decode cX4_read 46 = .ok (.aload_n 0, 1) := by decide +kernel
theorem dX4_read_47 : decode cX4_read 47 = .ok (.iconst 1, 1) := by decide +kernel
theorem dX4_read_48 : decode cX4_read 48 = .ok (.putfield 45, 3) := by decide +kernel
theorem dX4_read_51 : decode cX4_read 51 = .ok (.aload_n 0, 1) := by decide +kernel
theorem dX4_read_52 : decode cX4_read 52 = .ok (.aload_n 0, 1) := by decide +kernel
theorem dX4_read_53 : decode cX4_read 53 = .ok (.getfield 48, 3) := by decide +kernel
theorem dX4_read_56 : decode cX4_read 56 = .ok (.putfield 9, 3) := by decide +kernel
theorem dX4_read_59 : decode cX4_read 59 = .ok (.return_, 1) := by decide +kernel
theorem dX4_read_60 : decode cX4_read 60 = .ok (.iinc 1 1, 3) := by decide +kernel
theorem dX4_read_63 : decode cX4_read 63 = .ok (.goto (-50), 3) := by decide +kernel
theorem dX4_read_66 : decode cX4_read 66 = .ok (.return_, 1) := by decide +kernel
theorem dX4_note_0 : decode cX4_note 0 = .ok (.aload_n 0, 1) := by decide +kernel
theorem dX4_note_1 : decode cX4_note 1 = .ok (.getfield 45, 3) := by decide +kernel
theorem dX4_note_4 : decode cX4_note 4 = .ok (.ifCond .ne 16, 3) := by decide +kernel
theorem dX4_note_7 : decode cX4_note 7 = .ok (.aload_n 0, 1) := by decide +kernel
theorem dX4_note_8 : decode cX4_note 8 = .ok (.iload_n 1, 1) := by decide +kernel
theorem dX4_note_9 : decode cX4_note 9 = .ok (.putfield 45, 3) := by decide +kernel
theorem dX4_note_12 : decode cX4_note 12 = .ok (.aload_n 0, 1) := by decide +kernel
theorem dX4_note_13 : decode cX4_note 13 = .ok (.aload_n 0, 1) := by decide +kernel
theorem dX4_note_14 : decode cX4_note 14 = .ok (.getfield 48, 3) := by decide +kernel
theorem dX4_note_17 : decode cX4_note 17 = .ok (.putfield 9, 3) := by decide +kernel
theorem dX4_note_20 : decode cX4_note 20 = .ok (.return_, 1) := by decide +kernel
set_option maxRecDepth 20000 in
theorem ggX4_readLine_X4_takeWord : GoodIn wsX4_readLine wsX4_takeWord := goodIn_r _ [7, 8, 9, 10, 6, 11, 2, 12, 13, 14, 15, 16, 17, 18, 19, 20, 21, 22, 23, 24, 25, 26, 27, 28, 29, 30, 31, 32, 33, 34, 35, 36, 37, 38, 39, 40, 41, 42, 43, 44, 45, 46, 47, 48, 49, 50, 51, 52, 53, 54, 55, 56, 57, 58, 59, 60, 61, 62, 63, 64, 65, 66, 67, 1, 68, 69, 70, 115, 116, 117, 118, 119, 120, 121, 122] (by decide +kernel) (by decide +kernel)
set_option maxRecDepth 20000 in
theorem gX4_readLine_X4_takeWord : GoodIn wsX4_readLine (wsV RX4 53 RX4 yX4_takeWord wsX4_takeWord) := goodIn_app (goodIn_of _ (by decide +kernel)) ggX4_readLine_X4_takeWord
set_option maxRecDepth 20000 in
theorem ggX4_readLine_X4_note : GoodIn wsX4_readLine wsX4_note := goodIn_r _ [74, 75, 13, 76, 115, 116, 117, 118, 119, 120, 121, 122] (by decide +kernel) (by decide +kernel)
set_option maxRecDepth 20000 in
theorem gX4_readLine_X4_note : GoodIn wsX4_readLine (wsV RX4 37 RX4 yX4_note wsX4_note) := goodIn_app (goodIn_of _ (by decide +kernel)) ggX4_readLine_X4_note
set_option maxRecDepth 20000 in
theorem ggX4_readLine_X4_readTest : GoodIn wsX4_readLine wsX4_readTest := goodIn_r _ [80, 2, 81, 3, 4, 5, 6, 7, 8, 9, 10, 11, 12, 13, 14, 15, 16, 17, 18, 19, 20, 21, 22, 23, 24, 25, 26, 27, 28, 29, 30, 31, 32, 33, 34, 35, 36, 37, 38, 39, 40, 41, 42, 43, 44, 45, 46, 47, 48, 49, 50, 51, 52, 53, 54, 55, 56, 57, 58, 59, 60, 61, 62, 63, 64, 65, 66, 67, 1, 68, 69, 70, 82, 83, 84, 85, 86, 87, 88, 89, 71, 72, 73, 74, 75, 76, 90, 91, 92, 93, 94, 95, 96, 97, 98, 99, 100, 115, 116, 117, 118, 119, 120, 121, 122, 123, 124, 125, 126, 127, 128, 129, 130] (by decide +kernel) (by decide +kernel)
set_option maxRecDepth 20000 in
theorem gX4_readLine_X4_readTest : GoodIn wsX4_readLine (wsV RX4 57 RX4 yX4_readTest wsX4_readTest) := goodIn_app (goodIn_of _ (by decide +kernel)) ggX4_readLine_X4_readTest
set_option maxRecDepth 20000 in
theorem ggX4_readLine_X4_advance : GoodIn wsX4_readLine wsX4_advance := goodIn_r _ [67, 12, 13, 1, 14, 2, 68, 69, 6, 70, 115, 116, 117, 118, 119, 120, 121, 122] (by decide +kernel) (by decide +kernel)
set_option maxRecDepth 20000 in
theorem gX4_readLine_X4_advance : GoodIn wsX4_readLine (wsV RX4 31 RX4 yX4_advance wsX4_advance) := goodIn_app (goodIn_of _ (by decide +kernel)) ggX4_readLine_X4_advance
set_option maxRecDepth 20000 in
theorem ggX4_readLine_X4_readAct : GoodIn wsX4_readLine wsX4_readAct := goodIn_r _ [104, 2, 81, 105, 106, 107, 6, 108, 8, 9, 10, 11, 12, 13, 14, 15, 16, 17, 18, 19, 20, 21, 22, 23, 24, 25, 26, 27, 28, 29, 30, 31, 32, 33, 34, 35, 36, 37, 38, 39, 40, 41, 42, 43, 44, 45, 46, 47, 48, 49, 50, 51, 52, 53, 54, 55, 56, 57, 58, 59, 60, 61, 62, 63, 64, 65, 66, 67, 1, 68, 69, 70, 86, 87, 88, 89, 109, 110, 111, 93, 112, 95, 113, 114, 96, 115, 116, 117, 118, 119, 120, 121, 122, 123, 124, 125, 126, 127, 128, 129, 130] (by decide +kernel) (by decide +kernel)
set_option maxRecDepth 20000 in
theorem gX4_readLine_X4_readAct : GoodIn wsX4_readLine (wsV RX4 62 RX4 yX4_readAct wsX4_readAct) := goodIn_app (goodIn_of _ (by decide +kernel)) ggX4_readLine_X4_readAct
theorem dX4_readLine_0 : decode cX4_readLine 0 = .ok (.aload_n 0, 1) := by decide +kernel
theorem dX4_readLine_1 : decode cX4_readLine 1 = .ok (.ldc 51, 2) := by decide +kernel
theorem dX4_readLine_3 : decode cX4_readLine 3 = .ok (.invokevirtual 53, 3) := by decide +kernel
theorem dX4_readLine_6 : decode cX4_readLine 6 = .ok (.ifCond .eq 59, 3) := by decide +kernel
theorem dX4_readLine_9 : decode cX4_readLine 9 = .ok (.iconst 0, 1) := by decide +kernel
theorem dX4_readLine_10 : decode cX4_readLine 10 = .ok (.istore_n 1, 1) := by decide +kernel
theorem dX4_readLine_11 : decode cX4_readLine 11 = .ok (.iload_n 1, 1) := by decide +kernel
theorem dX4_readLine_12 : decode cX4_readLine 12 = .ok (.iconst 4, 1) := by decide +kernel
theorem dX4_readLine_13 : decode cX4_readLine 13 = .ok (.if_icmp .lt 8, 3) := by decide +kernel
theorem dX4_readLine_16 : decode cX4_readLine 16 = .ok (.aload_n 0, 1) := by decide +kernel
theorem dX4_readLine_17 : decode cX4_readLine 17 = .ok (.iconst 3, 1) := by decide +kernel
theorem dX4_readLine_18 : decode cX4_readLine 18 = .ok (.invokevirtual 37, 3) := by decide +kernel
theorem dX4_readLine_21 : decode cX4_readLine 21 = .ok (.aload_n 0, 1) := by decide +kernel
theorem dX4_readLine_22 : decode cX4_readLine 22 = .ok (.invokevirtual 57, 3) := by decide +kernel
theorem dX4_readLine_25 : decode cX4_readLine 25 = .ok (.ifCond .ne 5, 3) := by decide +kernel
theorem dX4_readLine_28 : decode cX4_readLine 28 = .ok (.iconst 0, 1) := by decide +kernel
theorem dX4_readLine_29 : decode cX4_readLine 29 = .ok (.ireturn, 1) := by decide +kernel
theorem dX4_readLine_30 : decode cX4_readLine 30 = .ok (.iinc 1 1, 3) := by decide +kernel
theorem dX4_readLine_33 : decode cX4_readLine 33 = .ok (.iload_n 1, 1) := by decide +kernel
theorem dX4_readLine_34 : decode cX4_readLine 34 = .ok (.aload_n 0, 1) := by decide +kernel
theorem dX4_readLine_35 : decode cX4_readLine 35 = .ok (.getfield 19, 3) := by decide +kernel
theorem dX4_readLine_38 : decode cX4_readLine 38 = .ok (.if_icmp .ge 12, 3) := by decide +kernel
theorem dX4_readLine_41 : decode cX4_readLine 41 = .ok (.aload_n 0, 1) := by decide +kernel
theorem dX4_readLine_42 : decode cX4_readLine 42 = .ok (.ldc 60, 2) := by decide +kernel
theorem dX4_readLine_44 : decode cX4_readLine 44 = .ok (.invokevirtual 53, 3) := by decide +kernel
theorem dX4_readLine_47 : decode cX4_readLine 47 = .ok (.ifCond .ne (-36), 3) := by decide +kernel
theorem dX4_readLine_50 : decode cX4_readLine 50 = .ok (.aload_n 0, 1) := by decide +kernel
theorem dX4_readLine_51 : decode cX4_readLine 51 = .ok (.getfield 34, 3) := by decide +kernel
theorem dX4_readLine_54 : decode cX4_readLine 54 = .ok (.bipush 58, 2) := by decide +kernel
theorem dX4_readLine_56 : decode cX4_readLine 56 = .ok (.if_icmp .eq 5, 3) := by decide +kernel
theorem dX4_readLine_59 : decode cX4_readLine 59 = .ok (.iconst 0, 1) := by decide +kernel
theorem dX4_readLine_60 : decode cX4_readLine 60 = .ok (.ireturn, 1) := by decide +kernel
theorem dX4_readLine_61 : decode cX4_readLine 61 = .ok (.aload_n 0, 1) := by decide +kernel
theorem dX4_readLine_62 : decode cX4_readLine 62 = .ok (.invokevirtual 31, 3) := by decide +kernel
theorem dX4_readLine_65 : decode cX4_readLine 65 = .ok (.aload_n 0, 1) := by decide +kernel
theorem dX4_readLine_66 : decode cX4_readLine 66 = .ok (.invokevirtual 62, 3) := by decide +kernel
theorem dX4_readLine_69 : decode cX4_readLine 69 = .ok (.ireturn, 1) := by decide +kernel
set_option maxRecDepth 20000 in
theorem ggX4_readTest_X4_takeWord : GoodIn wsX4_readTest wsX4_takeWord := goodIn_r _ [7, 8, 9, 10, 6, 11, 1, 12, 13, 14, 15, 16, 17, 18, 19, 20, 21, 22, 23, 24, 25, 26, 27, 28, 29, 30, 31, 32, 33, 34, 35, 36, 37, 38, 39, 40, 41, 42, 43, 44, 45, 46, 47, 48, 49, 50, 51, 52, 53, 54, 55, 56, 57, 58, 59, 60, 61, 62, 63, 64, 65, 66, 67, 68, 69, 70, 71, 97, 98, 99, 100, 101, 102, 103, 104] (by decide +kernel) (by decide +kernel)
set_option maxRecDepth 20000 in
theorem gX4_readTest_X4_takeWord : GoodIn wsX4_readTest (wsV RX4 53 RX4 yX4_takeWord wsX4_takeWord) := goodIn_app (goodIn_of _ (by decide +kernel)) ggX4_readTest_X4_takeWord
set_option maxRecDepth 20000 in
theorem ggX4_readTest_X4_subjectAtHand : GoodIn wsX4_readTest wsX4_subjectAtHand := goodIn_r _ [75, 8, 9, 10, 6, 11, 1, 12, 13, 14, 15, 16, 17, 18, 19, 20, 21, 22, 23, 24, 25, 26, 27, 28, 29, 30, 31, 32, 33, 34, 35, 36, 37, 38, 39, 40, 41, 42, 43, 44, 45, 46, 47, 48, 49, 50, 51, 52, 53, 54, 55, 56, 57, 58, 59, 60, 61, 62, 63, 97, 98, 99, 100, 101, 102, 103, 104] (by decide +kernel) (by decide +kernel)
set_option maxRecDepth 20000 in
theorem gX4_readTest_X4_subjectAtHand : GoodIn wsX4_readTest (wsV RX4 67 RX4 yX4_subjectAtHand wsX4_subjectAtHand) := goodIn_app (goodIn_of _ (by decide +kernel)) ggX4_readTest_X4_subjectAtHand
set_option maxRecDepth 20000 in
theorem ggX4_readTest_X4_advance : GoodIn wsX4_readTest wsX4_advance := goodIn_r _ [67, 12, 13, 68, 14, 1, 69, 70, 6, 71, 97, 98, 99, 100, 101, 102, 103, 104] (by decide +kernel) (by decide +kernel)
set_option maxRecDepth 20000 in
theorem gX4_readTest_X4_advance : GoodIn wsX4_readTest (wsV RX4 31 RX4 yX4_advance wsX4_advance) := goodIn_app (goodIn_of _ (by decide +kernel)) ggX4_readTest_X4_advance
set_option maxRecDepth 20000 in
theorem ggX4_readTest_X4_numberAtHand : GoodIn wsX4_readTest wsX4_numberAtHand := goodIn_r _ [79, 13, 12, 14, 97, 98, 99, 100, 101, 102, 103, 104] (by decide +kernel) (by decide +kernel)
set_option maxRecDepth 20000 in
theorem gX4_readTest_X4_numberAtHand : GoodIn wsX4_readTest (wsV RX4 71 RX4 yX4_numberAtHand wsX4_numberAtHand) := goodIn_app (goodIn_of _ (by decide +kernel)) ggX4_readTest_X4_numberAtHand
set_option maxRecDepth 20000 in
theorem ggX4_readTest_X4_note : GoodIn wsX4_readTest wsX4_note := goodIn_r _ [83, 84, 13, 85, 97, 98, 99, 100, 101, 102, 103, 104] (by decide +kernel) (by decide +kernel)
set_option maxRecDepth 20000 in
theorem gX4_readTest_X4_note : GoodIn wsX4_readTest (wsV RX4 37 RX4 yX4_note wsX4_note) := goodIn_app (goodIn_of _ (by decide +kernel)) ggX4_readTest_X4_note
set_option maxRecDepth 20000 in
theorem ggX4_readTest_X2_addTest : GoodIn wsX4_readTest wsX2_addTest := goodIn_r _ [90, 91, 92, 93, 94, 95, 96, 105, 106, 107, 108, 109, 110, 111, 112] (by decide +kernel) (by decide +kernel)
set_option maxRecDepth 20000 in
theorem gX4_readTest_X2_addTest : GoodIn wsX4_readTest (wsV RX4 74 RX2 yX2_addTest wsX2_addTest) := goodIn_app (goodIn_of _ (by decide +kernel)) ggX4_readTest_X2_addTest
theorem dX4_readTest_0 : decode cX4_readTest 0 = .ok (.aload_n 0, 1) := by decide +kernel
theorem dX4_readTest_1 : decode cX4_readTest 1 = .ok (.ldc 65, 2) := by decide +kernel
theorem dX4_readTest_3 : decode cX4_readTest 3 = .ok (.invokevirtual 53, 3) := by decide +kernel
theorem dX4_readTest_6 : decode cX4_readTest 6 = .ok (.istore_n 1, 1) := by decide +kernel
theorem dX4_readTest_7 : decode cX4_readTest 7 = .ok (.aload_n 0, 1) := by decide +kernel
theorem dX4_readTest_8 : decode cX4_readTest 8 = .ok (.invokevirtual 67, 3) := by decide +kernel
theorem dX4_readTest_11 : decode cX4_readTest 11 = .ok (.istore_n 2, 1) := by decide +kernel
theorem dX4_readTest_12 : decode cX4_readTest 12 = .ok (.iload_n 2, 1) := by decide +kernel
theorem dX4_readTest_13 : decode cX4_readTest 13 = .ok (.iconst (-1), 1) := by decide +kernel
theorem dX4_readTest_14 : decode cX4_readTest 14 = .ok (.if_icmp .ne 5, 3) := by decide +kernel
theorem dX4_readTest_17 : decode cX4_readTest 17 = .ok (.iconst 0, 1) := by decide +kernel
theorem dX4_readTest_18 : decode cX4_readTest 18 = .ok (.ireturn, 1) := by decide +kernel
theorem dX4_readTest_19 : decode cX4_readTest 19 = .ok (.aload_n 0, 1) := by decide +kernel
theorem dX4_readTest_20 : decode cX4_readTest 20 = .ok (.invokevirtual 31, 3) := by decide +kernel
theorem dX4_readTest_23 : decode cX4_readTest 23 = .ok (.iconst 0, 1) := by decide +kernel
theorem dX4_readTest_24 : decode cX4_readTest 24 = .ok (.istore_n 3, 1) := by decide +kernel
theorem dX4_readTest_25 : decode cX4_readTest 25 = .ok (.iload_n 2, 1) := by decide +kernel
theorem dX4_readTest_26 : decode cX4_readTest 26 = .ok (.iconst 5, 1) := by decide +kernel
theorem dX4_readTest_27 : decode cX4_readTest 27 = .ok (.if_icmp .eq 41, 3) := by decide +kernel
theorem dX4_readTest_30 : decode cX4_readTest 30 = .ok (.aload_n 0, 1) := by decide +kernel
theorem dX4_readTest_31 : decode cX4_readTest 31 = .ok (.getfield 34, 3) := by decide +kernel
theorem dX4_readTest_34 : decode cX4_readTest 34 = .ok (.bipush 60, 2) := by decide +kernel
theorem dX4_readTest_36 : decode cX4_readTest 36 = .ok (.if_icmp .eq 23, 3) := by decide +kernel
theorem dX4_readTest_39 : decode cX4_readTest 39 = .ok (.aload_n 0, 1) := by decide +kernel
theorem dX4_readTest_40 : decode cX4_readTest 40 = .ok (.getfield 34, 3) := by decide +kernel
theorem dX4_readTest_43 : decode cX4_readTest 43 = .ok (.bipush 62, 2) := by decide +kernel
theorem dX4_readTest_45 : decode cX4_readTest 45 = .ok (.if_icmp .eq 14, 3) := by decide +kernel
theorem dX4_readTest_48 : decode cX4_readTest 48 = .ok (.aload_n 0, 1) := by decide +kernel
theorem dX4_readTest_49 : decode cX4_readTest 49 = .ok (.getfield 34, 3) := by decide +kernel
theorem dX4_readTest_52 : decode cX4_readTest 52 = .ok (.bipush 61, 2) := by decide +kernel
theorem dX4_readTest_54 : decode cX4_readTest 54 = .ok (.if_icmp .eq 5, 3) := by decide +kernel
theorem dX4_readTest_57 : decode cX4_readTest 57 = .ok (.iconst 0, 1) := by decide +kernel
theorem dX4_readTest_58 : decode cX4_readTest 58 = .ok (.ireturn, 1) := by decide +kernel
theorem dX4_readTest_59 : decode cX4_readTest 59 = .ok (.aload_n 0, 1) := by decide +kernel
theorem dX4_readTest_60 : decode cX4_readTest 60 = .ok (.getfield 34, 3) := by decide +kernel
theorem dX4_readTest_63 : decode cX4_readTest 63 = .ok (.istore_n 3, 1) := by decide +kernel
theorem dX4_readTest_64 : decode cX4_readTest 64 = .ok (.aload_n 0, 1) := by decide +kernel
theorem dX4_readTest_65 : decode cX4_readTest 65 = .ok (.invokevirtual 31, 3) := by decide +kernel
theorem dX4_readTest_68 : decode cX4_readTest 68 = .ok (.aload_n 0, 1) := by decide +kernel
theorem dX4_readTest_69 : decode cX4_readTest 69 = .ok (.getfield 34, 3) := by decide +kernel
theorem dX4_readTest_72 : decode cX4_readTest 72 = .ok (.iconst 2, 1) := by decide +kernel
theorem dX4_readTest_73 : decode cX4_readTest 73 = .ok (.if_icmp .eq 5, 3) := by decide +kernel
theorem dX4_readTest_76 : decode cX4_readTest 76 = .ok (.iconst 0, 1) := by decide +kernel
theorem dX4_readTest_77 : decode cX4_readTest 77 = .ok (.ireturn, 1) := by decide +kernel
theorem dX4_readTest_78 : decode cX4_readTest 78 = .ok (.aload_n 0, 1) := by decide +kernel
theorem dX4_readTest_79 : decode cX4_readTest 79 = .ok (.invokevirtual 71, 3) := by decide +kernel
theorem dX4_readTest_82 : decode cX4_readTest 82 = .ok (.istore 4, 2) := by decide +kernel
theorem dX4_readTest_84 : decode cX4_readTest 84 = .ok (.iload_n 2, 1) := by decide +kernel
theorem dX4_readTest_85 : decode cX4_readTest 85 = .ok (.iconst 5, 1) := by decide +kernel
theorem dX4_readTest_86 : decode cX4_readTest 86 = .ok (.if_icmp .ne 15, 3) := by decide +kernel
theorem dX4_readTest_89 : decode cX4_readTest 89 = .ok (.iload 4, 2) := by decide +kernel
theorem dX4_readTest_91 : decode cX4_readTest 91 = .ok (.bipush 6, 2) := by decide +kernel
theorem dX4_readTest_93 : decode cX4_readTest 93 = .ok (.if_icmp .lt 8, 3) := by decide +kernel
theorem dX4_readTest_96 : decode cX4_readTest 96 = .ok (.aload_n 0, 1) := by decide +kernel
theorem dX4_readTest_97 : decode cX4_readTest 97 = .ok (.iconst 2, 1) := by decide +kernel
theorem dX4_readTest_98 : decode cX4_readTest 98 = .ok (.invokevirtual 37, 3) := by decide +kernel
theorem dX4_readTest_101 : decode cX4_readTest 101 = .ok (.aload_n 0, 1) := by decide +kernel
theorem dX4_readTest_102 : decode cX4_readTest 102 = .ok (.getfield 22, 3) := by decide +kernel
theorem dX4_readTest_105 : decode cX4_readTest 105 = .ok (.iload_n 2, 1) := by decide +kernel
theorem dX4_readTest_106 : decode cX4_readTest 106 = .ok (.iload_n 3, 1) := by decide +kernel
theorem dX4_readTest_107 : decode cX4_readTest 107 = .ok (.iload 4, 2) := by decide +kernel
theorem dX4_readTest_109 : decode cX4_readTest 109 = .ok (.iload_n 1, 1) := by decide +kernel
theorem dX4_readTest_110 : decode cX4_readTest 110 = .ok (.invokevirtual 74, 3) := by decide +kernel
theorem dX4_readTest_113 : decode cX4_readTest 113 = .ok (.aload_n 0, 1) := by decide +kernel
theorem dX4_readTest_114 : decode cX4_readTest 114 = .ok (.invokevirtual 31, 3) := by decide +kernel
theorem dX4_readTest_117 : decode cX4_readTest 117 = .ok (.iconst 1, 1) := by decide +kernel
theorem dX4_readTest_118 : decode cX4_readTest 118 = .ok (.ireturn, 1) := by decide +kernel
set_option maxRecDepth 20000 in
theorem ggX4_readAct_X4_actAtHand : GoodIn wsX4_readAct wsX4_actAtHand := goodIn_r _ [7, 8, 9, 10, 6, 11, 1, 12, 13, 14, 15, 16, 17, 18, 19, 20, 21, 22, 23, 24, 25, 26, 27, 28, 29, 30, 31, 32, 33, 34, 35, 36, 37, 38, 39, 40, 41, 42, 43, 44, 45, 46, 47, 48, 49, 50, 51, 52, 53, 54, 55, 56, 57, 58, 59, 60, 61, 62, 63, 85, 86, 87, 88, 89, 90, 91, 92] (by decide +kernel) (by decide +kernel)
set_option maxRecDepth 20000 in
theorem gX4_readAct_X4_actAtHand : GoodIn wsX4_readAct (wsV RX4 78 RX4 yX4_actAtHand wsX4_actAtHand) := goodIn_app (goodIn_of _ (by decide +kernel)) ggX4_readAct_X4_actAtHand
set_option maxRecDepth 20000 in
theorem ggX4_readAct_X4_advance : GoodIn wsX4_readAct wsX4_advance := goodIn_r _ [67, 12, 13, 68, 14, 1, 69, 70, 6, 71, 85, 86, 87, 88, 89, 90, 91, 92] (by decide +kernel) (by decide +kernel)
set_option maxRecDepth 20000 in
theorem gX4_readAct_X4_advance : GoodIn wsX4_readAct (wsV RX4 31 RX4 yX4_advance wsX4_advance) := goodIn_app (goodIn_of _ (by decide +kernel)) ggX4_readAct_X4_advance
set_option maxRecDepth 20000 in
theorem ggX4_readAct_X4_numberAtHand : GoodIn wsX4_readAct wsX4_numberAtHand := goodIn_r _ [75, 13, 12, 14, 85, 86, 87, 88, 89, 90, 91, 92] (by decide +kernel) (by decide +kernel)
set_option maxRecDepth 20000 in
theorem gX4_readAct_X4_numberAtHand : GoodIn wsX4_readAct (wsV RX4 71 RX4 yX4_numberAtHand wsX4_numberAtHand) := goodIn_app (goodIn_of _ (by decide +kernel)) ggX4_readAct_X4_numberAtHand
set_option maxRecDepth 20000 in
theorem ggX4_readAct_X2_endLine : GoodIn wsX4_readAct wsX2_endLine := goodIn_r _ [80, 81, 82, 83, 84, 93, 94, 95, 96, 97, 98, 99, 100] (by decide +kernel) (by decide +kernel)
set_option maxRecDepth 20000 in
theorem gX4_readAct_X2_endLine : GoodIn wsX4_readAct (wsV RX4 81 RX2 yX2_endLine wsX2_endLine) := goodIn_app (goodIn_of _ (by decide +kernel)) ggX4_readAct_X2_endLine
