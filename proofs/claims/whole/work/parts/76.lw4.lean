set_option maxRecDepth 20000 in
theorem nl_X5_lien : ∀ w ∈ wsX5_lien, w ∈ lw_tbl := zz_cons (List.mem_of_getElem? (i := 623) (by decide +kernel)) (zz_app (zz_app (zz_app (zz_app (zz_in [254, 624, 228, 191, 530, 531, 532, 54, 533, 224, 223, 625, 626, 627, 57, 628, 132, 140, 141] (by decide +kernel)) inX5) inX0) inX1) inX3)
set_option maxRecDepth 20000 in
theorem nL_X5_lien : GoodIn lw_tbl (wsV RL 84 RX5 yX5_lien wsX5_lien) := goodIn_sub (zz_app (zz_in [620, 621, 622, 53] (by decide +kernel)) nl_X5_lien) (by decide +kernel)
set_option maxRecDepth 20000 in
theorem nl_X6_lien : ∀ w ∈ wsX6_lien, w ∈ lw_tbl := zz_cons (List.mem_of_getElem? (i := 1094) (by decide +kernel)) (zz_app (zz_in [744, 1095, 752, 757, 758, 759, 753, 1045, 1047, 45, 58, 1048, 750, 916, 917, 918, 992, 994, 37, 995] (by decide +kernel)) inX6)
set_option maxRecDepth 20000 in
theorem nL_X6_lien : GoodIn lw_tbl (wsV RL 88 RX6 yX6_lien wsX6_lien) := goodIn_sub (zz_app (zz_in [1091, 1092, 1093, 58] (by decide +kernel)) nl_X6_lien) (by decide +kernel)
set_option maxRecDepth 20000 in
theorem nl_X5_heir : ∀ w ∈ wsX5_heir, w ∈ lw_tbl := zz_cons (List.mem_of_getElem? (i := 632) (by decide +kernel)) (zz_app (zz_app (zz_app (zz_app (zz_in [254, 228, 191, 530, 531, 532, 54, 533, 224, 223, 633, 634, 635, 57, 636, 134, 143] (by decide +kernel)) inX5) inX0) inX1) inX3)
set_option maxRecDepth 20000 in
theorem nL_X5_heir : GoodIn lw_tbl (wsV RL 89 RX5 yX5_heir wsX5_heir) := goodIn_sub (zz_app (zz_in [629, 630, 631, 53] (by decide +kernel)) nl_X5_heir) (by decide +kernel)
set_option maxRecDepth 20000 in
theorem nl_X6_heir : ∀ w ∈ wsX6_heir, w ∈ lw_tbl := zz_cons (List.mem_of_getElem? (i := 1099) (by decide +kernel)) (zz_app (zz_in [744, 752, 760, 761, 753, 1045, 1047, 45, 58, 1048, 750, 916, 917, 918, 992, 994, 37, 995] (by decide +kernel)) inX6)
set_option maxRecDepth 20000 in
theorem nL_X6_heir : GoodIn lw_tbl (wsV RL 92 RX6 yX6_heir wsX6_heir) := goodIn_sub (zz_app (zz_in [1096, 1097, 1098, 58] (by decide +kernel)) nl_X6_heir) (by decide +kernel)
set_option maxRecDepth 20000 in
theorem zl_wsX5_wave_r1 : ∀ w ∈ wsX5_wave_r1, w ∈ lw_tbl := zz_in [254, 228, 598, 641, 642, 643, 54, 644, 223, 181, 190, 185, 646, 226, 645, 270, 271, 272, 137, 494, 495, 496, 497, 188] (by decide +kernel)
set_option maxRecDepth 20000 in
theorem zl_wsX5_wave_r2 : ∀ w ∈ wsX5_wave_r2, w ∈ lw_tbl := zz_in [498, 500, 12, 501, 211, 647, 648, 649, 57, 650, 136, 651, 652, 653, 654, 130, 655, 138, 656, 658, 15, 659, 132, 140] (by decide +kernel)
set_option maxRecDepth 20000 in
theorem zl_wsX5_wave_r3 : ∀ w ∈ wsX5_wave_r3, w ∈ lw_tbl := zz_in [141, 142, 660, 482, 65, 483, 661, 663, 16, 664, 139, 134, 143, 144, 665, 667, 17, 668] (by decide +kernel)
set_option maxRecDepth 20000 in
theorem nl_X5_wave : ∀ w ∈ wsX5_wave, w ∈ lw_tbl := zz_cons (List.mem_of_getElem? (i := 640) (by decide +kernel)) (zz_app (zz_app (zz_app (zz_app (zz_app zl_wsX5_wave_r1 (zz_app zl_wsX5_wave_r2 zl_wsX5_wave_r3)) inX5) inX0) inX1) inX3)
set_option maxRecDepth 20000 in
theorem nL_X5_wave : GoodIn lw_tbl (wsV RL 93 RX5 yX5_wave wsX5_wave) := goodIn_sub (zz_app (zz_in [637, 638, 639, 53] (by decide +kernel)) nl_X5_wave) (by decide +kernel)
set_option maxRecDepth 20000 in
theorem zl_wsX6_wave_r1 : ∀ w ∈ wsX6_wave_r1, w ∈ lw_tbl := zz_in [744, 752, 1082, 750, 1011, 754, 751, 916, 917, 58, 918, 900, 902, 21, 903, 984, 986, 35, 987, 988, 990, 36, 991, 992] (by decide +kernel)
set_option maxRecDepth 20000 in
theorem zl_wsX6_wave_r2 : ∀ w ∈ wsX6_wave_r2, w ∈ lw_tbl := zz_in [994, 37, 995, 753, 996, 998, 38, 999, 1000, 1002, 39, 1003, 762, 768, 767, 1012, 1004, 1006, 40, 1007, 763, 764, 766, 765] (by decide +kernel)
set_option maxRecDepth 20000 in
theorem zl_wsX6_wave_r3 : ∀ w ∈ wsX6_wave_r3, w ∈ lw_tbl := zz_in [1008, 1009, 1010, 1041, 1043, 44, 1044, 1045, 1047, 45, 1048, 1013, 1015, 41, 1016, 749, 1017, 1019, 42, 1020, 1021, 1104, 1106, 48] (by decide +kernel)
set_option maxRecDepth 20000 in
theorem zl_wsX6_wave_r4 : ∀ w ∈ wsX6_wave_r4, w ∈ lw_tbl := zz_in [1107, 755, 757, 758, 759, 760, 761, 756] (by decide +kernel)
set_option maxRecDepth 20000 in
theorem nl_X6_wave : ∀ w ∈ wsX6_wave, w ∈ lw_tbl := zz_cons (List.mem_of_getElem? (i := 1103) (by decide +kernel)) (zz_app (zz_app zl_wsX6_wave_r1 (zz_app zl_wsX6_wave_r2 (zz_app zl_wsX6_wave_r3 zl_wsX6_wave_r4))) inX6)
set_option maxRecDepth 20000 in
theorem nL_X6_wave : GoodIn lw_tbl (wsV RL 97 RX6 yX6_wave wsX6_wave) := goodIn_sub (zz_app (zz_in [1100, 1101, 1102, 58] (by decide +kernel)) nl_X6_wave) (by decide +kernel)
set_option maxRecDepth 20000 in
theorem zl_wsX5_finish_r1 : ∀ w ∈ wsX5_finish_r1, w ∈ lw_tbl := zz_in [254, 228, 598, 673, 674, 675, 54, 676, 223, 181, 677, 678, 679, 680, 681, 190, 188, 229, 494, 495, 496, 497, 645, 270] (by decide +kernel)
set_option maxRecDepth 20000 in
theorem zl_wsX5_finish_r2 : ∀ w ∈ wsX5_finish_r2, w ∈ lw_tbl := zz_in [271, 272, 137, 498, 500, 12, 501, 211, 647, 648, 649, 57, 650, 136, 651, 652, 653, 654, 130, 655, 138, 656, 658, 15] (by decide +kernel)
set_option maxRecDepth 20000 in
theorem zl_wsX5_finish_r3 : ∀ w ∈ wsX5_finish_r3, w ∈ lw_tbl := zz_in [659, 132, 140, 141, 142, 660, 482, 65, 483, 661, 663, 16, 664, 139, 134, 143, 144, 665, 667, 17, 668, 682, 684, 18] (by decide +kernel)
set_option maxRecDepth 20000 in
theorem zl_wsX5_finish_r4 : ∀ w ∈ wsX5_finish_r4, w ∈ lw_tbl := zz_in [685, 686, 688, 19, 689, 690, 692, 20, 693, 694] (by decide +kernel)
set_option maxRecDepth 20000 in
theorem nl_X5_finish : ∀ w ∈ wsX5_finish, w ∈ lw_tbl := zz_cons (List.mem_of_getElem? (i := 672) (by decide +kernel)) (zz_app (zz_app (zz_app (zz_app (zz_app zl_wsX5_finish_r1 (zz_app zl_wsX5_finish_r2 (zz_app zl_wsX5_finish_r3 zl_wsX5_finish_r4))) inX5) inX0) inX1) inX3)
set_option maxRecDepth 20000 in
theorem nL_X5_finish : GoodIn lw_tbl (wsV RL 98 RX5 yX5_finish wsX5_finish) := goodIn_sub (zz_app (zz_in [669, 670, 671, 53] (by decide +kernel)) nl_X5_finish) (by decide +kernel)
set_option maxRecDepth 20000 in
theorem zl_wsX6_finish_r1 : ∀ w ∈ wsX6_finish_r1, w ∈ lw_tbl := zz_in [744, 752, 1082, 749, 750, 792, 754, 984, 986, 35, 58, 987, 988, 990, 36, 991, 992, 994, 37, 995, 753, 996, 998, 38] (by decide +kernel)
set_option maxRecDepth 20000 in
theorem zl_wsX6_finish_r2 : ∀ w ∈ wsX6_finish_r2, w ∈ lw_tbl := zz_in [999, 1000, 1002, 39, 1003, 762, 768, 767, 1011, 1012, 1004, 1006, 40, 1007, 763, 764, 766, 765, 1008, 1009, 1010, 1112, 1114, 49] (by decide +kernel)
set_option maxRecDepth 20000 in
theorem zl_wsX6_finish_r3 : ∀ w ∈ wsX6_finish_r3, w ∈ lw_tbl := zz_in [1115, 900, 902, 21, 903, 1041, 1043, 44, 1044, 1045, 1047, 45, 1048, 916, 917, 918, 1104, 1106, 48, 1107, 755, 757, 758, 759] (by decide +kernel)
set_option maxRecDepth 20000 in
theorem zl_wsX6_finish_r4 : ∀ w ∈ wsX6_finish_r4, w ∈ lw_tbl := zz_in [760, 761, 756] (by decide +kernel)
set_option maxRecDepth 20000 in
theorem nl_X6_finish : ∀ w ∈ wsX6_finish, w ∈ lw_tbl := zz_cons (List.mem_of_getElem? (i := 1111) (by decide +kernel)) (zz_app (zz_app zl_wsX6_finish_r1 (zz_app zl_wsX6_finish_r2 (zz_app zl_wsX6_finish_r3 zl_wsX6_finish_r4))) inX6)
set_option maxRecDepth 20000 in
theorem nL_X6_finish : GoodIn lw_tbl (wsV RL 102 RX6 yX6_finish wsX6_finish) := goodIn_sub (zz_app (zz_in [1108, 1109, 1110, 58] (by decide +kernel)) nl_X6_finish) (by decide +kernel)
