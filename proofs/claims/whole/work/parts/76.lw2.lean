set_option maxRecDepth 20000 in
theorem zl_wsX5_judge_r1 : ∀ w ∈ wsX5_judge_r1, w ∈ lw_tbl := zz_in [254, 228, 182, 218, 179, 530, 531, 532, 54, 533, 224, 223, 543, 544, 545, 546, 181, 547, 548, 549, 170, 550, 551, 552] (by decide +kernel)
set_option maxRecDepth 20000 in
theorem zl_wsX5_judge_r2 : ∀ w ∈ wsX5_judge_r2, w ∈ lw_tbl := zz_in [56, 553, 180, 554, 555, 556, 557, 172, 174, 176, 455, 456, 457, 55, 458, 88, 90, 459, 461, 10, 462, 92, 93, 95] (by decide +kernel)
set_option maxRecDepth 20000 in
theorem zl_wsX5_judge_r3 : ∀ w ∈ wsX5_judge_r3, w ∈ lw_tbl := zz_in [94, 96, 463, 464, 465, 466, 467, 64, 468, 469, 470, 471, 472, 473, 474, 475, 477, 11, 478, 91, 479, 480, 481, 482] (by decide +kernel)
set_option maxRecDepth 20000 in
theorem zl_wsX5_judge_r4 : ∀ w ∈ wsX5_judge_r4, w ∈ lw_tbl := zz_in [65, 483, 558, 523, 524, 525, 183, 186] (by decide +kernel)
set_option maxRecDepth 20000 in
theorem nl_X5_judge : ∀ w ∈ wsX5_judge, w ∈ lw_tbl := zz_cons (List.mem_of_getElem? (i := 542) (by decide +kernel)) (zz_app (zz_app (zz_app (zz_app (zz_app zl_wsX5_judge_r1 (zz_app zl_wsX5_judge_r2 (zz_app zl_wsX5_judge_r3 zl_wsX5_judge_r4))) inX5) inX0) inX1) inX2)
set_option maxRecDepth 20000 in
theorem nL_X5_judge : GoodIn lw_tbl (wsV RL 48 RX5 yX5_judge wsX5_judge) := goodIn_sub (zz_app (zz_in [539, 540, 541, 53] (by decide +kernel)) nl_X5_judge) (by decide +kernel)
set_option maxRecDepth 20000 in
theorem zl_wsX6_judge_r1 : ∀ w ∈ wsX6_judge_r1, w ∈ lw_tbl := zz_in [744, 752, 753, 1041, 1043, 44, 58, 1044, 1045, 1047, 45, 1048, 750, 916, 917, 918, 992, 994, 37, 995, 1053, 1055, 46, 1056] (by decide +kernel)
set_option maxRecDepth 20000 in
theorem zl_wsX6_judge_r2 : ∀ w ∈ wsX6_judge_r2, w ∈ lw_tbl := zz_in [996, 998, 38, 999, 1000, 1002, 39, 1003, 762, 768, 767, 1011, 1012, 1004, 1006, 40, 1007, 763, 764, 766, 765, 1008, 1009, 1010] (by decide +kernel)
set_option maxRecDepth 20000 in
theorem nl_X6_judge : ∀ w ∈ wsX6_judge, w ∈ lw_tbl := zz_cons (List.mem_of_getElem? (i := 1052) (by decide +kernel)) (zz_app (zz_app zl_wsX6_judge_r1 zl_wsX6_judge_r2) inX6)
set_option maxRecDepth 20000 in
theorem nL_X6_judge : GoodIn lw_tbl (wsV RL 51 RX6 yX6_judge wsX6_judge) := goodIn_sub (zz_app (zz_in [1049, 1050, 1051, 58] (by decide +kernel)) nl_X6_judge) (by decide +kernel)
set_option maxRecDepth 20000 in
theorem zl_wsX5_appeal_r1 : ∀ w ∈ wsX5_appeal_r1, w ∈ lw_tbl := zz_in [254, 228, 182, 563, 187, 530, 531, 532, 54, 533, 224, 223, 558, 523, 524, 56, 525, 180, 183, 186, 490, 491, 492, 493] (by decide +kernel)
set_option maxRecDepth 20000 in
theorem zl_wsX5_appeal_r2 : ∀ w ∈ wsX5_appeal_r2, w ∈ lw_tbl := zz_in [190, 137, 185, 494, 495, 496, 497, 188, 498, 500, 12, 501, 211] (by decide +kernel)
set_option maxRecDepth 20000 in
theorem nl_X5_appeal : ∀ w ∈ wsX5_appeal, w ∈ lw_tbl := zz_cons (List.mem_of_getElem? (i := 562) (by decide +kernel)) (zz_app (zz_app (zz_app (zz_app (zz_app zl_wsX5_appeal_r1 zl_wsX5_appeal_r2) inX5) inX0) inX1) inX3)
set_option maxRecDepth 20000 in
theorem nL_X5_appeal : GoodIn lw_tbl (wsV RL 52 RX5 yX5_appeal wsX5_appeal) := goodIn_sub (zz_app (zz_in [559, 560, 561, 53] (by decide +kernel)) nl_X5_appeal) (by decide +kernel)
set_option maxRecDepth 20000 in
theorem zl_wsX6_appeal_r1 : ∀ w ∈ wsX6_appeal_r1, w ∈ lw_tbl := zz_in [744, 1021, 752, 753, 1041, 1043, 44, 58, 1044, 1045, 1047, 45, 1048, 750, 916, 917, 918, 992, 994, 37, 995, 980, 982, 34] (by decide +kernel)
set_option maxRecDepth 20000 in
theorem zl_wsX6_appeal_r2 : ∀ w ∈ wsX6_appeal_r2, w ∈ lw_tbl := zz_in [983, 754, 984, 986, 35, 987, 988, 990, 36, 991, 996, 998, 38, 999, 1000, 1002, 39, 1003, 762, 768, 767, 1011, 1012, 1004] (by decide +kernel)
set_option maxRecDepth 20000 in
theorem zl_wsX6_appeal_r3 : ∀ w ∈ wsX6_appeal_r3, w ∈ lw_tbl := zz_in [1006, 40, 1007, 763, 764, 766, 765, 1008, 1009, 1010, 1013, 1015, 41, 1016, 749, 1017, 1019, 42, 1020] (by decide +kernel)
set_option maxRecDepth 20000 in
theorem nl_X6_appeal : ∀ w ∈ wsX6_appeal, w ∈ lw_tbl := zz_cons (List.mem_of_getElem? (i := 1060) (by decide +kernel)) (zz_app (zz_app zl_wsX6_appeal_r1 (zz_app zl_wsX6_appeal_r2 zl_wsX6_appeal_r3)) inX6)
set_option maxRecDepth 20000 in
theorem nL_X6_appeal : GoodIn lw_tbl (wsV RL 55 RX6 yX6_appeal wsX6_appeal) := goodIn_sub (zz_app (zz_in [1057, 1058, 1059, 58] (by decide +kernel)) nl_X6_appeal) (by decide +kernel)
set_option maxRecDepth 20000 in
theorem zl_wsX5_out_r1 : ∀ w ∈ wsX5_out_r1, w ∈ lw_tbl := zz_in [254, 228, 530, 531, 532, 54, 533, 224, 223, 568, 569, 570, 571, 181, 190, 137, 522, 523, 524, 56, 525, 180, 183, 186] (by decide +kernel)
set_option maxRecDepth 20000 in
theorem zl_wsX5_out_r2 : ∀ w ∈ wsX5_out_r2, w ∈ lw_tbl := zz_in [572, 573, 574, 575, 217, 450, 451, 452, 453, 454, 178, 172, 174, 176, 484, 485, 65, 486, 487, 488, 489, 455, 456, 457] (by decide +kernel)
set_option maxRecDepth 20000 in
theorem zl_wsX5_out_r3 : ∀ w ∈ wsX5_out_r3, w ∈ lw_tbl := zz_in [55, 458, 88, 90, 459, 461, 10, 462, 92, 93, 95, 94, 96, 463, 464, 465, 466, 467, 64, 468, 469, 470, 471, 472] (by decide +kernel)
set_option maxRecDepth 20000 in
theorem zl_wsX5_out_r4 : ∀ w ∈ wsX5_out_r4, w ∈ lw_tbl := zz_in [473, 474, 475, 477, 11, 478, 91, 479, 480, 481, 482, 483, 521, 491, 492, 493, 185, 494, 495, 496, 497, 188, 498, 500] (by decide +kernel)
set_option maxRecDepth 20000 in
theorem zl_wsX5_out_r5 : ∀ w ∈ wsX5_out_r5, w ∈ lw_tbl := zz_in [12, 501, 211] (by decide +kernel)
set_option maxRecDepth 20000 in
theorem nl_X5_out : ∀ w ∈ wsX5_out, w ∈ lw_tbl := zz_cons (List.mem_of_getElem? (i := 567) (by decide +kernel)) (zz_app (zz_app (zz_app (zz_app (zz_app (zz_app zl_wsX5_out_r1 (zz_app zl_wsX5_out_r2 (zz_app zl_wsX5_out_r3 (zz_app zl_wsX5_out_r4 zl_wsX5_out_r5)))) inX5) inX0) inX1) inX3) inX2)
set_option maxRecDepth 20000 in
theorem nL_X5_out : GoodIn lw_tbl (wsV RL 56 RX5 yX5_out wsX5_out) := goodIn_sub (zz_app (zz_in [564, 565, 566, 53] (by decide +kernel)) nl_X5_out) (by decide +kernel)
set_option maxRecDepth 20000 in
theorem zl_wsX6_out_r1 : ∀ w ∈ wsX6_out_r1, w ∈ lw_tbl := zz_in [744, 752, 754, 753, 1045, 1047, 45, 58, 1048, 750, 916, 917, 918, 1041, 1043, 44, 1044, 992, 994, 37, 995, 980, 982, 34] (by decide +kernel)
set_option maxRecDepth 20000 in
theorem zl_wsX6_out_r2 : ∀ w ∈ wsX6_out_r2, w ∈ lw_tbl := zz_in [983, 984, 986, 35, 987, 988, 990, 36, 991, 996, 998, 38, 999, 1000, 1002, 39, 1003, 762, 768, 767, 1011, 1012, 1004, 1006] (by decide +kernel)
set_option maxRecDepth 20000 in
theorem zl_wsX6_out_r3 : ∀ w ∈ wsX6_out_r3, w ∈ lw_tbl := zz_in [40, 1007, 763, 764, 766, 765, 1008, 1009, 1010, 1013, 1015, 41, 1016, 749, 1017, 1019, 42, 1020, 1021] (by decide +kernel)
set_option maxRecDepth 20000 in
theorem nl_X6_out : ∀ w ∈ wsX6_out, w ∈ lw_tbl := zz_cons (List.mem_of_getElem? (i := 1064) (by decide +kernel)) (zz_app (zz_app zl_wsX6_out_r1 (zz_app zl_wsX6_out_r2 zl_wsX6_out_r3)) inX6)
set_option maxRecDepth 20000 in
theorem nL_X6_out : GoodIn lw_tbl (wsV RL 60 RX6 yX6_out wsX6_out) := goodIn_sub (zz_app (zz_in [1061, 1062, 1063, 58] (by decide +kernel)) nl_X6_out) (by decide +kernel)
set_option maxRecDepth 20000 in
theorem zl_wsX5_points_r1 : ∀ w ∈ wsX5_points_r1, w ∈ lw_tbl := zz_in [254, 218, 510, 511, 53, 512, 580, 456, 457, 55, 458, 88, 90, 459, 461, 10, 462, 92, 93, 95, 94, 96, 463, 464] (by decide +kernel)
set_option maxRecDepth 20000 in
theorem zl_wsX5_points_r2 : ∀ w ∈ wsX5_points_r2, w ∈ lw_tbl := zz_in [465, 466, 467, 64, 468, 469, 470, 471, 472, 473, 474, 475, 477, 11, 478, 91, 479, 480, 481, 482, 65, 483] (by decide +kernel)
set_option maxRecDepth 20000 in
theorem nl_X5_points : ∀ w ∈ wsX5_points, w ∈ lw_tbl := zz_cons (List.mem_of_getElem? (i := 579) (by decide +kernel)) (zz_app (zz_app (zz_app (zz_app zl_wsX5_points_r1 zl_wsX5_points_r2) inX5) inX0) inX2)
set_option maxRecDepth 20000 in
theorem nL_X5_points : GoodIn lw_tbl (wsV RL 61 RX5 yX5_points wsX5_points) := goodIn_sub (zz_app (zz_in [576, 577, 578, 53] (by decide +kernel)) nl_X5_points) (by decide +kernel)
set_option maxRecDepth 20000 in
theorem zl_wsX6_points_r1 : ∀ w ∈ wsX6_points_r1, w ∈ lw_tbl := zz_in [744, 1034, 1035, 58, 1036, 916, 917, 918, 1000, 1002, 39, 1003, 762, 768, 767, 1011, 1012, 1004, 1006, 40, 1007, 763, 764, 766] (by decide +kernel)
set_option maxRecDepth 20000 in
theorem zl_wsX6_points_r2 : ∀ w ∈ wsX6_points_r2, w ∈ lw_tbl := zz_in [765, 1008, 1009, 1010] (by decide +kernel)
set_option maxRecDepth 20000 in
theorem nl_X6_points : ∀ w ∈ wsX6_points, w ∈ lw_tbl := zz_cons (List.mem_of_getElem? (i := 1068) (by decide +kernel)) (zz_app (zz_app zl_wsX6_points_r1 zl_wsX6_points_r2) inX6)
set_option maxRecDepth 20000 in
theorem nL_X6_points : GoodIn lw_tbl (wsV RL 65 RX6 yX6_points wsX6_points) := goodIn_sub (zz_app (zz_in [1065, 1066, 1067, 58] (by decide +kernel)) nl_X6_points) (by decide +kernel)
