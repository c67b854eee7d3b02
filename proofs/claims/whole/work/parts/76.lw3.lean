set_option maxRecDepth 20000 in
theorem zl_wsX5_lacks_r1 : ∀ w ∈ wsX5_lacks_r1, w ∈ lw_tbl := zz_in [254, 585, 218, 179, 530, 531, 532, 54, 533, 224, 223, 534, 535, 536, 56, 537, 180, 178, 554, 555, 556, 557, 172, 174] (by decide +kernel)
set_option maxRecDepth 20000 in
theorem zl_wsX5_lacks_r2 : ∀ w ∈ wsX5_lacks_r2, w ∈ lw_tbl := zz_in [176, 455, 456, 457, 55, 458, 88, 90, 459, 461, 10, 462, 92, 93, 95, 94, 96, 463, 464, 465, 466, 467, 64, 468] (by decide +kernel)
set_option maxRecDepth 20000 in
theorem zl_wsX5_lacks_r3 : ∀ w ∈ wsX5_lacks_r3, w ∈ lw_tbl := zz_in [469, 470, 471, 472, 473, 474, 475, 477, 11, 478, 91, 479, 480, 481, 482, 65, 483] (by decide +kernel)
set_option maxRecDepth 20000 in
theorem nl_X5_lacks : ∀ w ∈ wsX5_lacks, w ∈ lw_tbl := zz_cons (List.mem_of_getElem? (i := 584) (by decide +kernel)) (zz_app (zz_app (zz_app (zz_app (zz_app zl_wsX5_lacks_r1 (zz_app zl_wsX5_lacks_r2 zl_wsX5_lacks_r3)) inX5) inX0) inX1) inX2)
set_option maxRecDepth 20000 in
theorem nL_X5_lacks : GoodIn lw_tbl (wsV RL 66 RX5 yX5_lacks wsX5_lacks) := goodIn_sub (zz_app (zz_in [581, 582, 583, 53] (by decide +kernel)) nl_X5_lacks) (by decide +kernel)
set_option maxRecDepth 20000 in
theorem zl_wsX6_lacks_r1 : ∀ w ∈ wsX6_lacks_r1, w ∈ lw_tbl := zz_in [744, 1073, 1041, 1043, 44, 58, 1044, 1045, 1047, 45, 1048, 750, 916, 917, 918, 992, 994, 37, 995, 753, 996, 998, 38, 999] (by decide +kernel)
set_option maxRecDepth 20000 in
theorem zl_wsX6_lacks_r2 : ∀ w ∈ wsX6_lacks_r2, w ∈ lw_tbl := zz_in [1000, 1002, 39, 1003, 762, 768, 767, 1011, 1012, 1004, 1006, 40, 1007, 763, 764, 766, 765, 1008, 1009, 1010] (by decide +kernel)
set_option maxRecDepth 20000 in
theorem nl_X6_lacks : ∀ w ∈ wsX6_lacks, w ∈ lw_tbl := zz_cons (List.mem_of_getElem? (i := 1072) (by decide +kernel)) (zz_app (zz_app zl_wsX6_lacks_r1 zl_wsX6_lacks_r2) inX6)
set_option maxRecDepth 20000 in
theorem nL_X6_lacks : GoodIn lw_tbl (wsV RL 70 RX6 yX6_lacks wsX6_lacks) := goodIn_sub (zz_app (zz_in [1069, 1070, 1071, 58] (by decide +kernel)) nl_X6_lacks) (by decide +kernel)
set_option maxRecDepth 20000 in
theorem zl_wsX5_tell_r1 : ∀ w ∈ wsX5_tell_r1, w ∈ lw_tbl := zz_in [254, 171, 173, 175, 177, 179, 182, 184, 187, 191, 131, 133, 135, 530, 531, 532, 54, 533, 224, 223, 590, 591, 592, 593] (by decide +kernel)
set_option maxRecDepth 20000 in
theorem zl_wsX5_tell_r2 : ∀ w ∈ wsX5_tell_r2, w ∈ lw_tbl := zz_in [547, 548, 549, 170, 550, 551, 552, 56, 553, 180] (by decide +kernel)
set_option maxRecDepth 20000 in
theorem nl_X5_tell : ∀ w ∈ wsX5_tell, w ∈ lw_tbl := zz_cons (List.mem_of_getElem? (i := 589) (by decide +kernel)) (zz_app (zz_app (zz_app (zz_app (zz_app zl_wsX5_tell_r1 zl_wsX5_tell_r2) inX5) inX1) inX3) inX0)
set_option maxRecDepth 20000 in
theorem nL_X5_tell : GoodIn lw_tbl (wsV RL 71 RX5 yX5_tell wsX5_tell) := goodIn_sub (zz_app (zz_in [586, 587, 588, 53] (by decide +kernel)) nl_X5_tell) (by decide +kernel)
set_option maxRecDepth 20000 in
theorem zl_wsX6_tell_r1 : ∀ w ∈ wsX6_tell_r1, w ∈ lw_tbl := zz_in [744, 1045, 1047, 45, 58, 1048, 750, 916, 917, 918, 992, 994, 37, 995, 753, 1017, 1019, 42, 1020, 1021, 996, 998, 38, 999] (by decide +kernel)
set_option maxRecDepth 20000 in
theorem zl_wsX6_tell_r2 : ∀ w ∈ wsX6_tell_r2, w ∈ lw_tbl := zz_in [1000, 1002, 39, 1003, 762, 768, 767, 1011, 1012, 1004, 1006, 40, 1007, 763, 764, 766, 765, 1008, 1009, 1010, 988, 990, 36, 991] (by decide +kernel)
set_option maxRecDepth 20000 in
theorem zl_wsX6_tell_r3 : ∀ w ∈ wsX6_tell_r3, w ∈ lw_tbl := zz_in [1041, 1043, 44, 1044, 1053, 1055, 46, 1056] (by decide +kernel)
set_option maxRecDepth 20000 in
theorem nl_X6_tell : ∀ w ∈ wsX6_tell, w ∈ lw_tbl := zz_cons (List.mem_of_getElem? (i := 1077) (by decide +kernel)) (zz_app (zz_app zl_wsX6_tell_r1 (zz_app zl_wsX6_tell_r2 zl_wsX6_tell_r3)) inX6)
set_option maxRecDepth 20000 in
theorem nL_X6_tell : GoodIn lw_tbl (wsV RL 74 RX6 yX6_tell wsX6_tell) := goodIn_sub (zz_app (zz_in [1074, 1075, 1076, 58] (by decide +kernel)) nl_X6_tell) (by decide +kernel)
set_option maxRecDepth 20000 in
theorem zl_wsX5_money_r1 : ∀ w ∈ wsX5_money_r1, w ∈ lw_tbl := zz_in [254, 598, 191, 530, 531, 532, 54, 533, 224, 223, 599, 600, 601, 602, 185, 494, 495, 496, 497, 188, 498, 500, 12, 501] (by decide +kernel)
set_option maxRecDepth 20000 in
theorem zl_wsX5_money_r2 : ∀ w ∈ wsX5_money_r2, w ∈ lw_tbl := zz_in [211, 603, 604, 605, 57, 606, 132, 142, 607, 134, 144, 136, 138, 139, 608, 610, 13, 611, 612, 614, 14, 615] (by decide +kernel)
set_option maxRecDepth 20000 in
theorem nl_X5_money : ∀ w ∈ wsX5_money, w ∈ lw_tbl := zz_cons (List.mem_of_getElem? (i := 597) (by decide +kernel)) (zz_app (zz_app (zz_app (zz_app (zz_app zl_wsX5_money_r1 zl_wsX5_money_r2) inX5) inX1) inX0) inX3)
set_option maxRecDepth 20000 in
theorem nL_X5_money : GoodIn lw_tbl (wsV RL 75 RX5 yX5_money wsX5_money) := goodIn_sub (zz_app (zz_in [594, 595, 596, 53] (by decide +kernel)) nl_X5_money) (by decide +kernel)
set_option maxRecDepth 20000 in
theorem zl_wsX6_money_r1 : ∀ w ∈ wsX6_money_r1, w ∈ lw_tbl := zz_in [744, 1082, 754, 755, 756, 759, 761, 1045, 1047, 45, 58, 1048, 750, 916, 917, 918, 984, 986, 35, 987, 988, 990, 36, 991] (by decide +kernel)
set_option maxRecDepth 20000 in
theorem zl_wsX6_money_r2 : ∀ w ∈ wsX6_money_r2, w ∈ lw_tbl := zz_in [992, 994, 37, 995, 753, 996, 998, 38, 999, 1000, 1002, 39, 1003, 762, 768, 767, 1011, 1012, 1004, 1006, 40, 1007, 763, 764] (by decide +kernel)
set_option maxRecDepth 20000 in
theorem zl_wsX6_money_r3 : ∀ w ∈ wsX6_money_r3, w ∈ lw_tbl := zz_in [766, 765, 1008, 1009, 1010, 1013, 1015, 41, 1016, 749, 1017, 1019, 42, 1020, 1021, 1083, 1085, 47, 1086] (by decide +kernel)
set_option maxRecDepth 20000 in
theorem nl_X6_money : ∀ w ∈ wsX6_money, w ∈ lw_tbl := zz_cons (List.mem_of_getElem? (i := 1081) (by decide +kernel)) (zz_app (zz_app zl_wsX6_money_r1 (zz_app zl_wsX6_money_r2 zl_wsX6_money_r3)) inX6)
set_option maxRecDepth 20000 in
theorem nL_X6_money : GoodIn lw_tbl (wsV RL 79 RX6 yX6_money wsX6_money) := goodIn_sub (zz_app (zz_in [1078, 1079, 1080, 58] (by decide +kernel)) nl_X6_money) (by decide +kernel)
set_option maxRecDepth 20000 in
theorem nl_X5_fee : ∀ w ∈ wsX5_fee, w ∈ lw_tbl := zz_cons (List.mem_of_getElem? (i := 619) (by decide +kernel)) (zz_app (zz_app (zz_app (zz_app (zz_in [254, 228, 191, 131, 530, 531, 532, 54, 533, 224, 223] (by decide +kernel)) inX5) inX0) inX1) inX3)
set_option maxRecDepth 20000 in
theorem nL_X5_fee : GoodIn lw_tbl (wsV RL 80 RX5 yX5_fee wsX5_fee) := goodIn_sub (zz_app (zz_in [616, 617, 618, 53] (by decide +kernel)) nl_X5_fee) (by decide +kernel)
set_option maxRecDepth 20000 in
theorem nl_X6_fee : ∀ w ∈ wsX6_fee, w ∈ lw_tbl := zz_cons (List.mem_of_getElem? (i := 1090) (by decide +kernel)) (zz_app (zz_in [744, 752, 753, 1045, 1047, 45, 58, 1048, 750, 916, 917, 918] (by decide +kernel)) inX6)
set_option maxRecDepth 20000 in
theorem nL_X6_fee : GoodIn lw_tbl (wsV RL 83 RX6 yX6_fee wsX6_fee) := goodIn_sub (zz_app (zz_in [1087, 1088, 1089, 58] (by decide +kernel)) nl_X6_fee) (by decide +kernel)
