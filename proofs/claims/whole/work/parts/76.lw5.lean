set_option maxRecDepth 20000 in
theorem nl_X5_sum : ∀ w ∈ wsX5_sum, w ∈ lw_tbl := zz_cons (List.mem_of_getElem? (i := 698) (by decide +kernel)) (zz_app (zz_app (zz_app (zz_app (zz_in [254, 212, 598, 269, 270, 271, 54, 272, 223, 190, 137, 699, 495, 496, 497, 188, 700, 701, 702, 703, 185] (by decide +kernel)) inX5) inX0) inX1) inX3)
set_option maxRecDepth 20000 in
theorem nL_X5_sum : GoodIn lw_tbl (wsV RL 103 RX5 yX5_sum wsX5_sum) := goodIn_sub (zz_app (zz_in [695, 696, 697, 53] (by decide +kernel)) nl_X5_sum) (by decide +kernel)
set_option maxRecDepth 20000 in
theorem zl_wsX6_sum_r1 : ∀ w ∈ wsX6_sum_r1, w ∈ lw_tbl := zz_in [744, 749, 750, 1082, 900, 902, 21, 58, 903, 754, 984, 986, 35, 987, 988, 990, 36, 991, 992, 994, 37, 995, 753, 996] (by decide +kernel)
set_option maxRecDepth 20000 in
theorem zl_wsX6_sum_r2 : ∀ w ∈ wsX6_sum_r2, w ∈ lw_tbl := zz_in [998, 38, 999, 1000, 1002, 39, 1003, 762, 768, 767, 1011, 1012, 1004, 1006, 40, 1007, 763, 764, 766, 765, 1008, 1009, 1010, 1017] (by decide +kernel)
set_option maxRecDepth 20000 in
theorem zl_wsX6_sum_r3 : ∀ w ∈ wsX6_sum_r3, w ∈ lw_tbl := zz_in [1019, 42, 1020, 1021] (by decide +kernel)
set_option maxRecDepth 20000 in
theorem nl_X6_sum : ∀ w ∈ wsX6_sum, w ∈ lw_tbl := zz_cons (List.mem_of_getElem? (i := 1119) (by decide +kernel)) (zz_app (zz_app zl_wsX6_sum_r1 (zz_app zl_wsX6_sum_r2 zl_wsX6_sum_r3)) inX6)
set_option maxRecDepth 20000 in
theorem nL_X6_sum : GoodIn lw_tbl (wsV RL 106 RX6 yX6_sum wsX6_sum) := goodIn_sub (zz_app (zz_in [1116, 1117, 1118, 58] (by decide +kernel)) nl_X6_sum) (by decide +kernel)
set_option maxRecDepth 20000 in
theorem nl_X5_count : ∀ w ∈ wsX5_count, w ∈ lw_tbl := zz_cons (List.mem_of_getElem? (i := 707) (by decide +kernel)) (zz_app (zz_app (zz_app (zz_app (zz_in [254, 225, 218, 89, 227, 228, 673, 674, 675, 54, 676, 223, 181] (by decide +kernel)) inX5) inX0) inX2) inX1)
set_option maxRecDepth 20000 in
theorem nL_X5_count : GoodIn lw_tbl (wsV RL 107 RX5 yX5_count wsX5_count) := goodIn_sub (zz_app (zz_in [704, 705, 706, 53] (by decide +kernel)) nl_X5_count) (by decide +kernel)
set_option maxRecDepth 20000 in
theorem nl_X6_count : ∀ w ∈ wsX6_count, w ∈ lw_tbl := zz_cons (List.mem_of_getElem? (i := 1123) (by decide +kernel)) (zz_app (zz_in [744, 750, 762, 751, 752, 1112, 1114, 49, 58, 1115, 992, 994, 37, 995, 753] (by decide +kernel)) inX6)
set_option maxRecDepth 20000 in
theorem nL_X6_count : GoodIn lw_tbl (wsV RL 110 RX6 yX6_count wsX6_count) := goodIn_sub (zz_app (zz_in [1120, 1121, 1122, 58] (by decide +kernel)) nl_X6_count) (by decide +kernel)
set_option maxRecDepth 20000 in
theorem zl_wsX5_image_r1 : ∀ w ∈ wsX5_image_r1, w ∈ lw_tbl := zz_in [255, 75, 76, 54, 254, 77, 78, 79, 80, 73, 74, 81, 211, 114, 213, 82, 83, 55, 217, 221, 117, 223, 119, 56] (by decide +kernel)
set_option maxRecDepth 20000 in
theorem zl_wsX5_image_r2 : ∀ w ∈ wsX5_image_r2, w ∈ lw_tbl := zz_in [85, 86, 87, 115, 90, 91, 92, 93, 94, 95, 116, 96, 121, 122, 123, 180, 124, 125, 57, 189, 127, 128, 129, 140] (by decide +kernel)
set_option maxRecDepth 20000 in
theorem zl_wsX5_image_r3 : ∀ w ∈ wsX5_image_r3, w ∈ lw_tbl := zz_in [168, 141, 142, 143, 144, 712, 713, 714, 715, 716, 718, 717, 66, 215, 219, 224, 226, 229, 719, 720, 721, 722, 88, 723] (by decide +kernel)
set_option maxRecDepth 20000 in
theorem zl_wsX5_image_r4 : ∀ w ∈ wsX5_image_r4, w ∈ lw_tbl := zz_in [724, 725, 726, 727, 169, 172, 174, 176, 178, 183, 186, 728, 729, 730, 731, 130, 132, 134, 136, 138, 139, 732] (by decide +kernel)
set_option maxRecDepth 20000 in
theorem nl_X5_image : ∀ w ∈ wsX5_image, w ∈ lw_tbl := zz_cons (List.mem_of_getElem? (i := 711) (by decide +kernel)) (zz_app (zz_app (zz_app (zz_app (zz_app (zz_app zl_wsX5_image_r1 (zz_app zl_wsX5_image_r2 (zz_app zl_wsX5_image_r3 zl_wsX5_image_r4))) inX5) inX0) inX2) inX1) inX3)
set_option maxRecDepth 20000 in
theorem nL_X5_image : GoodIn lw_tbl (wsV RL 111 RX5 yX5_image wsX5_image) := goodIn_sub (zz_app (zz_in [708, 709, 710, 53] (by decide +kernel)) nl_X5_image) (by decide +kernel)
set_option maxRecDepth 20000 in
theorem zl_wsX6_image_r1 : ∀ w ∈ wsX6_image_r1, w ∈ lw_tbl := zz_in [744, 793, 916, 917, 58, 918, 1128, 1130, 50, 1131, 745, 746, 747, 748, 749, 750, 751, 752, 753, 754, 755, 756, 757, 758] (by decide +kernel)
set_option maxRecDepth 20000 in
theorem zl_wsX6_image_r2 : ∀ w ∈ wsX6_image_r2, w ∈ lw_tbl := zz_in [759, 760, 761, 762, 1132, 1133, 1134, 1135, 1136, 1137, 1138, 1140, 51, 1141, 763, 764, 765, 766, 767, 768] (by decide +kernel)
set_option maxRecDepth 20000 in
theorem nl_X6_image : ∀ w ∈ wsX6_image, w ∈ lw_tbl := zz_cons (List.mem_of_getElem? (i := 1127) (by decide +kernel)) (zz_app (zz_app zl_wsX6_image_r1 zl_wsX6_image_r2) inX6)
set_option maxRecDepth 20000 in
theorem nL_X6_image : GoodIn lw_tbl (wsV RL 115 RX6 yX6_image wsX6_image) := goodIn_sub (zz_app (zz_in [1124, 1125, 1126, 58] (by decide +kernel)) nl_X6_image) (by decide +kernel)
set_option maxRecDepth 20000 in
theorem zl_wsX5_again_r1 : ∀ w ∈ wsX5_again_r1, w ∈ lw_tbl := zz_in [255, 254, 712, 713, 714, 54, 715, 211, 213, 716, 718, 717, 66, 215, 217, 219, 221, 223, 224, 226, 229, 719, 720, 721] (by decide +kernel)
set_option maxRecDepth 20000 in
theorem zl_wsX5_again_r2 : ∀ w ∈ wsX5_again_r2, w ∈ lw_tbl := zz_in [55, 722, 88, 90, 723, 91, 92, 93, 94, 95, 96, 724, 725, 726, 56, 727, 169, 172, 174, 176, 178, 180, 183, 186] (by decide +kernel)
set_option maxRecDepth 20000 in
theorem zl_wsX5_again_r3 : ∀ w ∈ wsX5_again_r3, w ∈ lw_tbl := zz_in [189, 728, 729, 730, 57, 731, 130, 132, 134, 136, 138, 139, 140, 732, 141, 142, 143, 144] (by decide +kernel)
set_option maxRecDepth 20000 in
theorem nl_X5_again : ∀ w ∈ wsX5_again, w ∈ lw_tbl := zz_cons (List.mem_of_getElem? (i := 736) (by decide +kernel)) (zz_app (zz_app (zz_app (zz_app (zz_app (zz_app zl_wsX5_again_r1 (zz_app zl_wsX5_again_r2 zl_wsX5_again_r3)) inX5) inX0) inX2) inX1) inX3)
set_option maxRecDepth 20000 in
theorem nL_X5_again : GoodIn lw_tbl (wsV RL 116 RX5 yX5_again wsX5_again) := goodIn_sub (zz_app (zz_in [733, 734, 735, 53] (by decide +kernel)) nl_X5_again) (by decide +kernel)
set_option maxRecDepth 20000 in
theorem zl_wsX6_again_r1 : ∀ w ∈ wsX6_again_r1, w ∈ lw_tbl := zz_in [744, 793, 916, 917, 58, 918, 1128, 1130, 50, 1131, 745, 746, 747, 748, 749, 750, 751, 752, 753, 754, 755, 756, 757, 758] (by decide +kernel)
set_option maxRecDepth 20000 in
theorem zl_wsX6_again_r2 : ∀ w ∈ wsX6_again_r2, w ∈ lw_tbl := zz_in [759, 760, 761, 762, 1132, 1133, 1134, 1135, 1136, 1137, 1138, 1140, 51, 1141, 763, 764, 765, 766, 767, 768] (by decide +kernel)
set_option maxRecDepth 20000 in
theorem nl_X6_again : ∀ w ∈ wsX6_again, w ∈ lw_tbl := zz_cons (List.mem_of_getElem? (i := 1145) (by decide +kernel)) (zz_app (zz_app zl_wsX6_again_r1 zl_wsX6_again_r2) inX6)
set_option maxRecDepth 20000 in
theorem nL_X6_again : GoodIn lw_tbl (wsV RL 119 RX6 yX6_again wsX6_again) := goodIn_sub (zz_app (zz_in [1142, 1143, 1144, 58] (by decide +kernel)) nl_X6_again) (by decide +kernel)
