set_option maxRecDepth 20000 in
theorem zl_wsX5_grid_r1 : ∀ w ∈ wsX5_grid_r1, w ∈ lw_tbl := zz_in [254, 216, 228, 293, 294, 59, 214, 256, 218, 89, 289, 290, 291, 54, 292, 219, 221, 295, 296, 297, 298, 73, 74, 307] (by decide +kernel)
set_option maxRecDepth 20000 in
theorem zl_wsX5_grid_r2 : ∀ w ∈ wsX5_grid_r2, w ∈ lw_tbl := zz_in [299, 300, 301, 326, 327, 328, 329, 304, 305, 302, 330, 331, 332, 55, 333, 88, 92, 334, 336, 0, 337, 303, 338, 339] (by decide +kernel)
set_option maxRecDepth 20000 in
theorem zl_wsX5_grid_r3 : ∀ w ∈ wsX5_grid_r3, w ∈ lw_tbl := zz_in [340, 341, 343, 1, 344, 345, 347, 2, 348, 350, 352, 3, 353, 354, 356, 4, 357, 358, 359, 360, 60, 361, 1147, 362] (by decide +kernel)
set_option maxRecDepth 20000 in
theorem zl_wsX5_grid_r4 : ∀ w ∈ wsX5_grid_r4, w ∈ lw_tbl := zz_in [363, 364, 365, 366, 1148, 368, 369, 370, 371, 372, 373, 374, 375, 376, 377, 61, 378, 379, 380, 381, 382, 384, 385, 62] (by decide +kernel)
set_option maxRecDepth 20000 in
theorem zl_wsX5_grid_r5 : ∀ w ∈ wsX5_grid_r5, w ∈ lw_tbl := zz_in [386, 387, 388, 63, 389, 390, 391, 392, 393, 394, 395, 396, 397, 398, 399, 400, 402, 404, 406, 408, 5, 409, 411, 413] (by decide +kernel)
set_option maxRecDepth 20000 in
theorem zl_wsX5_grid_r6 : ∀ w ∈ wsX5_grid_r6, w ∈ lw_tbl := zz_in [6, 414, 421, 423, 7, 424, 425, 426, 427, 428, 93, 94, 95, 96, 430, 432, 8, 433, 434, 436, 9, 437, 442, 443] (by decide +kernel)
set_option maxRecDepth 20000 in
theorem zl_wsX5_grid_r7 : ∀ w ∈ wsX5_grid_r7, w ∈ lw_tbl := zz_in [444, 445, 90, 91, 446, 447, 448, 449, 217, 223, 450, 451, 452, 56, 453, 180, 454, 183, 186, 178, 172, 174, 176, 484] (by decide +kernel)
set_option maxRecDepth 20000 in
theorem zl_wsX5_grid_r8 : ∀ w ∈ wsX5_grid_r8, w ∈ lw_tbl := zz_in [485, 65, 486, 487, 488, 489, 455, 456, 457, 458, 459, 461, 10, 462, 463, 464, 465, 466, 467, 64, 468, 469, 470, 471] (by decide +kernel)
set_option maxRecDepth 20000 in
theorem zl_wsX5_grid_r9 : ∀ w ∈ wsX5_grid_r9, w ∈ lw_tbl := zz_in [472, 473, 474, 475, 477, 11, 478, 479, 480, 481, 482, 483, 490, 491, 492, 493, 190, 137, 185, 494, 495, 496, 497, 188] (by decide +kernel)
set_option maxRecDepth 20000 in
theorem zl_wsX5_grid_r10 : ∀ w ∈ wsX5_grid_r10, w ∈ lw_tbl := zz_in [498, 500, 12, 501, 211] (by decide +kernel)
set_option maxRecDepth 20000 in
theorem nl_X5_grid : ∀ w ∈ wsX5_grid, w ∈ lw_tbl := zz_cons (List.mem_of_getElem? (i := 288) (by decide +kernel)) (zz_app (zz_app (zz_app (zz_app (zz_app (zz_app (zz_app zl_wsX5_grid_r1 (zz_app zl_wsX5_grid_r2 (zz_app zl_wsX5_grid_r3 (zz_app zl_wsX5_grid_r4 (zz_app zl_wsX5_grid_r5 (zz_app zl_wsX5_grid_r6 (zz_app zl_wsX5_grid_r7 (zz_app zl_wsX5_grid_r8 (zz_app zl_wsX5_grid_r9 zl_wsX5_grid_r10))))))))) inX5) inX0) inX4) inX2) inX1) inX3)
set_option maxRecDepth 20000 in
theorem nL_X5_grid : GoodIn lw_tbl (wsV RL 30 RX5 yX5_grid wsX5_grid) := goodIn_sub (zz_app (zz_in [285, 286, 287, 53] (by decide +kernel)) nl_X5_grid) (by decide +kernel)
set_option maxRecDepth 20000 in
theorem zl_wsX6_grid_r1 : ∀ w ∈ wsX6_grid_r1, w ∈ lw_tbl := zz_in [744, 746, 770, 747, 748, 752, 769, 775, 776, 778, 772, 777, 923, 925, 23, 58, 926, 771, 773, 774, 927, 929, 24, 930] (by decide +kernel)
set_option maxRecDepth 20000 in
theorem zl_wsX6_grid_r2 : ∀ w ∈ wsX6_grid_r2, w ∈ lw_tbl := zz_in [745, 916, 917, 918, 931, 933, 25, 934, 779, 939, 959, 783, 968, 969, 970, 971, 784, 935, 937, 26, 938, 940, 942, 27] (by decide +kernel)
set_option maxRecDepth 20000 in
theorem zl_wsX6_grid_r3 : ∀ w ∈ wsX6_grid_r3, w ∈ lw_tbl := zz_in [943, 944, 946, 28, 947, 948, 949, 950, 951, 952, 953, 954, 780, 781, 782, 955, 957, 29, 958, 960, 962, 30, 963, 964] (by decide +kernel)
set_option maxRecDepth 20000 in
theorem zl_wsX6_grid_r4 : ∀ w ∈ wsX6_grid_r4, w ∈ lw_tbl := zz_in [966, 31, 967, 972, 974, 32, 975, 762, 785, 786, 763, 790, 767, 791, 768, 787, 764, 788, 765, 789, 766, 976, 978, 33] (by decide +kernel)
set_option maxRecDepth 20000 in
theorem zl_wsX6_grid_r5 : ∀ w ∈ wsX6_grid_r5, w ∈ lw_tbl := zz_in [979, 980, 982, 34, 983, 750, 754, 984, 986, 35, 987, 988, 990, 36, 991, 992, 994, 37, 995, 753, 996, 998, 38, 999] (by decide +kernel)
set_option maxRecDepth 20000 in
theorem zl_wsX6_grid_r6 : ∀ w ∈ wsX6_grid_r6, w ∈ lw_tbl := zz_in [1000, 1002, 39, 1003, 1011, 1012, 1004, 1006, 40, 1007, 1008, 1009, 1010, 1013, 1015, 41, 1016, 749, 1017, 1019, 42, 1020, 1021, 1022] (by decide +kernel)
set_option maxRecDepth 20000 in
theorem zl_wsX6_grid_r7 : ∀ w ∈ wsX6_grid_r7, w ∈ lw_tbl := zz_in [1024, 43, 1025] (by decide +kernel)
set_option maxRecDepth 20000 in
theorem nl_X6_grid : ∀ w ∈ wsX6_grid, w ∈ lw_tbl := zz_cons (List.mem_of_getElem? (i := 922) (by decide +kernel)) (zz_app (zz_app zl_wsX6_grid_r1 (zz_app zl_wsX6_grid_r2 (zz_app zl_wsX6_grid_r3 (zz_app zl_wsX6_grid_r4 (zz_app zl_wsX6_grid_r5 (zz_app zl_wsX6_grid_r6 zl_wsX6_grid_r7)))))) inX6)
set_option maxRecDepth 20000 in
theorem nL_X6_grid : GoodIn lw_tbl (wsV RL 34 RX6 yX6_grid wsX6_grid) := goodIn_sub (zz_app (zz_in [919, 920, 921, 58] (by decide +kernel)) nl_X6_grid) (by decide +kernel)
set_option maxRecDepth 20000 in
theorem nl_X5_fault : ∀ w ∈ wsX5_fault, w ∈ lw_tbl := zz_cons (List.mem_of_getElem? (i := 505) (by decide +kernel)) (zz_app (zz_app (zz_in [254, 220, 222] (by decide +kernel)) inX5) inX0)
set_option maxRecDepth 20000 in
theorem nL_X5_fault : GoodIn lw_tbl (wsV RL 35 RX5 yX5_fault wsX5_fault) := goodIn_sub (zz_app (zz_in [502, 503, 504, 53] (by decide +kernel)) nl_X5_fault) (by decide +kernel)
set_option maxRecDepth 20000 in
theorem nl_X6_fault : ∀ w ∈ wsX6_fault, w ∈ lw_tbl := zz_cons (List.mem_of_getElem? (i := 1029) (by decide +kernel)) (zz_app (zz_in [744, 747, 748] (by decide +kernel)) inX6)
set_option maxRecDepth 20000 in
theorem nL_X6_fault : GoodIn lw_tbl (wsV RL 38 RX6 yX6_fault wsX6_fault) := goodIn_sub (zz_app (zz_in [1026, 1027, 1028, 58] (by decide +kernel)) nl_X6_fault) (by decide +kernel)
set_option maxRecDepth 20000 in
theorem zl_wsX5_claim_r1 : ∀ w ∈ wsX5_claim_r1, w ∈ lw_tbl := zz_in [254, 228, 510, 511, 53, 512, 513, 514, 515, 54, 516, 224, 223, 217, 517, 518, 519, 56, 520, 169, 172, 174, 176, 178] (by decide +kernel)
set_option maxRecDepth 20000 in
theorem zl_wsX5_claim_r2 : ∀ w ∈ wsX5_claim_r2, w ∈ lw_tbl := zz_in [180, 450, 451, 452, 453, 454, 183, 186, 484, 485, 65, 486, 487, 488, 489, 455, 456, 457, 55, 458, 88, 90, 459, 461] (by decide +kernel)
set_option maxRecDepth 20000 in
theorem zl_wsX5_claim_r3 : ∀ w ∈ wsX5_claim_r3, w ∈ lw_tbl := zz_in [10, 462, 92, 93, 95, 94, 96, 463, 464, 465, 466, 467, 64, 468, 469, 470, 471, 472, 473, 474, 475, 477, 11, 478] (by decide +kernel)
set_option maxRecDepth 20000 in
theorem zl_wsX5_claim_r4 : ∀ w ∈ wsX5_claim_r4, w ∈ lw_tbl := zz_in [91, 479, 480, 481, 482, 483, 521, 491, 492, 493, 190, 137, 185, 494, 495, 496, 497, 188, 498, 500, 12, 501, 211, 522] (by decide +kernel)
set_option maxRecDepth 20000 in
theorem zl_wsX5_claim_r5 : ∀ w ∈ wsX5_claim_r5, w ∈ lw_tbl := zz_in [523, 524, 525] (by decide +kernel)
set_option maxRecDepth 20000 in
theorem nl_X5_claim : ∀ w ∈ wsX5_claim, w ∈ lw_tbl := zz_cons (List.mem_of_getElem? (i := 509) (by decide +kernel)) (zz_app (zz_app (zz_app (zz_app (zz_app (zz_app zl_wsX5_claim_r1 (zz_app zl_wsX5_claim_r2 (zz_app zl_wsX5_claim_r3 (zz_app zl_wsX5_claim_r4 zl_wsX5_claim_r5)))) inX5) inX0) inX1) inX2) inX3)
set_option maxRecDepth 20000 in
theorem nL_X5_claim : GoodIn lw_tbl (wsV RL 39 RX5 yX5_claim wsX5_claim) := goodIn_sub (zz_app (zz_in [506, 507, 508, 53] (by decide +kernel)) nl_X5_claim) (by decide +kernel)
set_option maxRecDepth 20000 in
theorem zl_wsX6_claim_r1 : ∀ w ∈ wsX6_claim_r1, w ∈ lw_tbl := zz_in [744, 750, 752, 753, 754, 755, 756, 916, 917, 58, 918, 1034, 1035, 1036, 980, 982, 34, 983, 984, 986, 35, 987, 988, 990] (by decide +kernel)
set_option maxRecDepth 20000 in
theorem zl_wsX6_claim_r2 : ∀ w ∈ wsX6_claim_r2, w ∈ lw_tbl := zz_in [36, 991, 992, 994, 37, 995, 996, 998, 38, 999, 1000, 1002, 39, 1003, 762, 768, 767, 1011, 1012, 1004, 1006, 40, 1007, 763] (by decide +kernel)
set_option maxRecDepth 20000 in
theorem zl_wsX6_claim_r3 : ∀ w ∈ wsX6_claim_r3, w ∈ lw_tbl := zz_in [764, 766, 765, 1008, 1009, 1010, 1013, 1015, 41, 1016, 749, 1017, 1019, 42, 1020, 1021] (by decide +kernel)
set_option maxRecDepth 20000 in
theorem nl_X6_claim : ∀ w ∈ wsX6_claim, w ∈ lw_tbl := zz_cons (List.mem_of_getElem? (i := 1033) (by decide +kernel)) (zz_app (zz_app zl_wsX6_claim_r1 (zz_app zl_wsX6_claim_r2 zl_wsX6_claim_r3)) inX6)
set_option maxRecDepth 20000 in
theorem nL_X6_claim : GoodIn lw_tbl (wsV RL 42 RX6 yX6_claim wsX6_claim) := goodIn_sub (zz_app (zz_in [1030, 1031, 1032, 58] (by decide +kernel)) nl_X6_claim) (by decide +kernel)
set_option maxRecDepth 20000 in
theorem zl_wsX5_paper_r1 : ∀ w ∈ wsX5_paper_r1, w ∈ lw_tbl := zz_in [254, 228, 179, 218, 530, 531, 532, 54, 533, 224, 223, 534, 535, 536, 56, 537, 180, 178, 538, 451, 452, 453, 454, 183] (by decide +kernel)
set_option maxRecDepth 20000 in
theorem zl_wsX5_paper_r2 : ∀ w ∈ wsX5_paper_r2, w ∈ lw_tbl := zz_in [186, 172, 174, 176, 484, 485, 65, 486, 487, 488, 489, 455, 456, 457, 55, 458, 88, 90, 459, 461, 10, 462, 92, 93] (by decide +kernel)
set_option maxRecDepth 20000 in
theorem zl_wsX5_paper_r3 : ∀ w ∈ wsX5_paper_r3, w ∈ lw_tbl := zz_in [95, 94, 96, 463, 464, 465, 466, 467, 64, 468, 469, 470, 471, 472, 473, 474, 475, 477, 11, 478, 91, 479, 480, 481] (by decide +kernel)
set_option maxRecDepth 20000 in
theorem zl_wsX5_paper_r4 : ∀ w ∈ wsX5_paper_r4, w ∈ lw_tbl := zz_in [482, 483] (by decide +kernel)
set_option maxRecDepth 20000 in
theorem nl_X5_paper : ∀ w ∈ wsX5_paper, w ∈ lw_tbl := zz_cons (List.mem_of_getElem? (i := 529) (by decide +kernel)) (zz_app (zz_app (zz_app (zz_app (zz_app zl_wsX5_paper_r1 (zz_app zl_wsX5_paper_r2 (zz_app zl_wsX5_paper_r3 zl_wsX5_paper_r4))) inX5) inX0) inX1) inX2)
set_option maxRecDepth 20000 in
theorem nL_X5_paper : GoodIn lw_tbl (wsV RL 43 RX5 yX5_paper wsX5_paper) := goodIn_sub (zz_app (zz_in [526, 527, 528, 53] (by decide +kernel)) nl_X5_paper) (by decide +kernel)
set_option maxRecDepth 20000 in
theorem nl_X6_paper : ∀ w ∈ wsX6_paper, w ∈ lw_tbl := zz_cons (List.mem_of_getElem? (i := 1040) (by decide +kernel)) (zz_app (zz_in [744, 752, 753, 1041, 1043, 44, 58, 1044, 1045, 1047, 45, 1048, 750, 916, 917, 918, 992, 994, 37, 995] (by decide +kernel)) inX6)
set_option maxRecDepth 20000 in
theorem nL_X6_paper : GoodIn lw_tbl (wsV RL 47 RX6 yX6_paper wsX6_paper) := goodIn_sub (zz_app (zz_in [1037, 1038, 1039, 58] (by decide +kernel)) nl_X6_paper) (by decide +kernel)
