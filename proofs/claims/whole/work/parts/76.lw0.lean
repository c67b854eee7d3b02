theorem zz_cons {big l : List Cond} {a : Cond} (h : a ∈ big) (hl : ∀ w ∈ l, w ∈ big) : ∀ w ∈ a :: l, w ∈ big := fun w hw => (List.mem_cons.mp hw).elim (fun e => by rw [e]; exact h) (hl w)
set_option maxRecDepth 20000 in
theorem zl_wsX5_init_r1 : ∀ w ∈ wsX5_init_r1, w ∈ lw_tbl := zz_in [72, 73, 74, 75, 76, 54, 254, 255, 252, 83, 55, 256, 77, 78, 79, 80, 81, 211, 114, 213, 82, 217, 221, 117] (by decide +kernel)
set_option maxRecDepth 20000 in
theorem zl_wsX5_init_r2 : ∀ w ∈ wsX5_init_r2, w ∈ lw_tbl := zz_in [223, 119, 56, 85, 86, 87, 115, 90, 91, 92, 93, 94, 95, 116, 96, 121, 122, 123, 180, 124, 125, 57, 189, 127] (by decide +kernel)
set_option maxRecDepth 20000 in
theorem zl_wsX5_init_r3 : ∀ w ∈ wsX5_init_r3, w ∈ lw_tbl := zz_in [128, 129, 140, 168, 141, 142, 143, 144] (by decide +kernel)
set_option maxRecDepth 20000 in
theorem nl_X5_init : ∀ w ∈ wsX5_init, w ∈ lw_tbl := zz_cons (List.mem_of_getElem? (i := 71) (by decide +kernel)) (zz_app (zz_app (zz_app (zz_app (zz_app (zz_app zl_wsX5_init_r1 (zz_app zl_wsX5_init_r2 zl_wsX5_init_r3)) inX0) inX5) inX2) inX1) inX3)
set_option maxRecDepth 20000 in
theorem nL_X5_init : GoodIn lw_tbl wsX5_init := goodIn_sub nl_X5_init (by decide +kernel)
set_option maxRecDepth 20000 in
theorem zl_wsX6_init_r1 : ∀ w ∈ wsX6_init_r1, w ∈ lw_tbl := zz_in [742, 73, 74, 114, 745, 115, 746, 747, 748, 168, 749, 750, 751, 116, 752, 753, 754, 755, 756, 757, 758, 759, 760, 761] (by decide +kernel)
set_option maxRecDepth 20000 in
theorem zl_wsX6_init_r2 : ∀ w ∈ wsX6_init_r2, w ∈ lw_tbl := zz_in [762, 763, 764, 765, 766, 767, 768, 779, 780, 781, 782, 783, 784, 786, 787, 788, 789, 790, 791, 792, 793, 743] (by decide +kernel)
set_option maxRecDepth 20000 in
theorem nl_X6_init : ∀ w ∈ wsX6_init, w ∈ lw_tbl := zz_cons (List.mem_of_getElem? (i := 741) (by decide +kernel)) (zz_app (zz_app zl_wsX6_init_r1 zl_wsX6_init_r2) inX6)
set_option maxRecDepth 20000 in
theorem nL_X6_init : GoodIn lw_tbl wsX6_init := goodIn_sub nl_X6_init (by decide +kernel)
set_option maxRecDepth 20000 in
theorem nl_X5_fund : ∀ w ∈ wsX5_fund, w ∈ lw_tbl := zz_cons (List.mem_of_getElem? (i := 267) (by decide +kernel)) (zz_app (zz_app (zz_app (zz_app (zz_in [254, 228, 268, 212, 269, 270, 271, 54, 272, 223, 190, 137] (by decide +kernel)) inX5) inX0) inX1) inX3)
set_option maxRecDepth 20000 in
theorem nL_X5_fund : GoodIn lw_tbl (wsV RL 15 RX5 yX5_fund wsX5_fund) := goodIn_sub (zz_app (zz_in [264, 265, 266, 53] (by decide +kernel)) nl_X5_fund) (by decide +kernel)
set_option maxRecDepth 20000 in
theorem nl_X6_fund : ∀ w ∈ wsX6_fund, w ∈ lw_tbl := zz_cons (List.mem_of_getElem? (i := 898) (by decide +kernel)) (zz_app (zz_in [744, 899, 752, 749, 900, 902, 21, 58, 903, 750, 754] (by decide +kernel)) inX6)
set_option maxRecDepth 20000 in
theorem nL_X6_fund : GoodIn lw_tbl (wsV RL 19 RX6 yX6_fund wsX6_fund) := goodIn_sub (zz_app (zz_in [895, 896, 897, 58] (by decide +kernel)) nl_X6_fund) (by decide +kernel)
set_option maxRecDepth 20000 in
theorem nl_X5_feed : ∀ w ∈ wsX5_feed, w ∈ lw_tbl := zz_cons (List.mem_of_getElem? (i := 276) (by decide +kernel)) (zz_app (zz_app (zz_in [254, 216, 277, 278, 279, 54, 280, 215, 213] (by decide +kernel)) inX5) inX0)
set_option maxRecDepth 20000 in
theorem nL_X5_feed : GoodIn lw_tbl (wsV RL 20 RX5 yX5_feed wsX5_feed) := goodIn_sub (zz_app (zz_in [273, 274, 275, 53] (by decide +kernel)) nl_X5_feed) (by decide +kernel)
set_option maxRecDepth 20000 in
theorem nl_X6_feed : ∀ w ∈ wsX6_feed, w ∈ lw_tbl := zz_cons (List.mem_of_getElem? (i := 907) (by decide +kernel)) (zz_app (zz_in [744, 746, 908, 910, 22, 58, 911, 745] (by decide +kernel)) inX6)
set_option maxRecDepth 20000 in
theorem nL_X6_feed : GoodIn lw_tbl (wsV RL 24 RX6 yX6_feed wsX6_feed) := goodIn_sub (zz_app (zz_in [904, 905, 906, 58] (by decide +kernel)) nl_X6_feed) (by decide +kernel)
set_option maxRecDepth 20000 in
theorem nl_X5_end : ∀ w ∈ wsX5_end, w ∈ lw_tbl := zz_cons (List.mem_of_getElem? (i := 284) (by decide +kernel)) (zz_app (zz_app (zz_in [254, 216] (by decide +kernel)) inX5) inX0)
set_option maxRecDepth 20000 in
theorem nL_X5_end : GoodIn lw_tbl (wsV RL 25 RX5 yX5_end wsX5_end) := goodIn_sub (zz_app (zz_in [281, 282, 283, 53] (by decide +kernel)) nl_X5_end) (by decide +kernel)
set_option maxRecDepth 20000 in
theorem nl_X6_end : ∀ w ∈ wsX6_end, w ∈ lw_tbl := zz_cons (List.mem_of_getElem? (i := 915) (by decide +kernel)) (zz_app (zz_in [744, 746, 916, 917, 58, 918] (by decide +kernel)) inX6)
set_option maxRecDepth 20000 in
theorem nL_X6_end : GoodIn lw_tbl (wsV RL 29 RX6 yX6_end wsX6_end) := goodIn_sub (zz_app (zz_in [912, 913, 914, 58] (by decide +kernel)) nl_X6_end) (by decide +kernel)
