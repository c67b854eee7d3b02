theorem dX6_money_127 : decode cX6_money 127 = .ok (.iload_n 2, 1) := by decide +kernel
theorem dX6_money_128 : decode cX6_money 128 = .ok (.bipush 20, 2) := by decide +kernel
theorem dX6_money_130 : decode cX6_money 130 = .ok (.bipush 19, 2) := by decide +kernel
theorem dX6_money_132 : decode cX6_money 132 = .ok (.aload_n 0, 1) := by decide +kernel
theorem dX6_money_133 : decode cX6_money 133 = .ok (.iload_n 1, 1) := by decide +kernel
theorem dX6_money_134 : decode cX6_money 134 = .ok (.bipush 9, 2) := by decide +kernel
theorem dX6_money_136 : decode cX6_money 136 = .ok (.invokevirtual 153, 3) := by decide +kernel
theorem dX6_money_139 : decode cX6_money 139 = .ok (.iadd, 1) := by decide +kernel
theorem dX6_money_140 : decode cX6_money 140 = .ok (.invokestatic 145, 3) := by decide +kernel
theorem dX6_money_143 : decode cX6_money 143 = .ok (.ifCond .eq 19, 3) := by decide +kernel
theorem dX6_money_146 : decode cX6_money 146 = .ok (.aload_n 0, 1) := by decide +kernel
theorem dX6_money_147 : decode cX6_money 147 = .ok (.getfield 61, 3) := by decide +kernel
theorem dX6_money_150 : decode cX6_money 150 = .ok (.iconst 4, 1) := by decide +kernel
theorem dX6_money_151 : decode cX6_money 151 = .ok (.iload_n 1, 1) := by decide +kernel
theorem dX6_money_152 : decode cX6_money 152 = .ok (.imul, 1) := by decide +kernel
theorem dX6_money_153 : decode cX6_money 153 = .ok (.iload_n 2, 1) := by decide +kernel
theorem dX6_money_154 : decode cX6_money 154 = .ok (.iadd, 1) := by decide +kernel
theorem dX6_money_155 : decode cX6_money 155 = .ok (.bipush 20, 2) := by decide +kernel
theorem dX6_money_157 : decode cX6_money 157 = .ok (.isub, 1) := by decide +kernel
theorem dX6_money_158 : decode cX6_money 158 = .ok (.laload, 1) := by decide +kernel
theorem dX6_money_159 : decode cX6_money 159 = .ok (.goto 6, 3) := by decide +kernel
theorem dX6_money_162 : decode cX6_money 162 = .ok (.ldc2_w 314, 3) := by decide +kernel
theorem dX6_money_165 : decode cX6_money 165 = .ok (.lreturn, 1) := by decide +kernel
set_option maxRecDepth 20000 in
theorem ggX6_fee_X6_isClaim : GoodIn wsX6_fee wsX6_isClaim := goodIn_r _ [8, 9, 10, 11, 7, 12, 13, 14, 15, 16, 17, 18, 19, 20, 21, 22, 23, 24, 25, 26, 27, 28, 29, 30, 31, 32, 33, 34, 35, 36, 37, 38, 39, 40, 41, 42, 43, 44, 45, 46, 47, 48, 49, 50, 51, 52, 53, 54, 55, 56, 57, 58, 59, 60, 61, 62] (by decide +kernel) (by decide +kernel)
set_option maxRecDepth 20000 in
theorem gX6_fee_X6_isClaim : GoodIn wsX6_fee (wsV RX6 149 RX6 yX6_isClaim wsX6_isClaim) := goodIn_app (goodIn_of _ (by decide +kernel)) ggX6_fee_X6_isClaim
set_option maxRecDepth 20000 in
theorem ggX6_fee_X6_in : GoodIn wsX6_fee wsX6_in := goodIn_r _ [12] (by decide +kernel) (by decide +kernel)
set_option maxRecDepth 20000 in
theorem gX6_fee_X6_in : GoodIn wsX6_fee (va_wsS RX6 145 yX6_in wsX6_in) := goodIn_app (goodIn_of _ (by decide +kernel)) ggX6_fee_X6_in
theorem dX6_fee_0 : decode cX6_fee 0 = .ok (.aload_n 0, 1) := by decide +kernel
theorem dX6_fee_1 : decode cX6_fee 1 = .ok (.iconst 0, 1) := by decide +kernel
theorem dX6_fee_2 : decode cX6_fee 2 = .ok (.putfield 129, 3) := by decide +kernel
theorem dX6_fee_5 : decode cX6_fee 5 = .ok (.aload_n 0, 1) := by decide +kernel
theorem dX6_fee_6 : decode cX6_fee 6 = .ok (.iload_n 1, 1) := by decide +kernel
theorem dX6_fee_7 : decode cX6_fee 7 = .ok (.invokevirtual 149, 3) := by decide +kernel
theorem dX6_fee_10 : decode cX6_fee 10 = .ok (.ifCond .eq 22, 3) := by decide +kernel
theorem dX6_fee_13 : decode cX6_fee 13 = .ok (.iload_n 2, 1) := by decide +kernel
theorem dX6_fee_14 : decode cX6_fee 14 = .ok (.iconst 0, 1) := by decide +kernel
theorem dX6_fee_15 : decode cX6_fee 15 = .ok (.bipush 40, 2) := by decide +kernel
theorem dX6_fee_17 : decode cX6_fee 17 = .ok (.invokestatic 145, 3) := by decide +kernel
theorem dX6_fee_20 : decode cX6_fee 20 = .ok (.ifCond .eq 12, 3) := by decide +kernel
theorem dX6_fee_23 : decode cX6_fee 23 = .ok (.aload_n 0, 1) := by decide +kernel
theorem dX6_fee_24 : decode cX6_fee 24 = .ok (.getfield 33, 3) := by decide +kernel
theorem dX6_fee_27 : decode cX6_fee 27 = .ok (.iconst 0, 1) := by decide +kernel
theorem dX6_fee_28 : decode cX6_fee 28 = .ok (.baload, 1) := by decide +kernel
theorem dX6_fee_29 : decode cX6_fee 29 = .ok (.ifCond .eq 5, 3) := by decide +kernel
theorem dX6_fee_32 : decode cX6_fee 32 = .ok (.iconst 0, 1) := by decide +kernel
theorem dX6_fee_33 : decode cX6_fee 33 = .ok (.ireturn, 1) := by decide +kernel
theorem dX6_fee_34 : decode cX6_fee 34 = .ok (.aload_n 0, 1) := by decide +kernel
theorem dX6_fee_35 : decode cX6_fee 35 = .ok (.getfield 37, 3) := by decide +kernel
theorem dX6_fee_38 : decode cX6_fee 38 = .ok (.bipush 10, 2) := by decide +kernel
theorem dX6_fee_40 : decode cX6_fee 40 = .ok (.iload_n 1, 1) := by decide +kernel
theorem dX6_fee_41 : decode cX6_fee 41 = .ok (.imul, 1) := by decide +kernel
theorem dX6_fee_42 : decode cX6_fee 42 = .ok (.bipush 7, 2) := by decide +kernel
theorem dX6_fee_44 : decode cX6_fee 44 = .ok (.iadd, 1) := by decide +kernel
theorem dX6_fee_45 : decode cX6_fee 45 = .ok (.iload_n 2, 1) := by decide +kernel
theorem dX6_fee_46 : decode cX6_fee 46 = .ok (.iastore, 1) := by decide +kernel
theorem dX6_fee_47 : decode cX6_fee 47 = .ok (.iconst 1, 1) := by decide +kernel
theorem dX6_fee_48 : decode cX6_fee 48 = .ok (.ireturn, 1) := by decide +kernel
set_option maxRecDepth 20000 in
theorem ggX6_lien_X6_isClaim : GoodIn wsX6_lien wsX6_isClaim := goodIn_r _ [12, 13, 14, 15, 11, 16, 21, 22, 23, 24, 25, 26, 27, 28, 29, 30, 31, 32, 33, 34, 35, 36, 37, 38, 39, 40, 41, 42, 43, 44, 45, 46, 47, 48, 49, 50, 51, 52, 53, 54, 55, 56, 57, 58, 59, 60, 61, 62, 63, 64, 65, 66, 67, 68, 69, 70] (by decide +kernel) (by decide +kernel)
set_option maxRecDepth 20000 in
theorem gX6_lien_X6_isClaim : GoodIn wsX6_lien (wsV RX6 149 RX6 yX6_isClaim wsX6_isClaim) := goodIn_app (goodIn_of _ (by decide +kernel)) ggX6_lien_X6_isClaim
set_option maxRecDepth 20000 in
theorem ggX6_lien_X6_of : GoodIn wsX6_lien wsX6_of := goodIn_r _ [20, 7, 21, 22, 23, 24, 25, 26, 27, 28, 29, 30, 31, 32, 33, 34, 35, 36, 37, 38, 39, 40, 41, 42, 43, 44, 45, 46, 47, 48, 49, 50, 51, 52, 53, 54, 55, 56, 57, 58, 59, 60, 61, 62, 63, 64, 65, 66, 67, 68, 69, 70] (by decide +kernel) (by decide +kernel)
set_option maxRecDepth 20000 in
theorem gX6_lien_X6_of : GoodIn wsX6_lien (wsV RX6 153 RX6 yX6_of wsX6_of) := goodIn_app (goodIn_of _ (by decide +kernel)) ggX6_lien_X6_of
set_option maxRecDepth 20000 in
theorem ggX6_lien_X6_in : GoodIn wsX6_lien wsX6_in := goodIn_r _ [16] (by decide +kernel) (by decide +kernel)
set_option maxRecDepth 20000 in
theorem gX6_lien_X6_in : GoodIn wsX6_lien (va_wsS RX6 145 yX6_in wsX6_in) := goodIn_app (goodIn_of _ (by decide +kernel)) ggX6_lien_X6_in
theorem dX6_lien_0 : decode cX6_lien 0 = .ok (.aload_n 0, 1) := by decide +kernel
theorem dX6_lien_1 : decode cX6_lien 1 = .ok (.iconst 0, 1) := by decide +kernel
theorem dX6_lien_2 : decode cX6_lien 2 = .ok (.putfield 129, 3) := by decide +kernel
theorem dX6_lien_5 : decode cX6_lien 5 = .ok (.aload_n 0, 1) := by decide +kernel
theorem dX6_lien_6 : decode cX6_lien 6 = .ok (.iload_n 1, 1) := by decide +kernel
theorem dX6_lien_7 : decode cX6_lien 7 = .ok (.invokevirtual 149, 3) := by decide +kernel
theorem dX6_lien_10 : decode cX6_lien 10 = .ok (.ifCond .eq 47, 3) := by decide +kernel
theorem dX6_lien_13 : decode cX6_lien 13 = .ok (.aload_n 0, 1) := by decide +kernel
theorem dX6_lien_14 : decode cX6_lien 14 = .ok (.iload_n 1, 1) := by decide +kernel
theorem dX6_lien_15 : decode cX6_lien 15 = .ok (.bipush 8, 2) := by decide +kernel
theorem dX6_lien_17 : decode cX6_lien 17 = .ok (.invokevirtual 153, 3) := by decide +kernel
theorem dX6_lien_20 : decode cX6_lien 20 = .ok (.iconst 4, 1) := by decide +kernel
theorem dX6_lien_21 : decode cX6_lien 21 = .ok (.if_icmp .eq 36, 3) := by decide +kernel
theorem dX6_lien_24 : decode cX6_lien 24 = .ok (.iload_n 2, 1) := by decide +kernel
theorem dX6_lien_25 : decode cX6_lien 25 = .ok (.iconst 0, 1) := by decide +kernel
theorem dX6_lien_26 : decode cX6_lien 26 = .ok (.bipush 9, 2) := by decide +kernel
theorem dX6_lien_28 : decode cX6_lien 28 = .ok (.invokestatic 145, 3) := by decide +kernel
theorem dX6_lien_31 : decode cX6_lien 31 = .ok (.ifCond .eq 26, 3) := by decide +kernel
theorem dX6_lien_34 : decode cX6_lien 34 = .ok (.lload_n 3, 1) := by decide +kernel
theorem dX6_lien_35 : decode cX6_lien 35 = .ok (.lconst 1, 1) := by decide +kernel
theorem dX6_lien_36 : decode cX6_lien 36 = .ok (.lcmp, 1) := by decide +kernel
theorem dX6_lien_37 : decode cX6_lien 37 = .ok (.ifCond .lt 20, 3) := by decide +kernel
theorem dX6_lien_40 : decode cX6_lien 40 = .ok (.lload_n 3, 1) := by decide +kernel
theorem dX6_lien_41 : decode cX6_lien 41 = .ok (.ldc2_w 320, 3) := by decide +kernel
theorem dX6_lien_44 : decode cX6_lien 44 = .ok (.lcmp, 1) := by decide +kernel
theorem dX6_lien_45 : decode cX6_lien 45 = .ok (.ifCond .gt 12, 3) := by decide +kernel
theorem dX6_lien_48 : decode cX6_lien 48 = .ok (.aload_n 0, 1) := by decide +kernel
theorem dX6_lien_49 : decode cX6_lien 49 = .ok (.getfield 33, 3) := by decide +kernel
theorem dX6_lien_52 : decode cX6_lien 52 = .ok (.iconst 0, 1) := by decide +kernel
theorem dX6_lien_53 : decode cX6_lien 53 = .ok (.baload, 1) := by decide +kernel
theorem dX6_lien_54 : decode cX6_lien 54 = .ok (.ifCond .eq 5, 3) := by decide +kernel
theorem dX6_lien_57 : decode cX6_lien 57 = .ok (.iconst (-1), 1) := by decide +kernel
theorem dX6_lien_58 : decode cX6_lien 58 = .ok (.ireturn, 1) := by decide +kernel
theorem dX6_lien_59 : decode cX6_lien 59 = .ok (.aload_n 0, 1) := by decide +kernel
theorem dX6_lien_60 : decode cX6_lien 60 = .ok (.iload_n 1, 1) := by decide +kernel
theorem dX6_lien_61 : decode cX6_lien 61 = .ok (.bipush 8, 2) := by decide +kernel
theorem dX6_lien_63 : decode cX6_lien 63 = .ok (.invokevirtual 153, 3) := by decide +kernel
theorem dX6_lien_66 : decode cX6_lien 66 = .ok (.istore 5, 2) := by decide +kernel
theorem dX6_lien_68 : decode cX6_lien 68 = .ok (.aload_n 0, 1) := by decide +kernel
theorem dX6_lien_69 : decode cX6_lien 69 = .ok (.getfield 49, 3) := by decide +kernel
theorem dX6_lien_72 : decode cX6_lien 72 = .ok (.iconst 4, 1) := by decide +kernel
theorem dX6_lien_73 : decode cX6_lien 73 = .ok (.iload_n 1, 1) := by decide +kernel
theorem dX6_lien_74 : decode cX6_lien 74 = .ok (.imul, 1) := by decide +kernel
theorem dX6_lien_75 : decode cX6_lien 75 = .ok (.iload 5, 2) := by decide +kernel
theorem dX6_lien_77 : decode cX6_lien 77 = .ok (.iadd, 1) := by decide +kernel
theorem dX6_lien_78 : decode cX6_lien 78 = .ok (.iload_n 2, 1) := by decide +kernel
theorem dX6_lien_79 : decode cX6_lien 79 = .ok (.iastore, 1) := by decide +kernel
theorem dX6_lien_80 : decode cX6_lien 80 = .ok (.aload_n 0, 1) := by decide +kernel
theorem dX6_lien_81 : decode cX6_lien 81 = .ok (.getfield 52, 3) := by decide +kernel
theorem dX6_lien_84 : decode cX6_lien 84 = .ok (.iconst 4, 1) := by decide +kernel
theorem dX6_lien_85 : decode cX6_lien 85 = .ok (.iload_n 1, 1) := by decide +kernel
theorem dX6_lien_86 : decode cX6_lien 86 = .ok (.imul, 1) := by decide +kernel
theorem dX6_lien_87 : decode cX6_lien 87 = .ok (.iload 5, 2) := by decide +kernel
theorem dX6_lien_89 : decode cX6_lien 89 = .ok (.iadd, 1) := by decide +kernel
theorem dX6_lien_90 : decode cX6_lien 90 = .ok (.lload_n 3, 1) := by decide +kernel
theorem dX6_lien_91 : decode cX6_lien 91 = .ok (.lastore, 1) := by decide +kernel
theorem dX6_lien_92 : decode cX6_lien 92 = .ok (.aload_n 0, 1) := by decide +kernel
theorem dX6_lien_93 : decode cX6_lien 93 = .ok (.getfield 55, 3) := by decide +kernel
theorem dX6_lien_96 : decode cX6_lien 96 = .ok (.iconst 4, 1) := by decide +kernel
theorem dX6_lien_97 : decode cX6_lien 97 = .ok (.iload_n 1, 1) := by decide +kernel
theorem dX6_lien_98 : decode cX6_lien 98 = .ok (.imul, 1) := by decide +kernel
theorem dX6_lien_99 : decode cX6_lien 99 = .ok (.iload 5, 2) := by decide +kernel
theorem dX6_lien_101 : decode cX6_lien 101 = .ok (.iadd, 1) := by decide +kernel
theorem dX6_lien_102 : decode cX6_lien 102 = .ok (.lconst 0, 1) := by decide +kernel
theorem dX6_lien_103 : decode cX6_lien 103 = .ok (.lastore, 1) := by decide +kernel
theorem dX6_lien_104 : decode cX6_lien 104 = .ok (.aload_n 0, 1) := by decide +kernel
theorem dX6_lien_105 : decode cX6_lien 105 = .ok (.getfield 37, 3) := by decide +kernel
theorem dX6_lien_108 : decode cX6_lien 108 = .ok (.bipush 10, 2) := by decide +kernel
theorem dX6_lien_110 : decode cX6_lien 110 = .ok (.iload_n 1, 1) := by decide +kernel
theorem dX6_lien_111 : decode cX6_lien 111 = .ok (.imul, 1) := by decide +kernel
theorem dX6_lien_112 : decode cX6_lien 112 = .ok (.bipush 8, 2) := by decide +kernel
theorem dX6_lien_114 : decode cX6_lien 114 = .ok (.iadd, 1) := by decide +kernel
theorem dX6_lien_115 : decode cX6_lien 115 = .ok (.dup2, 1) := by decide +kernel
theorem dX6_lien_116 : decode cX6_lien 116 = .ok (.iaload, 1) := by decide +kernel
theorem dX6_lien_117 : decode cX6_lien 117 = .ok (.iconst 1, 1) := by decide +kernel
theorem dX6_lien_118 : decode cX6_lien 118 = .ok (.iadd, 1) := by decide +kernel
theorem dX6_lien_119 : decode cX6_lien 119 = .ok (.iastore, 1) := by decide +kernel
theorem dX6_lien_120 : decode cX6_lien 120 = .ok (.iload 5, 2) := by decide +kernel
theorem dX6_lien_122 : decode cX6_lien 122 = .ok (.ireturn, 1) := by decide +kernel
set_option maxRecDepth 20000 in
theorem ggX6_heir_X6_isClaim : GoodIn wsX6_heir wsX6_isClaim := goodIn_r _ [10, 11, 12, 13, 9, 14, 19, 20, 21, 22, 23, 24, 25, 26, 27, 28, 29, 30, 31, 32, 33, 34, 35, 36, 37, 38, 39, 40, 41, 42, 43, 44, 45, 46, 47, 48, 49, 50, 51, 52, 53, 54, 55, 56, 57, 58, 59, 60, 61, 62, 63, 64, 65, 66, 67, 68] (by decide +kernel) (by decide +kernel)
set_option maxRecDepth 20000 in
theorem gX6_heir_X6_isClaim : GoodIn wsX6_heir (wsV RX6 149 RX6 yX6_isClaim wsX6_isClaim) := goodIn_app (goodIn_of _ (by decide +kernel)) ggX6_heir_X6_isClaim
set_option maxRecDepth 20000 in
theorem ggX6_heir_X6_of : GoodIn wsX6_heir wsX6_of := goodIn_r _ [18, 5, 19, 20, 21, 22, 23, 24, 25, 26, 27, 28, 29, 30, 31, 32, 33, 34, 35, 36, 37, 38, 39, 40, 41, 42, 43, 44, 45, 46, 47, 48, 49, 50, 51, 52, 53, 54, 55, 56, 57, 58, 59, 60, 61, 62, 63, 64, 65, 66, 67, 68] (by decide +kernel) (by decide +kernel)
set_option maxRecDepth 20000 in
theorem gX6_heir_X6_of : GoodIn wsX6_heir (wsV RX6 153 RX6 yX6_of wsX6_of) := goodIn_app (goodIn_of _ (by decide +kernel)) ggX6_heir_X6_of
set_option maxRecDepth 20000 in
theorem ggX6_heir_X6_in : GoodIn wsX6_heir wsX6_in := goodIn_r _ [14] (by decide +kernel) (by decide +kernel)
set_option maxRecDepth 20000 in
theorem gX6_heir_X6_in : GoodIn wsX6_heir (va_wsS RX6 145 yX6_in wsX6_in) := goodIn_app (goodIn_of _ (by decide +kernel)) ggX6_heir_X6_in
theorem dX6_heir_0 : decode cX6_heir 0 = .ok (.aload_n 0, 1) := by decide +kernel
theorem dX6_heir_1 : decode cX6_heir 1 = .ok (.iconst 0, 1) := by decide +kernel
theorem dX6_heir_2 : decode cX6_heir 2 = .ok (.putfield 129, 3) := by decide +kernel
theorem dX6_heir_5 : decode cX6_heir 5 = .ok (.aload_n 0, 1) := by decide +kernel
theorem dX6_heir_6 : decode cX6_heir 6 = .ok (.iload_n 1, 1) := by decide +kernel
theorem dX6_heir_7 : decode cX6_heir 7 = .ok (.invokevirtual 149, 3) := by decide +kernel
theorem dX6_heir_10 : decode cX6_heir 10 = .ok (.ifCond .eq 33, 3) := by decide +kernel
theorem dX6_heir_13 : decode cX6_heir 13 = .ok (.aload_n 0, 1) := by decide +kernel
theorem dX6_heir_14 : decode cX6_heir 14 = .ok (.iload_n 1, 1) := by decide +kernel
theorem dX6_heir_15 : decode cX6_heir 15 = .ok (.bipush 9, 2) := by decide +kernel
theorem dX6_heir_17 : decode cX6_heir 17 = .ok (.invokevirtual 153, 3) := by decide +kernel
theorem dX6_heir_20 : decode cX6_heir 20 = .ok (.iconst 4, 1) := by decide +kernel
theorem dX6_heir_21 : decode cX6_heir 21 = .ok (.if_icmp .eq 22, 3) := by decide +kernel
theorem dX6_heir_24 : decode cX6_heir 24 = .ok (.iload_n 2, 1) := by decide +kernel
theorem dX6_heir_25 : decode cX6_heir 25 = .ok (.iconst 1, 1) := by decide +kernel
theorem dX6_heir_26 : decode cX6_heir 26 = .ok (.bipush 9, 2) := by decide +kernel
theorem dX6_heir_28 : decode cX6_heir 28 = .ok (.invokestatic 145, 3) := by decide +kernel
theorem dX6_heir_31 : decode cX6_heir 31 = .ok (.ifCond .eq 12, 3) := by decide +kernel
theorem dX6_heir_34 : decode cX6_heir 34 = .ok (.aload_n 0, 1) := by decide +kernel
theorem dX6_heir_35 : decode cX6_heir 35 = .ok (.getfield 33, 3) := by decide +kernel
theorem dX6_heir_38 : decode cX6_heir 38 = .ok (.iconst 0, 1) := by decide +kernel
theorem dX6_heir_39 : decode cX6_heir 39 = .ok (.baload, 1) := by decide +kernel
theorem dX6_heir_40 : decode cX6_heir 40 = .ok (.ifCond .eq 5, 3) := by decide +kernel
theorem dX6_heir_43 : decode cX6_heir 43 = .ok (.iconst (-1), 1) := by decide +kernel
theorem dX6_heir_44 : decode cX6_heir 44 = .ok (.ireturn, 1) := by decide +kernel
theorem dX6_heir_45 : decode cX6_heir 45 = .ok (.aload_n 0, 1) := by decide +kernel
theorem dX6_heir_46 : decode cX6_heir 46 = .ok (.iload_n 1, 1) := by decide +kernel
theorem dX6_heir_47 : decode cX6_heir 47 = .ok (.bipush 9, 2) := by decide +kernel
theorem dX6_heir_49 : decode cX6_heir 49 = .ok (.invokevirtual 153, 3) := by decide +kernel
theorem dX6_heir_52 : decode cX6_heir 52 = .ok (.istore_n 3, 1) := by decide +kernel
theorem dX6_heir_53 : decode cX6_heir 53 = .ok (.aload_n 0, 1) := by decide +kernel
theorem dX6_heir_54 : decode cX6_heir 54 = .ok (.getfield 58, 3) := by decide +kernel
theorem dX6_heir_57 : decode cX6_heir 57 = .ok (.iconst 4, 1) := by decide +kernel
theorem dX6_heir_58 : decode cX6_heir 58 = .ok (.iload_n 1, 1) := by decide +kernel
theorem dX6_heir_59 : decode cX6_heir 59 = .ok (.imul, 1) := by decide +kernel
theorem dX6_heir_60 : decode cX6_heir 60 = .ok (.iload_n 3, 1) := by decide +kernel
theorem dX6_heir_61 : decode cX6_heir 61 = .ok (.iadd, 1) := by decide +kernel
theorem dX6_heir_62 : decode cX6_heir 62 = .ok (.iload_n 2, 1) := by decide +kernel
theorem dX6_heir_63 : decode cX6_heir 63 = .ok (.iastore, 1) := by decide +kernel
theorem dX6_heir_64 : decode cX6_heir 64 = .ok (.aload_n 0, 1) := by decide +kernel
theorem dX6_heir_65 : decode cX6_heir 65 = .ok (.getfield 61, 3) := by decide +kernel
theorem dX6_heir_68 : decode cX6_heir 68 = .ok (.iconst 4, 1) := by decide +kernel
theorem dX6_heir_69 : decode cX6_heir 69 = .ok (.iload_n 1, 1) := by decide +kernel
theorem dX6_heir_70 : decode cX6_heir 70 = .ok (.imul, 1) := by decide +kernel
theorem dX6_heir_71 : decode cX6_heir 71 = .ok (.iload_n 3, 1) := by decide +kernel
theorem dX6_heir_72 : decode cX6_heir 72 = .ok (.iadd, 1) := by decide +kernel
theorem dX6_heir_73 : decode cX6_heir 73 = .ok (.lconst 0, 1) := by decide +kernel
theorem dX6_heir_74 : decode cX6_heir 74 = .ok (.lastore, 1) := by decide +kernel
theorem dX6_heir_75 : decode cX6_heir 75 = .ok (.aload_n 0, 1) := by decide +kernel
theorem dX6_heir_76 : decode cX6_heir 76 = .ok (.getfield 37, 3) := by decide +kernel
theorem dX6_heir_79 : decode cX6_heir 79 = .ok (.bipush 10, 2) := by decide +kernel
theorem dX6_heir_81 : decode cX6_heir 81 = .ok (.iload_n 1, 1) := by decide +kernel
theorem dX6_heir_82 : decode cX6_heir 82 = .ok (.imul, 1) := by decide +kernel
theorem dX6_heir_83 : decode cX6_heir 83 = .ok (.bipush 9, 2) := by decide +kernel
theorem dX6_heir_85 : decode cX6_heir 85 = .ok (.iadd, 1) := by decide +kernel
theorem dX6_heir_86 : decode cX6_heir 86 = .ok (.dup2, 1) := by decide +kernel
theorem dX6_heir_87 : decode cX6_heir 87 = .ok (.iaload, 1) := by decide +kernel
theorem dX6_heir_88 : decode cX6_heir 88 = .ok (.iconst 1, 1) := by decide +kernel
theorem dX6_heir_89 : decode cX6_heir 89 = .ok (.iadd, 1) := by decide +kernel
theorem dX6_heir_90 : decode cX6_heir 90 = .ok (.iastore, 1) := by decide +kernel
theorem dX6_heir_91 : decode cX6_heir 91 = .ok (.iload_n 3, 1) := by decide +kernel
theorem dX6_heir_92 : decode cX6_heir 92 = .ok (.ireturn, 1) := by decide +kernel
set_option maxRecDepth 20000 in
theorem ggX6_pay_X6_of : GoodIn wsX6_pay wsX6_of := goodIn_r _ [14, 15, 16, 17, 18, 19, 20, 21, 22, 23, 24, 25, 26, 27, 28, 29, 30, 31, 32, 33, 34, 35, 36, 37, 38, 39, 40, 41, 42, 43, 44, 45, 46, 47, 48, 49, 50, 51, 52, 53, 54, 55, 56, 57, 58, 59, 60, 61, 62, 63, 64, 65] (by decide +kernel) (by decide +kernel)
set_option maxRecDepth 20000 in
theorem gX6_pay_X6_of : GoodIn wsX6_pay (wsV RX6 153 RX6 yX6_of wsX6_of) := goodIn_app (goodIn_of _ (by decide +kernel)) ggX6_pay_X6_of
theorem dX6_pay_0 : decode cX6_pay 0 = .ok (.lload_n 2, 1) := by decide +kernel
theorem dX6_pay_1 : decode cX6_pay 1 = .ok (.lconst 0, 1) := by decide +kernel
theorem dX6_pay_2 : decode cX6_pay 2 = .ok (.lcmp, 1) := by decide +kernel
theorem dX6_pay_3 : decode cX6_pay 3 = .ok (.ifCond .gt 4, 3) := by decide +kernel
theorem dX6_pay_6 : decode cX6_pay 6 = .ok (.return_, 1) := by decide +kernel
theorem dX6_pay_7 : decode cX6_pay 7 = .ok (.aload_n 0, 1) := by decide +kernel
theorem dX6_pay_8 : decode cX6_pay 8 = .ok (.getfield 40, 3) := by decide +kernel
theorem dX6_pay_11 : decode cX6_pay 11 = .ok (.iload_n 1, 1) := by decide +kernel
theorem dX6_pay_12 : decode cX6_pay 12 = .ok (.dup2, 1) := by decide +kernel
theorem dX6_pay_13 : decode cX6_pay 13 = .ok (.laload, 1) := by decide +kernel
theorem dX6_pay_14 : decode cX6_pay 14 = .ok (.lload_n 2, 1) := by decide +kernel
theorem dX6_pay_15 : decode cX6_pay 15 = .ok (.ladd, 1) := by decide +kernel
theorem dX6_pay_16 : decode cX6_pay 16 = .ok (.lastore, 1) := by decide +kernel
theorem dX6_pay_17 : decode cX6_pay 17 = .ok (.lload_n 2, 1) := by decide +kernel
theorem dX6_pay_18 : decode cX6_pay 18 = .ok (.aload_n 0, 1) := by decide +kernel
theorem dX6_pay_19 : decode cX6_pay 19 = .ok (.iload_n 1, 1) := by decide +kernel
theorem dX6_pay_20 : decode cX6_pay 20 = .ok (.bipush 7, 2) := by decide +kernel
theorem dX6_pay_22 : decode cX6_pay 22 = .ok (.invokevirtual 153, 3) := by decide +kernel
theorem dX6_pay_25 : decode cX6_pay 25 = .ok (.i2l, 1) := by decide +kernel
theorem dX6_pay_26 : decode cX6_pay 26 = .ok (.lmul, 1) := by decide +kernel
theorem dX6_pay_27 : decode cX6_pay 27 = .ok (.ldc2_w 278, 3) := by decide +kernel
theorem dX6_pay_30 : decode cX6_pay 30 = .ok (.ldiv, 1) := by decide +kernel
theorem dX6_pay_31 : decode cX6_pay 31 = .ok (.lstore 4, 2) := by decide +kernel
theorem dX6_pay_33 : decode cX6_pay 33 = .ok (.aload_n 0, 1) := by decide +kernel
theorem dX6_pay_34 : decode cX6_pay 34 = .ok (.getfield 43, 3) := by decide +kernel
theorem dX6_pay_37 : decode cX6_pay 37 = .ok (.iload_n 1, 1) := by decide +kernel
theorem dX6_pay_38 : decode cX6_pay 38 = .ok (.dup2, 1) := by decide +kernel
theorem dX6_pay_39 : decode cX6_pay 39 = .ok (.laload, 1) := by decide +kernel
theorem dX6_pay_40 : decode cX6_pay 40 = .ok (.lload 4, 2) := by decide +kernel
theorem dX6_pay_42 : decode cX6_pay 42 = .ok (.ladd, 1) := by decide +kernel
theorem dX6_pay_43 : decode cX6_pay 43 = .ok (.lastore, 1) := by decide +kernel
theorem dX6_pay_44 : decode cX6_pay 44 = .ok (.lload_n 2, 1) := by decide +kernel
theorem dX6_pay_45 : decode cX6_pay 45 = .ok (.lload 4, 2) := by decide +kernel
theorem dX6_pay_47 : decode cX6_pay 47 = .ok (.lsub, 1) := by decide +kernel
theorem dX6_pay_48 : decode cX6_pay 48 = .ok (.lstore 6, 2) := by decide +kernel
theorem dX6_pay_50 : decode cX6_pay 50 = .ok (.iconst 0, 1) := by decide +kernel
theorem dX6_pay_51 : decode cX6_pay 51 = .ok (.istore 8, 2) := by decide +kernel
theorem dX6_pay_53 : decode cX6_pay 53 = .ok (.iload 8, 2) := by decide +kernel
theorem dX6_pay_55 : decode cX6_pay 55 = .ok (.bipush 10, 2) := by decide +kernel
theorem dX6_pay_57 : decode cX6_pay 57 = .ok (.if_icmp .ge 112, 3) := by decide +kernel
theorem dX6_pay_60 : decode cX6_pay 60 = .ok (.iconst 0, 1) := by decide +kernel
theorem dX6_pay_61 : decode cX6_pay 61 = .ok (.istore 9, 2) := by decide +kernel
theorem dX6_pay_63 : decode cX6_pay 63 = .ok (.iload 9, 2) := by decide +kernel
theorem dX6_pay_65 : decode cX6_pay 65 = .ok (.aload_n 0, 1) := by decide +kernel
theorem dX6_pay_66 : decode cX6_pay 66 = .ok (.iload_n 1, 1) := by decide +kernel
theorem dX6_pay_67 : decode cX6_pay 67 = .ok (.bipush 8, 2) := by decide +kernel
theorem dX6_pay_69 : decode cX6_pay 69 = .ok (.invokevirtual 153, 3) := by decide +kernel
theorem dX6_pay_72 : decode cX6_pay 72 = .ok (.if_icmp .ge 91, 3) := by decide +kernel
theorem dX6_pay_75 : decode cX6_pay 75 = .ok (.iconst 4, 1) := by decide +kernel
theorem dX6_pay_76 : decode cX6_pay 76 = .ok (.iload_n 1, 1) := by decide +kernel
theorem dX6_pay_77 : decode cX6_pay 77 = .ok (.imul, 1) := by decide +kernel
theorem dX6_pay_78 : decode cX6_pay 78 = .ok (.iload 9, 2) := by decide +kernel
theorem dX6_pay_80 : decode cX6_pay 80 = .ok (.iadd, 1) := by decide +kernel
theorem dX6_pay_81 : decode cX6_pay 81 = .ok (.istore 10, 2) := by decide +kernel
theorem dX6_pay_83 : decode cX6_pay 83 = .ok (.aload_n 0, 1) := by decide +kernel
theorem dX6_pay_84 : decode cX6_pay 84 = .ok (.getfield 49, 3) := by decide +kernel
theorem dX6_pay_87 : decode cX6_pay 87 = .ok (.iload 10, 2) := by decide +kernel
theorem dX6_pay_89 : decode cX6_pay 89 = .ok (.iaload, 1) := by decide +kernel
theorem dX6_pay_90 : decode cX6_pay 90 = .ok (.iload 8, 2) := by decide +kernel
theorem dX6_pay_92 : decode cX6_pay 92 = .ok (.if_icmp .ne 65, 3) := by decide +kernel
theorem dX6_pay_95 : decode cX6_pay 95 = .ok (.aload_n 0, 1) := by decide +kernel
theorem dX6_pay_96 : decode cX6_pay 96 = .ok (.getfield 52, 3) := by decide +kernel
theorem dX6_pay_99 : decode cX6_pay 99 = .ok (.iload 10, 2) := by decide +kernel
theorem dX6_pay_101 : decode cX6_pay 101 = .ok (.laload, 1) := by decide +kernel
theorem dX6_pay_102 : decode cX6_pay 102 = .ok (.aload_n 0, 1) := by decide +kernel
theorem dX6_pay_103 : decode cX6_pay 103 = .ok (.getfield 55, 3) := by decide +kernel
theorem dX6_pay_106 : decode cX6_pay 106 = .ok (.iload 10, 2) := by decide +kernel
theorem dX6_pay_108 : decode cX6_pay 108 = .ok (.laload, 1) := by decide +kernel
theorem dX6_pay_109 : decode cX6_pay 109 = .ok (.lsub, 1) := by decide +kernel
theorem dX6_pay_110 : decode cX6_pay 110 = .ok (.lload 6, 2) := by decide +kernel
theorem dX6_pay_112 : decode cX6_pay 112 = .ok (.lcmp, 1) := by decide +kernel
theorem dX6_pay_113 : decode cX6_pay 113 = .ok (.ifCond .ge 21, 3) := by decide +kernel
theorem dX6_pay_116 : decode cX6_pay 116 = .ok (.aload_n 0, 1) := by decide +kernel
theorem dX6_pay_117 : decode cX6_pay 117 = .ok (.getfield 52, 3) := by decide +kernel
theorem dX6_pay_120 : decode cX6_pay 120 = .ok (.iload 10, 2) := by decide +kernel
theorem dX6_pay_122 : decode cX6_pay 122 = .ok (.laload, 1) := by decide +kernel
theorem dX6_pay_123 : decode cX6_pay 123 = .ok (.aload_n 0, 1) := by decide +kernel
theorem dX6_pay_124 : decode cX6_pay 124 = .ok (.getfield 55, 3) := by decide +kernel
theorem dX6_pay_127 : decode cX6_pay 127 = .ok (.iload 10, 2) := by decide +kernel
theorem dX6_pay_129 : decode cX6_pay 129 = .ok (.laload, 1) := by decide +kernel
theorem dX6_pay_130 : decode cX6_pay 130 = .ok (.lsub, 1) := by decide +kernel
theorem dX6_pay_131 : decode cX6_pay 131 = .ok (.goto 5, 3) := by decide +kernel
theorem dX6_pay_134 : decode cX6_pay 134 = .ok (.lload 6, 2) := by decide +kernel
theorem dX6_pay_136 : decode cX6_pay 136 = .ok (.lstore 11, 2) := by decide +kernel
theorem dX6_pay_138 : decode cX6_pay 138 = .ok (.aload_n 0, 1) := by decide +kernel
theorem dX6_pay_139 : decode cX6_pay 139 = .ok (.getfield 55, 3) := by decide +kernel
theorem dX6_pay_142 : decode cX6_pay 142 = .ok (.iload 10, 2) := by decide +kernel
theorem dX6_pay_144 : decode cX6_pay 144 = .ok (.dup2, 1) := by decide +kernel
theorem dX6_pay_145 : decode cX6_pay 145 = .ok (.laload, 1) := by decide +kernel
theorem dX6_pay_146 : decode cX6_pay 146 = .ok (.lload 11, 2) := by decide +kernel
theorem dX6_pay_148 : decode cX6_pay 148 = .ok (.ladd, 1) := by decide +kernel
theorem dX6_pay_149 : decode cX6_pay 149 = .ok (.lastore, 1) := by decide +kernel
theorem dX6_pay_150 : decode cX6_pay 150 = .ok (.lload 6, 2) := by decide +kernel
theorem dX6_pay_152 : decode cX6_pay 152 = .ok (.lload 11, 2) := by decide +kernel
theorem dX6_pay_154 : decode cX6_pay 154 = .ok (.lsub, 1) := by decide +kernel
theorem dX6_pay_155 : decode cX6_pay 155 = .ok (.lstore 6, 2) := by decide +kernel
theorem dX6_pay_157 : decode cX6_pay 157 = .ok (.iinc 9 1, 3) := by decide +kernel
theorem dX6_pay_160 : decode cX6_pay 160 = .ok (.goto (-97), 3) := by decide +kernel
theorem dX6_pay_163 : decode cX6_pay 163 = .ok (.iinc 8 1, 3) := by decide +kernel
theorem dX6_pay_166 : decode cX6_pay 166 = .ok (.goto (-113), 3) := by decide +kernel
theorem dX6_pay_169 : decode cX6_pay 169 = .ok (.iconst 0, 1) := by decide +kernel
theorem dX6_pay_170 : decode cX6_pay 170 = .ok (.istore 8, 2) := by decide +kernel
theorem dX6_pay_172 : decode cX6_pay 172 = .ok (.iconst 0, 1) := by decide +kernel
theorem dX6_pay_173 : decode cX6_pay 173 = .ok (.istore 9, 2) := by decide +kernel
theorem dX6_pay_175 : decode cX6_pay 175 = .ok (.iload 9, 2) := by decide +kernel
theorem dX6_pay_177 : decode cX6_pay 177 = .ok (.aload_n 0, 1) := by decide +kernel
theorem dX6_pay_178 : decode cX6_pay 178 = .ok (.iload_n 1, 1) := by decide +kernel
theorem dX6_pay_179 : decode cX6_pay 179 = .ok (.bipush 9, 2) := by decide +kernel
theorem dX6_pay_181 : decode cX6_pay 181 = .ok (.invokevirtual 153, 3) := by decide +kernel
theorem dX6_pay_184 : decode cX6_pay 184 = .ok (.if_icmp .ge 25, 3) := by decide +kernel
theorem dX6_pay_187 : decode cX6_pay 187 = .ok (.iload 8, 2) := by decide +kernel
theorem dX6_pay_189 : decode cX6_pay 189 = .ok (.aload_n 0, 1) := by decide +kernel
theorem dX6_pay_190 : decode cX6_pay 190 = .ok (.getfield 58, 3) := by decide +kernel
theorem dX6_pay_193 : decode cX6_pay 193 = .ok (.iconst 4, 1) := by decide +kernel
theorem dX6_pay_194 : decode cX6_pay 194 = .ok (.iload_n 1, 1) := by decide +kernel
theorem dX6_pay_195 : decode cX6_pay 195 = .ok (.imul, 1) := by decide +kernel
theorem dX6_pay_196 : decode cX6_pay 196 = .ok (.iload 9, 2) := by decide +kernel
theorem dX6_pay_198 : decode cX6_pay 198 = .ok (.iadd, 1) := by decide +kernel
theorem dX6_pay_199 : decode cX6_pay 199 = .ok (.iaload, 1) := by decide +kernel
theorem dX6_pay_200 : decode cX6_pay 200 = .ok (.iadd, 1) := by decide +kernel
theorem dX6_pay_201 : decode cX6_pay 201 = .ok (.istore 8, 2) := by decide +kernel
theorem dX6_pay_203 : decode cX6_pay 203 = .ok (.iinc 9 1, 3) := by decide +kernel
theorem dX6_pay_206 : decode cX6_pay 206 = .ok (.goto (-31), 3) := by decide +kernel
theorem dX6_pay_209 : decode cX6_pay 209 = .ok (.lload 6, 2) := by decide +kernel
theorem dX6_pay_211 : decode cX6_pay 211 = .ok (.lstore 9, 2) := by decide +kernel
theorem dX6_pay_213 : decode cX6_pay 213 = .ok (.iconst 0, 1) := by decide +kernel
theorem dX6_pay_214 : decode cX6_pay 214 = .ok (.istore 11, 2) := by decide +kernel
theorem dX6_pay_216 : decode cX6_pay 216 = .ok (.iload 11, 2) := by decide +kernel
theorem dX6_pay_218 : decode cX6_pay 218 = .ok (.aload_n 0, 1) := by decide +kernel
theorem dX6_pay_219 : decode cX6_pay 219 = .ok (.iload_n 1, 1) := by decide +kernel
theorem dX6_pay_220 : decode cX6_pay 220 = .ok (.bipush 9, 2) := by decide +kernel
theorem dX6_pay_222 : decode cX6_pay 222 = .ok (.invokevirtual 153, 3) := by decide +kernel
theorem dX6_pay_225 : decode cX6_pay 225 = .ok (.if_icmp .ge 53, 3) := by decide +kernel
theorem dX6_pay_228 : decode cX6_pay 228 = .ok (.lload 6, 2) := by decide +kernel
theorem dX6_pay_230 : decode cX6_pay 230 = .ok (.aload_n 0, 1) := by decide +kernel
theorem dX6_pay_231 : decode cX6_pay 231 = .ok (.getfield 58, 3) := by decide +kernel
theorem dX6_pay_234 : decode cX6_pay 234 = .ok (.iconst 4, 1) := by decide +kernel
theorem dX6_pay_235 : decode cX6_pay 235 = .ok (.iload_n 1, 1) := by decide +kernel
theorem dX6_pay_236 : decode cX6_pay 236 = .ok (.imul, 1) := by decide +kernel
theorem dX6_pay_237 : decode cX6_pay 237 = .ok (.iload 11, 2) := by decide +kernel
theorem dX6_pay_239 : decode cX6_pay 239 = .ok (.iadd, 1) := by decide +kernel
theorem dX6_pay_240 : decode cX6_pay 240 = .ok (.iaload, 1) := by decide +kernel
theorem dX6_pay_241 : decode cX6_pay 241 = .ok (.i2l, 1) := by decide +kernel
theorem dX6_pay_242 : decode cX6_pay 242 = .ok (.lmul, 1) := by decide +kernel
theorem dX6_pay_243 : decode cX6_pay 243 = .ok (.iload 8, 2) := by decide +kernel
theorem dX6_pay_245 : decode cX6_pay 245 = .ok (.i2l, 1) := by decide +kernel
theorem dX6_pay_246 : decode cX6_pay 246 = .ok (.ldiv, 1) := by decide +kernel
theorem dX6_pay_247 : decode cX6_pay 247 = .ok (.lstore 12, 2) := by decide +kernel
theorem dX6_pay_249 : decode cX6_pay 249 = .ok (.aload_n 0, 1) := by decide +kernel
theorem dX6_pay_250 : decode cX6_pay 250 = .ok (.getfield 61, 3) := by decide +kernel
theorem dX6_pay_253 : decode cX6_pay 253 = .ok (.iconst 4, 1) := by decide +kernel
theorem dX6_pay_254 : decode cX6_pay 254 = .ok (.iload_n 1, 1) := by decide +kernel
theorem dX6_pay_255 : decode cX6_pay 255 = .ok (.imul, 1) := by decide +kernel
theorem dX6_pay_256 : decode cX6_pay 256 = .ok (.iload 11, 2) := by decide +kernel
theorem dX6_pay_258 : decode cX6_pay 258 = .ok (.iadd, 1) := by decide +kernel
theorem dX6_pay_259 : decode cX6_pay 259 = .ok (.dup2, 1) := by decide +kernel
theorem dX6_pay_260 : decode cX6_pay 260 = .ok (.laload, 1) := by decide +kernel
theorem dX6_pay_261 : decode cX6_pay 261 = .ok (.lload 12, 2) := by decide +kernel
theorem dX6_pay_263 : decode cX6_pay 263 = .ok (.ladd, 1) := by decide +kernel
theorem dX6_pay_264 : decode cX6_pay 264 = .ok (.lastore, 1) := by decide +kernel
theorem dX6_pay_265 : decode cX6_pay 265 = .ok (.lload 9, 2) := by decide +kernel
theorem dX6_pay_267 : decode cX6_pay 267 = .ok (.lload 12, 2) := by decide +kernel
theorem dX6_pay_269 : decode cX6_pay 269 = .ok (.lsub, 1) := by decide +kernel
theorem dX6_pay_270 : decode cX6_pay 270 = .ok (.lstore 9, 2) := by decide +kernel
theorem dX6_pay_272 : decode cX6_pay 272 = .ok (.iinc 11 1, 3) := by decide +kernel
theorem dX6_pay_275 : decode cX6_pay 275 = .ok (.goto (-59), 3) := by decide +kernel
theorem dX6_pay_278 : decode cX6_pay 278 = .ok (.iload 8, 2) := by decide +kernel
theorem dX6_pay_280 : decode cX6_pay 280 = .ok (.ifCond .le 19, 3) := by decide +kernel
theorem dX6_pay_283 : decode cX6_pay 283 = .ok (.aload_n 0, 1) := by decide +kernel
theorem dX6_pay_284 : decode cX6_pay 284 = .ok (.getfield 61, 3) := by decide +kernel
theorem dX6_pay_287 : decode cX6_pay 287 = .ok (.iconst 4, 1) := by decide +kernel
theorem dX6_pay_288 : decode cX6_pay 288 = .ok (.iload_n 1, 1) := by decide +kernel
theorem dX6_pay_289 : decode cX6_pay 289 = .ok (.imul, 1) := by decide +kernel
theorem dX6_pay_290 : decode cX6_pay 290 = .ok (.dup2, 1) := by decide +kernel
theorem dX6_pay_291 : decode cX6_pay 291 = .ok (.laload, 1) := by decide +kernel
theorem dX6_pay_292 : decode cX6_pay 292 = .ok (.lload 9, 2) := by decide +kernel
theorem dX6_pay_294 : decode cX6_pay 294 = .ok (.ladd, 1) := by decide +kernel
theorem dX6_pay_295 : decode cX6_pay 295 = .ok (.lastore, 1) := by decide +kernel
theorem dX6_pay_296 : decode cX6_pay 296 = .ok (.goto 14, 3) := by decide +kernel
theorem dX6_pay_299 : decode cX6_pay 299 = .ok (.aload_n 0, 1) := by decide +kernel
theorem dX6_pay_300 : decode cX6_pay 300 = .ok (.getfield 46, 3) := by decide +kernel
theorem dX6_pay_303 : decode cX6_pay 303 = .ok (.iload_n 1, 1) := by decide +kernel
theorem dX6_pay_304 : decode cX6_pay 304 = .ok (.dup2, 1) := by decide +kernel
theorem dX6_pay_305 : decode cX6_pay 305 = .ok (.laload, 1) := by decide +kernel
theorem dX6_pay_306 : decode cX6_pay 306 = .ok (.lload 9, 2) := by decide +kernel
theorem dX6_pay_308 : decode cX6_pay 308 = .ok (.ladd, 1) := by decide +kernel
theorem dX6_pay_309 : decode cX6_pay 309 = .ok (.lastore, 1) := by decide +kernel
theorem dX6_pay_310 : decode cX6_pay 310 = .ok (.return_, 1) := by decide +kernel
set_option maxRecDepth 20000 in
theorem ggX6_wave_X6_in : GoodIn wsX6_wave wsX6_in := goodIn_r _ [11] (by decide +kernel) (by decide +kernel)
set_option maxRecDepth 20000 in
theorem gX6_wave_X6_in : GoodIn wsX6_wave (va_wsS RX6 145 yX6_in wsX6_in) := goodIn_app (goodIn_of _ (by decide +kernel)) ggX6_wave_X6_in
set_option maxRecDepth 20000 in
theorem ggX6_wave_X6_paidAll : GoodIn wsX6_wave wsX6_paidAll := goodIn_r _ [15, 4, 6, 81, 82, 83, 84, 85, 86, 87, 88, 89, 90, 91, 92, 93, 94, 95, 96, 97, 98, 99, 100, 101, 102, 103, 104, 105, 106, 107, 108, 109, 110, 111, 112, 113, 114, 115, 116, 117, 118, 119, 120, 121, 122, 123, 124, 125, 126, 127, 128, 129, 130] (by decide +kernel) (by decide +kernel)
set_option maxRecDepth 20000 in
theorem gX6_wave_X6_paidAll : GoodIn wsX6_wave (wsV RX6 159 RX6 yX6_paidAll wsX6_paidAll) := goodIn_app (goodIn_of _ (by decide +kernel)) ggX6_wave_X6_paidAll
set_option maxRecDepth 20000 in
theorem ggX6_wave_X6_all : GoodIn wsX6_wave wsX6_all := goodIn_r _ [19, 4, 20, 21, 22, 10, 23, 24, 25, 26, 27, 28, 29, 30, 31, 32, 33, 34, 35, 36, 37, 38, 39, 5, 40, 41, 42, 43, 44, 45, 46, 47, 48, 49, 50, 51, 81, 82, 83, 84, 85, 86, 87, 88, 89, 90, 91, 92, 93, 94, 95, 96, 97, 98, 99, 100, 101, 102, 103, 104, 105, 106, 107, 108, 109, 110, 111, 112, 113, 114, 115, 116, 117, 118, 119, 120, 121, 122, 123, 124, 125, 126, 127, 128, 129, 130] (by decide +kernel) (by decide +kernel)
set_option maxRecDepth 20000 in
theorem gX6_wave_X6_all : GoodIn wsX6_wave (wsV RX6 296 RX6 yX6_all wsX6_all) := goodIn_app (goodIn_of _ (by decide +kernel)) ggX6_wave_X6_all
set_option maxRecDepth 20000 in
theorem ggX6_wave_X6_is : GoodIn wsX6_wave wsX6_is := goodIn_r _ [55, 56, 57, 58, 10, 59, 4, 8, 9, 11, 24, 25, 26, 27, 28, 81, 82, 83, 84, 85, 86, 87, 88, 89, 90, 91, 92, 93, 94, 95, 96, 97, 98, 99, 100, 101, 102, 103, 104, 105, 106, 107, 108, 109, 110, 111, 112, 113, 114, 115, 116, 117, 118, 119, 120, 121, 122, 123, 124, 125, 126, 127, 128, 129, 130] (by decide +kernel) (by decide +kernel)
set_option maxRecDepth 20000 in
theorem gX6_wave_X6_is : GoodIn wsX6_wave (wsV RX6 307 RX6 yX6_is wsX6_is) := goodIn_app (goodIn_of _ (by decide +kernel)) ggX6_wave_X6_is
set_option maxRecDepth 20000 in
theorem ggX6_wave_X6_worst : GoodIn wsX6_wave wsX6_worst := goodIn_r _ [63, 64, 65, 66, 67, 10, 68, 69, 24, 25, 26, 27, 28, 29, 30, 31, 32, 33, 34, 35, 36, 37, 38, 39, 5, 40, 41, 42, 43, 44, 45, 46, 47, 48, 49, 50, 51, 81, 82, 83, 84, 85, 86, 87, 88, 89, 90, 91, 92, 93, 94, 95, 96, 97, 98, 99, 100, 101, 102, 103, 104, 105, 106, 107, 108, 109, 110, 111, 112, 113, 114, 115, 116, 117, 118, 119, 120, 121, 122, 123, 124, 125, 126, 127, 128, 129, 130] (by decide +kernel) (by decide +kernel)
set_option maxRecDepth 20000 in
theorem gX6_wave_X6_worst : GoodIn wsX6_wave (wsV RX6 299 RX6 yX6_worst wsX6_worst) := goodIn_app (goodIn_of _ (by decide +kernel)) ggX6_wave_X6_worst
set_option maxRecDepth 20000 in
theorem ggX6_wave_X6_pay : GoodIn wsX6_wave wsX6_pay := goodIn_r _ [73, 6, 5, 74, 75, 76, 77, 78, 79, 80, 24, 25, 26, 10, 27, 28, 81, 82, 83, 84, 85, 86, 87, 88, 89, 90, 91, 92, 93, 94, 95, 96, 97, 98, 99, 100, 101, 102, 103, 104, 105, 106, 107, 108, 109, 110, 111, 112, 113, 114, 115, 116, 117, 118, 119, 120, 121, 122, 123, 124, 125, 126, 127, 128, 129, 130] (by decide +kernel) (by decide +kernel)
set_option maxRecDepth 20000 in
theorem gX6_wave_X6_pay : GoodIn wsX6_wave (wsV RX6 322 RX6 yX6_pay wsX6_pay) := goodIn_app (goodIn_of _ (by decide +kernel)) ggX6_wave_X6_pay
theorem dX6_wave_0 : decode cX6_wave 0 = .ok (.aload_n 0, 1) := by decide +kernel
theorem dX6_wave_1 : decode cX6_wave 1 = .ok (.iconst 0, 1) := by decide +kernel
theorem dX6_wave_2 : decode cX6_wave 2 = .ok (.putfield 129, 3) := by decide +kernel
theorem dX6_wave_5 : decode cX6_wave 5 = .ok (.iload_n 1, 1) := by decide +kernel
theorem dX6_wave_6 : decode cX6_wave 6 = .ok (.iconst 1, 1) := by decide +kernel
theorem dX6_wave_7 : decode cX6_wave 7 = .ok (.bipush 100, 2) := by decide +kernel
theorem dX6_wave_9 : decode cX6_wave 9 = .ok (.invokestatic 145, 3) := by decide +kernel
theorem dX6_wave_12 : decode cX6_wave 12 = .ok (.ifCond .eq 12, 3) := by decide +kernel
theorem dX6_wave_15 : decode cX6_wave 15 = .ok (.aload_n 0, 1) := by decide +kernel
theorem dX6_wave_16 : decode cX6_wave 16 = .ok (.getfield 33, 3) := by decide +kernel
theorem dX6_wave_19 : decode cX6_wave 19 = .ok (.iconst 0, 1) := by decide +kernel
theorem dX6_wave_20 : decode cX6_wave 20 = .ok (.baload, 1) := by decide +kernel
theorem dX6_wave_21 : decode cX6_wave 21 = .ok (.ifCond .eq 7, 3) := by decide +kernel
theorem dX6_wave_24 : decode cX6_wave 24 = .ok (.ldc2_w 314, 3) := by decide +kernel
theorem dX6_wave_27 : decode cX6_wave 27 = .ok (.lreturn, 1) := by decide +kernel
theorem dX6_wave_28 : decode cX6_wave 28 = .ok (.aload_n 0, 1) := by decide +kernel
theorem dX6_wave_29 : decode cX6_wave 29 = .ok (.invokevirtual 159, 3) := by decide +kernel
theorem dX6_wave_32 : decode cX6_wave 32 = .ok (.lstore_n 2, 1) := by decide +kernel
theorem dX6_wave_33 : decode cX6_wave 33 = .ok (.aload_n 0, 1) := by decide +kernel
theorem dX6_wave_34 : decode cX6_wave 34 = .ok (.invokevirtual 296, 3) := by decide +kernel
theorem dX6_wave_37 : decode cX6_wave 37 = .ok (.lstore 4, 2) := by decide +kernel
theorem dX6_wave_39 : decode cX6_wave 39 = .ok (.iconst 0, 1) := by decide +kernel
theorem dX6_wave_40 : decode cX6_wave 40 = .ok (.istore 6, 2) := by decide +kernel
theorem dX6_wave_42 : decode cX6_wave 42 = .ok (.iload 6, 2) := by decide +kernel
theorem dX6_wave_44 : decode cX6_wave 44 = .ok (.aload_n 0, 1) := by decide +kernel
theorem dX6_wave_45 : decode cX6_wave 45 = .ok (.getfield 27, 3) := by decide +kernel
theorem dX6_wave_48 : decode cX6_wave 48 = .ok (.iconst 0, 1) := by decide +kernel
theorem dX6_wave_49 : decode cX6_wave 49 = .ok (.iaload, 1) := by decide +kernel
theorem dX6_wave_50 : decode cX6_wave 50 = .ok (.if_icmp .ge 48, 3) := by decide +kernel
theorem dX6_wave_53 : decode cX6_wave 53 = .ok (.aload_n 0, 1) := by decide +kernel
theorem dX6_wave_54 : decode cX6_wave 54 = .ok (.iload 6, 2) := by decide +kernel
theorem dX6_wave_56 : decode cX6_wave 56 = .ok (.iconst 1, 1) := by decide +kernel
theorem dX6_wave_57 : decode cX6_wave 57 = .ok (.invokevirtual 307, 3) := by decide +kernel
theorem dX6_wave_60 : decode cX6_wave 60 = .ok (.ifCond .eq 32, 3) := by decide +kernel
theorem dX6_wave_63 : decode cX6_wave 63 = .ok (.aload_n 0, 1) := by decide +kernel
theorem dX6_wave_64 : decode cX6_wave 64 = .ok (.iload 6, 2) := by decide +kernel
theorem dX6_wave_66 : decode cX6_wave 66 = .ok (.aload_n 0, 1) := by decide +kernel
theorem dX6_wave_67 : decode cX6_wave 67 = .ok (.iload 6, 2) := by decide +kernel
theorem dX6_wave_69 : decode cX6_wave 69 = .ok (.lload 4, 2) := by decide +kernel
theorem dX6_wave_71 : decode cX6_wave 71 = .ok (.invokevirtual 299, 3) := by decide +kernel
theorem dX6_wave_74 : decode cX6_wave 74 = .ok (.iload_n 1, 1) := by decide +kernel
theorem dX6_wave_75 : decode cX6_wave 75 = .ok (.i2l, 1) := by decide +kernel
theorem dX6_wave_76 : decode cX6_wave 76 = .ok (.lmul, 1) := by decide +kernel
theorem dX6_wave_77 : decode cX6_wave 77 = .ok (.ldc2_w 278, 3) := by decide +kernel
theorem dX6_wave_80 : decode cX6_wave 80 = .ok (.ldiv, 1) := by decide +kernel
theorem dX6_wave_81 : decode cX6_wave 81 = .ok (.aload_n 0, 1) := by decide +kernel
theorem dX6_wave_82 : decode cX6_wave 82 = .ok (.getfield 40, 3) := by decide +kernel
theorem dX6_wave_85 : decode cX6_wave 85 = .ok (.iload 6, 2) := by decide +kernel
theorem dX6_wave_87 : decode cX6_wave 87 = .ok (.laload, 1) := by decide +kernel
theorem dX6_wave_88 : decode cX6_wave 88 = .ok (.lsub, 1) := by decide +kernel
theorem dX6_wave_89 : decode cX6_wave 89 = .ok (.invokevirtual 322, 3) := by decide +kernel
theorem dX6_wave_92 : decode cX6_wave 92 = .ok (.iinc 6 1, 3) := by decide +kernel
theorem dX6_wave_95 : decode cX6_wave 95 = .ok (.goto (-53), 3) := by decide +kernel
theorem dX6_wave_98 : decode cX6_wave 98 = .ok (.aload_n 0, 1) := by decide +kernel
theorem dX6_wave_99 : decode cX6_wave 99 = .ok (.getfield 30, 3) := by decide +kernel
theorem dX6_wave_102 : decode cX6_wave 102 = .ok (.iconst 0, 1) := by decide +kernel
theorem dX6_wave_103 : decode cX6_wave 103 = .ok (.dup2, 1) := by decide +kernel
theorem dX6_wave_104 : decode cX6_wave 104 = .ok (.iaload, 1) := by decide +kernel
theorem dX6_wave_105 : decode cX6_wave 105 = .ok (.iconst 1, 1) := by decide +kernel
theorem dX6_wave_106 : decode cX6_wave 106 = .ok (.iadd, 1) := by decide +kernel
theorem dX6_wave_107 : decode cX6_wave 107 = .ok (.iastore, 1) := by decide +kernel
theorem dX6_wave_108 : decode cX6_wave 108 = .ok (.aload_n 0, 1) := by decide +kernel
theorem dX6_wave_109 : decode cX6_wave 109 = .ok (.invokevirtual 159, 3) := by decide +kernel
theorem dX6_wave_112 : decode cX6_wave 112 = .ok (.lload_n 2, 1) := by decide +kernel
theorem dX6_wave_113 : decode cX6_wave 113 = .ok (.lsub, 1) := by decide +kernel
theorem dX6_wave_114 : decode cX6_wave 114 = .ok (.lreturn, 1) := by decide +kernel
set_option maxRecDepth 20000 in
theorem ggX6_states_X6_of : GoodIn wsX6_states wsX6_of := goodIn_r _ [6, 7, 8, 9, 10, 11, 12, 13, 14, 15, 16, 17, 18, 19, 20, 21, 22, 23, 24, 25, 26, 27, 28, 29, 30, 31, 32, 33, 34, 35, 36, 37, 38, 39, 40, 41, 42, 43, 44, 45, 46, 47, 48, 49, 50, 51, 52, 53, 54, 55, 56, 57] (by decide +kernel) (by decide +kernel)
set_option maxRecDepth 20000 in
theorem gX6_states_X6_of : GoodIn wsX6_states (wsV RX6 153 RX6 yX6_of wsX6_of) := goodIn_app (goodIn_of _ (by decide +kernel)) ggX6_states_X6_of
theorem dX6_states_0 : decode cX6_states 0 = .ok (.iconst 0, 1) := by decide +kernel
theorem dX6_states_1 : decode cX6_states 1 = .ok (.istore_n 2, 1) := by decide +kernel
theorem dX6_states_2 : decode cX6_states 2 = .ok (.iconst 0, 1) := by decide +kernel
theorem dX6_states_3 : decode cX6_states 3 = .ok (.istore_n 3, 1) := by decide +kernel
theorem dX6_states_4 : decode cX6_states 4 = .ok (.iload_n 3, 1) := by decide +kernel
theorem dX6_states_5 : decode cX6_states 5 = .ok (.aload_n 0, 1) := by decide +kernel
theorem dX6_states_6 : decode cX6_states 6 = .ok (.getfield 27, 3) := by decide +kernel
theorem dX6_states_9 : decode cX6_states 9 = .ok (.iconst 0, 1) := by decide +kernel
theorem dX6_states_10 : decode cX6_states 10 = .ok (.iaload, 1) := by decide +kernel
theorem dX6_states_11 : decode cX6_states 11 = .ok (.if_icmp .ge 27, 3) := by decide +kernel
theorem dX6_states_14 : decode cX6_states 14 = .ok (.iload_n 2, 1) := by decide +kernel
theorem dX6_states_15 : decode cX6_states 15 = .ok (.aload_n 0, 1) := by decide +kernel
theorem dX6_states_16 : decode cX6_states 16 = .ok (.iload_n 3, 1) := by decide +kernel
theorem dX6_states_17 : decode cX6_states 17 = .ok (.iconst 5, 1) := by decide +kernel
theorem dX6_states_18 : decode cX6_states 18 = .ok (.invokevirtual 153, 3) := by decide +kernel
theorem dX6_states_21 : decode cX6_states 21 = .ok (.iload_n 1, 1) := by decide +kernel
theorem dX6_states_22 : decode cX6_states 22 = .ok (.if_icmp .ne 7, 3) := by decide +kernel
theorem dX6_states_25 : decode cX6_states 25 = .ok (.iconst 1, 1) := by decide +kernel
theorem dX6_states_26 : decode cX6_states 26 = .ok (.goto 4, 3) := by decide +kernel
theorem dX6_states_29 : decode cX6_states 29 = .ok (.iconst 0, 1) := by decide +kernel
theorem dX6_states_30 : decode cX6_states 30 = .ok (.iadd, 1) := by decide +kernel
theorem dX6_states_31 : decode cX6_states 31 = .ok (.istore_n 2, 1) := by decide +kernel
theorem dX6_states_32 : decode cX6_states 32 = .ok (.iinc 3 1, 3) := by decide +kernel
theorem dX6_states_35 : decode cX6_states 35 = .ok (.goto (-31), 3) := by decide +kernel
theorem dX6_states_38 : decode cX6_states 38 = .ok (.iload_n 2, 1) := by decide +kernel
theorem dX6_states_39 : decode cX6_states 39 = .ok (.ireturn, 1) := by decide +kernel
set_option maxRecDepth 20000 in
theorem ggX6_finish_X6_all : GoodIn wsX6_finish wsX6_all := goodIn_r _ [12, 5, 13, 14, 15, 11, 16, 17, 18, 19, 20, 21, 22, 23, 24, 25, 26, 27, 28, 29, 30, 31, 32, 33, 34, 35, 36, 37, 38, 39, 40, 41, 42, 43, 44, 45, 76, 77, 78, 79, 80, 81, 82, 83, 84, 85, 86, 87, 88, 89, 90, 91, 92, 93, 94, 95, 96, 97, 98, 99, 100, 101, 102, 103, 104, 105, 106, 107, 108, 109, 110, 111, 112, 113, 114, 115, 116, 117, 118, 119, 120, 121, 122, 123, 124, 125] (by decide +kernel) (by decide +kernel)
set_option maxRecDepth 20000 in
theorem gX6_finish_X6_all : GoodIn wsX6_finish (wsV RX6 296 RX6 yX6_all wsX6_all) := goodIn_app (goodIn_of _ (by decide +kernel)) ggX6_finish_X6_all
set_option maxRecDepth 20000 in
theorem ggX6_finish_X6_states : GoodIn wsX6_finish wsX6_states := goodIn_r _ [49, 5, 17, 18, 19, 11, 20, 21, 76, 77, 78, 79, 80, 81, 82, 83, 84, 85, 86, 87, 88, 89, 90, 91, 92, 93, 94, 95, 96, 97, 98, 99, 100, 101, 102, 103, 104, 105, 106, 107, 108, 109, 110, 111, 112, 113, 114, 115, 116, 117, 118, 119, 120, 121, 122, 123, 124, 125] (by decide +kernel) (by decide +kernel)
set_option maxRecDepth 20000 in
theorem gX6_finish_X6_states : GoodIn wsX6_finish (wsV RX6 326 RX6 yX6_states wsX6_states) := goodIn_app (goodIn_of _ (by decide +kernel)) ggX6_finish_X6_states
set_option maxRecDepth 20000 in
theorem ggX6_finish_X6_paidAll : GoodIn wsX6_finish wsX6_paidAll := goodIn_r _ [53, 5, 7, 76, 77, 78, 79, 80, 81, 82, 83, 84, 85, 86, 87, 88, 89, 90, 91, 92, 93, 94, 95, 96, 97, 98, 99, 100, 101, 102, 103, 104, 105, 106, 107, 108, 109, 110, 111, 112, 113, 114, 115, 116, 117, 118, 119, 120, 121, 122, 123, 124, 125] (by decide +kernel) (by decide +kernel)
set_option maxRecDepth 20000 in
theorem gX6_finish_X6_paidAll : GoodIn wsX6_finish (wsV RX6 159 RX6 yX6_paidAll wsX6_paidAll) := goodIn_app (goodIn_of _ (by decide +kernel)) ggX6_finish_X6_paidAll
set_option maxRecDepth 20000 in
theorem ggX6_finish_X6_is : GoodIn wsX6_finish wsX6_is := goodIn_r _ [57, 58, 59, 60, 11, 61, 5, 62, 63, 64, 17, 18, 19, 20, 21, 76, 77, 78, 79, 80, 81, 82, 83, 84, 85, 86, 87, 88, 89, 90, 91, 92, 93, 94, 95, 96, 97, 98, 99, 100, 101, 102, 103, 104, 105, 106, 107, 108, 109, 110, 111, 112, 113, 114, 115, 116, 117, 118, 119, 120, 121, 122, 123, 124, 125] (by decide +kernel) (by decide +kernel)
set_option maxRecDepth 20000 in
theorem gX6_finish_X6_is : GoodIn wsX6_finish (wsV RX6 307 RX6 yX6_is wsX6_is) := goodIn_app (goodIn_of _ (by decide +kernel)) ggX6_finish_X6_is
set_option maxRecDepth 20000 in
theorem ggX6_finish_X6_of : GoodIn wsX6_finish wsX6_of := goodIn_r _ [20, 21, 76, 77, 78, 79, 80, 81, 82, 83, 84, 85, 86, 87, 88, 89, 90, 91, 92, 93, 94, 95, 96, 97, 98, 99, 100, 101, 102, 103, 104, 105, 106, 107, 108, 109, 110, 111, 112, 113, 114, 115, 116, 117, 118, 119, 120, 121, 122, 123, 124, 125] (by decide +kernel) (by decide +kernel)
set_option maxRecDepth 20000 in
theorem gX6_finish_X6_of : GoodIn wsX6_finish (wsV RX6 153 RX6 yX6_of wsX6_of) := goodIn_app (goodIn_of _ (by decide +kernel)) ggX6_finish_X6_of
set_option maxRecDepth 20000 in
theorem ggX6_finish_X6_pay : GoodIn wsX6_finish wsX6_pay := goodIn_r _ [68, 7, 33, 69, 70, 71, 72, 73, 74, 75, 17, 18, 19, 11, 20, 21, 76, 77, 78, 79, 80, 81, 82, 83, 84, 85, 86, 87, 88, 89, 90, 91, 92, 93, 94, 95, 96, 97, 98, 99, 100, 101, 102, 103, 104, 105, 106, 107, 108, 109, 110, 111, 112, 113, 114, 115, 116, 117, 118, 119, 120, 121, 122, 123, 124, 125] (by decide +kernel) (by decide +kernel)
set_option maxRecDepth 20000 in
theorem gX6_finish_X6_pay : GoodIn wsX6_finish (wsV RX6 322 RX6 yX6_pay wsX6_pay) := goodIn_app (goodIn_of _ (by decide +kernel)) ggX6_finish_X6_pay
theorem dX6_finish_0 : decode cX6_finish 0 = .ok (.aload_n 0, 1) := by decide +kernel
theorem dX6_finish_1 : decode cX6_finish 1 = .ok (.iconst 0, 1) := by decide +kernel
theorem dX6_finish_2 : decode cX6_finish 2 = .ok (.putfield 129, 3) := by decide +kernel
theorem dX6_finish_5 : decode cX6_finish 5 = .ok (.aload_n 0, 1) := by decide +kernel
theorem dX6_finish_6 : decode cX6_finish 6 = .ok (.invokevirtual 296, 3) := by decide +kernel
theorem dX6_finish_9 : decode cX6_finish 9 = .ok (.lstore_n 1, 1) := by decide +kernel
theorem dX6_finish_10 : decode cX6_finish 10 = .ok (.aload_n 0, 1) := by decide +kernel
theorem dX6_finish_11 : decode cX6_finish 11 = .ok (.getfield 33, 3) := by decide +kernel
theorem dX6_finish_14 : decode cX6_finish 14 = .ok (.iconst 0, 1) := by decide +kernel
theorem dX6_finish_15 : decode cX6_finish 15 = .ok (.baload, 1) := by decide +kernel
theorem dX6_finish_16 : decode cX6_finish 16 = .ok (.ifCond .ne 17, 3) := by decide +kernel
theorem dX6_finish_19 : decode cX6_finish 19 = .ok (.lload_n 1, 1) := by decide +kernel
theorem dX6_finish_20 : decode cX6_finish 20 = .ok (.lconst 0, 1) := by decide +kernel
theorem dX6_finish_21 : decode cX6_finish 21 = .ok (.lcmp, 1) := by decide +kernel
theorem dX6_finish_22 : decode cX6_finish 22 = .ok (.ifCond .eq 11, 3) := by decide +kernel
theorem dX6_finish_25 : decode cX6_finish 25 = .ok (.aload_n 0, 1) := by decide +kernel
theorem dX6_finish_26 : decode cX6_finish 26 = .ok (.iconst 0, 1) := by decide +kernel
theorem dX6_finish_27 : decode cX6_finish 27 = .ok (.invokevirtual 326, 3) := by decide +kernel
theorem dX6_finish_30 : decode cX6_finish 30 = .ok (.ifCond .le 7, 3) := by decide +kernel
theorem dX6_finish_33 : decode cX6_finish 33 = .ok (.ldc2_w 314, 3) := by decide +kernel
theorem dX6_finish_36 : decode cX6_finish 36 = .ok (.lreturn, 1) := by decide +kernel
theorem dX6_finish_37 : decode cX6_finish 37 = .ok (.aload_n 0, 1) := by decide +kernel
theorem dX6_finish_38 : decode cX6_finish 38 = .ok (.invokevirtual 159, 3) := by decide +kernel
theorem dX6_finish_41 : decode cX6_finish 41 = .ok (.lstore_n 3, 1) := by decide +kernel
theorem dX6_finish_42 : decode cX6_finish 42 = .ok (.aload_n 0, 1) := by decide +kernel
theorem dX6_finish_43 : decode cX6_finish 43 = .ok (.getfield 23, 3) := by decide +kernel
theorem dX6_finish_46 : decode cX6_finish 46 = .ok (.iconst 0, 1) := by decide +kernel
theorem dX6_finish_47 : decode cX6_finish 47 = .ok (.laload, 1) := by decide +kernel
theorem dX6_finish_48 : decode cX6_finish 48 = .ok (.lstore 5, 2) := by decide +kernel
theorem dX6_finish_50 : decode cX6_finish 50 = .ok (.iconst 0, 1) := by decide +kernel
theorem dX6_finish_51 : decode cX6_finish 51 = .ok (.istore 7, 2) := by decide +kernel
theorem dX6_finish_53 : decode cX6_finish 53 = .ok (.iload 7, 2) := by decide +kernel
theorem dX6_finish_55 : decode cX6_finish 55 = .ok (.aload_n 0, 1) := by decide +kernel
theorem dX6_finish_56 : decode cX6_finish 56 = .ok (.getfield 27, 3) := by decide +kernel
theorem dX6_finish_59 : decode cX6_finish 59 = .ok (.iconst 0, 1) := by decide +kernel
theorem dX6_finish_60 : decode cX6_finish 60 = .ok (.iaload, 1) := by decide +kernel
theorem dX6_finish_61 : decode cX6_finish 61 = .ok (.if_icmp .ge 97, 3) := by decide +kernel
theorem dX6_finish_64 : decode cX6_finish 64 = .ok (.aload_n 0, 1) := by decide +kernel
theorem dX6_finish_65 : decode cX6_finish 65 = .ok (.getfield 121, 3) := by decide +kernel
theorem dX6_finish_68 : decode cX6_finish 68 = .ok (.iload 7, 2) := by decide +kernel
theorem dX6_finish_70 : decode cX6_finish 70 = .ok (.ldc2_w 314, 3) := by decide +kernel
theorem dX6_finish_73 : decode cX6_finish 73 = .ok (.lastore, 1) := by decide +kernel
theorem dX6_finish_74 : decode cX6_finish 74 = .ok (.aload_n 0, 1) := by decide +kernel
theorem dX6_finish_75 : decode cX6_finish 75 = .ok (.iload 7, 2) := by decide +kernel
theorem dX6_finish_77 : decode cX6_finish 77 = .ok (.iconst 1, 1) := by decide +kernel
theorem dX6_finish_78 : decode cX6_finish 78 = .ok (.invokevirtual 307, 3) := by decide +kernel
theorem dX6_finish_81 : decode cX6_finish 81 = .ok (.ifCond .eq 71, 3) := by decide +kernel
theorem dX6_finish_84 : decode cX6_finish 84 = .ok (.aload_n 0, 1) := by decide +kernel
theorem dX6_finish_85 : decode cX6_finish 85 = .ok (.getfield 23, 3) := by decide +kernel
theorem dX6_finish_88 : decode cX6_finish 88 = .ok (.iconst 0, 1) := by decide +kernel
theorem dX6_finish_89 : decode cX6_finish 89 = .ok (.laload, 1) := by decide +kernel
theorem dX6_finish_90 : decode cX6_finish 90 = .ok (.aload_n 0, 1) := by decide +kernel
theorem dX6_finish_91 : decode cX6_finish 91 = .ok (.iload 7, 2) := by decide +kernel
theorem dX6_finish_93 : decode cX6_finish 93 = .ok (.bipush 6, 2) := by decide +kernel
theorem dX6_finish_95 : decode cX6_finish 95 = .ok (.invokevirtual 153, 3) := by decide +kernel
theorem dX6_finish_98 : decode cX6_finish 98 = .ok (.i2l, 1) := by decide +kernel
theorem dX6_finish_99 : decode cX6_finish 99 = .ok (.lmul, 1) := by decide +kernel
theorem dX6_finish_100 : decode cX6_finish 100 = .ok (.lload_n 1, 1) := by decide +kernel
theorem dX6_finish_101 : decode cX6_finish 101 = .ok (.ldiv, 1) := by decide +kernel
theorem dX6_finish_102 : decode cX6_finish 102 = .ok (.lstore 8, 2) := by decide +kernel
theorem dX6_finish_104 : decode cX6_finish 104 = .ok (.aload_n 0, 1) := by decide +kernel
theorem dX6_finish_105 : decode cX6_finish 105 = .ok (.getfield 121, 3) := by decide +kernel
theorem dX6_finish_108 : decode cX6_finish 108 = .ok (.iload 7, 2) := by decide +kernel
theorem dX6_finish_110 : decode cX6_finish 110 = .ok (.aload_n 0, 1) := by decide +kernel
theorem dX6_finish_111 : decode cX6_finish 111 = .ok (.getfield 23, 3) := by decide +kernel
theorem dX6_finish_114 : decode cX6_finish 114 = .ok (.iconst 0, 1) := by decide +kernel
theorem dX6_finish_115 : decode cX6_finish 115 = .ok (.laload, 1) := by decide +kernel
theorem dX6_finish_116 : decode cX6_finish 116 = .ok (.aload_n 0, 1) := by decide +kernel
theorem dX6_finish_117 : decode cX6_finish 117 = .ok (.iload 7, 2) := by decide +kernel
theorem dX6_finish_119 : decode cX6_finish 119 = .ok (.bipush 6, 2) := by decide +kernel
theorem dX6_finish_121 : decode cX6_finish 121 = .ok (.invokevirtual 153, 3) := by decide +kernel
theorem dX6_finish_124 : decode cX6_finish 124 = .ok (.i2l, 1) := by decide +kernel
theorem dX6_finish_125 : decode cX6_finish 125 = .ok (.lmul, 1) := by decide +kernel
theorem dX6_finish_126 : decode cX6_finish 126 = .ok (.lload_n 1, 1) := by decide +kernel
theorem dX6_finish_127 : decode cX6_finish 127 = .ok (.lrem, 1) := by decide +kernel
theorem dX6_finish_128 : decode cX6_finish 128 = .ok (.lastore, 1) := by decide +kernel
theorem dX6_finish_129 : decode cX6_finish 129 = .ok (.lload 5, 2) := by decide +kernel
theorem dX6_finish_131 : decode cX6_finish 131 = .ok (.lload 8, 2) := by decide +kernel
theorem dX6_finish_133 : decode cX6_finish 133 = .ok (.lsub, 1) := by decide +kernel
theorem dX6_finish_134 : decode cX6_finish 134 = .ok (.lstore 5, 2) := by decide +kernel
theorem dX6_finish_136 : decode cX6_finish 136 = .ok (.aload_n 0, 1) := by decide +kernel
theorem dX6_finish_137 : decode cX6_finish 137 = .ok (.iload 7, 2) := by decide +kernel
theorem dX6_finish_139 : decode cX6_finish 139 = .ok (.lload 8, 2) := by decide +kernel
theorem dX6_finish_141 : decode cX6_finish 141 = .ok (.aload_n 0, 1) := by decide +kernel
theorem dX6_finish_142 : decode cX6_finish 142 = .ok (.getfield 40, 3) := by decide +kernel
theorem dX6_finish_145 : decode cX6_finish 145 = .ok (.iload 7, 2) := by decide +kernel
theorem dX6_finish_147 : decode cX6_finish 147 = .ok (.laload, 1) := by decide +kernel
theorem dX6_finish_148 : decode cX6_finish 148 = .ok (.lsub, 1) := by decide +kernel
theorem dX6_finish_149 : decode cX6_finish 149 = .ok (.invokevirtual 322, 3) := by decide +kernel
theorem dX6_finish_152 : decode cX6_finish 152 = .ok (.iinc 7 1, 3) := by decide +kernel
theorem dX6_finish_155 : decode cX6_finish 155 = .ok (.goto (-102), 3) := by decide +kernel
theorem dX6_finish_158 : decode cX6_finish 158 = .ok (.lload 5, 2) := by decide +kernel
theorem dX6_finish_160 : decode cX6_finish 160 = .ok (.lconst 0, 1) := by decide +kernel
theorem dX6_finish_161 : decode cX6_finish 161 = .ok (.lcmp, 1) := by decide +kernel
theorem dX6_finish_162 : decode cX6_finish 162 = .ok (.ifCond .le 92, 3) := by decide +kernel
theorem dX6_finish_165 : decode cX6_finish 165 = .ok (.iconst (-1), 1) := by decide +kernel
theorem dX6_finish_166 : decode cX6_finish 166 = .ok (.istore 7, 2) := by decide +kernel
theorem dX6_finish_168 : decode cX6_finish 168 = .ok (.iconst 0, 1) := by decide +kernel
theorem dX6_finish_169 : decode cX6_finish 169 = .ok (.istore 8, 2) := by decide +kernel
theorem dX6_finish_171 : decode cX6_finish 171 = .ok (.iload 8, 2) := by decide +kernel
theorem dX6_finish_173 : decode cX6_finish 173 = .ok (.aload_n 0, 1) := by decide +kernel
theorem dX6_finish_174 : decode cX6_finish 174 = .ok (.getfield 27, 3) := by decide +kernel
theorem dX6_finish_177 : decode cX6_finish 177 = .ok (.iconst 0, 1) := by decide +kernel
theorem dX6_finish_178 : decode cX6_finish 178 = .ok (.iaload, 1) := by decide +kernel
theorem dX6_finish_179 : decode cX6_finish 179 = .ok (.if_icmp .ge 49, 3) := by decide +kernel
theorem dX6_finish_182 : decode cX6_finish 182 = .ok (.aload_n 0, 1) := by decide +kernel
theorem dX6_finish_183 : decode cX6_finish 183 = .ok (.getfield 121, 3) := by decide +kernel
theorem dX6_finish_186 : decode cX6_finish 186 = .ok (.iload 8, 2) := by decide +kernel
theorem dX6_finish_188 : decode cX6_finish 188 = .ok (.laload, 1) := by decide +kernel
theorem dX6_finish_189 : decode cX6_finish 189 = .ok (.lconst 0, 1) := by decide +kernel
theorem dX6_finish_190 : decode cX6_finish 190 = .ok (.lcmp, 1) := by decide +kernel
theorem dX6_finish_191 : decode cX6_finish 191 = .ok (.ifCond .lt 31, 3) := by decide +kernel
theorem dX6_finish_194 : decode cX6_finish 194 = .ok (.iload 7, 2) := by decide +kernel
theorem dX6_finish_196 : decode cX6_finish 196 = .ok (.iconst (-1), 1) := by decide +kernel
theorem dX6_finish_197 : decode cX6_finish 197 = .ok (.if_icmp .eq 21, 3) := by decide +kernel
theorem dX6_finish_200 : decode cX6_finish 200 = .ok (.aload_n 0, 1) := by decide +kernel
theorem dX6_finish_201 : decode cX6_finish 201 = .ok (.getfield 121, 3) := by decide +kernel
theorem dX6_finish_204 : decode cX6_finish 204 = .ok (.iload 8, 2) := by decide +kernel
theorem dX6_finish_206 : decode cX6_finish 206 = .ok (.laload, 1) := by decide +kernel
theorem dX6_finish_207 : decode cX6_finish 207 = .ok (.aload_n 0, 1) := by decide +kernel
theorem dX6_finish_208 : decode cX6_finish 208 = .ok (.getfield 121, 3) := by decide +kernel
theorem dX6_finish_211 : decode cX6_finish 211 = .ok (.iload 7, 2) := by decide +kernel
theorem dX6_finish_213 : decode cX6_finish 213 = .ok (.laload, 1) := by decide +kernel
theorem dX6_finish_214 : decode cX6_finish 214 = .ok (.lcmp, 1) := by decide +kernel
theorem dX6_finish_215 : decode cX6_finish 215 = .ok (.ifCond .le 7, 3) := by decide +kernel
theorem dX6_finish_218 : decode cX6_finish 218 = .ok (.iload 8, 2) := by decide +kernel
theorem dX6_finish_220 : decode cX6_finish 220 = .ok (.istore 7, 2) := by decide +kernel
theorem dX6_finish_222 : decode cX6_finish 222 = .ok (.iinc 8 1, 3) := by decide +kernel
theorem dX6_finish_225 : decode cX6_finish 225 = .ok (.goto (-54), 3) := by decide +kernel
theorem dX6_finish_228 : decode cX6_finish 228 = .ok (.aload_n 0, 1) := by decide +kernel
theorem dX6_finish_229 : decode cX6_finish 229 = .ok (.iload 7, 2) := by decide +kernel
theorem dX6_finish_231 : decode cX6_finish 231 = .ok (.lconst 1, 1) := by decide +kernel
theorem dX6_finish_232 : decode cX6_finish 232 = .ok (.invokevirtual 322, 3) := by decide +kernel
theorem dX6_finish_235 : decode cX6_finish 235 = .ok (.aload_n 0, 1) := by decide +kernel
theorem dX6_finish_236 : decode cX6_finish 236 = .ok (.getfield 121, 3) := by decide +kernel
theorem dX6_finish_239 : decode cX6_finish 239 = .ok (.iload 7, 2) := by decide +kernel
theorem dX6_finish_241 : decode cX6_finish 241 = .ok (.ldc2_w 314, 3) := by decide +kernel
theorem dX6_finish_244 : decode cX6_finish 244 = .ok (.lastore, 1) := by decide +kernel
theorem dX6_finish_245 : decode cX6_finish 245 = .ok (.lload 5, 2) := by decide +kernel
theorem dX6_finish_247 : decode cX6_finish 247 = .ok (.lconst 1, 1) := by decide +kernel
theorem dX6_finish_248 : decode cX6_finish 248 = .ok (.lsub, 1) := by decide +kernel
theorem dX6_finish_249 : decode cX6_finish 249 = .ok (.lstore 5, 2) := by decide +kernel
theorem dX6_finish_251 : decode cX6_finish 251 = .ok (.goto (-93), 3) := by decide +kernel
theorem dX6_finish_254 : decode cX6_finish 254 = .ok (.aload_n 0, 1) := by decide +kernel
theorem dX6_finish_255 : decode cX6_finish 255 = .ok (.getfield 33, 3) := by decide +kernel
theorem dX6_finish_258 : decode cX6_finish 258 = .ok (.iconst 0, 1) := by decide +kernel
theorem dX6_finish_259 : decode cX6_finish 259 = .ok (.iconst 1, 1) := by decide +kernel
theorem dX6_finish_260 : decode cX6_finish 260 = .ok (.bastore, 1) := by decide +kernel
theorem dX6_finish_261 : decode cX6_finish 261 = .ok (.aload_n 0, 1) := by decide +kernel
theorem dX6_finish_262 : decode cX6_finish 262 = .ok (.invokevirtual 159, 3) := by decide +kernel
theorem dX6_finish_265 : decode cX6_finish 265 = .ok (.lload_n 3, 1) := by decide +kernel
theorem dX6_finish_266 : decode cX6_finish 266 = .ok (.lsub, 1) := by decide +kernel
theorem dX6_finish_267 : decode cX6_finish 267 = .ok (.lreturn, 1) := by decide +kernel
set_option maxRecDepth 20000 in
theorem ggX6_sum_X6_paidAll : GoodIn wsX6_sum wsX6_paidAll := goodIn_r _ [9, 3, 10, 53, 54, 55, 56, 57, 58, 59, 60, 61, 62, 63, 64, 65, 66, 67, 68, 69, 70, 71, 72, 73, 74, 75, 76, 77, 78, 79, 80, 81, 82, 83, 84, 85, 86, 87, 88, 89, 90, 91, 92, 93, 94, 95, 96, 97, 98, 99, 100, 101, 102] (by decide +kernel) (by decide +kernel)
set_option maxRecDepth 20000 in
theorem gX6_sum_X6_paidAll : GoodIn wsX6_sum (wsV RX6 159 RX6 yX6_paidAll wsX6_paidAll) := goodIn_app (goodIn_of _ (by decide +kernel)) ggX6_sum_X6_paidAll
set_option maxRecDepth 20000 in
theorem ggX6_sum_X6_all : GoodIn wsX6_sum wsX6_all := goodIn_r _ [14, 3, 15, 16, 17, 8, 18, 19, 20, 21, 22, 23, 24, 25, 26, 27, 28, 29, 30, 31, 32, 33, 34, 35, 36, 37, 38, 39, 40, 41, 42, 43, 44, 45, 46, 47, 53, 54, 55, 56, 57, 58, 59, 60, 61, 62, 63, 64, 65, 66, 67, 68, 69, 70, 71, 72, 73, 74, 75, 76, 77, 78, 79, 80, 81, 82, 83, 84, 85, 86, 87, 88, 89, 90, 91, 92, 93, 94, 95, 96, 97, 98, 99, 100, 101, 102] (by decide +kernel) (by decide +kernel)
set_option maxRecDepth 20000 in
theorem gX6_sum_X6_all : GoodIn wsX6_sum (wsV RX6 296 RX6 yX6_all wsX6_all) := goodIn_app (goodIn_of _ (by decide +kernel)) ggX6_sum_X6_all
set_option maxRecDepth 20000 in
theorem ggX6_sum_X6_leastOf : GoodIn wsX6_sum wsX6_leastOf := goodIn_r _ [51, 52, 19, 20, 21, 8, 22, 23, 24, 25, 26, 27, 28, 29, 30, 31, 32, 33, 34, 35, 36, 37, 38, 39, 40, 41, 42, 43, 44, 45, 46, 47, 53, 54, 55, 56, 57, 58, 59, 60, 61, 62, 63, 64, 65, 66, 67, 68, 69, 70, 71, 72, 73, 74, 75, 76, 77, 78, 79, 80, 81, 82, 83, 84, 85, 86, 87, 88, 89, 90, 91, 92, 93, 94, 95, 96, 97, 98, 99, 100, 101, 102] (by decide +kernel) (by decide +kernel)
set_option maxRecDepth 20000 in
theorem gX6_sum_X6_leastOf : GoodIn wsX6_sum (wsV RX6 293 RX6 yX6_leastOf wsX6_leastOf) := goodIn_app (goodIn_of _ (by decide +kernel)) ggX6_sum_X6_leastOf
theorem dX6_sum_0 : decode cX6_sum 0 = .ok (.aload_n 0, 1) := by decide +kernel
theorem dX6_sum_1 : decode cX6_sum 1 = .ok (.iconst 0, 1) := by decide +kernel
theorem dX6_sum_2 : decode cX6_sum 2 = .ok (.putfield 129, 3) := by decide +kernel
theorem dX6_sum_5 : decode cX6_sum 5 = .ok (.iload_n 1, 1) := by decide +kernel
theorem dX6_sum_6 : decode cX6_sum 6 = .ok (.tableswitch 81 0 3 #[30, 37, 42, 47], 30) := by decide +kernel
theorem dX6_sum_36 : decode cX6_sum 36 = .ok (.aload_n 0, 1) := by decide +kernel
theorem dX6_sum_37 : decode cX6_sum 37 = .ok (.getfield 23, 3) := by decide +kernel
theorem dX6_sum_40 : decode cX6_sum 40 = .ok (.iconst 0, 1) := by decide +kernel
theorem dX6_sum_41 : decode cX6_sum 41 = .ok (.laload, 1) := by decide +kernel
theorem dX6_sum_42 : decode cX6_sum 42 = .ok (.lreturn, 1) := by decide +kernel
theorem dX6_sum_43 : decode cX6_sum 43 = .ok (.aload_n 0, 1) := by decide +kernel
theorem dX6_sum_44 : decode cX6_sum 44 = .ok (.invokevirtual 159, 3) := by decide +kernel
theorem dX6_sum_47 : decode cX6_sum 47 = .ok (.lreturn, 1) := by decide +kernel
theorem dX6_sum_48 : decode cX6_sum 48 = .ok (.aload_n 0, 1) := by decide +kernel
theorem dX6_sum_49 : decode cX6_sum 49 = .ok (.invokevirtual 296, 3) := by decide +kernel
theorem dX6_sum_52 : decode cX6_sum 52 = .ok (.lreturn, 1) := by decide +kernel
theorem dX6_sum_53 : decode cX6_sum 53 = .ok (.lconst 0, 1) := by decide +kernel
theorem dX6_sum_54 : decode cX6_sum 54 = .ok (.lstore_n 2, 1) := by decide +kernel
theorem dX6_sum_55 : decode cX6_sum 55 = .ok (.iconst 0, 1) := by decide +kernel
theorem dX6_sum_56 : decode cX6_sum 56 = .ok (.istore 4, 2) := by decide +kernel
theorem dX6_sum_58 : decode cX6_sum 58 = .ok (.iload 4, 2) := by decide +kernel
theorem dX6_sum_60 : decode cX6_sum 60 = .ok (.aload_n 0, 1) := by decide +kernel
theorem dX6_sum_61 : decode cX6_sum 61 = .ok (.getfield 27, 3) := by decide +kernel
theorem dX6_sum_64 : decode cX6_sum 64 = .ok (.iconst 0, 1) := by decide +kernel
theorem dX6_sum_65 : decode cX6_sum 65 = .ok (.iaload, 1) := by decide +kernel
theorem dX6_sum_66 : decode cX6_sum 66 = .ok (.if_icmp .ge 19, 3) := by decide +kernel
theorem dX6_sum_69 : decode cX6_sum 69 = .ok (.lload_n 2, 1) := by decide +kernel
theorem dX6_sum_70 : decode cX6_sum 70 = .ok (.aload_n 0, 1) := by decide +kernel
theorem dX6_sum_71 : decode cX6_sum 71 = .ok (.iload 4, 2) := by decide +kernel
theorem dX6_sum_73 : decode cX6_sum 73 = .ok (.invokevirtual 293, 3) := by decide +kernel
theorem dX6_sum_76 : decode cX6_sum 76 = .ok (.i2l, 1) := by decide +kernel
theorem dX6_sum_77 : decode cX6_sum 77 = .ok (.ladd, 1) := by decide +kernel
theorem dX6_sum_78 : decode cX6_sum 78 = .ok (.lstore_n 2, 1) := by decide +kernel
theorem dX6_sum_79 : decode cX6_sum 79 = .ok (.iinc 4 1, 3) := by decide +kernel
theorem dX6_sum_82 : decode cX6_sum 82 = .ok (.goto (-24), 3) := by decide +kernel
theorem dX6_sum_85 : decode cX6_sum 85 = .ok (.lload_n 2, 1) := by decide +kernel
theorem dX6_sum_86 : decode cX6_sum 86 = .ok (.lreturn, 1) := by decide +kernel
theorem dX6_sum_87 : decode cX6_sum 87 = .ok (.ldc2_w 314, 3) := by decide +kernel
theorem dX6_sum_90 : decode cX6_sum 90 = .ok (.lreturn, 1) := by decide +kernel
set_option maxRecDepth 20000 in
theorem ggX6_count_X6_states : GoodIn wsX6_count wsX6_states := goodIn_r _ [10, 2, 11, 12, 13, 9, 14, 15, 16, 17, 18, 19, 20, 21, 22, 23, 24, 25, 26, 27, 28, 29, 30, 31, 32, 33, 34, 35, 36, 37, 38, 39, 40, 41, 42, 43, 44, 45, 46, 47, 48, 49, 50, 51, 52, 53, 54, 55, 56, 57, 58, 59, 60, 61, 62, 63, 64, 65] (by decide +kernel) (by decide +kernel)
set_option maxRecDepth 20000 in
theorem gX6_count_X6_states : GoodIn wsX6_count (wsV RX6 326 RX6 yX6_states wsX6_states) := goodIn_app (goodIn_of _ (by decide +kernel)) ggX6_count_X6_states
theorem dX6_count_0 : decode cX6_count 0 = .ok (.aload_n 0, 1) := by decide +kernel
theorem dX6_count_1 : decode cX6_count 1 = .ok (.iconst 0, 1) := by decide +kernel
theorem dX6_count_2 : decode cX6_count 2 = .ok (.putfield 129, 3) := by decide +kernel
theorem dX6_count_5 : decode cX6_count 5 = .ok (.iload_n 1, 1) := by decide +kernel
theorem dX6_count_6 : decode cX6_count 6 = .ok (.tableswitch 96 0 6 #[42, 49, 55, 61, 67, 74, 81], 42) := by decide +kernel
theorem dX6_count_48 : decode cX6_count 48 = .ok (.aload_n 0, 1) := by decide +kernel
theorem dX6_count_49 : decode cX6_count 49 = .ok (.getfield 27, 3) := by decide +kernel
theorem dX6_count_52 : decode cX6_count 52 = .ok (.iconst 0, 1) := by decide +kernel
theorem dX6_count_53 : decode cX6_count 53 = .ok (.iaload, 1) := by decide +kernel
theorem dX6_count_54 : decode cX6_count 54 = .ok (.ireturn, 1) := by decide +kernel
theorem dX6_count_55 : decode cX6_count 55 = .ok (.aload_n 0, 1) := by decide +kernel
theorem dX6_count_56 : decode cX6_count 56 = .ok (.iconst 0, 1) := by decide +kernel
theorem dX6_count_57 : decode cX6_count 57 = .ok (.invokevirtual 326, 3) := by decide +kernel
theorem dX6_count_60 : decode cX6_count 60 = .ok (.ireturn, 1) := by decide +kernel
theorem dX6_count_61 : decode cX6_count 61 = .ok (.aload_n 0, 1) := by decide +kernel
theorem dX6_count_62 : decode cX6_count 62 = .ok (.iconst 1, 1) := by decide +kernel
theorem dX6_count_63 : decode cX6_count 63 = .ok (.invokevirtual 326, 3) := by decide +kernel
theorem dX6_count_66 : decode cX6_count 66 = .ok (.ireturn, 1) := by decide +kernel
theorem dX6_count_67 : decode cX6_count 67 = .ok (.aload_n 0, 1) := by decide +kernel
theorem dX6_count_68 : decode cX6_count 68 = .ok (.iconst 2, 1) := by decide +kernel
theorem dX6_count_69 : decode cX6_count 69 = .ok (.invokevirtual 326, 3) := by decide +kernel
theorem dX6_count_72 : decode cX6_count 72 = .ok (.ireturn, 1) := by decide +kernel
theorem dX6_count_73 : decode cX6_count 73 = .ok (.aload_n 0, 1) := by decide +kernel
theorem dX6_count_74 : decode cX6_count 74 = .ok (.getfield 64, 3) := by decide +kernel
theorem dX6_count_77 : decode cX6_count 77 = .ok (.iconst 0, 1) := by decide +kernel
theorem dX6_count_78 : decode cX6_count 78 = .ok (.iaload, 1) := by decide +kernel
theorem dX6_count_79 : decode cX6_count 79 = .ok (.ireturn, 1) := by decide +kernel
theorem dX6_count_80 : decode cX6_count 80 = .ok (.aload_n 0, 1) := by decide +kernel
theorem dX6_count_81 : decode cX6_count 81 = .ok (.getfield 30, 3) := by decide +kernel
theorem dX6_count_84 : decode cX6_count 84 = .ok (.iconst 0, 1) := by decide +kernel
theorem dX6_count_85 : decode cX6_count 85 = .ok (.iaload, 1) := by decide +kernel
theorem dX6_count_86 : decode cX6_count 86 = .ok (.ireturn, 1) := by decide +kernel
theorem dX6_count_87 : decode cX6_count 87 = .ok (.aload_n 0, 1) := by decide +kernel
theorem dX6_count_88 : decode cX6_count 88 = .ok (.getfield 33, 3) := by decide +kernel
theorem dX6_count_91 : decode cX6_count 91 = .ok (.iconst 0, 1) := by decide +kernel
theorem dX6_count_92 : decode cX6_count 92 = .ok (.baload, 1) := by decide +kernel
theorem dX6_count_93 : decode cX6_count 93 = .ok (.ifCond .eq 7, 3) := by decide +kernel
theorem dX6_count_96 : decode cX6_count 96 = .ok (.iconst 1, 1) := by decide +kernel
theorem dX6_count_97 : decode cX6_count 97 = .ok (.goto 4, 3) := by decide +kernel
theorem dX6_count_100 : decode cX6_count 100 = .ok (.iconst 0, 1) := by decide +kernel
theorem dX6_count_101 : decode cX6_count 101 = .ok (.ireturn, 1) := by decide +kernel
theorem dX6_count_102 : decode cX6_count 102 = .ok (.iconst (-1), 1) := by decide +kernel
theorem dX6_count_103 : decode cX6_count 103 = .ok (.ireturn, 1) := by decide +kernel
set_option maxRecDepth 20000 in
theorem ggX6_image_X6_in : GoodIn wsX6_image wsX6_in := goodIn_r _ [6] (by decide +kernel) (by decide +kernel)
set_option maxRecDepth 20000 in
theorem gX6_image_X6_in : GoodIn wsX6_image (va_wsS RX6 145 yX6_in wsX6_in) := goodIn_app (goodIn_of _ (by decide +kernel)) ggX6_image_X6_in
set_option maxRecDepth 20000 in
theorem ggX6_image_X6_copy : GoodIn wsX6_image wsX6_copy := goodIn_r _ [10, 11, 12, 13, 14, 15, 16, 17, 18, 19, 20, 21, 22, 23, 24, 25, 26, 27, 28, 29, 30, 5, 31, 32, 33, 34, 35, 36, 37, 38, 39, 40, 41, 42, 43, 44, 45, 46, 47, 48, 49, 50, 51, 52, 53, 54, 55, 56, 57, 58, 59, 60, 61, 62, 63, 64, 65, 66, 67, 68, 69, 70, 71, 72, 73, 74, 75, 76, 77, 78, 79, 80, 81, 82, 83, 84, 85, 86, 87, 88, 89, 90, 91, 92, 93, 94] (by decide +kernel) (by decide +kernel)
set_option maxRecDepth 20000 in
theorem gX6_image_X6_copy : GoodIn wsX6_image (wsV RX6 329 RX6 yX6_copy wsX6_copy) := goodIn_app (goodIn_of _ (by decide +kernel)) ggX6_image_X6_copy
theorem dX6_image_0 : decode cX6_image 0 = .ok (.aload_n 0, 1) := by decide +kernel
theorem dX6_image_1 : decode cX6_image 1 = .ok (.iconst 0, 1) := by decide +kernel
theorem dX6_image_2 : decode cX6_image 2 = .ok (.putfield 129, 3) := by decide +kernel
theorem dX6_image_5 : decode cX6_image 5 = .ok (.iload_n 1, 1) := by decide +kernel
theorem dX6_image_6 : decode cX6_image 6 = .ok (.iconst 0, 1) := by decide +kernel
theorem dX6_image_7 : decode cX6_image 7 = .ok (.iconst 2, 1) := by decide +kernel
theorem dX6_image_8 : decode cX6_image 8 = .ok (.invokestatic 145, 3) := by decide +kernel
theorem dX6_image_11 : decode cX6_image 11 = .ok (.ifCond .ne 5, 3) := by decide +kernel
theorem dX6_image_14 : decode cX6_image 14 = .ok (.iconst 0, 1) := by decide +kernel
theorem dX6_image_15 : decode cX6_image 15 = .ok (.ireturn, 1) := by decide +kernel
theorem dX6_image_16 : decode cX6_image 16 = .ok (.aload_n 0, 1) := by decide +kernel
theorem dX6_image_17 : decode cX6_image 17 = .ok (.iconst 0, 1) := by decide +kernel
theorem dX6_image_18 : decode cX6_image 18 = .ok (.iload_n 1, 1) := by decide +kernel
theorem dX6_image_19 : decode cX6_image 19 = .ok (.iconst 1, 1) := by decide +kernel
theorem dX6_image_20 : decode cX6_image 20 = .ok (.iadd, 1) := by decide +kernel
theorem dX6_image_21 : decode cX6_image 21 = .ok (.invokevirtual 329, 3) := by decide +kernel
theorem dX6_image_24 : decode cX6_image 24 = .ok (.aload_n 0, 1) := by decide +kernel
theorem dX6_image_25 : decode cX6_image 25 = .ok (.getfield 124, 3) := by decide +kernel
theorem dX6_image_28 : decode cX6_image 28 = .ok (.iload_n 1, 1) := by decide +kernel
theorem dX6_image_29 : decode cX6_image 29 = .ok (.iconst 1, 1) := by decide +kernel
theorem dX6_image_30 : decode cX6_image 30 = .ok (.bastore, 1) := by decide +kernel
theorem dX6_image_31 : decode cX6_image 31 = .ok (.iconst 1, 1) := by decide +kernel
theorem dX6_image_32 : decode cX6_image 32 = .ok (.ireturn, 1) := by decide +kernel
set_option maxRecDepth 20000 in
theorem ggX6_again_X6_in : GoodIn wsX6_again wsX6_in := goodIn_r _ [6] (by decide +kernel) (by decide +kernel)
set_option maxRecDepth 20000 in
theorem gX6_again_X6_in : GoodIn wsX6_again (va_wsS RX6 145 yX6_in wsX6_in) := goodIn_app (goodIn_of _ (by decide +kernel)) ggX6_again_X6_in
set_option maxRecDepth 20000 in
theorem ggX6_again_X6_copy : GoodIn wsX6_again wsX6_copy := goodIn_r _ [10, 11, 12, 13, 14, 15, 16, 17, 18, 19, 20, 21, 22, 23, 24, 25, 26, 27, 28, 29, 30, 5, 31, 32, 33, 34, 35, 36, 37, 38, 39, 40, 41, 42, 43, 44, 45, 46, 47, 48, 49, 50, 51, 52, 53, 54, 55, 56, 57, 58, 59, 60, 61, 62, 63, 64, 65, 66, 67, 68, 69, 70, 71, 72, 73, 74, 75, 76, 77, 78, 79, 80, 81, 82, 83, 84, 85, 86, 87, 88, 89, 90, 91, 92, 93, 94] (by decide +kernel) (by decide +kernel)
set_option maxRecDepth 20000 in
theorem gX6_again_X6_copy : GoodIn wsX6_again (wsV RX6 329 RX6 yX6_copy wsX6_copy) := goodIn_app (goodIn_of _ (by decide +kernel)) ggX6_again_X6_copy
theorem dX6_again_0 : decode cX6_again 0 = .ok (.aload_n 0, 1) := by decide +kernel
theorem dX6_again_1 : decode cX6_again 1 = .ok (.iconst 0, 1) := by decide +kernel
theorem dX6_again_2 : decode cX6_again 2 = .ok (.putfield 129, 3) := by decide +kernel
theorem dX6_again_5 : decode cX6_again 5 = .ok (.iload_n 1, 1) := by decide +kernel
theorem dX6_again_6 : decode cX6_again 6 = .ok (.iconst 0, 1) := by decide +kernel
theorem dX6_again_7 : decode cX6_again 7 = .ok (.iconst 2, 1) := by decide +kernel
theorem dX6_again_8 : decode cX6_again 8 = .ok (.invokestatic 145, 3) := by decide +kernel
theorem dX6_again_11 : decode cX6_again 11 = .ok (.ifCond .eq 12, 3) := by decide +kernel
theorem dX6_again_14 : decode cX6_again 14 = .ok (.aload_n 0, 1) := by decide +kernel
theorem dX6_again_15 : decode cX6_again 15 = .ok (.getfield 124, 3) := by decide +kernel
theorem dX6_again_18 : decode cX6_again 18 = .ok (.iload_n 1, 1) := by decide +kernel
theorem dX6_again_19 : decode cX6_again 19 = .ok (.baload, 1) := by decide +kernel
theorem dX6_again_20 : decode cX6_again 20 = .ok (.ifCond .ne 5, 3) := by decide +kernel
theorem dX6_again_23 : decode cX6_again 23 = .ok (.iconst 0, 1) := by decide +kernel
theorem dX6_again_24 : decode cX6_again 24 = .ok (.ireturn, 1) := by decide +kernel
theorem dX6_again_25 : decode cX6_again 25 = .ok (.aload_n 0, 1) := by decide +kernel
theorem dX6_again_26 : decode cX6_again 26 = .ok (.iload_n 1, 1) := by decide +kernel
theorem dX6_again_27 : decode cX6_again 27 = .ok (.iconst 1, 1) := by decide +kernel
theorem dX6_again_28 : decode cX6_again 28 = .ok (.iadd, 1) := by decide +kernel
theorem dX6_again_29 : decode cX6_again 29 = .ok (.iconst 0, 1) := by decide +kernel
theorem dX6_again_30 : decode cX6_again 30 = .ok (.invokevirtual 329, 3) := by decide +kernel
theorem dX6_again_33 : decode cX6_again 33 = .ok (.iconst 1, 1) := by decide +kernel
theorem dX6_again_34 : decode cX6_again 34 = .ok (.ireturn, 1) := by decide +kernel
theorem dJ6_bitCount_0f7a4_0 : decode cJ6_bitCount_0f7a4 0 = .ok (.iload_n 0, 1) := by decide +kernel
theorem dJ6_bitCount_0f7a4_1 : decode cJ6_bitCount_0f7a4 1 = .ok (.iload_n 0, 1) := by decide +kernel
theorem dJ6_bitCount_0f7a4_2 : decode cJ6_bitCount_0f7a4 2 = .ok (.iconst 1, 1) := by decide +kernel
theorem dJ6_bitCount_0f7a4_3 : decode cJ6_bitCount_0f7a4 3 = .ok (.iushr, 1) := by decide +kernel
theorem dJ6_bitCount_0f7a4_4 : decode cJ6_bitCount_0f7a4 4 = .ok (.ldc_w 265, 3) := by decide +kernel
theorem dJ6_bitCount_0f7a4_7 : decode cJ6_bitCount_0f7a4 7 = .ok (.iand, 1) := by decide +kernel
theorem dJ6_bitCount_0f7a4_8 : decode cJ6_bitCount_0f7a4 8 = .ok (.isub, 1) := by decide +kernel
theorem dJ6_bitCount_0f7a4_9 : decode cJ6_bitCount_0f7a4 9 = .ok (.istore_n 0, 1) := by decide +kernel
theorem dJ6_bitCount_0f7a4_10 : decode cJ6_bitCount_0f7a4 10 = .ok (.iload_n 0, 1) := by decide +kernel
theorem dJ6_bitCount_0f7a4_11 : decode cJ6_bitCount_0f7a4 11 = .ok (.ldc_w 266, 3) := by decide +kernel
theorem dJ6_bitCount_0f7a4_14 : decode cJ6_bitCount_0f7a4 14 = .ok (.iand, 1) := by decide +kernel
theorem dJ6_bitCount_0f7a4_15 : decode cJ6_bitCount_0f7a4 15 = .ok (.iload_n 0, 1) := by decide +kernel
theorem dJ6_bitCount_0f7a4_16 : decode cJ6_bitCount_0f7a4 16 = .ok (.iconst 2, 1) := by decide +kernel
theorem dJ6_bitCount_0f7a4_17 : decode cJ6_bitCount_0f7a4 17 = .ok (.iushr, 1) := by decide +kernel
theorem dJ6_bitCount_0f7a4_18 : decode cJ6_bitCount_0f7a4 18 = .ok (.ldc_w 266, 3) := by decide +kernel
theorem dJ6_bitCount_0f7a4_21 : decode cJ6_bitCount_0f7a4 21 = .ok (.iand, 1) := by decide +kernel
theorem dJ6_bitCount_0f7a4_22 : decode cJ6_bitCount_0f7a4 22 = .ok (.iadd, 1) := by decide +kernel
theorem dJ6_bitCount_0f7a4_23 : decode cJ6_bitCount_0f7a4 23 = .ok (.istore_n 0, 1) := by decide +kernel
theorem dJ6_bitCount_0f7a4_24 : decode cJ6_bitCount_0f7a4 24 = .ok (.iload_n 0, 1) := by decide +kernel
theorem dJ6_bitCount_0f7a4_25 : decode cJ6_bitCount_0f7a4 25 = .ok (.iload_n 0, 1) := by decide +kernel
theorem dJ6_bitCount_0f7a4_26 : decode cJ6_bitCount_0f7a4 26 = .ok (.iconst 4, 1) := by decide +kernel
theorem dJ6_bitCount_0f7a4_27 : decode cJ6_bitCount_0f7a4 27 = .ok (.iushr, 1) := by decide +kernel
theorem dJ6_bitCount_0f7a4_28 : decode cJ6_bitCount_0f7a4 28 = .ok (.iadd, 1) := by decide +kernel
theorem dJ6_bitCount_0f7a4_29 : decode cJ6_bitCount_0f7a4 29 = .ok (.ldc_w 267, 3) := by decide +kernel
theorem dJ6_bitCount_0f7a4_32 : decode cJ6_bitCount_0f7a4 32 = .ok (.iand, 1) := by decide +kernel
theorem dJ6_bitCount_0f7a4_33 : decode cJ6_bitCount_0f7a4 33 = .ok (.istore_n 0, 1) := by decide +kernel
theorem dJ6_bitCount_0f7a4_34 : decode cJ6_bitCount_0f7a4 34 = .ok (.iload_n 0, 1) := by decide +kernel
theorem dJ6_bitCount_0f7a4_35 : decode cJ6_bitCount_0f7a4 35 = .ok (.iload_n 0, 1) := by decide +kernel
theorem dJ6_bitCount_0f7a4_36 : decode cJ6_bitCount_0f7a4 36 = .ok (.bipush 8, 2) := by decide +kernel
theorem dJ6_bitCount_0f7a4_38 : decode cJ6_bitCount_0f7a4 38 = .ok (.iushr, 1) := by decide +kernel
theorem dJ6_bitCount_0f7a4_39 : decode cJ6_bitCount_0f7a4 39 = .ok (.iadd, 1) := by decide +kernel
theorem dJ6_bitCount_0f7a4_40 : decode cJ6_bitCount_0f7a4 40 = .ok (.istore_n 0, 1) := by decide +kernel
theorem dJ6_bitCount_0f7a4_41 : decode cJ6_bitCount_0f7a4 41 = .ok (.iload_n 0, 1) := by decide +kernel
theorem dJ6_bitCount_0f7a4_42 : decode cJ6_bitCount_0f7a4 42 = .ok (.iload_n 0, 1) := by decide +kernel
theorem dJ6_bitCount_0f7a4_43 : decode cJ6_bitCount_0f7a4 43 = .ok (.bipush 16, 2) := by decide +kernel
theorem dJ6_bitCount_0f7a4_45 : decode cJ6_bitCount_0f7a4 45 = .ok (.iushr, 1) := by decide +kernel
theorem dJ6_bitCount_0f7a4_46 : decode cJ6_bitCount_0f7a4 46 = .ok (.iadd, 1) := by decide +kernel
theorem dJ6_bitCount_0f7a4_47 : decode cJ6_bitCount_0f7a4 47 = .ok (.istore_n 0, 1) := by decide +kernel
theorem dJ6_bitCount_0f7a4_48 : decode cJ6_bitCount_0f7a4 48 = .ok (.iload_n 0, 1) := by decide +kernel
theorem dJ6_bitCount_0f7a4_49 : decode cJ6_bitCount_0f7a4 49 = .ok (.bipush 63, 2) := by decide +kernel
theorem dJ6_bitCount_0f7a4_51 : decode cJ6_bitCount_0f7a4 51 = .ok (.iand, 1) := by decide +kernel
theorem dJ6_bitCount_0f7a4_52 : decode cJ6_bitCount_0f7a4 52 = .ok (.ireturn, 1) := by decide +kernel
theorem dJ9_max_7cf53_0 : decode cJ9_max_7cf53 0 = .ok (.iload_n 0, 1) := by decide +kernel
theorem dJ9_max_7cf53_1 : decode cJ9_max_7cf53 1 = .ok (.iload_n 1, 1) := by decide +kernel
theorem dJ9_max_7cf53_2 : decode cJ9_max_7cf53 2 = .ok (.if_icmp .lt 7, 3) := by decide +kernel
theorem dJ9_max_7cf53_5 : decode cJ9_max_7cf53 5 = .ok (.iload_n 0, 1) := by decide +kernel
theorem dJ9_max_7cf53_6 : decode cJ9_max_7cf53 6 = .ok (.goto 4, 3) := by decide +kernel
theorem dJ9_max_7cf53_9 : decode cJ9_max_7cf53 9 = .ok (.iload_n 1, 1) := by decide +kernel
theorem dJ9_max_7cf53_10 : decode cJ9_max_7cf53 10 = .ok (.ireturn, 1) := by decide +kernel
theorem dJ9_min_7cf53_0 : decode cJ9_min_7cf53 0 = .ok (.iload_n 0, 1) := by decide +kernel
theorem dJ9_min_7cf53_1 : decode cJ9_min_7cf53 1 = .ok (.iload_n 1, 1) := by decide +kernel
theorem dJ9_min_7cf53_2 : decode cJ9_min_7cf53 2 = .ok (.if_icmp .gt 7, 3) := by decide +kernel
theorem dJ9_min_7cf53_5 : decode cJ9_min_7cf53 5 = .ok (.iload_n 0, 1) := by decide +kernel
theorem dJ9_min_7cf53_6 : decode cJ9_min_7cf53 6 = .ok (.goto 4, 3) := by decide +kernel
theorem dJ9_min_7cf53_9 : decode cJ9_min_7cf53 9 = .ok (.iload_n 1, 1) := by decide +kernel
theorem dJ9_min_7cf53_10 : decode cJ9_min_7cf53 10 = .ok (.ireturn, 1) := by decide +kernel
theorem dJ9_min_f86c9_0 : decode cJ9_min_f86c9 0 = .ok (.lload_n 0, 1) := by decide +kernel
theorem dJ9_min_f86c9_1 : decode cJ9_min_f86c9 1 = .ok (.lload_n 2, 1) := by decide +kernel
theorem dJ9_min_f86c9_2 : decode cJ9_min_f86c9 2 = .ok (.lcmp, 1) := by decide +kernel
theorem dJ9_min_f86c9_3 : decode cJ9_min_f86c9 3 = .ok (.ifCond .gt 7, 3) := by decide +kernel
theorem dJ9_min_f86c9_6 : decode cJ9_min_f86c9 6 = .ok (.lload_n 0, 1) := by decide +kernel
theorem dJ9_min_f86c9_7 : decode cJ9_min_f86c9 7 = .ok (.goto 4, 3) := by decide +kernel
theorem dJ9_min_f86c9_10 : decode cJ9_min_f86c9 10 = .ok (.lload_n 2, 1) := by decide +kernel
theorem dJ9_min_f86c9_11 : decode cJ9_min_f86c9 11 = .ok (.lreturn, 1) := by decide +kernel
set_option maxRecDepth 20000 in
theorem ggJ0_length_8abf5_J0_coder_7d493 : GoodIn wsJ0_length_8abf5 wsJ0_coder_7d493 := goodIn_r _ [6, 7, 8] (by decide +kernel) (by decide +kernel)
set_option maxRecDepth 20000 in
theorem gJ0_length_8abf5_J0_coder_7d493 : GoodIn wsJ0_length_8abf5 (wsV RJ0 335 RJ0 yJ0_coder_7d493 wsJ0_coder_7d493) := goodIn_app (goodIn_of _ (by decide +kernel)) ggJ0_length_8abf5_J0_coder_7d493
theorem dJ0_length_8abf5_0 : decode cJ0_length_8abf5 0 = .ok (.aload_n 0, 1) := by decide +kernel
theorem dJ0_length_8abf5_1 : decode cJ0_length_8abf5 1 = .ok (.getfield 9, 3) := by decide +kernel
theorem dJ0_length_8abf5_4 : decode cJ0_length_8abf5 4 = .ok (.arraylength, 1) := by decide +kernel
theorem dJ0_length_8abf5_5 : decode cJ0_length_8abf5 5 = .ok (.aload_n 0, 1) := by decide +kernel
theorem dJ0_length_8abf5_6 : decode cJ0_length_8abf5 6 = .ok (.invokevirtual 335, 3) := by decide +kernel
theorem dJ0_length_8abf5_9 : decode cJ0_length_8abf5 9 = .ok (.ishr, 1) := by decide +kernel
theorem dJ0_length_8abf5_10 : decode cJ0_length_8abf5 10 = .ok (.ireturn, 1) := by decide +kernel
set_option maxRecDepth 20000 in
theorem ggJ0_charAt_5068e_J0_isLatin1_aae02 : GoodIn wsJ0_charAt_5068e wsJ0_isLatin1_aae02 := goodIn_r _ [6, 7, 8] (by decide +kernel) (by decide +kernel)
set_option maxRecDepth 20000 in
theorem gJ0_charAt_5068e_J0_isLatin1_aae02 : GoodIn wsJ0_charAt_5068e (wsV RJ0 492 RJ0 yJ0_isLatin1_aae02 wsJ0_isLatin1_aae02) := goodIn_app (goodIn_of _ (by decide +kernel)) ggJ0_charAt_5068e_J0_isLatin1_aae02
set_option maxRecDepth 20000 in
theorem ggJ0_charAt_5068e_J1_charAt_3b067 : GoodIn wsJ0_charAt_5068e wsJ1_charAt_3b067 := goodIn_r _ [12, 13, 14, 5, 15, 16, 17, 18, 19, 20] (by decide +kernel) (by decide +kernel)
set_option maxRecDepth 20000 in
theorem gJ0_charAt_5068e_J1_charAt_3b067 : GoodIn wsJ0_charAt_5068e (va_wsS RJ0 495 yJ1_charAt_3b067 wsJ1_charAt_3b067) := goodIn_app (goodIn_of _ (by decide +kernel)) ggJ0_charAt_5068e_J1_charAt_3b067
set_option maxRecDepth 20000 in
theorem ggJ0_charAt_5068e_J2_charAt_3b067 : GoodIn wsJ0_charAt_5068e wsJ2_charAt_3b067 := goodIn_r _ [24, 25, 26, 23, 27, 28, 29, 30, 31, 14, 5, 15, 16, 17, 18, 19, 20, 32, 33, 34, 35, 36, 37] (by decide +kernel) (by decide +kernel)
set_option maxRecDepth 20000 in
theorem gJ0_charAt_5068e_J2_charAt_3b067 : GoodIn wsJ0_charAt_5068e (va_wsS RJ0 498 yJ2_charAt_3b067 wsJ2_charAt_3b067) := goodIn_app (goodIn_of _ (by decide +kernel)) ggJ0_charAt_5068e_J2_charAt_3b067
theorem dJ0_charAt_5068e_0 : decode cJ0_charAt_5068e 0 = .ok (.aload_n 0, 1) := by decide +kernel
theorem dJ0_charAt_5068e_1 : decode cJ0_charAt_5068e 1 = .ok (.invokevirtual 492, 3) := by decide +kernel
theorem dJ0_charAt_5068e_4 : decode cJ0_charAt_5068e 4 = .ok (.ifCond .eq 12, 3) := by decide +kernel
theorem dJ0_charAt_5068e_7 : decode cJ0_charAt_5068e 7 = .ok (.aload_n 0, 1) := by decide +kernel
theorem dJ0_charAt_5068e_8 : decode cJ0_charAt_5068e 8 = .ok (.getfield 9, 3) := by decide +kernel
theorem dJ0_charAt_5068e_11 : decode cJ0_charAt_5068e 11 = .ok (.iload_n 1, 1) := by decide +kernel
theorem dJ0_charAt_5068e_12 : decode cJ0_charAt_5068e 12 = .ok (.invokestatic 495, 3) := by decide +kernel
theorem dJ0_charAt_5068e_15 : decode cJ0_charAt_5068e 15 = .ok (.ireturn, 1) := by decide +kernel
theorem dJ0_charAt_5068e_16 : decode cJ0_charAt_5068e 16 = .ok (.aload_n 0, 1) := by decide +kernel
theorem dJ0_charAt_5068e_17 : decode cJ0_charAt_5068e 17 = .ok (.getfield 9, 3) := by decide +kernel
theorem dJ0_charAt_5068e_20 : decode cJ0_charAt_5068e 20 = .ok (.iload_n 1, 1) := by decide +kernel
theorem dJ0_charAt_5068e_21 : decode cJ0_charAt_5068e 21 = .ok (.invokestatic 498, 3) := by decide +kernel
theorem dJ0_charAt_5068e_24 : decode cJ0_charAt_5068e 24 = .ok (.ireturn, 1) := by decide +kernel
theorem dJ0_coder_7d493_0 : decode cJ0_coder_7d493 0 = .ok (.getstatic 38, 3) := by decide +kernel
theorem dJ0_coder_7d493_3 : decode cJ0_coder_7d493 3 = .ok (.ifCond .eq 10, 3) := by decide +kernel
theorem dJ0_coder_7d493_6 : decode cJ0_coder_7d493 6 = .ok (.aload_n 0, 1) := by decide +kernel
theorem dJ0_coder_7d493_7 : decode cJ0_coder_7d493 7 = .ok (.getfield 15, 3) := by decide +kernel
theorem dJ0_coder_7d493_10 : decode cJ0_coder_7d493 10 = .ok (.goto 4, 3) := by decide +kernel
theorem dJ0_coder_7d493_13 : decode cJ0_coder_7d493 13 = .ok (.iconst 1, 1) := by decide +kernel
theorem dJ0_coder_7d493_14 : decode cJ0_coder_7d493 14 = .ok (.ireturn, 1) := by decide +kernel
theorem dJ0_isLatin1_aae02_0 : decode cJ0_isLatin1_aae02 0 = .ok (.getstatic 38, 3) := by decide +kernel
theorem dJ0_isLatin1_aae02_3 : decode cJ0_isLatin1_aae02 3 = .ok (.ifCond .eq 14, 3) := by decide +kernel
theorem dJ0_isLatin1_aae02_6 : decode cJ0_isLatin1_aae02 6 = .ok (.aload_n 0, 1) := by decide +kernel
theorem dJ0_isLatin1_aae02_7 : decode cJ0_isLatin1_aae02 7 = .ok (.getfield 15, 3) := by decide +kernel
theorem dJ0_isLatin1_aae02_10 : decode cJ0_isLatin1_aae02 10 = .ok (.ifCond .ne 7, 3) := by decide +kernel
theorem dJ0_isLatin1_aae02_13 : decode cJ0_isLatin1_aae02 13 = .ok (.iconst 1, 1) := by decide +kernel
theorem dJ0_isLatin1_aae02_14 : decode cJ0_isLatin1_aae02 14 = .ok (.goto 4, 3) := by decide +kernel
theorem dJ0_isLatin1_aae02_17 : decode cJ0_isLatin1_aae02 17 = .ok (.iconst 0, 1) := by decide +kernel
theorem dJ0_isLatin1_aae02_18 : decode cJ0_isLatin1_aae02 18 = .ok (.ireturn, 1) := by decide +kernel
set_option maxRecDepth 20000 in
theorem ggJ0_checkIndex_df160_J3_checkIndex_8e157 : GoodIn wsJ0_checkIndex_df160 wsJ3_checkIndex_8e157 := goodIn_r _ [5] (by decide +kernel) (by decide +kernel)
set_option maxRecDepth 20000 in
theorem gJ0_checkIndex_df160_J3_checkIndex_8e157 : GoodIn wsJ0_checkIndex_df160 (va_wsS RJ0 1059 yJ3_checkIndex_8e157 wsJ3_checkIndex_8e157) := goodIn_app (goodIn_of _ (by decide +kernel)) ggJ0_checkIndex_df160_J3_checkIndex_8e157
theorem dJ0_checkIndex_df160_0 : decode cJ0_checkIndex_df160 0 = .ok (.iload_n 0, 1) := by decide +kernel
theorem dJ0_checkIndex_df160_1 : decode cJ0_checkIndex_df160 1 = .ok (.iload_n 1, 1) := by decide +kernel
theorem dJ0_checkIndex_df160_2 : decode cJ0_checkIndex_df160 2 = .ok (.getstatic 1053, 3) := by decide +kernel
theorem dJ0_checkIndex_df160_5 : decode cJ0_checkIndex_df160 5 = .ok (.invokestatic 1059, 3) := by decide +kernel
theorem dJ0_checkIndex_df160_8 : decode cJ0_checkIndex_df160 8 = .ok (.pop, 1) := by decide +kernel
theorem dJ0_checkIndex_df160_9 : decode cJ0_checkIndex_df160 9 = .ok (.return_, 1) := by decide +kernel
set_option maxRecDepth 20000 in
theorem ggJ1_charAt_3b067_J0_checkIndex_df160 : GoodIn wsJ1_charAt_3b067 wsJ0_checkIndex_df160 := goodIn_r _ [4, 5, 6, 7, 8, 9] (by decide +kernel) (by decide +kernel)
set_option maxRecDepth 20000 in
theorem gJ1_charAt_3b067_J0_checkIndex_df160 : GoodIn wsJ1_charAt_3b067 (va_wsS RJ1 9 yJ0_checkIndex_df160 wsJ0_checkIndex_df160) := goodIn_app (goodIn_of _ (by decide +kernel)) ggJ1_charAt_3b067_J0_checkIndex_df160
theorem dJ1_charAt_3b067_0 : decode cJ1_charAt_3b067 0 = .ok (.iload_n 1, 1) := by decide +kernel
theorem dJ1_charAt_3b067_1 : decode cJ1_charAt_3b067 1 = .ok (.aload_n 0, 1) := by decide +kernel
theorem dJ1_charAt_3b067_2 : decode cJ1_charAt_3b067 2 = .ok (.arraylength, 1) := by decide +kernel
theorem dJ1_charAt_3b067_3 : decode cJ1_charAt_3b067 3 = .ok (.invokestatic 9, 3) := by decide +kernel
theorem dJ1_charAt_3b067_6 : decode cJ1_charAt_3b067 6 = .ok (.aload_n 0, 1) := by decide +kernel
theorem dJ1_charAt_3b067_7 : decode cJ1_charAt_3b067 7 = .ok (.iload_n 1, 1) := by decide +kernel
theorem dJ1_charAt_3b067_8 : decode cJ1_charAt_3b067 8 = .ok (.baload, 1) := by decide +kernel
theorem dJ1_charAt_3b067_9 : decode cJ1_charAt_3b067 9 = .ok (.sipush 255, 3) := by decide +kernel
theorem dJ1_charAt_3b067_12 : decode cJ1_charAt_3b067 12 = .ok (.iand, 1) := by decide +kernel
theorem dJ1_charAt_3b067_13 : decode cJ1_charAt_3b067 13 = .ok (.i2c, 1) := by decide +kernel
theorem dJ1_charAt_3b067_14 : decode cJ1_charAt_3b067 14 = .ok (.ireturn, 1) := by decide +kernel
set_option maxRecDepth 20000 in
theorem ggJ2_getChar_3b067_J2_length_9d52b : GoodIn wsJ2_getChar_3b067 wsJ2_length_9d52b := goodIn_r _ [7] (by decide +kernel) (by decide +kernel)
set_option maxRecDepth 20000 in
theorem gJ2_getChar_3b067_J2_length_9d52b : GoodIn wsJ2_getChar_3b067 (va_wsS RJ2 48 yJ2_length_9d52b wsJ2_length_9d52b) := goodIn_app (goodIn_of _ (by decide +kernel)) ggJ2_getChar_3b067_J2_length_9d52b
theorem dJ2_getChar_3b067_0 : decode cJ2_getChar_3b067 0 = .ok (.getstatic 44, 3) := by decide +kernel
theorem dJ2_getChar_3b067_3 : decode cJ2_getChar_3b067 3 = .ok (.ifCond .ne 25, 3) := by decide +kernel
theorem dJ2_getChar_3b067_6 : decode cJ2_getChar_3b067 6 = .ok (.iload_n 1, 1) := by decide +kernel
theorem dJ2_getChar_3b067_7 : decode cJ2_getChar_3b067 7 = .ok (.ifCond .lt 11, 3) := by decide +kernel
theorem dJ2_getChar_3b067_10 : decode cJ2_getChar_3b067 10 = .ok (.iload_n 1, 1) := by decide +kernel
theorem dJ2_getChar_3b067_11 : decode cJ2_getChar_3b067 11 = .ok (.aload_n 0, 1) := by decide +kernel
theorem dJ2_getChar_3b067_12 : decode cJ2_getChar_3b067 12 = .ok (.invokestatic 48, 3) := by decide +kernel
theorem dJ2_getChar_3b067_15 : decode cJ2_getChar_3b067 15 = .ok (.if_icmp .lt 13, 3) := by decide +kernel
theorem dJ2_getChar_3b067_18 : decode cJ2_getChar_3b067 18 = .ok (.new 52, 3) := by decide +kernel
theorem dJ2_getChar_3b067_21 : decode cJ2_getChar_3b067 21 = .ok (.dup, 1) := by decide +kernel
theorem dJ2_getChar_3b067_22 : decode cJ2_getChar_3b067 22 = .ok (.ldc 54, 2) := by decide +kernel
theorem dJ2_getChar_3b067_24 : decode cJ2_getChar_3b067 24 = .ok (.invokespecial 56, 3) := by decide +kernel
theorem dJ2_getChar_3b067_27 : decode cJ2_getChar_3b067 27 = .ok (.athrow, 1) := by decide +kernel
theorem dJ2_getChar_3b067_28 : decode cJ2_getChar_3b067 28 = .ok (.iload_n 1, 1) := by decide +kernel
theorem dJ2_getChar_3b067_29 : decode cJ2_getChar_3b067 29 = .ok (.iconst 1, 1) := by decide +kernel
theorem dJ2_getChar_3b067_30 : decode cJ2_getChar_3b067 30 = .ok (.ishl, 1) := by decide +kernel
theorem dJ2_getChar_3b067_31 : decode cJ2_getChar_3b067 31 = .ok (.istore_n 1, 1) := by decide +kernel
theorem dJ2_getChar_3b067_32 : decode cJ2_getChar_3b067 32 = .ok (.aload_n 0, 1) := by decide +kernel
theorem dJ2_getChar_3b067_33 : decode cJ2_getChar_3b067 33 = .ok (.iload_n 1, 1) := by decide +kernel
theorem dJ2_getChar_3b067_34 : decode cJ2_getChar_3b067 34 = .ok (.iinc 1 1, 3) := by decide +kernel
theorem dJ2_getChar_3b067_37 : decode cJ2_getChar_3b067 37 = .ok (.baload, 1) := by decide +kernel
theorem dJ2_getChar_3b067_38 : decode cJ2_getChar_3b067 38 = .ok (.sipush 255, 3) := by decide +kernel
theorem dJ2_getChar_3b067_41 : decode cJ2_getChar_3b067 41 = .ok (.iand, 1) := by decide +kernel
theorem dJ2_getChar_3b067_42 : decode cJ2_getChar_3b067 42 = .ok (.getstatic 59, 3) := by decide +kernel
theorem dJ2_getChar_3b067_45 : decode cJ2_getChar_3b067 45 = .ok (.ishl, 1) := by decide +kernel
theorem dJ2_getChar_3b067_46 : decode cJ2_getChar_3b067 46 = .ok (.aload_n 0, 1) := by decide +kernel
theorem dJ2_getChar_3b067_47 : decode cJ2_getChar_3b067 47 = .ok (.iload_n 1, 1) := by decide +kernel
theorem dJ2_getChar_3b067_48 : decode cJ2_getChar_3b067 48 = .ok (.baload, 1) := by decide +kernel
theorem dJ2_getChar_3b067_49 : decode cJ2_getChar_3b067 49 = .ok (.sipush 255, 3) := by decide +kernel
theorem dJ2_getChar_3b067_52 : decode cJ2_getChar_3b067 52 = .ok (.iand, 1) := by decide +kernel
theorem dJ2_getChar_3b067_53 : decode cJ2_getChar_3b067 53 = .ok (.getstatic 63, 3) := by decide +kernel
theorem dJ2_getChar_3b067_56 : decode cJ2_getChar_3b067 56 = .ok (.ishl, 1) := by decide +kernel
theorem dJ2_getChar_3b067_57 : decode cJ2_getChar_3b067 57 = .ok (.ior, 1) := by decide +kernel
theorem dJ2_getChar_3b067_58 : decode cJ2_getChar_3b067 58 = .ok (.i2c, 1) := by decide +kernel
theorem dJ2_getChar_3b067_59 : decode cJ2_getChar_3b067 59 = .ok (.ireturn, 1) := by decide +kernel
theorem dJ2_length_9d52b_0 : decode cJ2_length_9d52b 0 = .ok (.aload_n 0, 1) := by decide +kernel
theorem dJ2_length_9d52b_1 : decode cJ2_length_9d52b 1 = .ok (.arraylength, 1) := by decide +kernel
theorem dJ2_length_9d52b_2 : decode cJ2_length_9d52b 2 = .ok (.iconst 1, 1) := by decide +kernel
theorem dJ2_length_9d52b_3 : decode cJ2_length_9d52b 3 = .ok (.ishr, 1) := by decide +kernel
theorem dJ2_length_9d52b_4 : decode cJ2_length_9d52b 4 = .ok (.ireturn, 1) := by decide +kernel
set_option maxRecDepth 20000 in
theorem ggJ2_charAt_3b067_J2_checkIndex_2214a : GoodIn wsJ2_charAt_3b067 wsJ2_checkIndex_2214a := goodIn_r _ [4, 5, 6, 3, 7, 8, 9, 10, 11, 12, 13, 14, 15, 16] (by decide +kernel) (by decide +kernel)
set_option maxRecDepth 20000 in
theorem gJ2_charAt_3b067_J2_checkIndex_2214a : GoodIn wsJ2_charAt_3b067 (va_wsS RJ2 67 yJ2_checkIndex_2214a wsJ2_checkIndex_2214a) := goodIn_app (goodIn_of _ (by decide +kernel)) ggJ2_charAt_3b067_J2_checkIndex_2214a
set_option maxRecDepth 20000 in
theorem ggJ2_charAt_3b067_J2_getChar_3b067 : GoodIn wsJ2_charAt_3b067 wsJ2_getChar_3b067 := goodIn_r _ [19, 20, 21, 22, 5, 6, 3, 7] (by decide +kernel) (by decide +kernel)
set_option maxRecDepth 20000 in
theorem gJ2_charAt_3b067_J2_getChar_3b067 : GoodIn wsJ2_charAt_3b067 (va_wsS RJ2 71 yJ2_getChar_3b067 wsJ2_getChar_3b067) := goodIn_app (goodIn_of _ (by decide +kernel)) ggJ2_charAt_3b067_J2_getChar_3b067
theorem dJ2_charAt_3b067_0 : decode cJ2_charAt_3b067 0 = .ok (.iload_n 1, 1) := by decide +kernel
theorem dJ2_charAt_3b067_1 : decode cJ2_charAt_3b067 1 = .ok (.aload_n 0, 1) := by decide +kernel
theorem dJ2_charAt_3b067_2 : decode cJ2_charAt_3b067 2 = .ok (.invokestatic 67, 3) := by decide +kernel
theorem dJ2_charAt_3b067_5 : decode cJ2_charAt_3b067 5 = .ok (.aload_n 0, 1) := by decide +kernel
theorem dJ2_charAt_3b067_6 : decode cJ2_charAt_3b067 6 = .ok (.iload_n 1, 1) := by decide +kernel
theorem dJ2_charAt_3b067_7 : decode cJ2_charAt_3b067 7 = .ok (.invokestatic 71, 3) := by decide +kernel
theorem dJ2_charAt_3b067_10 : decode cJ2_charAt_3b067 10 = .ok (.ireturn, 1) := by decide +kernel
set_option maxRecDepth 20000 in
theorem ggJ2_checkIndex_2214a_J2_length_9d52b : GoodIn wsJ2_checkIndex_2214a wsJ2_length_9d52b := goodIn_r _ [4] (by decide +kernel) (by decide +kernel)
set_option maxRecDepth 20000 in
theorem gJ2_checkIndex_2214a_J2_length_9d52b : GoodIn wsJ2_checkIndex_2214a (va_wsS RJ2 48 yJ2_length_9d52b wsJ2_length_9d52b) := goodIn_app (goodIn_of _ (by decide +kernel)) ggJ2_checkIndex_2214a_J2_length_9d52b
set_option maxRecDepth 20000 in
theorem ggJ2_checkIndex_2214a_J0_checkIndex_df160 : GoodIn wsJ2_checkIndex_2214a wsJ0_checkIndex_df160 := goodIn_r _ [8, 9, 10, 11, 12, 13] (by decide +kernel) (by decide +kernel)
set_option maxRecDepth 20000 in
theorem gJ2_checkIndex_2214a_J0_checkIndex_df160 : GoodIn wsJ2_checkIndex_2214a (va_wsS RJ2 414 yJ0_checkIndex_df160 wsJ0_checkIndex_df160) := goodIn_app (goodIn_of _ (by decide +kernel)) ggJ2_checkIndex_2214a_J0_checkIndex_df160
theorem dJ2_checkIndex_2214a_0 : decode cJ2_checkIndex_2214a 0 = .ok (.iload_n 0, 1) := by decide +kernel
theorem dJ2_checkIndex_2214a_1 : decode cJ2_checkIndex_2214a 1 = .ok (.aload_n 1, 1) := by decide +kernel
theorem dJ2_checkIndex_2214a_2 : decode cJ2_checkIndex_2214a 2 = .ok (.invokestatic 48, 3) := by decide +kernel
theorem dJ2_checkIndex_2214a_5 : decode cJ2_checkIndex_2214a 5 = .ok (.invokestatic 414, 3) := by decide +kernel
theorem dJ2_checkIndex_2214a_8 : decode cJ2_checkIndex_2214a 8 = .ok (.return_, 1) := by decide +kernel
theorem dJ3_checkIndex_8e157_0 : decode cJ3_checkIndex_8e157 0 = .ok (.iload_n 0, 1) := by decide +kernel
theorem dJ3_checkIndex_8e157_1 : decode cJ3_checkIndex_8e157 1 = .ok (.ifCond .lt 8, 3) := by decide +kernel
theorem dJ3_checkIndex_8e157_4 : decode cJ3_checkIndex_8e157 4 = .ok (.iload_n 0, 1) := by decide +kernel
theorem dJ3_checkIndex_8e157_5 : decode cJ3_checkIndex_8e157 5 = .ok (.iload_n 1, 1) := by decide +kernel
theorem dJ3_checkIndex_8e157_6 : decode cJ3_checkIndex_8e157 6 = .ok (.if_icmp .lt 10, 3) := by decide +kernel
theorem dJ3_checkIndex_8e157_9 : decode cJ3_checkIndex_8e157 9 = .ok (.aload_n 2, 1) := by decide +kernel
theorem dJ3_checkIndex_8e157_10 : decode cJ3_checkIndex_8e157 10 = .ok (.iload_n 0, 1) := by decide +kernel
theorem dJ3_checkIndex_8e157_11 : decode cJ3_checkIndex_8e157 11 = .ok (.iload_n 1, 1) := by decide +kernel
theorem dJ3_checkIndex_8e157_12 : decode cJ3_checkIndex_8e157 12 = .ok (.invokestatic 95, 3) := by decide +kernel
theorem dJ3_checkIndex_8e157_15 : decode cJ3_checkIndex_8e157 15 = .ok (.athrow, 1) := by decide +kernel
theorem dJ3_checkIndex_8e157_16 : decode cJ3_checkIndex_8e157 16 = .ok (.iload_n 0, 1) := by decide +kernel
theorem dJ3_checkIndex_8e157_17 : decode cJ3_checkIndex_8e157 17 = .ok (.ireturn, 1) := by decide +kernel
theorem dL_law_0 : decode cL_law 0 = .ok (.new 7, 3) := by decide +kernel
theorem dL_law_3 : decode cL_law 3 = .ok (.dup, 1) := by decide +kernel
theorem dL_law_4 : decode cL_law 4 = .ok (.invokespecial 9, 3) := by decide +kernel
theorem dL_law_7 : decode cL_law 7 = .ok (.astore_n 1, 1) := by decide +kernel
theorem dL_law_8 : decode cL_law 8 = .ok (.new 10, 3) := by decide +kernel
theorem dL_law_11 : decode cL_law 11 = .ok (.dup, 1) := by decide +kernel
theorem dL_law_12 : decode cL_law 12 = .ok (.invokespecial 12, 3) := by decide +kernel
theorem dL_law_15 : decode cL_law 15 = .ok (.astore_n 2, 1) := by decide +kernel
theorem dL_law_16 : decode cL_law 16 = .ok (.iconst 0, 1) := by decide +kernel
theorem dL_law_17 : decode cL_law 17 = .ok (.istore_n 3, 1) := by decide +kernel
theorem dL_law_18 : decode cL_law 18 = .ok (.iload_n 3, 1) := by decide +kernel
theorem dL_law_19 : decode cL_law 19 = .ok (.aload_n 0, 1) := by decide +kernel
theorem dL_law_20 : decode cL_law 20 = .ok (.arraylength, 1) := by decide +kernel
theorem dL_law_21 : decode cL_law 21 = .ok (.bipush 6, 2) := by decide +kernel
theorem dL_law_23 : decode cL_law 23 = .ok (.isub, 1) := by decide +kernel
theorem dL_law_24 : decode cL_law 24 = .ok (.if_icmp .gt 921, 3) := by decide +kernel
theorem dL_law_27 : decode cL_law 27 = .ok (.aload_n 0, 1) := by decide +kernel
theorem dL_law_28 : decode cL_law 28 = .ok (.iload_n 3, 1) := by decide +kernel
theorem dL_law_29 : decode cL_law 29 = .ok (.iaload, 1) := by decide +kernel
theorem dL_law_30 : decode cL_law 30 = .ok (.bipush 31, 2) := by decide +kernel
theorem dL_law_32 : decode cL_law 32 = .ok (.iand, 1) := by decide +kernel
theorem dL_law_33 : decode cL_law 33 = .ok (.tableswitch 906 0 22 #[107, 160, 223, 246, 259, 282, 345, 378, 401, 434, 483, 536, 569, 602, 636, 669, 742, 775, 799, 813, 837, 860, 883], 107) := by decide +kernel
theorem dL_law_140 : decode cL_law 140 = .ok (.aload_n 1, 1) := by decide +kernel
theorem dL_law_141 : decode cL_law 141 = .ok (.aload_n 0, 1) := by decide +kernel
theorem dL_law_142 : decode cL_law 142 = .ok (.iload_n 3, 1) := by decide +kernel
theorem dL_law_143 : decode cL_law 143 = .ok (.iconst 1, 1) := by decide +kernel
theorem dL_law_144 : decode cL_law 144 = .ok (.iadd, 1) := by decide +kernel
theorem dL_law_145 : decode cL_law 145 = .ok (.iaload, 1) := by decide +kernel
theorem dL_law_146 : decode cL_law 146 = .ok (.i2l, 1) := by decide +kernel
theorem dL_law_147 : decode cL_law 147 = .ok (.bipush 32, 2) := by decide +kernel
theorem dL_law_149 : decode cL_law 149 = .ok (.lshl, 1) := by decide +kernel
theorem dL_law_150 : decode cL_law 150 = .ok (.aload_n 0, 1) := by decide +kernel
theorem dL_law_151 : decode cL_law 151 = .ok (.iload_n 3, 1) := by decide +kernel
theorem dL_law_152 : decode cL_law 152 = .ok (.iconst 2, 1) := by decide +kernel
theorem dL_law_153 : decode cL_law 153 = .ok (.iadd, 1) := by decide +kernel
theorem dL_law_154 : decode cL_law 154 = .ok (.iaload, 1) := by decide +kernel
theorem dL_law_155 : decode cL_law 155 = .ok (.i2l, 1) := by decide +kernel
theorem dL_law_156 : decode cL_law 156 = .ok (.ldc2_w 13, 3) := by decide +kernel
theorem dL_law_159 : decode cL_law 159 = .ok (.land, 1) := by decide +kernel
theorem dL_law_160 : decode cL_law 160 = .ok (.lor, 1) := by decide +kernel
theorem dL_law_161 : decode cL_law 161 = .ok (.invokevirtual 15, 3) := by decide +kernel
theorem dL_law_164 : decode cL_law 164 = .ok (.aload_n 2, 1) := by decide +kernel
theorem dL_law_165 : decode cL_law 165 = .ok (.aload_n 0, 1) := by decide +kernel
theorem dL_law_166 : decode cL_law 166 = .ok (.iload_n 3, 1) := by decide +kernel
theorem dL_law_167 : decode cL_law 167 = .ok (.iconst 1, 1) := by decide +kernel
theorem dL_law_168 : decode cL_law 168 = .ok (.iadd, 1) := by decide +kernel
theorem dL_law_169 : decode cL_law 169 = .ok (.iaload, 1) := by decide +kernel
theorem dL_law_170 : decode cL_law 170 = .ok (.i2l, 1) := by decide +kernel
theorem dL_law_171 : decode cL_law 171 = .ok (.bipush 32, 2) := by decide +kernel
theorem dL_law_173 : decode cL_law 173 = .ok (.lshl, 1) := by decide +kernel
theorem dL_law_174 : decode cL_law 174 = .ok (.aload_n 0, 1) := by decide +kernel
theorem dL_law_175 : decode cL_law 175 = .ok (.iload_n 3, 1) := by decide +kernel
theorem dL_law_176 : decode cL_law 176 = .ok (.iconst 2, 1) := by decide +kernel
theorem dL_law_177 : decode cL_law 177 = .ok (.iadd, 1) := by decide +kernel
theorem dL_law_178 : decode cL_law 178 = .ok (.iaload, 1) := by decide +kernel
theorem dL_law_179 : decode cL_law 179 = .ok (.i2l, 1) := by decide +kernel
theorem dL_law_180 : decode cL_law 180 = .ok (.ldc2_w 13, 3) := by decide +kernel
theorem dL_law_183 : decode cL_law 183 = .ok (.land, 1) := by decide +kernel
theorem dL_law_184 : decode cL_law 184 = .ok (.lor, 1) := by decide +kernel
theorem dL_law_185 : decode cL_law 185 = .ok (.invokevirtual 19, 3) := by decide +kernel
theorem dL_law_188 : decode cL_law 188 = .ok (.if_icmp .eq 751, 3) := by decide +kernel
theorem dL_law_191 : decode cL_law 191 = .ok (.iconst 0, 1) := by decide +kernel
theorem dL_law_192 : decode cL_law 192 = .ok (.ireturn, 1) := by decide +kernel
theorem dL_law_193 : decode cL_law 193 = .ok (.aload_n 1, 1) := by decide +kernel
theorem dL_law_194 : decode cL_law 194 = .ok (.aload_n 0, 1) := by decide +kernel
theorem dL_law_195 : decode cL_law 195 = .ok (.iload_n 3, 1) := by decide +kernel
theorem dL_law_196 : decode cL_law 196 = .ok (.iconst 1, 1) := by decide +kernel
theorem dL_law_197 : decode cL_law 197 = .ok (.iadd, 1) := by decide +kernel
theorem dL_law_198 : decode cL_law 198 = .ok (.iaload, 1) := by decide +kernel
theorem dL_law_199 : decode cL_law 199 = .ok (.aload_n 0, 1) := by decide +kernel
theorem dL_law_200 : decode cL_law 200 = .ok (.iload_n 3, 1) := by decide +kernel
theorem dL_law_201 : decode cL_law 201 = .ok (.iconst 2, 1) := by decide +kernel
theorem dL_law_202 : decode cL_law 202 = .ok (.iadd, 1) := by decide +kernel
theorem dL_law_203 : decode cL_law 203 = .ok (.iaload, 1) := by decide +kernel
theorem dL_law_204 : decode cL_law 204 = .ok (.aload_n 0, 1) := by decide +kernel
theorem dL_law_205 : decode cL_law 205 = .ok (.iload_n 3, 1) := by decide +kernel
theorem dL_law_206 : decode cL_law 206 = .ok (.iconst 3, 1) := by decide +kernel
theorem dL_law_207 : decode cL_law 207 = .ok (.iadd, 1) := by decide +kernel
theorem dL_law_208 : decode cL_law 208 = .ok (.iaload, 1) := by decide +kernel
theorem dL_law_209 : decode cL_law 209 = .ok (.aload_n 0, 1) := by decide +kernel
theorem dL_law_210 : decode cL_law 210 = .ok (.iload_n 3, 1) := by decide +kernel
theorem dL_law_211 : decode cL_law 211 = .ok (.iconst 4, 1) := by decide +kernel
theorem dL_law_212 : decode cL_law 212 = .ok (.iadd, 1) := by decide +kernel
theorem dL_law_213 : decode cL_law 213 = .ok (.iaload, 1) := by decide +kernel
theorem dL_law_214 : decode cL_law 214 = .ok (.aload_n 0, 1) := by decide +kernel
theorem dL_law_215 : decode cL_law 215 = .ok (.iload_n 3, 1) := by decide +kernel
theorem dL_law_216 : decode cL_law 216 = .ok (.iconst 5, 1) := by decide +kernel
theorem dL_law_217 : decode cL_law 217 = .ok (.iadd, 1) := by decide +kernel
theorem dL_law_218 : decode cL_law 218 = .ok (.iaload, 1) := by decide +kernel
theorem dL_law_219 : decode cL_law 219 = .ok (.invokevirtual 20, 3) := by decide +kernel
theorem dL_law_222 : decode cL_law 222 = .ok (.aload_n 2, 1) := by decide +kernel
theorem dL_law_223 : decode cL_law 223 = .ok (.aload_n 0, 1) := by decide +kernel
theorem dL_law_224 : decode cL_law 224 = .ok (.iload_n 3, 1) := by decide +kernel
theorem dL_law_225 : decode cL_law 225 = .ok (.iconst 1, 1) := by decide +kernel
theorem dL_law_226 : decode cL_law 226 = .ok (.iadd, 1) := by decide +kernel
theorem dL_law_227 : decode cL_law 227 = .ok (.iaload, 1) := by decide +kernel
theorem dL_law_228 : decode cL_law 228 = .ok (.aload_n 0, 1) := by decide +kernel
theorem dL_law_229 : decode cL_law 229 = .ok (.iload_n 3, 1) := by decide +kernel
theorem dL_law_230 : decode cL_law 230 = .ok (.iconst 2, 1) := by decide +kernel
theorem dL_law_231 : decode cL_law 231 = .ok (.iadd, 1) := by decide +kernel
theorem dL_law_232 : decode cL_law 232 = .ok (.iaload, 1) := by decide +kernel
theorem dL_law_233 : decode cL_law 233 = .ok (.aload_n 0, 1) := by decide +kernel
theorem dL_law_234 : decode cL_law 234 = .ok (.iload_n 3, 1) := by decide +kernel
theorem dL_law_235 : decode cL_law 235 = .ok (.iconst 3, 1) := by decide +kernel
theorem dL_law_236 : decode cL_law 236 = .ok (.iadd, 1) := by decide +kernel
theorem dL_law_237 : decode cL_law 237 = .ok (.iaload, 1) := by decide +kernel
theorem dL_law_238 : decode cL_law 238 = .ok (.aload_n 0, 1) := by decide +kernel
theorem dL_law_239 : decode cL_law 239 = .ok (.iload_n 3, 1) := by decide +kernel
theorem dL_law_240 : decode cL_law 240 = .ok (.iconst 4, 1) := by decide +kernel
theorem dL_law_241 : decode cL_law 241 = .ok (.iadd, 1) := by decide +kernel
theorem dL_law_242 : decode cL_law 242 = .ok (.iaload, 1) := by decide +kernel
theorem dL_law_243 : decode cL_law 243 = .ok (.aload_n 0, 1) := by decide +kernel
theorem dL_law_244 : decode cL_law 244 = .ok (.iload_n 3, 1) := by decide +kernel
theorem dL_law_245 : decode cL_law 245 = .ok (.iconst 5, 1) := by decide +kernel
theorem dL_law_246 : decode cL_law 246 = .ok (.iadd, 1) := by decide +kernel
theorem dL_law_247 : decode cL_law 247 = .ok (.iaload, 1) := by decide +kernel
theorem dL_law_248 : decode cL_law 248 = .ok (.invokevirtual 24, 3) := by decide +kernel
theorem dL_law_251 : decode cL_law 251 = .ok (.if_icmp .eq 688, 3) := by decide +kernel
theorem dL_law_254 : decode cL_law 254 = .ok (.iconst 0, 1) := by decide +kernel
theorem dL_law_255 : decode cL_law 255 = .ok (.ireturn, 1) := by decide +kernel
theorem dL_law_256 : decode cL_law 256 = .ok (.aload_n 1, 1) := by decide +kernel
theorem dL_law_257 : decode cL_law 257 = .ok (.aload_n 0, 1) := by decide +kernel
theorem dL_law_258 : decode cL_law 258 = .ok (.iload_n 3, 1) := by decide +kernel
theorem dL_law_259 : decode cL_law 259 = .ok (.iconst 1, 1) := by decide +kernel
theorem dL_law_260 : decode cL_law 260 = .ok (.iadd, 1) := by decide +kernel
theorem dL_law_261 : decode cL_law 261 = .ok (.iaload, 1) := by decide +kernel
theorem dL_law_262 : decode cL_law 262 = .ok (.invokevirtual 25, 3) := by decide +kernel
theorem dL_law_265 : decode cL_law 265 = .ok (.aload_n 2, 1) := by decide +kernel
theorem dL_law_266 : decode cL_law 266 = .ok (.aload_n 0, 1) := by decide +kernel
theorem dL_law_267 : decode cL_law 267 = .ok (.iload_n 3, 1) := by decide +kernel
theorem dL_law_268 : decode cL_law 268 = .ok (.iconst 1, 1) := by decide +kernel
theorem dL_law_269 : decode cL_law 269 = .ok (.iadd, 1) := by decide +kernel
theorem dL_law_270 : decode cL_law 270 = .ok (.iaload, 1) := by decide +kernel
theorem dL_law_271 : decode cL_law 271 = .ok (.invokevirtual 29, 3) := by decide +kernel
theorem dL_law_274 : decode cL_law 274 = .ok (.if_icmp .eq 665, 3) := by decide +kernel
theorem dL_law_277 : decode cL_law 277 = .ok (.iconst 0, 1) := by decide +kernel
theorem dL_law_278 : decode cL_law 278 = .ok (.ireturn, 1) := by decide +kernel
theorem dL_law_279 : decode cL_law 279 = .ok (.aload_n 1, 1) := by decide +kernel
theorem dL_law_280 : decode cL_law 280 = .ok (.invokevirtual 30, 3) := by decide +kernel
theorem dL_law_283 : decode cL_law 283 = .ok (.aload_n 2, 1) := by decide +kernel
theorem dL_law_284 : decode cL_law 284 = .ok (.invokevirtual 34, 3) := by decide +kernel
theorem dL_law_287 : decode cL_law 287 = .ok (.if_icmp .eq 652, 3) := by decide +kernel
theorem dL_law_290 : decode cL_law 290 = .ok (.iconst 0, 1) := by decide +kernel
theorem dL_law_291 : decode cL_law 291 = .ok (.ireturn, 1) := by decide +kernel
theorem dL_law_292 : decode cL_law 292 = .ok (.aload_n 1, 1) := by decide +kernel
theorem dL_law_293 : decode cL_law 293 = .ok (.aload_n 0, 1) := by decide +kernel
theorem dL_law_294 : decode cL_law 294 = .ok (.iload_n 3, 1) := by decide +kernel
theorem dL_law_295 : decode cL_law 295 = .ok (.iconst 1, 1) := by decide +kernel
theorem dL_law_296 : decode cL_law 296 = .ok (.iadd, 1) := by decide +kernel
theorem dL_law_297 : decode cL_law 297 = .ok (.iaload, 1) := by decide +kernel
theorem dL_law_298 : decode cL_law 298 = .ok (.invokevirtual 35, 3) := by decide +kernel
theorem dL_law_301 : decode cL_law 301 = .ok (.aload_n 2, 1) := by decide +kernel
theorem dL_law_302 : decode cL_law 302 = .ok (.aload_n 0, 1) := by decide +kernel
theorem dL_law_303 : decode cL_law 303 = .ok (.iload_n 3, 1) := by decide +kernel
theorem dL_law_304 : decode cL_law 304 = .ok (.iconst 1, 1) := by decide +kernel
theorem dL_law_305 : decode cL_law 305 = .ok (.iadd, 1) := by decide +kernel
theorem dL_law_306 : decode cL_law 306 = .ok (.iaload, 1) := by decide +kernel
theorem dL_law_307 : decode cL_law 307 = .ok (.invokevirtual 38, 3) := by decide +kernel
theorem dL_law_310 : decode cL_law 310 = .ok (.if_icmp .eq 629, 3) := by decide +kernel
theorem dL_law_313 : decode cL_law 313 = .ok (.iconst 0, 1) := by decide +kernel
theorem dL_law_314 : decode cL_law 314 = .ok (.ireturn, 1) := by decide +kernel
theorem dL_law_315 : decode cL_law 315 = .ok (.aload_n 1, 1) := by decide +kernel
theorem dL_law_316 : decode cL_law 316 = .ok (.aload_n 0, 1) := by decide +kernel
theorem dL_law_317 : decode cL_law 317 = .ok (.iload_n 3, 1) := by decide +kernel
theorem dL_law_318 : decode cL_law 318 = .ok (.iconst 1, 1) := by decide +kernel
theorem dL_law_319 : decode cL_law 319 = .ok (.iadd, 1) := by decide +kernel
theorem dL_law_320 : decode cL_law 320 = .ok (.iaload, 1) := by decide +kernel
theorem dL_law_321 : decode cL_law 321 = .ok (.aload_n 0, 1) := by decide +kernel
theorem dL_law_322 : decode cL_law 322 = .ok (.iload_n 3, 1) := by decide +kernel
theorem dL_law_323 : decode cL_law 323 = .ok (.iconst 2, 1) := by decide +kernel
theorem dL_law_324 : decode cL_law 324 = .ok (.iadd, 1) := by decide +kernel
theorem dL_law_325 : decode cL_law 325 = .ok (.iaload, 1) := by decide +kernel
theorem dL_law_326 : decode cL_law 326 = .ok (.aload_n 0, 1) := by decide +kernel
theorem dL_law_327 : decode cL_law 327 = .ok (.iload_n 3, 1) := by decide +kernel
theorem dL_law_328 : decode cL_law 328 = .ok (.iconst 3, 1) := by decide +kernel
theorem dL_law_329 : decode cL_law 329 = .ok (.iadd, 1) := by decide +kernel
theorem dL_law_330 : decode cL_law 330 = .ok (.iaload, 1) := by decide +kernel
theorem dL_law_331 : decode cL_law 331 = .ok (.aload_n 0, 1) := by decide +kernel
theorem dL_law_332 : decode cL_law 332 = .ok (.iload_n 3, 1) := by decide +kernel
theorem dL_law_333 : decode cL_law 333 = .ok (.iconst 4, 1) := by decide +kernel
theorem dL_law_334 : decode cL_law 334 = .ok (.iadd, 1) := by decide +kernel
theorem dL_law_335 : decode cL_law 335 = .ok (.iaload, 1) := by decide +kernel
theorem dL_law_336 : decode cL_law 336 = .ok (.aload_n 0, 1) := by decide +kernel
theorem dL_law_337 : decode cL_law 337 = .ok (.iload_n 3, 1) := by decide +kernel
theorem dL_law_338 : decode cL_law 338 = .ok (.iconst 5, 1) := by decide +kernel
theorem dL_law_339 : decode cL_law 339 = .ok (.iadd, 1) := by decide +kernel
theorem dL_law_340 : decode cL_law 340 = .ok (.iaload, 1) := by decide +kernel
theorem dL_law_341 : decode cL_law 341 = .ok (.invokevirtual 39, 3) := by decide +kernel
theorem dL_law_344 : decode cL_law 344 = .ok (.aload_n 2, 1) := by decide +kernel
theorem dL_law_345 : decode cL_law 345 = .ok (.aload_n 0, 1) := by decide +kernel
theorem dL_law_346 : decode cL_law 346 = .ok (.iload_n 3, 1) := by decide +kernel
theorem dL_law_347 : decode cL_law 347 = .ok (.iconst 1, 1) := by decide +kernel
theorem dL_law_348 : decode cL_law 348 = .ok (.iadd, 1) := by decide +kernel
theorem dL_law_349 : decode cL_law 349 = .ok (.iaload, 1) := by decide +kernel
theorem dL_law_350 : decode cL_law 350 = .ok (.aload_n 0, 1) := by decide +kernel
theorem dL_law_351 : decode cL_law 351 = .ok (.iload_n 3, 1) := by decide +kernel
theorem dL_law_352 : decode cL_law 352 = .ok (.iconst 2, 1) := by decide +kernel
theorem dL_law_353 : decode cL_law 353 = .ok (.iadd, 1) := by decide +kernel
theorem dL_law_354 : decode cL_law 354 = .ok (.iaload, 1) := by decide +kernel
theorem dL_law_355 : decode cL_law 355 = .ok (.aload_n 0, 1) := by decide +kernel
theorem dL_law_356 : decode cL_law 356 = .ok (.iload_n 3, 1) := by decide +kernel
theorem dL_law_357 : decode cL_law 357 = .ok (.iconst 3, 1) := by decide +kernel
theorem dL_law_358 : decode cL_law 358 = .ok (.iadd, 1) := by decide +kernel
theorem dL_law_359 : decode cL_law 359 = .ok (.iaload, 1) := by decide +kernel
theorem dL_law_360 : decode cL_law 360 = .ok (.aload_n 0, 1) := by decide +kernel
theorem dL_law_361 : decode cL_law 361 = .ok (.iload_n 3, 1) := by decide +kernel
theorem dL_law_362 : decode cL_law 362 = .ok (.iconst 4, 1) := by decide +kernel
theorem dL_law_363 : decode cL_law 363 = .ok (.iadd, 1) := by decide +kernel
theorem dL_law_364 : decode cL_law 364 = .ok (.iaload, 1) := by decide +kernel
theorem dL_law_365 : decode cL_law 365 = .ok (.aload_n 0, 1) := by decide +kernel
theorem dL_law_366 : decode cL_law 366 = .ok (.iload_n 3, 1) := by decide +kernel
theorem dL_law_367 : decode cL_law 367 = .ok (.iconst 5, 1) := by decide +kernel
theorem dL_law_368 : decode cL_law 368 = .ok (.iadd, 1) := by decide +kernel
theorem dL_law_369 : decode cL_law 369 = .ok (.iaload, 1) := by decide +kernel
theorem dL_law_370 : decode cL_law 370 = .ok (.invokevirtual 42, 3) := by decide +kernel
theorem dL_law_373 : decode cL_law 373 = .ok (.if_icmp .eq 566, 3) := by decide +kernel
theorem dL_law_376 : decode cL_law 376 = .ok (.iconst 0, 1) := by decide +kernel
theorem dL_law_377 : decode cL_law 377 = .ok (.ireturn, 1) := by decide +kernel
theorem dL_law_378 : decode cL_law 378 = .ok (.aload_n 1, 1) := by decide +kernel
theorem dL_law_379 : decode cL_law 379 = .ok (.aload_n 0, 1) := by decide +kernel
theorem dL_law_380 : decode cL_law 380 = .ok (.iload_n 3, 1) := by decide +kernel
theorem dL_law_381 : decode cL_law 381 = .ok (.iconst 1, 1) := by decide +kernel
theorem dL_law_382 : decode cL_law 382 = .ok (.iadd, 1) := by decide +kernel
theorem dL_law_383 : decode cL_law 383 = .ok (.iaload, 1) := by decide +kernel
theorem dL_law_384 : decode cL_law 384 = .ok (.aload_n 0, 1) := by decide +kernel
theorem dL_law_385 : decode cL_law 385 = .ok (.iload_n 3, 1) := by decide +kernel
theorem dL_law_386 : decode cL_law 386 = .ok (.iconst 2, 1) := by decide +kernel
theorem dL_law_387 : decode cL_law 387 = .ok (.iadd, 1) := by decide +kernel
theorem dL_law_388 : decode cL_law 388 = .ok (.iaload, 1) := by decide +kernel
theorem dL_law_389 : decode cL_law 389 = .ok (.invokevirtual 43, 3) := by decide +kernel
theorem dL_law_392 : decode cL_law 392 = .ok (.aload_n 2, 1) := by decide +kernel
theorem dL_law_393 : decode cL_law 393 = .ok (.aload_n 0, 1) := by decide +kernel
theorem dL_law_394 : decode cL_law 394 = .ok (.iload_n 3, 1) := by decide +kernel
theorem dL_law_395 : decode cL_law 395 = .ok (.iconst 1, 1) := by decide +kernel
theorem dL_law_396 : decode cL_law 396 = .ok (.iadd, 1) := by decide +kernel
theorem dL_law_397 : decode cL_law 397 = .ok (.iaload, 1) := by decide +kernel
theorem dL_law_398 : decode cL_law 398 = .ok (.aload_n 0, 1) := by decide +kernel
theorem dL_law_399 : decode cL_law 399 = .ok (.iload_n 3, 1) := by decide +kernel
theorem dL_law_400 : decode cL_law 400 = .ok (.iconst 2, 1) := by decide +kernel
theorem dL_law_401 : decode cL_law 401 = .ok (.iadd, 1) := by decide +kernel
theorem dL_law_402 : decode cL_law 402 = .ok (.iaload, 1) := by decide +kernel
theorem dL_law_403 : decode cL_law 403 = .ok (.invokevirtual 47, 3) := by decide +kernel
theorem dL_law_406 : decode cL_law 406 = .ok (.if_icmp .eq 533, 3) := by decide +kernel
theorem dL_law_409 : decode cL_law 409 = .ok (.iconst 0, 1) := by decide +kernel
theorem dL_law_410 : decode cL_law 410 = .ok (.ireturn, 1) := by decide +kernel
theorem dL_law_411 : decode cL_law 411 = .ok (.aload_n 1, 1) := by decide +kernel
theorem dL_law_412 : decode cL_law 412 = .ok (.aload_n 0, 1) := by decide +kernel
theorem dL_law_413 : decode cL_law 413 = .ok (.iload_n 3, 1) := by decide +kernel
theorem dL_law_414 : decode cL_law 414 = .ok (.iconst 1, 1) := by decide +kernel
theorem dL_law_415 : decode cL_law 415 = .ok (.iadd, 1) := by decide +kernel
theorem dL_law_416 : decode cL_law 416 = .ok (.iaload, 1) := by decide +kernel
theorem dL_law_417 : decode cL_law 417 = .ok (.invokevirtual 48, 3) := by decide +kernel
theorem dL_law_420 : decode cL_law 420 = .ok (.aload_n 2, 1) := by decide +kernel
theorem dL_law_421 : decode cL_law 421 = .ok (.aload_n 0, 1) := by decide +kernel
theorem dL_law_422 : decode cL_law 422 = .ok (.iload_n 3, 1) := by decide +kernel
theorem dL_law_423 : decode cL_law 423 = .ok (.iconst 1, 1) := by decide +kernel
theorem dL_law_424 : decode cL_law 424 = .ok (.iadd, 1) := by decide +kernel
theorem dL_law_425 : decode cL_law 425 = .ok (.iaload, 1) := by decide +kernel
theorem dL_law_426 : decode cL_law 426 = .ok (.invokevirtual 51, 3) := by decide +kernel
theorem dL_law_429 : decode cL_law 429 = .ok (.if_icmp .eq 510, 3) := by decide +kernel
theorem dL_law_432 : decode cL_law 432 = .ok (.iconst 0, 1) := by decide +kernel
theorem dL_law_433 : decode cL_law 433 = .ok (.ireturn, 1) := by decide +kernel
theorem dL_law_434 : decode cL_law 434 = .ok (.aload_n 1, 1) := by decide +kernel
theorem dL_law_435 : decode cL_law 435 = .ok (.aload_n 0, 1) := by decide +kernel
theorem dL_law_436 : decode cL_law 436 = .ok (.iload_n 3, 1) := by decide +kernel
theorem dL_law_437 : decode cL_law 437 = .ok (.iconst 1, 1) := by decide +kernel
theorem dL_law_438 : decode cL_law 438 = .ok (.iadd, 1) := by decide +kernel
theorem dL_law_439 : decode cL_law 439 = .ok (.iaload, 1) := by decide +kernel
theorem dL_law_440 : decode cL_law 440 = .ok (.aload_n 0, 1) := by decide +kernel
theorem dL_law_441 : decode cL_law 441 = .ok (.iload_n 3, 1) := by decide +kernel
theorem dL_law_442 : decode cL_law 442 = .ok (.iconst 2, 1) := by decide +kernel
theorem dL_law_443 : decode cL_law 443 = .ok (.iadd, 1) := by decide +kernel
theorem dL_law_444 : decode cL_law 444 = .ok (.iaload, 1) := by decide +kernel
theorem dL_law_445 : decode cL_law 445 = .ok (.invokevirtual 52, 3) := by decide +kernel
theorem dL_law_448 : decode cL_law 448 = .ok (.aload_n 2, 1) := by decide +kernel
theorem dL_law_449 : decode cL_law 449 = .ok (.aload_n 0, 1) := by decide +kernel
theorem dL_law_450 : decode cL_law 450 = .ok (.iload_n 3, 1) := by decide +kernel
theorem dL_law_451 : decode cL_law 451 = .ok (.iconst 1, 1) := by decide +kernel
theorem dL_law_452 : decode cL_law 452 = .ok (.iadd, 1) := by decide +kernel
theorem dL_law_453 : decode cL_law 453 = .ok (.iaload, 1) := by decide +kernel
theorem dL_law_454 : decode cL_law 454 = .ok (.aload_n 0, 1) := by decide +kernel
theorem dL_law_455 : decode cL_law 455 = .ok (.iload_n 3, 1) := by decide +kernel
theorem dL_law_456 : decode cL_law 456 = .ok (.iconst 2, 1) := by decide +kernel
theorem dL_law_457 : decode cL_law 457 = .ok (.iadd, 1) := by decide +kernel
theorem dL_law_458 : decode cL_law 458 = .ok (.iaload, 1) := by decide +kernel
theorem dL_law_459 : decode cL_law 459 = .ok (.invokevirtual 55, 3) := by decide +kernel
theorem dL_law_462 : decode cL_law 462 = .ok (.if_icmp .eq 477, 3) := by decide +kernel
theorem dL_law_465 : decode cL_law 465 = .ok (.iconst 0, 1) := by decide +kernel
theorem dL_law_466 : decode cL_law 466 = .ok (.ireturn, 1) := by decide +kernel
theorem dL_law_467 : decode cL_law 467 = .ok (.aload_n 1, 1) := by decide +kernel
theorem dL_law_468 : decode cL_law 468 = .ok (.aload_n 0, 1) := by decide +kernel
theorem dL_law_469 : decode cL_law 469 = .ok (.iload_n 3, 1) := by decide +kernel
theorem dL_law_470 : decode cL_law 470 = .ok (.iconst 1, 1) := by decide +kernel
theorem dL_law_471 : decode cL_law 471 = .ok (.iadd, 1) := by decide +kernel
theorem dL_law_472 : decode cL_law 472 = .ok (.iaload, 1) := by decide +kernel
theorem dL_law_473 : decode cL_law 473 = .ok (.aload_n 0, 1) := by decide +kernel
theorem dL_law_474 : decode cL_law 474 = .ok (.iload_n 3, 1) := by decide +kernel
theorem dL_law_475 : decode cL_law 475 = .ok (.iconst 2, 1) := by decide +kernel
theorem dL_law_476 : decode cL_law 476 = .ok (.iadd, 1) := by decide +kernel
theorem dL_law_477 : decode cL_law 477 = .ok (.iaload, 1) := by decide +kernel
theorem dL_law_478 : decode cL_law 478 = .ok (.ifCond .eq 7, 3) := by decide +kernel
theorem dL_law_481 : decode cL_law 481 = .ok (.iconst 1, 1) := by decide +kernel
theorem dL_law_482 : decode cL_law 482 = .ok (.goto 4, 3) := by decide +kernel
theorem dL_law_485 : decode cL_law 485 = .ok (.iconst 0, 1) := by decide +kernel
theorem dL_law_486 : decode cL_law 486 = .ok (.invokevirtual 56, 3) := by decide +kernel
theorem dL_law_489 : decode cL_law 489 = .ok (.aload_n 2, 1) := by decide +kernel
theorem dL_law_490 : decode cL_law 490 = .ok (.aload_n 0, 1) := by decide +kernel
theorem dL_law_491 : decode cL_law 491 = .ok (.iload_n 3, 1) := by decide +kernel
theorem dL_law_492 : decode cL_law 492 = .ok (.iconst 1, 1) := by decide +kernel
theorem dL_law_493 : decode cL_law 493 = .ok (.iadd, 1) := by decide +kernel
theorem dL_law_494 : decode cL_law 494 = .ok (.iaload, 1) := by decide +kernel
theorem dL_law_495 : decode cL_law 495 = .ok (.aload_n 0, 1) := by decide +kernel
theorem dL_law_496 : decode cL_law 496 = .ok (.iload_n 3, 1) := by decide +kernel
theorem dL_law_497 : decode cL_law 497 = .ok (.iconst 2, 1) := by decide +kernel
theorem dL_law_498 : decode cL_law 498 = .ok (.iadd, 1) := by decide +kernel
theorem dL_law_499 : decode cL_law 499 = .ok (.iaload, 1) := by decide +kernel
theorem dL_law_500 : decode cL_law 500 = .ok (.ifCond .eq 7, 3) := by decide +kernel
theorem dL_law_503 : decode cL_law 503 = .ok (.iconst 1, 1) := by decide +kernel
theorem dL_law_504 : decode cL_law 504 = .ok (.goto 4, 3) := by decide +kernel
theorem dL_law_507 : decode cL_law 507 = .ok (.iconst 0, 1) := by decide +kernel
theorem dL_law_508 : decode cL_law 508 = .ok (.invokevirtual 60, 3) := by decide +kernel
theorem dL_law_511 : decode cL_law 511 = .ok (.if_icmp .eq 428, 3) := by decide +kernel
theorem dL_law_514 : decode cL_law 514 = .ok (.iconst 0, 1) := by decide +kernel
theorem dL_law_515 : decode cL_law 515 = .ok (.ireturn, 1) := by decide +kernel
theorem dL_law_516 : decode cL_law 516 = .ok (.aload_n 1, 1) := by decide +kernel
theorem dL_law_517 : decode cL_law 517 = .ok (.aload_n 0, 1) := by decide +kernel
theorem dL_law_518 : decode cL_law 518 = .ok (.iload_n 3, 1) := by decide +kernel
theorem dL_law_519 : decode cL_law 519 = .ok (.iconst 1, 1) := by decide +kernel
theorem dL_law_520 : decode cL_law 520 = .ok (.iadd, 1) := by decide +kernel
theorem dL_law_521 : decode cL_law 521 = .ok (.iaload, 1) := by decide +kernel
theorem dL_law_522 : decode cL_law 522 = .ok (.aload_n 0, 1) := by decide +kernel
theorem dL_law_523 : decode cL_law 523 = .ok (.iload_n 3, 1) := by decide +kernel
theorem dL_law_524 : decode cL_law 524 = .ok (.iconst 2, 1) := by decide +kernel
theorem dL_law_525 : decode cL_law 525 = .ok (.iadd, 1) := by decide +kernel
theorem dL_law_526 : decode cL_law 526 = .ok (.iaload, 1) := by decide +kernel
theorem dL_law_527 : decode cL_law 527 = .ok (.aload_n 0, 1) := by decide +kernel
theorem dL_law_528 : decode cL_law 528 = .ok (.iload_n 3, 1) := by decide +kernel
theorem dL_law_529 : decode cL_law 529 = .ok (.iconst 3, 1) := by decide +kernel
theorem dL_law_530 : decode cL_law 530 = .ok (.iadd, 1) := by decide +kernel
theorem dL_law_531 : decode cL_law 531 = .ok (.iaload, 1) := by decide +kernel
theorem dL_law_532 : decode cL_law 532 = .ok (.aload_n 0, 1) := by decide +kernel
theorem dL_law_533 : decode cL_law 533 = .ok (.iload_n 3, 1) := by decide +kernel
theorem dL_law_534 : decode cL_law 534 = .ok (.iconst 4, 1) := by decide +kernel
theorem dL_law_535 : decode cL_law 535 = .ok (.iadd, 1) := by decide +kernel
theorem dL_law_536 : decode cL_law 536 = .ok (.iaload, 1) := by decide +kernel
theorem dL_law_537 : decode cL_law 537 = .ok (.invokevirtual 61, 3) := by decide +kernel
theorem dL_law_540 : decode cL_law 540 = .ok (.aload_n 2, 1) := by decide +kernel
theorem dL_law_541 : decode cL_law 541 = .ok (.aload_n 0, 1) := by decide +kernel
theorem dL_law_542 : decode cL_law 542 = .ok (.iload_n 3, 1) := by decide +kernel
theorem dL_law_543 : decode cL_law 543 = .ok (.iconst 1, 1) := by decide +kernel
theorem dL_law_544 : decode cL_law 544 = .ok (.iadd, 1) := by decide +kernel
theorem dL_law_545 : decode cL_law 545 = .ok (.iaload, 1) := by decide +kernel
theorem dL_law_546 : decode cL_law 546 = .ok (.aload_n 0, 1) := by decide +kernel
theorem dL_law_547 : decode cL_law 547 = .ok (.iload_n 3, 1) := by decide +kernel
theorem dL_law_548 : decode cL_law 548 = .ok (.iconst 2, 1) := by decide +kernel
theorem dL_law_549 : decode cL_law 549 = .ok (.iadd, 1) := by decide +kernel
theorem dL_law_550 : decode cL_law 550 = .ok (.iaload, 1) := by decide +kernel
theorem dL_law_551 : decode cL_law 551 = .ok (.aload_n 0, 1) := by decide +kernel
theorem dL_law_552 : decode cL_law 552 = .ok (.iload_n 3, 1) := by decide +kernel
theorem dL_law_553 : decode cL_law 553 = .ok (.iconst 3, 1) := by decide +kernel
theorem dL_law_554 : decode cL_law 554 = .ok (.iadd, 1) := by decide +kernel
theorem dL_law_555 : decode cL_law 555 = .ok (.iaload, 1) := by decide +kernel
theorem dL_law_556 : decode cL_law 556 = .ok (.aload_n 0, 1) := by decide +kernel
theorem dL_law_557 : decode cL_law 557 = .ok (.iload_n 3, 1) := by decide +kernel
theorem dL_law_558 : decode cL_law 558 = .ok (.iconst 4, 1) := by decide +kernel
theorem dL_law_559 : decode cL_law 559 = .ok (.iadd, 1) := by decide +kernel
theorem dL_law_560 : decode cL_law 560 = .ok (.iaload, 1) := by decide +kernel
theorem dL_law_561 : decode cL_law 561 = .ok (.invokevirtual 65, 3) := by decide +kernel
theorem dL_law_564 : decode cL_law 564 = .ok (.if_icmp .eq 375, 3) := by decide +kernel
theorem dL_law_567 : decode cL_law 567 = .ok (.iconst 0, 1) := by decide +kernel
theorem dL_law_568 : decode cL_law 568 = .ok (.ireturn, 1) := by decide +kernel
theorem dL_law_569 : decode cL_law 569 = .ok (.aload_n 1, 1) := by decide +kernel
theorem dL_law_570 : decode cL_law 570 = .ok (.aload_n 0, 1) := by decide +kernel
theorem dL_law_571 : decode cL_law 571 = .ok (.iload_n 3, 1) := by decide +kernel
theorem dL_law_572 : decode cL_law 572 = .ok (.iconst 1, 1) := by decide +kernel
theorem dL_law_573 : decode cL_law 573 = .ok (.iadd, 1) := by decide +kernel
theorem dL_law_574 : decode cL_law 574 = .ok (.iaload, 1) := by decide +kernel
theorem dL_law_575 : decode cL_law 575 = .ok (.aload_n 0, 1) := by decide +kernel
theorem dL_law_576 : decode cL_law 576 = .ok (.iload_n 3, 1) := by decide +kernel
theorem dL_law_577 : decode cL_law 577 = .ok (.iconst 2, 1) := by decide +kernel
theorem dL_law_578 : decode cL_law 578 = .ok (.iadd, 1) := by decide +kernel
theorem dL_law_579 : decode cL_law 579 = .ok (.iaload, 1) := by decide +kernel
theorem dL_law_580 : decode cL_law 580 = .ok (.invokevirtual 66, 3) := by decide +kernel
theorem dL_law_583 : decode cL_law 583 = .ok (.aload_n 2, 1) := by decide +kernel
theorem dL_law_584 : decode cL_law 584 = .ok (.aload_n 0, 1) := by decide +kernel
theorem dL_law_585 : decode cL_law 585 = .ok (.iload_n 3, 1) := by decide +kernel
theorem dL_law_586 : decode cL_law 586 = .ok (.iconst 1, 1) := by decide +kernel
theorem dL_law_587 : decode cL_law 587 = .ok (.iadd, 1) := by decide +kernel
theorem dL_law_588 : decode cL_law 588 = .ok (.iaload, 1) := by decide +kernel
theorem dL_law_589 : decode cL_law 589 = .ok (.aload_n 0, 1) := by decide +kernel
theorem dL_law_590 : decode cL_law 590 = .ok (.iload_n 3, 1) := by decide +kernel
theorem dL_law_591 : decode cL_law 591 = .ok (.iconst 2, 1) := by decide +kernel
theorem dL_law_592 : decode cL_law 592 = .ok (.iadd, 1) := by decide +kernel
theorem dL_law_593 : decode cL_law 593 = .ok (.iaload, 1) := by decide +kernel
theorem dL_law_594 : decode cL_law 594 = .ok (.invokevirtual 70, 3) := by decide +kernel
theorem dL_law_597 : decode cL_law 597 = .ok (.if_icmp .eq 342, 3) := by decide +kernel
theorem dL_law_600 : decode cL_law 600 = .ok (.iconst 0, 1) := by decide +kernel
theorem dL_law_601 : decode cL_law 601 = .ok (.ireturn, 1) := by decide +kernel
theorem dL_law_602 : decode cL_law 602 = .ok (.aload_n 1, 1) := by decide +kernel
theorem dL_law_603 : decode cL_law 603 = .ok (.aload_n 0, 1) := by decide +kernel
theorem dL_law_604 : decode cL_law 604 = .ok (.iload_n 3, 1) := by decide +kernel
theorem dL_law_605 : decode cL_law 605 = .ok (.iconst 1, 1) := by decide +kernel
theorem dL_law_606 : decode cL_law 606 = .ok (.iadd, 1) := by decide +kernel
theorem dL_law_607 : decode cL_law 607 = .ok (.iaload, 1) := by decide +kernel
theorem dL_law_608 : decode cL_law 608 = .ok (.aload_n 0, 1) := by decide +kernel
theorem dL_law_609 : decode cL_law 609 = .ok (.iload_n 3, 1) := by decide +kernel
theorem dL_law_610 : decode cL_law 610 = .ok (.iconst 2, 1) := by decide +kernel
theorem dL_law_611 : decode cL_law 611 = .ok (.iadd, 1) := by decide +kernel
theorem dL_law_612 : decode cL_law 612 = .ok (.iaload, 1) := by decide +kernel
theorem dL_law_613 : decode cL_law 613 = .ok (.invokevirtual 71, 3) := by decide +kernel
theorem dL_law_616 : decode cL_law 616 = .ok (.aload_n 2, 1) := by decide +kernel
theorem dL_law_617 : decode cL_law 617 = .ok (.aload_n 0, 1) := by decide +kernel
theorem dL_law_618 : decode cL_law 618 = .ok (.iload_n 3, 1) := by decide +kernel
theorem dL_law_619 : decode cL_law 619 = .ok (.iconst 1, 1) := by decide +kernel
theorem dL_law_620 : decode cL_law 620 = .ok (.iadd, 1) := by decide +kernel
theorem dL_law_621 : decode cL_law 621 = .ok (.iaload, 1) := by decide +kernel
theorem dL_law_622 : decode cL_law 622 = .ok (.aload_n 0, 1) := by decide +kernel
theorem dL_law_623 : decode cL_law 623 = .ok (.iload_n 3, 1) := by decide +kernel
theorem dL_law_624 : decode cL_law 624 = .ok (.iconst 2, 1) := by decide +kernel
theorem dL_law_625 : decode cL_law 625 = .ok (.iadd, 1) := by decide +kernel
theorem dL_law_626 : decode cL_law 626 = .ok (.iaload, 1) := by decide +kernel
theorem dL_law_627 : decode cL_law 627 = .ok (.invokevirtual 74, 3) := by decide +kernel
theorem dL_law_630 : decode cL_law 630 = .ok (.if_icmp .eq 309, 3) := by decide +kernel
theorem dL_law_633 : decode cL_law 633 = .ok (.iconst 0, 1) := by decide +kernel
theorem dL_law_634 : decode cL_law 634 = .ok (.ireturn, 1) := by decide +kernel
theorem dL_law_635 : decode cL_law 635 = .ok (.aload_n 1, 1) := by decide +kernel
theorem dL_law_636 : decode cL_law 636 = .ok (.aload_n 0, 1) := by decide +kernel
theorem dL_law_637 : decode cL_law 637 = .ok (.iload_n 3, 1) := by decide +kernel
theorem dL_law_638 : decode cL_law 638 = .ok (.iconst 1, 1) := by decide +kernel
theorem dL_law_639 : decode cL_law 639 = .ok (.iadd, 1) := by decide +kernel
theorem dL_law_640 : decode cL_law 640 = .ok (.iaload, 1) := by decide +kernel
theorem dL_law_641 : decode cL_law 641 = .ok (.aload_n 0, 1) := by decide +kernel
theorem dL_law_642 : decode cL_law 642 = .ok (.iload_n 3, 1) := by decide +kernel
theorem dL_law_643 : decode cL_law 643 = .ok (.iconst 2, 1) := by decide +kernel
theorem dL_law_644 : decode cL_law 644 = .ok (.iadd, 1) := by decide +kernel
theorem dL_law_645 : decode cL_law 645 = .ok (.iaload, 1) := by decide +kernel
theorem dL_law_646 : decode cL_law 646 = .ok (.invokevirtual 75, 3) := by decide +kernel
theorem dL_law_649 : decode cL_law 649 = .ok (.aload_n 2, 1) := by decide +kernel
theorem dL_law_650 : decode cL_law 650 = .ok (.aload_n 0, 1) := by decide +kernel
theorem dL_law_651 : decode cL_law 651 = .ok (.iload_n 3, 1) := by decide +kernel
theorem dL_law_652 : decode cL_law 652 = .ok (.iconst 1, 1) := by decide +kernel
theorem dL_law_653 : decode cL_law 653 = .ok (.iadd, 1) := by decide +kernel
theorem dL_law_654 : decode cL_law 654 = .ok (.iaload, 1) := by decide +kernel
theorem dL_law_655 : decode cL_law 655 = .ok (.aload_n 0, 1) := by decide +kernel
theorem dL_law_656 : decode cL_law 656 = .ok (.iload_n 3, 1) := by decide +kernel
theorem dL_law_657 : decode cL_law 657 = .ok (.iconst 2, 1) := by decide +kernel
theorem dL_law_658 : decode cL_law 658 = .ok (.iadd, 1) := by decide +kernel
theorem dL_law_659 : decode cL_law 659 = .ok (.iaload, 1) := by decide +kernel
theorem dL_law_660 : decode cL_law 660 = .ok (.invokevirtual 79, 3) := by decide +kernel
theorem dL_law_663 : decode cL_law 663 = .ok (.lcmp, 1) := by decide +kernel
theorem dL_law_664 : decode cL_law 664 = .ok (.ifCond .eq 275, 3) := by decide +kernel
theorem dL_law_667 : decode cL_law 667 = .ok (.iconst 0, 1) := by decide +kernel
theorem dL_law_668 : decode cL_law 668 = .ok (.ireturn, 1) := by decide +kernel
theorem dL_law_669 : decode cL_law 669 = .ok (.aload_n 1, 1) := by decide +kernel
theorem dL_law_670 : decode cL_law 670 = .ok (.aload_n 0, 1) := by decide +kernel
theorem dL_law_671 : decode cL_law 671 = .ok (.iload_n 3, 1) := by decide +kernel
theorem dL_law_672 : decode cL_law 672 = .ok (.iconst 1, 1) := by decide +kernel
theorem dL_law_673 : decode cL_law 673 = .ok (.iadd, 1) := by decide +kernel
theorem dL_law_674 : decode cL_law 674 = .ok (.iaload, 1) := by decide +kernel
theorem dL_law_675 : decode cL_law 675 = .ok (.aload_n 0, 1) := by decide +kernel
theorem dL_law_676 : decode cL_law 676 = .ok (.iload_n 3, 1) := by decide +kernel
theorem dL_law_677 : decode cL_law 677 = .ok (.iconst 2, 1) := by decide +kernel
theorem dL_law_678 : decode cL_law 678 = .ok (.iadd, 1) := by decide +kernel
theorem dL_law_679 : decode cL_law 679 = .ok (.iaload, 1) := by decide +kernel
theorem dL_law_680 : decode cL_law 680 = .ok (.invokevirtual 80, 3) := by decide +kernel
theorem dL_law_683 : decode cL_law 683 = .ok (.aload_n 2, 1) := by decide +kernel
theorem dL_law_684 : decode cL_law 684 = .ok (.aload_n 0, 1) := by decide +kernel
theorem dL_law_685 : decode cL_law 685 = .ok (.iload_n 3, 1) := by decide +kernel
theorem dL_law_686 : decode cL_law 686 = .ok (.iconst 1, 1) := by decide +kernel
theorem dL_law_687 : decode cL_law 687 = .ok (.iadd, 1) := by decide +kernel
theorem dL_law_688 : decode cL_law 688 = .ok (.iaload, 1) := by decide +kernel
theorem dL_law_689 : decode cL_law 689 = .ok (.aload_n 0, 1) := by decide +kernel
theorem dL_law_690 : decode cL_law 690 = .ok (.iload_n 3, 1) := by decide +kernel
theorem dL_law_691 : decode cL_law 691 = .ok (.iconst 2, 1) := by decide +kernel
theorem dL_law_692 : decode cL_law 692 = .ok (.iadd, 1) := by decide +kernel
theorem dL_law_693 : decode cL_law 693 = .ok (.iaload, 1) := by decide +kernel
theorem dL_law_694 : decode cL_law 694 = .ok (.invokevirtual 83, 3) := by decide +kernel
theorem dL_law_697 : decode cL_law 697 = .ok (.if_icmp .eq 242, 3) := by decide +kernel
theorem dL_law_700 : decode cL_law 700 = .ok (.iconst 0, 1) := by decide +kernel
theorem dL_law_701 : decode cL_law 701 = .ok (.ireturn, 1) := by decide +kernel
theorem dL_law_702 : decode cL_law 702 = .ok (.aload_n 1, 1) := by decide +kernel
theorem dL_law_703 : decode cL_law 703 = .ok (.aload_n 0, 1) := by decide +kernel
theorem dL_law_704 : decode cL_law 704 = .ok (.iload_n 3, 1) := by decide +kernel
theorem dL_law_705 : decode cL_law 705 = .ok (.iconst 1, 1) := by decide +kernel
theorem dL_law_706 : decode cL_law 706 = .ok (.iadd, 1) := by decide +kernel
theorem dL_law_707 : decode cL_law 707 = .ok (.iaload, 1) := by decide +kernel
theorem dL_law_708 : decode cL_law 708 = .ok (.aload_n 0, 1) := by decide +kernel
theorem dL_law_709 : decode cL_law 709 = .ok (.iload_n 3, 1) := by decide +kernel
theorem dL_law_710 : decode cL_law 710 = .ok (.iconst 2, 1) := by decide +kernel
theorem dL_law_711 : decode cL_law 711 = .ok (.iadd, 1) := by decide +kernel
theorem dL_law_712 : decode cL_law 712 = .ok (.iaload, 1) := by decide +kernel
theorem dL_law_713 : decode cL_law 713 = .ok (.aload_n 0, 1) := by decide +kernel
theorem dL_law_714 : decode cL_law 714 = .ok (.iload_n 3, 1) := by decide +kernel
theorem dL_law_715 : decode cL_law 715 = .ok (.iconst 3, 1) := by decide +kernel
theorem dL_law_716 : decode cL_law 716 = .ok (.iadd, 1) := by decide +kernel
theorem dL_law_717 : decode cL_law 717 = .ok (.iaload, 1) := by decide +kernel
theorem dL_law_718 : decode cL_law 718 = .ok (.i2l, 1) := by decide +kernel
theorem dL_law_719 : decode cL_law 719 = .ok (.bipush 32, 2) := by decide +kernel
theorem dL_law_721 : decode cL_law 721 = .ok (.lshl, 1) := by decide +kernel
theorem dL_law_722 : decode cL_law 722 = .ok (.aload_n 0, 1) := by decide +kernel
theorem dL_law_723 : decode cL_law 723 = .ok (.iload_n 3, 1) := by decide +kernel
theorem dL_law_724 : decode cL_law 724 = .ok (.iconst 4, 1) := by decide +kernel
theorem dL_law_725 : decode cL_law 725 = .ok (.iadd, 1) := by decide +kernel
theorem dL_law_726 : decode cL_law 726 = .ok (.iaload, 1) := by decide +kernel
theorem dL_law_727 : decode cL_law 727 = .ok (.i2l, 1) := by decide +kernel
theorem dL_law_728 : decode cL_law 728 = .ok (.ldc2_w 13, 3) := by decide +kernel
theorem dL_law_731 : decode cL_law 731 = .ok (.land, 1) := by decide +kernel
theorem dL_law_732 : decode cL_law 732 = .ok (.lor, 1) := by decide +kernel
theorem dL_law_733 : decode cL_law 733 = .ok (.invokevirtual 84, 3) := by decide +kernel
theorem dL_law_736 : decode cL_law 736 = .ok (.aload_n 2, 1) := by decide +kernel
theorem dL_law_737 : decode cL_law 737 = .ok (.aload_n 0, 1) := by decide +kernel
theorem dL_law_738 : decode cL_law 738 = .ok (.iload_n 3, 1) := by decide +kernel
theorem dL_law_739 : decode cL_law 739 = .ok (.iconst 1, 1) := by decide +kernel
theorem dL_law_740 : decode cL_law 740 = .ok (.iadd, 1) := by decide +kernel
theorem dL_law_741 : decode cL_law 741 = .ok (.iaload, 1) := by decide +kernel
theorem dL_law_742 : decode cL_law 742 = .ok (.aload_n 0, 1) := by decide +kernel
theorem dL_law_743 : decode cL_law 743 = .ok (.iload_n 3, 1) := by decide +kernel
theorem dL_law_744 : decode cL_law 744 = .ok (.iconst 2, 1) := by decide +kernel
theorem dL_law_745 : decode cL_law 745 = .ok (.iadd, 1) := by decide +kernel
theorem dL_law_746 : decode cL_law 746 = .ok (.iaload, 1) := by decide +kernel
theorem dL_law_747 : decode cL_law 747 = .ok (.aload_n 0, 1) := by decide +kernel
theorem dL_law_748 : decode cL_law 748 = .ok (.iload_n 3, 1) := by decide +kernel
theorem dL_law_749 : decode cL_law 749 = .ok (.iconst 3, 1) := by decide +kernel
theorem dL_law_750 : decode cL_law 750 = .ok (.iadd, 1) := by decide +kernel
theorem dL_law_751 : decode cL_law 751 = .ok (.iaload, 1) := by decide +kernel
theorem dL_law_752 : decode cL_law 752 = .ok (.i2l, 1) := by decide +kernel
theorem dL_law_753 : decode cL_law 753 = .ok (.bipush 32, 2) := by decide +kernel
theorem dL_law_755 : decode cL_law 755 = .ok (.lshl, 1) := by decide +kernel
theorem dL_law_756 : decode cL_law 756 = .ok (.aload_n 0, 1) := by decide +kernel
theorem dL_law_757 : decode cL_law 757 = .ok (.iload_n 3, 1) := by decide +kernel
theorem dL_law_758 : decode cL_law 758 = .ok (.iconst 4, 1) := by decide +kernel
theorem dL_law_759 : decode cL_law 759 = .ok (.iadd, 1) := by decide +kernel
theorem dL_law_760 : decode cL_law 760 = .ok (.iaload, 1) := by decide +kernel
theorem dL_law_761 : decode cL_law 761 = .ok (.i2l, 1) := by decide +kernel
theorem dL_law_762 : decode cL_law 762 = .ok (.ldc2_w 13, 3) := by decide +kernel
theorem dL_law_765 : decode cL_law 765 = .ok (.land, 1) := by decide +kernel
theorem dL_law_766 : decode cL_law 766 = .ok (.lor, 1) := by decide +kernel
theorem dL_law_767 : decode cL_law 767 = .ok (.invokevirtual 88, 3) := by decide +kernel
theorem dL_law_770 : decode cL_law 770 = .ok (.if_icmp .eq 169, 3) := by decide +kernel
theorem dL_law_773 : decode cL_law 773 = .ok (.iconst 0, 1) := by decide +kernel
theorem dL_law_774 : decode cL_law 774 = .ok (.ireturn, 1) := by decide +kernel
theorem dL_law_775 : decode cL_law 775 = .ok (.aload_n 1, 1) := by decide +kernel
theorem dL_law_776 : decode cL_law 776 = .ok (.aload_n 0, 1) := by decide +kernel
theorem dL_law_777 : decode cL_law 777 = .ok (.iload_n 3, 1) := by decide +kernel
theorem dL_law_778 : decode cL_law 778 = .ok (.iconst 1, 1) := by decide +kernel
theorem dL_law_779 : decode cL_law 779 = .ok (.iadd, 1) := by decide +kernel
theorem dL_law_780 : decode cL_law 780 = .ok (.iaload, 1) := by decide +kernel
theorem dL_law_781 : decode cL_law 781 = .ok (.aload_n 0, 1) := by decide +kernel
theorem dL_law_782 : decode cL_law 782 = .ok (.iload_n 3, 1) := by decide +kernel
theorem dL_law_783 : decode cL_law 783 = .ok (.iconst 2, 1) := by decide +kernel
theorem dL_law_784 : decode cL_law 784 = .ok (.iadd, 1) := by decide +kernel
theorem dL_law_785 : decode cL_law 785 = .ok (.iaload, 1) := by decide +kernel
theorem dL_law_786 : decode cL_law 786 = .ok (.invokevirtual 89, 3) := by decide +kernel
theorem dL_law_789 : decode cL_law 789 = .ok (.aload_n 2, 1) := by decide +kernel
theorem dL_law_790 : decode cL_law 790 = .ok (.aload_n 0, 1) := by decide +kernel
theorem dL_law_791 : decode cL_law 791 = .ok (.iload_n 3, 1) := by decide +kernel
theorem dL_law_792 : decode cL_law 792 = .ok (.iconst 1, 1) := by decide +kernel
theorem dL_law_793 : decode cL_law 793 = .ok (.iadd, 1) := by decide +kernel
theorem dL_law_794 : decode cL_law 794 = .ok (.iaload, 1) := by decide +kernel
theorem dL_law_795 : decode cL_law 795 = .ok (.aload_n 0, 1) := by decide +kernel
theorem dL_law_796 : decode cL_law 796 = .ok (.iload_n 3, 1) := by decide +kernel
theorem dL_law_797 : decode cL_law 797 = .ok (.iconst 2, 1) := by decide +kernel
theorem dL_law_798 : decode cL_law 798 = .ok (.iadd, 1) := by decide +kernel
theorem dL_law_799 : decode cL_law 799 = .ok (.iaload, 1) := by decide +kernel
theorem dL_law_800 : decode cL_law 800 = .ok (.invokevirtual 92, 3) := by decide +kernel
theorem dL_law_803 : decode cL_law 803 = .ok (.if_icmp .eq 136, 3) := by decide +kernel
theorem dL_law_806 : decode cL_law 806 = .ok (.iconst 0, 1) := by decide +kernel
theorem dL_law_807 : decode cL_law 807 = .ok (.ireturn, 1) := by decide +kernel
theorem dL_law_808 : decode cL_law 808 = .ok (.aload_n 1, 1) := by decide +kernel
theorem dL_law_809 : decode cL_law 809 = .ok (.aload_n 0, 1) := by decide +kernel
theorem dL_law_810 : decode cL_law 810 = .ok (.iload_n 3, 1) := by decide +kernel
theorem dL_law_811 : decode cL_law 811 = .ok (.iconst 1, 1) := by decide +kernel
theorem dL_law_812 : decode cL_law 812 = .ok (.iadd, 1) := by decide +kernel
theorem dL_law_813 : decode cL_law 813 = .ok (.iaload, 1) := by decide +kernel
theorem dL_law_814 : decode cL_law 814 = .ok (.invokevirtual 93, 3) := by decide +kernel
theorem dL_law_817 : decode cL_law 817 = .ok (.aload_n 2, 1) := by decide +kernel
theorem dL_law_818 : decode cL_law 818 = .ok (.aload_n 0, 1) := by decide +kernel
theorem dL_law_819 : decode cL_law 819 = .ok (.iload_n 3, 1) := by decide +kernel
theorem dL_law_820 : decode cL_law 820 = .ok (.iconst 1, 1) := by decide +kernel
theorem dL_law_821 : decode cL_law 821 = .ok (.iadd, 1) := by decide +kernel
theorem dL_law_822 : decode cL_law 822 = .ok (.iaload, 1) := by decide +kernel
theorem dL_law_823 : decode cL_law 823 = .ok (.invokevirtual 97, 3) := by decide +kernel
theorem dL_law_826 : decode cL_law 826 = .ok (.lcmp, 1) := by decide +kernel
theorem dL_law_827 : decode cL_law 827 = .ok (.ifCond .eq 112, 3) := by decide +kernel
theorem dL_law_830 : decode cL_law 830 = .ok (.iconst 0, 1) := by decide +kernel
theorem dL_law_831 : decode cL_law 831 = .ok (.ireturn, 1) := by decide +kernel
theorem dL_law_832 : decode cL_law 832 = .ok (.aload_n 1, 1) := by decide +kernel
theorem dL_law_833 : decode cL_law 833 = .ok (.invokevirtual 98, 3) := by decide +kernel
theorem dL_law_836 : decode cL_law 836 = .ok (.aload_n 2, 1) := by decide +kernel
theorem dL_law_837 : decode cL_law 837 = .ok (.invokevirtual 102, 3) := by decide +kernel
theorem dL_law_840 : decode cL_law 840 = .ok (.lcmp, 1) := by decide +kernel
theorem dL_law_841 : decode cL_law 841 = .ok (.ifCond .eq 98, 3) := by decide +kernel
theorem dL_law_844 : decode cL_law 844 = .ok (.iconst 0, 1) := by decide +kernel
theorem dL_law_845 : decode cL_law 845 = .ok (.ireturn, 1) := by decide +kernel
theorem dL_law_846 : decode cL_law 846 = .ok (.aload_n 1, 1) := by decide +kernel
theorem dL_law_847 : decode cL_law 847 = .ok (.aload_n 0, 1) := by decide +kernel
theorem dL_law_848 : decode cL_law 848 = .ok (.iload_n 3, 1) := by decide +kernel
theorem dL_law_849 : decode cL_law 849 = .ok (.iconst 1, 1) := by decide +kernel
theorem dL_law_850 : decode cL_law 850 = .ok (.iadd, 1) := by decide +kernel
theorem dL_law_851 : decode cL_law 851 = .ok (.iaload, 1) := by decide +kernel
theorem dL_law_852 : decode cL_law 852 = .ok (.invokevirtual 103, 3) := by decide +kernel
theorem dL_law_855 : decode cL_law 855 = .ok (.aload_n 2, 1) := by decide +kernel
theorem dL_law_856 : decode cL_law 856 = .ok (.aload_n 0, 1) := by decide +kernel
theorem dL_law_857 : decode cL_law 857 = .ok (.iload_n 3, 1) := by decide +kernel
theorem dL_law_858 : decode cL_law 858 = .ok (.iconst 1, 1) := by decide +kernel
theorem dL_law_859 : decode cL_law 859 = .ok (.iadd, 1) := by decide +kernel
theorem dL_law_860 : decode cL_law 860 = .ok (.iaload, 1) := by decide +kernel
theorem dL_law_861 : decode cL_law 861 = .ok (.invokevirtual 106, 3) := by decide +kernel
theorem dL_law_864 : decode cL_law 864 = .ok (.lcmp, 1) := by decide +kernel
theorem dL_law_865 : decode cL_law 865 = .ok (.ifCond .eq 74, 3) := by decide +kernel
theorem dL_law_868 : decode cL_law 868 = .ok (.iconst 0, 1) := by decide +kernel
theorem dL_law_869 : decode cL_law 869 = .ok (.ireturn, 1) := by decide +kernel
theorem dL_law_870 : decode cL_law 870 = .ok (.aload_n 1, 1) := by decide +kernel
theorem dL_law_871 : decode cL_law 871 = .ok (.aload_n 0, 1) := by decide +kernel
theorem dL_law_872 : decode cL_law 872 = .ok (.iload_n 3, 1) := by decide +kernel
theorem dL_law_873 : decode cL_law 873 = .ok (.iconst 1, 1) := by decide +kernel
theorem dL_law_874 : decode cL_law 874 = .ok (.iadd, 1) := by decide +kernel
theorem dL_law_875 : decode cL_law 875 = .ok (.iaload, 1) := by decide +kernel
theorem dL_law_876 : decode cL_law 876 = .ok (.invokevirtual 107, 3) := by decide +kernel
theorem dL_law_879 : decode cL_law 879 = .ok (.aload_n 2, 1) := by decide +kernel
theorem dL_law_880 : decode cL_law 880 = .ok (.aload_n 0, 1) := by decide +kernel
theorem dL_law_881 : decode cL_law 881 = .ok (.iload_n 3, 1) := by decide +kernel
theorem dL_law_882 : decode cL_law 882 = .ok (.iconst 1, 1) := by decide +kernel
theorem dL_law_883 : decode cL_law 883 = .ok (.iadd, 1) := by decide +kernel
theorem dL_law_884 : decode cL_law 884 = .ok (.iaload, 1) := by decide +kernel
theorem dL_law_885 : decode cL_law 885 = .ok (.invokevirtual 110, 3) := by decide +kernel
theorem dL_law_888 : decode cL_law 888 = .ok (.if_icmp .eq 51, 3) := by decide +kernel
theorem dL_law_891 : decode cL_law 891 = .ok (.iconst 0, 1) := by decide +kernel
theorem dL_law_892 : decode cL_law 892 = .ok (.ireturn, 1) := by decide +kernel
theorem dL_law_893 : decode cL_law 893 = .ok (.aload_n 1, 1) := by decide +kernel
theorem dL_law_894 : decode cL_law 894 = .ok (.aload_n 0, 1) := by decide +kernel
theorem dL_law_895 : decode cL_law 895 = .ok (.iload_n 3, 1) := by decide +kernel
theorem dL_law_896 : decode cL_law 896 = .ok (.iconst 1, 1) := by decide +kernel
theorem dL_law_897 : decode cL_law 897 = .ok (.iadd, 1) := by decide +kernel
theorem dL_law_898 : decode cL_law 898 = .ok (.iaload, 1) := by decide +kernel
theorem dL_law_899 : decode cL_law 899 = .ok (.invokevirtual 111, 3) := by decide +kernel
theorem dL_law_902 : decode cL_law 902 = .ok (.aload_n 2, 1) := by decide +kernel
theorem dL_law_903 : decode cL_law 903 = .ok (.aload_n 0, 1) := by decide +kernel
theorem dL_law_904 : decode cL_law 904 = .ok (.iload_n 3, 1) := by decide +kernel
theorem dL_law_905 : decode cL_law 905 = .ok (.iconst 1, 1) := by decide +kernel
theorem dL_law_906 : decode cL_law 906 = .ok (.iadd, 1) := by decide +kernel
theorem dL_law_907 : decode cL_law 907 = .ok (.iaload, 1) := by decide +kernel
theorem dL_law_908 : decode cL_law 908 = .ok (.invokevirtual 115, 3) := by decide +kernel
theorem dL_law_911 : decode cL_law 911 = .ok (.if_icmp .eq 28, 3) := by decide +kernel
theorem dL_law_914 : decode cL_law 914 = .ok (.iconst 0, 1) := by decide +kernel
theorem dL_law_915 : decode cL_law 915 = .ok (.ireturn, 1) := by decide +kernel
theorem dL_law_916 : decode cL_law 916 = .ok (.aload_n 1, 1) := by decide +kernel
theorem dL_law_917 : decode cL_law 917 = .ok (.aload_n 0, 1) := by decide +kernel
theorem dL_law_918 : decode cL_law 918 = .ok (.iload_n 3, 1) := by decide +kernel
theorem dL_law_919 : decode cL_law 919 = .ok (.iconst 1, 1) := by decide +kernel
theorem dL_law_920 : decode cL_law 920 = .ok (.iadd, 1) := by decide +kernel
theorem dL_law_921 : decode cL_law 921 = .ok (.iaload, 1) := by decide +kernel
theorem dL_law_922 : decode cL_law 922 = .ok (.invokevirtual 116, 3) := by decide +kernel
theorem dL_law_925 : decode cL_law 925 = .ok (.aload_n 2, 1) := by decide +kernel
theorem dL_law_926 : decode cL_law 926 = .ok (.aload_n 0, 1) := by decide +kernel
theorem dL_law_927 : decode cL_law 927 = .ok (.iload_n 3, 1) := by decide +kernel
theorem dL_law_928 : decode cL_law 928 = .ok (.iconst 1, 1) := by decide +kernel
theorem dL_law_929 : decode cL_law 929 = .ok (.iadd, 1) := by decide +kernel
theorem dL_law_930 : decode cL_law 930 = .ok (.iaload, 1) := by decide +kernel
theorem dL_law_931 : decode cL_law 931 = .ok (.invokevirtual 119, 3) := by decide +kernel
theorem dL_law_934 : decode cL_law 934 = .ok (.if_icmp .eq 5, 3) := by decide +kernel
theorem dL_law_937 : decode cL_law 937 = .ok (.iconst 0, 1) := by decide +kernel
theorem dL_law_938 : decode cL_law 938 = .ok (.ireturn, 1) := by decide +kernel
theorem dL_law_939 : decode cL_law 939 = .ok (.iinc 3 6, 3) := by decide +kernel
theorem dL_law_942 : decode cL_law 942 = .ok (.goto (-924), 3) := by decide +kernel
theorem dL_law_945 : decode cL_law 945 = .ok (.iconst 1, 1) := by decide +kernel
theorem dL_law_946 : decode cL_law 946 = .ok (.ireturn, 1) := by decide +kernel
abbrev vwCl : List vw_C := [(RX0, TX0, 10), (RX1, TX1, 9), (RX2, TX2, 8), (RX3, TX3, 11), (RX4, TX4, 8), (RX5, TX5, 3), (RX6, TX6, 50)]
