theorem dX4_readAct_0 : decode cX4_readAct 0 = .ok (.aload_n 0, 1) := by decide +kernel
theorem dX4_readAct_1 : decode cX4_readAct 1 = .ok (.invokevirtual 78, 3) := by decide +kernel
theorem dX4_readAct_4 : decode cX4_readAct 4 = .ok (.istore_n 1, 1) := by decide +kernel
theorem dX4_readAct_5 : decode cX4_readAct 5 = .ok (.iload_n 1, 1) := by decide +kernel
theorem dX4_readAct_6 : decode cX4_readAct 6 = .ok (.iconst (-1), 1) := by decide +kernel
theorem dX4_readAct_7 : decode cX4_readAct 7 = .ok (.if_icmp .ne 5, 3) := by decide +kernel
theorem dX4_readAct_10 : decode cX4_readAct 10 = .ok (.iconst 0, 1) := by decide +kernel
theorem dX4_readAct_11 : decode cX4_readAct 11 = .ok (.ireturn, 1) := by decide +kernel
theorem dX4_readAct_12 : decode cX4_readAct 12 = .ok (.aload_n 0, 1) := by decide +kernel
theorem dX4_readAct_13 : decode cX4_readAct 13 = .ok (.invokevirtual 31, 3) := by decide +kernel
theorem dX4_readAct_16 : decode cX4_readAct 16 = .ok (.iconst 0, 1) := by decide +kernel
theorem dX4_readAct_17 : decode cX4_readAct 17 = .ok (.istore_n 2, 1) := by decide +kernel
theorem dX4_readAct_18 : decode cX4_readAct 18 = .ok (.iload_n 1, 1) := by decide +kernel
theorem dX4_readAct_19 : decode cX4_readAct 19 = .ok (.iconst 3, 1) := by decide +kernel
theorem dX4_readAct_20 : decode cX4_readAct 20 = .ok (.if_icmp .eq 22, 3) := by decide +kernel
theorem dX4_readAct_23 : decode cX4_readAct 23 = .ok (.aload_n 0, 1) := by decide +kernel
theorem dX4_readAct_24 : decode cX4_readAct 24 = .ok (.getfield 34, 3) := by decide +kernel
theorem dX4_readAct_27 : decode cX4_readAct 27 = .ok (.iconst 2, 1) := by decide +kernel
theorem dX4_readAct_28 : decode cX4_readAct 28 = .ok (.if_icmp .eq 5, 3) := by decide +kernel
theorem dX4_readAct_31 : decode cX4_readAct 31 = .ok (.iconst 0, 1) := by decide +kernel
theorem dX4_readAct_32 : decode cX4_readAct 32 = .ok (.ireturn, 1) := by decide +kernel
theorem dX4_readAct_33 : decode cX4_readAct 33 = .ok (.aload_n 0, 1) := by decide +kernel
theorem dX4_readAct_34 : decode cX4_readAct 34 = .ok (.invokevirtual 71, 3) := by decide +kernel
theorem dX4_readAct_37 : decode cX4_readAct 37 = .ok (.istore_n 2, 1) := by decide +kernel
theorem dX4_readAct_38 : decode cX4_readAct 38 = .ok (.aload_n 0, 1) := by decide +kernel
theorem dX4_readAct_39 : decode cX4_readAct 39 = .ok (.invokevirtual 31, 3) := by decide +kernel
theorem dX4_readAct_42 : decode cX4_readAct 42 = .ok (.aload_n 0, 1) := by decide +kernel
theorem dX4_readAct_43 : decode cX4_readAct 43 = .ok (.getfield 34, 3) := by decide +kernel
theorem dX4_readAct_46 : decode cX4_readAct 46 = .ok (.bipush 59, 2) := by decide +kernel
theorem dX4_readAct_48 : decode cX4_readAct 48 = .ok (.if_icmp .eq 5, 3) := by decide +kernel
theorem dX4_readAct_51 : decode cX4_readAct 51 = .ok (.iconst 0, 1) := by decide +kernel
theorem dX4_readAct_52 : decode cX4_readAct 52 = .ok (.ireturn, 1) := by decide +kernel
theorem dX4_readAct_53 : decode cX4_readAct 53 = .ok (.aload_n 0, 1) := by decide +kernel
theorem dX4_readAct_54 : decode cX4_readAct 54 = .ok (.invokevirtual 31, 3) := by decide +kernel
theorem dX4_readAct_57 : decode cX4_readAct 57 = .ok (.aload_n 0, 1) := by decide +kernel
theorem dX4_readAct_58 : decode cX4_readAct 58 = .ok (.getfield 22, 3) := by decide +kernel
theorem dX4_readAct_61 : decode cX4_readAct 61 = .ok (.iload_n 1, 1) := by decide +kernel
theorem dX4_readAct_62 : decode cX4_readAct 62 = .ok (.iload_n 2, 1) := by decide +kernel
theorem dX4_readAct_63 : decode cX4_readAct 63 = .ok (.invokevirtual 81, 3) := by decide +kernel
theorem dX4_readAct_66 : decode cX4_readAct 66 = .ok (.iconst 1, 1) := by decide +kernel
theorem dX4_readAct_67 : decode cX4_readAct 67 = .ok (.ireturn, 1) := by decide +kernel
set_option maxRecDepth 20000 in
theorem ggX4_subjectAtHand_X4_isWord : GoodIn wsX4_subjectAtHand wsX4_isWord := goodIn_r _ [5, 6, 7, 8, 9, 10, 11, 12, 13, 14, 15, 16, 17, 18, 19, 20, 21, 22, 23, 24, 25, 26, 27, 28, 29, 30, 31, 32, 33, 34, 35, 36, 37, 38, 39, 40, 41, 42, 43, 44, 45, 46, 47, 48, 49, 50, 51, 52, 53, 54, 55, 56, 57, 58, 59, 60, 61, 62, 63, 64, 65, 66] (by decide +kernel) (by decide +kernel)
set_option maxRecDepth 20000 in
theorem gX4_subjectAtHand_X4_isWord : GoodIn wsX4_subjectAtHand (wsV RX4 86 RX4 yX4_isWord wsX4_isWord) := goodIn_app (goodIn_of _ (by decide +kernel)) ggX4_subjectAtHand_X4_isWord
theorem dX4_subjectAtHand_0 : decode cX4_subjectAtHand 0 = .ok (.aload_n 0, 1) := by decide +kernel
theorem dX4_subjectAtHand_1 : decode cX4_subjectAtHand 1 = .ok (.ldc 85, 2) := by decide +kernel
theorem dX4_subjectAtHand_3 : decode cX4_subjectAtHand 3 = .ok (.invokevirtual 86, 3) := by decide +kernel
theorem dX4_subjectAtHand_6 : decode cX4_subjectAtHand 6 = .ok (.ifCond .eq 5, 3) := by decide +kernel
theorem dX4_subjectAtHand_9 : decode cX4_subjectAtHand 9 = .ok (.iconst 0, 1) := by decide +kernel
theorem dX4_subjectAtHand_10 : decode cX4_subjectAtHand 10 = .ok (.ireturn, 1) := by decide +kernel
theorem dX4_subjectAtHand_11 : decode cX4_subjectAtHand 11 = .ok (.aload_n 0, 1) := by decide +kernel
theorem dX4_subjectAtHand_12 : decode cX4_subjectAtHand 12 = .ok (.ldc 89, 2) := by decide +kernel
theorem dX4_subjectAtHand_14 : decode cX4_subjectAtHand 14 = .ok (.invokevirtual 86, 3) := by decide +kernel
theorem dX4_subjectAtHand_17 : decode cX4_subjectAtHand 17 = .ok (.ifCond .eq 5, 3) := by decide +kernel
theorem dX4_subjectAtHand_20 : decode cX4_subjectAtHand 20 = .ok (.iconst 1, 1) := by decide +kernel
theorem dX4_subjectAtHand_21 : decode cX4_subjectAtHand 21 = .ok (.ireturn, 1) := by decide +kernel
theorem dX4_subjectAtHand_22 : decode cX4_subjectAtHand 22 = .ok (.aload_n 0, 1) := by decide +kernel
theorem dX4_subjectAtHand_23 : decode cX4_subjectAtHand 23 = .ok (.ldc 91, 2) := by decide +kernel
theorem dX4_subjectAtHand_25 : decode cX4_subjectAtHand 25 = .ok (.invokevirtual 86, 3) := by decide +kernel
theorem dX4_subjectAtHand_28 : decode cX4_subjectAtHand 28 = .ok (.ifCond .eq 5, 3) := by decide +kernel
theorem dX4_subjectAtHand_31 : decode cX4_subjectAtHand 31 = .ok (.iconst 2, 1) := by decide +kernel
theorem dX4_subjectAtHand_32 : decode cX4_subjectAtHand 32 = .ok (.ireturn, 1) := by decide +kernel
theorem dX4_subjectAtHand_33 : decode cX4_subjectAtHand 33 = .ok (.aload_n 0, 1) := by decide +kernel
theorem dX4_subjectAtHand_34 : decode cX4_subjectAtHand 34 = .ok (.ldc 93, 2) := by decide +kernel
theorem dX4_subjectAtHand_36 : decode cX4_subjectAtHand 36 = .ok (.invokevirtual 86, 3) := by decide +kernel
theorem dX4_subjectAtHand_39 : decode cX4_subjectAtHand 39 = .ok (.ifCond .eq 5, 3) := by decide +kernel
theorem dX4_subjectAtHand_42 : decode cX4_subjectAtHand 42 = .ok (.iconst 3, 1) := by decide +kernel
theorem dX4_subjectAtHand_43 : decode cX4_subjectAtHand 43 = .ok (.ireturn, 1) := by decide +kernel
theorem dX4_subjectAtHand_44 : decode cX4_subjectAtHand 44 = .ok (.aload_n 0, 1) := by decide +kernel
theorem dX4_subjectAtHand_45 : decode cX4_subjectAtHand 45 = .ok (.ldc 95, 2) := by decide +kernel
theorem dX4_subjectAtHand_47 : decode cX4_subjectAtHand 47 = .ok (.invokevirtual 86, 3) := by decide +kernel
theorem dX4_subjectAtHand_50 : decode cX4_subjectAtHand 50 = .ok (.ifCond .eq 5, 3) := by decide +kernel
theorem dX4_subjectAtHand_53 : decode cX4_subjectAtHand 53 = .ok (.iconst 4, 1) := by decide +kernel
theorem dX4_subjectAtHand_54 : decode cX4_subjectAtHand 54 = .ok (.ireturn, 1) := by decide +kernel
theorem dX4_subjectAtHand_55 : decode cX4_subjectAtHand 55 = .ok (.aload_n 0, 1) := by decide +kernel
theorem dX4_subjectAtHand_56 : decode cX4_subjectAtHand 56 = .ok (.ldc 97, 2) := by decide +kernel
theorem dX4_subjectAtHand_58 : decode cX4_subjectAtHand 58 = .ok (.invokevirtual 86, 3) := by decide +kernel
theorem dX4_subjectAtHand_61 : decode cX4_subjectAtHand 61 = .ok (.ifCond .eq 7, 3) := by decide +kernel
theorem dX4_subjectAtHand_64 : decode cX4_subjectAtHand 64 = .ok (.iconst 5, 1) := by decide +kernel
theorem dX4_subjectAtHand_65 : decode cX4_subjectAtHand 65 = .ok (.goto 4, 3) := by decide +kernel
theorem dX4_subjectAtHand_68 : decode cX4_subjectAtHand 68 = .ok (.iconst (-1), 1) := by decide +kernel
theorem dX4_subjectAtHand_69 : decode cX4_subjectAtHand 69 = .ok (.ireturn, 1) := by decide +kernel
set_option maxRecDepth 20000 in
theorem ggX4_actAtHand_X4_isWord : GoodIn wsX4_actAtHand wsX4_isWord := goodIn_r _ [5, 6, 7, 8, 9, 10, 11, 12, 13, 14, 15, 16, 17, 18, 19, 20, 21, 22, 23, 24, 25, 26, 27, 28, 29, 30, 31, 32, 33, 34, 35, 36, 37, 38, 39, 40, 41, 42, 43, 44, 45, 46, 47, 48, 49, 50, 51, 52, 53, 54, 55, 56, 57, 58, 59, 60, 61, 62, 63, 64, 65, 66] (by decide +kernel) (by decide +kernel)
set_option maxRecDepth 20000 in
theorem gX4_actAtHand_X4_isWord : GoodIn wsX4_actAtHand (wsV RX4 86 RX4 yX4_isWord wsX4_isWord) := goodIn_app (goodIn_of _ (by decide +kernel)) ggX4_actAtHand_X4_isWord
theorem dX4_actAtHand_0 : decode cX4_actAtHand 0 = .ok (.aload_n 0, 1) := by decide +kernel
theorem dX4_actAtHand_1 : decode cX4_actAtHand 1 = .ok (.ldc 99, 2) := by decide +kernel
theorem dX4_actAtHand_3 : decode cX4_actAtHand 3 = .ok (.invokevirtual 86, 3) := by decide +kernel
theorem dX4_actAtHand_6 : decode cX4_actAtHand 6 = .ok (.ifCond .eq 5, 3) := by decide +kernel
theorem dX4_actAtHand_9 : decode cX4_actAtHand 9 = .ok (.iconst 0, 1) := by decide +kernel
theorem dX4_actAtHand_10 : decode cX4_actAtHand 10 = .ok (.ireturn, 1) := by decide +kernel
theorem dX4_actAtHand_11 : decode cX4_actAtHand 11 = .ok (.aload_n 0, 1) := by decide +kernel
theorem dX4_actAtHand_12 : decode cX4_actAtHand 12 = .ok (.ldc 101, 2) := by decide +kernel
theorem dX4_actAtHand_14 : decode cX4_actAtHand 14 = .ok (.invokevirtual 86, 3) := by decide +kernel
theorem dX4_actAtHand_17 : decode cX4_actAtHand 17 = .ok (.ifCond .eq 5, 3) := by decide +kernel
theorem dX4_actAtHand_20 : decode cX4_actAtHand 20 = .ok (.iconst 1, 1) := by decide +kernel
theorem dX4_actAtHand_21 : decode cX4_actAtHand 21 = .ok (.ireturn, 1) := by decide +kernel
theorem dX4_actAtHand_22 : decode cX4_actAtHand 22 = .ok (.aload_n 0, 1) := by decide +kernel
theorem dX4_actAtHand_23 : decode cX4_actAtHand 23 = .ok (.ldc 103, 2) := by decide +kernel
theorem dX4_actAtHand_25 : decode cX4_actAtHand 25 = .ok (.invokevirtual 86, 3) := by decide +kernel
theorem dX4_actAtHand_28 : decode cX4_actAtHand 28 = .ok (.ifCond .eq 5, 3) := by decide +kernel
theorem dX4_actAtHand_31 : decode cX4_actAtHand 31 = .ok (.iconst 2, 1) := by decide +kernel
theorem dX4_actAtHand_32 : decode cX4_actAtHand 32 = .ok (.ireturn, 1) := by decide +kernel
theorem dX4_actAtHand_33 : decode cX4_actAtHand 33 = .ok (.aload_n 0, 1) := by decide +kernel
theorem dX4_actAtHand_34 : decode cX4_actAtHand 34 = .ok (.ldc 105, 2) := by decide +kernel
theorem dX4_actAtHand_36 : decode cX4_actAtHand 36 = .ok (.invokevirtual 86, 3) := by decide +kernel
theorem dX4_actAtHand_39 : decode cX4_actAtHand 39 = .ok (.ifCond .eq 7, 3) := by decide +kernel
theorem dX4_actAtHand_42 : decode cX4_actAtHand 42 = .ok (.iconst 3, 1) := by decide +kernel
theorem dX4_actAtHand_43 : decode cX4_actAtHand 43 = .ok (.goto 4, 3) := by decide +kernel
theorem dX4_actAtHand_46 : decode cX4_actAtHand 46 = .ok (.iconst (-1), 1) := by decide +kernel
theorem dX4_actAtHand_47 : decode cX4_actAtHand 47 = .ok (.ireturn, 1) := by decide +kernel
set_option maxRecDepth 20000 in
theorem ggX4_takeWord_X4_isWord : GoodIn wsX4_takeWord wsX4_isWord := goodIn_r _ [5, 6, 7, 8, 9, 10, 11, 12, 13, 14, 15, 16, 17, 18, 19, 20, 21, 22, 23, 24, 25, 26, 27, 28, 29, 30, 31, 32, 33, 34, 35, 36, 37, 38, 39, 40, 41, 42, 43, 44, 45, 46, 47, 48, 49, 50, 51, 52, 53, 54, 55, 56, 57, 58, 67, 68, 69, 70, 71, 72, 73, 74] (by decide +kernel) (by decide +kernel)
set_option maxRecDepth 20000 in
theorem gX4_takeWord_X4_isWord : GoodIn wsX4_takeWord (wsV RX4 86 RX4 yX4_isWord wsX4_isWord) := goodIn_app (goodIn_of _ (by decide +kernel)) ggX4_takeWord_X4_isWord
set_option maxRecDepth 20000 in
theorem ggX4_takeWord_X4_advance : GoodIn wsX4_takeWord wsX4_advance := goodIn_r _ [62, 7, 8, 63, 9, 6, 64, 65, 4, 66, 67, 68, 69, 70, 71, 72, 73, 74] (by decide +kernel) (by decide +kernel)
set_option maxRecDepth 20000 in
theorem gX4_takeWord_X4_advance : GoodIn wsX4_takeWord (wsV RX4 31 RX4 yX4_advance wsX4_advance) := goodIn_app (goodIn_of _ (by decide +kernel)) ggX4_takeWord_X4_advance
theorem dX4_takeWord_0 : decode cX4_takeWord 0 = .ok (.aload_n 0, 1) := by decide +kernel
theorem dX4_takeWord_1 : decode cX4_takeWord 1 = .ok (.aload_n 1, 1) := by decide +kernel
theorem dX4_takeWord_2 : decode cX4_takeWord 2 = .ok (.invokevirtual 86, 3) := by decide +kernel
theorem dX4_takeWord_5 : decode cX4_takeWord 5 = .ok (.ifCond .ne 5, 3) := by decide +kernel
theorem dX4_takeWord_8 : decode cX4_takeWord 8 = .ok (.iconst 0, 1) := by decide +kernel
theorem dX4_takeWord_9 : decode cX4_takeWord 9 = .ok (.ireturn, 1) := by decide +kernel
theorem dX4_takeWord_10 : decode cX4_takeWord 10 = .ok (.aload_n 0, 1) := by decide +kernel
theorem dX4_takeWord_11 : decode cX4_takeWord 11 = .ok (.invokevirtual 31, 3) := by decide +kernel
theorem dX4_takeWord_14 : decode cX4_takeWord 14 = .ok (.iconst 1, 1) := by decide +kernel
theorem dX4_takeWord_15 : decode cX4_takeWord 15 = .ok (.ireturn, 1) := by decide +kernel
set_option maxRecDepth 20000 in
theorem ggX4_isWord_J0_length_8abf5 : GoodIn wsX4_isWord wsJ0_length_8abf5 := goodIn_r _ [9, 10, 11, 12, 13, 8, 14, 15, 16] (by decide +kernel) (by decide +kernel)
set_option maxRecDepth 20000 in
theorem gX4_isWord_J0_length_8abf5 : GoodIn wsX4_isWord (wsV RX4 110 RJ0 yJ0_length_8abf5 wsJ0_length_8abf5) := goodIn_app (goodIn_of _ (by decide +kernel)) ggX4_isWord_J0_length_8abf5
set_option maxRecDepth 20000 in
theorem ggX4_isWord_J0_charAt_5068e : GoodIn wsX4_isWord wsJ0_charAt_5068e := goodIn_r _ [20, 10, 21, 22, 23, 8, 24, 15, 16, 25, 26, 27, 28, 29, 30, 31, 32, 33, 34, 35, 36, 37, 38, 39, 40, 41, 42, 43, 44, 45, 46, 47, 48, 49, 50, 51, 52, 53] (by decide +kernel) (by decide +kernel)
set_option maxRecDepth 20000 in
theorem gX4_isWord_J0_charAt_5068e : GoodIn wsX4_isWord (wsV RX4 114 RJ0 yJ0_charAt_5068e wsJ0_charAt_5068e) := goodIn_app (goodIn_of _ (by decide +kernel)) ggX4_isWord_J0_charAt_5068e
theorem dX4_isWord_0 : decode cX4_isWord 0 = .ok (.aload_n 0, 1) := by decide +kernel
theorem dX4_isWord_1 : decode cX4_isWord 1 = .ok (.getfield 34, 3) := by decide +kernel
theorem dX4_isWord_4 : decode cX4_isWord 4 = .ok (.iconst 1, 1) := by decide +kernel
theorem dX4_isWord_5 : decode cX4_isWord 5 = .ok (.if_icmp .ne 19, 3) := by decide +kernel
theorem dX4_isWord_8 : decode cX4_isWord 8 = .ok (.aload_n 0, 1) := by decide +kernel
theorem dX4_isWord_9 : decode cX4_isWord 9 = .ok (.getfield 107, 3) := by decide +kernel
theorem dX4_isWord_12 : decode cX4_isWord 12 = .ok (.aload_n 0, 1) := by decide +kernel
theorem dX4_isWord_13 : decode cX4_isWord 13 = .ok (.getfield 48, 3) := by decide +kernel
theorem dX4_isWord_16 : decode cX4_isWord 16 = .ok (.isub, 1) := by decide +kernel
theorem dX4_isWord_17 : decode cX4_isWord 17 = .ok (.aload_n 1, 1) := by decide +kernel
theorem dX4_isWord_18 : decode cX4_isWord 18 = .ok (.invokevirtual 110, 3) := by decide +kernel
theorem dX4_isWord_21 : decode cX4_isWord 21 = .ok (.if_icmp .eq 5, 3) := by decide +kernel
theorem dX4_isWord_24 : decode cX4_isWord 24 = .ok (.iconst 0, 1) := by decide +kernel
theorem dX4_isWord_25 : decode cX4_isWord 25 = .ok (.ireturn, 1) := by decide +kernel
theorem dX4_isWord_26 : decode cX4_isWord 26 = .ok (.iconst 0, 1) := by decide +kernel
theorem dX4_isWord_27 : decode cX4_isWord 27 = .ok (.istore_n 2, 1) := by decide +kernel
theorem dX4_isWord_28 : decode cX4_isWord 28 = .ok (.iload_n 2, 1) := by decide +kernel
theorem dX4_isWord_29 : decode cX4_isWord 29 = .ok (.aload_n 1, 1) := by decide +kernel
theorem dX4_isWord_30 : decode cX4_isWord 30 = .ok (.invokevirtual 110, 3) := by decide +kernel
theorem dX4_isWord_33 : decode cX4_isWord 33 = .ok (.if_icmp .ge 30, 3) := by decide +kernel
theorem dX4_isWord_36 : decode cX4_isWord 36 = .ok (.aload_n 0, 1) := by decide +kernel
theorem dX4_isWord_37 : decode cX4_isWord 37 = .ok (.getfield 15, 3) := by decide +kernel
theorem dX4_isWord_40 : decode cX4_isWord 40 = .ok (.aload_n 0, 1) := by decide +kernel
theorem dX4_isWord_41 : decode cX4_isWord 41 = .ok (.getfield 48, 3) := by decide +kernel
theorem dX4_isWord_44 : decode cX4_isWord 44 = .ok (.iload_n 2, 1) := by decide +kernel
theorem dX4_isWord_45 : decode cX4_isWord 45 = .ok (.iadd, 1) := by decide +kernel
theorem dX4_isWord_46 : decode cX4_isWord 46 = .ok (.baload, 1) := by decide +kernel
theorem dX4_isWord_47 : decode cX4_isWord 47 = .ok (.aload_n 1, 1) := by decide +kernel
theorem dX4_isWord_48 : decode cX4_isWord 48 = .ok (.iload_n 2, 1) := by decide +kernel
theorem dX4_isWord_49 : decode cX4_isWord 49 = .ok (.invokevirtual 114, 3) := by decide +kernel
theorem dX4_isWord_52 : decode cX4_isWord 52 = .ok (.if_icmp .eq 5, 3) := by decide +kernel
theorem dX4_isWord_55 : decode cX4_isWord 55 = .ok (.iconst 0, 1) := by decide +kernel
theorem dX4_isWord_56 : decode cX4_isWord 56 = .ok (.ireturn, 1) := by decide +kernel
theorem dX4_isWord_57 : decode cX4_isWord 57 = .ok (.iinc 2 1, 3) := by decide +kernel
theorem dX4_isWord_60 : decode cX4_isWord 60 = .ok (.goto (-32), 3) := by decide +kernel
theorem dX4_isWord_63 : decode cX4_isWord 63 = .ok (.iconst 1, 1) := by decide +kernel
theorem dX4_isWord_64 : decode cX4_isWord 64 = .ok (.ireturn, 1) := by decide +kernel
theorem dX4_numberAtHand_0 : decode cX4_numberAtHand 0 = .ok (.iconst 0, 1) := by decide +kernel
theorem dX4_numberAtHand_1 : decode cX4_numberAtHand 1 = .ok (.istore_n 1, 1) := by decide +kernel
theorem dX4_numberAtHand_2 : decode cX4_numberAtHand 2 = .ok (.aload_n 0, 1) := by decide +kernel
theorem dX4_numberAtHand_3 : decode cX4_numberAtHand 3 = .ok (.getfield 48, 3) := by decide +kernel
theorem dX4_numberAtHand_6 : decode cX4_numberAtHand 6 = .ok (.istore_n 2, 1) := by decide +kernel
theorem dX4_numberAtHand_7 : decode cX4_numberAtHand 7 = .ok (.iload_n 2, 1) := by decide +kernel
theorem dX4_numberAtHand_8 : decode cX4_numberAtHand 8 = .ok (.aload_n 0, 1) := by decide +kernel
theorem dX4_numberAtHand_9 : decode cX4_numberAtHand 9 = .ok (.getfield 107, 3) := by decide +kernel
theorem dX4_numberAtHand_12 : decode cX4_numberAtHand 12 = .ok (.if_icmp .ge 24, 3) := by decide +kernel
theorem dX4_numberAtHand_15 : decode cX4_numberAtHand 15 = .ok (.iload_n 1, 1) := by decide +kernel
theorem dX4_numberAtHand_16 : decode cX4_numberAtHand 16 = .ok (.bipush 10, 2) := by decide +kernel
theorem dX4_numberAtHand_18 : decode cX4_numberAtHand 18 = .ok (.imul, 1) := by decide +kernel
theorem dX4_numberAtHand_19 : decode cX4_numberAtHand 19 = .ok (.aload_n 0, 1) := by decide +kernel
theorem dX4_numberAtHand_20 : decode cX4_numberAtHand 20 = .ok (.getfield 15, 3) := by decide +kernel
theorem dX4_numberAtHand_23 : decode cX4_numberAtHand 23 = .ok (.iload_n 2, 1) := by decide +kernel
theorem dX4_numberAtHand_24 : decode cX4_numberAtHand 24 = .ok (.baload, 1) := by decide +kernel
theorem dX4_numberAtHand_25 : decode cX4_numberAtHand 25 = .ok (.iadd, 1) := by decide +kernel
theorem dX4_numberAtHand_26 : decode cX4_numberAtHand 26 = .ok (.bipush 48, 2) := by decide +kernel
theorem dX4_numberAtHand_28 : decode cX4_numberAtHand 28 = .ok (.isub, 1) := by decide +kernel
theorem dX4_numberAtHand_29 : decode cX4_numberAtHand 29 = .ok (.istore_n 1, 1) := by decide +kernel
theorem dX4_numberAtHand_30 : decode cX4_numberAtHand 30 = .ok (.iinc 2 1, 3) := by decide +kernel
theorem dX4_numberAtHand_33 : decode cX4_numberAtHand 33 = .ok (.goto (-26), 3) := by decide +kernel
theorem dX4_numberAtHand_36 : decode cX4_numberAtHand 36 = .ok (.iload_n 1, 1) := by decide +kernel
theorem dX4_numberAtHand_37 : decode cX4_numberAtHand 37 = .ok (.ireturn, 1) := by decide +kernel
set_option maxRecDepth 20000 in
theorem ggX4_advance_X4_kindOf : GoodIn wsX4_advance wsX4_kindOf := goodIn_r _ [9] (by decide +kernel) (by decide +kernel)
set_option maxRecDepth 20000 in
theorem gX4_advance_X4_kindOf : GoodIn wsX4_advance (va_wsS RX4 118 yX4_kindOf wsX4_kindOf) := goodIn_app (goodIn_of _ (by decide +kernel)) ggX4_advance_X4_kindOf
theorem dX4_advance_0 : decode cX4_advance 0 = .ok (.aload_n 0, 1) := by decide +kernel
theorem dX4_advance_1 : decode cX4_advance 1 = .ok (.aload_n 0, 1) := by decide +kernel
theorem dX4_advance_2 : decode cX4_advance 2 = .ok (.getfield 107, 3) := by decide +kernel
theorem dX4_advance_5 : decode cX4_advance 5 = .ok (.putfield 48, 3) := by decide +kernel
theorem dX4_advance_8 : decode cX4_advance 8 = .ok (.aload_n 0, 1) := by decide +kernel
theorem dX4_advance_9 : decode cX4_advance 9 = .ok (.getfield 48, 3) := by decide +kernel
theorem dX4_advance_12 : decode cX4_advance 12 = .ok (.aload_n 0, 1) := by decide +kernel
theorem dX4_advance_13 : decode cX4_advance 13 = .ok (.getfield 19, 3) := by decide +kernel
theorem dX4_advance_16 : decode cX4_advance 16 = .ok (.if_icmp .ge 44, 3) := by decide +kernel
theorem dX4_advance_19 : decode cX4_advance 19 = .ok (.aload_n 0, 1) := by decide +kernel
theorem dX4_advance_20 : decode cX4_advance 20 = .ok (.getfield 15, 3) := by decide +kernel
theorem dX4_advance_23 : decode cX4_advance 23 = .ok (.aload_n 0, 1) := by decide +kernel
theorem dX4_advance_24 : decode cX4_advance 24 = .ok (.getfield 48, 3) := by decide +kernel
theorem dX4_advance_27 : decode cX4_advance 27 = .ok (.baload, 1) := by decide +kernel
theorem dX4_advance_28 : decode cX4_advance 28 = .ok (.bipush 32, 2) := by decide +kernel
theorem dX4_advance_30 : decode cX4_advance 30 = .ok (.if_icmp .eq 17, 3) := by decide +kernel
theorem dX4_advance_33 : decode cX4_advance 33 = .ok (.aload_n 0, 1) := by decide +kernel
theorem dX4_advance_34 : decode cX4_advance 34 = .ok (.getfield 15, 3) := by decide +kernel
theorem dX4_advance_37 : decode cX4_advance 37 = .ok (.aload_n 0, 1) := by decide +kernel
theorem dX4_advance_38 : decode cX4_advance 38 = .ok (.getfield 48, 3) := by decide +kernel
theorem dX4_advance_41 : decode cX4_advance 41 = .ok (.baload, 1) := by decide +kernel
theorem dX4_advance_42 : decode cX4_advance 42 = .ok (.bipush 10, 2) := by decide +kernel
theorem dX4_advance_44 : decode cX4_advance 44 = .ok (.if_icmp .ne 16, 3) := by decide +kernel
theorem dX4_advance_47 : decode cX4_advance 47 = .ok (.aload_n 0, 1) := by decide +kernel
theorem dX4_advance_48 : decode cX4_advance 48 = .ok (.dup, 1) := by decide +kernel
theorem dX4_advance_49 : decode cX4_advance 49 = .ok (.getfield 48, 3) := by decide +kernel
theorem dX4_advance_52 : decode cX4_advance 52 = .ok (.iconst 1, 1) := by decide +kernel
theorem dX4_advance_53 : decode cX4_advance 53 = .ok (.iadd, 1) := by decide +kernel
theorem dX4_advance_54 : decode cX4_advance 54 = .ok (.putfield 48, 3) := by decide +kernel
theorem dX4_advance_57 : decode cX4_advance 57 = .ok (.goto (-49), 3) := by decide +kernel
theorem dX4_advance_60 : decode cX4_advance 60 = .ok (.aload_n 0, 1) := by decide +kernel
theorem dX4_advance_61 : decode cX4_advance 61 = .ok (.aload_n 0, 1) := by decide +kernel
theorem dX4_advance_62 : decode cX4_advance 62 = .ok (.getfield 48, 3) := by decide +kernel
theorem dX4_advance_65 : decode cX4_advance 65 = .ok (.putfield 107, 3) := by decide +kernel
theorem dX4_advance_68 : decode cX4_advance 68 = .ok (.aload_n 0, 1) := by decide +kernel
theorem dX4_advance_69 : decode cX4_advance 69 = .ok (.getfield 48, 3) := by decide +kernel
theorem dX4_advance_72 : decode cX4_advance 72 = .ok (.aload_n 0, 1) := by decide +kernel
theorem dX4_advance_73 : decode cX4_advance 73 = .ok (.getfield 19, 3) := by decide +kernel
theorem dX4_advance_76 : decode cX4_advance 76 = .ok (.if_icmp .lt 9, 3) := by decide +kernel
theorem dX4_advance_79 : decode cX4_advance 79 = .ok (.aload_n 0, 1) := by decide +kernel
theorem dX4_advance_80 : decode cX4_advance 80 = .ok (.iconst 0, 1) := by decide +kernel
theorem dX4_advance_81 : decode cX4_advance 81 = .ok (.putfield 34, 3) := by decide +kernel
theorem dX4_advance_84 : decode cX4_advance 84 = .ok (.return_, 1) := by decide +kernel
theorem dX4_advance_85 : decode cX4_advance 85 = .ok (.aload_n 0, 1) := by decide +kernel
theorem dX4_advance_86 : decode cX4_advance 86 = .ok (.aload_n 0, 1) := by decide +kernel
theorem dX4_advance_87 : decode cX4_advance 87 = .ok (.getfield 15, 3) := by decide +kernel
theorem dX4_advance_90 : decode cX4_advance 90 = .ok (.aload_n 0, 1) := by decide +kernel
theorem dX4_advance_91 : decode cX4_advance 91 = .ok (.getfield 48, 3) := by decide +kernel
theorem dX4_advance_94 : decode cX4_advance 94 = .ok (.baload, 1) := by decide +kernel
theorem dX4_advance_95 : decode cX4_advance 95 = .ok (.invokestatic 118, 3) := by decide +kernel
theorem dX4_advance_98 : decode cX4_advance 98 = .ok (.putfield 34, 3) := by decide +kernel
theorem dX4_advance_101 : decode cX4_advance 101 = .ok (.aload_n 0, 1) := by decide +kernel
theorem dX4_advance_102 : decode cX4_advance 102 = .ok (.dup, 1) := by decide +kernel
theorem dX4_advance_103 : decode cX4_advance 103 = .ok (.getfield 107, 3) := by decide +kernel
theorem dX4_advance_106 : decode cX4_advance 106 = .ok (.iconst 1, 1) := by decide +kernel
theorem dX4_advance_107 : decode cX4_advance 107 = .ok (.iadd, 1) := by decide +kernel
theorem dX4_advance_108 : decode cX4_advance 108 = .ok (.putfield 107, 3) := by decide +kernel
theorem dX4_advance_111 : decode cX4_advance 111 = .ok (.aload_n 0, 1) := by decide +kernel
theorem dX4_advance_112 : decode cX4_advance 112 = .ok (.getfield 34, 3) := by decide +kernel
theorem dX4_advance_115 : decode cX4_advance 115 = .ok (.iconst 1, 1) := by decide +kernel
theorem dX4_advance_116 : decode cX4_advance 116 = .ok (.if_icmp .eq 11, 3) := by decide +kernel
theorem dX4_advance_119 : decode cX4_advance 119 = .ok (.aload_n 0, 1) := by decide +kernel
theorem dX4_advance_120 : decode cX4_advance 120 = .ok (.getfield 34, 3) := by decide +kernel
theorem dX4_advance_123 : decode cX4_advance 123 = .ok (.iconst 2, 1) := by decide +kernel
theorem dX4_advance_124 : decode cX4_advance 124 = .ok (.if_icmp .ne 7, 3) := by decide +kernel
theorem dX4_advance_127 : decode cX4_advance 127 = .ok (.iconst 1, 1) := by decide +kernel
theorem dX4_advance_128 : decode cX4_advance 128 = .ok (.goto 4, 3) := by decide +kernel
theorem dX4_advance_131 : decode cX4_advance 131 = .ok (.iconst 0, 1) := by decide +kernel
theorem dX4_advance_132 : decode cX4_advance 132 = .ok (.istore_n 1, 1) := by decide +kernel
theorem dX4_advance_133 : decode cX4_advance 133 = .ok (.iload_n 1, 1) := by decide +kernel
theorem dX4_advance_134 : decode cX4_advance 134 = .ok (.ifCond .eq 46, 3) := by decide +kernel
theorem dX4_advance_137 : decode cX4_advance 137 = .ok (.aload_n 0, 1) := by decide +kernel
theorem dX4_advance_138 : decode cX4_advance 138 = .ok (.getfield 107, 3) := by decide +kernel
theorem dX4_advance_141 : decode cX4_advance 141 = .ok (.aload_n 0, 1) := by decide +kernel
theorem dX4_advance_142 : decode cX4_advance 142 = .ok (.getfield 19, 3) := by decide +kernel
theorem dX4_advance_145 : decode cX4_advance 145 = .ok (.if_icmp .ge 35, 3) := by decide +kernel
theorem dX4_advance_148 : decode cX4_advance 148 = .ok (.aload_n 0, 1) := by decide +kernel
theorem dX4_advance_149 : decode cX4_advance 149 = .ok (.getfield 15, 3) := by decide +kernel
theorem dX4_advance_152 : decode cX4_advance 152 = .ok (.aload_n 0, 1) := by decide +kernel
theorem dX4_advance_153 : decode cX4_advance 153 = .ok (.getfield 107, 3) := by decide +kernel
theorem dX4_advance_156 : decode cX4_advance 156 = .ok (.baload, 1) := by decide +kernel
theorem dX4_advance_157 : decode cX4_advance 157 = .ok (.invokestatic 118, 3) := by decide +kernel
theorem dX4_advance_160 : decode cX4_advance 160 = .ok (.aload_n 0, 1) := by decide +kernel
theorem dX4_advance_161 : decode cX4_advance 161 = .ok (.getfield 34, 3) := by decide +kernel
theorem dX4_advance_164 : decode cX4_advance 164 = .ok (.if_icmp .ne 16, 3) := by decide +kernel
theorem dX4_advance_167 : decode cX4_advance 167 = .ok (.aload_n 0, 1) := by decide +kernel
theorem dX4_advance_168 : decode cX4_advance 168 = .ok (.dup, 1) := by decide +kernel
theorem dX4_advance_169 : decode cX4_advance 169 = .ok (.getfield 107, 3) := by decide +kernel
theorem dX4_advance_172 : decode cX4_advance 172 = .ok (.iconst 1, 1) := by decide +kernel
theorem dX4_advance_173 : decode cX4_advance 173 = .ok (.iadd, 1) := by decide +kernel
theorem dX4_advance_174 : decode cX4_advance 174 = .ok (.putfield 107, 3) := by decide +kernel
theorem dX4_advance_177 : decode cX4_advance 177 = .ok (.goto (-44), 3) := by decide +kernel
theorem dX4_advance_180 : decode cX4_advance 180 = .ok (.aload_n 0, 1) := by decide +kernel
theorem dX4_advance_181 : decode cX4_advance 181 = .ok (.getfield 34, 3) := by decide +kernel
theorem dX4_advance_184 : decode cX4_advance 184 = .ok (.iconst 2, 1) := by decide +kernel
theorem dX4_advance_185 : decode cX4_advance 185 = .ok (.if_icmp .ne 21, 3) := by decide +kernel
theorem dX4_advance_188 : decode cX4_advance 188 = .ok (.aload_n 0, 1) := by decide +kernel
theorem dX4_advance_189 : decode cX4_advance 189 = .ok (.getfield 107, 3) := by decide +kernel
theorem dX4_advance_192 : decode cX4_advance 192 = .ok (.aload_n 0, 1) := by decide +kernel
theorem dX4_advance_193 : decode cX4_advance 193 = .ok (.getfield 48, 3) := by decide +kernel
theorem dX4_advance_196 : decode cX4_advance 196 = .ok (.isub, 1) := by decide +kernel
theorem dX4_advance_197 : decode cX4_advance 197 = .ok (.iconst 4, 1) := by decide +kernel
theorem dX4_advance_198 : decode cX4_advance 198 = .ok (.if_icmp .le 8, 3) := by decide +kernel
theorem dX4_advance_201 : decode cX4_advance 201 = .ok (.aload_n 0, 1) := by decide +kernel
theorem dX4_advance_202 : decode cX4_advance 202 = .ok (.iconst 3, 1) := by decide +kernel
theorem dX4_advance_203 : decode cX4_advance 203 = .ok (.putfield 34, 3) := by decide +kernel
theorem dX4_advance_206 : decode cX4_advance 206 = .ok (.return_, 1) := by decide +kernel
theorem dX4_kindOf_0 : decode cX4_kindOf 0 = .ok (.iload_n 0, 1) := by decide +kernel
theorem dX4_kindOf_1 : decode cX4_kindOf 1 = .ok (.bipush 97, 2) := by decide +kernel
theorem dX4_kindOf_3 : decode cX4_kindOf 3 = .ok (.if_icmp .lt 11, 3) := by decide +kernel
theorem dX4_kindOf_6 : decode cX4_kindOf 6 = .ok (.iload_n 0, 1) := by decide +kernel
theorem dX4_kindOf_7 : decode cX4_kindOf 7 = .ok (.bipush 122, 2) := by decide +kernel
theorem dX4_kindOf_9 : decode cX4_kindOf 9 = .ok (.if_icmp .gt 5, 3) := by decide +kernel
theorem dX4_kindOf_12 : decode cX4_kindOf 12 = .ok (.iconst 1, 1) := by decide +kernel
theorem dX4_kindOf_13 : decode cX4_kindOf 13 = .ok (.ireturn, 1) := by decide +kernel
theorem dX4_kindOf_14 : decode cX4_kindOf 14 = .ok (.iload_n 0, 1) := by decide +kernel
theorem dX4_kindOf_15 : decode cX4_kindOf 15 = .ok (.bipush 48, 2) := by decide +kernel
theorem dX4_kindOf_17 : decode cX4_kindOf 17 = .ok (.if_icmp .lt 11, 3) := by decide +kernel
theorem dX4_kindOf_20 : decode cX4_kindOf 20 = .ok (.iload_n 0, 1) := by decide +kernel
theorem dX4_kindOf_21 : decode cX4_kindOf 21 = .ok (.bipush 57, 2) := by decide +kernel
theorem dX4_kindOf_23 : decode cX4_kindOf 23 = .ok (.if_icmp .gt 5, 3) := by decide +kernel
theorem dX4_kindOf_26 : decode cX4_kindOf 26 = .ok (.iconst 2, 1) := by decide +kernel
theorem dX4_kindOf_27 : decode cX4_kindOf 27 = .ok (.ireturn, 1) := by decide +kernel
theorem dX4_kindOf_28 : decode cX4_kindOf 28 = .ok (.iload_n 0, 1) := by decide +kernel
theorem dX4_kindOf_29 : decode cX4_kindOf 29 = .ok (.bipush 58, 2) := by decide +kernel
theorem dX4_kindOf_31 : decode cX4_kindOf 31 = .ok (.if_icmp .lt 13, 3) := by decide +kernel
theorem dX4_kindOf_34 : decode cX4_kindOf 34 = .ok (.iload_n 0, 1) := by decide +kernel
theorem dX4_kindOf_35 : decode cX4_kindOf 35 = .ok (.bipush 62, 2) := by decide +kernel
theorem dX4_kindOf_37 : decode cX4_kindOf 37 = .ok (.if_icmp .gt 7, 3) := by decide +kernel
theorem dX4_kindOf_40 : decode cX4_kindOf 40 = .ok (.iload_n 0, 1) := by decide +kernel
theorem dX4_kindOf_41 : decode cX4_kindOf 41 = .ok (.goto 4, 3) := by decide +kernel
theorem dX4_kindOf_44 : decode cX4_kindOf 44 = .ok (.iconst 3, 1) := by decide +kernel
theorem dX4_kindOf_45 : decode cX4_kindOf 45 = .ok (.ireturn, 1) := by decide +kernel
set_option maxRecDepth 20000 in
theorem ggX5_init_X0_init : GoodIn wsX5_init wsX0_init := goodIn_r _ [15, 16, 2, 3, 17, 18, 19, 20, 21, 10, 11, 22, 23, 24, 25, 26, 27, 28, 29, 30, 31, 32, 33, 34, 35, 36, 37, 38, 39, 40, 41, 42, 43, 44, 45, 46, 47, 48, 49, 50, 51, 52, 53, 54, 55, 56, 57, 58, 59, 60, 61, 62, 63, 64, 65, 66, 70, 71, 72, 73, 74, 75, 76, 77, 78, 79, 80, 81, 82, 83, 84, 85, 86, 87, 88, 89, 90, 91, 92, 93, 94, 95, 96, 97] (by decide +kernel) (by decide +kernel)
set_option maxRecDepth 20000 in
theorem gX5_init_X0_init : GoodIn wsX5_init (wsX0_init) := ggX5_init_X0_init
set_option maxRecDepth 20000 in
theorem ggX5_init_X2_init : GoodIn wsX5_init wsX2_init := goodIn_r _ [29, 30, 2, 3, 31, 32, 33, 34, 35, 36, 37, 38, 39, 70, 71, 72, 73, 74, 75, 76, 77] (by decide +kernel) (by decide +kernel)
set_option maxRecDepth 20000 in
theorem gX5_init_X2_init_n22 : GoodIn wsX5_init (wsX2_init) := ggX5_init_X2_init
theorem dX5_init_0 : decode cX5_init 0 = .ok (.aload_n 0, 1) := by decide +kernel
theorem dX5_init_1 : decode cX5_init 1 = .ok (.invokespecial 3, 3) := by decide +kernel
theorem dX5_init_4 : decode cX5_init 4 = .ok (.aload_n 0, 1) := by decide +kernel
theorem dX5_init_5 : decode cX5_init 5 = .ok (.new 9, 3) := by decide +kernel
theorem dX5_init_8 : decode cX5_init 8 = .ok (.dup, 1) := by decide +kernel
theorem dX5_init_9 : decode cX5_init 9 = .ok (.invokespecial 11, 3) := by decide +kernel
theorem dX5_init_12 : decode cX5_init 12 = .ok (.putfield 12, 3) := by decide +kernel
theorem dX5_init_15 : decode cX5_init 15 = .ok (.aload_n 0, 1) := by decide +kernel
theorem dX5_init_16 : decode cX5_init 16 = .ok (.iconst 3, 1) := by decide +kernel
theorem dX5_init_17 : decode cX5_init 17 = .ok (.anewarray 9, 3) := by decide +kernel
theorem dX5_init_20 : decode cX5_init 20 = .ok (.putfield 16, 3) := by decide +kernel
theorem dX5_init_23 : decode cX5_init 23 = .ok (.aload_n 0, 1) := by decide +kernel
theorem dX5_init_24 : decode cX5_init 24 = .ok (.new 20, 3) := by decide +kernel
theorem dX5_init_27 : decode cX5_init 27 = .ok (.dup, 1) := by decide +kernel
theorem dX5_init_28 : decode cX5_init 28 = .ok (.invokespecial 22, 3) := by decide +kernel
theorem dX5_init_31 : decode cX5_init 31 = .ok (.putfield 23, 3) := by decide +kernel
theorem dX5_init_34 : decode cX5_init 34 = .ok (.return_, 1) := by decide +kernel
set_option maxRecDepth 20000 in
theorem ggX5_fund_X0_paidInAll : GoodIn wsX5_fund wsX0_paidInAll := goodIn_r _ [9, 10, 11, 12, 16, 17, 18, 19, 20, 21, 22, 23, 24, 25, 26, 27, 28, 29, 30, 31, 32, 33, 34, 35, 36, 37, 38, 39, 40, 41, 42, 43, 44, 45] (by decide +kernel) (by decide +kernel)
set_option maxRecDepth 20000 in
theorem gX5_fund_X0_paidInAll : GoodIn wsX5_fund (wsV RX5 33 RX0 yX0_paidInAll wsX0_paidInAll) := goodIn_app (goodIn_of _ (by decide +kernel)) ggX5_fund_X0_paidInAll
theorem dX5_fund_0 : decode cX5_fund 0 = .ok (.aload_n 0, 1) := by decide +kernel
theorem dX5_fund_1 : decode cX5_fund 1 = .ok (.getfield 12, 3) := by decide +kernel
theorem dX5_fund_4 : decode cX5_fund 4 = .ok (.getfield 27, 3) := by decide +kernel
theorem dX5_fund_7 : decode cX5_fund 7 = .ok (.ifCond .ne 29, 3) := by decide +kernel
theorem dX5_fund_10 : decode cX5_fund 10 = .ok (.lload_n 1, 1) := by decide +kernel
theorem dX5_fund_11 : decode cX5_fund 11 = .ok (.lconst 1, 1) := by decide +kernel
theorem dX5_fund_12 : decode cX5_fund 12 = .ok (.lcmp, 1) := by decide +kernel
theorem dX5_fund_13 : decode cX5_fund 13 = .ok (.ifCond .lt 23, 3) := by decide +kernel
theorem dX5_fund_16 : decode cX5_fund 16 = .ok (.lload_n 1, 1) := by decide +kernel
theorem dX5_fund_17 : decode cX5_fund 17 = .ok (.ldc2_w 31, 3) := by decide +kernel
theorem dX5_fund_20 : decode cX5_fund 20 = .ok (.lcmp, 1) := by decide +kernel
theorem dX5_fund_21 : decode cX5_fund 21 = .ok (.ifCond .gt 15, 3) := by decide +kernel
theorem dX5_fund_24 : decode cX5_fund 24 = .ok (.aload_n 0, 1) := by decide +kernel
theorem dX5_fund_25 : decode cX5_fund 25 = .ok (.getfield 12, 3) := by decide +kernel
theorem dX5_fund_28 : decode cX5_fund 28 = .ok (.invokevirtual 33, 3) := by decide +kernel
theorem dX5_fund_31 : decode cX5_fund 31 = .ok (.lconst 0, 1) := by decide +kernel
theorem dX5_fund_32 : decode cX5_fund 32 = .ok (.lcmp, 1) := by decide +kernel
theorem dX5_fund_33 : decode cX5_fund 33 = .ok (.ifCond .le 5, 3) := by decide +kernel
theorem dX5_fund_36 : decode cX5_fund 36 = .ok (.iconst 0, 1) := by decide +kernel
theorem dX5_fund_37 : decode cX5_fund 37 = .ok (.ireturn, 1) := by decide +kernel
theorem dX5_fund_38 : decode cX5_fund 38 = .ok (.aload_n 0, 1) := by decide +kernel
theorem dX5_fund_39 : decode cX5_fund 39 = .ok (.getfield 12, 3) := by decide +kernel
theorem dX5_fund_42 : decode cX5_fund 42 = .ok (.lload_n 1, 1) := by decide +kernel
theorem dX5_fund_43 : decode cX5_fund 43 = .ok (.putfield 37, 3) := by decide +kernel
theorem dX5_fund_46 : decode cX5_fund 46 = .ok (.iconst 1, 1) := by decide +kernel
theorem dX5_fund_47 : decode cX5_fund 47 = .ok (.ireturn, 1) := by decide +kernel
set_option maxRecDepth 20000 in
theorem ggX5_feed_X0_addBytes : GoodIn wsX5_feed wsX0_addBytes := goodIn_r _ [7, 8, 9, 13, 14, 15, 16, 17, 18, 19, 20, 21, 22] (by decide +kernel) (by decide +kernel)
set_option maxRecDepth 20000 in
theorem gX5_feed_X0_addBytes : GoodIn wsX5_feed (wsV RX5 45 RX0 yX0_addBytes wsX0_addBytes) := goodIn_app (goodIn_of _ (by decide +kernel)) ggX5_feed_X0_addBytes
theorem dX5_feed_0 : decode cX5_feed 0 = .ok (.aload_n 0, 1) := by decide +kernel
theorem dX5_feed_1 : decode cX5_feed 1 = .ok (.getfield 12, 3) := by decide +kernel
theorem dX5_feed_4 : decode cX5_feed 4 = .ok (.getfield 41, 3) := by decide +kernel
theorem dX5_feed_7 : decode cX5_feed 7 = .ok (.sipush 380, 3) := by decide +kernel
theorem dX5_feed_10 : decode cX5_feed 10 = .ok (.if_icmp .le 5, 3) := by decide +kernel
theorem dX5_feed_13 : decode cX5_feed 13 = .ok (.iconst (-1), 1) := by decide +kernel
theorem dX5_feed_14 : decode cX5_feed 14 = .ok (.ireturn, 1) := by decide +kernel
theorem dX5_feed_15 : decode cX5_feed 15 = .ok (.aload_n 0, 1) := by decide +kernel
theorem dX5_feed_16 : decode cX5_feed 16 = .ok (.getfield 12, 3) := by decide +kernel
theorem dX5_feed_19 : decode cX5_feed 19 = .ok (.iload_n 1, 1) := by decide +kernel
theorem dX5_feed_20 : decode cX5_feed 20 = .ok (.invokevirtual 45, 3) := by decide +kernel
theorem dX5_feed_23 : decode cX5_feed 23 = .ok (.aload_n 0, 1) := by decide +kernel
theorem dX5_feed_24 : decode cX5_feed 24 = .ok (.getfield 12, 3) := by decide +kernel
theorem dX5_feed_27 : decode cX5_feed 27 = .ok (.iload_n 2, 1) := by decide +kernel
theorem dX5_feed_28 : decode cX5_feed 28 = .ok (.invokevirtual 45, 3) := by decide +kernel
theorem dX5_feed_31 : decode cX5_feed 31 = .ok (.aload_n 0, 1) := by decide +kernel
theorem dX5_feed_32 : decode cX5_feed 32 = .ok (.getfield 12, 3) := by decide +kernel
theorem dX5_feed_35 : decode cX5_feed 35 = .ok (.iload_n 3, 1) := by decide +kernel
theorem dX5_feed_36 : decode cX5_feed 36 = .ok (.invokevirtual 45, 3) := by decide +kernel
theorem dX5_feed_39 : decode cX5_feed 39 = .ok (.aload_n 0, 1) := by decide +kernel
theorem dX5_feed_40 : decode cX5_feed 40 = .ok (.getfield 12, 3) := by decide +kernel
theorem dX5_feed_43 : decode cX5_feed 43 = .ok (.iload 4, 2) := by decide +kernel
theorem dX5_feed_45 : decode cX5_feed 45 = .ok (.invokevirtual 45, 3) := by decide +kernel
theorem dX5_feed_48 : decode cX5_feed 48 = .ok (.aload_n 0, 1) := by decide +kernel
theorem dX5_feed_49 : decode cX5_feed 49 = .ok (.getfield 12, 3) := by decide +kernel
theorem dX5_feed_52 : decode cX5_feed 52 = .ok (.iload 5, 2) := by decide +kernel
theorem dX5_feed_54 : decode cX5_feed 54 = .ok (.invokevirtual 45, 3) := by decide +kernel
theorem dX5_feed_57 : decode cX5_feed 57 = .ok (.aload_n 0, 1) := by decide +kernel
theorem dX5_feed_58 : decode cX5_feed 58 = .ok (.getfield 12, 3) := by decide +kernel
theorem dX5_feed_61 : decode cX5_feed 61 = .ok (.getfield 41, 3) := by decide +kernel
theorem dX5_feed_64 : decode cX5_feed 64 = .ok (.ireturn, 1) := by decide +kernel
theorem dX5_end_0 : decode cX5_end 0 = .ok (.iload_n 1, 1) := by decide +kernel
theorem dX5_end_1 : decode cX5_end 1 = .ok (.ifCond .lt 14, 3) := by decide +kernel
theorem dX5_end_4 : decode cX5_end 4 = .ok (.iload_n 1, 1) := by decide +kernel
theorem dX5_end_5 : decode cX5_end 5 = .ok (.aload_n 0, 1) := by decide +kernel
theorem dX5_end_6 : decode cX5_end 6 = .ok (.getfield 12, 3) := by decide +kernel
theorem dX5_end_9 : decode cX5_end 9 = .ok (.getfield 41, 3) := by decide +kernel
theorem dX5_end_12 : decode cX5_end 12 = .ok (.if_icmp .le 5, 3) := by decide +kernel
theorem dX5_end_15 : decode cX5_end 15 = .ok (.iconst (-1), 1) := by decide +kernel
theorem dX5_end_16 : decode cX5_end 16 = .ok (.ireturn, 1) := by decide +kernel
theorem dX5_end_17 : decode cX5_end 17 = .ok (.aload_n 0, 1) := by decide +kernel
theorem dX5_end_18 : decode cX5_end 18 = .ok (.getfield 12, 3) := by decide +kernel
theorem dX5_end_21 : decode cX5_end 21 = .ok (.iload_n 1, 1) := by decide +kernel
theorem dX5_end_22 : decode cX5_end 22 = .ok (.putfield 41, 3) := by decide +kernel
theorem dX5_end_25 : decode cX5_end 25 = .ok (.iload_n 1, 1) := by decide +kernel
theorem dX5_end_26 : decode cX5_end 26 = .ok (.ireturn, 1) := by decide +kernel
set_option maxRecDepth 20000 in
theorem ggX5_grid_X0_setFault : GoodIn wsX5_grid wsX0_setFault := goodIn_r _ [15, 16, 17, 225, 226, 227, 228, 229, 230, 231, 232, 233, 234] (by decide +kernel) (by decide +kernel)
set_option maxRecDepth 20000 in
theorem gX5_grid_X0_setFault : GoodIn wsX5_grid (wsV RX5 49 RX0 yX0_setFault wsX0_setFault) := goodIn_app (goodIn_of _ (by decide +kernel)) ggX5_grid_X0_setFault
set_option maxRecDepth 20000 in
theorem ggX5_grid_X4_init : GoodIn wsX5_grid wsX4_init := goodIn_r _ [20, 21, 22, 23, 24, 25, 26, 27, 235, 236, 237, 238, 239, 240, 241, 242] (by decide +kernel) (by decide +kernel)
set_option maxRecDepth 20000 in
theorem gX5_grid_X4_init : GoodIn wsX5_grid (wsX4_init) := ggX5_grid_X4_init
set_option maxRecDepth 20000 in
theorem ggX5_grid_X4_read : GoodIn wsX5_grid wsX4_read := goodIn_r _ [31, 27, 26, 32, 33, 34, 24, 35, 36, 37, 38, 39, 40, 41, 42, 43, 44, 6, 45, 46, 25, 47, 48, 49, 50, 51, 52, 53, 54, 55, 56, 57, 58, 59, 60, 61, 62, 63, 64, 65, 66, 67, 68, 69, 70, 71, 72, 73, 74, 75, 76, 77, 78, 79, 80, 81, 82, 83, 84, 85, 86, 87, 88, 89, 90, 91, 92, 93, 94, 95, 96, 97, 98, 99, 100, 101, 102, 103, 104, 105, 106, 107, 108, 109, 110, 111, 112, 113, 114, 115, 116, 117, 118, 119, 120, 121, 122, 123, 124, 125, 126, 127, 128, 129, 130, 131, 132, 133, 134, 135, 136, 137, 138, 139, 140, 141, 142, 143, 144, 145, 146, 147, 148, 235, 236, 237, 238, 239, 240, 241, 242, 243, 244, 245, 246, 247, 248, 249, 250] (by decide +kernel) (by decide +kernel)
set_option maxRecDepth 20000 in
theorem gX5_grid_X4_read : GoodIn wsX5_grid (wsV RX5 62 RX4 yX4_read wsX4_read) := goodIn_app (goodIn_of _ (by decide +kernel)) ggX5_grid_X4_read
set_option maxRecDepth 20000 in
theorem ggX5_grid_X0_useRules : GoodIn wsX5_grid wsX0_useRules := goodIn_r _ [152, 153, 154, 155, 156, 157, 158, 159, 160, 161, 162, 163, 164, 165, 166, 167, 168, 169, 170, 171, 172, 173, 174, 175, 176, 177, 38, 178, 40, 147, 179, 180, 181, 182, 41, 131, 133, 132, 134, 183, 184, 185, 186, 187, 188, 189, 190, 191, 192, 193, 194, 195, 196, 197, 198, 199, 148, 200, 201, 202, 203, 204, 225, 226, 227, 228, 229, 230, 231, 232, 233, 234, 251, 252, 253, 254, 255, 256, 257, 258, 259, 243, 244, 245, 246, 247, 248, 249, 250] (by decide +kernel) (by decide +kernel)
set_option maxRecDepth 20000 in
theorem gX5_grid_X0_useRules : GoodIn wsX5_grid (wsV RX5 74 RX0 yX0_useRules wsX0_useRules) := goodIn_app (goodIn_of _ (by decide +kernel)) ggX5_grid_X0_useRules
set_option maxRecDepth 20000 in
theorem ggX5_grid_X0_holds : GoodIn wsX5_grid wsX0_holds := goodIn_r _ [208, 154, 209, 210, 211, 212, 213, 214, 14, 215, 216, 217, 218, 219, 220, 221, 225, 226, 227, 228, 229, 230, 231, 232, 233, 234, 251, 252, 253, 254, 255, 256, 257, 258, 259, 260, 261, 262, 263, 264, 265, 266, 267, 268, 269, 270] (by decide +kernel) (by decide +kernel)
set_option maxRecDepth 20000 in
theorem gX5_grid_X0_holds : GoodIn wsX5_grid (wsV RX5 78 RX0 yX0_holds wsX0_holds) := goodIn_app (goodIn_of _ (by decide +kernel)) ggX5_grid_X0_holds
theorem dX5_grid_0 : decode cX5_grid 0 = .ok (.aload_n 0, 1) := by decide +kernel
theorem dX5_grid_1 : decode cX5_grid 1 = .ok (.getfield 12, 3) := by decide +kernel
theorem dX5_grid_4 : decode cX5_grid 4 = .ok (.getfield 41, 3) := by decide +kernel
theorem dX5_grid_7 : decode cX5_grid 7 = .ok (.istore_n 1, 1) := by decide +kernel
theorem dX5_grid_8 : decode cX5_grid 8 = .ok (.aload_n 0, 1) := by decide +kernel
theorem dX5_grid_9 : decode cX5_grid 9 = .ok (.getfield 12, 3) := by decide +kernel
theorem dX5_grid_12 : decode cX5_grid 12 = .ok (.iconst 0, 1) := by decide +kernel
theorem dX5_grid_13 : decode cX5_grid 13 = .ok (.putfield 41, 3) := by decide +kernel
theorem dX5_grid_16 : decode cX5_grid 16 = .ok (.aload_n 0, 1) := by decide +kernel
theorem dX5_grid_17 : decode cX5_grid 17 = .ok (.getfield 12, 3) := by decide +kernel
theorem dX5_grid_20 : decode cX5_grid 20 = .ok (.iconst 0, 1) := by decide +kernel
theorem dX5_grid_21 : decode cX5_grid 21 = .ok (.iconst (-1), 1) := by decide +kernel
theorem dX5_grid_22 : decode cX5_grid 22 = .ok (.invokevirtual 49, 3) := by decide +kernel
theorem dX5_grid_25 : decode cX5_grid 25 = .ok (.aload_n 0, 1) := by decide +kernel
theorem dX5_grid_26 : decode cX5_grid 26 = .ok (.getfield 12, 3) := by decide +kernel
theorem dX5_grid_29 : decode cX5_grid 29 = .ok (.getfield 27, 3) := by decide +kernel
theorem dX5_grid_32 : decode cX5_grid 32 = .ok (.ifCond .eq 6, 3) := by decide +kernel
theorem dX5_grid_35 : decode cX5_grid 35 = .ok (.bipush (-2), 2) := by decide +kernel
theorem dX5_grid_37 : decode cX5_grid 37 = .ok (.ireturn, 1) := by decide +kernel
theorem dX5_grid_38 : decode cX5_grid 38 = .ok (.new 53, 3) := by decide +kernel
theorem dX5_grid_41 : decode cX5_grid 41 = .ok (.dup, 1) := by decide +kernel
theorem dX5_grid_42 : decode cX5_grid 42 = .ok (.aload_n 0, 1) := by decide +kernel
theorem dX5_grid_43 : decode cX5_grid 43 = .ok (.getfield 12, 3) := by decide +kernel
theorem dX5_grid_46 : decode cX5_grid 46 = .ok (.getfield 55, 3) := by decide +kernel
theorem dX5_grid_49 : decode cX5_grid 49 = .ok (.iload_n 1, 1) := by decide +kernel
theorem dX5_grid_50 : decode cX5_grid 50 = .ok (.aload_n 0, 1) := by decide +kernel
theorem dX5_grid_51 : decode cX5_grid 51 = .ok (.getfield 23, 3) := by decide +kernel
theorem dX5_grid_54 : decode cX5_grid 54 = .ok (.invokespecial 59, 3) := by decide +kernel
theorem dX5_grid_57 : decode cX5_grid 57 = .ok (.astore_n 2, 1) := by decide +kernel
theorem dX5_grid_58 : decode cX5_grid 58 = .ok (.aload_n 2, 1) := by decide +kernel
theorem dX5_grid_59 : decode cX5_grid 59 = .ok (.invokevirtual 62, 3) := by decide +kernel
theorem dX5_grid_62 : decode cX5_grid 62 = .ok (.aload_n 2, 1) := by decide +kernel
theorem dX5_grid_63 : decode cX5_grid 63 = .ok (.getfield 65, 3) := by decide +kernel
theorem dX5_grid_66 : decode cX5_grid 66 = .ok (.ifCond .eq 20, 3) := by decide +kernel
theorem dX5_grid_69 : decode cX5_grid 69 = .ok (.aload_n 0, 1) := by decide +kernel
theorem dX5_grid_70 : decode cX5_grid 70 = .ok (.getfield 12, 3) := by decide +kernel
theorem dX5_grid_73 : decode cX5_grid 73 = .ok (.aload_n 2, 1) := by decide +kernel
theorem dX5_grid_74 : decode cX5_grid 74 = .ok (.getfield 65, 3) := by decide +kernel
theorem dX5_grid_77 : decode cX5_grid 77 = .ok (.aload_n 2, 1) := by decide +kernel
theorem dX5_grid_78 : decode cX5_grid 78 = .ok (.getfield 68, 3) := by decide +kernel
theorem dX5_grid_81 : decode cX5_grid 81 = .ok (.invokevirtual 49, 3) := by decide +kernel
theorem dX5_grid_84 : decode cX5_grid 84 = .ok (.iconst (-1), 1) := by decide +kernel
theorem dX5_grid_85 : decode cX5_grid 85 = .ok (.ireturn, 1) := by decide +kernel
theorem dX5_grid_86 : decode cX5_grid 86 = .ok (.aload_n 0, 1) := by decide +kernel
theorem dX5_grid_87 : decode cX5_grid 87 = .ok (.getfield 12, 3) := by decide +kernel
theorem dX5_grid_90 : decode cX5_grid 90 = .ok (.getfield 71, 3) := by decide +kernel
theorem dX5_grid_93 : decode cX5_grid 93 = .ok (.astore_n 3, 1) := by decide +kernel
theorem dX5_grid_94 : decode cX5_grid 94 = .ok (.aload_n 0, 1) := by decide +kernel
theorem dX5_grid_95 : decode cX5_grid 95 = .ok (.getfield 12, 3) := by decide +kernel
theorem dX5_grid_98 : decode cX5_grid 98 = .ok (.aload_n 0, 1) := by decide +kernel
theorem dX5_grid_99 : decode cX5_grid 99 = .ok (.getfield 23, 3) := by decide +kernel
theorem dX5_grid_102 : decode cX5_grid 102 = .ok (.invokevirtual 74, 3) := by decide +kernel
theorem dX5_grid_105 : decode cX5_grid 105 = .ok (.aload_n 0, 1) := by decide +kernel
theorem dX5_grid_106 : decode cX5_grid 106 = .ok (.getfield 12, 3) := by decide +kernel
theorem dX5_grid_109 : decode cX5_grid 109 = .ok (.invokevirtual 78, 3) := by decide +kernel
theorem dX5_grid_112 : decode cX5_grid 112 = .ok (.ifCond .ne 14, 3) := by decide +kernel
theorem dX5_grid_115 : decode cX5_grid 115 = .ok (.aload_n 0, 1) := by decide +kernel
theorem dX5_grid_116 : decode cX5_grid 116 = .ok (.getfield 12, 3) := by decide +kernel
theorem dX5_grid_119 : decode cX5_grid 119 = .ok (.aload_n 3, 1) := by decide +kernel
theorem dX5_grid_120 : decode cX5_grid 120 = .ok (.invokevirtual 74, 3) := by decide +kernel
theorem dX5_grid_123 : decode cX5_grid 123 = .ok (.bipush (-2), 2) := by decide +kernel
theorem dX5_grid_125 : decode cX5_grid 125 = .ok (.ireturn, 1) := by decide +kernel
theorem dX5_grid_126 : decode cX5_grid 126 = .ok (.aload_n 0, 1) := by decide +kernel
theorem dX5_grid_127 : decode cX5_grid 127 = .ok (.aload_n 3, 1) := by decide +kernel
theorem dX5_grid_128 : decode cX5_grid 128 = .ok (.putfield 23, 3) := by decide +kernel
theorem dX5_grid_131 : decode cX5_grid 131 = .ok (.aload_n 0, 1) := by decide +kernel
theorem dX5_grid_132 : decode cX5_grid 132 = .ok (.getfield 12, 3) := by decide +kernel
theorem dX5_grid_135 : decode cX5_grid 135 = .ok (.getfield 71, 3) := by decide +kernel
theorem dX5_grid_138 : decode cX5_grid 138 = .ok (.getfield 82, 3) := by decide +kernel
theorem dX5_grid_141 : decode cX5_grid 141 = .ok (.ireturn, 1) := by decide +kernel
theorem dX5_fault_0 : decode cX5_fault 0 = .ok (.iload_n 1, 1) := by decide +kernel
theorem dX5_fault_1 : decode cX5_fault 1 = .ok (.ifCond .ne 11, 3) := by decide +kernel
theorem dX5_fault_4 : decode cX5_fault 4 = .ok (.aload_n 0, 1) := by decide +kernel
theorem dX5_fault_5 : decode cX5_fault 5 = .ok (.getfield 12, 3) := by decide +kernel
theorem dX5_fault_8 : decode cX5_fault 8 = .ok (.getfield 85, 3) := by decide +kernel
theorem dX5_fault_11 : decode cX5_fault 11 = .ok (.ireturn, 1) := by decide +kernel
theorem dX5_fault_12 : decode cX5_fault 12 = .ok (.iload_n 1, 1) := by decide +kernel
theorem dX5_fault_13 : decode cX5_fault 13 = .ok (.iconst 1, 1) := by decide +kernel
theorem dX5_fault_14 : decode cX5_fault 14 = .ok (.if_icmp .ne 13, 3) := by decide +kernel
theorem dX5_fault_17 : decode cX5_fault 17 = .ok (.aload_n 0, 1) := by decide +kernel
theorem dX5_fault_18 : decode cX5_fault 18 = .ok (.getfield 12, 3) := by decide +kernel
theorem dX5_fault_21 : decode cX5_fault 21 = .ok (.getfield 86, 3) := by decide +kernel
theorem dX5_fault_24 : decode cX5_fault 24 = .ok (.goto 4, 3) := by decide +kernel
theorem dX5_fault_27 : decode cX5_fault 27 = .ok (.iconst (-1), 1) := by decide +kernel
theorem dX5_fault_28 : decode cX5_fault 28 = .ok (.ireturn, 1) := by decide +kernel
set_option maxRecDepth 20000 in
theorem ggX5_claim_X5_areFacts : GoodIn wsX5_claim wsX5_areFacts := goodIn_r _ [6] (by decide +kernel) (by decide +kernel)
set_option maxRecDepth 20000 in
theorem gX5_claim_X5_areFacts : GoodIn wsX5_claim (va_wsS RX5 87 yX5_areFacts wsX5_areFacts) := goodIn_app (goodIn_of _ (by decide +kernel)) ggX5_claim_X5_areFacts
set_option maxRecDepth 20000 in
theorem ggX5_claim_X0_admit : GoodIn wsX5_claim wsX0_admit := goodIn_r _ [11, 12, 13, 14, 15, 16, 17, 18, 19, 20, 21, 22, 23, 24, 25, 26, 27, 28, 29, 30, 31, 32, 33, 34, 35, 36, 37, 38, 39, 40, 41, 42, 43, 44, 45, 46, 47, 48, 49, 50, 51, 52, 53, 54, 55, 56, 57, 58, 59, 60, 61, 62, 63, 64, 65, 66, 67, 68, 69, 70, 71, 72, 73, 74, 75, 76, 77, 78, 79, 80, 81, 10, 82, 83, 84, 85, 86, 87, 88, 89, 90, 91, 92, 93, 94, 95, 96, 97, 98, 99, 103, 104, 105, 106, 107, 108, 109, 110, 111, 112, 113, 114, 115, 116, 117, 118, 119, 120, 121, 122, 123, 124, 125, 126, 127, 128, 129, 130, 131, 132, 133, 134, 135, 136, 137, 138, 139, 140] (by decide +kernel) (by decide +kernel)
set_option maxRecDepth 20000 in
theorem gX5_claim_X0_admit : GoodIn wsX5_claim (wsV RX5 91 RX0 yX0_admit wsX0_admit) := goodIn_app (goodIn_of _ (by decide +kernel)) ggX5_claim_X0_admit
theorem dX5_claim_0 : decode cX5_claim 0 = .ok (.aload_n 0, 1) := by decide +kernel
theorem dX5_claim_1 : decode cX5_claim 1 = .ok (.getfield 12, 3) := by decide +kernel
theorem dX5_claim_4 : decode cX5_claim 4 = .ok (.getfield 27, 3) := by decide +kernel
theorem dX5_claim_7 : decode cX5_claim 7 = .ok (.ifCond .ne 25, 3) := by decide +kernel
theorem dX5_claim_10 : decode cX5_claim 10 = .ok (.iload_n 1, 1) := by decide +kernel
theorem dX5_claim_11 : decode cX5_claim 11 = .ok (.ifCond .lt 21, 3) := by decide +kernel
theorem dX5_claim_14 : decode cX5_claim 14 = .ok (.iload_n 1, 1) := by decide +kernel
theorem dX5_claim_15 : decode cX5_claim 15 = .ok (.bipush 99, 2) := by decide +kernel
theorem dX5_claim_17 : decode cX5_claim 17 = .ok (.if_icmp .gt 15, 3) := by decide +kernel
theorem dX5_claim_20 : decode cX5_claim 20 = .ok (.iload_n 2, 1) := by decide +kernel
theorem dX5_claim_21 : decode cX5_claim 21 = .ok (.iload_n 3, 1) := by decide +kernel
theorem dX5_claim_22 : decode cX5_claim 22 = .ok (.iload 4, 2) := by decide +kernel
theorem dX5_claim_24 : decode cX5_claim 24 = .ok (.iload 5, 2) := by decide +kernel
theorem dX5_claim_26 : decode cX5_claim 26 = .ok (.invokestatic 87, 3) := by decide +kernel
theorem dX5_claim_29 : decode cX5_claim 29 = .ok (.ifCond .ne 5, 3) := by decide +kernel
theorem dX5_claim_32 : decode cX5_claim 32 = .ok (.iconst (-1), 1) := by decide +kernel
theorem dX5_claim_33 : decode cX5_claim 33 = .ok (.ireturn, 1) := by decide +kernel
theorem dX5_claim_34 : decode cX5_claim 34 = .ok (.aload_n 0, 1) := by decide +kernel
theorem dX5_claim_35 : decode cX5_claim 35 = .ok (.getfield 12, 3) := by decide +kernel
theorem dX5_claim_38 : decode cX5_claim 38 = .ok (.iload_n 1, 1) := by decide +kernel
theorem dX5_claim_39 : decode cX5_claim 39 = .ok (.iload_n 2, 1) := by decide +kernel
theorem dX5_claim_40 : decode cX5_claim 40 = .ok (.iload_n 3, 1) := by decide +kernel
theorem dX5_claim_41 : decode cX5_claim 41 = .ok (.iload 4, 2) := by decide +kernel
theorem dX5_claim_43 : decode cX5_claim 43 = .ok (.iload 5, 2) := by decide +kernel
theorem dX5_claim_45 : decode cX5_claim 45 = .ok (.invokevirtual 91, 3) := by decide +kernel
theorem dX5_claim_48 : decode cX5_claim 48 = .ok (.ireturn, 1) := by decide +kernel
set_option maxRecDepth 20000 in
theorem ggX5_paper_X0_claimAt : GoodIn wsX5_paper wsX0_claimAt := goodIn_r _ [9, 10, 11, 78, 79, 80, 81, 82, 83, 84, 85, 86, 87] (by decide +kernel) (by decide +kernel)
set_option maxRecDepth 20000 in
theorem gX5_paper_X0_claimAt : GoodIn wsX5_paper (wsV RX5 95 RX0 yX0_claimAt wsX0_claimAt) := goodIn_app (goodIn_of _ (by decide +kernel)) ggX5_paper_X0_claimAt
set_option maxRecDepth 20000 in
theorem ggX5_paper_X1_mayBring : GoodIn wsX5_paper wsX1_mayBring := goodIn_r _ [16, 17, 18, 88, 89, 90, 91, 92, 93, 94, 95, 96] (by decide +kernel) (by decide +kernel)
set_option maxRecDepth 20000 in
theorem gX5_paper_X1_mayBring : GoodIn wsX5_paper (wsV RX5 99 RX1 yX1_mayBring wsX1_mayBring) := goodIn_app (goodIn_of _ (by decide +kernel)) ggX5_paper_X1_mayBring
set_option maxRecDepth 20000 in
theorem ggX5_paper_X1_measure : GoodIn wsX5_paper wsX1_measure := goodIn_r _ [22, 17, 23, 24, 25, 18, 26, 27, 28, 29, 30, 31, 32, 33, 34, 35, 36, 37, 38, 39, 40, 41, 42, 43, 44, 45, 46, 47, 48, 49, 50, 51, 52, 53, 54, 55, 56, 57, 58, 59, 60, 61, 62, 63, 64, 65, 66, 67, 68, 69, 70, 71, 72, 73, 74, 88, 89, 90, 91, 92, 93, 94, 95, 96, 97, 98, 99, 100, 101, 102, 103, 104] (by decide +kernel) (by decide +kernel)
set_option maxRecDepth 20000 in
theorem gX5_paper_X1_measure : GoodIn wsX5_paper (wsV RX5 108 RX1 yX1_measure wsX1_measure) := goodIn_app (goodIn_of _ (by decide +kernel)) ggX5_paper_X1_measure
theorem dX5_paper_0 : decode cX5_paper 0 = .ok (.aload_n 0, 1) := by decide +kernel
theorem dX5_paper_1 : decode cX5_paper 1 = .ok (.getfield 12, 3) := by decide +kernel
theorem dX5_paper_4 : decode cX5_paper 4 = .ok (.iload_n 1, 1) := by decide +kernel
theorem dX5_paper_5 : decode cX5_paper 5 = .ok (.invokevirtual 95, 3) := by decide +kernel
theorem dX5_paper_8 : decode cX5_paper 8 = .ok (.astore_n 3, 1) := by decide +kernel
theorem dX5_paper_9 : decode cX5_paper 9 = .ok (.aload_n 0, 1) := by decide +kernel
theorem dX5_paper_10 : decode cX5_paper 10 = .ok (.getfield 12, 3) := by decide +kernel
theorem dX5_paper_13 : decode cX5_paper 13 = .ok (.getfield 27, 3) := by decide +kernel
theorem dX5_paper_16 : decode cX5_paper 16 = .ok (.ifCond .ne 15, 3) := by decide +kernel
theorem dX5_paper_19 : decode cX5_paper 19 = .ok (.aload_n 3, 1) := by decide +kernel
theorem dX5_paper_20 : decode cX5_paper 20 = .ok (.ifnull 11, 3) := by decide +kernel
theorem dX5_paper_23 : decode cX5_paper 23 = .ok (.aload_n 3, 1) := by decide +kernel
theorem dX5_paper_24 : decode cX5_paper 24 = .ok (.iload_n 2, 1) := by decide +kernel
theorem dX5_paper_25 : decode cX5_paper 25 = .ok (.invokevirtual 99, 3) := by decide +kernel
theorem dX5_paper_28 : decode cX5_paper 28 = .ok (.ifCond .ne 5, 3) := by decide +kernel
theorem dX5_paper_31 : decode cX5_paper 31 = .ok (.iconst 0, 1) := by decide +kernel
theorem dX5_paper_32 : decode cX5_paper 32 = .ok (.ireturn, 1) := by decide +kernel
theorem dX5_paper_33 : decode cX5_paper 33 = .ok (.aload_n 3, 1) := by decide +kernel
theorem dX5_paper_34 : decode cX5_paper 34 = .ok (.dup, 1) := by decide +kernel
theorem dX5_paper_35 : decode cX5_paper 35 = .ok (.getfield 105, 3) := by decide +kernel
theorem dX5_paper_38 : decode cX5_paper 38 = .ok (.iconst 1, 1) := by decide +kernel
theorem dX5_paper_39 : decode cX5_paper 39 = .ok (.iload_n 2, 1) := by decide +kernel
theorem dX5_paper_40 : decode cX5_paper 40 = .ok (.ishl, 1) := by decide +kernel
theorem dX5_paper_41 : decode cX5_paper 41 = .ok (.ior, 1) := by decide +kernel
theorem dX5_paper_42 : decode cX5_paper 42 = .ok (.putfield 105, 3) := by decide +kernel
theorem dX5_paper_45 : decode cX5_paper 45 = .ok (.aload_n 3, 1) := by decide +kernel
theorem dX5_paper_46 : decode cX5_paper 46 = .ok (.aload_n 0, 1) := by decide +kernel
theorem dX5_paper_47 : decode cX5_paper 47 = .ok (.getfield 12, 3) := by decide +kernel
theorem dX5_paper_50 : decode cX5_paper 50 = .ok (.getfield 71, 3) := by decide +kernel
theorem dX5_paper_53 : decode cX5_paper 53 = .ok (.invokevirtual 108, 3) := by decide +kernel
theorem dX5_paper_56 : decode cX5_paper 56 = .ok (.iconst 1, 1) := by decide +kernel
theorem dX5_paper_57 : decode cX5_paper 57 = .ok (.ireturn, 1) := by decide +kernel
set_option maxRecDepth 20000 in
theorem ggX5_judge_X0_claimAt : GoodIn wsX5_judge wsX0_claimAt := goodIn_r _ [10, 11, 12, 84, 85, 86, 87, 88, 89, 90, 91, 92, 93] (by decide +kernel) (by decide +kernel)
set_option maxRecDepth 20000 in
theorem gX5_judge_X0_claimAt : GoodIn wsX5_judge (wsV RX5 95 RX0 yX0_claimAt wsX0_claimAt) := goodIn_app (goodIn_of _ (by decide +kernel)) ggX5_judge_X0_claimAt
set_option maxRecDepth 20000 in
theorem ggX5_judge_X0_hasJudgedTwin : GoodIn wsX5_judge wsX0_hasJudgedTwin := goodIn_r _ [16, 12, 17, 18, 19, 9, 20, 21, 22, 23, 24, 25, 26, 27, 84, 85, 86, 87, 88, 89, 90, 91, 92, 93, 94, 95, 96, 97, 98, 99, 100, 101, 102] (by decide +kernel) (by decide +kernel)
set_option maxRecDepth 20000 in
theorem gX5_judge_X0_hasJudgedTwin : GoodIn wsX5_judge (wsV RX5 114 RX0 yX0_hasJudgedTwin wsX0_hasJudgedTwin) := goodIn_app (goodIn_of _ (by decide +kernel)) ggX5_judge_X0_hasJudgedTwin
set_option maxRecDepth 20000 in
theorem ggX5_judge_X1_pointsWith : GoodIn wsX5_judge wsX1_pointsWith := goodIn_r _ [31, 32, 33, 34, 35, 36, 37, 38, 39, 40, 41, 42, 43, 44, 45, 46, 47, 48, 49, 50, 51, 52, 53, 54, 55, 56, 57, 58, 59, 60, 61, 62, 63, 64, 65, 66, 67, 68, 69, 70, 71, 72, 73, 74, 94, 95, 96, 97, 98, 99, 100, 101, 102, 103, 104, 105, 106, 107, 108, 109, 110] (by decide +kernel) (by decide +kernel)
set_option maxRecDepth 20000 in
theorem gX5_judge_X1_pointsWith : GoodIn wsX5_judge (wsV RX5 118 RX1 yX1_pointsWith wsX1_pointsWith) := goodIn_app (goodIn_of _ (by decide +kernel)) ggX5_judge_X1_pointsWith
set_option maxRecDepth 20000 in
theorem ggX5_judge_X1_settle : GoodIn wsX5_judge wsX1_settle := goodIn_r _ [78, 27, 79, 80, 94, 95, 96, 97, 98, 99, 100, 101, 102] (by decide +kernel) (by decide +kernel)
set_option maxRecDepth 20000 in
theorem gX5_judge_X1_settle : GoodIn wsX5_judge (wsV RX5 122 RX1 yX1_settle wsX1_settle) := goodIn_app (goodIn_of _ (by decide +kernel)) ggX5_judge_X1_settle
theorem dX5_judge_0 : decode cX5_judge 0 = .ok (.aload_n 0, 1) := by decide +kernel
theorem dX5_judge_1 : decode cX5_judge 1 = .ok (.getfield 12, 3) := by decide +kernel
theorem dX5_judge_4 : decode cX5_judge 4 = .ok (.iload_n 1, 1) := by decide +kernel
theorem dX5_judge_5 : decode cX5_judge 5 = .ok (.invokevirtual 95, 3) := by decide +kernel
theorem dX5_judge_8 : decode cX5_judge 8 = .ok (.astore_n 2, 1) := by decide +kernel
theorem dX5_judge_9 : decode cX5_judge 9 = .ok (.aload_n 0, 1) := by decide +kernel
theorem dX5_judge_10 : decode cX5_judge 10 = .ok (.getfield 12, 3) := by decide +kernel
theorem dX5_judge_13 : decode cX5_judge 13 = .ok (.getfield 27, 3) := by decide +kernel
theorem dX5_judge_16 : decode cX5_judge 16 = .ok (.ifCond .ne 25, 3) := by decide +kernel
theorem dX5_judge_19 : decode cX5_judge 19 = .ok (.aload_n 2, 1) := by decide +kernel
theorem dX5_judge_20 : decode cX5_judge 20 = .ok (.ifnull 21, 3) := by decide +kernel
theorem dX5_judge_23 : decode cX5_judge 23 = .ok (.aload_n 2, 1) := by decide +kernel
theorem dX5_judge_24 : decode cX5_judge 24 = .ok (.getfield 111, 3) := by decide +kernel
theorem dX5_judge_27 : decode cX5_judge 27 = .ok (.ifCond .ne 14, 3) := by decide +kernel
theorem dX5_judge_30 : decode cX5_judge 30 = .ok (.aload_n 0, 1) := by decide +kernel
theorem dX5_judge_31 : decode cX5_judge 31 = .ok (.getfield 12, 3) := by decide +kernel
theorem dX5_judge_34 : decode cX5_judge 34 = .ok (.aload_n 2, 1) := by decide +kernel
theorem dX5_judge_35 : decode cX5_judge 35 = .ok (.invokevirtual 114, 3) := by decide +kernel
theorem dX5_judge_38 : decode cX5_judge 38 = .ok (.ifCond .eq 5, 3) := by decide +kernel
theorem dX5_judge_41 : decode cX5_judge 41 = .ok (.iconst (-1), 1) := by decide +kernel
theorem dX5_judge_42 : decode cX5_judge 42 = .ok (.ireturn, 1) := by decide +kernel
theorem dX5_judge_43 : decode cX5_judge 43 = .ok (.aload_n 2, 1) := by decide +kernel
theorem dX5_judge_44 : decode cX5_judge 44 = .ok (.aload_n 0, 1) := by decide +kernel
theorem dX5_judge_45 : decode cX5_judge 45 = .ok (.getfield 12, 3) := by decide +kernel
theorem dX5_judge_48 : decode cX5_judge 48 = .ok (.getfield 71, 3) := by decide +kernel
theorem dX5_judge_51 : decode cX5_judge 51 = .ok (.aload_n 2, 1) := by decide +kernel
theorem dX5_judge_52 : decode cX5_judge 52 = .ok (.getfield 105, 3) := by decide +kernel
theorem dX5_judge_55 : decode cX5_judge 55 = .ok (.invokevirtual 118, 3) := by decide +kernel
theorem dX5_judge_58 : decode cX5_judge 58 = .ok (.istore_n 3, 1) := by decide +kernel
theorem dX5_judge_59 : decode cX5_judge 59 = .ok (.aload_n 2, 1) := by decide +kernel
theorem dX5_judge_60 : decode cX5_judge 60 = .ok (.iconst 1, 1) := by decide +kernel
theorem dX5_judge_61 : decode cX5_judge 61 = .ok (.iload_n 3, 1) := by decide +kernel
theorem dX5_judge_62 : decode cX5_judge 62 = .ok (.invokevirtual 122, 3) := by decide +kernel
theorem dX5_judge_65 : decode cX5_judge 65 = .ok (.iload_n 3, 1) := by decide +kernel
theorem dX5_judge_66 : decode cX5_judge 66 = .ok (.ireturn, 1) := by decide +kernel
set_option maxRecDepth 20000 in
theorem ggX5_appeal_X0_claimAt : GoodIn wsX5_appeal wsX0_claimAt := goodIn_r _ [10, 11, 12, 41, 42, 43, 44, 45, 46, 47, 48, 49, 50] (by decide +kernel) (by decide +kernel)
set_option maxRecDepth 20000 in
theorem gX5_appeal_X0_claimAt : GoodIn wsX5_appeal (wsV RX5 95 RX0 yX0_claimAt wsX0_claimAt) := goodIn_app (goodIn_of _ (by decide +kernel)) ggX5_appeal_X0_claimAt
set_option maxRecDepth 20000 in
theorem ggX5_appeal_X1_settle : GoodIn wsX5_appeal wsX1_settle := goodIn_r _ [17, 18, 19, 20, 51, 52, 53, 54, 55, 56, 57, 58, 59] (by decide +kernel) (by decide +kernel)
set_option maxRecDepth 20000 in
theorem gX5_appeal_X1_settle : GoodIn wsX5_appeal (wsV RX5 122 RX1 yX1_settle wsX1_settle) := goodIn_app (goodIn_of _ (by decide +kernel)) ggX5_appeal_X1_settle
set_option maxRecDepth 20000 in
theorem ggX5_appeal_X0_holds : GoodIn wsX5_appeal wsX0_holds := goodIn_r _ [24, 12, 25, 26, 27, 28, 29, 30, 9, 31, 32, 33, 34, 35, 36, 37, 41, 42, 43, 44, 45, 46, 47, 48, 49, 50, 51, 52, 53, 54, 55, 56, 57, 58, 59, 60, 61, 62, 63, 64, 65, 66, 67, 68, 69, 70] (by decide +kernel) (by decide +kernel)
set_option maxRecDepth 20000 in
theorem gX5_appeal_X0_holds : GoodIn wsX5_appeal (wsV RX5 78 RX0 yX0_holds wsX0_holds) := goodIn_app (goodIn_of _ (by decide +kernel)) ggX5_appeal_X0_holds
theorem dX5_appeal_0 : decode cX5_appeal 0 = .ok (.aload_n 0, 1) := by decide +kernel
theorem dX5_appeal_1 : decode cX5_appeal 1 = .ok (.getfield 12, 3) := by decide +kernel
theorem dX5_appeal_4 : decode cX5_appeal 4 = .ok (.iload_n 1, 1) := by decide +kernel
theorem dX5_appeal_5 : decode cX5_appeal 5 = .ok (.invokevirtual 95, 3) := by decide +kernel
theorem dX5_appeal_8 : decode cX5_appeal 8 = .ok (.astore_n 3, 1) := by decide +kernel
theorem dX5_appeal_9 : decode cX5_appeal 9 = .ok (.aload_n 0, 1) := by decide +kernel
theorem dX5_appeal_10 : decode cX5_appeal 10 = .ok (.getfield 12, 3) := by decide +kernel
theorem dX5_appeal_13 : decode cX5_appeal 13 = .ok (.getfield 27, 3) := by decide +kernel
theorem dX5_appeal_16 : decode cX5_appeal 16 = .ok (.ifCond .ne 25, 3) := by decide +kernel
theorem dX5_appeal_19 : decode cX5_appeal 19 = .ok (.aload_n 3, 1) := by decide +kernel
theorem dX5_appeal_20 : decode cX5_appeal 20 = .ok (.ifnull 21, 3) := by decide +kernel
theorem dX5_appeal_23 : decode cX5_appeal 23 = .ok (.aload_n 3, 1) := by decide +kernel
theorem dX5_appeal_24 : decode cX5_appeal 24 = .ok (.getfield 111, 3) := by decide +kernel
theorem dX5_appeal_27 : decode cX5_appeal 27 = .ok (.iconst 1, 1) := by decide +kernel
theorem dX5_appeal_28 : decode cX5_appeal 28 = .ok (.if_icmp .ne 13, 3) := by decide +kernel
theorem dX5_appeal_31 : decode cX5_appeal 31 = .ok (.iload_n 2, 1) := by decide +kernel
theorem dX5_appeal_32 : decode cX5_appeal 32 = .ok (.ifCond .lt 9, 3) := by decide +kernel
theorem dX5_appeal_35 : decode cX5_appeal 35 = .ok (.iload_n 2, 1) := by decide +kernel
theorem dX5_appeal_36 : decode cX5_appeal 36 = .ok (.ldc 125, 2) := by decide +kernel
theorem dX5_appeal_38 : decode cX5_appeal 38 = .ok (.if_icmp .le 5, 3) := by decide +kernel
theorem dX5_appeal_41 : decode cX5_appeal 41 = .ok (.iconst 0, 1) := by decide +kernel
theorem dX5_appeal_42 : decode cX5_appeal 42 = .ok (.ireturn, 1) := by decide +kernel
theorem dX5_appeal_43 : decode cX5_appeal 43 = .ok (.aload_n 3, 1) := by decide +kernel
theorem dX5_appeal_44 : decode cX5_appeal 44 = .ok (.getfield 126, 3) := by decide +kernel
theorem dX5_appeal_47 : decode cX5_appeal 47 = .ok (.istore 4, 2) := by decide +kernel
theorem dX5_appeal_49 : decode cX5_appeal 49 = .ok (.aload_n 3, 1) := by decide +kernel
theorem dX5_appeal_50 : decode cX5_appeal 50 = .ok (.iconst 1, 1) := by decide +kernel
theorem dX5_appeal_51 : decode cX5_appeal 51 = .ok (.iload_n 2, 1) := by decide +kernel
theorem dX5_appeal_52 : decode cX5_appeal 52 = .ok (.invokevirtual 122, 3) := by decide +kernel
theorem dX5_appeal_55 : decode cX5_appeal 55 = .ok (.aload_n 0, 1) := by decide +kernel
theorem dX5_appeal_56 : decode cX5_appeal 56 = .ok (.getfield 12, 3) := by decide +kernel
theorem dX5_appeal_59 : decode cX5_appeal 59 = .ok (.invokevirtual 78, 3) := by decide +kernel
theorem dX5_appeal_62 : decode cX5_appeal 62 = .ok (.ifCond .ne 12, 3) := by decide +kernel
theorem dX5_appeal_65 : decode cX5_appeal 65 = .ok (.aload_n 3, 1) := by decide +kernel
theorem dX5_appeal_66 : decode cX5_appeal 66 = .ok (.iconst 1, 1) := by decide +kernel
theorem dX5_appeal_67 : decode cX5_appeal 67 = .ok (.iload 4, 2) := by decide +kernel
theorem dX5_appeal_69 : decode cX5_appeal 69 = .ok (.invokevirtual 122, 3) := by decide +kernel
theorem dX5_appeal_72 : decode cX5_appeal 72 = .ok (.iconst 0, 1) := by decide +kernel
theorem dX5_appeal_73 : decode cX5_appeal 73 = .ok (.ireturn, 1) := by decide +kernel
theorem dX5_appeal_74 : decode cX5_appeal 74 = .ok (.iconst 1, 1) := by decide +kernel
theorem dX5_appeal_75 : decode cX5_appeal 75 = .ok (.ireturn, 1) := by decide +kernel
set_option maxRecDepth 20000 in
theorem ggX5_out_X0_claimAt : GoodIn wsX5_out wsX0_claimAt := goodIn_r _ [7, 8, 9, 103, 104, 105, 106, 107, 108, 109, 110, 111, 112] (by decide +kernel) (by decide +kernel)
set_option maxRecDepth 20000 in
theorem gX5_out_X0_claimAt : GoodIn wsX5_out (wsV RX5 95 RX0 yX0_claimAt wsX0_claimAt) := goodIn_app (goodIn_of _ (by decide +kernel)) ggX5_out_X0_claimAt
set_option maxRecDepth 20000 in
theorem ggX5_out_X0_sendOut : GoodIn wsX5_out wsX0_sendOut := goodIn_r _ [13, 14, 15, 16, 17, 18, 19, 20, 21, 22, 23, 24, 113, 114, 115, 116, 117, 118, 119, 120, 121, 122, 123, 124, 125, 126, 127, 128, 129, 130, 131, 132] (by decide +kernel) (by decide +kernel)
set_option maxRecDepth 20000 in
theorem gX5_out_X0_sendOut : GoodIn wsX5_out (wsV RX5 129 RX0 yX0_sendOut wsX0_sendOut) := goodIn_app (goodIn_of _ (by decide +kernel)) ggX5_out_X0_sendOut
set_option maxRecDepth 20000 in
theorem ggX5_out_X0_takeBack : GoodIn wsX5_out wsX0_takeBack := goodIn_r _ [28, 14, 29, 30, 31, 32, 20, 33, 22, 34, 23, 24, 35, 36, 37, 38, 39, 40, 41, 42, 43, 44, 45, 46, 47, 48, 49, 50, 51, 52, 53, 54, 55, 56, 57, 58, 59, 60, 61, 62, 63, 64, 65, 66, 67, 68, 69, 70, 71, 72, 73, 74, 75, 76, 77, 78, 79, 80, 81, 82, 83, 84, 85, 86, 87, 6, 88, 9, 15, 16, 89, 90, 91, 92, 93, 94, 95, 96, 97, 98, 99, 17, 18, 19, 21, 113, 114, 115, 116, 117, 118, 119, 120, 121, 103, 104, 105, 106, 107, 108, 109, 110, 111, 112, 133, 134, 135, 136, 137, 138, 139, 140, 122, 123, 124, 125, 126, 127, 128, 129, 130, 131, 132] (by decide +kernel) (by decide +kernel)
set_option maxRecDepth 20000 in
theorem gX5_out_X0_takeBack : GoodIn wsX5_out (wsV RX5 132 RX0 yX0_takeBack wsX0_takeBack) := goodIn_app (goodIn_of _ (by decide +kernel)) ggX5_out_X0_takeBack
theorem dX5_out_0 : decode cX5_out 0 = .ok (.aload_n 0, 1) := by decide +kernel
theorem dX5_out_1 : decode cX5_out 1 = .ok (.getfield 12, 3) := by decide +kernel
theorem dX5_out_4 : decode cX5_out 4 = .ok (.iload_n 1, 1) := by decide +kernel
theorem dX5_out_5 : decode cX5_out 5 = .ok (.invokevirtual 95, 3) := by decide +kernel
theorem dX5_out_8 : decode cX5_out 8 = .ok (.astore_n 3, 1) := by decide +kernel
theorem dX5_out_9 : decode cX5_out 9 = .ok (.aload_n 0, 1) := by decide +kernel
theorem dX5_out_10 : decode cX5_out 10 = .ok (.getfield 12, 3) := by decide +kernel
theorem dX5_out_13 : decode cX5_out 13 = .ok (.getfield 27, 3) := by decide +kernel
theorem dX5_out_16 : decode cX5_out 16 = .ok (.ifCond .ne 7, 3) := by decide +kernel
theorem dX5_out_19 : decode cX5_out 19 = .ok (.aload_n 3, 1) := by decide +kernel
theorem dX5_out_20 : decode cX5_out 20 = .ok (.ifnonnull 5, 3) := by decide +kernel
theorem dX5_out_23 : decode cX5_out 23 = .ok (.iconst 0, 1) := by decide +kernel
theorem dX5_out_24 : decode cX5_out 24 = .ok (.ireturn, 1) := by decide +kernel
theorem dX5_out_25 : decode cX5_out 25 = .ok (.iload_n 2, 1) := by decide +kernel
theorem dX5_out_26 : decode cX5_out 26 = .ok (.ifCond .eq 14, 3) := by decide +kernel
theorem dX5_out_29 : decode cX5_out 29 = .ok (.aload_n 0, 1) := by decide +kernel
theorem dX5_out_30 : decode cX5_out 30 = .ok (.getfield 12, 3) := by decide +kernel
theorem dX5_out_33 : decode cX5_out 33 = .ok (.aload_n 3, 1) := by decide +kernel
theorem dX5_out_34 : decode cX5_out 34 = .ok (.invokevirtual 129, 3) := by decide +kernel
theorem dX5_out_37 : decode cX5_out 37 = .ok (.goto 11, 3) := by decide +kernel
theorem dX5_out_40 : decode cX5_out 40 = .ok (.aload_n 0, 1) := by decide +kernel
theorem dX5_out_41 : decode cX5_out 41 = .ok (.getfield 12, 3) := by decide +kernel
theorem dX5_out_44 : decode cX5_out 44 = .ok (.aload_n 3, 1) := by decide +kernel
theorem dX5_out_45 : decode cX5_out 45 = .ok (.invokevirtual 132, 3) := by decide +kernel
theorem dX5_out_48 : decode cX5_out 48 = .ok (.ireturn, 1) := by decide +kernel
set_option maxRecDepth 20000 in
theorem ggX5_points_X5_areFacts : GoodIn wsX5_points wsX5_areFacts := goodIn_r _ [6] (by decide +kernel) (by decide +kernel)
set_option maxRecDepth 20000 in
theorem gX5_points_X5_areFacts : GoodIn wsX5_points (va_wsS RX5 87 yX5_areFacts wsX5_areFacts) := goodIn_app (goodIn_of _ (by decide +kernel)) ggX5_points_X5_areFacts
set_option maxRecDepth 20000 in
theorem ggX5_points_X2_pointsFor : GoodIn wsX5_points wsX2_pointsFor := goodIn_r _ [11, 12, 13, 14, 15, 16, 10, 17, 18, 19, 20, 21, 22, 23, 24, 25, 26, 27, 28, 29, 30, 31, 32, 33, 34, 35, 36, 37, 38, 39, 40, 41, 42, 43, 44, 45, 46, 60, 61, 62, 63, 64, 65, 66, 67] (by decide +kernel) (by decide +kernel)
set_option maxRecDepth 20000 in
theorem gX5_points_X2_pointsFor : GoodIn wsX5_points (wsV RX5 135 RX2 yX2_pointsFor wsX2_pointsFor) := goodIn_app (goodIn_of _ (by decide +kernel)) ggX5_points_X2_pointsFor
theorem dX5_points_0 : decode cX5_points 0 = .ok (.iload_n 1, 1) := by decide +kernel
theorem dX5_points_1 : decode cX5_points 1 = .ok (.iload_n 2, 1) := by decide +kernel
theorem dX5_points_2 : decode cX5_points 2 = .ok (.iload_n 3, 1) := by decide +kernel
theorem dX5_points_3 : decode cX5_points 3 = .ok (.iload 4, 2) := by decide +kernel
theorem dX5_points_5 : decode cX5_points 5 = .ok (.invokestatic 87, 3) := by decide +kernel
theorem dX5_points_8 : decode cX5_points 8 = .ok (.ifCond .eq 21, 3) := by decide +kernel
theorem dX5_points_11 : decode cX5_points 11 = .ok (.aload_n 0, 1) := by decide +kernel
theorem dX5_points_12 : decode cX5_points 12 = .ok (.getfield 12, 3) := by decide +kernel
theorem dX5_points_15 : decode cX5_points 15 = .ok (.getfield 71, 3) := by decide +kernel
theorem dX5_points_18 : decode cX5_points 18 = .ok (.iload_n 1, 1) := by decide +kernel
theorem dX5_points_19 : decode cX5_points 19 = .ok (.iload_n 2, 1) := by decide +kernel
theorem dX5_points_20 : decode cX5_points 20 = .ok (.iload_n 3, 1) := by decide +kernel
theorem dX5_points_21 : decode cX5_points 21 = .ok (.iload 4, 2) := by decide +kernel
theorem dX5_points_23 : decode cX5_points 23 = .ok (.invokevirtual 135, 3) := by decide +kernel
theorem dX5_points_26 : decode cX5_points 26 = .ok (.goto 4, 3) := by decide +kernel
theorem dX5_points_29 : decode cX5_points 29 = .ok (.iconst (-1), 1) := by decide +kernel
theorem dX5_points_30 : decode cX5_points 30 = .ok (.ireturn, 1) := by decide +kernel
set_option maxRecDepth 20000 in
theorem ggX5_lacks_X0_claimAt : GoodIn wsX5_lacks wsX0_claimAt := goodIn_r _ [9, 10, 11, 69, 70, 71, 72, 73, 74, 75, 76, 77, 78] (by decide +kernel) (by decide +kernel)
set_option maxRecDepth 20000 in
theorem gX5_lacks_X0_claimAt : GoodIn wsX5_lacks (wsV RX5 95 RX0 yX0_claimAt wsX0_claimAt) := goodIn_app (goodIn_of _ (by decide +kernel)) ggX5_lacks_X0_claimAt
set_option maxRecDepth 20000 in
theorem ggX5_lacks_X1_mayBring : GoodIn wsX5_lacks wsX1_mayBring := goodIn_r _ [16, 17, 18, 79, 80, 81, 82, 83, 84, 85, 86, 87] (by decide +kernel) (by decide +kernel)
set_option maxRecDepth 20000 in
theorem gX5_lacks_X1_mayBring : GoodIn wsX5_lacks (wsV RX5 99 RX1 yX1_mayBring wsX1_mayBring) := goodIn_app (goodIn_of _ (by decide +kernel)) ggX5_lacks_X1_mayBring
set_option maxRecDepth 20000 in
theorem ggX5_lacks_X1_pointsWith : GoodIn wsX5_lacks wsX1_pointsWith := goodIn_r _ [22, 23, 24, 25, 26, 27, 28, 29, 30, 31, 32, 33, 34, 35, 36, 37, 38, 39, 40, 41, 42, 43, 44, 45, 46, 47, 48, 49, 50, 51, 52, 53, 54, 55, 56, 57, 58, 59, 60, 61, 62, 63, 64, 65, 79, 80, 81, 82, 83, 84, 85, 86, 87, 88, 89, 90, 91, 92, 93, 94, 95] (by decide +kernel) (by decide +kernel)
set_option maxRecDepth 20000 in
theorem gX5_lacks_X1_pointsWith : GoodIn wsX5_lacks (wsV RX5 118 RX1 yX1_pointsWith wsX1_pointsWith) := goodIn_app (goodIn_of _ (by decide +kernel)) ggX5_lacks_X1_pointsWith
theorem dX5_lacks_0 : decode cX5_lacks 0 = .ok (.aload_n 0, 1) := by decide +kernel
theorem dX5_lacks_1 : decode cX5_lacks 1 = .ok (.getfield 12, 3) := by decide +kernel
theorem dX5_lacks_4 : decode cX5_lacks 4 = .ok (.iload_n 1, 1) := by decide +kernel
theorem dX5_lacks_5 : decode cX5_lacks 5 = .ok (.invokevirtual 95, 3) := by decide +kernel
theorem dX5_lacks_8 : decode cX5_lacks 8 = .ok (.astore_n 3, 1) := by decide +kernel
theorem dX5_lacks_9 : decode cX5_lacks 9 = .ok (.aload_n 3, 1) := by decide +kernel
theorem dX5_lacks_10 : decode cX5_lacks 10 = .ok (.ifnull 11, 3) := by decide +kernel
theorem dX5_lacks_13 : decode cX5_lacks 13 = .ok (.aload_n 3, 1) := by decide +kernel
theorem dX5_lacks_14 : decode cX5_lacks 14 = .ok (.iload_n 2, 1) := by decide +kernel
theorem dX5_lacks_15 : decode cX5_lacks 15 = .ok (.invokevirtual 99, 3) := by decide +kernel
theorem dX5_lacks_18 : decode cX5_lacks 18 = .ok (.ifCond .ne 6, 3) := by decide +kernel
theorem dX5_lacks_21 : decode cX5_lacks 21 = .ok (.ldc 139, 2) := by decide +kernel
theorem dX5_lacks_23 : decode cX5_lacks 23 = .ok (.ireturn, 1) := by decide +kernel
theorem dX5_lacks_24 : decode cX5_lacks 24 = .ok (.aload_n 3, 1) := by decide +kernel
theorem dX5_lacks_25 : decode cX5_lacks 25 = .ok (.aload_n 0, 1) := by decide +kernel
theorem dX5_lacks_26 : decode cX5_lacks 26 = .ok (.getfield 12, 3) := by decide +kernel
theorem dX5_lacks_29 : decode cX5_lacks 29 = .ok (.getfield 71, 3) := by decide +kernel
theorem dX5_lacks_32 : decode cX5_lacks 32 = .ok (.aload_n 3, 1) := by decide +kernel
theorem dX5_lacks_33 : decode cX5_lacks 33 = .ok (.getfield 105, 3) := by decide +kernel
theorem dX5_lacks_36 : decode cX5_lacks 36 = .ok (.iconst 1, 1) := by decide +kernel
theorem dX5_lacks_37 : decode cX5_lacks 37 = .ok (.iload_n 2, 1) := by decide +kernel
theorem dX5_lacks_38 : decode cX5_lacks 38 = .ok (.ishl, 1) := by decide +kernel
theorem dX5_lacks_39 : decode cX5_lacks 39 = .ok (.ior, 1) := by decide +kernel
theorem dX5_lacks_40 : decode cX5_lacks 40 = .ok (.invokevirtual 118, 3) := by decide +kernel
theorem dX5_lacks_43 : decode cX5_lacks 43 = .ok (.aload_n 3, 1) := by decide +kernel
theorem dX5_lacks_44 : decode cX5_lacks 44 = .ok (.aload_n 0, 1) := by decide +kernel
theorem dX5_lacks_45 : decode cX5_lacks 45 = .ok (.getfield 12, 3) := by decide +kernel
theorem dX5_lacks_48 : decode cX5_lacks 48 = .ok (.getfield 71, 3) := by decide +kernel
theorem dX5_lacks_51 : decode cX5_lacks 51 = .ok (.aload_n 3, 1) := by decide +kernel
theorem dX5_lacks_52 : decode cX5_lacks 52 = .ok (.getfield 105, 3) := by decide +kernel
theorem dX5_lacks_55 : decode cX5_lacks 55 = .ok (.invokevirtual 118, 3) := by decide +kernel
theorem dX5_lacks_58 : decode cX5_lacks 58 = .ok (.isub, 1) := by decide +kernel
theorem dX5_lacks_59 : decode cX5_lacks 59 = .ok (.ireturn, 1) := by decide +kernel
set_option maxRecDepth 20000 in
theorem ggX5_tell_X0_claimAt : GoodIn wsX5_tell wsX0_claimAt := goodIn_r _ [18, 19, 20, 58, 59, 60, 61, 62, 63, 64, 65, 66, 67] (by decide +kernel) (by decide +kernel)
set_option maxRecDepth 20000 in
theorem gX5_tell_X0_claimAt : GoodIn wsX5_tell (wsV RX5 95 RX0 yX0_claimAt wsX0_claimAt) := goodIn_app (goodIn_of _ (by decide +kernel)) ggX5_tell_X0_claimAt
set_option maxRecDepth 20000 in
theorem ggX5_tell_X0_twinsOf : GoodIn wsX5_tell wsX0_twinsOf := goodIn_r _ [24, 20, 25, 26, 17, 27, 28, 29, 30, 31, 32, 33, 34, 58, 59, 60, 61, 62, 63, 64, 65, 66, 67, 38, 39, 40, 41, 42, 43, 44, 45, 46] (by decide +kernel) (by decide +kernel)
set_option maxRecDepth 20000 in
theorem gX5_tell_X0_twinsOf : GoodIn wsX5_tell (wsV RX5 155 RX0 yX0_twinsOf wsX0_twinsOf) := goodIn_app (goodIn_of _ (by decide +kernel)) ggX5_tell_X0_twinsOf
theorem dX5_tell_0 : decode cX5_tell 0 = .ok (.aload_n 0, 1) := by decide +kernel
theorem dX5_tell_1 : decode cX5_tell 1 = .ok (.getfield 12, 3) := by decide +kernel
theorem dX5_tell_4 : decode cX5_tell 4 = .ok (.iload_n 1, 1) := by decide +kernel
theorem dX5_tell_5 : decode cX5_tell 5 = .ok (.invokevirtual 95, 3) := by decide +kernel
theorem dX5_tell_8 : decode cX5_tell 8 = .ok (.astore_n 3, 1) := by decide +kernel
theorem dX5_tell_9 : decode cX5_tell 9 = .ok (.aload_n 3, 1) := by decide +kernel
theorem dX5_tell_10 : decode cX5_tell 10 = .ok (.ifnonnull 5, 3) := by decide +kernel
theorem dX5_tell_13 : decode cX5_tell 13 = .ok (.iconst (-1), 1) := by decide +kernel
theorem dX5_tell_14 : decode cX5_tell 14 = .ok (.ireturn, 1) := by decide +kernel
theorem dX5_tell_15 : decode cX5_tell 15 = .ok (.iload_n 2, 1) := by decide +kernel
theorem dX5_tell_16 : decode cX5_tell 16 = .ok (.tableswitch 137 0 11 #[64, 69, 74, 79, 84, 89, 94, 99, 104, 113, 121, 129], 64) := by decide +kernel
theorem dX5_tell_80 : decode cX5_tell 80 = .ok (.aload_n 3, 1) := by decide +kernel
theorem dX5_tell_81 : decode cX5_tell 81 = .ok (.getfield 140, 3) := by decide +kernel
theorem dX5_tell_84 : decode cX5_tell 84 = .ok (.ireturn, 1) := by decide +kernel
theorem dX5_tell_85 : decode cX5_tell 85 = .ok (.aload_n 3, 1) := by decide +kernel
theorem dX5_tell_86 : decode cX5_tell 86 = .ok (.getfield 143, 3) := by decide +kernel
theorem dX5_tell_89 : decode cX5_tell 89 = .ok (.ireturn, 1) := by decide +kernel
theorem dX5_tell_90 : decode cX5_tell 90 = .ok (.aload_n 3, 1) := by decide +kernel
theorem dX5_tell_91 : decode cX5_tell 91 = .ok (.getfield 146, 3) := by decide +kernel
theorem dX5_tell_94 : decode cX5_tell 94 = .ok (.ireturn, 1) := by decide +kernel
theorem dX5_tell_95 : decode cX5_tell 95 = .ok (.aload_n 3, 1) := by decide +kernel
theorem dX5_tell_96 : decode cX5_tell 96 = .ok (.getfield 149, 3) := by decide +kernel
theorem dX5_tell_99 : decode cX5_tell 99 = .ok (.ireturn, 1) := by decide +kernel
theorem dX5_tell_100 : decode cX5_tell 100 = .ok (.aload_n 3, 1) := by decide +kernel
theorem dX5_tell_101 : decode cX5_tell 101 = .ok (.getfield 105, 3) := by decide +kernel
theorem dX5_tell_104 : decode cX5_tell 104 = .ok (.ireturn, 1) := by decide +kernel
theorem dX5_tell_105 : decode cX5_tell 105 = .ok (.aload_n 3, 1) := by decide +kernel
theorem dX5_tell_106 : decode cX5_tell 106 = .ok (.getfield 111, 3) := by decide +kernel
theorem dX5_tell_109 : decode cX5_tell 109 = .ok (.ireturn, 1) := by decide +kernel
theorem dX5_tell_110 : decode cX5_tell 110 = .ok (.aload_n 3, 1) := by decide +kernel
theorem dX5_tell_111 : decode cX5_tell 111 = .ok (.getfield 152, 3) := by decide +kernel
theorem dX5_tell_114 : decode cX5_tell 114 = .ok (.ireturn, 1) := by decide +kernel
theorem dX5_tell_115 : decode cX5_tell 115 = .ok (.aload_n 3, 1) := by decide +kernel
theorem dX5_tell_116 : decode cX5_tell 116 = .ok (.getfield 126, 3) := by decide +kernel
theorem dX5_tell_119 : decode cX5_tell 119 = .ok (.ireturn, 1) := by decide +kernel
theorem dX5_tell_120 : decode cX5_tell 120 = .ok (.aload_n 0, 1) := by decide +kernel
theorem dX5_tell_121 : decode cX5_tell 121 = .ok (.getfield 12, 3) := by decide +kernel
theorem dX5_tell_124 : decode cX5_tell 124 = .ok (.aload_n 3, 1) := by decide +kernel
theorem dX5_tell_125 : decode cX5_tell 125 = .ok (.invokevirtual 155, 3) := by decide +kernel
theorem dX5_tell_128 : decode cX5_tell 128 = .ok (.ireturn, 1) := by decide +kernel
theorem dX5_tell_129 : decode cX5_tell 129 = .ok (.aload_n 3, 1) := by decide +kernel
theorem dX5_tell_130 : decode cX5_tell 130 = .ok (.getfield 159, 3) := by decide +kernel
theorem dX5_tell_133 : decode cX5_tell 133 = .ok (.getfield 163, 3) := by decide +kernel
theorem dX5_tell_136 : decode cX5_tell 136 = .ok (.ireturn, 1) := by decide +kernel
theorem dX5_tell_137 : decode cX5_tell 137 = .ok (.aload_n 3, 1) := by decide +kernel
theorem dX5_tell_138 : decode cX5_tell 138 = .ok (.getfield 159, 3) := by decide +kernel
theorem dX5_tell_141 : decode cX5_tell 141 = .ok (.getfield 168, 3) := by decide +kernel
theorem dX5_tell_144 : decode cX5_tell 144 = .ok (.ireturn, 1) := by decide +kernel
theorem dX5_tell_145 : decode cX5_tell 145 = .ok (.aload_n 3, 1) := by decide +kernel
theorem dX5_tell_146 : decode cX5_tell 146 = .ok (.getfield 159, 3) := by decide +kernel
theorem dX5_tell_149 : decode cX5_tell 149 = .ok (.getfield 171, 3) := by decide +kernel
theorem dX5_tell_152 : decode cX5_tell 152 = .ok (.ireturn, 1) := by decide +kernel
theorem dX5_tell_153 : decode cX5_tell 153 = .ok (.iconst (-1), 1) := by decide +kernel
theorem dX5_tell_154 : decode cX5_tell 154 = .ok (.ireturn, 1) := by decide +kernel
set_option maxRecDepth 20000 in
theorem ggX5_money_X0_claimAt : GoodIn wsX5_money wsX0_claimAt := goodIn_r _ [8, 9, 10, 59, 60, 61, 62, 63, 64, 65, 66, 67, 68] (by decide +kernel) (by decide +kernel)
set_option maxRecDepth 20000 in
theorem gX5_money_X0_claimAt : GoodIn wsX5_money (wsV RX5 95 RX0 yX0_claimAt wsX0_claimAt) := goodIn_app (goodIn_of _ (by decide +kernel)) ggX5_money_X0_claimAt
set_option maxRecDepth 20000 in
theorem ggX5_money_X0_worstOf : GoodIn wsX5_money wsX0_worstOf := goodIn_r _ [14, 15, 16, 17, 18, 7, 19, 10, 20, 21, 22, 23, 24, 25, 50, 51, 52, 53, 54, 55, 56, 57, 58, 59, 60, 61, 62, 63, 64, 65, 66, 67, 68] (by decide +kernel) (by decide +kernel)
set_option maxRecDepth 20000 in
theorem gX5_money_X0_worstOf : GoodIn wsX5_money (wsV RX5 176 RX0 yX0_worstOf wsX0_worstOf) := goodIn_app (goodIn_of _ (by decide +kernel)) ggX5_money_X0_worstOf
set_option maxRecDepth 20000 in
theorem ggX5_money_X3_coinsOf : GoodIn wsX5_money wsX3_coinsOf := goodIn_r _ [30, 31, 32, 33, 34, 35, 36, 37, 38, 39, 40, 41, 29, 42, 43, 44, 45, 46, 69, 70, 71, 72, 73, 74, 75, 76, 77, 78, 79] (by decide +kernel) (by decide +kernel)
set_option maxRecDepth 20000 in
theorem gX5_money_X3_coinsOf : GoodIn wsX5_money (wsV RX5 180 RX3 yX3_coinsOf wsX3_coinsOf) := goodIn_app (goodIn_of _ (by decide +kernel)) ggX5_money_X3_coinsOf
theorem dX5_money_0 : decode cX5_money 0 = .ok (.aload_n 0, 1) := by decide +kernel
theorem dX5_money_1 : decode cX5_money 1 = .ok (.getfield 12, 3) := by decide +kernel
theorem dX5_money_4 : decode cX5_money 4 = .ok (.iload_n 1, 1) := by decide +kernel
theorem dX5_money_5 : decode cX5_money 5 = .ok (.invokevirtual 95, 3) := by decide +kernel
theorem dX5_money_8 : decode cX5_money 8 = .ok (.astore_n 3, 1) := by decide +kernel
theorem dX5_money_9 : decode cX5_money 9 = .ok (.aload_n 3, 1) := by decide +kernel
theorem dX5_money_10 : decode cX5_money 10 = .ok (.ifnonnull 7, 3) := by decide +kernel
theorem dX5_money_13 : decode cX5_money 13 = .ok (.ldc2_w 174, 3) := by decide +kernel
theorem dX5_money_16 : decode cX5_money 16 = .ok (.lreturn, 1) := by decide +kernel
theorem dX5_money_17 : decode cX5_money 17 = .ok (.iload_n 2, 1) := by decide +kernel
theorem dX5_money_18 : decode cX5_money 18 = .ok (.ifCond .ne 14, 3) := by decide +kernel
theorem dX5_money_21 : decode cX5_money 21 = .ok (.aload_n 0, 1) := by decide +kernel
theorem dX5_money_22 : decode cX5_money 22 = .ok (.getfield 12, 3) := by decide +kernel
theorem dX5_money_25 : decode cX5_money 25 = .ok (.aload_n 3, 1) := by decide +kernel
theorem dX5_money_26 : decode cX5_money 26 = .ok (.invokevirtual 176, 3) := by decide +kernel
theorem dX5_money_29 : decode cX5_money 29 = .ok (.goto 11, 3) := by decide +kernel
theorem dX5_money_32 : decode cX5_money 32 = .ok (.aload_n 3, 1) := by decide +kernel
theorem dX5_money_33 : decode cX5_money 33 = .ok (.getfield 159, 3) := by decide +kernel
theorem dX5_money_36 : decode cX5_money 36 = .ok (.iload_n 2, 1) := by decide +kernel
theorem dX5_money_37 : decode cX5_money 37 = .ok (.invokevirtual 180, 3) := by decide +kernel
theorem dX5_money_40 : decode cX5_money 40 = .ok (.lreturn, 1) := by decide +kernel
set_option maxRecDepth 20000 in
theorem ggX5_fee_X0_claimAt : GoodIn wsX5_fee wsX0_claimAt := goodIn_r _ [9, 10, 11, 15, 16, 17, 18, 19, 20, 21, 22, 23, 24] (by decide +kernel) (by decide +kernel)
set_option maxRecDepth 20000 in
theorem gX5_fee_X0_claimAt : GoodIn wsX5_fee (wsV RX5 95 RX0 yX0_claimAt wsX0_claimAt) := goodIn_app (goodIn_of _ (by decide +kernel)) ggX5_fee_X0_claimAt
theorem dX5_fee_0 : decode cX5_fee 0 = .ok (.aload_n 0, 1) := by decide +kernel
theorem dX5_fee_1 : decode cX5_fee 1 = .ok (.getfield 12, 3) := by decide +kernel
theorem dX5_fee_4 : decode cX5_fee 4 = .ok (.iload_n 1, 1) := by decide +kernel
theorem dX5_fee_5 : decode cX5_fee 5 = .ok (.invokevirtual 95, 3) := by decide +kernel
theorem dX5_fee_8 : decode cX5_fee 8 = .ok (.astore_n 3, 1) := by decide +kernel
theorem dX5_fee_9 : decode cX5_fee 9 = .ok (.aload_n 0, 1) := by decide +kernel
theorem dX5_fee_10 : decode cX5_fee 10 = .ok (.getfield 12, 3) := by decide +kernel
theorem dX5_fee_13 : decode cX5_fee 13 = .ok (.getfield 27, 3) := by decide +kernel
theorem dX5_fee_16 : decode cX5_fee 16 = .ok (.ifCond .ne 17, 3) := by decide +kernel
theorem dX5_fee_19 : decode cX5_fee 19 = .ok (.aload_n 3, 1) := by decide +kernel
theorem dX5_fee_20 : decode cX5_fee 20 = .ok (.ifnull 13, 3) := by decide +kernel
theorem dX5_fee_23 : decode cX5_fee 23 = .ok (.iload_n 2, 1) := by decide +kernel
theorem dX5_fee_24 : decode cX5_fee 24 = .ok (.ifCond .lt 9, 3) := by decide +kernel
theorem dX5_fee_27 : decode cX5_fee 27 = .ok (.iload_n 2, 1) := by decide +kernel
theorem dX5_fee_28 : decode cX5_fee 28 = .ok (.bipush 40, 2) := by decide +kernel
theorem dX5_fee_30 : decode cX5_fee 30 = .ok (.if_icmp .le 5, 3) := by decide +kernel
theorem dX5_fee_33 : decode cX5_fee 33 = .ok (.iconst 0, 1) := by decide +kernel
theorem dX5_fee_34 : decode cX5_fee 34 = .ok (.ireturn, 1) := by decide +kernel
theorem dX5_fee_35 : decode cX5_fee 35 = .ok (.aload_n 3, 1) := by decide +kernel
theorem dX5_fee_36 : decode cX5_fee 36 = .ok (.getfield 159, 3) := by decide +kernel
theorem dX5_fee_39 : decode cX5_fee 39 = .ok (.iload_n 2, 1) := by decide +kernel
theorem dX5_fee_40 : decode cX5_fee 40 = .ok (.putfield 163, 3) := by decide +kernel
theorem dX5_fee_43 : decode cX5_fee 43 = .ok (.iconst 1, 1) := by decide +kernel
theorem dX5_fee_44 : decode cX5_fee 44 = .ok (.ireturn, 1) := by decide +kernel
set_option maxRecDepth 20000 in
theorem ggX5_lien_X0_claimAt : GoodIn wsX5_lien wsX0_claimAt := goodIn_r _ [9, 10, 11, 23, 24, 25, 26, 27, 28, 29, 30, 31, 32] (by decide +kernel) (by decide +kernel)
set_option maxRecDepth 20000 in
theorem gX5_lien_X0_claimAt : GoodIn wsX5_lien (wsV RX5 95 RX0 yX0_claimAt wsX0_claimAt) := goodIn_app (goodIn_of _ (by decide +kernel)) ggX5_lien_X0_claimAt
set_option maxRecDepth 20000 in
theorem ggX5_lien_X3_addLien : GoodIn wsX5_lien wsX3_addLien := goodIn_r _ [16, 17, 18, 19, 42, 43, 44, 45, 46, 47, 48, 49, 50, 51, 52] (by decide +kernel) (by decide +kernel)
set_option maxRecDepth 20000 in
theorem gX5_lien_X3_addLien : GoodIn wsX5_lien (wsV RX5 186 RX3 yX3_addLien wsX3_addLien) := goodIn_app (goodIn_of _ (by decide +kernel)) ggX5_lien_X3_addLien
theorem dX5_lien_0 : decode cX5_lien 0 = .ok (.aload_n 0, 1) := by decide +kernel
theorem dX5_lien_1 : decode cX5_lien 1 = .ok (.getfield 12, 3) := by decide +kernel
theorem dX5_lien_4 : decode cX5_lien 4 = .ok (.iload_n 1, 1) := by decide +kernel
theorem dX5_lien_5 : decode cX5_lien 5 = .ok (.invokevirtual 95, 3) := by decide +kernel
theorem dX5_lien_8 : decode cX5_lien 8 = .ok (.astore 5, 2) := by decide +kernel
theorem dX5_lien_10 : decode cX5_lien 10 = .ok (.iload_n 2, 1) := by decide +kernel
theorem dX5_lien_11 : decode cX5_lien 11 = .ok (.ifCond .lt 27, 3) := by decide +kernel
theorem dX5_lien_14 : decode cX5_lien 14 = .ok (.iload_n 2, 1) := by decide +kernel
theorem dX5_lien_15 : decode cX5_lien 15 = .ok (.bipush 9, 2) := by decide +kernel
theorem dX5_lien_17 : decode cX5_lien 17 = .ok (.if_icmp .gt 21, 3) := by decide +kernel
theorem dX5_lien_20 : decode cX5_lien 20 = .ok (.lload_n 3, 1) := by decide +kernel
theorem dX5_lien_21 : decode cX5_lien 21 = .ok (.lconst 1, 1) := by decide +kernel
theorem dX5_lien_22 : decode cX5_lien 22 = .ok (.lcmp, 1) := by decide +kernel
theorem dX5_lien_23 : decode cX5_lien 23 = .ok (.ifCond .lt 15, 3) := by decide +kernel
theorem dX5_lien_26 : decode cX5_lien 26 = .ok (.lload_n 3, 1) := by decide +kernel
theorem dX5_lien_27 : decode cX5_lien 27 = .ok (.ldc2_w 184, 3) := by decide +kernel
theorem dX5_lien_30 : decode cX5_lien 30 = .ok (.lcmp, 1) := by decide +kernel
theorem dX5_lien_31 : decode cX5_lien 31 = .ok (.ifCond .gt 7, 3) := by decide +kernel
theorem dX5_lien_34 : decode cX5_lien 34 = .ok (.iconst 1, 1) := by decide +kernel
theorem dX5_lien_35 : decode cX5_lien 35 = .ok (.goto 4, 3) := by decide +kernel
theorem dX5_lien_38 : decode cX5_lien 38 = .ok (.iconst 0, 1) := by decide +kernel
theorem dX5_lien_39 : decode cX5_lien 39 = .ok (.istore 6, 2) := by decide +kernel
theorem dX5_lien_41 : decode cX5_lien 41 = .ok (.aload_n 0, 1) := by decide +kernel
theorem dX5_lien_42 : decode cX5_lien 42 = .ok (.getfield 12, 3) := by decide +kernel
theorem dX5_lien_45 : decode cX5_lien 45 = .ok (.getfield 27, 3) := by decide +kernel
theorem dX5_lien_48 : decode cX5_lien 48 = .ok (.ifCond .ne 13, 3) := by decide +kernel
theorem dX5_lien_51 : decode cX5_lien 51 = .ok (.aload 5, 2) := by decide +kernel
theorem dX5_lien_53 : decode cX5_lien 53 = .ok (.ifnull 8, 3) := by decide +kernel
theorem dX5_lien_56 : decode cX5_lien 56 = .ok (.iload 6, 2) := by decide +kernel
theorem dX5_lien_58 : decode cX5_lien 58 = .ok (.ifCond .ne 5, 3) := by decide +kernel
theorem dX5_lien_61 : decode cX5_lien 61 = .ok (.iconst (-1), 1) := by decide +kernel
theorem dX5_lien_62 : decode cX5_lien 62 = .ok (.ireturn, 1) := by decide +kernel
theorem dX5_lien_63 : decode cX5_lien 63 = .ok (.aload 5, 2) := by decide +kernel
theorem dX5_lien_65 : decode cX5_lien 65 = .ok (.getfield 159, 3) := by decide +kernel
theorem dX5_lien_68 : decode cX5_lien 68 = .ok (.iload_n 2, 1) := by decide +kernel
theorem dX5_lien_69 : decode cX5_lien 69 = .ok (.lload_n 3, 1) := by decide +kernel
theorem dX5_lien_70 : decode cX5_lien 70 = .ok (.invokevirtual 186, 3) := by decide +kernel
theorem dX5_lien_73 : decode cX5_lien 73 = .ok (.ireturn, 1) := by decide +kernel
set_option maxRecDepth 20000 in
theorem ggX5_heir_X0_claimAt : GoodIn wsX5_heir wsX0_claimAt := goodIn_r _ [8, 9, 10, 21, 22, 23, 24, 25, 26, 27, 28, 29, 30] (by decide +kernel) (by decide +kernel)
set_option maxRecDepth 20000 in
theorem gX5_heir_X0_claimAt : GoodIn wsX5_heir (wsV RX5 95 RX0 yX0_claimAt wsX0_claimAt) := goodIn_app (goodIn_of _ (by decide +kernel)) ggX5_heir_X0_claimAt
set_option maxRecDepth 20000 in
theorem ggX5_heir_X3_addHeir : GoodIn wsX5_heir wsX3_addHeir := goodIn_r _ [15, 16, 17, 40, 41, 42, 43, 44, 45, 46, 47, 48, 49, 50] (by decide +kernel) (by decide +kernel)
set_option maxRecDepth 20000 in
theorem gX5_heir_X3_addHeir : GoodIn wsX5_heir (wsV RX5 190 RX3 yX3_addHeir wsX3_addHeir) := goodIn_app (goodIn_of _ (by decide +kernel)) ggX5_heir_X3_addHeir
theorem dX5_heir_0 : decode cX5_heir 0 = .ok (.aload_n 0, 1) := by decide +kernel
theorem dX5_heir_1 : decode cX5_heir 1 = .ok (.getfield 12, 3) := by decide +kernel
theorem dX5_heir_4 : decode cX5_heir 4 = .ok (.iload_n 1, 1) := by decide +kernel
theorem dX5_heir_5 : decode cX5_heir 5 = .ok (.invokevirtual 95, 3) := by decide +kernel
theorem dX5_heir_8 : decode cX5_heir 8 = .ok (.astore_n 3, 1) := by decide +kernel
theorem dX5_heir_9 : decode cX5_heir 9 = .ok (.aload_n 0, 1) := by decide +kernel
theorem dX5_heir_10 : decode cX5_heir 10 = .ok (.getfield 12, 3) := by decide +kernel
theorem dX5_heir_13 : decode cX5_heir 13 = .ok (.getfield 27, 3) := by decide +kernel
theorem dX5_heir_16 : decode cX5_heir 16 = .ok (.ifCond .ne 18, 3) := by decide +kernel
theorem dX5_heir_19 : decode cX5_heir 19 = .ok (.aload_n 3, 1) := by decide +kernel
theorem dX5_heir_20 : decode cX5_heir 20 = .ok (.ifnull 14, 3) := by decide +kernel
theorem dX5_heir_23 : decode cX5_heir 23 = .ok (.iload_n 2, 1) := by decide +kernel
theorem dX5_heir_24 : decode cX5_heir 24 = .ok (.iconst 1, 1) := by decide +kernel
theorem dX5_heir_25 : decode cX5_heir 25 = .ok (.if_icmp .lt 9, 3) := by decide +kernel
theorem dX5_heir_28 : decode cX5_heir 28 = .ok (.iload_n 2, 1) := by decide +kernel
theorem dX5_heir_29 : decode cX5_heir 29 = .ok (.bipush 9, 2) := by decide +kernel
theorem dX5_heir_31 : decode cX5_heir 31 = .ok (.if_icmp .le 5, 3) := by decide +kernel
theorem dX5_heir_34 : decode cX5_heir 34 = .ok (.iconst (-1), 1) := by decide +kernel
theorem dX5_heir_35 : decode cX5_heir 35 = .ok (.ireturn, 1) := by decide +kernel
theorem dX5_heir_36 : decode cX5_heir 36 = .ok (.aload_n 3, 1) := by decide +kernel
theorem dX5_heir_37 : decode cX5_heir 37 = .ok (.getfield 159, 3) := by decide +kernel
theorem dX5_heir_40 : decode cX5_heir 40 = .ok (.iload_n 2, 1) := by decide +kernel
theorem dX5_heir_41 : decode cX5_heir 41 = .ok (.invokevirtual 190, 3) := by decide +kernel
theorem dX5_heir_44 : decode cX5_heir 44 = .ok (.ireturn, 1) := by decide +kernel
set_option maxRecDepth 20000 in
theorem ggX5_wave_X0_payWave : GoodIn wsX5_wave wsX0_payWave := goodIn_r _ [8, 9, 10, 11, 12, 13, 14, 15, 16, 17, 7, 18, 19, 20, 21, 22, 23, 24, 25, 26, 27, 28, 29, 30, 31, 32, 33, 34, 35, 36, 37, 38, 39, 40, 41, 42, 43, 44, 45, 46, 47, 48, 49, 50, 51, 52, 53, 54, 55, 56, 57, 58, 59, 60, 61, 62, 63, 64, 65, 66, 70, 71, 72, 73, 74, 75, 76, 77, 78, 79, 80, 81, 82, 83, 84, 85, 86, 87, 88, 89, 90, 91, 92, 93, 94, 95, 96, 97, 98, 99] (by decide +kernel) (by decide +kernel)
set_option maxRecDepth 20000 in
theorem gX5_wave_X0_payWave : GoodIn wsX5_wave (wsV RX5 194 RX0 yX0_payWave wsX0_payWave) := goodIn_app (goodIn_of _ (by decide +kernel)) ggX5_wave_X0_payWave
theorem dX5_wave_0 : decode cX5_wave 0 = .ok (.aload_n 0, 1) := by decide +kernel
theorem dX5_wave_1 : decode cX5_wave 1 = .ok (.getfield 12, 3) := by decide +kernel
theorem dX5_wave_4 : decode cX5_wave 4 = .ok (.getfield 27, 3) := by decide +kernel
theorem dX5_wave_7 : decode cX5_wave 7 = .ok (.ifCond .ne 14, 3) := by decide +kernel
theorem dX5_wave_10 : decode cX5_wave 10 = .ok (.iload_n 1, 1) := by decide +kernel
theorem dX5_wave_11 : decode cX5_wave 11 = .ok (.iconst 1, 1) := by decide +kernel
theorem dX5_wave_12 : decode cX5_wave 12 = .ok (.if_icmp .lt 9, 3) := by decide +kernel
theorem dX5_wave_15 : decode cX5_wave 15 = .ok (.iload_n 1, 1) := by decide +kernel
theorem dX5_wave_16 : decode cX5_wave 16 = .ok (.bipush 100, 2) := by decide +kernel
theorem dX5_wave_18 : decode cX5_wave 18 = .ok (.if_icmp .le 7, 3) := by decide +kernel
theorem dX5_wave_21 : decode cX5_wave 21 = .ok (.ldc2_w 174, 3) := by decide +kernel
theorem dX5_wave_24 : decode cX5_wave 24 = .ok (.lreturn, 1) := by decide +kernel
theorem dX5_wave_25 : decode cX5_wave 25 = .ok (.aload_n 0, 1) := by decide +kernel
theorem dX5_wave_26 : decode cX5_wave 26 = .ok (.getfield 12, 3) := by decide +kernel
theorem dX5_wave_29 : decode cX5_wave 29 = .ok (.iload_n 1, 1) := by decide +kernel
theorem dX5_wave_30 : decode cX5_wave 30 = .ok (.invokevirtual 194, 3) := by decide +kernel
theorem dX5_wave_33 : decode cX5_wave 33 = .ok (.lreturn, 1) := by decide +kernel
set_option maxRecDepth 20000 in
theorem ggX5_finish_X0_inState : GoodIn wsX5_finish wsX0_inState := goodIn_r _ [8, 9, 10, 86, 87, 88, 89, 90, 91, 92, 93, 94, 95, 96, 97, 98, 99, 100, 101, 102, 103, 104] (by decide +kernel) (by decide +kernel)
set_option maxRecDepth 20000 in
theorem gX5_finish_X0_inState : GoodIn wsX5_finish (wsV RX5 197 RX0 yX0_inState wsX0_inState) := goodIn_app (goodIn_of _ (by decide +kernel)) ggX5_finish_X0_inState
set_option maxRecDepth 20000 in
theorem ggX5_finish_X0_payAll : GoodIn wsX5_finish wsX0_payAll := goodIn_r _ [14, 15, 9, 10, 16, 17, 18, 19, 20, 21, 7, 22, 23, 24, 25, 26, 27, 28, 29, 30, 31, 32, 33, 34, 35, 36, 37, 38, 39, 40, 41, 42, 43, 44, 45, 46, 47, 48, 49, 50, 51, 52, 53, 54, 55, 56, 57, 58, 59, 60, 61, 62, 63, 64, 65, 66, 67, 68, 69, 70, 71, 72, 73, 74, 75, 76, 77, 78, 79, 80, 81, 82, 86, 87, 88, 89, 90, 91, 92, 93, 94, 95, 96, 97, 98, 99, 100, 101, 102, 103, 104, 105, 106, 107, 108, 109, 110, 111, 112, 113, 114, 115] (by decide +kernel) (by decide +kernel)
set_option maxRecDepth 20000 in
theorem gX5_finish_X0_payAll : GoodIn wsX5_finish (wsV RX5 200 RX0 yX0_payAll wsX0_payAll) := goodIn_app (goodIn_of _ (by decide +kernel)) ggX5_finish_X0_payAll
theorem dX5_finish_0 : decode cX5_finish 0 = .ok (.aload_n 0, 1) := by decide +kernel
theorem dX5_finish_1 : decode cX5_finish 1 = .ok (.getfield 12, 3) := by decide +kernel
theorem dX5_finish_4 : decode cX5_finish 4 = .ok (.getfield 27, 3) := by decide +kernel
theorem dX5_finish_7 : decode cX5_finish 7 = .ok (.ifCond .ne 14, 3) := by decide +kernel
theorem dX5_finish_10 : decode cX5_finish 10 = .ok (.aload_n 0, 1) := by decide +kernel
theorem dX5_finish_11 : decode cX5_finish 11 = .ok (.getfield 12, 3) := by decide +kernel
theorem dX5_finish_14 : decode cX5_finish 14 = .ok (.iconst 0, 1) := by decide +kernel
theorem dX5_finish_15 : decode cX5_finish 15 = .ok (.invokevirtual 197, 3) := by decide +kernel
theorem dX5_finish_18 : decode cX5_finish 18 = .ok (.ifCond .le 7, 3) := by decide +kernel
theorem dX5_finish_21 : decode cX5_finish 21 = .ok (.ldc2_w 174, 3) := by decide +kernel
theorem dX5_finish_24 : decode cX5_finish 24 = .ok (.lreturn, 1) := by decide +kernel
theorem dX5_finish_25 : decode cX5_finish 25 = .ok (.aload_n 0, 1) := by decide +kernel
theorem dX5_finish_26 : decode cX5_finish 26 = .ok (.getfield 12, 3) := by decide +kernel
theorem dX5_finish_29 : decode cX5_finish 29 = .ok (.invokevirtual 200, 3) := by decide +kernel
theorem dX5_finish_32 : decode cX5_finish 32 = .ok (.lreturn, 1) := by decide +kernel
set_option maxRecDepth 20000 in
theorem ggX5_sum_X0_paidInAll : GoodIn wsX5_sum wsX0_paidInAll := goodIn_r _ [8, 9, 10, 11, 25, 26, 27, 28, 29, 30, 31, 32, 33, 34, 35, 36, 37, 38, 39, 40, 41, 42, 43, 44, 45, 46, 47, 48, 49, 50, 51, 52, 53, 54] (by decide +kernel) (by decide +kernel)
set_option maxRecDepth 20000 in
theorem gX5_sum_X0_paidInAll : GoodIn wsX5_sum (wsV RX5 33 RX0 yX0_paidInAll wsX0_paidInAll) := goodIn_app (goodIn_of _ (by decide +kernel)) ggX5_sum_X0_paidInAll
set_option maxRecDepth 20000 in
theorem ggX5_sum_X0_mostInAll : GoodIn wsX5_sum wsX0_mostInAll := goodIn_r _ [15, 9, 16, 25, 26, 27, 28, 29, 30, 31, 32, 33, 34, 35, 36, 37, 38, 39, 40, 41, 42, 43] (by decide +kernel) (by decide +kernel)
set_option maxRecDepth 20000 in
theorem gX5_sum_X0_mostInAll : GoodIn wsX5_sum (wsV RX5 203 RX0 yX0_mostInAll wsX0_mostInAll) := goodIn_app (goodIn_of _ (by decide +kernel)) ggX5_sum_X0_mostInAll
set_option maxRecDepth 20000 in
theorem ggX5_sum_X0_leastInAll : GoodIn wsX5_sum wsX0_leastInAll := goodIn_r _ [20, 9, 21, 25, 26, 27, 28, 29, 30, 31, 32, 33, 34, 35, 36, 37, 38, 39, 40, 41, 42, 43] (by decide +kernel) (by decide +kernel)
set_option maxRecDepth 20000 in
theorem gX5_sum_X0_leastInAll : GoodIn wsX5_sum (wsV RX5 206 RX0 yX0_leastInAll wsX0_leastInAll) := goodIn_app (goodIn_of _ (by decide +kernel)) ggX5_sum_X0_leastInAll
theorem dX5_sum_0 : decode cX5_sum 0 = .ok (.iload_n 1, 1) := by decide +kernel
theorem dX5_sum_1 : decode cX5_sum 1 = .ok (.tableswitch 63 0 3 #[31, 39, 47, 55], 31) := by decide +kernel
theorem dX5_sum_32 : decode cX5_sum 32 = .ok (.aload_n 0, 1) := by decide +kernel
theorem dX5_sum_33 : decode cX5_sum 33 = .ok (.getfield 12, 3) := by decide +kernel
theorem dX5_sum_36 : decode cX5_sum 36 = .ok (.getfield 37, 3) := by decide +kernel
theorem dX5_sum_39 : decode cX5_sum 39 = .ok (.lreturn, 1) := by decide +kernel
theorem dX5_sum_40 : decode cX5_sum 40 = .ok (.aload_n 0, 1) := by decide +kernel
theorem dX5_sum_41 : decode cX5_sum 41 = .ok (.getfield 12, 3) := by decide +kernel
theorem dX5_sum_44 : decode cX5_sum 44 = .ok (.invokevirtual 33, 3) := by decide +kernel
theorem dX5_sum_47 : decode cX5_sum 47 = .ok (.lreturn, 1) := by decide +kernel
theorem dX5_sum_48 : decode cX5_sum 48 = .ok (.aload_n 0, 1) := by decide +kernel
theorem dX5_sum_49 : decode cX5_sum 49 = .ok (.getfield 12, 3) := by decide +kernel
theorem dX5_sum_52 : decode cX5_sum 52 = .ok (.invokevirtual 203, 3) := by decide +kernel
theorem dX5_sum_55 : decode cX5_sum 55 = .ok (.lreturn, 1) := by decide +kernel
theorem dX5_sum_56 : decode cX5_sum 56 = .ok (.aload_n 0, 1) := by decide +kernel
theorem dX5_sum_57 : decode cX5_sum 57 = .ok (.getfield 12, 3) := by decide +kernel
theorem dX5_sum_60 : decode cX5_sum 60 = .ok (.invokevirtual 206, 3) := by decide +kernel
theorem dX5_sum_63 : decode cX5_sum 63 = .ok (.lreturn, 1) := by decide +kernel
theorem dX5_sum_64 : decode cX5_sum 64 = .ok (.ldc2_w 174, 3) := by decide +kernel
theorem dX5_sum_67 : decode cX5_sum 67 = .ok (.lreturn, 1) := by decide +kernel
set_option maxRecDepth 20000 in
theorem ggX5_count_X0_inState : GoodIn wsX5_count wsX0_inState := goodIn_r _ [11, 12, 13, 17, 18, 19, 20, 21, 22, 23, 24, 25, 26, 35, 36, 37, 38, 39, 40, 41, 42, 43] (by decide +kernel) (by decide +kernel)
set_option maxRecDepth 20000 in
theorem gX5_count_X0_inState : GoodIn wsX5_count (wsV RX5 197 RX0 yX0_inState wsX0_inState) := goodIn_app (goodIn_of _ (by decide +kernel)) ggX5_count_X0_inState
theorem dX5_count_0 : decode cX5_count 0 = .ok (.iload_n 1, 1) := by decide +kernel
theorem dX5_count_1 : decode cX5_count 1 = .ok (.tableswitch 113 0 6 #[43, 51, 60, 69, 78, 89, 97], 43) := by decide +kernel
theorem dX5_count_44 : decode cX5_count 44 = .ok (.aload_n 0, 1) := by decide +kernel
theorem dX5_count_45 : decode cX5_count 45 = .ok (.getfield 12, 3) := by decide +kernel
theorem dX5_count_48 : decode cX5_count 48 = .ok (.getfield 209, 3) := by decide +kernel
theorem dX5_count_51 : decode cX5_count 51 = .ok (.ireturn, 1) := by decide +kernel
theorem dX5_count_52 : decode cX5_count 52 = .ok (.aload_n 0, 1) := by decide +kernel
theorem dX5_count_53 : decode cX5_count 53 = .ok (.getfield 12, 3) := by decide +kernel
theorem dX5_count_56 : decode cX5_count 56 = .ok (.iconst 0, 1) := by decide +kernel
theorem dX5_count_57 : decode cX5_count 57 = .ok (.invokevirtual 197, 3) := by decide +kernel
theorem dX5_count_60 : decode cX5_count 60 = .ok (.ireturn, 1) := by decide +kernel
theorem dX5_count_61 : decode cX5_count 61 = .ok (.aload_n 0, 1) := by decide +kernel
theorem dX5_count_62 : decode cX5_count 62 = .ok (.getfield 12, 3) := by decide +kernel
theorem dX5_count_65 : decode cX5_count 65 = .ok (.iconst 1, 1) := by decide +kernel
theorem dX5_count_66 : decode cX5_count 66 = .ok (.invokevirtual 197, 3) := by decide +kernel
theorem dX5_count_69 : decode cX5_count 69 = .ok (.ireturn, 1) := by decide +kernel
theorem dX5_count_70 : decode cX5_count 70 = .ok (.aload_n 0, 1) := by decide +kernel
theorem dX5_count_71 : decode cX5_count 71 = .ok (.getfield 12, 3) := by decide +kernel
theorem dX5_count_74 : decode cX5_count 74 = .ok (.iconst 2, 1) := by decide +kernel
theorem dX5_count_75 : decode cX5_count 75 = .ok (.invokevirtual 197, 3) := by decide +kernel
theorem dX5_count_78 : decode cX5_count 78 = .ok (.ireturn, 1) := by decide +kernel
theorem dX5_count_79 : decode cX5_count 79 = .ok (.aload_n 0, 1) := by decide +kernel
theorem dX5_count_80 : decode cX5_count 80 = .ok (.getfield 12, 3) := by decide +kernel
theorem dX5_count_83 : decode cX5_count 83 = .ok (.getfield 71, 3) := by decide +kernel
theorem dX5_count_86 : decode cX5_count 86 = .ok (.getfield 82, 3) := by decide +kernel
theorem dX5_count_89 : decode cX5_count 89 = .ok (.ireturn, 1) := by decide +kernel
theorem dX5_count_90 : decode cX5_count 90 = .ok (.aload_n 0, 1) := by decide +kernel
theorem dX5_count_91 : decode cX5_count 91 = .ok (.getfield 12, 3) := by decide +kernel
theorem dX5_count_94 : decode cX5_count 94 = .ok (.getfield 212, 3) := by decide +kernel
theorem dX5_count_97 : decode cX5_count 97 = .ok (.ireturn, 1) := by decide +kernel
theorem dX5_count_98 : decode cX5_count 98 = .ok (.aload_n 0, 1) := by decide +kernel
theorem dX5_count_99 : decode cX5_count 99 = .ok (.getfield 12, 3) := by decide +kernel
theorem dX5_count_102 : decode cX5_count 102 = .ok (.getfield 27, 3) := by decide +kernel
theorem dX5_count_105 : decode cX5_count 105 = .ok (.ifCond .eq 7, 3) := by decide +kernel
theorem dX5_count_108 : decode cX5_count 108 = .ok (.iconst 1, 1) := by decide +kernel
theorem dX5_count_109 : decode cX5_count 109 = .ok (.goto 4, 3) := by decide +kernel
theorem dX5_count_112 : decode cX5_count 112 = .ok (.iconst 0, 1) := by decide +kernel
theorem dX5_count_113 : decode cX5_count 113 = .ok (.ireturn, 1) := by decide +kernel
theorem dX5_count_114 : decode cX5_count 114 = .ok (.iconst (-1), 1) := by decide +kernel
theorem dX5_count_115 : decode cX5_count 115 = .ok (.ireturn, 1) := by decide +kernel
set_option maxRecDepth 20000 in
theorem ggX5_image_X0_init : GoodIn wsX5_image wsX0_init := goodIn_r _ [8, 9, 10, 11, 12, 13, 14, 15, 16, 17, 18, 19, 20, 21, 22, 23, 24, 25, 26, 27, 28, 29, 30, 31, 32, 33, 34, 35, 36, 37, 38, 39, 40, 41, 42, 43, 44, 45, 46, 47, 48, 49, 50, 51, 52, 53, 98, 99, 100, 101, 102, 103, 104, 105, 106, 107, 108, 109, 110, 111, 112, 113, 114, 115, 116, 117, 118, 119, 120, 121, 122, 123, 124, 125, 126, 127, 128, 129, 130, 131, 132, 133, 134, 135] (by decide +kernel) (by decide +kernel)
set_option maxRecDepth 20000 in
theorem gX5_image_X0_init : GoodIn wsX5_image (wsX0_init) := ggX5_image_X0_init
set_option maxRecDepth 20000 in
theorem ggX5_image_X0_copyFrom : GoodIn wsX5_image wsX0_copyFrom := goodIn_r _ [57, 13, 15, 58, 59, 60, 61, 62, 19, 63, 20, 22, 64, 65, 66, 67, 68, 69, 18, 70, 71, 29, 72, 30, 31, 32, 33, 34, 36, 73, 74, 75, 24, 76, 77, 78, 79, 80, 81, 40, 82, 83, 44, 84, 85, 86, 43, 87, 88, 89, 90, 91, 92, 93, 48, 94, 50, 51, 52, 53, 98, 99, 100, 101, 102, 103, 104, 105, 106, 107, 108, 109, 110, 111, 112, 113, 114, 115, 116, 117, 118, 119, 120, 121, 122, 123, 124, 125, 126, 127, 128, 129, 130, 131, 132, 133, 134, 135] (by decide +kernel) (by decide +kernel)
set_option maxRecDepth 20000 in
theorem gX5_image_X0_copyFrom : GoodIn wsX5_image (wsV RX5 215 RX0 yX0_copyFrom wsX0_copyFrom) := goodIn_app (goodIn_of _ (by decide +kernel)) ggX5_image_X0_copyFrom
theorem dX5_image_0 : decode cX5_image 0 = .ok (.iload_n 1, 1) := by decide +kernel
theorem dX5_image_1 : decode cX5_image 1 = .ok (.ifCond .lt 8, 3) := by decide +kernel
theorem dX5_image_4 : decode cX5_image 4 = .ok (.iload_n 1, 1) := by decide +kernel
theorem dX5_image_5 : decode cX5_image 5 = .ok (.iconst 3, 1) := by decide +kernel
theorem dX5_image_6 : decode cX5_image 6 = .ok (.if_icmp .lt 5, 3) := by decide +kernel
theorem dX5_image_9 : decode cX5_image 9 = .ok (.iconst 0, 1) := by decide +kernel
theorem dX5_image_10 : decode cX5_image 10 = .ok (.ireturn, 1) := by decide +kernel
theorem dX5_image_11 : decode cX5_image 11 = .ok (.aload_n 0, 1) := by decide +kernel
theorem dX5_image_12 : decode cX5_image 12 = .ok (.getfield 16, 3) := by decide +kernel
theorem dX5_image_15 : decode cX5_image 15 = .ok (.iload_n 1, 1) := by decide +kernel
theorem dX5_image_16 : decode cX5_image 16 = .ok (.aaload, 1) := by decide +kernel
theorem dX5_image_17 : decode cX5_image 17 = .ok (.astore_n 2, 1) := by decide +kernel
theorem dX5_image_18 : decode cX5_image 18 = .ok (.aload_n 2, 1) := by decide +kernel
theorem dX5_image_19 : decode cX5_image 19 = .ok (.ifnonnull 18, 3) := by decide +kernel
theorem dX5_image_22 : decode cX5_image 22 = .ok (.new 9, 3) := by decide +kernel
theorem dX5_image_25 : decode cX5_image 25 = .ok (.dup, 1) := by decide +kernel
theorem dX5_image_26 : decode cX5_image 26 = .ok (.invokespecial 11, 3) := by decide +kernel
theorem dX5_image_29 : decode cX5_image 29 = .ok (.astore_n 2, 1) := by decide +kernel
theorem dX5_image_30 : decode cX5_image 30 = .ok (.aload_n 0, 1) := by decide +kernel
theorem dX5_image_31 : decode cX5_image 31 = .ok (.getfield 16, 3) := by decide +kernel
theorem dX5_image_34 : decode cX5_image 34 = .ok (.iload_n 1, 1) := by decide +kernel
theorem dX5_image_35 : decode cX5_image 35 = .ok (.aload_n 2, 1) := by decide +kernel
theorem dX5_image_36 : decode cX5_image 36 = .ok (.aastore, 1) := by decide +kernel
theorem dX5_image_37 : decode cX5_image 37 = .ok (.aload_n 2, 1) := by decide +kernel
theorem dX5_image_38 : decode cX5_image 38 = .ok (.aload_n 0, 1) := by decide +kernel
theorem dX5_image_39 : decode cX5_image 39 = .ok (.getfield 12, 3) := by decide +kernel
theorem dX5_image_42 : decode cX5_image 42 = .ok (.invokevirtual 215, 3) := by decide +kernel
theorem dX5_image_45 : decode cX5_image 45 = .ok (.iconst 1, 1) := by decide +kernel
theorem dX5_image_46 : decode cX5_image 46 = .ok (.ireturn, 1) := by decide +kernel
set_option maxRecDepth 20000 in
theorem ggX5_again_X0_copyFrom : GoodIn wsX5_again wsX0_copyFrom := goodIn_r _ [7, 8, 9, 10, 11, 12, 13, 14, 15, 16, 17, 18, 19, 20, 21, 22, 23, 24, 25, 26, 27, 28, 29, 30, 31, 32, 33, 34, 35, 36, 37, 38, 39, 40, 41, 42, 43, 44, 45, 46, 47, 48, 49, 50, 51, 52, 53, 54, 55, 56, 57, 58, 59, 60, 61, 62, 63, 64, 65, 66, 70, 71, 72, 73, 74, 75, 76, 77, 78, 79, 80, 81, 82, 83, 84, 85, 86, 87, 88, 89, 90, 91, 92, 93, 94, 95, 96, 97, 98, 99, 100, 101, 102, 103, 104, 105, 106, 107] (by decide +kernel) (by decide +kernel)
set_option maxRecDepth 20000 in
theorem gX5_again_X0_copyFrom : GoodIn wsX5_again (wsV RX5 215 RX0 yX0_copyFrom wsX0_copyFrom) := goodIn_app (goodIn_of _ (by decide +kernel)) ggX5_again_X0_copyFrom
theorem dX5_again_0 : decode cX5_again 0 = .ok (.iload_n 1, 1) := by decide +kernel
theorem dX5_again_1 : decode cX5_again 1 = .ok (.ifCond .lt 8, 3) := by decide +kernel
theorem dX5_again_4 : decode cX5_again 4 = .ok (.iload_n 1, 1) := by decide +kernel
theorem dX5_again_5 : decode cX5_again 5 = .ok (.iconst 3, 1) := by decide +kernel
theorem dX5_again_6 : decode cX5_again 6 = .ok (.if_icmp .lt 5, 3) := by decide +kernel
theorem dX5_again_9 : decode cX5_again 9 = .ok (.iconst 0, 1) := by decide +kernel
theorem dX5_again_10 : decode cX5_again 10 = .ok (.ireturn, 1) := by decide +kernel
theorem dX5_again_11 : decode cX5_again 11 = .ok (.aload_n 0, 1) := by decide +kernel
theorem dX5_again_12 : decode cX5_again 12 = .ok (.getfield 16, 3) := by decide +kernel
theorem dX5_again_15 : decode cX5_again 15 = .ok (.iload_n 1, 1) := by decide +kernel
theorem dX5_again_16 : decode cX5_again 16 = .ok (.aaload, 1) := by decide +kernel
theorem dX5_again_17 : decode cX5_again 17 = .ok (.astore_n 2, 1) := by decide +kernel
theorem dX5_again_18 : decode cX5_again 18 = .ok (.aload_n 2, 1) := by decide +kernel
theorem dX5_again_19 : decode cX5_again 19 = .ok (.ifnonnull 5, 3) := by decide +kernel
theorem dX5_again_22 : decode cX5_again 22 = .ok (.iconst 0, 1) := by decide +kernel
theorem dX5_again_23 : decode cX5_again 23 = .ok (.ireturn, 1) := by decide +kernel
theorem dX5_again_24 : decode cX5_again 24 = .ok (.aload_n 0, 1) := by decide +kernel
theorem dX5_again_25 : decode cX5_again 25 = .ok (.getfield 12, 3) := by decide +kernel
theorem dX5_again_28 : decode cX5_again 28 = .ok (.aload_n 2, 1) := by decide +kernel
theorem dX5_again_29 : decode cX5_again 29 = .ok (.invokevirtual 215, 3) := by decide +kernel
theorem dX5_again_32 : decode cX5_again 32 = .ok (.iconst 1, 1) := by decide +kernel
theorem dX5_again_33 : decode cX5_again 33 = .ok (.ireturn, 1) := by decide +kernel
theorem dX5_areFacts_0 : decode cX5_areFacts 0 = .ok (.iload_n 0, 1) := by decide +kernel
theorem dX5_areFacts_1 : decode cX5_areFacts 1 = .ok (.ifCond .lt 43, 3) := by decide +kernel
theorem dX5_areFacts_4 : decode cX5_areFacts 4 = .ok (.iload_n 0, 1) := by decide +kernel
theorem dX5_areFacts_5 : decode cX5_areFacts 5 = .ok (.iconst 3, 1) := by decide +kernel
theorem dX5_areFacts_6 : decode cX5_areFacts 6 = .ok (.if_icmp .gt 38, 3) := by decide +kernel
theorem dX5_areFacts_9 : decode cX5_areFacts 9 = .ok (.iload_n 1, 1) := by decide +kernel
theorem dX5_areFacts_10 : decode cX5_areFacts 10 = .ok (.ifCond .lt 34, 3) := by decide +kernel
theorem dX5_areFacts_13 : decode cX5_areFacts 13 = .ok (.iload_n 1, 1) := by decide +kernel
theorem dX5_areFacts_14 : decode cX5_areFacts 14 = .ok (.bipush 60, 2) := by decide +kernel
theorem dX5_areFacts_16 : decode cX5_areFacts 16 = .ok (.if_icmp .gt 28, 3) := by decide +kernel
theorem dX5_areFacts_19 : decode cX5_areFacts 19 = .ok (.iload_n 2, 1) := by decide +kernel
theorem dX5_areFacts_20 : decode cX5_areFacts 20 = .ok (.ifCond .lt 24, 3) := by decide +kernel
theorem dX5_areFacts_23 : decode cX5_areFacts 23 = .ok (.iload_n 2, 1) := by decide +kernel
theorem dX5_areFacts_24 : decode cX5_areFacts 24 = .ok (.sipush 999, 3) := by decide +kernel
theorem dX5_areFacts_27 : decode cX5_areFacts 27 = .ok (.if_icmp .gt 17, 3) := by decide +kernel
theorem dX5_areFacts_30 : decode cX5_areFacts 30 = .ok (.iload_n 3, 1) := by decide +kernel
theorem dX5_areFacts_31 : decode cX5_areFacts 31 = .ok (.ifCond .lt 13, 3) := by decide +kernel
theorem dX5_areFacts_34 : decode cX5_areFacts 34 = .ok (.iload_n 3, 1) := by decide +kernel
theorem dX5_areFacts_35 : decode cX5_areFacts 35 = .ok (.bipush 63, 2) := by decide +kernel
theorem dX5_areFacts_37 : decode cX5_areFacts 37 = .ok (.if_icmp .gt 7, 3) := by decide +kernel
theorem dX5_areFacts_40 : decode cX5_areFacts 40 = .ok (.iconst 1, 1) := by decide +kernel
theorem dX5_areFacts_41 : decode cX5_areFacts 41 = .ok (.goto 4, 3) := by decide +kernel
theorem dX5_areFacts_44 : decode cX5_areFacts 44 = .ok (.iconst 0, 1) := by decide +kernel
theorem dX5_areFacts_45 : decode cX5_areFacts 45 = .ok (.ireturn, 1) := by decide +kernel
theorem dX6_init_0 : decode cX6_init 0 = .ok (.aload_n 0, 1) := by decide +kernel
theorem dX6_init_1 : decode cX6_init 1 = .ok (.invokespecial 1, 3) := by decide +kernel
theorem dX6_init_4 : decode cX6_init 4 = .ok (.aload_n 0, 1) := by decide +kernel
theorem dX6_init_5 : decode cX6_init 5 = .ok (.sipush 1600, 3) := by decide +kernel
theorem dX6_init_8 : decode cX6_init 8 = .ok (.newarray .byte, 2) := by decide +kernel
theorem dX6_init_10 : decode cX6_init 10 = .ok (.putfield 7, 3) := by decide +kernel
theorem dX6_init_13 : decode cX6_init 13 = .ok (.aload_n 0, 1) := by decide +kernel
theorem dX6_init_14 : decode cX6_init 14 = .ok (.iconst 4, 1) := by decide +kernel
theorem dX6_init_15 : decode cX6_init 15 = .ok (.newarray .int, 2) := by decide +kernel
theorem dX6_init_17 : decode cX6_init 17 = .ok (.putfield 13, 3) := by decide +kernel
theorem dX6_init_20 : decode cX6_init 20 = .ok (.aload_n 0, 1) := by decide +kernel
theorem dX6_init_21 : decode cX6_init 21 = .ok (.iconst 4, 1) := by decide +kernel
theorem dX6_init_22 : decode cX6_init 22 = .ok (.newarray .int, 2) := by decide +kernel
theorem dX6_init_24 : decode cX6_init 24 = .ok (.putfield 17, 3) := by decide +kernel
theorem dX6_init_27 : decode cX6_init 27 = .ok (.aload_n 0, 1) := by decide +kernel
theorem dX6_init_28 : decode cX6_init 28 = .ok (.iconst 4, 1) := by decide +kernel
theorem dX6_init_29 : decode cX6_init 29 = .ok (.newarray .int, 2) := by decide +kernel
theorem dX6_init_31 : decode cX6_init 31 = .ok (.putfield 20, 3) := by decide +kernel
theorem dX6_init_34 : decode cX6_init 34 = .ok (.aload_n 0, 1) := by decide +kernel
theorem dX6_init_35 : decode cX6_init 35 = .ok (.iconst 4, 1) := by decide +kernel
theorem dX6_init_36 : decode cX6_init 36 = .ok (.newarray .long, 2) := by decide +kernel
theorem dX6_init_38 : decode cX6_init 38 = .ok (.putfield 23, 3) := by decide +kernel
theorem dX6_init_41 : decode cX6_init 41 = .ok (.aload_n 0, 1) := by decide +kernel
theorem dX6_init_42 : decode cX6_init 42 = .ok (.iconst 4, 1) := by decide +kernel
theorem dX6_init_43 : decode cX6_init 43 = .ok (.newarray .int, 2) := by decide +kernel
theorem dX6_init_45 : decode cX6_init 45 = .ok (.putfield 27, 3) := by decide +kernel
theorem dX6_init_48 : decode cX6_init 48 = .ok (.aload_n 0, 1) := by decide +kernel
theorem dX6_init_49 : decode cX6_init 49 = .ok (.iconst 4, 1) := by decide +kernel
theorem dX6_init_50 : decode cX6_init 50 = .ok (.newarray .int, 2) := by decide +kernel
theorem dX6_init_52 : decode cX6_init 52 = .ok (.putfield 30, 3) := by decide +kernel
theorem dX6_init_55 : decode cX6_init 55 = .ok (.aload_n 0, 1) := by decide +kernel
theorem dX6_init_56 : decode cX6_init 56 = .ok (.iconst 4, 1) := by decide +kernel
theorem dX6_init_57 : decode cX6_init 57 = .ok (.newarray .boolean, 2) := by decide +kernel
theorem dX6_init_59 : decode cX6_init 59 = .ok (.putfield 33, 3) := by decide +kernel
theorem dX6_init_62 : decode cX6_init 62 = .ok (.aload_n 0, 1) := by decide +kernel
theorem dX6_init_63 : decode cX6_init 63 = .ok (.sipush 640, 3) := by decide +kernel
theorem dX6_init_66 : decode cX6_init 66 = .ok (.newarray .int, 2) := by decide +kernel
theorem dX6_init_68 : decode cX6_init 68 = .ok (.putfield 37, 3) := by decide +kernel
theorem dX6_init_71 : decode cX6_init 71 = .ok (.aload_n 0, 1) := by decide +kernel
theorem dX6_init_72 : decode cX6_init 72 = .ok (.bipush 64, 2) := by decide +kernel
theorem dX6_init_74 : decode cX6_init 74 = .ok (.newarray .long, 2) := by decide +kernel
theorem dX6_init_76 : decode cX6_init 76 = .ok (.putfield 40, 3) := by decide +kernel
theorem dX6_init_79 : decode cX6_init 79 = .ok (.aload_n 0, 1) := by decide +kernel
theorem dX6_init_80 : decode cX6_init 80 = .ok (.bipush 64, 2) := by decide +kernel
theorem dX6_init_82 : decode cX6_init 82 = .ok (.newarray .long, 2) := by decide +kernel
theorem dX6_init_84 : decode cX6_init 84 = .ok (.putfield 43, 3) := by decide +kernel
theorem dX6_init_87 : decode cX6_init 87 = .ok (.aload_n 0, 1) := by decide +kernel
theorem dX6_init_88 : decode cX6_init 88 = .ok (.bipush 64, 2) := by decide +kernel
theorem dX6_init_90 : decode cX6_init 90 = .ok (.newarray .long, 2) := by decide +kernel
theorem dX6_init_92 : decode cX6_init 92 = .ok (.putfield 46, 3) := by decide +kernel
theorem dX6_init_95 : decode cX6_init 95 = .ok (.aload_n 0, 1) := by decide +kernel
theorem dX6_init_96 : decode cX6_init 96 = .ok (.sipush 256, 3) := by decide +kernel
theorem dX6_init_99 : decode cX6_init 99 = .ok (.newarray .int, 2) := by decide +kernel
theorem dX6_init_101 : decode cX6_init 101 = .ok (.putfield 49, 3) := by decide +kernel
theorem dX6_init_104 : decode cX6_init 104 = .ok (.aload_n 0, 1) := by decide +kernel
theorem dX6_init_105 : decode cX6_init 105 = .ok (.sipush 256, 3) := by decide +kernel
theorem dX6_init_108 : decode cX6_init 108 = .ok (.newarray .long, 2) := by decide +kernel
theorem dX6_init_110 : decode cX6_init 110 = .ok (.putfield 52, 3) := by decide +kernel
theorem dX6_init_113 : decode cX6_init 113 = .ok (.aload_n 0, 1) := by decide +kernel
theorem dX6_init_114 : decode cX6_init 114 = .ok (.sipush 256, 3) := by decide +kernel
theorem dX6_init_117 : decode cX6_init 117 = .ok (.newarray .long, 2) := by decide +kernel
theorem dX6_init_119 : decode cX6_init 119 = .ok (.putfield 55, 3) := by decide +kernel
theorem dX6_init_122 : decode cX6_init 122 = .ok (.aload_n 0, 1) := by decide +kernel
theorem dX6_init_123 : decode cX6_init 123 = .ok (.sipush 256, 3) := by decide +kernel
theorem dX6_init_126 : decode cX6_init 126 = .ok (.newarray .int, 2) := by decide +kernel
theorem dX6_init_128 : decode cX6_init 128 = .ok (.putfield 58, 3) := by decide +kernel
theorem dX6_init_131 : decode cX6_init 131 = .ok (.aload_n 0, 1) := by decide +kernel
theorem dX6_init_132 : decode cX6_init 132 = .ok (.sipush 256, 3) := by decide +kernel
theorem dX6_init_135 : decode cX6_init 135 = .ok (.newarray .long, 2) := by decide +kernel
theorem dX6_init_137 : decode cX6_init 137 = .ok (.putfield 61, 3) := by decide +kernel
theorem dX6_init_140 : decode cX6_init 140 = .ok (.aload_n 0, 1) := by decide +kernel
theorem dX6_init_141 : decode cX6_init 141 = .ok (.iconst 4, 1) := by decide +kernel
theorem dX6_init_142 : decode cX6_init 142 = .ok (.newarray .int, 2) := by decide +kernel
theorem dX6_init_144 : decode cX6_init 144 = .ok (.putfield 64, 3) := by decide +kernel
theorem dX6_init_147 : decode cX6_init 147 = .ok (.aload_n 0, 1) := by decide +kernel
theorem dX6_init_148 : decode cX6_init 148 = .ok (.bipush 64, 2) := by decide +kernel
theorem dX6_init_150 : decode cX6_init 150 = .ok (.newarray .int, 2) := by decide +kernel
theorem dX6_init_152 : decode cX6_init 152 = .ok (.putfield 67, 3) := by decide +kernel
theorem dX6_init_155 : decode cX6_init 155 = .ok (.aload_n 0, 1) := by decide +kernel
theorem dX6_init_156 : decode cX6_init 156 = .ok (.sipush 256, 3) := by decide +kernel
theorem dX6_init_159 : decode cX6_init 159 = .ok (.newarray .int, 2) := by decide +kernel
theorem dX6_init_161 : decode cX6_init 161 = .ok (.putfield 70, 3) := by decide +kernel
theorem dX6_init_164 : decode cX6_init 164 = .ok (.aload_n 0, 1) := by decide +kernel
theorem dX6_init_165 : decode cX6_init 165 = .ok (.sipush 256, 3) := by decide +kernel
theorem dX6_init_168 : decode cX6_init 168 = .ok (.newarray .int, 2) := by decide +kernel
theorem dX6_init_170 : decode cX6_init 170 = .ok (.putfield 73, 3) := by decide +kernel
theorem dX6_init_173 : decode cX6_init 173 = .ok (.aload_n 0, 1) := by decide +kernel
theorem dX6_init_174 : decode cX6_init 174 = .ok (.sipush 256, 3) := by decide +kernel
theorem dX6_init_177 : decode cX6_init 177 = .ok (.newarray .int, 2) := by decide +kernel
theorem dX6_init_179 : decode cX6_init 179 = .ok (.putfield 76, 3) := by decide +kernel
theorem dX6_init_182 : decode cX6_init 182 = .ok (.aload_n 0, 1) := by decide +kernel
theorem dX6_init_183 : decode cX6_init 183 = .ok (.bipush 64, 2) := by decide +kernel
theorem dX6_init_185 : decode cX6_init 185 = .ok (.newarray .int, 2) := by decide +kernel
theorem dX6_init_187 : decode cX6_init 187 = .ok (.putfield 79, 3) := by decide +kernel
theorem dX6_init_190 : decode cX6_init 190 = .ok (.aload_n 0, 1) := by decide +kernel
theorem dX6_init_191 : decode cX6_init 191 = .ok (.bipush 64, 2) := by decide +kernel
theorem dX6_init_193 : decode cX6_init 193 = .ok (.newarray .int, 2) := by decide +kernel
theorem dX6_init_195 : decode cX6_init 195 = .ok (.putfield 82, 3) := by decide +kernel
theorem dX6_init_198 : decode cX6_init 198 = .ok (.aload_n 0, 1) := by decide +kernel
theorem dX6_init_199 : decode cX6_init 199 = .ok (.bipush 17, 2) := by decide +kernel
theorem dX6_init_201 : decode cX6_init 201 = .ok (.newarray .int, 2) := by decide +kernel
theorem dX6_init_203 : decode cX6_init 203 = .ok (.putfield 85, 3) := by decide +kernel
theorem dX6_init_206 : decode cX6_init 206 = .ok (.aload_n 0, 1) := by decide +kernel
theorem dX6_init_207 : decode cX6_init 207 = .ok (.bipush 64, 2) := by decide +kernel
theorem dX6_init_209 : decode cX6_init 209 = .ok (.newarray .int, 2) := by decide +kernel
theorem dX6_init_211 : decode cX6_init 211 = .ok (.putfield 88, 3) := by decide +kernel
theorem dX6_init_214 : decode cX6_init 214 = .ok (.aload_n 0, 1) := by decide +kernel
theorem dX6_init_215 : decode cX6_init 215 = .ok (.bipush 64, 2) := by decide +kernel
theorem dX6_init_217 : decode cX6_init 217 = .ok (.newarray .int, 2) := by decide +kernel
theorem dX6_init_219 : decode cX6_init 219 = .ok (.putfield 91, 3) := by decide +kernel
theorem dX6_init_222 : decode cX6_init 222 = .ok (.aload_n 0, 1) := by decide +kernel
theorem dX6_init_223 : decode cX6_init 223 = .ok (.bipush 64, 2) := by decide +kernel
theorem dX6_init_225 : decode cX6_init 225 = .ok (.newarray .int, 2) := by decide +kernel
theorem dX6_init_227 : decode cX6_init 227 = .ok (.putfield 94, 3) := by decide +kernel
theorem dX6_init_230 : decode cX6_init 230 = .ok (.aload_n 0, 1) := by decide +kernel
theorem dX6_init_231 : decode cX6_init 231 = .ok (.bipush 17, 2) := by decide +kernel
theorem dX6_init_233 : decode cX6_init 233 = .ok (.newarray .int, 2) := by decide +kernel
theorem dX6_init_235 : decode cX6_init 235 = .ok (.putfield 97, 3) := by decide +kernel
theorem dX6_init_238 : decode cX6_init 238 = .ok (.aload_n 0, 1) := by decide +kernel
theorem dX6_init_239 : decode cX6_init 239 = .ok (.bipush 17, 2) := by decide +kernel
theorem dX6_init_241 : decode cX6_init 241 = .ok (.newarray .int, 2) := by decide +kernel
theorem dX6_init_243 : decode cX6_init 243 = .ok (.putfield 100, 3) := by decide +kernel
theorem dX6_init_246 : decode cX6_init 246 = .ok (.aload_n 0, 1) := by decide +kernel
theorem dX6_init_247 : decode cX6_init 247 = .ok (.bipush 16, 2) := by decide +kernel
theorem dX6_init_249 : decode cX6_init 249 = .ok (.newarray .int, 2) := by decide +kernel
theorem dX6_init_251 : decode cX6_init 251 = .ok (.putfield 103, 3) := by decide +kernel
theorem dX6_init_254 : decode cX6_init 254 = .ok (.aload_n 0, 1) := by decide +kernel
theorem dX6_init_255 : decode cX6_init 255 = .ok (.bipush 64, 2) := by decide +kernel
theorem dX6_init_257 : decode cX6_init 257 = .ok (.newarray .int, 2) := by decide +kernel
theorem dX6_init_259 : decode cX6_init 259 = .ok (.putfield 106, 3) := by decide +kernel
theorem dX6_init_262 : decode cX6_init 262 = .ok (.aload_n 0, 1) := by decide +kernel
theorem dX6_init_263 : decode cX6_init 263 = .ok (.bipush 64, 2) := by decide +kernel
theorem dX6_init_265 : decode cX6_init 265 = .ok (.newarray .int, 2) := by decide +kernel
theorem dX6_init_267 : decode cX6_init 267 = .ok (.putfield 109, 3) := by decide +kernel
theorem dX6_init_270 : decode cX6_init 270 = .ok (.aload_n 0, 1) := by decide +kernel
theorem dX6_init_271 : decode cX6_init 271 = .ok (.bipush 64, 2) := by decide +kernel
theorem dX6_init_273 : decode cX6_init 273 = .ok (.newarray .int, 2) := by decide +kernel
theorem dX6_init_275 : decode cX6_init 275 = .ok (.putfield 112, 3) := by decide +kernel
theorem dX6_init_278 : decode cX6_init 278 = .ok (.aload_n 0, 1) := by decide +kernel
theorem dX6_init_279 : decode cX6_init 279 = .ok (.bipush 16, 2) := by decide +kernel
theorem dX6_init_281 : decode cX6_init 281 = .ok (.newarray .int, 2) := by decide +kernel
theorem dX6_init_283 : decode cX6_init 283 = .ok (.putfield 115, 3) := by decide +kernel
theorem dX6_init_286 : decode cX6_init 286 = .ok (.aload_n 0, 1) := by decide +kernel
theorem dX6_init_287 : decode cX6_init 287 = .ok (.bipush 16, 2) := by decide +kernel
theorem dX6_init_289 : decode cX6_init 289 = .ok (.newarray .int, 2) := by decide +kernel
theorem dX6_init_291 : decode cX6_init 291 = .ok (.putfield 118, 3) := by decide +kernel
theorem dX6_init_294 : decode cX6_init 294 = .ok (.aload_n 0, 1) := by decide +kernel
theorem dX6_init_295 : decode cX6_init 295 = .ok (.bipush 16, 2) := by decide +kernel
theorem dX6_init_297 : decode cX6_init 297 = .ok (.newarray .long, 2) := by decide +kernel
theorem dX6_init_299 : decode cX6_init 299 = .ok (.putfield 121, 3) := by decide +kernel
theorem dX6_init_302 : decode cX6_init 302 = .ok (.aload_n 0, 1) := by decide +kernel
theorem dX6_init_303 : decode cX6_init 303 = .ok (.iconst 3, 1) := by decide +kernel
theorem dX6_init_304 : decode cX6_init 304 = .ok (.newarray .boolean, 2) := by decide +kernel
theorem dX6_init_306 : decode cX6_init 306 = .ok (.putfield 124, 3) := by decide +kernel
theorem dX6_init_309 : decode cX6_init 309 = .ok (.aload_n 0, 1) := by decide +kernel
theorem dX6_init_310 : decode cX6_init 310 = .ok (.getfield 23, 3) := by decide +kernel
theorem dX6_init_313 : decode cX6_init 313 = .ok (.iconst 0, 1) := by decide +kernel
theorem dX6_init_314 : decode cX6_init 314 = .ok (.ldc2_w 127, 3) := by decide +kernel
theorem dX6_init_317 : decode cX6_init 317 = .ok (.lastore, 1) := by decide +kernel
theorem dX6_init_318 : decode cX6_init 318 = .ok (.aload_n 0, 1) := by decide +kernel
theorem dX6_init_319 : decode cX6_init 319 = .ok (.getfield 20, 3) := by decide +kernel
theorem dX6_init_322 : decode cX6_init 322 = .ok (.iconst 0, 1) := by decide +kernel
theorem dX6_init_323 : decode cX6_init 323 = .ok (.iconst (-1), 1) := by decide +kernel
theorem dX6_init_324 : decode cX6_init 324 = .ok (.iastore, 1) := by decide +kernel
theorem dX6_init_325 : decode cX6_init 325 = .ok (.return_, 1) := by decide +kernel
theorem dX6_in_0 : decode cX6_in 0 = .ok (.iload_n 0, 1) := by decide +kernel
theorem dX6_in_1 : decode cX6_in 1 = .ok (.iload_n 1, 1) := by decide +kernel
theorem dX6_in_2 : decode cX6_in 2 = .ok (.if_icmp .lt 12, 3) := by decide +kernel
theorem dX6_in_5 : decode cX6_in 5 = .ok (.iload_n 0, 1) := by decide +kernel
theorem dX6_in_6 : decode cX6_in 6 = .ok (.iload_n 2, 1) := by decide +kernel
theorem dX6_in_7 : decode cX6_in 7 = .ok (.if_icmp .gt 7, 3) := by decide +kernel
theorem dX6_in_10 : decode cX6_in 10 = .ok (.iconst 1, 1) := by decide +kernel
theorem dX6_in_11 : decode cX6_in 11 = .ok (.goto 4, 3) := by decide +kernel
theorem dX6_in_14 : decode cX6_in 14 = .ok (.iconst 0, 1) := by decide +kernel
theorem dX6_in_15 : decode cX6_in 15 = .ok (.ireturn, 1) := by decide +kernel
theorem dX6_move_0 : decode cX6_move 0 = .ok (.iconst 0, 1) := by decide +kernel
theorem dX6_move_1 : decode cX6_move 1 = .ok (.istore 4, 2) := by decide +kernel
theorem dX6_move_3 : decode cX6_move 3 = .ok (.iload 4, 2) := by decide +kernel
theorem dX6_move_5 : decode cX6_move 5 = .ok (.iload_n 1, 1) := by decide +kernel
theorem dX6_move_6 : decode cX6_move 6 = .ok (.if_icmp .ge 25, 3) := by decide +kernel
theorem dX6_move_9 : decode cX6_move 9 = .ok (.aload_n 0, 1) := by decide +kernel
theorem dX6_move_10 : decode cX6_move 10 = .ok (.iload_n 1, 1) := by decide +kernel
theorem dX6_move_11 : decode cX6_move 11 = .ok (.iload_n 3, 1) := by decide +kernel
theorem dX6_move_12 : decode cX6_move 12 = .ok (.imul, 1) := by decide +kernel
theorem dX6_move_13 : decode cX6_move 13 = .ok (.iload 4, 2) := by decide +kernel
theorem dX6_move_15 : decode cX6_move 15 = .ok (.iadd, 1) := by decide +kernel
theorem dX6_move_16 : decode cX6_move 16 = .ok (.aload_n 0, 1) := by decide +kernel
theorem dX6_move_17 : decode cX6_move 17 = .ok (.iload_n 1, 1) := by decide +kernel
theorem dX6_move_18 : decode cX6_move 18 = .ok (.iload_n 2, 1) := by decide +kernel
theorem dX6_move_19 : decode cX6_move 19 = .ok (.imul, 1) := by decide +kernel
theorem dX6_move_20 : decode cX6_move 20 = .ok (.iload 4, 2) := by decide +kernel
theorem dX6_move_22 : decode cX6_move 22 = .ok (.iadd, 1) := by decide +kernel
theorem dX6_move_23 : decode cX6_move 23 = .ok (.iaload, 1) := by decide +kernel
theorem dX6_move_24 : decode cX6_move 24 = .ok (.iastore, 1) := by decide +kernel
theorem dX6_move_25 : decode cX6_move 25 = .ok (.iinc 4 1, 3) := by decide +kernel
theorem dX6_move_28 : decode cX6_move 28 = .ok (.goto (-25), 3) := by decide +kernel
theorem dX6_move_31 : decode cX6_move 31 = .ok (.return_, 1) := by decide +kernel
theorem dX6_moveLong_0 : decode cX6_moveLong 0 = .ok (.iconst 0, 1) := by decide +kernel
theorem dX6_moveLong_1 : decode cX6_moveLong 1 = .ok (.istore 4, 2) := by decide +kernel
theorem dX6_moveLong_3 : decode cX6_moveLong 3 = .ok (.iload 4, 2) := by decide +kernel
theorem dX6_moveLong_5 : decode cX6_moveLong 5 = .ok (.iload_n 1, 1) := by decide +kernel
theorem dX6_moveLong_6 : decode cX6_moveLong 6 = .ok (.if_icmp .ge 25, 3) := by decide +kernel
theorem dX6_moveLong_9 : decode cX6_moveLong 9 = .ok (.aload_n 0, 1) := by decide +kernel
theorem dX6_moveLong_10 : decode cX6_moveLong 10 = .ok (.iload_n 1, 1) := by decide +kernel
theorem dX6_moveLong_11 : decode cX6_moveLong 11 = .ok (.iload_n 3, 1) := by decide +kernel
theorem dX6_moveLong_12 : decode cX6_moveLong 12 = .ok (.imul, 1) := by decide +kernel
theorem dX6_moveLong_13 : decode cX6_moveLong 13 = .ok (.iload 4, 2) := by decide +kernel
theorem dX6_moveLong_15 : decode cX6_moveLong 15 = .ok (.iadd, 1) := by decide +kernel
theorem dX6_moveLong_16 : decode cX6_moveLong 16 = .ok (.aload_n 0, 1) := by decide +kernel
theorem dX6_moveLong_17 : decode cX6_moveLong 17 = .ok (.iload_n 1, 1) := by decide +kernel
theorem dX6_moveLong_18 : decode cX6_moveLong 18 = .ok (.iload_n 2, 1) := by decide +kernel
theorem dX6_moveLong_19 : decode cX6_moveLong 19 = .ok (.imul, 1) := by decide +kernel
theorem dX6_moveLong_20 : decode cX6_moveLong 20 = .ok (.iload 4, 2) := by decide +kernel
theorem dX6_moveLong_22 : decode cX6_moveLong 22 = .ok (.iadd, 1) := by decide +kernel
theorem dX6_moveLong_23 : decode cX6_moveLong 23 = .ok (.laload, 1) := by decide +kernel
theorem dX6_moveLong_24 : decode cX6_moveLong 24 = .ok (.lastore, 1) := by decide +kernel
theorem dX6_moveLong_25 : decode cX6_moveLong 25 = .ok (.iinc 4 1, 3) := by decide +kernel
theorem dX6_moveLong_28 : decode cX6_moveLong 28 = .ok (.goto (-25), 3) := by decide +kernel
theorem dX6_moveLong_31 : decode cX6_moveLong 31 = .ok (.return_, 1) := by decide +kernel
set_option maxRecDepth 20000 in
theorem ggX6_copy_X6_move : GoodIn wsX6_copy wsX6_move := goodIn_r _ [22] (by decide +kernel) (by decide +kernel)
set_option maxRecDepth 20000 in
theorem gX6_copy_X6_move : GoodIn wsX6_copy (va_wsS RX6 133 yX6_move wsX6_move) := goodIn_app (goodIn_of _ (by decide +kernel)) ggX6_copy_X6_move
set_option maxRecDepth 20000 in
theorem ggX6_copy_X6_moveLong : GoodIn wsX6_copy wsX6_moveLong := goodIn_r _ [25] (by decide +kernel) (by decide +kernel)
set_option maxRecDepth 20000 in
theorem gX6_copy_X6_moveLong : GoodIn wsX6_copy (va_wsS RX6 137 yX6_moveLong wsX6_moveLong) := goodIn_app (goodIn_of _ (by decide +kernel)) ggX6_copy_X6_moveLong
set_option maxRecDepth 20000 in
theorem ggX6_copy_X6_copyGrid : GoodIn wsX6_copy wsX6_copyGrid := goodIn_r _ [29, 18, 30, 31, 32, 33, 34, 35, 19, 20, 21, 22, 36, 37, 38, 39, 40, 41, 42, 43, 44, 45, 46, 47, 48, 49, 50, 51, 52, 53, 54, 55, 56, 57, 58, 59, 60, 61, 62, 63, 64, 65, 66, 67, 68, 69, 70, 71, 72, 73, 74, 75, 76, 77, 78, 79, 80, 81, 82, 83, 84, 85] (by decide +kernel) (by decide +kernel)
set_option maxRecDepth 20000 in
theorem gX6_copy_X6_copyGrid : GoodIn wsX6_copy (wsV RX6 141 RX6 yX6_copyGrid wsX6_copyGrid) := goodIn_app (goodIn_of _ (by decide +kernel)) ggX6_copy_X6_copyGrid
theorem dX6_copy_0 : decode cX6_copy 0 = .ok (.iconst 0, 1) := by decide +kernel
theorem dX6_copy_1 : decode cX6_copy 1 = .ok (.istore_n 3, 1) := by decide +kernel
theorem dX6_copy_2 : decode cX6_copy 2 = .ok (.iload_n 3, 1) := by decide +kernel
theorem dX6_copy_3 : decode cX6_copy 3 = .ok (.sipush 400, 3) := by decide +kernel
theorem dX6_copy_6 : decode cX6_copy 6 = .ok (.if_icmp .ge 33, 3) := by decide +kernel
theorem dX6_copy_9 : decode cX6_copy 9 = .ok (.aload_n 0, 1) := by decide +kernel
theorem dX6_copy_10 : decode cX6_copy 10 = .ok (.getfield 7, 3) := by decide +kernel
theorem dX6_copy_13 : decode cX6_copy 13 = .ok (.sipush 400, 3) := by decide +kernel
theorem dX6_copy_16 : decode cX6_copy 16 = .ok (.iload_n 2, 1) := by decide +kernel
theorem dX6_copy_17 : decode cX6_copy 17 = .ok (.imul, 1) := by decide +kernel
theorem dX6_copy_18 : decode cX6_copy 18 = .ok (.iload_n 3, 1) := by decide +kernel
theorem dX6_copy_19 : decode cX6_copy 19 = .ok (.iadd, 1) := by decide +kernel
theorem dX6_copy_20 : decode cX6_copy 20 = .ok (.aload_n 0, 1) := by decide +kernel
theorem dX6_copy_21 : decode cX6_copy 21 = .ok (.getfield 7, 3) := by decide +kernel
theorem dX6_copy_24 : decode cX6_copy 24 = .ok (.sipush 400, 3) := by decide +kernel
theorem dX6_copy_27 : decode cX6_copy 27 = .ok (.iload_n 1, 1) := by decide +kernel
theorem dX6_copy_28 : decode cX6_copy 28 = .ok (.imul, 1) := by decide +kernel
theorem dX6_copy_29 : decode cX6_copy 29 = .ok (.iload_n 3, 1) := by decide +kernel
theorem dX6_copy_30 : decode cX6_copy 30 = .ok (.iadd, 1) := by decide +kernel
theorem dX6_copy_31 : decode cX6_copy 31 = .ok (.baload, 1) := by decide +kernel
theorem dX6_copy_32 : decode cX6_copy 32 = .ok (.bastore, 1) := by decide +kernel
theorem dX6_copy_33 : decode cX6_copy 33 = .ok (.iinc 3 1, 3) := by decide +kernel
theorem dX6_copy_36 : decode cX6_copy 36 = .ok (.goto (-34), 3) := by decide +kernel
theorem dX6_copy_39 : decode cX6_copy 39 = .ok (.aload_n 0, 1) := by decide +kernel
theorem dX6_copy_40 : decode cX6_copy 40 = .ok (.getfield 13, 3) := by decide +kernel
theorem dX6_copy_43 : decode cX6_copy 43 = .ok (.iconst 1, 1) := by decide +kernel
theorem dX6_copy_44 : decode cX6_copy 44 = .ok (.iload_n 1, 1) := by decide +kernel
theorem dX6_copy_45 : decode cX6_copy 45 = .ok (.iload_n 2, 1) := by decide +kernel
theorem dX6_copy_46 : decode cX6_copy 46 = .ok (.invokestatic 133, 3) := by decide +kernel
theorem dX6_copy_49 : decode cX6_copy 49 = .ok (.aload_n 0, 1) := by decide +kernel
theorem dX6_copy_50 : decode cX6_copy 50 = .ok (.getfield 17, 3) := by decide +kernel
theorem dX6_copy_53 : decode cX6_copy 53 = .ok (.iconst 1, 1) := by decide +kernel
theorem dX6_copy_54 : decode cX6_copy 54 = .ok (.iload_n 1, 1) := by decide +kernel
theorem dX6_copy_55 : decode cX6_copy 55 = .ok (.iload_n 2, 1) := by decide +kernel
theorem dX6_copy_56 : decode cX6_copy 56 = .ok (.invokestatic 133, 3) := by decide +kernel
theorem dX6_copy_59 : decode cX6_copy 59 = .ok (.aload_n 0, 1) := by decide +kernel
theorem dX6_copy_60 : decode cX6_copy 60 = .ok (.getfield 20, 3) := by decide +kernel
theorem dX6_copy_63 : decode cX6_copy 63 = .ok (.iconst 1, 1) := by decide +kernel
theorem dX6_copy_64 : decode cX6_copy 64 = .ok (.iload_n 1, 1) := by decide +kernel
theorem dX6_copy_65 : decode cX6_copy 65 = .ok (.iload_n 2, 1) := by decide +kernel
theorem dX6_copy_66 : decode cX6_copy 66 = .ok (.invokestatic 133, 3) := by decide +kernel
theorem dX6_copy_69 : decode cX6_copy 69 = .ok (.aload_n 0, 1) := by decide +kernel
theorem dX6_copy_70 : decode cX6_copy 70 = .ok (.getfield 23, 3) := by decide +kernel
theorem dX6_copy_73 : decode cX6_copy 73 = .ok (.iconst 1, 1) := by decide +kernel
theorem dX6_copy_74 : decode cX6_copy 74 = .ok (.iload_n 1, 1) := by decide +kernel
theorem dX6_copy_75 : decode cX6_copy 75 = .ok (.iload_n 2, 1) := by decide +kernel
theorem dX6_copy_76 : decode cX6_copy 76 = .ok (.invokestatic 137, 3) := by decide +kernel
theorem dX6_copy_79 : decode cX6_copy 79 = .ok (.aload_n 0, 1) := by decide +kernel
theorem dX6_copy_80 : decode cX6_copy 80 = .ok (.getfield 27, 3) := by decide +kernel
theorem dX6_copy_83 : decode cX6_copy 83 = .ok (.iconst 1, 1) := by decide +kernel
theorem dX6_copy_84 : decode cX6_copy 84 = .ok (.iload_n 1, 1) := by decide +kernel
theorem dX6_copy_85 : decode cX6_copy 85 = .ok (.iload_n 2, 1) := by decide +kernel
theorem dX6_copy_86 : decode cX6_copy 86 = .ok (.invokestatic 133, 3) := by decide +kernel
theorem dX6_copy_89 : decode cX6_copy 89 = .ok (.aload_n 0, 1) := by decide +kernel
theorem dX6_copy_90 : decode cX6_copy 90 = .ok (.getfield 30, 3) := by decide +kernel
theorem dX6_copy_93 : decode cX6_copy 93 = .ok (.iconst 1, 1) := by decide +kernel
theorem dX6_copy_94 : decode cX6_copy 94 = .ok (.iload_n 1, 1) := by decide +kernel
theorem dX6_copy_95 : decode cX6_copy 95 = .ok (.iload_n 2, 1) := by decide +kernel
theorem dX6_copy_96 : decode cX6_copy 96 = .ok (.invokestatic 133, 3) := by decide +kernel
theorem dX6_copy_99 : decode cX6_copy 99 = .ok (.aload_n 0, 1) := by decide +kernel
theorem dX6_copy_100 : decode cX6_copy 100 = .ok (.getfield 33, 3) := by decide +kernel
theorem dX6_copy_103 : decode cX6_copy 103 = .ok (.iload_n 2, 1) := by decide +kernel
theorem dX6_copy_104 : decode cX6_copy 104 = .ok (.aload_n 0, 1) := by decide +kernel
theorem dX6_copy_105 : decode cX6_copy 105 = .ok (.getfield 33, 3) := by decide +kernel
theorem dX6_copy_108 : decode cX6_copy 108 = .ok (.iload_n 1, 1) := by decide +kernel
theorem dX6_copy_109 : decode cX6_copy 109 = .ok (.baload, 1) := by decide +kernel
theorem dX6_copy_110 : decode cX6_copy 110 = .ok (.bastore, 1) := by decide +kernel
theorem dX6_copy_111 : decode cX6_copy 111 = .ok (.aload_n 0, 1) := by decide +kernel
theorem dX6_copy_112 : decode cX6_copy 112 = .ok (.getfield 37, 3) := by decide +kernel
theorem dX6_copy_115 : decode cX6_copy 115 = .ok (.sipush 160, 3) := by decide +kernel
theorem dX6_copy_118 : decode cX6_copy 118 = .ok (.iload_n 1, 1) := by decide +kernel
theorem dX6_copy_119 : decode cX6_copy 119 = .ok (.iload_n 2, 1) := by decide +kernel
theorem dX6_copy_120 : decode cX6_copy 120 = .ok (.invokestatic 133, 3) := by decide +kernel
theorem dX6_copy_123 : decode cX6_copy 123 = .ok (.aload_n 0, 1) := by decide +kernel
theorem dX6_copy_124 : decode cX6_copy 124 = .ok (.getfield 40, 3) := by decide +kernel
theorem dX6_copy_127 : decode cX6_copy 127 = .ok (.bipush 16, 2) := by decide +kernel
theorem dX6_copy_129 : decode cX6_copy 129 = .ok (.iload_n 1, 1) := by decide +kernel
theorem dX6_copy_130 : decode cX6_copy 130 = .ok (.iload_n 2, 1) := by decide +kernel
theorem dX6_copy_131 : decode cX6_copy 131 = .ok (.invokestatic 137, 3) := by decide +kernel
theorem dX6_copy_134 : decode cX6_copy 134 = .ok (.aload_n 0, 1) := by decide +kernel
theorem dX6_copy_135 : decode cX6_copy 135 = .ok (.getfield 43, 3) := by decide +kernel
theorem dX6_copy_138 : decode cX6_copy 138 = .ok (.bipush 16, 2) := by decide +kernel
theorem dX6_copy_140 : decode cX6_copy 140 = .ok (.iload_n 1, 1) := by decide +kernel
theorem dX6_copy_141 : decode cX6_copy 141 = .ok (.iload_n 2, 1) := by decide +kernel
theorem dX6_copy_142 : decode cX6_copy 142 = .ok (.invokestatic 137, 3) := by decide +kernel
theorem dX6_copy_145 : decode cX6_copy 145 = .ok (.aload_n 0, 1) := by decide +kernel
theorem dX6_copy_146 : decode cX6_copy 146 = .ok (.getfield 46, 3) := by decide +kernel
theorem dX6_copy_149 : decode cX6_copy 149 = .ok (.bipush 16, 2) := by decide +kernel
theorem dX6_copy_151 : decode cX6_copy 151 = .ok (.iload_n 1, 1) := by decide +kernel
theorem dX6_copy_152 : decode cX6_copy 152 = .ok (.iload_n 2, 1) := by decide +kernel
theorem dX6_copy_153 : decode cX6_copy 153 = .ok (.invokestatic 137, 3) := by decide +kernel
theorem dX6_copy_156 : decode cX6_copy 156 = .ok (.aload_n 0, 1) := by decide +kernel
theorem dX6_copy_157 : decode cX6_copy 157 = .ok (.getfield 49, 3) := by decide +kernel
theorem dX6_copy_160 : decode cX6_copy 160 = .ok (.bipush 64, 2) := by decide +kernel
theorem dX6_copy_162 : decode cX6_copy 162 = .ok (.iload_n 1, 1) := by decide +kernel
theorem dX6_copy_163 : decode cX6_copy 163 = .ok (.iload_n 2, 1) := by decide +kernel
theorem dX6_copy_164 : decode cX6_copy 164 = .ok (.invokestatic 133, 3) := by decide +kernel
theorem dX6_copy_167 : decode cX6_copy 167 = .ok (.aload_n 0, 1) := by decide +kernel
theorem dX6_copy_168 : decode cX6_copy 168 = .ok (.getfield 52, 3) := by decide +kernel
theorem dX6_copy_171 : decode cX6_copy 171 = .ok (.bipush 64, 2) := by decide +kernel
theorem dX6_copy_173 : decode cX6_copy 173 = .ok (.iload_n 1, 1) := by decide +kernel
theorem dX6_copy_174 : decode cX6_copy 174 = .ok (.iload_n 2, 1) := by decide +kernel
theorem dX6_copy_175 : decode cX6_copy 175 = .ok (.invokestatic 137, 3) := by decide +kernel
theorem dX6_copy_178 : decode cX6_copy 178 = .ok (.aload_n 0, 1) := by decide +kernel
theorem dX6_copy_179 : decode cX6_copy 179 = .ok (.getfield 55, 3) := by decide +kernel
theorem dX6_copy_182 : decode cX6_copy 182 = .ok (.bipush 64, 2) := by decide +kernel
theorem dX6_copy_184 : decode cX6_copy 184 = .ok (.iload_n 1, 1) := by decide +kernel
theorem dX6_copy_185 : decode cX6_copy 185 = .ok (.iload_n 2, 1) := by decide +kernel
theorem dX6_copy_186 : decode cX6_copy 186 = .ok (.invokestatic 137, 3) := by decide +kernel
theorem dX6_copy_189 : decode cX6_copy 189 = .ok (.aload_n 0, 1) := by decide +kernel
theorem dX6_copy_190 : decode cX6_copy 190 = .ok (.getfield 58, 3) := by decide +kernel
theorem dX6_copy_193 : decode cX6_copy 193 = .ok (.bipush 64, 2) := by decide +kernel
theorem dX6_copy_195 : decode cX6_copy 195 = .ok (.iload_n 1, 1) := by decide +kernel
theorem dX6_copy_196 : decode cX6_copy 196 = .ok (.iload_n 2, 1) := by decide +kernel
theorem dX6_copy_197 : decode cX6_copy 197 = .ok (.invokestatic 133, 3) := by decide +kernel
theorem dX6_copy_200 : decode cX6_copy 200 = .ok (.aload_n 0, 1) := by decide +kernel
theorem dX6_copy_201 : decode cX6_copy 201 = .ok (.getfield 61, 3) := by decide +kernel
theorem dX6_copy_204 : decode cX6_copy 204 = .ok (.bipush 64, 2) := by decide +kernel
theorem dX6_copy_206 : decode cX6_copy 206 = .ok (.iload_n 1, 1) := by decide +kernel
theorem dX6_copy_207 : decode cX6_copy 207 = .ok (.iload_n 2, 1) := by decide +kernel
theorem dX6_copy_208 : decode cX6_copy 208 = .ok (.invokestatic 137, 3) := by decide +kernel
theorem dX6_copy_211 : decode cX6_copy 211 = .ok (.aload_n 0, 1) := by decide +kernel
theorem dX6_copy_212 : decode cX6_copy 212 = .ok (.getfield 64, 3) := by decide +kernel
theorem dX6_copy_215 : decode cX6_copy 215 = .ok (.iconst 1, 1) := by decide +kernel
theorem dX6_copy_216 : decode cX6_copy 216 = .ok (.iload_n 1, 1) := by decide +kernel
theorem dX6_copy_217 : decode cX6_copy 217 = .ok (.iload_n 2, 1) := by decide +kernel
theorem dX6_copy_218 : decode cX6_copy 218 = .ok (.invokestatic 133, 3) := by decide +kernel
theorem dX6_copy_221 : decode cX6_copy 221 = .ok (.aload_n 0, 1) := by decide +kernel
theorem dX6_copy_222 : decode cX6_copy 222 = .ok (.iload_n 1, 1) := by decide +kernel
theorem dX6_copy_223 : decode cX6_copy 223 = .ok (.iload_n 2, 1) := by decide +kernel
theorem dX6_copy_224 : decode cX6_copy 224 = .ok (.invokevirtual 141, 3) := by decide +kernel
theorem dX6_copy_227 : decode cX6_copy 227 = .ok (.return_, 1) := by decide +kernel
set_option maxRecDepth 20000 in
theorem ggX6_copyGrid_X6_move : GoodIn wsX6_copyGrid wsX6_move := goodIn_r _ [11] (by decide +kernel) (by decide +kernel)
set_option maxRecDepth 20000 in
theorem gX6_copyGrid_X6_move : GoodIn wsX6_copyGrid (va_wsS RX6 133 yX6_move wsX6_move) := goodIn_app (goodIn_of _ (by decide +kernel)) ggX6_copyGrid_X6_move
theorem dX6_copyGrid_0 : decode cX6_copyGrid 0 = .ok (.aload_n 0, 1) := by decide +kernel
theorem dX6_copyGrid_1 : decode cX6_copyGrid 1 = .ok (.getfield 64, 3) := by decide +kernel
theorem dX6_copyGrid_4 : decode cX6_copyGrid 4 = .ok (.iload_n 2, 1) := by decide +kernel
theorem dX6_copyGrid_5 : decode cX6_copyGrid 5 = .ok (.aload_n 0, 1) := by decide +kernel
theorem dX6_copyGrid_6 : decode cX6_copyGrid 6 = .ok (.getfield 64, 3) := by decide +kernel
theorem dX6_copyGrid_9 : decode cX6_copyGrid 9 = .ok (.iload_n 1, 1) := by decide +kernel
theorem dX6_copyGrid_10 : decode cX6_copyGrid 10 = .ok (.iaload, 1) := by decide +kernel
theorem dX6_copyGrid_11 : decode cX6_copyGrid 11 = .ok (.iastore, 1) := by decide +kernel
theorem dX6_copyGrid_12 : decode cX6_copyGrid 12 = .ok (.aload_n 0, 1) := by decide +kernel
theorem dX6_copyGrid_13 : decode cX6_copyGrid 13 = .ok (.getfield 67, 3) := by decide +kernel
theorem dX6_copyGrid_16 : decode cX6_copyGrid 16 = .ok (.bipush 16, 2) := by decide +kernel
theorem dX6_copyGrid_18 : decode cX6_copyGrid 18 = .ok (.iload_n 1, 1) := by decide +kernel
theorem dX6_copyGrid_19 : decode cX6_copyGrid 19 = .ok (.iload_n 2, 1) := by decide +kernel
theorem dX6_copyGrid_20 : decode cX6_copyGrid 20 = .ok (.invokestatic 133, 3) := by decide +kernel
theorem dX6_copyGrid_23 : decode cX6_copyGrid 23 = .ok (.aload_n 0, 1) := by decide +kernel
theorem dX6_copyGrid_24 : decode cX6_copyGrid 24 = .ok (.getfield 70, 3) := by decide +kernel
theorem dX6_copyGrid_27 : decode cX6_copyGrid 27 = .ok (.bipush 64, 2) := by decide +kernel
theorem dX6_copyGrid_29 : decode cX6_copyGrid 29 = .ok (.iload_n 1, 1) := by decide +kernel
theorem dX6_copyGrid_30 : decode cX6_copyGrid 30 = .ok (.iload_n 2, 1) := by decide +kernel
theorem dX6_copyGrid_31 : decode cX6_copyGrid 31 = .ok (.invokestatic 133, 3) := by decide +kernel
theorem dX6_copyGrid_34 : decode cX6_copyGrid 34 = .ok (.aload_n 0, 1) := by decide +kernel
theorem dX6_copyGrid_35 : decode cX6_copyGrid 35 = .ok (.getfield 73, 3) := by decide +kernel
theorem dX6_copyGrid_38 : decode cX6_copyGrid 38 = .ok (.bipush 64, 2) := by decide +kernel
theorem dX6_copyGrid_40 : decode cX6_copyGrid 40 = .ok (.iload_n 1, 1) := by decide +kernel
theorem dX6_copyGrid_41 : decode cX6_copyGrid 41 = .ok (.iload_n 2, 1) := by decide +kernel
theorem dX6_copyGrid_42 : decode cX6_copyGrid 42 = .ok (.invokestatic 133, 3) := by decide +kernel
theorem dX6_copyGrid_45 : decode cX6_copyGrid 45 = .ok (.aload_n 0, 1) := by decide +kernel
theorem dX6_copyGrid_46 : decode cX6_copyGrid 46 = .ok (.getfield 76, 3) := by decide +kernel
theorem dX6_copyGrid_49 : decode cX6_copyGrid 49 = .ok (.bipush 64, 2) := by decide +kernel
theorem dX6_copyGrid_51 : decode cX6_copyGrid 51 = .ok (.iload_n 1, 1) := by decide +kernel
theorem dX6_copyGrid_52 : decode cX6_copyGrid 52 = .ok (.iload_n 2, 1) := by decide +kernel
theorem dX6_copyGrid_53 : decode cX6_copyGrid 53 = .ok (.invokestatic 133, 3) := by decide +kernel
theorem dX6_copyGrid_56 : decode cX6_copyGrid 56 = .ok (.aload_n 0, 1) := by decide +kernel
theorem dX6_copyGrid_57 : decode cX6_copyGrid 57 = .ok (.getfield 79, 3) := by decide +kernel
theorem dX6_copyGrid_60 : decode cX6_copyGrid 60 = .ok (.bipush 16, 2) := by decide +kernel
theorem dX6_copyGrid_62 : decode cX6_copyGrid 62 = .ok (.iload_n 1, 1) := by decide +kernel
theorem dX6_copyGrid_63 : decode cX6_copyGrid 63 = .ok (.iload_n 2, 1) := by decide +kernel
theorem dX6_copyGrid_64 : decode cX6_copyGrid 64 = .ok (.invokestatic 133, 3) := by decide +kernel
theorem dX6_copyGrid_67 : decode cX6_copyGrid 67 = .ok (.aload_n 0, 1) := by decide +kernel
theorem dX6_copyGrid_68 : decode cX6_copyGrid 68 = .ok (.getfield 82, 3) := by decide +kernel
theorem dX6_copyGrid_71 : decode cX6_copyGrid 71 = .ok (.bipush 16, 2) := by decide +kernel
theorem dX6_copyGrid_73 : decode cX6_copyGrid 73 = .ok (.iload_n 1, 1) := by decide +kernel
theorem dX6_copyGrid_74 : decode cX6_copyGrid 74 = .ok (.iload_n 2, 1) := by decide +kernel
theorem dX6_copyGrid_75 : decode cX6_copyGrid 75 = .ok (.invokestatic 133, 3) := by decide +kernel
theorem dX6_copyGrid_78 : decode cX6_copyGrid 78 = .ok (.return_, 1) := by decide +kernel
set_option maxRecDepth 20000 in
theorem ggX6_isClaim_X6_in : GoodIn wsX6_isClaim wsX6_in := goodIn_r _ [5] (by decide +kernel) (by decide +kernel)
set_option maxRecDepth 20000 in
theorem gX6_isClaim_X6_in : GoodIn wsX6_isClaim (va_wsS RX6 145 yX6_in wsX6_in) := goodIn_app (goodIn_of _ (by decide +kernel)) ggX6_isClaim_X6_in
theorem dX6_isClaim_0 : decode cX6_isClaim 0 = .ok (.iload_n 1, 1) := by decide +kernel
theorem dX6_isClaim_1 : decode cX6_isClaim 1 = .ok (.iconst 0, 1) := by decide +kernel
theorem dX6_isClaim_2 : decode cX6_isClaim 2 = .ok (.aload_n 0, 1) := by decide +kernel
theorem dX6_isClaim_3 : decode cX6_isClaim 3 = .ok (.getfield 27, 3) := by decide +kernel
theorem dX6_isClaim_6 : decode cX6_isClaim 6 = .ok (.iconst 0, 1) := by decide +kernel
theorem dX6_isClaim_7 : decode cX6_isClaim 7 = .ok (.iaload, 1) := by decide +kernel
theorem dX6_isClaim_8 : decode cX6_isClaim 8 = .ok (.iconst 1, 1) := by decide +kernel
theorem dX6_isClaim_9 : decode cX6_isClaim 9 = .ok (.isub, 1) := by decide +kernel
theorem dX6_isClaim_10 : decode cX6_isClaim 10 = .ok (.invokestatic 145, 3) := by decide +kernel
theorem dX6_isClaim_13 : decode cX6_isClaim 13 = .ok (.ireturn, 1) := by decide +kernel
theorem dX6_of_0 : decode cX6_of 0 = .ok (.aload_n 0, 1) := by decide +kernel
theorem dX6_of_1 : decode cX6_of 1 = .ok (.getfield 37, 3) := by decide +kernel
theorem dX6_of_4 : decode cX6_of 4 = .ok (.bipush 10, 2) := by decide +kernel
theorem dX6_of_6 : decode cX6_of 6 = .ok (.iload_n 1, 1) := by decide +kernel
theorem dX6_of_7 : decode cX6_of 7 = .ok (.imul, 1) := by decide +kernel
theorem dX6_of_8 : decode cX6_of 8 = .ok (.iload_n 2, 1) := by decide +kernel
theorem dX6_of_9 : decode cX6_of 9 = .ok (.iadd, 1) := by decide +kernel
theorem dX6_of_10 : decode cX6_of 10 = .ok (.iaload, 1) := by decide +kernel
theorem dX6_of_11 : decode cX6_of 11 = .ok (.ireturn, 1) := by decide +kernel
set_option maxRecDepth 20000 in
theorem ggX6_is_X6_isClaim : GoodIn wsX6_is wsX6_isClaim := goodIn_r _ [5, 6, 7, 8, 4, 9, 15, 16, 17, 18, 19, 20, 21, 22, 23, 24, 25, 26, 27, 28, 29, 30, 31, 32, 33, 34, 35, 36, 37, 38, 39, 40, 41, 42, 43, 44, 45, 46, 47, 48, 49, 50, 51, 52, 53, 54, 55, 56, 57, 58, 59, 60, 61, 62, 63, 64] (by decide +kernel) (by decide +kernel)
set_option maxRecDepth 20000 in
theorem gX6_is_X6_isClaim : GoodIn wsX6_is (wsV RX6 149 RX6 yX6_isClaim wsX6_isClaim) := goodIn_app (goodIn_of _ (by decide +kernel)) ggX6_is_X6_isClaim
set_option maxRecDepth 20000 in
theorem ggX6_is_X6_of : GoodIn wsX6_is wsX6_of := goodIn_r _ [13, 14, 15, 16, 17, 18, 19, 20, 21, 22, 23, 24, 25, 26, 27, 28, 29, 30, 31, 32, 33, 34, 35, 36, 37, 38, 39, 40, 41, 42, 43, 44, 45, 46, 47, 48, 49, 50, 51, 52, 53, 54, 55, 56, 57, 58, 59, 60, 61, 62, 63, 64] (by decide +kernel) (by decide +kernel)
set_option maxRecDepth 20000 in
theorem gX6_is_X6_of : GoodIn wsX6_is (wsV RX6 153 RX6 yX6_of wsX6_of) := goodIn_app (goodIn_of _ (by decide +kernel)) ggX6_is_X6_of
theorem dX6_is_0 : decode cX6_is 0 = .ok (.aload_n 0, 1) := by decide +kernel
theorem dX6_is_1 : decode cX6_is 1 = .ok (.iload_n 1, 1) := by decide +kernel
theorem dX6_is_2 : decode cX6_is 2 = .ok (.invokevirtual 149, 3) := by decide +kernel
theorem dX6_is_5 : decode cX6_is 5 = .ok (.ifCond .eq 17, 3) := by decide +kernel
theorem dX6_is_8 : decode cX6_is 8 = .ok (.aload_n 0, 1) := by decide +kernel
theorem dX6_is_9 : decode cX6_is 9 = .ok (.iload_n 1, 1) := by decide +kernel
theorem dX6_is_10 : decode cX6_is 10 = .ok (.iconst 5, 1) := by decide +kernel
theorem dX6_is_11 : decode cX6_is 11 = .ok (.invokevirtual 153, 3) := by decide +kernel
theorem dX6_is_14 : decode cX6_is 14 = .ok (.iload_n 2, 1) := by decide +kernel
theorem dX6_is_15 : decode cX6_is 15 = .ok (.if_icmp .ne 7, 3) := by decide +kernel
theorem dX6_is_18 : decode cX6_is 18 = .ok (.iconst 1, 1) := by decide +kernel
theorem dX6_is_19 : decode cX6_is 19 = .ok (.goto 4, 3) := by decide +kernel
theorem dX6_is_22 : decode cX6_is 22 = .ok (.iconst 0, 1) := by decide +kernel
theorem dX6_is_23 : decode cX6_is 23 = .ok (.ireturn, 1) := by decide +kernel
set_option maxRecDepth 20000 in
theorem ggX6_fund_X6_paidAll : GoodIn wsX6_fund wsX6_paidAll := goodIn_r _ [9, 10, 11, 12, 13, 14, 15, 16, 17, 18, 19, 20, 21, 22, 23, 24, 25, 26, 27, 28, 29, 30, 31, 32, 33, 34, 35, 36, 37, 38, 39, 40, 41, 42, 43, 44, 45, 46, 47, 48, 49, 50, 51, 52, 53, 54, 55, 56, 57, 58, 59, 60, 61] (by decide +kernel) (by decide +kernel)
set_option maxRecDepth 20000 in
theorem gX6_fund_X6_paidAll : GoodIn wsX6_fund (wsV RX6 159 RX6 yX6_paidAll wsX6_paidAll) := goodIn_app (goodIn_of _ (by decide +kernel)) ggX6_fund_X6_paidAll
theorem dX6_fund_0 : decode cX6_fund 0 = .ok (.aload_n 0, 1) := by decide +kernel
theorem dX6_fund_1 : decode cX6_fund 1 = .ok (.iconst 0, 1) := by decide +kernel
theorem dX6_fund_2 : decode cX6_fund 2 = .ok (.putfield 129, 3) := by decide +kernel
theorem dX6_fund_5 : decode cX6_fund 5 = .ok (.lload_n 1, 1) := by decide +kernel
theorem dX6_fund_6 : decode cX6_fund 6 = .ok (.lconst 1, 1) := by decide +kernel
theorem dX6_fund_7 : decode cX6_fund 7 = .ok (.lcmp, 1) := by decide +kernel
theorem dX6_fund_8 : decode cX6_fund 8 = .ok (.ifCond .lt 29, 3) := by decide +kernel
theorem dX6_fund_11 : decode cX6_fund 11 = .ok (.lload_n 1, 1) := by decide +kernel
theorem dX6_fund_12 : decode cX6_fund 12 = .ok (.ldc2_w 157, 3) := by decide +kernel
theorem dX6_fund_15 : decode cX6_fund 15 = .ok (.lcmp, 1) := by decide +kernel
theorem dX6_fund_16 : decode cX6_fund 16 = .ok (.ifCond .gt 21, 3) := by decide +kernel
theorem dX6_fund_19 : decode cX6_fund 19 = .ok (.aload_n 0, 1) := by decide +kernel
theorem dX6_fund_20 : decode cX6_fund 20 = .ok (.getfield 33, 3) := by decide +kernel
theorem dX6_fund_23 : decode cX6_fund 23 = .ok (.iconst 0, 1) := by decide +kernel
theorem dX6_fund_24 : decode cX6_fund 24 = .ok (.baload, 1) := by decide +kernel
theorem dX6_fund_25 : decode cX6_fund 25 = .ok (.ifCond .ne 12, 3) := by decide +kernel
theorem dX6_fund_28 : decode cX6_fund 28 = .ok (.aload_n 0, 1) := by decide +kernel
theorem dX6_fund_29 : decode cX6_fund 29 = .ok (.invokevirtual 159, 3) := by decide +kernel
theorem dX6_fund_32 : decode cX6_fund 32 = .ok (.lconst 0, 1) := by decide +kernel
theorem dX6_fund_33 : decode cX6_fund 33 = .ok (.lcmp, 1) := by decide +kernel
theorem dX6_fund_34 : decode cX6_fund 34 = .ok (.ifCond .le 5, 3) := by decide +kernel
theorem dX6_fund_37 : decode cX6_fund 37 = .ok (.iconst 0, 1) := by decide +kernel
theorem dX6_fund_38 : decode cX6_fund 38 = .ok (.ireturn, 1) := by decide +kernel
theorem dX6_fund_39 : decode cX6_fund 39 = .ok (.aload_n 0, 1) := by decide +kernel
theorem dX6_fund_40 : decode cX6_fund 40 = .ok (.getfield 23, 3) := by decide +kernel
theorem dX6_fund_43 : decode cX6_fund 43 = .ok (.iconst 0, 1) := by decide +kernel
theorem dX6_fund_44 : decode cX6_fund 44 = .ok (.lload_n 1, 1) := by decide +kernel
theorem dX6_fund_45 : decode cX6_fund 45 = .ok (.lastore, 1) := by decide +kernel
theorem dX6_fund_46 : decode cX6_fund 46 = .ok (.iconst 1, 1) := by decide +kernel
theorem dX6_fund_47 : decode cX6_fund 47 = .ok (.ireturn, 1) := by decide +kernel
theorem dX6_paidAll_0 : decode cX6_paidAll 0 = .ok (.lconst 0, 1) := by decide +kernel
theorem dX6_paidAll_1 : decode cX6_paidAll 1 = .ok (.lstore_n 1, 1) := by decide +kernel
theorem dX6_paidAll_2 : decode cX6_paidAll 2 = .ok (.iconst 0, 1) := by decide +kernel
theorem dX6_paidAll_3 : decode cX6_paidAll 3 = .ok (.istore_n 3, 1) := by decide +kernel
theorem dX6_paidAll_4 : decode cX6_paidAll 4 = .ok (.iload_n 3, 1) := by decide +kernel
theorem dX6_paidAll_5 : decode cX6_paidAll 5 = .ok (.aload_n 0, 1) := by decide +kernel
theorem dX6_paidAll_6 : decode cX6_paidAll 6 = .ok (.getfield 27, 3) := by decide +kernel
theorem dX6_paidAll_9 : decode cX6_paidAll 9 = .ok (.iconst 0, 1) := by decide +kernel
theorem dX6_paidAll_10 : decode cX6_paidAll 10 = .ok (.iaload, 1) := by decide +kernel
theorem dX6_paidAll_11 : decode cX6_paidAll 11 = .ok (.if_icmp .ge 18, 3) := by decide +kernel
theorem dX6_paidAll_14 : decode cX6_paidAll 14 = .ok (.lload_n 1, 1) := by decide +kernel
theorem dX6_paidAll_15 : decode cX6_paidAll 15 = .ok (.aload_n 0, 1) := by decide +kernel
theorem dX6_paidAll_16 : decode cX6_paidAll 16 = .ok (.getfield 40, 3) := by decide +kernel
theorem dX6_paidAll_19 : decode cX6_paidAll 19 = .ok (.iload_n 3, 1) := by decide +kernel
theorem dX6_paidAll_20 : decode cX6_paidAll 20 = .ok (.laload, 1) := by decide +kernel
theorem dX6_paidAll_21 : decode cX6_paidAll 21 = .ok (.ladd, 1) := by decide +kernel
theorem dX6_paidAll_22 : decode cX6_paidAll 22 = .ok (.lstore_n 1, 1) := by decide +kernel
theorem dX6_paidAll_23 : decode cX6_paidAll 23 = .ok (.iinc 3 1, 3) := by decide +kernel
theorem dX6_paidAll_26 : decode cX6_paidAll 26 = .ok (.goto (-22), 3) := by decide +kernel
theorem dX6_paidAll_29 : decode cX6_paidAll 29 = .ok (.lload_n 1, 1) := by decide +kernel
theorem dX6_paidAll_30 : decode cX6_paidAll 30 = .ok (.lreturn, 1) := by decide +kernel
set_option maxRecDepth 20000 in
theorem ggX6_feed_X6_four : GoodIn wsX6_feed wsX6_four := goodIn_r _ [7, 8, 2, 9, 10, 11, 12, 13, 14, 15, 16, 17, 18, 19, 20, 21, 22, 23, 24, 25, 26, 27, 28, 29, 30, 31, 32, 33, 34, 35, 36, 37, 38, 39, 40, 41, 42, 43, 44, 45, 46, 47, 48, 49, 50, 51, 52, 53, 54, 55, 56, 57, 58] (by decide +kernel) (by decide +kernel)
set_option maxRecDepth 20000 in
theorem gX6_feed_X6_four : GoodIn wsX6_feed (wsV RX6 163 RX6 yX6_four wsX6_four) := goodIn_app (goodIn_of _ (by decide +kernel)) ggX6_feed_X6_four
theorem dX6_feed_0 : decode cX6_feed 0 = .ok (.aload_n 0, 1) := by decide +kernel
theorem dX6_feed_1 : decode cX6_feed 1 = .ok (.iconst 0, 1) := by decide +kernel
theorem dX6_feed_2 : decode cX6_feed 2 = .ok (.putfield 129, 3) := by decide +kernel
theorem dX6_feed_5 : decode cX6_feed 5 = .ok (.aload_n 0, 1) := by decide +kernel
theorem dX6_feed_6 : decode cX6_feed 6 = .ok (.getfield 13, 3) := by decide +kernel
theorem dX6_feed_9 : decode cX6_feed 9 = .ok (.iconst 0, 1) := by decide +kernel
theorem dX6_feed_10 : decode cX6_feed 10 = .ok (.iaload, 1) := by decide +kernel
theorem dX6_feed_11 : decode cX6_feed 11 = .ok (.bipush 20, 2) := by decide +kernel
theorem dX6_feed_13 : decode cX6_feed 13 = .ok (.iadd, 1) := by decide +kernel
theorem dX6_feed_14 : decode cX6_feed 14 = .ok (.sipush 400, 3) := by decide +kernel
theorem dX6_feed_17 : decode cX6_feed 17 = .ok (.if_icmp .le 5, 3) := by decide +kernel
theorem dX6_feed_20 : decode cX6_feed 20 = .ok (.iconst (-1), 1) := by decide +kernel
theorem dX6_feed_21 : decode cX6_feed 21 = .ok (.ireturn, 1) := by decide +kernel
theorem dX6_feed_22 : decode cX6_feed 22 = .ok (.aload_n 0, 1) := by decide +kernel
theorem dX6_feed_23 : decode cX6_feed 23 = .ok (.iload_n 1, 1) := by decide +kernel
theorem dX6_feed_24 : decode cX6_feed 24 = .ok (.invokevirtual 163, 3) := by decide +kernel
theorem dX6_feed_27 : decode cX6_feed 27 = .ok (.aload_n 0, 1) := by decide +kernel
theorem dX6_feed_28 : decode cX6_feed 28 = .ok (.iload_n 2, 1) := by decide +kernel
theorem dX6_feed_29 : decode cX6_feed 29 = .ok (.invokevirtual 163, 3) := by decide +kernel
theorem dX6_feed_32 : decode cX6_feed 32 = .ok (.aload_n 0, 1) := by decide +kernel
theorem dX6_feed_33 : decode cX6_feed 33 = .ok (.iload_n 3, 1) := by decide +kernel
theorem dX6_feed_34 : decode cX6_feed 34 = .ok (.invokevirtual 163, 3) := by decide +kernel
theorem dX6_feed_37 : decode cX6_feed 37 = .ok (.aload_n 0, 1) := by decide +kernel
theorem dX6_feed_38 : decode cX6_feed 38 = .ok (.iload 4, 2) := by decide +kernel
theorem dX6_feed_40 : decode cX6_feed 40 = .ok (.invokevirtual 163, 3) := by decide +kernel
theorem dX6_feed_43 : decode cX6_feed 43 = .ok (.aload_n 0, 1) := by decide +kernel
theorem dX6_feed_44 : decode cX6_feed 44 = .ok (.iload 5, 2) := by decide +kernel
theorem dX6_feed_46 : decode cX6_feed 46 = .ok (.invokevirtual 163, 3) := by decide +kernel
theorem dX6_feed_49 : decode cX6_feed 49 = .ok (.aload_n 0, 1) := by decide +kernel
theorem dX6_feed_50 : decode cX6_feed 50 = .ok (.getfield 13, 3) := by decide +kernel
theorem dX6_feed_53 : decode cX6_feed 53 = .ok (.iconst 0, 1) := by decide +kernel
theorem dX6_feed_54 : decode cX6_feed 54 = .ok (.iaload, 1) := by decide +kernel
theorem dX6_feed_55 : decode cX6_feed 55 = .ok (.ireturn, 1) := by decide +kernel
theorem dX6_four_0 : decode cX6_four 0 = .ok (.bipush 24, 2) := by decide +kernel
theorem dX6_four_2 : decode cX6_four 2 = .ok (.istore_n 2, 1) := by decide +kernel
theorem dX6_four_3 : decode cX6_four 3 = .ok (.iload_n 2, 1) := by decide +kernel
theorem dX6_four_4 : decode cX6_four 4 = .ok (.ifCond .lt 34, 3) := by decide +kernel
theorem dX6_four_7 : decode cX6_four 7 = .ok (.aload_n 0, 1) := by decide +kernel
theorem dX6_four_8 : decode cX6_four 8 = .ok (.getfield 7, 3) := by decide +kernel
theorem dX6_four_11 : decode cX6_four 11 = .ok (.aload_n 0, 1) := by decide +kernel
theorem dX6_four_12 : decode cX6_four 12 = .ok (.getfield 13, 3) := by decide +kernel
theorem dX6_four_15 : decode cX6_four 15 = .ok (.iconst 0, 1) := by decide +kernel
theorem dX6_four_16 : decode cX6_four 16 = .ok (.iaload, 1) := by decide +kernel
theorem dX6_four_17 : decode cX6_four 17 = .ok (.iload_n 1, 1) := by decide +kernel
theorem dX6_four_18 : decode cX6_four 18 = .ok (.iload_n 2, 1) := by decide +kernel
theorem dX6_four_19 : decode cX6_four 19 = .ok (.ishr, 1) := by decide +kernel
theorem dX6_four_20 : decode cX6_four 20 = .ok (.i2b, 1) := by decide +kernel
theorem dX6_four_21 : decode cX6_four 21 = .ok (.bastore, 1) := by decide +kernel
theorem dX6_four_22 : decode cX6_four 22 = .ok (.aload_n 0, 1) := by decide +kernel
theorem dX6_four_23 : decode cX6_four 23 = .ok (.getfield 13, 3) := by decide +kernel
theorem dX6_four_26 : decode cX6_four 26 = .ok (.iconst 0, 1) := by decide +kernel
theorem dX6_four_27 : decode cX6_four 27 = .ok (.dup2, 1) := by decide +kernel
theorem dX6_four_28 : decode cX6_four 28 = .ok (.iaload, 1) := by decide +kernel
theorem dX6_four_29 : decode cX6_four 29 = .ok (.iconst 1, 1) := by decide +kernel
theorem dX6_four_30 : decode cX6_four 30 = .ok (.iadd, 1) := by decide +kernel
theorem dX6_four_31 : decode cX6_four 31 = .ok (.iastore, 1) := by decide +kernel
theorem dX6_four_32 : decode cX6_four 32 = .ok (.iinc 2 (-8), 3) := by decide +kernel
theorem dX6_four_35 : decode cX6_four 35 = .ok (.goto (-32), 3) := by decide +kernel
theorem dX6_four_38 : decode cX6_four 38 = .ok (.return_, 1) := by decide +kernel
set_option maxRecDepth 20000 in
theorem ggX6_end_X6_in : GoodIn wsX6_end wsX6_in := goodIn_r _ [6] (by decide +kernel) (by decide +kernel)
set_option maxRecDepth 20000 in
theorem gX6_end_X6_in : GoodIn wsX6_end (va_wsS RX6 145 yX6_in wsX6_in) := goodIn_app (goodIn_of _ (by decide +kernel)) ggX6_end_X6_in
theorem dX6_end_0 : decode cX6_end 0 = .ok (.aload_n 0, 1) := by decide +kernel
theorem dX6_end_1 : decode cX6_end 1 = .ok (.iconst 0, 1) := by decide +kernel
theorem dX6_end_2 : decode cX6_end 2 = .ok (.putfield 129, 3) := by decide +kernel
theorem dX6_end_5 : decode cX6_end 5 = .ok (.iload_n 1, 1) := by decide +kernel
theorem dX6_end_6 : decode cX6_end 6 = .ok (.iconst 0, 1) := by decide +kernel
theorem dX6_end_7 : decode cX6_end 7 = .ok (.aload_n 0, 1) := by decide +kernel
theorem dX6_end_8 : decode cX6_end 8 = .ok (.getfield 13, 3) := by decide +kernel
theorem dX6_end_11 : decode cX6_end 11 = .ok (.iconst 0, 1) := by decide +kernel
theorem dX6_end_12 : decode cX6_end 12 = .ok (.iaload, 1) := by decide +kernel
theorem dX6_end_13 : decode cX6_end 13 = .ok (.invokestatic 145, 3) := by decide +kernel
theorem dX6_end_16 : decode cX6_end 16 = .ok (.ifCond .ne 5, 3) := by decide +kernel
theorem dX6_end_19 : decode cX6_end 19 = .ok (.iconst (-1), 1) := by decide +kernel
theorem dX6_end_20 : decode cX6_end 20 = .ok (.ireturn, 1) := by decide +kernel
theorem dX6_end_21 : decode cX6_end 21 = .ok (.aload_n 0, 1) := by decide +kernel
theorem dX6_end_22 : decode cX6_end 22 = .ok (.getfield 13, 3) := by decide +kernel
theorem dX6_end_25 : decode cX6_end 25 = .ok (.iconst 0, 1) := by decide +kernel
theorem dX6_end_26 : decode cX6_end 26 = .ok (.iload_n 1, 1) := by decide +kernel
theorem dX6_end_27 : decode cX6_end 27 = .ok (.iastore, 1) := by decide +kernel
theorem dX6_end_28 : decode cX6_end 28 = .ok (.iload_n 1, 1) := by decide +kernel
theorem dX6_end_29 : decode cX6_end 29 = .ok (.ireturn, 1) := by decide +kernel
theorem dX6_see_0 : decode cX6_see 0 = .ok (.aload_n 0, 1) := by decide +kernel
theorem dX6_see_1 : decode cX6_see 1 = .ok (.getfield 167, 3) := by decide +kernel
theorem dX6_see_4 : decode cX6_see 4 = .ok (.aload_n 0, 1) := by decide +kernel
theorem dX6_see_5 : decode cX6_see 5 = .ok (.getfield 170, 3) := by decide +kernel
theorem dX6_see_8 : decode cX6_see 8 = .ok (.if_icmp .ge 19, 3) := by decide +kernel
theorem dX6_see_11 : decode cX6_see 11 = .ok (.aload_n 0, 1) := by decide +kernel
theorem dX6_see_12 : decode cX6_see 12 = .ok (.getfield 7, 3) := by decide +kernel
theorem dX6_see_15 : decode cX6_see 15 = .ok (.aload_n 0, 1) := by decide +kernel
theorem dX6_see_16 : decode cX6_see 16 = .ok (.getfield 167, 3) := by decide +kernel
theorem dX6_see_19 : decode cX6_see 19 = .ok (.baload, 1) := by decide +kernel
theorem dX6_see_20 : decode cX6_see 20 = .ok (.sipush 255, 3) := by decide +kernel
theorem dX6_see_23 : decode cX6_see 23 = .ok (.iand, 1) := by decide +kernel
theorem dX6_see_24 : decode cX6_see 24 = .ok (.goto 4, 3) := by decide +kernel
theorem dX6_see_27 : decode cX6_see 27 = .ok (.iconst (-1), 1) := by decide +kernel
theorem dX6_see_28 : decode cX6_see 28 = .ok (.ireturn, 1) := by decide +kernel
set_option maxRecDepth 20000 in
theorem ggX6_next_X6_see : GoodIn wsX6_next wsX6_see := goodIn_r _ [10, 1, 11, 12, 16, 17, 18, 19, 20, 21, 22, 23, 24, 25, 26, 27, 28, 29, 30, 31, 32, 33, 34, 35, 36, 37, 38, 39, 40, 41, 42, 43, 44, 45, 46, 47, 48, 49, 50, 51, 52, 53, 54, 55, 56, 57, 58, 59, 60, 61, 62, 63, 64, 65] (by decide +kernel) (by decide +kernel)
set_option maxRecDepth 20000 in
theorem gX6_next_X6_see : GoodIn wsX6_next (wsV RX6 173 RX6 yX6_see wsX6_see) := goodIn_app (goodIn_of _ (by decide +kernel)) ggX6_next_X6_see
set_option maxRecDepth 20000 in
theorem ggX6_next_X6_in : GoodIn wsX6_next wsX6_in := goodIn_r _ [15] (by decide +kernel) (by decide +kernel)
set_option maxRecDepth 20000 in
theorem gX6_next_X6_in : GoodIn wsX6_next (va_wsS RX6 145 yX6_in wsX6_in) := goodIn_app (goodIn_of _ (by decide +kernel)) ggX6_next_X6_in
theorem dX6_next_0 : decode cX6_next 0 = .ok (.aload_n 0, 1) := by decide +kernel
theorem dX6_next_1 : decode cX6_next 1 = .ok (.invokevirtual 173, 3) := by decide +kernel
theorem dX6_next_4 : decode cX6_next 4 = .ok (.bipush 10, 2) := by decide +kernel
theorem dX6_next_6 : decode cX6_next 6 = .ok (.if_icmp .eq 12, 3) := by decide +kernel
theorem dX6_next_9 : decode cX6_next 9 = .ok (.aload_n 0, 1) := by decide +kernel
theorem dX6_next_10 : decode cX6_next 10 = .ok (.invokevirtual 173, 3) := by decide +kernel
theorem dX6_next_13 : decode cX6_next 13 = .ok (.bipush 32, 2) := by decide +kernel
theorem dX6_next_15 : decode cX6_next 15 = .ok (.if_icmp .ne 16, 3) := by decide +kernel
theorem dX6_next_18 : decode cX6_next 18 = .ok (.aload_n 0, 1) := by decide +kernel
theorem dX6_next_19 : decode cX6_next 19 = .ok (.dup, 1) := by decide +kernel
theorem dX6_next_20 : decode cX6_next 20 = .ok (.getfield 167, 3) := by decide +kernel
theorem dX6_next_23 : decode cX6_next 23 = .ok (.iconst 1, 1) := by decide +kernel
theorem dX6_next_24 : decode cX6_next 24 = .ok (.iadd, 1) := by decide +kernel
theorem dX6_next_25 : decode cX6_next 25 = .ok (.putfield 167, 3) := by decide +kernel
theorem dX6_next_28 : decode cX6_next 28 = .ok (.goto (-28), 3) := by decide +kernel
theorem dX6_next_31 : decode cX6_next 31 = .ok (.aload_n 0, 1) := by decide +kernel
theorem dX6_next_32 : decode cX6_next 32 = .ok (.aload_n 0, 1) := by decide +kernel
theorem dX6_next_33 : decode cX6_next 33 = .ok (.getfield 167, 3) := by decide +kernel
theorem dX6_next_36 : decode cX6_next 36 = .ok (.putfield 177, 3) := by decide +kernel
theorem dX6_next_39 : decode cX6_next 39 = .ok (.aload_n 0, 1) := by decide +kernel
theorem dX6_next_40 : decode cX6_next 40 = .ok (.invokevirtual 173, 3) := by decide +kernel
theorem dX6_next_43 : decode cX6_next 43 = .ok (.istore_n 1, 1) := by decide +kernel
theorem dX6_next_44 : decode cX6_next 44 = .ok (.aload_n 0, 1) := by decide +kernel
theorem dX6_next_45 : decode cX6_next 45 = .ok (.iload_n 1, 1) := by decide +kernel
theorem dX6_next_46 : decode cX6_next 46 = .ok (.putfield 180, 3) := by decide +kernel
theorem dX6_next_49 : decode cX6_next 49 = .ok (.aload_n 0, 1) := by decide +kernel
theorem dX6_next_50 : decode cX6_next 50 = .ok (.lconst 0, 1) := by decide +kernel
theorem dX6_next_51 : decode cX6_next 51 = .ok (.putfield 183, 3) := by decide +kernel
theorem dX6_next_54 : decode cX6_next 54 = .ok (.iconst 0, 1) := by decide +kernel
theorem dX6_next_55 : decode cX6_next 55 = .ok (.istore_n 2, 1) := by decide +kernel
theorem dX6_next_56 : decode cX6_next 56 = .ok (.iload_n 1, 1) := by decide +kernel
theorem dX6_next_57 : decode cX6_next 57 = .ok (.ifCond .ge 11, 3) := by decide +kernel
theorem dX6_next_60 : decode cX6_next 60 = .ok (.aload_n 0, 1) := by decide +kernel
theorem dX6_next_61 : decode cX6_next 61 = .ok (.iconst 0, 1) := by decide +kernel
theorem dX6_next_62 : decode cX6_next 62 = .ok (.putfield 187, 3) := by decide +kernel
theorem dX6_next_65 : decode cX6_next 65 = .ok (.goto 230, 3) := by decide +kernel
theorem dX6_next_68 : decode cX6_next 68 = .ok (.iload_n 1, 1) := by decide +kernel
theorem dX6_next_69 : decode cX6_next 69 = .ok (.bipush 97, 2) := by decide +kernel
theorem dX6_next_71 : decode cX6_next 71 = .ok (.bipush 122, 2) := by decide +kernel
theorem dX6_next_73 : decode cX6_next 73 = .ok (.invokestatic 145, 3) := by decide +kernel
theorem dX6_next_76 : decode cX6_next 76 = .ok (.ifCond .eq 76, 3) := by decide +kernel
theorem dX6_next_79 : decode cX6_next 79 = .ok (.aload_n 0, 1) := by decide +kernel
theorem dX6_next_80 : decode cX6_next 80 = .ok (.invokevirtual 173, 3) := by decide +kernel
theorem dX6_next_83 : decode cX6_next 83 = .ok (.bipush 97, 2) := by decide +kernel
theorem dX6_next_85 : decode cX6_next 85 = .ok (.bipush 122, 2) := by decide +kernel
theorem dX6_next_87 : decode cX6_next 87 = .ok (.invokestatic 145, 3) := by decide +kernel
theorem dX6_next_90 : decode cX6_next 90 = .ok (.ifCond .eq 36, 3) := by decide +kernel
theorem dX6_next_93 : decode cX6_next 93 = .ok (.aload_n 0, 1) := by decide +kernel
theorem dX6_next_94 : decode cX6_next 94 = .ok (.aload_n 0, 1) := by decide +kernel
theorem dX6_next_95 : decode cX6_next 95 = .ok (.getfield 183, 3) := by decide +kernel
theorem dX6_next_98 : decode cX6_next 98 = .ok (.bipush 8, 2) := by decide +kernel
theorem dX6_next_100 : decode cX6_next 100 = .ok (.lshl, 1) := by decide +kernel
theorem dX6_next_101 : decode cX6_next 101 = .ok (.aload_n 0, 1) := by decide +kernel
theorem dX6_next_102 : decode cX6_next 102 = .ok (.invokevirtual 173, 3) := by decide +kernel
theorem dX6_next_105 : decode cX6_next 105 = .ok (.i2l, 1) := by decide +kernel
theorem dX6_next_106 : decode cX6_next 106 = .ok (.lor, 1) := by decide +kernel
theorem dX6_next_107 : decode cX6_next 107 = .ok (.putfield 183, 3) := by decide +kernel
theorem dX6_next_110 : decode cX6_next 110 = .ok (.aload_n 0, 1) := by decide +kernel
theorem dX6_next_111 : decode cX6_next 111 = .ok (.dup, 1) := by decide +kernel
theorem dX6_next_112 : decode cX6_next 112 = .ok (.getfield 167, 3) := by decide +kernel
theorem dX6_next_115 : decode cX6_next 115 = .ok (.iconst 1, 1) := by decide +kernel
theorem dX6_next_116 : decode cX6_next 116 = .ok (.iadd, 1) := by decide +kernel
theorem dX6_next_117 : decode cX6_next 117 = .ok (.putfield 167, 3) := by decide +kernel
theorem dX6_next_120 : decode cX6_next 120 = .ok (.iinc 2 1, 3) := by decide +kernel
theorem dX6_next_123 : decode cX6_next 123 = .ok (.goto (-44), 3) := by decide +kernel
theorem dX6_next_126 : decode cX6_next 126 = .ok (.aload_n 0, 1) := by decide +kernel
theorem dX6_next_127 : decode cX6_next 127 = .ok (.iload_n 2, 1) := by decide +kernel
theorem dX6_next_128 : decode cX6_next 128 = .ok (.bipush 8, 2) := by decide +kernel
theorem dX6_next_130 : decode cX6_next 130 = .ok (.if_icmp .le 7, 3) := by decide +kernel
theorem dX6_next_133 : decode cX6_next 133 = .ok (.lconst 0, 1) := by decide +kernel
theorem dX6_next_134 : decode cX6_next 134 = .ok (.goto 7, 3) := by decide +kernel
theorem dX6_next_137 : decode cX6_next 137 = .ok (.aload_n 0, 1) := by decide +kernel
theorem dX6_next_138 : decode cX6_next 138 = .ok (.getfield 183, 3) := by decide +kernel
theorem dX6_next_141 : decode cX6_next 141 = .ok (.putfield 183, 3) := by decide +kernel
theorem dX6_next_144 : decode cX6_next 144 = .ok (.aload_n 0, 1) := by decide +kernel
theorem dX6_next_145 : decode cX6_next 145 = .ok (.iconst 2, 1) := by decide +kernel
theorem dX6_next_146 : decode cX6_next 146 = .ok (.putfield 187, 3) := by decide +kernel
theorem dX6_next_149 : decode cX6_next 149 = .ok (.goto 146, 3) := by decide +kernel
theorem dX6_next_152 : decode cX6_next 152 = .ok (.iload_n 1, 1) := by decide +kernel
theorem dX6_next_153 : decode cX6_next 153 = .ok (.bipush 48, 2) := by decide +kernel
theorem dX6_next_155 : decode cX6_next 155 = .ok (.bipush 57, 2) := by decide +kernel
theorem dX6_next_157 : decode cX6_next 157 = .ok (.invokestatic 145, 3) := by decide +kernel
theorem dX6_next_160 : decode cX6_next 160 = .ok (.ifCond .eq 86, 3) := by decide +kernel
theorem dX6_next_163 : decode cX6_next 163 = .ok (.aload_n 0, 1) := by decide +kernel
theorem dX6_next_164 : decode cX6_next 164 = .ok (.iconst 0, 1) := by decide +kernel
theorem dX6_next_165 : decode cX6_next 165 = .ok (.putfield 180, 3) := by decide +kernel
theorem dX6_next_168 : decode cX6_next 168 = .ok (.aload_n 0, 1) := by decide +kernel
theorem dX6_next_169 : decode cX6_next 169 = .ok (.invokevirtual 173, 3) := by decide +kernel
theorem dX6_next_172 : decode cX6_next 172 = .ok (.bipush 48, 2) := by decide +kernel
theorem dX6_next_174 : decode cX6_next 174 = .ok (.bipush 57, 2) := by decide +kernel
theorem dX6_next_176 : decode cX6_next 176 = .ok (.invokestatic 145, 3) := by decide +kernel
theorem dX6_next_179 : decode cX6_next 179 = .ok (.ifCond .eq 50, 3) := by decide +kernel
theorem dX6_next_182 : decode cX6_next 182 = .ok (.aload_n 0, 1) := by decide +kernel
theorem dX6_next_183 : decode cX6_next 183 = .ok (.iload_n 2, 1) := by decide +kernel
theorem dX6_next_184 : decode cX6_next 184 = .ok (.iconst 4, 1) := by decide +kernel
theorem dX6_next_185 : decode cX6_next 185 = .ok (.if_icmp .ge 21, 3) := by decide +kernel
theorem dX6_next_188 : decode cX6_next 188 = .ok (.bipush 10, 2) := by decide +kernel
theorem dX6_next_190 : decode cX6_next 190 = .ok (.aload_n 0, 1) := by decide +kernel
theorem dX6_next_191 : decode cX6_next 191 = .ok (.getfield 180, 3) := by decide +kernel
theorem dX6_next_194 : decode cX6_next 194 = .ok (.imul, 1) := by decide +kernel
theorem dX6_next_195 : decode cX6_next 195 = .ok (.aload_n 0, 1) := by decide +kernel
theorem dX6_next_196 : decode cX6_next 196 = .ok (.invokevirtual 173, 3) := by decide +kernel
theorem dX6_next_199 : decode cX6_next 199 = .ok (.iadd, 1) := by decide +kernel
theorem dX6_next_200 : decode cX6_next 200 = .ok (.bipush 48, 2) := by decide +kernel
theorem dX6_next_202 : decode cX6_next 202 = .ok (.isub, 1) := by decide +kernel
theorem dX6_next_203 : decode cX6_next 203 = .ok (.goto 7, 3) := by decide +kernel
theorem dX6_next_206 : decode cX6_next 206 = .ok (.aload_n 0, 1) := by decide +kernel
theorem dX6_next_207 : decode cX6_next 207 = .ok (.getfield 180, 3) := by decide +kernel
theorem dX6_next_210 : decode cX6_next 210 = .ok (.putfield 180, 3) := by decide +kernel
theorem dX6_next_213 : decode cX6_next 213 = .ok (.aload_n 0, 1) := by decide +kernel
theorem dX6_next_214 : decode cX6_next 214 = .ok (.dup, 1) := by decide +kernel
theorem dX6_next_215 : decode cX6_next 215 = .ok (.getfield 167, 3) := by decide +kernel
theorem dX6_next_218 : decode cX6_next 218 = .ok (.iconst 1, 1) := by decide +kernel
theorem dX6_next_219 : decode cX6_next 219 = .ok (.iadd, 1) := by decide +kernel
theorem dX6_next_220 : decode cX6_next 220 = .ok (.putfield 167, 3) := by decide +kernel
theorem dX6_next_223 : decode cX6_next 223 = .ok (.iinc 2 1, 3) := by decide +kernel
theorem dX6_next_226 : decode cX6_next 226 = .ok (.goto (-58), 3) := by decide +kernel
theorem dX6_next_229 : decode cX6_next 229 = .ok (.aload_n 0, 1) := by decide +kernel
theorem dX6_next_230 : decode cX6_next 230 = .ok (.iload_n 2, 1) := by decide +kernel
theorem dX6_next_231 : decode cX6_next 231 = .ok (.iconst 4, 1) := by decide +kernel
theorem dX6_next_232 : decode cX6_next 232 = .ok (.if_icmp .le 7, 3) := by decide +kernel
theorem dX6_next_235 : decode cX6_next 235 = .ok (.iconst 1, 1) := by decide +kernel
theorem dX6_next_236 : decode cX6_next 236 = .ok (.goto 4, 3) := by decide +kernel
theorem dX6_next_239 : decode cX6_next 239 = .ok (.iconst 3, 1) := by decide +kernel
theorem dX6_next_240 : decode cX6_next 240 = .ok (.putfield 187, 3) := by decide +kernel
theorem dX6_next_243 : decode cX6_next 243 = .ok (.goto 52, 3) := by decide +kernel
theorem dX6_next_246 : decode cX6_next 246 = .ok (.aload_n 0, 1) := by decide +kernel
theorem dX6_next_247 : decode cX6_next 247 = .ok (.dup, 1) := by decide +kernel
theorem dX6_next_248 : decode cX6_next 248 = .ok (.getfield 167, 3) := by decide +kernel
theorem dX6_next_251 : decode cX6_next 251 = .ok (.iconst 1, 1) := by decide +kernel
theorem dX6_next_252 : decode cX6_next 252 = .ok (.iadd, 1) := by decide +kernel
theorem dX6_next_253 : decode cX6_next 253 = .ok (.putfield 167, 3) := by decide +kernel
theorem dX6_next_256 : decode cX6_next 256 = .ok (.aload_n 0, 1) := by decide +kernel
theorem dX6_next_257 : decode cX6_next 257 = .ok (.iload_n 1, 1) := by decide +kernel
