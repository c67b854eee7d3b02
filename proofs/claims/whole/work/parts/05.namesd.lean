theorem dX6_next_258 : decode cX6_next 258 = .ok (.bipush 58, 2) := by decide +kernel
theorem dX6_next_260 : decode cX6_next 260 = .ok (.if_icmp .eq 27, 3) := by decide +kernel
theorem dX6_next_263 : decode cX6_next 263 = .ok (.iload_n 1, 1) := by decide +kernel
theorem dX6_next_264 : decode cX6_next 264 = .ok (.bipush 59, 2) := by decide +kernel
theorem dX6_next_266 : decode cX6_next 266 = .ok (.if_icmp .eq 21, 3) := by decide +kernel
theorem dX6_next_269 : decode cX6_next 269 = .ok (.iload_n 1, 1) := by decide +kernel
theorem dX6_next_270 : decode cX6_next 270 = .ok (.bipush 60, 2) := by decide +kernel
theorem dX6_next_272 : decode cX6_next 272 = .ok (.if_icmp .eq 15, 3) := by decide +kernel
theorem dX6_next_275 : decode cX6_next 275 = .ok (.iload_n 1, 1) := by decide +kernel
theorem dX6_next_276 : decode cX6_next 276 = .ok (.bipush 62, 2) := by decide +kernel
theorem dX6_next_278 : decode cX6_next 278 = .ok (.if_icmp .eq 9, 3) := by decide +kernel
theorem dX6_next_281 : decode cX6_next 281 = .ok (.iload_n 1, 1) := by decide +kernel
theorem dX6_next_282 : decode cX6_next 282 = .ok (.bipush 61, 2) := by decide +kernel
theorem dX6_next_284 : decode cX6_next 284 = .ok (.if_icmp .ne 7, 3) := by decide +kernel
theorem dX6_next_287 : decode cX6_next 287 = .ok (.iconst 4, 1) := by decide +kernel
theorem dX6_next_288 : decode cX6_next 288 = .ok (.goto 4, 3) := by decide +kernel
theorem dX6_next_291 : decode cX6_next 291 = .ok (.iconst 1, 1) := by decide +kernel
theorem dX6_next_292 : decode cX6_next 292 = .ok (.putfield 187, 3) := by decide +kernel
theorem dX6_next_295 : decode cX6_next 295 = .ok (.return_, 1) := by decide +kernel
theorem dX6_isWord_0 : decode cX6_isWord 0 = .ok (.aload_n 0, 1) := by decide +kernel
theorem dX6_isWord_1 : decode cX6_isWord 1 = .ok (.getfield 187, 3) := by decide +kernel
theorem dX6_isWord_4 : decode cX6_isWord 4 = .ok (.iconst 2, 1) := by decide +kernel
theorem dX6_isWord_5 : decode cX6_isWord 5 = .ok (.if_icmp .ne 16, 3) := by decide +kernel
theorem dX6_isWord_8 : decode cX6_isWord 8 = .ok (.aload_n 0, 1) := by decide +kernel
theorem dX6_isWord_9 : decode cX6_isWord 9 = .ok (.getfield 183, 3) := by decide +kernel
theorem dX6_isWord_12 : decode cX6_isWord 12 = .ok (.lload_n 1, 1) := by decide +kernel
theorem dX6_isWord_13 : decode cX6_isWord 13 = .ok (.lcmp, 1) := by decide +kernel
theorem dX6_isWord_14 : decode cX6_isWord 14 = .ok (.ifCond .ne 7, 3) := by decide +kernel
theorem dX6_isWord_17 : decode cX6_isWord 17 = .ok (.iconst 1, 1) := by decide +kernel
theorem dX6_isWord_18 : decode cX6_isWord 18 = .ok (.goto 4, 3) := by decide +kernel
theorem dX6_isWord_21 : decode cX6_isWord 21 = .ok (.iconst 0, 1) := by decide +kernel
theorem dX6_isWord_22 : decode cX6_isWord 22 = .ok (.ireturn, 1) := by decide +kernel
theorem dX6_isSign_0 : decode cX6_isSign 0 = .ok (.aload_n 0, 1) := by decide +kernel
theorem dX6_isSign_1 : decode cX6_isSign 1 = .ok (.getfield 187, 3) := by decide +kernel
theorem dX6_isSign_4 : decode cX6_isSign 4 = .ok (.iconst 4, 1) := by decide +kernel
theorem dX6_isSign_5 : decode cX6_isSign 5 = .ok (.if_icmp .ne 15, 3) := by decide +kernel
theorem dX6_isSign_8 : decode cX6_isSign 8 = .ok (.aload_n 0, 1) := by decide +kernel
theorem dX6_isSign_9 : decode cX6_isSign 9 = .ok (.getfield 180, 3) := by decide +kernel
theorem dX6_isSign_12 : decode cX6_isSign 12 = .ok (.iload_n 1, 1) := by decide +kernel
theorem dX6_isSign_13 : decode cX6_isSign 13 = .ok (.if_icmp .ne 7, 3) := by decide +kernel
theorem dX6_isSign_16 : decode cX6_isSign 16 = .ok (.iconst 1, 1) := by decide +kernel
theorem dX6_isSign_17 : decode cX6_isSign 17 = .ok (.goto 4, 3) := by decide +kernel
theorem dX6_isSign_20 : decode cX6_isSign 20 = .ok (.iconst 0, 1) := by decide +kernel
theorem dX6_isSign_21 : decode cX6_isSign 21 = .ok (.ireturn, 1) := by decide +kernel
theorem dX6_wrong_0 : decode cX6_wrong 0 = .ok (.aload_n 0, 1) := by decide +kernel
theorem dX6_wrong_1 : decode cX6_wrong 1 = .ok (.aload_n 0, 1) := by decide +kernel
theorem dX6_wrong_2 : decode cX6_wrong 2 = .ok (.getfield 177, 3) := by decide +kernel
theorem dX6_wrong_5 : decode cX6_wrong 5 = .ok (.putfield 190, 3) := by decide +kernel
theorem dX6_wrong_8 : decode cX6_wrong 8 = .ok (.iconst 0, 1) := by decide +kernel
theorem dX6_wrong_9 : decode cX6_wrong 9 = .ok (.ireturn, 1) := by decide +kernel
theorem dX6_later_0 : decode cX6_later 0 = .ok (.aload_n 0, 1) := by decide +kernel
theorem dX6_later_1 : decode cX6_later 1 = .ok (.getfield 193, 3) := by decide +kernel
theorem dX6_later_4 : decode cX6_later 4 = .ok (.ifCond .ne 13, 3) := by decide +kernel
theorem dX6_later_7 : decode cX6_later 7 = .ok (.aload_n 0, 1) := by decide +kernel
theorem dX6_later_8 : decode cX6_later 8 = .ok (.iload_n 1, 1) := by decide +kernel
theorem dX6_later_9 : decode cX6_later 9 = .ok (.putfield 193, 3) := by decide +kernel
theorem dX6_later_12 : decode cX6_later 12 = .ok (.aload_n 0, 1) := by decide +kernel
theorem dX6_later_13 : decode cX6_later 13 = .ok (.iload_n 2, 1) := by decide +kernel
theorem dX6_later_14 : decode cX6_later 14 = .ok (.putfield 196, 3) := by decide +kernel
theorem dX6_later_17 : decode cX6_later 17 = .ok (.return_, 1) := by decide +kernel
set_option maxRecDepth 20000 in
theorem ggX6_need_X6_isSign : GoodIn wsX6_need wsX6_isSign := goodIn_r _ [5, 6, 7, 29, 30, 31, 32, 33, 34, 35, 36, 37, 38, 39, 40, 41, 42, 43, 44, 45, 46, 47, 48, 49, 50, 51, 52, 53, 54, 55, 56, 57, 58, 59, 60, 61, 62, 63, 64, 65, 66, 67, 68, 69, 70, 71, 72, 73, 74, 75, 76, 77, 78] (by decide +kernel) (by decide +kernel)
set_option maxRecDepth 20000 in
theorem gX6_need_X6_isSign : GoodIn wsX6_need (wsV RX6 199 RX6 yX6_isSign wsX6_isSign) := goodIn_app (goodIn_of _ (by decide +kernel)) ggX6_need_X6_isSign
set_option maxRecDepth 20000 in
theorem ggX6_need_X6_wrong : GoodIn wsX6_need wsX6_wrong := goodIn_r _ [11, 12, 13, 29, 30, 31, 32, 33, 34, 35, 36, 37, 38, 39, 40, 41, 42, 43, 44, 45, 46, 47, 48, 49, 50, 51, 52, 53, 54, 55, 56, 57, 58, 59, 60, 61, 62, 63, 64, 65, 66, 67, 68, 69, 70, 71, 72, 73, 74, 75, 76, 77, 78] (by decide +kernel) (by decide +kernel)
set_option maxRecDepth 20000 in
theorem gX6_need_X6_wrong : GoodIn wsX6_need (wsV RX6 202 RX6 yX6_wrong wsX6_wrong) := goodIn_app (goodIn_of _ (by decide +kernel)) ggX6_need_X6_wrong
set_option maxRecDepth 20000 in
theorem ggX6_need_X6_next : GoodIn wsX6_need wsX6_next := goodIn_r _ [17, 18, 12, 7, 19, 6, 20, 21, 22, 4, 23, 24, 25, 26, 27, 28, 29, 30, 31, 32, 33, 34, 35, 36, 37, 38, 39, 40, 41, 42, 43, 44, 45, 46, 47, 48, 49, 50, 51, 52, 53, 54, 55, 56, 57, 58, 59, 60, 61, 62, 63, 64, 65, 66, 67, 68, 69, 70, 71, 72, 73, 74, 75, 76, 77, 78] (by decide +kernel) (by decide +kernel)
set_option maxRecDepth 20000 in
theorem gX6_need_X6_next : GoodIn wsX6_need (wsV RX6 206 RX6 yX6_next wsX6_next) := goodIn_app (goodIn_of _ (by decide +kernel)) ggX6_need_X6_next
theorem dX6_need_0 : decode cX6_need 0 = .ok (.aload_n 0, 1) := by decide +kernel
theorem dX6_need_1 : decode cX6_need 1 = .ok (.iload_n 1, 1) := by decide +kernel
theorem dX6_need_2 : decode cX6_need 2 = .ok (.invokevirtual 199, 3) := by decide +kernel
theorem dX6_need_5 : decode cX6_need 5 = .ok (.ifCond .ne 8, 3) := by decide +kernel
theorem dX6_need_8 : decode cX6_need 8 = .ok (.aload_n 0, 1) := by decide +kernel
theorem dX6_need_9 : decode cX6_need 9 = .ok (.invokevirtual 202, 3) := by decide +kernel
theorem dX6_need_12 : decode cX6_need 12 = .ok (.ireturn, 1) := by decide +kernel
theorem dX6_need_13 : decode cX6_need 13 = .ok (.aload_n 0, 1) := by decide +kernel
theorem dX6_need_14 : decode cX6_need 14 = .ok (.invokevirtual 206, 3) := by decide +kernel
theorem dX6_need_17 : decode cX6_need 17 = .ok (.iconst 1, 1) := by decide +kernel
theorem dX6_need_18 : decode cX6_need 18 = .ok (.ireturn, 1) := by decide +kernel
set_option maxRecDepth 20000 in
theorem ggX6_oneLine_X6_later : GoodIn wsX6_oneLine wsX6_later := goodIn_r _ [18, 19, 20, 67, 68, 69, 70, 71, 72, 73, 74, 75, 76, 77, 78, 79, 80, 81, 82, 83, 84, 85, 86, 87, 88, 89, 90, 91, 92, 93, 94, 95, 96, 97, 98, 99, 100, 101, 102, 103, 104, 105, 106, 107, 108, 109, 110, 111, 112, 113, 114, 115, 116] (by decide +kernel) (by decide +kernel)
set_option maxRecDepth 20000 in
theorem gX6_oneLine_X6_later : GoodIn wsX6_oneLine (wsV RX6 212 RX6 yX6_later wsX6_later) := goodIn_app (goodIn_of _ (by decide +kernel)) ggX6_oneLine_X6_later
set_option maxRecDepth 20000 in
theorem ggX6_oneLine_X6_isWord : GoodIn wsX6_oneLine wsX6_isWord := goodIn_r _ [24, 12, 25, 67, 68, 69, 70, 71, 72, 73, 74, 75, 76, 77, 78, 79, 80, 81, 82, 83, 84, 85, 86, 87, 88, 89, 90, 91, 92, 93, 94, 95, 96, 97, 98, 99, 100, 101, 102, 103, 104, 105, 106, 107, 108, 109, 110, 111, 112, 113, 114, 115, 116] (by decide +kernel) (by decide +kernel)
set_option maxRecDepth 20000 in
theorem gX6_oneLine_X6_isWord : GoodIn wsX6_oneLine (wsV RX6 217 RX6 yX6_isWord wsX6_isWord) := goodIn_app (goodIn_of _ (by decide +kernel)) ggX6_oneLine_X6_isWord
set_option maxRecDepth 20000 in
theorem ggX6_oneLine_X6_next : GoodIn wsX6_oneLine wsX6_next := goodIn_r _ [29, 30, 2, 13, 25, 12, 31, 32, 33, 17, 34, 35, 36, 37, 38, 39, 67, 68, 69, 70, 71, 72, 73, 74, 75, 76, 77, 78, 79, 80, 81, 82, 83, 84, 85, 86, 87, 88, 89, 90, 91, 92, 93, 94, 95, 96, 97, 98, 99, 100, 101, 102, 103, 104, 105, 106, 107, 108, 109, 110, 111, 112, 113, 114, 115, 116] (by decide +kernel) (by decide +kernel)
set_option maxRecDepth 20000 in
theorem gX6_oneLine_X6_next : GoodIn wsX6_oneLine (wsV RX6 206 RX6 yX6_next wsX6_next) := goodIn_app (goodIn_of _ (by decide +kernel)) ggX6_oneLine_X6_next
set_option maxRecDepth 20000 in
theorem ggX6_oneLine_X6_test : GoodIn wsX6_oneLine wsX6_test := goodIn_r _ [43, 2, 44, 45, 46, 47, 48, 49, 50, 13, 12, 51, 52, 53, 3, 14, 15, 16, 17, 18, 19, 20, 21, 22, 23, 24, 25, 26, 27, 28, 29, 30, 31, 32, 33, 34, 35, 36, 37, 38, 39, 54, 55, 56, 57, 58, 67, 68, 69, 70, 71, 72, 73, 74, 75, 76, 77, 78, 79, 80, 81, 82, 83, 84, 85, 86, 87, 88, 89, 90, 91, 92, 93, 94, 95, 96, 97, 98, 99, 100, 101, 102, 103, 104, 105, 106, 107, 108, 109, 110, 111, 112, 113, 114, 115, 116] (by decide +kernel) (by decide +kernel)
set_option maxRecDepth 20000 in
theorem gX6_oneLine_X6_test : GoodIn wsX6_oneLine (wsV RX6 221 RX6 yX6_test wsX6_test) := goodIn_app (goodIn_of _ (by decide +kernel)) ggX6_oneLine_X6_test
set_option maxRecDepth 20000 in
theorem ggX6_oneLine_X6_need : GoodIn wsX6_oneLine wsX6_need := goodIn_r _ [62, 63, 64, 65, 17, 66, 12, 13, 54, 55, 56, 57, 2, 58, 26, 27, 28, 29, 30, 25, 31, 32, 33, 34, 35, 36, 37, 38, 39, 67, 68, 69, 70, 71, 72, 73, 74, 75, 76, 77, 78, 79, 80, 81, 82, 83, 84, 85, 86, 87, 88, 89, 90, 91, 92, 93, 94, 95, 96, 97, 98, 99, 100, 101, 102, 103, 104, 105, 106, 107, 108, 109, 110, 111, 112, 113, 114, 115, 116] (by decide +kernel) (by decide +kernel)
set_option maxRecDepth 20000 in
theorem gX6_oneLine_X6_need : GoodIn wsX6_oneLine (wsV RX6 227 RX6 yX6_need wsX6_need) := goodIn_app (goodIn_of _ (by decide +kernel)) ggX6_oneLine_X6_need
set_option maxRecDepth 20000 in
theorem ggX6_oneLine_X6_wrong : GoodIn wsX6_oneLine wsX6_wrong := goodIn_r _ [57, 2, 58, 67, 68, 69, 70, 71, 72, 73, 74, 75, 76, 77, 78, 79, 80, 81, 82, 83, 84, 85, 86, 87, 88, 89, 90, 91, 92, 93, 94, 95, 96, 97, 98, 99, 100, 101, 102, 103, 104, 105, 106, 107, 108, 109, 110, 111, 112, 113, 114, 115, 116] (by decide +kernel) (by decide +kernel)
set_option maxRecDepth 20000 in
theorem gX6_oneLine_X6_wrong : GoodIn wsX6_oneLine (wsV RX6 202 RX6 yX6_wrong wsX6_wrong) := goodIn_app (goodIn_of _ (by decide +kernel)) ggX6_oneLine_X6_wrong
theorem dX6_oneLine_0 : decode cX6_oneLine 0 = .ok (.aload_n 0, 1) := by decide +kernel
theorem dX6_oneLine_1 : decode cX6_oneLine 1 = .ok (.getfield 209, 3) := by decide +kernel
theorem dX6_oneLine_4 : decode cX6_oneLine 4 = .ok (.bipush 16, 2) := by decide +kernel
theorem dX6_oneLine_6 : decode cX6_oneLine 6 = .ok (.if_icmp .ge 10, 3) := by decide +kernel
theorem dX6_oneLine_9 : decode cX6_oneLine 9 = .ok (.aload_n 0, 1) := by decide +kernel
theorem dX6_oneLine_10 : decode cX6_oneLine 10 = .ok (.getfield 209, 3) := by decide +kernel
theorem dX6_oneLine_13 : decode cX6_oneLine 13 = .ok (.goto 5, 3) := by decide +kernel
theorem dX6_oneLine_16 : decode cX6_oneLine 16 = .ok (.bipush 16, 2) := by decide +kernel
theorem dX6_oneLine_18 : decode cX6_oneLine 18 = .ok (.istore_n 1, 1) := by decide +kernel
theorem dX6_oneLine_19 : decode cX6_oneLine 19 = .ok (.aload_n 0, 1) := by decide +kernel
theorem dX6_oneLine_20 : decode cX6_oneLine 20 = .ok (.getfield 209, 3) := by decide +kernel
theorem dX6_oneLine_23 : decode cX6_oneLine 23 = .ok (.bipush 16, 2) := by decide +kernel
theorem dX6_oneLine_25 : decode cX6_oneLine 25 = .ok (.if_icmp .ne 12, 3) := by decide +kernel
theorem dX6_oneLine_28 : decode cX6_oneLine 28 = .ok (.aload_n 0, 1) := by decide +kernel
theorem dX6_oneLine_29 : decode cX6_oneLine 29 = .ok (.iconst 3, 1) := by decide +kernel
theorem dX6_oneLine_30 : decode cX6_oneLine 30 = .ok (.aload_n 0, 1) := by decide +kernel
theorem dX6_oneLine_31 : decode cX6_oneLine 31 = .ok (.getfield 177, 3) := by decide +kernel
theorem dX6_oneLine_34 : decode cX6_oneLine 34 = .ok (.invokevirtual 212, 3) := by decide +kernel
theorem dX6_oneLine_37 : decode cX6_oneLine 37 = .ok (.aload_n 0, 1) := by decide +kernel
theorem dX6_oneLine_38 : decode cX6_oneLine 38 = .ok (.getfield 85, 3) := by decide +kernel
theorem dX6_oneLine_41 : decode cX6_oneLine 41 = .ok (.iload_n 1, 1) := by decide +kernel
theorem dX6_oneLine_42 : decode cX6_oneLine 42 = .ok (.iconst 0, 1) := by decide +kernel
theorem dX6_oneLine_43 : decode cX6_oneLine 43 = .ok (.iastore, 1) := by decide +kernel
theorem dX6_oneLine_44 : decode cX6_oneLine 44 = .ok (.aload_n 0, 1) := by decide +kernel
theorem dX6_oneLine_45 : decode cX6_oneLine 45 = .ok (.ldc2_w 215, 3) := by decide +kernel
theorem dX6_oneLine_48 : decode cX6_oneLine 48 = .ok (.invokevirtual 217, 3) := by decide +kernel
theorem dX6_oneLine_51 : decode cX6_oneLine 51 = .ok (.ifCond .eq 51, 3) := by decide +kernel
theorem dX6_oneLine_54 : decode cX6_oneLine 54 = .ok (.iconst 1, 1) := by decide +kernel
theorem dX6_oneLine_55 : decode cX6_oneLine 55 = .ok (.istore_n 2, 1) := by decide +kernel
theorem dX6_oneLine_56 : decode cX6_oneLine 56 = .ok (.iconst 0, 1) := by decide +kernel
theorem dX6_oneLine_57 : decode cX6_oneLine 57 = .ok (.istore_n 3, 1) := by decide +kernel
theorem dX6_oneLine_58 : decode cX6_oneLine 58 = .ok (.iload_n 2, 1) := by decide +kernel
theorem dX6_oneLine_59 : decode cX6_oneLine 59 = .ok (.ifCond .eq 32, 3) := by decide +kernel
theorem dX6_oneLine_62 : decode cX6_oneLine 62 = .ok (.aload_n 0, 1) := by decide +kernel
theorem dX6_oneLine_63 : decode cX6_oneLine 63 = .ok (.invokevirtual 206, 3) := by decide +kernel
theorem dX6_oneLine_66 : decode cX6_oneLine 66 = .ok (.aload_n 0, 1) := by decide +kernel
theorem dX6_oneLine_67 : decode cX6_oneLine 67 = .ok (.iload_n 1, 1) := by decide +kernel
theorem dX6_oneLine_68 : decode cX6_oneLine 68 = .ok (.iload_n 3, 1) := by decide +kernel
theorem dX6_oneLine_69 : decode cX6_oneLine 69 = .ok (.invokevirtual 221, 3) := by decide +kernel
theorem dX6_oneLine_72 : decode cX6_oneLine 72 = .ok (.ifCond .ne 5, 3) := by decide +kernel
theorem dX6_oneLine_75 : decode cX6_oneLine 75 = .ok (.iconst 0, 1) := by decide +kernel
theorem dX6_oneLine_76 : decode cX6_oneLine 76 = .ok (.ireturn, 1) := by decide +kernel
theorem dX6_oneLine_77 : decode cX6_oneLine 77 = .ok (.aload_n 0, 1) := by decide +kernel
theorem dX6_oneLine_78 : decode cX6_oneLine 78 = .ok (.ldc2_w 225, 3) := by decide +kernel
theorem dX6_oneLine_81 : decode cX6_oneLine 81 = .ok (.invokevirtual 217, 3) := by decide +kernel
theorem dX6_oneLine_84 : decode cX6_oneLine 84 = .ok (.istore_n 2, 1) := by decide +kernel
theorem dX6_oneLine_85 : decode cX6_oneLine 85 = .ok (.iinc 3 1, 3) := by decide +kernel
theorem dX6_oneLine_88 : decode cX6_oneLine 88 = .ok (.goto (-30), 3) := by decide +kernel
theorem dX6_oneLine_91 : decode cX6_oneLine 91 = .ok (.aload_n 0, 1) := by decide +kernel
theorem dX6_oneLine_92 : decode cX6_oneLine 92 = .ok (.bipush 58, 2) := by decide +kernel
theorem dX6_oneLine_94 : decode cX6_oneLine 94 = .ok (.invokevirtual 227, 3) := by decide +kernel
theorem dX6_oneLine_97 : decode cX6_oneLine 97 = .ok (.ifCond .ne 5, 3) := by decide +kernel
theorem dX6_oneLine_100 : decode cX6_oneLine 100 = .ok (.iconst 0, 1) := by decide +kernel
theorem dX6_oneLine_101 : decode cX6_oneLine 101 = .ok (.ireturn, 1) := by decide +kernel
theorem dX6_oneLine_102 : decode cX6_oneLine 102 = .ok (.aload_n 0, 1) := by decide +kernel
theorem dX6_oneLine_103 : decode cX6_oneLine 103 = .ok (.getfield 97, 3) := by decide +kernel
theorem dX6_oneLine_106 : decode cX6_oneLine 106 = .ok (.iload_n 1, 1) := by decide +kernel
theorem dX6_oneLine_107 : decode cX6_oneLine 107 = .ok (.aload_n 0, 1) := by decide +kernel
theorem dX6_oneLine_108 : decode cX6_oneLine 108 = .ok (.ldc2_w 230, 3) := by decide +kernel
theorem dX6_oneLine_111 : decode cX6_oneLine 111 = .ok (.invokevirtual 217, 3) := by decide +kernel
theorem dX6_oneLine_114 : decode cX6_oneLine 114 = .ok (.ifCond .eq 7, 3) := by decide +kernel
theorem dX6_oneLine_117 : decode cX6_oneLine 117 = .ok (.iconst 0, 1) := by decide +kernel
theorem dX6_oneLine_118 : decode cX6_oneLine 118 = .ok (.goto 46, 3) := by decide +kernel
theorem dX6_oneLine_121 : decode cX6_oneLine 121 = .ok (.aload_n 0, 1) := by decide +kernel
theorem dX6_oneLine_122 : decode cX6_oneLine 122 = .ok (.ldc2_w 232, 3) := by decide +kernel
theorem dX6_oneLine_125 : decode cX6_oneLine 125 = .ok (.invokevirtual 217, 3) := by decide +kernel
theorem dX6_oneLine_128 : decode cX6_oneLine 128 = .ok (.ifCond .eq 7, 3) := by decide +kernel
theorem dX6_oneLine_131 : decode cX6_oneLine 131 = .ok (.iconst 1, 1) := by decide +kernel
theorem dX6_oneLine_132 : decode cX6_oneLine 132 = .ok (.goto 32, 3) := by decide +kernel
theorem dX6_oneLine_135 : decode cX6_oneLine 135 = .ok (.aload_n 0, 1) := by decide +kernel
theorem dX6_oneLine_136 : decode cX6_oneLine 136 = .ok (.ldc2_w 234, 3) := by decide +kernel
theorem dX6_oneLine_139 : decode cX6_oneLine 139 = .ok (.invokevirtual 217, 3) := by decide +kernel
theorem dX6_oneLine_142 : decode cX6_oneLine 142 = .ok (.ifCond .eq 7, 3) := by decide +kernel
theorem dX6_oneLine_145 : decode cX6_oneLine 145 = .ok (.iconst 2, 1) := by decide +kernel
theorem dX6_oneLine_146 : decode cX6_oneLine 146 = .ok (.goto 18, 3) := by decide +kernel
theorem dX6_oneLine_149 : decode cX6_oneLine 149 = .ok (.aload_n 0, 1) := by decide +kernel
theorem dX6_oneLine_150 : decode cX6_oneLine 150 = .ok (.ldc2_w 236, 3) := by decide +kernel
theorem dX6_oneLine_153 : decode cX6_oneLine 153 = .ok (.invokevirtual 217, 3) := by decide +kernel
theorem dX6_oneLine_156 : decode cX6_oneLine 156 = .ok (.ifCond .eq 7, 3) := by decide +kernel
theorem dX6_oneLine_159 : decode cX6_oneLine 159 = .ok (.iconst 3, 1) := by decide +kernel
theorem dX6_oneLine_160 : decode cX6_oneLine 160 = .ok (.goto 4, 3) := by decide +kernel
theorem dX6_oneLine_163 : decode cX6_oneLine 163 = .ok (.iconst (-1), 1) := by decide +kernel
theorem dX6_oneLine_164 : decode cX6_oneLine 164 = .ok (.iastore, 1) := by decide +kernel
theorem dX6_oneLine_165 : decode cX6_oneLine 165 = .ok (.aload_n 0, 1) := by decide +kernel
theorem dX6_oneLine_166 : decode cX6_oneLine 166 = .ok (.getfield 97, 3) := by decide +kernel
theorem dX6_oneLine_169 : decode cX6_oneLine 169 = .ok (.iload_n 1, 1) := by decide +kernel
theorem dX6_oneLine_170 : decode cX6_oneLine 170 = .ok (.iaload, 1) := by decide +kernel
theorem dX6_oneLine_171 : decode cX6_oneLine 171 = .ok (.iconst (-1), 1) := by decide +kernel
theorem dX6_oneLine_172 : decode cX6_oneLine 172 = .ok (.if_icmp .ne 8, 3) := by decide +kernel
theorem dX6_oneLine_175 : decode cX6_oneLine 175 = .ok (.aload_n 0, 1) := by decide +kernel
theorem dX6_oneLine_176 : decode cX6_oneLine 176 = .ok (.invokevirtual 202, 3) := by decide +kernel
theorem dX6_oneLine_179 : decode cX6_oneLine 179 = .ok (.ireturn, 1) := by decide +kernel
theorem dX6_oneLine_180 : decode cX6_oneLine 180 = .ok (.aload_n 0, 1) := by decide +kernel
theorem dX6_oneLine_181 : decode cX6_oneLine 181 = .ok (.invokevirtual 206, 3) := by decide +kernel
theorem dX6_oneLine_184 : decode cX6_oneLine 184 = .ok (.aload_n 0, 1) := by decide +kernel
theorem dX6_oneLine_185 : decode cX6_oneLine 185 = .ok (.getfield 100, 3) := by decide +kernel
theorem dX6_oneLine_188 : decode cX6_oneLine 188 = .ok (.iload_n 1, 1) := by decide +kernel
theorem dX6_oneLine_189 : decode cX6_oneLine 189 = .ok (.iconst 0, 1) := by decide +kernel
theorem dX6_oneLine_190 : decode cX6_oneLine 190 = .ok (.iastore, 1) := by decide +kernel
theorem dX6_oneLine_191 : decode cX6_oneLine 191 = .ok (.aload_n 0, 1) := by decide +kernel
theorem dX6_oneLine_192 : decode cX6_oneLine 192 = .ok (.getfield 97, 3) := by decide +kernel
theorem dX6_oneLine_195 : decode cX6_oneLine 195 = .ok (.iload_n 1, 1) := by decide +kernel
theorem dX6_oneLine_196 : decode cX6_oneLine 196 = .ok (.iaload, 1) := by decide +kernel
theorem dX6_oneLine_197 : decode cX6_oneLine 197 = .ok (.iconst 3, 1) := by decide +kernel
theorem dX6_oneLine_198 : decode cX6_oneLine 198 = .ok (.if_icmp .ge 30, 3) := by decide +kernel
theorem dX6_oneLine_201 : decode cX6_oneLine 201 = .ok (.aload_n 0, 1) := by decide +kernel
theorem dX6_oneLine_202 : decode cX6_oneLine 202 = .ok (.getfield 187, 3) := by decide +kernel
theorem dX6_oneLine_205 : decode cX6_oneLine 205 = .ok (.iconst 3, 1) := by decide +kernel
theorem dX6_oneLine_206 : decode cX6_oneLine 206 = .ok (.if_icmp .eq 8, 3) := by decide +kernel
theorem dX6_oneLine_209 : decode cX6_oneLine 209 = .ok (.aload_n 0, 1) := by decide +kernel
theorem dX6_oneLine_210 : decode cX6_oneLine 210 = .ok (.invokevirtual 202, 3) := by decide +kernel
theorem dX6_oneLine_213 : decode cX6_oneLine 213 = .ok (.ireturn, 1) := by decide +kernel
theorem dX6_oneLine_214 : decode cX6_oneLine 214 = .ok (.aload_n 0, 1) := by decide +kernel
theorem dX6_oneLine_215 : decode cX6_oneLine 215 = .ok (.getfield 100, 3) := by decide +kernel
theorem dX6_oneLine_218 : decode cX6_oneLine 218 = .ok (.iload_n 1, 1) := by decide +kernel
theorem dX6_oneLine_219 : decode cX6_oneLine 219 = .ok (.aload_n 0, 1) := by decide +kernel
theorem dX6_oneLine_220 : decode cX6_oneLine 220 = .ok (.getfield 180, 3) := by decide +kernel
theorem dX6_oneLine_223 : decode cX6_oneLine 223 = .ok (.iastore, 1) := by decide +kernel
theorem dX6_oneLine_224 : decode cX6_oneLine 224 = .ok (.aload_n 0, 1) := by decide +kernel
theorem dX6_oneLine_225 : decode cX6_oneLine 225 = .ok (.invokevirtual 206, 3) := by decide +kernel
theorem dX6_oneLine_228 : decode cX6_oneLine 228 = .ok (.aload_n 0, 1) := by decide +kernel
theorem dX6_oneLine_229 : decode cX6_oneLine 229 = .ok (.dup, 1) := by decide +kernel
theorem dX6_oneLine_230 : decode cX6_oneLine 230 = .ok (.getfield 209, 3) := by decide +kernel
theorem dX6_oneLine_233 : decode cX6_oneLine 233 = .ok (.iconst 1, 1) := by decide +kernel
theorem dX6_oneLine_234 : decode cX6_oneLine 234 = .ok (.iadd, 1) := by decide +kernel
theorem dX6_oneLine_235 : decode cX6_oneLine 235 = .ok (.putfield 209, 3) := by decide +kernel
theorem dX6_oneLine_238 : decode cX6_oneLine 238 = .ok (.aload_n 0, 1) := by decide +kernel
theorem dX6_oneLine_239 : decode cX6_oneLine 239 = .ok (.bipush 59, 2) := by decide +kernel
theorem dX6_oneLine_241 : decode cX6_oneLine 241 = .ok (.invokevirtual 227, 3) := by decide +kernel
theorem dX6_oneLine_244 : decode cX6_oneLine 244 = .ok (.ireturn, 1) := by decide +kernel
set_option maxRecDepth 20000 in
theorem ggX6_test_X6_later : GoodIn wsX6_test wsX6_later := goodIn_r _ [19, 20, 21, 46, 47, 48, 49, 50, 51, 52, 53, 54, 55, 56, 57, 58, 59, 60, 61, 62, 63, 64, 65, 66, 67, 68, 69, 70, 71, 72, 73, 74, 75, 76, 77, 78, 79, 80, 81, 82, 83, 84, 85, 86, 87, 88, 89, 90, 91, 92, 93, 94, 95] (by decide +kernel) (by decide +kernel)
set_option maxRecDepth 20000 in
theorem gX6_test_X6_later : GoodIn wsX6_test (wsV RX6 212 RX6 yX6_later wsX6_later) := goodIn_app (goodIn_of _ (by decide +kernel)) ggX6_test_X6_later
set_option maxRecDepth 20000 in
theorem ggX6_test_X6_isWord : GoodIn wsX6_test wsX6_isWord := goodIn_r _ [25, 10, 26, 46, 47, 48, 49, 50, 51, 52, 53, 54, 55, 56, 57, 58, 59, 60, 61, 62, 63, 64, 65, 66, 67, 68, 69, 70, 71, 72, 73, 74, 75, 76, 77, 78, 79, 80, 81, 82, 83, 84, 85, 86, 87, 88, 89, 90, 91, 92, 93, 94, 95] (by decide +kernel) (by decide +kernel)
set_option maxRecDepth 20000 in
theorem gX6_test_X6_isWord : GoodIn wsX6_test (wsV RX6 217 RX6 yX6_isWord wsX6_isWord) := goodIn_app (goodIn_of _ (by decide +kernel)) ggX6_test_X6_isWord
set_option maxRecDepth 20000 in
theorem ggX6_test_X6_next : GoodIn wsX6_test wsX6_next := goodIn_r _ [30, 31, 1, 9, 26, 10, 32, 33, 34, 18, 35, 36, 37, 38, 39, 40, 46, 47, 48, 49, 50, 51, 52, 53, 54, 55, 56, 57, 58, 59, 60, 61, 62, 63, 64, 65, 66, 67, 68, 69, 70, 71, 72, 73, 74, 75, 76, 77, 78, 79, 80, 81, 82, 83, 84, 85, 86, 87, 88, 89, 90, 91, 92, 93, 94, 95] (by decide +kernel) (by decide +kernel)
set_option maxRecDepth 20000 in
theorem gX6_test_X6_next : GoodIn wsX6_test (wsV RX6 206 RX6 yX6_next wsX6_next) := goodIn_app (goodIn_of _ (by decide +kernel)) ggX6_test_X6_next
set_option maxRecDepth 20000 in
theorem ggX6_test_X6_wrong : GoodIn wsX6_test wsX6_wrong := goodIn_r _ [44, 1, 45, 46, 47, 48, 49, 50, 51, 52, 53, 54, 55, 56, 57, 58, 59, 60, 61, 62, 63, 64, 65, 66, 67, 68, 69, 70, 71, 72, 73, 74, 75, 76, 77, 78, 79, 80, 81, 82, 83, 84, 85, 86, 87, 88, 89, 90, 91, 92, 93, 94, 95] (by decide +kernel) (by decide +kernel)
set_option maxRecDepth 20000 in
theorem gX6_test_X6_wrong : GoodIn wsX6_test (wsV RX6 202 RX6 yX6_wrong wsX6_wrong) := goodIn_app (goodIn_of _ (by decide +kernel)) ggX6_test_X6_wrong
theorem dX6_test_0 : decode cX6_test 0 = .ok (.iload_n 2, 1) := by decide +kernel
theorem dX6_test_1 : decode cX6_test 1 = .ok (.iconst 4, 1) := by decide +kernel
theorem dX6_test_2 : decode cX6_test 2 = .ok (.if_icmp .ne 12, 3) := by decide +kernel
theorem dX6_test_5 : decode cX6_test 5 = .ok (.aload_n 0, 1) := by decide +kernel
theorem dX6_test_6 : decode cX6_test 6 = .ok (.iconst 3, 1) := by decide +kernel
theorem dX6_test_7 : decode cX6_test 7 = .ok (.aload_n 0, 1) := by decide +kernel
theorem dX6_test_8 : decode cX6_test 8 = .ok (.getfield 177, 3) := by decide +kernel
theorem dX6_test_11 : decode cX6_test 11 = .ok (.invokevirtual 212, 3) := by decide +kernel
theorem dX6_test_14 : decode cX6_test 14 = .ok (.aload_n 0, 1) := by decide +kernel
theorem dX6_test_15 : decode cX6_test 15 = .ok (.ldc2_w 238, 3) := by decide +kernel
theorem dX6_test_18 : decode cX6_test 18 = .ok (.invokevirtual 217, 3) := by decide +kernel
theorem dX6_test_21 : decode cX6_test 21 = .ok (.istore_n 3, 1) := by decide +kernel
theorem dX6_test_22 : decode cX6_test 22 = .ok (.iload_n 3, 1) := by decide +kernel
theorem dX6_test_23 : decode cX6_test 23 = .ok (.ifCond .eq 7, 3) := by decide +kernel
theorem dX6_test_26 : decode cX6_test 26 = .ok (.aload_n 0, 1) := by decide +kernel
theorem dX6_test_27 : decode cX6_test 27 = .ok (.invokevirtual 206, 3) := by decide +kernel
theorem dX6_test_30 : decode cX6_test 30 = .ok (.aload_n 0, 1) := by decide +kernel
theorem dX6_test_31 : decode cX6_test 31 = .ok (.ldc2_w 240, 3) := by decide +kernel
theorem dX6_test_34 : decode cX6_test 34 = .ok (.invokevirtual 217, 3) := by decide +kernel
theorem dX6_test_37 : decode cX6_test 37 = .ok (.ifCond .eq 7, 3) := by decide +kernel
theorem dX6_test_40 : decode cX6_test 40 = .ok (.iconst 0, 1) := by decide +kernel
theorem dX6_test_41 : decode cX6_test 41 = .ok (.goto 74, 3) := by decide +kernel
theorem dX6_test_44 : decode cX6_test 44 = .ok (.aload_n 0, 1) := by decide +kernel
theorem dX6_test_45 : decode cX6_test 45 = .ok (.ldc2_w 242, 3) := by decide +kernel
theorem dX6_test_48 : decode cX6_test 48 = .ok (.invokevirtual 217, 3) := by decide +kernel
theorem dX6_test_51 : decode cX6_test 51 = .ok (.ifCond .eq 7, 3) := by decide +kernel
theorem dX6_test_54 : decode cX6_test 54 = .ok (.iconst 1, 1) := by decide +kernel
theorem dX6_test_55 : decode cX6_test 55 = .ok (.goto 60, 3) := by decide +kernel
theorem dX6_test_58 : decode cX6_test 58 = .ok (.aload_n 0, 1) := by decide +kernel
theorem dX6_test_59 : decode cX6_test 59 = .ok (.ldc2_w 244, 3) := by decide +kernel
theorem dX6_test_62 : decode cX6_test 62 = .ok (.invokevirtual 217, 3) := by decide +kernel
theorem dX6_test_65 : decode cX6_test 65 = .ok (.ifCond .eq 7, 3) := by decide +kernel
theorem dX6_test_68 : decode cX6_test 68 = .ok (.iconst 2, 1) := by decide +kernel
theorem dX6_test_69 : decode cX6_test 69 = .ok (.goto 46, 3) := by decide +kernel
theorem dX6_test_72 : decode cX6_test 72 = .ok (.aload_n 0, 1) := by decide +kernel
theorem dX6_test_73 : decode cX6_test 73 = .ok (.ldc2_w 246, 3) := by decide +kernel
theorem dX6_test_76 : decode cX6_test 76 = .ok (.invokevirtual 217, 3) := by decide +kernel
theorem dX6_test_79 : decode cX6_test 79 = .ok (.ifCond .eq 7, 3) := by decide +kernel
theorem dX6_test_82 : decode cX6_test 82 = .ok (.iconst 3, 1) := by decide +kernel
theorem dX6_test_83 : decode cX6_test 83 = .ok (.goto 32, 3) := by decide +kernel
theorem dX6_test_86 : decode cX6_test 86 = .ok (.aload_n 0, 1) := by decide +kernel
theorem dX6_test_87 : decode cX6_test 87 = .ok (.ldc2_w 248, 3) := by decide +kernel
theorem dX6_test_90 : decode cX6_test 90 = .ok (.invokevirtual 217, 3) := by decide +kernel
theorem dX6_test_93 : decode cX6_test 93 = .ok (.ifCond .eq 7, 3) := by decide +kernel
theorem dX6_test_96 : decode cX6_test 96 = .ok (.iconst 4, 1) := by decide +kernel
theorem dX6_test_97 : decode cX6_test 97 = .ok (.goto 18, 3) := by decide +kernel
theorem dX6_test_100 : decode cX6_test 100 = .ok (.aload_n 0, 1) := by decide +kernel
theorem dX6_test_101 : decode cX6_test 101 = .ok (.ldc2_w 250, 3) := by decide +kernel
theorem dX6_test_104 : decode cX6_test 104 = .ok (.invokevirtual 217, 3) := by decide +kernel
theorem dX6_test_107 : decode cX6_test 107 = .ok (.ifCond .eq 7, 3) := by decide +kernel
theorem dX6_test_110 : decode cX6_test 110 = .ok (.iconst 5, 1) := by decide +kernel
theorem dX6_test_111 : decode cX6_test 111 = .ok (.goto 4, 3) := by decide +kernel
theorem dX6_test_114 : decode cX6_test 114 = .ok (.iconst (-1), 1) := by decide +kernel
theorem dX6_test_115 : decode cX6_test 115 = .ok (.istore 4, 2) := by decide +kernel
theorem dX6_test_117 : decode cX6_test 117 = .ok (.iload 4, 2) := by decide +kernel
theorem dX6_test_119 : decode cX6_test 119 = .ok (.iconst (-1), 1) := by decide +kernel
theorem dX6_test_120 : decode cX6_test 120 = .ok (.if_icmp .ne 8, 3) := by decide +kernel
theorem dX6_test_123 : decode cX6_test 123 = .ok (.aload_n 0, 1) := by decide +kernel
theorem dX6_test_124 : decode cX6_test 124 = .ok (.invokevirtual 202, 3) := by decide +kernel
theorem dX6_test_127 : decode cX6_test 127 = .ok (.ireturn, 1) := by decide +kernel
theorem dX6_test_128 : decode cX6_test 128 = .ok (.aload_n 0, 1) := by decide +kernel
theorem dX6_test_129 : decode cX6_test 129 = .ok (.invokevirtual 206, 3) := by decide +kernel
theorem dX6_test_132 : decode cX6_test 132 = .ok (.bipush 61, 2) := by decide +kernel
theorem dX6_test_134 : decode cX6_test 134 = .ok (.istore 5, 2) := by decide +kernel
theorem dX6_test_136 : decode cX6_test 136 = .ok (.iload 4, 2) := by decide +kernel
theorem dX6_test_138 : decode cX6_test 138 = .ok (.iconst 5, 1) := by decide +kernel
theorem dX6_test_139 : decode cX6_test 139 = .ok (.if_icmp .ge 47, 3) := by decide +kernel
theorem dX6_test_142 : decode cX6_test 142 = .ok (.aload_n 0, 1) := by decide +kernel
theorem dX6_test_143 : decode cX6_test 143 = .ok (.getfield 180, 3) := by decide +kernel
theorem dX6_test_146 : decode cX6_test 146 = .ok (.istore 5, 2) := by decide +kernel
theorem dX6_test_148 : decode cX6_test 148 = .ok (.aload_n 0, 1) := by decide +kernel
theorem dX6_test_149 : decode cX6_test 149 = .ok (.getfield 187, 3) := by decide +kernel
theorem dX6_test_152 : decode cX6_test 152 = .ok (.iconst 4, 1) := by decide +kernel
theorem dX6_test_153 : decode cX6_test 153 = .ok (.if_icmp .ne 24, 3) := by decide +kernel
theorem dX6_test_156 : decode cX6_test 156 = .ok (.iload 5, 2) := by decide +kernel
theorem dX6_test_158 : decode cX6_test 158 = .ok (.bipush 60, 2) := by decide +kernel
theorem dX6_test_160 : decode cX6_test 160 = .ok (.if_icmp .eq 22, 3) := by decide +kernel
theorem dX6_test_163 : decode cX6_test 163 = .ok (.iload 5, 2) := by decide +kernel
theorem dX6_test_165 : decode cX6_test 165 = .ok (.bipush 62, 2) := by decide +kernel
theorem dX6_test_167 : decode cX6_test 167 = .ok (.if_icmp .eq 15, 3) := by decide +kernel
theorem dX6_test_170 : decode cX6_test 170 = .ok (.iload 5, 2) := by decide +kernel
theorem dX6_test_172 : decode cX6_test 172 = .ok (.bipush 61, 2) := by decide +kernel
theorem dX6_test_174 : decode cX6_test 174 = .ok (.if_icmp .eq 8, 3) := by decide +kernel
theorem dX6_test_177 : decode cX6_test 177 = .ok (.aload_n 0, 1) := by decide +kernel
theorem dX6_test_178 : decode cX6_test 178 = .ok (.invokevirtual 202, 3) := by decide +kernel
theorem dX6_test_181 : decode cX6_test 181 = .ok (.ireturn, 1) := by decide +kernel
theorem dX6_test_182 : decode cX6_test 182 = .ok (.aload_n 0, 1) := by decide +kernel
theorem dX6_test_183 : decode cX6_test 183 = .ok (.invokevirtual 206, 3) := by decide +kernel
theorem dX6_test_186 : decode cX6_test 186 = .ok (.aload_n 0, 1) := by decide +kernel
theorem dX6_test_187 : decode cX6_test 187 = .ok (.getfield 187, 3) := by decide +kernel
theorem dX6_test_190 : decode cX6_test 190 = .ok (.iconst 3, 1) := by decide +kernel
theorem dX6_test_191 : decode cX6_test 191 = .ok (.if_icmp .eq 8, 3) := by decide +kernel
theorem dX6_test_194 : decode cX6_test 194 = .ok (.aload_n 0, 1) := by decide +kernel
theorem dX6_test_195 : decode cX6_test 195 = .ok (.invokevirtual 202, 3) := by decide +kernel
theorem dX6_test_198 : decode cX6_test 198 = .ok (.ireturn, 1) := by decide +kernel
theorem dX6_test_199 : decode cX6_test 199 = .ok (.aload_n 0, 1) := by decide +kernel
theorem dX6_test_200 : decode cX6_test 200 = .ok (.getfield 180, 3) := by decide +kernel
theorem dX6_test_203 : decode cX6_test 203 = .ok (.istore 6, 2) := by decide +kernel
theorem dX6_test_205 : decode cX6_test 205 = .ok (.iload 4, 2) := by decide +kernel
theorem dX6_test_207 : decode cX6_test 207 = .ok (.iconst 5, 1) := by decide +kernel
theorem dX6_test_208 : decode cX6_test 208 = .ok (.if_icmp .ne 19, 3) := by decide +kernel
theorem dX6_test_211 : decode cX6_test 211 = .ok (.iload 6, 2) := by decide +kernel
theorem dX6_test_213 : decode cX6_test 213 = .ok (.bipush 6, 2) := by decide +kernel
theorem dX6_test_215 : decode cX6_test 215 = .ok (.if_icmp .lt 12, 3) := by decide +kernel
theorem dX6_test_218 : decode cX6_test 218 = .ok (.aload_n 0, 1) := by decide +kernel
theorem dX6_test_219 : decode cX6_test 219 = .ok (.iconst 2, 1) := by decide +kernel
theorem dX6_test_220 : decode cX6_test 220 = .ok (.aload_n 0, 1) := by decide +kernel
theorem dX6_test_221 : decode cX6_test 221 = .ok (.getfield 177, 3) := by decide +kernel
theorem dX6_test_224 : decode cX6_test 224 = .ok (.invokevirtual 212, 3) := by decide +kernel
theorem dX6_test_227 : decode cX6_test 227 = .ok (.aload_n 0, 1) := by decide +kernel
theorem dX6_test_228 : decode cX6_test 228 = .ok (.invokevirtual 206, 3) := by decide +kernel
theorem dX6_test_231 : decode cX6_test 231 = .ok (.iload_n 2, 1) := by decide +kernel
theorem dX6_test_232 : decode cX6_test 232 = .ok (.iconst 4, 1) := by decide +kernel
theorem dX6_test_233 : decode cX6_test 233 = .ok (.if_icmp .ge 64, 3) := by decide +kernel
theorem dX6_test_236 : decode cX6_test 236 = .ok (.iload_n 1, 1) := by decide +kernel
theorem dX6_test_237 : decode cX6_test 237 = .ok (.bipush 16, 2) := by decide +kernel
theorem dX6_test_239 : decode cX6_test 239 = .ok (.if_icmp .ge 58, 3) := by decide +kernel
theorem dX6_test_242 : decode cX6_test 242 = .ok (.iconst 4, 1) := by decide +kernel
theorem dX6_test_243 : decode cX6_test 243 = .ok (.iload_n 1, 1) := by decide +kernel
theorem dX6_test_244 : decode cX6_test 244 = .ok (.imul, 1) := by decide +kernel
theorem dX6_test_245 : decode cX6_test 245 = .ok (.iload_n 2, 1) := by decide +kernel
theorem dX6_test_246 : decode cX6_test 246 = .ok (.iadd, 1) := by decide +kernel
theorem dX6_test_247 : decode cX6_test 247 = .ok (.istore 7, 2) := by decide +kernel
theorem dX6_test_249 : decode cX6_test 249 = .ok (.aload_n 0, 1) := by decide +kernel
theorem dX6_test_250 : decode cX6_test 250 = .ok (.getfield 88, 3) := by decide +kernel
theorem dX6_test_253 : decode cX6_test 253 = .ok (.iload 7, 2) := by decide +kernel
theorem dX6_test_255 : decode cX6_test 255 = .ok (.iload_n 3, 1) := by decide +kernel
theorem dX6_test_256 : decode cX6_test 256 = .ok (.ifCond .eq 11, 3) := by decide +kernel
theorem dX6_test_259 : decode cX6_test 259 = .ok (.iload 4, 2) := by decide +kernel
theorem dX6_test_261 : decode cX6_test 261 = .ok (.bipush 8, 2) := by decide +kernel
theorem dX6_test_263 : decode cX6_test 263 = .ok (.iadd, 1) := by decide +kernel
theorem dX6_test_264 : decode cX6_test 264 = .ok (.goto 5, 3) := by decide +kernel
theorem dX6_test_267 : decode cX6_test 267 = .ok (.iload 4, 2) := by decide +kernel
theorem dX6_test_269 : decode cX6_test 269 = .ok (.iastore, 1) := by decide +kernel
theorem dX6_test_270 : decode cX6_test 270 = .ok (.aload_n 0, 1) := by decide +kernel
theorem dX6_test_271 : decode cX6_test 271 = .ok (.getfield 91, 3) := by decide +kernel
theorem dX6_test_274 : decode cX6_test 274 = .ok (.iload 7, 2) := by decide +kernel
theorem dX6_test_276 : decode cX6_test 276 = .ok (.iload 5, 2) := by decide +kernel
theorem dX6_test_278 : decode cX6_test 278 = .ok (.iastore, 1) := by decide +kernel
theorem dX6_test_279 : decode cX6_test 279 = .ok (.aload_n 0, 1) := by decide +kernel
theorem dX6_test_280 : decode cX6_test 280 = .ok (.getfield 94, 3) := by decide +kernel
theorem dX6_test_283 : decode cX6_test 283 = .ok (.iload 7, 2) := by decide +kernel
theorem dX6_test_285 : decode cX6_test 285 = .ok (.iload 6, 2) := by decide +kernel
theorem dX6_test_287 : decode cX6_test 287 = .ok (.iastore, 1) := by decide +kernel
theorem dX6_test_288 : decode cX6_test 288 = .ok (.aload_n 0, 1) := by decide +kernel
theorem dX6_test_289 : decode cX6_test 289 = .ok (.getfield 85, 3) := by decide +kernel
theorem dX6_test_292 : decode cX6_test 292 = .ok (.iload_n 1, 1) := by decide +kernel
theorem dX6_test_293 : decode cX6_test 293 = .ok (.iload_n 2, 1) := by decide +kernel
theorem dX6_test_294 : decode cX6_test 294 = .ok (.iconst 1, 1) := by decide +kernel
theorem dX6_test_295 : decode cX6_test 295 = .ok (.iadd, 1) := by decide +kernel
theorem dX6_test_296 : decode cX6_test 296 = .ok (.iastore, 1) := by decide +kernel
theorem dX6_test_297 : decode cX6_test 297 = .ok (.iconst 1, 1) := by decide +kernel
theorem dX6_test_298 : decode cX6_test 298 = .ok (.ireturn, 1) := by decide +kernel
set_option maxRecDepth 20000 in
theorem ggX6_grid_X6_next : GoodIn wsX6_grid wsX6_next := goodIn_r _ [17, 7, 18, 19, 20, 11, 21, 22, 23, 16, 24, 3, 25, 26, 27, 28, 148, 149, 150, 151, 152, 153, 154, 155, 156, 157, 158, 159, 160, 161, 162, 163, 164, 165, 166, 167, 168, 169, 170, 171, 172, 173, 174, 175, 176, 177, 178, 179, 180, 181, 182, 183, 184, 185, 186, 187, 188, 189, 190, 191, 192, 193, 194, 195, 196, 197] (by decide +kernel) (by decide +kernel)
set_option maxRecDepth 20000 in
theorem gX6_grid_X6_next : GoodIn wsX6_grid (wsV RX6 206 RX6 yX6_next wsX6_next) := goodIn_app (goodIn_of _ (by decide +kernel)) ggX6_grid_X6_next
set_option maxRecDepth 20000 in
theorem ggX6_grid_X6_oneLine : GoodIn wsX6_grid wsX6_oneLine := goodIn_r _ [32, 10, 18, 33, 34, 35, 36, 37, 38, 39, 40, 41, 11, 19, 42, 43, 44, 16, 45, 9, 12, 46, 47, 48, 49, 20, 13, 14, 15, 17, 7, 21, 22, 23, 24, 3, 25, 26, 27, 28, 50, 51, 52, 53, 54, 55, 56, 57, 58, 59, 60, 61, 62, 63, 64, 65, 66, 67, 8, 68, 69, 70, 71, 72, 73, 74, 75, 148, 149, 150, 151, 152, 153, 154, 155, 156, 157, 158, 159, 160, 161, 162, 163, 164, 165, 166, 167, 168, 169, 170, 171, 172, 173, 174, 175, 176, 177, 178, 179, 180, 181, 182, 183, 184, 185, 186, 187, 188, 189, 190, 191, 192, 193, 194, 195, 196, 197] (by decide +kernel) (by decide +kernel)
set_option maxRecDepth 20000 in
theorem gX6_grid_X6_oneLine : GoodIn wsX6_grid (wsV RX6 252 RX6 yX6_oneLine wsX6_oneLine) := goodIn_app (goodIn_of _ (by decide +kernel)) ggX6_grid_X6_oneLine
set_option maxRecDepth 20000 in
theorem ggX6_grid_X6_keepGrid : GoodIn wsX6_grid wsX6_keepGrid := goodIn_r _ [79, 80, 81, 82, 83, 84, 85, 86, 87, 88, 89, 90, 91, 92, 93, 148, 149, 150, 151, 152, 153, 154, 155, 156, 157, 158, 159, 160, 161, 162, 163, 164, 165, 166, 167, 168, 169, 170, 171, 172, 173, 174, 175, 176, 177, 178, 179, 180, 181, 182, 183, 184, 185, 186, 187, 188, 189, 190, 191, 192, 193, 194, 195, 196, 197] (by decide +kernel) (by decide +kernel)
set_option maxRecDepth 20000 in
theorem gX6_grid_X6_keepGrid : GoodIn wsX6_grid (wsV RX6 255 RX6 yX6_keepGrid wsX6_keepGrid) := goodIn_app (goodIn_of _ (by decide +kernel)) ggX6_grid_X6_keepGrid
set_option maxRecDepth 20000 in
theorem ggX6_grid_X6_setGrid : GoodIn wsX6_grid wsX6_setGrid := goodIn_r _ [97, 80, 10, 83, 33, 85, 36, 87, 41, 89, 61, 91, 62, 93, 63, 148, 149, 150, 151, 152, 153, 154, 155, 156, 157, 158, 159, 160, 161, 162, 163, 164, 165, 166, 167, 168, 169, 170, 171, 172, 173, 174, 175, 176, 177, 178, 179, 180, 181, 182, 183, 184, 185, 186, 187, 188, 189, 190, 191, 192, 193, 194, 195, 196, 197] (by decide +kernel) (by decide +kernel)
set_option maxRecDepth 20000 in
theorem gX6_grid_X6_setGrid : GoodIn wsX6_grid (wsV RX6 258 RX6 yX6_setGrid wsX6_setGrid) := goodIn_app (goodIn_of _ (by decide +kernel)) ggX6_grid_X6_setGrid
set_option maxRecDepth 20000 in
theorem ggX6_grid_X6_holds : GoodIn wsX6_grid wsX6_holds := goodIn_r _ [101, 102, 103, 104, 105, 106, 16, 107, 108, 109, 110, 111, 112, 113, 114, 115, 116, 117, 118, 119, 120, 121, 122, 123, 124, 80, 87, 85, 125, 126, 127, 128, 129, 130, 83, 89, 93, 91, 131, 132, 133, 134, 135, 136, 137, 138, 139, 140, 141, 142, 143, 148, 149, 150, 151, 152, 153, 154, 155, 156, 157, 158, 159, 160, 161, 162, 163, 164, 165, 166, 167, 168, 169, 170, 171, 172, 173, 174, 175, 176, 177, 178, 179, 180, 181, 182, 183, 184, 185, 186, 187, 188, 189, 190, 191, 192, 193, 194, 195, 196, 197] (by decide +kernel) (by decide +kernel)
set_option maxRecDepth 20000 in
theorem gX6_grid_X6_holds : GoodIn wsX6_grid (wsV RX6 261 RX6 yX6_holds wsX6_holds) := goodIn_app (goodIn_of _ (by decide +kernel)) ggX6_grid_X6_holds
set_option maxRecDepth 20000 in
theorem ggX6_grid_X6_oldGrid : GoodIn wsX6_grid wsX6_oldGrid := goodIn_r _ [147, 80, 81, 83, 82, 85, 84, 87, 86, 89, 88, 91, 90, 93, 92, 148, 149, 150, 151, 152, 153, 154, 155, 156, 157, 158, 159, 160, 161, 162, 163, 164, 165, 166, 167, 168, 169, 170, 171, 172, 173, 174, 175, 176, 177, 178, 179, 180, 181, 182, 183, 184, 185, 186, 187, 188, 189, 190, 191, 192, 193, 194, 195, 196, 197] (by decide +kernel) (by decide +kernel)
set_option maxRecDepth 20000 in
theorem gX6_grid_X6_oldGrid : GoodIn wsX6_grid (wsV RX6 264 RX6 yX6_oldGrid wsX6_oldGrid) := goodIn_app (goodIn_of _ (by decide +kernel)) ggX6_grid_X6_oldGrid
theorem dX6_grid_0 : decode cX6_grid 0 = .ok (.aload_n 0, 1) := by decide +kernel
theorem dX6_grid_1 : decode cX6_grid 1 = .ok (.iconst 0, 1) := by decide +kernel
theorem dX6_grid_2 : decode cX6_grid 2 = .ok (.putfield 129, 3) := by decide +kernel
theorem dX6_grid_5 : decode cX6_grid 5 = .ok (.aload_n 0, 1) := by decide +kernel
theorem dX6_grid_6 : decode cX6_grid 6 = .ok (.aload_n 0, 1) := by decide +kernel
theorem dX6_grid_7 : decode cX6_grid 7 = .ok (.getfield 13, 3) := by decide +kernel
theorem dX6_grid_10 : decode cX6_grid 10 = .ok (.iconst 0, 1) := by decide +kernel
theorem dX6_grid_11 : decode cX6_grid 11 = .ok (.iaload, 1) := by decide +kernel
theorem dX6_grid_12 : decode cX6_grid 12 = .ok (.putfield 170, 3) := by decide +kernel
theorem dX6_grid_15 : decode cX6_grid 15 = .ok (.aload_n 0, 1) := by decide +kernel
theorem dX6_grid_16 : decode cX6_grid 16 = .ok (.getfield 13, 3) := by decide +kernel
theorem dX6_grid_19 : decode cX6_grid 19 = .ok (.iconst 0, 1) := by decide +kernel
theorem dX6_grid_20 : decode cX6_grid 20 = .ok (.iconst 0, 1) := by decide +kernel
theorem dX6_grid_21 : decode cX6_grid 21 = .ok (.iastore, 1) := by decide +kernel
theorem dX6_grid_22 : decode cX6_grid 22 = .ok (.aload_n 0, 1) := by decide +kernel
theorem dX6_grid_23 : decode cX6_grid 23 = .ok (.getfield 17, 3) := by decide +kernel
theorem dX6_grid_26 : decode cX6_grid 26 = .ok (.iconst 0, 1) := by decide +kernel
theorem dX6_grid_27 : decode cX6_grid 27 = .ok (.iconst 0, 1) := by decide +kernel
theorem dX6_grid_28 : decode cX6_grid 28 = .ok (.iastore, 1) := by decide +kernel
theorem dX6_grid_29 : decode cX6_grid 29 = .ok (.aload_n 0, 1) := by decide +kernel
theorem dX6_grid_30 : decode cX6_grid 30 = .ok (.getfield 20, 3) := by decide +kernel
theorem dX6_grid_33 : decode cX6_grid 33 = .ok (.iconst 0, 1) := by decide +kernel
theorem dX6_grid_34 : decode cX6_grid 34 = .ok (.iconst (-1), 1) := by decide +kernel
theorem dX6_grid_35 : decode cX6_grid 35 = .ok (.iastore, 1) := by decide +kernel
theorem dX6_grid_36 : decode cX6_grid 36 = .ok (.aload_n 0, 1) := by decide +kernel
theorem dX6_grid_37 : decode cX6_grid 37 = .ok (.getfield 33, 3) := by decide +kernel
theorem dX6_grid_40 : decode cX6_grid 40 = .ok (.iconst 0, 1) := by decide +kernel
theorem dX6_grid_41 : decode cX6_grid 41 = .ok (.baload, 1) := by decide +kernel
theorem dX6_grid_42 : decode cX6_grid 42 = .ok (.ifCond .eq 6, 3) := by decide +kernel
theorem dX6_grid_45 : decode cX6_grid 45 = .ok (.bipush (-2), 2) := by decide +kernel
theorem dX6_grid_47 : decode cX6_grid 47 = .ok (.ireturn, 1) := by decide +kernel
theorem dX6_grid_48 : decode cX6_grid 48 = .ok (.aload_n 0, 1) := by decide +kernel
theorem dX6_grid_49 : decode cX6_grid 49 = .ok (.iconst 0, 1) := by decide +kernel
theorem dX6_grid_50 : decode cX6_grid 50 = .ok (.putfield 167, 3) := by decide +kernel
theorem dX6_grid_53 : decode cX6_grid 53 = .ok (.aload_n 0, 1) := by decide +kernel
theorem dX6_grid_54 : decode cX6_grid 54 = .ok (.iconst (-1), 1) := by decide +kernel
theorem dX6_grid_55 : decode cX6_grid 55 = .ok (.putfield 190, 3) := by decide +kernel
theorem dX6_grid_58 : decode cX6_grid 58 = .ok (.aload_n 0, 1) := by decide +kernel
theorem dX6_grid_59 : decode cX6_grid 59 = .ok (.iconst 0, 1) := by decide +kernel
theorem dX6_grid_60 : decode cX6_grid 60 = .ok (.putfield 193, 3) := by decide +kernel
theorem dX6_grid_63 : decode cX6_grid 63 = .ok (.aload_n 0, 1) := by decide +kernel
theorem dX6_grid_64 : decode cX6_grid 64 = .ok (.iconst 0, 1) := by decide +kernel
theorem dX6_grid_65 : decode cX6_grid 65 = .ok (.putfield 209, 3) := by decide +kernel
theorem dX6_grid_68 : decode cX6_grid 68 = .ok (.iconst 1, 1) := by decide +kernel
theorem dX6_grid_69 : decode cX6_grid 69 = .ok (.istore_n 1, 1) := by decide +kernel
theorem dX6_grid_70 : decode cX6_grid 70 = .ok (.aload_n 0, 1) := by decide +kernel
theorem dX6_grid_71 : decode cX6_grid 71 = .ok (.invokevirtual 206, 3) := by decide +kernel
theorem dX6_grid_74 : decode cX6_grid 74 = .ok (.iload_n 1, 1) := by decide +kernel
theorem dX6_grid_75 : decode cX6_grid 75 = .ok (.ifCond .eq 18, 3) := by decide +kernel
theorem dX6_grid_78 : decode cX6_grid 78 = .ok (.aload_n 0, 1) := by decide +kernel
theorem dX6_grid_79 : decode cX6_grid 79 = .ok (.getfield 187, 3) := by decide +kernel
theorem dX6_grid_82 : decode cX6_grid 82 = .ok (.ifCond .eq 11, 3) := by decide +kernel
theorem dX6_grid_85 : decode cX6_grid 85 = .ok (.aload_n 0, 1) := by decide +kernel
theorem dX6_grid_86 : decode cX6_grid 86 = .ok (.invokevirtual 252, 3) := by decide +kernel
theorem dX6_grid_89 : decode cX6_grid 89 = .ok (.istore_n 1, 1) := by decide +kernel
theorem dX6_grid_90 : decode cX6_grid 90 = .ok (.goto (-16), 3) := by decide +kernel
theorem dX6_grid_93 : decode cX6_grid 93 = .ok (.iload_n 1, 1) := by decide +kernel
theorem dX6_grid_94 : decode cX6_grid 94 = .ok (.ifCond .ne 22, 3) := by decide +kernel
theorem dX6_grid_97 : decode cX6_grid 97 = .ok (.aload_n 0, 1) := by decide +kernel
theorem dX6_grid_98 : decode cX6_grid 98 = .ok (.getfield 17, 3) := by decide +kernel
theorem dX6_grid_101 : decode cX6_grid 101 = .ok (.iconst 0, 1) := by decide +kernel
theorem dX6_grid_102 : decode cX6_grid 102 = .ok (.iconst 1, 1) := by decide +kernel
theorem dX6_grid_103 : decode cX6_grid 103 = .ok (.iastore, 1) := by decide +kernel
theorem dX6_grid_104 : decode cX6_grid 104 = .ok (.aload_n 0, 1) := by decide +kernel
theorem dX6_grid_105 : decode cX6_grid 105 = .ok (.getfield 20, 3) := by decide +kernel
theorem dX6_grid_108 : decode cX6_grid 108 = .ok (.iconst 0, 1) := by decide +kernel
theorem dX6_grid_109 : decode cX6_grid 109 = .ok (.aload_n 0, 1) := by decide +kernel
theorem dX6_grid_110 : decode cX6_grid 110 = .ok (.getfield 190, 3) := by decide +kernel
theorem dX6_grid_113 : decode cX6_grid 113 = .ok (.iastore, 1) := by decide +kernel
theorem dX6_grid_114 : decode cX6_grid 114 = .ok (.iconst (-1), 1) := by decide +kernel
theorem dX6_grid_115 : decode cX6_grid 115 = .ok (.ireturn, 1) := by decide +kernel
theorem dX6_grid_116 : decode cX6_grid 116 = .ok (.aload_n 0, 1) := by decide +kernel
theorem dX6_grid_117 : decode cX6_grid 117 = .ok (.getfield 193, 3) := by decide +kernel
theorem dX6_grid_120 : decode cX6_grid 120 = .ok (.ifCond .le 25, 3) := by decide +kernel
theorem dX6_grid_123 : decode cX6_grid 123 = .ok (.aload_n 0, 1) := by decide +kernel
theorem dX6_grid_124 : decode cX6_grid 124 = .ok (.getfield 17, 3) := by decide +kernel
theorem dX6_grid_127 : decode cX6_grid 127 = .ok (.iconst 0, 1) := by decide +kernel
theorem dX6_grid_128 : decode cX6_grid 128 = .ok (.aload_n 0, 1) := by decide +kernel
theorem dX6_grid_129 : decode cX6_grid 129 = .ok (.getfield 193, 3) := by decide +kernel
theorem dX6_grid_132 : decode cX6_grid 132 = .ok (.iastore, 1) := by decide +kernel
theorem dX6_grid_133 : decode cX6_grid 133 = .ok (.aload_n 0, 1) := by decide +kernel
theorem dX6_grid_134 : decode cX6_grid 134 = .ok (.getfield 20, 3) := by decide +kernel
theorem dX6_grid_137 : decode cX6_grid 137 = .ok (.iconst 0, 1) := by decide +kernel
theorem dX6_grid_138 : decode cX6_grid 138 = .ok (.aload_n 0, 1) := by decide +kernel
theorem dX6_grid_139 : decode cX6_grid 139 = .ok (.getfield 196, 3) := by decide +kernel
theorem dX6_grid_142 : decode cX6_grid 142 = .ok (.iastore, 1) := by decide +kernel
theorem dX6_grid_143 : decode cX6_grid 143 = .ok (.iconst (-1), 1) := by decide +kernel
theorem dX6_grid_144 : decode cX6_grid 144 = .ok (.ireturn, 1) := by decide +kernel
theorem dX6_grid_145 : decode cX6_grid 145 = .ok (.aload_n 0, 1) := by decide +kernel
theorem dX6_grid_146 : decode cX6_grid 146 = .ok (.invokevirtual 255, 3) := by decide +kernel
theorem dX6_grid_149 : decode cX6_grid 149 = .ok (.aload_n 0, 1) := by decide +kernel
theorem dX6_grid_150 : decode cX6_grid 150 = .ok (.invokevirtual 258, 3) := by decide +kernel
theorem dX6_grid_153 : decode cX6_grid 153 = .ok (.aload_n 0, 1) := by decide +kernel
theorem dX6_grid_154 : decode cX6_grid 154 = .ok (.invokevirtual 261, 3) := by decide +kernel
theorem dX6_grid_157 : decode cX6_grid 157 = .ok (.ifCond .eq 8, 3) := by decide +kernel
theorem dX6_grid_160 : decode cX6_grid 160 = .ok (.aload_n 0, 1) := by decide +kernel
theorem dX6_grid_161 : decode cX6_grid 161 = .ok (.getfield 209, 3) := by decide +kernel
theorem dX6_grid_164 : decode cX6_grid 164 = .ok (.ireturn, 1) := by decide +kernel
theorem dX6_grid_165 : decode cX6_grid 165 = .ok (.aload_n 0, 1) := by decide +kernel
theorem dX6_grid_166 : decode cX6_grid 166 = .ok (.invokevirtual 264, 3) := by decide +kernel
theorem dX6_grid_169 : decode cX6_grid 169 = .ok (.bipush (-2), 2) := by decide +kernel
theorem dX6_grid_171 : decode cX6_grid 171 = .ok (.ireturn, 1) := by decide +kernel
theorem dX6_keepGrid_0 : decode cX6_keepGrid 0 = .ok (.aload_n 0, 1) := by decide +kernel
theorem dX6_keepGrid_1 : decode cX6_keepGrid 1 = .ok (.aload_n 0, 1) := by decide +kernel
theorem dX6_keepGrid_2 : decode cX6_keepGrid 2 = .ok (.getfield 64, 3) := by decide +kernel
theorem dX6_keepGrid_5 : decode cX6_keepGrid 5 = .ok (.iconst 0, 1) := by decide +kernel
theorem dX6_keepGrid_6 : decode cX6_keepGrid 6 = .ok (.iaload, 1) := by decide +kernel
theorem dX6_keepGrid_7 : decode cX6_keepGrid 7 = .ok (.putfield 267, 3) := by decide +kernel
theorem dX6_keepGrid_10 : decode cX6_keepGrid 10 = .ok (.iconst 0, 1) := by decide +kernel
theorem dX6_keepGrid_11 : decode cX6_keepGrid 11 = .ok (.istore_n 1, 1) := by decide +kernel
theorem dX6_keepGrid_12 : decode cX6_keepGrid 12 = .ok (.iload_n 1, 1) := by decide +kernel
theorem dX6_keepGrid_13 : decode cX6_keepGrid 13 = .ok (.bipush 16, 2) := by decide +kernel
theorem dX6_keepGrid_15 : decode cX6_keepGrid 15 = .ok (.if_icmp .ge 45, 3) := by decide +kernel
theorem dX6_keepGrid_18 : decode cX6_keepGrid 18 = .ok (.aload_n 0, 1) := by decide +kernel
theorem dX6_keepGrid_19 : decode cX6_keepGrid 19 = .ok (.getfield 103, 3) := by decide +kernel
theorem dX6_keepGrid_22 : decode cX6_keepGrid 22 = .ok (.iload_n 1, 1) := by decide +kernel
theorem dX6_keepGrid_23 : decode cX6_keepGrid 23 = .ok (.aload_n 0, 1) := by decide +kernel
theorem dX6_keepGrid_24 : decode cX6_keepGrid 24 = .ok (.getfield 67, 3) := by decide +kernel
theorem dX6_keepGrid_27 : decode cX6_keepGrid 27 = .ok (.iload_n 1, 1) := by decide +kernel
theorem dX6_keepGrid_28 : decode cX6_keepGrid 28 = .ok (.iaload, 1) := by decide +kernel
theorem dX6_keepGrid_29 : decode cX6_keepGrid 29 = .ok (.iastore, 1) := by decide +kernel
theorem dX6_keepGrid_30 : decode cX6_keepGrid 30 = .ok (.aload_n 0, 1) := by decide +kernel
theorem dX6_keepGrid_31 : decode cX6_keepGrid 31 = .ok (.getfield 115, 3) := by decide +kernel
theorem dX6_keepGrid_34 : decode cX6_keepGrid 34 = .ok (.iload_n 1, 1) := by decide +kernel
theorem dX6_keepGrid_35 : decode cX6_keepGrid 35 = .ok (.aload_n 0, 1) := by decide +kernel
theorem dX6_keepGrid_36 : decode cX6_keepGrid 36 = .ok (.getfield 79, 3) := by decide +kernel
theorem dX6_keepGrid_39 : decode cX6_keepGrid 39 = .ok (.iload_n 1, 1) := by decide +kernel
theorem dX6_keepGrid_40 : decode cX6_keepGrid 40 = .ok (.iaload, 1) := by decide +kernel
theorem dX6_keepGrid_41 : decode cX6_keepGrid 41 = .ok (.iastore, 1) := by decide +kernel
theorem dX6_keepGrid_42 : decode cX6_keepGrid 42 = .ok (.aload_n 0, 1) := by decide +kernel
theorem dX6_keepGrid_43 : decode cX6_keepGrid 43 = .ok (.getfield 118, 3) := by decide +kernel
theorem dX6_keepGrid_46 : decode cX6_keepGrid 46 = .ok (.iload_n 1, 1) := by decide +kernel
theorem dX6_keepGrid_47 : decode cX6_keepGrid 47 = .ok (.aload_n 0, 1) := by decide +kernel
theorem dX6_keepGrid_48 : decode cX6_keepGrid 48 = .ok (.getfield 82, 3) := by decide +kernel
theorem dX6_keepGrid_51 : decode cX6_keepGrid 51 = .ok (.iload_n 1, 1) := by decide +kernel
theorem dX6_keepGrid_52 : decode cX6_keepGrid 52 = .ok (.iaload, 1) := by decide +kernel
theorem dX6_keepGrid_53 : decode cX6_keepGrid 53 = .ok (.iastore, 1) := by decide +kernel
theorem dX6_keepGrid_54 : decode cX6_keepGrid 54 = .ok (.iinc 1 1, 3) := by decide +kernel
theorem dX6_keepGrid_57 : decode cX6_keepGrid 57 = .ok (.goto (-45), 3) := by decide +kernel
theorem dX6_keepGrid_60 : decode cX6_keepGrid 60 = .ok (.iconst 0, 1) := by decide +kernel
theorem dX6_keepGrid_61 : decode cX6_keepGrid 61 = .ok (.istore_n 1, 1) := by decide +kernel
theorem dX6_keepGrid_62 : decode cX6_keepGrid 62 = .ok (.iload_n 1, 1) := by decide +kernel
theorem dX6_keepGrid_63 : decode cX6_keepGrid 63 = .ok (.bipush 64, 2) := by decide +kernel
theorem dX6_keepGrid_65 : decode cX6_keepGrid 65 = .ok (.if_icmp .ge 45, 3) := by decide +kernel
theorem dX6_keepGrid_68 : decode cX6_keepGrid 68 = .ok (.aload_n 0, 1) := by decide +kernel
theorem dX6_keepGrid_69 : decode cX6_keepGrid 69 = .ok (.getfield 106, 3) := by decide +kernel
theorem dX6_keepGrid_72 : decode cX6_keepGrid 72 = .ok (.iload_n 1, 1) := by decide +kernel
theorem dX6_keepGrid_73 : decode cX6_keepGrid 73 = .ok (.aload_n 0, 1) := by decide +kernel
theorem dX6_keepGrid_74 : decode cX6_keepGrid 74 = .ok (.getfield 70, 3) := by decide +kernel
theorem dX6_keepGrid_77 : decode cX6_keepGrid 77 = .ok (.iload_n 1, 1) := by decide +kernel
theorem dX6_keepGrid_78 : decode cX6_keepGrid 78 = .ok (.iaload, 1) := by decide +kernel
theorem dX6_keepGrid_79 : decode cX6_keepGrid 79 = .ok (.iastore, 1) := by decide +kernel
theorem dX6_keepGrid_80 : decode cX6_keepGrid 80 = .ok (.aload_n 0, 1) := by decide +kernel
theorem dX6_keepGrid_81 : decode cX6_keepGrid 81 = .ok (.getfield 109, 3) := by decide +kernel
theorem dX6_keepGrid_84 : decode cX6_keepGrid 84 = .ok (.iload_n 1, 1) := by decide +kernel
theorem dX6_keepGrid_85 : decode cX6_keepGrid 85 = .ok (.aload_n 0, 1) := by decide +kernel
theorem dX6_keepGrid_86 : decode cX6_keepGrid 86 = .ok (.getfield 73, 3) := by decide +kernel
theorem dX6_keepGrid_89 : decode cX6_keepGrid 89 = .ok (.iload_n 1, 1) := by decide +kernel
theorem dX6_keepGrid_90 : decode cX6_keepGrid 90 = .ok (.iaload, 1) := by decide +kernel
theorem dX6_keepGrid_91 : decode cX6_keepGrid 91 = .ok (.iastore, 1) := by decide +kernel
theorem dX6_keepGrid_92 : decode cX6_keepGrid 92 = .ok (.aload_n 0, 1) := by decide +kernel
theorem dX6_keepGrid_93 : decode cX6_keepGrid 93 = .ok (.getfield 112, 3) := by decide +kernel
theorem dX6_keepGrid_96 : decode cX6_keepGrid 96 = .ok (.iload_n 1, 1) := by decide +kernel
theorem dX6_keepGrid_97 : decode cX6_keepGrid 97 = .ok (.aload_n 0, 1) := by decide +kernel
theorem dX6_keepGrid_98 : decode cX6_keepGrid 98 = .ok (.getfield 76, 3) := by decide +kernel
theorem dX6_keepGrid_101 : decode cX6_keepGrid 101 = .ok (.iload_n 1, 1) := by decide +kernel
theorem dX6_keepGrid_102 : decode cX6_keepGrid 102 = .ok (.iaload, 1) := by decide +kernel
theorem dX6_keepGrid_103 : decode cX6_keepGrid 103 = .ok (.iastore, 1) := by decide +kernel
theorem dX6_keepGrid_104 : decode cX6_keepGrid 104 = .ok (.iinc 1 1, 3) := by decide +kernel
theorem dX6_keepGrid_107 : decode cX6_keepGrid 107 = .ok (.goto (-45), 3) := by decide +kernel
theorem dX6_keepGrid_110 : decode cX6_keepGrid 110 = .ok (.return_, 1) := by decide +kernel
theorem dX6_oldGrid_0 : decode cX6_oldGrid 0 = .ok (.aload_n 0, 1) := by decide +kernel
theorem dX6_oldGrid_1 : decode cX6_oldGrid 1 = .ok (.getfield 64, 3) := by decide +kernel
theorem dX6_oldGrid_4 : decode cX6_oldGrid 4 = .ok (.iconst 0, 1) := by decide +kernel
theorem dX6_oldGrid_5 : decode cX6_oldGrid 5 = .ok (.aload_n 0, 1) := by decide +kernel
theorem dX6_oldGrid_6 : decode cX6_oldGrid 6 = .ok (.getfield 267, 3) := by decide +kernel
theorem dX6_oldGrid_9 : decode cX6_oldGrid 9 = .ok (.iastore, 1) := by decide +kernel
theorem dX6_oldGrid_10 : decode cX6_oldGrid 10 = .ok (.iconst 0, 1) := by decide +kernel
theorem dX6_oldGrid_11 : decode cX6_oldGrid 11 = .ok (.istore_n 1, 1) := by decide +kernel
theorem dX6_oldGrid_12 : decode cX6_oldGrid 12 = .ok (.iload_n 1, 1) := by decide +kernel
theorem dX6_oldGrid_13 : decode cX6_oldGrid 13 = .ok (.bipush 16, 2) := by decide +kernel
theorem dX6_oldGrid_15 : decode cX6_oldGrid 15 = .ok (.if_icmp .ge 45, 3) := by decide +kernel
theorem dX6_oldGrid_18 : decode cX6_oldGrid 18 = .ok (.aload_n 0, 1) := by decide +kernel
theorem dX6_oldGrid_19 : decode cX6_oldGrid 19 = .ok (.getfield 67, 3) := by decide +kernel
theorem dX6_oldGrid_22 : decode cX6_oldGrid 22 = .ok (.iload_n 1, 1) := by decide +kernel
theorem dX6_oldGrid_23 : decode cX6_oldGrid 23 = .ok (.aload_n 0, 1) := by decide +kernel
theorem dX6_oldGrid_24 : decode cX6_oldGrid 24 = .ok (.getfield 103, 3) := by decide +kernel
theorem dX6_oldGrid_27 : decode cX6_oldGrid 27 = .ok (.iload_n 1, 1) := by decide +kernel
theorem dX6_oldGrid_28 : decode cX6_oldGrid 28 = .ok (.iaload, 1) := by decide +kernel
theorem dX6_oldGrid_29 : decode cX6_oldGrid 29 = .ok (.iastore, 1) := by decide +kernel
theorem dX6_oldGrid_30 : decode cX6_oldGrid 30 = .ok (.aload_n 0, 1) := by decide +kernel
theorem dX6_oldGrid_31 : decode cX6_oldGrid 31 = .ok (.getfield 79, 3) := by decide +kernel
theorem dX6_oldGrid_34 : decode cX6_oldGrid 34 = .ok (.iload_n 1, 1) := by decide +kernel
theorem dX6_oldGrid_35 : decode cX6_oldGrid 35 = .ok (.aload_n 0, 1) := by decide +kernel
theorem dX6_oldGrid_36 : decode cX6_oldGrid 36 = .ok (.getfield 115, 3) := by decide +kernel
theorem dX6_oldGrid_39 : decode cX6_oldGrid 39 = .ok (.iload_n 1, 1) := by decide +kernel
theorem dX6_oldGrid_40 : decode cX6_oldGrid 40 = .ok (.iaload, 1) := by decide +kernel
theorem dX6_oldGrid_41 : decode cX6_oldGrid 41 = .ok (.iastore, 1) := by decide +kernel
theorem dX6_oldGrid_42 : decode cX6_oldGrid 42 = .ok (.aload_n 0, 1) := by decide +kernel
theorem dX6_oldGrid_43 : decode cX6_oldGrid 43 = .ok (.getfield 82, 3) := by decide +kernel
theorem dX6_oldGrid_46 : decode cX6_oldGrid 46 = .ok (.iload_n 1, 1) := by decide +kernel
theorem dX6_oldGrid_47 : decode cX6_oldGrid 47 = .ok (.aload_n 0, 1) := by decide +kernel
theorem dX6_oldGrid_48 : decode cX6_oldGrid 48 = .ok (.getfield 118, 3) := by decide +kernel
theorem dX6_oldGrid_51 : decode cX6_oldGrid 51 = .ok (.iload_n 1, 1) := by decide +kernel
theorem dX6_oldGrid_52 : decode cX6_oldGrid 52 = .ok (.iaload, 1) := by decide +kernel
theorem dX6_oldGrid_53 : decode cX6_oldGrid 53 = .ok (.iastore, 1) := by decide +kernel
theorem dX6_oldGrid_54 : decode cX6_oldGrid 54 = .ok (.iinc 1 1, 3) := by decide +kernel
theorem dX6_oldGrid_57 : decode cX6_oldGrid 57 = .ok (.goto (-45), 3) := by decide +kernel
theorem dX6_oldGrid_60 : decode cX6_oldGrid 60 = .ok (.iconst 0, 1) := by decide +kernel
theorem dX6_oldGrid_61 : decode cX6_oldGrid 61 = .ok (.istore_n 1, 1) := by decide +kernel
theorem dX6_oldGrid_62 : decode cX6_oldGrid 62 = .ok (.iload_n 1, 1) := by decide +kernel
theorem dX6_oldGrid_63 : decode cX6_oldGrid 63 = .ok (.bipush 64, 2) := by decide +kernel
theorem dX6_oldGrid_65 : decode cX6_oldGrid 65 = .ok (.if_icmp .ge 45, 3) := by decide +kernel
theorem dX6_oldGrid_68 : decode cX6_oldGrid 68 = .ok (.aload_n 0, 1) := by decide +kernel
theorem dX6_oldGrid_69 : decode cX6_oldGrid 69 = .ok (.getfield 70, 3) := by decide +kernel
theorem dX6_oldGrid_72 : decode cX6_oldGrid 72 = .ok (.iload_n 1, 1) := by decide +kernel
theorem dX6_oldGrid_73 : decode cX6_oldGrid 73 = .ok (.aload_n 0, 1) := by decide +kernel
theorem dX6_oldGrid_74 : decode cX6_oldGrid 74 = .ok (.getfield 106, 3) := by decide +kernel
theorem dX6_oldGrid_77 : decode cX6_oldGrid 77 = .ok (.iload_n 1, 1) := by decide +kernel
theorem dX6_oldGrid_78 : decode cX6_oldGrid 78 = .ok (.iaload, 1) := by decide +kernel
theorem dX6_oldGrid_79 : decode cX6_oldGrid 79 = .ok (.iastore, 1) := by decide +kernel
theorem dX6_oldGrid_80 : decode cX6_oldGrid 80 = .ok (.aload_n 0, 1) := by decide +kernel
theorem dX6_oldGrid_81 : decode cX6_oldGrid 81 = .ok (.getfield 73, 3) := by decide +kernel
theorem dX6_oldGrid_84 : decode cX6_oldGrid 84 = .ok (.iload_n 1, 1) := by decide +kernel
theorem dX6_oldGrid_85 : decode cX6_oldGrid 85 = .ok (.aload_n 0, 1) := by decide +kernel
theorem dX6_oldGrid_86 : decode cX6_oldGrid 86 = .ok (.getfield 109, 3) := by decide +kernel
theorem dX6_oldGrid_89 : decode cX6_oldGrid 89 = .ok (.iload_n 1, 1) := by decide +kernel
theorem dX6_oldGrid_90 : decode cX6_oldGrid 90 = .ok (.iaload, 1) := by decide +kernel
theorem dX6_oldGrid_91 : decode cX6_oldGrid 91 = .ok (.iastore, 1) := by decide +kernel
theorem dX6_oldGrid_92 : decode cX6_oldGrid 92 = .ok (.aload_n 0, 1) := by decide +kernel
theorem dX6_oldGrid_93 : decode cX6_oldGrid 93 = .ok (.getfield 76, 3) := by decide +kernel
theorem dX6_oldGrid_96 : decode cX6_oldGrid 96 = .ok (.iload_n 1, 1) := by decide +kernel
theorem dX6_oldGrid_97 : decode cX6_oldGrid 97 = .ok (.aload_n 0, 1) := by decide +kernel
theorem dX6_oldGrid_98 : decode cX6_oldGrid 98 = .ok (.getfield 112, 3) := by decide +kernel
theorem dX6_oldGrid_101 : decode cX6_oldGrid 101 = .ok (.iload_n 1, 1) := by decide +kernel
theorem dX6_oldGrid_102 : decode cX6_oldGrid 102 = .ok (.iaload, 1) := by decide +kernel
theorem dX6_oldGrid_103 : decode cX6_oldGrid 103 = .ok (.iastore, 1) := by decide +kernel
theorem dX6_oldGrid_104 : decode cX6_oldGrid 104 = .ok (.iinc 1 1, 3) := by decide +kernel
theorem dX6_oldGrid_107 : decode cX6_oldGrid 107 = .ok (.goto (-45), 3) := by decide +kernel
theorem dX6_oldGrid_110 : decode cX6_oldGrid 110 = .ok (.return_, 1) := by decide +kernel
theorem dX6_setGrid_0 : decode cX6_setGrid 0 = .ok (.aload_n 0, 1) := by decide +kernel
theorem dX6_setGrid_1 : decode cX6_setGrid 1 = .ok (.getfield 64, 3) := by decide +kernel
theorem dX6_setGrid_4 : decode cX6_setGrid 4 = .ok (.iconst 0, 1) := by decide +kernel
theorem dX6_setGrid_5 : decode cX6_setGrid 5 = .ok (.aload_n 0, 1) := by decide +kernel
theorem dX6_setGrid_6 : decode cX6_setGrid 6 = .ok (.getfield 209, 3) := by decide +kernel
theorem dX6_setGrid_9 : decode cX6_setGrid 9 = .ok (.iastore, 1) := by decide +kernel
theorem dX6_setGrid_10 : decode cX6_setGrid 10 = .ok (.iconst 0, 1) := by decide +kernel
theorem dX6_setGrid_11 : decode cX6_setGrid 11 = .ok (.istore_n 1, 1) := by decide +kernel
theorem dX6_setGrid_12 : decode cX6_setGrid 12 = .ok (.iload_n 1, 1) := by decide +kernel
theorem dX6_setGrid_13 : decode cX6_setGrid 13 = .ok (.aload_n 0, 1) := by decide +kernel
theorem dX6_setGrid_14 : decode cX6_setGrid 14 = .ok (.getfield 209, 3) := by decide +kernel
theorem dX6_setGrid_17 : decode cX6_setGrid 17 = .ok (.if_icmp .ge 105, 3) := by decide +kernel
theorem dX6_setGrid_20 : decode cX6_setGrid 20 = .ok (.aload_n 0, 1) := by decide +kernel
theorem dX6_setGrid_21 : decode cX6_setGrid 21 = .ok (.getfield 67, 3) := by decide +kernel
theorem dX6_setGrid_24 : decode cX6_setGrid 24 = .ok (.iload_n 1, 1) := by decide +kernel
theorem dX6_setGrid_25 : decode cX6_setGrid 25 = .ok (.aload_n 0, 1) := by decide +kernel
theorem dX6_setGrid_26 : decode cX6_setGrid 26 = .ok (.getfield 85, 3) := by decide +kernel
theorem dX6_setGrid_29 : decode cX6_setGrid 29 = .ok (.iload_n 1, 1) := by decide +kernel
theorem dX6_setGrid_30 : decode cX6_setGrid 30 = .ok (.iaload, 1) := by decide +kernel
theorem dX6_setGrid_31 : decode cX6_setGrid 31 = .ok (.iastore, 1) := by decide +kernel
theorem dX6_setGrid_32 : decode cX6_setGrid 32 = .ok (.aload_n 0, 1) := by decide +kernel
theorem dX6_setGrid_33 : decode cX6_setGrid 33 = .ok (.getfield 79, 3) := by decide +kernel
theorem dX6_setGrid_36 : decode cX6_setGrid 36 = .ok (.iload_n 1, 1) := by decide +kernel
theorem dX6_setGrid_37 : decode cX6_setGrid 37 = .ok (.aload_n 0, 1) := by decide +kernel
theorem dX6_setGrid_38 : decode cX6_setGrid 38 = .ok (.getfield 97, 3) := by decide +kernel
theorem dX6_setGrid_41 : decode cX6_setGrid 41 = .ok (.iload_n 1, 1) := by decide +kernel
theorem dX6_setGrid_42 : decode cX6_setGrid 42 = .ok (.iaload, 1) := by decide +kernel
theorem dX6_setGrid_43 : decode cX6_setGrid 43 = .ok (.iastore, 1) := by decide +kernel
theorem dX6_setGrid_44 : decode cX6_setGrid 44 = .ok (.aload_n 0, 1) := by decide +kernel
theorem dX6_setGrid_45 : decode cX6_setGrid 45 = .ok (.getfield 82, 3) := by decide +kernel
theorem dX6_setGrid_48 : decode cX6_setGrid 48 = .ok (.iload_n 1, 1) := by decide +kernel
theorem dX6_setGrid_49 : decode cX6_setGrid 49 = .ok (.aload_n 0, 1) := by decide +kernel
theorem dX6_setGrid_50 : decode cX6_setGrid 50 = .ok (.getfield 100, 3) := by decide +kernel
theorem dX6_setGrid_53 : decode cX6_setGrid 53 = .ok (.iload_n 1, 1) := by decide +kernel
theorem dX6_setGrid_54 : decode cX6_setGrid 54 = .ok (.iaload, 1) := by decide +kernel
theorem dX6_setGrid_55 : decode cX6_setGrid 55 = .ok (.iastore, 1) := by decide +kernel
theorem dX6_setGrid_56 : decode cX6_setGrid 56 = .ok (.iconst 4, 1) := by decide +kernel
theorem dX6_setGrid_57 : decode cX6_setGrid 57 = .ok (.iload_n 1, 1) := by decide +kernel
theorem dX6_setGrid_58 : decode cX6_setGrid 58 = .ok (.imul, 1) := by decide +kernel
theorem dX6_setGrid_59 : decode cX6_setGrid 59 = .ok (.istore_n 2, 1) := by decide +kernel
theorem dX6_setGrid_60 : decode cX6_setGrid 60 = .ok (.iload_n 2, 1) := by decide +kernel
theorem dX6_setGrid_61 : decode cX6_setGrid 61 = .ok (.iconst 4, 1) := by decide +kernel
theorem dX6_setGrid_62 : decode cX6_setGrid 62 = .ok (.iload_n 1, 1) := by decide +kernel
theorem dX6_setGrid_63 : decode cX6_setGrid 63 = .ok (.imul, 1) := by decide +kernel
theorem dX6_setGrid_64 : decode cX6_setGrid 64 = .ok (.aload_n 0, 1) := by decide +kernel
theorem dX6_setGrid_65 : decode cX6_setGrid 65 = .ok (.getfield 85, 3) := by decide +kernel
theorem dX6_setGrid_68 : decode cX6_setGrid 68 = .ok (.iload_n 1, 1) := by decide +kernel
theorem dX6_setGrid_69 : decode cX6_setGrid 69 = .ok (.iaload, 1) := by decide +kernel
theorem dX6_setGrid_70 : decode cX6_setGrid 70 = .ok (.iadd, 1) := by decide +kernel
theorem dX6_setGrid_71 : decode cX6_setGrid 71 = .ok (.if_icmp .ge 45, 3) := by decide +kernel
theorem dX6_setGrid_74 : decode cX6_setGrid 74 = .ok (.aload_n 0, 1) := by decide +kernel
theorem dX6_setGrid_75 : decode cX6_setGrid 75 = .ok (.getfield 70, 3) := by decide +kernel
theorem dX6_setGrid_78 : decode cX6_setGrid 78 = .ok (.iload_n 2, 1) := by decide +kernel
theorem dX6_setGrid_79 : decode cX6_setGrid 79 = .ok (.aload_n 0, 1) := by decide +kernel
theorem dX6_setGrid_80 : decode cX6_setGrid 80 = .ok (.getfield 88, 3) := by decide +kernel
theorem dX6_setGrid_83 : decode cX6_setGrid 83 = .ok (.iload_n 2, 1) := by decide +kernel
theorem dX6_setGrid_84 : decode cX6_setGrid 84 = .ok (.iaload, 1) := by decide +kernel
theorem dX6_setGrid_85 : decode cX6_setGrid 85 = .ok (.iastore, 1) := by decide +kernel
theorem dX6_setGrid_86 : decode cX6_setGrid 86 = .ok (.aload_n 0, 1) := by decide +kernel
theorem dX6_setGrid_87 : decode cX6_setGrid 87 = .ok (.getfield 73, 3) := by decide +kernel
theorem dX6_setGrid_90 : decode cX6_setGrid 90 = .ok (.iload_n 2, 1) := by decide +kernel
theorem dX6_setGrid_91 : decode cX6_setGrid 91 = .ok (.aload_n 0, 1) := by decide +kernel
theorem dX6_setGrid_92 : decode cX6_setGrid 92 = .ok (.getfield 91, 3) := by decide +kernel
theorem dX6_setGrid_95 : decode cX6_setGrid 95 = .ok (.iload_n 2, 1) := by decide +kernel
theorem dX6_setGrid_96 : decode cX6_setGrid 96 = .ok (.iaload, 1) := by decide +kernel
theorem dX6_setGrid_97 : decode cX6_setGrid 97 = .ok (.iastore, 1) := by decide +kernel
theorem dX6_setGrid_98 : decode cX6_setGrid 98 = .ok (.aload_n 0, 1) := by decide +kernel
theorem dX6_setGrid_99 : decode cX6_setGrid 99 = .ok (.getfield 76, 3) := by decide +kernel
theorem dX6_setGrid_102 : decode cX6_setGrid 102 = .ok (.iload_n 2, 1) := by decide +kernel
theorem dX6_setGrid_103 : decode cX6_setGrid 103 = .ok (.aload_n 0, 1) := by decide +kernel
theorem dX6_setGrid_104 : decode cX6_setGrid 104 = .ok (.getfield 94, 3) := by decide +kernel
theorem dX6_setGrid_107 : decode cX6_setGrid 107 = .ok (.iload_n 2, 1) := by decide +kernel
theorem dX6_setGrid_108 : decode cX6_setGrid 108 = .ok (.iaload, 1) := by decide +kernel
theorem dX6_setGrid_109 : decode cX6_setGrid 109 = .ok (.iastore, 1) := by decide +kernel
theorem dX6_setGrid_110 : decode cX6_setGrid 110 = .ok (.iinc 2 1, 3) := by decide +kernel
theorem dX6_setGrid_113 : decode cX6_setGrid 113 = .ok (.goto (-53), 3) := by decide +kernel
theorem dX6_setGrid_116 : decode cX6_setGrid 116 = .ok (.iinc 1 1, 3) := by decide +kernel
theorem dX6_setGrid_119 : decode cX6_setGrid 119 = .ok (.goto (-107), 3) := by decide +kernel
theorem dX6_setGrid_122 : decode cX6_setGrid 122 = .ok (.return_, 1) := by decide +kernel
theorem dX6_fault_0 : decode cX6_fault 0 = .ok (.aload_n 0, 1) := by decide +kernel
theorem dX6_fault_1 : decode cX6_fault 1 = .ok (.iconst 0, 1) := by decide +kernel
theorem dX6_fault_2 : decode cX6_fault 2 = .ok (.putfield 129, 3) := by decide +kernel
theorem dX6_fault_5 : decode cX6_fault 5 = .ok (.iload_n 1, 1) := by decide +kernel
theorem dX6_fault_6 : decode cX6_fault 6 = .ok (.ifCond .ne 12, 3) := by decide +kernel
theorem dX6_fault_9 : decode cX6_fault 9 = .ok (.aload_n 0, 1) := by decide +kernel
theorem dX6_fault_10 : decode cX6_fault 10 = .ok (.getfield 17, 3) := by decide +kernel
theorem dX6_fault_13 : decode cX6_fault 13 = .ok (.iconst 0, 1) := by decide +kernel
theorem dX6_fault_14 : decode cX6_fault 14 = .ok (.iaload, 1) := by decide +kernel
theorem dX6_fault_15 : decode cX6_fault 15 = .ok (.goto 18, 3) := by decide +kernel
theorem dX6_fault_18 : decode cX6_fault 18 = .ok (.iload_n 1, 1) := by decide +kernel
theorem dX6_fault_19 : decode cX6_fault 19 = .ok (.iconst 1, 1) := by decide +kernel
theorem dX6_fault_20 : decode cX6_fault 20 = .ok (.if_icmp .ne 12, 3) := by decide +kernel
theorem dX6_fault_23 : decode cX6_fault 23 = .ok (.aload_n 0, 1) := by decide +kernel
theorem dX6_fault_24 : decode cX6_fault 24 = .ok (.getfield 20, 3) := by decide +kernel
theorem dX6_fault_27 : decode cX6_fault 27 = .ok (.iconst 0, 1) := by decide +kernel
theorem dX6_fault_28 : decode cX6_fault 28 = .ok (.iaload, 1) := by decide +kernel
theorem dX6_fault_29 : decode cX6_fault 29 = .ok (.goto 4, 3) := by decide +kernel
theorem dX6_fault_32 : decode cX6_fault 32 = .ok (.iconst (-1), 1) := by decide +kernel
theorem dX6_fault_33 : decode cX6_fault 33 = .ok (.ireturn, 1) := by decide +kernel
theorem dX6_ones_0 : decode cX6_ones 0 = .ok (.iconst 0, 1) := by decide +kernel
theorem dX6_ones_1 : decode cX6_ones 1 = .ok (.istore_n 1, 1) := by decide +kernel
theorem dX6_ones_2 : decode cX6_ones 2 = .ok (.iload_n 0, 1) := by decide +kernel
theorem dX6_ones_3 : decode cX6_ones 3 = .ok (.istore_n 2, 1) := by decide +kernel
theorem dX6_ones_4 : decode cX6_ones 4 = .ok (.iload_n 2, 1) := by decide +kernel
theorem dX6_ones_5 : decode cX6_ones 5 = .ok (.ifCond .eq 15, 3) := by decide +kernel
theorem dX6_ones_8 : decode cX6_ones 8 = .ok (.iinc 1 1, 3) := by decide +kernel
theorem dX6_ones_11 : decode cX6_ones 11 = .ok (.iload_n 2, 1) := by decide +kernel
theorem dX6_ones_12 : decode cX6_ones 12 = .ok (.iload_n 2, 1) := by decide +kernel
theorem dX6_ones_13 : decode cX6_ones 13 = .ok (.iconst 1, 1) := by decide +kernel
theorem dX6_ones_14 : decode cX6_ones 14 = .ok (.isub, 1) := by decide +kernel
theorem dX6_ones_15 : decode cX6_ones 15 = .ok (.iand, 1) := by decide +kernel
theorem dX6_ones_16 : decode cX6_ones 16 = .ok (.istore_n 2, 1) := by decide +kernel
theorem dX6_ones_17 : decode cX6_ones 17 = .ok (.goto (-13), 3) := by decide +kernel
theorem dX6_ones_20 : decode cX6_ones 20 = .ok (.iload_n 1, 1) := by decide +kernel
theorem dX6_ones_21 : decode cX6_ones 21 = .ok (.ireturn, 1) := by decide +kernel
set_option maxRecDepth 20000 in
theorem ggX6_lineHolds_X6_ones : GoodIn wsX6_lineHolds wsX6_ones := goodIn_r _ [8] (by decide +kernel) (by decide +kernel)
set_option maxRecDepth 20000 in
theorem gX6_lineHolds_X6_ones : GoodIn wsX6_lineHolds (va_wsS RX6 270 yX6_ones wsX6_ones) := goodIn_app (goodIn_of _ (by decide +kernel)) ggX6_lineHolds_X6_ones
theorem dX6_lineHolds_0 : decode cX6_lineHolds 0 = .ok (.iconst 4, 1) := by decide +kernel
theorem dX6_lineHolds_1 : decode cX6_lineHolds 1 = .ok (.iload_n 1, 1) := by decide +kernel
theorem dX6_lineHolds_2 : decode cX6_lineHolds 2 = .ok (.imul, 1) := by decide +kernel
theorem dX6_lineHolds_3 : decode cX6_lineHolds 3 = .ok (.istore 8, 2) := by decide +kernel
theorem dX6_lineHolds_5 : decode cX6_lineHolds 5 = .ok (.iload 8, 2) := by decide +kernel
theorem dX6_lineHolds_7 : decode cX6_lineHolds 7 = .ok (.iconst 4, 1) := by decide +kernel
theorem dX6_lineHolds_8 : decode cX6_lineHolds 8 = .ok (.iload_n 1, 1) := by decide +kernel
theorem dX6_lineHolds_9 : decode cX6_lineHolds 9 = .ok (.imul, 1) := by decide +kernel
theorem dX6_lineHolds_10 : decode cX6_lineHolds 10 = .ok (.aload_n 0, 1) := by decide +kernel
theorem dX6_lineHolds_11 : decode cX6_lineHolds 11 = .ok (.getfield 67, 3) := by decide +kernel
theorem dX6_lineHolds_14 : decode cX6_lineHolds 14 = .ok (.iload_n 1, 1) := by decide +kernel
theorem dX6_lineHolds_15 : decode cX6_lineHolds 15 = .ok (.iaload, 1) := by decide +kernel
theorem dX6_lineHolds_16 : decode cX6_lineHolds 16 = .ok (.iadd, 1) := by decide +kernel
theorem dX6_lineHolds_17 : decode cX6_lineHolds 17 = .ok (.if_icmp .ge 206, 3) := by decide +kernel
theorem dX6_lineHolds_20 : decode cX6_lineHolds 20 = .ok (.aload_n 0, 1) := by decide +kernel
theorem dX6_lineHolds_21 : decode cX6_lineHolds 21 = .ok (.getfield 70, 3) := by decide +kernel
theorem dX6_lineHolds_24 : decode cX6_lineHolds 24 = .ok (.iload 8, 2) := by decide +kernel
theorem dX6_lineHolds_26 : decode cX6_lineHolds 26 = .ok (.iaload, 1) := by decide +kernel
theorem dX6_lineHolds_27 : decode cX6_lineHolds 27 = .ok (.bipush 7, 2) := by decide +kernel
theorem dX6_lineHolds_29 : decode cX6_lineHolds 29 = .ok (.iand, 1) := by decide +kernel
theorem dX6_lineHolds_30 : decode cX6_lineHolds 30 = .ok (.istore 9, 2) := by decide +kernel
theorem dX6_lineHolds_32 : decode cX6_lineHolds 32 = .ok (.aload_n 0, 1) := by decide +kernel
theorem dX6_lineHolds_33 : decode cX6_lineHolds 33 = .ok (.getfield 76, 3) := by decide +kernel
theorem dX6_lineHolds_36 : decode cX6_lineHolds 36 = .ok (.iload 8, 2) := by decide +kernel
theorem dX6_lineHolds_38 : decode cX6_lineHolds 38 = .ok (.iaload, 1) := by decide +kernel
theorem dX6_lineHolds_39 : decode cX6_lineHolds 39 = .ok (.istore 10, 2) := by decide +kernel
theorem dX6_lineHolds_41 : decode cX6_lineHolds 41 = .ok (.iload 9, 2) := by decide +kernel
theorem dX6_lineHolds_43 : decode cX6_lineHolds 43 = .ok (.iconst 5, 1) := by decide +kernel
theorem dX6_lineHolds_44 : decode cX6_lineHolds 44 = .ok (.if_icmp .ne 23, 3) := by decide +kernel
theorem dX6_lineHolds_47 : decode cX6_lineHolds 47 = .ok (.iload 5, 2) := by decide +kernel
theorem dX6_lineHolds_49 : decode cX6_lineHolds 49 = .ok (.iload 10, 2) := by decide +kernel
theorem dX6_lineHolds_51 : decode cX6_lineHolds 51 = .ok (.ishr, 1) := by decide +kernel
theorem dX6_lineHolds_52 : decode cX6_lineHolds 52 = .ok (.iconst 1, 1) := by decide +kernel
theorem dX6_lineHolds_53 : decode cX6_lineHolds 53 = .ok (.iand, 1) := by decide +kernel
theorem dX6_lineHolds_54 : decode cX6_lineHolds 54 = .ok (.ifCond .eq 7, 3) := by decide +kernel
theorem dX6_lineHolds_57 : decode cX6_lineHolds 57 = .ok (.iconst 1, 1) := by decide +kernel
theorem dX6_lineHolds_58 : decode cX6_lineHolds 58 = .ok (.goto 4, 3) := by decide +kernel
theorem dX6_lineHolds_61 : decode cX6_lineHolds 61 = .ok (.iconst 0, 1) := by decide +kernel
theorem dX6_lineHolds_62 : decode cX6_lineHolds 62 = .ok (.istore 11, 2) := by decide +kernel
theorem dX6_lineHolds_64 : decode cX6_lineHolds 64 = .ok (.goto 129, 3) := by decide +kernel
theorem dX6_lineHolds_67 : decode cX6_lineHolds 67 = .ok (.iload 9, 2) := by decide +kernel
theorem dX6_lineHolds_69 : decode cX6_lineHolds 69 = .ok (.ifCond .ne 8, 3) := by decide +kernel
theorem dX6_lineHolds_72 : decode cX6_lineHolds 72 = .ok (.iload_n 2, 1) := by decide +kernel
theorem dX6_lineHolds_73 : decode cX6_lineHolds 73 = .ok (.i2l, 1) := by decide +kernel
theorem dX6_lineHolds_74 : decode cX6_lineHolds 74 = .ok (.goto 43, 3) := by decide +kernel
theorem dX6_lineHolds_77 : decode cX6_lineHolds 77 = .ok (.iload 9, 2) := by decide +kernel
theorem dX6_lineHolds_79 : decode cX6_lineHolds 79 = .ok (.iconst 1, 1) := by decide +kernel
theorem dX6_lineHolds_80 : decode cX6_lineHolds 80 = .ok (.if_icmp .ne 8, 3) := by decide +kernel
theorem dX6_lineHolds_83 : decode cX6_lineHolds 83 = .ok (.iload_n 3, 1) := by decide +kernel
theorem dX6_lineHolds_84 : decode cX6_lineHolds 84 = .ok (.i2l, 1) := by decide +kernel
theorem dX6_lineHolds_85 : decode cX6_lineHolds 85 = .ok (.goto 32, 3) := by decide +kernel
theorem dX6_lineHolds_88 : decode cX6_lineHolds 88 = .ok (.iload 9, 2) := by decide +kernel
theorem dX6_lineHolds_90 : decode cX6_lineHolds 90 = .ok (.iconst 2, 1) := by decide +kernel
theorem dX6_lineHolds_91 : decode cX6_lineHolds 91 = .ok (.if_icmp .ne 9, 3) := by decide +kernel
theorem dX6_lineHolds_94 : decode cX6_lineHolds 94 = .ok (.iload 4, 2) := by decide +kernel
theorem dX6_lineHolds_96 : decode cX6_lineHolds 96 = .ok (.i2l, 1) := by decide +kernel
theorem dX6_lineHolds_97 : decode cX6_lineHolds 97 = .ok (.goto 20, 3) := by decide +kernel
theorem dX6_lineHolds_100 : decode cX6_lineHolds 100 = .ok (.iload 9, 2) := by decide +kernel
theorem dX6_lineHolds_102 : decode cX6_lineHolds 102 = .ok (.iconst 3, 1) := by decide +kernel
theorem dX6_lineHolds_103 : decode cX6_lineHolds 103 = .ok (.if_icmp .ne 12, 3) := by decide +kernel
theorem dX6_lineHolds_106 : decode cX6_lineHolds 106 = .ok (.iload 5, 2) := by decide +kernel
theorem dX6_lineHolds_108 : decode cX6_lineHolds 108 = .ok (.invokestatic 270, 3) := by decide +kernel
theorem dX6_lineHolds_111 : decode cX6_lineHolds 111 = .ok (.i2l, 1) := by decide +kernel
theorem dX6_lineHolds_112 : decode cX6_lineHolds 112 = .ok (.goto 5, 3) := by decide +kernel
theorem dX6_lineHolds_115 : decode cX6_lineHolds 115 = .ok (.lload 6, 2) := by decide +kernel
theorem dX6_lineHolds_117 : decode cX6_lineHolds 117 = .ok (.lstore 12, 2) := by decide +kernel
theorem dX6_lineHolds_119 : decode cX6_lineHolds 119 = .ok (.aload_n 0, 1) := by decide +kernel
theorem dX6_lineHolds_120 : decode cX6_lineHolds 120 = .ok (.getfield 73, 3) := by decide +kernel
theorem dX6_lineHolds_123 : decode cX6_lineHolds 123 = .ok (.iload 8, 2) := by decide +kernel
theorem dX6_lineHolds_125 : decode cX6_lineHolds 125 = .ok (.iaload, 1) := by decide +kernel
theorem dX6_lineHolds_126 : decode cX6_lineHolds 126 = .ok (.bipush 60, 2) := by decide +kernel
theorem dX6_lineHolds_128 : decode cX6_lineHolds 128 = .ok (.if_icmp .ne 20, 3) := by decide +kernel
theorem dX6_lineHolds_131 : decode cX6_lineHolds 131 = .ok (.lload 12, 2) := by decide +kernel
theorem dX6_lineHolds_133 : decode cX6_lineHolds 133 = .ok (.iload 10, 2) := by decide +kernel
theorem dX6_lineHolds_135 : decode cX6_lineHolds 135 = .ok (.i2l, 1) := by decide +kernel
theorem dX6_lineHolds_136 : decode cX6_lineHolds 136 = .ok (.lcmp, 1) := by decide +kernel
theorem dX6_lineHolds_137 : decode cX6_lineHolds 137 = .ok (.ifCond .ge 7, 3) := by decide +kernel
theorem dX6_lineHolds_140 : decode cX6_lineHolds 140 = .ok (.iconst 1, 1) := by decide +kernel
theorem dX6_lineHolds_141 : decode cX6_lineHolds 141 = .ok (.goto 50, 3) := by decide +kernel
theorem dX6_lineHolds_144 : decode cX6_lineHolds 144 = .ok (.iconst 0, 1) := by decide +kernel
theorem dX6_lineHolds_145 : decode cX6_lineHolds 145 = .ok (.goto 46, 3) := by decide +kernel
theorem dX6_lineHolds_148 : decode cX6_lineHolds 148 = .ok (.aload_n 0, 1) := by decide +kernel
theorem dX6_lineHolds_149 : decode cX6_lineHolds 149 = .ok (.getfield 73, 3) := by decide +kernel
theorem dX6_lineHolds_152 : decode cX6_lineHolds 152 = .ok (.iload 8, 2) := by decide +kernel
theorem dX6_lineHolds_154 : decode cX6_lineHolds 154 = .ok (.iaload, 1) := by decide +kernel
theorem dX6_lineHolds_155 : decode cX6_lineHolds 155 = .ok (.bipush 62, 2) := by decide +kernel
theorem dX6_lineHolds_157 : decode cX6_lineHolds 157 = .ok (.if_icmp .ne 20, 3) := by decide +kernel
theorem dX6_lineHolds_160 : decode cX6_lineHolds 160 = .ok (.lload 12, 2) := by decide +kernel
theorem dX6_lineHolds_162 : decode cX6_lineHolds 162 = .ok (.iload 10, 2) := by decide +kernel
theorem dX6_lineHolds_164 : decode cX6_lineHolds 164 = .ok (.i2l, 1) := by decide +kernel
theorem dX6_lineHolds_165 : decode cX6_lineHolds 165 = .ok (.lcmp, 1) := by decide +kernel
theorem dX6_lineHolds_166 : decode cX6_lineHolds 166 = .ok (.ifCond .le 7, 3) := by decide +kernel
theorem dX6_lineHolds_169 : decode cX6_lineHolds 169 = .ok (.iconst 1, 1) := by decide +kernel
theorem dX6_lineHolds_170 : decode cX6_lineHolds 170 = .ok (.goto 21, 3) := by decide +kernel
theorem dX6_lineHolds_173 : decode cX6_lineHolds 173 = .ok (.iconst 0, 1) := by decide +kernel
theorem dX6_lineHolds_174 : decode cX6_lineHolds 174 = .ok (.goto 17, 3) := by decide +kernel
theorem dX6_lineHolds_177 : decode cX6_lineHolds 177 = .ok (.lload 12, 2) := by decide +kernel
theorem dX6_lineHolds_179 : decode cX6_lineHolds 179 = .ok (.iload 10, 2) := by decide +kernel
theorem dX6_lineHolds_181 : decode cX6_lineHolds 181 = .ok (.i2l, 1) := by decide +kernel
theorem dX6_lineHolds_182 : decode cX6_lineHolds 182 = .ok (.lcmp, 1) := by decide +kernel
theorem dX6_lineHolds_183 : decode cX6_lineHolds 183 = .ok (.ifCond .ne 7, 3) := by decide +kernel
theorem dX6_lineHolds_186 : decode cX6_lineHolds 186 = .ok (.iconst 1, 1) := by decide +kernel
theorem dX6_lineHolds_187 : decode cX6_lineHolds 187 = .ok (.goto 4, 3) := by decide +kernel
theorem dX6_lineHolds_190 : decode cX6_lineHolds 190 = .ok (.iconst 0, 1) := by decide +kernel
theorem dX6_lineHolds_191 : decode cX6_lineHolds 191 = .ok (.istore 11, 2) := by decide +kernel
theorem dX6_lineHolds_193 : decode cX6_lineHolds 193 = .ok (.iload 11, 2) := by decide +kernel
theorem dX6_lineHolds_195 : decode cX6_lineHolds 195 = .ok (.aload_n 0, 1) := by decide +kernel
theorem dX6_lineHolds_196 : decode cX6_lineHolds 196 = .ok (.getfield 70, 3) := by decide +kernel
theorem dX6_lineHolds_199 : decode cX6_lineHolds 199 = .ok (.iload 8, 2) := by decide +kernel
theorem dX6_lineHolds_201 : decode cX6_lineHolds 201 = .ok (.iaload, 1) := by decide +kernel
theorem dX6_lineHolds_202 : decode cX6_lineHolds 202 = .ok (.bipush 7, 2) := by decide +kernel
theorem dX6_lineHolds_204 : decode cX6_lineHolds 204 = .ok (.if_icmp .le 7, 3) := by decide +kernel
theorem dX6_lineHolds_207 : decode cX6_lineHolds 207 = .ok (.iconst 1, 1) := by decide +kernel
theorem dX6_lineHolds_208 : decode cX6_lineHolds 208 = .ok (.goto 4, 3) := by decide +kernel
theorem dX6_lineHolds_211 : decode cX6_lineHolds 211 = .ok (.iconst 0, 1) := by decide +kernel
theorem dX6_lineHolds_212 : decode cX6_lineHolds 212 = .ok (.if_icmp .ne 5, 3) := by decide +kernel
theorem dX6_lineHolds_215 : decode cX6_lineHolds 215 = .ok (.iconst 0, 1) := by decide +kernel
theorem dX6_lineHolds_216 : decode cX6_lineHolds 216 = .ok (.ireturn, 1) := by decide +kernel
theorem dX6_lineHolds_217 : decode cX6_lineHolds 217 = .ok (.iinc 8 1, 3) := by decide +kernel
theorem dX6_lineHolds_220 : decode cX6_lineHolds 220 = .ok (.goto (-215), 3) := by decide +kernel
theorem dX6_lineHolds_223 : decode cX6_lineHolds 223 = .ok (.iconst 1, 1) := by decide +kernel
theorem dX6_lineHolds_224 : decode cX6_lineHolds 224 = .ok (.ireturn, 1) := by decide +kernel
set_option maxRecDepth 20000 in
theorem ggX6_pointsOf_X6_lineHolds : GoodIn wsX6_pointsOf wsX6_lineHolds := goodIn_r _ [10, 11, 12, 13, 14, 15, 16, 9, 17, 18, 19, 20, 21, 22, 23, 24, 25, 26, 27, 28, 29, 30, 31, 32, 33, 34, 35, 36, 37, 38, 39, 40, 41, 42, 43, 44, 45, 46, 47, 48, 49, 50, 51, 52, 53, 54, 55, 56, 57, 58, 59, 60, 61, 62, 63, 64, 65, 66, 67] (by decide +kernel) (by decide +kernel)
set_option maxRecDepth 20000 in
theorem gX6_pointsOf_X6_lineHolds : GoodIn wsX6_pointsOf (wsV RX6 274 RX6 yX6_lineHolds wsX6_lineHolds) := goodIn_app (goodIn_of _ (by decide +kernel)) ggX6_pointsOf_X6_lineHolds
theorem dX6_pointsOf_0 : decode cX6_pointsOf 0 = .ok (.lconst 0, 1) := by decide +kernel
theorem dX6_pointsOf_1 : decode cX6_pointsOf 1 = .ok (.lstore 5, 2) := by decide +kernel
theorem dX6_pointsOf_3 : decode cX6_pointsOf 3 = .ok (.iconst 0, 1) := by decide +kernel
theorem dX6_pointsOf_4 : decode cX6_pointsOf 4 = .ok (.istore 7, 2) := by decide +kernel
theorem dX6_pointsOf_6 : decode cX6_pointsOf 6 = .ok (.iload 7, 2) := by decide +kernel
theorem dX6_pointsOf_8 : decode cX6_pointsOf 8 = .ok (.aload_n 0, 1) := by decide +kernel
theorem dX6_pointsOf_9 : decode cX6_pointsOf 9 = .ok (.getfield 64, 3) := by decide +kernel
theorem dX6_pointsOf_12 : decode cX6_pointsOf 12 = .ok (.iconst 0, 1) := by decide +kernel
theorem dX6_pointsOf_13 : decode cX6_pointsOf 13 = .ok (.iaload, 1) := by decide +kernel
theorem dX6_pointsOf_14 : decode cX6_pointsOf 14 = .ok (.if_icmp .ge 117, 3) := by decide +kernel
theorem dX6_pointsOf_17 : decode cX6_pointsOf 17 = .ok (.aload_n 0, 1) := by decide +kernel
theorem dX6_pointsOf_18 : decode cX6_pointsOf 18 = .ok (.iload 7, 2) := by decide +kernel
theorem dX6_pointsOf_20 : decode cX6_pointsOf 20 = .ok (.iload_n 1, 1) := by decide +kernel
theorem dX6_pointsOf_21 : decode cX6_pointsOf 21 = .ok (.iload_n 2, 1) := by decide +kernel
theorem dX6_pointsOf_22 : decode cX6_pointsOf 22 = .ok (.iload_n 3, 1) := by decide +kernel
theorem dX6_pointsOf_23 : decode cX6_pointsOf 23 = .ok (.iload 4, 2) := by decide +kernel
theorem dX6_pointsOf_25 : decode cX6_pointsOf 25 = .ok (.lload 5, 2) := by decide +kernel
theorem dX6_pointsOf_27 : decode cX6_pointsOf 27 = .ok (.invokevirtual 274, 3) := by decide +kernel
theorem dX6_pointsOf_30 : decode cX6_pointsOf 30 = .ok (.ifCond .ne 6, 3) := by decide +kernel
theorem dX6_pointsOf_33 : decode cX6_pointsOf 33 = .ok (.goto 92, 3) := by decide +kernel
theorem dX6_pointsOf_36 : decode cX6_pointsOf 36 = .ok (.aload_n 0, 1) := by decide +kernel
theorem dX6_pointsOf_37 : decode cX6_pointsOf 37 = .ok (.getfield 82, 3) := by decide +kernel
theorem dX6_pointsOf_40 : decode cX6_pointsOf 40 = .ok (.iload 7, 2) := by decide +kernel
theorem dX6_pointsOf_42 : decode cX6_pointsOf 42 = .ok (.iaload, 1) := by decide +kernel
theorem dX6_pointsOf_43 : decode cX6_pointsOf 43 = .ok (.istore 8, 2) := by decide +kernel
theorem dX6_pointsOf_45 : decode cX6_pointsOf 45 = .ok (.aload_n 0, 1) := by decide +kernel
theorem dX6_pointsOf_46 : decode cX6_pointsOf 46 = .ok (.getfield 79, 3) := by decide +kernel
theorem dX6_pointsOf_49 : decode cX6_pointsOf 49 = .ok (.iload 7, 2) := by decide +kernel
theorem dX6_pointsOf_51 : decode cX6_pointsOf 51 = .ok (.iaload, 1) := by decide +kernel
theorem dX6_pointsOf_52 : decode cX6_pointsOf 52 = .ok (.iconst 3, 1) := by decide +kernel
theorem dX6_pointsOf_53 : decode cX6_pointsOf 53 = .ok (.if_icmp .ne 5, 3) := by decide +kernel
theorem dX6_pointsOf_56 : decode cX6_pointsOf 56 = .ok (.iconst 0, 1) := by decide +kernel
theorem dX6_pointsOf_57 : decode cX6_pointsOf 57 = .ok (.ireturn, 1) := by decide +kernel
theorem dX6_pointsOf_58 : decode cX6_pointsOf 58 = .ok (.aload_n 0, 1) := by decide +kernel
theorem dX6_pointsOf_59 : decode cX6_pointsOf 59 = .ok (.getfield 79, 3) := by decide +kernel
theorem dX6_pointsOf_62 : decode cX6_pointsOf 62 = .ok (.iload 7, 2) := by decide +kernel
theorem dX6_pointsOf_64 : decode cX6_pointsOf 64 = .ok (.iaload, 1) := by decide +kernel
theorem dX6_pointsOf_65 : decode cX6_pointsOf 65 = .ok (.ifCond .ne 9, 3) := by decide +kernel
theorem dX6_pointsOf_68 : decode cX6_pointsOf 68 = .ok (.iload 8, 2) := by decide +kernel
theorem dX6_pointsOf_70 : decode cX6_pointsOf 70 = .ok (.i2l, 1) := by decide +kernel
theorem dX6_pointsOf_71 : decode cX6_pointsOf 71 = .ok (.goto 33, 3) := by decide +kernel
theorem dX6_pointsOf_74 : decode cX6_pointsOf 74 = .ok (.aload_n 0, 1) := by decide +kernel
theorem dX6_pointsOf_75 : decode cX6_pointsOf 75 = .ok (.getfield 79, 3) := by decide +kernel
theorem dX6_pointsOf_78 : decode cX6_pointsOf 78 = .ok (.iload 7, 2) := by decide +kernel
theorem dX6_pointsOf_80 : decode cX6_pointsOf 80 = .ok (.iaload, 1) := by decide +kernel
theorem dX6_pointsOf_81 : decode cX6_pointsOf 81 = .ok (.iconst 1, 1) := by decide +kernel
theorem dX6_pointsOf_82 : decode cX6_pointsOf 82 = .ok (.if_icmp .ne 12, 3) := by decide +kernel
theorem dX6_pointsOf_85 : decode cX6_pointsOf 85 = .ok (.lload 5, 2) := by decide +kernel
theorem dX6_pointsOf_87 : decode cX6_pointsOf 87 = .ok (.iload 8, 2) := by decide +kernel
theorem dX6_pointsOf_89 : decode cX6_pointsOf 89 = .ok (.i2l, 1) := by decide +kernel
theorem dX6_pointsOf_90 : decode cX6_pointsOf 90 = .ok (.ladd, 1) := by decide +kernel
theorem dX6_pointsOf_91 : decode cX6_pointsOf 91 = .ok (.goto 13, 3) := by decide +kernel
theorem dX6_pointsOf_94 : decode cX6_pointsOf 94 = .ok (.lload 5, 2) := by decide +kernel
theorem dX6_pointsOf_96 : decode cX6_pointsOf 96 = .ok (.iload 8, 2) := by decide +kernel
theorem dX6_pointsOf_98 : decode cX6_pointsOf 98 = .ok (.i2l, 1) := by decide +kernel
theorem dX6_pointsOf_99 : decode cX6_pointsOf 99 = .ok (.lmul, 1) := by decide +kernel
theorem dX6_pointsOf_100 : decode cX6_pointsOf 100 = .ok (.ldc2_w 278, 3) := by decide +kernel
theorem dX6_pointsOf_103 : decode cX6_pointsOf 103 = .ok (.ldiv, 1) := by decide +kernel
theorem dX6_pointsOf_104 : decode cX6_pointsOf 104 = .ok (.lstore 5, 2) := by decide +kernel
theorem dX6_pointsOf_106 : decode cX6_pointsOf 106 = .ok (.lload 5, 2) := by decide +kernel
theorem dX6_pointsOf_108 : decode cX6_pointsOf 108 = .ok (.ldc2_w 280, 3) := by decide +kernel
theorem dX6_pointsOf_111 : decode cX6_pointsOf 111 = .ok (.lcmp, 1) := by decide +kernel
theorem dX6_pointsOf_112 : decode cX6_pointsOf 112 = .ok (.ifCond .le 9, 3) := by decide +kernel
theorem dX6_pointsOf_115 : decode cX6_pointsOf 115 = .ok (.ldc2_w 280, 3) := by decide +kernel
theorem dX6_pointsOf_118 : decode cX6_pointsOf 118 = .ok (.goto 5, 3) := by decide +kernel
theorem dX6_pointsOf_121 : decode cX6_pointsOf 121 = .ok (.lload 5, 2) := by decide +kernel
theorem dX6_pointsOf_123 : decode cX6_pointsOf 123 = .ok (.lstore 5, 2) := by decide +kernel
theorem dX6_pointsOf_125 : decode cX6_pointsOf 125 = .ok (.iinc 7 1, 3) := by decide +kernel
theorem dX6_pointsOf_128 : decode cX6_pointsOf 128 = .ok (.goto (-122), 3) := by decide +kernel
theorem dX6_pointsOf_131 : decode cX6_pointsOf 131 = .ok (.lload 5, 2) := by decide +kernel
theorem dX6_pointsOf_133 : decode cX6_pointsOf 133 = .ok (.l2i, 1) := by decide +kernel
theorem dX6_pointsOf_134 : decode cX6_pointsOf 134 = .ok (.ireturn, 1) := by decide +kernel
set_option maxRecDepth 20000 in
theorem ggX6_pointsNow_X6_of : GoodIn wsX6_pointsNow wsX6_of := goodIn_r _ [5, 6, 27, 28, 29, 30, 31, 32, 33, 34, 35, 36, 37, 38, 39, 40, 41, 42, 43, 44, 45, 46, 47, 48, 49, 50, 51, 52, 53, 54, 55, 56, 57, 58, 59, 60, 61, 62, 63, 64, 65, 66, 67, 68, 69, 70, 71, 72, 73, 74, 75, 76] (by decide +kernel) (by decide +kernel)
set_option maxRecDepth 20000 in
theorem gX6_pointsNow_X6_of : GoodIn wsX6_pointsNow (wsV RX6 153 RX6 yX6_of wsX6_of) := goodIn_app (goodIn_of _ (by decide +kernel)) ggX6_pointsNow_X6_of
set_option maxRecDepth 20000 in
theorem ggX6_pointsNow_X6_pointsOf : GoodIn wsX6_pointsNow wsX6_pointsOf := goodIn_r _ [10, 11, 12, 13, 14, 15, 16, 17, 18, 4, 19, 20, 21, 22, 23, 24, 25, 26, 27, 28, 29, 30, 31, 32, 33, 34, 35, 36, 37, 38, 39, 40, 41, 42, 43, 44, 45, 46, 47, 48, 49, 50, 51, 52, 53, 54, 55, 56, 57, 58, 59, 60, 61, 62, 63, 64, 65, 66, 67, 68, 69, 70, 71, 72, 73, 74, 75, 76] (by decide +kernel) (by decide +kernel)
set_option maxRecDepth 20000 in
theorem gX6_pointsNow_X6_pointsOf : GoodIn wsX6_pointsNow (wsV RX6 282 RX6 yX6_pointsOf wsX6_pointsOf) := goodIn_app (goodIn_of _ (by decide +kernel)) ggX6_pointsNow_X6_pointsOf
theorem dX6_pointsNow_0 : decode cX6_pointsNow 0 = .ok (.aload_n 0, 1) := by decide +kernel
theorem dX6_pointsNow_1 : decode cX6_pointsNow 1 = .ok (.aload_n 0, 1) := by decide +kernel
theorem dX6_pointsNow_2 : decode cX6_pointsNow 2 = .ok (.iload_n 1, 1) := by decide +kernel
theorem dX6_pointsNow_3 : decode cX6_pointsNow 3 = .ok (.iconst 1, 1) := by decide +kernel
theorem dX6_pointsNow_4 : decode cX6_pointsNow 4 = .ok (.invokevirtual 153, 3) := by decide +kernel
theorem dX6_pointsNow_7 : decode cX6_pointsNow 7 = .ok (.aload_n 0, 1) := by decide +kernel
theorem dX6_pointsNow_8 : decode cX6_pointsNow 8 = .ok (.iload_n 1, 1) := by decide +kernel
theorem dX6_pointsNow_9 : decode cX6_pointsNow 9 = .ok (.iconst 2, 1) := by decide +kernel
theorem dX6_pointsNow_10 : decode cX6_pointsNow 10 = .ok (.invokevirtual 153, 3) := by decide +kernel
theorem dX6_pointsNow_13 : decode cX6_pointsNow 13 = .ok (.aload_n 0, 1) := by decide +kernel
theorem dX6_pointsNow_14 : decode cX6_pointsNow 14 = .ok (.iload_n 1, 1) := by decide +kernel
theorem dX6_pointsNow_15 : decode cX6_pointsNow 15 = .ok (.iconst 3, 1) := by decide +kernel
theorem dX6_pointsNow_16 : decode cX6_pointsNow 16 = .ok (.invokevirtual 153, 3) := by decide +kernel
theorem dX6_pointsNow_19 : decode cX6_pointsNow 19 = .ok (.iload_n 2, 1) := by decide +kernel
theorem dX6_pointsNow_20 : decode cX6_pointsNow 20 = .ok (.invokevirtual 282, 3) := by decide +kernel
theorem dX6_pointsNow_23 : decode cX6_pointsNow 23 = .ok (.ireturn, 1) := by decide +kernel
set_option maxRecDepth 20000 in
theorem ggX6_leastOf_X6_of : GoodIn wsX6_leastOf wsX6_of := goodIn_r _ [6, 7, 32, 33, 34, 35, 36, 37, 38, 39, 40, 41, 42, 43, 44, 45, 46, 47, 48, 49, 50, 51, 52, 53, 54, 55, 56, 57, 58, 59, 60, 61, 62, 63, 64, 65, 66, 67, 68, 69, 70, 71, 72, 73, 74, 75, 76, 77, 78, 79, 80, 81] (by decide +kernel) (by decide +kernel)
set_option maxRecDepth 20000 in
theorem gX6_leastOf_X6_of : GoodIn wsX6_leastOf (wsV RX6 153 RX6 yX6_of wsX6_of) := goodIn_app (goodIn_of _ (by decide +kernel)) ggX6_leastOf_X6_of
set_option maxRecDepth 20000 in
theorem ggX6_leastOf_X6_pointsNow : GoodIn wsX6_leastOf wsX6_pointsNow := goodIn_r _ [11, 2, 3, 4, 5, 6, 7, 12, 13, 14, 15, 16, 17, 18, 19, 20, 21, 22, 23, 24, 25, 26, 27, 28, 29, 30, 31, 32, 33, 34, 35, 36, 37, 38, 39, 40, 41, 42, 43, 44, 45, 46, 47, 48, 49, 50, 51, 52, 53, 54, 55, 56, 57, 58, 59, 60, 61, 62, 63, 64, 65, 66, 67, 68, 69, 70, 71, 72, 73, 74, 75, 76, 77, 78, 79, 80, 81] (by decide +kernel) (by decide +kernel)
set_option maxRecDepth 20000 in
theorem gX6_leastOf_X6_pointsNow : GoodIn wsX6_leastOf (wsV RX6 287 RX6 yX6_pointsNow wsX6_pointsNow) := goodIn_app (goodIn_of _ (by decide +kernel)) ggX6_leastOf_X6_pointsNow
theorem dX6_leastOf_0 : decode cX6_leastOf 0 = .ok (.aload_n 0, 1) := by decide +kernel
theorem dX6_leastOf_1 : decode cX6_leastOf 1 = .ok (.iload_n 1, 1) := by decide +kernel
theorem dX6_leastOf_2 : decode cX6_leastOf 2 = .ok (.iconst 5, 1) := by decide +kernel
theorem dX6_leastOf_3 : decode cX6_leastOf 3 = .ok (.invokevirtual 153, 3) := by decide +kernel
theorem dX6_leastOf_6 : decode cX6_leastOf 6 = .ok (.ifCond .eq 25, 3) := by decide +kernel
theorem dX6_leastOf_9 : decode cX6_leastOf 9 = .ok (.aload_n 0, 1) := by decide +kernel
theorem dX6_leastOf_10 : decode cX6_leastOf 10 = .ok (.iload_n 1, 1) := by decide +kernel
theorem dX6_leastOf_11 : decode cX6_leastOf 11 = .ok (.iconst 5, 1) := by decide +kernel
theorem dX6_leastOf_12 : decode cX6_leastOf 12 = .ok (.invokevirtual 153, 3) := by decide +kernel
theorem dX6_leastOf_15 : decode cX6_leastOf 15 = .ok (.iconst 1, 1) := by decide +kernel
theorem dX6_leastOf_16 : decode cX6_leastOf 16 = .ok (.if_icmp .ne 13, 3) := by decide +kernel
theorem dX6_leastOf_19 : decode cX6_leastOf 19 = .ok (.aload_n 0, 1) := by decide +kernel
theorem dX6_leastOf_20 : decode cX6_leastOf 20 = .ok (.iload_n 1, 1) := by decide +kernel
theorem dX6_leastOf_21 : decode cX6_leastOf 21 = .ok (.bipush 6, 2) := by decide +kernel
theorem dX6_leastOf_23 : decode cX6_leastOf 23 = .ok (.invokevirtual 153, 3) := by decide +kernel
theorem dX6_leastOf_26 : decode cX6_leastOf 26 = .ok (.goto 4, 3) := by decide +kernel
theorem dX6_leastOf_29 : decode cX6_leastOf 29 = .ok (.iconst 0, 1) := by decide +kernel
theorem dX6_leastOf_30 : decode cX6_leastOf 30 = .ok (.ireturn, 1) := by decide +kernel
theorem dX6_leastOf_31 : decode cX6_leastOf 31 = .ok (.ldc_w 286, 3) := by decide +kernel
theorem dX6_leastOf_34 : decode cX6_leastOf 34 = .ok (.istore_n 2, 1) := by decide +kernel
theorem dX6_leastOf_35 : decode cX6_leastOf 35 = .ok (.iconst 0, 1) := by decide +kernel
theorem dX6_leastOf_36 : decode cX6_leastOf 36 = .ok (.istore_n 3, 1) := by decide +kernel
theorem dX6_leastOf_37 : decode cX6_leastOf 37 = .ok (.iload_n 3, 1) := by decide +kernel
theorem dX6_leastOf_38 : decode cX6_leastOf 38 = .ok (.bipush 64, 2) := by decide +kernel
theorem dX6_leastOf_40 : decode cX6_leastOf 40 = .ok (.if_icmp .ge 47, 3) := by decide +kernel
theorem dX6_leastOf_43 : decode cX6_leastOf 43 = .ok (.iload_n 3, 1) := by decide +kernel
theorem dX6_leastOf_44 : decode cX6_leastOf 44 = .ok (.aload_n 0, 1) := by decide +kernel
theorem dX6_leastOf_45 : decode cX6_leastOf 45 = .ok (.iload_n 1, 1) := by decide +kernel
theorem dX6_leastOf_46 : decode cX6_leastOf 46 = .ok (.iconst 4, 1) := by decide +kernel
theorem dX6_leastOf_47 : decode cX6_leastOf 47 = .ok (.invokevirtual 153, 3) := by decide +kernel
theorem dX6_leastOf_50 : decode cX6_leastOf 50 = .ok (.iand, 1) := by decide +kernel
theorem dX6_leastOf_51 : decode cX6_leastOf 51 = .ok (.aload_n 0, 1) := by decide +kernel
theorem dX6_leastOf_52 : decode cX6_leastOf 52 = .ok (.iload_n 1, 1) := by decide +kernel
theorem dX6_leastOf_53 : decode cX6_leastOf 53 = .ok (.iconst 4, 1) := by decide +kernel
theorem dX6_leastOf_54 : decode cX6_leastOf 54 = .ok (.invokevirtual 153, 3) := by decide +kernel
theorem dX6_leastOf_57 : decode cX6_leastOf 57 = .ok (.if_icmp .ne 24, 3) := by decide +kernel
theorem dX6_leastOf_60 : decode cX6_leastOf 60 = .ok (.aload_n 0, 1) := by decide +kernel
theorem dX6_leastOf_61 : decode cX6_leastOf 61 = .ok (.iload_n 1, 1) := by decide +kernel
theorem dX6_leastOf_62 : decode cX6_leastOf 62 = .ok (.iload_n 3, 1) := by decide +kernel
theorem dX6_leastOf_63 : decode cX6_leastOf 63 = .ok (.invokevirtual 287, 3) := by decide +kernel
theorem dX6_leastOf_66 : decode cX6_leastOf 66 = .ok (.istore 4, 2) := by decide +kernel
theorem dX6_leastOf_68 : decode cX6_leastOf 68 = .ok (.iload 4, 2) := by decide +kernel
theorem dX6_leastOf_70 : decode cX6_leastOf 70 = .ok (.iload_n 2, 1) := by decide +kernel
theorem dX6_leastOf_71 : decode cX6_leastOf 71 = .ok (.if_icmp .ge 8, 3) := by decide +kernel
theorem dX6_leastOf_74 : decode cX6_leastOf 74 = .ok (.iload 4, 2) := by decide +kernel
theorem dX6_leastOf_76 : decode cX6_leastOf 76 = .ok (.goto 4, 3) := by decide +kernel
theorem dX6_leastOf_79 : decode cX6_leastOf 79 = .ok (.iload_n 2, 1) := by decide +kernel
theorem dX6_leastOf_80 : decode cX6_leastOf 80 = .ok (.istore_n 2, 1) := by decide +kernel
theorem dX6_leastOf_81 : decode cX6_leastOf 81 = .ok (.iinc 3 1, 3) := by decide +kernel
theorem dX6_leastOf_84 : decode cX6_leastOf 84 = .ok (.goto (-47), 3) := by decide +kernel
theorem dX6_leastOf_87 : decode cX6_leastOf 87 = .ok (.iload_n 2, 1) := by decide +kernel
theorem dX6_leastOf_88 : decode cX6_leastOf 88 = .ok (.ireturn, 1) := by decide +kernel
set_option maxRecDepth 20000 in
theorem ggX6_mostOf_X6_of : GoodIn wsX6_mostOf wsX6_of := goodIn_r _ [5, 6, 31, 32, 33, 34, 35, 36, 37, 38, 39, 40, 41, 42, 43, 44, 45, 46, 47, 48, 49, 50, 51, 52, 53, 54, 55, 56, 57, 58, 59, 60, 61, 62, 63, 64, 65, 66, 67, 68, 69, 70, 71, 72, 73, 74, 75, 76, 77, 78, 79, 80] (by decide +kernel) (by decide +kernel)
set_option maxRecDepth 20000 in
theorem gX6_mostOf_X6_of : GoodIn wsX6_mostOf (wsV RX6 153 RX6 yX6_of wsX6_of) := goodIn_app (goodIn_of _ (by decide +kernel)) ggX6_mostOf_X6_of
set_option maxRecDepth 20000 in
theorem ggX6_mostOf_X6_pointsNow : GoodIn wsX6_mostOf wsX6_pointsNow := goodIn_r _ [10, 1, 2, 3, 4, 5, 6, 11, 12, 13, 14, 15, 16, 17, 18, 19, 20, 21, 22, 23, 24, 25, 26, 27, 28, 29, 30, 31, 32, 33, 34, 35, 36, 37, 38, 39, 40, 41, 42, 43, 44, 45, 46, 47, 48, 49, 50, 51, 52, 53, 54, 55, 56, 57, 58, 59, 60, 61, 62, 63, 64, 65, 66, 67, 68, 69, 70, 71, 72, 73, 74, 75, 76, 77, 78, 79, 80] (by decide +kernel) (by decide +kernel)
set_option maxRecDepth 20000 in
theorem gX6_mostOf_X6_pointsNow : GoodIn wsX6_mostOf (wsV RX6 287 RX6 yX6_pointsNow wsX6_pointsNow) := goodIn_app (goodIn_of _ (by decide +kernel)) ggX6_mostOf_X6_pointsNow
theorem dX6_mostOf_0 : decode cX6_mostOf 0 = .ok (.aload_n 0, 1) := by decide +kernel
theorem dX6_mostOf_1 : decode cX6_mostOf 1 = .ok (.iload_n 1, 1) := by decide +kernel
theorem dX6_mostOf_2 : decode cX6_mostOf 2 = .ok (.iconst 5, 1) := by decide +kernel
theorem dX6_mostOf_3 : decode cX6_mostOf 3 = .ok (.invokevirtual 153, 3) := by decide +kernel
theorem dX6_mostOf_6 : decode cX6_mostOf 6 = .ok (.ifCond .eq 25, 3) := by decide +kernel
theorem dX6_mostOf_9 : decode cX6_mostOf 9 = .ok (.aload_n 0, 1) := by decide +kernel
theorem dX6_mostOf_10 : decode cX6_mostOf 10 = .ok (.iload_n 1, 1) := by decide +kernel
theorem dX6_mostOf_11 : decode cX6_mostOf 11 = .ok (.iconst 5, 1) := by decide +kernel
theorem dX6_mostOf_12 : decode cX6_mostOf 12 = .ok (.invokevirtual 153, 3) := by decide +kernel
theorem dX6_mostOf_15 : decode cX6_mostOf 15 = .ok (.iconst 1, 1) := by decide +kernel
theorem dX6_mostOf_16 : decode cX6_mostOf 16 = .ok (.if_icmp .ne 13, 3) := by decide +kernel
theorem dX6_mostOf_19 : decode cX6_mostOf 19 = .ok (.aload_n 0, 1) := by decide +kernel
theorem dX6_mostOf_20 : decode cX6_mostOf 20 = .ok (.iload_n 1, 1) := by decide +kernel
theorem dX6_mostOf_21 : decode cX6_mostOf 21 = .ok (.bipush 6, 2) := by decide +kernel
theorem dX6_mostOf_23 : decode cX6_mostOf 23 = .ok (.invokevirtual 153, 3) := by decide +kernel
theorem dX6_mostOf_26 : decode cX6_mostOf 26 = .ok (.goto 4, 3) := by decide +kernel
theorem dX6_mostOf_29 : decode cX6_mostOf 29 = .ok (.iconst 0, 1) := by decide +kernel
theorem dX6_mostOf_30 : decode cX6_mostOf 30 = .ok (.ireturn, 1) := by decide +kernel
theorem dX6_mostOf_31 : decode cX6_mostOf 31 = .ok (.iconst 0, 1) := by decide +kernel
theorem dX6_mostOf_32 : decode cX6_mostOf 32 = .ok (.istore_n 2, 1) := by decide +kernel
theorem dX6_mostOf_33 : decode cX6_mostOf 33 = .ok (.iconst 0, 1) := by decide +kernel
theorem dX6_mostOf_34 : decode cX6_mostOf 34 = .ok (.istore_n 3, 1) := by decide +kernel
theorem dX6_mostOf_35 : decode cX6_mostOf 35 = .ok (.iload_n 3, 1) := by decide +kernel
theorem dX6_mostOf_36 : decode cX6_mostOf 36 = .ok (.bipush 64, 2) := by decide +kernel
theorem dX6_mostOf_38 : decode cX6_mostOf 38 = .ok (.if_icmp .ge 47, 3) := by decide +kernel
theorem dX6_mostOf_41 : decode cX6_mostOf 41 = .ok (.iload_n 3, 1) := by decide +kernel
theorem dX6_mostOf_42 : decode cX6_mostOf 42 = .ok (.aload_n 0, 1) := by decide +kernel
theorem dX6_mostOf_43 : decode cX6_mostOf 43 = .ok (.iload_n 1, 1) := by decide +kernel
theorem dX6_mostOf_44 : decode cX6_mostOf 44 = .ok (.iconst 4, 1) := by decide +kernel
theorem dX6_mostOf_45 : decode cX6_mostOf 45 = .ok (.invokevirtual 153, 3) := by decide +kernel
theorem dX6_mostOf_48 : decode cX6_mostOf 48 = .ok (.iand, 1) := by decide +kernel
theorem dX6_mostOf_49 : decode cX6_mostOf 49 = .ok (.aload_n 0, 1) := by decide +kernel
theorem dX6_mostOf_50 : decode cX6_mostOf 50 = .ok (.iload_n 1, 1) := by decide +kernel
theorem dX6_mostOf_51 : decode cX6_mostOf 51 = .ok (.iconst 4, 1) := by decide +kernel
theorem dX6_mostOf_52 : decode cX6_mostOf 52 = .ok (.invokevirtual 153, 3) := by decide +kernel
theorem dX6_mostOf_55 : decode cX6_mostOf 55 = .ok (.if_icmp .ne 24, 3) := by decide +kernel
theorem dX6_mostOf_58 : decode cX6_mostOf 58 = .ok (.aload_n 0, 1) := by decide +kernel
theorem dX6_mostOf_59 : decode cX6_mostOf 59 = .ok (.iload_n 1, 1) := by decide +kernel
theorem dX6_mostOf_60 : decode cX6_mostOf 60 = .ok (.iload_n 3, 1) := by decide +kernel
theorem dX6_mostOf_61 : decode cX6_mostOf 61 = .ok (.invokevirtual 287, 3) := by decide +kernel
theorem dX6_mostOf_64 : decode cX6_mostOf 64 = .ok (.istore 4, 2) := by decide +kernel
theorem dX6_mostOf_66 : decode cX6_mostOf 66 = .ok (.iload 4, 2) := by decide +kernel
theorem dX6_mostOf_68 : decode cX6_mostOf 68 = .ok (.iload_n 2, 1) := by decide +kernel
theorem dX6_mostOf_69 : decode cX6_mostOf 69 = .ok (.if_icmp .le 8, 3) := by decide +kernel
theorem dX6_mostOf_72 : decode cX6_mostOf 72 = .ok (.iload 4, 2) := by decide +kernel
theorem dX6_mostOf_74 : decode cX6_mostOf 74 = .ok (.goto 4, 3) := by decide +kernel
theorem dX6_mostOf_77 : decode cX6_mostOf 77 = .ok (.iload_n 2, 1) := by decide +kernel
theorem dX6_mostOf_78 : decode cX6_mostOf 78 = .ok (.istore_n 2, 1) := by decide +kernel
theorem dX6_mostOf_79 : decode cX6_mostOf 79 = .ok (.iinc 3 1, 3) := by decide +kernel
theorem dX6_mostOf_82 : decode cX6_mostOf 82 = .ok (.goto (-47), 3) := by decide +kernel
theorem dX6_mostOf_85 : decode cX6_mostOf 85 = .ok (.iload_n 2, 1) := by decide +kernel
theorem dX6_mostOf_86 : decode cX6_mostOf 86 = .ok (.ireturn, 1) := by decide +kernel
set_option maxRecDepth 20000 in
theorem ggX6_all_X6_mostOf : GoodIn wsX6_all wsX6_mostOf := goodIn_r _ [6, 7, 8, 9, 5, 10, 11, 12, 13, 14, 15, 16, 17, 18, 19, 20, 21, 22, 23, 24, 25, 26, 27, 28, 29, 30, 31, 32, 33, 34, 35, 36, 37, 38, 39, 40, 41, 42, 43, 44, 45, 46, 47, 48, 49, 50, 51, 52, 53, 54, 55, 56, 57, 58, 59, 60, 61, 62, 63, 64, 65, 66, 67, 68, 69, 70, 71, 72, 73, 74, 75, 76, 77, 78, 79, 80, 81, 82, 83, 84, 85] (by decide +kernel) (by decide +kernel)
set_option maxRecDepth 20000 in
theorem gX6_all_X6_mostOf : GoodIn wsX6_all (wsV RX6 290 RX6 yX6_mostOf wsX6_mostOf) := goodIn_app (goodIn_of _ (by decide +kernel)) ggX6_all_X6_mostOf
theorem dX6_all_0 : decode cX6_all 0 = .ok (.lconst 0, 1) := by decide +kernel
theorem dX6_all_1 : decode cX6_all 1 = .ok (.lstore_n 1, 1) := by decide +kernel
theorem dX6_all_2 : decode cX6_all 2 = .ok (.iconst 0, 1) := by decide +kernel
theorem dX6_all_3 : decode cX6_all 3 = .ok (.istore_n 3, 1) := by decide +kernel
theorem dX6_all_4 : decode cX6_all 4 = .ok (.iload_n 3, 1) := by decide +kernel
theorem dX6_all_5 : decode cX6_all 5 = .ok (.aload_n 0, 1) := by decide +kernel
theorem dX6_all_6 : decode cX6_all 6 = .ok (.getfield 27, 3) := by decide +kernel
theorem dX6_all_9 : decode cX6_all 9 = .ok (.iconst 0, 1) := by decide +kernel
theorem dX6_all_10 : decode cX6_all 10 = .ok (.iaload, 1) := by decide +kernel
theorem dX6_all_11 : decode cX6_all 11 = .ok (.if_icmp .ge 18, 3) := by decide +kernel
theorem dX6_all_14 : decode cX6_all 14 = .ok (.lload_n 1, 1) := by decide +kernel
theorem dX6_all_15 : decode cX6_all 15 = .ok (.aload_n 0, 1) := by decide +kernel
theorem dX6_all_16 : decode cX6_all 16 = .ok (.iload_n 3, 1) := by decide +kernel
theorem dX6_all_17 : decode cX6_all 17 = .ok (.invokevirtual 290, 3) := by decide +kernel
theorem dX6_all_20 : decode cX6_all 20 = .ok (.i2l, 1) := by decide +kernel
theorem dX6_all_21 : decode cX6_all 21 = .ok (.ladd, 1) := by decide +kernel
theorem dX6_all_22 : decode cX6_all 22 = .ok (.lstore_n 1, 1) := by decide +kernel
theorem dX6_all_23 : decode cX6_all 23 = .ok (.iinc 3 1, 3) := by decide +kernel
theorem dX6_all_26 : decode cX6_all 26 = .ok (.goto (-22), 3) := by decide +kernel
theorem dX6_all_29 : decode cX6_all 29 = .ok (.lload_n 1, 1) := by decide +kernel
theorem dX6_all_30 : decode cX6_all 30 = .ok (.lreturn, 1) := by decide +kernel
set_option maxRecDepth 20000 in
theorem ggX6_worst_X6_leastOf : GoodIn wsX6_worst wsX6_leastOf := goodIn_r _ [6, 7, 8, 9, 10, 5, 11, 12, 13, 14, 15, 16, 17, 18, 19, 20, 21, 22, 23, 24, 25, 26, 27, 28, 29, 30, 31, 32, 33, 34, 35, 36, 37, 38, 39, 40, 41, 42, 43, 44, 45, 46, 47, 48, 49, 50, 51, 52, 53, 54, 55, 56, 57, 58, 59, 60, 61, 62, 63, 64, 65, 66, 67, 68, 69, 70, 71, 72, 73, 74, 75, 76, 77, 78, 79, 80, 81, 82, 83, 84, 85, 86] (by decide +kernel) (by decide +kernel)
set_option maxRecDepth 20000 in
theorem gX6_worst_X6_leastOf : GoodIn wsX6_worst (wsV RX6 293 RX6 yX6_leastOf wsX6_leastOf) := goodIn_app (goodIn_of _ (by decide +kernel)) ggX6_worst_X6_leastOf
theorem dX6_worst_0 : decode cX6_worst 0 = .ok (.lload_n 2, 1) := by decide +kernel
theorem dX6_worst_1 : decode cX6_worst 1 = .ok (.lconst 0, 1) := by decide +kernel
theorem dX6_worst_2 : decode cX6_worst 2 = .ok (.lcmp, 1) := by decide +kernel
theorem dX6_worst_3 : decode cX6_worst 3 = .ok (.ifCond .ne 7, 3) := by decide +kernel
theorem dX6_worst_6 : decode cX6_worst 6 = .ok (.lconst 0, 1) := by decide +kernel
theorem dX6_worst_7 : decode cX6_worst 7 = .ok (.goto 18, 3) := by decide +kernel
theorem dX6_worst_10 : decode cX6_worst 10 = .ok (.aload_n 0, 1) := by decide +kernel
theorem dX6_worst_11 : decode cX6_worst 11 = .ok (.getfield 23, 3) := by decide +kernel
theorem dX6_worst_14 : decode cX6_worst 14 = .ok (.iconst 0, 1) := by decide +kernel
theorem dX6_worst_15 : decode cX6_worst 15 = .ok (.laload, 1) := by decide +kernel
theorem dX6_worst_16 : decode cX6_worst 16 = .ok (.aload_n 0, 1) := by decide +kernel
theorem dX6_worst_17 : decode cX6_worst 17 = .ok (.iload_n 1, 1) := by decide +kernel
theorem dX6_worst_18 : decode cX6_worst 18 = .ok (.invokevirtual 293, 3) := by decide +kernel
theorem dX6_worst_21 : decode cX6_worst 21 = .ok (.i2l, 1) := by decide +kernel
theorem dX6_worst_22 : decode cX6_worst 22 = .ok (.lmul, 1) := by decide +kernel
theorem dX6_worst_23 : decode cX6_worst 23 = .ok (.lload_n 2, 1) := by decide +kernel
theorem dX6_worst_24 : decode cX6_worst 24 = .ok (.ldiv, 1) := by decide +kernel
theorem dX6_worst_25 : decode cX6_worst 25 = .ok (.lreturn, 1) := by decide +kernel
set_option maxRecDepth 20000 in
theorem ggX6_holds_X6_all : GoodIn wsX6_holds wsX6_all := goodIn_r _ [7, 1, 8, 9, 10, 6, 11, 12, 13, 14, 15, 16, 17, 18, 19, 20, 21, 22, 23, 24, 25, 26, 27, 28, 29, 30, 31, 32, 33, 34, 35, 36, 37, 38, 39, 40, 51, 52, 53, 54, 55, 56, 57, 58, 59, 60, 61, 62, 63, 64, 65, 66, 67, 68, 69, 70, 71, 72, 73, 74, 75, 76, 77, 78, 79, 80, 81, 82, 83, 84, 85, 86, 87, 88, 89, 90, 91, 92, 93, 94, 95, 96, 97, 98, 99, 100] (by decide +kernel) (by decide +kernel)
set_option maxRecDepth 20000 in
theorem gX6_holds_X6_all : GoodIn wsX6_holds (wsV RX6 296 RX6 yX6_all wsX6_all) := goodIn_app (goodIn_of _ (by decide +kernel)) ggX6_holds_X6_all
set_option maxRecDepth 20000 in
theorem ggX6_holds_X6_worst : GoodIn wsX6_holds wsX6_worst := goodIn_r _ [44, 45, 46, 47, 48, 6, 49, 50, 12, 13, 14, 15, 16, 17, 18, 19, 20, 21, 22, 23, 24, 25, 26, 27, 28, 29, 30, 31, 32, 33, 34, 35, 36, 37, 38, 39, 40, 51, 52, 53, 54, 55, 56, 57, 58, 59, 60, 61, 62, 63, 64, 65, 66, 67, 68, 69, 70, 71, 72, 73, 74, 75, 76, 77, 78, 79, 80, 81, 82, 83, 84, 85, 86, 87, 88, 89, 90, 91, 92, 93, 94, 95, 96, 97, 98, 99, 100] (by decide +kernel) (by decide +kernel)
set_option maxRecDepth 20000 in
theorem gX6_holds_X6_worst : GoodIn wsX6_holds (wsV RX6 299 RX6 yX6_worst wsX6_worst) := goodIn_app (goodIn_of _ (by decide +kernel)) ggX6_holds_X6_worst
theorem dX6_holds_0 : decode cX6_holds 0 = .ok (.aload_n 0, 1) := by decide +kernel
theorem dX6_holds_1 : decode cX6_holds 1 = .ok (.invokevirtual 296, 3) := by decide +kernel
theorem dX6_holds_4 : decode cX6_holds 4 = .ok (.lstore_n 1, 1) := by decide +kernel
theorem dX6_holds_5 : decode cX6_holds 5 = .ok (.iconst 0, 1) := by decide +kernel
theorem dX6_holds_6 : decode cX6_holds 6 = .ok (.istore_n 3, 1) := by decide +kernel
theorem dX6_holds_7 : decode cX6_holds 7 = .ok (.iload_n 3, 1) := by decide +kernel
theorem dX6_holds_8 : decode cX6_holds 8 = .ok (.aload_n 0, 1) := by decide +kernel
theorem dX6_holds_9 : decode cX6_holds 9 = .ok (.getfield 27, 3) := by decide +kernel
theorem dX6_holds_12 : decode cX6_holds 12 = .ok (.iconst 0, 1) := by decide +kernel
theorem dX6_holds_13 : decode cX6_holds 13 = .ok (.iaload, 1) := by decide +kernel
theorem dX6_holds_14 : decode cX6_holds 14 = .ok (.if_icmp .ge 38, 3) := by decide +kernel
theorem dX6_holds_17 : decode cX6_holds 17 = .ok (.aload_n 0, 1) := by decide +kernel
theorem dX6_holds_18 : decode cX6_holds 18 = .ok (.getfield 40, 3) := by decide +kernel
theorem dX6_holds_21 : decode cX6_holds 21 = .ok (.iload_n 3, 1) := by decide +kernel
theorem dX6_holds_22 : decode cX6_holds 22 = .ok (.laload, 1) := by decide +kernel
theorem dX6_holds_23 : decode cX6_holds 23 = .ok (.lconst 0, 1) := by decide +kernel
theorem dX6_holds_24 : decode cX6_holds 24 = .ok (.lcmp, 1) := by decide +kernel
theorem dX6_holds_25 : decode cX6_holds 25 = .ok (.ifCond .le 21, 3) := by decide +kernel
theorem dX6_holds_28 : decode cX6_holds 28 = .ok (.aload_n 0, 1) := by decide +kernel
theorem dX6_holds_29 : decode cX6_holds 29 = .ok (.getfield 40, 3) := by decide +kernel
theorem dX6_holds_32 : decode cX6_holds 32 = .ok (.iload_n 3, 1) := by decide +kernel
theorem dX6_holds_33 : decode cX6_holds 33 = .ok (.laload, 1) := by decide +kernel
theorem dX6_holds_34 : decode cX6_holds 34 = .ok (.aload_n 0, 1) := by decide +kernel
theorem dX6_holds_35 : decode cX6_holds 35 = .ok (.iload_n 3, 1) := by decide +kernel
theorem dX6_holds_36 : decode cX6_holds 36 = .ok (.lload_n 1, 1) := by decide +kernel
theorem dX6_holds_37 : decode cX6_holds 37 = .ok (.invokevirtual 299, 3) := by decide +kernel
theorem dX6_holds_40 : decode cX6_holds 40 = .ok (.lcmp, 1) := by decide +kernel
theorem dX6_holds_41 : decode cX6_holds 41 = .ok (.ifCond .le 5, 3) := by decide +kernel
theorem dX6_holds_44 : decode cX6_holds 44 = .ok (.iconst 0, 1) := by decide +kernel
theorem dX6_holds_45 : decode cX6_holds 45 = .ok (.ireturn, 1) := by decide +kernel
theorem dX6_holds_46 : decode cX6_holds 46 = .ok (.iinc 3 1, 3) := by decide +kernel
theorem dX6_holds_49 : decode cX6_holds 49 = .ok (.goto (-42), 3) := by decide +kernel
theorem dX6_holds_52 : decode cX6_holds 52 = .ok (.iconst 1, 1) := by decide +kernel
theorem dX6_holds_53 : decode cX6_holds 53 = .ok (.ireturn, 1) := by decide +kernel
set_option maxRecDepth 20000 in
theorem ggX6_canBe_X6_in : GoodIn wsX6_canBe wsX6_in := goodIn_r _ [4] (by decide +kernel) (by decide +kernel)
set_option maxRecDepth 20000 in
theorem gX6_canBe_X6_in : GoodIn wsX6_canBe (va_wsS RX6 145 yX6_in wsX6_in) := goodIn_app (goodIn_of _ (by decide +kernel)) ggX6_canBe_X6_in
theorem dX6_canBe_0 : decode cX6_canBe 0 = .ok (.iload_n 0, 1) := by decide +kernel
theorem dX6_canBe_1 : decode cX6_canBe 1 = .ok (.iconst 0, 1) := by decide +kernel
theorem dX6_canBe_2 : decode cX6_canBe 2 = .ok (.iconst 3, 1) := by decide +kernel
theorem dX6_canBe_3 : decode cX6_canBe 3 = .ok (.invokestatic 145, 3) := by decide +kernel
theorem dX6_canBe_6 : decode cX6_canBe 6 = .ok (.ifCond .eq 38, 3) := by decide +kernel
theorem dX6_canBe_9 : decode cX6_canBe 9 = .ok (.iload_n 1, 1) := by decide +kernel
theorem dX6_canBe_10 : decode cX6_canBe 10 = .ok (.iconst 0, 1) := by decide +kernel
theorem dX6_canBe_11 : decode cX6_canBe 11 = .ok (.bipush 60, 2) := by decide +kernel
theorem dX6_canBe_13 : decode cX6_canBe 13 = .ok (.invokestatic 145, 3) := by decide +kernel
theorem dX6_canBe_16 : decode cX6_canBe 16 = .ok (.ifCond .eq 28, 3) := by decide +kernel
theorem dX6_canBe_19 : decode cX6_canBe 19 = .ok (.iload_n 2, 1) := by decide +kernel
theorem dX6_canBe_20 : decode cX6_canBe 20 = .ok (.iconst 0, 1) := by decide +kernel
theorem dX6_canBe_21 : decode cX6_canBe 21 = .ok (.sipush 999, 3) := by decide +kernel
theorem dX6_canBe_24 : decode cX6_canBe 24 = .ok (.invokestatic 145, 3) := by decide +kernel
theorem dX6_canBe_27 : decode cX6_canBe 27 = .ok (.ifCond .eq 17, 3) := by decide +kernel
theorem dX6_canBe_30 : decode cX6_canBe 30 = .ok (.iload_n 3, 1) := by decide +kernel
theorem dX6_canBe_31 : decode cX6_canBe 31 = .ok (.iconst 0, 1) := by decide +kernel
theorem dX6_canBe_32 : decode cX6_canBe 32 = .ok (.bipush 63, 2) := by decide +kernel
theorem dX6_canBe_34 : decode cX6_canBe 34 = .ok (.invokestatic 145, 3) := by decide +kernel
theorem dX6_canBe_37 : decode cX6_canBe 37 = .ok (.ifCond .eq 7, 3) := by decide +kernel
theorem dX6_canBe_40 : decode cX6_canBe 40 = .ok (.iconst 1, 1) := by decide +kernel
theorem dX6_canBe_41 : decode cX6_canBe 41 = .ok (.goto 4, 3) := by decide +kernel
theorem dX6_canBe_44 : decode cX6_canBe 44 = .ok (.iconst 0, 1) := by decide +kernel
theorem dX6_canBe_45 : decode cX6_canBe 45 = .ok (.ireturn, 1) := by decide +kernel
set_option maxRecDepth 20000 in
theorem ggX6_claim_X6_in : GoodIn wsX6_claim wsX6_in := goodIn_r _ [11] (by decide +kernel) (by decide +kernel)
set_option maxRecDepth 20000 in
theorem gX6_claim_X6_in : GoodIn wsX6_claim (va_wsS RX6 145 yX6_in wsX6_in) := goodIn_app (goodIn_of _ (by decide +kernel)) ggX6_claim_X6_in
set_option maxRecDepth 20000 in
theorem ggX6_claim_X6_canBe : GoodIn wsX6_claim wsX6_canBe := goodIn_r _ [14, 8, 9, 10, 11] (by decide +kernel) (by decide +kernel)
set_option maxRecDepth 20000 in
theorem gX6_claim_X6_canBe : GoodIn wsX6_claim (va_wsS RX6 303 yX6_canBe wsX6_canBe) := goodIn_app (goodIn_of _ (by decide +kernel)) ggX6_claim_X6_canBe
set_option maxRecDepth 20000 in
theorem ggX6_claim_X6_holds : GoodIn wsX6_claim wsX6_holds := goodIn_r _ [18, 2, 5, 19, 20, 21, 10, 22, 23, 24, 25, 26, 27, 28, 29, 30, 4, 31, 32, 33, 34, 35, 36, 37, 38, 39, 40, 41, 42, 43, 44, 45, 46, 47, 48, 49, 50, 51, 52, 53, 54, 55, 56, 57, 58, 59, 60, 61, 62, 63, 64, 65, 66, 67, 68, 69, 70, 71, 72, 73, 74, 75, 76, 77, 78, 79, 80, 81, 82, 83, 84, 85, 86, 87, 88, 89, 90, 91, 92, 93, 94, 95, 96, 97, 98, 99, 100, 101, 102, 103, 104, 105, 106, 107, 108, 109, 110, 111, 112, 113, 114] (by decide +kernel) (by decide +kernel)
set_option maxRecDepth 20000 in
theorem gX6_claim_X6_holds : GoodIn wsX6_claim (wsV RX6 261 RX6 yX6_holds wsX6_holds) := goodIn_app (goodIn_of _ (by decide +kernel)) ggX6_claim_X6_holds
theorem dX6_claim_0 : decode cX6_claim 0 = .ok (.aload_n 0, 1) := by decide +kernel
theorem dX6_claim_1 : decode cX6_claim 1 = .ok (.iconst 0, 1) := by decide +kernel
theorem dX6_claim_2 : decode cX6_claim 2 = .ok (.putfield 129, 3) := by decide +kernel
theorem dX6_claim_5 : decode cX6_claim 5 = .ok (.aload_n 0, 1) := by decide +kernel
theorem dX6_claim_6 : decode cX6_claim 6 = .ok (.getfield 27, 3) := by decide +kernel
theorem dX6_claim_9 : decode cX6_claim 9 = .ok (.iconst 0, 1) := by decide +kernel
theorem dX6_claim_10 : decode cX6_claim 10 = .ok (.iaload, 1) := by decide +kernel
theorem dX6_claim_11 : decode cX6_claim 11 = .ok (.bipush 16, 2) := by decide +kernel
theorem dX6_claim_13 : decode cX6_claim 13 = .ok (.if_icmp .eq 34, 3) := by decide +kernel
theorem dX6_claim_16 : decode cX6_claim 16 = .ok (.iload_n 1, 1) := by decide +kernel
theorem dX6_claim_17 : decode cX6_claim 17 = .ok (.iconst 0, 1) := by decide +kernel
theorem dX6_claim_18 : decode cX6_claim 18 = .ok (.bipush 99, 2) := by decide +kernel
theorem dX6_claim_20 : decode cX6_claim 20 = .ok (.invokestatic 145, 3) := by decide +kernel
theorem dX6_claim_23 : decode cX6_claim 23 = .ok (.ifCond .eq 24, 3) := by decide +kernel
theorem dX6_claim_26 : decode cX6_claim 26 = .ok (.iload_n 2, 1) := by decide +kernel
theorem dX6_claim_27 : decode cX6_claim 27 = .ok (.iload_n 3, 1) := by decide +kernel
theorem dX6_claim_28 : decode cX6_claim 28 = .ok (.iload 4, 2) := by decide +kernel
theorem dX6_claim_30 : decode cX6_claim 30 = .ok (.iload 5, 2) := by decide +kernel
theorem dX6_claim_32 : decode cX6_claim 32 = .ok (.invokestatic 303, 3) := by decide +kernel
theorem dX6_claim_35 : decode cX6_claim 35 = .ok (.ifCond .eq 12, 3) := by decide +kernel
theorem dX6_claim_38 : decode cX6_claim 38 = .ok (.aload_n 0, 1) := by decide +kernel
theorem dX6_claim_39 : decode cX6_claim 39 = .ok (.getfield 33, 3) := by decide +kernel
theorem dX6_claim_42 : decode cX6_claim 42 = .ok (.iconst 0, 1) := by decide +kernel
theorem dX6_claim_43 : decode cX6_claim 43 = .ok (.baload, 1) := by decide +kernel
theorem dX6_claim_44 : decode cX6_claim 44 = .ok (.ifCond .eq 5, 3) := by decide +kernel
theorem dX6_claim_47 : decode cX6_claim 47 = .ok (.iconst (-1), 1) := by decide +kernel
theorem dX6_claim_48 : decode cX6_claim 48 = .ok (.ireturn, 1) := by decide +kernel
theorem dX6_claim_49 : decode cX6_claim 49 = .ok (.aload_n 0, 1) := by decide +kernel
theorem dX6_claim_50 : decode cX6_claim 50 = .ok (.getfield 27, 3) := by decide +kernel
theorem dX6_claim_53 : decode cX6_claim 53 = .ok (.iconst 0, 1) := by decide +kernel
theorem dX6_claim_54 : decode cX6_claim 54 = .ok (.iaload, 1) := by decide +kernel
theorem dX6_claim_55 : decode cX6_claim 55 = .ok (.istore 6, 2) := by decide +kernel
theorem dX6_claim_57 : decode cX6_claim 57 = .ok (.aload_n 0, 1) := by decide +kernel
theorem dX6_claim_58 : decode cX6_claim 58 = .ok (.getfield 37, 3) := by decide +kernel
theorem dX6_claim_61 : decode cX6_claim 61 = .ok (.bipush 10, 2) := by decide +kernel
theorem dX6_claim_63 : decode cX6_claim 63 = .ok (.iload 6, 2) := by decide +kernel
theorem dX6_claim_65 : decode cX6_claim 65 = .ok (.imul, 1) := by decide +kernel
theorem dX6_claim_66 : decode cX6_claim 66 = .ok (.iload_n 1, 1) := by decide +kernel
theorem dX6_claim_67 : decode cX6_claim 67 = .ok (.iastore, 1) := by decide +kernel
theorem dX6_claim_68 : decode cX6_claim 68 = .ok (.aload_n 0, 1) := by decide +kernel
theorem dX6_claim_69 : decode cX6_claim 69 = .ok (.getfield 37, 3) := by decide +kernel
theorem dX6_claim_72 : decode cX6_claim 72 = .ok (.bipush 10, 2) := by decide +kernel
theorem dX6_claim_74 : decode cX6_claim 74 = .ok (.iload 6, 2) := by decide +kernel
theorem dX6_claim_76 : decode cX6_claim 76 = .ok (.imul, 1) := by decide +kernel
theorem dX6_claim_77 : decode cX6_claim 77 = .ok (.iconst 1, 1) := by decide +kernel
theorem dX6_claim_78 : decode cX6_claim 78 = .ok (.iadd, 1) := by decide +kernel
theorem dX6_claim_79 : decode cX6_claim 79 = .ok (.iload_n 2, 1) := by decide +kernel
theorem dX6_claim_80 : decode cX6_claim 80 = .ok (.iastore, 1) := by decide +kernel
theorem dX6_claim_81 : decode cX6_claim 81 = .ok (.aload_n 0, 1) := by decide +kernel
theorem dX6_claim_82 : decode cX6_claim 82 = .ok (.getfield 37, 3) := by decide +kernel
theorem dX6_claim_85 : decode cX6_claim 85 = .ok (.bipush 10, 2) := by decide +kernel
theorem dX6_claim_87 : decode cX6_claim 87 = .ok (.iload 6, 2) := by decide +kernel
theorem dX6_claim_89 : decode cX6_claim 89 = .ok (.imul, 1) := by decide +kernel
theorem dX6_claim_90 : decode cX6_claim 90 = .ok (.iconst 2, 1) := by decide +kernel
theorem dX6_claim_91 : decode cX6_claim 91 = .ok (.iadd, 1) := by decide +kernel
theorem dX6_claim_92 : decode cX6_claim 92 = .ok (.iload_n 3, 1) := by decide +kernel
theorem dX6_claim_93 : decode cX6_claim 93 = .ok (.iastore, 1) := by decide +kernel
theorem dX6_claim_94 : decode cX6_claim 94 = .ok (.aload_n 0, 1) := by decide +kernel
theorem dX6_claim_95 : decode cX6_claim 95 = .ok (.getfield 37, 3) := by decide +kernel
theorem dX6_claim_98 : decode cX6_claim 98 = .ok (.bipush 10, 2) := by decide +kernel
theorem dX6_claim_100 : decode cX6_claim 100 = .ok (.iload 6, 2) := by decide +kernel
theorem dX6_claim_102 : decode cX6_claim 102 = .ok (.imul, 1) := by decide +kernel
theorem dX6_claim_103 : decode cX6_claim 103 = .ok (.iconst 3, 1) := by decide +kernel
theorem dX6_claim_104 : decode cX6_claim 104 = .ok (.iadd, 1) := by decide +kernel
theorem dX6_claim_105 : decode cX6_claim 105 = .ok (.iload 4, 2) := by decide +kernel
theorem dX6_claim_107 : decode cX6_claim 107 = .ok (.iastore, 1) := by decide +kernel
theorem dX6_claim_108 : decode cX6_claim 108 = .ok (.aload_n 0, 1) := by decide +kernel
theorem dX6_claim_109 : decode cX6_claim 109 = .ok (.getfield 37, 3) := by decide +kernel
theorem dX6_claim_112 : decode cX6_claim 112 = .ok (.bipush 10, 2) := by decide +kernel
theorem dX6_claim_114 : decode cX6_claim 114 = .ok (.iload 6, 2) := by decide +kernel
theorem dX6_claim_116 : decode cX6_claim 116 = .ok (.imul, 1) := by decide +kernel
theorem dX6_claim_117 : decode cX6_claim 117 = .ok (.iconst 4, 1) := by decide +kernel
theorem dX6_claim_118 : decode cX6_claim 118 = .ok (.iadd, 1) := by decide +kernel
theorem dX6_claim_119 : decode cX6_claim 119 = .ok (.iload 5, 2) := by decide +kernel
theorem dX6_claim_121 : decode cX6_claim 121 = .ok (.iastore, 1) := by decide +kernel
theorem dX6_claim_122 : decode cX6_claim 122 = .ok (.iconst 5, 1) := by decide +kernel
theorem dX6_claim_123 : decode cX6_claim 123 = .ok (.istore 7, 2) := by decide +kernel
theorem dX6_claim_125 : decode cX6_claim 125 = .ok (.iload 7, 2) := by decide +kernel
theorem dX6_claim_127 : decode cX6_claim 127 = .ok (.bipush 10, 2) := by decide +kernel
theorem dX6_claim_129 : decode cX6_claim 129 = .ok (.if_icmp .ge 23, 3) := by decide +kernel
theorem dX6_claim_132 : decode cX6_claim 132 = .ok (.aload_n 0, 1) := by decide +kernel
theorem dX6_claim_133 : decode cX6_claim 133 = .ok (.getfield 37, 3) := by decide +kernel
theorem dX6_claim_136 : decode cX6_claim 136 = .ok (.bipush 10, 2) := by decide +kernel
theorem dX6_claim_138 : decode cX6_claim 138 = .ok (.iload 6, 2) := by decide +kernel
theorem dX6_claim_140 : decode cX6_claim 140 = .ok (.imul, 1) := by decide +kernel
theorem dX6_claim_141 : decode cX6_claim 141 = .ok (.iload 7, 2) := by decide +kernel
theorem dX6_claim_143 : decode cX6_claim 143 = .ok (.iadd, 1) := by decide +kernel
theorem dX6_claim_144 : decode cX6_claim 144 = .ok (.iconst 0, 1) := by decide +kernel
theorem dX6_claim_145 : decode cX6_claim 145 = .ok (.iastore, 1) := by decide +kernel
theorem dX6_claim_146 : decode cX6_claim 146 = .ok (.iinc 7 1, 3) := by decide +kernel
theorem dX6_claim_149 : decode cX6_claim 149 = .ok (.goto (-24), 3) := by decide +kernel
theorem dX6_claim_152 : decode cX6_claim 152 = .ok (.aload_n 0, 1) := by decide +kernel
theorem dX6_claim_153 : decode cX6_claim 153 = .ok (.getfield 40, 3) := by decide +kernel
theorem dX6_claim_156 : decode cX6_claim 156 = .ok (.iload 6, 2) := by decide +kernel
theorem dX6_claim_158 : decode cX6_claim 158 = .ok (.lconst 0, 1) := by decide +kernel
theorem dX6_claim_159 : decode cX6_claim 159 = .ok (.lastore, 1) := by decide +kernel
theorem dX6_claim_160 : decode cX6_claim 160 = .ok (.aload_n 0, 1) := by decide +kernel
theorem dX6_claim_161 : decode cX6_claim 161 = .ok (.getfield 43, 3) := by decide +kernel
theorem dX6_claim_164 : decode cX6_claim 164 = .ok (.iload 6, 2) := by decide +kernel
theorem dX6_claim_166 : decode cX6_claim 166 = .ok (.lconst 0, 1) := by decide +kernel
theorem dX6_claim_167 : decode cX6_claim 167 = .ok (.lastore, 1) := by decide +kernel
theorem dX6_claim_168 : decode cX6_claim 168 = .ok (.aload_n 0, 1) := by decide +kernel
theorem dX6_claim_169 : decode cX6_claim 169 = .ok (.getfield 46, 3) := by decide +kernel
theorem dX6_claim_172 : decode cX6_claim 172 = .ok (.iload 6, 2) := by decide +kernel
theorem dX6_claim_174 : decode cX6_claim 174 = .ok (.lconst 0, 1) := by decide +kernel
theorem dX6_claim_175 : decode cX6_claim 175 = .ok (.lastore, 1) := by decide +kernel
theorem dX6_claim_176 : decode cX6_claim 176 = .ok (.aload_n 0, 1) := by decide +kernel
theorem dX6_claim_177 : decode cX6_claim 177 = .ok (.getfield 27, 3) := by decide +kernel
theorem dX6_claim_180 : decode cX6_claim 180 = .ok (.iconst 0, 1) := by decide +kernel
theorem dX6_claim_181 : decode cX6_claim 181 = .ok (.dup2, 1) := by decide +kernel
theorem dX6_claim_182 : decode cX6_claim 182 = .ok (.iaload, 1) := by decide +kernel
theorem dX6_claim_183 : decode cX6_claim 183 = .ok (.iconst 1, 1) := by decide +kernel
theorem dX6_claim_184 : decode cX6_claim 184 = .ok (.iadd, 1) := by decide +kernel
theorem dX6_claim_185 : decode cX6_claim 185 = .ok (.iastore, 1) := by decide +kernel
theorem dX6_claim_186 : decode cX6_claim 186 = .ok (.aload_n 0, 1) := by decide +kernel
theorem dX6_claim_187 : decode cX6_claim 187 = .ok (.invokevirtual 261, 3) := by decide +kernel
theorem dX6_claim_190 : decode cX6_claim 190 = .ok (.ifCond .ne 15, 3) := by decide +kernel
theorem dX6_claim_193 : decode cX6_claim 193 = .ok (.aload_n 0, 1) := by decide +kernel
theorem dX6_claim_194 : decode cX6_claim 194 = .ok (.getfield 27, 3) := by decide +kernel
theorem dX6_claim_197 : decode cX6_claim 197 = .ok (.iconst 0, 1) := by decide +kernel
theorem dX6_claim_198 : decode cX6_claim 198 = .ok (.dup2, 1) := by decide +kernel
theorem dX6_claim_199 : decode cX6_claim 199 = .ok (.iaload, 1) := by decide +kernel
theorem dX6_claim_200 : decode cX6_claim 200 = .ok (.iconst 1, 1) := by decide +kernel
theorem dX6_claim_201 : decode cX6_claim 201 = .ok (.isub, 1) := by decide +kernel
theorem dX6_claim_202 : decode cX6_claim 202 = .ok (.iastore, 1) := by decide +kernel
theorem dX6_claim_203 : decode cX6_claim 203 = .ok (.iconst (-1), 1) := by decide +kernel
theorem dX6_claim_204 : decode cX6_claim 204 = .ok (.ireturn, 1) := by decide +kernel
theorem dX6_claim_205 : decode cX6_claim 205 = .ok (.iload 6, 2) := by decide +kernel
theorem dX6_claim_207 : decode cX6_claim 207 = .ok (.ireturn, 1) := by decide +kernel
set_option maxRecDepth 20000 in
theorem ggX6_paper_X6_is : GoodIn wsX6_paper wsX6_is := goodIn_r _ [8, 9, 10, 11, 7, 12, 13, 14, 15, 16, 17, 18, 19, 20, 3, 21, 22, 23, 24, 25, 26, 27, 28, 29, 30, 31, 32, 33, 34, 35, 36, 37, 38, 39, 40, 41, 42, 43, 44, 45, 46, 47, 48, 49, 50, 51, 52, 53, 54, 55, 56, 57, 58, 59, 60, 61, 62, 63, 64, 65, 66, 67, 68, 69, 70] (by decide +kernel) (by decide +kernel)
set_option maxRecDepth 20000 in
theorem gX6_paper_X6_is : GoodIn wsX6_paper (wsV RX6 307 RX6 yX6_is wsX6_is) := goodIn_app (goodIn_of _ (by decide +kernel)) ggX6_paper_X6_is
set_option maxRecDepth 20000 in
theorem ggX6_paper_X6_in : GoodIn wsX6_paper wsX6_in := goodIn_r _ [16] (by decide +kernel) (by decide +kernel)
set_option maxRecDepth 20000 in
theorem gX6_paper_X6_in : GoodIn wsX6_paper (va_wsS RX6 145 yX6_in wsX6_in) := goodIn_app (goodIn_of _ (by decide +kernel)) ggX6_paper_X6_in
set_option maxRecDepth 20000 in
theorem ggX6_paper_X6_of : GoodIn wsX6_paper wsX6_of := goodIn_r _ [20, 3, 21, 22, 23, 24, 25, 26, 27, 28, 29, 30, 31, 32, 33, 34, 35, 36, 37, 38, 39, 40, 41, 42, 43, 44, 45, 46, 47, 48, 49, 50, 51, 52, 53, 54, 55, 56, 57, 58, 59, 60, 61, 62, 63, 64, 65, 66, 67, 68, 69, 70] (by decide +kernel) (by decide +kernel)
set_option maxRecDepth 20000 in
theorem gX6_paper_X6_of : GoodIn wsX6_paper (wsV RX6 153 RX6 yX6_of wsX6_of) := goodIn_app (goodIn_of _ (by decide +kernel)) ggX6_paper_X6_of
theorem dX6_paper_0 : decode cX6_paper 0 = .ok (.aload_n 0, 1) := by decide +kernel
theorem dX6_paper_1 : decode cX6_paper 1 = .ok (.iconst 0, 1) := by decide +kernel
theorem dX6_paper_2 : decode cX6_paper 2 = .ok (.putfield 129, 3) := by decide +kernel
theorem dX6_paper_5 : decode cX6_paper 5 = .ok (.aload_n 0, 1) := by decide +kernel
theorem dX6_paper_6 : decode cX6_paper 6 = .ok (.iload_n 1, 1) := by decide +kernel
theorem dX6_paper_7 : decode cX6_paper 7 = .ok (.iconst 0, 1) := by decide +kernel
theorem dX6_paper_8 : decode cX6_paper 8 = .ok (.invokevirtual 307, 3) := by decide +kernel
theorem dX6_paper_11 : decode cX6_paper 11 = .ok (.ifCond .eq 34, 3) := by decide +kernel
theorem dX6_paper_14 : decode cX6_paper 14 = .ok (.iload_n 2, 1) := by decide +kernel
theorem dX6_paper_15 : decode cX6_paper 15 = .ok (.iconst 0, 1) := by decide +kernel
theorem dX6_paper_16 : decode cX6_paper 16 = .ok (.iconst 5, 1) := by decide +kernel
theorem dX6_paper_17 : decode cX6_paper 17 = .ok (.invokestatic 145, 3) := by decide +kernel
theorem dX6_paper_20 : decode cX6_paper 20 = .ok (.ifCond .eq 25, 3) := by decide +kernel
theorem dX6_paper_23 : decode cX6_paper 23 = .ok (.aload_n 0, 1) := by decide +kernel
theorem dX6_paper_24 : decode cX6_paper 24 = .ok (.iload_n 1, 1) := by decide +kernel
theorem dX6_paper_25 : decode cX6_paper 25 = .ok (.iconst 4, 1) := by decide +kernel
theorem dX6_paper_26 : decode cX6_paper 26 = .ok (.invokevirtual 153, 3) := by decide +kernel
theorem dX6_paper_29 : decode cX6_paper 29 = .ok (.iload_n 2, 1) := by decide +kernel
theorem dX6_paper_30 : decode cX6_paper 30 = .ok (.ishr, 1) := by decide +kernel
theorem dX6_paper_31 : decode cX6_paper 31 = .ok (.iconst 1, 1) := by decide +kernel
theorem dX6_paper_32 : decode cX6_paper 32 = .ok (.iand, 1) := by decide +kernel
theorem dX6_paper_33 : decode cX6_paper 33 = .ok (.ifCond .ne 12, 3) := by decide +kernel
theorem dX6_paper_36 : decode cX6_paper 36 = .ok (.aload_n 0, 1) := by decide +kernel
theorem dX6_paper_37 : decode cX6_paper 37 = .ok (.getfield 33, 3) := by decide +kernel
theorem dX6_paper_40 : decode cX6_paper 40 = .ok (.iconst 0, 1) := by decide +kernel
theorem dX6_paper_41 : decode cX6_paper 41 = .ok (.baload, 1) := by decide +kernel
theorem dX6_paper_42 : decode cX6_paper 42 = .ok (.ifCond .eq 5, 3) := by decide +kernel
theorem dX6_paper_45 : decode cX6_paper 45 = .ok (.iconst 0, 1) := by decide +kernel
theorem dX6_paper_46 : decode cX6_paper 46 = .ok (.ireturn, 1) := by decide +kernel
theorem dX6_paper_47 : decode cX6_paper 47 = .ok (.aload_n 0, 1) := by decide +kernel
theorem dX6_paper_48 : decode cX6_paper 48 = .ok (.getfield 37, 3) := by decide +kernel
theorem dX6_paper_51 : decode cX6_paper 51 = .ok (.bipush 10, 2) := by decide +kernel
theorem dX6_paper_53 : decode cX6_paper 53 = .ok (.iload_n 1, 1) := by decide +kernel
theorem dX6_paper_54 : decode cX6_paper 54 = .ok (.imul, 1) := by decide +kernel
theorem dX6_paper_55 : decode cX6_paper 55 = .ok (.iconst 4, 1) := by decide +kernel
theorem dX6_paper_56 : decode cX6_paper 56 = .ok (.iadd, 1) := by decide +kernel
theorem dX6_paper_57 : decode cX6_paper 57 = .ok (.dup2, 1) := by decide +kernel
theorem dX6_paper_58 : decode cX6_paper 58 = .ok (.iaload, 1) := by decide +kernel
theorem dX6_paper_59 : decode cX6_paper 59 = .ok (.iconst 1, 1) := by decide +kernel
theorem dX6_paper_60 : decode cX6_paper 60 = .ok (.iload_n 2, 1) := by decide +kernel
theorem dX6_paper_61 : decode cX6_paper 61 = .ok (.ishl, 1) := by decide +kernel
theorem dX6_paper_62 : decode cX6_paper 62 = .ok (.ior, 1) := by decide +kernel
theorem dX6_paper_63 : decode cX6_paper 63 = .ok (.iastore, 1) := by decide +kernel
theorem dX6_paper_64 : decode cX6_paper 64 = .ok (.iconst 1, 1) := by decide +kernel
theorem dX6_paper_65 : decode cX6_paper 65 = .ok (.ireturn, 1) := by decide +kernel
set_option maxRecDepth 20000 in
theorem ggX6_twins_X6_of : GoodIn wsX6_twins wsX6_of := goodIn_r _ [6, 7, 8, 9, 10, 11, 12, 13, 14, 15, 16, 17, 18, 19, 20, 21, 22, 23, 24, 25, 26, 27, 28, 29, 30, 31, 32, 33, 34, 35, 36, 37, 38, 39, 40, 41, 42, 43, 44, 45, 46, 47, 48, 49, 50, 51, 52, 53, 54, 55, 56, 57] (by decide +kernel) (by decide +kernel)
set_option maxRecDepth 20000 in
theorem gX6_twins_X6_of : GoodIn wsX6_twins (wsV RX6 153 RX6 yX6_of wsX6_of) := goodIn_app (goodIn_of _ (by decide +kernel)) ggX6_twins_X6_of
theorem dX6_twins_0 : decode cX6_twins 0 = .ok (.iconst 0, 1) := by decide +kernel
theorem dX6_twins_1 : decode cX6_twins 1 = .ok (.istore_n 3, 1) := by decide +kernel
theorem dX6_twins_2 : decode cX6_twins 2 = .ok (.iconst 0, 1) := by decide +kernel
theorem dX6_twins_3 : decode cX6_twins 3 = .ok (.istore 4, 2) := by decide +kernel
theorem dX6_twins_5 : decode cX6_twins 5 = .ok (.iload 4, 2) := by decide +kernel
theorem dX6_twins_7 : decode cX6_twins 7 = .ok (.aload_n 0, 1) := by decide +kernel
theorem dX6_twins_8 : decode cX6_twins 8 = .ok (.getfield 27, 3) := by decide +kernel
theorem dX6_twins_11 : decode cX6_twins 11 = .ok (.iconst 0, 1) := by decide +kernel
theorem dX6_twins_12 : decode cX6_twins 12 = .ok (.iaload, 1) := by decide +kernel
theorem dX6_twins_13 : decode cX6_twins 13 = .ok (.if_icmp .ge 69, 3) := by decide +kernel
theorem dX6_twins_16 : decode cX6_twins 16 = .ok (.iload_n 3, 1) := by decide +kernel
theorem dX6_twins_17 : decode cX6_twins 17 = .ok (.iload 4, 2) := by decide +kernel
theorem dX6_twins_19 : decode cX6_twins 19 = .ok (.iload_n 1, 1) := by decide +kernel
theorem dX6_twins_20 : decode cX6_twins 20 = .ok (.if_icmp .eq 53, 3) := by decide +kernel
theorem dX6_twins_23 : decode cX6_twins 23 = .ok (.aload_n 0, 1) := by decide +kernel
theorem dX6_twins_24 : decode cX6_twins 24 = .ok (.iload 4, 2) := by decide +kernel
theorem dX6_twins_26 : decode cX6_twins 26 = .ok (.iconst 0, 1) := by decide +kernel
theorem dX6_twins_27 : decode cX6_twins 27 = .ok (.invokevirtual 153, 3) := by decide +kernel
theorem dX6_twins_30 : decode cX6_twins 30 = .ok (.aload_n 0, 1) := by decide +kernel
theorem dX6_twins_31 : decode cX6_twins 31 = .ok (.iload_n 1, 1) := by decide +kernel
theorem dX6_twins_32 : decode cX6_twins 32 = .ok (.iconst 0, 1) := by decide +kernel
theorem dX6_twins_33 : decode cX6_twins 33 = .ok (.invokevirtual 153, 3) := by decide +kernel
theorem dX6_twins_36 : decode cX6_twins 36 = .ok (.if_icmp .ne 37, 3) := by decide +kernel
theorem dX6_twins_39 : decode cX6_twins 39 = .ok (.iload_n 2, 1) := by decide +kernel
theorem dX6_twins_40 : decode cX6_twins 40 = .ok (.iconst (-1), 1) := by decide +kernel
theorem dX6_twins_41 : decode cX6_twins 41 = .ok (.if_icmp .ne 17, 3) := by decide +kernel
theorem dX6_twins_44 : decode cX6_twins 44 = .ok (.aload_n 0, 1) := by decide +kernel
theorem dX6_twins_45 : decode cX6_twins 45 = .ok (.iload 4, 2) := by decide +kernel
theorem dX6_twins_47 : decode cX6_twins 47 = .ok (.iconst 5, 1) := by decide +kernel
theorem dX6_twins_48 : decode cX6_twins 48 = .ok (.invokevirtual 153, 3) := by decide +kernel
theorem dX6_twins_51 : decode cX6_twins 51 = .ok (.iconst 2, 1) := by decide +kernel
theorem dX6_twins_52 : decode cX6_twins 52 = .ok (.if_icmp .eq 21, 3) := by decide +kernel
theorem dX6_twins_55 : decode cX6_twins 55 = .ok (.goto 14, 3) := by decide +kernel
theorem dX6_twins_58 : decode cX6_twins 58 = .ok (.aload_n 0, 1) := by decide +kernel
theorem dX6_twins_59 : decode cX6_twins 59 = .ok (.iload 4, 2) := by decide +kernel
theorem dX6_twins_61 : decode cX6_twins 61 = .ok (.iconst 5, 1) := by decide +kernel
theorem dX6_twins_62 : decode cX6_twins 62 = .ok (.invokevirtual 153, 3) := by decide +kernel
theorem dX6_twins_65 : decode cX6_twins 65 = .ok (.iload_n 2, 1) := by decide +kernel
theorem dX6_twins_66 : decode cX6_twins 66 = .ok (.if_icmp .ne 7, 3) := by decide +kernel
theorem dX6_twins_69 : decode cX6_twins 69 = .ok (.iconst 1, 1) := by decide +kernel
theorem dX6_twins_70 : decode cX6_twins 70 = .ok (.goto 4, 3) := by decide +kernel
theorem dX6_twins_73 : decode cX6_twins 73 = .ok (.iconst 0, 1) := by decide +kernel
theorem dX6_twins_74 : decode cX6_twins 74 = .ok (.iadd, 1) := by decide +kernel
theorem dX6_twins_75 : decode cX6_twins 75 = .ok (.istore_n 3, 1) := by decide +kernel
theorem dX6_twins_76 : decode cX6_twins 76 = .ok (.iinc 4 1, 3) := by decide +kernel
theorem dX6_twins_79 : decode cX6_twins 79 = .ok (.goto (-74), 3) := by decide +kernel
theorem dX6_twins_82 : decode cX6_twins 82 = .ok (.iload_n 3, 1) := by decide +kernel
theorem dX6_twins_83 : decode cX6_twins 83 = .ok (.ireturn, 1) := by decide +kernel
set_option maxRecDepth 20000 in
theorem ggX6_judge_X6_is : GoodIn wsX6_judge wsX6_is := goodIn_r _ [8, 9, 10, 11, 7, 12, 13, 14, 15, 16, 17, 18, 19, 20, 3, 49, 50, 51, 52, 53, 54, 55, 56, 57, 58, 59, 60, 61, 62, 63, 64, 65, 66, 67, 68, 69, 70, 71, 72, 73, 74, 75, 76, 77, 78, 79, 80, 81, 82, 83, 84, 85, 86, 87, 88, 89, 90, 91, 92, 93, 94, 95, 96, 97, 98] (by decide +kernel) (by decide +kernel)
set_option maxRecDepth 20000 in
theorem gX6_judge_X6_is : GoodIn wsX6_judge (wsV RX6 307 RX6 yX6_is wsX6_is) := goodIn_app (goodIn_of _ (by decide +kernel)) ggX6_judge_X6_is
set_option maxRecDepth 20000 in
theorem ggX6_judge_X6_twins : GoodIn wsX6_judge wsX6_twins := goodIn_r _ [24, 13, 17, 18, 19, 7, 20, 3, 49, 50, 51, 52, 53, 54, 55, 56, 57, 58, 59, 60, 61, 62, 63, 64, 65, 66, 67, 68, 69, 70, 71, 72, 73, 74, 75, 76, 77, 78, 79, 80, 81, 82, 83, 84, 85, 86, 87, 88, 89, 90, 91, 92, 93, 94, 95, 96, 97, 98] (by decide +kernel) (by decide +kernel)
set_option maxRecDepth 20000 in
theorem gX6_judge_X6_twins : GoodIn wsX6_judge (wsV RX6 310 RX6 yX6_twins wsX6_twins) := goodIn_app (goodIn_of _ (by decide +kernel)) ggX6_judge_X6_twins
set_option maxRecDepth 20000 in
theorem ggX6_judge_X6_of : GoodIn wsX6_judge wsX6_of := goodIn_r _ [20, 3, 49, 50, 51, 52, 53, 54, 55, 56, 57, 58, 59, 60, 61, 62, 63, 64, 65, 66, 67, 68, 69, 70, 71, 72, 73, 74, 75, 76, 77, 78, 79, 80, 81, 82, 83, 84, 85, 86, 87, 88, 89, 90, 91, 92, 93, 94, 95, 96, 97, 98] (by decide +kernel) (by decide +kernel)
set_option maxRecDepth 20000 in
theorem gX6_judge_X6_of : GoodIn wsX6_judge (wsV RX6 153 RX6 yX6_of wsX6_of) := goodIn_app (goodIn_of _ (by decide +kernel)) ggX6_judge_X6_of
set_option maxRecDepth 20000 in
theorem ggX6_judge_X6_pointsNow : GoodIn wsX6_judge wsX6_pointsNow := goodIn_r _ [28, 17, 18, 19, 7, 20, 3, 29, 30, 31, 32, 33, 34, 35, 36, 37, 38, 39, 40, 41, 42, 43, 44, 45, 46, 47, 48, 49, 50, 51, 52, 53, 54, 55, 56, 57, 58, 59, 60, 61, 62, 63, 64, 65, 66, 67, 68, 69, 70, 71, 72, 73, 74, 75, 76, 77, 78, 79, 80, 81, 82, 83, 84, 85, 86, 87, 88, 89, 90, 91, 92, 93, 94, 95, 96, 97, 98] (by decide +kernel) (by decide +kernel)
set_option maxRecDepth 20000 in
theorem gX6_judge_X6_pointsNow : GoodIn wsX6_judge (wsV RX6 287 RX6 yX6_pointsNow wsX6_pointsNow) := goodIn_app (goodIn_of _ (by decide +kernel)) ggX6_judge_X6_pointsNow
theorem dX6_judge_0 : decode cX6_judge 0 = .ok (.aload_n 0, 1) := by decide +kernel
theorem dX6_judge_1 : decode cX6_judge 1 = .ok (.iconst 0, 1) := by decide +kernel
theorem dX6_judge_2 : decode cX6_judge 2 = .ok (.putfield 129, 3) := by decide +kernel
theorem dX6_judge_5 : decode cX6_judge 5 = .ok (.aload_n 0, 1) := by decide +kernel
theorem dX6_judge_6 : decode cX6_judge 6 = .ok (.iload_n 1, 1) := by decide +kernel
theorem dX6_judge_7 : decode cX6_judge 7 = .ok (.iconst 0, 1) := by decide +kernel
theorem dX6_judge_8 : decode cX6_judge 8 = .ok (.invokevirtual 307, 3) := by decide +kernel
theorem dX6_judge_11 : decode cX6_judge 11 = .ok (.ifCond .eq 21, 3) := by decide +kernel
theorem dX6_judge_14 : decode cX6_judge 14 = .ok (.aload_n 0, 1) := by decide +kernel
theorem dX6_judge_15 : decode cX6_judge 15 = .ok (.iload_n 1, 1) := by decide +kernel
theorem dX6_judge_16 : decode cX6_judge 16 = .ok (.iconst 1, 1) := by decide +kernel
theorem dX6_judge_17 : decode cX6_judge 17 = .ok (.invokevirtual 310, 3) := by decide +kernel
theorem dX6_judge_20 : decode cX6_judge 20 = .ok (.ifCond .gt 12, 3) := by decide +kernel
theorem dX6_judge_23 : decode cX6_judge 23 = .ok (.aload_n 0, 1) := by decide +kernel
theorem dX6_judge_24 : decode cX6_judge 24 = .ok (.getfield 33, 3) := by decide +kernel
theorem dX6_judge_27 : decode cX6_judge 27 = .ok (.iconst 0, 1) := by decide +kernel
theorem dX6_judge_28 : decode cX6_judge 28 = .ok (.baload, 1) := by decide +kernel
theorem dX6_judge_29 : decode cX6_judge 29 = .ok (.ifCond .eq 5, 3) := by decide +kernel
theorem dX6_judge_32 : decode cX6_judge 32 = .ok (.iconst (-1), 1) := by decide +kernel
theorem dX6_judge_33 : decode cX6_judge 33 = .ok (.ireturn, 1) := by decide +kernel
theorem dX6_judge_34 : decode cX6_judge 34 = .ok (.aload_n 0, 1) := by decide +kernel
theorem dX6_judge_35 : decode cX6_judge 35 = .ok (.getfield 37, 3) := by decide +kernel
theorem dX6_judge_38 : decode cX6_judge 38 = .ok (.bipush 10, 2) := by decide +kernel
theorem dX6_judge_40 : decode cX6_judge 40 = .ok (.iload_n 1, 1) := by decide +kernel
theorem dX6_judge_41 : decode cX6_judge 41 = .ok (.imul, 1) := by decide +kernel
theorem dX6_judge_42 : decode cX6_judge 42 = .ok (.bipush 6, 2) := by decide +kernel
theorem dX6_judge_44 : decode cX6_judge 44 = .ok (.iadd, 1) := by decide +kernel
theorem dX6_judge_45 : decode cX6_judge 45 = .ok (.aload_n 0, 1) := by decide +kernel
theorem dX6_judge_46 : decode cX6_judge 46 = .ok (.iload_n 1, 1) := by decide +kernel
theorem dX6_judge_47 : decode cX6_judge 47 = .ok (.aload_n 0, 1) := by decide +kernel
theorem dX6_judge_48 : decode cX6_judge 48 = .ok (.iload_n 1, 1) := by decide +kernel
theorem dX6_judge_49 : decode cX6_judge 49 = .ok (.iconst 4, 1) := by decide +kernel
theorem dX6_judge_50 : decode cX6_judge 50 = .ok (.invokevirtual 153, 3) := by decide +kernel
theorem dX6_judge_53 : decode cX6_judge 53 = .ok (.invokevirtual 287, 3) := by decide +kernel
theorem dX6_judge_56 : decode cX6_judge 56 = .ok (.iastore, 1) := by decide +kernel
theorem dX6_judge_57 : decode cX6_judge 57 = .ok (.aload_n 0, 1) := by decide +kernel
theorem dX6_judge_58 : decode cX6_judge 58 = .ok (.getfield 37, 3) := by decide +kernel
theorem dX6_judge_61 : decode cX6_judge 61 = .ok (.bipush 10, 2) := by decide +kernel
theorem dX6_judge_63 : decode cX6_judge 63 = .ok (.iload_n 1, 1) := by decide +kernel
theorem dX6_judge_64 : decode cX6_judge 64 = .ok (.imul, 1) := by decide +kernel
theorem dX6_judge_65 : decode cX6_judge 65 = .ok (.iconst 5, 1) := by decide +kernel
theorem dX6_judge_66 : decode cX6_judge 66 = .ok (.iadd, 1) := by decide +kernel
theorem dX6_judge_67 : decode cX6_judge 67 = .ok (.iconst 1, 1) := by decide +kernel
theorem dX6_judge_68 : decode cX6_judge 68 = .ok (.iastore, 1) := by decide +kernel
theorem dX6_judge_69 : decode cX6_judge 69 = .ok (.aload_n 0, 1) := by decide +kernel
theorem dX6_judge_70 : decode cX6_judge 70 = .ok (.iload_n 1, 1) := by decide +kernel
theorem dX6_judge_71 : decode cX6_judge 71 = .ok (.bipush 6, 2) := by decide +kernel
theorem dX6_judge_73 : decode cX6_judge 73 = .ok (.invokevirtual 153, 3) := by decide +kernel
theorem dX6_judge_76 : decode cX6_judge 76 = .ok (.ireturn, 1) := by decide +kernel
set_option maxRecDepth 20000 in
theorem ggX6_appeal_X6_is : GoodIn wsX6_appeal wsX6_is := goodIn_r _ [9, 10, 11, 12, 8, 13, 14, 15, 16, 17, 18, 19, 20, 21, 4, 68, 69, 70, 71, 72, 73, 74, 75, 76, 77, 78, 79, 80, 81, 82, 83, 84, 85, 86, 87, 88, 89, 90, 91, 92, 93, 94, 95, 96, 97, 98, 99, 100, 101, 102, 103, 104, 105, 106, 107, 108, 109, 110, 111, 112, 113, 114, 115, 116, 117] (by decide +kernel) (by decide +kernel)
set_option maxRecDepth 20000 in
theorem gX6_appeal_X6_is : GoodIn wsX6_appeal (wsV RX6 307 RX6 yX6_is wsX6_is) := goodIn_app (goodIn_of _ (by decide +kernel)) ggX6_appeal_X6_is
set_option maxRecDepth 20000 in
theorem ggX6_appeal_X6_in : GoodIn wsX6_appeal wsX6_in := goodIn_r _ [17] (by decide +kernel) (by decide +kernel)
set_option maxRecDepth 20000 in
theorem gX6_appeal_X6_in : GoodIn wsX6_appeal (va_wsS RX6 145 yX6_in wsX6_in) := goodIn_app (goodIn_of _ (by decide +kernel)) ggX6_appeal_X6_in
set_option maxRecDepth 20000 in
theorem ggX6_appeal_X6_of : GoodIn wsX6_appeal wsX6_of := goodIn_r _ [21, 4, 68, 69, 70, 71, 72, 73, 74, 75, 76, 77, 78, 79, 80, 81, 82, 83, 84, 85, 86, 87, 88, 89, 90, 91, 92, 93, 94, 95, 96, 97, 98, 99, 100, 101, 102, 103, 104, 105, 106, 107, 108, 109, 110, 111, 112, 113, 114, 115, 116, 117] (by decide +kernel) (by decide +kernel)
set_option maxRecDepth 20000 in
theorem gX6_appeal_X6_of : GoodIn wsX6_appeal (wsV RX6 153 RX6 yX6_of wsX6_of) := goodIn_app (goodIn_of _ (by decide +kernel)) ggX6_appeal_X6_of
set_option maxRecDepth 20000 in
theorem ggX6_appeal_X6_holds : GoodIn wsX6_appeal wsX6_holds := goodIn_r _ [25, 14, 26, 27, 28, 29, 8, 30, 31, 32, 33, 34, 18, 19, 20, 21, 4, 35, 36, 37, 38, 39, 40, 41, 42, 43, 44, 45, 46, 47, 48, 49, 50, 51, 52, 53, 54, 55, 56, 57, 58, 59, 60, 61, 62, 63, 64, 65, 66, 67, 2, 68, 69, 70, 71, 72, 73, 74, 75, 76, 77, 78, 79, 80, 81, 82, 83, 84, 85, 86, 87, 88, 89, 90, 91, 92, 93, 94, 95, 96, 97, 98, 99, 100, 101, 102, 103, 104, 105, 106, 107, 108, 109, 110, 111, 112, 113, 114, 115, 116, 117] (by decide +kernel) (by decide +kernel)
set_option maxRecDepth 20000 in
theorem gX6_appeal_X6_holds : GoodIn wsX6_appeal (wsV RX6 261 RX6 yX6_holds wsX6_holds) := goodIn_app (goodIn_of _ (by decide +kernel)) ggX6_appeal_X6_holds
theorem dX6_appeal_0 : decode cX6_appeal 0 = .ok (.aload_n 0, 1) := by decide +kernel
theorem dX6_appeal_1 : decode cX6_appeal 1 = .ok (.iconst 0, 1) := by decide +kernel
theorem dX6_appeal_2 : decode cX6_appeal 2 = .ok (.putfield 129, 3) := by decide +kernel
theorem dX6_appeal_5 : decode cX6_appeal 5 = .ok (.aload_n 0, 1) := by decide +kernel
theorem dX6_appeal_6 : decode cX6_appeal 6 = .ok (.iload_n 1, 1) := by decide +kernel
theorem dX6_appeal_7 : decode cX6_appeal 7 = .ok (.iconst 1, 1) := by decide +kernel
theorem dX6_appeal_8 : decode cX6_appeal 8 = .ok (.invokevirtual 307, 3) := by decide +kernel
theorem dX6_appeal_11 : decode cX6_appeal 11 = .ok (.ifCond .eq 23, 3) := by decide +kernel
theorem dX6_appeal_14 : decode cX6_appeal 14 = .ok (.iload_n 2, 1) := by decide +kernel
theorem dX6_appeal_15 : decode cX6_appeal 15 = .ok (.iconst 0, 1) := by decide +kernel
theorem dX6_appeal_16 : decode cX6_appeal 16 = .ok (.ldc_w 286, 3) := by decide +kernel
theorem dX6_appeal_19 : decode cX6_appeal 19 = .ok (.invokestatic 145, 3) := by decide +kernel
theorem dX6_appeal_22 : decode cX6_appeal 22 = .ok (.ifCond .eq 12, 3) := by decide +kernel
theorem dX6_appeal_25 : decode cX6_appeal 25 = .ok (.aload_n 0, 1) := by decide +kernel
theorem dX6_appeal_26 : decode cX6_appeal 26 = .ok (.getfield 33, 3) := by decide +kernel
theorem dX6_appeal_29 : decode cX6_appeal 29 = .ok (.iconst 0, 1) := by decide +kernel
theorem dX6_appeal_30 : decode cX6_appeal 30 = .ok (.baload, 1) := by decide +kernel
theorem dX6_appeal_31 : decode cX6_appeal 31 = .ok (.ifCond .eq 5, 3) := by decide +kernel
theorem dX6_appeal_34 : decode cX6_appeal 34 = .ok (.iconst 0, 1) := by decide +kernel
theorem dX6_appeal_35 : decode cX6_appeal 35 = .ok (.ireturn, 1) := by decide +kernel
theorem dX6_appeal_36 : decode cX6_appeal 36 = .ok (.aload_n 0, 1) := by decide +kernel
theorem dX6_appeal_37 : decode cX6_appeal 37 = .ok (.iload_n 1, 1) := by decide +kernel
theorem dX6_appeal_38 : decode cX6_appeal 38 = .ok (.bipush 6, 2) := by decide +kernel
theorem dX6_appeal_40 : decode cX6_appeal 40 = .ok (.invokevirtual 153, 3) := by decide +kernel
theorem dX6_appeal_43 : decode cX6_appeal 43 = .ok (.istore_n 3, 1) := by decide +kernel
theorem dX6_appeal_44 : decode cX6_appeal 44 = .ok (.aload_n 0, 1) := by decide +kernel
theorem dX6_appeal_45 : decode cX6_appeal 45 = .ok (.getfield 37, 3) := by decide +kernel
theorem dX6_appeal_48 : decode cX6_appeal 48 = .ok (.bipush 10, 2) := by decide +kernel
theorem dX6_appeal_50 : decode cX6_appeal 50 = .ok (.iload_n 1, 1) := by decide +kernel
theorem dX6_appeal_51 : decode cX6_appeal 51 = .ok (.imul, 1) := by decide +kernel
theorem dX6_appeal_52 : decode cX6_appeal 52 = .ok (.bipush 6, 2) := by decide +kernel
theorem dX6_appeal_54 : decode cX6_appeal 54 = .ok (.iadd, 1) := by decide +kernel
theorem dX6_appeal_55 : decode cX6_appeal 55 = .ok (.iload_n 2, 1) := by decide +kernel
theorem dX6_appeal_56 : decode cX6_appeal 56 = .ok (.iastore, 1) := by decide +kernel
theorem dX6_appeal_57 : decode cX6_appeal 57 = .ok (.aload_n 0, 1) := by decide +kernel
theorem dX6_appeal_58 : decode cX6_appeal 58 = .ok (.invokevirtual 261, 3) := by decide +kernel
theorem dX6_appeal_61 : decode cX6_appeal 61 = .ok (.ifCond .ne 18, 3) := by decide +kernel
theorem dX6_appeal_64 : decode cX6_appeal 64 = .ok (.aload_n 0, 1) := by decide +kernel
theorem dX6_appeal_65 : decode cX6_appeal 65 = .ok (.getfield 37, 3) := by decide +kernel
theorem dX6_appeal_68 : decode cX6_appeal 68 = .ok (.bipush 10, 2) := by decide +kernel
theorem dX6_appeal_70 : decode cX6_appeal 70 = .ok (.iload_n 1, 1) := by decide +kernel
theorem dX6_appeal_71 : decode cX6_appeal 71 = .ok (.imul, 1) := by decide +kernel
theorem dX6_appeal_72 : decode cX6_appeal 72 = .ok (.bipush 6, 2) := by decide +kernel
theorem dX6_appeal_74 : decode cX6_appeal 74 = .ok (.iadd, 1) := by decide +kernel
theorem dX6_appeal_75 : decode cX6_appeal 75 = .ok (.iload_n 3, 1) := by decide +kernel
theorem dX6_appeal_76 : decode cX6_appeal 76 = .ok (.iastore, 1) := by decide +kernel
theorem dX6_appeal_77 : decode cX6_appeal 77 = .ok (.iconst 0, 1) := by decide +kernel
theorem dX6_appeal_78 : decode cX6_appeal 78 = .ok (.ireturn, 1) := by decide +kernel
theorem dX6_appeal_79 : decode cX6_appeal 79 = .ok (.iconst 1, 1) := by decide +kernel
theorem dX6_appeal_80 : decode cX6_appeal 80 = .ok (.ireturn, 1) := by decide +kernel
set_option maxRecDepth 20000 in
theorem ggX6_out_X6_isClaim : GoodIn wsX6_out wsX6_isClaim := goodIn_r _ [9, 10, 11, 12, 8, 13, 68, 69, 70, 71, 72, 73, 74, 75, 76, 77, 78, 79, 80, 81, 82, 83, 84, 85, 86, 87, 88, 89, 90, 91, 92, 93, 94, 95, 96, 97, 98, 99, 100, 101, 102, 103, 104, 105, 106, 107, 108, 109, 110, 111, 112, 113, 114, 115, 116, 117] (by decide +kernel) (by decide +kernel)
set_option maxRecDepth 20000 in
theorem gX6_out_X6_isClaim : GoodIn wsX6_out (wsV RX6 149 RX6 yX6_isClaim wsX6_isClaim) := goodIn_app (goodIn_of _ (by decide +kernel)) ggX6_out_X6_isClaim
set_option maxRecDepth 20000 in
theorem ggX6_out_X6_is : GoodIn wsX6_out wsX6_is := goodIn_r _ [17, 5, 6, 7, 8, 9, 10, 11, 12, 13, 18, 19, 20, 21, 4, 68, 69, 70, 71, 72, 73, 74, 75, 76, 77, 78, 79, 80, 81, 82, 83, 84, 85, 86, 87, 88, 89, 90, 91, 92, 93, 94, 95, 96, 97, 98, 99, 100, 101, 102, 103, 104, 105, 106, 107, 108, 109, 110, 111, 112, 113, 114, 115, 116, 117] (by decide +kernel) (by decide +kernel)
set_option maxRecDepth 20000 in
theorem gX6_out_X6_is : GoodIn wsX6_out (wsV RX6 307 RX6 yX6_is wsX6_is) := goodIn_app (goodIn_of _ (by decide +kernel)) ggX6_out_X6_is
set_option maxRecDepth 20000 in
theorem ggX6_out_X6_of : GoodIn wsX6_out wsX6_of := goodIn_r _ [21, 4, 68, 69, 70, 71, 72, 73, 74, 75, 76, 77, 78, 79, 80, 81, 82, 83, 84, 85, 86, 87, 88, 89, 90, 91, 92, 93, 94, 95, 96, 97, 98, 99, 100, 101, 102, 103, 104, 105, 106, 107, 108, 109, 110, 111, 112, 113, 114, 115, 116, 117] (by decide +kernel) (by decide +kernel)
set_option maxRecDepth 20000 in
theorem gX6_out_X6_of : GoodIn wsX6_out (wsV RX6 153 RX6 yX6_of wsX6_of) := goodIn_app (goodIn_of _ (by decide +kernel)) ggX6_out_X6_of
set_option maxRecDepth 20000 in
theorem ggX6_out_X6_holds : GoodIn wsX6_out wsX6_holds := goodIn_r _ [25, 10, 3, 26, 27, 28, 8, 29, 30, 31, 32, 33, 18, 19, 20, 21, 4, 34, 35, 36, 37, 38, 39, 40, 41, 42, 43, 44, 45, 46, 47, 48, 49, 50, 51, 52, 53, 54, 55, 56, 57, 58, 59, 60, 61, 62, 63, 64, 65, 66, 67, 68, 69, 70, 71, 72, 73, 74, 75, 76, 77, 78, 79, 80, 81, 82, 83, 84, 85, 86, 87, 88, 89, 90, 91, 92, 93, 94, 95, 96, 97, 98, 99, 100, 101, 102, 103, 104, 105, 106, 107, 108, 109, 110, 111, 112, 113, 114, 115, 116, 117] (by decide +kernel) (by decide +kernel)
set_option maxRecDepth 20000 in
theorem gX6_out_X6_holds : GoodIn wsX6_out (wsV RX6 261 RX6 yX6_holds wsX6_holds) := goodIn_app (goodIn_of _ (by decide +kernel)) ggX6_out_X6_holds
theorem dX6_out_0 : decode cX6_out 0 = .ok (.aload_n 0, 1) := by decide +kernel
theorem dX6_out_1 : decode cX6_out 1 = .ok (.iconst 0, 1) := by decide +kernel
theorem dX6_out_2 : decode cX6_out 2 = .ok (.putfield 129, 3) := by decide +kernel
theorem dX6_out_5 : decode cX6_out 5 = .ok (.aload_n 0, 1) := by decide +kernel
theorem dX6_out_6 : decode cX6_out 6 = .ok (.iload_n 1, 1) := by decide +kernel
theorem dX6_out_7 : decode cX6_out 7 = .ok (.invokevirtual 149, 3) := by decide +kernel
theorem dX6_out_10 : decode cX6_out 10 = .ok (.ifCond .eq 33, 3) := by decide +kernel
theorem dX6_out_13 : decode cX6_out 13 = .ok (.aload_n 0, 1) := by decide +kernel
theorem dX6_out_14 : decode cX6_out 14 = .ok (.getfield 33, 3) := by decide +kernel
theorem dX6_out_17 : decode cX6_out 17 = .ok (.iconst 0, 1) := by decide +kernel
theorem dX6_out_18 : decode cX6_out 18 = .ok (.baload, 1) := by decide +kernel
theorem dX6_out_19 : decode cX6_out 19 = .ok (.ifCond .ne 24, 3) := by decide +kernel
theorem dX6_out_22 : decode cX6_out 22 = .ok (.iload_n 2, 1) := by decide +kernel
theorem dX6_out_23 : decode cX6_out 23 = .ok (.aload_n 0, 1) := by decide +kernel
theorem dX6_out_24 : decode cX6_out 24 = .ok (.iload_n 1, 1) := by decide +kernel
theorem dX6_out_25 : decode cX6_out 25 = .ok (.iconst 2, 1) := by decide +kernel
theorem dX6_out_26 : decode cX6_out 26 = .ok (.invokevirtual 307, 3) := by decide +kernel
theorem dX6_out_29 : decode cX6_out 29 = .ok (.if_icmp .eq 14, 3) := by decide +kernel
theorem dX6_out_32 : decode cX6_out 32 = .ok (.aload_n 0, 1) := by decide +kernel
theorem dX6_out_33 : decode cX6_out 33 = .ok (.getfield 40, 3) := by decide +kernel
theorem dX6_out_36 : decode cX6_out 36 = .ok (.iload_n 1, 1) := by decide +kernel
theorem dX6_out_37 : decode cX6_out 37 = .ok (.laload, 1) := by decide +kernel
theorem dX6_out_38 : decode cX6_out 38 = .ok (.lconst 0, 1) := by decide +kernel
theorem dX6_out_39 : decode cX6_out 39 = .ok (.lcmp, 1) := by decide +kernel
theorem dX6_out_40 : decode cX6_out 40 = .ok (.ifCond .le 5, 3) := by decide +kernel
theorem dX6_out_43 : decode cX6_out 43 = .ok (.iconst 0, 1) := by decide +kernel
theorem dX6_out_44 : decode cX6_out 44 = .ok (.ireturn, 1) := by decide +kernel
theorem dX6_out_45 : decode cX6_out 45 = .ok (.aload_n 0, 1) := by decide +kernel
theorem dX6_out_46 : decode cX6_out 46 = .ok (.iload_n 1, 1) := by decide +kernel
theorem dX6_out_47 : decode cX6_out 47 = .ok (.iconst 5, 1) := by decide +kernel
theorem dX6_out_48 : decode cX6_out 48 = .ok (.invokevirtual 153, 3) := by decide +kernel
theorem dX6_out_51 : decode cX6_out 51 = .ok (.istore_n 3, 1) := by decide +kernel
theorem dX6_out_52 : decode cX6_out 52 = .ok (.aload_n 0, 1) := by decide +kernel
theorem dX6_out_53 : decode cX6_out 53 = .ok (.getfield 37, 3) := by decide +kernel
theorem dX6_out_56 : decode cX6_out 56 = .ok (.bipush 10, 2) := by decide +kernel
theorem dX6_out_58 : decode cX6_out 58 = .ok (.iload_n 1, 1) := by decide +kernel
theorem dX6_out_59 : decode cX6_out 59 = .ok (.imul, 1) := by decide +kernel
theorem dX6_out_60 : decode cX6_out 60 = .ok (.iconst 5, 1) := by decide +kernel
theorem dX6_out_61 : decode cX6_out 61 = .ok (.iadd, 1) := by decide +kernel
theorem dX6_out_62 : decode cX6_out 62 = .ok (.iload_n 2, 1) := by decide +kernel
theorem dX6_out_63 : decode cX6_out 63 = .ok (.ifCond .eq 7, 3) := by decide +kernel
theorem dX6_out_66 : decode cX6_out 66 = .ok (.iconst 2, 1) := by decide +kernel
theorem dX6_out_67 : decode cX6_out 67 = .ok (.goto 4, 3) := by decide +kernel
theorem dX6_out_70 : decode cX6_out 70 = .ok (.iconst 0, 1) := by decide +kernel
theorem dX6_out_71 : decode cX6_out 71 = .ok (.iastore, 1) := by decide +kernel
theorem dX6_out_72 : decode cX6_out 72 = .ok (.aload_n 0, 1) := by decide +kernel
theorem dX6_out_73 : decode cX6_out 73 = .ok (.invokevirtual 261, 3) := by decide +kernel
theorem dX6_out_76 : decode cX6_out 76 = .ok (.ifCond .ne 17, 3) := by decide +kernel
theorem dX6_out_79 : decode cX6_out 79 = .ok (.aload_n 0, 1) := by decide +kernel
theorem dX6_out_80 : decode cX6_out 80 = .ok (.getfield 37, 3) := by decide +kernel
theorem dX6_out_83 : decode cX6_out 83 = .ok (.bipush 10, 2) := by decide +kernel
theorem dX6_out_85 : decode cX6_out 85 = .ok (.iload_n 1, 1) := by decide +kernel
theorem dX6_out_86 : decode cX6_out 86 = .ok (.imul, 1) := by decide +kernel
theorem dX6_out_87 : decode cX6_out 87 = .ok (.iconst 5, 1) := by decide +kernel
theorem dX6_out_88 : decode cX6_out 88 = .ok (.iadd, 1) := by decide +kernel
theorem dX6_out_89 : decode cX6_out 89 = .ok (.iload_n 3, 1) := by decide +kernel
theorem dX6_out_90 : decode cX6_out 90 = .ok (.iastore, 1) := by decide +kernel
theorem dX6_out_91 : decode cX6_out 91 = .ok (.iconst 0, 1) := by decide +kernel
theorem dX6_out_92 : decode cX6_out 92 = .ok (.ireturn, 1) := by decide +kernel
theorem dX6_out_93 : decode cX6_out 93 = .ok (.iconst 1, 1) := by decide +kernel
theorem dX6_out_94 : decode cX6_out 94 = .ok (.ireturn, 1) := by decide +kernel
set_option maxRecDepth 20000 in
theorem ggX6_points_X6_canBe : GoodIn wsX6_points wsX6_canBe := goodIn_r _ [5, 6, 7, 4, 8] (by decide +kernel) (by decide +kernel)
set_option maxRecDepth 20000 in
theorem gX6_points_X6_canBe : GoodIn wsX6_points (va_wsS RX6 303 yX6_canBe wsX6_canBe) := goodIn_app (goodIn_of _ (by decide +kernel)) ggX6_points_X6_canBe
set_option maxRecDepth 20000 in
theorem ggX6_points_X6_pointsOf : GoodIn wsX6_points wsX6_pointsOf := goodIn_r _ [12, 13, 14, 15, 16, 17, 18, 19, 20, 4, 21, 22, 23, 24, 25, 26, 27, 28, 29, 30, 31, 32, 33, 34, 35, 36, 37, 38, 39, 40, 41, 42, 43, 44, 45, 46, 47, 48, 49, 50, 51, 52, 53, 54, 55, 56, 57, 58, 59, 60, 61, 62, 63, 64, 65, 66, 67, 68, 69, 70, 71, 72, 73, 74, 75, 76, 77, 78] (by decide +kernel) (by decide +kernel)
set_option maxRecDepth 20000 in
theorem gX6_points_X6_pointsOf : GoodIn wsX6_points (wsV RX6 282 RX6 yX6_pointsOf wsX6_pointsOf) := goodIn_app (goodIn_of _ (by decide +kernel)) ggX6_points_X6_pointsOf
theorem dX6_points_0 : decode cX6_points 0 = .ok (.aload_n 0, 1) := by decide +kernel
theorem dX6_points_1 : decode cX6_points 1 = .ok (.iconst 0, 1) := by decide +kernel
theorem dX6_points_2 : decode cX6_points 2 = .ok (.putfield 129, 3) := by decide +kernel
theorem dX6_points_5 : decode cX6_points 5 = .ok (.iload_n 1, 1) := by decide +kernel
theorem dX6_points_6 : decode cX6_points 6 = .ok (.iload_n 2, 1) := by decide +kernel
theorem dX6_points_7 : decode cX6_points 7 = .ok (.iload_n 3, 1) := by decide +kernel
theorem dX6_points_8 : decode cX6_points 8 = .ok (.iload 4, 2) := by decide +kernel
theorem dX6_points_10 : decode cX6_points 10 = .ok (.invokestatic 303, 3) := by decide +kernel
theorem dX6_points_13 : decode cX6_points 13 = .ok (.ifCond .eq 15, 3) := by decide +kernel
theorem dX6_points_16 : decode cX6_points 16 = .ok (.aload_n 0, 1) := by decide +kernel
theorem dX6_points_17 : decode cX6_points 17 = .ok (.iload_n 1, 1) := by decide +kernel
theorem dX6_points_18 : decode cX6_points 18 = .ok (.iload_n 2, 1) := by decide +kernel
theorem dX6_points_19 : decode cX6_points 19 = .ok (.iload_n 3, 1) := by decide +kernel
theorem dX6_points_20 : decode cX6_points 20 = .ok (.iload 4, 2) := by decide +kernel
theorem dX6_points_22 : decode cX6_points 22 = .ok (.invokevirtual 282, 3) := by decide +kernel
theorem dX6_points_25 : decode cX6_points 25 = .ok (.goto 4, 3) := by decide +kernel
theorem dX6_points_28 : decode cX6_points 28 = .ok (.iconst (-1), 1) := by decide +kernel
theorem dX6_points_29 : decode cX6_points 29 = .ok (.ireturn, 1) := by decide +kernel
set_option maxRecDepth 20000 in
theorem ggX6_lacks_X6_is : GoodIn wsX6_lacks wsX6_is := goodIn_r _ [7, 8, 9, 10, 6, 11, 12, 13, 14, 15, 16, 17, 18, 19, 20, 45, 46, 47, 48, 49, 50, 51, 52, 53, 54, 55, 56, 57, 58, 59, 60, 61, 62, 63, 64, 65, 66, 67, 68, 69, 70, 71, 72, 73, 74, 75, 76, 77, 78, 79, 80, 81, 82, 83, 84, 85, 86, 87, 88, 89, 90, 91, 92, 93, 94] (by decide +kernel) (by decide +kernel)
set_option maxRecDepth 20000 in
theorem gX6_lacks_X6_is : GoodIn wsX6_lacks (wsV RX6 307 RX6 yX6_is wsX6_is) := goodIn_app (goodIn_of _ (by decide +kernel)) ggX6_lacks_X6_is
set_option maxRecDepth 20000 in
theorem ggX6_lacks_X6_in : GoodIn wsX6_lacks wsX6_in := goodIn_r _ [15] (by decide +kernel) (by decide +kernel)
set_option maxRecDepth 20000 in
theorem gX6_lacks_X6_in : GoodIn wsX6_lacks (va_wsS RX6 145 yX6_in wsX6_in) := goodIn_app (goodIn_of _ (by decide +kernel)) ggX6_lacks_X6_in
set_option maxRecDepth 20000 in
theorem ggX6_lacks_X6_of : GoodIn wsX6_lacks wsX6_of := goodIn_r _ [19, 20, 45, 46, 47, 48, 49, 50, 51, 52, 53, 54, 55, 56, 57, 58, 59, 60, 61, 62, 63, 64, 65, 66, 67, 68, 69, 70, 71, 72, 73, 74, 75, 76, 77, 78, 79, 80, 81, 82, 83, 84, 85, 86, 87, 88, 89, 90, 91, 92, 93, 94] (by decide +kernel) (by decide +kernel)
set_option maxRecDepth 20000 in
theorem gX6_lacks_X6_of : GoodIn wsX6_lacks (wsV RX6 153 RX6 yX6_of wsX6_of) := goodIn_app (goodIn_of _ (by decide +kernel)) ggX6_lacks_X6_of
set_option maxRecDepth 20000 in
theorem ggX6_lacks_X6_pointsNow : GoodIn wsX6_lacks wsX6_pointsNow := goodIn_r _ [24, 16, 17, 18, 6, 19, 20, 25, 26, 27, 28, 29, 30, 31, 32, 33, 34, 35, 36, 37, 38, 39, 40, 41, 42, 43, 44, 45, 46, 47, 48, 49, 50, 51, 52, 53, 54, 55, 56, 57, 58, 59, 60, 61, 62, 63, 64, 65, 66, 67, 68, 69, 70, 71, 72, 73, 74, 75, 76, 77, 78, 79, 80, 81, 82, 83, 84, 85, 86, 87, 88, 89, 90, 91, 92, 93, 94] (by decide +kernel) (by decide +kernel)
set_option maxRecDepth 20000 in
theorem gX6_lacks_X6_pointsNow : GoodIn wsX6_lacks (wsV RX6 287 RX6 yX6_pointsNow wsX6_pointsNow) := goodIn_app (goodIn_of _ (by decide +kernel)) ggX6_lacks_X6_pointsNow
theorem dX6_lacks_0 : decode cX6_lacks 0 = .ok (.aload_n 0, 1) := by decide +kernel
theorem dX6_lacks_1 : decode cX6_lacks 1 = .ok (.iconst 0, 1) := by decide +kernel
theorem dX6_lacks_2 : decode cX6_lacks 2 = .ok (.putfield 129, 3) := by decide +kernel
theorem dX6_lacks_5 : decode cX6_lacks 5 = .ok (.aload_n 0, 1) := by decide +kernel
theorem dX6_lacks_6 : decode cX6_lacks 6 = .ok (.iload_n 1, 1) := by decide +kernel
theorem dX6_lacks_7 : decode cX6_lacks 7 = .ok (.iconst 0, 1) := by decide +kernel
theorem dX6_lacks_8 : decode cX6_lacks 8 = .ok (.invokevirtual 307, 3) := by decide +kernel
theorem dX6_lacks_11 : decode cX6_lacks 11 = .ok (.ifCond .eq 25, 3) := by decide +kernel
theorem dX6_lacks_14 : decode cX6_lacks 14 = .ok (.iload_n 2, 1) := by decide +kernel
theorem dX6_lacks_15 : decode cX6_lacks 15 = .ok (.iconst 0, 1) := by decide +kernel
theorem dX6_lacks_16 : decode cX6_lacks 16 = .ok (.iconst 5, 1) := by decide +kernel
theorem dX6_lacks_17 : decode cX6_lacks 17 = .ok (.invokestatic 145, 3) := by decide +kernel
theorem dX6_lacks_20 : decode cX6_lacks 20 = .ok (.ifCond .eq 16, 3) := by decide +kernel
theorem dX6_lacks_23 : decode cX6_lacks 23 = .ok (.aload_n 0, 1) := by decide +kernel
theorem dX6_lacks_24 : decode cX6_lacks 24 = .ok (.iload_n 1, 1) := by decide +kernel
theorem dX6_lacks_25 : decode cX6_lacks 25 = .ok (.iconst 4, 1) := by decide +kernel
theorem dX6_lacks_26 : decode cX6_lacks 26 = .ok (.invokevirtual 153, 3) := by decide +kernel
theorem dX6_lacks_29 : decode cX6_lacks 29 = .ok (.iload_n 2, 1) := by decide +kernel
theorem dX6_lacks_30 : decode cX6_lacks 30 = .ok (.ishr, 1) := by decide +kernel
theorem dX6_lacks_31 : decode cX6_lacks 31 = .ok (.iconst 1, 1) := by decide +kernel
theorem dX6_lacks_32 : decode cX6_lacks 32 = .ok (.iand, 1) := by decide +kernel
theorem dX6_lacks_33 : decode cX6_lacks 33 = .ok (.ifCond .eq 7, 3) := by decide +kernel
theorem dX6_lacks_36 : decode cX6_lacks 36 = .ok (.ldc_w 313, 3) := by decide +kernel
theorem dX6_lacks_39 : decode cX6_lacks 39 = .ok (.ireturn, 1) := by decide +kernel
theorem dX6_lacks_40 : decode cX6_lacks 40 = .ok (.aload_n 0, 1) := by decide +kernel
theorem dX6_lacks_41 : decode cX6_lacks 41 = .ok (.iload_n 1, 1) := by decide +kernel
theorem dX6_lacks_42 : decode cX6_lacks 42 = .ok (.aload_n 0, 1) := by decide +kernel
theorem dX6_lacks_43 : decode cX6_lacks 43 = .ok (.iload_n 1, 1) := by decide +kernel
theorem dX6_lacks_44 : decode cX6_lacks 44 = .ok (.iconst 4, 1) := by decide +kernel
theorem dX6_lacks_45 : decode cX6_lacks 45 = .ok (.invokevirtual 153, 3) := by decide +kernel
theorem dX6_lacks_48 : decode cX6_lacks 48 = .ok (.iconst 1, 1) := by decide +kernel
theorem dX6_lacks_49 : decode cX6_lacks 49 = .ok (.iload_n 2, 1) := by decide +kernel
theorem dX6_lacks_50 : decode cX6_lacks 50 = .ok (.ishl, 1) := by decide +kernel
theorem dX6_lacks_51 : decode cX6_lacks 51 = .ok (.ior, 1) := by decide +kernel
theorem dX6_lacks_52 : decode cX6_lacks 52 = .ok (.invokevirtual 287, 3) := by decide +kernel
theorem dX6_lacks_55 : decode cX6_lacks 55 = .ok (.aload_n 0, 1) := by decide +kernel
theorem dX6_lacks_56 : decode cX6_lacks 56 = .ok (.iload_n 1, 1) := by decide +kernel
theorem dX6_lacks_57 : decode cX6_lacks 57 = .ok (.aload_n 0, 1) := by decide +kernel
theorem dX6_lacks_58 : decode cX6_lacks 58 = .ok (.iload_n 1, 1) := by decide +kernel
theorem dX6_lacks_59 : decode cX6_lacks 59 = .ok (.iconst 4, 1) := by decide +kernel
theorem dX6_lacks_60 : decode cX6_lacks 60 = .ok (.invokevirtual 153, 3) := by decide +kernel
theorem dX6_lacks_63 : decode cX6_lacks 63 = .ok (.invokevirtual 287, 3) := by decide +kernel
theorem dX6_lacks_66 : decode cX6_lacks 66 = .ok (.isub, 1) := by decide +kernel
theorem dX6_lacks_67 : decode cX6_lacks 67 = .ok (.ireturn, 1) := by decide +kernel
set_option maxRecDepth 20000 in
theorem ggX6_tell_X6_isClaim : GoodIn wsX6_tell wsX6_isClaim := goodIn_r _ [6, 7, 8, 9, 5, 10, 57, 58, 59, 60, 61, 62, 63, 64, 65, 66, 67, 68, 69, 70, 71, 72, 73, 74, 75, 76, 77, 78, 79, 80, 81, 82, 83, 84, 85, 86, 87, 88, 89, 90, 91, 92, 93, 94, 95, 96, 97, 98, 99, 100, 101, 102, 103, 104, 105, 106] (by decide +kernel) (by decide +kernel)
set_option maxRecDepth 20000 in
theorem gX6_tell_X6_isClaim : GoodIn wsX6_tell (wsV RX6 149 RX6 yX6_isClaim wsX6_isClaim) := goodIn_app (goodIn_of _ (by decide +kernel)) ggX6_tell_X6_isClaim
set_option maxRecDepth 20000 in
theorem ggX6_tell_X6_of : GoodIn wsX6_tell wsX6_of := goodIn_r _ [14, 15, 57, 58, 59, 60, 61, 62, 63, 64, 65, 66, 67, 68, 69, 70, 71, 72, 73, 74, 75, 76, 77, 78, 79, 80, 81, 82, 83, 84, 85, 86, 87, 88, 89, 90, 91, 92, 93, 94, 95, 96, 97, 98, 99, 100, 101, 102, 103, 104, 105, 106] (by decide +kernel) (by decide +kernel)
set_option maxRecDepth 20000 in
theorem gX6_tell_X6_of : GoodIn wsX6_tell (wsV RX6 153 RX6 yX6_of wsX6_of) := goodIn_app (goodIn_of _ (by decide +kernel)) ggX6_tell_X6_of
set_option maxRecDepth 20000 in
theorem ggX6_tell_X6_leastOf : GoodIn wsX6_tell wsX6_leastOf := goodIn_r _ [19, 20, 11, 12, 13, 5, 14, 15, 21, 22, 23, 24, 25, 26, 27, 28, 29, 30, 31, 32, 33, 34, 35, 36, 37, 38, 39, 40, 41, 42, 43, 44, 57, 58, 59, 60, 61, 62, 63, 64, 65, 66, 67, 68, 69, 70, 71, 72, 73, 74, 75, 76, 77, 78, 79, 80, 81, 82, 83, 84, 85, 86, 87, 88, 89, 90, 91, 92, 93, 94, 95, 96, 97, 98, 99, 100, 101, 102, 103, 104, 105, 106] (by decide +kernel) (by decide +kernel)
set_option maxRecDepth 20000 in
theorem gX6_tell_X6_leastOf : GoodIn wsX6_tell (wsV RX6 293 RX6 yX6_leastOf wsX6_leastOf) := goodIn_app (goodIn_of _ (by decide +kernel)) ggX6_tell_X6_leastOf
set_option maxRecDepth 20000 in
theorem ggX6_tell_X6_mostOf : GoodIn wsX6_tell wsX6_mostOf := goodIn_r _ [48, 11, 12, 13, 5, 14, 15, 21, 22, 23, 24, 25, 26, 27, 28, 29, 30, 31, 32, 33, 34, 35, 36, 37, 38, 39, 40, 41, 42, 43, 44, 57, 58, 59, 60, 61, 62, 63, 64, 65, 66, 67, 68, 69, 70, 71, 72, 73, 74, 75, 76, 77, 78, 79, 80, 81, 82, 83, 84, 85, 86, 87, 88, 89, 90, 91, 92, 93, 94, 95, 96, 97, 98, 99, 100, 101, 102, 103, 104, 105, 106] (by decide +kernel) (by decide +kernel)
set_option maxRecDepth 20000 in
theorem gX6_tell_X6_mostOf : GoodIn wsX6_tell (wsV RX6 290 RX6 yX6_mostOf wsX6_mostOf) := goodIn_app (goodIn_of _ (by decide +kernel)) ggX6_tell_X6_mostOf
set_option maxRecDepth 20000 in
theorem ggX6_tell_X6_is : GoodIn wsX6_tell wsX6_is := goodIn_r _ [52, 2, 3, 4, 5, 6, 7, 8, 9, 10, 11, 12, 13, 14, 15, 57, 58, 59, 60, 61, 62, 63, 64, 65, 66, 67, 68, 69, 70, 71, 72, 73, 74, 75, 76, 77, 78, 79, 80, 81, 82, 83, 84, 85, 86, 87, 88, 89, 90, 91, 92, 93, 94, 95, 96, 97, 98, 99, 100, 101, 102, 103, 104, 105, 106] (by decide +kernel) (by decide +kernel)
set_option maxRecDepth 20000 in
theorem gX6_tell_X6_is : GoodIn wsX6_tell (wsV RX6 307 RX6 yX6_is wsX6_is) := goodIn_app (goodIn_of _ (by decide +kernel)) ggX6_tell_X6_is
set_option maxRecDepth 20000 in
theorem ggX6_tell_X6_twins : GoodIn wsX6_tell wsX6_twins := goodIn_r _ [56, 7, 11, 12, 13, 5, 14, 15, 57, 58, 59, 60, 61, 62, 63, 64, 65, 66, 67, 68, 69, 70, 71, 72, 73, 74, 75, 76, 77, 78, 79, 80, 81, 82, 83, 84, 85, 86, 87, 88, 89, 90, 91, 92, 93, 94, 95, 96, 97, 98, 99, 100, 101, 102, 103, 104, 105, 106] (by decide +kernel) (by decide +kernel)
set_option maxRecDepth 20000 in
theorem gX6_tell_X6_twins : GoodIn wsX6_tell (wsV RX6 310 RX6 yX6_twins wsX6_twins) := goodIn_app (goodIn_of _ (by decide +kernel)) ggX6_tell_X6_twins
theorem dX6_tell_0 : decode cX6_tell 0 = .ok (.aload_n 0, 1) := by decide +kernel
theorem dX6_tell_1 : decode cX6_tell 1 = .ok (.iconst 0, 1) := by decide +kernel
theorem dX6_tell_2 : decode cX6_tell 2 = .ok (.putfield 129, 3) := by decide +kernel
theorem dX6_tell_5 : decode cX6_tell 5 = .ok (.aload_n 0, 1) := by decide +kernel
theorem dX6_tell_6 : decode cX6_tell 6 = .ok (.iload_n 1, 1) := by decide +kernel
theorem dX6_tell_7 : decode cX6_tell 7 = .ok (.invokevirtual 149, 3) := by decide +kernel
theorem dX6_tell_10 : decode cX6_tell 10 = .ok (.ifCond .ne 5, 3) := by decide +kernel
theorem dX6_tell_13 : decode cX6_tell 13 = .ok (.iconst (-1), 1) := by decide +kernel
theorem dX6_tell_14 : decode cX6_tell 14 = .ok (.ireturn, 1) := by decide +kernel
theorem dX6_tell_15 : decode cX6_tell 15 = .ok (.iload_n 2, 1) := by decide +kernel
theorem dX6_tell_16 : decode cX6_tell 16 = .ok (.tableswitch 127 0 11 #[64, 64, 64, 64, 64, 64, 71, 77, 83, 103, 111, 119], 64) := by decide +kernel
theorem dX6_tell_80 : decode cX6_tell 80 = .ok (.aload_n 0, 1) := by decide +kernel
theorem dX6_tell_81 : decode cX6_tell 81 = .ok (.iload_n 1, 1) := by decide +kernel
theorem dX6_tell_82 : decode cX6_tell 82 = .ok (.iload_n 2, 1) := by decide +kernel
theorem dX6_tell_83 : decode cX6_tell 83 = .ok (.invokevirtual 153, 3) := by decide +kernel
theorem dX6_tell_86 : decode cX6_tell 86 = .ok (.ireturn, 1) := by decide +kernel
theorem dX6_tell_87 : decode cX6_tell 87 = .ok (.aload_n 0, 1) := by decide +kernel
theorem dX6_tell_88 : decode cX6_tell 88 = .ok (.iload_n 1, 1) := by decide +kernel
theorem dX6_tell_89 : decode cX6_tell 89 = .ok (.invokevirtual 293, 3) := by decide +kernel
theorem dX6_tell_92 : decode cX6_tell 92 = .ok (.ireturn, 1) := by decide +kernel
theorem dX6_tell_93 : decode cX6_tell 93 = .ok (.aload_n 0, 1) := by decide +kernel
theorem dX6_tell_94 : decode cX6_tell 94 = .ok (.iload_n 1, 1) := by decide +kernel
theorem dX6_tell_95 : decode cX6_tell 95 = .ok (.invokevirtual 290, 3) := by decide +kernel
theorem dX6_tell_98 : decode cX6_tell 98 = .ok (.ireturn, 1) := by decide +kernel
theorem dX6_tell_99 : decode cX6_tell 99 = .ok (.aload_n 0, 1) := by decide +kernel
theorem dX6_tell_100 : decode cX6_tell 100 = .ok (.iload_n 1, 1) := by decide +kernel
theorem dX6_tell_101 : decode cX6_tell 101 = .ok (.iconst 2, 1) := by decide +kernel
theorem dX6_tell_102 : decode cX6_tell 102 = .ok (.invokevirtual 307, 3) := by decide +kernel
theorem dX6_tell_105 : decode cX6_tell 105 = .ok (.ifCond .eq 7, 3) := by decide +kernel
theorem dX6_tell_108 : decode cX6_tell 108 = .ok (.iconst 0, 1) := by decide +kernel
theorem dX6_tell_109 : decode cX6_tell 109 = .ok (.goto 9, 3) := by decide +kernel
theorem dX6_tell_112 : decode cX6_tell 112 = .ok (.aload_n 0, 1) := by decide +kernel
theorem dX6_tell_113 : decode cX6_tell 113 = .ok (.iload_n 1, 1) := by decide +kernel
theorem dX6_tell_114 : decode cX6_tell 114 = .ok (.iconst (-1), 1) := by decide +kernel
theorem dX6_tell_115 : decode cX6_tell 115 = .ok (.invokevirtual 310, 3) := by decide +kernel
theorem dX6_tell_118 : decode cX6_tell 118 = .ok (.ireturn, 1) := by decide +kernel
theorem dX6_tell_119 : decode cX6_tell 119 = .ok (.aload_n 0, 1) := by decide +kernel
theorem dX6_tell_120 : decode cX6_tell 120 = .ok (.iload_n 1, 1) := by decide +kernel
theorem dX6_tell_121 : decode cX6_tell 121 = .ok (.bipush 7, 2) := by decide +kernel
theorem dX6_tell_123 : decode cX6_tell 123 = .ok (.invokevirtual 153, 3) := by decide +kernel
theorem dX6_tell_126 : decode cX6_tell 126 = .ok (.ireturn, 1) := by decide +kernel
theorem dX6_tell_127 : decode cX6_tell 127 = .ok (.aload_n 0, 1) := by decide +kernel
theorem dX6_tell_128 : decode cX6_tell 128 = .ok (.iload_n 1, 1) := by decide +kernel
theorem dX6_tell_129 : decode cX6_tell 129 = .ok (.bipush 8, 2) := by decide +kernel
theorem dX6_tell_131 : decode cX6_tell 131 = .ok (.invokevirtual 153, 3) := by decide +kernel
theorem dX6_tell_134 : decode cX6_tell 134 = .ok (.ireturn, 1) := by decide +kernel
theorem dX6_tell_135 : decode cX6_tell 135 = .ok (.aload_n 0, 1) := by decide +kernel
theorem dX6_tell_136 : decode cX6_tell 136 = .ok (.iload_n 1, 1) := by decide +kernel
theorem dX6_tell_137 : decode cX6_tell 137 = .ok (.bipush 9, 2) := by decide +kernel
theorem dX6_tell_139 : decode cX6_tell 139 = .ok (.invokevirtual 153, 3) := by decide +kernel
theorem dX6_tell_142 : decode cX6_tell 142 = .ok (.ireturn, 1) := by decide +kernel
theorem dX6_tell_143 : decode cX6_tell 143 = .ok (.iconst (-1), 1) := by decide +kernel
theorem dX6_tell_144 : decode cX6_tell 144 = .ok (.ireturn, 1) := by decide +kernel
set_option maxRecDepth 20000 in
theorem ggX6_sumOf_X6_of : GoodIn wsX6_sumOf wsX6_of := goodIn_r _ [7, 8, 9, 10, 11, 12, 13, 14, 15, 16, 17, 18, 19, 20, 21, 22, 23, 24, 25, 26, 27, 28, 29, 30, 31, 32, 33, 34, 35, 36, 37, 38, 39, 40, 41, 42, 43, 44, 45, 46, 47, 48, 49, 50, 51, 52, 53, 54, 55, 56, 57, 58] (by decide +kernel) (by decide +kernel)
set_option maxRecDepth 20000 in
theorem gX6_sumOf_X6_of : GoodIn wsX6_sumOf (wsV RX6 153 RX6 yX6_of wsX6_of) := goodIn_app (goodIn_of _ (by decide +kernel)) ggX6_sumOf_X6_of
theorem dX6_sumOf_0 : decode cX6_sumOf 0 = .ok (.lconst 0, 1) := by decide +kernel
theorem dX6_sumOf_1 : decode cX6_sumOf 1 = .ok (.lstore_n 3, 1) := by decide +kernel
theorem dX6_sumOf_2 : decode cX6_sumOf 2 = .ok (.iconst 0, 1) := by decide +kernel
theorem dX6_sumOf_3 : decode cX6_sumOf 3 = .ok (.istore 5, 2) := by decide +kernel
theorem dX6_sumOf_5 : decode cX6_sumOf 5 = .ok (.iload 5, 2) := by decide +kernel
theorem dX6_sumOf_7 : decode cX6_sumOf 7 = .ok (.iload_n 2, 1) := by decide +kernel
theorem dX6_sumOf_8 : decode cX6_sumOf 8 = .ok (.iconst 3, 1) := by decide +kernel
theorem dX6_sumOf_9 : decode cX6_sumOf 9 = .ok (.if_icmp .ne 13, 3) := by decide +kernel
theorem dX6_sumOf_12 : decode cX6_sumOf 12 = .ok (.aload_n 0, 1) := by decide +kernel
theorem dX6_sumOf_13 : decode cX6_sumOf 13 = .ok (.iload_n 1, 1) := by decide +kernel
theorem dX6_sumOf_14 : decode cX6_sumOf 14 = .ok (.bipush 8, 2) := by decide +kernel
theorem dX6_sumOf_16 : decode cX6_sumOf 16 = .ok (.invokevirtual 153, 3) := by decide +kernel
theorem dX6_sumOf_19 : decode cX6_sumOf 19 = .ok (.goto 10, 3) := by decide +kernel
theorem dX6_sumOf_22 : decode cX6_sumOf 22 = .ok (.aload_n 0, 1) := by decide +kernel
theorem dX6_sumOf_23 : decode cX6_sumOf 23 = .ok (.iload_n 1, 1) := by decide +kernel
theorem dX6_sumOf_24 : decode cX6_sumOf 24 = .ok (.bipush 9, 2) := by decide +kernel
theorem dX6_sumOf_26 : decode cX6_sumOf 26 = .ok (.invokevirtual 153, 3) := by decide +kernel
theorem dX6_sumOf_29 : decode cX6_sumOf 29 = .ok (.if_icmp .ge 42, 3) := by decide +kernel
theorem dX6_sumOf_32 : decode cX6_sumOf 32 = .ok (.lload_n 3, 1) := by decide +kernel
theorem dX6_sumOf_33 : decode cX6_sumOf 33 = .ok (.iload_n 2, 1) := by decide +kernel
theorem dX6_sumOf_34 : decode cX6_sumOf 34 = .ok (.iconst 3, 1) := by decide +kernel
theorem dX6_sumOf_35 : decode cX6_sumOf 35 = .ok (.if_icmp .ne 17, 3) := by decide +kernel
theorem dX6_sumOf_38 : decode cX6_sumOf 38 = .ok (.aload_n 0, 1) := by decide +kernel
theorem dX6_sumOf_39 : decode cX6_sumOf 39 = .ok (.getfield 55, 3) := by decide +kernel
theorem dX6_sumOf_42 : decode cX6_sumOf 42 = .ok (.iconst 4, 1) := by decide +kernel
theorem dX6_sumOf_43 : decode cX6_sumOf 43 = .ok (.iload_n 1, 1) := by decide +kernel
theorem dX6_sumOf_44 : decode cX6_sumOf 44 = .ok (.imul, 1) := by decide +kernel
theorem dX6_sumOf_45 : decode cX6_sumOf 45 = .ok (.iload 5, 2) := by decide +kernel
theorem dX6_sumOf_47 : decode cX6_sumOf 47 = .ok (.iadd, 1) := by decide +kernel
theorem dX6_sumOf_48 : decode cX6_sumOf 48 = .ok (.laload, 1) := by decide +kernel
theorem dX6_sumOf_49 : decode cX6_sumOf 49 = .ok (.goto 14, 3) := by decide +kernel
theorem dX6_sumOf_52 : decode cX6_sumOf 52 = .ok (.aload_n 0, 1) := by decide +kernel
theorem dX6_sumOf_53 : decode cX6_sumOf 53 = .ok (.getfield 61, 3) := by decide +kernel
theorem dX6_sumOf_56 : decode cX6_sumOf 56 = .ok (.iconst 4, 1) := by decide +kernel
theorem dX6_sumOf_57 : decode cX6_sumOf 57 = .ok (.iload_n 1, 1) := by decide +kernel
theorem dX6_sumOf_58 : decode cX6_sumOf 58 = .ok (.imul, 1) := by decide +kernel
theorem dX6_sumOf_59 : decode cX6_sumOf 59 = .ok (.iload 5, 2) := by decide +kernel
theorem dX6_sumOf_61 : decode cX6_sumOf 61 = .ok (.iadd, 1) := by decide +kernel
theorem dX6_sumOf_62 : decode cX6_sumOf 62 = .ok (.laload, 1) := by decide +kernel
theorem dX6_sumOf_63 : decode cX6_sumOf 63 = .ok (.ladd, 1) := by decide +kernel
theorem dX6_sumOf_64 : decode cX6_sumOf 64 = .ok (.lstore_n 3, 1) := by decide +kernel
theorem dX6_sumOf_65 : decode cX6_sumOf 65 = .ok (.iinc 5 1, 3) := by decide +kernel
theorem dX6_sumOf_68 : decode cX6_sumOf 68 = .ok (.goto (-63), 3) := by decide +kernel
theorem dX6_sumOf_71 : decode cX6_sumOf 71 = .ok (.lload_n 3, 1) := by decide +kernel
theorem dX6_sumOf_72 : decode cX6_sumOf 72 = .ok (.lreturn, 1) := by decide +kernel
set_option maxRecDepth 20000 in
theorem ggX6_money_X6_isClaim : GoodIn wsX6_money wsX6_isClaim := goodIn_r _ [12, 13, 14, 15, 11, 16, 68, 69, 70, 71, 72, 73, 74, 75, 76, 77, 78, 79, 80, 81, 82, 83, 84, 85, 86, 87, 88, 89, 90, 91, 92, 93, 94, 95, 96, 97, 98, 99, 100, 101, 102, 103, 104, 105, 106, 107, 108, 109, 110, 111, 112, 113, 114, 115, 116, 117] (by decide +kernel) (by decide +kernel)
set_option maxRecDepth 20000 in
theorem gX6_money_X6_isClaim : GoodIn wsX6_money (wsV RX6 149 RX6 yX6_isClaim wsX6_isClaim) := goodIn_app (goodIn_of _ (by decide +kernel)) ggX6_money_X6_isClaim
set_option maxRecDepth 20000 in
theorem ggX6_money_X6_all : GoodIn wsX6_money wsX6_all := goodIn_r _ [20, 13, 21, 22, 23, 11, 24, 25, 26, 27, 28, 29, 30, 31, 32, 33, 34, 35, 36, 37, 38, 39, 40, 41, 42, 43, 44, 45, 46, 47, 48, 49, 50, 51, 52, 53, 68, 69, 70, 71, 72, 73, 74, 75, 76, 77, 78, 79, 80, 81, 82, 83, 84, 85, 86, 87, 88, 89, 90, 91, 92, 93, 94, 95, 96, 97, 98, 99, 100, 101, 102, 103, 104, 105, 106, 107, 108, 109, 110, 111, 112, 113, 114, 115, 116, 117] (by decide +kernel) (by decide +kernel)
set_option maxRecDepth 20000 in
theorem gX6_money_X6_all : GoodIn wsX6_money (wsV RX6 296 RX6 yX6_all wsX6_all) := goodIn_app (goodIn_of _ (by decide +kernel)) ggX6_money_X6_all
set_option maxRecDepth 20000 in
theorem ggX6_money_X6_worst : GoodIn wsX6_money wsX6_worst := goodIn_r _ [57, 58, 59, 60, 61, 11, 62, 63, 25, 26, 27, 28, 29, 30, 31, 32, 33, 34, 35, 36, 37, 38, 39, 40, 41, 42, 43, 44, 45, 46, 47, 48, 49, 50, 51, 52, 53, 68, 69, 70, 71, 72, 73, 74, 75, 76, 77, 78, 79, 80, 81, 82, 83, 84, 85, 86, 87, 88, 89, 90, 91, 92, 93, 94, 95, 96, 97, 98, 99, 100, 101, 102, 103, 104, 105, 106, 107, 108, 109, 110, 111, 112, 113, 114, 115, 116, 117] (by decide +kernel) (by decide +kernel)
set_option maxRecDepth 20000 in
theorem gX6_money_X6_worst : GoodIn wsX6_money (wsV RX6 299 RX6 yX6_worst wsX6_worst) := goodIn_app (goodIn_of _ (by decide +kernel)) ggX6_money_X6_worst
set_option maxRecDepth 20000 in
theorem ggX6_money_X6_sumOf : GoodIn wsX6_money wsX6_sumOf := goodIn_r _ [67, 6, 7, 25, 26, 27, 11, 28, 29, 68, 69, 70, 71, 72, 73, 74, 75, 76, 77, 78, 79, 80, 81, 82, 83, 84, 85, 86, 87, 88, 89, 90, 91, 92, 93, 94, 95, 96, 97, 98, 99, 100, 101, 102, 103, 104, 105, 106, 107, 108, 109, 110, 111, 112, 113, 114, 115, 116, 117] (by decide +kernel) (by decide +kernel)
set_option maxRecDepth 20000 in
theorem gX6_money_X6_sumOf : GoodIn wsX6_money (wsV RX6 316 RX6 yX6_sumOf wsX6_sumOf) := goodIn_app (goodIn_of _ (by decide +kernel)) ggX6_money_X6_sumOf
set_option maxRecDepth 20000 in
theorem ggX6_money_X6_of : GoodIn wsX6_money wsX6_of := goodIn_r _ [28, 29, 68, 69, 70, 71, 72, 73, 74, 75, 76, 77, 78, 79, 80, 81, 82, 83, 84, 85, 86, 87, 88, 89, 90, 91, 92, 93, 94, 95, 96, 97, 98, 99, 100, 101, 102, 103, 104, 105, 106, 107, 108, 109, 110, 111, 112, 113, 114, 115, 116, 117] (by decide +kernel) (by decide +kernel)
set_option maxRecDepth 20000 in
theorem gX6_money_X6_of : GoodIn wsX6_money (wsV RX6 153 RX6 yX6_of wsX6_of) := goodIn_app (goodIn_of _ (by decide +kernel)) ggX6_money_X6_of
set_option maxRecDepth 20000 in
theorem ggX6_money_X6_in : GoodIn wsX6_money wsX6_in := goodIn_r _ [16] (by decide +kernel) (by decide +kernel)
set_option maxRecDepth 20000 in
theorem gX6_money_X6_in : GoodIn wsX6_money (va_wsS RX6 145 yX6_in wsX6_in) := goodIn_app (goodIn_of _ (by decide +kernel)) ggX6_money_X6_in
theorem dX6_money_0 : decode cX6_money 0 = .ok (.aload_n 0, 1) := by decide +kernel
theorem dX6_money_1 : decode cX6_money 1 = .ok (.iconst 0, 1) := by decide +kernel
theorem dX6_money_2 : decode cX6_money 2 = .ok (.putfield 129, 3) := by decide +kernel
theorem dX6_money_5 : decode cX6_money 5 = .ok (.aload_n 0, 1) := by decide +kernel
theorem dX6_money_6 : decode cX6_money 6 = .ok (.iload_n 1, 1) := by decide +kernel
theorem dX6_money_7 : decode cX6_money 7 = .ok (.invokevirtual 149, 3) := by decide +kernel
theorem dX6_money_10 : decode cX6_money 10 = .ok (.ifCond .ne 7, 3) := by decide +kernel
theorem dX6_money_13 : decode cX6_money 13 = .ok (.ldc2_w 314, 3) := by decide +kernel
theorem dX6_money_16 : decode cX6_money 16 = .ok (.lreturn, 1) := by decide +kernel
theorem dX6_money_17 : decode cX6_money 17 = .ok (.iload_n 2, 1) := by decide +kernel
theorem dX6_money_18 : decode cX6_money 18 = .ok (.tableswitch 76 0 5 #[38, 48, 55, 62, 62, 69], 38) := by decide +kernel
theorem dX6_money_56 : decode cX6_money 56 = .ok (.aload_n 0, 1) := by decide +kernel
theorem dX6_money_57 : decode cX6_money 57 = .ok (.iload_n 1, 1) := by decide +kernel
theorem dX6_money_58 : decode cX6_money 58 = .ok (.aload_n 0, 1) := by decide +kernel
theorem dX6_money_59 : decode cX6_money 59 = .ok (.invokevirtual 296, 3) := by decide +kernel
theorem dX6_money_62 : decode cX6_money 62 = .ok (.invokevirtual 299, 3) := by decide +kernel
theorem dX6_money_65 : decode cX6_money 65 = .ok (.lreturn, 1) := by decide +kernel
theorem dX6_money_66 : decode cX6_money 66 = .ok (.aload_n 0, 1) := by decide +kernel
theorem dX6_money_67 : decode cX6_money 67 = .ok (.getfield 40, 3) := by decide +kernel
theorem dX6_money_70 : decode cX6_money 70 = .ok (.iload_n 1, 1) := by decide +kernel
theorem dX6_money_71 : decode cX6_money 71 = .ok (.laload, 1) := by decide +kernel
theorem dX6_money_72 : decode cX6_money 72 = .ok (.lreturn, 1) := by decide +kernel
theorem dX6_money_73 : decode cX6_money 73 = .ok (.aload_n 0, 1) := by decide +kernel
theorem dX6_money_74 : decode cX6_money 74 = .ok (.getfield 43, 3) := by decide +kernel
theorem dX6_money_77 : decode cX6_money 77 = .ok (.iload_n 1, 1) := by decide +kernel
theorem dX6_money_78 : decode cX6_money 78 = .ok (.laload, 1) := by decide +kernel
theorem dX6_money_79 : decode cX6_money 79 = .ok (.lreturn, 1) := by decide +kernel
theorem dX6_money_80 : decode cX6_money 80 = .ok (.aload_n 0, 1) := by decide +kernel
theorem dX6_money_81 : decode cX6_money 81 = .ok (.iload_n 1, 1) := by decide +kernel
theorem dX6_money_82 : decode cX6_money 82 = .ok (.iload_n 2, 1) := by decide +kernel
theorem dX6_money_83 : decode cX6_money 83 = .ok (.invokevirtual 316, 3) := by decide +kernel
theorem dX6_money_86 : decode cX6_money 86 = .ok (.lreturn, 1) := by decide +kernel
theorem dX6_money_87 : decode cX6_money 87 = .ok (.aload_n 0, 1) := by decide +kernel
theorem dX6_money_88 : decode cX6_money 88 = .ok (.getfield 46, 3) := by decide +kernel
theorem dX6_money_91 : decode cX6_money 91 = .ok (.iload_n 1, 1) := by decide +kernel
theorem dX6_money_92 : decode cX6_money 92 = .ok (.laload, 1) := by decide +kernel
theorem dX6_money_93 : decode cX6_money 93 = .ok (.lreturn, 1) := by decide +kernel
theorem dX6_money_94 : decode cX6_money 94 = .ok (.iload_n 2, 1) := by decide +kernel
theorem dX6_money_95 : decode cX6_money 95 = .ok (.bipush 10, 2) := by decide +kernel
theorem dX6_money_97 : decode cX6_money 97 = .ok (.bipush 9, 2) := by decide +kernel
theorem dX6_money_99 : decode cX6_money 99 = .ok (.aload_n 0, 1) := by decide +kernel
theorem dX6_money_100 : decode cX6_money 100 = .ok (.iload_n 1, 1) := by decide +kernel
theorem dX6_money_101 : decode cX6_money 101 = .ok (.bipush 8, 2) := by decide +kernel
theorem dX6_money_103 : decode cX6_money 103 = .ok (.invokevirtual 153, 3) := by decide +kernel
theorem dX6_money_106 : decode cX6_money 106 = .ok (.iadd, 1) := by decide +kernel
theorem dX6_money_107 : decode cX6_money 107 = .ok (.invokestatic 145, 3) := by decide +kernel
theorem dX6_money_110 : decode cX6_money 110 = .ok (.ifCond .eq 17, 3) := by decide +kernel
theorem dX6_money_113 : decode cX6_money 113 = .ok (.aload_n 0, 1) := by decide +kernel
theorem dX6_money_114 : decode cX6_money 114 = .ok (.getfield 55, 3) := by decide +kernel
theorem dX6_money_117 : decode cX6_money 117 = .ok (.iconst 4, 1) := by decide +kernel
theorem dX6_money_118 : decode cX6_money 118 = .ok (.iload_n 1, 1) := by decide +kernel
theorem dX6_money_119 : decode cX6_money 119 = .ok (.imul, 1) := by decide +kernel
theorem dX6_money_120 : decode cX6_money 120 = .ok (.iload_n 2, 1) := by decide +kernel
theorem dX6_money_121 : decode cX6_money 121 = .ok (.iadd, 1) := by decide +kernel
theorem dX6_money_122 : decode cX6_money 122 = .ok (.bipush 10, 2) := by decide +kernel
theorem dX6_money_124 : decode cX6_money 124 = .ok (.isub, 1) := by decide +kernel
theorem dX6_money_125 : decode cX6_money 125 = .ok (.laload, 1) := by decide +kernel
theorem dX6_money_126 : decode cX6_money 126 = .ok (.lreturn, 1) := by decide +kernel
