theorem dX12_handOn_232 : decode cX12_handOn 232 = .ok (.ladd, 1) := by decide +kernel
theorem dX12_handOn_233 : decode cX12_handOn 233 = .ok (.lastore, 1) := by decide +kernel
theorem dX12_handOn_234 : decode cX12_handOn 234 = .ok (.iinc 9 1, 3) := by decide +kernel
theorem dX12_handOn_237 : decode cX12_handOn 237 = .ok (.goto (-88), 3) := by decide +kernel
theorem dX12_handOn_240 : decode cX12_handOn 240 = .ok (.goto (-209), 3) := by decide +kernel
theorem dX12_handOn_243 : decode cX12_handOn 243 = .ok (.return_, 1) := by decide +kernel
set_option maxRecDepth 20000 in
theorem ggX12_goYear_X12_handOn : GoodIn wsX12_goYear wsX12_handOn := goodIn_r _ [8, 9, 10, 3, 11, 1, 12, 2, 13, 14, 15, 7, 16, 17, 18, 19, 20, 21, 22, 23, 24, 25, 26, 27, 28, 29, 30, 31, 32, 33, 34, 35, 36, 37, 38, 39, 40, 41, 42, 43, 44, 45, 46, 47, 48, 49, 50, 51, 52, 53, 54, 55, 56, 57, 58] (by decide +kernel) (by decide +kernel)
set_option maxRecDepth 20000 in
theorem gX12_goYear_X12_handOn : GoodIn wsX12_goYear (wsV RX12 241 RX12 yX12_handOn wsX12_handOn) := goodIn_app (goodIn_of _ (by decide +kernel)) ggX12_goYear_X12_handOn
theorem dX12_goYear_0 : decode cX12_goYear 0 = .ok (.iconst 0, 1) := by decide +kernel
theorem dX12_goYear_1 : decode cX12_goYear 1 = .ok (.istore_n 2, 1) := by decide +kernel
theorem dX12_goYear_2 : decode cX12_goYear 2 = .ok (.iload_n 2, 1) := by decide +kernel
theorem dX12_goYear_3 : decode cX12_goYear 3 = .ok (.aload_n 0, 1) := by decide +kernel
theorem dX12_goYear_4 : decode cX12_goYear 4 = .ok (.getfield 175, 3) := by decide +kernel
theorem dX12_goYear_7 : decode cX12_goYear 7 = .ok (.if_icmp .ge 36, 3) := by decide +kernel
theorem dX12_goYear_10 : decode cX12_goYear 10 = .ok (.aload_n 0, 1) := by decide +kernel
theorem dX12_goYear_11 : decode cX12_goYear 11 = .ok (.getfield 34, 3) := by decide +kernel
theorem dX12_goYear_14 : decode cX12_goYear 14 = .ok (.iload_n 2, 1) := by decide +kernel
theorem dX12_goYear_15 : decode cX12_goYear 15 = .ok (.iaload, 1) := by decide +kernel
theorem dX12_goYear_16 : decode cX12_goYear 16 = .ok (.iload_n 1, 1) := by decide +kernel
theorem dX12_goYear_17 : decode cX12_goYear 17 = .ok (.if_icmp .ne 20, 3) := by decide +kernel
theorem dX12_goYear_20 : decode cX12_goYear 20 = .ok (.aload_n 0, 1) := by decide +kernel
theorem dX12_goYear_21 : decode cX12_goYear 21 = .ok (.getfield 79, 3) := by decide +kernel
theorem dX12_goYear_24 : decode cX12_goYear 24 = .ok (.iload_n 2, 1) := by decide +kernel
theorem dX12_goYear_25 : decode cX12_goYear 25 = .ok (.laload, 1) := by decide +kernel
theorem dX12_goYear_26 : decode cX12_goYear 26 = .ok (.lconst 0, 1) := by decide +kernel
theorem dX12_goYear_27 : decode cX12_goYear 27 = .ok (.lcmp, 1) := by decide +kernel
theorem dX12_goYear_28 : decode cX12_goYear 28 = .ok (.ifCond .le 9, 3) := by decide +kernel
theorem dX12_goYear_31 : decode cX12_goYear 31 = .ok (.aload_n 0, 1) := by decide +kernel
theorem dX12_goYear_32 : decode cX12_goYear 32 = .ok (.iload_n 2, 1) := by decide +kernel
theorem dX12_goYear_33 : decode cX12_goYear 33 = .ok (.iload_n 1, 1) := by decide +kernel
theorem dX12_goYear_34 : decode cX12_goYear 34 = .ok (.invokevirtual 241, 3) := by decide +kernel
theorem dX12_goYear_37 : decode cX12_goYear 37 = .ok (.iinc 2 1, 3) := by decide +kernel
theorem dX12_goYear_40 : decode cX12_goYear 40 = .ok (.goto (-38), 3) := by decide +kernel
theorem dX12_goYear_43 : decode cX12_goYear 43 = .ok (.return_, 1) := by decide +kernel
set_option maxRecDepth 20000 in
theorem ggX12_shares_X12_isBlock : GoodIn wsX12_shares wsX12_isBlock := goodIn_r _ [8, 9, 10, 11, 7, 12, 39, 40, 41, 42, 43, 44, 45, 46, 47, 48, 49, 50, 51, 52, 53, 54, 55, 56, 57, 58, 59, 60, 61, 62, 63, 64, 65, 66, 67, 68, 69, 70, 71, 72, 73, 74, 75, 76, 77, 78] (by decide +kernel) (by decide +kernel)
set_option maxRecDepth 20000 in
theorem gX12_shares_X12_isBlock : GoodIn wsX12_shares (wsV RX12 201 RX12 yX12_isBlock wsX12_isBlock) := goodIn_app (goodIn_of _ (by decide +kernel)) ggX12_shares_X12_isBlock
set_option maxRecDepth 20000 in
theorem ggX12_shares_X12_isKin : GoodIn wsX12_shares wsX12_isKin := goodIn_r _ [15, 16, 10, 11, 7, 12] (by decide +kernel) (by decide +kernel)
set_option maxRecDepth 20000 in
theorem gX12_shares_X12_isKin : GoodIn wsX12_shares (va_wsS RX12 184 yX12_isKin wsX12_isKin) := goodIn_app (goodIn_of _ (by decide +kernel)) ggX12_shares_X12_isKin
set_option maxRecDepth 20000 in
theorem ggX12_shares_X12_isYear : GoodIn wsX12_shares wsX12_isYear := goodIn_r _ [19, 20, 10, 11, 7, 12] (by decide +kernel) (by decide +kernel)
set_option maxRecDepth 20000 in
theorem gX12_shares_X12_isYear : GoodIn wsX12_shares (va_wsS RX12 107 yX12_isYear wsX12_isYear) := goodIn_app (goodIn_of _ (by decide +kernel)) ggX12_shares_X12_isYear
set_option maxRecDepth 20000 in
theorem ggX12_shares_X12_beginShares : GoodIn wsX12_shares wsX12_beginShares := goodIn_r _ [24, 1, 25, 26, 27, 28, 29, 30, 31, 7, 32, 33, 34, 35, 36, 37, 38, 39, 40, 41, 42, 43, 44, 45, 46, 47, 48, 49, 50, 51, 52, 53, 54, 55, 56, 57, 58, 59, 60, 61, 62, 63, 64, 65, 66, 67, 68, 69, 70, 71, 72, 73, 74, 75, 76, 77, 78] (by decide +kernel) (by decide +kernel)
set_option maxRecDepth 20000 in
theorem gX12_shares_X12_beginShares : GoodIn wsX12_shares (wsV RX12 245 RX12 yX12_beginShares wsX12_beginShares) := goodIn_app (goodIn_of _ (by decide +kernel)) ggX12_shares_X12_beginShares
theorem dX12_shares_0 : decode cX12_shares 0 = .ok (.aload_n 0, 1) := by decide +kernel
theorem dX12_shares_1 : decode cX12_shares 1 = .ok (.iload_n 1, 1) := by decide +kernel
theorem dX12_shares_2 : decode cX12_shares 2 = .ok (.invokevirtual 201, 3) := by decide +kernel
theorem dX12_shares_5 : decode cX12_shares 5 = .ok (.ifCond .eq 17, 3) := by decide +kernel
theorem dX12_shares_8 : decode cX12_shares 8 = .ok (.iload_n 2, 1) := by decide +kernel
theorem dX12_shares_9 : decode cX12_shares 9 = .ok (.invokestatic 184, 3) := by decide +kernel
theorem dX12_shares_12 : decode cX12_shares 12 = .ok (.ifCond .eq 10, 3) := by decide +kernel
theorem dX12_shares_15 : decode cX12_shares 15 = .ok (.iload_n 3, 1) := by decide +kernel
theorem dX12_shares_16 : decode cX12_shares 16 = .ok (.invokestatic 107, 3) := by decide +kernel
theorem dX12_shares_19 : decode cX12_shares 19 = .ok (.ifCond .ne 5, 3) := by decide +kernel
theorem dX12_shares_22 : decode cX12_shares 22 = .ok (.iconst (-1), 1) := by decide +kernel
theorem dX12_shares_23 : decode cX12_shares 23 = .ok (.ireturn, 1) := by decide +kernel
theorem dX12_shares_24 : decode cX12_shares 24 = .ok (.aload_n 0, 1) := by decide +kernel
theorem dX12_shares_25 : decode cX12_shares 25 = .ok (.iload_n 2, 1) := by decide +kernel
theorem dX12_shares_26 : decode cX12_shares 26 = .ok (.iload_n 3, 1) := by decide +kernel
theorem dX12_shares_27 : decode cX12_shares 27 = .ok (.invokevirtual 245, 3) := by decide +kernel
theorem dX12_shares_30 : decode cX12_shares 30 = .ok (.aload_n 0, 1) := by decide +kernel
theorem dX12_shares_31 : decode cX12_shares 31 = .ok (.getfield 223, 3) := by decide +kernel
theorem dX12_shares_34 : decode cX12_shares 34 = .ok (.ifCond .ne 6, 3) := by decide +kernel
theorem dX12_shares_37 : decode cX12_shares 37 = .ok (.bipush (-2), 2) := by decide +kernel
theorem dX12_shares_39 : decode cX12_shares 39 = .ok (.ireturn, 1) := by decide +kernel
theorem dX12_shares_40 : decode cX12_shares 40 = .ok (.aload_n 0, 1) := by decide +kernel
theorem dX12_shares_41 : decode cX12_shares 41 = .ok (.getfield 55, 3) := by decide +kernel
theorem dX12_shares_44 : decode cX12_shares 44 = .ok (.iload_n 1, 1) := by decide +kernel
theorem dX12_shares_45 : decode cX12_shares 45 = .ok (.iload_n 2, 1) := by decide +kernel
theorem dX12_shares_46 : decode cX12_shares 46 = .ok (.iastore, 1) := by decide +kernel
theorem dX12_shares_47 : decode cX12_shares 47 = .ok (.aload_n 0, 1) := by decide +kernel
theorem dX12_shares_48 : decode cX12_shares 48 = .ok (.getfield 58, 3) := by decide +kernel
theorem dX12_shares_51 : decode cX12_shares 51 = .ok (.iload_n 1, 1) := by decide +kernel
theorem dX12_shares_52 : decode cX12_shares 52 = .ok (.iload_n 3, 1) := by decide +kernel
theorem dX12_shares_53 : decode cX12_shares 53 = .ok (.iastore, 1) := by decide +kernel
theorem dX12_shares_54 : decode cX12_shares 54 = .ok (.aload_n 0, 1) := by decide +kernel
theorem dX12_shares_55 : decode cX12_shares 55 = .ok (.getfield 223, 3) := by decide +kernel
theorem dX12_shares_58 : decode cX12_shares 58 = .ok (.ireturn, 1) := by decide +kernel
set_option maxRecDepth 20000 in
theorem ggX12_share_X12_isBlock : GoodIn wsX12_share wsX12_isBlock := goodIn_r _ [11, 12, 13, 14, 10, 15, 57, 58, 59, 60, 61, 62, 63, 64, 65, 66, 67, 68, 69, 70, 71, 72, 73, 74, 75, 76, 77, 78, 79, 80, 81, 82, 83, 84, 85, 86, 87, 88, 89, 90, 91, 92, 93, 94, 95, 96] (by decide +kernel) (by decide +kernel)
set_option maxRecDepth 20000 in
theorem gX12_share_X12_isBlock : GoodIn wsX12_share (wsV RX12 201 RX12 yX12_isBlock wsX12_isBlock) := goodIn_app (goodIn_of _ (by decide +kernel)) ggX12_share_X12_isBlock
set_option maxRecDepth 20000 in
theorem ggX12_share_X12_isPerson : GoodIn wsX12_share wsX12_isPerson := goodIn_r _ [19, 20, 13, 14, 10, 15, 57, 58, 59, 60, 61, 62, 63, 64, 65, 66, 67, 68, 69, 70, 71, 72, 73, 74, 75, 76, 77, 78, 79, 80, 81, 82, 83, 84, 85, 86, 87, 88, 89, 90, 91, 92, 93, 94, 95, 96] (by decide +kernel) (by decide +kernel)
set_option maxRecDepth 20000 in
theorem gX12_share_X12_isPerson : GoodIn wsX12_share (wsV RX12 180 RX12 yX12_isPerson wsX12_isPerson) := goodIn_app (goodIn_of _ (by decide +kernel)) ggX12_share_X12_isPerson
set_option maxRecDepth 20000 in
theorem ggX12_share_X12_isYear : GoodIn wsX12_share wsX12_isYear := goodIn_r _ [23, 24, 13, 14, 10, 15] (by decide +kernel) (by decide +kernel)
set_option maxRecDepth 20000 in
theorem gX12_share_X12_isYear : GoodIn wsX12_share (va_wsS RX12 107 yX12_isYear wsX12_isYear) := goodIn_app (goodIn_of _ (by decide +kernel)) ggX12_share_X12_isYear
set_option maxRecDepth 20000 in
theorem ggX12_share_X12_beginShares : GoodIn wsX12_share wsX12_beginShares := goodIn_r _ [28, 29, 20, 30, 5, 6, 31, 32, 33, 10, 34, 35, 36, 37, 38, 39, 40, 57, 58, 59, 60, 61, 62, 63, 64, 65, 66, 67, 68, 69, 70, 71, 72, 73, 74, 75, 76, 77, 78, 79, 80, 81, 82, 83, 84, 85, 86, 87, 88, 89, 90, 91, 92, 93, 94, 95, 96] (by decide +kernel) (by decide +kernel)
set_option maxRecDepth 20000 in
theorem gX12_share_X12_beginShares : GoodIn wsX12_share (wsV RX12 245 RX12 yX12_beginShares wsX12_beginShares) := goodIn_app (goodIn_of _ (by decide +kernel)) ggX12_share_X12_beginShares
set_option maxRecDepth 20000 in
theorem ggX12_share_X12_goYear : GoodIn wsX12_share wsX12_goYear := goodIn_r _ [44, 20, 37, 6, 45, 46, 47, 10, 48, 49, 50, 51, 5, 52, 53, 54, 55, 56, 36, 57, 58, 59, 60, 61, 62, 63, 64, 65, 66, 67, 68, 69, 70, 71, 72, 73, 74, 75, 76, 77, 78, 79, 80, 81, 82, 83, 84, 85, 86, 87, 88, 89, 90, 91, 92, 93, 94, 95, 96] (by decide +kernel) (by decide +kernel)
set_option maxRecDepth 20000 in
theorem gX12_share_X12_goYear : GoodIn wsX12_share (wsV RX12 250 RX12 yX12_goYear wsX12_goYear) := goodIn_app (goodIn_of _ (by decide +kernel)) ggX12_share_X12_goYear
theorem dX12_share_0 : decode cX12_share 0 = .ok (.aload_n 0, 1) := by decide +kernel
theorem dX12_share_1 : decode cX12_share 1 = .ok (.iload_n 1, 1) := by decide +kernel
theorem dX12_share_2 : decode cX12_share 2 = .ok (.invokevirtual 201, 3) := by decide +kernel
theorem dX12_share_5 : decode cX12_share 5 = .ok (.ifCond .eq 23, 3) := by decide +kernel
theorem dX12_share_8 : decode cX12_share 8 = .ok (.iload_n 2, 1) := by decide +kernel
theorem dX12_share_9 : decode cX12_share 9 = .ok (.iconst (-1), 1) := by decide +kernel
theorem dX12_share_10 : decode cX12_share 10 = .ok (.if_icmp .eq 11, 3) := by decide +kernel
theorem dX12_share_13 : decode cX12_share 13 = .ok (.aload_n 0, 1) := by decide +kernel
theorem dX12_share_14 : decode cX12_share 14 = .ok (.iload_n 2, 1) := by decide +kernel
theorem dX12_share_15 : decode cX12_share 15 = .ok (.invokevirtual 180, 3) := by decide +kernel
theorem dX12_share_18 : decode cX12_share 18 = .ok (.ifCond .eq 10, 3) := by decide +kernel
theorem dX12_share_21 : decode cX12_share 21 = .ok (.iload_n 3, 1) := by decide +kernel
theorem dX12_share_22 : decode cX12_share 22 = .ok (.invokestatic 107, 3) := by decide +kernel
theorem dX12_share_25 : decode cX12_share 25 = .ok (.ifCond .ne 7, 3) := by decide +kernel
theorem dX12_share_28 : decode cX12_share 28 = .ok (.ldc2_w 204, 3) := by decide +kernel
theorem dX12_share_31 : decode cX12_share 31 = .ok (.lreturn, 1) := by decide +kernel
theorem dX12_share_32 : decode cX12_share 32 = .ok (.aload_n 0, 1) := by decide +kernel
theorem dX12_share_33 : decode cX12_share 33 = .ok (.getfield 55, 3) := by decide +kernel
theorem dX12_share_36 : decode cX12_share 36 = .ok (.iload_n 1, 1) := by decide +kernel
theorem dX12_share_37 : decode cX12_share 37 = .ok (.iaload, 1) := by decide +kernel
theorem dX12_share_38 : decode cX12_share 38 = .ok (.ifCond .lt 13, 3) := by decide +kernel
theorem dX12_share_41 : decode cX12_share 41 = .ok (.iload_n 3, 1) := by decide +kernel
theorem dX12_share_42 : decode cX12_share 42 = .ok (.aload_n 0, 1) := by decide +kernel
theorem dX12_share_43 : decode cX12_share 43 = .ok (.getfield 58, 3) := by decide +kernel
theorem dX12_share_46 : decode cX12_share 46 = .ok (.iload_n 1, 1) := by decide +kernel
theorem dX12_share_47 : decode cX12_share 47 = .ok (.iaload, 1) := by decide +kernel
theorem dX12_share_48 : decode cX12_share 48 = .ok (.if_icmp .ge 7, 3) := by decide +kernel
theorem dX12_share_51 : decode cX12_share 51 = .ok (.ldc2_w 248, 3) := by decide +kernel
theorem dX12_share_54 : decode cX12_share 54 = .ok (.lreturn, 1) := by decide +kernel
theorem dX12_share_55 : decode cX12_share 55 = .ok (.aload_n 0, 1) := by decide +kernel
theorem dX12_share_56 : decode cX12_share 56 = .ok (.aload_n 0, 1) := by decide +kernel
theorem dX12_share_57 : decode cX12_share 57 = .ok (.getfield 55, 3) := by decide +kernel
theorem dX12_share_60 : decode cX12_share 60 = .ok (.iload_n 1, 1) := by decide +kernel
theorem dX12_share_61 : decode cX12_share 61 = .ok (.iaload, 1) := by decide +kernel
theorem dX12_share_62 : decode cX12_share 62 = .ok (.aload_n 0, 1) := by decide +kernel
theorem dX12_share_63 : decode cX12_share 63 = .ok (.getfield 58, 3) := by decide +kernel
theorem dX12_share_66 : decode cX12_share 66 = .ok (.iload_n 1, 1) := by decide +kernel
theorem dX12_share_67 : decode cX12_share 67 = .ok (.iaload, 1) := by decide +kernel
theorem dX12_share_68 : decode cX12_share 68 = .ok (.invokevirtual 245, 3) := by decide +kernel
theorem dX12_share_71 : decode cX12_share 71 = .ok (.aload_n 0, 1) := by decide +kernel
theorem dX12_share_72 : decode cX12_share 72 = .ok (.getfield 58, 3) := by decide +kernel
theorem dX12_share_75 : decode cX12_share 75 = .ok (.iload_n 1, 1) := by decide +kernel
theorem dX12_share_76 : decode cX12_share 76 = .ok (.iaload, 1) := by decide +kernel
theorem dX12_share_77 : decode cX12_share 77 = .ok (.istore 4, 2) := by decide +kernel
theorem dX12_share_79 : decode cX12_share 79 = .ok (.iload 4, 2) := by decide +kernel
theorem dX12_share_81 : decode cX12_share 81 = .ok (.iload_n 3, 1) := by decide +kernel
theorem dX12_share_82 : decode cX12_share 82 = .ok (.if_icmp .gt 15, 3) := by decide +kernel
theorem dX12_share_85 : decode cX12_share 85 = .ok (.aload_n 0, 1) := by decide +kernel
theorem dX12_share_86 : decode cX12_share 86 = .ok (.iload 4, 2) := by decide +kernel
theorem dX12_share_88 : decode cX12_share 88 = .ok (.invokevirtual 250, 3) := by decide +kernel
theorem dX12_share_91 : decode cX12_share 91 = .ok (.iinc 4 1, 3) := by decide +kernel
theorem dX12_share_94 : decode cX12_share 94 = .ok (.goto (-15), 3) := by decide +kernel
theorem dX12_share_97 : decode cX12_share 97 = .ok (.iload_n 2, 1) := by decide +kernel
theorem dX12_share_98 : decode cX12_share 98 = .ok (.ifCond .ge 10, 3) := by decide +kernel
theorem dX12_share_101 : decode cX12_share 101 = .ok (.aload_n 0, 1) := by decide +kernel
theorem dX12_share_102 : decode cX12_share 102 = .ok (.getfield 231, 3) := by decide +kernel
theorem dX12_share_105 : decode cX12_share 105 = .ok (.goto 9, 3) := by decide +kernel
theorem dX12_share_108 : decode cX12_share 108 = .ok (.aload_n 0, 1) := by decide +kernel
theorem dX12_share_109 : decode cX12_share 109 = .ok (.getfield 79, 3) := by decide +kernel
theorem dX12_share_112 : decode cX12_share 112 = .ok (.iload_n 2, 1) := by decide +kernel
theorem dX12_share_113 : decode cX12_share 113 = .ok (.laload, 1) := by decide +kernel
theorem dX12_share_114 : decode cX12_share 114 = .ok (.lreturn, 1) := by decide +kernel
set_option maxRecDepth 20000 in
theorem ggX12_small_X12_isBlock : GoodIn wsX12_small wsX12_isBlock := goodIn_r _ [12, 13, 14, 15, 11, 16, 48, 49, 50, 51, 52, 53, 54, 55, 56, 57, 58, 59, 60, 61, 62, 63, 64, 65, 66, 67, 68, 69, 70, 71, 72, 73, 74, 75, 76, 77, 78, 79, 80, 81, 82, 83, 84, 85, 86, 87] (by decide +kernel) (by decide +kernel)
set_option maxRecDepth 20000 in
theorem gX12_small_X12_isBlock : GoodIn wsX12_small (wsV RX12 201 RX12 yX12_isBlock wsX12_isBlock) := goodIn_app (goodIn_of _ (by decide +kernel)) ggX12_small_X12_isBlock
set_option maxRecDepth 20000 in
theorem ggX12_small_X12_in : GoodIn wsX12_small wsX12_in := goodIn_r _ [16] (by decide +kernel) (by decide +kernel)
set_option maxRecDepth 20000 in
theorem gX12_small_X12_in : GoodIn wsX12_small (va_wsS RX12 97 yX12_in wsX12_in) := goodIn_app (goodIn_of _ (by decide +kernel)) ggX12_small_X12_in
set_option maxRecDepth 20000 in
theorem ggX12_small_X12_beginShares : GoodIn wsX12_small wsX12_beginShares := goodIn_r _ [20, 21, 4, 7, 22, 6, 23, 24, 25, 11, 26, 27, 28, 5, 29, 30, 31, 48, 49, 50, 51, 52, 53, 54, 55, 56, 57, 58, 59, 60, 61, 62, 63, 64, 65, 66, 67, 68, 69, 70, 71, 72, 73, 74, 75, 76, 77, 78, 79, 80, 81, 82, 83, 84, 85, 86, 87] (by decide +kernel) (by decide +kernel)
set_option maxRecDepth 20000 in
theorem gX12_small_X12_beginShares : GoodIn wsX12_small (wsV RX12 245 RX12 yX12_beginShares wsX12_beginShares) := goodIn_app (goodIn_of _ (by decide +kernel)) ggX12_small_X12_beginShares
set_option maxRecDepth 20000 in
theorem ggX12_small_X12_goYear : GoodIn wsX12_small wsX12_goYear := goodIn_r _ [35, 4, 5, 6, 36, 37, 38, 11, 39, 40, 41, 42, 22, 43, 44, 45, 46, 47, 28, 48, 49, 50, 51, 52, 53, 54, 55, 56, 57, 58, 59, 60, 61, 62, 63, 64, 65, 66, 67, 68, 69, 70, 71, 72, 73, 74, 75, 76, 77, 78, 79, 80, 81, 82, 83, 84, 85, 86, 87] (by decide +kernel) (by decide +kernel)
set_option maxRecDepth 20000 in
theorem gX12_small_X12_goYear : GoodIn wsX12_small (wsV RX12 250 RX12 yX12_goYear wsX12_goYear) := goodIn_app (goodIn_of _ (by decide +kernel)) ggX12_small_X12_goYear
theorem dX12_small_0 : decode cX12_small 0 = .ok (.aload_n 0, 1) := by decide +kernel
theorem dX12_small_1 : decode cX12_small 1 = .ok (.iload_n 1, 1) := by decide +kernel
theorem dX12_small_2 : decode cX12_small 2 = .ok (.invokevirtual 201, 3) := by decide +kernel
theorem dX12_small_5 : decode cX12_small 5 = .ok (.ifCond .eq 15, 3) := by decide +kernel
theorem dX12_small_8 : decode cX12_small 8 = .ok (.iload_n 2, 1) := by decide +kernel
theorem dX12_small_9 : decode cX12_small 9 = .ok (.i2l, 1) := by decide +kernel
theorem dX12_small_10 : decode cX12_small 10 = .ok (.lconst 1, 1) := by decide +kernel
theorem dX12_small_11 : decode cX12_small 11 = .ok (.ldc2_w 196, 3) := by decide +kernel
theorem dX12_small_14 : decode cX12_small 14 = .ok (.invokestatic 97, 3) := by decide +kernel
theorem dX12_small_17 : decode cX12_small 17 = .ok (.ifCond .ne 5, 3) := by decide +kernel
theorem dX12_small_20 : decode cX12_small 20 = .ok (.iconst (-1), 1) := by decide +kernel
theorem dX12_small_21 : decode cX12_small 21 = .ok (.ireturn, 1) := by decide +kernel
theorem dX12_small_22 : decode cX12_small 22 = .ok (.aload_n 0, 1) := by decide +kernel
theorem dX12_small_23 : decode cX12_small 23 = .ok (.getfield 55, 3) := by decide +kernel
theorem dX12_small_26 : decode cX12_small 26 = .ok (.iload_n 1, 1) := by decide +kernel
theorem dX12_small_27 : decode cX12_small 27 = .ok (.iaload, 1) := by decide +kernel
theorem dX12_small_28 : decode cX12_small 28 = .ok (.ifCond .ge 6, 3) := by decide +kernel
theorem dX12_small_31 : decode cX12_small 31 = .ok (.bipush (-2), 2) := by decide +kernel
theorem dX12_small_33 : decode cX12_small 33 = .ok (.ireturn, 1) := by decide +kernel
theorem dX12_small_34 : decode cX12_small 34 = .ok (.aload_n 0, 1) := by decide +kernel
theorem dX12_small_35 : decode cX12_small 35 = .ok (.aload_n 0, 1) := by decide +kernel
theorem dX12_small_36 : decode cX12_small 36 = .ok (.getfield 55, 3) := by decide +kernel
theorem dX12_small_39 : decode cX12_small 39 = .ok (.iload_n 1, 1) := by decide +kernel
theorem dX12_small_40 : decode cX12_small 40 = .ok (.iaload, 1) := by decide +kernel
theorem dX12_small_41 : decode cX12_small 41 = .ok (.aload_n 0, 1) := by decide +kernel
theorem dX12_small_42 : decode cX12_small 42 = .ok (.getfield 58, 3) := by decide +kernel
theorem dX12_small_45 : decode cX12_small 45 = .ok (.iload_n 1, 1) := by decide +kernel
theorem dX12_small_46 : decode cX12_small 46 = .ok (.iaload, 1) := by decide +kernel
theorem dX12_small_47 : decode cX12_small 47 = .ok (.invokevirtual 245, 3) := by decide +kernel
theorem dX12_small_50 : decode cX12_small 50 = .ok (.aload_n 0, 1) := by decide +kernel
theorem dX12_small_51 : decode cX12_small 51 = .ok (.getfield 58, 3) := by decide +kernel
theorem dX12_small_54 : decode cX12_small 54 = .ok (.iload_n 1, 1) := by decide +kernel
theorem dX12_small_55 : decode cX12_small 55 = .ok (.iaload, 1) := by decide +kernel
theorem dX12_small_56 : decode cX12_small 56 = .ok (.istore_n 3, 1) := by decide +kernel
theorem dX12_small_57 : decode cX12_small 57 = .ok (.iload_n 3, 1) := by decide +kernel
theorem dX12_small_58 : decode cX12_small 58 = .ok (.sipush 200, 3) := by decide +kernel
theorem dX12_small_61 : decode cX12_small 61 = .ok (.if_icmp .gt 74, 3) := by decide +kernel
theorem dX12_small_64 : decode cX12_small 64 = .ok (.aload_n 0, 1) := by decide +kernel
theorem dX12_small_65 : decode cX12_small 65 = .ok (.iload_n 3, 1) := by decide +kernel
theorem dX12_small_66 : decode cX12_small 66 = .ok (.invokevirtual 250, 3) := by decide +kernel
theorem dX12_small_69 : decode cX12_small 69 = .ok (.iconst 0, 1) := by decide +kernel
theorem dX12_small_70 : decode cX12_small 70 = .ok (.istore 4, 2) := by decide +kernel
theorem dX12_small_72 : decode cX12_small 72 = .ok (.iload 4, 2) := by decide +kernel
theorem dX12_small_74 : decode cX12_small 74 = .ok (.aload_n 0, 1) := by decide +kernel
theorem dX12_small_75 : decode cX12_small 75 = .ok (.getfield 175, 3) := by decide +kernel
theorem dX12_small_78 : decode cX12_small 78 = .ok (.if_icmp .ge 51, 3) := by decide +kernel
theorem dX12_small_81 : decode cX12_small 81 = .ok (.aload_n 0, 1) := by decide +kernel
theorem dX12_small_82 : decode cX12_small 82 = .ok (.getfield 34, 3) := by decide +kernel
theorem dX12_small_85 : decode cX12_small 85 = .ok (.iload 4, 2) := by decide +kernel
theorem dX12_small_87 : decode cX12_small 87 = .ok (.iaload, 1) := by decide +kernel
theorem dX12_small_88 : decode cX12_small 88 = .ok (.iload_n 3, 1) := by decide +kernel
theorem dX12_small_89 : decode cX12_small 89 = .ok (.if_icmp .le 34, 3) := by decide +kernel
theorem dX12_small_92 : decode cX12_small 92 = .ok (.aload_n 0, 1) := by decide +kernel
theorem dX12_small_93 : decode cX12_small 93 = .ok (.getfield 79, 3) := by decide +kernel
theorem dX12_small_96 : decode cX12_small 96 = .ok (.iload 4, 2) := by decide +kernel
theorem dX12_small_98 : decode cX12_small 98 = .ok (.laload, 1) := by decide +kernel
theorem dX12_small_99 : decode cX12_small 99 = .ok (.lconst 0, 1) := by decide +kernel
theorem dX12_small_100 : decode cX12_small 100 = .ok (.lcmp, 1) := by decide +kernel
theorem dX12_small_101 : decode cX12_small 101 = .ok (.ifCond .le 22, 3) := by decide +kernel
theorem dX12_small_104 : decode cX12_small 104 = .ok (.aload_n 0, 1) := by decide +kernel
theorem dX12_small_105 : decode cX12_small 105 = .ok (.getfield 79, 3) := by decide +kernel
theorem dX12_small_108 : decode cX12_small 108 = .ok (.iload 4, 2) := by decide +kernel
theorem dX12_small_110 : decode cX12_small 110 = .ok (.laload, 1) := by decide +kernel
theorem dX12_small_111 : decode cX12_small 111 = .ok (.iload_n 2, 1) := by decide +kernel
theorem dX12_small_112 : decode cX12_small 112 = .ok (.i2l, 1) := by decide +kernel
theorem dX12_small_113 : decode cX12_small 113 = .ok (.lmul, 1) := by decide +kernel
theorem dX12_small_114 : decode cX12_small 114 = .ok (.ldc2_w 229, 3) := by decide +kernel
theorem dX12_small_117 : decode cX12_small 117 = .ok (.lcmp, 1) := by decide +kernel
theorem dX12_small_118 : decode cX12_small 118 = .ok (.ifCond .ge 5, 3) := by decide +kernel
theorem dX12_small_121 : decode cX12_small 121 = .ok (.iload_n 3, 1) := by decide +kernel
theorem dX12_small_122 : decode cX12_small 122 = .ok (.ireturn, 1) := by decide +kernel
theorem dX12_small_123 : decode cX12_small 123 = .ok (.iinc 4 1, 3) := by decide +kernel
theorem dX12_small_126 : decode cX12_small 126 = .ok (.goto (-54), 3) := by decide +kernel
theorem dX12_small_129 : decode cX12_small 129 = .ok (.iinc 3 1, 3) := by decide +kernel
theorem dX12_small_132 : decode cX12_small 132 = .ok (.goto (-75), 3) := by decide +kernel
theorem dX12_small_135 : decode cX12_small 135 = .ok (.bipush (-4), 2) := by decide +kernel
theorem dX12_small_137 : decode cX12_small 137 = .ok (.ireturn, 1) := by decide +kernel
set_option maxRecDepth 20000 in
theorem ggX12_claim_X12_isKin : GoodIn wsX12_claim wsX12_isKin := goodIn_r _ [10, 11, 12, 13, 9, 14] (by decide +kernel) (by decide +kernel)
set_option maxRecDepth 20000 in
theorem gX12_claim_X12_isKin : GoodIn wsX12_claim (va_wsS RX12 184 yX12_isKin wsX12_isKin) := goodIn_app (goodIn_of _ (by decide +kernel)) ggX12_claim_X12_isKin
set_option maxRecDepth 20000 in
theorem ggX12_claim_X12_in : GoodIn wsX12_claim wsX12_in := goodIn_r _ [14] (by decide +kernel) (by decide +kernel)
set_option maxRecDepth 20000 in
theorem gX12_claim_X12_in : GoodIn wsX12_claim (va_wsS RX12 97 yX12_in wsX12_in) := goodIn_app (goodIn_of _ (by decide +kernel)) ggX12_claim_X12_in
set_option maxRecDepth 20000 in
theorem ggX12_claim_X12_isPerson : GoodIn wsX12_claim wsX12_isPerson := goodIn_r _ [18, 19, 12, 13, 9, 14, 20, 21, 22, 23, 24, 25, 26, 27, 28, 29, 30, 31, 32, 33, 34, 35, 36, 37, 38, 39, 40, 41, 42, 43, 44, 45, 46, 47, 48, 49, 50, 51, 52, 53, 54, 55, 56, 57, 58, 59] (by decide +kernel) (by decide +kernel)
set_option maxRecDepth 20000 in
theorem gX12_claim_X12_isPerson : GoodIn wsX12_claim (wsV RX12 180 RX12 yX12_isPerson wsX12_isPerson) := goodIn_app (goodIn_of _ (by decide +kernel)) ggX12_claim_X12_isPerson
theorem dX12_claim_0 : decode cX12_claim 0 = .ok (.iload_n 1, 1) := by decide +kernel
theorem dX12_claim_1 : decode cX12_claim 1 = .ok (.invokestatic 184, 3) := by decide +kernel
theorem dX12_claim_4 : decode cX12_claim 4 = .ok (.ifCond .eq 62, 3) := by decide +kernel
theorem dX12_claim_7 : decode cX12_claim 7 = .ok (.iload_n 2, 1) := by decide +kernel
theorem dX12_claim_8 : decode cX12_claim 8 = .ok (.i2l, 1) := by decide +kernel
theorem dX12_claim_9 : decode cX12_claim 9 = .ok (.lconst 1, 1) := by decide +kernel
theorem dX12_claim_10 : decode cX12_claim 10 = .ok (.ldc2_w 253, 3) := by decide +kernel
theorem dX12_claim_13 : decode cX12_claim 13 = .ok (.invokestatic 97, 3) := by decide +kernel
theorem dX12_claim_16 : decode cX12_claim 16 = .ok (.ifCond .eq 50, 3) := by decide +kernel
theorem dX12_claim_19 : decode cX12_claim 19 = .ok (.aload_n 0, 1) := by decide +kernel
theorem dX12_claim_20 : decode cX12_claim 20 = .ok (.iload_n 3, 1) := by decide +kernel
theorem dX12_claim_21 : decode cX12_claim 21 = .ok (.invokevirtual 180, 3) := by decide +kernel
theorem dX12_claim_24 : decode cX12_claim 24 = .ok (.ifCond .eq 42, 3) := by decide +kernel
theorem dX12_claim_27 : decode cX12_claim 27 = .ok (.iload 4, 2) := by decide +kernel
theorem dX12_claim_29 : decode cX12_claim 29 = .ok (.i2l, 1) := by decide +kernel
theorem dX12_claim_30 : decode cX12_claim 30 = .ok (.lconst 1, 1) := by decide +kernel
theorem dX12_claim_31 : decode cX12_claim 31 = .ok (.ldc2_w 134, 3) := by decide +kernel
theorem dX12_claim_34 : decode cX12_claim 34 = .ok (.invokestatic 97, 3) := by decide +kernel
theorem dX12_claim_37 : decode cX12_claim 37 = .ok (.ifCond .eq 29, 3) := by decide +kernel
theorem dX12_claim_40 : decode cX12_claim 40 = .ok (.iload 5, 2) := by decide +kernel
theorem dX12_claim_42 : decode cX12_claim 42 = .ok (.i2l, 1) := by decide +kernel
theorem dX12_claim_43 : decode cX12_claim 43 = .ok (.lconst 0, 1) := by decide +kernel
theorem dX12_claim_44 : decode cX12_claim 44 = .ok (.ldc2_w 114, 3) := by decide +kernel
theorem dX12_claim_47 : decode cX12_claim 47 = .ok (.invokestatic 97, 3) := by decide +kernel
theorem dX12_claim_50 : decode cX12_claim 50 = .ok (.ifCond .eq 16, 3) := by decide +kernel
theorem dX12_claim_53 : decode cX12_claim 53 = .ok (.iload 6, 2) := by decide +kernel
theorem dX12_claim_55 : decode cX12_claim 55 = .ok (.i2l, 1) := by decide +kernel
theorem dX12_claim_56 : decode cX12_claim 56 = .ok (.lconst 1, 1) := by decide +kernel
theorem dX12_claim_57 : decode cX12_claim 57 = .ok (.ldc2_w 255, 3) := by decide +kernel
theorem dX12_claim_60 : decode cX12_claim 60 = .ok (.invokestatic 97, 3) := by decide +kernel
theorem dX12_claim_63 : decode cX12_claim 63 = .ok (.ifCond .ne 5, 3) := by decide +kernel
theorem dX12_claim_66 : decode cX12_claim 66 = .ok (.iconst (-1), 1) := by decide +kernel
theorem dX12_claim_67 : decode cX12_claim 67 = .ok (.ireturn, 1) := by decide +kernel
theorem dX12_claim_68 : decode cX12_claim 68 = .ok (.aload_n 0, 1) := by decide +kernel
theorem dX12_claim_69 : decode cX12_claim 69 = .ok (.getfield 257, 3) := by decide +kernel
theorem dX12_claim_72 : decode cX12_claim 72 = .ok (.bipush 9, 2) := by decide +kernel
theorem dX12_claim_74 : decode cX12_claim 74 = .ok (.if_icmp .ne 6, 3) := by decide +kernel
theorem dX12_claim_77 : decode cX12_claim 77 = .ok (.bipush (-3), 2) := by decide +kernel
theorem dX12_claim_79 : decode cX12_claim 79 = .ok (.ireturn, 1) := by decide +kernel
theorem dX12_claim_80 : decode cX12_claim 80 = .ok (.bipush 6, 2) := by decide +kernel
theorem dX12_claim_82 : decode cX12_claim 82 = .ok (.aload_n 0, 1) := by decide +kernel
theorem dX12_claim_83 : decode cX12_claim 83 = .ok (.getfield 257, 3) := by decide +kernel
theorem dX12_claim_86 : decode cX12_claim 86 = .ok (.imul, 1) := by decide +kernel
theorem dX12_claim_87 : decode cX12_claim 87 = .ok (.istore 7, 2) := by decide +kernel
theorem dX12_claim_89 : decode cX12_claim 89 = .ok (.aload_n 0, 1) := by decide +kernel
theorem dX12_claim_90 : decode cX12_claim 90 = .ok (.getfield 61, 3) := by decide +kernel
theorem dX12_claim_93 : decode cX12_claim 93 = .ok (.iload 7, 2) := by decide +kernel
theorem dX12_claim_95 : decode cX12_claim 95 = .ok (.iload_n 1, 1) := by decide +kernel
theorem dX12_claim_96 : decode cX12_claim 96 = .ok (.iastore, 1) := by decide +kernel
theorem dX12_claim_97 : decode cX12_claim 97 = .ok (.aload_n 0, 1) := by decide +kernel
theorem dX12_claim_98 : decode cX12_claim 98 = .ok (.getfield 61, 3) := by decide +kernel
theorem dX12_claim_101 : decode cX12_claim 101 = .ok (.iload 7, 2) := by decide +kernel
theorem dX12_claim_103 : decode cX12_claim 103 = .ok (.iconst 1, 1) := by decide +kernel
theorem dX12_claim_104 : decode cX12_claim 104 = .ok (.iadd, 1) := by decide +kernel
theorem dX12_claim_105 : decode cX12_claim 105 = .ok (.iload_n 2, 1) := by decide +kernel
theorem dX12_claim_106 : decode cX12_claim 106 = .ok (.iastore, 1) := by decide +kernel
theorem dX12_claim_107 : decode cX12_claim 107 = .ok (.aload_n 0, 1) := by decide +kernel
theorem dX12_claim_108 : decode cX12_claim 108 = .ok (.getfield 61, 3) := by decide +kernel
theorem dX12_claim_111 : decode cX12_claim 111 = .ok (.iload 7, 2) := by decide +kernel
theorem dX12_claim_113 : decode cX12_claim 113 = .ok (.iconst 2, 1) := by decide +kernel
theorem dX12_claim_114 : decode cX12_claim 114 = .ok (.iadd, 1) := by decide +kernel
theorem dX12_claim_115 : decode cX12_claim 115 = .ok (.iload_n 3, 1) := by decide +kernel
theorem dX12_claim_116 : decode cX12_claim 116 = .ok (.iastore, 1) := by decide +kernel
theorem dX12_claim_117 : decode cX12_claim 117 = .ok (.aload_n 0, 1) := by decide +kernel
theorem dX12_claim_118 : decode cX12_claim 118 = .ok (.getfield 61, 3) := by decide +kernel
theorem dX12_claim_121 : decode cX12_claim 121 = .ok (.iload 7, 2) := by decide +kernel
theorem dX12_claim_123 : decode cX12_claim 123 = .ok (.iconst 3, 1) := by decide +kernel
theorem dX12_claim_124 : decode cX12_claim 124 = .ok (.iadd, 1) := by decide +kernel
theorem dX12_claim_125 : decode cX12_claim 125 = .ok (.iload 4, 2) := by decide +kernel
theorem dX12_claim_127 : decode cX12_claim 127 = .ok (.iastore, 1) := by decide +kernel
theorem dX12_claim_128 : decode cX12_claim 128 = .ok (.aload_n 0, 1) := by decide +kernel
theorem dX12_claim_129 : decode cX12_claim 129 = .ok (.getfield 61, 3) := by decide +kernel
theorem dX12_claim_132 : decode cX12_claim 132 = .ok (.iload 7, 2) := by decide +kernel
theorem dX12_claim_134 : decode cX12_claim 134 = .ok (.iconst 4, 1) := by decide +kernel
theorem dX12_claim_135 : decode cX12_claim 135 = .ok (.iadd, 1) := by decide +kernel
theorem dX12_claim_136 : decode cX12_claim 136 = .ok (.iload 5, 2) := by decide +kernel
theorem dX12_claim_138 : decode cX12_claim 138 = .ok (.iastore, 1) := by decide +kernel
theorem dX12_claim_139 : decode cX12_claim 139 = .ok (.aload_n 0, 1) := by decide +kernel
theorem dX12_claim_140 : decode cX12_claim 140 = .ok (.getfield 61, 3) := by decide +kernel
theorem dX12_claim_143 : decode cX12_claim 143 = .ok (.iload 7, 2) := by decide +kernel
theorem dX12_claim_145 : decode cX12_claim 145 = .ok (.iconst 5, 1) := by decide +kernel
theorem dX12_claim_146 : decode cX12_claim 146 = .ok (.iadd, 1) := by decide +kernel
theorem dX12_claim_147 : decode cX12_claim 147 = .ok (.iload 6, 2) := by decide +kernel
theorem dX12_claim_149 : decode cX12_claim 149 = .ok (.iastore, 1) := by decide +kernel
theorem dX12_claim_150 : decode cX12_claim 150 = .ok (.aload_n 0, 1) := by decide +kernel
theorem dX12_claim_151 : decode cX12_claim 151 = .ok (.dup, 1) := by decide +kernel
theorem dX12_claim_152 : decode cX12_claim 152 = .ok (.getfield 257, 3) := by decide +kernel
theorem dX12_claim_155 : decode cX12_claim 155 = .ok (.iconst 1, 1) := by decide +kernel
theorem dX12_claim_156 : decode cX12_claim 156 = .ok (.iadd, 1) := by decide +kernel
theorem dX12_claim_157 : decode cX12_claim 157 = .ok (.putfield 257, 3) := by decide +kernel
theorem dX12_claim_160 : decode cX12_claim 160 = .ok (.aload_n 0, 1) := by decide +kernel
theorem dX12_claim_161 : decode cX12_claim 161 = .ok (.getfield 257, 3) := by decide +kernel
theorem dX12_claim_164 : decode cX12_claim 164 = .ok (.iconst 1, 1) := by decide +kernel
theorem dX12_claim_165 : decode cX12_claim 165 = .ok (.isub, 1) := by decide +kernel
theorem dX12_claim_166 : decode cX12_claim 166 = .ok (.ireturn, 1) := by decide +kernel
theorem dX12_foundedBy_0 : decode cX12_foundedBy 0 = .ok (.iconst 0, 1) := by decide +kernel
theorem dX12_foundedBy_1 : decode cX12_foundedBy 1 = .ok (.istore_n 2, 1) := by decide +kernel
theorem dX12_foundedBy_2 : decode cX12_foundedBy 2 = .ok (.iconst 0, 1) := by decide +kernel
theorem dX12_foundedBy_3 : decode cX12_foundedBy 3 = .ok (.istore_n 3, 1) := by decide +kernel
theorem dX12_foundedBy_4 : decode cX12_foundedBy 4 = .ok (.iload_n 3, 1) := by decide +kernel
theorem dX12_foundedBy_5 : decode cX12_foundedBy 5 = .ok (.aload_n 0, 1) := by decide +kernel
theorem dX12_foundedBy_6 : decode cX12_foundedBy 6 = .ok (.getfield 257, 3) := by decide +kernel
theorem dX12_foundedBy_9 : decode cX12_foundedBy 9 = .ok (.if_icmp .ge 37, 3) := by decide +kernel
theorem dX12_foundedBy_12 : decode cX12_foundedBy 12 = .ok (.iload_n 2, 1) := by decide +kernel
theorem dX12_foundedBy_13 : decode cX12_foundedBy 13 = .ok (.aload_n 0, 1) := by decide +kernel
theorem dX12_foundedBy_14 : decode cX12_foundedBy 14 = .ok (.getfield 61, 3) := by decide +kernel
theorem dX12_foundedBy_17 : decode cX12_foundedBy 17 = .ok (.bipush 6, 2) := by decide +kernel
theorem dX12_foundedBy_19 : decode cX12_foundedBy 19 = .ok (.iload_n 3, 1) := by decide +kernel
theorem dX12_foundedBy_20 : decode cX12_foundedBy 20 = .ok (.imul, 1) := by decide +kernel
theorem dX12_foundedBy_21 : decode cX12_foundedBy 21 = .ok (.iconst 4, 1) := by decide +kernel
theorem dX12_foundedBy_22 : decode cX12_foundedBy 22 = .ok (.iadd, 1) := by decide +kernel
theorem dX12_foundedBy_23 : decode cX12_foundedBy 23 = .ok (.iaload, 1) := by decide +kernel
theorem dX12_foundedBy_24 : decode cX12_foundedBy 24 = .ok (.iload_n 1, 1) := by decide +kernel
theorem dX12_foundedBy_25 : decode cX12_foundedBy 25 = .ok (.iconst (-1), 1) := by decide +kernel
theorem dX12_foundedBy_26 : decode cX12_foundedBy 26 = .ok (.ixor, 1) := by decide +kernel
theorem dX12_foundedBy_27 : decode cX12_foundedBy 27 = .ok (.iand, 1) := by decide +kernel
theorem dX12_foundedBy_28 : decode cX12_foundedBy 28 = .ok (.ifCond .ne 9, 3) := by decide +kernel
theorem dX12_foundedBy_31 : decode cX12_foundedBy 31 = .ok (.iconst 1, 1) := by decide +kernel
theorem dX12_foundedBy_32 : decode cX12_foundedBy 32 = .ok (.iload_n 3, 1) := by decide +kernel
theorem dX12_foundedBy_33 : decode cX12_foundedBy 33 = .ok (.ishl, 1) := by decide +kernel
theorem dX12_foundedBy_34 : decode cX12_foundedBy 34 = .ok (.goto 4, 3) := by decide +kernel
theorem dX12_foundedBy_37 : decode cX12_foundedBy 37 = .ok (.iconst 0, 1) := by decide +kernel
theorem dX12_foundedBy_38 : decode cX12_foundedBy 38 = .ok (.ior, 1) := by decide +kernel
theorem dX12_foundedBy_39 : decode cX12_foundedBy 39 = .ok (.istore_n 2, 1) := by decide +kernel
theorem dX12_foundedBy_40 : decode cX12_foundedBy 40 = .ok (.iinc 3 1, 3) := by decide +kernel
theorem dX12_foundedBy_43 : decode cX12_foundedBy 43 = .ok (.goto (-39), 3) := by decide +kernel
theorem dX12_foundedBy_46 : decode cX12_foundedBy 46 = .ok (.iload_n 2, 1) := by decide +kernel
theorem dX12_foundedBy_47 : decode cX12_foundedBy 47 = .ok (.ireturn, 1) := by decide +kernel
set_option maxRecDepth 20000 in
theorem ggX12_founded_X12_in : GoodIn wsX12_founded wsX12_in := goodIn_r _ [5] (by decide +kernel) (by decide +kernel)
set_option maxRecDepth 20000 in
theorem gX12_founded_X12_in : GoodIn wsX12_founded (va_wsS RX12 97 yX12_in wsX12_in) := goodIn_app (goodIn_of _ (by decide +kernel)) ggX12_founded_X12_in
set_option maxRecDepth 20000 in
theorem ggX12_founded_X12_foundedBy : GoodIn wsX12_founded wsX12_foundedBy := goodIn_r _ [9, 10, 11, 12, 13, 14, 15, 16, 17, 18, 19, 20, 21, 22, 23, 24, 25, 26, 27, 28, 29, 30, 31, 32, 33, 34, 35, 36, 37, 38, 39, 40, 41, 42, 43, 44, 45, 46, 47, 48, 49, 50, 51] (by decide +kernel) (by decide +kernel)
set_option maxRecDepth 20000 in
theorem gX12_founded_X12_foundedBy : GoodIn wsX12_founded (wsV RX12 260 RX12 yX12_foundedBy wsX12_foundedBy) := goodIn_app (goodIn_of _ (by decide +kernel)) ggX12_founded_X12_foundedBy
theorem dX12_founded_0 : decode cX12_founded 0 = .ok (.iload_n 1, 1) := by decide +kernel
theorem dX12_founded_1 : decode cX12_founded 1 = .ok (.i2l, 1) := by decide +kernel
theorem dX12_founded_2 : decode cX12_founded 2 = .ok (.lconst 0, 1) := by decide +kernel
theorem dX12_founded_3 : decode cX12_founded 3 = .ok (.ldc2_w 114, 3) := by decide +kernel
theorem dX12_founded_6 : decode cX12_founded 6 = .ok (.invokestatic 97, 3) := by decide +kernel
theorem dX12_founded_9 : decode cX12_founded 9 = .ok (.ifCond .eq 11, 3) := by decide +kernel
theorem dX12_founded_12 : decode cX12_founded 12 = .ok (.aload_n 0, 1) := by decide +kernel
theorem dX12_founded_13 : decode cX12_founded 13 = .ok (.iload_n 1, 1) := by decide +kernel
theorem dX12_founded_14 : decode cX12_founded 14 = .ok (.invokevirtual 260, 3) := by decide +kernel
theorem dX12_founded_17 : decode cX12_founded 17 = .ok (.goto 4, 3) := by decide +kernel
theorem dX12_founded_20 : decode cX12_founded 20 = .ok (.iconst (-1), 1) := by decide +kernel
theorem dX12_founded_21 : decode cX12_founded 21 = .ok (.ireturn, 1) := by decide +kernel
set_option maxRecDepth 20000 in
theorem ggX12_falls_X12_in : GoodIn wsX12_falls wsX12_in := goodIn_r _ [8] (by decide +kernel) (by decide +kernel)
set_option maxRecDepth 20000 in
theorem gX12_falls_X12_in : GoodIn wsX12_falls (va_wsS RX12 97 yX12_in wsX12_in) := goodIn_app (goodIn_of _ (by decide +kernel)) ggX12_falls_X12_in
set_option maxRecDepth 20000 in
theorem ggX12_falls_X12_foundedBy : GoodIn wsX12_falls wsX12_foundedBy := goodIn_r _ [12, 3, 4, 16, 17, 18, 19, 20, 21, 22, 23, 24, 25, 26, 27, 28, 29, 30, 31, 32, 33, 34, 35, 36, 37, 38, 39, 40, 41, 42, 43, 44, 45, 46, 47, 48, 49, 50, 51, 52, 53, 54, 55] (by decide +kernel) (by decide +kernel)
set_option maxRecDepth 20000 in
theorem gX12_falls_X12_foundedBy : GoodIn wsX12_falls (wsV RX12 260 RX12 yX12_foundedBy wsX12_foundedBy) := goodIn_app (goodIn_of _ (by decide +kernel)) ggX12_falls_X12_foundedBy
set_option maxRecDepth 20000 in
theorem ggX12_falls_X12_has : GoodIn wsX12_falls wsX12_has := goodIn_r _ [15] (by decide +kernel) (by decide +kernel)
set_option maxRecDepth 20000 in
theorem gX12_falls_X12_has : GoodIn wsX12_falls (va_wsS RX12 147 yX12_has wsX12_has) := goodIn_app (goodIn_of _ (by decide +kernel)) ggX12_falls_X12_has
theorem dX12_falls_0 : decode cX12_falls 0 = .ok (.iload_n 1, 1) := by decide +kernel
theorem dX12_falls_1 : decode cX12_falls 1 = .ok (.i2l, 1) := by decide +kernel
theorem dX12_falls_2 : decode cX12_falls 2 = .ok (.lconst 0, 1) := by decide +kernel
theorem dX12_falls_3 : decode cX12_falls 3 = .ok (.ldc2_w 114, 3) := by decide +kernel
theorem dX12_falls_6 : decode cX12_falls 6 = .ok (.invokestatic 97, 3) := by decide +kernel
theorem dX12_falls_9 : decode cX12_falls 9 = .ok (.ifCond .eq 15, 3) := by decide +kernel
theorem dX12_falls_12 : decode cX12_falls 12 = .ok (.iload_n 2, 1) := by decide +kernel
theorem dX12_falls_13 : decode cX12_falls 13 = .ok (.i2l, 1) := by decide +kernel
theorem dX12_falls_14 : decode cX12_falls 14 = .ok (.lconst 0, 1) := by decide +kernel
theorem dX12_falls_15 : decode cX12_falls 15 = .ok (.ldc2_w 105, 3) := by decide +kernel
theorem dX12_falls_18 : decode cX12_falls 18 = .ok (.invokestatic 97, 3) := by decide +kernel
theorem dX12_falls_21 : decode cX12_falls 21 = .ok (.ifCond .ne 5, 3) := by decide +kernel
theorem dX12_falls_24 : decode cX12_falls 24 = .ok (.iconst (-1), 1) := by decide +kernel
theorem dX12_falls_25 : decode cX12_falls 25 = .ok (.ireturn, 1) := by decide +kernel
theorem dX12_falls_26 : decode cX12_falls 26 = .ok (.aload_n 0, 1) := by decide +kernel
theorem dX12_falls_27 : decode cX12_falls 27 = .ok (.iload_n 1, 1) := by decide +kernel
theorem dX12_falls_28 : decode cX12_falls 28 = .ok (.invokevirtual 260, 3) := by decide +kernel
theorem dX12_falls_31 : decode cX12_falls 31 = .ok (.istore_n 3, 1) := by decide +kernel
theorem dX12_falls_32 : decode cX12_falls 32 = .ok (.iconst 0, 1) := by decide +kernel
theorem dX12_falls_33 : decode cX12_falls 33 = .ok (.istore 4, 2) := by decide +kernel
theorem dX12_falls_35 : decode cX12_falls 35 = .ok (.iload 4, 2) := by decide +kernel
theorem dX12_falls_37 : decode cX12_falls 37 = .ok (.aload_n 0, 1) := by decide +kernel
theorem dX12_falls_38 : decode cX12_falls 38 = .ok (.getfield 257, 3) := by decide +kernel
theorem dX12_falls_41 : decode cX12_falls 41 = .ok (.if_icmp .ge 41, 3) := by decide +kernel
theorem dX12_falls_44 : decode cX12_falls 44 = .ok (.iload_n 3, 1) := by decide +kernel
theorem dX12_falls_45 : decode cX12_falls 45 = .ok (.aload_n 0, 1) := by decide +kernel
theorem dX12_falls_46 : decode cX12_falls 46 = .ok (.getfield 61, 3) := by decide +kernel
theorem dX12_falls_49 : decode cX12_falls 49 = .ok (.bipush 6, 2) := by decide +kernel
theorem dX12_falls_51 : decode cX12_falls 51 = .ok (.iload 4, 2) := by decide +kernel
theorem dX12_falls_53 : decode cX12_falls 53 = .ok (.imul, 1) := by decide +kernel
theorem dX12_falls_54 : decode cX12_falls 54 = .ok (.iconst 4, 1) := by decide +kernel
theorem dX12_falls_55 : decode cX12_falls 55 = .ok (.iadd, 1) := by decide +kernel
theorem dX12_falls_56 : decode cX12_falls 56 = .ok (.iaload, 1) := by decide +kernel
theorem dX12_falls_57 : decode cX12_falls 57 = .ok (.iload_n 2, 1) := by decide +kernel
theorem dX12_falls_58 : decode cX12_falls 58 = .ok (.invokestatic 147, 3) := by decide +kernel
theorem dX12_falls_61 : decode cX12_falls 61 = .ok (.ifCond .eq 7, 3) := by decide +kernel
theorem dX12_falls_64 : decode cX12_falls 64 = .ok (.iconst (-1), 1) := by decide +kernel
theorem dX12_falls_65 : decode cX12_falls 65 = .ok (.goto 9, 3) := by decide +kernel
theorem dX12_falls_68 : decode cX12_falls 68 = .ok (.iconst 1, 1) := by decide +kernel
theorem dX12_falls_69 : decode cX12_falls 69 = .ok (.iload 4, 2) := by decide +kernel
theorem dX12_falls_71 : decode cX12_falls 71 = .ok (.ishl, 1) := by decide +kernel
theorem dX12_falls_72 : decode cX12_falls 72 = .ok (.iconst (-1), 1) := by decide +kernel
theorem dX12_falls_73 : decode cX12_falls 73 = .ok (.ixor, 1) := by decide +kernel
theorem dX12_falls_74 : decode cX12_falls 74 = .ok (.iand, 1) := by decide +kernel
theorem dX12_falls_75 : decode cX12_falls 75 = .ok (.istore_n 3, 1) := by decide +kernel
theorem dX12_falls_76 : decode cX12_falls 76 = .ok (.iinc 4 1, 3) := by decide +kernel
theorem dX12_falls_79 : decode cX12_falls 79 = .ok (.goto (-44), 3) := by decide +kernel
theorem dX12_falls_82 : decode cX12_falls 82 = .ok (.iload_n 3, 1) := by decide +kernel
theorem dX12_falls_83 : decode cX12_falls 83 = .ok (.ireturn, 1) := by decide +kernel
set_option maxRecDepth 20000 in
theorem ggX12_sumOf_X12_has : GoodIn wsX12_sumOf wsX12_has := goodIn_r _ [6] (by decide +kernel) (by decide +kernel)
set_option maxRecDepth 20000 in
theorem gX12_sumOf_X12_has : GoodIn wsX12_sumOf (va_wsS RX12 147 yX12_has wsX12_has) := goodIn_app (goodIn_of _ (by decide +kernel)) ggX12_sumOf_X12_has
theorem dX12_sumOf_0 : decode cX12_sumOf 0 = .ok (.iconst 0, 1) := by decide +kernel
theorem dX12_sumOf_1 : decode cX12_sumOf 1 = .ok (.istore_n 3, 1) := by decide +kernel
theorem dX12_sumOf_2 : decode cX12_sumOf 2 = .ok (.iconst 0, 1) := by decide +kernel
theorem dX12_sumOf_3 : decode cX12_sumOf 3 = .ok (.istore 4, 2) := by decide +kernel
theorem dX12_sumOf_5 : decode cX12_sumOf 5 = .ok (.iload 4, 2) := by decide +kernel
theorem dX12_sumOf_7 : decode cX12_sumOf 7 = .ok (.aload_n 0, 1) := by decide +kernel
theorem dX12_sumOf_8 : decode cX12_sumOf 8 = .ok (.getfield 257, 3) := by decide +kernel
theorem dX12_sumOf_11 : decode cX12_sumOf 11 = .ok (.if_icmp .ge 37, 3) := by decide +kernel
theorem dX12_sumOf_14 : decode cX12_sumOf 14 = .ok (.iload_n 3, 1) := by decide +kernel
theorem dX12_sumOf_15 : decode cX12_sumOf 15 = .ok (.iload_n 1, 1) := by decide +kernel
theorem dX12_sumOf_16 : decode cX12_sumOf 16 = .ok (.iload 4, 2) := by decide +kernel
theorem dX12_sumOf_18 : decode cX12_sumOf 18 = .ok (.invokestatic 147, 3) := by decide +kernel
theorem dX12_sumOf_21 : decode cX12_sumOf 21 = .ok (.ifCond .eq 18, 3) := by decide +kernel
theorem dX12_sumOf_24 : decode cX12_sumOf 24 = .ok (.aload_n 0, 1) := by decide +kernel
theorem dX12_sumOf_25 : decode cX12_sumOf 25 = .ok (.getfield 61, 3) := by decide +kernel
theorem dX12_sumOf_28 : decode cX12_sumOf 28 = .ok (.bipush 6, 2) := by decide +kernel
theorem dX12_sumOf_30 : decode cX12_sumOf 30 = .ok (.iload 4, 2) := by decide +kernel
theorem dX12_sumOf_32 : decode cX12_sumOf 32 = .ok (.imul, 1) := by decide +kernel
theorem dX12_sumOf_33 : decode cX12_sumOf 33 = .ok (.iload_n 2, 1) := by decide +kernel
theorem dX12_sumOf_34 : decode cX12_sumOf 34 = .ok (.iadd, 1) := by decide +kernel
theorem dX12_sumOf_35 : decode cX12_sumOf 35 = .ok (.iaload, 1) := by decide +kernel
theorem dX12_sumOf_36 : decode cX12_sumOf 36 = .ok (.goto 4, 3) := by decide +kernel
theorem dX12_sumOf_39 : decode cX12_sumOf 39 = .ok (.iconst 0, 1) := by decide +kernel
theorem dX12_sumOf_40 : decode cX12_sumOf 40 = .ok (.iadd, 1) := by decide +kernel
theorem dX12_sumOf_41 : decode cX12_sumOf 41 = .ok (.istore_n 3, 1) := by decide +kernel
theorem dX12_sumOf_42 : decode cX12_sumOf 42 = .ok (.iinc 4 1, 3) := by decide +kernel
theorem dX12_sumOf_45 : decode cX12_sumOf 45 = .ok (.goto (-40), 3) := by decide +kernel
theorem dX12_sumOf_48 : decode cX12_sumOf 48 = .ok (.iload_n 3, 1) := by decide +kernel
theorem dX12_sumOf_49 : decode cX12_sumOf 49 = .ok (.ireturn, 1) := by decide +kernel
set_option maxRecDepth 20000 in
theorem ggX12_heard_X12_sumOf : GoodIn wsX12_heard wsX12_sumOf := goodIn_r _ [7, 8, 1, 9, 10, 6, 11, 12, 13, 14, 15, 16, 17, 18, 19, 20, 21, 22, 23, 24, 25, 26, 27, 28, 29, 30, 31, 32, 33, 34, 35, 36, 37, 38, 39, 40, 41, 42, 43, 44, 45, 46, 47, 48, 49, 50, 51] (by decide +kernel) (by decide +kernel)
set_option maxRecDepth 20000 in
theorem gX12_heard_X12_sumOf : GoodIn wsX12_heard (wsV RX12 263 RX12 yX12_sumOf wsX12_sumOf) := goodIn_app (goodIn_of _ (by decide +kernel)) ggX12_heard_X12_sumOf
theorem dX12_heard_0 : decode cX12_heard 0 = .ok (.iload_n 3, 1) := by decide +kernel
theorem dX12_heard_1 : decode cX12_heard 1 = .ok (.aload_n 0, 1) := by decide +kernel
theorem dX12_heard_2 : decode cX12_heard 2 = .ok (.iload_n 1, 1) := by decide +kernel
theorem dX12_heard_3 : decode cX12_heard 3 = .ok (.iconst 3, 1) := by decide +kernel
theorem dX12_heard_4 : decode cX12_heard 4 = .ok (.invokevirtual 263, 3) := by decide +kernel
theorem dX12_heard_7 : decode cX12_heard 7 = .ok (.iadd, 1) := by decide +kernel
theorem dX12_heard_8 : decode cX12_heard 8 = .ok (.aload_n 0, 1) := by decide +kernel
theorem dX12_heard_9 : decode cX12_heard 9 = .ok (.getfield 61, 3) := by decide +kernel
theorem dX12_heard_12 : decode cX12_heard 12 = .ok (.bipush 6, 2) := by decide +kernel
theorem dX12_heard_14 : decode cX12_heard 14 = .ok (.iload_n 2, 1) := by decide +kernel
theorem dX12_heard_15 : decode cX12_heard 15 = .ok (.imul, 1) := by decide +kernel
theorem dX12_heard_16 : decode cX12_heard 16 = .ok (.iconst 3, 1) := by decide +kernel
theorem dX12_heard_17 : decode cX12_heard 17 = .ok (.iadd, 1) := by decide +kernel
theorem dX12_heard_18 : decode cX12_heard 18 = .ok (.iaload, 1) := by decide +kernel
theorem dX12_heard_19 : decode cX12_heard 19 = .ok (.iadd, 1) := by decide +kernel
theorem dX12_heard_20 : decode cX12_heard 20 = .ok (.iconst 1, 1) := by decide +kernel
theorem dX12_heard_21 : decode cX12_heard 21 = .ok (.isub, 1) := by decide +kernel
theorem dX12_heard_22 : decode cX12_heard 22 = .ok (.istore 4, 2) := by decide +kernel
theorem dX12_heard_24 : decode cX12_heard 24 = .ok (.aload_n 0, 1) := by decide +kernel
theorem dX12_heard_25 : decode cX12_heard 25 = .ok (.getfield 34, 3) := by decide +kernel
theorem dX12_heard_28 : decode cX12_heard 28 = .ok (.aload_n 0, 1) := by decide +kernel
theorem dX12_heard_29 : decode cX12_heard 29 = .ok (.getfield 61, 3) := by decide +kernel
theorem dX12_heard_32 : decode cX12_heard 32 = .ok (.bipush 6, 2) := by decide +kernel
theorem dX12_heard_34 : decode cX12_heard 34 = .ok (.iload_n 2, 1) := by decide +kernel
theorem dX12_heard_35 : decode cX12_heard 35 = .ok (.imul, 1) := by decide +kernel
theorem dX12_heard_36 : decode cX12_heard 36 = .ok (.iconst 2, 1) := by decide +kernel
theorem dX12_heard_37 : decode cX12_heard 37 = .ok (.iadd, 1) := by decide +kernel
theorem dX12_heard_38 : decode cX12_heard 38 = .ok (.iaload, 1) := by decide +kernel
theorem dX12_heard_39 : decode cX12_heard 39 = .ok (.iaload, 1) := by decide +kernel
theorem dX12_heard_40 : decode cX12_heard 40 = .ok (.iload 4, 2) := by decide +kernel
theorem dX12_heard_42 : decode cX12_heard 42 = .ok (.if_icmp .le 17, 3) := by decide +kernel
theorem dX12_heard_45 : decode cX12_heard 45 = .ok (.aload_n 0, 1) := by decide +kernel
theorem dX12_heard_46 : decode cX12_heard 46 = .ok (.getfield 61, 3) := by decide +kernel
theorem dX12_heard_49 : decode cX12_heard 49 = .ok (.bipush 6, 2) := by decide +kernel
theorem dX12_heard_51 : decode cX12_heard 51 = .ok (.iload_n 2, 1) := by decide +kernel
theorem dX12_heard_52 : decode cX12_heard 52 = .ok (.imul, 1) := by decide +kernel
theorem dX12_heard_53 : decode cX12_heard 53 = .ok (.iconst 1, 1) := by decide +kernel
theorem dX12_heard_54 : decode cX12_heard 54 = .ok (.iadd, 1) := by decide +kernel
theorem dX12_heard_55 : decode cX12_heard 55 = .ok (.iaload, 1) := by decide +kernel
theorem dX12_heard_56 : decode cX12_heard 56 = .ok (.goto 4, 3) := by decide +kernel
theorem dX12_heard_59 : decode cX12_heard 59 = .ok (.iconst 0, 1) := by decide +kernel
theorem dX12_heard_60 : decode cX12_heard 60 = .ok (.ireturn, 1) := by decide +kernel
set_option maxRecDepth 20000 in
theorem ggX12_hear_X12_isYear : GoodIn wsX12_hear wsX12_isYear := goodIn_r _ [6, 7, 8, 9, 5, 10] (by decide +kernel) (by decide +kernel)
set_option maxRecDepth 20000 in
theorem gX12_hear_X12_isYear : GoodIn wsX12_hear (va_wsS RX12 107 yX12_isYear wsX12_isYear) := goodIn_app (goodIn_of _ (by decide +kernel)) ggX12_hear_X12_isYear
set_option maxRecDepth 20000 in
theorem ggX12_hear_X12_has : GoodIn wsX12_hear wsX12_has := goodIn_r _ [13] (by decide +kernel) (by decide +kernel)
set_option maxRecDepth 20000 in
theorem gX12_hear_X12_has : GoodIn wsX12_hear (va_wsS RX12 147 yX12_has wsX12_has) := goodIn_app (goodIn_of _ (by decide +kernel)) ggX12_hear_X12_has
set_option maxRecDepth 20000 in
theorem ggX12_hear_X12_heard : GoodIn wsX12_hear wsX12_heard := goodIn_r _ [17, 18, 19, 20, 21, 22, 5, 23, 1, 11, 12, 13, 24, 25, 26, 27, 28, 29, 30, 31, 32, 33, 34, 35, 36, 37, 38, 39, 40, 41, 42, 43, 44, 45, 46, 47, 48, 49, 50, 51, 52, 53, 54, 55, 56, 57, 58, 59, 60, 61, 62, 63] (by decide +kernel) (by decide +kernel)
set_option maxRecDepth 20000 in
theorem gX12_hear_X12_heard : GoodIn wsX12_hear (wsV RX12 266 RX12 yX12_heard wsX12_heard) := goodIn_app (goodIn_of _ (by decide +kernel)) ggX12_hear_X12_heard
theorem dX12_hear_0 : decode cX12_hear 0 = .ok (.iload_n 1, 1) := by decide +kernel
theorem dX12_hear_1 : decode cX12_hear 1 = .ok (.invokestatic 107, 3) := by decide +kernel
theorem dX12_hear_4 : decode cX12_hear 4 = .ok (.ifCond .eq 8, 3) := by decide +kernel
theorem dX12_hear_7 : decode cX12_hear 7 = .ok (.iload_n 2, 1) := by decide +kernel
theorem dX12_hear_8 : decode cX12_hear 8 = .ok (.iconst (-1), 1) := by decide +kernel
theorem dX12_hear_9 : decode cX12_hear 9 = .ok (.if_icmp .ge 5, 3) := by decide +kernel
theorem dX12_hear_12 : decode cX12_hear 12 = .ok (.iconst (-1), 1) := by decide +kernel
theorem dX12_hear_13 : decode cX12_hear 13 = .ok (.ireturn, 1) := by decide +kernel
theorem dX12_hear_14 : decode cX12_hear 14 = .ok (.iconst 1, 1) := by decide +kernel
theorem dX12_hear_15 : decode cX12_hear 15 = .ok (.aload_n 0, 1) := by decide +kernel
theorem dX12_hear_16 : decode cX12_hear 16 = .ok (.getfield 257, 3) := by decide +kernel
theorem dX12_hear_19 : decode cX12_hear 19 = .ok (.ishl, 1) := by decide +kernel
theorem dX12_hear_20 : decode cX12_hear 20 = .ok (.iconst 1, 1) := by decide +kernel
theorem dX12_hear_21 : decode cX12_hear 21 = .ok (.isub, 1) := by decide +kernel
theorem dX12_hear_22 : decode cX12_hear 22 = .ok (.istore_n 3, 1) := by decide +kernel
theorem dX12_hear_23 : decode cX12_hear 23 = .ok (.aload_n 0, 1) := by decide +kernel
theorem dX12_hear_24 : decode cX12_hear 24 = .ok (.getfield 89, 3) := by decide +kernel
theorem dX12_hear_27 : decode cX12_hear 27 = .ok (.iload_n 3, 1) := by decide +kernel
theorem dX12_hear_28 : decode cX12_hear 28 = .ok (.iconst 0, 1) := by decide +kernel
theorem dX12_hear_29 : decode cX12_hear 29 = .ok (.iastore, 1) := by decide +kernel
theorem dX12_hear_30 : decode cX12_hear 30 = .ok (.iload_n 3, 1) := by decide +kernel
theorem dX12_hear_31 : decode cX12_hear 31 = .ok (.iconst 1, 1) := by decide +kernel
theorem dX12_hear_32 : decode cX12_hear 32 = .ok (.isub, 1) := by decide +kernel
theorem dX12_hear_33 : decode cX12_hear 33 = .ok (.istore 4, 2) := by decide +kernel
theorem dX12_hear_35 : decode cX12_hear 35 = .ok (.iload 4, 2) := by decide +kernel
theorem dX12_hear_37 : decode cX12_hear 37 = .ok (.ifCond .lt 100, 3) := by decide +kernel
theorem dX12_hear_40 : decode cX12_hear 40 = .ok (.aload_n 0, 1) := by decide +kernel
theorem dX12_hear_41 : decode cX12_hear 41 = .ok (.getfield 89, 3) := by decide +kernel
theorem dX12_hear_44 : decode cX12_hear 44 = .ok (.iload 4, 2) := by decide +kernel
theorem dX12_hear_46 : decode cX12_hear 46 = .ok (.iconst (-1), 1) := by decide +kernel
theorem dX12_hear_47 : decode cX12_hear 47 = .ok (.iastore, 1) := by decide +kernel
theorem dX12_hear_48 : decode cX12_hear 48 = .ok (.iconst 0, 1) := by decide +kernel
theorem dX12_hear_49 : decode cX12_hear 49 = .ok (.istore 5, 2) := by decide +kernel
theorem dX12_hear_51 : decode cX12_hear 51 = .ok (.iload 5, 2) := by decide +kernel
theorem dX12_hear_53 : decode cX12_hear 53 = .ok (.aload_n 0, 1) := by decide +kernel
theorem dX12_hear_54 : decode cX12_hear 54 = .ok (.getfield 257, 3) := by decide +kernel
theorem dX12_hear_57 : decode cX12_hear 57 = .ok (.if_icmp .ge 74, 3) := by decide +kernel
theorem dX12_hear_60 : decode cX12_hear 60 = .ok (.iload 4, 2) := by decide +kernel
theorem dX12_hear_62 : decode cX12_hear 62 = .ok (.iload 5, 2) := by decide +kernel
theorem dX12_hear_64 : decode cX12_hear 64 = .ok (.invokestatic 147, 3) := by decide +kernel
theorem dX12_hear_67 : decode cX12_hear 67 = .ok (.ifCond .ne 58, 3) := by decide +kernel
theorem dX12_hear_70 : decode cX12_hear 70 = .ok (.aload_n 0, 1) := by decide +kernel
theorem dX12_hear_71 : decode cX12_hear 71 = .ok (.iload 4, 2) := by decide +kernel
theorem dX12_hear_73 : decode cX12_hear 73 = .ok (.iload 5, 2) := by decide +kernel
theorem dX12_hear_75 : decode cX12_hear 75 = .ok (.iload_n 1, 1) := by decide +kernel
theorem dX12_hear_76 : decode cX12_hear 76 = .ok (.invokevirtual 266, 3) := by decide +kernel
theorem dX12_hear_79 : decode cX12_hear 79 = .ok (.aload_n 0, 1) := by decide +kernel
theorem dX12_hear_80 : decode cX12_hear 80 = .ok (.getfield 89, 3) := by decide +kernel
theorem dX12_hear_83 : decode cX12_hear 83 = .ok (.iload 4, 2) := by decide +kernel
theorem dX12_hear_85 : decode cX12_hear 85 = .ok (.iconst 1, 1) := by decide +kernel
theorem dX12_hear_86 : decode cX12_hear 86 = .ok (.iload 5, 2) := by decide +kernel
theorem dX12_hear_88 : decode cX12_hear 88 = .ok (.ishl, 1) := by decide +kernel
theorem dX12_hear_89 : decode cX12_hear 89 = .ok (.ior, 1) := by decide +kernel
theorem dX12_hear_90 : decode cX12_hear 90 = .ok (.iaload, 1) := by decide +kernel
theorem dX12_hear_91 : decode cX12_hear 91 = .ok (.iadd, 1) := by decide +kernel
theorem dX12_hear_92 : decode cX12_hear 92 = .ok (.istore 6, 2) := by decide +kernel
theorem dX12_hear_94 : decode cX12_hear 94 = .ok (.aload_n 0, 1) := by decide +kernel
theorem dX12_hear_95 : decode cX12_hear 95 = .ok (.getfield 89, 3) := by decide +kernel
theorem dX12_hear_98 : decode cX12_hear 98 = .ok (.iload 4, 2) := by decide +kernel
theorem dX12_hear_100 : decode cX12_hear 100 = .ok (.iload 6, 2) := by decide +kernel
theorem dX12_hear_102 : decode cX12_hear 102 = .ok (.aload_n 0, 1) := by decide +kernel
theorem dX12_hear_103 : decode cX12_hear 103 = .ok (.getfield 89, 3) := by decide +kernel
theorem dX12_hear_106 : decode cX12_hear 106 = .ok (.iload 4, 2) := by decide +kernel
theorem dX12_hear_108 : decode cX12_hear 108 = .ok (.iaload, 1) := by decide +kernel
theorem dX12_hear_109 : decode cX12_hear 109 = .ok (.if_icmp .le 8, 3) := by decide +kernel
theorem dX12_hear_112 : decode cX12_hear 112 = .ok (.iload 6, 2) := by decide +kernel
theorem dX12_hear_114 : decode cX12_hear 114 = .ok (.goto 10, 3) := by decide +kernel
theorem dX12_hear_117 : decode cX12_hear 117 = .ok (.aload_n 0, 1) := by decide +kernel
theorem dX12_hear_118 : decode cX12_hear 118 = .ok (.getfield 89, 3) := by decide +kernel
theorem dX12_hear_121 : decode cX12_hear 121 = .ok (.iload 4, 2) := by decide +kernel
theorem dX12_hear_123 : decode cX12_hear 123 = .ok (.iaload, 1) := by decide +kernel
theorem dX12_hear_124 : decode cX12_hear 124 = .ok (.iastore, 1) := by decide +kernel
theorem dX12_hear_125 : decode cX12_hear 125 = .ok (.iinc 5 1, 3) := by decide +kernel
theorem dX12_hear_128 : decode cX12_hear 128 = .ok (.goto (-77), 3) := by decide +kernel
theorem dX12_hear_131 : decode cX12_hear 131 = .ok (.iinc 4 (-1), 3) := by decide +kernel
theorem dX12_hear_134 : decode cX12_hear 134 = .ok (.goto (-99), 3) := by decide +kernel
theorem dX12_hear_137 : decode cX12_hear 137 = .ok (.iload_n 2, 1) := by decide +kernel
theorem dX12_hear_138 : decode cX12_hear 138 = .ok (.ifCond .ge 10, 3) := by decide +kernel
theorem dX12_hear_141 : decode cX12_hear 141 = .ok (.aload_n 0, 1) := by decide +kernel
theorem dX12_hear_142 : decode cX12_hear 142 = .ok (.getfield 89, 3) := by decide +kernel
theorem dX12_hear_145 : decode cX12_hear 145 = .ok (.iconst 0, 1) := by decide +kernel
theorem dX12_hear_146 : decode cX12_hear 146 = .ok (.iaload, 1) := by decide +kernel
theorem dX12_hear_147 : decode cX12_hear 147 = .ok (.ireturn, 1) := by decide +kernel
theorem dX12_hear_148 : decode cX12_hear 148 = .ok (.iload_n 2, 1) := by decide +kernel
theorem dX12_hear_149 : decode cX12_hear 149 = .ok (.aload_n 0, 1) := by decide +kernel
theorem dX12_hear_150 : decode cX12_hear 150 = .ok (.getfield 257, 3) := by decide +kernel
theorem dX12_hear_153 : decode cX12_hear 153 = .ok (.if_icmp .lt 6, 3) := by decide +kernel
theorem dX12_hear_156 : decode cX12_hear 156 = .ok (.bipush (-4), 2) := by decide +kernel
theorem dX12_hear_158 : decode cX12_hear 158 = .ok (.ireturn, 1) := by decide +kernel
theorem dX12_hear_159 : decode cX12_hear 159 = .ok (.iconst 0, 1) := by decide +kernel
theorem dX12_hear_160 : decode cX12_hear 160 = .ok (.istore 4, 2) := by decide +kernel
theorem dX12_hear_162 : decode cX12_hear 162 = .ok (.bipush (-4), 2) := by decide +kernel
theorem dX12_hear_164 : decode cX12_hear 164 = .ok (.istore 5, 2) := by decide +kernel
theorem dX12_hear_166 : decode cX12_hear 166 = .ok (.iconst 0, 1) := by decide +kernel
theorem dX12_hear_167 : decode cX12_hear 167 = .ok (.istore 6, 2) := by decide +kernel
theorem dX12_hear_169 : decode cX12_hear 169 = .ok (.iload 6, 2) := by decide +kernel
theorem dX12_hear_171 : decode cX12_hear 171 = .ok (.iload_n 2, 1) := by decide +kernel
theorem dX12_hear_172 : decode cX12_hear 172 = .ok (.if_icmp .gt 98, 3) := by decide +kernel
theorem dX12_hear_175 : decode cX12_hear 175 = .ok (.bipush (-4), 2) := by decide +kernel
theorem dX12_hear_177 : decode cX12_hear 177 = .ok (.istore 5, 2) := by decide +kernel
theorem dX12_hear_179 : decode cX12_hear 179 = .ok (.iconst 0, 1) := by decide +kernel
theorem dX12_hear_180 : decode cX12_hear 180 = .ok (.istore 7, 2) := by decide +kernel
theorem dX12_hear_182 : decode cX12_hear 182 = .ok (.iload 7, 2) := by decide +kernel
theorem dX12_hear_184 : decode cX12_hear 184 = .ok (.aload_n 0, 1) := by decide +kernel
theorem dX12_hear_185 : decode cX12_hear 185 = .ok (.getfield 257, 3) := by decide +kernel
theorem dX12_hear_188 : decode cX12_hear 188 = .ok (.if_icmp .ge 67, 3) := by decide +kernel
theorem dX12_hear_191 : decode cX12_hear 191 = .ok (.iload 5, 2) := by decide +kernel
theorem dX12_hear_193 : decode cX12_hear 193 = .ok (.bipush (-4), 2) := by decide +kernel
theorem dX12_hear_195 : decode cX12_hear 195 = .ok (.if_icmp .ne 60, 3) := by decide +kernel
theorem dX12_hear_198 : decode cX12_hear 198 = .ok (.iload 4, 2) := by decide +kernel
theorem dX12_hear_200 : decode cX12_hear 200 = .ok (.iload 7, 2) := by decide +kernel
theorem dX12_hear_202 : decode cX12_hear 202 = .ok (.invokestatic 147, 3) := by decide +kernel
theorem dX12_hear_205 : decode cX12_hear 205 = .ok (.ifCond .ne 40, 3) := by decide +kernel
theorem dX12_hear_208 : decode cX12_hear 208 = .ok (.aload_n 0, 1) := by decide +kernel
theorem dX12_hear_209 : decode cX12_hear 209 = .ok (.iload 4, 2) := by decide +kernel
theorem dX12_hear_211 : decode cX12_hear 211 = .ok (.iload 7, 2) := by decide +kernel
theorem dX12_hear_213 : decode cX12_hear 213 = .ok (.iload_n 1, 1) := by decide +kernel
theorem dX12_hear_214 : decode cX12_hear 214 = .ok (.invokevirtual 266, 3) := by decide +kernel
theorem dX12_hear_217 : decode cX12_hear 217 = .ok (.aload_n 0, 1) := by decide +kernel
theorem dX12_hear_218 : decode cX12_hear 218 = .ok (.getfield 89, 3) := by decide +kernel
theorem dX12_hear_221 : decode cX12_hear 221 = .ok (.iload 4, 2) := by decide +kernel
theorem dX12_hear_223 : decode cX12_hear 223 = .ok (.iconst 1, 1) := by decide +kernel
theorem dX12_hear_224 : decode cX12_hear 224 = .ok (.iload 7, 2) := by decide +kernel
theorem dX12_hear_226 : decode cX12_hear 226 = .ok (.ishl, 1) := by decide +kernel
theorem dX12_hear_227 : decode cX12_hear 227 = .ok (.ior, 1) := by decide +kernel
theorem dX12_hear_228 : decode cX12_hear 228 = .ok (.iaload, 1) := by decide +kernel
theorem dX12_hear_229 : decode cX12_hear 229 = .ok (.iadd, 1) := by decide +kernel
theorem dX12_hear_230 : decode cX12_hear 230 = .ok (.aload_n 0, 1) := by decide +kernel
theorem dX12_hear_231 : decode cX12_hear 231 = .ok (.getfield 89, 3) := by decide +kernel
theorem dX12_hear_234 : decode cX12_hear 234 = .ok (.iload 4, 2) := by decide +kernel
theorem dX12_hear_236 : decode cX12_hear 236 = .ok (.iaload, 1) := by decide +kernel
theorem dX12_hear_237 : decode cX12_hear 237 = .ok (.if_icmp .ne 8, 3) := by decide +kernel
theorem dX12_hear_240 : decode cX12_hear 240 = .ok (.iload 7, 2) := by decide +kernel
theorem dX12_hear_242 : decode cX12_hear 242 = .ok (.goto 5, 3) := by decide +kernel
theorem dX12_hear_245 : decode cX12_hear 245 = .ok (.bipush (-4), 2) := by decide +kernel
theorem dX12_hear_247 : decode cX12_hear 247 = .ok (.istore 5, 2) := by decide +kernel
theorem dX12_hear_249 : decode cX12_hear 249 = .ok (.iinc 7 1, 3) := by decide +kernel
theorem dX12_hear_252 : decode cX12_hear 252 = .ok (.goto (-70), 3) := by decide +kernel
theorem dX12_hear_255 : decode cX12_hear 255 = .ok (.iload 4, 2) := by decide +kernel
theorem dX12_hear_257 : decode cX12_hear 257 = .ok (.iconst 1, 1) := by decide +kernel
theorem dX12_hear_258 : decode cX12_hear 258 = .ok (.iload 5, 2) := by decide +kernel
theorem dX12_hear_260 : decode cX12_hear 260 = .ok (.ishl, 1) := by decide +kernel
theorem dX12_hear_261 : decode cX12_hear 261 = .ok (.ior, 1) := by decide +kernel
theorem dX12_hear_262 : decode cX12_hear 262 = .ok (.istore 4, 2) := by decide +kernel
theorem dX12_hear_264 : decode cX12_hear 264 = .ok (.iinc 6 1, 3) := by decide +kernel
theorem dX12_hear_267 : decode cX12_hear 267 = .ok (.goto (-98), 3) := by decide +kernel
theorem dX12_hear_270 : decode cX12_hear 270 = .ok (.iload 5, 2) := by decide +kernel
theorem dX12_hear_272 : decode cX12_hear 272 = .ok (.ireturn, 1) := by decide +kernel
set_option maxRecDepth 20000 in
theorem ggX12_left_X12_in : GoodIn wsX12_left wsX12_in := goodIn_r _ [10] (by decide +kernel) (by decide +kernel)
set_option maxRecDepth 20000 in
theorem gX12_left_X12_in : GoodIn wsX12_left (va_wsS RX12 97 yX12_in wsX12_in) := goodIn_app (goodIn_of _ (by decide +kernel)) ggX12_left_X12_in
set_option maxRecDepth 20000 in
theorem ggX12_left_X12_isYear : GoodIn wsX12_left wsX12_isYear := goodIn_r _ [13, 14, 7, 8, 9, 10] (by decide +kernel) (by decide +kernel)
set_option maxRecDepth 20000 in
theorem gX12_left_X12_isYear : GoodIn wsX12_left (va_wsS RX12 107 yX12_isYear wsX12_isYear) := goodIn_app (goodIn_of _ (by decide +kernel)) ggX12_left_X12_isYear
set_option maxRecDepth 20000 in
theorem ggX12_left_X12_wrongedBy : GoodIn wsX12_left wsX12_wrongedBy := goodIn_r _ [18, 5, 19, 20, 21, 9, 22, 23, 24, 28, 29, 30, 31, 32, 33, 34, 35, 36, 37, 38, 39, 40, 41, 42, 43, 44, 45, 46, 47, 48, 49, 50, 51, 52, 53, 54, 55, 56, 57, 58, 59, 60, 61, 62, 63, 64, 65, 66, 67] (by decide +kernel) (by decide +kernel)
set_option maxRecDepth 20000 in
theorem gX12_left_X12_wrongedBy : GoodIn wsX12_left (wsV RX12 220 RX12 yX12_wrongedBy wsX12_wrongedBy) := goodIn_app (goodIn_of _ (by decide +kernel)) ggX12_left_X12_wrongedBy
set_option maxRecDepth 20000 in
theorem ggX12_left_X12_has : GoodIn wsX12_left wsX12_has := goodIn_r _ [27] (by decide +kernel) (by decide +kernel)
set_option maxRecDepth 20000 in
theorem gX12_left_X12_has : GoodIn wsX12_left (va_wsS RX12 147 yX12_has wsX12_has) := goodIn_app (goodIn_of _ (by decide +kernel)) ggX12_left_X12_has
set_option maxRecDepth 20000 in
theorem ggX12_left_X12_heldBy : GoodIn wsX12_left wsX12_heldBy := goodIn_r _ [22, 23, 24, 28, 29, 30, 31, 32, 33, 34, 35, 36, 37, 38, 39, 40, 41, 42, 43, 44, 45, 46, 47, 48, 49, 50, 51, 52, 53, 54, 55, 56, 57, 58, 59, 60, 61, 62, 63, 64, 65, 66, 67] (by decide +kernel) (by decide +kernel)
set_option maxRecDepth 20000 in
theorem gX12_left_X12_heldBy : GoodIn wsX12_left (wsV RX12 211 RX12 yX12_heldBy wsX12_heldBy) := goodIn_app (goodIn_of _ (by decide +kernel)) ggX12_left_X12_heldBy
theorem dX12_left_0 : decode cX12_left 0 = .ok (.iload_n 1, 1) := by decide +kernel
theorem dX12_left_1 : decode cX12_left 1 = .ok (.i2l, 1) := by decide +kernel
theorem dX12_left_2 : decode cX12_left 2 = .ok (.lconst 0, 1) := by decide +kernel
theorem dX12_left_3 : decode cX12_left 3 = .ok (.aload_n 0, 1) := by decide +kernel
theorem dX12_left_4 : decode cX12_left 4 = .ok (.getfield 257, 3) := by decide +kernel
theorem dX12_left_7 : decode cX12_left 7 = .ok (.iconst 1, 1) := by decide +kernel
theorem dX12_left_8 : decode cX12_left 8 = .ok (.isub, 1) := by decide +kernel
theorem dX12_left_9 : decode cX12_left 9 = .ok (.i2l, 1) := by decide +kernel
theorem dX12_left_10 : decode cX12_left 10 = .ok (.invokestatic 97, 3) := by decide +kernel
theorem dX12_left_13 : decode cX12_left 13 = .ok (.ifCond .eq 10, 3) := by decide +kernel
theorem dX12_left_16 : decode cX12_left 16 = .ok (.iload_n 2, 1) := by decide +kernel
theorem dX12_left_17 : decode cX12_left 17 = .ok (.invokestatic 107, 3) := by decide +kernel
theorem dX12_left_20 : decode cX12_left 20 = .ok (.ifCond .ne 5, 3) := by decide +kernel
theorem dX12_left_23 : decode cX12_left 23 = .ok (.iconst (-1), 1) := by decide +kernel
theorem dX12_left_24 : decode cX12_left 24 = .ok (.ireturn, 1) := by decide +kernel
theorem dX12_left_25 : decode cX12_left 25 = .ok (.aload_n 0, 1) := by decide +kernel
theorem dX12_left_26 : decode cX12_left 26 = .ok (.getfield 61, 3) := by decide +kernel
theorem dX12_left_29 : decode cX12_left 29 = .ok (.bipush 6, 2) := by decide +kernel
theorem dX12_left_31 : decode cX12_left 31 = .ok (.iload_n 1, 1) := by decide +kernel
theorem dX12_left_32 : decode cX12_left 32 = .ok (.imul, 1) := by decide +kernel
theorem dX12_left_33 : decode cX12_left 33 = .ok (.iaload, 1) := by decide +kernel
theorem dX12_left_34 : decode cX12_left 34 = .ok (.istore 4, 2) := by decide +kernel
theorem dX12_left_36 : decode cX12_left 36 = .ok (.iconst 0, 1) := by decide +kernel
theorem dX12_left_37 : decode cX12_left 37 = .ok (.istore 5, 2) := by decide +kernel
theorem dX12_left_39 : decode cX12_left 39 = .ok (.iconst 0, 1) := by decide +kernel
theorem dX12_left_40 : decode cX12_left 40 = .ok (.istore 6, 2) := by decide +kernel
theorem dX12_left_42 : decode cX12_left 42 = .ok (.iload 6, 2) := by decide +kernel
theorem dX12_left_44 : decode cX12_left 44 = .ok (.aload_n 0, 1) := by decide +kernel
theorem dX12_left_45 : decode cX12_left 45 = .ok (.getfield 193, 3) := by decide +kernel
theorem dX12_left_48 : decode cX12_left 48 = .ok (.if_icmp .ge 121, 3) := by decide +kernel
theorem dX12_left_51 : decode cX12_left 51 = .ok (.iconst 0, 1) := by decide +kernel
theorem dX12_left_52 : decode cX12_left 52 = .ok (.istore 7, 2) := by decide +kernel
theorem dX12_left_54 : decode cX12_left 54 = .ok (.iconst 0, 1) := by decide +kernel
theorem dX12_left_55 : decode cX12_left 55 = .ok (.istore 8, 2) := by decide +kernel
theorem dX12_left_57 : decode cX12_left 57 = .ok (.iload 8, 2) := by decide +kernel
theorem dX12_left_59 : decode cX12_left 59 = .ok (.aload_n 0, 1) := by decide +kernel
theorem dX12_left_60 : decode cX12_left 60 = .ok (.getfield 217, 3) := by decide +kernel
theorem dX12_left_63 : decode cX12_left 63 = .ok (.if_icmp .ge 38, 3) := by decide +kernel
theorem dX12_left_66 : decode cX12_left 66 = .ok (.iload 7, 2) := by decide +kernel
theorem dX12_left_68 : decode cX12_left 68 = .ok (.aload_n 0, 1) := by decide +kernel
theorem dX12_left_69 : decode cX12_left 69 = .ok (.getfield 52, 3) := by decide +kernel
theorem dX12_left_72 : decode cX12_left 72 = .ok (.iconst 3, 1) := by decide +kernel
theorem dX12_left_73 : decode cX12_left 73 = .ok (.iload 8, 2) := by decide +kernel
theorem dX12_left_75 : decode cX12_left 75 = .ok (.imul, 1) := by decide +kernel
theorem dX12_left_76 : decode cX12_left 76 = .ok (.iaload, 1) := by decide +kernel
theorem dX12_left_77 : decode cX12_left 77 = .ok (.iload 6, 2) := by decide +kernel
theorem dX12_left_79 : decode cX12_left 79 = .ok (.if_icmp .ne 12, 3) := by decide +kernel
theorem dX12_left_82 : decode cX12_left 82 = .ok (.aload_n 0, 1) := by decide +kernel
theorem dX12_left_83 : decode cX12_left 83 = .ok (.iload 8, 2) := by decide +kernel
theorem dX12_left_85 : decode cX12_left 85 = .ok (.invokevirtual 220, 3) := by decide +kernel
theorem dX12_left_88 : decode cX12_left 88 = .ok (.goto 4, 3) := by decide +kernel
theorem dX12_left_91 : decode cX12_left 91 = .ok (.iconst 0, 1) := by decide +kernel
theorem dX12_left_92 : decode cX12_left 92 = .ok (.ior, 1) := by decide +kernel
theorem dX12_left_93 : decode cX12_left 93 = .ok (.istore 7, 2) := by decide +kernel
theorem dX12_left_95 : decode cX12_left 95 = .ok (.iinc 8 1, 3) := by decide +kernel
theorem dX12_left_98 : decode cX12_left 98 = .ok (.goto (-41), 3) := by decide +kernel
theorem dX12_left_101 : decode cX12_left 101 = .ok (.iload 7, 2) := by decide +kernel
theorem dX12_left_103 : decode cX12_left 103 = .ok (.iload 4, 2) := by decide +kernel
theorem dX12_left_105 : decode cX12_left 105 = .ok (.invokestatic 147, 3) := by decide +kernel
theorem dX12_left_108 : decode cX12_left 108 = .ok (.ifCond .eq 31, 3) := by decide +kernel
theorem dX12_left_111 : decode cX12_left 111 = .ok (.aload_n 0, 1) := by decide +kernel
theorem dX12_left_112 : decode cX12_left 112 = .ok (.iload 6, 2) := by decide +kernel
theorem dX12_left_114 : decode cX12_left 114 = .ok (.iload_n 2, 1) := by decide +kernel
theorem dX12_left_115 : decode cX12_left 115 = .ok (.iconst 0, 1) := by decide +kernel
theorem dX12_left_116 : decode cX12_left 116 = .ok (.invokevirtual 211, 3) := by decide +kernel
theorem dX12_left_119 : decode cX12_left 119 = .ok (.ifCond .ge 20, 3) := by decide +kernel
theorem dX12_left_122 : decode cX12_left 122 = .ok (.iload_n 3, 1) := by decide +kernel
theorem dX12_left_123 : decode cX12_left 123 = .ok (.ifCond .eq 12, 3) := by decide +kernel
theorem dX12_left_126 : decode cX12_left 126 = .ok (.iload 7, 2) := by decide +kernel
theorem dX12_left_128 : decode cX12_left 128 = .ok (.iconst 1, 1) := by decide +kernel
theorem dX12_left_129 : decode cX12_left 129 = .ok (.iload 4, 2) := by decide +kernel
theorem dX12_left_131 : decode cX12_left 131 = .ok (.ishl, 1) := by decide +kernel
theorem dX12_left_132 : decode cX12_left 132 = .ok (.if_icmp .ne 7, 3) := by decide +kernel
theorem dX12_left_135 : decode cX12_left 135 = .ok (.iconst 1, 1) := by decide +kernel
theorem dX12_left_136 : decode cX12_left 136 = .ok (.goto 4, 3) := by decide +kernel
theorem dX12_left_139 : decode cX12_left 139 = .ok (.iconst 0, 1) := by decide +kernel
theorem dX12_left_140 : decode cX12_left 140 = .ok (.istore 8, 2) := by decide +kernel
theorem dX12_left_142 : decode cX12_left 142 = .ok (.iload 5, 2) := by decide +kernel
theorem dX12_left_144 : decode cX12_left 144 = .ok (.iload 8, 2) := by decide +kernel
theorem dX12_left_146 : decode cX12_left 146 = .ok (.ifCond .eq 13, 3) := by decide +kernel
theorem dX12_left_149 : decode cX12_left 149 = .ok (.aload_n 0, 1) := by decide +kernel
theorem dX12_left_150 : decode cX12_left 150 = .ok (.getfield 43, 3) := by decide +kernel
theorem dX12_left_153 : decode cX12_left 153 = .ok (.iload 6, 2) := by decide +kernel
theorem dX12_left_155 : decode cX12_left 155 = .ok (.iaload, 1) := by decide +kernel
theorem dX12_left_156 : decode cX12_left 156 = .ok (.goto 4, 3) := by decide +kernel
theorem dX12_left_159 : decode cX12_left 159 = .ok (.iconst 0, 1) := by decide +kernel
theorem dX12_left_160 : decode cX12_left 160 = .ok (.iadd, 1) := by decide +kernel
theorem dX12_left_161 : decode cX12_left 161 = .ok (.istore 5, 2) := by decide +kernel
theorem dX12_left_163 : decode cX12_left 163 = .ok (.iinc 6 1, 3) := by decide +kernel
theorem dX12_left_166 : decode cX12_left 166 = .ok (.goto (-124), 3) := by decide +kernel
theorem dX12_left_169 : decode cX12_left 169 = .ok (.iload 5, 2) := by decide +kernel
theorem dX12_left_171 : decode cX12_left 171 = .ok (.ireturn, 1) := by decide +kernel
set_option maxRecDepth 20000 in
theorem ggX12_cousinsOf_X12_has : GoodIn wsX12_cousinsOf wsX12_has := goodIn_r _ [6] (by decide +kernel) (by decide +kernel)
set_option maxRecDepth 20000 in
theorem gX12_cousinsOf_X12_has : GoodIn wsX12_cousinsOf (va_wsS RX12 147 yX12_has wsX12_has) := goodIn_app (goodIn_of _ (by decide +kernel)) ggX12_cousinsOf_X12_has
theorem dX12_cousinsOf_0 : decode cX12_cousinsOf 0 = .ok (.iconst 0, 1) := by decide +kernel
theorem dX12_cousinsOf_1 : decode cX12_cousinsOf 1 = .ok (.istore_n 3, 1) := by decide +kernel
theorem dX12_cousinsOf_2 : decode cX12_cousinsOf 2 = .ok (.iconst 0, 1) := by decide +kernel
theorem dX12_cousinsOf_3 : decode cX12_cousinsOf 3 = .ok (.istore 4, 2) := by decide +kernel
theorem dX12_cousinsOf_5 : decode cX12_cousinsOf 5 = .ok (.iload 4, 2) := by decide +kernel
theorem dX12_cousinsOf_7 : decode cX12_cousinsOf 7 = .ok (.aload_n 0, 1) := by decide +kernel
theorem dX12_cousinsOf_8 : decode cX12_cousinsOf 8 = .ok (.getfield 175, 3) := by decide +kernel
theorem dX12_cousinsOf_11 : decode cX12_cousinsOf 11 = .ok (.if_icmp .ge 45, 3) := by decide +kernel
theorem dX12_cousinsOf_14 : decode cX12_cousinsOf 14 = .ok (.iload_n 3, 1) := by decide +kernel
theorem dX12_cousinsOf_15 : decode cX12_cousinsOf 15 = .ok (.aload_n 0, 1) := by decide +kernel
theorem dX12_cousinsOf_16 : decode cX12_cousinsOf 16 = .ok (.getfield 76, 3) := by decide +kernel
theorem dX12_cousinsOf_19 : decode cX12_cousinsOf 19 = .ok (.iload 4, 2) := by decide +kernel
theorem dX12_cousinsOf_21 : decode cX12_cousinsOf 21 = .ok (.iaload, 1) := by decide +kernel
theorem dX12_cousinsOf_22 : decode cX12_cousinsOf 22 = .ok (.iload_n 1, 1) := by decide +kernel
theorem dX12_cousinsOf_23 : decode cX12_cousinsOf 23 = .ok (.invokestatic 147, 3) := by decide +kernel
theorem dX12_cousinsOf_26 : decode cX12_cousinsOf 26 = .ok (.ifCond .eq 21, 3) := by decide +kernel
theorem dX12_cousinsOf_29 : decode cX12_cousinsOf 29 = .ok (.aload_n 0, 1) := by decide +kernel
theorem dX12_cousinsOf_30 : decode cX12_cousinsOf 30 = .ok (.getfield 76, 3) := by decide +kernel
theorem dX12_cousinsOf_33 : decode cX12_cousinsOf 33 = .ok (.iload 4, 2) := by decide +kernel
theorem dX12_cousinsOf_35 : decode cX12_cousinsOf 35 = .ok (.iaload, 1) := by decide +kernel
theorem dX12_cousinsOf_36 : decode cX12_cousinsOf 36 = .ok (.iload_n 2, 1) := by decide +kernel
theorem dX12_cousinsOf_37 : decode cX12_cousinsOf 37 = .ok (.invokestatic 147, 3) := by decide +kernel
theorem dX12_cousinsOf_40 : decode cX12_cousinsOf 40 = .ok (.ifCond .eq 7, 3) := by decide +kernel
theorem dX12_cousinsOf_43 : decode cX12_cousinsOf 43 = .ok (.iconst 1, 1) := by decide +kernel
theorem dX12_cousinsOf_44 : decode cX12_cousinsOf 44 = .ok (.goto 4, 3) := by decide +kernel
theorem dX12_cousinsOf_47 : decode cX12_cousinsOf 47 = .ok (.iconst 0, 1) := by decide +kernel
theorem dX12_cousinsOf_48 : decode cX12_cousinsOf 48 = .ok (.iadd, 1) := by decide +kernel
theorem dX12_cousinsOf_49 : decode cX12_cousinsOf 49 = .ok (.istore_n 3, 1) := by decide +kernel
theorem dX12_cousinsOf_50 : decode cX12_cousinsOf 50 = .ok (.iinc 4 1, 3) := by decide +kernel
theorem dX12_cousinsOf_53 : decode cX12_cousinsOf 53 = .ok (.goto (-48), 3) := by decide +kernel
theorem dX12_cousinsOf_56 : decode cX12_cousinsOf 56 = .ok (.iload_n 3, 1) := by decide +kernel
theorem dX12_cousinsOf_57 : decode cX12_cousinsOf 57 = .ok (.ireturn, 1) := by decide +kernel
set_option maxRecDepth 20000 in
theorem ggX12_cousins_X12_isKin : GoodIn wsX12_cousins wsX12_isKin := goodIn_r _ [4, 5, 6, 7, 3, 8] (by decide +kernel) (by decide +kernel)
set_option maxRecDepth 20000 in
theorem gX12_cousins_X12_isKin : GoodIn wsX12_cousins (va_wsS RX12 184 yX12_isKin wsX12_isKin) := goodIn_app (goodIn_of _ (by decide +kernel)) ggX12_cousins_X12_isKin
set_option maxRecDepth 20000 in
theorem ggX12_cousins_X12_layKins : GoodIn wsX12_cousins wsX12_layKins := goodIn_r _ [12, 13, 14, 15, 16, 24, 25, 26, 27, 28, 29, 30, 31, 32, 33, 34, 35, 36, 37, 38, 39, 40, 41, 42, 43, 44, 45, 46, 47, 48, 49, 50, 51, 52, 53, 54, 55, 56, 57, 58, 59, 60, 61, 62, 63] (by decide +kernel) (by decide +kernel)
set_option maxRecDepth 20000 in
theorem gX12_cousins_X12_layKins : GoodIn wsX12_cousins (wsV RX12 190 RX12 yX12_layKins wsX12_layKins) := goodIn_app (goodIn_of _ (by decide +kernel)) ggX12_cousins_X12_layKins
set_option maxRecDepth 20000 in
theorem ggX12_cousins_X12_cousinsOf : GoodIn wsX12_cousins wsX12_cousinsOf := goodIn_r _ [20, 13, 14, 21, 22, 3, 23, 24, 25, 26, 27, 28, 29, 30, 31, 32, 33, 34, 35, 36, 37, 38, 39, 40, 41, 42, 43, 44, 45, 46, 47, 48, 49, 50, 51, 52, 53, 54, 55, 56, 57, 58, 59, 60, 61, 62, 63] (by decide +kernel) (by decide +kernel)
set_option maxRecDepth 20000 in
theorem gX12_cousins_X12_cousinsOf : GoodIn wsX12_cousins (wsV RX12 269 RX12 yX12_cousinsOf wsX12_cousinsOf) := goodIn_app (goodIn_of _ (by decide +kernel)) ggX12_cousins_X12_cousinsOf
theorem dX12_cousins_0 : decode cX12_cousins 0 = .ok (.iload_n 1, 1) := by decide +kernel
theorem dX12_cousins_1 : decode cX12_cousins 1 = .ok (.invokestatic 184, 3) := by decide +kernel
theorem dX12_cousins_4 : decode cX12_cousins 4 = .ok (.ifCond .eq 15, 3) := by decide +kernel
theorem dX12_cousins_7 : decode cX12_cousins 7 = .ok (.iload_n 2, 1) := by decide +kernel
theorem dX12_cousins_8 : decode cX12_cousins 8 = .ok (.invokestatic 184, 3) := by decide +kernel
theorem dX12_cousins_11 : decode cX12_cousins 11 = .ok (.ifCond .eq 8, 3) := by decide +kernel
theorem dX12_cousins_14 : decode cX12_cousins 14 = .ok (.iload_n 1, 1) := by decide +kernel
theorem dX12_cousins_15 : decode cX12_cousins 15 = .ok (.iload_n 2, 1) := by decide +kernel
theorem dX12_cousins_16 : decode cX12_cousins 16 = .ok (.if_icmp .ne 5, 3) := by decide +kernel
theorem dX12_cousins_19 : decode cX12_cousins 19 = .ok (.iconst (-1), 1) := by decide +kernel
theorem dX12_cousins_20 : decode cX12_cousins 20 = .ok (.ireturn, 1) := by decide +kernel
theorem dX12_cousins_21 : decode cX12_cousins 21 = .ok (.aload_n 0, 1) := by decide +kernel
theorem dX12_cousins_22 : decode cX12_cousins 22 = .ok (.invokevirtual 190, 3) := by decide +kernel
theorem dX12_cousins_25 : decode cX12_cousins 25 = .ok (.aload_n 0, 1) := by decide +kernel
theorem dX12_cousins_26 : decode cX12_cousins 26 = .ok (.iload_n 1, 1) := by decide +kernel
theorem dX12_cousins_27 : decode cX12_cousins 27 = .ok (.iload_n 2, 1) := by decide +kernel
theorem dX12_cousins_28 : decode cX12_cousins 28 = .ok (.invokevirtual 269, 3) := by decide +kernel
theorem dX12_cousins_31 : decode cX12_cousins 31 = .ok (.ireturn, 1) := by decide +kernel
set_option maxRecDepth 20000 in
theorem ggX12_settled_X12_isKin : GoodIn wsX12_settled wsX12_isKin := goodIn_r _ [6, 1, 7, 8, 5, 9] (by decide +kernel) (by decide +kernel)
set_option maxRecDepth 20000 in
theorem gX12_settled_X12_isKin : GoodIn wsX12_settled (va_wsS RX12 184 yX12_isKin wsX12_isKin) := goodIn_app (goodIn_of _ (by decide +kernel)) ggX12_settled_X12_isKin
set_option maxRecDepth 20000 in
theorem ggX12_settled_X12_in : GoodIn wsX12_settled wsX12_in := goodIn_r _ [9] (by decide +kernel) (by decide +kernel)
set_option maxRecDepth 20000 in
theorem gX12_settled_X12_in : GoodIn wsX12_settled (va_wsS RX12 97 yX12_in wsX12_in) := goodIn_app (goodIn_of _ (by decide +kernel)) ggX12_settled_X12_in
set_option maxRecDepth 20000 in
theorem ggX12_settled_X12_layKins : GoodIn wsX12_settled wsX12_layKins := goodIn_r _ [13, 14, 15, 16, 17, 28, 29, 30, 31, 32, 33, 34, 35, 36, 37, 38, 39, 40, 41, 42, 43, 44, 45, 46, 47, 48, 49, 50, 51, 52, 53, 54, 55, 56, 57, 58, 59, 60, 61, 62, 63, 64, 65, 66, 67] (by decide +kernel) (by decide +kernel)
set_option maxRecDepth 20000 in
theorem gX12_settled_X12_layKins : GoodIn wsX12_settled (wsV RX12 190 RX12 yX12_layKins wsX12_layKins) := goodIn_app (goodIn_of _ (by decide +kernel)) ggX12_settled_X12_layKins
set_option maxRecDepth 20000 in
theorem ggX12_settled_X12_cousinsOf : GoodIn wsX12_settled wsX12_cousinsOf := goodIn_r _ [21, 14, 15, 22, 23, 5, 24, 28, 29, 30, 31, 32, 33, 34, 35, 36, 37, 38, 39, 40, 41, 42, 43, 44, 45, 46, 47, 48, 49, 50, 51, 52, 53, 54, 55, 56, 57, 58, 59, 60, 61, 62, 63, 64, 65, 66, 67] (by decide +kernel) (by decide +kernel)
set_option maxRecDepth 20000 in
theorem gX12_settled_X12_cousinsOf : GoodIn wsX12_settled (wsV RX12 269 RX12 yX12_cousinsOf wsX12_cousinsOf) := goodIn_app (goodIn_of _ (by decide +kernel)) ggX12_settled_X12_cousinsOf
set_option maxRecDepth 20000 in
theorem ggX12_settled_X12_has : GoodIn wsX12_settled wsX12_has := goodIn_r _ [24] (by decide +kernel) (by decide +kernel)
set_option maxRecDepth 20000 in
theorem gX12_settled_X12_has : GoodIn wsX12_settled (va_wsS RX12 147 yX12_has wsX12_has) := goodIn_app (goodIn_of _ (by decide +kernel)) ggX12_settled_X12_has
set_option maxRecDepth 20000 in
theorem ggX12_settled_X12_bits : GoodIn wsX12_settled wsX12_bits := goodIn_r _ [27] (by decide +kernel) (by decide +kernel)
set_option maxRecDepth 20000 in
theorem gX12_settled_X12_bits : GoodIn wsX12_settled (va_wsS RX12 172 yX12_bits wsX12_bits) := goodIn_app (goodIn_of _ (by decide +kernel)) ggX12_settled_X12_bits
theorem dX12_settled_0 : decode cX12_settled 0 = .ok (.iload_n 1, 1) := by decide +kernel
theorem dX12_settled_1 : decode cX12_settled 1 = .ok (.invokestatic 184, 3) := by decide +kernel
theorem dX12_settled_4 : decode cX12_settled 4 = .ok (.ifCond .eq 25, 3) := by decide +kernel
theorem dX12_settled_7 : decode cX12_settled 7 = .ok (.iload_n 2, 1) := by decide +kernel
theorem dX12_settled_8 : decode cX12_settled 8 = .ok (.i2l, 1) := by decide +kernel
theorem dX12_settled_9 : decode cX12_settled 9 = .ok (.lconst 1, 1) := by decide +kernel
theorem dX12_settled_10 : decode cX12_settled 10 = .ok (.ldc2_w 178, 3) := by decide +kernel
theorem dX12_settled_13 : decode cX12_settled 13 = .ok (.invokestatic 97, 3) := by decide +kernel
theorem dX12_settled_16 : decode cX12_settled 16 = .ok (.ifCond .eq 13, 3) := by decide +kernel
theorem dX12_settled_19 : decode cX12_settled 19 = .ok (.iload_n 3, 1) := by decide +kernel
theorem dX12_settled_20 : decode cX12_settled 20 = .ok (.i2l, 1) := by decide +kernel
theorem dX12_settled_21 : decode cX12_settled 21 = .ok (.lconst 0, 1) := by decide +kernel
theorem dX12_settled_22 : decode cX12_settled 22 = .ok (.lconst 1, 1) := by decide +kernel
theorem dX12_settled_23 : decode cX12_settled 23 = .ok (.invokestatic 97, 3) := by decide +kernel
theorem dX12_settled_26 : decode cX12_settled 26 = .ok (.ifCond .ne 5, 3) := by decide +kernel
theorem dX12_settled_29 : decode cX12_settled 29 = .ok (.iconst (-1), 1) := by decide +kernel
theorem dX12_settled_30 : decode cX12_settled 30 = .ok (.ireturn, 1) := by decide +kernel
theorem dX12_settled_31 : decode cX12_settled 31 = .ok (.aload_n 0, 1) := by decide +kernel
theorem dX12_settled_32 : decode cX12_settled 32 = .ok (.invokevirtual 190, 3) := by decide +kernel
theorem dX12_settled_35 : decode cX12_settled 35 = .ok (.iconst 0, 1) := by decide +kernel
theorem dX12_settled_36 : decode cX12_settled 36 = .ok (.istore 4, 2) := by decide +kernel
theorem dX12_settled_38 : decode cX12_settled 38 = .ok (.iload 4, 2) := by decide +kernel
theorem dX12_settled_40 : decode cX12_settled 40 = .ok (.bipush 10, 2) := by decide +kernel
theorem dX12_settled_42 : decode cX12_settled 42 = .ok (.if_icmp .ge 46, 3) := by decide +kernel
theorem dX12_settled_45 : decode cX12_settled 45 = .ok (.iconst 0, 1) := by decide +kernel
theorem dX12_settled_46 : decode cX12_settled 46 = .ok (.istore 5, 2) := by decide +kernel
theorem dX12_settled_48 : decode cX12_settled 48 = .ok (.iload 5, 2) := by decide +kernel
theorem dX12_settled_50 : decode cX12_settled 50 = .ok (.bipush 10, 2) := by decide +kernel
theorem dX12_settled_52 : decode cX12_settled 52 = .ok (.if_icmp .ge 30, 3) := by decide +kernel
theorem dX12_settled_55 : decode cX12_settled 55 = .ok (.aload_n 0, 1) := by decide +kernel
theorem dX12_settled_56 : decode cX12_settled 56 = .ok (.getfield 92, 3) := by decide +kernel
theorem dX12_settled_59 : decode cX12_settled 59 = .ok (.bipush 10, 2) := by decide +kernel
theorem dX12_settled_61 : decode cX12_settled 61 = .ok (.iload 4, 2) := by decide +kernel
theorem dX12_settled_63 : decode cX12_settled 63 = .ok (.imul, 1) := by decide +kernel
theorem dX12_settled_64 : decode cX12_settled 64 = .ok (.iload 5, 2) := by decide +kernel
theorem dX12_settled_66 : decode cX12_settled 66 = .ok (.iadd, 1) := by decide +kernel
theorem dX12_settled_67 : decode cX12_settled 67 = .ok (.aload_n 0, 1) := by decide +kernel
theorem dX12_settled_68 : decode cX12_settled 68 = .ok (.iload 4, 2) := by decide +kernel
theorem dX12_settled_70 : decode cX12_settled 70 = .ok (.iload 5, 2) := by decide +kernel
theorem dX12_settled_72 : decode cX12_settled 72 = .ok (.invokevirtual 269, 3) := by decide +kernel
theorem dX12_settled_75 : decode cX12_settled 75 = .ok (.iastore, 1) := by decide +kernel
theorem dX12_settled_76 : decode cX12_settled 76 = .ok (.iinc 5 1, 3) := by decide +kernel
theorem dX12_settled_79 : decode cX12_settled 79 = .ok (.goto (-31), 3) := by decide +kernel
theorem dX12_settled_82 : decode cX12_settled 82 = .ok (.iinc 4 1, 3) := by decide +kernel
theorem dX12_settled_85 : decode cX12_settled 85 = .ok (.goto (-47), 3) := by decide +kernel
theorem dX12_settled_88 : decode cX12_settled 88 = .ok (.bipush (-4), 2) := by decide +kernel
theorem dX12_settled_90 : decode cX12_settled 90 = .ok (.istore 4, 2) := by decide +kernel
theorem dX12_settled_92 : decode cX12_settled 92 = .ok (.iconst 0, 1) := by decide +kernel
theorem dX12_settled_93 : decode cX12_settled 93 = .ok (.istore 5, 2) := by decide +kernel
theorem dX12_settled_95 : decode cX12_settled 95 = .ok (.iconst 0, 1) := by decide +kernel
theorem dX12_settled_96 : decode cX12_settled 96 = .ok (.istore 6, 2) := by decide +kernel
theorem dX12_settled_98 : decode cX12_settled 98 = .ok (.iload 6, 2) := by decide +kernel
theorem dX12_settled_100 : decode cX12_settled 100 = .ok (.sipush 1024, 3) := by decide +kernel
theorem dX12_settled_103 : decode cX12_settled 103 = .ok (.if_icmp .ge 126, 3) := by decide +kernel
theorem dX12_settled_106 : decode cX12_settled 106 = .ok (.iload 6, 2) := by decide +kernel
theorem dX12_settled_108 : decode cX12_settled 108 = .ok (.iload_n 1, 1) := by decide +kernel
theorem dX12_settled_109 : decode cX12_settled 109 = .ok (.invokestatic 147, 3) := by decide +kernel
theorem dX12_settled_112 : decode cX12_settled 112 = .ok (.ifCond .eq 111, 3) := by decide +kernel
theorem dX12_settled_115 : decode cX12_settled 115 = .ok (.iload 6, 2) := by decide +kernel
theorem dX12_settled_117 : decode cX12_settled 117 = .ok (.invokestatic 172, 3) := by decide +kernel
theorem dX12_settled_120 : decode cX12_settled 120 = .ok (.iload_n 2, 1) := by decide +kernel
theorem dX12_settled_121 : decode cX12_settled 121 = .ok (.if_icmp .ne 102, 3) := by decide +kernel
theorem dX12_settled_124 : decode cX12_settled 124 = .ok (.iconst 0, 1) := by decide +kernel
theorem dX12_settled_125 : decode cX12_settled 125 = .ok (.istore 7, 2) := by decide +kernel
theorem dX12_settled_127 : decode cX12_settled 127 = .ok (.iconst 0, 1) := by decide +kernel
theorem dX12_settled_128 : decode cX12_settled 128 = .ok (.istore 8, 2) := by decide +kernel
theorem dX12_settled_130 : decode cX12_settled 130 = .ok (.iload 8, 2) := by decide +kernel
theorem dX12_settled_132 : decode cX12_settled 132 = .ok (.bipush 10, 2) := by decide +kernel
theorem dX12_settled_134 : decode cX12_settled 134 = .ok (.if_icmp .ge 67, 3) := by decide +kernel
theorem dX12_settled_137 : decode cX12_settled 137 = .ok (.iconst 0, 1) := by decide +kernel
theorem dX12_settled_138 : decode cX12_settled 138 = .ok (.istore 9, 2) := by decide +kernel
theorem dX12_settled_140 : decode cX12_settled 140 = .ok (.iload 9, 2) := by decide +kernel
theorem dX12_settled_142 : decode cX12_settled 142 = .ok (.bipush 10, 2) := by decide +kernel
theorem dX12_settled_144 : decode cX12_settled 144 = .ok (.if_icmp .ge 51, 3) := by decide +kernel
theorem dX12_settled_147 : decode cX12_settled 147 = .ok (.iload 7, 2) := by decide +kernel
theorem dX12_settled_149 : decode cX12_settled 149 = .ok (.iload 6, 2) := by decide +kernel
theorem dX12_settled_151 : decode cX12_settled 151 = .ok (.iload 8, 2) := by decide +kernel
theorem dX12_settled_153 : decode cX12_settled 153 = .ok (.invokestatic 147, 3) := by decide +kernel
theorem dX12_settled_156 : decode cX12_settled 156 = .ok (.ifCond .eq 29, 3) := by decide +kernel
theorem dX12_settled_159 : decode cX12_settled 159 = .ok (.iload 6, 2) := by decide +kernel
theorem dX12_settled_161 : decode cX12_settled 161 = .ok (.iload 9, 2) := by decide +kernel
theorem dX12_settled_163 : decode cX12_settled 163 = .ok (.invokestatic 147, 3) := by decide +kernel
theorem dX12_settled_166 : decode cX12_settled 166 = .ok (.ifCond .ne 19, 3) := by decide +kernel
theorem dX12_settled_169 : decode cX12_settled 169 = .ok (.aload_n 0, 1) := by decide +kernel
theorem dX12_settled_170 : decode cX12_settled 170 = .ok (.getfield 92, 3) := by decide +kernel
theorem dX12_settled_173 : decode cX12_settled 173 = .ok (.bipush 10, 2) := by decide +kernel
theorem dX12_settled_175 : decode cX12_settled 175 = .ok (.iload 8, 2) := by decide +kernel
theorem dX12_settled_177 : decode cX12_settled 177 = .ok (.imul, 1) := by decide +kernel
theorem dX12_settled_178 : decode cX12_settled 178 = .ok (.iload 9, 2) := by decide +kernel
theorem dX12_settled_180 : decode cX12_settled 180 = .ok (.iadd, 1) := by decide +kernel
theorem dX12_settled_181 : decode cX12_settled 181 = .ok (.iaload, 1) := by decide +kernel
theorem dX12_settled_182 : decode cX12_settled 182 = .ok (.goto 4, 3) := by decide +kernel
theorem dX12_settled_185 : decode cX12_settled 185 = .ok (.iconst 0, 1) := by decide +kernel
theorem dX12_settled_186 : decode cX12_settled 186 = .ok (.iadd, 1) := by decide +kernel
theorem dX12_settled_187 : decode cX12_settled 187 = .ok (.istore 7, 2) := by decide +kernel
theorem dX12_settled_189 : decode cX12_settled 189 = .ok (.iinc 9 1, 3) := by decide +kernel
theorem dX12_settled_192 : decode cX12_settled 192 = .ok (.goto (-52), 3) := by decide +kernel
theorem dX12_settled_195 : decode cX12_settled 195 = .ok (.iinc 8 1, 3) := by decide +kernel
theorem dX12_settled_198 : decode cX12_settled 198 = .ok (.goto (-68), 3) := by decide +kernel
theorem dX12_settled_201 : decode cX12_settled 201 = .ok (.iload 4, 2) := by decide +kernel
theorem dX12_settled_203 : decode cX12_settled 203 = .ok (.bipush (-4), 2) := by decide +kernel
theorem dX12_settled_205 : decode cX12_settled 205 = .ok (.if_icmp .eq 10, 3) := by decide +kernel
theorem dX12_settled_208 : decode cX12_settled 208 = .ok (.iload 7, 2) := by decide +kernel
theorem dX12_settled_210 : decode cX12_settled 210 = .ok (.iload 5, 2) := by decide +kernel
theorem dX12_settled_212 : decode cX12_settled 212 = .ok (.if_icmp .ge 11, 3) := by decide +kernel
theorem dX12_settled_215 : decode cX12_settled 215 = .ok (.iload 6, 2) := by decide +kernel
theorem dX12_settled_217 : decode cX12_settled 217 = .ok (.istore 4, 2) := by decide +kernel
theorem dX12_settled_219 : decode cX12_settled 219 = .ok (.iload 7, 2) := by decide +kernel
theorem dX12_settled_221 : decode cX12_settled 221 = .ok (.istore 5, 2) := by decide +kernel
theorem dX12_settled_223 : decode cX12_settled 223 = .ok (.iinc 6 1, 3) := by decide +kernel
theorem dX12_settled_226 : decode cX12_settled 226 = .ok (.goto (-128), 3) := by decide +kernel
theorem dX12_settled_229 : decode cX12_settled 229 = .ok (.iload_n 3, 1) := by decide +kernel
theorem dX12_settled_230 : decode cX12_settled 230 = .ok (.ifCond .ne 8, 3) := by decide +kernel
theorem dX12_settled_233 : decode cX12_settled 233 = .ok (.iload 4, 2) := by decide +kernel
theorem dX12_settled_235 : decode cX12_settled 235 = .ok (.goto 5, 3) := by decide +kernel
theorem dX12_settled_238 : decode cX12_settled 238 = .ok (.iload 5, 2) := by decide +kernel
theorem dX12_settled_240 : decode cX12_settled 240 = .ok (.ireturn, 1) := by decide +kernel
set_option maxRecDepth 20000 in
theorem ggX12_settlement_X12_in : GoodIn wsX12_settlement wsX12_in := goodIn_r _ [9] (by decide +kernel) (by decide +kernel)
set_option maxRecDepth 20000 in
theorem gX12_settlement_X12_in : GoodIn wsX12_settlement (va_wsS RX12 97 yX12_in wsX12_in) := goodIn_app (goodIn_of _ (by decide +kernel)) ggX12_settlement_X12_in
theorem dX12_settlement_0 : decode cX12_settlement 0 = .ok (.iload_n 1, 1) := by decide +kernel
theorem dX12_settlement_1 : decode cX12_settlement 1 = .ok (.i2l, 1) := by decide +kernel
theorem dX12_settlement_2 : decode cX12_settlement 2 = .ok (.lconst 1, 1) := by decide +kernel
theorem dX12_settlement_3 : decode cX12_settlement 3 = .ok (.ldc2_w 272, 3) := by decide +kernel
theorem dX12_settlement_6 : decode cX12_settlement 6 = .ok (.invokestatic 97, 3) := by decide +kernel
theorem dX12_settlement_9 : decode cX12_settlement 9 = .ok (.ifCond .eq 15, 3) := by decide +kernel
theorem dX12_settlement_12 : decode cX12_settlement 12 = .ok (.iload_n 2, 1) := by decide +kernel
theorem dX12_settlement_13 : decode cX12_settlement 13 = .ok (.i2l, 1) := by decide +kernel
theorem dX12_settlement_14 : decode cX12_settlement 14 = .ok (.lconst 0, 1) := by decide +kernel
theorem dX12_settlement_15 : decode cX12_settlement 15 = .ok (.ldc2_w 274, 3) := by decide +kernel
theorem dX12_settlement_18 : decode cX12_settlement 18 = .ok (.invokestatic 97, 3) := by decide +kernel
theorem dX12_settlement_21 : decode cX12_settlement 21 = .ok (.ifCond .ne 5, 3) := by decide +kernel
theorem dX12_settlement_24 : decode cX12_settlement 24 = .ok (.iconst (-1), 1) := by decide +kernel
theorem dX12_settlement_25 : decode cX12_settlement 25 = .ok (.ireturn, 1) := by decide +kernel
theorem dX12_settlement_26 : decode cX12_settlement 26 = .ok (.aload_n 0, 1) := by decide +kernel
theorem dX12_settlement_27 : decode cX12_settlement 27 = .ok (.getfield 276, 3) := by decide +kernel
theorem dX12_settlement_30 : decode cX12_settlement 30 = .ok (.bipush 8, 2) := by decide +kernel
theorem dX12_settlement_32 : decode cX12_settlement 32 = .ok (.if_icmp .ne 6, 3) := by decide +kernel
theorem dX12_settlement_35 : decode cX12_settlement 35 = .ok (.bipush (-3), 2) := by decide +kernel
theorem dX12_settlement_37 : decode cX12_settlement 37 = .ok (.ireturn, 1) := by decide +kernel
theorem dX12_settlement_38 : decode cX12_settlement 38 = .ok (.aload_n 0, 1) := by decide +kernel
theorem dX12_settlement_39 : decode cX12_settlement 39 = .ok (.getfield 64, 3) := by decide +kernel
theorem dX12_settlement_42 : decode cX12_settlement 42 = .ok (.aload_n 0, 1) := by decide +kernel
theorem dX12_settlement_43 : decode cX12_settlement 43 = .ok (.getfield 276, 3) := by decide +kernel
theorem dX12_settlement_46 : decode cX12_settlement 46 = .ok (.iload_n 1, 1) := by decide +kernel
theorem dX12_settlement_47 : decode cX12_settlement 47 = .ok (.iastore, 1) := by decide +kernel
theorem dX12_settlement_48 : decode cX12_settlement 48 = .ok (.aload_n 0, 1) := by decide +kernel
theorem dX12_settlement_49 : decode cX12_settlement 49 = .ok (.getfield 67, 3) := by decide +kernel
theorem dX12_settlement_52 : decode cX12_settlement 52 = .ok (.aload_n 0, 1) := by decide +kernel
theorem dX12_settlement_53 : decode cX12_settlement 53 = .ok (.getfield 276, 3) := by decide +kernel
theorem dX12_settlement_56 : decode cX12_settlement 56 = .ok (.iload_n 2, 1) := by decide +kernel
theorem dX12_settlement_57 : decode cX12_settlement 57 = .ok (.iastore, 1) := by decide +kernel
theorem dX12_settlement_58 : decode cX12_settlement 58 = .ok (.aload_n 0, 1) := by decide +kernel
theorem dX12_settlement_59 : decode cX12_settlement 59 = .ok (.dup, 1) := by decide +kernel
theorem dX12_settlement_60 : decode cX12_settlement 60 = .ok (.getfield 276, 3) := by decide +kernel
theorem dX12_settlement_63 : decode cX12_settlement 63 = .ok (.iconst 1, 1) := by decide +kernel
theorem dX12_settlement_64 : decode cX12_settlement 64 = .ok (.iadd, 1) := by decide +kernel
theorem dX12_settlement_65 : decode cX12_settlement 65 = .ok (.putfield 276, 3) := by decide +kernel
theorem dX12_settlement_68 : decode cX12_settlement 68 = .ok (.aload_n 0, 1) := by decide +kernel
theorem dX12_settlement_69 : decode cX12_settlement 69 = .ok (.getfield 276, 3) := by decide +kernel
theorem dX12_settlement_72 : decode cX12_settlement 72 = .ok (.iconst 1, 1) := by decide +kernel
theorem dX12_settlement_73 : decode cX12_settlement 73 = .ok (.isub, 1) := by decide +kernel
theorem dX12_settlement_74 : decode cX12_settlement 74 = .ok (.ireturn, 1) := by decide +kernel
theorem dX12_toppedOf_0 : decode cX12_toppedOf 0 = .ok (.iconst 0, 1) := by decide +kernel
theorem dX12_toppedOf_1 : decode cX12_toppedOf 1 = .ok (.istore_n 2, 1) := by decide +kernel
theorem dX12_toppedOf_2 : decode cX12_toppedOf 2 = .ok (.iload_n 1, 1) := by decide +kernel
theorem dX12_toppedOf_3 : decode cX12_toppedOf 3 = .ok (.iconst 1, 1) := by decide +kernel
theorem dX12_toppedOf_4 : decode cX12_toppedOf 4 = .ok (.iadd, 1) := by decide +kernel
theorem dX12_toppedOf_5 : decode cX12_toppedOf 5 = .ok (.istore_n 3, 1) := by decide +kernel
theorem dX12_toppedOf_6 : decode cX12_toppedOf 6 = .ok (.iload_n 3, 1) := by decide +kernel
theorem dX12_toppedOf_7 : decode cX12_toppedOf 7 = .ok (.aload_n 0, 1) := by decide +kernel
theorem dX12_toppedOf_8 : decode cX12_toppedOf 8 = .ok (.getfield 276, 3) := by decide +kernel
theorem dX12_toppedOf_11 : decode cX12_toppedOf 11 = .ok (.if_icmp .ge 28, 3) := by decide +kernel
theorem dX12_toppedOf_14 : decode cX12_toppedOf 14 = .ok (.iload_n 2, 1) := by decide +kernel
theorem dX12_toppedOf_15 : decode cX12_toppedOf 15 = .ok (.aload_n 0, 1) := by decide +kernel
theorem dX12_toppedOf_16 : decode cX12_toppedOf 16 = .ok (.getfield 64, 3) := by decide +kernel
theorem dX12_toppedOf_19 : decode cX12_toppedOf 19 = .ok (.iload_n 3, 1) := by decide +kernel
theorem dX12_toppedOf_20 : decode cX12_toppedOf 20 = .ok (.iaload, 1) := by decide +kernel
theorem dX12_toppedOf_21 : decode cX12_toppedOf 21 = .ok (.aload_n 0, 1) := by decide +kernel
theorem dX12_toppedOf_22 : decode cX12_toppedOf 22 = .ok (.getfield 67, 3) := by decide +kernel
theorem dX12_toppedOf_25 : decode cX12_toppedOf 25 = .ok (.iload_n 1, 1) := by decide +kernel
theorem dX12_toppedOf_26 : decode cX12_toppedOf 26 = .ok (.iaload, 1) := by decide +kernel
theorem dX12_toppedOf_27 : decode cX12_toppedOf 27 = .ok (.imul, 1) := by decide +kernel
theorem dX12_toppedOf_28 : decode cX12_toppedOf 28 = .ok (.bipush 100, 2) := by decide +kernel
theorem dX12_toppedOf_30 : decode cX12_toppedOf 30 = .ok (.idiv, 1) := by decide +kernel
theorem dX12_toppedOf_31 : decode cX12_toppedOf 31 = .ok (.iadd, 1) := by decide +kernel
theorem dX12_toppedOf_32 : decode cX12_toppedOf 32 = .ok (.istore_n 2, 1) := by decide +kernel
theorem dX12_toppedOf_33 : decode cX12_toppedOf 33 = .ok (.iinc 3 1, 3) := by decide +kernel
theorem dX12_toppedOf_36 : decode cX12_toppedOf 36 = .ok (.goto (-30), 3) := by decide +kernel
theorem dX12_toppedOf_39 : decode cX12_toppedOf 39 = .ok (.iload_n 2, 1) := by decide +kernel
theorem dX12_toppedOf_40 : decode cX12_toppedOf 40 = .ok (.ireturn, 1) := by decide +kernel
set_option maxRecDepth 20000 in
theorem ggX12_topped_X12_in : GoodIn wsX12_topped wsX12_in := goodIn_r _ [7] (by decide +kernel) (by decide +kernel)
set_option maxRecDepth 20000 in
theorem gX12_topped_X12_in : GoodIn wsX12_topped (va_wsS RX12 97 yX12_in wsX12_in) := goodIn_app (goodIn_of _ (by decide +kernel)) ggX12_topped_X12_in
set_option maxRecDepth 20000 in
theorem ggX12_topped_X12_toppedOf : GoodIn wsX12_topped wsX12_toppedOf := goodIn_r _ [11, 2, 3, 12, 13, 14, 15, 16, 17, 18, 19, 20, 21, 22, 23, 24, 25, 26, 27, 28, 29, 30, 31, 32, 33, 34, 35, 36, 37, 38, 39, 40, 41, 42, 43, 44, 45, 46, 47, 48, 49, 50, 51, 52] (by decide +kernel) (by decide +kernel)
set_option maxRecDepth 20000 in
theorem gX12_topped_X12_toppedOf : GoodIn wsX12_topped (wsV RX12 279 RX12 yX12_toppedOf wsX12_toppedOf) := goodIn_app (goodIn_of _ (by decide +kernel)) ggX12_topped_X12_toppedOf
theorem dX12_topped_0 : decode cX12_topped 0 = .ok (.iload_n 1, 1) := by decide +kernel
theorem dX12_topped_1 : decode cX12_topped 1 = .ok (.i2l, 1) := by decide +kernel
theorem dX12_topped_2 : decode cX12_topped 2 = .ok (.ldc2_w 204, 3) := by decide +kernel
theorem dX12_topped_5 : decode cX12_topped 5 = .ok (.aload_n 0, 1) := by decide +kernel
theorem dX12_topped_6 : decode cX12_topped 6 = .ok (.getfield 276, 3) := by decide +kernel
theorem dX12_topped_9 : decode cX12_topped 9 = .ok (.iconst 1, 1) := by decide +kernel
theorem dX12_topped_10 : decode cX12_topped 10 = .ok (.isub, 1) := by decide +kernel
theorem dX12_topped_11 : decode cX12_topped 11 = .ok (.i2l, 1) := by decide +kernel
theorem dX12_topped_12 : decode cX12_topped 12 = .ok (.invokestatic 97, 3) := by decide +kernel
theorem dX12_topped_15 : decode cX12_topped 15 = .ok (.ifCond .ne 5, 3) := by decide +kernel
theorem dX12_topped_18 : decode cX12_topped 18 = .ok (.iconst (-1), 1) := by decide +kernel
theorem dX12_topped_19 : decode cX12_topped 19 = .ok (.ireturn, 1) := by decide +kernel
theorem dX12_topped_20 : decode cX12_topped 20 = .ok (.iload_n 1, 1) := by decide +kernel
theorem dX12_topped_21 : decode cX12_topped 21 = .ok (.ifCond .lt 9, 3) := by decide +kernel
theorem dX12_topped_24 : decode cX12_topped 24 = .ok (.aload_n 0, 1) := by decide +kernel
theorem dX12_topped_25 : decode cX12_topped 25 = .ok (.iload_n 1, 1) := by decide +kernel
theorem dX12_topped_26 : decode cX12_topped 26 = .ok (.invokevirtual 279, 3) := by decide +kernel
theorem dX12_topped_29 : decode cX12_topped 29 = .ok (.ireturn, 1) := by decide +kernel
theorem dX12_topped_30 : decode cX12_topped 30 = .ok (.iconst 0, 1) := by decide +kernel
theorem dX12_topped_31 : decode cX12_topped 31 = .ok (.istore_n 2, 1) := by decide +kernel
theorem dX12_topped_32 : decode cX12_topped 32 = .ok (.iconst 0, 1) := by decide +kernel
theorem dX12_topped_33 : decode cX12_topped 33 = .ok (.istore_n 3, 1) := by decide +kernel
theorem dX12_topped_34 : decode cX12_topped 34 = .ok (.iload_n 3, 1) := by decide +kernel
theorem dX12_topped_35 : decode cX12_topped 35 = .ok (.aload_n 0, 1) := by decide +kernel
theorem dX12_topped_36 : decode cX12_topped 36 = .ok (.getfield 276, 3) := by decide +kernel
theorem dX12_topped_39 : decode cX12_topped 39 = .ok (.if_icmp .ge 24, 3) := by decide +kernel
theorem dX12_topped_42 : decode cX12_topped 42 = .ok (.iload_n 2, 1) := by decide +kernel
theorem dX12_topped_43 : decode cX12_topped 43 = .ok (.aload_n 0, 1) := by decide +kernel
theorem dX12_topped_44 : decode cX12_topped 44 = .ok (.getfield 64, 3) := by decide +kernel
theorem dX12_topped_47 : decode cX12_topped 47 = .ok (.iload_n 3, 1) := by decide +kernel
theorem dX12_topped_48 : decode cX12_topped 48 = .ok (.iaload, 1) := by decide +kernel
theorem dX12_topped_49 : decode cX12_topped 49 = .ok (.aload_n 0, 1) := by decide +kernel
theorem dX12_topped_50 : decode cX12_topped 50 = .ok (.iload_n 3, 1) := by decide +kernel
theorem dX12_topped_51 : decode cX12_topped 51 = .ok (.invokevirtual 279, 3) := by decide +kernel
theorem dX12_topped_54 : decode cX12_topped 54 = .ok (.iadd, 1) := by decide +kernel
theorem dX12_topped_55 : decode cX12_topped 55 = .ok (.iadd, 1) := by decide +kernel
theorem dX12_topped_56 : decode cX12_topped 56 = .ok (.istore_n 2, 1) := by decide +kernel
theorem dX12_topped_57 : decode cX12_topped 57 = .ok (.iinc 3 1, 3) := by decide +kernel
theorem dX12_topped_60 : decode cX12_topped 60 = .ok (.goto (-26), 3) := by decide +kernel
theorem dX12_topped_63 : decode cX12_topped 63 = .ok (.iload_n 2, 1) := by decide +kernel
theorem dX12_topped_64 : decode cX12_topped 64 = .ok (.ireturn, 1) := by decide +kernel
set_option maxRecDepth 20000 in
theorem ggX12_waits_X12_sumOf : GoodIn wsX12_waits wsX12_sumOf := goodIn_r _ [6, 7, 1, 8, 9, 5, 10, 11, 12, 13, 14, 15, 16, 17, 18, 19, 20, 21, 22, 23, 24, 25, 26, 27, 28, 29, 30, 31, 32, 33, 34, 35, 36, 37, 38, 39, 40, 41, 42, 43, 44, 45, 46, 47, 48, 49, 50] (by decide +kernel) (by decide +kernel)
set_option maxRecDepth 20000 in
theorem gX12_waits_X12_sumOf : GoodIn wsX12_waits (wsV RX12 263 RX12 yX12_sumOf wsX12_sumOf) := goodIn_app (goodIn_of _ (by decide +kernel)) ggX12_waits_X12_sumOf
theorem dX12_waits_0 : decode cX12_waits 0 = .ok (.aload_n 0, 1) := by decide +kernel
theorem dX12_waits_1 : decode cX12_waits 1 = .ok (.iload_n 1, 1) := by decide +kernel
theorem dX12_waits_2 : decode cX12_waits 2 = .ok (.iconst 5, 1) := by decide +kernel
theorem dX12_waits_3 : decode cX12_waits 3 = .ok (.invokevirtual 263, 3) := by decide +kernel
theorem dX12_waits_6 : decode cX12_waits 6 = .ok (.aload_n 0, 1) := by decide +kernel
theorem dX12_waits_7 : decode cX12_waits 7 = .ok (.getfield 61, 3) := by decide +kernel
theorem dX12_waits_10 : decode cX12_waits 10 = .ok (.bipush 6, 2) := by decide +kernel
theorem dX12_waits_12 : decode cX12_waits 12 = .ok (.iload_n 2, 1) := by decide +kernel
theorem dX12_waits_13 : decode cX12_waits 13 = .ok (.imul, 1) := by decide +kernel
theorem dX12_waits_14 : decode cX12_waits 14 = .ok (.iconst 5, 1) := by decide +kernel
theorem dX12_waits_15 : decode cX12_waits 15 = .ok (.iadd, 1) := by decide +kernel
theorem dX12_waits_16 : decode cX12_waits 16 = .ok (.iaload, 1) := by decide +kernel
theorem dX12_waits_17 : decode cX12_waits 17 = .ok (.iadd, 1) := by decide +kernel
theorem dX12_waits_18 : decode cX12_waits 18 = .ok (.istore 4, 2) := by decide +kernel
theorem dX12_waits_20 : decode cX12_waits 20 = .ok (.aload_n 0, 1) := by decide +kernel
theorem dX12_waits_21 : decode cX12_waits 21 = .ok (.getfield 61, 3) := by decide +kernel
theorem dX12_waits_24 : decode cX12_waits 24 = .ok (.bipush 6, 2) := by decide +kernel
theorem dX12_waits_26 : decode cX12_waits 26 = .ok (.iload_n 2, 1) := by decide +kernel
theorem dX12_waits_27 : decode cX12_waits 27 = .ok (.imul, 1) := by decide +kernel
theorem dX12_waits_28 : decode cX12_waits 28 = .ok (.iconst 1, 1) := by decide +kernel
theorem dX12_waits_29 : decode cX12_waits 29 = .ok (.iadd, 1) := by decide +kernel
theorem dX12_waits_30 : decode cX12_waits 30 = .ok (.iaload, 1) := by decide +kernel
theorem dX12_waits_31 : decode cX12_waits 31 = .ok (.iload 4, 2) := by decide +kernel
theorem dX12_waits_33 : decode cX12_waits 33 = .ok (.iload_n 3, 1) := by decide +kernel
theorem dX12_waits_34 : decode cX12_waits 34 = .ok (.iadd, 1) := by decide +kernel
theorem dX12_waits_35 : decode cX12_waits 35 = .ok (.iconst 1, 1) := by decide +kernel
theorem dX12_waits_36 : decode cX12_waits 36 = .ok (.isub, 1) := by decide +kernel
theorem dX12_waits_37 : decode cX12_waits 37 = .ok (.iload_n 3, 1) := by decide +kernel
theorem dX12_waits_38 : decode cX12_waits 38 = .ok (.idiv, 1) := by decide +kernel
theorem dX12_waits_39 : decode cX12_waits 39 = .ok (.iconst 1, 1) := by decide +kernel
theorem dX12_waits_40 : decode cX12_waits 40 = .ok (.isub, 1) := by decide +kernel
theorem dX12_waits_41 : decode cX12_waits 41 = .ok (.imul, 1) := by decide +kernel
theorem dX12_waits_42 : decode cX12_waits 42 = .ok (.ireturn, 1) := by decide +kernel
set_option maxRecDepth 20000 in
theorem ggX12_plan_X12_in : GoodIn wsX12_plan wsX12_in := goodIn_r _ [9] (by decide +kernel) (by decide +kernel)
set_option maxRecDepth 20000 in
theorem gX12_plan_X12_in : GoodIn wsX12_plan (va_wsS RX12 97 yX12_in wsX12_in) := goodIn_app (goodIn_of _ (by decide +kernel)) ggX12_plan_X12_in
set_option maxRecDepth 20000 in
theorem ggX12_plan_X12_foundedBy : GoodIn wsX12_plan wsX12_foundedBy := goodIn_r _ [13, 5, 14, 29, 30, 31, 32, 33, 34, 35, 36, 37, 38, 39, 40, 41, 42, 43, 44, 45, 46, 47, 48, 49, 50, 51, 52, 53, 54, 55, 56, 57, 58, 59, 60, 61, 62, 63, 64, 65, 66, 67, 68] (by decide +kernel) (by decide +kernel)
set_option maxRecDepth 20000 in
theorem gX12_plan_X12_foundedBy : GoodIn wsX12_plan (wsV RX12 260 RX12 yX12_foundedBy wsX12_foundedBy) := goodIn_app (goodIn_of _ (by decide +kernel)) ggX12_plan_X12_foundedBy
set_option maxRecDepth 20000 in
theorem ggX12_plan_X12_has : GoodIn wsX12_plan wsX12_has := goodIn_r _ [17] (by decide +kernel) (by decide +kernel)
set_option maxRecDepth 20000 in
theorem gX12_plan_X12_has : GoodIn wsX12_plan (va_wsS RX12 147 yX12_has wsX12_has) := goodIn_app (goodIn_of _ (by decide +kernel)) ggX12_plan_X12_has
set_option maxRecDepth 20000 in
theorem ggX12_plan_X12_waits : GoodIn wsX12_plan wsX12_waits := goodIn_r _ [21, 14, 22, 23, 24, 8, 25, 5, 15, 16, 17, 29, 30, 31, 32, 33, 34, 35, 36, 37, 38, 39, 40, 41, 42, 43, 44, 45, 46, 47, 48, 49, 50, 51, 52, 53, 54, 55, 56, 57, 58, 59, 60, 61, 62, 63, 64, 65, 66, 67, 68] (by decide +kernel) (by decide +kernel)
set_option maxRecDepth 20000 in
theorem gX12_plan_X12_waits : GoodIn wsX12_plan (wsV RX12 283 RX12 yX12_waits wsX12_waits) := goodIn_app (goodIn_of _ (by decide +kernel)) ggX12_plan_X12_waits
set_option maxRecDepth 20000 in
theorem ggX12_plan_X12_bits : GoodIn wsX12_plan wsX12_bits := goodIn_r _ [28] (by decide +kernel) (by decide +kernel)
set_option maxRecDepth 20000 in
theorem gX12_plan_X12_bits : GoodIn wsX12_plan (va_wsS RX12 172 yX12_bits wsX12_bits) := goodIn_app (goodIn_of _ (by decide +kernel)) ggX12_plan_X12_bits
theorem dX12_plan_0 : decode cX12_plan 0 = .ok (.iload_n 1, 1) := by decide +kernel
theorem dX12_plan_1 : decode cX12_plan 1 = .ok (.i2l, 1) := by decide +kernel
theorem dX12_plan_2 : decode cX12_plan 2 = .ok (.lconst 1, 1) := by decide +kernel
theorem dX12_plan_3 : decode cX12_plan 3 = .ok (.ldc2_w 255, 3) := by decide +kernel
theorem dX12_plan_6 : decode cX12_plan 6 = .ok (.invokestatic 97, 3) := by decide +kernel
theorem dX12_plan_9 : decode cX12_plan 9 = .ok (.ifCond .eq 20, 3) := by decide +kernel
theorem dX12_plan_12 : decode cX12_plan 12 = .ok (.iload_n 2, 1) := by decide +kernel
theorem dX12_plan_13 : decode cX12_plan 13 = .ok (.i2l, 1) := by decide +kernel
theorem dX12_plan_14 : decode cX12_plan 14 = .ok (.lconst 0, 1) := by decide +kernel
theorem dX12_plan_15 : decode cX12_plan 15 = .ok (.ldc2_w 114, 3) := by decide +kernel
theorem dX12_plan_18 : decode cX12_plan 18 = .ok (.invokestatic 97, 3) := by decide +kernel
theorem dX12_plan_21 : decode cX12_plan 21 = .ok (.ifCond .eq 8, 3) := by decide +kernel
theorem dX12_plan_24 : decode cX12_plan 24 = .ok (.iload_n 3, 1) := by decide +kernel
theorem dX12_plan_25 : decode cX12_plan 25 = .ok (.iconst (-1), 1) := by decide +kernel
theorem dX12_plan_26 : decode cX12_plan 26 = .ok (.if_icmp .ge 5, 3) := by decide +kernel
theorem dX12_plan_29 : decode cX12_plan 29 = .ok (.iconst (-1), 1) := by decide +kernel
theorem dX12_plan_30 : decode cX12_plan 30 = .ok (.ireturn, 1) := by decide +kernel
theorem dX12_plan_31 : decode cX12_plan 31 = .ok (.aload_n 0, 1) := by decide +kernel
theorem dX12_plan_32 : decode cX12_plan 32 = .ok (.iload_n 2, 1) := by decide +kernel
theorem dX12_plan_33 : decode cX12_plan 33 = .ok (.invokevirtual 260, 3) := by decide +kernel
theorem dX12_plan_36 : decode cX12_plan 36 = .ok (.istore 4, 2) := by decide +kernel
theorem dX12_plan_38 : decode cX12_plan 38 = .ok (.aload_n 0, 1) := by decide +kernel
theorem dX12_plan_39 : decode cX12_plan 39 = .ok (.getfield 89, 3) := by decide +kernel
theorem dX12_plan_42 : decode cX12_plan 42 = .ok (.iload 4, 2) := by decide +kernel
theorem dX12_plan_44 : decode cX12_plan 44 = .ok (.iconst 0, 1) := by decide +kernel
theorem dX12_plan_45 : decode cX12_plan 45 = .ok (.iastore, 1) := by decide +kernel
theorem dX12_plan_46 : decode cX12_plan 46 = .ok (.iload 4, 2) := by decide +kernel
theorem dX12_plan_48 : decode cX12_plan 48 = .ok (.iconst 1, 1) := by decide +kernel
theorem dX12_plan_49 : decode cX12_plan 49 = .ok (.isub, 1) := by decide +kernel
theorem dX12_plan_50 : decode cX12_plan 50 = .ok (.istore 5, 2) := by decide +kernel
theorem dX12_plan_52 : decode cX12_plan 52 = .ok (.iload 5, 2) := by decide +kernel
theorem dX12_plan_54 : decode cX12_plan 54 = .ok (.ifCond .lt 117, 3) := by decide +kernel
theorem dX12_plan_57 : decode cX12_plan 57 = .ok (.iload 5, 2) := by decide +kernel
theorem dX12_plan_59 : decode cX12_plan 59 = .ok (.iload 4, 2) := by decide +kernel
theorem dX12_plan_61 : decode cX12_plan 61 = .ok (.iconst (-1), 1) := by decide +kernel
theorem dX12_plan_62 : decode cX12_plan 62 = .ok (.ixor, 1) := by decide +kernel
theorem dX12_plan_63 : decode cX12_plan 63 = .ok (.iand, 1) := by decide +kernel
theorem dX12_plan_64 : decode cX12_plan 64 = .ok (.ifCond .ne 101, 3) := by decide +kernel
theorem dX12_plan_67 : decode cX12_plan 67 = .ok (.aload_n 0, 1) := by decide +kernel
theorem dX12_plan_68 : decode cX12_plan 68 = .ok (.getfield 89, 3) := by decide +kernel
theorem dX12_plan_71 : decode cX12_plan 71 = .ok (.iload 5, 2) := by decide +kernel
theorem dX12_plan_73 : decode cX12_plan 73 = .ok (.ldc_w 282, 3) := by decide +kernel
theorem dX12_plan_76 : decode cX12_plan 76 = .ok (.iastore, 1) := by decide +kernel
theorem dX12_plan_77 : decode cX12_plan 77 = .ok (.iconst 0, 1) := by decide +kernel
theorem dX12_plan_78 : decode cX12_plan 78 = .ok (.istore 6, 2) := by decide +kernel
theorem dX12_plan_80 : decode cX12_plan 80 = .ok (.iload 6, 2) := by decide +kernel
theorem dX12_plan_82 : decode cX12_plan 82 = .ok (.aload_n 0, 1) := by decide +kernel
theorem dX12_plan_83 : decode cX12_plan 83 = .ok (.getfield 257, 3) := by decide +kernel
theorem dX12_plan_86 : decode cX12_plan 86 = .ok (.if_icmp .ge 79, 3) := by decide +kernel
theorem dX12_plan_89 : decode cX12_plan 89 = .ok (.iload 4, 2) := by decide +kernel
theorem dX12_plan_91 : decode cX12_plan 91 = .ok (.iload 5, 2) := by decide +kernel
theorem dX12_plan_93 : decode cX12_plan 93 = .ok (.iconst (-1), 1) := by decide +kernel
theorem dX12_plan_94 : decode cX12_plan 94 = .ok (.ixor, 1) := by decide +kernel
theorem dX12_plan_95 : decode cX12_plan 95 = .ok (.iand, 1) := by decide +kernel
theorem dX12_plan_96 : decode cX12_plan 96 = .ok (.iload 6, 2) := by decide +kernel
theorem dX12_plan_98 : decode cX12_plan 98 = .ok (.invokestatic 147, 3) := by decide +kernel
theorem dX12_plan_101 : decode cX12_plan 101 = .ok (.ifCond .eq 58, 3) := by decide +kernel
theorem dX12_plan_104 : decode cX12_plan 104 = .ok (.aload_n 0, 1) := by decide +kernel
theorem dX12_plan_105 : decode cX12_plan 105 = .ok (.iload 5, 2) := by decide +kernel
theorem dX12_plan_107 : decode cX12_plan 107 = .ok (.iload 6, 2) := by decide +kernel
theorem dX12_plan_109 : decode cX12_plan 109 = .ok (.iload_n 1, 1) := by decide +kernel
theorem dX12_plan_110 : decode cX12_plan 110 = .ok (.invokevirtual 283, 3) := by decide +kernel
theorem dX12_plan_113 : decode cX12_plan 113 = .ok (.aload_n 0, 1) := by decide +kernel
theorem dX12_plan_114 : decode cX12_plan 114 = .ok (.getfield 89, 3) := by decide +kernel
theorem dX12_plan_117 : decode cX12_plan 117 = .ok (.iload 5, 2) := by decide +kernel
theorem dX12_plan_119 : decode cX12_plan 119 = .ok (.iconst 1, 1) := by decide +kernel
theorem dX12_plan_120 : decode cX12_plan 120 = .ok (.iload 6, 2) := by decide +kernel
theorem dX12_plan_122 : decode cX12_plan 122 = .ok (.ishl, 1) := by decide +kernel
theorem dX12_plan_123 : decode cX12_plan 123 = .ok (.ior, 1) := by decide +kernel
theorem dX12_plan_124 : decode cX12_plan 124 = .ok (.iaload, 1) := by decide +kernel
theorem dX12_plan_125 : decode cX12_plan 125 = .ok (.iadd, 1) := by decide +kernel
theorem dX12_plan_126 : decode cX12_plan 126 = .ok (.istore 7, 2) := by decide +kernel
theorem dX12_plan_128 : decode cX12_plan 128 = .ok (.aload_n 0, 1) := by decide +kernel
theorem dX12_plan_129 : decode cX12_plan 129 = .ok (.getfield 89, 3) := by decide +kernel
theorem dX12_plan_132 : decode cX12_plan 132 = .ok (.iload 5, 2) := by decide +kernel
theorem dX12_plan_134 : decode cX12_plan 134 = .ok (.iload 7, 2) := by decide +kernel
theorem dX12_plan_136 : decode cX12_plan 136 = .ok (.aload_n 0, 1) := by decide +kernel
theorem dX12_plan_137 : decode cX12_plan 137 = .ok (.getfield 89, 3) := by decide +kernel
theorem dX12_plan_140 : decode cX12_plan 140 = .ok (.iload 5, 2) := by decide +kernel
theorem dX12_plan_142 : decode cX12_plan 142 = .ok (.iaload, 1) := by decide +kernel
theorem dX12_plan_143 : decode cX12_plan 143 = .ok (.if_icmp .ge 8, 3) := by decide +kernel
theorem dX12_plan_146 : decode cX12_plan 146 = .ok (.iload 7, 2) := by decide +kernel
theorem dX12_plan_148 : decode cX12_plan 148 = .ok (.goto 10, 3) := by decide +kernel
theorem dX12_plan_151 : decode cX12_plan 151 = .ok (.aload_n 0, 1) := by decide +kernel
theorem dX12_plan_152 : decode cX12_plan 152 = .ok (.getfield 89, 3) := by decide +kernel
theorem dX12_plan_155 : decode cX12_plan 155 = .ok (.iload 5, 2) := by decide +kernel
theorem dX12_plan_157 : decode cX12_plan 157 = .ok (.iaload, 1) := by decide +kernel
theorem dX12_plan_158 : decode cX12_plan 158 = .ok (.iastore, 1) := by decide +kernel
theorem dX12_plan_159 : decode cX12_plan 159 = .ok (.iinc 6 1, 3) := by decide +kernel
theorem dX12_plan_162 : decode cX12_plan 162 = .ok (.goto (-82), 3) := by decide +kernel
theorem dX12_plan_165 : decode cX12_plan 165 = .ok (.iinc 5 (-1), 3) := by decide +kernel
theorem dX12_plan_168 : decode cX12_plan 168 = .ok (.goto (-116), 3) := by decide +kernel
theorem dX12_plan_171 : decode cX12_plan 171 = .ok (.iload_n 3, 1) := by decide +kernel
theorem dX12_plan_172 : decode cX12_plan 172 = .ok (.ifCond .ge 10, 3) := by decide +kernel
theorem dX12_plan_175 : decode cX12_plan 175 = .ok (.aload_n 0, 1) := by decide +kernel
theorem dX12_plan_176 : decode cX12_plan 176 = .ok (.getfield 89, 3) := by decide +kernel
theorem dX12_plan_179 : decode cX12_plan 179 = .ok (.iconst 0, 1) := by decide +kernel
theorem dX12_plan_180 : decode cX12_plan 180 = .ok (.iaload, 1) := by decide +kernel
theorem dX12_plan_181 : decode cX12_plan 181 = .ok (.ireturn, 1) := by decide +kernel
theorem dX12_plan_182 : decode cX12_plan 182 = .ok (.iload_n 3, 1) := by decide +kernel
theorem dX12_plan_183 : decode cX12_plan 183 = .ok (.iload 4, 2) := by decide +kernel
theorem dX12_plan_185 : decode cX12_plan 185 = .ok (.invokestatic 172, 3) := by decide +kernel
theorem dX12_plan_188 : decode cX12_plan 188 = .ok (.if_icmp .lt 6, 3) := by decide +kernel
theorem dX12_plan_191 : decode cX12_plan 191 = .ok (.bipush (-4), 2) := by decide +kernel
theorem dX12_plan_193 : decode cX12_plan 193 = .ok (.ireturn, 1) := by decide +kernel
theorem dX12_plan_194 : decode cX12_plan 194 = .ok (.iconst 0, 1) := by decide +kernel
theorem dX12_plan_195 : decode cX12_plan 195 = .ok (.istore 5, 2) := by decide +kernel
theorem dX12_plan_197 : decode cX12_plan 197 = .ok (.bipush (-4), 2) := by decide +kernel
theorem dX12_plan_199 : decode cX12_plan 199 = .ok (.istore 6, 2) := by decide +kernel
theorem dX12_plan_201 : decode cX12_plan 201 = .ok (.iconst 0, 1) := by decide +kernel
theorem dX12_plan_202 : decode cX12_plan 202 = .ok (.istore 7, 2) := by decide +kernel
theorem dX12_plan_204 : decode cX12_plan 204 = .ok (.iload 7, 2) := by decide +kernel
theorem dX12_plan_206 : decode cX12_plan 206 = .ok (.iload_n 3, 1) := by decide +kernel
theorem dX12_plan_207 : decode cX12_plan 207 = .ok (.if_icmp .gt 103, 3) := by decide +kernel
theorem dX12_plan_210 : decode cX12_plan 210 = .ok (.bipush (-4), 2) := by decide +kernel
theorem dX12_plan_212 : decode cX12_plan 212 = .ok (.istore 6, 2) := by decide +kernel
theorem dX12_plan_214 : decode cX12_plan 214 = .ok (.iconst 0, 1) := by decide +kernel
theorem dX12_plan_215 : decode cX12_plan 215 = .ok (.istore 8, 2) := by decide +kernel
theorem dX12_plan_217 : decode cX12_plan 217 = .ok (.iload 8, 2) := by decide +kernel
theorem dX12_plan_219 : decode cX12_plan 219 = .ok (.aload_n 0, 1) := by decide +kernel
theorem dX12_plan_220 : decode cX12_plan 220 = .ok (.getfield 257, 3) := by decide +kernel
theorem dX12_plan_223 : decode cX12_plan 223 = .ok (.if_icmp .ge 72, 3) := by decide +kernel
theorem dX12_plan_226 : decode cX12_plan 226 = .ok (.iload 6, 2) := by decide +kernel
theorem dX12_plan_228 : decode cX12_plan 228 = .ok (.bipush (-4), 2) := by decide +kernel
theorem dX12_plan_230 : decode cX12_plan 230 = .ok (.if_icmp .ne 65, 3) := by decide +kernel
theorem dX12_plan_233 : decode cX12_plan 233 = .ok (.iload 4, 2) := by decide +kernel
theorem dX12_plan_235 : decode cX12_plan 235 = .ok (.iload 5, 2) := by decide +kernel
theorem dX12_plan_237 : decode cX12_plan 237 = .ok (.iconst (-1), 1) := by decide +kernel
theorem dX12_plan_238 : decode cX12_plan 238 = .ok (.ixor, 1) := by decide +kernel
theorem dX12_plan_239 : decode cX12_plan 239 = .ok (.iand, 1) := by decide +kernel
theorem dX12_plan_240 : decode cX12_plan 240 = .ok (.iload 8, 2) := by decide +kernel
theorem dX12_plan_242 : decode cX12_plan 242 = .ok (.invokestatic 147, 3) := by decide +kernel
theorem dX12_plan_245 : decode cX12_plan 245 = .ok (.ifCond .eq 40, 3) := by decide +kernel
theorem dX12_plan_248 : decode cX12_plan 248 = .ok (.aload_n 0, 1) := by decide +kernel
theorem dX12_plan_249 : decode cX12_plan 249 = .ok (.iload 5, 2) := by decide +kernel
theorem dX12_plan_251 : decode cX12_plan 251 = .ok (.iload 8, 2) := by decide +kernel
theorem dX12_plan_253 : decode cX12_plan 253 = .ok (.iload_n 1, 1) := by decide +kernel
theorem dX12_plan_254 : decode cX12_plan 254 = .ok (.invokevirtual 283, 3) := by decide +kernel
theorem dX12_plan_257 : decode cX12_plan 257 = .ok (.aload_n 0, 1) := by decide +kernel
theorem dX12_plan_258 : decode cX12_plan 258 = .ok (.getfield 89, 3) := by decide +kernel
theorem dX12_plan_261 : decode cX12_plan 261 = .ok (.iload 5, 2) := by decide +kernel
theorem dX12_plan_263 : decode cX12_plan 263 = .ok (.iconst 1, 1) := by decide +kernel
theorem dX12_plan_264 : decode cX12_plan 264 = .ok (.iload 8, 2) := by decide +kernel
theorem dX12_plan_266 : decode cX12_plan 266 = .ok (.ishl, 1) := by decide +kernel
theorem dX12_plan_267 : decode cX12_plan 267 = .ok (.ior, 1) := by decide +kernel
theorem dX12_plan_268 : decode cX12_plan 268 = .ok (.iaload, 1) := by decide +kernel
theorem dX12_plan_269 : decode cX12_plan 269 = .ok (.iadd, 1) := by decide +kernel
theorem dX12_plan_270 : decode cX12_plan 270 = .ok (.aload_n 0, 1) := by decide +kernel
theorem dX12_plan_271 : decode cX12_plan 271 = .ok (.getfield 89, 3) := by decide +kernel
theorem dX12_plan_274 : decode cX12_plan 274 = .ok (.iload 5, 2) := by decide +kernel
theorem dX12_plan_276 : decode cX12_plan 276 = .ok (.iaload, 1) := by decide +kernel
theorem dX12_plan_277 : decode cX12_plan 277 = .ok (.if_icmp .ne 8, 3) := by decide +kernel
theorem dX12_plan_280 : decode cX12_plan 280 = .ok (.iload 8, 2) := by decide +kernel
theorem dX12_plan_282 : decode cX12_plan 282 = .ok (.goto 5, 3) := by decide +kernel
theorem dX12_plan_285 : decode cX12_plan 285 = .ok (.bipush (-4), 2) := by decide +kernel
theorem dX12_plan_287 : decode cX12_plan 287 = .ok (.istore 6, 2) := by decide +kernel
theorem dX12_plan_289 : decode cX12_plan 289 = .ok (.iinc 8 1, 3) := by decide +kernel
theorem dX12_plan_292 : decode cX12_plan 292 = .ok (.goto (-75), 3) := by decide +kernel
theorem dX12_plan_295 : decode cX12_plan 295 = .ok (.iload 5, 2) := by decide +kernel
theorem dX12_plan_297 : decode cX12_plan 297 = .ok (.iconst 1, 1) := by decide +kernel
theorem dX12_plan_298 : decode cX12_plan 298 = .ok (.iload 6, 2) := by decide +kernel
theorem dX12_plan_300 : decode cX12_plan 300 = .ok (.ishl, 1) := by decide +kernel
theorem dX12_plan_301 : decode cX12_plan 301 = .ok (.ior, 1) := by decide +kernel
theorem dX12_plan_302 : decode cX12_plan 302 = .ok (.istore 5, 2) := by decide +kernel
theorem dX12_plan_304 : decode cX12_plan 304 = .ok (.iinc 7 1, 3) := by decide +kernel
theorem dX12_plan_307 : decode cX12_plan 307 = .ok (.goto (-103), 3) := by decide +kernel
theorem dX12_plan_310 : decode cX12_plan 310 = .ok (.iload 6, 2) := by decide +kernel
theorem dX12_plan_312 : decode cX12_plan 312 = .ok (.ireturn, 1) := by decide +kernel
theorem dX12_count_0 : decode cX12_count 0 = .ok (.iload_n 1, 1) := by decide +kernel
theorem dX12_count_1 : decode cX12_count 1 = .ok (.tableswitch 120 0 11 #[63, 63, 70, 75, 80, 85, 90, 95, 100, 105, 110, 110], 63) := by decide +kernel
theorem dX12_count_64 : decode cX12_count 64 = .ok (.aload_n 0, 1) := by decide +kernel
theorem dX12_count_65 : decode cX12_count 65 = .ok (.getfield 16, 3) := by decide +kernel
theorem dX12_count_68 : decode cX12_count 68 = .ok (.iload_n 1, 1) := by decide +kernel
theorem dX12_count_69 : decode cX12_count 69 = .ok (.iaload, 1) := by decide +kernel
theorem dX12_count_70 : decode cX12_count 70 = .ok (.ireturn, 1) := by decide +kernel
theorem dX12_count_71 : decode cX12_count 71 = .ok (.aload_n 0, 1) := by decide +kernel
theorem dX12_count_72 : decode cX12_count 72 = .ok (.getfield 175, 3) := by decide +kernel
theorem dX12_count_75 : decode cX12_count 75 = .ok (.ireturn, 1) := by decide +kernel
theorem dX12_count_76 : decode cX12_count 76 = .ok (.aload_n 0, 1) := by decide +kernel
theorem dX12_count_77 : decode cX12_count 77 = .ok (.getfield 187, 3) := by decide +kernel
theorem dX12_count_80 : decode cX12_count 80 = .ok (.ireturn, 1) := by decide +kernel
theorem dX12_count_81 : decode cX12_count 81 = .ok (.aload_n 0, 1) := by decide +kernel
theorem dX12_count_82 : decode cX12_count 82 = .ok (.getfield 193, 3) := by decide +kernel
theorem dX12_count_85 : decode cX12_count 85 = .ok (.ireturn, 1) := by decide +kernel
theorem dX12_count_86 : decode cX12_count 86 = .ok (.aload_n 0, 1) := by decide +kernel
theorem dX12_count_87 : decode cX12_count 87 = .ok (.getfield 198, 3) := by decide +kernel
theorem dX12_count_90 : decode cX12_count 90 = .ok (.ireturn, 1) := by decide +kernel
theorem dX12_count_91 : decode cX12_count 91 = .ok (.aload_n 0, 1) := by decide +kernel
theorem dX12_count_92 : decode cX12_count 92 = .ok (.getfield 214, 3) := by decide +kernel
theorem dX12_count_95 : decode cX12_count 95 = .ok (.ireturn, 1) := by decide +kernel
theorem dX12_count_96 : decode cX12_count 96 = .ok (.aload_n 0, 1) := by decide +kernel
theorem dX12_count_97 : decode cX12_count 97 = .ok (.getfield 217, 3) := by decide +kernel
theorem dX12_count_100 : decode cX12_count 100 = .ok (.ireturn, 1) := by decide +kernel
theorem dX12_count_101 : decode cX12_count 101 = .ok (.aload_n 0, 1) := by decide +kernel
theorem dX12_count_102 : decode cX12_count 102 = .ok (.getfield 257, 3) := by decide +kernel
theorem dX12_count_105 : decode cX12_count 105 = .ok (.ireturn, 1) := by decide +kernel
theorem dX12_count_106 : decode cX12_count 106 = .ok (.aload_n 0, 1) := by decide +kernel
theorem dX12_count_107 : decode cX12_count 107 = .ok (.getfield 276, 3) := by decide +kernel
theorem dX12_count_110 : decode cX12_count 110 = .ok (.ireturn, 1) := by decide +kernel
theorem dX12_count_111 : decode cX12_count 111 = .ok (.aload_n 0, 1) := by decide +kernel
theorem dX12_count_112 : decode cX12_count 112 = .ok (.getfield 7, 3) := by decide +kernel
theorem dX12_count_115 : decode cX12_count 115 = .ok (.iload_n 1, 1) := by decide +kernel
theorem dX12_count_116 : decode cX12_count 116 = .ok (.bipush 10, 2) := by decide +kernel
theorem dX12_count_118 : decode cX12_count 118 = .ok (.isub, 1) := by decide +kernel
theorem dX12_count_119 : decode cX12_count 119 = .ok (.iaload, 1) := by decide +kernel
theorem dX12_count_120 : decode cX12_count 120 = .ok (.ireturn, 1) := by decide +kernel
theorem dX12_count_121 : decode cX12_count 121 = .ok (.iconst (-1), 1) := by decide +kernel
theorem dX12_count_122 : decode cX12_count 122 = .ok (.ireturn, 1) := by decide +kernel
theorem dJ6_bitCount_0f7a4_0 : decode cJ6_bitCount_0f7a4 0 = .ok (.iload_n 0, 1) := by decide +kernel
theorem dJ6_bitCount_0f7a4_1 : decode cJ6_bitCount_0f7a4 1 = .ok (.iload_n 0, 1) := by decide +kernel
theorem dJ6_bitCount_0f7a4_2 : decode cJ6_bitCount_0f7a4 2 = .ok (.iconst 1, 1) := by decide +kernel
theorem dJ6_bitCount_0f7a4_3 : decode cJ6_bitCount_0f7a4 3 = .ok (.iushr, 1) := by decide +kernel
theorem dJ6_bitCount_0f7a4_4 : decode cJ6_bitCount_0f7a4 4 = .ok (.ldc_w 265, 3) := by decide +kernel
theorem dJ6_bitCount_0f7a4_7 : decode cJ6_bitCount_0f7a4 7 = .ok (.iand, 1) := by decide +kernel
theorem dJ6_bitCount_0f7a4_8 : decode cJ6_bitCount_0f7a4 8 = .ok (.isub, 1) := by decide +kernel
theorem dJ6_bitCount_0f7a4_9 : decode cJ6_bitCount_0f7a4 9 = .ok (.istore_n 0, 1) := by decide +kernel
theorem dJ6_bitCount_0f7a4_10 : decode cJ6_bitCount_0f7a4 10 = .ok (.iload_n 0, 1) := by decide +kernel
theorem dJ6_bitCount_0f7a4_11 : decode cJ6_bitCount_0f7a4 11 = .ok (.ldc_w 266, 3) := by decide +kernel
theorem dJ6_bitCount_0f7a4_14 : decode cJ6_bitCount_0f7a4 14 = .ok (.iand, 1) := by decide +kernel
theorem dJ6_bitCount_0f7a4_15 : decode cJ6_bitCount_0f7a4 15 = .ok (.iload_n 0, 1) := by decide +kernel
theorem dJ6_bitCount_0f7a4_16 : decode cJ6_bitCount_0f7a4 16 = .ok (.iconst 2, 1) := by decide +kernel
theorem dJ6_bitCount_0f7a4_17 : decode cJ6_bitCount_0f7a4 17 = .ok (.iushr, 1) := by decide +kernel
theorem dJ6_bitCount_0f7a4_18 : decode cJ6_bitCount_0f7a4 18 = .ok (.ldc_w 266, 3) := by decide +kernel
theorem dJ6_bitCount_0f7a4_21 : decode cJ6_bitCount_0f7a4 21 = .ok (.iand, 1) := by decide +kernel
theorem dJ6_bitCount_0f7a4_22 : decode cJ6_bitCount_0f7a4 22 = .ok (.iadd, 1) := by decide +kernel
theorem dJ6_bitCount_0f7a4_23 : decode cJ6_bitCount_0f7a4 23 = .ok (.istore_n 0, 1) := by decide +kernel
theorem dJ6_bitCount_0f7a4_24 : decode cJ6_bitCount_0f7a4 24 = .ok (.iload_n 0, 1) := by decide +kernel
theorem dJ6_bitCount_0f7a4_25 : decode cJ6_bitCount_0f7a4 25 = .ok (.iload_n 0, 1) := by decide +kernel
theorem dJ6_bitCount_0f7a4_26 : decode cJ6_bitCount_0f7a4 26 = .ok (.iconst 4, 1) := by decide +kernel
theorem dJ6_bitCount_0f7a4_27 : decode cJ6_bitCount_0f7a4 27 = .ok (.iushr, 1) := by decide +kernel
theorem dJ6_bitCount_0f7a4_28 : decode cJ6_bitCount_0f7a4 28 = .ok (.iadd, 1) := by decide +kernel
theorem dJ6_bitCount_0f7a4_29 : decode cJ6_bitCount_0f7a4 29 = .ok (.ldc_w 267, 3) := by decide +kernel
theorem dJ6_bitCount_0f7a4_32 : decode cJ6_bitCount_0f7a4 32 = .ok (.iand, 1) := by decide +kernel
theorem dJ6_bitCount_0f7a4_33 : decode cJ6_bitCount_0f7a4 33 = .ok (.istore_n 0, 1) := by decide +kernel
theorem dJ6_bitCount_0f7a4_34 : decode cJ6_bitCount_0f7a4 34 = .ok (.iload_n 0, 1) := by decide +kernel
theorem dJ6_bitCount_0f7a4_35 : decode cJ6_bitCount_0f7a4 35 = .ok (.iload_n 0, 1) := by decide +kernel
theorem dJ6_bitCount_0f7a4_36 : decode cJ6_bitCount_0f7a4 36 = .ok (.bipush 8, 2) := by decide +kernel
theorem dJ6_bitCount_0f7a4_38 : decode cJ6_bitCount_0f7a4 38 = .ok (.iushr, 1) := by decide +kernel
theorem dJ6_bitCount_0f7a4_39 : decode cJ6_bitCount_0f7a4 39 = .ok (.iadd, 1) := by decide +kernel
theorem dJ6_bitCount_0f7a4_40 : decode cJ6_bitCount_0f7a4 40 = .ok (.istore_n 0, 1) := by decide +kernel
theorem dJ6_bitCount_0f7a4_41 : decode cJ6_bitCount_0f7a4 41 = .ok (.iload_n 0, 1) := by decide +kernel
theorem dJ6_bitCount_0f7a4_42 : decode cJ6_bitCount_0f7a4 42 = .ok (.iload_n 0, 1) := by decide +kernel
theorem dJ6_bitCount_0f7a4_43 : decode cJ6_bitCount_0f7a4 43 = .ok (.bipush 16, 2) := by decide +kernel
theorem dJ6_bitCount_0f7a4_45 : decode cJ6_bitCount_0f7a4 45 = .ok (.iushr, 1) := by decide +kernel
theorem dJ6_bitCount_0f7a4_46 : decode cJ6_bitCount_0f7a4 46 = .ok (.iadd, 1) := by decide +kernel
theorem dJ6_bitCount_0f7a4_47 : decode cJ6_bitCount_0f7a4 47 = .ok (.istore_n 0, 1) := by decide +kernel
theorem dJ6_bitCount_0f7a4_48 : decode cJ6_bitCount_0f7a4 48 = .ok (.iload_n 0, 1) := by decide +kernel
theorem dJ6_bitCount_0f7a4_49 : decode cJ6_bitCount_0f7a4 49 = .ok (.bipush 63, 2) := by decide +kernel
theorem dJ6_bitCount_0f7a4_51 : decode cJ6_bitCount_0f7a4 51 = .ok (.iand, 1) := by decide +kernel
theorem dJ6_bitCount_0f7a4_52 : decode cJ6_bitCount_0f7a4 52 = .ok (.ireturn, 1) := by decide +kernel
theorem dJ9_max_7cf53_0 : decode cJ9_max_7cf53 0 = .ok (.iload_n 0, 1) := by decide +kernel
theorem dJ9_max_7cf53_1 : decode cJ9_max_7cf53 1 = .ok (.iload_n 1, 1) := by decide +kernel
theorem dJ9_max_7cf53_2 : decode cJ9_max_7cf53 2 = .ok (.if_icmp .lt 7, 3) := by decide +kernel
theorem dJ9_max_7cf53_5 : decode cJ9_max_7cf53 5 = .ok (.iload_n 0, 1) := by decide +kernel
theorem dJ9_max_7cf53_6 : decode cJ9_max_7cf53 6 = .ok (.goto 4, 3) := by decide +kernel
theorem dJ9_max_7cf53_9 : decode cJ9_max_7cf53 9 = .ok (.iload_n 1, 1) := by decide +kernel
theorem dJ9_max_7cf53_10 : decode cJ9_max_7cf53 10 = .ok (.ireturn, 1) := by decide +kernel
theorem dJ9_min_7cf53_0 : decode cJ9_min_7cf53 0 = .ok (.iload_n 0, 1) := by decide +kernel
theorem dJ9_min_7cf53_1 : decode cJ9_min_7cf53 1 = .ok (.iload_n 1, 1) := by decide +kernel
theorem dJ9_min_7cf53_2 : decode cJ9_min_7cf53 2 = .ok (.if_icmp .gt 7, 3) := by decide +kernel
theorem dJ9_min_7cf53_5 : decode cJ9_min_7cf53 5 = .ok (.iload_n 0, 1) := by decide +kernel
theorem dJ9_min_7cf53_6 : decode cJ9_min_7cf53 6 = .ok (.goto 4, 3) := by decide +kernel
theorem dJ9_min_7cf53_9 : decode cJ9_min_7cf53 9 = .ok (.iload_n 1, 1) := by decide +kernel
theorem dJ9_min_7cf53_10 : decode cJ9_min_7cf53 10 = .ok (.ireturn, 1) := by decide +kernel
theorem dJ7_fill_d0a16_0 : decode cJ7_fill_d0a16 0 = .ok (.iconst 0, 1) := by decide +kernel
theorem dJ7_fill_d0a16_1 : decode cJ7_fill_d0a16 1 = .ok (.istore_n 3, 1) := by decide +kernel
theorem dJ7_fill_d0a16_2 : decode cJ7_fill_d0a16 2 = .ok (.aload_n 0, 1) := by decide +kernel
theorem dJ7_fill_d0a16_3 : decode cJ7_fill_d0a16 3 = .ok (.arraylength, 1) := by decide +kernel
theorem dJ7_fill_d0a16_4 : decode cJ7_fill_d0a16 4 = .ok (.istore 4, 2) := by decide +kernel
theorem dJ7_fill_d0a16_6 : decode cJ7_fill_d0a16 6 = .ok (.iload_n 3, 1) := by decide +kernel
theorem dJ7_fill_d0a16_7 : decode cJ7_fill_d0a16 7 = .ok (.iload 4, 2) := by decide +kernel
theorem dJ7_fill_d0a16_9 : decode cJ7_fill_d0a16 9 = .ok (.if_icmp .ge 13, 3) := by decide +kernel
theorem dJ7_fill_d0a16_12 : decode cJ7_fill_d0a16 12 = .ok (.aload_n 0, 1) := by decide +kernel
theorem dJ7_fill_d0a16_13 : decode cJ7_fill_d0a16 13 = .ok (.iload_n 3, 1) := by decide +kernel
theorem dJ7_fill_d0a16_14 : decode cJ7_fill_d0a16 14 = .ok (.lload_n 1, 1) := by decide +kernel
theorem dJ7_fill_d0a16_15 : decode cJ7_fill_d0a16 15 = .ok (.lastore, 1) := by decide +kernel
theorem dJ7_fill_d0a16_16 : decode cJ7_fill_d0a16 16 = .ok (.iinc 3 1, 3) := by decide +kernel
theorem dJ7_fill_d0a16_19 : decode cJ7_fill_d0a16 19 = .ok (.goto (-13), 3) := by decide +kernel
theorem dJ7_fill_d0a16_22 : decode cJ7_fill_d0a16 22 = .ok (.return_, 1) := by decide +kernel
