theorem dX11_let_61 : decode cX11_let 61 = .ok (.invokevirtual 133, 3) := by decide +kernel
theorem dX11_let_64 : decode cX11_let 64 = .ok (.ifCond .eq 7, 3) := by decide +kernel
theorem dX11_let_67 : decode cX11_let 67 = .ok (.iconst 1, 1) := by decide +kernel
theorem dX11_let_68 : decode cX11_let 68 = .ok (.goto 4, 3) := by decide +kernel
theorem dX11_let_71 : decode cX11_let 71 = .ok (.iconst 0, 1) := by decide +kernel
theorem dX11_let_72 : decode cX11_let 72 = .ok (.ireturn, 1) := by decide +kernel
set_option maxRecDepth 20000 in
theorem ggX11_why_X11_isTongue : GoodIn wsX11_why wsX11_isTongue := goodIn_r _ [4, 5, 6, 3, 7] (by decide +kernel) (by decide +kernel)
set_option maxRecDepth 20000 in
theorem gX11_why_X11_isTongue : GoodIn wsX11_why (va_wsS RX11 74 yX11_isTongue wsX11_isTongue) := goodIn_app (goodIn_of _ (by decide +kernel)) ggX11_why_X11_isTongue
set_option maxRecDepth 20000 in
theorem ggX11_why_X11_isVerb : GoodIn wsX11_why wsX11_isVerb := goodIn_r _ [10, 5, 6, 3, 7] (by decide +kernel) (by decide +kernel)
set_option maxRecDepth 20000 in
theorem gX11_why_X11_isVerb : GoodIn wsX11_why (va_wsS RX11 120 yX11_isVerb wsX11_isVerb) := goodIn_app (goodIn_of _ (by decide +kernel)) ggX11_why_X11_isVerb
set_option maxRecDepth 20000 in
theorem ggX11_why_X11_isThing : GoodIn wsX11_why wsX11_isThing := goodIn_r _ [13, 5, 6, 3, 7] (by decide +kernel) (by decide +kernel)
set_option maxRecDepth 20000 in
theorem gX11_why_X11_isThing : GoodIn wsX11_why (va_wsS RX11 123 yX11_isThing wsX11_isThing) := goodIn_app (goodIn_of _ (by decide +kernel)) ggX11_why_X11_isThing
set_option maxRecDepth 20000 in
theorem ggX11_why_X11_isYear : GoodIn wsX11_why wsX11_isYear := goodIn_r _ [16, 5, 6, 3, 7] (by decide +kernel) (by decide +kernel)
set_option maxRecDepth 20000 in
theorem gX11_why_X11_isYear : GoodIn wsX11_why (va_wsS RX11 81 yX11_isYear wsX11_isYear) := goodIn_app (goodIn_of _ (by decide +kernel)) ggX11_why_X11_isYear
set_option maxRecDepth 20000 in
theorem ggX11_why_X11_isFactSet : GoodIn wsX11_why wsX11_isFactSet := goodIn_r _ [19, 5, 6, 3, 7] (by decide +kernel) (by decide +kernel)
set_option maxRecDepth 20000 in
theorem gX11_why_X11_isFactSet : GoodIn wsX11_why (va_wsS RX11 126 yX11_isFactSet wsX11_isFactSet) := goodIn_app (goodIn_of _ (by decide +kernel)) ggX11_why_X11_isFactSet
set_option maxRecDepth 20000 in
theorem ggX11_why_X11_tongueOf : GoodIn wsX11_why wsX11_tongueOf := goodIn_r _ [23, 24, 25, 65, 66, 67, 68, 69, 70, 71, 72, 73] (by decide +kernel) (by decide +kernel)
set_option maxRecDepth 20000 in
theorem gX11_why_X11_tongueOf : GoodIn wsX11_why (wsV RX11 88 RX11 yX11_tongueOf wsX11_tongueOf) := goodIn_app (goodIn_of _ (by decide +kernel)) ggX11_why_X11_tongueOf
set_option maxRecDepth 20000 in
theorem ggX11_why_X10_learn : GoodIn wsX11_why wsX10_learn := goodIn_r _ [30, 31, 32, 33, 34, 29, 35, 36, 37, 38, 39, 40, 41, 42, 43, 44, 6, 3, 7, 45, 46, 47, 48, 49, 50, 74, 75, 76, 77, 78, 79, 80, 81, 82, 83, 84, 85, 86, 87] (by decide +kernel) (by decide +kernel)
set_option maxRecDepth 20000 in
theorem gX11_why_X10_learn : GoodIn wsX11_why (wsV RX11 129 RX10 yX10_learn wsX10_learn) := goodIn_app (goodIn_of _ (by decide +kernel)) ggX11_why_X10_learn
set_option maxRecDepth 20000 in
theorem ggX11_why_X10_ruling : GoodIn wsX11_why wsX10_ruling := goodIn_r _ [54, 40, 41, 31, 42, 44, 55, 56, 57, 48, 58, 59, 60, 61, 62, 46, 47, 49, 50, 6, 3, 7, 63, 64, 74, 75, 76, 77, 78, 79, 80, 81, 82, 83, 84, 85, 86, 87] (by decide +kernel) (by decide +kernel)
set_option maxRecDepth 20000 in
theorem gX11_why_X10_ruling : GoodIn wsX11_why (wsV RX11 137 RX10 yX10_ruling wsX10_ruling) := goodIn_app (goodIn_of _ (by decide +kernel)) ggX11_why_X10_ruling
theorem dX11_why_0 : decode cX11_why 0 = .ok (.iload_n 1, 1) := by decide +kernel
theorem dX11_why_1 : decode cX11_why 1 = .ok (.invokestatic 74, 3) := by decide +kernel
theorem dX11_why_4 : decode cX11_why 4 = .ok (.ifCond .eq 33, 3) := by decide +kernel
theorem dX11_why_7 : decode cX11_why 7 = .ok (.iload_n 2, 1) := by decide +kernel
theorem dX11_why_8 : decode cX11_why 8 = .ok (.invokestatic 120, 3) := by decide +kernel
theorem dX11_why_11 : decode cX11_why 11 = .ok (.ifCond .eq 26, 3) := by decide +kernel
theorem dX11_why_14 : decode cX11_why 14 = .ok (.iload_n 3, 1) := by decide +kernel
theorem dX11_why_15 : decode cX11_why 15 = .ok (.invokestatic 123, 3) := by decide +kernel
theorem dX11_why_18 : decode cX11_why 18 = .ok (.ifCond .eq 19, 3) := by decide +kernel
theorem dX11_why_21 : decode cX11_why 21 = .ok (.iload 4, 2) := by decide +kernel
theorem dX11_why_23 : decode cX11_why 23 = .ok (.invokestatic 81, 3) := by decide +kernel
theorem dX11_why_26 : decode cX11_why 26 = .ok (.ifCond .eq 11, 3) := by decide +kernel
theorem dX11_why_29 : decode cX11_why 29 = .ok (.iload 5, 2) := by decide +kernel
theorem dX11_why_31 : decode cX11_why 31 = .ok (.invokestatic 126, 3) := by decide +kernel
theorem dX11_why_34 : decode cX11_why 34 = .ok (.ifCond .ne 5, 3) := by decide +kernel
theorem dX11_why_37 : decode cX11_why 37 = .ok (.iconst (-1), 1) := by decide +kernel
theorem dX11_why_38 : decode cX11_why 38 = .ok (.ireturn, 1) := by decide +kernel
theorem dX11_why_39 : decode cX11_why 39 = .ok (.aload_n 0, 1) := by decide +kernel
theorem dX11_why_40 : decode cX11_why 40 = .ok (.iload_n 1, 1) := by decide +kernel
theorem dX11_why_41 : decode cX11_why 41 = .ok (.invokevirtual 88, 3) := by decide +kernel
theorem dX11_why_44 : decode cX11_why 44 = .ok (.astore 6, 2) := by decide +kernel
theorem dX11_why_46 : decode cX11_why 46 = .ok (.aload 6, 2) := by decide +kernel
theorem dX11_why_48 : decode cX11_why 48 = .ok (.iload 4, 2) := by decide +kernel
theorem dX11_why_50 : decode cX11_why 50 = .ok (.invokevirtual 129, 3) := by decide +kernel
theorem dX11_why_53 : decode cX11_why 53 = .ok (.aload 6, 2) := by decide +kernel
theorem dX11_why_55 : decode cX11_why 55 = .ok (.iload_n 2, 1) := by decide +kernel
theorem dX11_why_56 : decode cX11_why 56 = .ok (.iload_n 3, 1) := by decide +kernel
theorem dX11_why_57 : decode cX11_why 57 = .ok (.iload 4, 2) := by decide +kernel
theorem dX11_why_59 : decode cX11_why 59 = .ok (.iload 5, 2) := by decide +kernel
theorem dX11_why_61 : decode cX11_why 61 = .ok (.invokevirtual 137, 3) := by decide +kernel
theorem dX11_why_64 : decode cX11_why 64 = .ok (.ireturn, 1) := by decide +kernel
set_option maxRecDepth 20000 in
theorem ggX11_unlike_X11_isYear : GoodIn wsX11_unlike wsX11_isYear := goodIn_r _ [4, 5, 6, 3, 7] (by decide +kernel) (by decide +kernel)
set_option maxRecDepth 20000 in
theorem gX11_unlike_X11_isYear : GoodIn wsX11_unlike (va_wsS RX11 81 yX11_isYear wsX11_isYear) := goodIn_app (goodIn_of _ (by decide +kernel)) ggX11_unlike_X11_isYear
set_option maxRecDepth 20000 in
theorem ggX11_unlike_X11_isFactSet : GoodIn wsX11_unlike wsX11_isFactSet := goodIn_r _ [10, 5, 6, 3, 7] (by decide +kernel) (by decide +kernel)
set_option maxRecDepth 20000 in
theorem gX11_unlike_X11_isFactSet : GoodIn wsX11_unlike (va_wsS RX11 126 yX11_isFactSet wsX11_isFactSet) := goodIn_app (goodIn_of _ (by decide +kernel)) ggX11_unlike_X11_isFactSet
set_option maxRecDepth 20000 in
theorem ggX11_unlike_X11_learn : GoodIn wsX11_unlike wsX11_learn := goodIn_r _ [14, 15, 16, 17, 18, 19, 20, 21, 22, 23, 24, 25, 26, 27, 28, 29, 30, 31, 32, 33, 34, 35, 6, 3, 7, 36, 37, 38, 39, 40, 41, 65, 66, 67, 68, 69, 70, 71, 72, 73, 74, 75, 76, 77, 78, 79, 80, 81, 82, 83, 84, 85, 86, 87] (by decide +kernel) (by decide +kernel)
set_option maxRecDepth 20000 in
theorem gX11_unlike_X11_learn : GoodIn wsX11_unlike (wsV RX11 141 RX11 yX11_learn wsX11_learn) := goodIn_app (goodIn_of _ (by decide +kernel)) ggX11_unlike_X11_learn
set_option maxRecDepth 20000 in
theorem ggX11_unlike_X11_differ : GoodIn wsX11_unlike wsX11_differ := goodIn_r _ [45, 15, 16, 46, 47, 48, 20, 49, 32, 50, 51, 52, 53, 54, 31, 22, 33, 35, 55, 56, 57, 39, 58, 59, 60, 61, 62, 37, 38, 40, 41, 6, 3, 7, 63, 64, 65, 66, 67, 68, 69, 70, 71, 72, 73, 74, 75, 76, 77, 78, 79, 80, 81, 82, 83, 84, 85, 86, 87] (by decide +kernel) (by decide +kernel)
set_option maxRecDepth 20000 in
theorem gX11_unlike_X11_differ : GoodIn wsX11_unlike (wsV RX11 142 RX11 yX11_differ wsX11_differ) := goodIn_app (goodIn_of _ (by decide +kernel)) ggX11_unlike_X11_differ
theorem dX11_unlike_0 : decode cX11_unlike 0 = .ok (.iload_n 1, 1) := by decide +kernel
theorem dX11_unlike_1 : decode cX11_unlike 1 = .ok (.invokestatic 81, 3) := by decide +kernel
theorem dX11_unlike_4 : decode cX11_unlike 4 = .ok (.ifCond .eq 15, 3) := by decide +kernel
theorem dX11_unlike_7 : decode cX11_unlike 7 = .ok (.iload_n 2, 1) := by decide +kernel
theorem dX11_unlike_8 : decode cX11_unlike 8 = .ok (.invokestatic 126, 3) := by decide +kernel
theorem dX11_unlike_11 : decode cX11_unlike 11 = .ok (.ifCond .eq 8, 3) := by decide +kernel
theorem dX11_unlike_14 : decode cX11_unlike 14 = .ok (.iload_n 3, 1) := by decide +kernel
theorem dX11_unlike_15 : decode cX11_unlike 15 = .ok (.iconst (-1), 1) := by decide +kernel
theorem dX11_unlike_16 : decode cX11_unlike 16 = .ok (.if_icmp .ge 5, 3) := by decide +kernel
theorem dX11_unlike_19 : decode cX11_unlike 19 = .ok (.iconst (-1), 1) := by decide +kernel
theorem dX11_unlike_20 : decode cX11_unlike 20 = .ok (.ireturn, 1) := by decide +kernel
theorem dX11_unlike_21 : decode cX11_unlike 21 = .ok (.aload_n 0, 1) := by decide +kernel
theorem dX11_unlike_22 : decode cX11_unlike 22 = .ok (.iload_n 1, 1) := by decide +kernel
theorem dX11_unlike_23 : decode cX11_unlike 23 = .ok (.invokevirtual 141, 3) := by decide +kernel
theorem dX11_unlike_26 : decode cX11_unlike 26 = .ok (.iconst 0, 1) := by decide +kernel
theorem dX11_unlike_27 : decode cX11_unlike 27 = .ok (.istore 4, 2) := by decide +kernel
theorem dX11_unlike_29 : decode cX11_unlike 29 = .ok (.iconst 0, 1) := by decide +kernel
theorem dX11_unlike_30 : decode cX11_unlike 30 = .ok (.istore 5, 2) := by decide +kernel
theorem dX11_unlike_32 : decode cX11_unlike 32 = .ok (.iload 5, 2) := by decide +kernel
theorem dX11_unlike_34 : decode cX11_unlike 34 = .ok (.bipush 36, 2) := by decide +kernel
theorem dX11_unlike_36 : decode cX11_unlike 36 = .ok (.if_icmp .ge 32, 3) := by decide +kernel
theorem dX11_unlike_39 : decode cX11_unlike 39 = .ok (.aload_n 0, 1) := by decide +kernel
theorem dX11_unlike_40 : decode cX11_unlike 40 = .ok (.iload 5, 2) := by decide +kernel
theorem dX11_unlike_42 : decode cX11_unlike 42 = .ok (.iload_n 1, 1) := by decide +kernel
theorem dX11_unlike_43 : decode cX11_unlike 43 = .ok (.iload_n 2, 1) := by decide +kernel
theorem dX11_unlike_44 : decode cX11_unlike 44 = .ok (.invokevirtual 142, 3) := by decide +kernel
theorem dX11_unlike_47 : decode cX11_unlike 47 = .ok (.ifCond .eq 15, 3) := by decide +kernel
theorem dX11_unlike_50 : decode cX11_unlike 50 = .ok (.iload 4, 2) := by decide +kernel
theorem dX11_unlike_52 : decode cX11_unlike 52 = .ok (.iload_n 3, 1) := by decide +kernel
theorem dX11_unlike_53 : decode cX11_unlike 53 = .ok (.if_icmp .ne 6, 3) := by decide +kernel
theorem dX11_unlike_56 : decode cX11_unlike 56 = .ok (.iload 5, 2) := by decide +kernel
theorem dX11_unlike_58 : decode cX11_unlike 58 = .ok (.ireturn, 1) := by decide +kernel
theorem dX11_unlike_59 : decode cX11_unlike 59 = .ok (.iinc 4 1, 3) := by decide +kernel
theorem dX11_unlike_62 : decode cX11_unlike 62 = .ok (.iinc 5 1, 3) := by decide +kernel
theorem dX11_unlike_65 : decode cX11_unlike 65 = .ok (.goto (-33), 3) := by decide +kernel
theorem dX11_unlike_68 : decode cX11_unlike 68 = .ok (.iload_n 3, 1) := by decide +kernel
theorem dX11_unlike_69 : decode cX11_unlike 69 = .ok (.iconst (-1), 1) := by decide +kernel
theorem dX11_unlike_70 : decode cX11_unlike 70 = .ok (.if_icmp .ne 8, 3) := by decide +kernel
theorem dX11_unlike_73 : decode cX11_unlike 73 = .ok (.iload 4, 2) := by decide +kernel
theorem dX11_unlike_75 : decode cX11_unlike 75 = .ok (.goto 5, 3) := by decide +kernel
theorem dX11_unlike_78 : decode cX11_unlike 78 = .ok (.bipush (-4), 2) := by decide +kernel
theorem dX11_unlike_80 : decode cX11_unlike 80 = .ok (.ireturn, 1) := by decide +kernel
set_option maxRecDepth 20000 in
theorem ggX11_least_X11_isAct : GoodIn wsX11_least wsX11_isAct := goodIn_r _ [4, 5, 6, 3, 7] (by decide +kernel) (by decide +kernel)
set_option maxRecDepth 20000 in
theorem gX11_least_X11_isAct : GoodIn wsX11_least (va_wsS RX11 145 yX11_isAct wsX11_isAct) := goodIn_app (goodIn_of _ (by decide +kernel)) ggX11_least_X11_isAct
set_option maxRecDepth 20000 in
theorem ggX11_least_X11_isYear : GoodIn wsX11_least wsX11_isYear := goodIn_r _ [10, 5, 6, 3, 7] (by decide +kernel) (by decide +kernel)
set_option maxRecDepth 20000 in
theorem gX11_least_X11_isYear : GoodIn wsX11_least (va_wsS RX11 81 yX11_isYear wsX11_isYear) := goodIn_app (goodIn_of _ (by decide +kernel)) ggX11_least_X11_isYear
set_option maxRecDepth 20000 in
theorem ggX11_least_X11_learn : GoodIn wsX11_least wsX11_learn := goodIn_r _ [14, 15, 16, 17, 18, 19, 20, 21, 22, 23, 24, 25, 26, 27, 28, 29, 30, 31, 32, 33, 34, 35, 6, 3, 7, 36, 37, 38, 39, 40, 41, 72, 73, 74, 75, 76, 77, 78, 79, 80, 81, 82, 83, 84, 85, 86, 87, 88, 89, 90, 91, 92, 93, 94] (by decide +kernel) (by decide +kernel)
set_option maxRecDepth 20000 in
theorem gX11_least_X11_learn : GoodIn wsX11_least (wsV RX11 141 RX11 yX11_learn wsX11_learn) := goodIn_app (goodIn_of _ (by decide +kernel)) ggX11_least_X11_learn
set_option maxRecDepth 20000 in
theorem ggX11_least_J6_bitCount_0f7a4 : GoodIn wsX11_least wsJ6_bitCount_0f7a4 := goodIn_r _ [45, 46, 47, 48] (by decide +kernel) (by decide +kernel)
set_option maxRecDepth 20000 in
theorem gX11_least_J6_bitCount_0f7a4 : GoodIn wsX11_least (va_wsS RX11 148 yJ6_bitCount_0f7a4 wsJ6_bitCount_0f7a4) := goodIn_app (goodIn_of _ (by decide +kernel)) ggX11_least_J6_bitCount_0f7a4
set_option maxRecDepth 20000 in
theorem ggX11_least_X11_differ : GoodIn wsX11_least wsX11_differ := goodIn_r _ [52, 15, 16, 53, 54, 55, 20, 56, 32, 57, 58, 59, 60, 61, 31, 22, 33, 35, 62, 63, 64, 39, 65, 66, 67, 68, 69, 37, 38, 40, 41, 6, 3, 7, 70, 71, 72, 73, 74, 75, 76, 77, 78, 79, 80, 81, 82, 83, 84, 85, 86, 87, 88, 89, 90, 91, 92, 93, 94] (by decide +kernel) (by decide +kernel)
set_option maxRecDepth 20000 in
theorem gX11_least_X11_differ : GoodIn wsX11_least (wsV RX11 142 RX11 yX11_differ wsX11_differ) := goodIn_app (goodIn_of _ (by decide +kernel)) ggX11_least_X11_differ
theorem dX11_least_0 : decode cX11_least 0 = .ok (.iload_n 1, 1) := by decide +kernel
theorem dX11_least_1 : decode cX11_least 1 = .ok (.invokestatic 145, 3) := by decide +kernel
theorem dX11_least_4 : decode cX11_least 4 = .ok (.ifCond .eq 10, 3) := by decide +kernel
theorem dX11_least_7 : decode cX11_least 7 = .ok (.iload_n 2, 1) := by decide +kernel
theorem dX11_least_8 : decode cX11_least 8 = .ok (.invokestatic 81, 3) := by decide +kernel
theorem dX11_least_11 : decode cX11_least 11 = .ok (.ifCond .ne 5, 3) := by decide +kernel
theorem dX11_least_14 : decode cX11_least 14 = .ok (.iconst (-1), 1) := by decide +kernel
theorem dX11_least_15 : decode cX11_least 15 = .ok (.ireturn, 1) := by decide +kernel
theorem dX11_least_16 : decode cX11_least 16 = .ok (.aload_n 0, 1) := by decide +kernel
theorem dX11_least_17 : decode cX11_least 17 = .ok (.iload_n 2, 1) := by decide +kernel
theorem dX11_least_18 : decode cX11_least 18 = .ok (.invokevirtual 141, 3) := by decide +kernel
theorem dX11_least_21 : decode cX11_least 21 = .ok (.bipush (-4), 2) := by decide +kernel
theorem dX11_least_23 : decode cX11_least 23 = .ok (.istore_n 3, 1) := by decide +kernel
theorem dX11_least_24 : decode cX11_least 24 = .ok (.iconst 0, 1) := by decide +kernel
theorem dX11_least_25 : decode cX11_least 25 = .ok (.istore 4, 2) := by decide +kernel
theorem dX11_least_27 : decode cX11_least 27 = .ok (.iload 4, 2) := by decide +kernel
theorem dX11_least_29 : decode cX11_least 29 = .ok (.sipush 256, 3) := by decide +kernel
theorem dX11_least_32 : decode cX11_least 32 = .ok (.if_icmp .ge 53, 3) := by decide +kernel
theorem dX11_least_35 : decode cX11_least 35 = .ok (.iload_n 3, 1) := by decide +kernel
theorem dX11_least_36 : decode cX11_least 36 = .ok (.bipush (-4), 2) := by decide +kernel
theorem dX11_least_38 : decode cX11_least 38 = .ok (.if_icmp .eq 15, 3) := by decide +kernel
theorem dX11_least_41 : decode cX11_least 41 = .ok (.iload 4, 2) := by decide +kernel
theorem dX11_least_43 : decode cX11_least 43 = .ok (.invokestatic 148, 3) := by decide +kernel
theorem dX11_least_46 : decode cX11_least 46 = .ok (.iload_n 3, 1) := by decide +kernel
theorem dX11_least_47 : decode cX11_least 47 = .ok (.invokestatic 148, 3) := by decide +kernel
theorem dX11_least_50 : decode cX11_least 50 = .ok (.if_icmp .ge 7, 3) := by decide +kernel
theorem dX11_least_53 : decode cX11_least 53 = .ok (.iconst 1, 1) := by decide +kernel
theorem dX11_least_54 : decode cX11_least 54 = .ok (.goto 4, 3) := by decide +kernel
theorem dX11_least_57 : decode cX11_least 57 = .ok (.iconst 0, 1) := by decide +kernel
theorem dX11_least_58 : decode cX11_least 58 = .ok (.istore 5, 2) := by decide +kernel
theorem dX11_least_60 : decode cX11_least 60 = .ok (.iload 5, 2) := by decide +kernel
theorem dX11_least_62 : decode cX11_least 62 = .ok (.ifCond .eq 17, 3) := by decide +kernel
theorem dX11_least_65 : decode cX11_least 65 = .ok (.aload_n 0, 1) := by decide +kernel
theorem dX11_least_66 : decode cX11_least 66 = .ok (.iload_n 1, 1) := by decide +kernel
theorem dX11_least_67 : decode cX11_least 67 = .ok (.iload_n 2, 1) := by decide +kernel
theorem dX11_least_68 : decode cX11_least 68 = .ok (.iload 4, 2) := by decide +kernel
theorem dX11_least_70 : decode cX11_least 70 = .ok (.invokevirtual 142, 3) := by decide +kernel
theorem dX11_least_73 : decode cX11_least 73 = .ok (.ifCond .eq 6, 3) := by decide +kernel
theorem dX11_least_76 : decode cX11_least 76 = .ok (.iload 4, 2) := by decide +kernel
theorem dX11_least_78 : decode cX11_least 78 = .ok (.istore_n 3, 1) := by decide +kernel
theorem dX11_least_79 : decode cX11_least 79 = .ok (.iinc 4 1, 3) := by decide +kernel
theorem dX11_least_82 : decode cX11_least 82 = .ok (.goto (-55), 3) := by decide +kernel
theorem dX11_least_85 : decode cX11_least 85 = .ok (.iload_n 3, 1) := by decide +kernel
theorem dX11_least_86 : decode cX11_least 86 = .ok (.ireturn, 1) := by decide +kernel
set_option maxRecDepth 20000 in
theorem ggX11_doneBy_X11_isAct : GoodIn wsX11_doneBy wsX11_isAct := goodIn_r _ [7, 8, 9, 6, 10] (by decide +kernel) (by decide +kernel)
set_option maxRecDepth 20000 in
theorem gX11_doneBy_X11_isAct : GoodIn wsX11_doneBy (va_wsS RX11 145 yX11_isAct wsX11_isAct) := goodIn_app (goodIn_of _ (by decide +kernel)) ggX11_doneBy_X11_isAct
set_option maxRecDepth 20000 in
theorem ggX11_doneBy_X11_isYear : GoodIn wsX11_doneBy wsX11_isYear := goodIn_r _ [13, 8, 9, 6, 10] (by decide +kernel) (by decide +kernel)
set_option maxRecDepth 20000 in
theorem gX11_doneBy_X11_isYear : GoodIn wsX11_doneBy (va_wsS RX11 81 yX11_isYear wsX11_isYear) := goodIn_app (goodIn_of _ (by decide +kernel)) ggX11_doneBy_X11_isYear
set_option maxRecDepth 20000 in
theorem ggX11_doneBy_X11_isFactSet : GoodIn wsX11_doneBy wsX11_isFactSet := goodIn_r _ [16, 8, 9, 6, 10] (by decide +kernel) (by decide +kernel)
set_option maxRecDepth 20000 in
theorem gX11_doneBy_X11_isFactSet : GoodIn wsX11_doneBy (va_wsS RX11 126 yX11_isFactSet wsX11_isFactSet) := goodIn_app (goodIn_of _ (by decide +kernel)) ggX11_doneBy_X11_isFactSet
set_option maxRecDepth 20000 in
theorem ggX11_doneBy_X11_learn : GoodIn wsX11_doneBy wsX11_learn := goodIn_r _ [20, 1, 3, 21, 22, 23, 24, 25, 26, 27, 28, 29, 30, 31, 32, 33, 34, 35, 36, 37, 38, 39, 9, 6, 10, 40, 41, 42, 43, 44, 45, 69, 70, 71, 72, 73, 74, 75, 76, 77, 78, 79, 80, 81, 82, 83, 84, 85, 86, 87, 88, 89, 90, 91] (by decide +kernel) (by decide +kernel)
set_option maxRecDepth 20000 in
theorem gX11_doneBy_X11_learn : GoodIn wsX11_doneBy (wsV RX11 141 RX11 yX11_learn wsX11_learn) := goodIn_app (goodIn_of _ (by decide +kernel)) ggX11_doneBy_X11_learn
set_option maxRecDepth 20000 in
theorem ggX11_doneBy_X11_differ : GoodIn wsX11_doneBy wsX11_differ := goodIn_r _ [49, 1, 3, 50, 51, 52, 24, 53, 36, 54, 55, 56, 57, 58, 35, 26, 37, 39, 59, 60, 61, 43, 62, 63, 64, 65, 66, 41, 42, 44, 45, 9, 6, 10, 67, 68, 69, 70, 71, 72, 73, 74, 75, 76, 77, 78, 79, 80, 81, 82, 83, 84, 85, 86, 87, 88, 89, 90, 91] (by decide +kernel) (by decide +kernel)
set_option maxRecDepth 20000 in
theorem gX11_doneBy_X11_differ : GoodIn wsX11_doneBy (wsV RX11 142 RX11 yX11_differ wsX11_differ) := goodIn_app (goodIn_of _ (by decide +kernel)) ggX11_doneBy_X11_differ
theorem dX11_doneBy_0 : decode cX11_doneBy 0 = .ok (.iload_n 1, 1) := by decide +kernel
theorem dX11_doneBy_1 : decode cX11_doneBy 1 = .ok (.invokestatic 145, 3) := by decide +kernel
theorem dX11_doneBy_4 : decode cX11_doneBy 4 = .ok (.ifCond .eq 17, 3) := by decide +kernel
theorem dX11_doneBy_7 : decode cX11_doneBy 7 = .ok (.iload_n 2, 1) := by decide +kernel
theorem dX11_doneBy_8 : decode cX11_doneBy 8 = .ok (.invokestatic 81, 3) := by decide +kernel
theorem dX11_doneBy_11 : decode cX11_doneBy 11 = .ok (.ifCond .eq 10, 3) := by decide +kernel
theorem dX11_doneBy_14 : decode cX11_doneBy 14 = .ok (.iload_n 3, 1) := by decide +kernel
theorem dX11_doneBy_15 : decode cX11_doneBy 15 = .ok (.invokestatic 126, 3) := by decide +kernel
theorem dX11_doneBy_18 : decode cX11_doneBy 18 = .ok (.ifCond .ne 5, 3) := by decide +kernel
theorem dX11_doneBy_21 : decode cX11_doneBy 21 = .ok (.iconst (-1), 1) := by decide +kernel
theorem dX11_doneBy_22 : decode cX11_doneBy 22 = .ok (.ireturn, 1) := by decide +kernel
theorem dX11_doneBy_23 : decode cX11_doneBy 23 = .ok (.aload_n 0, 1) := by decide +kernel
theorem dX11_doneBy_24 : decode cX11_doneBy 24 = .ok (.iload_n 2, 1) := by decide +kernel
theorem dX11_doneBy_25 : decode cX11_doneBy 25 = .ok (.invokevirtual 141, 3) := by decide +kernel
theorem dX11_doneBy_28 : decode cX11_doneBy 28 = .ok (.aload_n 0, 1) := by decide +kernel
theorem dX11_doneBy_29 : decode cX11_doneBy 29 = .ok (.iload_n 1, 1) := by decide +kernel
theorem dX11_doneBy_30 : decode cX11_doneBy 30 = .ok (.iload_n 2, 1) := by decide +kernel
theorem dX11_doneBy_31 : decode cX11_doneBy 31 = .ok (.iload_n 3, 1) := by decide +kernel
theorem dX11_doneBy_32 : decode cX11_doneBy 32 = .ok (.invokevirtual 142, 3) := by decide +kernel
theorem dX11_doneBy_35 : decode cX11_doneBy 35 = .ok (.ifCond .ne 6, 3) := by decide +kernel
theorem dX11_doneBy_38 : decode cX11_doneBy 38 = .ok (.bipush (-2), 2) := by decide +kernel
theorem dX11_doneBy_40 : decode cX11_doneBy 40 = .ok (.ireturn, 1) := by decide +kernel
theorem dX11_doneBy_41 : decode cX11_doneBy 41 = .ok (.iconst 0, 1) := by decide +kernel
theorem dX11_doneBy_42 : decode cX11_doneBy 42 = .ok (.istore 4, 2) := by decide +kernel
theorem dX11_doneBy_44 : decode cX11_doneBy 44 = .ok (.iconst 0, 1) := by decide +kernel
theorem dX11_doneBy_45 : decode cX11_doneBy 45 = .ok (.istore 5, 2) := by decide +kernel
theorem dX11_doneBy_47 : decode cX11_doneBy 47 = .ok (.iload 5, 2) := by decide +kernel
theorem dX11_doneBy_49 : decode cX11_doneBy 49 = .ok (.bipush 8, 2) := by decide +kernel
theorem dX11_doneBy_51 : decode cX11_doneBy 51 = .ok (.if_icmp .ge 72, 3) := by decide +kernel
theorem dX11_doneBy_54 : decode cX11_doneBy 54 = .ok (.aload_n 0, 1) := by decide +kernel
theorem dX11_doneBy_55 : decode cX11_doneBy 55 = .ok (.getfield 12, 3) := by decide +kernel
theorem dX11_doneBy_58 : decode cX11_doneBy 58 = .ok (.getfield 154, 3) := by decide +kernel
theorem dX11_doneBy_61 : decode cX11_doneBy 61 = .ok (.iload 5, 2) := by decide +kernel
theorem dX11_doneBy_63 : decode cX11_doneBy 63 = .ok (.iaload, 1) := by decide +kernel
theorem dX11_doneBy_64 : decode cX11_doneBy 64 = .ok (.istore 6, 2) := by decide +kernel
theorem dX11_doneBy_66 : decode cX11_doneBy 66 = .ok (.aload_n 0, 1) := by decide +kernel
theorem dX11_doneBy_67 : decode cX11_doneBy 67 = .ok (.getfield 12, 3) := by decide +kernel
theorem dX11_doneBy_70 : decode cX11_doneBy 70 = .ok (.getfield 154, 3) := by decide +kernel
theorem dX11_doneBy_73 : decode cX11_doneBy 73 = .ok (.iload 5, 2) := by decide +kernel
theorem dX11_doneBy_75 : decode cX11_doneBy 75 = .ok (.aload_n 0, 1) := by decide +kernel
theorem dX11_doneBy_76 : decode cX11_doneBy 76 = .ok (.getfield 16, 3) := by decide +kernel
theorem dX11_doneBy_79 : decode cX11_doneBy 79 = .ok (.getfield 154, 3) := by decide +kernel
theorem dX11_doneBy_82 : decode cX11_doneBy 82 = .ok (.iload 5, 2) := by decide +kernel
theorem dX11_doneBy_84 : decode cX11_doneBy 84 = .ok (.iaload, 1) := by decide +kernel
theorem dX11_doneBy_85 : decode cX11_doneBy 85 = .ok (.iastore, 1) := by decide +kernel
theorem dX11_doneBy_86 : decode cX11_doneBy 86 = .ok (.aload_n 0, 1) := by decide +kernel
theorem dX11_doneBy_87 : decode cX11_doneBy 87 = .ok (.iload_n 1, 1) := by decide +kernel
theorem dX11_doneBy_88 : decode cX11_doneBy 88 = .ok (.iload_n 2, 1) := by decide +kernel
theorem dX11_doneBy_89 : decode cX11_doneBy 89 = .ok (.iload_n 3, 1) := by decide +kernel
theorem dX11_doneBy_90 : decode cX11_doneBy 90 = .ok (.invokevirtual 142, 3) := by decide +kernel
theorem dX11_doneBy_93 : decode cX11_doneBy 93 = .ok (.ifCond .ne 12, 3) := by decide +kernel
theorem dX11_doneBy_96 : decode cX11_doneBy 96 = .ok (.iload 4, 2) := by decide +kernel
theorem dX11_doneBy_98 : decode cX11_doneBy 98 = .ok (.iconst 1, 1) := by decide +kernel
theorem dX11_doneBy_99 : decode cX11_doneBy 99 = .ok (.iload 5, 2) := by decide +kernel
theorem dX11_doneBy_101 : decode cX11_doneBy 101 = .ok (.ishl, 1) := by decide +kernel
theorem dX11_doneBy_102 : decode cX11_doneBy 102 = .ok (.ior, 1) := by decide +kernel
theorem dX11_doneBy_103 : decode cX11_doneBy 103 = .ok (.istore 4, 2) := by decide +kernel
theorem dX11_doneBy_105 : decode cX11_doneBy 105 = .ok (.aload_n 0, 1) := by decide +kernel
theorem dX11_doneBy_106 : decode cX11_doneBy 106 = .ok (.getfield 12, 3) := by decide +kernel
theorem dX11_doneBy_109 : decode cX11_doneBy 109 = .ok (.getfield 154, 3) := by decide +kernel
theorem dX11_doneBy_112 : decode cX11_doneBy 112 = .ok (.iload 5, 2) := by decide +kernel
theorem dX11_doneBy_114 : decode cX11_doneBy 114 = .ok (.iload 6, 2) := by decide +kernel
theorem dX11_doneBy_116 : decode cX11_doneBy 116 = .ok (.iastore, 1) := by decide +kernel
theorem dX11_doneBy_117 : decode cX11_doneBy 117 = .ok (.iinc 5 1, 3) := by decide +kernel
theorem dX11_doneBy_120 : decode cX11_doneBy 120 = .ok (.goto (-73), 3) := by decide +kernel
theorem dX11_doneBy_123 : decode cX11_doneBy 123 = .ok (.iload 4, 2) := by decide +kernel
theorem dX11_doneBy_125 : decode cX11_doneBy 125 = .ok (.ireturn, 1) := by decide +kernel
set_option maxRecDepth 20000 in
theorem ggX11_person_X7_has : GoodIn wsX11_person wsX7_has := goodIn_r _ [6, 7, 8, 9, 10, 40, 41, 42, 43, 44, 45, 46, 47, 48, 49, 50, 51] (by decide +kernel) (by decide +kernel)
set_option maxRecDepth 20000 in
theorem gX11_person_X7_has : GoodIn wsX11_person (wsV RX11 158 RX7 yX7_has wsX7_has) := goodIn_app (goodIn_of _ (by decide +kernel)) ggX11_person_X7_has
set_option maxRecDepth 20000 in
theorem ggX11_person_X11_isYear : GoodIn wsX11_person wsX11_isYear := goodIn_r _ [13, 14, 8, 9, 10] (by decide +kernel) (by decide +kernel)
set_option maxRecDepth 20000 in
theorem gX11_person_X11_isYear : GoodIn wsX11_person (va_wsS RX11 81 yX11_isYear wsX11_isYear) := goodIn_app (goodIn_of _ (by decide +kernel)) ggX11_person_X11_isYear
set_option maxRecDepth 20000 in
theorem ggX11_person_X7_add : GoodIn wsX11_person wsX7_add := goodIn_r _ [18, 7, 19, 20, 21, 22, 23, 24, 25, 26, 27, 28, 5, 29, 30, 3, 4, 6, 8, 9, 10, 40, 41, 42, 43, 44, 45, 46, 47, 48, 49, 50, 51] (by decide +kernel) (by decide +kernel)
set_option maxRecDepth 20000 in
theorem gX11_person_X7_add : GoodIn wsX11_person (wsV RX11 161 RX7 yX7_add wsX7_add) := goodIn_app (goodIn_of _ (by decide +kernel)) ggX11_person_X7_add
theorem dX11_person_0 : decode cX11_person 0 = .ok (.iload_n 2, 1) := by decide +kernel
theorem dX11_person_1 : decode cX11_person 1 = .ok (.iconst (-1), 1) := by decide +kernel
theorem dX11_person_2 : decode cX11_person 2 = .ok (.if_icmp .ne 12, 3) := by decide +kernel
theorem dX11_person_5 : decode cX11_person 5 = .ok (.iload_n 3, 1) := by decide +kernel
theorem dX11_person_6 : decode cX11_person 6 = .ok (.iconst (-1), 1) := by decide +kernel
theorem dX11_person_7 : decode cX11_person 7 = .ok (.if_icmp .ne 7, 3) := by decide +kernel
theorem dX11_person_10 : decode cX11_person 10 = .ok (.iconst 1, 1) := by decide +kernel
theorem dX11_person_11 : decode cX11_person 11 = .ok (.goto 4, 3) := by decide +kernel
theorem dX11_person_14 : decode cX11_person 14 = .ok (.iconst 0, 1) := by decide +kernel
theorem dX11_person_15 : decode cX11_person 15 = .ok (.istore 4, 2) := by decide +kernel
theorem dX11_person_17 : decode cX11_person 17 = .ok (.aload_n 0, 1) := by decide +kernel
theorem dX11_person_18 : decode cX11_person 18 = .ok (.getfield 22, 3) := by decide +kernel
theorem dX11_person_21 : decode cX11_person 21 = .ok (.iload_n 2, 1) := by decide +kernel
theorem dX11_person_22 : decode cX11_person 22 = .ok (.invokevirtual 158, 3) := by decide +kernel
theorem dX11_person_25 : decode cX11_person 25 = .ok (.ifCond .eq 23, 3) := by decide +kernel
theorem dX11_person_28 : decode cX11_person 28 = .ok (.aload_n 0, 1) := by decide +kernel
theorem dX11_person_29 : decode cX11_person 29 = .ok (.getfield 22, 3) := by decide +kernel
theorem dX11_person_32 : decode cX11_person 32 = .ok (.iload_n 3, 1) := by decide +kernel
theorem dX11_person_33 : decode cX11_person 33 = .ok (.invokevirtual 158, 3) := by decide +kernel
theorem dX11_person_36 : decode cX11_person 36 = .ok (.ifCond .eq 12, 3) := by decide +kernel
theorem dX11_person_39 : decode cX11_person 39 = .ok (.iload_n 2, 1) := by decide +kernel
theorem dX11_person_40 : decode cX11_person 40 = .ok (.iload_n 3, 1) := by decide +kernel
theorem dX11_person_41 : decode cX11_person 41 = .ok (.if_icmp .eq 7, 3) := by decide +kernel
theorem dX11_person_44 : decode cX11_person 44 = .ok (.iconst 1, 1) := by decide +kernel
theorem dX11_person_45 : decode cX11_person 45 = .ok (.goto 4, 3) := by decide +kernel
theorem dX11_person_48 : decode cX11_person 48 = .ok (.iconst 0, 1) := by decide +kernel
theorem dX11_person_49 : decode cX11_person 49 = .ok (.istore 5, 2) := by decide +kernel
theorem dX11_person_51 : decode cX11_person 51 = .ok (.iload_n 1, 1) := by decide +kernel
theorem dX11_person_52 : decode cX11_person 52 = .ok (.invokestatic 81, 3) := by decide +kernel
theorem dX11_person_55 : decode cX11_person 55 = .ok (.ifCond .eq 13, 3) := by decide +kernel
theorem dX11_person_58 : decode cX11_person 58 = .ok (.iload 4, 2) := by decide +kernel
theorem dX11_person_60 : decode cX11_person 60 = .ok (.ifCond .ne 10, 3) := by decide +kernel
theorem dX11_person_63 : decode cX11_person 63 = .ok (.iload 5, 2) := by decide +kernel
theorem dX11_person_65 : decode cX11_person 65 = .ok (.ifCond .ne 5, 3) := by decide +kernel
theorem dX11_person_68 : decode cX11_person 68 = .ok (.iconst (-1), 1) := by decide +kernel
theorem dX11_person_69 : decode cX11_person 69 = .ok (.ireturn, 1) := by decide +kernel
theorem dX11_person_70 : decode cX11_person 70 = .ok (.aload_n 0, 1) := by decide +kernel
theorem dX11_person_71 : decode cX11_person 71 = .ok (.getfield 22, 3) := by decide +kernel
theorem dX11_person_74 : decode cX11_person 74 = .ok (.iload_n 1, 1) := by decide +kernel
theorem dX11_person_75 : decode cX11_person 75 = .ok (.iload_n 2, 1) := by decide +kernel
theorem dX11_person_76 : decode cX11_person 76 = .ok (.iload_n 3, 1) := by decide +kernel
theorem dX11_person_77 : decode cX11_person 77 = .ok (.invokevirtual 161, 3) := by decide +kernel
theorem dX11_person_80 : decode cX11_person 80 = .ok (.ireturn, 1) := by decide +kernel
set_option maxRecDepth 20000 in
theorem ggX11_die_X7_has : GoodIn wsX11_die wsX7_has := goodIn_r _ [9, 10, 11, 12, 13, 27, 28, 29, 30, 31, 32, 33, 34, 35, 36, 37, 38] (by decide +kernel) (by decide +kernel)
set_option maxRecDepth 20000 in
theorem gX11_die_X7_has : GoodIn wsX11_die (wsV RX11 158 RX7 yX7_has wsX7_has) := goodIn_app (goodIn_of _ (by decide +kernel)) ggX11_die_X7_has
set_option maxRecDepth 20000 in
theorem ggX11_die_X11_isYear : GoodIn wsX11_die wsX11_isYear := goodIn_r _ [16, 17, 11, 12, 13] (by decide +kernel) (by decide +kernel)
set_option maxRecDepth 20000 in
theorem gX11_die_X11_isYear : GoodIn wsX11_die (va_wsS RX11 81 yX11_isYear wsX11_isYear) := goodIn_app (goodIn_of _ (by decide +kernel)) ggX11_die_X11_isYear
theorem dX11_die_0 : decode cX11_die 0 = .ok (.aload_n 0, 1) := by decide +kernel
theorem dX11_die_1 : decode cX11_die 1 = .ok (.getfield 22, 3) := by decide +kernel
theorem dX11_die_4 : decode cX11_die 4 = .ok (.iload_n 1, 1) := by decide +kernel
theorem dX11_die_5 : decode cX11_die 5 = .ok (.invokevirtual 158, 3) := by decide +kernel
theorem dX11_die_8 : decode cX11_die 8 = .ok (.ifCond .eq 10, 3) := by decide +kernel
theorem dX11_die_11 : decode cX11_die 11 = .ok (.iload_n 2, 1) := by decide +kernel
theorem dX11_die_12 : decode cX11_die 12 = .ok (.invokestatic 81, 3) := by decide +kernel
theorem dX11_die_15 : decode cX11_die 15 = .ok (.ifCond .ne 5, 3) := by decide +kernel
theorem dX11_die_18 : decode cX11_die 18 = .ok (.iconst (-1), 1) := by decide +kernel
theorem dX11_die_19 : decode cX11_die 19 = .ok (.ireturn, 1) := by decide +kernel
theorem dX11_die_20 : decode cX11_die 20 = .ok (.aload_n 0, 1) := by decide +kernel
theorem dX11_die_21 : decode cX11_die 21 = .ok (.getfield 22, 3) := by decide +kernel
theorem dX11_die_24 : decode cX11_die 24 = .ok (.getfield 164, 3) := by decide +kernel
theorem dX11_die_27 : decode cX11_die 27 = .ok (.iload_n 1, 1) := by decide +kernel
theorem dX11_die_28 : decode cX11_die 28 = .ok (.iaload, 1) := by decide +kernel
theorem dX11_die_29 : decode cX11_die 29 = .ok (.ldc 167, 2) := by decide +kernel
theorem dX11_die_31 : decode cX11_die 31 = .ok (.if_icmp .ne 16, 3) := by decide +kernel
theorem dX11_die_34 : decode cX11_die 34 = .ok (.iload_n 2, 1) := by decide +kernel
theorem dX11_die_35 : decode cX11_die 35 = .ok (.aload_n 0, 1) := by decide +kernel
theorem dX11_die_36 : decode cX11_die 36 = .ok (.getfield 22, 3) := by decide +kernel
theorem dX11_die_39 : decode cX11_die 39 = .ok (.getfield 168, 3) := by decide +kernel
theorem dX11_die_42 : decode cX11_die 42 = .ok (.iload_n 1, 1) := by decide +kernel
theorem dX11_die_43 : decode cX11_die 43 = .ok (.iaload, 1) := by decide +kernel
theorem dX11_die_44 : decode cX11_die 44 = .ok (.if_icmp .ge 6, 3) := by decide +kernel
theorem dX11_die_47 : decode cX11_die 47 = .ok (.bipush (-2), 2) := by decide +kernel
theorem dX11_die_49 : decode cX11_die 49 = .ok (.ireturn, 1) := by decide +kernel
theorem dX11_die_50 : decode cX11_die 50 = .ok (.aload_n 0, 1) := by decide +kernel
theorem dX11_die_51 : decode cX11_die 51 = .ok (.getfield 22, 3) := by decide +kernel
theorem dX11_die_54 : decode cX11_die 54 = .ok (.getfield 164, 3) := by decide +kernel
theorem dX11_die_57 : decode cX11_die 57 = .ok (.iload_n 1, 1) := by decide +kernel
theorem dX11_die_58 : decode cX11_die 58 = .ok (.iload_n 2, 1) := by decide +kernel
theorem dX11_die_59 : decode cX11_die 59 = .ok (.iastore, 1) := by decide +kernel
theorem dX11_die_60 : decode cX11_die 60 = .ok (.iconst 0, 1) := by decide +kernel
theorem dX11_die_61 : decode cX11_die 61 = .ok (.ireturn, 1) := by decide +kernel
set_option maxRecDepth 20000 in
theorem ggX11_founder_X7_has : GoodIn wsX11_founder wsX7_has := goodIn_r _ [6, 7, 8, 9, 10, 44, 45, 46, 47, 48, 49, 50, 51, 52, 53, 54, 55] (by decide +kernel) (by decide +kernel)
set_option maxRecDepth 20000 in
theorem gX11_founder_X7_has : GoodIn wsX11_founder (wsV RX11 158 RX7 yX7_has wsX7_has) := goodIn_app (goodIn_of _ (by decide +kernel)) ggX11_founder_X7_has
set_option maxRecDepth 20000 in
theorem ggX11_founder_X11_isKin : GoodIn wsX11_founder wsX11_isKin := goodIn_r _ [13, 14, 8, 9, 10] (by decide +kernel) (by decide +kernel)
set_option maxRecDepth 20000 in
theorem gX11_founder_X11_isKin : GoodIn wsX11_founder (va_wsS RX11 171 yX11_isKin wsX11_isKin) := goodIn_app (goodIn_of _ (by decide +kernel)) ggX11_founder_X11_isKin
set_option maxRecDepth 20000 in
theorem ggX11_founder_X7_isFounder : GoodIn wsX11_founder wsX7_isFounder := goodIn_r _ [18, 19, 20, 9, 21, 44, 45, 46, 47, 48, 49, 50, 51, 52, 53, 54, 55] (by decide +kernel) (by decide +kernel)
set_option maxRecDepth 20000 in
theorem gX11_founder_X7_isFounder : GoodIn wsX11_founder (wsV RX11 174 RX7 yX7_isFounder wsX7_isFounder) := goodIn_app (goodIn_of _ (by decide +kernel)) ggX11_founder_X7_isFounder
set_option maxRecDepth 20000 in
theorem ggX11_founder_X7_addFounder : GoodIn wsX11_founder wsX7_addFounder := goodIn_r _ [25, 19, 7, 26, 27, 28, 29, 5, 30, 31, 32, 33, 3, 4, 6, 8, 9, 10, 34, 16, 17, 18, 20, 21, 44, 45, 46, 47, 48, 49, 50, 51, 52, 53, 54, 55] (by decide +kernel) (by decide +kernel)
set_option maxRecDepth 20000 in
theorem gX11_founder_X7_addFounder : GoodIn wsX11_founder (wsV RX11 178 RX7 yX7_addFounder wsX7_addFounder) := goodIn_app (goodIn_of _ (by decide +kernel)) ggX11_founder_X7_addFounder
theorem dX11_founder_0 : decode cX11_founder 0 = .ok (.aload_n 0, 1) := by decide +kernel
theorem dX11_founder_1 : decode cX11_founder 1 = .ok (.getfield 22, 3) := by decide +kernel
theorem dX11_founder_4 : decode cX11_founder 4 = .ok (.iload_n 1, 1) := by decide +kernel
theorem dX11_founder_5 : decode cX11_founder 5 = .ok (.invokevirtual 158, 3) := by decide +kernel
theorem dX11_founder_8 : decode cX11_founder 8 = .ok (.ifCond .eq 10, 3) := by decide +kernel
theorem dX11_founder_11 : decode cX11_founder 11 = .ok (.iload_n 2, 1) := by decide +kernel
theorem dX11_founder_12 : decode cX11_founder 12 = .ok (.invokestatic 171, 3) := by decide +kernel
theorem dX11_founder_15 : decode cX11_founder 15 = .ok (.ifCond .ne 5, 3) := by decide +kernel
theorem dX11_founder_18 : decode cX11_founder 18 = .ok (.iconst (-1), 1) := by decide +kernel
theorem dX11_founder_19 : decode cX11_founder 19 = .ok (.ireturn, 1) := by decide +kernel
theorem dX11_founder_20 : decode cX11_founder 20 = .ok (.aload_n 0, 1) := by decide +kernel
theorem dX11_founder_21 : decode cX11_founder 21 = .ok (.getfield 22, 3) := by decide +kernel
theorem dX11_founder_24 : decode cX11_founder 24 = .ok (.iload_n 1, 1) := by decide +kernel
theorem dX11_founder_25 : decode cX11_founder 25 = .ok (.iload_n 2, 1) := by decide +kernel
theorem dX11_founder_26 : decode cX11_founder 26 = .ok (.invokevirtual 174, 3) := by decide +kernel
theorem dX11_founder_29 : decode cX11_founder 29 = .ok (.ifCond .eq 6, 3) := by decide +kernel
theorem dX11_founder_32 : decode cX11_founder 32 = .ok (.bipush (-2), 2) := by decide +kernel
theorem dX11_founder_34 : decode cX11_founder 34 = .ok (.ireturn, 1) := by decide +kernel
theorem dX11_founder_35 : decode cX11_founder 35 = .ok (.aload_n 0, 1) := by decide +kernel
theorem dX11_founder_36 : decode cX11_founder 36 = .ok (.getfield 22, 3) := by decide +kernel
theorem dX11_founder_39 : decode cX11_founder 39 = .ok (.iload_n 1, 1) := by decide +kernel
theorem dX11_founder_40 : decode cX11_founder 40 = .ok (.iload_n 2, 1) := by decide +kernel
theorem dX11_founder_41 : decode cX11_founder 41 = .ok (.invokevirtual 178, 3) := by decide +kernel
theorem dX11_founder_44 : decode cX11_founder 44 = .ok (.ireturn, 1) := by decide +kernel
set_option maxRecDepth 20000 in
theorem ggX11_say_X7_has : GoodIn wsX11_say wsX7_has := goodIn_r _ [6, 7, 8, 9, 10, 33, 34, 35, 36, 37, 38, 39, 40, 41, 42, 43, 44] (by decide +kernel) (by decide +kernel)
set_option maxRecDepth 20000 in
theorem gX11_say_X7_has : GoodIn wsX11_say (wsV RX11 158 RX7 yX7_has wsX7_has) := goodIn_app (goodIn_of _ (by decide +kernel)) ggX11_say_X7_has
set_option maxRecDepth 20000 in
theorem ggX11_say_X11_isKin : GoodIn wsX11_say wsX11_isKin := goodIn_r _ [13, 14, 8, 9, 10] (by decide +kernel) (by decide +kernel)
set_option maxRecDepth 20000 in
theorem gX11_say_X11_isKin : GoodIn wsX11_say (va_wsS RX11 171 yX11_isKin wsX11_isKin) := goodIn_app (goodIn_of _ (by decide +kernel)) ggX11_say_X11_isKin
set_option maxRecDepth 20000 in
theorem ggX11_say_X7_addSaying : GoodIn wsX11_say wsX7_addSaying := goodIn_r _ [18, 19, 20, 21, 22, 23, 33, 34, 35, 36, 37, 38, 39, 40, 41, 42, 43, 44] (by decide +kernel) (by decide +kernel)
set_option maxRecDepth 20000 in
theorem gX11_say_X7_addSaying : GoodIn wsX11_say (wsV RX11 181 RX7 yX7_addSaying wsX7_addSaying) := goodIn_app (goodIn_of _ (by decide +kernel)) ggX11_say_X7_addSaying
theorem dX11_say_0 : decode cX11_say 0 = .ok (.aload_n 0, 1) := by decide +kernel
theorem dX11_say_1 : decode cX11_say 1 = .ok (.getfield 22, 3) := by decide +kernel
theorem dX11_say_4 : decode cX11_say 4 = .ok (.iload_n 1, 1) := by decide +kernel
theorem dX11_say_5 : decode cX11_say 5 = .ok (.invokevirtual 158, 3) := by decide +kernel
theorem dX11_say_8 : decode cX11_say 8 = .ok (.ifCond .eq 26, 3) := by decide +kernel
theorem dX11_say_11 : decode cX11_say 11 = .ok (.aload_n 0, 1) := by decide +kernel
theorem dX11_say_12 : decode cX11_say 12 = .ok (.getfield 22, 3) := by decide +kernel
theorem dX11_say_15 : decode cX11_say 15 = .ok (.iload_n 2, 1) := by decide +kernel
theorem dX11_say_16 : decode cX11_say 16 = .ok (.invokevirtual 158, 3) := by decide +kernel
theorem dX11_say_19 : decode cX11_say 19 = .ok (.ifCond .eq 15, 3) := by decide +kernel
theorem dX11_say_22 : decode cX11_say 22 = .ok (.iload_n 1, 1) := by decide +kernel
theorem dX11_say_23 : decode cX11_say 23 = .ok (.iload_n 2, 1) := by decide +kernel
theorem dX11_say_24 : decode cX11_say 24 = .ok (.if_icmp .eq 10, 3) := by decide +kernel
theorem dX11_say_27 : decode cX11_say 27 = .ok (.iload_n 3, 1) := by decide +kernel
theorem dX11_say_28 : decode cX11_say 28 = .ok (.invokestatic 171, 3) := by decide +kernel
theorem dX11_say_31 : decode cX11_say 31 = .ok (.ifCond .ne 5, 3) := by decide +kernel
theorem dX11_say_34 : decode cX11_say 34 = .ok (.iconst (-1), 1) := by decide +kernel
theorem dX11_say_35 : decode cX11_say 35 = .ok (.ireturn, 1) := by decide +kernel
theorem dX11_say_36 : decode cX11_say 36 = .ok (.aload_n 0, 1) := by decide +kernel
theorem dX11_say_37 : decode cX11_say 37 = .ok (.getfield 22, 3) := by decide +kernel
theorem dX11_say_40 : decode cX11_say 40 = .ok (.iload_n 1, 1) := by decide +kernel
theorem dX11_say_41 : decode cX11_say 41 = .ok (.iload_n 2, 1) := by decide +kernel
theorem dX11_say_42 : decode cX11_say 42 = .ok (.iload_n 3, 1) := by decide +kernel
theorem dX11_say_43 : decode cX11_say 43 = .ok (.iload 4, 2) := by decide +kernel
theorem dX11_say_45 : decode cX11_say 45 = .ok (.invokevirtual 181, 3) := by decide +kernel
theorem dX11_say_48 : decode cX11_say 48 = .ok (.ireturn, 1) := by decide +kernel
set_option maxRecDepth 20000 in
theorem ggX11_of_X7_has : GoodIn wsX11_of wsX7_has := goodIn_r _ [7, 8, 9, 10, 11, 40, 41, 42, 43, 44, 45, 46, 47, 48, 49, 50, 51] (by decide +kernel) (by decide +kernel)
set_option maxRecDepth 20000 in
theorem gX11_of_X7_has : GoodIn wsX11_of (wsV RX11 158 RX7 yX7_has wsX7_has) := goodIn_app (goodIn_of _ (by decide +kernel)) ggX11_of_X7_has
set_option maxRecDepth 20000 in
theorem ggX11_of_X11_isKin : GoodIn wsX11_of wsX11_isKin := goodIn_r _ [14, 15, 9, 10, 11] (by decide +kernel) (by decide +kernel)
set_option maxRecDepth 20000 in
theorem gX11_of_X11_isKin : GoodIn wsX11_of (va_wsS RX11 171 yX11_isKin wsX11_isKin) := goodIn_app (goodIn_of _ (by decide +kernel)) ggX11_of_X11_isKin
set_option maxRecDepth 20000 in
theorem ggX11_of_X11_hasBit : GoodIn wsX11_of wsX11_hasBit := goodIn_r _ [18] (by decide +kernel) (by decide +kernel)
set_option maxRecDepth 20000 in
theorem gX11_of_X11_hasBit : GoodIn wsX11_of (va_wsS RX11 188 yX11_hasBit wsX11_hasBit) := goodIn_app (goodIn_of _ (by decide +kernel)) ggX11_of_X11_hasBit
set_option maxRecDepth 20000 in
theorem ggX11_of_X7_isSaidToBe : GoodIn wsX11_of wsX7_isSaidToBe := goodIn_r _ [22, 23, 24, 25, 26, 27, 6, 28, 29, 30, 40, 41, 42, 43, 44, 45, 46, 47, 48, 49, 50, 51] (by decide +kernel) (by decide +kernel)
set_option maxRecDepth 20000 in
theorem gX11_of_X7_isSaidToBe : GoodIn wsX11_of (wsV RX11 191 RX7 yX7_isSaidToBe wsX7_isSaidToBe) := goodIn_app (goodIn_of _ (by decide +kernel)) ggX11_of_X7_isSaidToBe
theorem dX11_of_0 : decode cX11_of 0 = .ok (.aload_n 0, 1) := by decide +kernel
theorem dX11_of_1 : decode cX11_of 1 = .ok (.getfield 22, 3) := by decide +kernel
theorem dX11_of_4 : decode cX11_of 4 = .ok (.iload_n 1, 1) := by decide +kernel
theorem dX11_of_5 : decode cX11_of 5 = .ok (.invokevirtual 158, 3) := by decide +kernel
theorem dX11_of_8 : decode cX11_of 8 = .ok (.ifCond .eq 10, 3) := by decide +kernel
theorem dX11_of_11 : decode cX11_of 11 = .ok (.iload_n 2, 1) := by decide +kernel
theorem dX11_of_12 : decode cX11_of 12 = .ok (.invokestatic 171, 3) := by decide +kernel
theorem dX11_of_15 : decode cX11_of 15 = .ok (.ifCond .ne 5, 3) := by decide +kernel
theorem dX11_of_18 : decode cX11_of 18 = .ok (.iconst (-1), 1) := by decide +kernel
theorem dX11_of_19 : decode cX11_of 19 = .ok (.ireturn, 1) := by decide +kernel
theorem dX11_of_20 : decode cX11_of 20 = .ok (.aload_n 0, 1) := by decide +kernel
theorem dX11_of_21 : decode cX11_of 21 = .ok (.getfield 22, 3) := by decide +kernel
theorem dX11_of_24 : decode cX11_of 24 = .ok (.getfield 185, 3) := by decide +kernel
theorem dX11_of_27 : decode cX11_of 27 = .ok (.iload_n 1, 1) := by decide +kernel
theorem dX11_of_28 : decode cX11_of 28 = .ok (.iaload, 1) := by decide +kernel
theorem dX11_of_29 : decode cX11_of 29 = .ok (.iload_n 2, 1) := by decide +kernel
theorem dX11_of_30 : decode cX11_of 30 = .ok (.invokestatic 188, 3) := by decide +kernel
theorem dX11_of_33 : decode cX11_of 33 = .ok (.ifCond .eq 5, 3) := by decide +kernel
theorem dX11_of_36 : decode cX11_of 36 = .ok (.iconst 2, 1) := by decide +kernel
theorem dX11_of_37 : decode cX11_of 37 = .ok (.ireturn, 1) := by decide +kernel
theorem dX11_of_38 : decode cX11_of 38 = .ok (.aload_n 0, 1) := by decide +kernel
theorem dX11_of_39 : decode cX11_of 39 = .ok (.getfield 22, 3) := by decide +kernel
theorem dX11_of_42 : decode cX11_of 42 = .ok (.iload_n 1, 1) := by decide +kernel
theorem dX11_of_43 : decode cX11_of 43 = .ok (.iload_n 2, 1) := by decide +kernel
theorem dX11_of_44 : decode cX11_of 44 = .ok (.invokevirtual 191, 3) := by decide +kernel
theorem dX11_of_47 : decode cX11_of 47 = .ok (.ifCond .eq 7, 3) := by decide +kernel
theorem dX11_of_50 : decode cX11_of 50 = .ok (.iconst 1, 1) := by decide +kernel
theorem dX11_of_51 : decode cX11_of 51 = .ok (.goto 4, 3) := by decide +kernel
theorem dX11_of_54 : decode cX11_of 54 = .ok (.iconst 0, 1) := by decide +kernel
theorem dX11_of_55 : decode cX11_of 55 = .ok (.ireturn, 1) := by decide +kernel
set_option maxRecDepth 20000 in
theorem ggX11_odds_X7_has : GoodIn wsX11_odds wsX7_has := goodIn_r _ [6, 7, 8, 9, 10, 39, 40, 41, 42, 43, 44, 45, 46, 47, 48, 49, 50] (by decide +kernel) (by decide +kernel)
set_option maxRecDepth 20000 in
theorem gX11_odds_X7_has : GoodIn wsX11_odds (wsV RX11 158 RX7 yX7_has wsX7_has) := goodIn_app (goodIn_of _ (by decide +kernel)) ggX11_odds_X7_has
set_option maxRecDepth 20000 in
theorem ggX11_odds_X11_isKin : GoodIn wsX11_odds wsX11_isKin := goodIn_r _ [13, 14, 8, 9, 10] (by decide +kernel) (by decide +kernel)
set_option maxRecDepth 20000 in
theorem gX11_odds_X11_isKin : GoodIn wsX11_odds (va_wsS RX11 171 yX11_isKin wsX11_isKin) := goodIn_app (goodIn_of _ (by decide +kernel)) ggX11_odds_X11_isKin
set_option maxRecDepth 20000 in
theorem ggX11_odds_X7_pairsAtOdds : GoodIn wsX11_odds wsX7_pairsAtOdds := goodIn_r _ [18, 19, 20, 21, 22, 23, 24, 5, 25, 26, 27, 28, 9, 29, 39, 40, 41, 42, 43, 44, 45, 46, 47, 48, 49, 50] (by decide +kernel) (by decide +kernel)
set_option maxRecDepth 20000 in
theorem gX11_odds_X7_pairsAtOdds : GoodIn wsX11_odds (wsV RX11 194 RX7 yX7_pairsAtOdds wsX7_pairsAtOdds) := goodIn_app (goodIn_of _ (by decide +kernel)) ggX11_odds_X7_pairsAtOdds
theorem dX11_odds_0 : decode cX11_odds 0 = .ok (.aload_n 0, 1) := by decide +kernel
theorem dX11_odds_1 : decode cX11_odds 1 = .ok (.getfield 22, 3) := by decide +kernel
theorem dX11_odds_4 : decode cX11_odds 4 = .ok (.iload_n 1, 1) := by decide +kernel
theorem dX11_odds_5 : decode cX11_odds 5 = .ok (.invokevirtual 158, 3) := by decide +kernel
theorem dX11_odds_8 : decode cX11_odds 8 = .ok (.ifCond .eq 10, 3) := by decide +kernel
theorem dX11_odds_11 : decode cX11_odds 11 = .ok (.iload_n 2, 1) := by decide +kernel
theorem dX11_odds_12 : decode cX11_odds 12 = .ok (.invokestatic 171, 3) := by decide +kernel
theorem dX11_odds_15 : decode cX11_odds 15 = .ok (.ifCond .ne 5, 3) := by decide +kernel
theorem dX11_odds_18 : decode cX11_odds 18 = .ok (.iconst (-1), 1) := by decide +kernel
theorem dX11_odds_19 : decode cX11_odds 19 = .ok (.ireturn, 1) := by decide +kernel
theorem dX11_odds_20 : decode cX11_odds 20 = .ok (.aload_n 0, 1) := by decide +kernel
theorem dX11_odds_21 : decode cX11_odds 21 = .ok (.getfield 22, 3) := by decide +kernel
theorem dX11_odds_24 : decode cX11_odds 24 = .ok (.iload_n 1, 1) := by decide +kernel
theorem dX11_odds_25 : decode cX11_odds 25 = .ok (.iload_n 2, 1) := by decide +kernel
theorem dX11_odds_26 : decode cX11_odds 26 = .ok (.invokevirtual 194, 3) := by decide +kernel
theorem dX11_odds_29 : decode cX11_odds 29 = .ok (.ireturn, 1) := by decide +kernel
set_option maxRecDepth 20000 in
theorem ggX11_block_X11_within : GoodIn wsX11_block wsX11_within := goodIn_r _ [6] (by decide +kernel) (by decide +kernel)
set_option maxRecDepth 20000 in
theorem gX11_block_X11_within : GoodIn wsX11_block (va_wsS RX11 84 yX11_within wsX11_within) := goodIn_app (goodIn_of _ (by decide +kernel)) ggX11_block_X11_within
set_option maxRecDepth 20000 in
theorem ggX11_block_X4_addBlock : GoodIn wsX11_block wsX4_addBlock := goodIn_r _ [11, 12, 13, 14, 24, 25, 26, 27, 28, 29, 30, 31, 32, 33, 34, 35, 36, 37, 38, 39, 40] (by decide +kernel) (by decide +kernel)
set_option maxRecDepth 20000 in
theorem gX11_block_X4_addBlock : GoodIn wsX11_block (wsV RX11 197 RX4 yX4_addBlock wsX4_addBlock) := goodIn_app (goodIn_of _ (by decide +kernel)) ggX11_block_X4_addBlock
theorem dX11_block_0 : decode cX11_block 0 = .ok (.iload_n 1, 1) := by decide +kernel
theorem dX11_block_1 : decode cX11_block 1 = .ok (.iconst 1, 1) := by decide +kernel
theorem dX11_block_2 : decode cX11_block 2 = .ok (.ldc 167, 2) := by decide +kernel
theorem dX11_block_4 : decode cX11_block 4 = .ok (.invokestatic 84, 3) := by decide +kernel
theorem dX11_block_7 : decode cX11_block 7 = .ok (.ifCond .ne 5, 3) := by decide +kernel
theorem dX11_block_10 : decode cX11_block 10 = .ok (.iconst (-1), 1) := by decide +kernel
theorem dX11_block_11 : decode cX11_block 11 = .ok (.ireturn, 1) := by decide +kernel
theorem dX11_block_12 : decode cX11_block 12 = .ok (.aload_n 0, 1) := by decide +kernel
theorem dX11_block_13 : decode cX11_block 13 = .ok (.getfield 29, 3) := by decide +kernel
theorem dX11_block_16 : decode cX11_block 16 = .ok (.iload_n 1, 1) := by decide +kernel
theorem dX11_block_17 : decode cX11_block 17 = .ok (.invokevirtual 197, 3) := by decide +kernel
theorem dX11_block_20 : decode cX11_block 20 = .ok (.ireturn, 1) := by decide +kernel
set_option maxRecDepth 20000 in
theorem ggX11_paper_X4_has : GoodIn wsX11_paper wsX4_has := goodIn_r _ [6, 7, 8, 9, 10, 33, 34, 35, 36, 37, 38, 39, 40, 41, 42, 43, 44, 45, 46, 47, 48, 49] (by decide +kernel) (by decide +kernel)
set_option maxRecDepth 20000 in
theorem gX11_paper_X4_has : GoodIn wsX11_paper (wsV RX11 200 RX4 yX4_has wsX4_has) := goodIn_app (goodIn_of _ (by decide +kernel)) ggX11_paper_X4_has
set_option maxRecDepth 20000 in
theorem ggX11_paper_X11_within : GoodIn wsX11_paper wsX11_within := goodIn_r _ [10] (by decide +kernel) (by decide +kernel)
set_option maxRecDepth 20000 in
theorem gX11_paper_X11_within : GoodIn wsX11_paper (va_wsS RX11 84 yX11_within wsX11_within) := goodIn_app (goodIn_of _ (by decide +kernel)) ggX11_paper_X11_within
set_option maxRecDepth 20000 in
theorem ggX11_paper_X11_isYear : GoodIn wsX11_paper wsX11_isYear := goodIn_r _ [14, 11, 8, 9, 10] (by decide +kernel) (by decide +kernel)
set_option maxRecDepth 20000 in
theorem gX11_paper_X11_isYear : GoodIn wsX11_paper (va_wsS RX11 81 yX11_isYear wsX11_isYear) := goodIn_app (goodIn_of _ (by decide +kernel)) ggX11_paper_X11_isYear
set_option maxRecDepth 20000 in
theorem ggX11_paper_X4_addHolding : GoodIn wsX11_paper wsX4_addHolding := goodIn_r _ [18, 19, 20, 21, 22, 23, 33, 34, 35, 36, 37, 38, 39, 40, 41, 42, 43, 44, 45, 46, 47, 48, 49] (by decide +kernel) (by decide +kernel)
set_option maxRecDepth 20000 in
theorem gX11_paper_X4_addHolding : GoodIn wsX11_paper (wsV RX11 201 RX4 yX4_addHolding wsX4_addHolding) := goodIn_app (goodIn_of _ (by decide +kernel)) ggX11_paper_X4_addHolding
theorem dX11_paper_0 : decode cX11_paper 0 = .ok (.aload_n 0, 1) := by decide +kernel
theorem dX11_paper_1 : decode cX11_paper 1 = .ok (.getfield 29, 3) := by decide +kernel
theorem dX11_paper_4 : decode cX11_paper 4 = .ok (.iload_n 1, 1) := by decide +kernel
theorem dX11_paper_5 : decode cX11_paper 5 = .ok (.invokevirtual 200, 3) := by decide +kernel
theorem dX11_paper_8 : decode cX11_paper 8 = .ok (.ifCond .eq 20, 3) := by decide +kernel
theorem dX11_paper_11 : decode cX11_paper 11 = .ok (.iload_n 2, 1) := by decide +kernel
theorem dX11_paper_12 : decode cX11_paper 12 = .ok (.iconst (-1), 1) := by decide +kernel
theorem dX11_paper_13 : decode cX11_paper 13 = .ok (.bipush 9, 2) := by decide +kernel
theorem dX11_paper_15 : decode cX11_paper 15 = .ok (.invokestatic 84, 3) := by decide +kernel
theorem dX11_paper_18 : decode cX11_paper 18 = .ok (.ifCond .eq 10, 3) := by decide +kernel
theorem dX11_paper_21 : decode cX11_paper 21 = .ok (.iload_n 3, 1) := by decide +kernel
theorem dX11_paper_22 : decode cX11_paper 22 = .ok (.invokestatic 81, 3) := by decide +kernel
theorem dX11_paper_25 : decode cX11_paper 25 = .ok (.ifCond .ne 5, 3) := by decide +kernel
theorem dX11_paper_28 : decode cX11_paper 28 = .ok (.iconst (-1), 1) := by decide +kernel
theorem dX11_paper_29 : decode cX11_paper 29 = .ok (.ireturn, 1) := by decide +kernel
theorem dX11_paper_30 : decode cX11_paper 30 = .ok (.aload_n 0, 1) := by decide +kernel
theorem dX11_paper_31 : decode cX11_paper 31 = .ok (.getfield 29, 3) := by decide +kernel
theorem dX11_paper_34 : decode cX11_paper 34 = .ok (.iload_n 1, 1) := by decide +kernel
theorem dX11_paper_35 : decode cX11_paper 35 = .ok (.iconst 0, 1) := by decide +kernel
theorem dX11_paper_36 : decode cX11_paper 36 = .ok (.iload_n 2, 1) := by decide +kernel
theorem dX11_paper_37 : decode cX11_paper 37 = .ok (.iload_n 3, 1) := by decide +kernel
theorem dX11_paper_38 : decode cX11_paper 38 = .ok (.invokevirtual 201, 3) := by decide +kernel
theorem dX11_paper_41 : decode cX11_paper 41 = .ok (.ireturn, 1) := by decide +kernel
set_option maxRecDepth 20000 in
theorem ggX11_use_X4_has : GoodIn wsX11_use wsX4_has := goodIn_r _ [6, 7, 8, 9, 10, 33, 34, 35, 36, 37, 38, 39, 40, 41, 42, 43, 44, 45, 46, 47, 48, 49] (by decide +kernel) (by decide +kernel)
set_option maxRecDepth 20000 in
theorem gX11_use_X4_has : GoodIn wsX11_use (wsV RX11 200 RX4 yX4_has wsX4_has) := goodIn_app (goodIn_of _ (by decide +kernel)) ggX11_use_X4_has
set_option maxRecDepth 20000 in
theorem ggX11_use_X11_within : GoodIn wsX11_use wsX11_within := goodIn_r _ [10] (by decide +kernel) (by decide +kernel)
set_option maxRecDepth 20000 in
theorem gX11_use_X11_within : GoodIn wsX11_use (va_wsS RX11 84 yX11_within wsX11_within) := goodIn_app (goodIn_of _ (by decide +kernel)) ggX11_use_X11_within
set_option maxRecDepth 20000 in
theorem ggX11_use_X11_isYear : GoodIn wsX11_use wsX11_isYear := goodIn_r _ [14, 11, 8, 9, 10] (by decide +kernel) (by decide +kernel)
set_option maxRecDepth 20000 in
theorem gX11_use_X11_isYear : GoodIn wsX11_use (va_wsS RX11 81 yX11_isYear wsX11_isYear) := goodIn_app (goodIn_of _ (by decide +kernel)) ggX11_use_X11_isYear
set_option maxRecDepth 20000 in
theorem ggX11_use_X4_addHolding : GoodIn wsX11_use wsX4_addHolding := goodIn_r _ [18, 19, 20, 21, 22, 23, 33, 34, 35, 36, 37, 38, 39, 40, 41, 42, 43, 44, 45, 46, 47, 48, 49] (by decide +kernel) (by decide +kernel)
set_option maxRecDepth 20000 in
theorem gX11_use_X4_addHolding : GoodIn wsX11_use (wsV RX11 201 RX4 yX4_addHolding wsX4_addHolding) := goodIn_app (goodIn_of _ (by decide +kernel)) ggX11_use_X4_addHolding
theorem dX11_use_0 : decode cX11_use 0 = .ok (.aload_n 0, 1) := by decide +kernel
theorem dX11_use_1 : decode cX11_use 1 = .ok (.getfield 29, 3) := by decide +kernel
theorem dX11_use_4 : decode cX11_use 4 = .ok (.iload_n 1, 1) := by decide +kernel
theorem dX11_use_5 : decode cX11_use 5 = .ok (.invokevirtual 200, 3) := by decide +kernel
theorem dX11_use_8 : decode cX11_use 8 = .ok (.ifCond .eq 21, 3) := by decide +kernel
theorem dX11_use_11 : decode cX11_use 11 = .ok (.iload_n 2, 1) := by decide +kernel
theorem dX11_use_12 : decode cX11_use 12 = .ok (.iconst 0, 1) := by decide +kernel
theorem dX11_use_13 : decode cX11_use 13 = .ok (.sipush 1023, 3) := by decide +kernel
theorem dX11_use_16 : decode cX11_use 16 = .ok (.invokestatic 84, 3) := by decide +kernel
theorem dX11_use_19 : decode cX11_use 19 = .ok (.ifCond .eq 10, 3) := by decide +kernel
theorem dX11_use_22 : decode cX11_use 22 = .ok (.iload_n 3, 1) := by decide +kernel
theorem dX11_use_23 : decode cX11_use 23 = .ok (.invokestatic 81, 3) := by decide +kernel
theorem dX11_use_26 : decode cX11_use 26 = .ok (.ifCond .ne 5, 3) := by decide +kernel
theorem dX11_use_29 : decode cX11_use 29 = .ok (.iconst (-1), 1) := by decide +kernel
theorem dX11_use_30 : decode cX11_use 30 = .ok (.ireturn, 1) := by decide +kernel
theorem dX11_use_31 : decode cX11_use 31 = .ok (.aload_n 0, 1) := by decide +kernel
theorem dX11_use_32 : decode cX11_use 32 = .ok (.getfield 29, 3) := by decide +kernel
theorem dX11_use_35 : decode cX11_use 35 = .ok (.iload_n 1, 1) := by decide +kernel
theorem dX11_use_36 : decode cX11_use 36 = .ok (.iconst 1, 1) := by decide +kernel
theorem dX11_use_37 : decode cX11_use 37 = .ok (.iload_n 2, 1) := by decide +kernel
theorem dX11_use_38 : decode cX11_use 38 = .ok (.iload_n 3, 1) := by decide +kernel
theorem dX11_use_39 : decode cX11_use 39 = .ok (.invokevirtual 201, 3) := by decide +kernel
theorem dX11_use_42 : decode cX11_use 42 = .ok (.ireturn, 1) := by decide +kernel
set_option maxRecDepth 20000 in
theorem ggX11_holds_X4_has : GoodIn wsX11_holds wsX4_has := goodIn_r _ [6, 7, 8, 9, 10, 41, 42, 43, 44, 45, 46, 47, 48, 49, 50, 51, 52, 53, 54, 55, 56, 57] (by decide +kernel) (by decide +kernel)
set_option maxRecDepth 20000 in
theorem gX11_holds_X4_has : GoodIn wsX11_holds (wsV RX11 200 RX4 yX4_has wsX4_has) := goodIn_app (goodIn_of _ (by decide +kernel)) ggX11_holds_X4_has
set_option maxRecDepth 20000 in
theorem ggX11_holds_X11_isYear : GoodIn wsX11_holds wsX11_isYear := goodIn_r _ [13, 14, 8, 9, 10] (by decide +kernel) (by decide +kernel)
set_option maxRecDepth 20000 in
theorem gX11_holds_X11_isYear : GoodIn wsX11_holds (va_wsS RX11 81 yX11_isYear wsX11_isYear) := goodIn_app (goodIn_of _ (by decide +kernel)) ggX11_holds_X11_isYear
set_option maxRecDepth 20000 in
theorem ggX11_holds_X11_within : GoodIn wsX11_holds wsX11_within := goodIn_r _ [10] (by decide +kernel) (by decide +kernel)
set_option maxRecDepth 20000 in
theorem gX11_holds_X11_within : GoodIn wsX11_holds (va_wsS RX11 84 yX11_within wsX11_within) := goodIn_app (goodIn_of _ (by decide +kernel)) ggX11_holds_X11_within
set_option maxRecDepth 20000 in
theorem ggX11_holds_X4_usersOf : GoodIn wsX11_holds wsX4_usersOf := goodIn_r _ [18, 19, 20, 21, 5, 22, 23, 24, 25, 26, 27, 8, 9, 10, 41, 42, 43, 44, 45, 46, 47, 48, 49, 50, 51, 52, 53, 54, 55, 56, 57] (by decide +kernel) (by decide +kernel)
set_option maxRecDepth 20000 in
theorem gX11_holds_X4_usersOf : GoodIn wsX11_holds (wsV RX11 205 RX4 yX4_usersOf wsX4_usersOf) := goodIn_app (goodIn_of _ (by decide +kernel)) ggX11_holds_X4_usersOf
set_option maxRecDepth 20000 in
theorem ggX11_holds_X4_ownerOf : GoodIn wsX11_holds wsX4_ownerOf := goodIn_r _ [31, 19, 20, 21, 5, 22, 23, 24, 25, 26, 27, 8, 9, 10, 41, 42, 43, 44, 45, 46, 47, 48, 49, 50, 51, 52, 53, 54, 55, 56, 57] (by decide +kernel) (by decide +kernel)
set_option maxRecDepth 20000 in
theorem gX11_holds_X4_ownerOf : GoodIn wsX11_holds (wsV RX11 208 RX4 yX4_ownerOf wsX4_ownerOf) := goodIn_app (goodIn_of _ (by decide +kernel)) ggX11_holds_X4_ownerOf
theorem dX11_holds_0 : decode cX11_holds 0 = .ok (.aload_n 0, 1) := by decide +kernel
theorem dX11_holds_1 : decode cX11_holds 1 = .ok (.getfield 29, 3) := by decide +kernel
theorem dX11_holds_4 : decode cX11_holds 4 = .ok (.iload_n 1, 1) := by decide +kernel
theorem dX11_holds_5 : decode cX11_holds 5 = .ok (.invokevirtual 200, 3) := by decide +kernel
theorem dX11_holds_8 : decode cX11_holds 8 = .ok (.ifCond .eq 19, 3) := by decide +kernel
theorem dX11_holds_11 : decode cX11_holds 11 = .ok (.iload_n 2, 1) := by decide +kernel
theorem dX11_holds_12 : decode cX11_holds 12 = .ok (.invokestatic 81, 3) := by decide +kernel
theorem dX11_holds_15 : decode cX11_holds 15 = .ok (.ifCond .eq 12, 3) := by decide +kernel
theorem dX11_holds_18 : decode cX11_holds 18 = .ok (.iload_n 3, 1) := by decide +kernel
theorem dX11_holds_19 : decode cX11_holds 19 = .ok (.iconst 0, 1) := by decide +kernel
theorem dX11_holds_20 : decode cX11_holds 20 = .ok (.iconst 1, 1) := by decide +kernel
theorem dX11_holds_21 : decode cX11_holds 21 = .ok (.invokestatic 84, 3) := by decide +kernel
theorem dX11_holds_24 : decode cX11_holds 24 = .ok (.ifCond .ne 5, 3) := by decide +kernel
theorem dX11_holds_27 : decode cX11_holds 27 = .ok (.iconst (-1), 1) := by decide +kernel
theorem dX11_holds_28 : decode cX11_holds 28 = .ok (.ireturn, 1) := by decide +kernel
theorem dX11_holds_29 : decode cX11_holds 29 = .ok (.iload_n 3, 1) := by decide +kernel
theorem dX11_holds_30 : decode cX11_holds 30 = .ok (.iconst 1, 1) := by decide +kernel
theorem dX11_holds_31 : decode cX11_holds 31 = .ok (.if_icmp .ne 13, 3) := by decide +kernel
theorem dX11_holds_34 : decode cX11_holds 34 = .ok (.aload_n 0, 1) := by decide +kernel
theorem dX11_holds_35 : decode cX11_holds 35 = .ok (.getfield 29, 3) := by decide +kernel
theorem dX11_holds_38 : decode cX11_holds 38 = .ok (.iload_n 1, 1) := by decide +kernel
theorem dX11_holds_39 : decode cX11_holds 39 = .ok (.iload_n 2, 1) := by decide +kernel
theorem dX11_holds_40 : decode cX11_holds 40 = .ok (.invokevirtual 205, 3) := by decide +kernel
theorem dX11_holds_43 : decode cX11_holds 43 = .ok (.ireturn, 1) := by decide +kernel
theorem dX11_holds_44 : decode cX11_holds 44 = .ok (.aload_n 0, 1) := by decide +kernel
theorem dX11_holds_45 : decode cX11_holds 45 = .ok (.getfield 29, 3) := by decide +kernel
theorem dX11_holds_48 : decode cX11_holds 48 = .ok (.iload_n 1, 1) := by decide +kernel
theorem dX11_holds_49 : decode cX11_holds 49 = .ok (.iload_n 2, 1) := by decide +kernel
theorem dX11_holds_50 : decode cX11_holds 50 = .ok (.invokevirtual 208, 3) := by decide +kernel
theorem dX11_holds_53 : decode cX11_holds 53 = .ok (.istore 4, 2) := by decide +kernel
theorem dX11_holds_55 : decode cX11_holds 55 = .ok (.iload 4, 2) := by decide +kernel
theorem dX11_holds_57 : decode cX11_holds 57 = .ok (.ifCond .ge 8, 3) := by decide +kernel
theorem dX11_holds_60 : decode cX11_holds 60 = .ok (.bipush (-4), 2) := by decide +kernel
theorem dX11_holds_62 : decode cX11_holds 62 = .ok (.goto 5, 3) := by decide +kernel
theorem dX11_holds_65 : decode cX11_holds 65 = .ok (.iload 4, 2) := by decide +kernel
theorem dX11_holds_67 : decode cX11_holds 67 = .ok (.ireturn, 1) := by decide +kernel
set_option maxRecDepth 20000 in
theorem ggX11_deed_X4_has : GoodIn wsX11_deed wsX4_has := goodIn_r _ [6, 7, 8, 9, 10, 35, 36, 37, 38, 39, 40, 41, 42, 43, 44, 45, 46, 47, 48, 49, 50, 51] (by decide +kernel) (by decide +kernel)
set_option maxRecDepth 20000 in
theorem gX11_deed_X4_has : GoodIn wsX11_deed (wsV RX11 200 RX4 yX4_has wsX4_has) := goodIn_app (goodIn_of _ (by decide +kernel)) ggX11_deed_X4_has
set_option maxRecDepth 20000 in
theorem ggX11_deed_X11_isKin : GoodIn wsX11_deed wsX11_isKin := goodIn_r _ [13, 14, 8, 9, 10] (by decide +kernel) (by decide +kernel)
set_option maxRecDepth 20000 in
theorem gX11_deed_X11_isKin : GoodIn wsX11_deed (va_wsS RX11 171 yX11_isKin wsX11_isKin) := goodIn_app (goodIn_of _ (by decide +kernel)) ggX11_deed_X11_isKin
set_option maxRecDepth 20000 in
theorem ggX11_deed_X11_within : GoodIn wsX11_deed wsX11_within := goodIn_r _ [10] (by decide +kernel) (by decide +kernel)
set_option maxRecDepth 20000 in
theorem gX11_deed_X11_within : GoodIn wsX11_deed (va_wsS RX11 84 yX11_within wsX11_within) := goodIn_app (goodIn_of _ (by decide +kernel)) ggX11_deed_X11_within
set_option maxRecDepth 20000 in
theorem ggX11_deed_X11_isYear : GoodIn wsX11_deed wsX11_isYear := goodIn_r _ [17, 14, 8, 9, 10] (by decide +kernel) (by decide +kernel)
set_option maxRecDepth 20000 in
theorem gX11_deed_X11_isYear : GoodIn wsX11_deed (va_wsS RX11 81 yX11_isYear wsX11_isYear) := goodIn_app (goodIn_of _ (by decide +kernel)) ggX11_deed_X11_isYear
set_option maxRecDepth 20000 in
theorem ggX11_deed_X4_addDeed : GoodIn wsX11_deed wsX4_addDeed := goodIn_r _ [21, 22, 23, 24, 25, 35, 36, 37, 38, 39, 40, 41, 42, 43, 44, 45, 46, 47, 48, 49, 50, 51] (by decide +kernel) (by decide +kernel)
set_option maxRecDepth 20000 in
theorem gX11_deed_X4_addDeed : GoodIn wsX11_deed (wsV RX11 211 RX4 yX4_addDeed wsX4_addDeed) := goodIn_app (goodIn_of _ (by decide +kernel)) ggX11_deed_X4_addDeed
theorem dX11_deed_0 : decode cX11_deed 0 = .ok (.aload_n 0, 1) := by decide +kernel
theorem dX11_deed_1 : decode cX11_deed 1 = .ok (.getfield 29, 3) := by decide +kernel
theorem dX11_deed_4 : decode cX11_deed 4 = .ok (.iload_n 1, 1) := by decide +kernel
theorem dX11_deed_5 : decode cX11_deed 5 = .ok (.invokevirtual 200, 3) := by decide +kernel
theorem dX11_deed_8 : decode cX11_deed 8 = .ok (.ifCond .eq 27, 3) := by decide +kernel
theorem dX11_deed_11 : decode cX11_deed 11 = .ok (.iload_n 2, 1) := by decide +kernel
theorem dX11_deed_12 : decode cX11_deed 12 = .ok (.invokestatic 171, 3) := by decide +kernel
theorem dX11_deed_15 : decode cX11_deed 15 = .ok (.ifCond .eq 20, 3) := by decide +kernel
theorem dX11_deed_18 : decode cX11_deed 18 = .ok (.iload_n 3, 1) := by decide +kernel
theorem dX11_deed_19 : decode cX11_deed 19 = .ok (.iconst 0, 1) := by decide +kernel
theorem dX11_deed_20 : decode cX11_deed 20 = .ok (.iconst 5, 1) := by decide +kernel
theorem dX11_deed_21 : decode cX11_deed 21 = .ok (.invokestatic 84, 3) := by decide +kernel
theorem dX11_deed_24 : decode cX11_deed 24 = .ok (.ifCond .eq 11, 3) := by decide +kernel
theorem dX11_deed_27 : decode cX11_deed 27 = .ok (.iload 4, 2) := by decide +kernel
theorem dX11_deed_29 : decode cX11_deed 29 = .ok (.invokestatic 81, 3) := by decide +kernel
theorem dX11_deed_32 : decode cX11_deed 32 = .ok (.ifCond .ne 5, 3) := by decide +kernel
theorem dX11_deed_35 : decode cX11_deed 35 = .ok (.iconst (-1), 1) := by decide +kernel
theorem dX11_deed_36 : decode cX11_deed 36 = .ok (.ireturn, 1) := by decide +kernel
theorem dX11_deed_37 : decode cX11_deed 37 = .ok (.aload_n 0, 1) := by decide +kernel
theorem dX11_deed_38 : decode cX11_deed 38 = .ok (.getfield 29, 3) := by decide +kernel
theorem dX11_deed_41 : decode cX11_deed 41 = .ok (.iload_n 1, 1) := by decide +kernel
theorem dX11_deed_42 : decode cX11_deed 42 = .ok (.iload_n 2, 1) := by decide +kernel
theorem dX11_deed_43 : decode cX11_deed 43 = .ok (.iload 4, 2) := by decide +kernel
theorem dX11_deed_45 : decode cX11_deed 45 = .ok (.invokevirtual 211, 3) := by decide +kernel
theorem dX11_deed_48 : decode cX11_deed 48 = .ok (.ireturn, 1) := by decide +kernel
set_option maxRecDepth 20000 in
theorem ggX11_could_X11_within : GoodIn wsX11_could wsX11_within := goodIn_r _ [6] (by decide +kernel) (by decide +kernel)
set_option maxRecDepth 20000 in
theorem gX11_could_X11_within : GoodIn wsX11_could (va_wsS RX11 84 yX11_within wsX11_within) := goodIn_app (goodIn_of _ (by decide +kernel)) ggX11_could_X11_within
set_option maxRecDepth 20000 in
theorem ggX11_could_X4_rightOfSeller : GoodIn wsX11_could wsX4_rightOfSeller := goodIn_r _ [11, 12, 13, 14, 15, 16, 17, 10, 18, 19, 20, 21, 22, 23, 24, 25, 26, 27, 4, 5, 6, 28, 29, 30, 31, 32, 33, 43, 44, 45, 46, 47, 48, 49, 50, 51, 52, 53, 54, 55, 56, 57, 58, 59] (by decide +kernel) (by decide +kernel)
set_option maxRecDepth 20000 in
theorem gX11_could_X4_rightOfSeller : GoodIn wsX11_could (wsV RX11 218 RX4 yX4_rightOfSeller wsX4_rightOfSeller) := goodIn_app (goodIn_of _ (by decide +kernel)) ggX11_could_X4_rightOfSeller
theorem dX11_could_0 : decode cX11_could 0 = .ok (.iload_n 1, 1) := by decide +kernel
theorem dX11_could_1 : decode cX11_could 1 = .ok (.iconst 0, 1) := by decide +kernel
theorem dX11_could_2 : decode cX11_could 2 = .ok (.aload_n 0, 1) := by decide +kernel
theorem dX11_could_3 : decode cX11_could 3 = .ok (.getfield 29, 3) := by decide +kernel
theorem dX11_could_6 : decode cX11_could 6 = .ok (.getfield 214, 3) := by decide +kernel
theorem dX11_could_9 : decode cX11_could 9 = .ok (.iconst 1, 1) := by decide +kernel
theorem dX11_could_10 : decode cX11_could 10 = .ok (.isub, 1) := by decide +kernel
theorem dX11_could_11 : decode cX11_could 11 = .ok (.invokestatic 84, 3) := by decide +kernel
theorem dX11_could_14 : decode cX11_could 14 = .ok (.ifCond .ne 5, 3) := by decide +kernel
theorem dX11_could_17 : decode cX11_could 17 = .ok (.iconst (-1), 1) := by decide +kernel
theorem dX11_could_18 : decode cX11_could 18 = .ok (.ireturn, 1) := by decide +kernel
theorem dX11_could_19 : decode cX11_could 19 = .ok (.aload_n 0, 1) := by decide +kernel
theorem dX11_could_20 : decode cX11_could 20 = .ok (.getfield 29, 3) := by decide +kernel
theorem dX11_could_23 : decode cX11_could 23 = .ok (.iload_n 1, 1) := by decide +kernel
theorem dX11_could_24 : decode cX11_could 24 = .ok (.invokevirtual 218, 3) := by decide +kernel
theorem dX11_could_27 : decode cX11_could 27 = .ok (.ireturn, 1) := by decide +kernel
set_option maxRecDepth 20000 in
theorem ggX11_twice_X4_has : GoodIn wsX11_twice wsX4_has := goodIn_r _ [6, 7, 8, 9, 10, 27, 28, 29, 30, 31, 32, 33, 34, 35, 36, 37, 38, 39, 40, 41, 42, 43] (by decide +kernel) (by decide +kernel)
set_option maxRecDepth 20000 in
theorem gX11_twice_X4_has : GoodIn wsX11_twice (wsV RX11 200 RX4 yX4_has wsX4_has) := goodIn_app (goodIn_of _ (by decide +kernel)) ggX11_twice_X4_has
set_option maxRecDepth 20000 in
theorem ggX11_twice_X4_firstSoldTwice : GoodIn wsX11_twice wsX4_firstSoldTwice := goodIn_r _ [14, 15, 16, 17, 27, 28, 29, 30, 31, 32, 33, 34, 35, 36, 37, 38, 39, 40, 41, 42, 43] (by decide +kernel) (by decide +kernel)
set_option maxRecDepth 20000 in
theorem gX11_twice_X4_firstSoldTwice : GoodIn wsX11_twice (wsV RX11 221 RX4 yX4_firstSoldTwice wsX4_firstSoldTwice) := goodIn_app (goodIn_of _ (by decide +kernel)) ggX11_twice_X4_firstSoldTwice
theorem dX11_twice_0 : decode cX11_twice 0 = .ok (.aload_n 0, 1) := by decide +kernel
theorem dX11_twice_1 : decode cX11_twice 1 = .ok (.getfield 29, 3) := by decide +kernel
theorem dX11_twice_4 : decode cX11_twice 4 = .ok (.iload_n 1, 1) := by decide +kernel
theorem dX11_twice_5 : decode cX11_twice 5 = .ok (.invokevirtual 200, 3) := by decide +kernel
theorem dX11_twice_8 : decode cX11_twice 8 = .ok (.ifCond .ne 5, 3) := by decide +kernel
theorem dX11_twice_11 : decode cX11_twice 11 = .ok (.iconst (-1), 1) := by decide +kernel
theorem dX11_twice_12 : decode cX11_twice 12 = .ok (.ireturn, 1) := by decide +kernel
theorem dX11_twice_13 : decode cX11_twice 13 = .ok (.aload_n 0, 1) := by decide +kernel
theorem dX11_twice_14 : decode cX11_twice 14 = .ok (.getfield 29, 3) := by decide +kernel
theorem dX11_twice_17 : decode cX11_twice 17 = .ok (.iload_n 1, 1) := by decide +kernel
theorem dX11_twice_18 : decode cX11_twice 18 = .ok (.invokevirtual 221, 3) := by decide +kernel
theorem dX11_twice_21 : decode cX11_twice 21 = .ok (.ireturn, 1) := by decide +kernel
set_option maxRecDepth 20000 in
theorem ggX11_take_X4_has : GoodIn wsX11_take wsX4_has := goodIn_r _ [6, 7, 8, 9, 10, 35, 36, 37, 38, 39, 40, 41, 42, 43, 44, 45, 46, 47, 48, 49, 50, 51] (by decide +kernel) (by decide +kernel)
set_option maxRecDepth 20000 in
theorem gX11_take_X4_has : GoodIn wsX11_take (wsV RX11 200 RX4 yX4_has wsX4_has) := goodIn_app (goodIn_of _ (by decide +kernel)) ggX11_take_X4_has
set_option maxRecDepth 20000 in
theorem ggX11_take_X11_isKin : GoodIn wsX11_take wsX11_isKin := goodIn_r _ [13, 14, 8, 9, 10] (by decide +kernel) (by decide +kernel)
set_option maxRecDepth 20000 in
theorem gX11_take_X11_isKin : GoodIn wsX11_take (va_wsS RX11 171 yX11_isKin wsX11_isKin) := goodIn_app (goodIn_of _ (by decide +kernel)) ggX11_take_X11_isKin
set_option maxRecDepth 20000 in
theorem ggX11_take_X11_isYear : GoodIn wsX11_take wsX11_isYear := goodIn_r _ [17, 14, 8, 9, 10] (by decide +kernel) (by decide +kernel)
set_option maxRecDepth 20000 in
theorem gX11_take_X11_isYear : GoodIn wsX11_take (va_wsS RX11 81 yX11_isYear wsX11_isYear) := goodIn_app (goodIn_of _ (by decide +kernel)) ggX11_take_X11_isYear
set_option maxRecDepth 20000 in
theorem ggX11_take_X4_addTaking : GoodIn wsX11_take wsX4_addTaking := goodIn_r _ [21, 22, 23, 24, 25, 35, 36, 37, 38, 39, 40, 41, 42, 43, 44, 45, 46, 47, 48, 49, 50, 51] (by decide +kernel) (by decide +kernel)
set_option maxRecDepth 20000 in
theorem gX11_take_X4_addTaking : GoodIn wsX11_take (wsV RX11 224 RX4 yX4_addTaking wsX4_addTaking) := goodIn_app (goodIn_of _ (by decide +kernel)) ggX11_take_X4_addTaking
theorem dX11_take_0 : decode cX11_take 0 = .ok (.aload_n 0, 1) := by decide +kernel
theorem dX11_take_1 : decode cX11_take 1 = .ok (.getfield 29, 3) := by decide +kernel
theorem dX11_take_4 : decode cX11_take 4 = .ok (.iload_n 1, 1) := by decide +kernel
theorem dX11_take_5 : decode cX11_take 5 = .ok (.invokevirtual 200, 3) := by decide +kernel
theorem dX11_take_8 : decode cX11_take 8 = .ok (.ifCond .eq 17, 3) := by decide +kernel
theorem dX11_take_11 : decode cX11_take 11 = .ok (.iload_n 2, 1) := by decide +kernel
theorem dX11_take_12 : decode cX11_take 12 = .ok (.invokestatic 171, 3) := by decide +kernel
theorem dX11_take_15 : decode cX11_take 15 = .ok (.ifCond .eq 10, 3) := by decide +kernel
theorem dX11_take_18 : decode cX11_take 18 = .ok (.iload_n 3, 1) := by decide +kernel
theorem dX11_take_19 : decode cX11_take 19 = .ok (.invokestatic 81, 3) := by decide +kernel
theorem dX11_take_22 : decode cX11_take 22 = .ok (.ifCond .ne 5, 3) := by decide +kernel
theorem dX11_take_25 : decode cX11_take 25 = .ok (.iconst (-1), 1) := by decide +kernel
theorem dX11_take_26 : decode cX11_take 26 = .ok (.ireturn, 1) := by decide +kernel
theorem dX11_take_27 : decode cX11_take 27 = .ok (.aload_n 0, 1) := by decide +kernel
theorem dX11_take_28 : decode cX11_take 28 = .ok (.getfield 29, 3) := by decide +kernel
theorem dX11_take_31 : decode cX11_take 31 = .ok (.iload_n 1, 1) := by decide +kernel
theorem dX11_take_32 : decode cX11_take 32 = .ok (.iload_n 2, 1) := by decide +kernel
theorem dX11_take_33 : decode cX11_take 33 = .ok (.iload_n 3, 1) := by decide +kernel
theorem dX11_take_34 : decode cX11_take 34 = .ok (.invokevirtual 224, 3) := by decide +kernel
theorem dX11_take_37 : decode cX11_take 37 = .ok (.ireturn, 1) := by decide +kernel
set_option maxRecDepth 20000 in
theorem ggX11_wronged_X11_within : GoodIn wsX11_wronged wsX11_within := goodIn_r _ [6] (by decide +kernel) (by decide +kernel)
set_option maxRecDepth 20000 in
theorem gX11_wronged_X11_within : GoodIn wsX11_wronged (va_wsS RX11 84 yX11_within wsX11_within) := goodIn_app (goodIn_of _ (by decide +kernel)) ggX11_wronged_X11_within
set_option maxRecDepth 20000 in
theorem ggX11_wronged_X4_wrongedBy : GoodIn wsX11_wronged wsX4_wrongedBy := goodIn_r _ [11, 12, 13, 14, 15, 16, 17, 10, 18, 19, 20, 21, 22, 23, 24, 25, 26, 27, 4, 5, 6, 28, 29, 30, 31, 41, 42, 43, 44, 45, 46, 47, 48, 49, 50, 51, 52, 53, 54, 55, 56, 57] (by decide +kernel) (by decide +kernel)
set_option maxRecDepth 20000 in
theorem gX11_wronged_X4_wrongedBy : GoodIn wsX11_wronged (wsV RX11 230 RX4 yX4_wrongedBy wsX4_wrongedBy) := goodIn_app (goodIn_of _ (by decide +kernel)) ggX11_wronged_X4_wrongedBy
theorem dX11_wronged_0 : decode cX11_wronged 0 = .ok (.iload_n 1, 1) := by decide +kernel
theorem dX11_wronged_1 : decode cX11_wronged 1 = .ok (.iconst 0, 1) := by decide +kernel
theorem dX11_wronged_2 : decode cX11_wronged 2 = .ok (.aload_n 0, 1) := by decide +kernel
theorem dX11_wronged_3 : decode cX11_wronged 3 = .ok (.getfield 29, 3) := by decide +kernel
theorem dX11_wronged_6 : decode cX11_wronged 6 = .ok (.getfield 227, 3) := by decide +kernel
theorem dX11_wronged_9 : decode cX11_wronged 9 = .ok (.iconst 1, 1) := by decide +kernel
theorem dX11_wronged_10 : decode cX11_wronged 10 = .ok (.isub, 1) := by decide +kernel
theorem dX11_wronged_11 : decode cX11_wronged 11 = .ok (.invokestatic 84, 3) := by decide +kernel
theorem dX11_wronged_14 : decode cX11_wronged 14 = .ok (.ifCond .ne 5, 3) := by decide +kernel
theorem dX11_wronged_17 : decode cX11_wronged 17 = .ok (.iconst (-1), 1) := by decide +kernel
theorem dX11_wronged_18 : decode cX11_wronged 18 = .ok (.ireturn, 1) := by decide +kernel
theorem dX11_wronged_19 : decode cX11_wronged 19 = .ok (.aload_n 0, 1) := by decide +kernel
theorem dX11_wronged_20 : decode cX11_wronged 20 = .ok (.getfield 29, 3) := by decide +kernel
theorem dX11_wronged_23 : decode cX11_wronged 23 = .ok (.iload_n 1, 1) := by decide +kernel
theorem dX11_wronged_24 : decode cX11_wronged 24 = .ok (.invokevirtual 230, 3) := by decide +kernel
theorem dX11_wronged_27 : decode cX11_wronged 27 = .ok (.ireturn, 1) := by decide +kernel
set_option maxRecDepth 20000 in
theorem ggX11_shares_X4_has : GoodIn wsX11_shares wsX4_has := goodIn_r _ [9, 10, 11, 12, 13, 53, 54, 55, 56, 57, 58, 59, 60, 61, 62, 63, 64, 65, 66, 67, 68, 69] (by decide +kernel) (by decide +kernel)
set_option maxRecDepth 20000 in
theorem gX11_shares_X4_has : GoodIn wsX11_shares (wsV RX11 200 RX4 yX4_has wsX4_has) := goodIn_app (goodIn_of _ (by decide +kernel)) ggX11_shares_X4_has
set_option maxRecDepth 20000 in
theorem ggX11_shares_X11_isKin : GoodIn wsX11_shares wsX11_isKin := goodIn_r _ [16, 17, 11, 12, 13] (by decide +kernel) (by decide +kernel)
set_option maxRecDepth 20000 in
theorem gX11_shares_X11_isKin : GoodIn wsX11_shares (va_wsS RX11 171 yX11_isKin wsX11_isKin) := goodIn_app (goodIn_of _ (by decide +kernel)) ggX11_shares_X11_isKin
set_option maxRecDepth 20000 in
theorem ggX11_shares_X11_isYear : GoodIn wsX11_shares wsX11_isYear := goodIn_r _ [20, 17, 11, 12, 13] (by decide +kernel) (by decide +kernel)
set_option maxRecDepth 20000 in
theorem gX11_shares_X11_isYear : GoodIn wsX11_shares (va_wsS RX11 81 yX11_isYear wsX11_isYear) := goodIn_app (goodIn_of _ (by decide +kernel)) ggX11_shares_X11_isYear
set_option maxRecDepth 20000 in
theorem ggX11_shares_X7_livingFounders : GoodIn wsX11_shares wsX7_livingFounders := goodIn_r _ [25, 26, 27, 28, 29, 24, 30, 31, 32, 33, 34, 35, 36, 37, 12, 38, 39, 40, 41, 42, 43, 70, 71, 72, 73, 74, 75, 76, 77, 78, 79, 80, 81] (by decide +kernel) (by decide +kernel)
set_option maxRecDepth 20000 in
theorem gX11_shares_X7_livingFounders : GoodIn wsX11_shares (wsV RX11 233 RX7 yX7_livingFounders wsX7_livingFounders) := goodIn_app (goodIn_of _ (by decide +kernel)) ggX11_shares_X7_livingFounders
theorem dX11_shares_0 : decode cX11_shares 0 = .ok (.aload_n 0, 1) := by decide +kernel
theorem dX11_shares_1 : decode cX11_shares 1 = .ok (.getfield 29, 3) := by decide +kernel
theorem dX11_shares_4 : decode cX11_shares 4 = .ok (.iload_n 1, 1) := by decide +kernel
theorem dX11_shares_5 : decode cX11_shares 5 = .ok (.invokevirtual 200, 3) := by decide +kernel
theorem dX11_shares_8 : decode cX11_shares 8 = .ok (.ifCond .eq 17, 3) := by decide +kernel
theorem dX11_shares_11 : decode cX11_shares 11 = .ok (.iload_n 2, 1) := by decide +kernel
theorem dX11_shares_12 : decode cX11_shares 12 = .ok (.invokestatic 171, 3) := by decide +kernel
theorem dX11_shares_15 : decode cX11_shares 15 = .ok (.ifCond .eq 10, 3) := by decide +kernel
theorem dX11_shares_18 : decode cX11_shares 18 = .ok (.iload_n 3, 1) := by decide +kernel
theorem dX11_shares_19 : decode cX11_shares 19 = .ok (.invokestatic 81, 3) := by decide +kernel
theorem dX11_shares_22 : decode cX11_shares 22 = .ok (.ifCond .ne 5, 3) := by decide +kernel
theorem dX11_shares_25 : decode cX11_shares 25 = .ok (.iconst (-1), 1) := by decide +kernel
theorem dX11_shares_26 : decode cX11_shares 26 = .ok (.ireturn, 1) := by decide +kernel
theorem dX11_shares_27 : decode cX11_shares 27 = .ok (.aload_n 0, 1) := by decide +kernel
theorem dX11_shares_28 : decode cX11_shares 28 = .ok (.getfield 22, 3) := by decide +kernel
theorem dX11_shares_31 : decode cX11_shares 31 = .ok (.iload_n 2, 1) := by decide +kernel
theorem dX11_shares_32 : decode cX11_shares 32 = .ok (.iload_n 3, 1) := by decide +kernel
theorem dX11_shares_33 : decode cX11_shares 33 = .ok (.invokevirtual 233, 3) := by decide +kernel
theorem dX11_shares_36 : decode cX11_shares 36 = .ok (.istore 4, 2) := by decide +kernel
theorem dX11_shares_38 : decode cX11_shares 38 = .ok (.iload 4, 2) := by decide +kernel
theorem dX11_shares_40 : decode cX11_shares 40 = .ok (.ifCond .ne 6, 3) := by decide +kernel
theorem dX11_shares_43 : decode cX11_shares 43 = .ok (.bipush (-2), 2) := by decide +kernel
theorem dX11_shares_45 : decode cX11_shares 45 = .ok (.ireturn, 1) := by decide +kernel
theorem dX11_shares_46 : decode cX11_shares 46 = .ok (.aload_n 0, 1) := by decide +kernel
theorem dX11_shares_47 : decode cX11_shares 47 = .ok (.getfield 29, 3) := by decide +kernel
theorem dX11_shares_50 : decode cX11_shares 50 = .ok (.getfield 236, 3) := by decide +kernel
theorem dX11_shares_53 : decode cX11_shares 53 = .ok (.iload_n 1, 1) := by decide +kernel
theorem dX11_shares_54 : decode cX11_shares 54 = .ok (.iload_n 2, 1) := by decide +kernel
theorem dX11_shares_55 : decode cX11_shares 55 = .ok (.iastore, 1) := by decide +kernel
theorem dX11_shares_56 : decode cX11_shares 56 = .ok (.aload_n 0, 1) := by decide +kernel
theorem dX11_shares_57 : decode cX11_shares 57 = .ok (.getfield 29, 3) := by decide +kernel
theorem dX11_shares_60 : decode cX11_shares 60 = .ok (.getfield 239, 3) := by decide +kernel
theorem dX11_shares_63 : decode cX11_shares 63 = .ok (.iload_n 1, 1) := by decide +kernel
theorem dX11_shares_64 : decode cX11_shares 64 = .ok (.iload_n 3, 1) := by decide +kernel
theorem dX11_shares_65 : decode cX11_shares 65 = .ok (.iastore, 1) := by decide +kernel
theorem dX11_shares_66 : decode cX11_shares 66 = .ok (.iload 4, 2) := by decide +kernel
theorem dX11_shares_68 : decode cX11_shares 68 = .ok (.ireturn, 1) := by decide +kernel
set_option maxRecDepth 20000 in
theorem ggX11_share_X4_has : GoodIn wsX11_share wsX4_has := goodIn_r _ [14, 15, 16, 17, 18, 153, 154, 155, 156, 157, 158, 159, 160, 161, 162, 163, 164, 165, 166, 167, 168, 169] (by decide +kernel) (by decide +kernel)
set_option maxRecDepth 20000 in
theorem gX11_share_X4_has : GoodIn wsX11_share (wsV RX11 200 RX4 yX4_has wsX4_has) := goodIn_app (goodIn_of _ (by decide +kernel)) ggX11_share_X4_has
set_option maxRecDepth 20000 in
theorem ggX11_share_X7_has : GoodIn wsX11_share wsX7_has := goodIn_r _ [23, 24, 16, 17, 18, 178, 179, 180, 181, 182, 183, 184, 185, 186, 187, 188, 189] (by decide +kernel) (by decide +kernel)
set_option maxRecDepth 20000 in
theorem gX11_share_X7_has : GoodIn wsX11_share (wsV RX11 158 RX7 yX7_has wsX7_has) := goodIn_app (goodIn_of _ (by decide +kernel)) ggX11_share_X7_has
set_option maxRecDepth 20000 in
theorem ggX11_share_X11_isYear : GoodIn wsX11_share wsX11_isYear := goodIn_r _ [27, 28, 16, 17, 18] (by decide +kernel) (by decide +kernel)
set_option maxRecDepth 20000 in
theorem gX11_share_X11_isYear : GoodIn wsX11_share (va_wsS RX11 81 yX11_isYear wsX11_isYear) := goodIn_app (goodIn_of _ (by decide +kernel)) ggX11_share_X11_isYear
set_option maxRecDepth 20000 in
theorem ggX11_share_X1_open : GoodIn wsX11_share wsX1_open := goodIn_r _ [33, 34, 35, 36, 37, 38, 39, 40, 41, 42, 43, 44, 45, 22, 46, 24, 47, 48, 49, 50, 51, 52, 53, 54, 55, 56, 57, 17, 58, 59, 60, 61, 62, 63, 64, 170, 171, 172, 173, 174, 175, 176, 177, 178, 179, 180, 181, 182, 183, 184, 185, 186, 187, 188, 189] (by decide +kernel) (by decide +kernel)
set_option maxRecDepth 20000 in
theorem gX11_share_X1_open : GoodIn wsX11_share (wsV RX11 246 RX1 yX1_open wsX1_open) := goodIn_app (goodIn_of _ (by decide +kernel)) ggX11_share_X1_open
set_option maxRecDepth 20000 in
theorem ggX11_share_X1_pass : GoodIn wsX11_share wsX1_pass := goodIn_r _ [68, 37, 38, 69, 34, 70, 71, 72, 32, 73, 74, 75, 76, 77, 41, 78, 79, 80, 81, 82, 83, 84, 85, 86, 87, 88, 89, 90, 91, 92, 93, 94, 95, 96, 97, 98, 99, 100, 101, 102, 103, 104, 105, 106, 107, 108, 109, 110, 111, 112, 113, 114, 115, 116, 60, 61, 22, 62, 63, 117, 118, 119, 120, 121, 122, 123, 124, 24, 125, 126, 127, 128, 129, 130, 51, 131, 132, 133, 134, 36, 135, 136, 137, 138, 139, 140, 141, 142, 143, 170, 171, 172, 173, 174, 175, 176, 177, 178, 179, 180, 181, 182, 183, 184, 185, 186, 187, 188, 189] (by decide +kernel) (by decide +kernel)
set_option maxRecDepth 20000 in
theorem gX11_share_X1_pass : GoodIn wsX11_share (wsV RX11 250 RX1 yX1_pass wsX1_pass) := goodIn_app (goodIn_of _ (by decide +kernel)) ggX11_share_X1_pass
theorem dX11_share_0 : decode cX11_share 0 = .ok (.aload_n 0, 1) := by decide +kernel
theorem dX11_share_1 : decode cX11_share 1 = .ok (.getfield 29, 3) := by decide +kernel
theorem dX11_share_4 : decode cX11_share 4 = .ok (.iload_n 1, 1) := by decide +kernel
theorem dX11_share_5 : decode cX11_share 5 = .ok (.invokevirtual 200, 3) := by decide +kernel
theorem dX11_share_8 : decode cX11_share 8 = .ok (.ifCond .eq 26, 3) := by decide +kernel
theorem dX11_share_11 : decode cX11_share 11 = .ok (.iload_n 2, 1) := by decide +kernel
theorem dX11_share_12 : decode cX11_share 12 = .ok (.iconst (-1), 1) := by decide +kernel
theorem dX11_share_13 : decode cX11_share 13 = .ok (.if_icmp .eq 14, 3) := by decide +kernel
theorem dX11_share_16 : decode cX11_share 16 = .ok (.aload_n 0, 1) := by decide +kernel
theorem dX11_share_17 : decode cX11_share 17 = .ok (.getfield 22, 3) := by decide +kernel
theorem dX11_share_20 : decode cX11_share 20 = .ok (.iload_n 2, 1) := by decide +kernel
theorem dX11_share_21 : decode cX11_share 21 = .ok (.invokevirtual 158, 3) := by decide +kernel
theorem dX11_share_24 : decode cX11_share 24 = .ok (.ifCond .eq 10, 3) := by decide +kernel
theorem dX11_share_27 : decode cX11_share 27 = .ok (.iload_n 3, 1) := by decide +kernel
theorem dX11_share_28 : decode cX11_share 28 = .ok (.invokestatic 81, 3) := by decide +kernel
theorem dX11_share_31 : decode cX11_share 31 = .ok (.ifCond .ne 7, 3) := by decide +kernel
theorem dX11_share_34 : decode cX11_share 34 = .ok (.ldc2_w 242, 3) := by decide +kernel
theorem dX11_share_37 : decode cX11_share 37 = .ok (.lreturn, 1) := by decide +kernel
theorem dX11_share_38 : decode cX11_share 38 = .ok (.aload_n 0, 1) := by decide +kernel
theorem dX11_share_39 : decode cX11_share 39 = .ok (.getfield 29, 3) := by decide +kernel
theorem dX11_share_42 : decode cX11_share 42 = .ok (.getfield 239, 3) := by decide +kernel
theorem dX11_share_45 : decode cX11_share 45 = .ok (.iload_n 1, 1) := by decide +kernel
theorem dX11_share_46 : decode cX11_share 46 = .ok (.iaload, 1) := by decide +kernel
theorem dX11_share_47 : decode cX11_share 47 = .ok (.istore 4, 2) := by decide +kernel
theorem dX11_share_49 : decode cX11_share 49 = .ok (.iload 4, 2) := by decide +kernel
theorem dX11_share_51 : decode cX11_share 51 = .ok (.ifCond .lt 9, 3) := by decide +kernel
theorem dX11_share_54 : decode cX11_share 54 = .ok (.iload_n 3, 1) := by decide +kernel
theorem dX11_share_55 : decode cX11_share 55 = .ok (.iload 4, 2) := by decide +kernel
theorem dX11_share_57 : decode cX11_share 57 = .ok (.if_icmp .ge 7, 3) := by decide +kernel
theorem dX11_share_60 : decode cX11_share 60 = .ok (.ldc2_w 244, 3) := by decide +kernel
theorem dX11_share_63 : decode cX11_share 63 = .ok (.lreturn, 1) := by decide +kernel
theorem dX11_share_64 : decode cX11_share 64 = .ok (.aload_n 0, 1) := by decide +kernel
theorem dX11_share_65 : decode cX11_share 65 = .ok (.getfield 38, 3) := by decide +kernel
theorem dX11_share_68 : decode cX11_share 68 = .ok (.aload_n 0, 1) := by decide +kernel
theorem dX11_share_69 : decode cX11_share 69 = .ok (.getfield 29, 3) := by decide +kernel
theorem dX11_share_72 : decode cX11_share 72 = .ok (.getfield 236, 3) := by decide +kernel
theorem dX11_share_75 : decode cX11_share 75 = .ok (.iload_n 1, 1) := by decide +kernel
theorem dX11_share_76 : decode cX11_share 76 = .ok (.iaload, 1) := by decide +kernel
theorem dX11_share_77 : decode cX11_share 77 = .ok (.iload 4, 2) := by decide +kernel
theorem dX11_share_79 : decode cX11_share 79 = .ok (.invokevirtual 246, 3) := by decide +kernel
theorem dX11_share_82 : decode cX11_share 82 = .ok (.iload 4, 2) := by decide +kernel
theorem dX11_share_84 : decode cX11_share 84 = .ok (.istore 5, 2) := by decide +kernel
theorem dX11_share_86 : decode cX11_share 86 = .ok (.iload 5, 2) := by decide +kernel
theorem dX11_share_88 : decode cX11_share 88 = .ok (.iload_n 3, 1) := by decide +kernel
theorem dX11_share_89 : decode cX11_share 89 = .ok (.if_icmp .gt 18, 3) := by decide +kernel
theorem dX11_share_92 : decode cX11_share 92 = .ok (.aload_n 0, 1) := by decide +kernel
theorem dX11_share_93 : decode cX11_share 93 = .ok (.getfield 38, 3) := by decide +kernel
theorem dX11_share_96 : decode cX11_share 96 = .ok (.iload 5, 2) := by decide +kernel
theorem dX11_share_98 : decode cX11_share 98 = .ok (.invokevirtual 250, 3) := by decide +kernel
theorem dX11_share_101 : decode cX11_share 101 = .ok (.iinc 5 1, 3) := by decide +kernel
theorem dX11_share_104 : decode cX11_share 104 = .ok (.goto (-18), 3) := by decide +kernel
theorem dX11_share_107 : decode cX11_share 107 = .ok (.iload_n 2, 1) := by decide +kernel
theorem dX11_share_108 : decode cX11_share 108 = .ok (.iconst (-1), 1) := by decide +kernel
theorem dX11_share_109 : decode cX11_share 109 = .ok (.if_icmp .ne 13, 3) := by decide +kernel
theorem dX11_share_112 : decode cX11_share 112 = .ok (.aload_n 0, 1) := by decide +kernel
theorem dX11_share_113 : decode cX11_share 113 = .ok (.getfield 38, 3) := by decide +kernel
theorem dX11_share_116 : decode cX11_share 116 = .ok (.getfield 253, 3) := by decide +kernel
theorem dX11_share_119 : decode cX11_share 119 = .ok (.goto 12, 3) := by decide +kernel
theorem dX11_share_122 : decode cX11_share 122 = .ok (.aload_n 0, 1) := by decide +kernel
theorem dX11_share_123 : decode cX11_share 123 = .ok (.getfield 38, 3) := by decide +kernel
theorem dX11_share_126 : decode cX11_share 126 = .ok (.getfield 257, 3) := by decide +kernel
theorem dX11_share_129 : decode cX11_share 129 = .ok (.iload_n 2, 1) := by decide +kernel
theorem dX11_share_130 : decode cX11_share 130 = .ok (.laload, 1) := by decide +kernel
theorem dX11_share_131 : decode cX11_share 131 = .ok (.lreturn, 1) := by decide +kernel
set_option maxRecDepth 20000 in
theorem ggX11_small_X4_has : GoodIn wsX11_small wsX4_has := goodIn_r _ [10, 11, 12, 13, 14, 146, 147, 148, 149, 150, 151, 152, 153, 154, 155, 156, 157, 158, 159, 160, 161, 162] (by decide +kernel) (by decide +kernel)
set_option maxRecDepth 20000 in
theorem gX11_small_X4_has : GoodIn wsX11_small (wsV RX11 200 RX4 yX4_has wsX4_has) := goodIn_app (goodIn_of _ (by decide +kernel)) ggX11_small_X4_has
set_option maxRecDepth 20000 in
theorem ggX11_small_X11_within : GoodIn wsX11_small wsX11_within := goodIn_r _ [14] (by decide +kernel) (by decide +kernel)
set_option maxRecDepth 20000 in
theorem gX11_small_X11_within : GoodIn wsX11_small (va_wsS RX11 84 yX11_within wsX11_within) := goodIn_app (goodIn_of _ (by decide +kernel)) ggX11_small_X11_within
set_option maxRecDepth 20000 in
theorem ggX11_small_X1_open : GoodIn wsX11_small wsX1_open := goodIn_r _ [20, 21, 22, 23, 24, 25, 26, 27, 28, 29, 30, 31, 32, 33, 34, 35, 36, 37, 38, 39, 40, 41, 42, 43, 44, 45, 46, 13, 47, 48, 49, 50, 51, 52, 53, 163, 164, 165, 166, 167, 168, 169, 170, 171, 172, 173, 174, 175, 176, 177, 178, 179, 180, 181, 182] (by decide +kernel) (by decide +kernel)
set_option maxRecDepth 20000 in
theorem gX11_small_X1_open : GoodIn wsX11_small (wsV RX11 246 RX1 yX1_open wsX1_open) := goodIn_app (goodIn_of _ (by decide +kernel)) ggX11_small_X1_open
set_option maxRecDepth 20000 in
theorem ggX11_small_X1_pass : GoodIn wsX11_small wsX1_pass := goodIn_r _ [57, 24, 25, 58, 21, 59, 60, 61, 19, 62, 63, 64, 65, 66, 28, 67, 68, 69, 70, 71, 72, 73, 74, 75, 76, 77, 78, 79, 80, 81, 82, 83, 84, 85, 86, 87, 88, 89, 90, 91, 92, 93, 94, 95, 96, 97, 98, 99, 100, 101, 102, 103, 104, 105, 49, 50, 33, 51, 52, 106, 107, 108, 109, 110, 111, 112, 113, 35, 114, 115, 116, 117, 118, 119, 40, 120, 121, 122, 123, 23, 124, 125, 126, 127, 128, 129, 130, 131, 132, 163, 164, 165, 166, 167, 168, 169, 170, 171, 172, 173, 174, 175, 176, 177, 178, 179, 180, 181, 182] (by decide +kernel) (by decide +kernel)
set_option maxRecDepth 20000 in
theorem gX11_small_X1_pass : GoodIn wsX11_small (wsV RX11 250 RX1 yX1_pass wsX1_pass) := goodIn_app (goodIn_of _ (by decide +kernel)) ggX11_small_X1_pass
set_option maxRecDepth 20000 in
theorem ggX11_small_X1_hasLessThanOneOf : GoodIn wsX11_small wsX1_hasLessThanOneOf := goodIn_r _ [136, 24, 25, 21, 22, 163, 164, 165, 166, 167, 168, 169, 170, 171, 172, 173, 174, 175, 176, 177, 178, 179, 180, 181, 182] (by decide +kernel) (by decide +kernel)
set_option maxRecDepth 20000 in
theorem gX11_small_X1_hasLessThanOneOf : GoodIn wsX11_small (wsV RX11 261 RX1 yX1_hasLessThanOneOf wsX1_hasLessThanOneOf) := goodIn_app (goodIn_of _ (by decide +kernel)) ggX11_small_X1_hasLessThanOneOf
theorem dX11_small_0 : decode cX11_small 0 = .ok (.aload_n 0, 1) := by decide +kernel
theorem dX11_small_1 : decode cX11_small 1 = .ok (.getfield 29, 3) := by decide +kernel
theorem dX11_small_4 : decode cX11_small 4 = .ok (.iload_n 1, 1) := by decide +kernel
theorem dX11_small_5 : decode cX11_small 5 = .ok (.invokevirtual 200, 3) := by decide +kernel
theorem dX11_small_8 : decode cX11_small 8 = .ok (.ifCond .eq 13, 3) := by decide +kernel
theorem dX11_small_11 : decode cX11_small 11 = .ok (.iload_n 2, 1) := by decide +kernel
theorem dX11_small_12 : decode cX11_small 12 = .ok (.iconst 1, 1) := by decide +kernel
theorem dX11_small_13 : decode cX11_small 13 = .ok (.ldc 167, 2) := by decide +kernel
theorem dX11_small_15 : decode cX11_small 15 = .ok (.invokestatic 84, 3) := by decide +kernel
theorem dX11_small_18 : decode cX11_small 18 = .ok (.ifCond .ne 5, 3) := by decide +kernel
theorem dX11_small_21 : decode cX11_small 21 = .ok (.iconst (-1), 1) := by decide +kernel
theorem dX11_small_22 : decode cX11_small 22 = .ok (.ireturn, 1) := by decide +kernel
theorem dX11_small_23 : decode cX11_small 23 = .ok (.aload_n 0, 1) := by decide +kernel
theorem dX11_small_24 : decode cX11_small 24 = .ok (.getfield 29, 3) := by decide +kernel
theorem dX11_small_27 : decode cX11_small 27 = .ok (.getfield 239, 3) := by decide +kernel
theorem dX11_small_30 : decode cX11_small 30 = .ok (.iload_n 1, 1) := by decide +kernel
theorem dX11_small_31 : decode cX11_small 31 = .ok (.iaload, 1) := by decide +kernel
theorem dX11_small_32 : decode cX11_small 32 = .ok (.istore_n 3, 1) := by decide +kernel
theorem dX11_small_33 : decode cX11_small 33 = .ok (.iload_n 3, 1) := by decide +kernel
theorem dX11_small_34 : decode cX11_small 34 = .ok (.ifCond .ge 6, 3) := by decide +kernel
theorem dX11_small_37 : decode cX11_small 37 = .ok (.bipush (-2), 2) := by decide +kernel
theorem dX11_small_39 : decode cX11_small 39 = .ok (.ireturn, 1) := by decide +kernel
theorem dX11_small_40 : decode cX11_small 40 = .ok (.aload_n 0, 1) := by decide +kernel
theorem dX11_small_41 : decode cX11_small 41 = .ok (.getfield 38, 3) := by decide +kernel
theorem dX11_small_44 : decode cX11_small 44 = .ok (.aload_n 0, 1) := by decide +kernel
theorem dX11_small_45 : decode cX11_small 45 = .ok (.getfield 29, 3) := by decide +kernel
theorem dX11_small_48 : decode cX11_small 48 = .ok (.getfield 236, 3) := by decide +kernel
theorem dX11_small_51 : decode cX11_small 51 = .ok (.iload_n 1, 1) := by decide +kernel
theorem dX11_small_52 : decode cX11_small 52 = .ok (.iaload, 1) := by decide +kernel
theorem dX11_small_53 : decode cX11_small 53 = .ok (.iload_n 3, 1) := by decide +kernel
theorem dX11_small_54 : decode cX11_small 54 = .ok (.invokevirtual 246, 3) := by decide +kernel
theorem dX11_small_57 : decode cX11_small 57 = .ok (.iload_n 3, 1) := by decide +kernel
theorem dX11_small_58 : decode cX11_small 58 = .ok (.istore 4, 2) := by decide +kernel
theorem dX11_small_60 : decode cX11_small 60 = .ok (.iload 4, 2) := by decide +kernel
theorem dX11_small_62 : decode cX11_small 62 = .ok (.sipush 200, 3) := by decide +kernel
theorem dX11_small_65 : decode cX11_small 65 = .ok (.if_icmp .gt 32, 3) := by decide +kernel
theorem dX11_small_68 : decode cX11_small 68 = .ok (.aload_n 0, 1) := by decide +kernel
theorem dX11_small_69 : decode cX11_small 69 = .ok (.getfield 38, 3) := by decide +kernel
theorem dX11_small_72 : decode cX11_small 72 = .ok (.iload 4, 2) := by decide +kernel
theorem dX11_small_74 : decode cX11_small 74 = .ok (.invokevirtual 250, 3) := by decide +kernel
theorem dX11_small_77 : decode cX11_small 77 = .ok (.aload_n 0, 1) := by decide +kernel
theorem dX11_small_78 : decode cX11_small 78 = .ok (.getfield 38, 3) := by decide +kernel
theorem dX11_small_81 : decode cX11_small 81 = .ok (.iload_n 2, 1) := by decide +kernel
theorem dX11_small_82 : decode cX11_small 82 = .ok (.invokevirtual 261, 3) := by decide +kernel
theorem dX11_small_85 : decode cX11_small 85 = .ok (.ifCond .eq 6, 3) := by decide +kernel
theorem dX11_small_88 : decode cX11_small 88 = .ok (.iload 4, 2) := by decide +kernel
theorem dX11_small_90 : decode cX11_small 90 = .ok (.ireturn, 1) := by decide +kernel
theorem dX11_small_91 : decode cX11_small 91 = .ok (.iinc 4 1, 3) := by decide +kernel
theorem dX11_small_94 : decode cX11_small 94 = .ok (.goto (-34), 3) := by decide +kernel
theorem dX11_small_97 : decode cX11_small 97 = .ok (.bipush (-4), 2) := by decide +kernel
theorem dX11_small_99 : decode cX11_small 99 = .ok (.ireturn, 1) := by decide +kernel
set_option maxRecDepth 20000 in
theorem ggX11_claim_X11_isKin : GoodIn wsX11_claim wsX11_isKin := goodIn_r _ [6, 7, 8, 5, 9] (by decide +kernel) (by decide +kernel)
set_option maxRecDepth 20000 in
theorem gX11_claim_X11_isKin : GoodIn wsX11_claim (va_wsS RX11 171 yX11_isKin wsX11_isKin) := goodIn_app (goodIn_of _ (by decide +kernel)) ggX11_claim_X11_isKin
set_option maxRecDepth 20000 in
theorem ggX11_claim_X11_within : GoodIn wsX11_claim wsX11_within := goodIn_r _ [9] (by decide +kernel) (by decide +kernel)
set_option maxRecDepth 20000 in
theorem gX11_claim_X11_within : GoodIn wsX11_claim (va_wsS RX11 84 yX11_within wsX11_within) := goodIn_app (goodIn_of _ (by decide +kernel)) ggX11_claim_X11_within
set_option maxRecDepth 20000 in
theorem ggX11_claim_X7_has : GoodIn wsX11_claim wsX7_has := goodIn_r _ [14, 15, 8, 5, 9, 40, 41, 42, 43, 44, 45, 46, 47, 48, 49, 50, 51] (by decide +kernel) (by decide +kernel)
set_option maxRecDepth 20000 in
theorem gX11_claim_X7_has : GoodIn wsX11_claim (wsV RX11 158 RX7 yX7_has wsX7_has) := goodIn_app (goodIn_of _ (by decide +kernel)) ggX11_claim_X7_has
set_option maxRecDepth 20000 in
theorem ggX11_claim_X11_isFactSet : GoodIn wsX11_claim wsX11_isFactSet := goodIn_r _ [18, 7, 8, 5, 9] (by decide +kernel) (by decide +kernel)
set_option maxRecDepth 20000 in
theorem gX11_claim_X11_isFactSet : GoodIn wsX11_claim (va_wsS RX11 126 yX11_isFactSet wsX11_isFactSet) := goodIn_app (goodIn_of _ (by decide +kernel)) ggX11_claim_X11_isFactSet
set_option maxRecDepth 20000 in
theorem ggX11_claim_X0_add : GoodIn wsX11_claim wsX0_add := goodIn_r _ [23, 24, 25, 26, 27, 28, 29, 30, 52, 53, 54, 55, 56, 57, 58] (by decide +kernel) (by decide +kernel)
set_option maxRecDepth 20000 in
theorem gX11_claim_X0_add : GoodIn wsX11_claim (wsV RX11 264 RX0 yX0_add wsX0_add) := goodIn_app (goodIn_of _ (by decide +kernel)) ggX11_claim_X0_add
theorem dX11_claim_0 : decode cX11_claim 0 = .ok (.iload_n 1, 1) := by decide +kernel
theorem dX11_claim_1 : decode cX11_claim 1 = .ok (.invokestatic 171, 3) := by decide +kernel
theorem dX11_claim_4 : decode cX11_claim 4 = .ok (.ifCond .eq 58, 3) := by decide +kernel
theorem dX11_claim_7 : decode cX11_claim 7 = .ok (.iload_n 2, 1) := by decide +kernel
theorem dX11_claim_8 : decode cX11_claim 8 = .ok (.iconst 1, 1) := by decide +kernel
theorem dX11_claim_9 : decode cX11_claim 9 = .ok (.bipush 100, 2) := by decide +kernel
theorem dX11_claim_11 : decode cX11_claim 11 = .ok (.invokestatic 84, 3) := by decide +kernel
theorem dX11_claim_14 : decode cX11_claim 14 = .ok (.ifCond .eq 48, 3) := by decide +kernel
theorem dX11_claim_17 : decode cX11_claim 17 = .ok (.aload_n 0, 1) := by decide +kernel
theorem dX11_claim_18 : decode cX11_claim 18 = .ok (.getfield 22, 3) := by decide +kernel
theorem dX11_claim_21 : decode cX11_claim 21 = .ok (.iload_n 3, 1) := by decide +kernel
theorem dX11_claim_22 : decode cX11_claim 22 = .ok (.invokevirtual 158, 3) := by decide +kernel
theorem dX11_claim_25 : decode cX11_claim 25 = .ok (.ifCond .eq 37, 3) := by decide +kernel
theorem dX11_claim_28 : decode cX11_claim 28 = .ok (.iload 4, 2) := by decide +kernel
theorem dX11_claim_30 : decode cX11_claim 30 = .ok (.iconst 1, 1) := by decide +kernel
theorem dX11_claim_31 : decode cX11_claim 31 = .ok (.iconst 5, 1) := by decide +kernel
theorem dX11_claim_32 : decode cX11_claim 32 = .ok (.invokestatic 84, 3) := by decide +kernel
theorem dX11_claim_35 : decode cX11_claim 35 = .ok (.ifCond .eq 27, 3) := by decide +kernel
theorem dX11_claim_38 : decode cX11_claim 38 = .ok (.iload 5, 2) := by decide +kernel
theorem dX11_claim_40 : decode cX11_claim 40 = .ok (.invokestatic 126, 3) := by decide +kernel
theorem dX11_claim_43 : decode cX11_claim 43 = .ok (.ifCond .eq 19, 3) := by decide +kernel
theorem dX11_claim_46 : decode cX11_claim 46 = .ok (.iload 6, 2) := by decide +kernel
theorem dX11_claim_48 : decode cX11_claim 48 = .ok (.iconst 1, 1) := by decide +kernel
theorem dX11_claim_49 : decode cX11_claim 49 = .ok (.sipush 1000, 3) := by decide +kernel
theorem dX11_claim_52 : decode cX11_claim 52 = .ok (.invokestatic 84, 3) := by decide +kernel
theorem dX11_claim_55 : decode cX11_claim 55 = .ok (.ifCond .eq 7, 3) := by decide +kernel
theorem dX11_claim_58 : decode cX11_claim 58 = .ok (.iconst 1, 1) := by decide +kernel
theorem dX11_claim_59 : decode cX11_claim 59 = .ok (.goto 4, 3) := by decide +kernel
theorem dX11_claim_62 : decode cX11_claim 62 = .ok (.iconst 0, 1) := by decide +kernel
theorem dX11_claim_63 : decode cX11_claim 63 = .ok (.istore 7, 2) := by decide +kernel
theorem dX11_claim_65 : decode cX11_claim 65 = .ok (.iload 7, 2) := by decide +kernel
theorem dX11_claim_67 : decode cX11_claim 67 = .ok (.ifCond .ne 5, 3) := by decide +kernel
theorem dX11_claim_70 : decode cX11_claim 70 = .ok (.iconst (-1), 1) := by decide +kernel
theorem dX11_claim_71 : decode cX11_claim 71 = .ok (.ireturn, 1) := by decide +kernel
theorem dX11_claim_72 : decode cX11_claim 72 = .ok (.aload_n 0, 1) := by decide +kernel
theorem dX11_claim_73 : decode cX11_claim 73 = .ok (.getfield 45, 3) := by decide +kernel
theorem dX11_claim_76 : decode cX11_claim 76 = .ok (.iload_n 1, 1) := by decide +kernel
theorem dX11_claim_77 : decode cX11_claim 77 = .ok (.iload_n 2, 1) := by decide +kernel
theorem dX11_claim_78 : decode cX11_claim 78 = .ok (.iload_n 3, 1) := by decide +kernel
theorem dX11_claim_79 : decode cX11_claim 79 = .ok (.iload 4, 2) := by decide +kernel
theorem dX11_claim_81 : decode cX11_claim 81 = .ok (.iload 5, 2) := by decide +kernel
theorem dX11_claim_83 : decode cX11_claim 83 = .ok (.iload 6, 2) := by decide +kernel
theorem dX11_claim_85 : decode cX11_claim 85 = .ok (.invokevirtual 264, 3) := by decide +kernel
theorem dX11_claim_88 : decode cX11_claim 88 = .ok (.ireturn, 1) := by decide +kernel
set_option maxRecDepth 20000 in
theorem ggX11_founded_X11_isFactSet : GoodIn wsX11_founded wsX11_isFactSet := goodIn_r _ [5, 6, 7, 4, 8] (by decide +kernel) (by decide +kernel)
set_option maxRecDepth 20000 in
theorem gX11_founded_X11_isFactSet : GoodIn wsX11_founded (va_wsS RX11 126 yX11_isFactSet wsX11_isFactSet) := goodIn_app (goodIn_of _ (by decide +kernel)) ggX11_founded_X11_isFactSet
set_option maxRecDepth 20000 in
theorem ggX11_founded_X0_foundedBy : GoodIn wsX11_founded wsX0_foundedBy := goodIn_r _ [13, 14, 15, 25, 26, 27, 28, 29, 30, 31] (by decide +kernel) (by decide +kernel)
set_option maxRecDepth 20000 in
theorem gX11_founded_X0_foundedBy : GoodIn wsX11_founded (wsV RX11 267 RX0 yX0_foundedBy wsX0_foundedBy) := goodIn_app (goodIn_of _ (by decide +kernel)) ggX11_founded_X0_foundedBy
theorem dX11_founded_0 : decode cX11_founded 0 = .ok (.iload_n 1, 1) := by decide +kernel
theorem dX11_founded_1 : decode cX11_founded 1 = .ok (.invokestatic 126, 3) := by decide +kernel
theorem dX11_founded_4 : decode cX11_founded 4 = .ok (.ifCond .ne 5, 3) := by decide +kernel
theorem dX11_founded_7 : decode cX11_founded 7 = .ok (.iconst (-1), 1) := by decide +kernel
theorem dX11_founded_8 : decode cX11_founded 8 = .ok (.ireturn, 1) := by decide +kernel
theorem dX11_founded_9 : decode cX11_founded 9 = .ok (.aload_n 0, 1) := by decide +kernel
theorem dX11_founded_10 : decode cX11_founded 10 = .ok (.getfield 45, 3) := by decide +kernel
theorem dX11_founded_13 : decode cX11_founded 13 = .ok (.iload_n 1, 1) := by decide +kernel
theorem dX11_founded_14 : decode cX11_founded 14 = .ok (.invokevirtual 267, 3) := by decide +kernel
theorem dX11_founded_17 : decode cX11_founded 17 = .ok (.ireturn, 1) := by decide +kernel
set_option maxRecDepth 20000 in
theorem ggX11_falls_X11_isFactSet : GoodIn wsX11_falls wsX11_isFactSet := goodIn_r _ [5, 6, 7, 4, 8] (by decide +kernel) (by decide +kernel)
set_option maxRecDepth 20000 in
theorem gX11_falls_X11_isFactSet : GoodIn wsX11_falls (va_wsS RX11 126 yX11_isFactSet wsX11_isFactSet) := goodIn_app (goodIn_of _ (by decide +kernel)) ggX11_falls_X11_isFactSet
set_option maxRecDepth 20000 in
theorem ggX11_falls_X11_within : GoodIn wsX11_falls wsX11_within := goodIn_r _ [8] (by decide +kernel) (by decide +kernel)
set_option maxRecDepth 20000 in
theorem gX11_falls_X11_within : GoodIn wsX11_falls (va_wsS RX11 84 yX11_within wsX11_within) := goodIn_app (goodIn_of _ (by decide +kernel)) ggX11_falls_X11_within
set_option maxRecDepth 20000 in
theorem ggX11_falls_X0_foundedBy : GoodIn wsX11_falls wsX0_foundedBy := goodIn_r _ [13, 14, 15, 25, 26, 27, 28, 29, 30, 31] (by decide +kernel) (by decide +kernel)
set_option maxRecDepth 20000 in
theorem gX11_falls_X0_foundedBy : GoodIn wsX11_falls (wsV RX11 267 RX0 yX0_foundedBy wsX0_foundedBy) := goodIn_app (goodIn_of _ (by decide +kernel)) ggX11_falls_X0_foundedBy
theorem dX11_falls_0 : decode cX11_falls 0 = .ok (.iload_n 1, 1) := by decide +kernel
theorem dX11_falls_1 : decode cX11_falls 1 = .ok (.invokestatic 126, 3) := by decide +kernel
theorem dX11_falls_4 : decode cX11_falls 4 = .ok (.ifCond .eq 13, 3) := by decide +kernel
theorem dX11_falls_7 : decode cX11_falls 7 = .ok (.iload_n 2, 1) := by decide +kernel
theorem dX11_falls_8 : decode cX11_falls 8 = .ok (.iconst 0, 1) := by decide +kernel
theorem dX11_falls_9 : decode cX11_falls 9 = .ok (.bipush 7, 2) := by decide +kernel
theorem dX11_falls_11 : decode cX11_falls 11 = .ok (.invokestatic 84, 3) := by decide +kernel
theorem dX11_falls_14 : decode cX11_falls 14 = .ok (.ifCond .ne 5, 3) := by decide +kernel
theorem dX11_falls_17 : decode cX11_falls 17 = .ok (.iconst (-1), 1) := by decide +kernel
theorem dX11_falls_18 : decode cX11_falls 18 = .ok (.ireturn, 1) := by decide +kernel
theorem dX11_falls_19 : decode cX11_falls 19 = .ok (.aload_n 0, 1) := by decide +kernel
theorem dX11_falls_20 : decode cX11_falls 20 = .ok (.getfield 45, 3) := by decide +kernel
theorem dX11_falls_23 : decode cX11_falls 23 = .ok (.iload_n 1, 1) := by decide +kernel
theorem dX11_falls_24 : decode cX11_falls 24 = .ok (.invokevirtual 267, 3) := by decide +kernel
theorem dX11_falls_27 : decode cX11_falls 27 = .ok (.aload_n 0, 1) := by decide +kernel
theorem dX11_falls_28 : decode cX11_falls 28 = .ok (.getfield 45, 3) := by decide +kernel
theorem dX11_falls_31 : decode cX11_falls 31 = .ok (.sipush 255, 3) := by decide +kernel
theorem dX11_falls_34 : decode cX11_falls 34 = .ok (.iconst 1, 1) := by decide +kernel
theorem dX11_falls_35 : decode cX11_falls 35 = .ok (.iload_n 2, 1) := by decide +kernel
theorem dX11_falls_36 : decode cX11_falls 36 = .ok (.ishl, 1) := by decide +kernel
theorem dX11_falls_37 : decode cX11_falls 37 = .ok (.isub, 1) := by decide +kernel
theorem dX11_falls_38 : decode cX11_falls 38 = .ok (.invokevirtual 267, 3) := by decide +kernel
theorem dX11_falls_41 : decode cX11_falls 41 = .ok (.iconst (-1), 1) := by decide +kernel
theorem dX11_falls_42 : decode cX11_falls 42 = .ok (.ixor, 1) := by decide +kernel
theorem dX11_falls_43 : decode cX11_falls 43 = .ok (.iand, 1) := by decide +kernel
theorem dX11_falls_44 : decode cX11_falls 44 = .ok (.ireturn, 1) := by decide +kernel
set_option maxRecDepth 20000 in
theorem ggX11_hear_X11_isYear : GoodIn wsX11_hear wsX11_isYear := goodIn_r _ [6, 7, 8, 5, 9] (by decide +kernel) (by decide +kernel)
set_option maxRecDepth 20000 in
theorem gX11_hear_X11_isYear : GoodIn wsX11_hear (va_wsS RX11 81 yX11_isYear wsX11_isYear) := goodIn_app (goodIn_of _ (by decide +kernel)) ggX11_hear_X11_isYear
set_option maxRecDepth 20000 in
theorem ggX11_hear_X2_arrangeFrom : GoodIn wsX11_hear wsX2_arrangeFrom := goodIn_r _ [14, 15, 16, 17, 18, 19, 20, 21, 22, 23, 24, 25, 26, 27, 28, 29, 30, 31, 32, 33, 34, 35, 36, 37, 38, 39, 40, 41, 42, 43, 44, 45, 46, 47, 48, 49, 50, 5, 51, 52, 53, 54, 55, 13, 56, 57, 58, 59, 60, 61, 62, 63, 64, 65, 66, 67, 68, 69, 70, 71, 72, 73, 74, 75, 76, 77, 78, 79, 80, 81, 82, 83, 84, 85, 86, 87, 88, 89, 90, 91, 117, 118, 119, 120, 121, 122, 123, 124, 125, 126, 127, 128, 129, 130, 131, 132, 133, 134, 135, 136, 137, 138, 139, 140, 141, 142, 143, 144] (by decide +kernel) (by decide +kernel)
set_option maxRecDepth 20000 in
theorem gX11_hear_X2_arrangeFrom : GoodIn wsX11_hear (wsV RX11 270 RX2 yX2_arrangeFrom wsX2_arrangeFrom) := goodIn_app (goodIn_of _ (by decide +kernel)) ggX11_hear_X2_arrangeFrom
set_option maxRecDepth 20000 in
theorem ggX11_hear_X0_allWeights : GoodIn wsX11_hear wsX0_allWeights := goodIn_r _ [95, 23, 96, 126, 127, 128, 129, 130, 131, 132] (by decide +kernel) (by decide +kernel)
set_option maxRecDepth 20000 in
theorem gX11_hear_X0_allWeights : GoodIn wsX11_hear (wsV RX11 273 RX0 yX0_allWeights wsX0_allWeights) := goodIn_app (goodIn_of _ (by decide +kernel)) ggX11_hear_X0_allWeights
set_option maxRecDepth 20000 in
theorem ggX11_hear_X5_claimAt : GoodIn wsX11_hear wsX5_claimAt := goodIn_r _ [101, 30, 40, 102, 103, 104, 105, 28, 106, 31, 32, 45, 46, 47, 48, 49, 50, 5, 51, 52, 53, 54, 55, 13, 56, 16, 17, 57, 58, 59, 60, 61, 62, 63, 64, 65, 66, 67, 68, 69, 70, 71, 72, 73, 74, 75, 76, 77, 15, 78, 79, 80, 81, 82, 83, 84, 85, 86, 87, 88, 89, 90, 107, 117, 118, 119, 120, 121, 122, 123, 124, 125, 126, 127, 128, 129, 130, 131, 132, 133, 134, 135, 136, 137, 138, 139, 140, 141, 142, 143, 144] (by decide +kernel) (by decide +kernel)
set_option maxRecDepth 20000 in
theorem gX11_hear_X5_claimAt_u276X2 : GoodIn wsX11_hear (va_wsU RX11 276 RX2 "TwoTongues$Order" ⟨"TwoTongues$Hearings", "claimAt", "(I)I"⟩ yX5_claimAt wsX5_claimAt) := goodIn_app (goodIn_of _ (by decide +kernel)) ggX11_hear_X5_claimAt
theorem dX11_hear_0 : decode cX11_hear 0 = .ok (.iload_n 1, 1) := by decide +kernel
theorem dX11_hear_1 : decode cX11_hear 1 = .ok (.invokestatic 81, 3) := by decide +kernel
theorem dX11_hear_4 : decode cX11_hear 4 = .ok (.ifCond .eq 8, 3) := by decide +kernel
theorem dX11_hear_7 : decode cX11_hear 7 = .ok (.iload_n 2, 1) := by decide +kernel
theorem dX11_hear_8 : decode cX11_hear 8 = .ok (.iconst (-1), 1) := by decide +kernel
theorem dX11_hear_9 : decode cX11_hear 9 = .ok (.if_icmp .ge 5, 3) := by decide +kernel
theorem dX11_hear_12 : decode cX11_hear 12 = .ok (.iconst (-1), 1) := by decide +kernel
theorem dX11_hear_13 : decode cX11_hear 13 = .ok (.ireturn, 1) := by decide +kernel
theorem dX11_hear_14 : decode cX11_hear 14 = .ok (.aload_n 0, 1) := by decide +kernel
theorem dX11_hear_15 : decode cX11_hear 15 = .ok (.getfield 54, 3) := by decide +kernel
theorem dX11_hear_18 : decode cX11_hear 18 = .ok (.iload_n 1, 1) := by decide +kernel
theorem dX11_hear_19 : decode cX11_hear 19 = .ok (.invokevirtual 270, 3) := by decide +kernel
theorem dX11_hear_22 : decode cX11_hear 22 = .ok (.istore_n 3, 1) := by decide +kernel
theorem dX11_hear_23 : decode cX11_hear 23 = .ok (.iload_n 2, 1) := by decide +kernel
theorem dX11_hear_24 : decode cX11_hear 24 = .ok (.iconst (-1), 1) := by decide +kernel
theorem dX11_hear_25 : decode cX11_hear 25 = .ok (.if_icmp .ne 15, 3) := by decide +kernel
theorem dX11_hear_28 : decode cX11_hear 28 = .ok (.aload_n 0, 1) := by decide +kernel
theorem dX11_hear_29 : decode cX11_hear 29 = .ok (.getfield 45, 3) := by decide +kernel
theorem dX11_hear_32 : decode cX11_hear 32 = .ok (.invokevirtual 273, 3) := by decide +kernel
theorem dX11_hear_35 : decode cX11_hear 35 = .ok (.iload_n 3, 1) := by decide +kernel
theorem dX11_hear_36 : decode cX11_hear 36 = .ok (.isub, 1) := by decide +kernel
theorem dX11_hear_37 : decode cX11_hear 37 = .ok (.goto 11, 3) := by decide +kernel
theorem dX11_hear_40 : decode cX11_hear 40 = .ok (.aload_n 0, 1) := by decide +kernel
theorem dX11_hear_41 : decode cX11_hear 41 = .ok (.getfield 54, 3) := by decide +kernel
theorem dX11_hear_44 : decode cX11_hear 44 = .ok (.iload_n 2, 1) := by decide +kernel
theorem dX11_hear_45 : decode cX11_hear 45 = .ok (.invokevirtual 276, 3) := by decide +kernel
theorem dX11_hear_48 : decode cX11_hear 48 = .ok (.ireturn, 1) := by decide +kernel
set_option maxRecDepth 20000 in
theorem ggX11_left_X11_within : GoodIn wsX11_left wsX11_within := goodIn_r _ [8] (by decide +kernel) (by decide +kernel)
set_option maxRecDepth 20000 in
theorem gX11_left_X11_within : GoodIn wsX11_left (va_wsS RX11 84 yX11_within wsX11_within) := goodIn_app (goodIn_of _ (by decide +kernel)) ggX11_left_X11_within
set_option maxRecDepth 20000 in
theorem ggX11_left_X11_isYear : GoodIn wsX11_left wsX11_isYear := goodIn_r _ [11, 5, 6, 7, 8] (by decide +kernel) (by decide +kernel)
set_option maxRecDepth 20000 in
theorem gX11_left_X11_isYear : GoodIn wsX11_left (va_wsS RX11 81 yX11_isYear wsX11_isYear) := goodIn_app (goodIn_of _ (by decide +kernel)) ggX11_left_X11_isYear
set_option maxRecDepth 20000 in
theorem ggX11_left_X4_worthLeft : GoodIn wsX11_left wsX4_worthLeft := goodIn_r _ [16, 17, 18, 19, 20, 21, 15, 22, 23, 24, 25, 26, 27, 28, 29, 30, 31, 32, 33, 34, 35, 36, 37, 38, 39, 40, 41, 42, 43, 6, 7, 8, 44, 45, 46, 47, 48, 49, 66, 67, 68, 69, 70, 71, 72, 73, 74, 75, 76, 77, 78, 79, 80, 81, 82] (by decide +kernel) (by decide +kernel)
set_option maxRecDepth 20000 in
theorem gX11_left_X4_worthLeft : GoodIn wsX11_left (wsV RX11 285 RX4 yX4_worthLeft wsX4_worthLeft) := goodIn_app (goodIn_of _ (by decide +kernel)) ggX11_left_X4_worthLeft
theorem dX11_left_0 : decode cX11_left 0 = .ok (.iload_n 1, 1) := by decide +kernel
theorem dX11_left_1 : decode cX11_left 1 = .ok (.iconst 0, 1) := by decide +kernel
theorem dX11_left_2 : decode cX11_left 2 = .ok (.aload_n 0, 1) := by decide +kernel
theorem dX11_left_3 : decode cX11_left 3 = .ok (.getfield 45, 3) := by decide +kernel
theorem dX11_left_6 : decode cX11_left 6 = .ok (.getfield 279, 3) := by decide +kernel
theorem dX11_left_9 : decode cX11_left 9 = .ok (.iconst 1, 1) := by decide +kernel
theorem dX11_left_10 : decode cX11_left 10 = .ok (.isub, 1) := by decide +kernel
theorem dX11_left_11 : decode cX11_left 11 = .ok (.invokestatic 84, 3) := by decide +kernel
theorem dX11_left_14 : decode cX11_left 14 = .ok (.ifCond .eq 10, 3) := by decide +kernel
theorem dX11_left_17 : decode cX11_left 17 = .ok (.iload_n 2, 1) := by decide +kernel
theorem dX11_left_18 : decode cX11_left 18 = .ok (.invokestatic 81, 3) := by decide +kernel
theorem dX11_left_21 : decode cX11_left 21 = .ok (.ifCond .ne 5, 3) := by decide +kernel
theorem dX11_left_24 : decode cX11_left 24 = .ok (.iconst (-1), 1) := by decide +kernel
theorem dX11_left_25 : decode cX11_left 25 = .ok (.ireturn, 1) := by decide +kernel
theorem dX11_left_26 : decode cX11_left 26 = .ok (.aload_n 0, 1) := by decide +kernel
theorem dX11_left_27 : decode cX11_left 27 = .ok (.getfield 29, 3) := by decide +kernel
theorem dX11_left_30 : decode cX11_left 30 = .ok (.aload_n 0, 1) := by decide +kernel
theorem dX11_left_31 : decode cX11_left 31 = .ok (.getfield 45, 3) := by decide +kernel
theorem dX11_left_34 : decode cX11_left 34 = .ok (.getfield 282, 3) := by decide +kernel
theorem dX11_left_37 : decode cX11_left 37 = .ok (.iload_n 1, 1) := by decide +kernel
theorem dX11_left_38 : decode cX11_left 38 = .ok (.iaload, 1) := by decide +kernel
theorem dX11_left_39 : decode cX11_left 39 = .ok (.iload_n 2, 1) := by decide +kernel
theorem dX11_left_40 : decode cX11_left 40 = .ok (.iload_n 3, 1) := by decide +kernel
theorem dX11_left_41 : decode cX11_left 41 = .ok (.invokevirtual 285, 3) := by decide +kernel
theorem dX11_left_44 : decode cX11_left 44 = .ok (.ireturn, 1) := by decide +kernel
set_option maxRecDepth 20000 in
theorem ggX11_cousins_X11_isKin : GoodIn wsX11_cousins wsX11_isKin := goodIn_r _ [5, 6, 7, 4, 8] (by decide +kernel) (by decide +kernel)
set_option maxRecDepth 20000 in
theorem gX11_cousins_X11_isKin : GoodIn wsX11_cousins (va_wsS RX11 171 yX11_isKin wsX11_isKin) := goodIn_app (goodIn_of _ (by decide +kernel)) ggX11_cousins_X11_isKin
set_option maxRecDepth 20000 in
theorem ggX11_cousins_X7_ofBoth : GoodIn wsX11_cousins wsX7_ofBoth := goodIn_r _ [13, 14, 15, 16, 4, 17, 27, 28, 29, 30, 31, 32, 33, 34, 35, 36, 37, 38] (by decide +kernel) (by decide +kernel)
set_option maxRecDepth 20000 in
theorem gX11_cousins_X7_ofBoth : GoodIn wsX11_cousins (wsV RX11 289 RX7 yX7_ofBoth wsX7_ofBoth) := goodIn_app (goodIn_of _ (by decide +kernel)) ggX11_cousins_X7_ofBoth
theorem dX11_cousins_0 : decode cX11_cousins 0 = .ok (.iload_n 1, 1) := by decide +kernel
theorem dX11_cousins_1 : decode cX11_cousins 1 = .ok (.invokestatic 171, 3) := by decide +kernel
theorem dX11_cousins_4 : decode cX11_cousins 4 = .ok (.ifCond .eq 15, 3) := by decide +kernel
theorem dX11_cousins_7 : decode cX11_cousins 7 = .ok (.iload_n 2, 1) := by decide +kernel
theorem dX11_cousins_8 : decode cX11_cousins 8 = .ok (.invokestatic 171, 3) := by decide +kernel
theorem dX11_cousins_11 : decode cX11_cousins 11 = .ok (.ifCond .eq 8, 3) := by decide +kernel
theorem dX11_cousins_14 : decode cX11_cousins 14 = .ok (.iload_n 1, 1) := by decide +kernel
theorem dX11_cousins_15 : decode cX11_cousins 15 = .ok (.iload_n 2, 1) := by decide +kernel
theorem dX11_cousins_16 : decode cX11_cousins 16 = .ok (.if_icmp .ne 5, 3) := by decide +kernel
theorem dX11_cousins_19 : decode cX11_cousins 19 = .ok (.iconst (-1), 1) := by decide +kernel
theorem dX11_cousins_20 : decode cX11_cousins 20 = .ok (.ireturn, 1) := by decide +kernel
theorem dX11_cousins_21 : decode cX11_cousins 21 = .ok (.aload_n 0, 1) := by decide +kernel
theorem dX11_cousins_22 : decode cX11_cousins 22 = .ok (.getfield 22, 3) := by decide +kernel
theorem dX11_cousins_25 : decode cX11_cousins 25 = .ok (.iload_n 1, 1) := by decide +kernel
theorem dX11_cousins_26 : decode cX11_cousins 26 = .ok (.iload_n 2, 1) := by decide +kernel
theorem dX11_cousins_27 : decode cX11_cousins 27 = .ok (.invokevirtual 289, 3) := by decide +kernel
theorem dX11_cousins_30 : decode cX11_cousins 30 = .ok (.ireturn, 1) := by decide +kernel
set_option maxRecDepth 20000 in
theorem ggX11_settled_X11_isKin : GoodIn wsX11_settled wsX11_isKin := goodIn_r _ [6, 7, 8, 5, 9] (by decide +kernel) (by decide +kernel)
set_option maxRecDepth 20000 in
theorem gX11_settled_X11_isKin : GoodIn wsX11_settled (va_wsS RX11 171 yX11_isKin wsX11_isKin) := goodIn_app (goodIn_of _ (by decide +kernel)) ggX11_settled_X11_isKin
set_option maxRecDepth 20000 in
theorem ggX11_settled_X11_within : GoodIn wsX11_settled wsX11_within := goodIn_r _ [9] (by decide +kernel) (by decide +kernel)
set_option maxRecDepth 20000 in
theorem gX11_settled_X11_within : GoodIn wsX11_settled (va_wsS RX11 84 yX11_within wsX11_within) := goodIn_app (goodIn_of _ (by decide +kernel)) ggX11_settled_X11_within
set_option maxRecDepth 20000 in
theorem ggX11_settled_X11_hasBit : GoodIn wsX11_settled wsX11_hasBit := goodIn_r _ [12] (by decide +kernel) (by decide +kernel)
set_option maxRecDepth 20000 in
theorem gX11_settled_X11_hasBit : GoodIn wsX11_settled (va_wsS RX11 188 yX11_hasBit wsX11_hasBit) := goodIn_app (goodIn_of _ (by decide +kernel)) ggX11_settled_X11_hasBit
set_option maxRecDepth 20000 in
theorem ggX11_settled_J6_bitCount_0f7a4 : GoodIn wsX11_settled wsJ6_bitCount_0f7a4 := goodIn_r _ [16, 17, 18, 19] (by decide +kernel) (by decide +kernel)
set_option maxRecDepth 20000 in
theorem gX11_settled_J6_bitCount_0f7a4 : GoodIn wsX11_settled (va_wsS RX11 148 yJ6_bitCount_0f7a4 wsJ6_bitCount_0f7a4) := goodIn_app (goodIn_of _ (by decide +kernel)) ggX11_settled_J6_bitCount_0f7a4
set_option maxRecDepth 20000 in
theorem ggX11_settled_X7_cousinsCut : GoodIn wsX11_settled wsX7_cousinsCut := goodIn_r _ [24, 25, 26, 27, 14, 15, 16, 17, 18, 19, 37, 38, 39, 40, 41, 42, 43, 44, 45, 46, 47, 48] (by decide +kernel) (by decide +kernel)
set_option maxRecDepth 20000 in
theorem gX11_settled_X7_cousinsCut : GoodIn wsX11_settled (wsV RX11 293 RX7 yX7_cousinsCut wsX7_cousinsCut) := goodIn_app (goodIn_of _ (by decide +kernel)) ggX11_settled_X7_cousinsCut
theorem dX11_settled_0 : decode cX11_settled 0 = .ok (.iload_n 1, 1) := by decide +kernel
theorem dX11_settled_1 : decode cX11_settled 1 = .ok (.invokestatic 171, 3) := by decide +kernel
theorem dX11_settled_4 : decode cX11_settled 4 = .ok (.ifCond .eq 22, 3) := by decide +kernel
theorem dX11_settled_7 : decode cX11_settled 7 = .ok (.iload_n 2, 1) := by decide +kernel
theorem dX11_settled_8 : decode cX11_settled 8 = .ok (.iconst 1, 1) := by decide +kernel
theorem dX11_settled_9 : decode cX11_settled 9 = .ok (.bipush 9, 2) := by decide +kernel
theorem dX11_settled_11 : decode cX11_settled 11 = .ok (.invokestatic 84, 3) := by decide +kernel
theorem dX11_settled_14 : decode cX11_settled 14 = .ok (.ifCond .eq 12, 3) := by decide +kernel
theorem dX11_settled_17 : decode cX11_settled 17 = .ok (.iload_n 3, 1) := by decide +kernel
theorem dX11_settled_18 : decode cX11_settled 18 = .ok (.iconst 0, 1) := by decide +kernel
theorem dX11_settled_19 : decode cX11_settled 19 = .ok (.iconst 1, 1) := by decide +kernel
theorem dX11_settled_20 : decode cX11_settled 20 = .ok (.invokestatic 84, 3) := by decide +kernel
theorem dX11_settled_23 : decode cX11_settled 23 = .ok (.ifCond .ne 5, 3) := by decide +kernel
theorem dX11_settled_26 : decode cX11_settled 26 = .ok (.iconst (-1), 1) := by decide +kernel
theorem dX11_settled_27 : decode cX11_settled 27 = .ok (.ireturn, 1) := by decide +kernel
theorem dX11_settled_28 : decode cX11_settled 28 = .ok (.iconst 0, 1) := by decide +kernel
theorem dX11_settled_29 : decode cX11_settled 29 = .ok (.istore 4, 2) := by decide +kernel
theorem dX11_settled_31 : decode cX11_settled 31 = .ok (.ldc_w 292, 3) := by decide +kernel
theorem dX11_settled_34 : decode cX11_settled 34 = .ok (.istore 5, 2) := by decide +kernel
theorem dX11_settled_36 : decode cX11_settled 36 = .ok (.iconst 0, 1) := by decide +kernel
theorem dX11_settled_37 : decode cX11_settled 37 = .ok (.istore 6, 2) := by decide +kernel
theorem dX11_settled_39 : decode cX11_settled 39 = .ok (.iload 6, 2) := by decide +kernel
theorem dX11_settled_41 : decode cX11_settled 41 = .ok (.sipush 1024, 3) := by decide +kernel
theorem dX11_settled_44 : decode cX11_settled 44 = .ok (.if_icmp .ge 53, 3) := by decide +kernel
theorem dX11_settled_47 : decode cX11_settled 47 = .ok (.iload 6, 2) := by decide +kernel
theorem dX11_settled_49 : decode cX11_settled 49 = .ok (.iload_n 1, 1) := by decide +kernel
theorem dX11_settled_50 : decode cX11_settled 50 = .ok (.invokestatic 188, 3) := by decide +kernel
theorem dX11_settled_53 : decode cX11_settled 53 = .ok (.ifCond .eq 38, 3) := by decide +kernel
theorem dX11_settled_56 : decode cX11_settled 56 = .ok (.iload 6, 2) := by decide +kernel
theorem dX11_settled_58 : decode cX11_settled 58 = .ok (.invokestatic 148, 3) := by decide +kernel
theorem dX11_settled_61 : decode cX11_settled 61 = .ok (.iload_n 2, 1) := by decide +kernel
theorem dX11_settled_62 : decode cX11_settled 62 = .ok (.if_icmp .ne 29, 3) := by decide +kernel
theorem dX11_settled_65 : decode cX11_settled 65 = .ok (.aload_n 0, 1) := by decide +kernel
theorem dX11_settled_66 : decode cX11_settled 66 = .ok (.getfield 22, 3) := by decide +kernel
theorem dX11_settled_69 : decode cX11_settled 69 = .ok (.iload 6, 2) := by decide +kernel
theorem dX11_settled_71 : decode cX11_settled 71 = .ok (.invokevirtual 293, 3) := by decide +kernel
theorem dX11_settled_74 : decode cX11_settled 74 = .ok (.istore 7, 2) := by decide +kernel
theorem dX11_settled_76 : decode cX11_settled 76 = .ok (.iload 7, 2) := by decide +kernel
theorem dX11_settled_78 : decode cX11_settled 78 = .ok (.iload 5, 2) := by decide +kernel
theorem dX11_settled_80 : decode cX11_settled 80 = .ok (.if_icmp .ge 11, 3) := by decide +kernel
theorem dX11_settled_83 : decode cX11_settled 83 = .ok (.iload 7, 2) := by decide +kernel
theorem dX11_settled_85 : decode cX11_settled 85 = .ok (.istore 5, 2) := by decide +kernel
theorem dX11_settled_87 : decode cX11_settled 87 = .ok (.iload 6, 2) := by decide +kernel
theorem dX11_settled_89 : decode cX11_settled 89 = .ok (.istore 4, 2) := by decide +kernel
theorem dX11_settled_91 : decode cX11_settled 91 = .ok (.iinc 6 1, 3) := by decide +kernel
theorem dX11_settled_94 : decode cX11_settled 94 = .ok (.goto (-55), 3) := by decide +kernel
theorem dX11_settled_97 : decode cX11_settled 97 = .ok (.iload_n 3, 1) := by decide +kernel
theorem dX11_settled_98 : decode cX11_settled 98 = .ok (.ifCond .ne 8, 3) := by decide +kernel
theorem dX11_settled_101 : decode cX11_settled 101 = .ok (.iload 4, 2) := by decide +kernel
theorem dX11_settled_103 : decode cX11_settled 103 = .ok (.goto 5, 3) := by decide +kernel
theorem dX11_settled_106 : decode cX11_settled 106 = .ok (.iload 5, 2) := by decide +kernel
theorem dX11_settled_108 : decode cX11_settled 108 = .ok (.ireturn, 1) := by decide +kernel
set_option maxRecDepth 20000 in
theorem ggX11_settlement_X11_within : GoodIn wsX11_settlement wsX11_within := goodIn_r _ [6] (by decide +kernel) (by decide +kernel)
set_option maxRecDepth 20000 in
theorem gX11_settlement_X11_within : GoodIn wsX11_settlement (va_wsS RX11 84 yX11_within wsX11_within) := goodIn_app (goodIn_of _ (by decide +kernel)) ggX11_settlement_X11_within
set_option maxRecDepth 20000 in
theorem ggX11_settlement_X8_add : GoodIn wsX11_settlement wsX8_add := goodIn_r _ [11, 12, 13, 14, 24, 25, 26] (by decide +kernel) (by decide +kernel)
set_option maxRecDepth 20000 in
theorem gX11_settlement_X8_add : GoodIn wsX11_settlement (wsV RX11 297 RX8 yX8_add wsX8_add) := goodIn_app (goodIn_of _ (by decide +kernel)) ggX11_settlement_X8_add
theorem dX11_settlement_0 : decode cX11_settlement 0 = .ok (.iload_n 1, 1) := by decide +kernel
theorem dX11_settlement_1 : decode cX11_settlement 1 = .ok (.iconst 1, 1) := by decide +kernel
theorem dX11_settlement_2 : decode cX11_settlement 2 = .ok (.ldc_w 296, 3) := by decide +kernel
theorem dX11_settlement_5 : decode cX11_settlement 5 = .ok (.invokestatic 84, 3) := by decide +kernel
theorem dX11_settlement_8 : decode cX11_settlement 8 = .ok (.ifCond .eq 13, 3) := by decide +kernel
theorem dX11_settlement_11 : decode cX11_settlement 11 = .ok (.iload_n 2, 1) := by decide +kernel
theorem dX11_settlement_12 : decode cX11_settlement 12 = .ok (.iconst 0, 1) := by decide +kernel
theorem dX11_settlement_13 : decode cX11_settlement 13 = .ok (.bipush 50, 2) := by decide +kernel
theorem dX11_settlement_15 : decode cX11_settlement 15 = .ok (.invokestatic 84, 3) := by decide +kernel
theorem dX11_settlement_18 : decode cX11_settlement 18 = .ok (.ifCond .ne 5, 3) := by decide +kernel
theorem dX11_settlement_21 : decode cX11_settlement 21 = .ok (.iconst (-1), 1) := by decide +kernel
theorem dX11_settlement_22 : decode cX11_settlement 22 = .ok (.ireturn, 1) := by decide +kernel
theorem dX11_settlement_23 : decode cX11_settlement 23 = .ok (.aload_n 0, 1) := by decide +kernel
theorem dX11_settlement_24 : decode cX11_settlement 24 = .ok (.getfield 70, 3) := by decide +kernel
theorem dX11_settlement_27 : decode cX11_settlement 27 = .ok (.iload_n 1, 1) := by decide +kernel
theorem dX11_settlement_28 : decode cX11_settlement 28 = .ok (.iload_n 2, 1) := by decide +kernel
theorem dX11_settlement_29 : decode cX11_settlement 29 = .ok (.invokevirtual 297, 3) := by decide +kernel
theorem dX11_settlement_32 : decode cX11_settlement 32 = .ok (.ireturn, 1) := by decide +kernel
set_option maxRecDepth 20000 in
theorem ggX11_topped_X11_within : GoodIn wsX11_topped wsX11_within := goodIn_r _ [6] (by decide +kernel) (by decide +kernel)
set_option maxRecDepth 20000 in
theorem gX11_topped_X11_within : GoodIn wsX11_topped (va_wsS RX11 84 yX11_within wsX11_within) := goodIn_app (goodIn_of _ (by decide +kernel)) ggX11_topped_X11_within
set_option maxRecDepth 20000 in
theorem ggX11_topped_X8_costOfAll : GoodIn wsX11_topped wsX8_costOfAll := goodIn_r _ [11, 12, 13, 14, 15, 16, 10, 17, 18, 29, 30, 31] (by decide +kernel) (by decide +kernel)
set_option maxRecDepth 20000 in
theorem gX11_topped_X8_costOfAll : GoodIn wsX11_topped (wsV RX11 300 RX8 yX8_costOfAll wsX8_costOfAll) := goodIn_app (goodIn_of _ (by decide +kernel)) ggX11_topped_X8_costOfAll
set_option maxRecDepth 20000 in
theorem ggX11_topped_X8_toppingOf : GoodIn wsX11_topped wsX8_toppingOf := goodIn_r _ [17, 12, 13, 18, 29, 30, 31] (by decide +kernel) (by decide +kernel)
set_option maxRecDepth 20000 in
theorem gX11_topped_X8_toppingOf : GoodIn wsX11_topped (wsV RX11 303 RX8 yX8_toppingOf wsX8_toppingOf) := goodIn_app (goodIn_of _ (by decide +kernel)) ggX11_topped_X8_toppingOf
theorem dX11_topped_0 : decode cX11_topped 0 = .ok (.iload_n 1, 1) := by decide +kernel
theorem dX11_topped_1 : decode cX11_topped 1 = .ok (.iconst (-1), 1) := by decide +kernel
theorem dX11_topped_2 : decode cX11_topped 2 = .ok (.aload_n 0, 1) := by decide +kernel
theorem dX11_topped_3 : decode cX11_topped 3 = .ok (.getfield 70, 3) := by decide +kernel
theorem dX11_topped_6 : decode cX11_topped 6 = .ok (.getfield 299, 3) := by decide +kernel
theorem dX11_topped_9 : decode cX11_topped 9 = .ok (.iconst 1, 1) := by decide +kernel
theorem dX11_topped_10 : decode cX11_topped 10 = .ok (.isub, 1) := by decide +kernel
theorem dX11_topped_11 : decode cX11_topped 11 = .ok (.invokestatic 84, 3) := by decide +kernel
theorem dX11_topped_14 : decode cX11_topped 14 = .ok (.ifCond .ne 5, 3) := by decide +kernel
theorem dX11_topped_17 : decode cX11_topped 17 = .ok (.iconst (-1), 1) := by decide +kernel
theorem dX11_topped_18 : decode cX11_topped 18 = .ok (.ireturn, 1) := by decide +kernel
theorem dX11_topped_19 : decode cX11_topped 19 = .ok (.iload_n 1, 1) := by decide +kernel
theorem dX11_topped_20 : decode cX11_topped 20 = .ok (.iconst (-1), 1) := by decide +kernel
theorem dX11_topped_21 : decode cX11_topped 21 = .ok (.if_icmp .ne 13, 3) := by decide +kernel
theorem dX11_topped_24 : decode cX11_topped 24 = .ok (.aload_n 0, 1) := by decide +kernel
theorem dX11_topped_25 : decode cX11_topped 25 = .ok (.getfield 70, 3) := by decide +kernel
theorem dX11_topped_28 : decode cX11_topped 28 = .ok (.invokevirtual 300, 3) := by decide +kernel
theorem dX11_topped_31 : decode cX11_topped 31 = .ok (.goto 11, 3) := by decide +kernel
theorem dX11_topped_34 : decode cX11_topped 34 = .ok (.aload_n 0, 1) := by decide +kernel
theorem dX11_topped_35 : decode cX11_topped 35 = .ok (.getfield 70, 3) := by decide +kernel
theorem dX11_topped_38 : decode cX11_topped 38 = .ok (.iload_n 1, 1) := by decide +kernel
theorem dX11_topped_39 : decode cX11_topped 39 = .ok (.invokevirtual 303, 3) := by decide +kernel
theorem dX11_topped_42 : decode cX11_topped 42 = .ok (.ireturn, 1) := by decide +kernel
set_option maxRecDepth 20000 in
theorem ggX11_plan_X11_within : GoodIn wsX11_plan wsX11_within := goodIn_r _ [6] (by decide +kernel) (by decide +kernel)
set_option maxRecDepth 20000 in
theorem gX11_plan_X11_within : GoodIn wsX11_plan (va_wsS RX11 84 yX11_within wsX11_within) := goodIn_app (goodIn_of _ (by decide +kernel)) ggX11_plan_X11_within
set_option maxRecDepth 20000 in
theorem ggX11_plan_X11_isFactSet : GoodIn wsX11_plan wsX11_isFactSet := goodIn_r _ [9, 3, 4, 5, 6] (by decide +kernel) (by decide +kernel)
set_option maxRecDepth 20000 in
theorem gX11_plan_X11_isFactSet : GoodIn wsX11_plan (va_wsS RX11 126 yX11_isFactSet wsX11_isFactSet) := goodIn_app (goodIn_of _ (by decide +kernel)) ggX11_plan_X11_isFactSet
set_option maxRecDepth 20000 in
theorem ggX11_plan_X0_foundedBy : GoodIn wsX11_plan wsX0_foundedBy := goodIn_r _ [14, 15, 16, 119, 120, 121, 122, 123, 124, 125] (by decide +kernel) (by decide +kernel)
set_option maxRecDepth 20000 in
theorem gX11_plan_X0_foundedBy : GoodIn wsX11_plan (wsV RX11 267 RX0 yX0_foundedBy wsX0_foundedBy) := goodIn_app (goodIn_of _ (by decide +kernel)) ggX11_plan_X0_foundedBy
set_option maxRecDepth 20000 in
theorem ggX11_plan_X6_arrangeBy : GoodIn wsX11_plan wsX6_arrangeBy := goodIn_r _ [21, 22, 23, 24, 25, 26, 27, 28, 29, 30, 31, 32, 33, 34, 35, 36, 37, 38, 13, 39, 15, 40, 41, 42, 43, 44, 45, 46, 47, 48, 49, 50, 51, 52, 53, 54, 55, 5, 56, 57, 58, 59, 60, 61, 62, 63, 64, 65, 66, 67, 20, 68, 69, 70, 71, 72, 73, 74, 75, 76, 77, 78, 79, 80, 81, 82, 83, 84, 85, 86, 87, 88, 89, 90, 91, 92, 93, 94, 95, 96, 97, 98, 126, 127, 128, 129, 130, 131, 132, 133, 134, 119, 120, 121, 122, 123, 124, 125, 135, 136, 137, 138, 139, 140, 141, 142, 143, 144, 145, 146] (by decide +kernel) (by decide +kernel)
set_option maxRecDepth 20000 in
theorem gX11_plan_X6_arrangeBy : GoodIn wsX11_plan (wsV RX11 306 RX6 yX6_arrangeBy wsX6_arrangeBy) := goodIn_app (goodIn_of _ (by decide +kernel)) ggX11_plan_X6_arrangeBy
set_option maxRecDepth 20000 in
theorem ggX11_plan_X5_claimAt : GoodIn wsX11_plan wsX5_claimAt := goodIn_r _ [103, 33, 46, 104, 105, 106, 107, 31, 108, 34, 35, 50, 51, 52, 53, 54, 55, 5, 56, 57, 58, 59, 60, 61, 62, 63, 64, 65, 66, 67, 20, 68, 69, 70, 71, 72, 73, 74, 75, 76, 77, 78, 79, 80, 81, 82, 83, 84, 85, 86, 87, 88, 89, 90, 91, 92, 93, 94, 95, 96, 26, 97, 109, 130, 131, 132, 133, 134, 126, 127, 128, 129, 119, 120, 121, 122, 123, 124, 125, 135, 136, 137, 138, 139, 140, 141, 142, 143, 144, 145, 146] (by decide +kernel) (by decide +kernel)
set_option maxRecDepth 20000 in
theorem gX11_plan_X5_claimAt_u309X6 : GoodIn wsX11_plan (va_wsU RX11 309 RX6 "TwoTongues$Order" ⟨"TwoTongues$Payments", "claimAt", "(I)I"⟩ yX5_claimAt wsX5_claimAt) := goodIn_app (goodIn_of _ (by decide +kernel)) ggX11_plan_X5_claimAt
theorem dX11_plan_0 : decode cX11_plan 0 = .ok (.iload_n 1, 1) := by decide +kernel
theorem dX11_plan_1 : decode cX11_plan 1 = .ok (.iconst 1, 1) := by decide +kernel
theorem dX11_plan_2 : decode cX11_plan 2 = .ok (.sipush 1000, 3) := by decide +kernel
theorem dX11_plan_5 : decode cX11_plan 5 = .ok (.invokestatic 84, 3) := by decide +kernel
theorem dX11_plan_8 : decode cX11_plan 8 = .ok (.ifCond .eq 15, 3) := by decide +kernel
theorem dX11_plan_11 : decode cX11_plan 11 = .ok (.iload_n 2, 1) := by decide +kernel
theorem dX11_plan_12 : decode cX11_plan 12 = .ok (.invokestatic 126, 3) := by decide +kernel
theorem dX11_plan_15 : decode cX11_plan 15 = .ok (.ifCond .eq 8, 3) := by decide +kernel
theorem dX11_plan_18 : decode cX11_plan 18 = .ok (.iload_n 3, 1) := by decide +kernel
theorem dX11_plan_19 : decode cX11_plan 19 = .ok (.iconst (-1), 1) := by decide +kernel
theorem dX11_plan_20 : decode cX11_plan 20 = .ok (.if_icmp .ge 5, 3) := by decide +kernel
theorem dX11_plan_23 : decode cX11_plan 23 = .ok (.iconst (-1), 1) := by decide +kernel
theorem dX11_plan_24 : decode cX11_plan 24 = .ok (.ireturn, 1) := by decide +kernel
theorem dX11_plan_25 : decode cX11_plan 25 = .ok (.aload_n 0, 1) := by decide +kernel
theorem dX11_plan_26 : decode cX11_plan 26 = .ok (.getfield 63, 3) := by decide +kernel
theorem dX11_plan_29 : decode cX11_plan 29 = .ok (.iload_n 1, 1) := by decide +kernel
theorem dX11_plan_30 : decode cX11_plan 30 = .ok (.aload_n 0, 1) := by decide +kernel
theorem dX11_plan_31 : decode cX11_plan 31 = .ok (.getfield 45, 3) := by decide +kernel
theorem dX11_plan_34 : decode cX11_plan 34 = .ok (.iload_n 2, 1) := by decide +kernel
theorem dX11_plan_35 : decode cX11_plan 35 = .ok (.invokevirtual 267, 3) := by decide +kernel
theorem dX11_plan_38 : decode cX11_plan 38 = .ok (.invokevirtual 306, 3) := by decide +kernel
theorem dX11_plan_41 : decode cX11_plan 41 = .ok (.istore 4, 2) := by decide +kernel
theorem dX11_plan_43 : decode cX11_plan 43 = .ok (.iload_n 3, 1) := by decide +kernel
theorem dX11_plan_44 : decode cX11_plan 44 = .ok (.iconst (-1), 1) := by decide +kernel
theorem dX11_plan_45 : decode cX11_plan 45 = .ok (.if_icmp .ne 8, 3) := by decide +kernel
theorem dX11_plan_48 : decode cX11_plan 48 = .ok (.iload 4, 2) := by decide +kernel
theorem dX11_plan_50 : decode cX11_plan 50 = .ok (.goto 11, 3) := by decide +kernel
theorem dX11_plan_53 : decode cX11_plan 53 = .ok (.aload_n 0, 1) := by decide +kernel
theorem dX11_plan_54 : decode cX11_plan 54 = .ok (.getfield 63, 3) := by decide +kernel
theorem dX11_plan_57 : decode cX11_plan 57 = .ok (.iload_n 3, 1) := by decide +kernel
theorem dX11_plan_58 : decode cX11_plan 58 = .ok (.invokevirtual 309, 3) := by decide +kernel
theorem dX11_plan_61 : decode cX11_plan 61 = .ok (.ireturn, 1) := by decide +kernel
theorem dX11_count_0 : decode cX11_count 0 = .ok (.iload_n 1, 1) := by decide +kernel
theorem dX11_count_1 : decode cX11_count 1 = .ok (.tableswitch 165 0 11 #[63, 71, 79, 87, 95, 103, 111, 119, 127, 135, 143, 154], 63) := by decide +kernel
theorem dX11_count_64 : decode cX11_count 64 = .ok (.aload_n 0, 1) := by decide +kernel
theorem dX11_count_65 : decode cX11_count 65 = .ok (.getfield 12, 3) := by decide +kernel
theorem dX11_count_68 : decode cX11_count 68 = .ok (.getfield 310, 3) := by decide +kernel
theorem dX11_count_71 : decode cX11_count 71 = .ok (.ireturn, 1) := by decide +kernel
theorem dX11_count_72 : decode cX11_count 72 = .ok (.aload_n 0, 1) := by decide +kernel
theorem dX11_count_73 : decode cX11_count 73 = .ok (.getfield 16, 3) := by decide +kernel
theorem dX11_count_76 : decode cX11_count 76 = .ok (.getfield 310, 3) := by decide +kernel
theorem dX11_count_79 : decode cX11_count 79 = .ok (.ireturn, 1) := by decide +kernel
theorem dX11_count_80 : decode cX11_count 80 = .ok (.aload_n 0, 1) := by decide +kernel
theorem dX11_count_81 : decode cX11_count 81 = .ok (.getfield 22, 3) := by decide +kernel
theorem dX11_count_84 : decode cX11_count 84 = .ok (.getfield 313, 3) := by decide +kernel
theorem dX11_count_87 : decode cX11_count 87 = .ok (.ireturn, 1) := by decide +kernel
theorem dX11_count_88 : decode cX11_count 88 = .ok (.aload_n 0, 1) := by decide +kernel
theorem dX11_count_89 : decode cX11_count 89 = .ok (.getfield 22, 3) := by decide +kernel
theorem dX11_count_92 : decode cX11_count 92 = .ok (.getfield 314, 3) := by decide +kernel
theorem dX11_count_95 : decode cX11_count 95 = .ok (.ireturn, 1) := by decide +kernel
theorem dX11_count_96 : decode cX11_count 96 = .ok (.aload_n 0, 1) := by decide +kernel
theorem dX11_count_97 : decode cX11_count 97 = .ok (.getfield 29, 3) := by decide +kernel
theorem dX11_count_100 : decode cX11_count 100 = .ok (.getfield 317, 3) := by decide +kernel
theorem dX11_count_103 : decode cX11_count 103 = .ok (.ireturn, 1) := by decide +kernel
theorem dX11_count_104 : decode cX11_count 104 = .ok (.aload_n 0, 1) := by decide +kernel
theorem dX11_count_105 : decode cX11_count 105 = .ok (.getfield 29, 3) := by decide +kernel
theorem dX11_count_108 : decode cX11_count 108 = .ok (.getfield 318, 3) := by decide +kernel
theorem dX11_count_111 : decode cX11_count 111 = .ok (.ireturn, 1) := by decide +kernel
theorem dX11_count_112 : decode cX11_count 112 = .ok (.aload_n 0, 1) := by decide +kernel
theorem dX11_count_113 : decode cX11_count 113 = .ok (.getfield 29, 3) := by decide +kernel
theorem dX11_count_116 : decode cX11_count 116 = .ok (.getfield 214, 3) := by decide +kernel
theorem dX11_count_119 : decode cX11_count 119 = .ok (.ireturn, 1) := by decide +kernel
theorem dX11_count_120 : decode cX11_count 120 = .ok (.aload_n 0, 1) := by decide +kernel
theorem dX11_count_121 : decode cX11_count 121 = .ok (.getfield 29, 3) := by decide +kernel
theorem dX11_count_124 : decode cX11_count 124 = .ok (.getfield 227, 3) := by decide +kernel
theorem dX11_count_127 : decode cX11_count 127 = .ok (.ireturn, 1) := by decide +kernel
theorem dX11_count_128 : decode cX11_count 128 = .ok (.aload_n 0, 1) := by decide +kernel
theorem dX11_count_129 : decode cX11_count 129 = .ok (.getfield 45, 3) := by decide +kernel
theorem dX11_count_132 : decode cX11_count 132 = .ok (.getfield 279, 3) := by decide +kernel
theorem dX11_count_135 : decode cX11_count 135 = .ok (.ireturn, 1) := by decide +kernel
theorem dX11_count_136 : decode cX11_count 136 = .ok (.aload_n 0, 1) := by decide +kernel
theorem dX11_count_137 : decode cX11_count 137 = .ok (.getfield 70, 3) := by decide +kernel
theorem dX11_count_140 : decode cX11_count 140 = .ok (.getfield 299, 3) := by decide +kernel
theorem dX11_count_143 : decode cX11_count 143 = .ok (.ireturn, 1) := by decide +kernel
theorem dX11_count_144 : decode cX11_count 144 = .ok (.aload_n 0, 1) := by decide +kernel
theorem dX11_count_145 : decode cX11_count 145 = .ok (.getfield 12, 3) := by decide +kernel
theorem dX11_count_148 : decode cX11_count 148 = .ok (.getfield 96, 3) := by decide +kernel
theorem dX11_count_151 : decode cX11_count 151 = .ok (.getfield 321, 3) := by decide +kernel
theorem dX11_count_154 : decode cX11_count 154 = .ok (.ireturn, 1) := by decide +kernel
theorem dX11_count_155 : decode cX11_count 155 = .ok (.aload_n 0, 1) := by decide +kernel
theorem dX11_count_156 : decode cX11_count 156 = .ok (.getfield 16, 3) := by decide +kernel
theorem dX11_count_159 : decode cX11_count 159 = .ok (.getfield 96, 3) := by decide +kernel
theorem dX11_count_162 : decode cX11_count 162 = .ok (.getfield 321, 3) := by decide +kernel
theorem dX11_count_165 : decode cX11_count 165 = .ok (.ireturn, 1) := by decide +kernel
