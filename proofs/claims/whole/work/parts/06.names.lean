theorem dX11_count_166 : decode cX11_count 166 = .ok (.iconst (-1), 1) := by decide +kernel
theorem dX11_count_167 : decode cX11_count 167 = .ok (.ireturn, 1) := by decide +kernel
theorem dX11_within_0 : decode cX11_within 0 = .ok (.iload_n 0, 1) := by decide +kernel
theorem dX11_within_1 : decode cX11_within 1 = .ok (.iload_n 1, 1) := by decide +kernel
theorem dX11_within_2 : decode cX11_within 2 = .ok (.if_icmp .lt 12, 3) := by decide +kernel
theorem dX11_within_5 : decode cX11_within 5 = .ok (.iload_n 0, 1) := by decide +kernel
theorem dX11_within_6 : decode cX11_within 6 = .ok (.iload_n 2, 1) := by decide +kernel
theorem dX11_within_7 : decode cX11_within 7 = .ok (.if_icmp .gt 7, 3) := by decide +kernel
theorem dX11_within_10 : decode cX11_within 10 = .ok (.iconst 1, 1) := by decide +kernel
theorem dX11_within_11 : decode cX11_within 11 = .ok (.goto 4, 3) := by decide +kernel
theorem dX11_within_14 : decode cX11_within 14 = .ok (.iconst 0, 1) := by decide +kernel
theorem dX11_within_15 : decode cX11_within 15 = .ok (.ireturn, 1) := by decide +kernel
theorem dX11_hasBit_0 : decode cX11_hasBit 0 = .ok (.iload_n 0, 1) := by decide +kernel
theorem dX11_hasBit_1 : decode cX11_hasBit 1 = .ok (.iload_n 1, 1) := by decide +kernel
theorem dX11_hasBit_2 : decode cX11_hasBit 2 = .ok (.ishr, 1) := by decide +kernel
theorem dX11_hasBit_3 : decode cX11_hasBit 3 = .ok (.iconst 1, 1) := by decide +kernel
theorem dX11_hasBit_4 : decode cX11_hasBit 4 = .ok (.iand, 1) := by decide +kernel
theorem dX11_hasBit_5 : decode cX11_hasBit 5 = .ok (.iconst 1, 1) := by decide +kernel
theorem dX11_hasBit_6 : decode cX11_hasBit 6 = .ok (.if_icmp .ne 7, 3) := by decide +kernel
theorem dX11_hasBit_9 : decode cX11_hasBit 9 = .ok (.iconst 1, 1) := by decide +kernel
theorem dX11_hasBit_10 : decode cX11_hasBit 10 = .ok (.goto 4, 3) := by decide +kernel
theorem dX11_hasBit_13 : decode cX11_hasBit 13 = .ok (.iconst 0, 1) := by decide +kernel
theorem dX11_hasBit_14 : decode cX11_hasBit 14 = .ok (.ireturn, 1) := by decide +kernel
set_option maxRecDepth 20000 in
theorem ggX11_isTongue_X11_within : GoodIn wsX11_isTongue wsX11_within := goodIn_r _ [4] (by decide +kernel) (by decide +kernel)
set_option maxRecDepth 20000 in
theorem gX11_isTongue_X11_within : GoodIn wsX11_isTongue (va_wsS RX11 84 yX11_within wsX11_within) := goodIn_app (goodIn_of _ (by decide +kernel)) ggX11_isTongue_X11_within
theorem dX11_isTongue_0 : decode cX11_isTongue 0 = .ok (.iload_n 0, 1) := by decide +kernel
theorem dX11_isTongue_1 : decode cX11_isTongue 1 = .ok (.iconst 0, 1) := by decide +kernel
theorem dX11_isTongue_2 : decode cX11_isTongue 2 = .ok (.iconst 1, 1) := by decide +kernel
theorem dX11_isTongue_3 : decode cX11_isTongue 3 = .ok (.invokestatic 84, 3) := by decide +kernel
theorem dX11_isTongue_6 : decode cX11_isTongue 6 = .ok (.ireturn, 1) := by decide +kernel
set_option maxRecDepth 20000 in
theorem ggX11_isWord_X11_within : GoodIn wsX11_isWord wsX11_within := goodIn_r _ [4] (by decide +kernel) (by decide +kernel)
set_option maxRecDepth 20000 in
theorem gX11_isWord_X11_within : GoodIn wsX11_isWord (va_wsS RX11 84 yX11_within wsX11_within) := goodIn_app (goodIn_of _ (by decide +kernel)) ggX11_isWord_X11_within
theorem dX11_isWord_0 : decode cX11_isWord 0 = .ok (.iload_n 0, 1) := by decide +kernel
theorem dX11_isWord_1 : decode cX11_isWord 1 = .ok (.iconst 0, 1) := by decide +kernel
theorem dX11_isWord_2 : decode cX11_isWord 2 = .ok (.bipush 7, 2) := by decide +kernel
theorem dX11_isWord_4 : decode cX11_isWord 4 = .ok (.invokestatic 84, 3) := by decide +kernel
theorem dX11_isWord_7 : decode cX11_isWord 7 = .ok (.ireturn, 1) := by decide +kernel
set_option maxRecDepth 20000 in
theorem ggX11_isVerb_X11_within : GoodIn wsX11_isVerb wsX11_within := goodIn_r _ [4] (by decide +kernel) (by decide +kernel)
set_option maxRecDepth 20000 in
theorem gX11_isVerb_X11_within : GoodIn wsX11_isVerb (va_wsS RX11 84 yX11_within wsX11_within) := goodIn_app (goodIn_of _ (by decide +kernel)) ggX11_isVerb_X11_within
theorem dX11_isVerb_0 : decode cX11_isVerb 0 = .ok (.iload_n 0, 1) := by decide +kernel
theorem dX11_isVerb_1 : decode cX11_isVerb 1 = .ok (.iconst 0, 1) := by decide +kernel
theorem dX11_isVerb_2 : decode cX11_isVerb 2 = .ok (.iconst 5, 1) := by decide +kernel
theorem dX11_isVerb_3 : decode cX11_isVerb 3 = .ok (.invokestatic 84, 3) := by decide +kernel
theorem dX11_isVerb_6 : decode cX11_isVerb 6 = .ok (.ireturn, 1) := by decide +kernel
set_option maxRecDepth 20000 in
theorem ggX11_isThing_X11_within : GoodIn wsX11_isThing wsX11_within := goodIn_r _ [4] (by decide +kernel) (by decide +kernel)
set_option maxRecDepth 20000 in
theorem gX11_isThing_X11_within : GoodIn wsX11_isThing (va_wsS RX11 84 yX11_within wsX11_within) := goodIn_app (goodIn_of _ (by decide +kernel)) ggX11_isThing_X11_within
theorem dX11_isThing_0 : decode cX11_isThing 0 = .ok (.iload_n 0, 1) := by decide +kernel
theorem dX11_isThing_1 : decode cX11_isThing 1 = .ok (.iconst 0, 1) := by decide +kernel
theorem dX11_isThing_2 : decode cX11_isThing 2 = .ok (.iconst 5, 1) := by decide +kernel
theorem dX11_isThing_3 : decode cX11_isThing 3 = .ok (.invokestatic 84, 3) := by decide +kernel
theorem dX11_isThing_6 : decode cX11_isThing 6 = .ok (.ireturn, 1) := by decide +kernel
set_option maxRecDepth 20000 in
theorem ggX11_isAct_X11_within : GoodIn wsX11_isAct wsX11_within := goodIn_r _ [4] (by decide +kernel) (by decide +kernel)
set_option maxRecDepth 20000 in
theorem gX11_isAct_X11_within : GoodIn wsX11_isAct (va_wsS RX11 84 yX11_within wsX11_within) := goodIn_app (goodIn_of _ (by decide +kernel)) ggX11_isAct_X11_within
theorem dX11_isAct_0 : decode cX11_isAct 0 = .ok (.iload_n 0, 1) := by decide +kernel
theorem dX11_isAct_1 : decode cX11_isAct 1 = .ok (.iconst 0, 1) := by decide +kernel
theorem dX11_isAct_2 : decode cX11_isAct 2 = .ok (.bipush 35, 2) := by decide +kernel
theorem dX11_isAct_4 : decode cX11_isAct 4 = .ok (.invokestatic 84, 3) := by decide +kernel
theorem dX11_isAct_7 : decode cX11_isAct 7 = .ok (.ireturn, 1) := by decide +kernel
set_option maxRecDepth 20000 in
theorem ggX11_isYear_X11_within : GoodIn wsX11_isYear wsX11_within := goodIn_r _ [4] (by decide +kernel) (by decide +kernel)
set_option maxRecDepth 20000 in
theorem gX11_isYear_X11_within : GoodIn wsX11_isYear (va_wsS RX11 84 yX11_within wsX11_within) := goodIn_app (goodIn_of _ (by decide +kernel)) ggX11_isYear_X11_within
theorem dX11_isYear_0 : decode cX11_isYear 0 = .ok (.iload_n 0, 1) := by decide +kernel
theorem dX11_isYear_1 : decode cX11_isYear 1 = .ok (.iconst 0, 1) := by decide +kernel
theorem dX11_isYear_2 : decode cX11_isYear 2 = .ok (.sipush 200, 3) := by decide +kernel
theorem dX11_isYear_5 : decode cX11_isYear 5 = .ok (.invokestatic 84, 3) := by decide +kernel
theorem dX11_isYear_8 : decode cX11_isYear 8 = .ok (.ireturn, 1) := by decide +kernel
set_option maxRecDepth 20000 in
theorem ggX11_isFactSet_X11_within : GoodIn wsX11_isFactSet wsX11_within := goodIn_r _ [4] (by decide +kernel) (by decide +kernel)
set_option maxRecDepth 20000 in
theorem gX11_isFactSet_X11_within : GoodIn wsX11_isFactSet (va_wsS RX11 84 yX11_within wsX11_within) := goodIn_app (goodIn_of _ (by decide +kernel)) ggX11_isFactSet_X11_within
theorem dX11_isFactSet_0 : decode cX11_isFactSet 0 = .ok (.iload_n 0, 1) := by decide +kernel
theorem dX11_isFactSet_1 : decode cX11_isFactSet 1 = .ok (.iconst 0, 1) := by decide +kernel
theorem dX11_isFactSet_2 : decode cX11_isFactSet 2 = .ok (.sipush 255, 3) := by decide +kernel
theorem dX11_isFactSet_5 : decode cX11_isFactSet 5 = .ok (.invokestatic 84, 3) := by decide +kernel
theorem dX11_isFactSet_8 : decode cX11_isFactSet 8 = .ok (.ireturn, 1) := by decide +kernel
set_option maxRecDepth 20000 in
theorem ggX11_isKin_X11_within : GoodIn wsX11_isKin wsX11_within := goodIn_r _ [4] (by decide +kernel) (by decide +kernel)
set_option maxRecDepth 20000 in
theorem gX11_isKin_X11_within : GoodIn wsX11_isKin (va_wsS RX11 84 yX11_within wsX11_within) := goodIn_app (goodIn_of _ (by decide +kernel)) ggX11_isKin_X11_within
theorem dX11_isKin_0 : decode cX11_isKin 0 = .ok (.iload_n 0, 1) := by decide +kernel
theorem dX11_isKin_1 : decode cX11_isKin 1 = .ok (.iconst 0, 1) := by decide +kernel
theorem dX11_isKin_2 : decode cX11_isKin 2 = .ok (.bipush 9, 2) := by decide +kernel
theorem dX11_isKin_4 : decode cX11_isKin 4 = .ok (.invokestatic 84, 3) := by decide +kernel
theorem dX11_isKin_7 : decode cX11_isKin 7 = .ok (.ireturn, 1) := by decide +kernel
theorem dX11_tongueOf_0 : decode cX11_tongueOf 0 = .ok (.iload_n 1, 1) := by decide +kernel
theorem dX11_tongueOf_1 : decode cX11_tongueOf 1 = .ok (.ifCond .ne 10, 3) := by decide +kernel
theorem dX11_tongueOf_4 : decode cX11_tongueOf 4 = .ok (.aload_n 0, 1) := by decide +kernel
theorem dX11_tongueOf_5 : decode cX11_tongueOf 5 = .ok (.getfield 12, 3) := by decide +kernel
theorem dX11_tongueOf_8 : decode cX11_tongueOf 8 = .ok (.goto 7, 3) := by decide +kernel
theorem dX11_tongueOf_11 : decode cX11_tongueOf 11 = .ok (.aload_n 0, 1) := by decide +kernel
theorem dX11_tongueOf_12 : decode cX11_tongueOf 12 = .ok (.getfield 16, 3) := by decide +kernel
theorem dX11_tongueOf_15 : decode cX11_tongueOf 15 = .ok (.areturn, 1) := by decide +kernel
set_option maxRecDepth 20000 in
theorem ggX11_learn_X10_learn : GoodIn wsX11_learn wsX10_learn := goodIn_r _ [7, 8, 9, 10, 11, 6, 12, 13, 14, 15, 16, 17, 18, 19, 20, 21, 22, 23, 24, 25, 26, 27, 28, 29, 30, 40, 41, 42, 43, 44, 45, 46, 47, 48, 49, 50, 51, 52, 53] (by decide +kernel) (by decide +kernel)
set_option maxRecDepth 20000 in
theorem gX11_learn_X10_learn : GoodIn wsX11_learn (wsV RX11 129 RX10 yX10_learn wsX10_learn) := goodIn_app (goodIn_of _ (by decide +kernel)) ggX11_learn_X10_learn
theorem dX11_learn_0 : decode cX11_learn 0 = .ok (.aload_n 0, 1) := by decide +kernel
theorem dX11_learn_1 : decode cX11_learn 1 = .ok (.getfield 12, 3) := by decide +kernel
theorem dX11_learn_4 : decode cX11_learn 4 = .ok (.iload_n 1, 1) := by decide +kernel
theorem dX11_learn_5 : decode cX11_learn 5 = .ok (.invokevirtual 129, 3) := by decide +kernel
theorem dX11_learn_8 : decode cX11_learn 8 = .ok (.aload_n 0, 1) := by decide +kernel
theorem dX11_learn_9 : decode cX11_learn 9 = .ok (.getfield 16, 3) := by decide +kernel
theorem dX11_learn_12 : decode cX11_learn 12 = .ok (.iload_n 1, 1) := by decide +kernel
theorem dX11_learn_13 : decode cX11_learn 13 = .ok (.invokevirtual 129, 3) := by decide +kernel
theorem dX11_learn_16 : decode cX11_learn 16 = .ok (.return_, 1) := by decide +kernel
set_option maxRecDepth 20000 in
theorem ggX11_differ_X10_lets : GoodIn wsX11_differ wsX10_lets := goodIn_r _ [7, 8, 9, 10, 11, 12, 6, 13, 14, 15, 16, 17, 18, 19, 20, 21, 22, 23, 24, 25, 26, 27, 28, 29, 30, 31, 32, 33, 34, 35, 45, 46, 47, 48, 49, 50, 51, 52, 53, 54, 55, 56, 57, 58] (by decide +kernel) (by decide +kernel)
set_option maxRecDepth 20000 in
theorem gX11_differ_X10_lets : GoodIn wsX11_differ (wsV RX11 133 RX10 yX10_lets wsX10_lets) := goodIn_app (goodIn_of _ (by decide +kernel)) ggX11_differ_X10_lets
theorem dX11_differ_0 : decode cX11_differ 0 = .ok (.iload_n 1, 1) := by decide +kernel
theorem dX11_differ_1 : decode cX11_differ 1 = .ok (.bipush 6, 2) := by decide +kernel
theorem dX11_differ_3 : decode cX11_differ 3 = .ok (.idiv, 1) := by decide +kernel
theorem dX11_differ_4 : decode cX11_differ 4 = .ok (.istore 4, 2) := by decide +kernel
theorem dX11_differ_6 : decode cX11_differ 6 = .ok (.iload_n 1, 1) := by decide +kernel
theorem dX11_differ_7 : decode cX11_differ 7 = .ok (.bipush 6, 2) := by decide +kernel
theorem dX11_differ_9 : decode cX11_differ 9 = .ok (.irem, 1) := by decide +kernel
theorem dX11_differ_10 : decode cX11_differ 10 = .ok (.istore 5, 2) := by decide +kernel
theorem dX11_differ_12 : decode cX11_differ 12 = .ok (.aload_n 0, 1) := by decide +kernel
theorem dX11_differ_13 : decode cX11_differ 13 = .ok (.getfield 12, 3) := by decide +kernel
theorem dX11_differ_16 : decode cX11_differ 16 = .ok (.iload 4, 2) := by decide +kernel
theorem dX11_differ_18 : decode cX11_differ 18 = .ok (.iload 5, 2) := by decide +kernel
theorem dX11_differ_20 : decode cX11_differ 20 = .ok (.iload_n 2, 1) := by decide +kernel
theorem dX11_differ_21 : decode cX11_differ 21 = .ok (.iload_n 3, 1) := by decide +kernel
theorem dX11_differ_22 : decode cX11_differ 22 = .ok (.invokevirtual 133, 3) := by decide +kernel
theorem dX11_differ_25 : decode cX11_differ 25 = .ok (.aload_n 0, 1) := by decide +kernel
theorem dX11_differ_26 : decode cX11_differ 26 = .ok (.getfield 16, 3) := by decide +kernel
theorem dX11_differ_29 : decode cX11_differ 29 = .ok (.iload 4, 2) := by decide +kernel
theorem dX11_differ_31 : decode cX11_differ 31 = .ok (.iload 5, 2) := by decide +kernel
theorem dX11_differ_33 : decode cX11_differ 33 = .ok (.iload_n 2, 1) := by decide +kernel
theorem dX11_differ_34 : decode cX11_differ 34 = .ok (.iload_n 3, 1) := by decide +kernel
theorem dX11_differ_35 : decode cX11_differ 35 = .ok (.invokevirtual 133, 3) := by decide +kernel
theorem dX11_differ_38 : decode cX11_differ 38 = .ok (.if_icmp .eq 7, 3) := by decide +kernel
theorem dX11_differ_41 : decode cX11_differ 41 = .ok (.iconst 1, 1) := by decide +kernel
theorem dX11_differ_42 : decode cX11_differ 42 = .ok (.goto 4, 3) := by decide +kernel
theorem dX11_differ_45 : decode cX11_differ 45 = .ok (.iconst 0, 1) := by decide +kernel
theorem dX11_differ_46 : decode cX11_differ 46 = .ok (.ireturn, 1) := by decide +kernel
theorem dX12_init_0 : decode cX12_init 0 = .ok (.aload_n 0, 1) := by decide +kernel
theorem dX12_init_1 : decode cX12_init 1 = .ok (.invokespecial 1, 3) := by decide +kernel
theorem dX12_init_4 : decode cX12_init 4 = .ok (.aload_n 0, 1) := by decide +kernel
theorem dX12_init_5 : decode cX12_init 5 = .ok (.iconst 2, 1) := by decide +kernel
theorem dX12_init_6 : decode cX12_init 6 = .ok (.newarray .int, 2) := by decide +kernel
theorem dX12_init_8 : decode cX12_init 8 = .ok (.putfield 7, 3) := by decide +kernel
theorem dX12_init_11 : decode cX12_init 11 = .ok (.aload_n 0, 1) := by decide +kernel
theorem dX12_init_12 : decode cX12_init 12 = .ok (.sipush 480, 3) := by decide +kernel
theorem dX12_init_15 : decode cX12_init 15 = .ok (.newarray .int, 2) := by decide +kernel
theorem dX12_init_17 : decode cX12_init 17 = .ok (.putfield 13, 3) := by decide +kernel
theorem dX12_init_20 : decode cX12_init 20 = .ok (.aload_n 0, 1) := by decide +kernel
theorem dX12_init_21 : decode cX12_init 21 = .ok (.iconst 3, 1) := by decide +kernel
theorem dX12_init_22 : decode cX12_init 22 = .ok (.newarray .int, 2) := by decide +kernel
theorem dX12_init_24 : decode cX12_init 24 = .ok (.putfield 16, 3) := by decide +kernel
theorem dX12_init_27 : decode cX12_init 27 = .ok (.aload_n 0, 1) := by decide +kernel
theorem dX12_init_28 : decode cX12_init 28 = .ok (.sipush 720, 3) := by decide +kernel
theorem dX12_init_31 : decode cX12_init 31 = .ok (.newarray .int, 2) := by decide +kernel
theorem dX12_init_33 : decode cX12_init 33 = .ok (.putfield 19, 3) := by decide +kernel
theorem dX12_init_36 : decode cX12_init 36 = .ok (.aload_n 0, 1) := by decide +kernel
theorem dX12_init_37 : decode cX12_init 37 = .ok (.iconst 2, 1) := by decide +kernel
theorem dX12_init_38 : decode cX12_init 38 = .ok (.newarray .int, 2) := by decide +kernel
theorem dX12_init_40 : decode cX12_init 40 = .ok (.putfield 22, 3) := by decide +kernel
theorem dX12_init_43 : decode cX12_init 43 = .ok (.aload_n 0, 1) := by decide +kernel
theorem dX12_init_44 : decode cX12_init 44 = .ok (.bipush 120, 2) := by decide +kernel
theorem dX12_init_46 : decode cX12_init 46 = .ok (.newarray .int, 2) := by decide +kernel
theorem dX12_init_48 : decode cX12_init 48 = .ok (.putfield 25, 3) := by decide +kernel
theorem dX12_init_51 : decode cX12_init 51 = .ok (.aload_n 0, 1) := by decide +kernel
theorem dX12_init_52 : decode cX12_init 52 = .ok (.bipush 30, 2) := by decide +kernel
theorem dX12_init_54 : decode cX12_init 54 = .ok (.newarray .int, 2) := by decide +kernel
theorem dX12_init_56 : decode cX12_init 56 = .ok (.putfield 28, 3) := by decide +kernel
theorem dX12_init_59 : decode cX12_init 59 = .ok (.aload_n 0, 1) := by decide +kernel
theorem dX12_init_60 : decode cX12_init 60 = .ok (.bipush 60, 2) := by decide +kernel
theorem dX12_init_62 : decode cX12_init 62 = .ok (.newarray .int, 2) := by decide +kernel
theorem dX12_init_64 : decode cX12_init 64 = .ok (.putfield 31, 3) := by decide +kernel
theorem dX12_init_67 : decode cX12_init 67 = .ok (.aload_n 0, 1) := by decide +kernel
theorem dX12_init_68 : decode cX12_init 68 = .ok (.bipush 30, 2) := by decide +kernel
theorem dX12_init_70 : decode cX12_init 70 = .ok (.newarray .int, 2) := by decide +kernel
theorem dX12_init_72 : decode cX12_init 72 = .ok (.putfield 34, 3) := by decide +kernel
theorem dX12_init_75 : decode cX12_init 75 = .ok (.aload_n 0, 1) := by decide +kernel
theorem dX12_init_76 : decode cX12_init 76 = .ok (.bipush 30, 2) := by decide +kernel
theorem dX12_init_78 : decode cX12_init 78 = .ok (.newarray .int, 2) := by decide +kernel
theorem dX12_init_80 : decode cX12_init 80 = .ok (.putfield 37, 3) := by decide +kernel
theorem dX12_init_83 : decode cX12_init 83 = .ok (.aload_n 0, 1) := by decide +kernel
theorem dX12_init_84 : decode cX12_init 84 = .ok (.bipush 80, 2) := by decide +kernel
theorem dX12_init_86 : decode cX12_init 86 = .ok (.newarray .int, 2) := by decide +kernel
theorem dX12_init_88 : decode cX12_init 88 = .ok (.putfield 40, 3) := by decide +kernel
theorem dX12_init_91 : decode cX12_init 91 = .ok (.aload_n 0, 1) := by decide +kernel
theorem dX12_init_92 : decode cX12_init 92 = .ok (.bipush 12, 2) := by decide +kernel
theorem dX12_init_94 : decode cX12_init 94 = .ok (.newarray .int, 2) := by decide +kernel
theorem dX12_init_96 : decode cX12_init 96 = .ok (.putfield 43, 3) := by decide +kernel
theorem dX12_init_99 : decode cX12_init 99 = .ok (.aload_n 0, 1) := by decide +kernel
theorem dX12_init_100 : decode cX12_init 100 = .ok (.sipush 240, 3) := by decide +kernel
theorem dX12_init_103 : decode cX12_init 103 = .ok (.newarray .int, 2) := by decide +kernel
theorem dX12_init_105 : decode cX12_init 105 = .ok (.putfield 46, 3) := by decide +kernel
theorem dX12_init_108 : decode cX12_init 108 = .ok (.aload_n 0, 1) := by decide +kernel
theorem dX12_init_109 : decode cX12_init 109 = .ok (.bipush 80, 2) := by decide +kernel
theorem dX12_init_111 : decode cX12_init 111 = .ok (.newarray .int, 2) := by decide +kernel
theorem dX12_init_113 : decode cX12_init 113 = .ok (.putfield 49, 3) := by decide +kernel
theorem dX12_init_116 : decode cX12_init 116 = .ok (.aload_n 0, 1) := by decide +kernel
theorem dX12_init_117 : decode cX12_init 117 = .ok (.bipush 36, 2) := by decide +kernel
theorem dX12_init_119 : decode cX12_init 119 = .ok (.newarray .int, 2) := by decide +kernel
theorem dX12_init_121 : decode cX12_init 121 = .ok (.putfield 52, 3) := by decide +kernel
theorem dX12_init_124 : decode cX12_init 124 = .ok (.aload_n 0, 1) := by decide +kernel
theorem dX12_init_125 : decode cX12_init 125 = .ok (.bipush 12, 2) := by decide +kernel
theorem dX12_init_127 : decode cX12_init 127 = .ok (.newarray .int, 2) := by decide +kernel
theorem dX12_init_129 : decode cX12_init 129 = .ok (.putfield 55, 3) := by decide +kernel
theorem dX12_init_132 : decode cX12_init 132 = .ok (.aload_n 0, 1) := by decide +kernel
theorem dX12_init_133 : decode cX12_init 133 = .ok (.bipush 12, 2) := by decide +kernel
theorem dX12_init_135 : decode cX12_init 135 = .ok (.newarray .int, 2) := by decide +kernel
theorem dX12_init_137 : decode cX12_init 137 = .ok (.putfield 58, 3) := by decide +kernel
theorem dX12_init_140 : decode cX12_init 140 = .ok (.aload_n 0, 1) := by decide +kernel
theorem dX12_init_141 : decode cX12_init 141 = .ok (.bipush 54, 2) := by decide +kernel
theorem dX12_init_143 : decode cX12_init 143 = .ok (.newarray .int, 2) := by decide +kernel
theorem dX12_init_145 : decode cX12_init 145 = .ok (.putfield 61, 3) := by decide +kernel
theorem dX12_init_148 : decode cX12_init 148 = .ok (.aload_n 0, 1) := by decide +kernel
theorem dX12_init_149 : decode cX12_init 149 = .ok (.bipush 8, 2) := by decide +kernel
theorem dX12_init_151 : decode cX12_init 151 = .ok (.newarray .int, 2) := by decide +kernel
theorem dX12_init_153 : decode cX12_init 153 = .ok (.putfield 64, 3) := by decide +kernel
theorem dX12_init_156 : decode cX12_init 156 = .ok (.aload_n 0, 1) := by decide +kernel
theorem dX12_init_157 : decode cX12_init 157 = .ok (.bipush 8, 2) := by decide +kernel
theorem dX12_init_159 : decode cX12_init 159 = .ok (.newarray .int, 2) := by decide +kernel
theorem dX12_init_161 : decode cX12_init 161 = .ok (.putfield 67, 3) := by decide +kernel
theorem dX12_init_164 : decode cX12_init 164 = .ok (.aload_n 0, 1) := by decide +kernel
theorem dX12_init_165 : decode cX12_init 165 = .ok (.iconst 5, 1) := by decide +kernel
theorem dX12_init_166 : decode cX12_init 166 = .ok (.newarray .int, 2) := by decide +kernel
theorem dX12_init_168 : decode cX12_init 168 = .ok (.putfield 70, 3) := by decide +kernel
theorem dX12_init_171 : decode cX12_init 171 = .ok (.aload_n 0, 1) := by decide +kernel
theorem dX12_init_172 : decode cX12_init 172 = .ok (.bipush 16, 2) := by decide +kernel
theorem dX12_init_174 : decode cX12_init 174 = .ok (.newarray .int, 2) := by decide +kernel
theorem dX12_init_176 : decode cX12_init 176 = .ok (.putfield 73, 3) := by decide +kernel
theorem dX12_init_179 : decode cX12_init 179 = .ok (.aload_n 0, 1) := by decide +kernel
theorem dX12_init_180 : decode cX12_init 180 = .ok (.bipush 30, 2) := by decide +kernel
theorem dX12_init_182 : decode cX12_init 182 = .ok (.newarray .int, 2) := by decide +kernel
theorem dX12_init_184 : decode cX12_init 184 = .ok (.putfield 76, 3) := by decide +kernel
theorem dX12_init_187 : decode cX12_init 187 = .ok (.aload_n 0, 1) := by decide +kernel
theorem dX12_init_188 : decode cX12_init 188 = .ok (.bipush 30, 2) := by decide +kernel
theorem dX12_init_190 : decode cX12_init 190 = .ok (.newarray .long, 2) := by decide +kernel
theorem dX12_init_192 : decode cX12_init 192 = .ok (.putfield 79, 3) := by decide +kernel
theorem dX12_init_195 : decode cX12_init 195 = .ok (.aload_n 0, 1) := by decide +kernel
theorem dX12_init_196 : decode cX12_init 196 = .ok (.sipush 900, 3) := by decide +kernel
theorem dX12_init_199 : decode cX12_init 199 = .ok (.newarray .int, 2) := by decide +kernel
theorem dX12_init_201 : decode cX12_init 201 = .ok (.putfield 83, 3) := by decide +kernel
theorem dX12_init_204 : decode cX12_init 204 = .ok (.aload_n 0, 1) := by decide +kernel
theorem dX12_init_205 : decode cX12_init 205 = .ok (.sipush 900, 3) := by decide +kernel
theorem dX12_init_208 : decode cX12_init 208 = .ok (.newarray .long, 2) := by decide +kernel
theorem dX12_init_210 : decode cX12_init 210 = .ok (.putfield 86, 3) := by decide +kernel
theorem dX12_init_213 : decode cX12_init 213 = .ok (.aload_n 0, 1) := by decide +kernel
theorem dX12_init_214 : decode cX12_init 214 = .ok (.sipush 512, 3) := by decide +kernel
theorem dX12_init_217 : decode cX12_init 217 = .ok (.newarray .int, 2) := by decide +kernel
theorem dX12_init_219 : decode cX12_init 219 = .ok (.putfield 89, 3) := by decide +kernel
theorem dX12_init_222 : decode cX12_init 222 = .ok (.aload_n 0, 1) := by decide +kernel
theorem dX12_init_223 : decode cX12_init 223 = .ok (.bipush 100, 2) := by decide +kernel
theorem dX12_init_225 : decode cX12_init 225 = .ok (.newarray .int, 2) := by decide +kernel
theorem dX12_init_227 : decode cX12_init 227 = .ok (.putfield 92, 3) := by decide +kernel
theorem dX12_init_230 : decode cX12_init 230 = .ok (.iconst 0, 1) := by decide +kernel
theorem dX12_init_231 : decode cX12_init 231 = .ok (.istore_n 1, 1) := by decide +kernel
theorem dX12_init_232 : decode cX12_init 232 = .ok (.iload_n 1, 1) := by decide +kernel
theorem dX12_init_233 : decode cX12_init 233 = .ok (.bipush 12, 2) := by decide +kernel
theorem dX12_init_235 : decode cX12_init 235 = .ok (.if_icmp .ge 16, 3) := by decide +kernel
theorem dX12_init_238 : decode cX12_init 238 = .ok (.aload_n 0, 1) := by decide +kernel
theorem dX12_init_239 : decode cX12_init 239 = .ok (.getfield 55, 3) := by decide +kernel
theorem dX12_init_242 : decode cX12_init 242 = .ok (.iload_n 1, 1) := by decide +kernel
theorem dX12_init_243 : decode cX12_init 243 = .ok (.iconst (-1), 1) := by decide +kernel
theorem dX12_init_244 : decode cX12_init 244 = .ok (.iastore, 1) := by decide +kernel
theorem dX12_init_245 : decode cX12_init 245 = .ok (.iinc 1 1, 3) := by decide +kernel
theorem dX12_init_248 : decode cX12_init 248 = .ok (.goto (-16), 3) := by decide +kernel
theorem dX12_init_251 : decode cX12_init 251 = .ok (.return_, 1) := by decide +kernel
theorem dX12_in_0 : decode cX12_in 0 = .ok (.lload_n 0, 1) := by decide +kernel
theorem dX12_in_1 : decode cX12_in 1 = .ok (.lload_n 2, 1) := by decide +kernel
theorem dX12_in_2 : decode cX12_in 2 = .ok (.lcmp, 1) := by decide +kernel
theorem dX12_in_3 : decode cX12_in 3 = .ok (.ifCond .lt 14, 3) := by decide +kernel
theorem dX12_in_6 : decode cX12_in 6 = .ok (.lload_n 0, 1) := by decide +kernel
theorem dX12_in_7 : decode cX12_in 7 = .ok (.lload 4, 2) := by decide +kernel
theorem dX12_in_9 : decode cX12_in 9 = .ok (.lcmp, 1) := by decide +kernel
theorem dX12_in_10 : decode cX12_in 10 = .ok (.ifCond .gt 7, 3) := by decide +kernel
theorem dX12_in_13 : decode cX12_in 13 = .ok (.iconst 1, 1) := by decide +kernel
theorem dX12_in_14 : decode cX12_in 14 = .ok (.goto 4, 3) := by decide +kernel
theorem dX12_in_17 : decode cX12_in 17 = .ok (.iconst 0, 1) := by decide +kernel
theorem dX12_in_18 : decode cX12_in 18 = .ok (.ireturn, 1) := by decide +kernel
theorem dX12_has_0 : decode cX12_has 0 = .ok (.iload_n 0, 1) := by decide +kernel
theorem dX12_has_1 : decode cX12_has 1 = .ok (.iload_n 1, 1) := by decide +kernel
theorem dX12_has_2 : decode cX12_has 2 = .ok (.ishr, 1) := by decide +kernel
theorem dX12_has_3 : decode cX12_has 3 = .ok (.iconst 1, 1) := by decide +kernel
theorem dX12_has_4 : decode cX12_has 4 = .ok (.iand, 1) := by decide +kernel
theorem dX12_has_5 : decode cX12_has 5 = .ok (.iconst 1, 1) := by decide +kernel
theorem dX12_has_6 : decode cX12_has 6 = .ok (.if_icmp .ne 7, 3) := by decide +kernel
theorem dX12_has_9 : decode cX12_has 9 = .ok (.iconst 1, 1) := by decide +kernel
theorem dX12_has_10 : decode cX12_has 10 = .ok (.goto 4, 3) := by decide +kernel
theorem dX12_has_13 : decode cX12_has 13 = .ok (.iconst 0, 1) := by decide +kernel
theorem dX12_has_14 : decode cX12_has 14 = .ok (.ireturn, 1) := by decide +kernel
theorem dX12_bits_0 : decode cX12_bits 0 = .ok (.iconst 0, 1) := by decide +kernel
theorem dX12_bits_1 : decode cX12_bits 1 = .ok (.istore_n 1, 1) := by decide +kernel
theorem dX12_bits_2 : decode cX12_bits 2 = .ok (.iload_n 0, 1) := by decide +kernel
theorem dX12_bits_3 : decode cX12_bits 3 = .ok (.istore_n 2, 1) := by decide +kernel
theorem dX12_bits_4 : decode cX12_bits 4 = .ok (.iload_n 2, 1) := by decide +kernel
theorem dX12_bits_5 : decode cX12_bits 5 = .ok (.ifCond .eq 15, 3) := by decide +kernel
theorem dX12_bits_8 : decode cX12_bits 8 = .ok (.iinc 1 1, 3) := by decide +kernel
theorem dX12_bits_11 : decode cX12_bits 11 = .ok (.iload_n 2, 1) := by decide +kernel
theorem dX12_bits_12 : decode cX12_bits 12 = .ok (.iload_n 2, 1) := by decide +kernel
theorem dX12_bits_13 : decode cX12_bits 13 = .ok (.iconst 1, 1) := by decide +kernel
theorem dX12_bits_14 : decode cX12_bits 14 = .ok (.isub, 1) := by decide +kernel
theorem dX12_bits_15 : decode cX12_bits 15 = .ok (.iand, 1) := by decide +kernel
theorem dX12_bits_16 : decode cX12_bits 16 = .ok (.istore_n 2, 1) := by decide +kernel
theorem dX12_bits_17 : decode cX12_bits 17 = .ok (.goto (-13), 3) := by decide +kernel
theorem dX12_bits_20 : decode cX12_bits 20 = .ok (.iload_n 1, 1) := by decide +kernel
theorem dX12_bits_21 : decode cX12_bits 21 = .ok (.ireturn, 1) := by decide +kernel
set_option maxRecDepth 20000 in
theorem ggX12_isYear_X12_in : GoodIn wsX12_isYear wsX12_in := goodIn_r _ [5] (by decide +kernel) (by decide +kernel)
set_option maxRecDepth 20000 in
theorem gX12_isYear_X12_in : GoodIn wsX12_isYear (va_wsS RX12 97 yX12_in wsX12_in) := goodIn_app (goodIn_of _ (by decide +kernel)) ggX12_isYear_X12_in
theorem dX12_isYear_0 : decode cX12_isYear 0 = .ok (.iload_n 0, 1) := by decide +kernel
theorem dX12_isYear_1 : decode cX12_isYear 1 = .ok (.i2l, 1) := by decide +kernel
theorem dX12_isYear_2 : decode cX12_isYear 2 = .ok (.lconst 0, 1) := by decide +kernel
theorem dX12_isYear_3 : decode cX12_isYear 3 = .ok (.ldc2_w 95, 3) := by decide +kernel
theorem dX12_isYear_6 : decode cX12_isYear 6 = .ok (.invokestatic 97, 3) := by decide +kernel
theorem dX12_isYear_9 : decode cX12_isYear 9 = .ok (.ireturn, 1) := by decide +kernel
set_option maxRecDepth 20000 in
theorem ggX12_isTongue_X12_in : GoodIn wsX12_isTongue wsX12_in := goodIn_r _ [4] (by decide +kernel) (by decide +kernel)
set_option maxRecDepth 20000 in
theorem gX12_isTongue_X12_in : GoodIn wsX12_isTongue (va_wsS RX12 97 yX12_in wsX12_in) := goodIn_app (goodIn_of _ (by decide +kernel)) ggX12_isTongue_X12_in
theorem dX12_isTongue_0 : decode cX12_isTongue 0 = .ok (.iload_n 0, 1) := by decide +kernel
theorem dX12_isTongue_1 : decode cX12_isTongue 1 = .ok (.i2l, 1) := by decide +kernel
theorem dX12_isTongue_2 : decode cX12_isTongue 2 = .ok (.lconst 0, 1) := by decide +kernel
theorem dX12_isTongue_3 : decode cX12_isTongue 3 = .ok (.lconst 1, 1) := by decide +kernel
theorem dX12_isTongue_4 : decode cX12_isTongue 4 = .ok (.invokestatic 97, 3) := by decide +kernel
theorem dX12_isTongue_7 : decode cX12_isTongue 7 = .ok (.ireturn, 1) := by decide +kernel
set_option maxRecDepth 20000 in
theorem ggX12_book_X12_isTongue : GoodIn wsX12_book wsX12_isTongue := goodIn_r _ [8, 9, 10, 7, 11] (by decide +kernel) (by decide +kernel)
set_option maxRecDepth 20000 in
theorem gX12_book_X12_isTongue : GoodIn wsX12_book (va_wsS RX12 101 yX12_isTongue wsX12_isTongue) := goodIn_app (goodIn_of _ (by decide +kernel)) ggX12_book_X12_isTongue
set_option maxRecDepth 20000 in
theorem ggX12_book_X12_in : GoodIn wsX12_book wsX12_in := goodIn_r _ [11] (by decide +kernel) (by decide +kernel)
set_option maxRecDepth 20000 in
theorem gX12_book_X12_in : GoodIn wsX12_book (va_wsS RX12 97 yX12_in wsX12_in) := goodIn_app (goodIn_of _ (by decide +kernel)) ggX12_book_X12_in
set_option maxRecDepth 20000 in
theorem ggX12_book_X12_isYear : GoodIn wsX12_book wsX12_isYear := goodIn_r _ [14, 15, 9, 10, 7, 11] (by decide +kernel) (by decide +kernel)
set_option maxRecDepth 20000 in
theorem gX12_book_X12_isYear : GoodIn wsX12_book (va_wsS RX12 107 yX12_isYear wsX12_isYear) := goodIn_app (goodIn_of _ (by decide +kernel)) ggX12_book_X12_isYear
theorem dX12_book_0 : decode cX12_book 0 = .ok (.iload_n 1, 1) := by decide +kernel
theorem dX12_book_1 : decode cX12_book 1 = .ok (.invokestatic 101, 3) := by decide +kernel
theorem dX12_book_4 : decode cX12_book 4 = .ok (.ifCond .eq 35, 3) := by decide +kernel
theorem dX12_book_7 : decode cX12_book 7 = .ok (.iload_n 2, 1) := by decide +kernel
theorem dX12_book_8 : decode cX12_book 8 = .ok (.i2l, 1) := by decide +kernel
theorem dX12_book_9 : decode cX12_book 9 = .ok (.lconst 0, 1) := by decide +kernel
theorem dX12_book_10 : decode cX12_book 10 = .ok (.ldc2_w 105, 3) := by decide +kernel
theorem dX12_book_13 : decode cX12_book 13 = .ok (.invokestatic 97, 3) := by decide +kernel
theorem dX12_book_16 : decode cX12_book 16 = .ok (.ifCond .eq 23, 3) := by decide +kernel
theorem dX12_book_19 : decode cX12_book 19 = .ok (.iload_n 3, 1) := by decide +kernel
theorem dX12_book_20 : decode cX12_book 20 = .ok (.invokestatic 107, 3) := by decide +kernel
theorem dX12_book_23 : decode cX12_book 23 = .ok (.ifCond .eq 16, 3) := by decide +kernel
theorem dX12_book_26 : decode cX12_book 26 = .ok (.iload 4, 2) := by decide +kernel
theorem dX12_book_28 : decode cX12_book 28 = .ok (.i2l, 1) := by decide +kernel
theorem dX12_book_29 : decode cX12_book 29 = .ok (.lconst 0, 1) := by decide +kernel
theorem dX12_book_30 : decode cX12_book 30 = .ok (.ldc2_w 110, 3) := by decide +kernel
theorem dX12_book_33 : decode cX12_book 33 = .ok (.invokestatic 97, 3) := by decide +kernel
theorem dX12_book_36 : decode cX12_book 36 = .ok (.ifCond .ne 5, 3) := by decide +kernel
theorem dX12_book_39 : decode cX12_book 39 = .ok (.iconst (-1), 1) := by decide +kernel
theorem dX12_book_40 : decode cX12_book 40 = .ok (.ireturn, 1) := by decide +kernel
theorem dX12_book_41 : decode cX12_book 41 = .ok (.aload_n 0, 1) := by decide +kernel
theorem dX12_book_42 : decode cX12_book 42 = .ok (.getfield 22, 3) := by decide +kernel
theorem dX12_book_45 : decode cX12_book 45 = .ok (.iload_n 1, 1) := by decide +kernel
theorem dX12_book_46 : decode cX12_book 46 = .ok (.iaload, 1) := by decide +kernel
theorem dX12_book_47 : decode cX12_book 47 = .ok (.bipush 20, 2) := by decide +kernel
theorem dX12_book_49 : decode cX12_book 49 = .ok (.if_icmp .ne 6, 3) := by decide +kernel
theorem dX12_book_52 : decode cX12_book 52 = .ok (.bipush (-3), 2) := by decide +kernel
theorem dX12_book_54 : decode cX12_book 54 = .ok (.ireturn, 1) := by decide +kernel
theorem dX12_book_55 : decode cX12_book 55 = .ok (.bipush 60, 2) := by decide +kernel
theorem dX12_book_57 : decode cX12_book 57 = .ok (.iload_n 1, 1) := by decide +kernel
theorem dX12_book_58 : decode cX12_book 58 = .ok (.imul, 1) := by decide +kernel
theorem dX12_book_59 : decode cX12_book 59 = .ok (.iconst 3, 1) := by decide +kernel
theorem dX12_book_60 : decode cX12_book 60 = .ok (.aload_n 0, 1) := by decide +kernel
theorem dX12_book_61 : decode cX12_book 61 = .ok (.getfield 22, 3) := by decide +kernel
theorem dX12_book_64 : decode cX12_book 64 = .ok (.iload_n 1, 1) := by decide +kernel
theorem dX12_book_65 : decode cX12_book 65 = .ok (.iaload, 1) := by decide +kernel
theorem dX12_book_66 : decode cX12_book 66 = .ok (.imul, 1) := by decide +kernel
theorem dX12_book_67 : decode cX12_book 67 = .ok (.iadd, 1) := by decide +kernel
theorem dX12_book_68 : decode cX12_book 68 = .ok (.istore 5, 2) := by decide +kernel
theorem dX12_book_70 : decode cX12_book 70 = .ok (.aload_n 0, 1) := by decide +kernel
theorem dX12_book_71 : decode cX12_book 71 = .ok (.getfield 25, 3) := by decide +kernel
theorem dX12_book_74 : decode cX12_book 74 = .ok (.iload 5, 2) := by decide +kernel
theorem dX12_book_76 : decode cX12_book 76 = .ok (.iload_n 2, 1) := by decide +kernel
theorem dX12_book_77 : decode cX12_book 77 = .ok (.iastore, 1) := by decide +kernel
theorem dX12_book_78 : decode cX12_book 78 = .ok (.aload_n 0, 1) := by decide +kernel
theorem dX12_book_79 : decode cX12_book 79 = .ok (.getfield 25, 3) := by decide +kernel
theorem dX12_book_82 : decode cX12_book 82 = .ok (.iload 5, 2) := by decide +kernel
theorem dX12_book_84 : decode cX12_book 84 = .ok (.iconst 1, 1) := by decide +kernel
theorem dX12_book_85 : decode cX12_book 85 = .ok (.iadd, 1) := by decide +kernel
theorem dX12_book_86 : decode cX12_book 86 = .ok (.iload_n 3, 1) := by decide +kernel
theorem dX12_book_87 : decode cX12_book 87 = .ok (.iastore, 1) := by decide +kernel
theorem dX12_book_88 : decode cX12_book 88 = .ok (.aload_n 0, 1) := by decide +kernel
theorem dX12_book_89 : decode cX12_book 89 = .ok (.getfield 25, 3) := by decide +kernel
theorem dX12_book_92 : decode cX12_book 92 = .ok (.iload 5, 2) := by decide +kernel
theorem dX12_book_94 : decode cX12_book 94 = .ok (.iconst 2, 1) := by decide +kernel
theorem dX12_book_95 : decode cX12_book 95 = .ok (.iadd, 1) := by decide +kernel
theorem dX12_book_96 : decode cX12_book 96 = .ok (.iload 4, 2) := by decide +kernel
theorem dX12_book_98 : decode cX12_book 98 = .ok (.iastore, 1) := by decide +kernel
theorem dX12_book_99 : decode cX12_book 99 = .ok (.aload_n 0, 1) := by decide +kernel
theorem dX12_book_100 : decode cX12_book 100 = .ok (.getfield 22, 3) := by decide +kernel
theorem dX12_book_103 : decode cX12_book 103 = .ok (.iload_n 1, 1) := by decide +kernel
theorem dX12_book_104 : decode cX12_book 104 = .ok (.dup2, 1) := by decide +kernel
theorem dX12_book_105 : decode cX12_book 105 = .ok (.iaload, 1) := by decide +kernel
theorem dX12_book_106 : decode cX12_book 106 = .ok (.iconst 1, 1) := by decide +kernel
theorem dX12_book_107 : decode cX12_book 107 = .ok (.iadd, 1) := by decide +kernel
theorem dX12_book_108 : decode cX12_book 108 = .ok (.iastore, 1) := by decide +kernel
theorem dX12_book_109 : decode cX12_book 109 = .ok (.aload_n 0, 1) := by decide +kernel
theorem dX12_book_110 : decode cX12_book 110 = .ok (.getfield 22, 3) := by decide +kernel
theorem dX12_book_113 : decode cX12_book 113 = .ok (.iload_n 1, 1) := by decide +kernel
theorem dX12_book_114 : decode cX12_book 114 = .ok (.iaload, 1) := by decide +kernel
theorem dX12_book_115 : decode cX12_book 115 = .ok (.ireturn, 1) := by decide +kernel
set_option maxRecDepth 20000 in
theorem ggX12_write_X12_isTongue : GoodIn wsX12_write wsX12_isTongue := goodIn_r _ [8, 9, 10, 7, 11] (by decide +kernel) (by decide +kernel)
set_option maxRecDepth 20000 in
theorem gX12_write_X12_isTongue : GoodIn wsX12_write (va_wsS RX12 101 yX12_isTongue wsX12_isTongue) := goodIn_app (goodIn_of _ (by decide +kernel)) ggX12_write_X12_isTongue
set_option maxRecDepth 20000 in
theorem ggX12_write_X12_in : GoodIn wsX12_write wsX12_in := goodIn_r _ [11] (by decide +kernel) (by decide +kernel)
set_option maxRecDepth 20000 in
theorem gX12_write_X12_in : GoodIn wsX12_write (va_wsS RX12 97 yX12_in wsX12_in) := goodIn_app (goodIn_of _ (by decide +kernel)) ggX12_write_X12_in
theorem dX12_write_0 : decode cX12_write 0 = .ok (.iload_n 1, 1) := by decide +kernel
theorem dX12_write_1 : decode cX12_write 1 = .ok (.invokestatic 101, 3) := by decide +kernel
theorem dX12_write_4 : decode cX12_write 4 = .ok (.ifCond .eq 15, 3) := by decide +kernel
theorem dX12_write_7 : decode cX12_write 7 = .ok (.iload_n 2, 1) := by decide +kernel
theorem dX12_write_8 : decode cX12_write 8 = .ok (.i2l, 1) := by decide +kernel
theorem dX12_write_9 : decode cX12_write 9 = .ok (.lconst 1, 1) := by decide +kernel
theorem dX12_write_10 : decode cX12_write 10 = .ok (.ldc2_w 112, 3) := by decide +kernel
theorem dX12_write_13 : decode cX12_write 13 = .ok (.invokestatic 97, 3) := by decide +kernel
theorem dX12_write_16 : decode cX12_write 16 = .ok (.ifCond .ne 5, 3) := by decide +kernel
theorem dX12_write_19 : decode cX12_write 19 = .ok (.iconst (-1), 1) := by decide +kernel
theorem dX12_write_20 : decode cX12_write 20 = .ok (.ireturn, 1) := by decide +kernel
theorem dX12_write_21 : decode cX12_write 21 = .ok (.aload_n 0, 1) := by decide +kernel
theorem dX12_write_22 : decode cX12_write 22 = .ok (.getfield 7, 3) := by decide +kernel
theorem dX12_write_25 : decode cX12_write 25 = .ok (.iload_n 1, 1) := by decide +kernel
theorem dX12_write_26 : decode cX12_write 26 = .ok (.iaload, 1) := by decide +kernel
theorem dX12_write_27 : decode cX12_write 27 = .ok (.iload_n 2, 1) := by decide +kernel
theorem dX12_write_28 : decode cX12_write 28 = .ok (.iadd, 1) := by decide +kernel
theorem dX12_write_29 : decode cX12_write 29 = .ok (.sipush 240, 3) := by decide +kernel
theorem dX12_write_32 : decode cX12_write 32 = .ok (.if_icmp .le 6, 3) := by decide +kernel
theorem dX12_write_35 : decode cX12_write 35 = .ok (.bipush (-3), 2) := by decide +kernel
theorem dX12_write_37 : decode cX12_write 37 = .ok (.ireturn, 1) := by decide +kernel
theorem dX12_write_38 : decode cX12_write 38 = .ok (.iload_n 2, 1) := by decide +kernel
theorem dX12_write_39 : decode cX12_write 39 = .ok (.iconst 1, 1) := by decide +kernel
theorem dX12_write_40 : decode cX12_write 40 = .ok (.isub, 1) := by decide +kernel
theorem dX12_write_41 : decode cX12_write 41 = .ok (.istore 5, 2) := by decide +kernel
theorem dX12_write_43 : decode cX12_write 43 = .ok (.iload 5, 2) := by decide +kernel
theorem dX12_write_45 : decode cX12_write 45 = .ok (.ifCond .lt 48, 3) := by decide +kernel
theorem dX12_write_48 : decode cX12_write 48 = .ok (.aload_n 0, 1) := by decide +kernel
theorem dX12_write_49 : decode cX12_write 49 = .ok (.getfield 13, 3) := by decide +kernel
theorem dX12_write_52 : decode cX12_write 52 = .ok (.sipush 240, 3) := by decide +kernel
theorem dX12_write_55 : decode cX12_write 55 = .ok (.iload_n 1, 1) := by decide +kernel
theorem dX12_write_56 : decode cX12_write 56 = .ok (.imul, 1) := by decide +kernel
theorem dX12_write_57 : decode cX12_write 57 = .ok (.aload_n 0, 1) := by decide +kernel
theorem dX12_write_58 : decode cX12_write 58 = .ok (.getfield 7, 3) := by decide +kernel
theorem dX12_write_61 : decode cX12_write 61 = .ok (.iload_n 1, 1) := by decide +kernel
theorem dX12_write_62 : decode cX12_write 62 = .ok (.iaload, 1) := by decide +kernel
theorem dX12_write_63 : decode cX12_write 63 = .ok (.iadd, 1) := by decide +kernel
theorem dX12_write_64 : decode cX12_write 64 = .ok (.lload_n 3, 1) := by decide +kernel
theorem dX12_write_65 : decode cX12_write 65 = .ok (.bipush 8, 2) := by decide +kernel
theorem dX12_write_67 : decode cX12_write 67 = .ok (.iload 5, 2) := by decide +kernel
theorem dX12_write_69 : decode cX12_write 69 = .ok (.imul, 1) := by decide +kernel
theorem dX12_write_70 : decode cX12_write 70 = .ok (.lshr, 1) := by decide +kernel
theorem dX12_write_71 : decode cX12_write 71 = .ok (.ldc2_w 114, 3) := by decide +kernel
theorem dX12_write_74 : decode cX12_write 74 = .ok (.land, 1) := by decide +kernel
theorem dX12_write_75 : decode cX12_write 75 = .ok (.l2i, 1) := by decide +kernel
theorem dX12_write_76 : decode cX12_write 76 = .ok (.iastore, 1) := by decide +kernel
theorem dX12_write_77 : decode cX12_write 77 = .ok (.aload_n 0, 1) := by decide +kernel
theorem dX12_write_78 : decode cX12_write 78 = .ok (.getfield 7, 3) := by decide +kernel
theorem dX12_write_81 : decode cX12_write 81 = .ok (.iload_n 1, 1) := by decide +kernel
theorem dX12_write_82 : decode cX12_write 82 = .ok (.dup2, 1) := by decide +kernel
theorem dX12_write_83 : decode cX12_write 83 = .ok (.iaload, 1) := by decide +kernel
theorem dX12_write_84 : decode cX12_write 84 = .ok (.iconst 1, 1) := by decide +kernel
theorem dX12_write_85 : decode cX12_write 85 = .ok (.iadd, 1) := by decide +kernel
theorem dX12_write_86 : decode cX12_write 86 = .ok (.iastore, 1) := by decide +kernel
theorem dX12_write_87 : decode cX12_write 87 = .ok (.iinc 5 (-1), 3) := by decide +kernel
theorem dX12_write_90 : decode cX12_write 90 = .ok (.goto (-47), 3) := by decide +kernel
theorem dX12_write_93 : decode cX12_write 93 = .ok (.aload_n 0, 1) := by decide +kernel
theorem dX12_write_94 : decode cX12_write 94 = .ok (.getfield 7, 3) := by decide +kernel
theorem dX12_write_97 : decode cX12_write 97 = .ok (.iload_n 1, 1) := by decide +kernel
theorem dX12_write_98 : decode cX12_write 98 = .ok (.iaload, 1) := by decide +kernel
theorem dX12_write_99 : decode cX12_write 99 = .ok (.ireturn, 1) := by decide +kernel
set_option maxRecDepth 20000 in
theorem ggX12_wipe_X12_isTongue : GoodIn wsX12_wipe wsX12_isTongue := goodIn_r _ [5, 6, 7, 4, 8] (by decide +kernel) (by decide +kernel)
set_option maxRecDepth 20000 in
theorem gX12_wipe_X12_isTongue : GoodIn wsX12_wipe (va_wsS RX12 101 yX12_isTongue wsX12_isTongue) := goodIn_app (goodIn_of _ (by decide +kernel)) ggX12_wipe_X12_isTongue
theorem dX12_wipe_0 : decode cX12_wipe 0 = .ok (.iload_n 1, 1) := by decide +kernel
theorem dX12_wipe_1 : decode cX12_wipe 1 = .ok (.invokestatic 101, 3) := by decide +kernel
theorem dX12_wipe_4 : decode cX12_wipe 4 = .ok (.ifCond .ne 5, 3) := by decide +kernel
theorem dX12_wipe_7 : decode cX12_wipe 7 = .ok (.iconst (-1), 1) := by decide +kernel
theorem dX12_wipe_8 : decode cX12_wipe 8 = .ok (.ireturn, 1) := by decide +kernel
theorem dX12_wipe_9 : decode cX12_wipe 9 = .ok (.aload_n 0, 1) := by decide +kernel
theorem dX12_wipe_10 : decode cX12_wipe 10 = .ok (.getfield 7, 3) := by decide +kernel
theorem dX12_wipe_13 : decode cX12_wipe 13 = .ok (.iload_n 1, 1) := by decide +kernel
theorem dX12_wipe_14 : decode cX12_wipe 14 = .ok (.iaload, 1) := by decide +kernel
theorem dX12_wipe_15 : decode cX12_wipe 15 = .ok (.istore_n 2, 1) := by decide +kernel
theorem dX12_wipe_16 : decode cX12_wipe 16 = .ok (.aload_n 0, 1) := by decide +kernel
theorem dX12_wipe_17 : decode cX12_wipe 17 = .ok (.getfield 7, 3) := by decide +kernel
theorem dX12_wipe_20 : decode cX12_wipe 20 = .ok (.iload_n 1, 1) := by decide +kernel
theorem dX12_wipe_21 : decode cX12_wipe 21 = .ok (.iconst 0, 1) := by decide +kernel
theorem dX12_wipe_22 : decode cX12_wipe 22 = .ok (.iastore, 1) := by decide +kernel
theorem dX12_wipe_23 : decode cX12_wipe 23 = .ok (.iload_n 2, 1) := by decide +kernel
theorem dX12_wipe_24 : decode cX12_wipe 24 = .ok (.ireturn, 1) := by decide +kernel
theorem dX12_byteAt_0 : decode cX12_byteAt 0 = .ok (.iload_n 2, 1) := by decide +kernel
theorem dX12_byteAt_1 : decode cX12_byteAt 1 = .ok (.aload_n 0, 1) := by decide +kernel
theorem dX12_byteAt_2 : decode cX12_byteAt 2 = .ok (.getfield 7, 3) := by decide +kernel
theorem dX12_byteAt_5 : decode cX12_byteAt 5 = .ok (.iload_n 1, 1) := by decide +kernel
theorem dX12_byteAt_6 : decode cX12_byteAt 6 = .ok (.iaload, 1) := by decide +kernel
theorem dX12_byteAt_7 : decode cX12_byteAt 7 = .ok (.if_icmp .ge 18, 3) := by decide +kernel
theorem dX12_byteAt_10 : decode cX12_byteAt 10 = .ok (.aload_n 0, 1) := by decide +kernel
theorem dX12_byteAt_11 : decode cX12_byteAt 11 = .ok (.getfield 13, 3) := by decide +kernel
theorem dX12_byteAt_14 : decode cX12_byteAt 14 = .ok (.sipush 240, 3) := by decide +kernel
theorem dX12_byteAt_17 : decode cX12_byteAt 17 = .ok (.iload_n 1, 1) := by decide +kernel
theorem dX12_byteAt_18 : decode cX12_byteAt 18 = .ok (.imul, 1) := by decide +kernel
theorem dX12_byteAt_19 : decode cX12_byteAt 19 = .ok (.iload_n 2, 1) := by decide +kernel
theorem dX12_byteAt_20 : decode cX12_byteAt 20 = .ok (.iadd, 1) := by decide +kernel
theorem dX12_byteAt_21 : decode cX12_byteAt 21 = .ok (.iaload, 1) := by decide +kernel
theorem dX12_byteAt_22 : decode cX12_byteAt 22 = .ok (.goto 4, 3) := by decide +kernel
theorem dX12_byteAt_25 : decode cX12_byteAt 25 = .ok (.iconst (-1), 1) := by decide +kernel
theorem dX12_byteAt_26 : decode cX12_byteAt 26 = .ok (.ireturn, 1) := by decide +kernel
set_option maxRecDepth 20000 in
theorem ggX12_numbers_X12_byteAt : GoodIn wsX12_numbers wsX12_byteAt := goodIn_r _ [10, 11, 12, 16, 17, 18, 19, 20, 21, 22, 23, 24, 25, 26, 27, 28, 29, 30, 31, 32, 33, 34, 35, 36, 37, 38, 39, 40, 41, 42, 43, 44, 45, 46, 47, 48, 49, 50, 51, 52, 53, 54, 55] (by decide +kernel) (by decide +kernel)
set_option maxRecDepth 20000 in
theorem gX12_numbers_X12_byteAt : GoodIn wsX12_numbers (wsV RX12 120 RX12 yX12_byteAt wsX12_byteAt) := goodIn_app (goodIn_of _ (by decide +kernel)) ggX12_numbers_X12_byteAt
set_option maxRecDepth 20000 in
theorem ggX12_numbers_X12_in : GoodIn wsX12_numbers wsX12_in := goodIn_r _ [15] (by decide +kernel) (by decide +kernel)
set_option maxRecDepth 20000 in
theorem gX12_numbers_X12_in : GoodIn wsX12_numbers (va_wsS RX12 97 yX12_in wsX12_in) := goodIn_app (goodIn_of _ (by decide +kernel)) ggX12_numbers_X12_in
theorem dX12_numbers_0 : decode cX12_numbers 0 = .ok (.iconst 0, 1) := by decide +kernel
theorem dX12_numbers_1 : decode cX12_numbers 1 = .ok (.istore_n 3, 1) := by decide +kernel
theorem dX12_numbers_2 : decode cX12_numbers 2 = .ok (.iload_n 3, 1) := by decide +kernel
theorem dX12_numbers_3 : decode cX12_numbers 3 = .ok (.iload_n 2, 1) := by decide +kernel
theorem dX12_numbers_4 : decode cX12_numbers 4 = .ok (.if_icmp .ge 138, 3) := by decide +kernel
theorem dX12_numbers_7 : decode cX12_numbers 7 = .ok (.iconst 0, 1) := by decide +kernel
theorem dX12_numbers_8 : decode cX12_numbers 8 = .ok (.istore 4, 2) := by decide +kernel
theorem dX12_numbers_10 : decode cX12_numbers 10 = .ok (.iconst 0, 1) := by decide +kernel
theorem dX12_numbers_11 : decode cX12_numbers 11 = .ok (.istore 5, 2) := by decide +kernel
theorem dX12_numbers_13 : decode cX12_numbers 13 = .ok (.aload_n 0, 1) := by decide +kernel
theorem dX12_numbers_14 : decode cX12_numbers 14 = .ok (.iload_n 1, 1) := by decide +kernel
theorem dX12_numbers_15 : decode cX12_numbers 15 = .ok (.aload_n 0, 1) := by decide +kernel
theorem dX12_numbers_16 : decode cX12_numbers 16 = .ok (.getfield 116, 3) := by decide +kernel
theorem dX12_numbers_19 : decode cX12_numbers 19 = .ok (.invokevirtual 120, 3) := by decide +kernel
theorem dX12_numbers_22 : decode cX12_numbers 22 = .ok (.i2l, 1) := by decide +kernel
theorem dX12_numbers_23 : decode cX12_numbers 23 = .ok (.ldc2_w 124, 3) := by decide +kernel
theorem dX12_numbers_26 : decode cX12_numbers 26 = .ok (.ldc2_w 126, 3) := by decide +kernel
theorem dX12_numbers_29 : decode cX12_numbers 29 = .ok (.invokestatic 97, 3) := by decide +kernel
theorem dX12_numbers_32 : decode cX12_numbers 32 = .ok (.ifCond .eq 45, 3) := by decide +kernel
theorem dX12_numbers_35 : decode cX12_numbers 35 = .ok (.iload 4, 2) := by decide +kernel
theorem dX12_numbers_37 : decode cX12_numbers 37 = .ok (.iconst 4, 1) := by decide +kernel
theorem dX12_numbers_38 : decode cX12_numbers 38 = .ok (.if_icmp .ge 39, 3) := by decide +kernel
theorem dX12_numbers_41 : decode cX12_numbers 41 = .ok (.bipush 10, 2) := by decide +kernel
theorem dX12_numbers_43 : decode cX12_numbers 43 = .ok (.iload 5, 2) := by decide +kernel
theorem dX12_numbers_45 : decode cX12_numbers 45 = .ok (.imul, 1) := by decide +kernel
theorem dX12_numbers_46 : decode cX12_numbers 46 = .ok (.aload_n 0, 1) := by decide +kernel
theorem dX12_numbers_47 : decode cX12_numbers 47 = .ok (.iload_n 1, 1) := by decide +kernel
theorem dX12_numbers_48 : decode cX12_numbers 48 = .ok (.aload_n 0, 1) := by decide +kernel
theorem dX12_numbers_49 : decode cX12_numbers 49 = .ok (.getfield 116, 3) := by decide +kernel
theorem dX12_numbers_52 : decode cX12_numbers 52 = .ok (.invokevirtual 120, 3) := by decide +kernel
theorem dX12_numbers_55 : decode cX12_numbers 55 = .ok (.iadd, 1) := by decide +kernel
theorem dX12_numbers_56 : decode cX12_numbers 56 = .ok (.bipush 48, 2) := by decide +kernel
theorem dX12_numbers_58 : decode cX12_numbers 58 = .ok (.isub, 1) := by decide +kernel
theorem dX12_numbers_59 : decode cX12_numbers 59 = .ok (.istore 5, 2) := by decide +kernel
theorem dX12_numbers_61 : decode cX12_numbers 61 = .ok (.iinc 4 1, 3) := by decide +kernel
theorem dX12_numbers_64 : decode cX12_numbers 64 = .ok (.aload_n 0, 1) := by decide +kernel
theorem dX12_numbers_65 : decode cX12_numbers 65 = .ok (.dup, 1) := by decide +kernel
theorem dX12_numbers_66 : decode cX12_numbers 66 = .ok (.getfield 116, 3) := by decide +kernel
theorem dX12_numbers_69 : decode cX12_numbers 69 = .ok (.iconst 1, 1) := by decide +kernel
theorem dX12_numbers_70 : decode cX12_numbers 70 = .ok (.iadd, 1) := by decide +kernel
theorem dX12_numbers_71 : decode cX12_numbers 71 = .ok (.putfield 116, 3) := by decide +kernel
theorem dX12_numbers_74 : decode cX12_numbers 74 = .ok (.goto (-61), 3) := by decide +kernel
theorem dX12_numbers_77 : decode cX12_numbers 77 = .ok (.iload 4, 2) := by decide +kernel
theorem dX12_numbers_79 : decode cX12_numbers 79 = .ok (.i2l, 1) := by decide +kernel
theorem dX12_numbers_80 : decode cX12_numbers 80 = .ok (.lconst 1, 1) := by decide +kernel
theorem dX12_numbers_81 : decode cX12_numbers 81 = .ok (.ldc2_w 128, 3) := by decide +kernel
theorem dX12_numbers_84 : decode cX12_numbers 84 = .ok (.invokestatic 97, 3) := by decide +kernel
theorem dX12_numbers_87 : decode cX12_numbers 87 = .ok (.ifCond .eq 29, 3) := by decide +kernel
theorem dX12_numbers_90 : decode cX12_numbers 90 = .ok (.aload_n 0, 1) := by decide +kernel
theorem dX12_numbers_91 : decode cX12_numbers 91 = .ok (.iload_n 1, 1) := by decide +kernel
theorem dX12_numbers_92 : decode cX12_numbers 92 = .ok (.aload_n 0, 1) := by decide +kernel
theorem dX12_numbers_93 : decode cX12_numbers 93 = .ok (.getfield 116, 3) := by decide +kernel
theorem dX12_numbers_96 : decode cX12_numbers 96 = .ok (.invokevirtual 120, 3) := by decide +kernel
theorem dX12_numbers_99 : decode cX12_numbers 99 = .ok (.iload_n 3, 1) := by decide +kernel
theorem dX12_numbers_100 : decode cX12_numbers 100 = .ok (.iload_n 2, 1) := by decide +kernel
theorem dX12_numbers_101 : decode cX12_numbers 101 = .ok (.iconst 1, 1) := by decide +kernel
theorem dX12_numbers_102 : decode cX12_numbers 102 = .ok (.isub, 1) := by decide +kernel
theorem dX12_numbers_103 : decode cX12_numbers 103 = .ok (.if_icmp .ge 8, 3) := by decide +kernel
theorem dX12_numbers_106 : decode cX12_numbers 106 = .ok (.bipush 44, 2) := by decide +kernel
theorem dX12_numbers_108 : decode cX12_numbers 108 = .ok (.goto 5, 3) := by decide +kernel
theorem dX12_numbers_111 : decode cX12_numbers 111 = .ok (.bipush 59, 2) := by decide +kernel
theorem dX12_numbers_113 : decode cX12_numbers 113 = .ok (.if_icmp .eq 5, 3) := by decide +kernel
theorem dX12_numbers_116 : decode cX12_numbers 116 = .ok (.iconst 0, 1) := by decide +kernel
theorem dX12_numbers_117 : decode cX12_numbers 117 = .ok (.ireturn, 1) := by decide +kernel
theorem dX12_numbers_118 : decode cX12_numbers 118 = .ok (.aload_n 0, 1) := by decide +kernel
theorem dX12_numbers_119 : decode cX12_numbers 119 = .ok (.getfield 70, 3) := by decide +kernel
theorem dX12_numbers_122 : decode cX12_numbers 122 = .ok (.iload_n 3, 1) := by decide +kernel
theorem dX12_numbers_123 : decode cX12_numbers 123 = .ok (.iload 5, 2) := by decide +kernel
theorem dX12_numbers_125 : decode cX12_numbers 125 = .ok (.iastore, 1) := by decide +kernel
theorem dX12_numbers_126 : decode cX12_numbers 126 = .ok (.aload_n 0, 1) := by decide +kernel
theorem dX12_numbers_127 : decode cX12_numbers 127 = .ok (.dup, 1) := by decide +kernel
theorem dX12_numbers_128 : decode cX12_numbers 128 = .ok (.getfield 116, 3) := by decide +kernel
theorem dX12_numbers_131 : decode cX12_numbers 131 = .ok (.iconst 1, 1) := by decide +kernel
theorem dX12_numbers_132 : decode cX12_numbers 132 = .ok (.iadd, 1) := by decide +kernel
theorem dX12_numbers_133 : decode cX12_numbers 133 = .ok (.putfield 116, 3) := by decide +kernel
theorem dX12_numbers_136 : decode cX12_numbers 136 = .ok (.iinc 3 1, 3) := by decide +kernel
theorem dX12_numbers_139 : decode cX12_numbers 139 = .ok (.goto (-137), 3) := by decide +kernel
theorem dX12_numbers_142 : decode cX12_numbers 142 = .ok (.iconst 1, 1) := by decide +kernel
theorem dX12_numbers_143 : decode cX12_numbers 143 = .ok (.ireturn, 1) := by decide +kernel
set_option maxRecDepth 20000 in
theorem ggX12_item_X12_byteAt : GoodIn wsX12_item wsX12_byteAt := goodIn_r _ [11, 12, 13, 28, 29, 30, 31, 32, 33, 34, 35, 36, 37, 38, 39, 40, 41, 42, 43, 44, 45, 46, 47, 48, 49, 50, 51, 52, 53, 54, 55, 56, 57, 58, 59, 60, 61, 62, 63, 64, 65, 66, 67] (by decide +kernel) (by decide +kernel)
set_option maxRecDepth 20000 in
theorem gX12_item_X12_byteAt : GoodIn wsX12_item (wsV RX12 120 RX12 yX12_byteAt wsX12_byteAt) := goodIn_app (goodIn_of _ (by decide +kernel)) ggX12_item_X12_byteAt
set_option maxRecDepth 20000 in
theorem ggX12_item_X12_numbers : GoodIn wsX12_item wsX12_numbers := goodIn_r _ [17, 1, 18, 19, 20, 2, 7, 8, 9, 10, 11, 12, 13, 21, 22, 23, 28, 29, 30, 31, 32, 33, 34, 35, 36, 37, 38, 39, 40, 41, 42, 43, 44, 45, 46, 47, 48, 49, 50, 51, 52, 53, 54, 55, 56, 57, 58, 59, 60, 61, 62, 63, 64, 65, 66, 67] (by decide +kernel) (by decide +kernel)
set_option maxRecDepth 20000 in
theorem gX12_item_X12_numbers : GoodIn wsX12_item (wsV RX12 130 RX12 yX12_numbers wsX12_numbers) := goodIn_app (goodIn_of _ (by decide +kernel)) ggX12_item_X12_numbers
set_option maxRecDepth 20000 in
theorem ggX12_item_X12_in : GoodIn wsX12_item wsX12_in := goodIn_r _ [23] (by decide +kernel) (by decide +kernel)
set_option maxRecDepth 20000 in
theorem gX12_item_X12_in : GoodIn wsX12_item (va_wsS RX12 97 yX12_in wsX12_in) := goodIn_app (goodIn_of _ (by decide +kernel)) ggX12_item_X12_in
set_option maxRecDepth 20000 in
theorem ggX12_item_X12_isYear : GoodIn wsX12_item wsX12_isYear := goodIn_r _ [26, 27, 21, 22, 10, 23] (by decide +kernel) (by decide +kernel)
set_option maxRecDepth 20000 in
theorem gX12_item_X12_isYear : GoodIn wsX12_item (va_wsS RX12 107 yX12_isYear wsX12_isYear) := goodIn_app (goodIn_of _ (by decide +kernel)) ggX12_item_X12_isYear
theorem dX12_item_0 : decode cX12_item 0 = .ok (.aload_n 0, 1) := by decide +kernel
theorem dX12_item_1 : decode cX12_item 1 = .ok (.iload_n 1, 1) := by decide +kernel
theorem dX12_item_2 : decode cX12_item 2 = .ok (.aload_n 0, 1) := by decide +kernel
theorem dX12_item_3 : decode cX12_item 3 = .ok (.getfield 116, 3) := by decide +kernel
theorem dX12_item_6 : decode cX12_item 6 = .ok (.invokevirtual 120, 3) := by decide +kernel
theorem dX12_item_9 : decode cX12_item 9 = .ok (.istore_n 2, 1) := by decide +kernel
theorem dX12_item_10 : decode cX12_item 10 = .ok (.aload_n 0, 1) := by decide +kernel
theorem dX12_item_11 : decode cX12_item 11 = .ok (.dup, 1) := by decide +kernel
theorem dX12_item_12 : decode cX12_item 12 = .ok (.getfield 116, 3) := by decide +kernel
theorem dX12_item_15 : decode cX12_item 15 = .ok (.iconst 1, 1) := by decide +kernel
theorem dX12_item_16 : decode cX12_item 16 = .ok (.iadd, 1) := by decide +kernel
theorem dX12_item_17 : decode cX12_item 17 = .ok (.putfield 116, 3) := by decide +kernel
theorem dX12_item_20 : decode cX12_item 20 = .ok (.iload_n 2, 1) := by decide +kernel
theorem dX12_item_21 : decode cX12_item 21 = .ok (.bipush 119, 2) := by decide +kernel
theorem dX12_item_23 : decode cX12_item 23 = .ok (.if_icmp .ne 80, 3) := by decide +kernel
theorem dX12_item_26 : decode cX12_item 26 = .ok (.aload_n 0, 1) := by decide +kernel
theorem dX12_item_27 : decode cX12_item 27 = .ok (.iload_n 1, 1) := by decide +kernel
theorem dX12_item_28 : decode cX12_item 28 = .ok (.iconst 3, 1) := by decide +kernel
theorem dX12_item_29 : decode cX12_item 29 = .ok (.invokevirtual 130, 3) := by decide +kernel
theorem dX12_item_32 : decode cX12_item 32 = .ok (.ifCond .eq 53, 3) := by decide +kernel
theorem dX12_item_35 : decode cX12_item 35 = .ok (.aload_n 0, 1) := by decide +kernel
theorem dX12_item_36 : decode cX12_item 36 = .ok (.getfield 70, 3) := by decide +kernel
theorem dX12_item_39 : decode cX12_item 39 = .ok (.iconst 0, 1) := by decide +kernel
theorem dX12_item_40 : decode cX12_item 40 = .ok (.iaload, 1) := by decide +kernel
theorem dX12_item_41 : decode cX12_item 41 = .ok (.i2l, 1) := by decide +kernel
theorem dX12_item_42 : decode cX12_item 42 = .ok (.lconst 0, 1) := by decide +kernel
theorem dX12_item_43 : decode cX12_item 43 = .ok (.ldc2_w 105, 3) := by decide +kernel
theorem dX12_item_46 : decode cX12_item 46 = .ok (.invokestatic 97, 3) := by decide +kernel
theorem dX12_item_49 : decode cX12_item 49 = .ok (.ifCond .eq 36, 3) := by decide +kernel
theorem dX12_item_52 : decode cX12_item 52 = .ok (.aload_n 0, 1) := by decide +kernel
theorem dX12_item_53 : decode cX12_item 53 = .ok (.getfield 70, 3) := by decide +kernel
theorem dX12_item_56 : decode cX12_item 56 = .ok (.iconst 1, 1) := by decide +kernel
theorem dX12_item_57 : decode cX12_item 57 = .ok (.iaload, 1) := by decide +kernel
theorem dX12_item_58 : decode cX12_item 58 = .ok (.invokestatic 107, 3) := by decide +kernel
theorem dX12_item_61 : decode cX12_item 61 = .ok (.ifCond .eq 24, 3) := by decide +kernel
theorem dX12_item_64 : decode cX12_item 64 = .ok (.aload_n 0, 1) := by decide +kernel
theorem dX12_item_65 : decode cX12_item 65 = .ok (.getfield 70, 3) := by decide +kernel
theorem dX12_item_68 : decode cX12_item 68 = .ok (.iconst 2, 1) := by decide +kernel
theorem dX12_item_69 : decode cX12_item 69 = .ok (.iaload, 1) := by decide +kernel
theorem dX12_item_70 : decode cX12_item 70 = .ok (.i2l, 1) := by decide +kernel
theorem dX12_item_71 : decode cX12_item 71 = .ok (.lconst 0, 1) := by decide +kernel
theorem dX12_item_72 : decode cX12_item 72 = .ok (.ldc2_w 110, 3) := by decide +kernel
theorem dX12_item_75 : decode cX12_item 75 = .ok (.invokestatic 97, 3) := by decide +kernel
theorem dX12_item_78 : decode cX12_item 78 = .ok (.ifCond .eq 7, 3) := by decide +kernel
theorem dX12_item_81 : decode cX12_item 81 = .ok (.iconst 1, 1) := by decide +kernel
theorem dX12_item_82 : decode cX12_item 82 = .ok (.goto 4, 3) := by decide +kernel
theorem dX12_item_85 : decode cX12_item 85 = .ok (.iconst 0, 1) := by decide +kernel
theorem dX12_item_86 : decode cX12_item 86 = .ok (.istore_n 3, 1) := by decide +kernel
theorem dX12_item_87 : decode cX12_item 87 = .ok (.aload_n 0, 1) := by decide +kernel
theorem dX12_item_88 : decode cX12_item 88 = .ok (.getfield 70, 3) := by decide +kernel
theorem dX12_item_91 : decode cX12_item 91 = .ok (.iconst 3, 1) := by decide +kernel
theorem dX12_item_92 : decode cX12_item 92 = .ok (.iconst 0, 1) := by decide +kernel
theorem dX12_item_93 : decode cX12_item 93 = .ok (.iastore, 1) := by decide +kernel
theorem dX12_item_94 : decode cX12_item 94 = .ok (.aload_n 0, 1) := by decide +kernel
theorem dX12_item_95 : decode cX12_item 95 = .ok (.getfield 70, 3) := by decide +kernel
theorem dX12_item_98 : decode cX12_item 98 = .ok (.iconst 4, 1) := by decide +kernel
theorem dX12_item_99 : decode cX12_item 99 = .ok (.iconst 0, 1) := by decide +kernel
theorem dX12_item_100 : decode cX12_item 100 = .ok (.iastore, 1) := by decide +kernel
theorem dX12_item_101 : decode cX12_item 101 = .ok (.iload_n 3, 1) := by decide +kernel
theorem dX12_item_102 : decode cX12_item 102 = .ok (.ireturn, 1) := by decide +kernel
theorem dX12_item_103 : decode cX12_item 103 = .ok (.iload_n 2, 1) := by decide +kernel
theorem dX12_item_104 : decode cX12_item 104 = .ok (.bipush 108, 2) := by decide +kernel
theorem dX12_item_106 : decode cX12_item 106 = .ok (.if_icmp .eq 11, 3) := by decide +kernel
theorem dX12_item_109 : decode cX12_item 109 = .ok (.iload_n 2, 1) := by decide +kernel
theorem dX12_item_110 : decode cX12_item 110 = .ok (.bipush 98, 2) := by decide +kernel
theorem dX12_item_112 : decode cX12_item 112 = .ok (.if_icmp .eq 5, 3) := by decide +kernel
theorem dX12_item_115 : decode cX12_item 115 = .ok (.iconst 0, 1) := by decide +kernel
theorem dX12_item_116 : decode cX12_item 116 = .ok (.ireturn, 1) := by decide +kernel
theorem dX12_item_117 : decode cX12_item 117 = .ok (.aload_n 0, 1) := by decide +kernel
theorem dX12_item_118 : decode cX12_item 118 = .ok (.iload_n 1, 1) := by decide +kernel
theorem dX12_item_119 : decode cX12_item 119 = .ok (.iconst 5, 1) := by decide +kernel
theorem dX12_item_120 : decode cX12_item 120 = .ok (.invokevirtual 130, 3) := by decide +kernel
theorem dX12_item_123 : decode cX12_item 123 = .ok (.ifCond .eq 91, 3) := by decide +kernel
theorem dX12_item_126 : decode cX12_item 126 = .ok (.aload_n 0, 1) := by decide +kernel
theorem dX12_item_127 : decode cX12_item 127 = .ok (.getfield 70, 3) := by decide +kernel
theorem dX12_item_130 : decode cX12_item 130 = .ok (.iconst 0, 1) := by decide +kernel
theorem dX12_item_131 : decode cX12_item 131 = .ok (.iaload, 1) := by decide +kernel
theorem dX12_item_132 : decode cX12_item 132 = .ok (.i2l, 1) := by decide +kernel
theorem dX12_item_133 : decode cX12_item 133 = .ok (.lconst 0, 1) := by decide +kernel
theorem dX12_item_134 : decode cX12_item 134 = .ok (.ldc2_w 105, 3) := by decide +kernel
theorem dX12_item_137 : decode cX12_item 137 = .ok (.invokestatic 97, 3) := by decide +kernel
theorem dX12_item_140 : decode cX12_item 140 = .ok (.ifCond .eq 74, 3) := by decide +kernel
theorem dX12_item_143 : decode cX12_item 143 = .ok (.aload_n 0, 1) := by decide +kernel
theorem dX12_item_144 : decode cX12_item 144 = .ok (.getfield 70, 3) := by decide +kernel
theorem dX12_item_147 : decode cX12_item 147 = .ok (.iconst 1, 1) := by decide +kernel
theorem dX12_item_148 : decode cX12_item 148 = .ok (.iaload, 1) := by decide +kernel
theorem dX12_item_149 : decode cX12_item 149 = .ok (.i2l, 1) := by decide +kernel
theorem dX12_item_150 : decode cX12_item 150 = .ok (.lconst 0, 1) := by decide +kernel
theorem dX12_item_151 : decode cX12_item 151 = .ok (.ldc2_w 134, 3) := by decide +kernel
theorem dX12_item_154 : decode cX12_item 154 = .ok (.invokestatic 97, 3) := by decide +kernel
theorem dX12_item_157 : decode cX12_item 157 = .ok (.ifCond .eq 57, 3) := by decide +kernel
theorem dX12_item_160 : decode cX12_item 160 = .ok (.aload_n 0, 1) := by decide +kernel
theorem dX12_item_161 : decode cX12_item 161 = .ok (.getfield 70, 3) := by decide +kernel
theorem dX12_item_164 : decode cX12_item 164 = .ok (.iconst 2, 1) := by decide +kernel
theorem dX12_item_165 : decode cX12_item 165 = .ok (.iaload, 1) := by decide +kernel
theorem dX12_item_166 : decode cX12_item 166 = .ok (.i2l, 1) := by decide +kernel
theorem dX12_item_167 : decode cX12_item 167 = .ok (.lconst 0, 1) := by decide +kernel
theorem dX12_item_168 : decode cX12_item 168 = .ok (.aload_n 0, 1) := by decide +kernel
theorem dX12_item_169 : decode cX12_item 169 = .ok (.getfield 70, 3) := by decide +kernel
theorem dX12_item_172 : decode cX12_item 172 = .ok (.iconst 3, 1) := by decide +kernel
theorem dX12_item_173 : decode cX12_item 173 = .ok (.iaload, 1) := by decide +kernel
theorem dX12_item_174 : decode cX12_item 174 = .ok (.i2l, 1) := by decide +kernel
theorem dX12_item_175 : decode cX12_item 175 = .ok (.invokestatic 97, 3) := by decide +kernel
theorem dX12_item_178 : decode cX12_item 178 = .ok (.ifCond .eq 36, 3) := by decide +kernel
theorem dX12_item_181 : decode cX12_item 181 = .ok (.aload_n 0, 1) := by decide +kernel
theorem dX12_item_182 : decode cX12_item 182 = .ok (.getfield 70, 3) := by decide +kernel
theorem dX12_item_185 : decode cX12_item 185 = .ok (.iconst 3, 1) := by decide +kernel
theorem dX12_item_186 : decode cX12_item 186 = .ok (.iaload, 1) := by decide +kernel
theorem dX12_item_187 : decode cX12_item 187 = .ok (.invokestatic 107, 3) := by decide +kernel
theorem dX12_item_190 : decode cX12_item 190 = .ok (.ifCond .eq 24, 3) := by decide +kernel
theorem dX12_item_193 : decode cX12_item 193 = .ok (.aload_n 0, 1) := by decide +kernel
theorem dX12_item_194 : decode cX12_item 194 = .ok (.getfield 70, 3) := by decide +kernel
theorem dX12_item_197 : decode cX12_item 197 = .ok (.iconst 4, 1) := by decide +kernel
theorem dX12_item_198 : decode cX12_item 198 = .ok (.iaload, 1) := by decide +kernel
theorem dX12_item_199 : decode cX12_item 199 = .ok (.i2l, 1) := by decide +kernel
theorem dX12_item_200 : decode cX12_item 200 = .ok (.lconst 0, 1) := by decide +kernel
theorem dX12_item_201 : decode cX12_item 201 = .ok (.ldc2_w 114, 3) := by decide +kernel
theorem dX12_item_204 : decode cX12_item 204 = .ok (.invokestatic 97, 3) := by decide +kernel
theorem dX12_item_207 : decode cX12_item 207 = .ok (.ifCond .eq 7, 3) := by decide +kernel
theorem dX12_item_210 : decode cX12_item 210 = .ok (.iconst 1, 1) := by decide +kernel
theorem dX12_item_211 : decode cX12_item 211 = .ok (.goto 4, 3) := by decide +kernel
theorem dX12_item_214 : decode cX12_item 214 = .ok (.iconst 0, 1) := by decide +kernel
theorem dX12_item_215 : decode cX12_item 215 = .ok (.ireturn, 1) := by decide +kernel
set_option maxRecDepth 20000 in
theorem ggX12_readAll_X12_item : GoodIn wsX12_readAll wsX12_item := goodIn_r _ [10, 2, 5, 11, 12, 13, 14, 15, 16, 17, 9, 18, 3, 19, 20, 21, 22, 23, 24, 25, 26, 27, 28, 29, 30, 31, 32, 33, 34, 35, 36, 37, 38, 39, 40, 41, 42, 43, 44, 45, 46, 47, 48, 49, 50, 51, 52, 53, 54, 55, 56, 57, 58, 59, 60, 61, 62, 63, 64, 65, 66, 67, 68, 69, 70, 71, 72, 73] (by decide +kernel) (by decide +kernel)
set_option maxRecDepth 20000 in
theorem gX12_readAll_X12_item : GoodIn wsX12_readAll (wsV RX12 136 RX12 yX12_item wsX12_item) := goodIn_app (goodIn_of _ (by decide +kernel)) ggX12_readAll_X12_item
set_option maxRecDepth 20000 in
theorem ggX12_readAll_X12_byteAt : GoodIn wsX12_readAll wsX12_byteAt := goodIn_r _ [18, 3, 19, 34, 35, 36, 37, 38, 39, 40, 41, 42, 43, 44, 45, 46, 47, 48, 49, 50, 51, 52, 53, 54, 55, 56, 57, 58, 59, 60, 61, 62, 63, 64, 65, 66, 67, 68, 69, 70, 71, 72, 73] (by decide +kernel) (by decide +kernel)
set_option maxRecDepth 20000 in
theorem gX12_readAll_X12_byteAt : GoodIn wsX12_readAll (wsV RX12 120 RX12 yX12_byteAt wsX12_byteAt) := goodIn_app (goodIn_of _ (by decide +kernel)) ggX12_readAll_X12_byteAt
theorem dX12_readAll_0 : decode cX12_readAll 0 = .ok (.aload_n 0, 1) := by decide +kernel
theorem dX12_readAll_1 : decode cX12_readAll 1 = .ok (.getfield 16, 3) := by decide +kernel
theorem dX12_readAll_4 : decode cX12_readAll 4 = .ok (.iconst 2, 1) := by decide +kernel
theorem dX12_readAll_5 : decode cX12_readAll 5 = .ok (.iconst 0, 1) := by decide +kernel
theorem dX12_readAll_6 : decode cX12_readAll 6 = .ok (.iastore, 1) := by decide +kernel
theorem dX12_readAll_7 : decode cX12_readAll 7 = .ok (.aload_n 0, 1) := by decide +kernel
theorem dX12_readAll_8 : decode cX12_readAll 8 = .ok (.iconst 0, 1) := by decide +kernel
theorem dX12_readAll_9 : decode cX12_readAll 9 = .ok (.putfield 116, 3) := by decide +kernel
theorem dX12_readAll_12 : decode cX12_readAll 12 = .ok (.aload_n 0, 1) := by decide +kernel
theorem dX12_readAll_13 : decode cX12_readAll 13 = .ok (.getfield 116, 3) := by decide +kernel
theorem dX12_readAll_16 : decode cX12_readAll 16 = .ok (.aload_n 0, 1) := by decide +kernel
theorem dX12_readAll_17 : decode cX12_readAll 17 = .ok (.getfield 7, 3) := by decide +kernel
theorem dX12_readAll_20 : decode cX12_readAll 20 = .ok (.iload_n 1, 1) := by decide +kernel
theorem dX12_readAll_21 : decode cX12_readAll 21 = .ok (.iaload, 1) := by decide +kernel
theorem dX12_readAll_22 : decode cX12_readAll 22 = .ok (.if_icmp .ge 90, 3) := by decide +kernel
theorem dX12_readAll_25 : decode cX12_readAll 25 = .ok (.aload_n 0, 1) := by decide +kernel
theorem dX12_readAll_26 : decode cX12_readAll 26 = .ok (.getfield 116, 3) := by decide +kernel
theorem dX12_readAll_29 : decode cX12_readAll 29 = .ok (.istore_n 2, 1) := by decide +kernel
theorem dX12_readAll_30 : decode cX12_readAll 30 = .ok (.aload_n 0, 1) := by decide +kernel
theorem dX12_readAll_31 : decode cX12_readAll 31 = .ok (.iload_n 1, 1) := by decide +kernel
theorem dX12_readAll_32 : decode cX12_readAll 32 = .ok (.invokevirtual 136, 3) := by decide +kernel
theorem dX12_readAll_35 : decode cX12_readAll 35 = .ok (.ifCond .ne 5, 3) := by decide +kernel
theorem dX12_readAll_38 : decode cX12_readAll 38 = .ok (.iload_n 2, 1) := by decide +kernel
theorem dX12_readAll_39 : decode cX12_readAll 39 = .ok (.ireturn, 1) := by decide +kernel
theorem dX12_readAll_40 : decode cX12_readAll 40 = .ok (.sipush 480, 3) := by decide +kernel
theorem dX12_readAll_43 : decode cX12_readAll 43 = .ok (.bipush 6, 2) := by decide +kernel
theorem dX12_readAll_45 : decode cX12_readAll 45 = .ok (.aload_n 0, 1) := by decide +kernel
theorem dX12_readAll_46 : decode cX12_readAll 46 = .ok (.getfield 16, 3) := by decide +kernel
theorem dX12_readAll_49 : decode cX12_readAll 49 = .ok (.iconst 2, 1) := by decide +kernel
theorem dX12_readAll_50 : decode cX12_readAll 50 = .ok (.iaload, 1) := by decide +kernel
theorem dX12_readAll_51 : decode cX12_readAll 51 = .ok (.imul, 1) := by decide +kernel
theorem dX12_readAll_52 : decode cX12_readAll 52 = .ok (.iadd, 1) := by decide +kernel
theorem dX12_readAll_53 : decode cX12_readAll 53 = .ok (.istore_n 3, 1) := by decide +kernel
theorem dX12_readAll_54 : decode cX12_readAll 54 = .ok (.aload_n 0, 1) := by decide +kernel
theorem dX12_readAll_55 : decode cX12_readAll 55 = .ok (.getfield 19, 3) := by decide +kernel
theorem dX12_readAll_58 : decode cX12_readAll 58 = .ok (.iload_n 3, 1) := by decide +kernel
theorem dX12_readAll_59 : decode cX12_readAll 59 = .ok (.aload_n 0, 1) := by decide +kernel
theorem dX12_readAll_60 : decode cX12_readAll 60 = .ok (.iload_n 1, 1) := by decide +kernel
theorem dX12_readAll_61 : decode cX12_readAll 61 = .ok (.iload_n 2, 1) := by decide +kernel
theorem dX12_readAll_62 : decode cX12_readAll 62 = .ok (.invokevirtual 120, 3) := by decide +kernel
theorem dX12_readAll_65 : decode cX12_readAll 65 = .ok (.iastore, 1) := by decide +kernel
theorem dX12_readAll_66 : decode cX12_readAll 66 = .ok (.iconst 0, 1) := by decide +kernel
theorem dX12_readAll_67 : decode cX12_readAll 67 = .ok (.istore 4, 2) := by decide +kernel
theorem dX12_readAll_69 : decode cX12_readAll 69 = .ok (.iload 4, 2) := by decide +kernel
theorem dX12_readAll_71 : decode cX12_readAll 71 = .ok (.iconst 5, 1) := by decide +kernel
theorem dX12_readAll_72 : decode cX12_readAll 72 = .ok (.if_icmp .ge 27, 3) := by decide +kernel
theorem dX12_readAll_75 : decode cX12_readAll 75 = .ok (.aload_n 0, 1) := by decide +kernel
theorem dX12_readAll_76 : decode cX12_readAll 76 = .ok (.getfield 19, 3) := by decide +kernel
theorem dX12_readAll_79 : decode cX12_readAll 79 = .ok (.iload_n 3, 1) := by decide +kernel
theorem dX12_readAll_80 : decode cX12_readAll 80 = .ok (.iconst 1, 1) := by decide +kernel
theorem dX12_readAll_81 : decode cX12_readAll 81 = .ok (.iadd, 1) := by decide +kernel
theorem dX12_readAll_82 : decode cX12_readAll 82 = .ok (.iload 4, 2) := by decide +kernel
theorem dX12_readAll_84 : decode cX12_readAll 84 = .ok (.iadd, 1) := by decide +kernel
theorem dX12_readAll_85 : decode cX12_readAll 85 = .ok (.aload_n 0, 1) := by decide +kernel
theorem dX12_readAll_86 : decode cX12_readAll 86 = .ok (.getfield 70, 3) := by decide +kernel
theorem dX12_readAll_89 : decode cX12_readAll 89 = .ok (.iload 4, 2) := by decide +kernel
theorem dX12_readAll_91 : decode cX12_readAll 91 = .ok (.iaload, 1) := by decide +kernel
theorem dX12_readAll_92 : decode cX12_readAll 92 = .ok (.iastore, 1) := by decide +kernel
theorem dX12_readAll_93 : decode cX12_readAll 93 = .ok (.iinc 4 1, 3) := by decide +kernel
theorem dX12_readAll_96 : decode cX12_readAll 96 = .ok (.goto (-27), 3) := by decide +kernel
theorem dX12_readAll_99 : decode cX12_readAll 99 = .ok (.aload_n 0, 1) := by decide +kernel
theorem dX12_readAll_100 : decode cX12_readAll 100 = .ok (.getfield 16, 3) := by decide +kernel
theorem dX12_readAll_103 : decode cX12_readAll 103 = .ok (.iconst 2, 1) := by decide +kernel
theorem dX12_readAll_104 : decode cX12_readAll 104 = .ok (.dup2, 1) := by decide +kernel
theorem dX12_readAll_105 : decode cX12_readAll 105 = .ok (.iaload, 1) := by decide +kernel
theorem dX12_readAll_106 : decode cX12_readAll 106 = .ok (.iconst 1, 1) := by decide +kernel
theorem dX12_readAll_107 : decode cX12_readAll 107 = .ok (.iadd, 1) := by decide +kernel
theorem dX12_readAll_108 : decode cX12_readAll 108 = .ok (.iastore, 1) := by decide +kernel
theorem dX12_readAll_109 : decode cX12_readAll 109 = .ok (.goto (-97), 3) := by decide +kernel
theorem dX12_readAll_112 : decode cX12_readAll 112 = .ok (.bipush (-4), 2) := by decide +kernel
theorem dX12_readAll_114 : decode cX12_readAll 114 = .ok (.ireturn, 1) := by decide +kernel
set_option maxRecDepth 20000 in
theorem ggX12_fault_X12_isTongue : GoodIn wsX12_fault wsX12_isTongue := goodIn_r _ [4, 5, 6, 3, 7] (by decide +kernel) (by decide +kernel)
set_option maxRecDepth 20000 in
theorem gX12_fault_X12_isTongue : GoodIn wsX12_fault (va_wsS RX12 101 yX12_isTongue wsX12_isTongue) := goodIn_app (goodIn_of _ (by decide +kernel)) ggX12_fault_X12_isTongue
set_option maxRecDepth 20000 in
theorem ggX12_fault_X12_readAll : GoodIn wsX12_fault wsX12_readAll := goodIn_r _ [11, 12, 13, 14, 15, 16, 17, 18, 19, 3, 20, 21, 22, 23, 24, 25, 26, 27, 28, 29, 30, 31, 32, 33, 34, 35, 36, 5, 6, 7, 37, 38, 39, 40, 41, 42, 43, 44, 45, 46, 47, 48, 49, 50, 51, 52, 53, 54, 55, 56, 57, 58, 59, 60, 61, 62, 63, 64, 65, 66, 67, 68, 69, 70, 71, 72, 73, 74, 75, 76, 77, 78, 79, 80] (by decide +kernel) (by decide +kernel)
set_option maxRecDepth 20000 in
theorem gX12_fault_X12_readAll : GoodIn wsX12_fault (wsV RX12 139 RX12 yX12_readAll wsX12_readAll) := goodIn_app (goodIn_of _ (by decide +kernel)) ggX12_fault_X12_readAll
theorem dX12_fault_0 : decode cX12_fault 0 = .ok (.iload_n 1, 1) := by decide +kernel
theorem dX12_fault_1 : decode cX12_fault 1 = .ok (.invokestatic 101, 3) := by decide +kernel
theorem dX12_fault_4 : decode cX12_fault 4 = .ok (.ifCond .eq 11, 3) := by decide +kernel
theorem dX12_fault_7 : decode cX12_fault 7 = .ok (.aload_n 0, 1) := by decide +kernel
theorem dX12_fault_8 : decode cX12_fault 8 = .ok (.iload_n 1, 1) := by decide +kernel
theorem dX12_fault_9 : decode cX12_fault 9 = .ok (.invokevirtual 139, 3) := by decide +kernel
theorem dX12_fault_12 : decode cX12_fault 12 = .ok (.goto 4, 3) := by decide +kernel
theorem dX12_fault_15 : decode cX12_fault 15 = .ok (.iconst (-1), 1) := by decide +kernel
theorem dX12_fault_16 : decode cX12_fault 16 = .ok (.ireturn, 1) := by decide +kernel
set_option maxRecDepth 20000 in
theorem ggX12_force_X12_isTongue : GoodIn wsX12_force wsX12_isTongue := goodIn_r _ [6, 7, 8, 5, 9] (by decide +kernel) (by decide +kernel)
set_option maxRecDepth 20000 in
theorem gX12_force_X12_isTongue : GoodIn wsX12_force (va_wsS RX12 101 yX12_isTongue wsX12_isTongue) := goodIn_app (goodIn_of _ (by decide +kernel)) ggX12_force_X12_isTongue
set_option maxRecDepth 20000 in
theorem ggX12_force_X12_readAll : GoodIn wsX12_force wsX12_readAll := goodIn_r _ [13, 1, 14, 15, 2, 16, 17, 18, 19, 5, 20, 21, 22, 23, 24, 25, 26, 27, 28, 29, 30, 31, 32, 33, 34, 35, 36, 7, 8, 9, 37, 38, 39, 40, 41, 42, 43, 44, 45, 46, 47, 48, 49, 50, 51, 52, 53, 54, 55, 56, 57, 58, 59, 60, 61, 62, 63, 64, 65, 66, 67, 68, 69, 70, 71, 72, 73, 74, 75, 76, 77, 78, 79, 80] (by decide +kernel) (by decide +kernel)
set_option maxRecDepth 20000 in
theorem gX12_force_X12_readAll : GoodIn wsX12_force (wsV RX12 139 RX12 yX12_readAll wsX12_readAll) := goodIn_app (goodIn_of _ (by decide +kernel)) ggX12_force_X12_readAll
theorem dX12_force_0 : decode cX12_force 0 = .ok (.iload_n 1, 1) := by decide +kernel
theorem dX12_force_1 : decode cX12_force 1 = .ok (.invokestatic 101, 3) := by decide +kernel
theorem dX12_force_4 : decode cX12_force 4 = .ok (.ifCond .ne 5, 3) := by decide +kernel
theorem dX12_force_7 : decode cX12_force 7 = .ok (.iconst (-1), 1) := by decide +kernel
theorem dX12_force_8 : decode cX12_force 8 = .ok (.ireturn, 1) := by decide +kernel
theorem dX12_force_9 : decode cX12_force 9 = .ok (.aload_n 0, 1) := by decide +kernel
theorem dX12_force_10 : decode cX12_force 10 = .ok (.iload_n 1, 1) := by decide +kernel
theorem dX12_force_11 : decode cX12_force 11 = .ok (.invokevirtual 139, 3) := by decide +kernel
theorem dX12_force_14 : decode cX12_force 14 = .ok (.bipush (-4), 2) := by decide +kernel
theorem dX12_force_16 : decode cX12_force 16 = .ok (.if_icmp .eq 6, 3) := by decide +kernel
theorem dX12_force_19 : decode cX12_force 19 = .ok (.bipush (-2), 2) := by decide +kernel
theorem dX12_force_21 : decode cX12_force 21 = .ok (.ireturn, 1) := by decide +kernel
theorem dX12_force_22 : decode cX12_force 22 = .ok (.aload_n 0, 1) := by decide +kernel
theorem dX12_force_23 : decode cX12_force 23 = .ok (.getfield 16, 3) := by decide +kernel
theorem dX12_force_26 : decode cX12_force 26 = .ok (.iload_n 1, 1) := by decide +kernel
theorem dX12_force_27 : decode cX12_force 27 = .ok (.aload_n 0, 1) := by decide +kernel
theorem dX12_force_28 : decode cX12_force 28 = .ok (.getfield 16, 3) := by decide +kernel
theorem dX12_force_31 : decode cX12_force 31 = .ok (.iconst 2, 1) := by decide +kernel
theorem dX12_force_32 : decode cX12_force 32 = .ok (.iaload, 1) := by decide +kernel
theorem dX12_force_33 : decode cX12_force 33 = .ok (.iastore, 1) := by decide +kernel
theorem dX12_force_34 : decode cX12_force 34 = .ok (.iconst 0, 1) := by decide +kernel
theorem dX12_force_35 : decode cX12_force 35 = .ok (.istore_n 2, 1) := by decide +kernel
theorem dX12_force_36 : decode cX12_force 36 = .ok (.iload_n 2, 1) := by decide +kernel
theorem dX12_force_37 : decode cX12_force 37 = .ok (.sipush 240, 3) := by decide +kernel
theorem dX12_force_40 : decode cX12_force 40 = .ok (.if_icmp .ge 31, 3) := by decide +kernel
theorem dX12_force_43 : decode cX12_force 43 = .ok (.aload_n 0, 1) := by decide +kernel
theorem dX12_force_44 : decode cX12_force 44 = .ok (.getfield 19, 3) := by decide +kernel
theorem dX12_force_47 : decode cX12_force 47 = .ok (.sipush 240, 3) := by decide +kernel
theorem dX12_force_50 : decode cX12_force 50 = .ok (.iload_n 1, 1) := by decide +kernel
theorem dX12_force_51 : decode cX12_force 51 = .ok (.imul, 1) := by decide +kernel
theorem dX12_force_52 : decode cX12_force 52 = .ok (.iload_n 2, 1) := by decide +kernel
theorem dX12_force_53 : decode cX12_force 53 = .ok (.iadd, 1) := by decide +kernel
theorem dX12_force_54 : decode cX12_force 54 = .ok (.aload_n 0, 1) := by decide +kernel
theorem dX12_force_55 : decode cX12_force 55 = .ok (.getfield 19, 3) := by decide +kernel
theorem dX12_force_58 : decode cX12_force 58 = .ok (.sipush 480, 3) := by decide +kernel
theorem dX12_force_61 : decode cX12_force 61 = .ok (.iload_n 2, 1) := by decide +kernel
theorem dX12_force_62 : decode cX12_force 62 = .ok (.iadd, 1) := by decide +kernel
theorem dX12_force_63 : decode cX12_force 63 = .ok (.iaload, 1) := by decide +kernel
theorem dX12_force_64 : decode cX12_force 64 = .ok (.iastore, 1) := by decide +kernel
theorem dX12_force_65 : decode cX12_force 65 = .ok (.iinc 2 1, 3) := by decide +kernel
theorem dX12_force_68 : decode cX12_force 68 = .ok (.goto (-32), 3) := by decide +kernel
theorem dX12_force_71 : decode cX12_force 71 = .ok (.aload_n 0, 1) := by decide +kernel
theorem dX12_force_72 : decode cX12_force 72 = .ok (.getfield 16, 3) := by decide +kernel
theorem dX12_force_75 : decode cX12_force 75 = .ok (.iload_n 1, 1) := by decide +kernel
theorem dX12_force_76 : decode cX12_force 76 = .ok (.iaload, 1) := by decide +kernel
theorem dX12_force_77 : decode cX12_force 77 = .ok (.ireturn, 1) := by decide +kernel
theorem dX12_meaning_0 : decode cX12_meaning 0 = .ok (.iconst (-1), 1) := by decide +kernel
theorem dX12_meaning_1 : decode cX12_meaning 1 = .ok (.istore 4, 2) := by decide +kernel
theorem dX12_meaning_3 : decode cX12_meaning 3 = .ok (.iconst 0, 1) := by decide +kernel
theorem dX12_meaning_4 : decode cX12_meaning 4 = .ok (.istore 5, 2) := by decide +kernel
theorem dX12_meaning_6 : decode cX12_meaning 6 = .ok (.iconst 0, 1) := by decide +kernel
theorem dX12_meaning_7 : decode cX12_meaning 7 = .ok (.istore 6, 2) := by decide +kernel
theorem dX12_meaning_9 : decode cX12_meaning 9 = .ok (.iload 6, 2) := by decide +kernel
theorem dX12_meaning_11 : decode cX12_meaning 11 = .ok (.aload_n 0, 1) := by decide +kernel
theorem dX12_meaning_12 : decode cX12_meaning 12 = .ok (.getfield 22, 3) := by decide +kernel
theorem dX12_meaning_15 : decode cX12_meaning 15 = .ok (.iload_n 1, 1) := by decide +kernel
theorem dX12_meaning_16 : decode cX12_meaning 16 = .ok (.iaload, 1) := by decide +kernel
theorem dX12_meaning_17 : decode cX12_meaning 17 = .ok (.if_icmp .ge 80, 3) := by decide +kernel
theorem dX12_meaning_20 : decode cX12_meaning 20 = .ok (.bipush 60, 2) := by decide +kernel
theorem dX12_meaning_22 : decode cX12_meaning 22 = .ok (.iload_n 1, 1) := by decide +kernel
theorem dX12_meaning_23 : decode cX12_meaning 23 = .ok (.imul, 1) := by decide +kernel
theorem dX12_meaning_24 : decode cX12_meaning 24 = .ok (.iconst 3, 1) := by decide +kernel
theorem dX12_meaning_25 : decode cX12_meaning 25 = .ok (.iload 6, 2) := by decide +kernel
theorem dX12_meaning_27 : decode cX12_meaning 27 = .ok (.imul, 1) := by decide +kernel
theorem dX12_meaning_28 : decode cX12_meaning 28 = .ok (.iadd, 1) := by decide +kernel
theorem dX12_meaning_29 : decode cX12_meaning 29 = .ok (.istore 7, 2) := by decide +kernel
theorem dX12_meaning_31 : decode cX12_meaning 31 = .ok (.aload_n 0, 1) := by decide +kernel
theorem dX12_meaning_32 : decode cX12_meaning 32 = .ok (.getfield 25, 3) := by decide +kernel
theorem dX12_meaning_35 : decode cX12_meaning 35 = .ok (.iload 7, 2) := by decide +kernel
theorem dX12_meaning_37 : decode cX12_meaning 37 = .ok (.iaload, 1) := by decide +kernel
theorem dX12_meaning_38 : decode cX12_meaning 38 = .ok (.iload_n 2, 1) := by decide +kernel
theorem dX12_meaning_39 : decode cX12_meaning 39 = .ok (.if_icmp .ne 52, 3) := by decide +kernel
theorem dX12_meaning_42 : decode cX12_meaning 42 = .ok (.aload_n 0, 1) := by decide +kernel
theorem dX12_meaning_43 : decode cX12_meaning 43 = .ok (.getfield 25, 3) := by decide +kernel
theorem dX12_meaning_46 : decode cX12_meaning 46 = .ok (.iload 7, 2) := by decide +kernel
theorem dX12_meaning_48 : decode cX12_meaning 48 = .ok (.iconst 1, 1) := by decide +kernel
theorem dX12_meaning_49 : decode cX12_meaning 49 = .ok (.iadd, 1) := by decide +kernel
theorem dX12_meaning_50 : decode cX12_meaning 50 = .ok (.iaload, 1) := by decide +kernel
theorem dX12_meaning_51 : decode cX12_meaning 51 = .ok (.iload_n 3, 1) := by decide +kernel
theorem dX12_meaning_52 : decode cX12_meaning 52 = .ok (.if_icmp .gt 39, 3) := by decide +kernel
theorem dX12_meaning_55 : decode cX12_meaning 55 = .ok (.aload_n 0, 1) := by decide +kernel
theorem dX12_meaning_56 : decode cX12_meaning 56 = .ok (.getfield 25, 3) := by decide +kernel
theorem dX12_meaning_59 : decode cX12_meaning 59 = .ok (.iload 7, 2) := by decide +kernel
theorem dX12_meaning_61 : decode cX12_meaning 61 = .ok (.iconst 1, 1) := by decide +kernel
theorem dX12_meaning_62 : decode cX12_meaning 62 = .ok (.iadd, 1) := by decide +kernel
theorem dX12_meaning_63 : decode cX12_meaning 63 = .ok (.iaload, 1) := by decide +kernel
theorem dX12_meaning_64 : decode cX12_meaning 64 = .ok (.iload 4, 2) := by decide +kernel
theorem dX12_meaning_66 : decode cX12_meaning 66 = .ok (.if_icmp .lt 25, 3) := by decide +kernel
theorem dX12_meaning_69 : decode cX12_meaning 69 = .ok (.aload_n 0, 1) := by decide +kernel
theorem dX12_meaning_70 : decode cX12_meaning 70 = .ok (.getfield 25, 3) := by decide +kernel
theorem dX12_meaning_73 : decode cX12_meaning 73 = .ok (.iload 7, 2) := by decide +kernel
theorem dX12_meaning_75 : decode cX12_meaning 75 = .ok (.iconst 1, 1) := by decide +kernel
theorem dX12_meaning_76 : decode cX12_meaning 76 = .ok (.iadd, 1) := by decide +kernel
theorem dX12_meaning_77 : decode cX12_meaning 77 = .ok (.iaload, 1) := by decide +kernel
theorem dX12_meaning_78 : decode cX12_meaning 78 = .ok (.istore 4, 2) := by decide +kernel
theorem dX12_meaning_80 : decode cX12_meaning 80 = .ok (.aload_n 0, 1) := by decide +kernel
theorem dX12_meaning_81 : decode cX12_meaning 81 = .ok (.getfield 25, 3) := by decide +kernel
theorem dX12_meaning_84 : decode cX12_meaning 84 = .ok (.iload 7, 2) := by decide +kernel
theorem dX12_meaning_86 : decode cX12_meaning 86 = .ok (.iconst 2, 1) := by decide +kernel
theorem dX12_meaning_87 : decode cX12_meaning 87 = .ok (.iadd, 1) := by decide +kernel
theorem dX12_meaning_88 : decode cX12_meaning 88 = .ok (.iaload, 1) := by decide +kernel
theorem dX12_meaning_89 : decode cX12_meaning 89 = .ok (.istore 5, 2) := by decide +kernel
theorem dX12_meaning_91 : decode cX12_meaning 91 = .ok (.iinc 6 1, 3) := by decide +kernel
theorem dX12_meaning_94 : decode cX12_meaning 94 = .ok (.goto (-85), 3) := by decide +kernel
theorem dX12_meaning_97 : decode cX12_meaning 97 = .ok (.iconst 0, 1) := by decide +kernel
theorem dX12_meaning_98 : decode cX12_meaning 98 = .ok (.istore 6, 2) := by decide +kernel
theorem dX12_meaning_100 : decode cX12_meaning 100 = .ok (.iload 6, 2) := by decide +kernel
theorem dX12_meaning_102 : decode cX12_meaning 102 = .ok (.aload_n 0, 1) := by decide +kernel
theorem dX12_meaning_103 : decode cX12_meaning 103 = .ok (.getfield 16, 3) := by decide +kernel
theorem dX12_meaning_106 : decode cX12_meaning 106 = .ok (.iload_n 1, 1) := by decide +kernel
theorem dX12_meaning_107 : decode cX12_meaning 107 = .ok (.iaload, 1) := by decide +kernel
theorem dX12_meaning_108 : decode cX12_meaning 108 = .ok (.if_icmp .ge 96, 3) := by decide +kernel
theorem dX12_meaning_111 : decode cX12_meaning 111 = .ok (.sipush 240, 3) := by decide +kernel
theorem dX12_meaning_114 : decode cX12_meaning 114 = .ok (.iload_n 1, 1) := by decide +kernel
theorem dX12_meaning_115 : decode cX12_meaning 115 = .ok (.imul, 1) := by decide +kernel
theorem dX12_meaning_116 : decode cX12_meaning 116 = .ok (.bipush 6, 2) := by decide +kernel
theorem dX12_meaning_118 : decode cX12_meaning 118 = .ok (.iload 6, 2) := by decide +kernel
theorem dX12_meaning_120 : decode cX12_meaning 120 = .ok (.imul, 1) := by decide +kernel
theorem dX12_meaning_121 : decode cX12_meaning 121 = .ok (.iadd, 1) := by decide +kernel
theorem dX12_meaning_122 : decode cX12_meaning 122 = .ok (.istore 7, 2) := by decide +kernel
theorem dX12_meaning_124 : decode cX12_meaning 124 = .ok (.aload_n 0, 1) := by decide +kernel
theorem dX12_meaning_125 : decode cX12_meaning 125 = .ok (.getfield 19, 3) := by decide +kernel
theorem dX12_meaning_128 : decode cX12_meaning 128 = .ok (.iload 7, 2) := by decide +kernel
theorem dX12_meaning_130 : decode cX12_meaning 130 = .ok (.iaload, 1) := by decide +kernel
theorem dX12_meaning_131 : decode cX12_meaning 131 = .ok (.bipush 119, 2) := by decide +kernel
theorem dX12_meaning_133 : decode cX12_meaning 133 = .ok (.if_icmp .ne 65, 3) := by decide +kernel
theorem dX12_meaning_136 : decode cX12_meaning 136 = .ok (.aload_n 0, 1) := by decide +kernel
theorem dX12_meaning_137 : decode cX12_meaning 137 = .ok (.getfield 19, 3) := by decide +kernel
theorem dX12_meaning_140 : decode cX12_meaning 140 = .ok (.iload 7, 2) := by decide +kernel
theorem dX12_meaning_142 : decode cX12_meaning 142 = .ok (.iconst 1, 1) := by decide +kernel
theorem dX12_meaning_143 : decode cX12_meaning 143 = .ok (.iadd, 1) := by decide +kernel
theorem dX12_meaning_144 : decode cX12_meaning 144 = .ok (.iaload, 1) := by decide +kernel
theorem dX12_meaning_145 : decode cX12_meaning 145 = .ok (.iload_n 2, 1) := by decide +kernel
theorem dX12_meaning_146 : decode cX12_meaning 146 = .ok (.if_icmp .ne 52, 3) := by decide +kernel
theorem dX12_meaning_149 : decode cX12_meaning 149 = .ok (.aload_n 0, 1) := by decide +kernel
theorem dX12_meaning_150 : decode cX12_meaning 150 = .ok (.getfield 19, 3) := by decide +kernel
theorem dX12_meaning_153 : decode cX12_meaning 153 = .ok (.iload 7, 2) := by decide +kernel
theorem dX12_meaning_155 : decode cX12_meaning 155 = .ok (.iconst 2, 1) := by decide +kernel
theorem dX12_meaning_156 : decode cX12_meaning 156 = .ok (.iadd, 1) := by decide +kernel
theorem dX12_meaning_157 : decode cX12_meaning 157 = .ok (.iaload, 1) := by decide +kernel
theorem dX12_meaning_158 : decode cX12_meaning 158 = .ok (.iload_n 3, 1) := by decide +kernel
theorem dX12_meaning_159 : decode cX12_meaning 159 = .ok (.if_icmp .gt 39, 3) := by decide +kernel
theorem dX12_meaning_162 : decode cX12_meaning 162 = .ok (.aload_n 0, 1) := by decide +kernel
theorem dX12_meaning_163 : decode cX12_meaning 163 = .ok (.getfield 19, 3) := by decide +kernel
theorem dX12_meaning_166 : decode cX12_meaning 166 = .ok (.iload 7, 2) := by decide +kernel
theorem dX12_meaning_168 : decode cX12_meaning 168 = .ok (.iconst 2, 1) := by decide +kernel
theorem dX12_meaning_169 : decode cX12_meaning 169 = .ok (.iadd, 1) := by decide +kernel
theorem dX12_meaning_170 : decode cX12_meaning 170 = .ok (.iaload, 1) := by decide +kernel
theorem dX12_meaning_171 : decode cX12_meaning 171 = .ok (.iload 4, 2) := by decide +kernel
theorem dX12_meaning_173 : decode cX12_meaning 173 = .ok (.if_icmp .lt 25, 3) := by decide +kernel
theorem dX12_meaning_176 : decode cX12_meaning 176 = .ok (.aload_n 0, 1) := by decide +kernel
theorem dX12_meaning_177 : decode cX12_meaning 177 = .ok (.getfield 19, 3) := by decide +kernel
theorem dX12_meaning_180 : decode cX12_meaning 180 = .ok (.iload 7, 2) := by decide +kernel
theorem dX12_meaning_182 : decode cX12_meaning 182 = .ok (.iconst 2, 1) := by decide +kernel
theorem dX12_meaning_183 : decode cX12_meaning 183 = .ok (.iadd, 1) := by decide +kernel
theorem dX12_meaning_184 : decode cX12_meaning 184 = .ok (.iaload, 1) := by decide +kernel
theorem dX12_meaning_185 : decode cX12_meaning 185 = .ok (.istore 4, 2) := by decide +kernel
theorem dX12_meaning_187 : decode cX12_meaning 187 = .ok (.aload_n 0, 1) := by decide +kernel
theorem dX12_meaning_188 : decode cX12_meaning 188 = .ok (.getfield 19, 3) := by decide +kernel
theorem dX12_meaning_191 : decode cX12_meaning 191 = .ok (.iload 7, 2) := by decide +kernel
theorem dX12_meaning_193 : decode cX12_meaning 193 = .ok (.iconst 3, 1) := by decide +kernel
theorem dX12_meaning_194 : decode cX12_meaning 194 = .ok (.iadd, 1) := by decide +kernel
theorem dX12_meaning_195 : decode cX12_meaning 195 = .ok (.iaload, 1) := by decide +kernel
theorem dX12_meaning_196 : decode cX12_meaning 196 = .ok (.istore 5, 2) := by decide +kernel
theorem dX12_meaning_198 : decode cX12_meaning 198 = .ok (.iinc 6 1, 3) := by decide +kernel
theorem dX12_meaning_201 : decode cX12_meaning 201 = .ok (.goto (-101), 3) := by decide +kernel
theorem dX12_meaning_204 : decode cX12_meaning 204 = .ok (.iload 5, 2) := by decide +kernel
theorem dX12_meaning_206 : decode cX12_meaning 206 = .ok (.ireturn, 1) := by decide +kernel
set_option maxRecDepth 20000 in
theorem ggX12_means_X12_isTongue : GoodIn wsX12_means wsX12_isTongue := goodIn_r _ [5, 6, 7, 4, 8] (by decide +kernel) (by decide +kernel)
set_option maxRecDepth 20000 in
theorem gX12_means_X12_isTongue : GoodIn wsX12_means (va_wsS RX12 101 yX12_isTongue wsX12_isTongue) := goodIn_app (goodIn_of _ (by decide +kernel)) ggX12_means_X12_isTongue
set_option maxRecDepth 20000 in
theorem ggX12_means_X12_in : GoodIn wsX12_means wsX12_in := goodIn_r _ [8] (by decide +kernel) (by decide +kernel)
set_option maxRecDepth 20000 in
theorem gX12_means_X12_in : GoodIn wsX12_means (va_wsS RX12 97 yX12_in wsX12_in) := goodIn_app (goodIn_of _ (by decide +kernel)) ggX12_means_X12_in
set_option maxRecDepth 20000 in
theorem ggX12_means_X12_isYear : GoodIn wsX12_means wsX12_isYear := goodIn_r _ [11, 12, 6, 7, 4, 8] (by decide +kernel) (by decide +kernel)
set_option maxRecDepth 20000 in
theorem gX12_means_X12_isYear : GoodIn wsX12_means (va_wsS RX12 107 yX12_isYear wsX12_isYear) := goodIn_app (goodIn_of _ (by decide +kernel)) ggX12_means_X12_isYear
set_option maxRecDepth 20000 in
theorem ggX12_means_X12_meaning : GoodIn wsX12_means wsX12_meaning := goodIn_r _ [16, 17, 18, 19, 20, 21, 22, 23, 24, 25, 26, 27, 28, 29, 30, 31, 32, 33, 34, 35, 36, 37, 38, 39, 40, 41, 42, 43, 44, 45, 46, 47, 48, 49, 50, 51, 52, 53, 54, 55, 56, 57, 58, 59, 60] (by decide +kernel) (by decide +kernel)
set_option maxRecDepth 20000 in
theorem gX12_means_X12_meaning : GoodIn wsX12_means (wsV RX12 143 RX12 yX12_meaning wsX12_meaning) := goodIn_app (goodIn_of _ (by decide +kernel)) ggX12_means_X12_meaning
theorem dX12_means_0 : decode cX12_means 0 = .ok (.iload_n 1, 1) := by decide +kernel
theorem dX12_means_1 : decode cX12_means 1 = .ok (.invokestatic 101, 3) := by decide +kernel
theorem dX12_means_4 : decode cX12_means 4 = .ok (.ifCond .eq 32, 3) := by decide +kernel
theorem dX12_means_7 : decode cX12_means 7 = .ok (.iload_n 2, 1) := by decide +kernel
theorem dX12_means_8 : decode cX12_means 8 = .ok (.i2l, 1) := by decide +kernel
theorem dX12_means_9 : decode cX12_means 9 = .ok (.lconst 0, 1) := by decide +kernel
theorem dX12_means_10 : decode cX12_means 10 = .ok (.ldc2_w 105, 3) := by decide +kernel
theorem dX12_means_13 : decode cX12_means 13 = .ok (.invokestatic 97, 3) := by decide +kernel
theorem dX12_means_16 : decode cX12_means 16 = .ok (.ifCond .eq 20, 3) := by decide +kernel
theorem dX12_means_19 : decode cX12_means 19 = .ok (.iload_n 3, 1) := by decide +kernel
theorem dX12_means_20 : decode cX12_means 20 = .ok (.invokestatic 107, 3) := by decide +kernel
theorem dX12_means_23 : decode cX12_means 23 = .ok (.ifCond .eq 13, 3) := by decide +kernel
theorem dX12_means_26 : decode cX12_means 26 = .ok (.aload_n 0, 1) := by decide +kernel
theorem dX12_means_27 : decode cX12_means 27 = .ok (.iload_n 1, 1) := by decide +kernel
theorem dX12_means_28 : decode cX12_means 28 = .ok (.iload_n 2, 1) := by decide +kernel
theorem dX12_means_29 : decode cX12_means 29 = .ok (.iload_n 3, 1) := by decide +kernel
theorem dX12_means_30 : decode cX12_means 30 = .ok (.invokevirtual 143, 3) := by decide +kernel
theorem dX12_means_33 : decode cX12_means 33 = .ok (.goto 4, 3) := by decide +kernel
theorem dX12_means_36 : decode cX12_means 36 = .ok (.iconst (-1), 1) := by decide +kernel
theorem dX12_means_37 : decode cX12_means 37 = .ok (.ireturn, 1) := by decide +kernel
set_option maxRecDepth 20000 in
theorem ggX12_layWords_X12_meaning : GoodIn wsX12_layWords wsX12_meaning := goodIn_r _ [6, 7, 8, 9, 10, 11, 12, 13, 14, 15, 16, 17, 18, 19, 20, 21, 22, 23, 24, 25, 26, 27, 28, 29, 30, 31, 32, 33, 34, 35, 36, 37, 38, 39, 40, 41, 42, 43, 44, 45, 46, 47, 48, 49, 50] (by decide +kernel) (by decide +kernel)
set_option maxRecDepth 20000 in
theorem gX12_layWords_X12_meaning : GoodIn wsX12_layWords (wsV RX12 143 RX12 yX12_meaning wsX12_meaning) := goodIn_app (goodIn_of _ (by decide +kernel)) ggX12_layWords_X12_meaning
theorem dX12_layWords_0 : decode cX12_layWords 0 = .ok (.iconst 0, 1) := by decide +kernel
theorem dX12_layWords_1 : decode cX12_layWords 1 = .ok (.istore_n 2, 1) := by decide +kernel
theorem dX12_layWords_2 : decode cX12_layWords 2 = .ok (.iload_n 2, 1) := by decide +kernel
theorem dX12_layWords_3 : decode cX12_layWords 3 = .ok (.iconst 2, 1) := by decide +kernel
theorem dX12_layWords_4 : decode cX12_layWords 4 = .ok (.if_icmp .ge 41, 3) := by decide +kernel
theorem dX12_layWords_7 : decode cX12_layWords 7 = .ok (.iconst 0, 1) := by decide +kernel
theorem dX12_layWords_8 : decode cX12_layWords 8 = .ok (.istore_n 3, 1) := by decide +kernel
theorem dX12_layWords_9 : decode cX12_layWords 9 = .ok (.iload_n 3, 1) := by decide +kernel
theorem dX12_layWords_10 : decode cX12_layWords 10 = .ok (.bipush 8, 2) := by decide +kernel
theorem dX12_layWords_12 : decode cX12_layWords 12 = .ok (.if_icmp .ge 27, 3) := by decide +kernel
theorem dX12_layWords_15 : decode cX12_layWords 15 = .ok (.aload_n 0, 1) := by decide +kernel
theorem dX12_layWords_16 : decode cX12_layWords 16 = .ok (.getfield 73, 3) := by decide +kernel
theorem dX12_layWords_19 : decode cX12_layWords 19 = .ok (.bipush 8, 2) := by decide +kernel
theorem dX12_layWords_21 : decode cX12_layWords 21 = .ok (.iload_n 2, 1) := by decide +kernel
theorem dX12_layWords_22 : decode cX12_layWords 22 = .ok (.imul, 1) := by decide +kernel
theorem dX12_layWords_23 : decode cX12_layWords 23 = .ok (.iload_n 3, 1) := by decide +kernel
theorem dX12_layWords_24 : decode cX12_layWords 24 = .ok (.iadd, 1) := by decide +kernel
theorem dX12_layWords_25 : decode cX12_layWords 25 = .ok (.aload_n 0, 1) := by decide +kernel
theorem dX12_layWords_26 : decode cX12_layWords 26 = .ok (.iload_n 2, 1) := by decide +kernel
theorem dX12_layWords_27 : decode cX12_layWords 27 = .ok (.iload_n 3, 1) := by decide +kernel
theorem dX12_layWords_28 : decode cX12_layWords 28 = .ok (.iload_n 1, 1) := by decide +kernel
theorem dX12_layWords_29 : decode cX12_layWords 29 = .ok (.invokevirtual 143, 3) := by decide +kernel
theorem dX12_layWords_32 : decode cX12_layWords 32 = .ok (.iastore, 1) := by decide +kernel
theorem dX12_layWords_33 : decode cX12_layWords 33 = .ok (.iinc 3 1, 3) := by decide +kernel
theorem dX12_layWords_36 : decode cX12_layWords 36 = .ok (.goto (-27), 3) := by decide +kernel
theorem dX12_layWords_39 : decode cX12_layWords 39 = .ok (.iinc 2 1, 3) := by decide +kernel
theorem dX12_layWords_42 : decode cX12_layWords 42 = .ok (.goto (-40), 3) := by decide +kernel
theorem dX12_layWords_45 : decode cX12_layWords 45 = .ok (.return_, 1) := by decide +kernel
set_option maxRecDepth 20000 in
theorem ggX12_whyOf_X12_in : GoodIn wsX12_whyOf wsX12_in := goodIn_r _ [7] (by decide +kernel) (by decide +kernel)
set_option maxRecDepth 20000 in
theorem gX12_whyOf_X12_in : GoodIn wsX12_whyOf (va_wsS RX12 97 yX12_in wsX12_in) := goodIn_app (goodIn_of _ (by decide +kernel)) ggX12_whyOf_X12_in
set_option maxRecDepth 20000 in
theorem ggX12_whyOf_X12_has : GoodIn wsX12_whyOf wsX12_has := goodIn_r _ [10] (by decide +kernel) (by decide +kernel)
set_option maxRecDepth 20000 in
theorem gX12_whyOf_X12_has : GoodIn wsX12_whyOf (va_wsS RX12 147 yX12_has wsX12_has) := goodIn_app (goodIn_of _ (by decide +kernel)) ggX12_whyOf_X12_has
theorem dX12_whyOf_0 : decode cX12_whyOf 0 = .ok (.bipush (-4), 2) := by decide +kernel
theorem dX12_whyOf_2 : decode cX12_whyOf 2 = .ok (.istore 5, 2) := by decide +kernel
theorem dX12_whyOf_4 : decode cX12_whyOf 4 = .ok (.iconst 0, 1) := by decide +kernel
theorem dX12_whyOf_5 : decode cX12_whyOf 5 = .ok (.istore 6, 2) := by decide +kernel
theorem dX12_whyOf_7 : decode cX12_whyOf 7 = .ok (.iload 6, 2) := by decide +kernel
theorem dX12_whyOf_9 : decode cX12_whyOf 9 = .ok (.aload_n 0, 1) := by decide +kernel
theorem dX12_whyOf_10 : decode cX12_whyOf 10 = .ok (.getfield 16, 3) := by decide +kernel
theorem dX12_whyOf_13 : decode cX12_whyOf 13 = .ok (.iload_n 1, 1) := by decide +kernel
theorem dX12_whyOf_14 : decode cX12_whyOf 14 = .ok (.iaload, 1) := by decide +kernel
theorem dX12_whyOf_15 : decode cX12_whyOf 15 = .ok (.if_icmp .ge 145, 3) := by decide +kernel
theorem dX12_whyOf_18 : decode cX12_whyOf 18 = .ok (.sipush 240, 3) := by decide +kernel
theorem dX12_whyOf_21 : decode cX12_whyOf 21 = .ok (.iload_n 1, 1) := by decide +kernel
theorem dX12_whyOf_22 : decode cX12_whyOf 22 = .ok (.imul, 1) := by decide +kernel
theorem dX12_whyOf_23 : decode cX12_whyOf 23 = .ok (.bipush 6, 2) := by decide +kernel
theorem dX12_whyOf_25 : decode cX12_whyOf 25 = .ok (.iload 6, 2) := by decide +kernel
theorem dX12_whyOf_27 : decode cX12_whyOf 27 = .ok (.imul, 1) := by decide +kernel
theorem dX12_whyOf_28 : decode cX12_whyOf 28 = .ok (.iadd, 1) := by decide +kernel
theorem dX12_whyOf_29 : decode cX12_whyOf 29 = .ok (.istore 7, 2) := by decide +kernel
theorem dX12_whyOf_31 : decode cX12_whyOf 31 = .ok (.aload_n 0, 1) := by decide +kernel
theorem dX12_whyOf_32 : decode cX12_whyOf 32 = .ok (.getfield 19, 3) := by decide +kernel
theorem dX12_whyOf_35 : decode cX12_whyOf 35 = .ok (.iload 7, 2) := by decide +kernel
theorem dX12_whyOf_37 : decode cX12_whyOf 37 = .ok (.iaload, 1) := by decide +kernel
theorem dX12_whyOf_38 : decode cX12_whyOf 38 = .ok (.bipush 119, 2) := by decide +kernel
theorem dX12_whyOf_40 : decode cX12_whyOf 40 = .ok (.if_icmp .eq 51, 3) := by decide +kernel
theorem dX12_whyOf_43 : decode cX12_whyOf 43 = .ok (.aload_n 0, 1) := by decide +kernel
theorem dX12_whyOf_44 : decode cX12_whyOf 44 = .ok (.getfield 19, 3) := by decide +kernel
theorem dX12_whyOf_47 : decode cX12_whyOf 47 = .ok (.iload 7, 2) := by decide +kernel
theorem dX12_whyOf_49 : decode cX12_whyOf 49 = .ok (.iconst 2, 1) := by decide +kernel
theorem dX12_whyOf_50 : decode cX12_whyOf 50 = .ok (.iadd, 1) := by decide +kernel
theorem dX12_whyOf_51 : decode cX12_whyOf 51 = .ok (.iaload, 1) := by decide +kernel
theorem dX12_whyOf_52 : decode cX12_whyOf 52 = .ok (.iload_n 2, 1) := by decide +kernel
theorem dX12_whyOf_53 : decode cX12_whyOf 53 = .ok (.bipush 6, 2) := by decide +kernel
theorem dX12_whyOf_55 : decode cX12_whyOf 55 = .ok (.irem, 1) := by decide +kernel
theorem dX12_whyOf_56 : decode cX12_whyOf 56 = .ok (.if_icmp .ne 35, 3) := by decide +kernel
theorem dX12_whyOf_59 : decode cX12_whyOf 59 = .ok (.iload_n 3, 1) := by decide +kernel
theorem dX12_whyOf_60 : decode cX12_whyOf 60 = .ok (.i2l, 1) := by decide +kernel
theorem dX12_whyOf_61 : decode cX12_whyOf 61 = .ok (.aload_n 0, 1) := by decide +kernel
theorem dX12_whyOf_62 : decode cX12_whyOf 62 = .ok (.getfield 19, 3) := by decide +kernel
theorem dX12_whyOf_65 : decode cX12_whyOf 65 = .ok (.iload 7, 2) := by decide +kernel
theorem dX12_whyOf_67 : decode cX12_whyOf 67 = .ok (.iconst 3, 1) := by decide +kernel
theorem dX12_whyOf_68 : decode cX12_whyOf 68 = .ok (.iadd, 1) := by decide +kernel
theorem dX12_whyOf_69 : decode cX12_whyOf 69 = .ok (.iaload, 1) := by decide +kernel
theorem dX12_whyOf_70 : decode cX12_whyOf 70 = .ok (.i2l, 1) := by decide +kernel
theorem dX12_whyOf_71 : decode cX12_whyOf 71 = .ok (.aload_n 0, 1) := by decide +kernel
theorem dX12_whyOf_72 : decode cX12_whyOf 72 = .ok (.getfield 19, 3) := by decide +kernel
theorem dX12_whyOf_75 : decode cX12_whyOf 75 = .ok (.iload 7, 2) := by decide +kernel
theorem dX12_whyOf_77 : decode cX12_whyOf 77 = .ok (.iconst 4, 1) := by decide +kernel
theorem dX12_whyOf_78 : decode cX12_whyOf 78 = .ok (.iadd, 1) := by decide +kernel
theorem dX12_whyOf_79 : decode cX12_whyOf 79 = .ok (.iaload, 1) := by decide +kernel
theorem dX12_whyOf_80 : decode cX12_whyOf 80 = .ok (.i2l, 1) := by decide +kernel
theorem dX12_whyOf_81 : decode cX12_whyOf 81 = .ok (.invokestatic 97, 3) := by decide +kernel
theorem dX12_whyOf_84 : decode cX12_whyOf 84 = .ok (.ifCond .eq 7, 3) := by decide +kernel
theorem dX12_whyOf_87 : decode cX12_whyOf 87 = .ok (.iconst 1, 1) := by decide +kernel
theorem dX12_whyOf_88 : decode cX12_whyOf 88 = .ok (.goto 4, 3) := by decide +kernel
theorem dX12_whyOf_91 : decode cX12_whyOf 91 = .ok (.iconst 0, 1) := by decide +kernel
theorem dX12_whyOf_92 : decode cX12_whyOf 92 = .ok (.istore 8, 2) := by decide +kernel
theorem dX12_whyOf_94 : decode cX12_whyOf 94 = .ok (.iload 8, 2) := by decide +kernel
theorem dX12_whyOf_96 : decode cX12_whyOf 96 = .ok (.ifCond .eq 54, 3) := by decide +kernel
theorem dX12_whyOf_99 : decode cX12_whyOf 99 = .ok (.aload_n 0, 1) := by decide +kernel
theorem dX12_whyOf_100 : decode cX12_whyOf 100 = .ok (.getfield 73, 3) := by decide +kernel
theorem dX12_whyOf_103 : decode cX12_whyOf 103 = .ok (.bipush 8, 2) := by decide +kernel
theorem dX12_whyOf_105 : decode cX12_whyOf 105 = .ok (.iload_n 1, 1) := by decide +kernel
theorem dX12_whyOf_106 : decode cX12_whyOf 106 = .ok (.imul, 1) := by decide +kernel
theorem dX12_whyOf_107 : decode cX12_whyOf 107 = .ok (.aload_n 0, 1) := by decide +kernel
theorem dX12_whyOf_108 : decode cX12_whyOf 108 = .ok (.getfield 19, 3) := by decide +kernel
theorem dX12_whyOf_111 : decode cX12_whyOf 111 = .ok (.iload 7, 2) := by decide +kernel
theorem dX12_whyOf_113 : decode cX12_whyOf 113 = .ok (.iconst 1, 1) := by decide +kernel
theorem dX12_whyOf_114 : decode cX12_whyOf 114 = .ok (.iadd, 1) := by decide +kernel
theorem dX12_whyOf_115 : decode cX12_whyOf 115 = .ok (.iaload, 1) := by decide +kernel
theorem dX12_whyOf_116 : decode cX12_whyOf 116 = .ok (.iadd, 1) := by decide +kernel
theorem dX12_whyOf_117 : decode cX12_whyOf 117 = .ok (.iaload, 1) := by decide +kernel
theorem dX12_whyOf_118 : decode cX12_whyOf 118 = .ok (.iload_n 2, 1) := by decide +kernel
theorem dX12_whyOf_119 : decode cX12_whyOf 119 = .ok (.bipush 6, 2) := by decide +kernel
theorem dX12_whyOf_121 : decode cX12_whyOf 121 = .ok (.idiv, 1) := by decide +kernel
theorem dX12_whyOf_122 : decode cX12_whyOf 122 = .ok (.invokestatic 147, 3) := by decide +kernel
theorem dX12_whyOf_125 : decode cX12_whyOf 125 = .ok (.ifCond .eq 25, 3) := by decide +kernel
theorem dX12_whyOf_128 : decode cX12_whyOf 128 = .ok (.aload_n 0, 1) := by decide +kernel
theorem dX12_whyOf_129 : decode cX12_whyOf 129 = .ok (.getfield 19, 3) := by decide +kernel
theorem dX12_whyOf_132 : decode cX12_whyOf 132 = .ok (.iload 7, 2) := by decide +kernel
theorem dX12_whyOf_134 : decode cX12_whyOf 134 = .ok (.iconst 5, 1) := by decide +kernel
theorem dX12_whyOf_135 : decode cX12_whyOf 135 = .ok (.iadd, 1) := by decide +kernel
theorem dX12_whyOf_136 : decode cX12_whyOf 136 = .ok (.iaload, 1) := by decide +kernel
theorem dX12_whyOf_137 : decode cX12_whyOf 137 = .ok (.iload 4, 2) := by decide +kernel
theorem dX12_whyOf_139 : decode cX12_whyOf 139 = .ok (.iconst (-1), 1) := by decide +kernel
theorem dX12_whyOf_140 : decode cX12_whyOf 140 = .ok (.ixor, 1) := by decide +kernel
theorem dX12_whyOf_141 : decode cX12_whyOf 141 = .ok (.iand, 1) := by decide +kernel
theorem dX12_whyOf_142 : decode cX12_whyOf 142 = .ok (.ifCond .ne 8, 3) := by decide +kernel
theorem dX12_whyOf_145 : decode cX12_whyOf 145 = .ok (.iload 6, 2) := by decide +kernel
theorem dX12_whyOf_147 : decode cX12_whyOf 147 = .ok (.goto 5, 3) := by decide +kernel
theorem dX12_whyOf_150 : decode cX12_whyOf 150 = .ok (.iload 5, 2) := by decide +kernel
theorem dX12_whyOf_152 : decode cX12_whyOf 152 = .ok (.istore 5, 2) := by decide +kernel
theorem dX12_whyOf_154 : decode cX12_whyOf 154 = .ok (.iinc 6 1, 3) := by decide +kernel
theorem dX12_whyOf_157 : decode cX12_whyOf 157 = .ok (.goto (-150), 3) := by decide +kernel
theorem dX12_whyOf_160 : decode cX12_whyOf 160 = .ok (.iload 5, 2) := by decide +kernel
theorem dX12_whyOf_162 : decode cX12_whyOf 162 = .ok (.ireturn, 1) := by decide +kernel
set_option maxRecDepth 20000 in
theorem ggX12_isLet_X12_whyOf : GoodIn wsX12_isLet wsX12_whyOf := goodIn_r _ [6, 7, 1, 8, 9, 10, 5, 11, 12, 13, 14, 15, 16, 17, 18, 19, 20, 21, 22, 23, 24, 25, 26, 27, 28, 29, 30, 31, 32, 33, 34, 35, 36, 37, 38, 39, 40, 41, 42, 43, 44, 45, 46, 47, 48, 49, 50, 51, 52, 53, 54] (by decide +kernel) (by decide +kernel)
set_option maxRecDepth 20000 in
theorem gX12_isLet_X12_whyOf : GoodIn wsX12_isLet (wsV RX12 150 RX12 yX12_whyOf wsX12_whyOf) := goodIn_app (goodIn_of _ (by decide +kernel)) ggX12_isLet_X12_whyOf
theorem dX12_isLet_0 : decode cX12_isLet 0 = .ok (.aload_n 0, 1) := by decide +kernel
theorem dX12_isLet_1 : decode cX12_isLet 1 = .ok (.iload_n 1, 1) := by decide +kernel
theorem dX12_isLet_2 : decode cX12_isLet 2 = .ok (.iload_n 2, 1) := by decide +kernel
theorem dX12_isLet_3 : decode cX12_isLet 3 = .ok (.iload_n 3, 1) := by decide +kernel
theorem dX12_isLet_4 : decode cX12_isLet 4 = .ok (.iload 4, 2) := by decide +kernel
theorem dX12_isLet_6 : decode cX12_isLet 6 = .ok (.invokevirtual 150, 3) := by decide +kernel
theorem dX12_isLet_9 : decode cX12_isLet 9 = .ok (.istore 5, 2) := by decide +kernel
theorem dX12_isLet_11 : decode cX12_isLet 11 = .ok (.iload 5, 2) := by decide +kernel
theorem dX12_isLet_13 : decode cX12_isLet 13 = .ok (.bipush (-4), 2) := by decide +kernel
theorem dX12_isLet_15 : decode cX12_isLet 15 = .ok (.if_icmp .eq 28, 3) := by decide +kernel
theorem dX12_isLet_18 : decode cX12_isLet 18 = .ok (.aload_n 0, 1) := by decide +kernel
theorem dX12_isLet_19 : decode cX12_isLet 19 = .ok (.getfield 19, 3) := by decide +kernel
theorem dX12_isLet_22 : decode cX12_isLet 22 = .ok (.sipush 240, 3) := by decide +kernel
theorem dX12_isLet_25 : decode cX12_isLet 25 = .ok (.iload_n 1, 1) := by decide +kernel
theorem dX12_isLet_26 : decode cX12_isLet 26 = .ok (.imul, 1) := by decide +kernel
theorem dX12_isLet_27 : decode cX12_isLet 27 = .ok (.bipush 6, 2) := by decide +kernel
theorem dX12_isLet_29 : decode cX12_isLet 29 = .ok (.iload 5, 2) := by decide +kernel
theorem dX12_isLet_31 : decode cX12_isLet 31 = .ok (.imul, 1) := by decide +kernel
theorem dX12_isLet_32 : decode cX12_isLet 32 = .ok (.iadd, 1) := by decide +kernel
theorem dX12_isLet_33 : decode cX12_isLet 33 = .ok (.iaload, 1) := by decide +kernel
theorem dX12_isLet_34 : decode cX12_isLet 34 = .ok (.bipush 108, 2) := by decide +kernel
theorem dX12_isLet_36 : decode cX12_isLet 36 = .ok (.if_icmp .ne 7, 3) := by decide +kernel
theorem dX12_isLet_39 : decode cX12_isLet 39 = .ok (.iconst 1, 1) := by decide +kernel
theorem dX12_isLet_40 : decode cX12_isLet 40 = .ok (.goto 4, 3) := by decide +kernel
theorem dX12_isLet_43 : decode cX12_isLet 43 = .ok (.iconst 0, 1) := by decide +kernel
theorem dX12_isLet_44 : decode cX12_isLet 44 = .ok (.ireturn, 1) := by decide +kernel
set_option maxRecDepth 20000 in
theorem ggX12_isUnlike_X12_isLet : GoodIn wsX12_isUnlike wsX12_isLet := goodIn_r _ [5, 6, 7, 8, 9, 4, 10, 11, 12, 13, 14, 15, 16, 17, 18, 19, 20, 21, 22, 23, 24, 25, 26, 27, 28, 29, 30, 31, 32, 33, 34, 35, 36, 37, 38, 39, 40, 41, 42, 43, 44, 45, 46, 47, 48, 49, 50, 51, 52, 53, 54, 55, 56, 57, 58] (by decide +kernel) (by decide +kernel)
set_option maxRecDepth 20000 in
theorem gX12_isUnlike_X12_isLet : GoodIn wsX12_isUnlike (wsV RX12 154 RX12 yX12_isLet wsX12_isLet) := goodIn_app (goodIn_of _ (by decide +kernel)) ggX12_isUnlike_X12_isLet
theorem dX12_isUnlike_0 : decode cX12_isUnlike 0 = .ok (.aload_n 0, 1) := by decide +kernel
theorem dX12_isUnlike_1 : decode cX12_isUnlike 1 = .ok (.iconst 0, 1) := by decide +kernel
theorem dX12_isUnlike_2 : decode cX12_isUnlike 2 = .ok (.iload_n 1, 1) := by decide +kernel
theorem dX12_isUnlike_3 : decode cX12_isUnlike 3 = .ok (.iload_n 2, 1) := by decide +kernel
theorem dX12_isUnlike_4 : decode cX12_isUnlike 4 = .ok (.iload_n 3, 1) := by decide +kernel
theorem dX12_isUnlike_5 : decode cX12_isUnlike 5 = .ok (.invokevirtual 154, 3) := by decide +kernel
theorem dX12_isUnlike_8 : decode cX12_isUnlike 8 = .ok (.aload_n 0, 1) := by decide +kernel
theorem dX12_isUnlike_9 : decode cX12_isUnlike 9 = .ok (.iconst 1, 1) := by decide +kernel
theorem dX12_isUnlike_10 : decode cX12_isUnlike 10 = .ok (.iload_n 1, 1) := by decide +kernel
theorem dX12_isUnlike_11 : decode cX12_isUnlike 11 = .ok (.iload_n 2, 1) := by decide +kernel
theorem dX12_isUnlike_12 : decode cX12_isUnlike 12 = .ok (.iload_n 3, 1) := by decide +kernel
theorem dX12_isUnlike_13 : decode cX12_isUnlike 13 = .ok (.invokevirtual 154, 3) := by decide +kernel
theorem dX12_isUnlike_16 : decode cX12_isUnlike 16 = .ok (.if_icmp .eq 7, 3) := by decide +kernel
theorem dX12_isUnlike_19 : decode cX12_isUnlike 19 = .ok (.iconst 1, 1) := by decide +kernel
theorem dX12_isUnlike_20 : decode cX12_isUnlike 20 = .ok (.goto 4, 3) := by decide +kernel
theorem dX12_isUnlike_23 : decode cX12_isUnlike 23 = .ok (.iconst 0, 1) := by decide +kernel
theorem dX12_isUnlike_24 : decode cX12_isUnlike 24 = .ok (.ireturn, 1) := by decide +kernel
set_option maxRecDepth 20000 in
theorem ggX12_isAsked_X12_isTongue : GoodIn wsX12_isAsked wsX12_isTongue := goodIn_r _ [6, 7, 8, 5, 9] (by decide +kernel) (by decide +kernel)
set_option maxRecDepth 20000 in
theorem gX12_isAsked_X12_isTongue : GoodIn wsX12_isAsked (va_wsS RX12 101 yX12_isTongue wsX12_isTongue) := goodIn_app (goodIn_of _ (by decide +kernel)) ggX12_isAsked_X12_isTongue
set_option maxRecDepth 20000 in
theorem ggX12_isAsked_X12_in : GoodIn wsX12_isAsked wsX12_in := goodIn_r _ [9] (by decide +kernel) (by decide +kernel)
set_option maxRecDepth 20000 in
theorem gX12_isAsked_X12_in : GoodIn wsX12_isAsked (va_wsS RX12 97 yX12_in wsX12_in) := goodIn_app (goodIn_of _ (by decide +kernel)) ggX12_isAsked_X12_in
set_option maxRecDepth 20000 in
theorem ggX12_isAsked_X12_isYear : GoodIn wsX12_isAsked wsX12_isYear := goodIn_r _ [12, 13, 7, 8, 5, 9] (by decide +kernel) (by decide +kernel)
set_option maxRecDepth 20000 in
theorem gX12_isAsked_X12_isYear : GoodIn wsX12_isAsked (va_wsS RX12 107 yX12_isYear wsX12_isYear) := goodIn_app (goodIn_of _ (by decide +kernel)) ggX12_isAsked_X12_isYear
theorem dX12_isAsked_0 : decode cX12_isAsked 0 = .ok (.iload_n 0, 1) := by decide +kernel
theorem dX12_isAsked_1 : decode cX12_isAsked 1 = .ok (.invokestatic 101, 3) := by decide +kernel
theorem dX12_isAsked_4 : decode cX12_isAsked 4 = .ok (.ifCond .eq 51, 3) := by decide +kernel
theorem dX12_isAsked_7 : decode cX12_isAsked 7 = .ok (.iload_n 1, 1) := by decide +kernel
theorem dX12_isAsked_8 : decode cX12_isAsked 8 = .ok (.i2l, 1) := by decide +kernel
theorem dX12_isAsked_9 : decode cX12_isAsked 9 = .ok (.lconst 0, 1) := by decide +kernel
theorem dX12_isAsked_10 : decode cX12_isAsked 10 = .ok (.ldc2_w 134, 3) := by decide +kernel
theorem dX12_isAsked_13 : decode cX12_isAsked 13 = .ok (.invokestatic 97, 3) := by decide +kernel
theorem dX12_isAsked_16 : decode cX12_isAsked 16 = .ok (.ifCond .eq 39, 3) := by decide +kernel
theorem dX12_isAsked_19 : decode cX12_isAsked 19 = .ok (.iload_n 2, 1) := by decide +kernel
theorem dX12_isAsked_20 : decode cX12_isAsked 20 = .ok (.i2l, 1) := by decide +kernel
theorem dX12_isAsked_21 : decode cX12_isAsked 21 = .ok (.lconst 0, 1) := by decide +kernel
theorem dX12_isAsked_22 : decode cX12_isAsked 22 = .ok (.ldc2_w 134, 3) := by decide +kernel
theorem dX12_isAsked_25 : decode cX12_isAsked 25 = .ok (.invokestatic 97, 3) := by decide +kernel
theorem dX12_isAsked_28 : decode cX12_isAsked 28 = .ok (.ifCond .eq 27, 3) := by decide +kernel
theorem dX12_isAsked_31 : decode cX12_isAsked 31 = .ok (.iload_n 3, 1) := by decide +kernel
theorem dX12_isAsked_32 : decode cX12_isAsked 32 = .ok (.invokestatic 107, 3) := by decide +kernel
theorem dX12_isAsked_35 : decode cX12_isAsked 35 = .ok (.ifCond .eq 20, 3) := by decide +kernel
theorem dX12_isAsked_38 : decode cX12_isAsked 38 = .ok (.iload 4, 2) := by decide +kernel
theorem dX12_isAsked_40 : decode cX12_isAsked 40 = .ok (.i2l, 1) := by decide +kernel
theorem dX12_isAsked_41 : decode cX12_isAsked 41 = .ok (.lconst 0, 1) := by decide +kernel
theorem dX12_isAsked_42 : decode cX12_isAsked 42 = .ok (.ldc2_w 114, 3) := by decide +kernel
theorem dX12_isAsked_45 : decode cX12_isAsked 45 = .ok (.invokestatic 97, 3) := by decide +kernel
theorem dX12_isAsked_48 : decode cX12_isAsked 48 = .ok (.ifCond .eq 7, 3) := by decide +kernel
theorem dX12_isAsked_51 : decode cX12_isAsked 51 = .ok (.iconst 1, 1) := by decide +kernel
theorem dX12_isAsked_52 : decode cX12_isAsked 52 = .ok (.goto 4, 3) := by decide +kernel
theorem dX12_isAsked_55 : decode cX12_isAsked 55 = .ok (.iconst 0, 1) := by decide +kernel
theorem dX12_isAsked_56 : decode cX12_isAsked 56 = .ok (.ireturn, 1) := by decide +kernel
set_option maxRecDepth 20000 in
theorem ggX12_let_X12_isAsked : GoodIn wsX12_let wsX12_isAsked := goodIn_r _ [4, 5, 6, 7, 8, 3, 9, 10, 11, 12, 13, 14, 15, 16] (by decide +kernel) (by decide +kernel)
set_option maxRecDepth 20000 in
theorem gX12_let_X12_isAsked : GoodIn wsX12_let (va_wsS RX12 158 yX12_isAsked wsX12_isAsked) := goodIn_app (goodIn_of _ (by decide +kernel)) ggX12_let_X12_isAsked
set_option maxRecDepth 20000 in
theorem ggX12_let_X12_layWords : GoodIn wsX12_let wsX12_layWords := goodIn_r _ [20, 21, 22, 23, 24, 3, 25, 26, 27, 28, 29, 41, 42, 43, 44, 45, 46, 47, 48, 49, 50, 51, 52, 53, 54, 55, 56, 57, 58, 59, 60, 61, 62, 63, 64, 65, 66, 67, 68, 69, 70, 71, 72, 73, 74, 75, 76, 77, 78, 79, 80] (by decide +kernel) (by decide +kernel)
set_option maxRecDepth 20000 in
theorem gX12_let_X12_layWords : GoodIn wsX12_let (wsV RX12 162 RX12 yX12_layWords wsX12_layWords) := goodIn_app (goodIn_of _ (by decide +kernel)) ggX12_let_X12_layWords
set_option maxRecDepth 20000 in
theorem ggX12_let_X12_isLet : GoodIn wsX12_let wsX12_isLet := goodIn_r _ [33, 29, 34, 35, 36, 3, 37, 28, 21, 10, 11, 12, 38, 39, 40, 41, 42, 43, 44, 45, 46, 47, 48, 49, 50, 51, 52, 53, 54, 55, 56, 57, 58, 59, 60, 61, 62, 63, 64, 65, 66, 67, 68, 69, 70, 71, 72, 73, 74, 75, 76, 77, 78, 79, 80] (by decide +kernel) (by decide +kernel)
set_option maxRecDepth 20000 in
theorem gX12_let_X12_isLet : GoodIn wsX12_let (wsV RX12 154 RX12 yX12_isLet wsX12_isLet) := goodIn_app (goodIn_of _ (by decide +kernel)) ggX12_let_X12_isLet
theorem dX12_let_0 : decode cX12_let 0 = .ok (.iload_n 1, 1) := by decide +kernel
theorem dX12_let_1 : decode cX12_let 1 = .ok (.iload_n 2, 1) := by decide +kernel
theorem dX12_let_2 : decode cX12_let 2 = .ok (.iload_n 3, 1) := by decide +kernel
theorem dX12_let_3 : decode cX12_let 3 = .ok (.iload 4, 2) := by decide +kernel
theorem dX12_let_5 : decode cX12_let 5 = .ok (.iload 5, 2) := by decide +kernel
theorem dX12_let_7 : decode cX12_let 7 = .ok (.invokestatic 158, 3) := by decide +kernel
theorem dX12_let_10 : decode cX12_let 10 = .ok (.ifCond .ne 5, 3) := by decide +kernel
theorem dX12_let_13 : decode cX12_let 13 = .ok (.iconst (-1), 1) := by decide +kernel
theorem dX12_let_14 : decode cX12_let 14 = .ok (.ireturn, 1) := by decide +kernel
theorem dX12_let_15 : decode cX12_let 15 = .ok (.aload_n 0, 1) := by decide +kernel
theorem dX12_let_16 : decode cX12_let 16 = .ok (.iload 4, 2) := by decide +kernel
theorem dX12_let_18 : decode cX12_let 18 = .ok (.invokevirtual 162, 3) := by decide +kernel
theorem dX12_let_21 : decode cX12_let 21 = .ok (.aload_n 0, 1) := by decide +kernel
theorem dX12_let_22 : decode cX12_let 22 = .ok (.iload_n 1, 1) := by decide +kernel
theorem dX12_let_23 : decode cX12_let 23 = .ok (.bipush 6, 2) := by decide +kernel
theorem dX12_let_25 : decode cX12_let 25 = .ok (.iload_n 2, 1) := by decide +kernel
theorem dX12_let_26 : decode cX12_let 26 = .ok (.imul, 1) := by decide +kernel
theorem dX12_let_27 : decode cX12_let 27 = .ok (.iload_n 3, 1) := by decide +kernel
theorem dX12_let_28 : decode cX12_let 28 = .ok (.iadd, 1) := by decide +kernel
theorem dX12_let_29 : decode cX12_let 29 = .ok (.iload 4, 2) := by decide +kernel
theorem dX12_let_31 : decode cX12_let 31 = .ok (.iload 5, 2) := by decide +kernel
theorem dX12_let_33 : decode cX12_let 33 = .ok (.invokevirtual 154, 3) := by decide +kernel
theorem dX12_let_36 : decode cX12_let 36 = .ok (.ifCond .eq 7, 3) := by decide +kernel
theorem dX12_let_39 : decode cX12_let 39 = .ok (.iconst 1, 1) := by decide +kernel
theorem dX12_let_40 : decode cX12_let 40 = .ok (.goto 4, 3) := by decide +kernel
theorem dX12_let_43 : decode cX12_let 43 = .ok (.iconst 0, 1) := by decide +kernel
theorem dX12_let_44 : decode cX12_let 44 = .ok (.ireturn, 1) := by decide +kernel
set_option maxRecDepth 20000 in
theorem ggX12_why_X12_isAsked : GoodIn wsX12_why wsX12_isAsked := goodIn_r _ [4, 5, 6, 7, 8, 3, 9, 10, 11, 12, 13, 14, 15, 16] (by decide +kernel) (by decide +kernel)
set_option maxRecDepth 20000 in
theorem gX12_why_X12_isAsked : GoodIn wsX12_why (va_wsS RX12 158 yX12_isAsked wsX12_isAsked) := goodIn_app (goodIn_of _ (by decide +kernel)) ggX12_why_X12_isAsked
set_option maxRecDepth 20000 in
theorem ggX12_why_X12_layWords : GoodIn wsX12_why wsX12_layWords := goodIn_r _ [20, 21, 22, 23, 24, 3, 25, 26, 27, 28, 29, 37, 38, 39, 40, 41, 42, 43, 44, 45, 46, 47, 48, 49, 50, 51, 52, 53, 54, 55, 56, 57, 58, 59, 60, 61, 62, 63, 64, 65, 66, 67, 68, 69, 70, 71, 72, 73, 74, 75, 76] (by decide +kernel) (by decide +kernel)
set_option maxRecDepth 20000 in
theorem gX12_why_X12_layWords : GoodIn wsX12_why (wsV RX12 162 RX12 yX12_layWords wsX12_layWords) := goodIn_app (goodIn_of _ (by decide +kernel)) ggX12_why_X12_layWords
set_option maxRecDepth 20000 in
theorem ggX12_why_X12_whyOf : GoodIn wsX12_why wsX12_whyOf := goodIn_r _ [33, 28, 29, 21, 10, 11, 3, 12, 34, 35, 36, 37, 38, 39, 40, 41, 42, 43, 44, 45, 46, 47, 48, 49, 50, 51, 52, 53, 54, 55, 56, 57, 58, 59, 60, 61, 62, 63, 64, 65, 66, 67, 68, 69, 70, 71, 72, 73, 74, 75, 76] (by decide +kernel) (by decide +kernel)
set_option maxRecDepth 20000 in
theorem gX12_why_X12_whyOf : GoodIn wsX12_why (wsV RX12 150 RX12 yX12_whyOf wsX12_whyOf) := goodIn_app (goodIn_of _ (by decide +kernel)) ggX12_why_X12_whyOf
theorem dX12_why_0 : decode cX12_why 0 = .ok (.iload_n 1, 1) := by decide +kernel
theorem dX12_why_1 : decode cX12_why 1 = .ok (.iload_n 2, 1) := by decide +kernel
theorem dX12_why_2 : decode cX12_why 2 = .ok (.iload_n 3, 1) := by decide +kernel
theorem dX12_why_3 : decode cX12_why 3 = .ok (.iload 4, 2) := by decide +kernel
theorem dX12_why_5 : decode cX12_why 5 = .ok (.iload 5, 2) := by decide +kernel
theorem dX12_why_7 : decode cX12_why 7 = .ok (.invokestatic 158, 3) := by decide +kernel
theorem dX12_why_10 : decode cX12_why 10 = .ok (.ifCond .ne 5, 3) := by decide +kernel
theorem dX12_why_13 : decode cX12_why 13 = .ok (.iconst (-1), 1) := by decide +kernel
theorem dX12_why_14 : decode cX12_why 14 = .ok (.ireturn, 1) := by decide +kernel
theorem dX12_why_15 : decode cX12_why 15 = .ok (.aload_n 0, 1) := by decide +kernel
theorem dX12_why_16 : decode cX12_why 16 = .ok (.iload 4, 2) := by decide +kernel
theorem dX12_why_18 : decode cX12_why 18 = .ok (.invokevirtual 162, 3) := by decide +kernel
theorem dX12_why_21 : decode cX12_why 21 = .ok (.aload_n 0, 1) := by decide +kernel
theorem dX12_why_22 : decode cX12_why 22 = .ok (.iload_n 1, 1) := by decide +kernel
theorem dX12_why_23 : decode cX12_why 23 = .ok (.bipush 6, 2) := by decide +kernel
theorem dX12_why_25 : decode cX12_why 25 = .ok (.iload_n 2, 1) := by decide +kernel
theorem dX12_why_26 : decode cX12_why 26 = .ok (.imul, 1) := by decide +kernel
theorem dX12_why_27 : decode cX12_why 27 = .ok (.iload_n 3, 1) := by decide +kernel
theorem dX12_why_28 : decode cX12_why 28 = .ok (.iadd, 1) := by decide +kernel
theorem dX12_why_29 : decode cX12_why 29 = .ok (.iload 4, 2) := by decide +kernel
theorem dX12_why_31 : decode cX12_why 31 = .ok (.iload 5, 2) := by decide +kernel
theorem dX12_why_33 : decode cX12_why 33 = .ok (.invokevirtual 150, 3) := by decide +kernel
theorem dX12_why_36 : decode cX12_why 36 = .ok (.ireturn, 1) := by decide +kernel
set_option maxRecDepth 20000 in
theorem ggX12_unlike_X12_isYear : GoodIn wsX12_unlike wsX12_isYear := goodIn_r _ [5, 6, 7, 8, 4, 9] (by decide +kernel) (by decide +kernel)
set_option maxRecDepth 20000 in
theorem gX12_unlike_X12_isYear : GoodIn wsX12_unlike (va_wsS RX12 107 yX12_isYear wsX12_isYear) := goodIn_app (goodIn_of _ (by decide +kernel)) ggX12_unlike_X12_isYear
set_option maxRecDepth 20000 in
theorem ggX12_unlike_X12_in : GoodIn wsX12_unlike wsX12_in := goodIn_r _ [9] (by decide +kernel) (by decide +kernel)
set_option maxRecDepth 20000 in
theorem gX12_unlike_X12_in : GoodIn wsX12_unlike (va_wsS RX12 97 yX12_in wsX12_in) := goodIn_app (goodIn_of _ (by decide +kernel)) ggX12_unlike_X12_in
set_option maxRecDepth 20000 in
theorem ggX12_unlike_X12_layWords : GoodIn wsX12_unlike wsX12_layWords := goodIn_r _ [13, 14, 15, 16, 17, 4, 18, 19, 20, 21, 22, 38, 39, 40, 41, 42, 43, 44, 45, 46, 47, 48, 49, 50, 51, 52, 53, 54, 55, 56, 57, 58, 59, 60, 61, 62, 63, 64, 65, 66, 67, 68, 69, 70, 71, 72, 73, 74, 75, 76, 77] (by decide +kernel) (by decide +kernel)
set_option maxRecDepth 20000 in
theorem gX12_unlike_X12_layWords : GoodIn wsX12_unlike (wsV RX12 162 RX12 yX12_layWords wsX12_layWords) := goodIn_app (goodIn_of _ (by decide +kernel)) ggX12_unlike_X12_layWords
set_option maxRecDepth 20000 in
theorem ggX12_unlike_X12_isUnlike : GoodIn wsX12_unlike wsX12_isUnlike := goodIn_r _ [26, 27, 28, 29, 4, 30, 22, 31, 32, 33, 34, 21, 14, 7, 8, 9, 35, 36, 37, 38, 39, 40, 41, 42, 43, 44, 45, 46, 47, 48, 49, 50, 51, 52, 53, 54, 55, 56, 57, 58, 59, 60, 61, 62, 63, 64, 65, 66, 67, 68, 69, 70, 71, 72, 73, 74, 75, 76, 77] (by decide +kernel) (by decide +kernel)
set_option maxRecDepth 20000 in
theorem gX12_unlike_X12_isUnlike : GoodIn wsX12_unlike (wsV RX12 166 RX12 yX12_isUnlike wsX12_isUnlike) := goodIn_app (goodIn_of _ (by decide +kernel)) ggX12_unlike_X12_isUnlike
theorem dX12_unlike_0 : decode cX12_unlike 0 = .ok (.iload_n 1, 1) := by decide +kernel
theorem dX12_unlike_1 : decode cX12_unlike 1 = .ok (.invokestatic 107, 3) := by decide +kernel
theorem dX12_unlike_4 : decode cX12_unlike 4 = .ok (.ifCond .eq 20, 3) := by decide +kernel
theorem dX12_unlike_7 : decode cX12_unlike 7 = .ok (.iload_n 2, 1) := by decide +kernel
theorem dX12_unlike_8 : decode cX12_unlike 8 = .ok (.i2l, 1) := by decide +kernel
theorem dX12_unlike_9 : decode cX12_unlike 9 = .ok (.lconst 0, 1) := by decide +kernel
theorem dX12_unlike_10 : decode cX12_unlike 10 = .ok (.ldc2_w 114, 3) := by decide +kernel
theorem dX12_unlike_13 : decode cX12_unlike 13 = .ok (.invokestatic 97, 3) := by decide +kernel
theorem dX12_unlike_16 : decode cX12_unlike 16 = .ok (.ifCond .eq 8, 3) := by decide +kernel
theorem dX12_unlike_19 : decode cX12_unlike 19 = .ok (.iload_n 3, 1) := by decide +kernel
theorem dX12_unlike_20 : decode cX12_unlike 20 = .ok (.iconst (-1), 1) := by decide +kernel
theorem dX12_unlike_21 : decode cX12_unlike 21 = .ok (.if_icmp .ge 5, 3) := by decide +kernel
theorem dX12_unlike_24 : decode cX12_unlike 24 = .ok (.iconst (-1), 1) := by decide +kernel
theorem dX12_unlike_25 : decode cX12_unlike 25 = .ok (.ireturn, 1) := by decide +kernel
theorem dX12_unlike_26 : decode cX12_unlike 26 = .ok (.aload_n 0, 1) := by decide +kernel
theorem dX12_unlike_27 : decode cX12_unlike 27 = .ok (.iload_n 1, 1) := by decide +kernel
theorem dX12_unlike_28 : decode cX12_unlike 28 = .ok (.invokevirtual 162, 3) := by decide +kernel
theorem dX12_unlike_31 : decode cX12_unlike 31 = .ok (.iconst 0, 1) := by decide +kernel
theorem dX12_unlike_32 : decode cX12_unlike 32 = .ok (.istore 4, 2) := by decide +kernel
theorem dX12_unlike_34 : decode cX12_unlike 34 = .ok (.iconst 0, 1) := by decide +kernel
theorem dX12_unlike_35 : decode cX12_unlike 35 = .ok (.istore 5, 2) := by decide +kernel
theorem dX12_unlike_37 : decode cX12_unlike 37 = .ok (.iload 5, 2) := by decide +kernel
theorem dX12_unlike_39 : decode cX12_unlike 39 = .ok (.bipush 36, 2) := by decide +kernel
theorem dX12_unlike_41 : decode cX12_unlike 41 = .ok (.if_icmp .ge 32, 3) := by decide +kernel
theorem dX12_unlike_44 : decode cX12_unlike 44 = .ok (.aload_n 0, 1) := by decide +kernel
theorem dX12_unlike_45 : decode cX12_unlike 45 = .ok (.iload 5, 2) := by decide +kernel
theorem dX12_unlike_47 : decode cX12_unlike 47 = .ok (.iload_n 1, 1) := by decide +kernel
theorem dX12_unlike_48 : decode cX12_unlike 48 = .ok (.iload_n 2, 1) := by decide +kernel
theorem dX12_unlike_49 : decode cX12_unlike 49 = .ok (.invokevirtual 166, 3) := by decide +kernel
theorem dX12_unlike_52 : decode cX12_unlike 52 = .ok (.ifCond .eq 15, 3) := by decide +kernel
theorem dX12_unlike_55 : decode cX12_unlike 55 = .ok (.iload 4, 2) := by decide +kernel
theorem dX12_unlike_57 : decode cX12_unlike 57 = .ok (.iload_n 3, 1) := by decide +kernel
theorem dX12_unlike_58 : decode cX12_unlike 58 = .ok (.if_icmp .ne 6, 3) := by decide +kernel
theorem dX12_unlike_61 : decode cX12_unlike 61 = .ok (.iload 5, 2) := by decide +kernel
theorem dX12_unlike_63 : decode cX12_unlike 63 = .ok (.ireturn, 1) := by decide +kernel
theorem dX12_unlike_64 : decode cX12_unlike 64 = .ok (.iinc 4 1, 3) := by decide +kernel
theorem dX12_unlike_67 : decode cX12_unlike 67 = .ok (.iinc 5 1, 3) := by decide +kernel
theorem dX12_unlike_70 : decode cX12_unlike 70 = .ok (.goto (-33), 3) := by decide +kernel
theorem dX12_unlike_73 : decode cX12_unlike 73 = .ok (.iload_n 3, 1) := by decide +kernel
theorem dX12_unlike_74 : decode cX12_unlike 74 = .ok (.ifCond .ge 8, 3) := by decide +kernel
theorem dX12_unlike_77 : decode cX12_unlike 77 = .ok (.iload 4, 2) := by decide +kernel
theorem dX12_unlike_79 : decode cX12_unlike 79 = .ok (.goto 5, 3) := by decide +kernel
theorem dX12_unlike_82 : decode cX12_unlike 82 = .ok (.bipush (-4), 2) := by decide +kernel
theorem dX12_unlike_84 : decode cX12_unlike 84 = .ok (.ireturn, 1) := by decide +kernel
set_option maxRecDepth 20000 in
theorem ggX12_least_X12_in : GoodIn wsX12_least wsX12_in := goodIn_r _ [5] (by decide +kernel) (by decide +kernel)
set_option maxRecDepth 20000 in
theorem gX12_least_X12_in : GoodIn wsX12_least (va_wsS RX12 97 yX12_in wsX12_in) := goodIn_app (goodIn_of _ (by decide +kernel)) ggX12_least_X12_in
set_option maxRecDepth 20000 in
theorem ggX12_least_X12_isYear : GoodIn wsX12_least wsX12_isYear := goodIn_r _ [8, 9, 2, 3, 4, 5] (by decide +kernel) (by decide +kernel)
set_option maxRecDepth 20000 in
theorem gX12_least_X12_isYear : GoodIn wsX12_least (va_wsS RX12 107 yX12_isYear wsX12_isYear) := goodIn_app (goodIn_of _ (by decide +kernel)) ggX12_least_X12_isYear
set_option maxRecDepth 20000 in
theorem ggX12_least_X12_layWords : GoodIn wsX12_least wsX12_layWords := goodIn_r _ [13, 14, 15, 16, 17, 4, 18, 19, 20, 21, 22, 41, 42, 43, 44, 45, 46, 47, 48, 49, 50, 51, 52, 53, 54, 55, 56, 57, 58, 59, 60, 61, 62, 63, 64, 65, 66, 67, 68, 69, 70, 71, 72, 73, 74, 75, 76, 77, 78, 79, 80] (by decide +kernel) (by decide +kernel)
set_option maxRecDepth 20000 in
theorem gX12_least_X12_layWords : GoodIn wsX12_least (wsV RX12 162 RX12 yX12_layWords wsX12_layWords) := goodIn_app (goodIn_of _ (by decide +kernel)) ggX12_least_X12_layWords
set_option maxRecDepth 20000 in
theorem ggX12_least_X12_bits : GoodIn wsX12_least wsX12_bits := goodIn_r _ [25] (by decide +kernel) (by decide +kernel)
set_option maxRecDepth 20000 in
theorem gX12_least_X12_bits : GoodIn wsX12_least (va_wsS RX12 172 yX12_bits wsX12_bits) := goodIn_app (goodIn_of _ (by decide +kernel)) ggX12_least_X12_bits
set_option maxRecDepth 20000 in
theorem ggX12_least_X12_isUnlike : GoodIn wsX12_least wsX12_isUnlike := goodIn_r _ [29, 30, 31, 32, 4, 33, 22, 34, 35, 36, 37, 21, 14, 2, 3, 5, 38, 39, 40, 41, 42, 43, 44, 45, 46, 47, 48, 49, 50, 51, 52, 53, 54, 55, 56, 57, 58, 59, 60, 61, 62, 63, 64, 65, 66, 67, 68, 69, 70, 71, 72, 73, 74, 75, 76, 77, 78, 79, 80] (by decide +kernel) (by decide +kernel)
set_option maxRecDepth 20000 in
theorem gX12_least_X12_isUnlike : GoodIn wsX12_least (wsV RX12 166 RX12 yX12_isUnlike wsX12_isUnlike) := goodIn_app (goodIn_of _ (by decide +kernel)) ggX12_least_X12_isUnlike
theorem dX12_least_0 : decode cX12_least 0 = .ok (.iload_n 1, 1) := by decide +kernel
theorem dX12_least_1 : decode cX12_least 1 = .ok (.i2l, 1) := by decide +kernel
theorem dX12_least_2 : decode cX12_least 2 = .ok (.lconst 0, 1) := by decide +kernel
theorem dX12_least_3 : decode cX12_least 3 = .ok (.ldc2_w 170, 3) := by decide +kernel
theorem dX12_least_6 : decode cX12_least 6 = .ok (.invokestatic 97, 3) := by decide +kernel
theorem dX12_least_9 : decode cX12_least 9 = .ok (.ifCond .eq 10, 3) := by decide +kernel
theorem dX12_least_12 : decode cX12_least 12 = .ok (.iload_n 2, 1) := by decide +kernel
theorem dX12_least_13 : decode cX12_least 13 = .ok (.invokestatic 107, 3) := by decide +kernel
theorem dX12_least_16 : decode cX12_least 16 = .ok (.ifCond .ne 5, 3) := by decide +kernel
theorem dX12_least_19 : decode cX12_least 19 = .ok (.iconst (-1), 1) := by decide +kernel
theorem dX12_least_20 : decode cX12_least 20 = .ok (.ireturn, 1) := by decide +kernel
theorem dX12_least_21 : decode cX12_least 21 = .ok (.aload_n 0, 1) := by decide +kernel
theorem dX12_least_22 : decode cX12_least 22 = .ok (.iload_n 2, 1) := by decide +kernel
theorem dX12_least_23 : decode cX12_least 23 = .ok (.invokevirtual 162, 3) := by decide +kernel
theorem dX12_least_26 : decode cX12_least 26 = .ok (.bipush (-4), 2) := by decide +kernel
theorem dX12_least_28 : decode cX12_least 28 = .ok (.istore_n 3, 1) := by decide +kernel
theorem dX12_least_29 : decode cX12_least 29 = .ok (.iconst 0, 1) := by decide +kernel
theorem dX12_least_30 : decode cX12_least 30 = .ok (.istore 4, 2) := by decide +kernel
theorem dX12_least_32 : decode cX12_least 32 = .ok (.iload 4, 2) := by decide +kernel
theorem dX12_least_34 : decode cX12_least 34 = .ok (.sipush 256, 3) := by decide +kernel
theorem dX12_least_37 : decode cX12_least 37 = .ok (.if_icmp .ge 41, 3) := by decide +kernel
theorem dX12_least_40 : decode cX12_least 40 = .ok (.iload_n 3, 1) := by decide +kernel
theorem dX12_least_41 : decode cX12_least 41 = .ok (.bipush (-4), 2) := by decide +kernel
theorem dX12_least_43 : decode cX12_least 43 = .ok (.if_icmp .eq 15, 3) := by decide +kernel
theorem dX12_least_46 : decode cX12_least 46 = .ok (.iload 4, 2) := by decide +kernel
theorem dX12_least_48 : decode cX12_least 48 = .ok (.invokestatic 172, 3) := by decide +kernel
theorem dX12_least_51 : decode cX12_least 51 = .ok (.iload_n 3, 1) := by decide +kernel
theorem dX12_least_52 : decode cX12_least 52 = .ok (.invokestatic 172, 3) := by decide +kernel
theorem dX12_least_55 : decode cX12_least 55 = .ok (.if_icmp .ge 17, 3) := by decide +kernel
theorem dX12_least_58 : decode cX12_least 58 = .ok (.aload_n 0, 1) := by decide +kernel
theorem dX12_least_59 : decode cX12_least 59 = .ok (.iload_n 1, 1) := by decide +kernel
theorem dX12_least_60 : decode cX12_least 60 = .ok (.iload_n 2, 1) := by decide +kernel
theorem dX12_least_61 : decode cX12_least 61 = .ok (.iload 4, 2) := by decide +kernel
theorem dX12_least_63 : decode cX12_least 63 = .ok (.invokevirtual 166, 3) := by decide +kernel
theorem dX12_least_66 : decode cX12_least 66 = .ok (.ifCond .eq 6, 3) := by decide +kernel
theorem dX12_least_69 : decode cX12_least 69 = .ok (.iload 4, 2) := by decide +kernel
theorem dX12_least_71 : decode cX12_least 71 = .ok (.istore_n 3, 1) := by decide +kernel
theorem dX12_least_72 : decode cX12_least 72 = .ok (.iinc 4 1, 3) := by decide +kernel
theorem dX12_least_75 : decode cX12_least 75 = .ok (.goto (-43), 3) := by decide +kernel
theorem dX12_least_78 : decode cX12_least 78 = .ok (.iload_n 3, 1) := by decide +kernel
theorem dX12_least_79 : decode cX12_least 79 = .ok (.ireturn, 1) := by decide +kernel
set_option maxRecDepth 20000 in
theorem ggX12_doneBy_X12_in : GoodIn wsX12_doneBy wsX12_in := goodIn_r _ [7] (by decide +kernel) (by decide +kernel)
set_option maxRecDepth 20000 in
theorem gX12_doneBy_X12_in : GoodIn wsX12_doneBy (va_wsS RX12 97 yX12_in wsX12_in) := goodIn_app (goodIn_of _ (by decide +kernel)) ggX12_doneBy_X12_in
set_option maxRecDepth 20000 in
theorem ggX12_doneBy_X12_isYear : GoodIn wsX12_doneBy wsX12_isYear := goodIn_r _ [10, 11, 4, 5, 6, 7] (by decide +kernel) (by decide +kernel)
set_option maxRecDepth 20000 in
theorem gX12_doneBy_X12_isYear : GoodIn wsX12_doneBy (va_wsS RX12 107 yX12_isYear wsX12_isYear) := goodIn_app (goodIn_of _ (by decide +kernel)) ggX12_doneBy_X12_isYear
set_option maxRecDepth 20000 in
theorem ggX12_doneBy_X12_layWords : GoodIn wsX12_doneBy wsX12_layWords := goodIn_r _ [15, 3, 16, 17, 18, 6, 19, 20, 21, 22, 23, 39, 40, 41, 42, 43, 44, 45, 46, 47, 48, 49, 50, 51, 52, 53, 54, 55, 56, 57, 58, 59, 60, 61, 62, 63, 64, 65, 66, 67, 68, 69, 70, 71, 72, 73, 74, 75, 76, 77, 78] (by decide +kernel) (by decide +kernel)
set_option maxRecDepth 20000 in
theorem gX12_doneBy_X12_layWords : GoodIn wsX12_doneBy (wsV RX12 162 RX12 yX12_layWords wsX12_layWords) := goodIn_app (goodIn_of _ (by decide +kernel)) ggX12_doneBy_X12_layWords
set_option maxRecDepth 20000 in
theorem ggX12_doneBy_X12_isUnlike : GoodIn wsX12_doneBy wsX12_isUnlike := goodIn_r _ [27, 28, 29, 30, 6, 31, 23, 32, 33, 34, 35, 22, 3, 4, 5, 7, 36, 37, 38, 39, 40, 41, 42, 43, 44, 45, 46, 47, 48, 49, 50, 51, 52, 53, 54, 55, 56, 57, 58, 59, 60, 61, 62, 63, 64, 65, 66, 67, 68, 69, 70, 71, 72, 73, 74, 75, 76, 77, 78] (by decide +kernel) (by decide +kernel)
set_option maxRecDepth 20000 in
theorem gX12_doneBy_X12_isUnlike : GoodIn wsX12_doneBy (wsV RX12 166 RX12 yX12_isUnlike wsX12_isUnlike) := goodIn_app (goodIn_of _ (by decide +kernel)) ggX12_doneBy_X12_isUnlike
theorem dX12_doneBy_0 : decode cX12_doneBy 0 = .ok (.iload_n 1, 1) := by decide +kernel
theorem dX12_doneBy_1 : decode cX12_doneBy 1 = .ok (.i2l, 1) := by decide +kernel
theorem dX12_doneBy_2 : decode cX12_doneBy 2 = .ok (.lconst 0, 1) := by decide +kernel
theorem dX12_doneBy_3 : decode cX12_doneBy 3 = .ok (.ldc2_w 170, 3) := by decide +kernel
theorem dX12_doneBy_6 : decode cX12_doneBy 6 = .ok (.invokestatic 97, 3) := by decide +kernel
theorem dX12_doneBy_9 : decode cX12_doneBy 9 = .ok (.ifCond .eq 22, 3) := by decide +kernel
