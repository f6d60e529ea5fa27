set_option maxRecDepth 20000 in
theorem ggX1_pass_X1_inherit : GoodIn wsX1_pass wsX1_inherit := goodIn_r _ [9, 10, 11, 4, 1, 2, 12, 13, 14, 15, 16, 17, 18, 8, 19, 20, 21, 22, 23, 24, 25, 26, 27, 28, 29, 30, 31, 32, 33, 34, 35, 36, 37, 38, 39, 40, 41, 42, 43, 44, 45, 46, 47, 48, 49, 50, 51, 52, 53, 54, 55, 56, 57, 58, 59, 60, 61, 62, 63, 64, 65, 66, 67, 68, 69, 70, 71, 72, 73, 74, 75, 76, 77, 78, 79, 80, 81, 82, 83, 84, 85, 86, 87, 88, 89, 90, 91, 92, 93, 94, 95, 96, 97, 98, 99, 100, 101, 102, 103, 104, 105, 106, 107, 108] (by decide +kernel) (by decide +kernel)
set_option maxRecDepth 20000 in
theorem gX1_pass_X1_inherit : GoodIn wsX1_pass (wsV RX1 61 RX1 yX1_inherit wsX1_inherit) := goodIn_app (goodIn_of _ (by decide +kernel)) ggX1_pass_X1_inherit
theorem dX1_pass_0 : decode cX1_pass 0 = .ok (.iconst 0, 1) := by decide +kernel
theorem dX1_pass_1 : decode cX1_pass 1 = .ok (.istore_n 2, 1) := by decide +kernel
theorem dX1_pass_2 : decode cX1_pass 2 = .ok (.iload_n 2, 1) := by decide +kernel
theorem dX1_pass_3 : decode cX1_pass 3 = .ok (.aload_n 0, 1) := by decide +kernel
theorem dX1_pass_4 : decode cX1_pass 4 = .ok (.getfield 28, 3) := by decide +kernel
theorem dX1_pass_7 : decode cX1_pass 7 = .ok (.getfield 50, 3) := by decide +kernel
theorem dX1_pass_10 : decode cX1_pass 10 = .ok (.if_icmp .ge 39, 3) := by decide +kernel
theorem dX1_pass_13 : decode cX1_pass 13 = .ok (.aload_n 0, 1) := by decide +kernel
theorem dX1_pass_14 : decode cX1_pass 14 = .ok (.getfield 28, 3) := by decide +kernel
theorem dX1_pass_17 : decode cX1_pass 17 = .ok (.getfield 58, 3) := by decide +kernel
theorem dX1_pass_20 : decode cX1_pass 20 = .ok (.iload_n 2, 1) := by decide +kernel
theorem dX1_pass_21 : decode cX1_pass 21 = .ok (.iaload, 1) := by decide +kernel
theorem dX1_pass_22 : decode cX1_pass 22 = .ok (.iload_n 1, 1) := by decide +kernel
theorem dX1_pass_23 : decode cX1_pass 23 = .ok (.if_icmp .ne 20, 3) := by decide +kernel
theorem dX1_pass_26 : decode cX1_pass 26 = .ok (.aload_n 0, 1) := by decide +kernel
theorem dX1_pass_27 : decode cX1_pass 27 = .ok (.getfield 9, 3) := by decide +kernel
theorem dX1_pass_30 : decode cX1_pass 30 = .ok (.iload_n 2, 1) := by decide +kernel
theorem dX1_pass_31 : decode cX1_pass 31 = .ok (.laload, 1) := by decide +kernel
theorem dX1_pass_32 : decode cX1_pass 32 = .ok (.lconst 0, 1) := by decide +kernel
theorem dX1_pass_33 : decode cX1_pass 33 = .ok (.lcmp, 1) := by decide +kernel
theorem dX1_pass_34 : decode cX1_pass 34 = .ok (.ifCond .le 9, 3) := by decide +kernel
theorem dX1_pass_37 : decode cX1_pass 37 = .ok (.aload_n 0, 1) := by decide +kernel
theorem dX1_pass_38 : decode cX1_pass 38 = .ok (.iload_n 2, 1) := by decide +kernel
theorem dX1_pass_39 : decode cX1_pass 39 = .ok (.iload_n 1, 1) := by decide +kernel
theorem dX1_pass_40 : decode cX1_pass 40 = .ok (.invokevirtual 61, 3) := by decide +kernel
theorem dX1_pass_43 : decode cX1_pass 43 = .ok (.iinc 2 1, 3) := by decide +kernel
theorem dX1_pass_46 : decode cX1_pass 46 = .ok (.goto (-44), 3) := by decide +kernel
theorem dX1_pass_49 : decode cX1_pass 49 = .ok (.return_, 1) := by decide +kernel
set_option maxRecDepth 20000 in
theorem ggX1_inherit_J7_fill_53178 : GoodIn wsX1_inherit wsJ7_fill_53178 := goodIn_r _ [9] (by decide +kernel) (by decide +kernel)
set_option maxRecDepth 20000 in
theorem gX1_inherit_J7_fill_53178 : GoodIn wsX1_inherit (va_wsS RX1 68 yJ7_fill_53178 wsJ7_fill_53178) := goodIn_app (goodIn_of _ (by decide +kernel)) ggX1_inherit_J7_fill_53178
set_option maxRecDepth 20000 in
theorem ggX1_inherit_X1_send : GoodIn wsX1_inherit wsX1_send := goodIn_r _ [14, 2, 1, 15, 16, 17, 18, 19, 20, 13, 21, 22, 23, 8, 24, 25, 26, 27, 28, 29, 30, 31, 32, 33, 34, 35, 36, 37, 38, 39, 40, 41, 42, 43, 44, 45, 46, 47, 84, 85, 86, 87, 88, 89, 90, 91] (by decide +kernel) (by decide +kernel)
set_option maxRecDepth 20000 in
theorem gX1_inherit_X1_send : GoodIn wsX1_inherit (wsV RX1 71 RX1 yX1_send wsX1_send) := goodIn_app (goodIn_of _ (by decide +kernel)) ggX1_inherit_X1_send
set_option maxRecDepth 20000 in
theorem ggX1_inherit_X7_isDead : GoodIn wsX1_inherit wsX7_isDead := goodIn_r _ [52, 53, 92, 93, 94, 95, 96, 97, 98, 99, 100, 101, 102, 103] (by decide +kernel) (by decide +kernel)
set_option maxRecDepth 20000 in
theorem gX1_inherit_X7_isDead : GoodIn wsX1_inherit (wsV RX1 75 RX7 yX7_isDead wsX7_isDead) := goodIn_app (goodIn_of _ (by decide +kernel)) ggX1_inherit_X7_isDead
set_option maxRecDepth 20000 in
theorem ggX1_inherit_X1_keep : GoodIn wsX1_inherit wsX1_keep := goodIn_r _ [57, 2, 1, 3, 15, 16, 17, 84, 85, 86, 87, 88, 89, 90, 91] (by decide +kernel) (by decide +kernel)
set_option maxRecDepth 20000 in
theorem gX1_inherit_X1_keep : GoodIn wsX1_inherit (wsV RX1 79 RX1 yX1_keep wsX1_keep) := goodIn_app (goodIn_of _ (by decide +kernel)) ggX1_inherit_X1_keep
set_option maxRecDepth 20000 in
theorem ggX1_inherit_X7_children : GoodIn wsX1_inherit wsX7_children := goodIn_r _ [61, 62, 63, 64, 65, 51, 66, 67, 68, 69, 92, 93, 94, 95, 96, 97, 98, 99, 100, 101, 102, 103] (by decide +kernel) (by decide +kernel)
set_option maxRecDepth 20000 in
theorem gX1_inherit_X7_children : GoodIn wsX1_inherit (wsV RX1 83 RX7 yX7_children wsX7_children) := goodIn_app (goodIn_of _ (by decide +kernel)) ggX1_inherit_X7_children
set_option maxRecDepth 20000 in
theorem ggX1_inherit_X1_cut : GoodIn wsX1_inherit wsX1_cut := goodIn_r _ [73, 2, 1, 15, 74, 16, 17, 84, 85, 86, 87, 88, 89, 90, 91] (by decide +kernel) (by decide +kernel)
set_option maxRecDepth 20000 in
theorem gX1_inherit_X1_cut : GoodIn wsX1_inherit (wsV RX1 86 RX1 yX1_cut wsX1_cut) := goodIn_app (goodIn_of _ (by decide +kernel)) ggX1_inherit_X1_cut
set_option maxRecDepth 20000 in
theorem ggX1_inherit_X1_handOn : GoodIn wsX1_inherit wsX1_handOn := goodIn_r _ [78, 4, 5, 79, 64, 65, 51, 66, 67, 68, 69, 80, 81, 82, 13, 83, 1, 2, 15, 16, 17, 10, 11, 12, 14, 18, 19, 20, 21, 22, 23, 8, 24, 25, 26, 27, 28, 29, 30, 31, 32, 33, 34, 35, 36, 37, 38, 39, 40, 41, 42, 43, 44, 45, 46, 47, 84, 85, 86, 87, 88, 89, 90, 91, 92, 93, 94, 95, 96, 97, 98, 99, 100, 101, 102, 103] (by decide +kernel) (by decide +kernel)
set_option maxRecDepth 20000 in
theorem gX1_inherit_X1_handOn : GoodIn wsX1_inherit (wsV RX1 89 RX1 yX1_handOn wsX1_handOn) := goodIn_app (goodIn_of _ (by decide +kernel)) ggX1_inherit_X1_handOn
theorem dX1_inherit_0 : decode cX1_inherit 0 = .ok (.aload_n 0, 1) := by decide +kernel
theorem dX1_inherit_1 : decode cX1_inherit 1 = .ok (.iconst 0, 1) := by decide +kernel
theorem dX1_inherit_2 : decode cX1_inherit 2 = .ok (.putfield 65, 3) := by decide +kernel
theorem dX1_inherit_5 : decode cX1_inherit 5 = .ok (.aload_n 0, 1) := by decide +kernel
theorem dX1_inherit_6 : decode cX1_inherit 6 = .ok (.getfield 15, 3) := by decide +kernel
theorem dX1_inherit_9 : decode cX1_inherit 9 = .ok (.iconst (-1), 1) := by decide +kernel
theorem dX1_inherit_10 : decode cX1_inherit 10 = .ok (.invokestatic 68, 3) := by decide +kernel
theorem dX1_inherit_13 : decode cX1_inherit 13 = .ok (.aload_n 0, 1) := by decide +kernel
theorem dX1_inherit_14 : decode cX1_inherit 14 = .ok (.iload_n 1, 1) := by decide +kernel
theorem dX1_inherit_15 : decode cX1_inherit 15 = .ok (.aload_n 0, 1) := by decide +kernel
theorem dX1_inherit_16 : decode cX1_inherit 16 = .ok (.getfield 9, 3) := by decide +kernel
theorem dX1_inherit_19 : decode cX1_inherit 19 = .ok (.iload_n 1, 1) := by decide +kernel
theorem dX1_inherit_20 : decode cX1_inherit 20 = .ok (.laload, 1) := by decide +kernel
theorem dX1_inherit_21 : decode cX1_inherit 21 = .ok (.lconst 1, 1) := by decide +kernel
theorem dX1_inherit_22 : decode cX1_inherit 22 = .ok (.invokevirtual 71, 3) := by decide +kernel
theorem dX1_inherit_25 : decode cX1_inherit 25 = .ok (.aload_n 0, 1) := by decide +kernel
theorem dX1_inherit_26 : decode cX1_inherit 26 = .ok (.getfield 9, 3) := by decide +kernel
theorem dX1_inherit_29 : decode cX1_inherit 29 = .ok (.iload_n 1, 1) := by decide +kernel
theorem dX1_inherit_30 : decode cX1_inherit 30 = .ok (.lconst 0, 1) := by decide +kernel
theorem dX1_inherit_31 : decode cX1_inherit 31 = .ok (.lastore, 1) := by decide +kernel
theorem dX1_inherit_32 : decode cX1_inherit 32 = .ok (.iload_n 1, 1) := by decide +kernel
theorem dX1_inherit_33 : decode cX1_inherit 33 = .ok (.istore_n 3, 1) := by decide +kernel
theorem dX1_inherit_34 : decode cX1_inherit 34 = .ok (.iload_n 3, 1) := by decide +kernel
theorem dX1_inherit_35 : decode cX1_inherit 35 = .ok (.aload_n 0, 1) := by decide +kernel
theorem dX1_inherit_36 : decode cX1_inherit 36 = .ok (.getfield 28, 3) := by decide +kernel
theorem dX1_inherit_39 : decode cX1_inherit 39 = .ok (.getfield 50, 3) := by decide +kernel
theorem dX1_inherit_42 : decode cX1_inherit 42 = .ok (.if_icmp .ge 58, 3) := by decide +kernel
theorem dX1_inherit_45 : decode cX1_inherit 45 = .ok (.aload_n 0, 1) := by decide +kernel
theorem dX1_inherit_46 : decode cX1_inherit 46 = .ok (.getfield 28, 3) := by decide +kernel
theorem dX1_inherit_49 : decode cX1_inherit 49 = .ok (.iload_n 3, 1) := by decide +kernel
theorem dX1_inherit_50 : decode cX1_inherit 50 = .ok (.iload_n 2, 1) := by decide +kernel
theorem dX1_inherit_51 : decode cX1_inherit 51 = .ok (.invokevirtual 75, 3) := by decide +kernel
theorem dX1_inherit_54 : decode cX1_inherit 54 = .ok (.ifCond .ne 11, 3) := by decide +kernel
theorem dX1_inherit_57 : decode cX1_inherit 57 = .ok (.aload_n 0, 1) := by decide +kernel
theorem dX1_inherit_58 : decode cX1_inherit 58 = .ok (.iload_n 3, 1) := by decide +kernel
theorem dX1_inherit_59 : decode cX1_inherit 59 = .ok (.invokevirtual 79, 3) := by decide +kernel
theorem dX1_inherit_62 : decode cX1_inherit 62 = .ok (.goto 32, 3) := by decide +kernel
theorem dX1_inherit_65 : decode cX1_inherit 65 = .ok (.aload_n 0, 1) := by decide +kernel
theorem dX1_inherit_66 : decode cX1_inherit 66 = .ok (.getfield 15, 3) := by decide +kernel
theorem dX1_inherit_69 : decode cX1_inherit 69 = .ok (.iload_n 3, 1) := by decide +kernel
theorem dX1_inherit_70 : decode cX1_inherit 70 = .ok (.iaload, 1) := by decide +kernel
theorem dX1_inherit_71 : decode cX1_inherit 71 = .ok (.ifCond .lt 23, 3) := by decide +kernel
theorem dX1_inherit_74 : decode cX1_inherit 74 = .ok (.aload_n 0, 1) := by decide +kernel
theorem dX1_inherit_75 : decode cX1_inherit 75 = .ok (.iload_n 3, 1) := by decide +kernel
theorem dX1_inherit_76 : decode cX1_inherit 76 = .ok (.aload_n 0, 1) := by decide +kernel
theorem dX1_inherit_77 : decode cX1_inherit 77 = .ok (.getfield 28, 3) := by decide +kernel
theorem dX1_inherit_80 : decode cX1_inherit 80 = .ok (.iload_n 3, 1) := by decide +kernel
theorem dX1_inherit_81 : decode cX1_inherit 81 = .ok (.iload_n 2, 1) := by decide +kernel
theorem dX1_inherit_82 : decode cX1_inherit 82 = .ok (.invokevirtual 83, 3) := by decide +kernel
theorem dX1_inherit_85 : decode cX1_inherit 85 = .ok (.invokevirtual 86, 3) := by decide +kernel
theorem dX1_inherit_88 : decode cX1_inherit 88 = .ok (.aload_n 0, 1) := by decide +kernel
theorem dX1_inherit_89 : decode cX1_inherit 89 = .ok (.iload_n 3, 1) := by decide +kernel
theorem dX1_inherit_90 : decode cX1_inherit 90 = .ok (.iload_n 2, 1) := by decide +kernel
theorem dX1_inherit_91 : decode cX1_inherit 91 = .ok (.invokevirtual 89, 3) := by decide +kernel
theorem dX1_inherit_94 : decode cX1_inherit 94 = .ok (.iinc 3 1, 3) := by decide +kernel
theorem dX1_inherit_97 : decode cX1_inherit 97 = .ok (.goto (-63), 3) := by decide +kernel
theorem dX1_inherit_100 : decode cX1_inherit 100 = .ok (.return_, 1) := by decide +kernel
theorem dX1_keep_0 : decode cX1_keep 0 = .ok (.aload_n 0, 1) := by decide +kernel
theorem dX1_keep_1 : decode cX1_keep 1 = .ok (.getfield 15, 3) := by decide +kernel
theorem dX1_keep_4 : decode cX1_keep 4 = .ok (.iload_n 1, 1) := by decide +kernel
theorem dX1_keep_5 : decode cX1_keep 5 = .ok (.iaload, 1) := by decide +kernel
theorem dX1_keep_6 : decode cX1_keep 6 = .ok (.istore_n 2, 1) := by decide +kernel
theorem dX1_keep_7 : decode cX1_keep 7 = .ok (.iconst 0, 1) := by decide +kernel
theorem dX1_keep_8 : decode cX1_keep 8 = .ok (.istore_n 3, 1) := by decide +kernel
theorem dX1_keep_9 : decode cX1_keep 9 = .ok (.iload_n 3, 1) := by decide +kernel
theorem dX1_keep_10 : decode cX1_keep 10 = .ok (.aload_n 0, 1) := by decide +kernel
theorem dX1_keep_11 : decode cX1_keep 11 = .ok (.getfield 65, 3) := by decide +kernel
theorem dX1_keep_14 : decode cX1_keep 14 = .ok (.if_icmp .ge 42, 3) := by decide +kernel
theorem dX1_keep_17 : decode cX1_keep 17 = .ok (.iload_n 2, 1) := by decide +kernel
theorem dX1_keep_18 : decode cX1_keep 18 = .ok (.ifCond .lt 38, 3) := by decide +kernel
theorem dX1_keep_21 : decode cX1_keep 21 = .ok (.aload_n 0, 1) := by decide +kernel
theorem dX1_keep_22 : decode cX1_keep 22 = .ok (.getfield 9, 3) := by decide +kernel
theorem dX1_keep_25 : decode cX1_keep 25 = .ok (.iload_n 1, 1) := by decide +kernel
theorem dX1_keep_26 : decode cX1_keep 26 = .ok (.dup2, 1) := by decide +kernel
theorem dX1_keep_27 : decode cX1_keep 27 = .ok (.laload, 1) := by decide +kernel
theorem dX1_keep_28 : decode cX1_keep 28 = .ok (.aload_n 0, 1) := by decide +kernel
theorem dX1_keep_29 : decode cX1_keep 29 = .ok (.getfield 22, 3) := by decide +kernel
theorem dX1_keep_32 : decode cX1_keep 32 = .ok (.iload_n 2, 1) := by decide +kernel
theorem dX1_keep_33 : decode cX1_keep 33 = .ok (.laload, 1) := by decide +kernel
theorem dX1_keep_34 : decode cX1_keep 34 = .ok (.aload_n 0, 1) := by decide +kernel
theorem dX1_keep_35 : decode cX1_keep 35 = .ok (.getfield 25, 3) := by decide +kernel
theorem dX1_keep_38 : decode cX1_keep 38 = .ok (.iload_n 2, 1) := by decide +kernel
theorem dX1_keep_39 : decode cX1_keep 39 = .ok (.laload, 1) := by decide +kernel
theorem dX1_keep_40 : decode cX1_keep 40 = .ok (.lmul, 1) := by decide +kernel
theorem dX1_keep_41 : decode cX1_keep 41 = .ok (.ladd, 1) := by decide +kernel
theorem dX1_keep_42 : decode cX1_keep 42 = .ok (.lastore, 1) := by decide +kernel
theorem dX1_keep_43 : decode cX1_keep 43 = .ok (.aload_n 0, 1) := by decide +kernel
theorem dX1_keep_44 : decode cX1_keep 44 = .ok (.getfield 19, 3) := by decide +kernel
theorem dX1_keep_47 : decode cX1_keep 47 = .ok (.iload_n 2, 1) := by decide +kernel
theorem dX1_keep_48 : decode cX1_keep 48 = .ok (.iaload, 1) := by decide +kernel
theorem dX1_keep_49 : decode cX1_keep 49 = .ok (.istore_n 2, 1) := by decide +kernel
theorem dX1_keep_50 : decode cX1_keep 50 = .ok (.iinc 3 1, 3) := by decide +kernel
theorem dX1_keep_53 : decode cX1_keep 53 = .ok (.goto (-44), 3) := by decide +kernel
theorem dX1_keep_56 : decode cX1_keep 56 = .ok (.return_, 1) := by decide +kernel
theorem dX1_cut_0 : decode cX1_cut 0 = .ok (.aload_n 0, 1) := by decide +kernel
theorem dX1_cut_1 : decode cX1_cut 1 = .ok (.getfield 15, 3) := by decide +kernel
theorem dX1_cut_4 : decode cX1_cut 4 = .ok (.iload_n 1, 1) := by decide +kernel
theorem dX1_cut_5 : decode cX1_cut 5 = .ok (.iaload, 1) := by decide +kernel
theorem dX1_cut_6 : decode cX1_cut 6 = .ok (.istore_n 3, 1) := by decide +kernel
theorem dX1_cut_7 : decode cX1_cut 7 = .ok (.iconst 0, 1) := by decide +kernel
theorem dX1_cut_8 : decode cX1_cut 8 = .ok (.istore 4, 2) := by decide +kernel
theorem dX1_cut_10 : decode cX1_cut 10 = .ok (.iload 4, 2) := by decide +kernel
theorem dX1_cut_12 : decode cX1_cut 12 = .ok (.aload_n 0, 1) := by decide +kernel
theorem dX1_cut_13 : decode cX1_cut 13 = .ok (.getfield 65, 3) := by decide +kernel
theorem dX1_cut_16 : decode cX1_cut 16 = .ok (.if_icmp .ge 75, 3) := by decide +kernel
theorem dX1_cut_19 : decode cX1_cut 19 = .ok (.iload_n 3, 1) := by decide +kernel
theorem dX1_cut_20 : decode cX1_cut 20 = .ok (.ifCond .lt 71, 3) := by decide +kernel
theorem dX1_cut_23 : decode cX1_cut 23 = .ok (.iload_n 2, 1) := by decide +kernel
theorem dX1_cut_24 : decode cX1_cut 24 = .ok (.ifCond .ne 7, 3) := by decide +kernel
theorem dX1_cut_27 : decode cX1_cut 27 = .ok (.lconst 0, 1) := by decide +kernel
theorem dX1_cut_28 : decode cX1_cut 28 = .ok (.goto 12, 3) := by decide +kernel
theorem dX1_cut_31 : decode cX1_cut 31 = .ok (.aload_n 0, 1) := by decide +kernel
theorem dX1_cut_32 : decode cX1_cut 32 = .ok (.getfield 22, 3) := by decide +kernel
theorem dX1_cut_35 : decode cX1_cut 35 = .ok (.iload_n 3, 1) := by decide +kernel
theorem dX1_cut_36 : decode cX1_cut 36 = .ok (.laload, 1) := by decide +kernel
theorem dX1_cut_37 : decode cX1_cut 37 = .ok (.iload_n 2, 1) := by decide +kernel
theorem dX1_cut_38 : decode cX1_cut 38 = .ok (.i2l, 1) := by decide +kernel
theorem dX1_cut_39 : decode cX1_cut 39 = .ok (.ldiv, 1) := by decide +kernel
theorem dX1_cut_40 : decode cX1_cut 40 = .ok (.lstore 5, 2) := by decide +kernel
theorem dX1_cut_42 : decode cX1_cut 42 = .ok (.aload_n 0, 1) := by decide +kernel
theorem dX1_cut_43 : decode cX1_cut 43 = .ok (.dup, 1) := by decide +kernel
theorem dX1_cut_44 : decode cX1_cut 44 = .ok (.getfield 40, 3) := by decide +kernel
theorem dX1_cut_47 : decode cX1_cut 47 = .ok (.aload_n 0, 1) := by decide +kernel
theorem dX1_cut_48 : decode cX1_cut 48 = .ok (.getfield 22, 3) := by decide +kernel
theorem dX1_cut_51 : decode cX1_cut 51 = .ok (.iload_n 3, 1) := by decide +kernel
theorem dX1_cut_52 : decode cX1_cut 52 = .ok (.laload, 1) := by decide +kernel
theorem dX1_cut_53 : decode cX1_cut 53 = .ok (.lload 5, 2) := by decide +kernel
theorem dX1_cut_55 : decode cX1_cut 55 = .ok (.iload_n 2, 1) := by decide +kernel
theorem dX1_cut_56 : decode cX1_cut 56 = .ok (.i2l, 1) := by decide +kernel
theorem dX1_cut_57 : decode cX1_cut 57 = .ok (.lmul, 1) := by decide +kernel
theorem dX1_cut_58 : decode cX1_cut 58 = .ok (.lsub, 1) := by decide +kernel
theorem dX1_cut_59 : decode cX1_cut 59 = .ok (.aload_n 0, 1) := by decide +kernel
theorem dX1_cut_60 : decode cX1_cut 60 = .ok (.getfield 25, 3) := by decide +kernel
theorem dX1_cut_63 : decode cX1_cut 63 = .ok (.iload_n 3, 1) := by decide +kernel
theorem dX1_cut_64 : decode cX1_cut 64 = .ok (.laload, 1) := by decide +kernel
theorem dX1_cut_65 : decode cX1_cut 65 = .ok (.lmul, 1) := by decide +kernel
theorem dX1_cut_66 : decode cX1_cut 66 = .ok (.ladd, 1) := by decide +kernel
theorem dX1_cut_67 : decode cX1_cut 67 = .ok (.putfield 40, 3) := by decide +kernel
theorem dX1_cut_70 : decode cX1_cut 70 = .ok (.aload_n 0, 1) := by decide +kernel
theorem dX1_cut_71 : decode cX1_cut 71 = .ok (.getfield 22, 3) := by decide +kernel
theorem dX1_cut_74 : decode cX1_cut 74 = .ok (.iload_n 3, 1) := by decide +kernel
theorem dX1_cut_75 : decode cX1_cut 75 = .ok (.lload 5, 2) := by decide +kernel
theorem dX1_cut_77 : decode cX1_cut 77 = .ok (.lastore, 1) := by decide +kernel
theorem dX1_cut_78 : decode cX1_cut 78 = .ok (.aload_n 0, 1) := by decide +kernel
theorem dX1_cut_79 : decode cX1_cut 79 = .ok (.getfield 19, 3) := by decide +kernel
theorem dX1_cut_82 : decode cX1_cut 82 = .ok (.iload_n 3, 1) := by decide +kernel
theorem dX1_cut_83 : decode cX1_cut 83 = .ok (.iaload, 1) := by decide +kernel
theorem dX1_cut_84 : decode cX1_cut 84 = .ok (.istore_n 3, 1) := by decide +kernel
theorem dX1_cut_85 : decode cX1_cut 85 = .ok (.iinc 4 1, 3) := by decide +kernel
theorem dX1_cut_88 : decode cX1_cut 88 = .ok (.goto (-78), 3) := by decide +kernel
theorem dX1_cut_91 : decode cX1_cut 91 = .ok (.return_, 1) := by decide +kernel
set_option maxRecDepth 20000 in
theorem ggX1_handOn_X7_isChild : GoodIn wsX1_handOn wsX7_isChild := goodIn_r _ [7, 8, 9, 10, 64, 65, 66, 67, 68, 69, 70, 71, 72, 73, 74, 75] (by decide +kernel) (by decide +kernel)
set_option maxRecDepth 20000 in
theorem gX1_handOn_X7_isChild : GoodIn wsX1_handOn (wsV RX1 92 RX7 yX7_isChild wsX7_isChild) := goodIn_app (goodIn_of _ (by decide +kernel)) ggX1_handOn_X7_isChild
set_option maxRecDepth 20000 in
theorem ggX1_handOn_X1_sendAll : GoodIn wsX1_handOn wsX1_sendAll := goodIn_r _ [15, 16, 17, 18, 19, 20, 21, 22, 23, 14, 24, 25, 26, 27, 28, 29, 30, 31, 32, 33, 34, 35, 36, 37, 38, 39, 40, 41, 42, 43, 44, 45, 46, 47, 48, 49, 50, 51, 52, 53, 54, 55, 56, 57, 58, 59, 60, 61, 62, 63] (by decide +kernel) (by decide +kernel)
set_option maxRecDepth 20000 in
theorem gX1_handOn_X1_sendAll : GoodIn wsX1_handOn (wsV RX1 95 RX1 yX1_sendAll wsX1_sendAll) := goodIn_app (goodIn_of _ (by decide +kernel)) ggX1_handOn_X1_sendAll
theorem dX1_handOn_0 : decode cX1_handOn 0 = .ok (.iload_n 1, 1) := by decide +kernel
theorem dX1_handOn_1 : decode cX1_handOn 1 = .ok (.iconst 1, 1) := by decide +kernel
theorem dX1_handOn_2 : decode cX1_handOn 2 = .ok (.iadd, 1) := by decide +kernel
theorem dX1_handOn_3 : decode cX1_handOn 3 = .ok (.istore_n 3, 1) := by decide +kernel
theorem dX1_handOn_4 : decode cX1_handOn 4 = .ok (.iload_n 3, 1) := by decide +kernel
theorem dX1_handOn_5 : decode cX1_handOn 5 = .ok (.aload_n 0, 1) := by decide +kernel
theorem dX1_handOn_6 : decode cX1_handOn 6 = .ok (.getfield 28, 3) := by decide +kernel
theorem dX1_handOn_9 : decode cX1_handOn 9 = .ok (.getfield 50, 3) := by decide +kernel
theorem dX1_handOn_12 : decode cX1_handOn 12 = .ok (.if_icmp .ge 28, 3) := by decide +kernel
theorem dX1_handOn_15 : decode cX1_handOn 15 = .ok (.aload_n 0, 1) := by decide +kernel
theorem dX1_handOn_16 : decode cX1_handOn 16 = .ok (.getfield 28, 3) := by decide +kernel
theorem dX1_handOn_19 : decode cX1_handOn 19 = .ok (.iload_n 3, 1) := by decide +kernel
theorem dX1_handOn_20 : decode cX1_handOn 20 = .ok (.iload_n 1, 1) := by decide +kernel
theorem dX1_handOn_21 : decode cX1_handOn 21 = .ok (.iload_n 2, 1) := by decide +kernel
theorem dX1_handOn_22 : decode cX1_handOn 22 = .ok (.invokevirtual 92, 3) := by decide +kernel
theorem dX1_handOn_25 : decode cX1_handOn 25 = .ok (.ifCond .eq 9, 3) := by decide +kernel
theorem dX1_handOn_28 : decode cX1_handOn 28 = .ok (.aload_n 0, 1) := by decide +kernel
theorem dX1_handOn_29 : decode cX1_handOn 29 = .ok (.iload_n 1, 1) := by decide +kernel
theorem dX1_handOn_30 : decode cX1_handOn 30 = .ok (.iload_n 3, 1) := by decide +kernel
theorem dX1_handOn_31 : decode cX1_handOn 31 = .ok (.invokevirtual 95, 3) := by decide +kernel
theorem dX1_handOn_34 : decode cX1_handOn 34 = .ok (.iinc 3 1, 3) := by decide +kernel
theorem dX1_handOn_37 : decode cX1_handOn 37 = .ok (.goto (-33), 3) := by decide +kernel
theorem dX1_handOn_40 : decode cX1_handOn 40 = .ok (.return_, 1) := by decide +kernel
set_option maxRecDepth 20000 in
theorem ggX1_sendAll_X1_send : GoodIn wsX1_sendAll wsX1_send := goodIn_r _ [10, 2, 1, 3, 4, 5, 11, 12, 13, 9, 14, 15, 16, 17, 18, 19, 20, 21, 22, 23, 24, 25, 26, 27, 28, 29, 30, 31, 32, 33, 34, 35, 36, 37, 38, 39, 40, 41, 42, 43, 44, 45, 46, 47, 48, 49] (by decide +kernel) (by decide +kernel)
set_option maxRecDepth 20000 in
theorem gX1_sendAll_X1_send : GoodIn wsX1_sendAll (wsV RX1 71 RX1 yX1_send wsX1_send) := goodIn_app (goodIn_of _ (by decide +kernel)) ggX1_sendAll_X1_send
theorem dX1_sendAll_0 : decode cX1_sendAll 0 = .ok (.aload_n 0, 1) := by decide +kernel
theorem dX1_sendAll_1 : decode cX1_sendAll 1 = .ok (.getfield 65, 3) := by decide +kernel
theorem dX1_sendAll_4 : decode cX1_sendAll 4 = .ok (.istore_n 3, 1) := by decide +kernel
theorem dX1_sendAll_5 : decode cX1_sendAll 5 = .ok (.aload_n 0, 1) := by decide +kernel
theorem dX1_sendAll_6 : decode cX1_sendAll 6 = .ok (.getfield 15, 3) := by decide +kernel
theorem dX1_sendAll_9 : decode cX1_sendAll 9 = .ok (.iload_n 1, 1) := by decide +kernel
theorem dX1_sendAll_10 : decode cX1_sendAll 10 = .ok (.iaload, 1) := by decide +kernel
theorem dX1_sendAll_11 : decode cX1_sendAll 11 = .ok (.istore 4, 2) := by decide +kernel
theorem dX1_sendAll_13 : decode cX1_sendAll 13 = .ok (.iconst 0, 1) := by decide +kernel
theorem dX1_sendAll_14 : decode cX1_sendAll 14 = .ok (.istore 5, 2) := by decide +kernel
theorem dX1_sendAll_16 : decode cX1_sendAll 16 = .ok (.iload 5, 2) := by decide +kernel
theorem dX1_sendAll_18 : decode cX1_sendAll 18 = .ok (.iload_n 3, 1) := by decide +kernel
theorem dX1_sendAll_19 : decode cX1_sendAll 19 = .ok (.if_icmp .ge 42, 3) := by decide +kernel
theorem dX1_sendAll_22 : decode cX1_sendAll 22 = .ok (.iload 4, 2) := by decide +kernel
theorem dX1_sendAll_24 : decode cX1_sendAll 24 = .ok (.ifCond .lt 37, 3) := by decide +kernel
theorem dX1_sendAll_27 : decode cX1_sendAll 27 = .ok (.aload_n 0, 1) := by decide +kernel
theorem dX1_sendAll_28 : decode cX1_sendAll 28 = .ok (.iload_n 2, 1) := by decide +kernel
theorem dX1_sendAll_29 : decode cX1_sendAll 29 = .ok (.aload_n 0, 1) := by decide +kernel
theorem dX1_sendAll_30 : decode cX1_sendAll 30 = .ok (.getfield 22, 3) := by decide +kernel
theorem dX1_sendAll_33 : decode cX1_sendAll 33 = .ok (.iload 4, 2) := by decide +kernel
theorem dX1_sendAll_35 : decode cX1_sendAll 35 = .ok (.laload, 1) := by decide +kernel
theorem dX1_sendAll_36 : decode cX1_sendAll 36 = .ok (.aload_n 0, 1) := by decide +kernel
theorem dX1_sendAll_37 : decode cX1_sendAll 37 = .ok (.getfield 25, 3) := by decide +kernel
theorem dX1_sendAll_40 : decode cX1_sendAll 40 = .ok (.iload 4, 2) := by decide +kernel
theorem dX1_sendAll_42 : decode cX1_sendAll 42 = .ok (.laload, 1) := by decide +kernel
theorem dX1_sendAll_43 : decode cX1_sendAll 43 = .ok (.invokevirtual 71, 3) := by decide +kernel
theorem dX1_sendAll_46 : decode cX1_sendAll 46 = .ok (.aload_n 0, 1) := by decide +kernel
theorem dX1_sendAll_47 : decode cX1_sendAll 47 = .ok (.getfield 19, 3) := by decide +kernel
theorem dX1_sendAll_50 : decode cX1_sendAll 50 = .ok (.iload 4, 2) := by decide +kernel
theorem dX1_sendAll_52 : decode cX1_sendAll 52 = .ok (.iaload, 1) := by decide +kernel
theorem dX1_sendAll_53 : decode cX1_sendAll 53 = .ok (.istore 4, 2) := by decide +kernel
theorem dX1_sendAll_55 : decode cX1_sendAll 55 = .ok (.iinc 5 1, 3) := by decide +kernel
theorem dX1_sendAll_58 : decode cX1_sendAll 58 = .ok (.goto (-42), 3) := by decide +kernel
theorem dX1_sendAll_61 : decode cX1_sendAll 61 = .ok (.return_, 1) := by decide +kernel
set_option maxRecDepth 20000 in
theorem ggX1_send_X1_makeRoom : GoodIn wsX1_send wsX1_makeRoom := goodIn_r _ [10, 2, 5, 3, 4, 11, 12, 13, 14, 15, 16, 17, 18, 19, 20, 21, 22, 23, 24, 25, 26, 27, 28, 29, 30, 31, 32, 33, 34, 35, 36, 37, 38, 39, 40, 41, 42, 43, 44, 45] (by decide +kernel) (by decide +kernel)
set_option maxRecDepth 20000 in
theorem gX1_send_X1_makeRoom : GoodIn wsX1_send (wsV RX1 98 RX1 yX1_makeRoom wsX1_makeRoom) := goodIn_app (goodIn_of _ (by decide +kernel)) ggX1_send_X1_makeRoom
theorem dX1_send_0 : decode cX1_send 0 = .ok (.aload_n 0, 1) := by decide +kernel
theorem dX1_send_1 : decode cX1_send 1 = .ok (.getfield 15, 3) := by decide +kernel
theorem dX1_send_4 : decode cX1_send 4 = .ok (.iload_n 1, 1) := by decide +kernel
theorem dX1_send_5 : decode cX1_send 5 = .ok (.iaload, 1) := by decide +kernel
theorem dX1_send_6 : decode cX1_send 6 = .ok (.istore 6, 2) := by decide +kernel
theorem dX1_send_8 : decode cX1_send 8 = .ok (.iconst 0, 1) := by decide +kernel
theorem dX1_send_9 : decode cX1_send 9 = .ok (.istore 7, 2) := by decide +kernel
theorem dX1_send_11 : decode cX1_send 11 = .ok (.iload 7, 2) := by decide +kernel
theorem dX1_send_13 : decode cX1_send 13 = .ok (.aload_n 0, 1) := by decide +kernel
theorem dX1_send_14 : decode cX1_send 14 = .ok (.getfield 65, 3) := by decide +kernel
theorem dX1_send_17 : decode cX1_send 17 = .ok (.if_icmp .ge 48, 3) := by decide +kernel
theorem dX1_send_20 : decode cX1_send 20 = .ok (.iload 6, 2) := by decide +kernel
theorem dX1_send_22 : decode cX1_send 22 = .ok (.ifCond .lt 43, 3) := by decide +kernel
theorem dX1_send_25 : decode cX1_send 25 = .ok (.aload_n 0, 1) := by decide +kernel
theorem dX1_send_26 : decode cX1_send 26 = .ok (.getfield 22, 3) := by decide +kernel
theorem dX1_send_29 : decode cX1_send 29 = .ok (.iload 6, 2) := by decide +kernel
theorem dX1_send_31 : decode cX1_send 31 = .ok (.laload, 1) := by decide +kernel
theorem dX1_send_32 : decode cX1_send 32 = .ok (.lload_n 2, 1) := by decide +kernel
theorem dX1_send_33 : decode cX1_send 33 = .ok (.lcmp, 1) := by decide +kernel
theorem dX1_send_34 : decode cX1_send 34 = .ok (.ifCond .ne 16, 3) := by decide +kernel
theorem dX1_send_37 : decode cX1_send 37 = .ok (.aload_n 0, 1) := by decide +kernel
theorem dX1_send_38 : decode cX1_send 38 = .ok (.getfield 25, 3) := by decide +kernel
theorem dX1_send_41 : decode cX1_send 41 = .ok (.iload 6, 2) := by decide +kernel
theorem dX1_send_43 : decode cX1_send 43 = .ok (.dup2, 1) := by decide +kernel
theorem dX1_send_44 : decode cX1_send 44 = .ok (.laload, 1) := by decide +kernel
theorem dX1_send_45 : decode cX1_send 45 = .ok (.lload 4, 2) := by decide +kernel
theorem dX1_send_47 : decode cX1_send 47 = .ok (.ladd, 1) := by decide +kernel
theorem dX1_send_48 : decode cX1_send 48 = .ok (.lastore, 1) := by decide +kernel
theorem dX1_send_49 : decode cX1_send 49 = .ok (.return_, 1) := by decide +kernel
theorem dX1_send_50 : decode cX1_send 50 = .ok (.aload_n 0, 1) := by decide +kernel
theorem dX1_send_51 : decode cX1_send 51 = .ok (.getfield 19, 3) := by decide +kernel
theorem dX1_send_54 : decode cX1_send 54 = .ok (.iload 6, 2) := by decide +kernel
theorem dX1_send_56 : decode cX1_send 56 = .ok (.iaload, 1) := by decide +kernel
theorem dX1_send_57 : decode cX1_send 57 = .ok (.istore 6, 2) := by decide +kernel
theorem dX1_send_59 : decode cX1_send 59 = .ok (.iinc 7 1, 3) := by decide +kernel
theorem dX1_send_62 : decode cX1_send 62 = .ok (.goto (-51), 3) := by decide +kernel
theorem dX1_send_65 : decode cX1_send 65 = .ok (.aload_n 0, 1) := by decide +kernel
theorem dX1_send_66 : decode cX1_send 66 = .ok (.invokevirtual 98, 3) := by decide +kernel
theorem dX1_send_69 : decode cX1_send 69 = .ok (.aload_n 0, 1) := by decide +kernel
theorem dX1_send_70 : decode cX1_send 70 = .ok (.getfield 65, 3) := by decide +kernel
theorem dX1_send_73 : decode cX1_send 73 = .ok (.aload_n 0, 1) := by decide +kernel
theorem dX1_send_74 : decode cX1_send 74 = .ok (.getfield 19, 3) := by decide +kernel
theorem dX1_send_77 : decode cX1_send 77 = .ok (.arraylength, 1) := by decide +kernel
theorem dX1_send_78 : decode cX1_send 78 = .ok (.if_icmp .ge 59, 3) := by decide +kernel
theorem dX1_send_81 : decode cX1_send 81 = .ok (.aload_n 0, 1) := by decide +kernel
theorem dX1_send_82 : decode cX1_send 82 = .ok (.getfield 19, 3) := by decide +kernel
theorem dX1_send_85 : decode cX1_send 85 = .ok (.aload_n 0, 1) := by decide +kernel
theorem dX1_send_86 : decode cX1_send 86 = .ok (.getfield 65, 3) := by decide +kernel
theorem dX1_send_89 : decode cX1_send 89 = .ok (.aload_n 0, 1) := by decide +kernel
theorem dX1_send_90 : decode cX1_send 90 = .ok (.getfield 15, 3) := by decide +kernel
theorem dX1_send_93 : decode cX1_send 93 = .ok (.iload_n 1, 1) := by decide +kernel
theorem dX1_send_94 : decode cX1_send 94 = .ok (.iaload, 1) := by decide +kernel
theorem dX1_send_95 : decode cX1_send 95 = .ok (.iastore, 1) := by decide +kernel
theorem dX1_send_96 : decode cX1_send 96 = .ok (.aload_n 0, 1) := by decide +kernel
theorem dX1_send_97 : decode cX1_send 97 = .ok (.getfield 22, 3) := by decide +kernel
theorem dX1_send_100 : decode cX1_send 100 = .ok (.aload_n 0, 1) := by decide +kernel
theorem dX1_send_101 : decode cX1_send 101 = .ok (.getfield 65, 3) := by decide +kernel
theorem dX1_send_104 : decode cX1_send 104 = .ok (.lload_n 2, 1) := by decide +kernel
theorem dX1_send_105 : decode cX1_send 105 = .ok (.lastore, 1) := by decide +kernel
theorem dX1_send_106 : decode cX1_send 106 = .ok (.aload_n 0, 1) := by decide +kernel
theorem dX1_send_107 : decode cX1_send 107 = .ok (.getfield 25, 3) := by decide +kernel
theorem dX1_send_110 : decode cX1_send 110 = .ok (.aload_n 0, 1) := by decide +kernel
theorem dX1_send_111 : decode cX1_send 111 = .ok (.getfield 65, 3) := by decide +kernel
theorem dX1_send_114 : decode cX1_send 114 = .ok (.lload 4, 2) := by decide +kernel
theorem dX1_send_116 : decode cX1_send 116 = .ok (.lastore, 1) := by decide +kernel
theorem dX1_send_117 : decode cX1_send 117 = .ok (.aload_n 0, 1) := by decide +kernel
theorem dX1_send_118 : decode cX1_send 118 = .ok (.getfield 15, 3) := by decide +kernel
theorem dX1_send_121 : decode cX1_send 121 = .ok (.iload_n 1, 1) := by decide +kernel
theorem dX1_send_122 : decode cX1_send 122 = .ok (.aload_n 0, 1) := by decide +kernel
theorem dX1_send_123 : decode cX1_send 123 = .ok (.getfield 65, 3) := by decide +kernel
theorem dX1_send_126 : decode cX1_send 126 = .ok (.iastore, 1) := by decide +kernel
theorem dX1_send_127 : decode cX1_send 127 = .ok (.aload_n 0, 1) := by decide +kernel
theorem dX1_send_128 : decode cX1_send 128 = .ok (.dup, 1) := by decide +kernel
theorem dX1_send_129 : decode cX1_send 129 = .ok (.getfield 65, 3) := by decide +kernel
theorem dX1_send_132 : decode cX1_send 132 = .ok (.iconst 1, 1) := by decide +kernel
theorem dX1_send_133 : decode cX1_send 133 = .ok (.iadd, 1) := by decide +kernel
theorem dX1_send_134 : decode cX1_send 134 = .ok (.putfield 65, 3) := by decide +kernel
theorem dX1_send_137 : decode cX1_send 137 = .ok (.return_, 1) := by decide +kernel
set_option maxRecDepth 20000 in
theorem ggX1_makeRoom_J7_copyOf_59c91 : GoodIn wsX1_makeRoom wsJ7_copyOf_59c91 := goodIn_r _ [8, 9, 10, 11, 12, 13, 14, 15, 16, 17, 18, 19, 20, 21, 22, 23] (by decide +kernel) (by decide +kernel)
set_option maxRecDepth 20000 in
theorem gX1_makeRoom_J7_copyOf_59c91 : GoodIn wsX1_makeRoom (va_wsS RX1 101 yJ7_copyOf_59c91 wsJ7_copyOf_59c91) := goodIn_app (goodIn_of _ (by decide +kernel)) ggX1_makeRoom_J7_copyOf_59c91
set_option maxRecDepth 20000 in
theorem ggX1_makeRoom_J7_copyOf_c38d5 : GoodIn wsX1_makeRoom wsJ7_copyOf_c38d5 := goodIn_r _ [26, 27, 28, 11, 12, 29, 30, 31, 16, 17, 18, 19, 20, 21, 22, 23] (by decide +kernel) (by decide +kernel)
set_option maxRecDepth 20000 in
theorem gX1_makeRoom_J7_copyOf_c38d5 : GoodIn wsX1_makeRoom (va_wsS RX1 105 yJ7_copyOf_c38d5 wsJ7_copyOf_c38d5) := goodIn_app (goodIn_of _ (by decide +kernel)) ggX1_makeRoom_J7_copyOf_c38d5
theorem dX1_makeRoom_0 : decode cX1_makeRoom 0 = .ok (.aload_n 0, 1) := by decide +kernel
theorem dX1_makeRoom_1 : decode cX1_makeRoom 1 = .ok (.getfield 65, 3) := by decide +kernel
theorem dX1_makeRoom_4 : decode cX1_makeRoom 4 = .ok (.aload_n 0, 1) := by decide +kernel
theorem dX1_makeRoom_5 : decode cX1_makeRoom 5 = .ok (.getfield 19, 3) := by decide +kernel
theorem dX1_makeRoom_8 : decode cX1_makeRoom 8 = .ok (.arraylength, 1) := by decide +kernel
theorem dX1_makeRoom_9 : decode cX1_makeRoom 9 = .ok (.if_icmp .ne 64, 3) := by decide +kernel
theorem dX1_makeRoom_12 : decode cX1_makeRoom 12 = .ok (.aload_n 0, 1) := by decide +kernel
theorem dX1_makeRoom_13 : decode cX1_makeRoom 13 = .ok (.getfield 65, 3) := by decide +kernel
theorem dX1_makeRoom_16 : decode cX1_makeRoom 16 = .ok (.sipush 16384, 3) := by decide +kernel
theorem dX1_makeRoom_19 : decode cX1_makeRoom 19 = .ok (.if_icmp .ge 54, 3) := by decide +kernel
theorem dX1_makeRoom_22 : decode cX1_makeRoom 22 = .ok (.aload_n 0, 1) := by decide +kernel
theorem dX1_makeRoom_23 : decode cX1_makeRoom 23 = .ok (.aload_n 0, 1) := by decide +kernel
theorem dX1_makeRoom_24 : decode cX1_makeRoom 24 = .ok (.getfield 19, 3) := by decide +kernel
theorem dX1_makeRoom_27 : decode cX1_makeRoom 27 = .ok (.iconst 2, 1) := by decide +kernel
theorem dX1_makeRoom_28 : decode cX1_makeRoom 28 = .ok (.aload_n 0, 1) := by decide +kernel
theorem dX1_makeRoom_29 : decode cX1_makeRoom 29 = .ok (.getfield 65, 3) := by decide +kernel
theorem dX1_makeRoom_32 : decode cX1_makeRoom 32 = .ok (.imul, 1) := by decide +kernel
theorem dX1_makeRoom_33 : decode cX1_makeRoom 33 = .ok (.invokestatic 101, 3) := by decide +kernel
theorem dX1_makeRoom_36 : decode cX1_makeRoom 36 = .ok (.putfield 19, 3) := by decide +kernel
theorem dX1_makeRoom_39 : decode cX1_makeRoom 39 = .ok (.aload_n 0, 1) := by decide +kernel
theorem dX1_makeRoom_40 : decode cX1_makeRoom 40 = .ok (.aload_n 0, 1) := by decide +kernel
theorem dX1_makeRoom_41 : decode cX1_makeRoom 41 = .ok (.getfield 22, 3) := by decide +kernel
theorem dX1_makeRoom_44 : decode cX1_makeRoom 44 = .ok (.iconst 2, 1) := by decide +kernel
theorem dX1_makeRoom_45 : decode cX1_makeRoom 45 = .ok (.aload_n 0, 1) := by decide +kernel
theorem dX1_makeRoom_46 : decode cX1_makeRoom 46 = .ok (.getfield 65, 3) := by decide +kernel
theorem dX1_makeRoom_49 : decode cX1_makeRoom 49 = .ok (.imul, 1) := by decide +kernel
theorem dX1_makeRoom_50 : decode cX1_makeRoom 50 = .ok (.invokestatic 105, 3) := by decide +kernel
theorem dX1_makeRoom_53 : decode cX1_makeRoom 53 = .ok (.putfield 22, 3) := by decide +kernel
theorem dX1_makeRoom_56 : decode cX1_makeRoom 56 = .ok (.aload_n 0, 1) := by decide +kernel
theorem dX1_makeRoom_57 : decode cX1_makeRoom 57 = .ok (.aload_n 0, 1) := by decide +kernel
theorem dX1_makeRoom_58 : decode cX1_makeRoom 58 = .ok (.getfield 25, 3) := by decide +kernel
theorem dX1_makeRoom_61 : decode cX1_makeRoom 61 = .ok (.iconst 2, 1) := by decide +kernel
theorem dX1_makeRoom_62 : decode cX1_makeRoom 62 = .ok (.aload_n 0, 1) := by decide +kernel
theorem dX1_makeRoom_63 : decode cX1_makeRoom 63 = .ok (.getfield 65, 3) := by decide +kernel
theorem dX1_makeRoom_66 : decode cX1_makeRoom 66 = .ok (.imul, 1) := by decide +kernel
theorem dX1_makeRoom_67 : decode cX1_makeRoom 67 = .ok (.invokestatic 105, 3) := by decide +kernel
theorem dX1_makeRoom_70 : decode cX1_makeRoom 70 = .ok (.putfield 25, 3) := by decide +kernel
theorem dX1_makeRoom_73 : decode cX1_makeRoom 73 = .ok (.return_, 1) := by decide +kernel
theorem dX1_hasLessThanOneOf_0 : decode cX1_hasLessThanOneOf 0 = .ok (.iconst 0, 1) := by decide +kernel
theorem dX1_hasLessThanOneOf_1 : decode cX1_hasLessThanOneOf 1 = .ok (.istore_n 2, 1) := by decide +kernel
theorem dX1_hasLessThanOneOf_2 : decode cX1_hasLessThanOneOf 2 = .ok (.iload_n 2, 1) := by decide +kernel
theorem dX1_hasLessThanOneOf_3 : decode cX1_hasLessThanOneOf 3 = .ok (.aload_n 0, 1) := by decide +kernel
theorem dX1_hasLessThanOneOf_4 : decode cX1_hasLessThanOneOf 4 = .ok (.getfield 28, 3) := by decide +kernel
theorem dX1_hasLessThanOneOf_7 : decode cX1_hasLessThanOneOf 7 = .ok (.getfield 50, 3) := by decide +kernel
theorem dX1_hasLessThanOneOf_10 : decode cX1_hasLessThanOneOf 10 = .ok (.if_icmp .ge 38, 3) := by decide +kernel
theorem dX1_hasLessThanOneOf_13 : decode cX1_hasLessThanOneOf 13 = .ok (.aload_n 0, 1) := by decide +kernel
theorem dX1_hasLessThanOneOf_14 : decode cX1_hasLessThanOneOf 14 = .ok (.getfield 9, 3) := by decide +kernel
theorem dX1_hasLessThanOneOf_17 : decode cX1_hasLessThanOneOf 17 = .ok (.iload_n 2, 1) := by decide +kernel
theorem dX1_hasLessThanOneOf_18 : decode cX1_hasLessThanOneOf 18 = .ok (.laload, 1) := by decide +kernel
theorem dX1_hasLessThanOneOf_19 : decode cX1_hasLessThanOneOf 19 = .ok (.lconst 0, 1) := by decide +kernel
theorem dX1_hasLessThanOneOf_20 : decode cX1_hasLessThanOneOf 20 = .ok (.lcmp, 1) := by decide +kernel
theorem dX1_hasLessThanOneOf_21 : decode cX1_hasLessThanOneOf 21 = .ok (.ifCond .le 21, 3) := by decide +kernel
theorem dX1_hasLessThanOneOf_24 : decode cX1_hasLessThanOneOf 24 = .ok (.aload_n 0, 1) := by decide +kernel
theorem dX1_hasLessThanOneOf_25 : decode cX1_hasLessThanOneOf 25 = .ok (.getfield 9, 3) := by decide +kernel
theorem dX1_hasLessThanOneOf_28 : decode cX1_hasLessThanOneOf 28 = .ok (.iload_n 2, 1) := by decide +kernel
theorem dX1_hasLessThanOneOf_29 : decode cX1_hasLessThanOneOf 29 = .ok (.laload, 1) := by decide +kernel
theorem dX1_hasLessThanOneOf_30 : decode cX1_hasLessThanOneOf 30 = .ok (.iload_n 1, 1) := by decide +kernel
theorem dX1_hasLessThanOneOf_31 : decode cX1_hasLessThanOneOf 31 = .ok (.i2l, 1) := by decide +kernel
theorem dX1_hasLessThanOneOf_32 : decode cX1_hasLessThanOneOf 32 = .ok (.lmul, 1) := by decide +kernel
theorem dX1_hasLessThanOneOf_33 : decode cX1_hasLessThanOneOf 33 = .ok (.ldc2_w 38, 3) := by decide +kernel
theorem dX1_hasLessThanOneOf_36 : decode cX1_hasLessThanOneOf 36 = .ok (.lcmp, 1) := by decide +kernel
theorem dX1_hasLessThanOneOf_37 : decode cX1_hasLessThanOneOf 37 = .ok (.ifCond .ge 5, 3) := by decide +kernel
theorem dX1_hasLessThanOneOf_40 : decode cX1_hasLessThanOneOf 40 = .ok (.iconst 1, 1) := by decide +kernel
theorem dX1_hasLessThanOneOf_41 : decode cX1_hasLessThanOneOf 41 = .ok (.ireturn, 1) := by decide +kernel
theorem dX1_hasLessThanOneOf_42 : decode cX1_hasLessThanOneOf 42 = .ok (.iinc 2 1, 3) := by decide +kernel
theorem dX1_hasLessThanOneOf_45 : decode cX1_hasLessThanOneOf 45 = .ok (.goto (-43), 3) := by decide +kernel
theorem dX1_hasLessThanOneOf_48 : decode cX1_hasLessThanOneOf 48 = .ok (.iconst 0, 1) := by decide +kernel
theorem dX1_hasLessThanOneOf_49 : decode cX1_hasLessThanOneOf 49 = .ok (.ireturn, 1) := by decide +kernel
set_option maxRecDepth 20000 in
theorem ggX2_init_X5_init : GoodIn wsX2_init wsX5_init := goodIn_r _ [5, 6, 7, 8, 9, 10, 11, 12, 13, 14, 15, 16, 17, 18, 19, 20] (by decide +kernel) (by decide +kernel)
set_option maxRecDepth 20000 in
theorem gX2_init_X5_init : GoodIn wsX2_init (wsX5_init) := ggX2_init_X5_init
theorem dX2_init_0 : decode cX2_init 0 = .ok (.aload_n 0, 1) := by decide +kernel
theorem dX2_init_1 : decode cX2_init 1 = .ok (.aload_n 1, 1) := by decide +kernel
theorem dX2_init_2 : decode cX2_init 2 = .ok (.invokespecial 1, 3) := by decide +kernel
theorem dX2_init_5 : decode cX2_init 5 = .ok (.aload_n 0, 1) := by decide +kernel
theorem dX2_init_6 : decode cX2_init 6 = .ok (.aload_n 2, 1) := by decide +kernel
theorem dX2_init_7 : decode cX2_init 7 = .ok (.putfield 7, 3) := by decide +kernel
theorem dX2_init_10 : decode cX2_init 10 = .ok (.return_, 1) := by decide +kernel
set_option maxRecDepth 20000 in
theorem ggX2_arrangeFrom_X0_everyOne : GoodIn wsX2_arrangeFrom wsX0_everyOne := goodIn_r _ [8, 9, 89, 90, 91, 92, 93, 94, 95] (by decide +kernel) (by decide +kernel)
set_option maxRecDepth 20000 in
theorem gX2_arrangeFrom_X0_everyOne : GoodIn wsX2_arrangeFrom (wsV RX2 21 RX0 yX0_everyOne wsX0_everyOne) := goodIn_app (goodIn_of _ (by decide +kernel)) ggX2_arrangeFrom_X0_everyOne
set_option maxRecDepth 20000 in
theorem ggX2_arrangeFrom_X5_arrange : GoodIn wsX2_arrangeFrom wsX5_arrange := goodIn_r _ [15, 16, 17, 18, 19, 5, 6, 7, 8, 9, 20, 21, 22, 23, 14, 24, 25, 26, 27, 28, 29, 30, 31, 32, 33, 34, 35, 36, 37, 38, 39, 40, 41, 42, 43, 44, 2, 3, 45, 46, 47, 48, 49, 50, 51, 52, 53, 54, 55, 56, 57, 58, 59, 60, 61, 62, 63, 64, 65, 1, 66, 67, 68, 69, 70, 71, 72, 73, 74, 75, 76, 77, 78, 79, 80, 81, 82, 83, 84, 85, 86, 87, 88, 89, 90, 91, 92, 93, 94, 95, 96, 97, 98, 99, 100, 101, 102, 103, 104, 105, 106, 107] (by decide +kernel) (by decide +kernel)
set_option maxRecDepth 20000 in
theorem gX2_arrangeFrom_X5_arrange_u27X2 : GoodIn wsX2_arrangeFrom (va_wsU RX2 27 RX2 "TwoTongues$Order" ⟨"TwoTongues$Hearings", "arrange", "(I)I"⟩ yX5_arrange wsX5_arrange) := goodIn_app (goodIn_of _ (by decide +kernel)) ggX2_arrangeFrom_X5_arrange
theorem dX2_arrangeFrom_0 : decode cX2_arrangeFrom 0 = .ok (.aload_n 0, 1) := by decide +kernel
theorem dX2_arrangeFrom_1 : decode cX2_arrangeFrom 1 = .ok (.iload_n 1, 1) := by decide +kernel
theorem dX2_arrangeFrom_2 : decode cX2_arrangeFrom 2 = .ok (.putfield 13, 3) := by decide +kernel
theorem dX2_arrangeFrom_5 : decode cX2_arrangeFrom 5 = .ok (.aload_n 0, 1) := by decide +kernel
theorem dX2_arrangeFrom_6 : decode cX2_arrangeFrom 6 = .ok (.aload_n 0, 1) := by decide +kernel
theorem dX2_arrangeFrom_7 : decode cX2_arrangeFrom 7 = .ok (.getfield 17, 3) := by decide +kernel
theorem dX2_arrangeFrom_10 : decode cX2_arrangeFrom 10 = .ok (.invokevirtual 21, 3) := by decide +kernel
theorem dX2_arrangeFrom_13 : decode cX2_arrangeFrom 13 = .ok (.invokevirtual 27, 3) := by decide +kernel
theorem dX2_arrangeFrom_16 : decode cX2_arrangeFrom 16 = .ok (.ireturn, 1) := by decide +kernel
theorem dX2_lengthOf_0 : decode cX2_lengthOf 0 = .ok (.aload_n 0, 1) := by decide +kernel
theorem dX2_lengthOf_1 : decode cX2_lengthOf 1 = .ok (.getfield 17, 3) := by decide +kernel
theorem dX2_lengthOf_4 : decode cX2_lengthOf 4 = .ok (.getfield 31, 3) := by decide +kernel
theorem dX2_lengthOf_7 : decode cX2_lengthOf 7 = .ok (.iload_n 1, 1) := by decide +kernel
theorem dX2_lengthOf_8 : decode cX2_lengthOf 8 = .ok (.iaload, 1) := by decide +kernel
theorem dX2_lengthOf_9 : decode cX2_lengthOf 9 = .ok (.ireturn, 1) := by decide +kernel
set_option maxRecDepth 20000 in
theorem ggX2_priceOf_X7_isDead : GoodIn wsX2_priceOf wsX7_isDead := goodIn_r _ [11, 12, 29, 30, 31, 32, 33, 34, 35, 36, 37, 38, 39, 40] (by decide +kernel) (by decide +kernel)
set_option maxRecDepth 20000 in
theorem gX2_priceOf_X7_isDead : GoodIn wsX2_priceOf (wsV RX2 38 RX7 yX7_isDead wsX7_isDead) := goodIn_app (goodIn_of _ (by decide +kernel)) ggX2_priceOf_X7_isDead
theorem dX2_priceOf_0 : decode cX2_priceOf 0 = .ok (.aload_n 0, 1) := by decide +kernel
theorem dX2_priceOf_1 : decode cX2_priceOf 1 = .ok (.getfield 7, 3) := by decide +kernel
theorem dX2_priceOf_4 : decode cX2_priceOf 4 = .ok (.aload_n 0, 1) := by decide +kernel
theorem dX2_priceOf_5 : decode cX2_priceOf 5 = .ok (.getfield 17, 3) := by decide +kernel
theorem dX2_priceOf_8 : decode cX2_priceOf 8 = .ok (.getfield 35, 3) := by decide +kernel
theorem dX2_priceOf_11 : decode cX2_priceOf 11 = .ok (.iload_n 1, 1) := by decide +kernel
theorem dX2_priceOf_12 : decode cX2_priceOf 12 = .ok (.iaload, 1) := by decide +kernel
theorem dX2_priceOf_13 : decode cX2_priceOf 13 = .ok (.aload_n 0, 1) := by decide +kernel
theorem dX2_priceOf_14 : decode cX2_priceOf 14 = .ok (.getfield 13, 3) := by decide +kernel
theorem dX2_priceOf_17 : decode cX2_priceOf 17 = .ok (.iload_n 2, 1) := by decide +kernel
theorem dX2_priceOf_18 : decode cX2_priceOf 18 = .ok (.iadd, 1) := by decide +kernel
theorem dX2_priceOf_19 : decode cX2_priceOf 19 = .ok (.iconst 1, 1) := by decide +kernel
theorem dX2_priceOf_20 : decode cX2_priceOf 20 = .ok (.isub, 1) := by decide +kernel
theorem dX2_priceOf_21 : decode cX2_priceOf 21 = .ok (.invokevirtual 38, 3) := by decide +kernel
theorem dX2_priceOf_24 : decode cX2_priceOf 24 = .ok (.ifCond .eq 15, 3) := by decide +kernel
theorem dX2_priceOf_27 : decode cX2_priceOf 27 = .ok (.aload_n 0, 1) := by decide +kernel
theorem dX2_priceOf_28 : decode cX2_priceOf 28 = .ok (.getfield 17, 3) := by decide +kernel
theorem dX2_priceOf_31 : decode cX2_priceOf 31 = .ok (.getfield 44, 3) := by decide +kernel
theorem dX2_priceOf_34 : decode cX2_priceOf 34 = .ok (.iload_n 1, 1) := by decide +kernel
theorem dX2_priceOf_35 : decode cX2_priceOf 35 = .ok (.iaload, 1) := by decide +kernel
theorem dX2_priceOf_36 : decode cX2_priceOf 36 = .ok (.goto 4, 3) := by decide +kernel
theorem dX2_priceOf_39 : decode cX2_priceOf 39 = .ok (.iconst 0, 1) := by decide +kernel
theorem dX2_priceOf_40 : decode cX2_priceOf 40 = .ok (.ireturn, 1) := by decide +kernel
theorem dX3_init_0 : decode cX3_init 0 = .ok (.aload_n 0, 1) := by decide +kernel
theorem dX3_init_1 : decode cX3_init 1 = .ok (.invokespecial 3, 3) := by decide +kernel
theorem dX3_init_4 : decode cX3_init 4 = .ok (.return_, 1) := by decide +kernel
theorem dX3_isBook_0 : decode cX3_isBook 0 = .ok (.aload_n 0, 1) := by decide +kernel
theorem dX3_isBook_1 : decode cX3_isBook 1 = .ok (.getfield 9, 3) := by decide +kernel
theorem dX3_isBook_4 : decode cX3_isBook 4 = .ok (.bipush 119, 2) := by decide +kernel
theorem dX3_isBook_6 : decode cX3_isBook 6 = .ok (.if_icmp .ne 7, 3) := by decide +kernel
theorem dX3_isBook_9 : decode cX3_isBook 9 = .ok (.iconst 1, 1) := by decide +kernel
theorem dX3_isBook_10 : decode cX3_isBook 10 = .ok (.goto 4, 3) := by decide +kernel
theorem dX3_isBook_13 : decode cX3_isBook 13 = .ok (.iconst 0, 1) := by decide +kernel
theorem dX3_isBook_14 : decode cX3_isBook 14 = .ok (.ireturn, 1) := by decide +kernel
set_option maxRecDepth 20000 in
theorem ggX3_fill_X3_isBook : GoodIn wsX3_fill wsX3_isBook := goodIn_r _ [11, 1, 12, 13, 14, 15, 16, 17] (by decide +kernel) (by decide +kernel)
set_option maxRecDepth 20000 in
theorem gX3_fill_X3_isBook : GoodIn wsX3_fill (wsV RX3 18 RX3 yX3_isBook wsX3_isBook) := goodIn_app (goodIn_of _ (by decide +kernel)) ggX3_fill_X3_isBook
theorem dX3_fill_0 : decode cX3_fill 0 = .ok (.aload_n 0, 1) := by decide +kernel
theorem dX3_fill_1 : decode cX3_fill 1 = .ok (.iload_n 1, 1) := by decide +kernel
theorem dX3_fill_2 : decode cX3_fill 2 = .ok (.putfield 9, 3) := by decide +kernel
theorem dX3_fill_5 : decode cX3_fill 5 = .ok (.aload_n 0, 1) := by decide +kernel
theorem dX3_fill_6 : decode cX3_fill 6 = .ok (.aload_n 2, 1) := by decide +kernel
theorem dX3_fill_7 : decode cX3_fill 7 = .ok (.iconst 0, 1) := by decide +kernel
theorem dX3_fill_8 : decode cX3_fill 8 = .ok (.iaload, 1) := by decide +kernel
theorem dX3_fill_9 : decode cX3_fill 9 = .ok (.putfield 15, 3) := by decide +kernel
theorem dX3_fill_12 : decode cX3_fill 12 = .ok (.aload_n 0, 1) := by decide +kernel
theorem dX3_fill_13 : decode cX3_fill 13 = .ok (.invokevirtual 18, 3) := by decide +kernel
theorem dX3_fill_16 : decode cX3_fill 16 = .ok (.ifCond .eq 32, 3) := by decide +kernel
theorem dX3_fill_19 : decode cX3_fill 19 = .ok (.aload_n 0, 1) := by decide +kernel
theorem dX3_fill_20 : decode cX3_fill 20 = .ok (.iconst 0, 1) := by decide +kernel
theorem dX3_fill_21 : decode cX3_fill 21 = .ok (.putfield 22, 3) := by decide +kernel
theorem dX3_fill_24 : decode cX3_fill 24 = .ok (.aload_n 0, 1) := by decide +kernel
theorem dX3_fill_25 : decode cX3_fill 25 = .ok (.aload_n 2, 1) := by decide +kernel
theorem dX3_fill_26 : decode cX3_fill 26 = .ok (.iconst 1, 1) := by decide +kernel
theorem dX3_fill_27 : decode cX3_fill 27 = .ok (.iaload, 1) := by decide +kernel
theorem dX3_fill_28 : decode cX3_fill 28 = .ok (.putfield 25, 3) := by decide +kernel
theorem dX3_fill_31 : decode cX3_fill 31 = .ok (.aload_n 0, 1) := by decide +kernel
theorem dX3_fill_32 : decode cX3_fill 32 = .ok (.sipush 200, 3) := by decide +kernel
theorem dX3_fill_35 : decode cX3_fill 35 = .ok (.putfield 28, 3) := by decide +kernel
theorem dX3_fill_38 : decode cX3_fill 38 = .ok (.aload_n 0, 1) := by decide +kernel
theorem dX3_fill_39 : decode cX3_fill 39 = .ok (.aload_n 2, 1) := by decide +kernel
theorem dX3_fill_40 : decode cX3_fill 40 = .ok (.iconst 2, 1) := by decide +kernel
theorem dX3_fill_41 : decode cX3_fill 41 = .ok (.iaload, 1) := by decide +kernel
theorem dX3_fill_42 : decode cX3_fill 42 = .ok (.putfield 31, 3) := by decide +kernel
theorem dX3_fill_45 : decode cX3_fill 45 = .ok (.goto 31, 3) := by decide +kernel
theorem dX3_fill_48 : decode cX3_fill 48 = .ok (.aload_n 0, 1) := by decide +kernel
theorem dX3_fill_49 : decode cX3_fill 49 = .ok (.aload_n 2, 1) := by decide +kernel
theorem dX3_fill_50 : decode cX3_fill 50 = .ok (.iconst 1, 1) := by decide +kernel
theorem dX3_fill_51 : decode cX3_fill 51 = .ok (.iaload, 1) := by decide +kernel
theorem dX3_fill_52 : decode cX3_fill 52 = .ok (.putfield 22, 3) := by decide +kernel
theorem dX3_fill_55 : decode cX3_fill 55 = .ok (.aload_n 0, 1) := by decide +kernel
theorem dX3_fill_56 : decode cX3_fill 56 = .ok (.aload_n 2, 1) := by decide +kernel
theorem dX3_fill_57 : decode cX3_fill 57 = .ok (.iconst 2, 1) := by decide +kernel
theorem dX3_fill_58 : decode cX3_fill 58 = .ok (.iaload, 1) := by decide +kernel
theorem dX3_fill_59 : decode cX3_fill 59 = .ok (.putfield 25, 3) := by decide +kernel
theorem dX3_fill_62 : decode cX3_fill 62 = .ok (.aload_n 0, 1) := by decide +kernel
theorem dX3_fill_63 : decode cX3_fill 63 = .ok (.aload_n 2, 1) := by decide +kernel
theorem dX3_fill_64 : decode cX3_fill 64 = .ok (.iconst 3, 1) := by decide +kernel
theorem dX3_fill_65 : decode cX3_fill 65 = .ok (.iaload, 1) := by decide +kernel
theorem dX3_fill_66 : decode cX3_fill 66 = .ok (.putfield 28, 3) := by decide +kernel
theorem dX3_fill_69 : decode cX3_fill 69 = .ok (.aload_n 0, 1) := by decide +kernel
theorem dX3_fill_70 : decode cX3_fill 70 = .ok (.aload_n 2, 1) := by decide +kernel
theorem dX3_fill_71 : decode cX3_fill 71 = .ok (.iconst 4, 1) := by decide +kernel
theorem dX3_fill_72 : decode cX3_fill 72 = .ok (.iaload, 1) := by decide +kernel
theorem dX3_fill_73 : decode cX3_fill 73 = .ok (.putfield 31, 3) := by decide +kernel
theorem dX3_fill_76 : decode cX3_fill 76 = .ok (.return_, 1) := by decide +kernel
set_option maxRecDepth 20000 in
theorem ggX3_isInBounds_X3_isBook : GoodIn wsX3_isInBounds wsX3_isBook := goodIn_r _ [10, 11, 22, 23, 24, 25, 26, 27] (by decide +kernel) (by decide +kernel)
set_option maxRecDepth 20000 in
theorem gX3_isInBounds_X3_isBook : GoodIn wsX3_isInBounds (wsV RX3 18 RX3 yX3_isBook wsX3_isBook) := goodIn_app (goodIn_of _ (by decide +kernel)) ggX3_isInBounds_X3_isBook
set_option maxRecDepth 20000 in
theorem ggX3_isInBounds_X11_isWord : GoodIn wsX3_isInBounds wsX11_isWord := goodIn_r _ [14, 15, 16, 13, 17] (by decide +kernel) (by decide +kernel)
set_option maxRecDepth 20000 in
theorem gX3_isInBounds_X11_isWord_n34 : GoodIn wsX3_isInBounds (wsX11_isWord) := ggX3_isInBounds_X11_isWord
set_option maxRecDepth 20000 in
theorem ggX3_isInBounds_X11_isThing : GoodIn wsX3_isInBounds wsX11_isThing := goodIn_r _ [19, 15, 16, 13, 17] (by decide +kernel) (by decide +kernel)
set_option maxRecDepth 20000 in
theorem gX3_isInBounds_X11_isThing_n38 : GoodIn wsX3_isInBounds (wsX11_isThing) := ggX3_isInBounds_X11_isThing
set_option maxRecDepth 20000 in
theorem ggX3_isInBounds_X11_isYear : GoodIn wsX3_isInBounds wsX11_isYear := goodIn_r _ [21, 15, 16, 13, 17] (by decide +kernel) (by decide +kernel)
set_option maxRecDepth 20000 in
theorem gX3_isInBounds_X11_isYear_n41 : GoodIn wsX3_isInBounds (wsX11_isYear) := ggX3_isInBounds_X11_isYear
theorem dX3_isInBounds_0 : decode cX3_isInBounds 0 = .ok (.aload_n 0, 1) := by decide +kernel
theorem dX3_isInBounds_1 : decode cX3_isInBounds 1 = .ok (.invokevirtual 18, 3) := by decide +kernel
theorem dX3_isInBounds_4 : decode cX3_isInBounds 4 = .ok (.ifCond .eq 8, 3) := by decide +kernel
theorem dX3_isInBounds_7 : decode cX3_isInBounds 7 = .ok (.bipush 64, 2) := by decide +kernel
theorem dX3_isInBounds_9 : decode cX3_isInBounds 9 = .ok (.goto 6, 3) := by decide +kernel
theorem dX3_isInBounds_12 : decode cX3_isInBounds 12 = .ok (.sipush 256, 3) := by decide +kernel
theorem dX3_isInBounds_15 : decode cX3_isInBounds 15 = .ok (.istore_n 1, 1) := by decide +kernel
theorem dX3_isInBounds_16 : decode cX3_isInBounds 16 = .ok (.aload_n 0, 1) := by decide +kernel
theorem dX3_isInBounds_17 : decode cX3_isInBounds 17 = .ok (.getfield 15, 3) := by decide +kernel
theorem dX3_isInBounds_20 : decode cX3_isInBounds 20 = .ok (.invokestatic 34, 3) := by decide +kernel
theorem dX3_isInBounds_23 : decode cX3_isInBounds 23 = .ok (.ifCond .eq 46, 3) := by decide +kernel
theorem dX3_isInBounds_26 : decode cX3_isInBounds 26 = .ok (.aload_n 0, 1) := by decide +kernel
theorem dX3_isInBounds_27 : decode cX3_isInBounds 27 = .ok (.getfield 22, 3) := by decide +kernel
theorem dX3_isInBounds_30 : decode cX3_isInBounds 30 = .ok (.invokestatic 38, 3) := by decide +kernel
theorem dX3_isInBounds_33 : decode cX3_isInBounds 33 = .ok (.ifCond .eq 36, 3) := by decide +kernel
theorem dX3_isInBounds_36 : decode cX3_isInBounds 36 = .ok (.aload_n 0, 1) := by decide +kernel
theorem dX3_isInBounds_37 : decode cX3_isInBounds 37 = .ok (.getfield 28, 3) := by decide +kernel
theorem dX3_isInBounds_40 : decode cX3_isInBounds 40 = .ok (.invokestatic 41, 3) := by decide +kernel
theorem dX3_isInBounds_43 : decode cX3_isInBounds 43 = .ok (.ifCond .eq 26, 3) := by decide +kernel
theorem dX3_isInBounds_46 : decode cX3_isInBounds 46 = .ok (.aload_n 0, 1) := by decide +kernel
theorem dX3_isInBounds_47 : decode cX3_isInBounds 47 = .ok (.getfield 25, 3) := by decide +kernel
theorem dX3_isInBounds_50 : decode cX3_isInBounds 50 = .ok (.aload_n 0, 1) := by decide +kernel
theorem dX3_isInBounds_51 : decode cX3_isInBounds 51 = .ok (.getfield 28, 3) := by decide +kernel
theorem dX3_isInBounds_54 : decode cX3_isInBounds 54 = .ok (.if_icmp .gt 15, 3) := by decide +kernel
theorem dX3_isInBounds_57 : decode cX3_isInBounds 57 = .ok (.aload_n 0, 1) := by decide +kernel
theorem dX3_isInBounds_58 : decode cX3_isInBounds 58 = .ok (.getfield 31, 3) := by decide +kernel
theorem dX3_isInBounds_61 : decode cX3_isInBounds 61 = .ok (.iload_n 1, 1) := by decide +kernel
theorem dX3_isInBounds_62 : decode cX3_isInBounds 62 = .ok (.if_icmp .ge 7, 3) := by decide +kernel
theorem dX3_isInBounds_65 : decode cX3_isInBounds 65 = .ok (.iconst 1, 1) := by decide +kernel
theorem dX3_isInBounds_66 : decode cX3_isInBounds 66 = .ok (.goto 4, 3) := by decide +kernel
theorem dX3_isInBounds_69 : decode cX3_isInBounds 69 = .ok (.iconst 0, 1) := by decide +kernel
theorem dX3_isInBounds_70 : decode cX3_isInBounds 70 = .ok (.ireturn, 1) := by decide +kernel
set_option maxRecDepth 20000 in
theorem ggX3_speaksOf_X3_isBook : GoodIn wsX3_speaksOf wsX3_isBook := goodIn_r _ [8, 9, 13, 14, 15, 16, 17, 18] (by decide +kernel) (by decide +kernel)
set_option maxRecDepth 20000 in
theorem gX3_speaksOf_X3_isBook : GoodIn wsX3_speaksOf (wsV RX3 18 RX3 yX3_isBook wsX3_isBook) := goodIn_app (goodIn_of _ (by decide +kernel)) ggX3_speaksOf_X3_isBook
set_option maxRecDepth 20000 in
theorem ggX3_speaksOf_X11_within : GoodIn wsX3_speaksOf wsX11_within := goodIn_r _ [12] (by decide +kernel) (by decide +kernel)
set_option maxRecDepth 20000 in
theorem gX3_speaksOf_X11_within_n44 : GoodIn wsX3_speaksOf (wsX11_within) := ggX3_speaksOf_X11_within
theorem dX3_speaksOf_0 : decode cX3_speaksOf 0 = .ok (.aload_n 0, 1) := by decide +kernel
theorem dX3_speaksOf_1 : decode cX3_speaksOf 1 = .ok (.invokevirtual 18, 3) := by decide +kernel
theorem dX3_speaksOf_4 : decode cX3_speaksOf 4 = .ok (.ifCond .ne 30, 3) := by decide +kernel
theorem dX3_speaksOf_7 : decode cX3_speaksOf 7 = .ok (.aload_n 0, 1) := by decide +kernel
theorem dX3_speaksOf_8 : decode cX3_speaksOf 8 = .ok (.getfield 22, 3) := by decide +kernel
theorem dX3_speaksOf_11 : decode cX3_speaksOf 11 = .ok (.iload_n 1, 1) := by decide +kernel
theorem dX3_speaksOf_12 : decode cX3_speaksOf 12 = .ok (.if_icmp .ne 22, 3) := by decide +kernel
theorem dX3_speaksOf_15 : decode cX3_speaksOf 15 = .ok (.iload_n 2, 1) := by decide +kernel
theorem dX3_speaksOf_16 : decode cX3_speaksOf 16 = .ok (.aload_n 0, 1) := by decide +kernel
theorem dX3_speaksOf_17 : decode cX3_speaksOf 17 = .ok (.getfield 25, 3) := by decide +kernel
theorem dX3_speaksOf_20 : decode cX3_speaksOf 20 = .ok (.aload_n 0, 1) := by decide +kernel
theorem dX3_speaksOf_21 : decode cX3_speaksOf 21 = .ok (.getfield 28, 3) := by decide +kernel
theorem dX3_speaksOf_24 : decode cX3_speaksOf 24 = .ok (.invokestatic 44, 3) := by decide +kernel
theorem dX3_speaksOf_27 : decode cX3_speaksOf 27 = .ok (.ifCond .eq 7, 3) := by decide +kernel
theorem dX3_speaksOf_30 : decode cX3_speaksOf 30 = .ok (.iconst 1, 1) := by decide +kernel
theorem dX3_speaksOf_31 : decode cX3_speaksOf 31 = .ok (.goto 4, 3) := by decide +kernel
theorem dX3_speaksOf_34 : decode cX3_speaksOf 34 = .ok (.iconst 0, 1) := by decide +kernel
theorem dX3_speaksOf_35 : decode cX3_speaksOf 35 = .ok (.ireturn, 1) := by decide +kernel
theorem dX4_init_0 : decode cX4_init 0 = .ok (.aload_n 0, 1) := by decide +kernel
theorem dX4_init_1 : decode cX4_init 1 = .ok (.invokespecial 3, 3) := by decide +kernel
theorem dX4_init_4 : decode cX4_init 4 = .ok (.aload_n 0, 1) := by decide +kernel
theorem dX4_init_5 : decode cX4_init 5 = .ok (.bipush 12, 2) := by decide +kernel
theorem dX4_init_7 : decode cX4_init 7 = .ok (.newarray .int, 2) := by decide +kernel
theorem dX4_init_9 : decode cX4_init 9 = .ok (.putfield 9, 3) := by decide +kernel
theorem dX4_init_12 : decode cX4_init 12 = .ok (.aload_n 0, 1) := by decide +kernel
theorem dX4_init_13 : decode cX4_init 13 = .ok (.bipush 12, 2) := by decide +kernel
theorem dX4_init_15 : decode cX4_init 15 = .ok (.newarray .int, 2) := by decide +kernel
theorem dX4_init_17 : decode cX4_init 17 = .ok (.putfield 15, 3) := by decide +kernel
theorem dX4_init_20 : decode cX4_init 20 = .ok (.aload_n 0, 1) := by decide +kernel
theorem dX4_init_21 : decode cX4_init 21 = .ok (.bipush 12, 2) := by decide +kernel
theorem dX4_init_23 : decode cX4_init 23 = .ok (.newarray .int, 2) := by decide +kernel
theorem dX4_init_25 : decode cX4_init 25 = .ok (.putfield 18, 3) := by decide +kernel
theorem dX4_init_28 : decode cX4_init 28 = .ok (.aload_n 0, 1) := by decide +kernel
theorem dX4_init_29 : decode cX4_init 29 = .ok (.bipush 60, 2) := by decide +kernel
theorem dX4_init_31 : decode cX4_init 31 = .ok (.newarray .int, 2) := by decide +kernel
theorem dX4_init_33 : decode cX4_init 33 = .ok (.putfield 21, 3) := by decide +kernel
theorem dX4_init_36 : decode cX4_init 36 = .ok (.aload_n 0, 1) := by decide +kernel
theorem dX4_init_37 : decode cX4_init 37 = .ok (.bipush 60, 2) := by decide +kernel
theorem dX4_init_39 : decode cX4_init 39 = .ok (.newarray .boolean, 2) := by decide +kernel
theorem dX4_init_41 : decode cX4_init 41 = .ok (.putfield 24, 3) := by decide +kernel
theorem dX4_init_44 : decode cX4_init 44 = .ok (.aload_n 0, 1) := by decide +kernel
theorem dX4_init_45 : decode cX4_init 45 = .ok (.bipush 60, 2) := by decide +kernel
theorem dX4_init_47 : decode cX4_init 47 = .ok (.newarray .int, 2) := by decide +kernel
theorem dX4_init_49 : decode cX4_init 49 = .ok (.putfield 28, 3) := by decide +kernel
theorem dX4_init_52 : decode cX4_init 52 = .ok (.aload_n 0, 1) := by decide +kernel
theorem dX4_init_53 : decode cX4_init 53 = .ok (.bipush 60, 2) := by decide +kernel
theorem dX4_init_55 : decode cX4_init 55 = .ok (.newarray .int, 2) := by decide +kernel
theorem dX4_init_57 : decode cX4_init 57 = .ok (.putfield 31, 3) := by decide +kernel
theorem dX4_init_60 : decode cX4_init 60 = .ok (.aload_n 0, 1) := by decide +kernel
theorem dX4_init_61 : decode cX4_init 61 = .ok (.bipush 20, 2) := by decide +kernel
theorem dX4_init_63 : decode cX4_init 63 = .ok (.newarray .int, 2) := by decide +kernel
theorem dX4_init_65 : decode cX4_init 65 = .ok (.putfield 34, 3) := by decide +kernel
theorem dX4_init_68 : decode cX4_init 68 = .ok (.aload_n 0, 1) := by decide +kernel
theorem dX4_init_69 : decode cX4_init 69 = .ok (.bipush 20, 2) := by decide +kernel
theorem dX4_init_71 : decode cX4_init 71 = .ok (.newarray .int, 2) := by decide +kernel
theorem dX4_init_73 : decode cX4_init 73 = .ok (.putfield 37, 3) := by decide +kernel
theorem dX4_init_76 : decode cX4_init 76 = .ok (.aload_n 0, 1) := by decide +kernel
theorem dX4_init_77 : decode cX4_init 77 = .ok (.bipush 20, 2) := by decide +kernel
theorem dX4_init_79 : decode cX4_init 79 = .ok (.newarray .int, 2) := by decide +kernel
theorem dX4_init_81 : decode cX4_init 81 = .ok (.putfield 40, 3) := by decide +kernel
theorem dX4_init_84 : decode cX4_init 84 = .ok (.aload_n 0, 1) := by decide +kernel
theorem dX4_init_85 : decode cX4_init 85 = .ok (.bipush 12, 2) := by decide +kernel
theorem dX4_init_87 : decode cX4_init 87 = .ok (.newarray .int, 2) := by decide +kernel
theorem dX4_init_89 : decode cX4_init 89 = .ok (.putfield 43, 3) := by decide +kernel
theorem dX4_init_92 : decode cX4_init 92 = .ok (.aload_n 0, 1) := by decide +kernel
theorem dX4_init_93 : decode cX4_init 93 = .ok (.bipush 12, 2) := by decide +kernel
theorem dX4_init_95 : decode cX4_init 95 = .ok (.newarray .int, 2) := by decide +kernel
theorem dX4_init_97 : decode cX4_init 97 = .ok (.putfield 46, 3) := by decide +kernel
theorem dX4_init_100 : decode cX4_init 100 = .ok (.aload_n 0, 1) := by decide +kernel
theorem dX4_init_101 : decode cX4_init 101 = .ok (.bipush 12, 2) := by decide +kernel
theorem dX4_init_103 : decode cX4_init 103 = .ok (.newarray .int, 2) := by decide +kernel
theorem dX4_init_105 : decode cX4_init 105 = .ok (.putfield 49, 3) := by decide +kernel
theorem dX4_init_108 : decode cX4_init 108 = .ok (.return_, 1) := by decide +kernel
set_option maxRecDepth 20000 in
theorem ggX4_has_X11_within : GoodIn wsX4_has wsX11_within := goodIn_r _ [4] (by decide +kernel) (by decide +kernel)
set_option maxRecDepth 20000 in
theorem gX4_has_X11_within_n56 : GoodIn wsX4_has (wsX11_within) := ggX4_has_X11_within
theorem dX4_has_0 : decode cX4_has 0 = .ok (.iload_n 1, 1) := by decide +kernel
theorem dX4_has_1 : decode cX4_has 1 = .ok (.iconst 0, 1) := by decide +kernel
theorem dX4_has_2 : decode cX4_has 2 = .ok (.aload_n 0, 1) := by decide +kernel
theorem dX4_has_3 : decode cX4_has 3 = .ok (.getfield 52, 3) := by decide +kernel
theorem dX4_has_6 : decode cX4_has 6 = .ok (.iconst 1, 1) := by decide +kernel
theorem dX4_has_7 : decode cX4_has 7 = .ok (.isub, 1) := by decide +kernel
theorem dX4_has_8 : decode cX4_has 8 = .ok (.invokestatic 56, 3) := by decide +kernel
theorem dX4_has_11 : decode cX4_has 11 = .ok (.ireturn, 1) := by decide +kernel
theorem dX4_addBlock_0 : decode cX4_addBlock 0 = .ok (.aload_n 0, 1) := by decide +kernel
theorem dX4_addBlock_1 : decode cX4_addBlock 1 = .ok (.getfield 52, 3) := by decide +kernel
theorem dX4_addBlock_4 : decode cX4_addBlock 4 = .ok (.bipush 12, 2) := by decide +kernel
theorem dX4_addBlock_6 : decode cX4_addBlock 6 = .ok (.if_icmp .lt 6, 3) := by decide +kernel
theorem dX4_addBlock_9 : decode cX4_addBlock 9 = .ok (.bipush (-3), 2) := by decide +kernel
theorem dX4_addBlock_11 : decode cX4_addBlock 11 = .ok (.ireturn, 1) := by decide +kernel
theorem dX4_addBlock_12 : decode cX4_addBlock 12 = .ok (.aload_n 0, 1) := by decide +kernel
theorem dX4_addBlock_13 : decode cX4_addBlock 13 = .ok (.getfield 9, 3) := by decide +kernel
theorem dX4_addBlock_16 : decode cX4_addBlock 16 = .ok (.aload_n 0, 1) := by decide +kernel
theorem dX4_addBlock_17 : decode cX4_addBlock 17 = .ok (.getfield 52, 3) := by decide +kernel
theorem dX4_addBlock_20 : decode cX4_addBlock 20 = .ok (.iload_n 1, 1) := by decide +kernel
theorem dX4_addBlock_21 : decode cX4_addBlock 21 = .ok (.iastore, 1) := by decide +kernel
theorem dX4_addBlock_22 : decode cX4_addBlock 22 = .ok (.aload_n 0, 1) := by decide +kernel
theorem dX4_addBlock_23 : decode cX4_addBlock 23 = .ok (.getfield 18, 3) := by decide +kernel
theorem dX4_addBlock_26 : decode cX4_addBlock 26 = .ok (.aload_n 0, 1) := by decide +kernel
theorem dX4_addBlock_27 : decode cX4_addBlock 27 = .ok (.getfield 52, 3) := by decide +kernel
theorem dX4_addBlock_30 : decode cX4_addBlock 30 = .ok (.iconst (-1), 1) := by decide +kernel
theorem dX4_addBlock_31 : decode cX4_addBlock 31 = .ok (.iastore, 1) := by decide +kernel
theorem dX4_addBlock_32 : decode cX4_addBlock 32 = .ok (.aload_n 0, 1) := by decide +kernel
theorem dX4_addBlock_33 : decode cX4_addBlock 33 = .ok (.dup, 1) := by decide +kernel
theorem dX4_addBlock_34 : decode cX4_addBlock 34 = .ok (.getfield 52, 3) := by decide +kernel
theorem dX4_addBlock_37 : decode cX4_addBlock 37 = .ok (.iconst 1, 1) := by decide +kernel
theorem dX4_addBlock_38 : decode cX4_addBlock 38 = .ok (.iadd, 1) := by decide +kernel
theorem dX4_addBlock_39 : decode cX4_addBlock 39 = .ok (.putfield 52, 3) := by decide +kernel
theorem dX4_addBlock_42 : decode cX4_addBlock 42 = .ok (.aload_n 0, 1) := by decide +kernel
theorem dX4_addBlock_43 : decode cX4_addBlock 43 = .ok (.getfield 52, 3) := by decide +kernel
theorem dX4_addBlock_46 : decode cX4_addBlock 46 = .ok (.iconst 1, 1) := by decide +kernel
theorem dX4_addBlock_47 : decode cX4_addBlock 47 = .ok (.isub, 1) := by decide +kernel
theorem dX4_addBlock_48 : decode cX4_addBlock 48 = .ok (.ireturn, 1) := by decide +kernel
theorem dX4_addHolding_0 : decode cX4_addHolding 0 = .ok (.aload_n 0, 1) := by decide +kernel
theorem dX4_addHolding_1 : decode cX4_addHolding 1 = .ok (.getfield 60, 3) := by decide +kernel
theorem dX4_addHolding_4 : decode cX4_addHolding 4 = .ok (.bipush 60, 2) := by decide +kernel
theorem dX4_addHolding_6 : decode cX4_addHolding 6 = .ok (.if_icmp .lt 6, 3) := by decide +kernel
theorem dX4_addHolding_9 : decode cX4_addHolding 9 = .ok (.bipush (-3), 2) := by decide +kernel
theorem dX4_addHolding_11 : decode cX4_addHolding 11 = .ok (.ireturn, 1) := by decide +kernel
theorem dX4_addHolding_12 : decode cX4_addHolding 12 = .ok (.aload_n 0, 1) := by decide +kernel
theorem dX4_addHolding_13 : decode cX4_addHolding 13 = .ok (.getfield 21, 3) := by decide +kernel
theorem dX4_addHolding_16 : decode cX4_addHolding 16 = .ok (.aload_n 0, 1) := by decide +kernel
theorem dX4_addHolding_17 : decode cX4_addHolding 17 = .ok (.getfield 60, 3) := by decide +kernel
theorem dX4_addHolding_20 : decode cX4_addHolding 20 = .ok (.iload_n 1, 1) := by decide +kernel
theorem dX4_addHolding_21 : decode cX4_addHolding 21 = .ok (.iastore, 1) := by decide +kernel
theorem dX4_addHolding_22 : decode cX4_addHolding 22 = .ok (.aload_n 0, 1) := by decide +kernel
theorem dX4_addHolding_23 : decode cX4_addHolding 23 = .ok (.getfield 24, 3) := by decide +kernel
theorem dX4_addHolding_26 : decode cX4_addHolding 26 = .ok (.aload_n 0, 1) := by decide +kernel
theorem dX4_addHolding_27 : decode cX4_addHolding 27 = .ok (.getfield 60, 3) := by decide +kernel
theorem dX4_addHolding_30 : decode cX4_addHolding 30 = .ok (.iload_n 2, 1) := by decide +kernel
theorem dX4_addHolding_31 : decode cX4_addHolding 31 = .ok (.bastore, 1) := by decide +kernel
theorem dX4_addHolding_32 : decode cX4_addHolding 32 = .ok (.aload_n 0, 1) := by decide +kernel
theorem dX4_addHolding_33 : decode cX4_addHolding 33 = .ok (.getfield 28, 3) := by decide +kernel
theorem dX4_addHolding_36 : decode cX4_addHolding 36 = .ok (.aload_n 0, 1) := by decide +kernel
theorem dX4_addHolding_37 : decode cX4_addHolding 37 = .ok (.getfield 60, 3) := by decide +kernel
theorem dX4_addHolding_40 : decode cX4_addHolding 40 = .ok (.iload_n 3, 1) := by decide +kernel
theorem dX4_addHolding_41 : decode cX4_addHolding 41 = .ok (.iastore, 1) := by decide +kernel
theorem dX4_addHolding_42 : decode cX4_addHolding 42 = .ok (.aload_n 0, 1) := by decide +kernel
theorem dX4_addHolding_43 : decode cX4_addHolding 43 = .ok (.getfield 31, 3) := by decide +kernel
theorem dX4_addHolding_46 : decode cX4_addHolding 46 = .ok (.aload_n 0, 1) := by decide +kernel
theorem dX4_addHolding_47 : decode cX4_addHolding 47 = .ok (.getfield 60, 3) := by decide +kernel
theorem dX4_addHolding_50 : decode cX4_addHolding 50 = .ok (.iload 4, 2) := by decide +kernel
theorem dX4_addHolding_52 : decode cX4_addHolding 52 = .ok (.iastore, 1) := by decide +kernel
theorem dX4_addHolding_53 : decode cX4_addHolding 53 = .ok (.aload_n 0, 1) := by decide +kernel
theorem dX4_addHolding_54 : decode cX4_addHolding 54 = .ok (.dup, 1) := by decide +kernel
theorem dX4_addHolding_55 : decode cX4_addHolding 55 = .ok (.getfield 60, 3) := by decide +kernel
theorem dX4_addHolding_58 : decode cX4_addHolding 58 = .ok (.iconst 1, 1) := by decide +kernel
theorem dX4_addHolding_59 : decode cX4_addHolding 59 = .ok (.iadd, 1) := by decide +kernel
theorem dX4_addHolding_60 : decode cX4_addHolding 60 = .ok (.putfield 60, 3) := by decide +kernel
theorem dX4_addHolding_63 : decode cX4_addHolding 63 = .ok (.aload_n 0, 1) := by decide +kernel
theorem dX4_addHolding_64 : decode cX4_addHolding 64 = .ok (.getfield 60, 3) := by decide +kernel
theorem dX4_addHolding_67 : decode cX4_addHolding 67 = .ok (.ireturn, 1) := by decide +kernel
set_option maxRecDepth 20000 in
theorem ggX4_holderIn_X11_within : GoodIn wsX4_holderIn wsX11_within := goodIn_r _ [8] (by decide +kernel) (by decide +kernel)
set_option maxRecDepth 20000 in
theorem gX4_holderIn_X11_within_n56 : GoodIn wsX4_holderIn (wsX11_within) := ggX4_holderIn_X11_within
theorem dX4_holderIn_0 : decode cX4_holderIn 0 = .ok (.iload 4, 2) := by decide +kernel
theorem dX4_holderIn_2 : decode cX4_holderIn 2 = .ok (.istore 5, 2) := by decide +kernel
theorem dX4_holderIn_4 : decode cX4_holderIn 4 = .ok (.iconst 0, 1) := by decide +kernel
theorem dX4_holderIn_5 : decode cX4_holderIn 5 = .ok (.istore 6, 2) := by decide +kernel
theorem dX4_holderIn_7 : decode cX4_holderIn 7 = .ok (.iconst 0, 1) := by decide +kernel
theorem dX4_holderIn_8 : decode cX4_holderIn 8 = .ok (.istore 7, 2) := by decide +kernel
theorem dX4_holderIn_10 : decode cX4_holderIn 10 = .ok (.iload 7, 2) := by decide +kernel
theorem dX4_holderIn_12 : decode cX4_holderIn 12 = .ok (.aload_n 0, 1) := by decide +kernel
theorem dX4_holderIn_13 : decode cX4_holderIn 13 = .ok (.getfield 60, 3) := by decide +kernel
theorem dX4_holderIn_16 : decode cX4_holderIn 16 = .ok (.if_icmp .ge 77, 3) := by decide +kernel
theorem dX4_holderIn_19 : decode cX4_holderIn 19 = .ok (.aload_n 0, 1) := by decide +kernel
theorem dX4_holderIn_20 : decode cX4_holderIn 20 = .ok (.getfield 21, 3) := by decide +kernel
theorem dX4_holderIn_23 : decode cX4_holderIn 23 = .ok (.iload 7, 2) := by decide +kernel
theorem dX4_holderIn_25 : decode cX4_holderIn 25 = .ok (.iaload, 1) := by decide +kernel
theorem dX4_holderIn_26 : decode cX4_holderIn 26 = .ok (.iload_n 1, 1) := by decide +kernel
theorem dX4_holderIn_27 : decode cX4_holderIn 27 = .ok (.if_icmp .ne 18, 3) := by decide +kernel
theorem dX4_holderIn_30 : decode cX4_holderIn 30 = .ok (.aload_n 0, 1) := by decide +kernel
theorem dX4_holderIn_31 : decode cX4_holderIn 31 = .ok (.getfield 24, 3) := by decide +kernel
theorem dX4_holderIn_34 : decode cX4_holderIn 34 = .ok (.iload 7, 2) := by decide +kernel
theorem dX4_holderIn_36 : decode cX4_holderIn 36 = .ok (.baload, 1) := by decide +kernel
theorem dX4_holderIn_37 : decode cX4_holderIn 37 = .ok (.iload_n 2, 1) := by decide +kernel
theorem dX4_holderIn_38 : decode cX4_holderIn 38 = .ok (.if_icmp .ne 7, 3) := by decide +kernel
theorem dX4_holderIn_41 : decode cX4_holderIn 41 = .ok (.iconst 1, 1) := by decide +kernel
theorem dX4_holderIn_42 : decode cX4_holderIn 42 = .ok (.goto 4, 3) := by decide +kernel
theorem dX4_holderIn_45 : decode cX4_holderIn 45 = .ok (.iconst 0, 1) := by decide +kernel
theorem dX4_holderIn_46 : decode cX4_holderIn 46 = .ok (.istore 8, 2) := by decide +kernel
theorem dX4_holderIn_48 : decode cX4_holderIn 48 = .ok (.iload 8, 2) := by decide +kernel
theorem dX4_holderIn_50 : decode cX4_holderIn 50 = .ok (.ifCond .eq 37, 3) := by decide +kernel
theorem dX4_holderIn_53 : decode cX4_holderIn 53 = .ok (.aload_n 0, 1) := by decide +kernel
theorem dX4_holderIn_54 : decode cX4_holderIn 54 = .ok (.getfield 31, 3) := by decide +kernel
theorem dX4_holderIn_57 : decode cX4_holderIn 57 = .ok (.iload 7, 2) := by decide +kernel
theorem dX4_holderIn_59 : decode cX4_holderIn 59 = .ok (.iaload, 1) := by decide +kernel
theorem dX4_holderIn_60 : decode cX4_holderIn 60 = .ok (.iload 6, 2) := by decide +kernel
theorem dX4_holderIn_62 : decode cX4_holderIn 62 = .ok (.iload_n 3, 1) := by decide +kernel
theorem dX4_holderIn_63 : decode cX4_holderIn 63 = .ok (.invokestatic 56, 3) := by decide +kernel
theorem dX4_holderIn_66 : decode cX4_holderIn 66 = .ok (.ifCond .eq 21, 3) := by decide +kernel
theorem dX4_holderIn_69 : decode cX4_holderIn 69 = .ok (.aload_n 0, 1) := by decide +kernel
theorem dX4_holderIn_70 : decode cX4_holderIn 70 = .ok (.getfield 31, 3) := by decide +kernel
theorem dX4_holderIn_73 : decode cX4_holderIn 73 = .ok (.iload 7, 2) := by decide +kernel
theorem dX4_holderIn_75 : decode cX4_holderIn 75 = .ok (.iaload, 1) := by decide +kernel
theorem dX4_holderIn_76 : decode cX4_holderIn 76 = .ok (.istore 6, 2) := by decide +kernel
theorem dX4_holderIn_78 : decode cX4_holderIn 78 = .ok (.aload_n 0, 1) := by decide +kernel
theorem dX4_holderIn_79 : decode cX4_holderIn 79 = .ok (.getfield 28, 3) := by decide +kernel
theorem dX4_holderIn_82 : decode cX4_holderIn 82 = .ok (.iload 7, 2) := by decide +kernel
theorem dX4_holderIn_84 : decode cX4_holderIn 84 = .ok (.iaload, 1) := by decide +kernel
theorem dX4_holderIn_85 : decode cX4_holderIn 85 = .ok (.istore 5, 2) := by decide +kernel
theorem dX4_holderIn_87 : decode cX4_holderIn 87 = .ok (.iinc 7 1, 3) := by decide +kernel
theorem dX4_holderIn_90 : decode cX4_holderIn 90 = .ok (.goto (-80), 3) := by decide +kernel
theorem dX4_holderIn_93 : decode cX4_holderIn 93 = .ok (.iload 5, 2) := by decide +kernel
theorem dX4_holderIn_95 : decode cX4_holderIn 95 = .ok (.ireturn, 1) := by decide +kernel
set_option maxRecDepth 20000 in
theorem ggX4_ownerOf_X4_holderIn : GoodIn wsX4_ownerOf wsX4_holderIn := goodIn_r _ [5, 6, 7, 8, 9, 10, 11, 12, 13, 14, 15, 16, 17, 18, 19, 20, 21, 22, 23, 24, 25, 26, 27, 28, 29, 30] (by decide +kernel) (by decide +kernel)
set_option maxRecDepth 20000 in
theorem gX4_ownerOf_X4_holderIn : GoodIn wsX4_ownerOf (wsV RX4 63 RX4 yX4_holderIn wsX4_holderIn) := goodIn_app (goodIn_of _ (by decide +kernel)) ggX4_ownerOf_X4_holderIn
theorem dX4_ownerOf_0 : decode cX4_ownerOf 0 = .ok (.aload_n 0, 1) := by decide +kernel
theorem dX4_ownerOf_1 : decode cX4_ownerOf 1 = .ok (.iload_n 1, 1) := by decide +kernel
theorem dX4_ownerOf_2 : decode cX4_ownerOf 2 = .ok (.iconst 0, 1) := by decide +kernel
theorem dX4_ownerOf_3 : decode cX4_ownerOf 3 = .ok (.iload_n 2, 1) := by decide +kernel
theorem dX4_ownerOf_4 : decode cX4_ownerOf 4 = .ok (.iconst (-1), 1) := by decide +kernel
theorem dX4_ownerOf_5 : decode cX4_ownerOf 5 = .ok (.invokevirtual 63, 3) := by decide +kernel
theorem dX4_ownerOf_8 : decode cX4_ownerOf 8 = .ok (.ireturn, 1) := by decide +kernel
set_option maxRecDepth 20000 in
theorem ggX4_usersOf_X4_holderIn : GoodIn wsX4_usersOf wsX4_holderIn := goodIn_r _ [5, 6, 7, 8, 9, 10, 11, 12, 13, 14, 15, 16, 17, 18, 19, 20, 21, 22, 23, 24, 25, 26, 27, 28, 29, 30] (by decide +kernel) (by decide +kernel)
set_option maxRecDepth 20000 in
theorem gX4_usersOf_X4_holderIn : GoodIn wsX4_usersOf (wsV RX4 63 RX4 yX4_holderIn wsX4_holderIn) := goodIn_app (goodIn_of _ (by decide +kernel)) ggX4_usersOf_X4_holderIn
theorem dX4_usersOf_0 : decode cX4_usersOf 0 = .ok (.aload_n 0, 1) := by decide +kernel
theorem dX4_usersOf_1 : decode cX4_usersOf 1 = .ok (.iload_n 1, 1) := by decide +kernel
theorem dX4_usersOf_2 : decode cX4_usersOf 2 = .ok (.iconst 1, 1) := by decide +kernel
theorem dX4_usersOf_3 : decode cX4_usersOf 3 = .ok (.iload_n 2, 1) := by decide +kernel
theorem dX4_usersOf_4 : decode cX4_usersOf 4 = .ok (.iconst 0, 1) := by decide +kernel
theorem dX4_usersOf_5 : decode cX4_usersOf 5 = .ok (.invokevirtual 63, 3) := by decide +kernel
theorem dX4_usersOf_8 : decode cX4_usersOf 8 = .ok (.ireturn, 1) := by decide +kernel
theorem dX4_addDeed_0 : decode cX4_addDeed 0 = .ok (.aload_n 0, 1) := by decide +kernel
theorem dX4_addDeed_1 : decode cX4_addDeed 1 = .ok (.getfield 67, 3) := by decide +kernel
theorem dX4_addDeed_4 : decode cX4_addDeed 4 = .ok (.bipush 20, 2) := by decide +kernel
theorem dX4_addDeed_6 : decode cX4_addDeed 6 = .ok (.if_icmp .lt 6, 3) := by decide +kernel
theorem dX4_addDeed_9 : decode cX4_addDeed 9 = .ok (.bipush (-3), 2) := by decide +kernel
theorem dX4_addDeed_11 : decode cX4_addDeed 11 = .ok (.ireturn, 1) := by decide +kernel
theorem dX4_addDeed_12 : decode cX4_addDeed 12 = .ok (.aload_n 0, 1) := by decide +kernel
theorem dX4_addDeed_13 : decode cX4_addDeed 13 = .ok (.getfield 34, 3) := by decide +kernel
theorem dX4_addDeed_16 : decode cX4_addDeed 16 = .ok (.aload_n 0, 1) := by decide +kernel
theorem dX4_addDeed_17 : decode cX4_addDeed 17 = .ok (.getfield 67, 3) := by decide +kernel
theorem dX4_addDeed_20 : decode cX4_addDeed 20 = .ok (.iload_n 1, 1) := by decide +kernel
theorem dX4_addDeed_21 : decode cX4_addDeed 21 = .ok (.iastore, 1) := by decide +kernel
theorem dX4_addDeed_22 : decode cX4_addDeed 22 = .ok (.aload_n 0, 1) := by decide +kernel
theorem dX4_addDeed_23 : decode cX4_addDeed 23 = .ok (.getfield 37, 3) := by decide +kernel
theorem dX4_addDeed_26 : decode cX4_addDeed 26 = .ok (.aload_n 0, 1) := by decide +kernel
theorem dX4_addDeed_27 : decode cX4_addDeed 27 = .ok (.getfield 67, 3) := by decide +kernel
theorem dX4_addDeed_30 : decode cX4_addDeed 30 = .ok (.iload_n 2, 1) := by decide +kernel
theorem dX4_addDeed_31 : decode cX4_addDeed 31 = .ok (.iastore, 1) := by decide +kernel
theorem dX4_addDeed_32 : decode cX4_addDeed 32 = .ok (.aload_n 0, 1) := by decide +kernel
theorem dX4_addDeed_33 : decode cX4_addDeed 33 = .ok (.getfield 40, 3) := by decide +kernel
theorem dX4_addDeed_36 : decode cX4_addDeed 36 = .ok (.aload_n 0, 1) := by decide +kernel
theorem dX4_addDeed_37 : decode cX4_addDeed 37 = .ok (.getfield 67, 3) := by decide +kernel
theorem dX4_addDeed_40 : decode cX4_addDeed 40 = .ok (.iload_n 3, 1) := by decide +kernel
theorem dX4_addDeed_41 : decode cX4_addDeed 41 = .ok (.iastore, 1) := by decide +kernel
theorem dX4_addDeed_42 : decode cX4_addDeed 42 = .ok (.aload_n 0, 1) := by decide +kernel
theorem dX4_addDeed_43 : decode cX4_addDeed 43 = .ok (.dup, 1) := by decide +kernel
theorem dX4_addDeed_44 : decode cX4_addDeed 44 = .ok (.getfield 67, 3) := by decide +kernel
theorem dX4_addDeed_47 : decode cX4_addDeed 47 = .ok (.iconst 1, 1) := by decide +kernel
theorem dX4_addDeed_48 : decode cX4_addDeed 48 = .ok (.iadd, 1) := by decide +kernel
theorem dX4_addDeed_49 : decode cX4_addDeed 49 = .ok (.putfield 67, 3) := by decide +kernel
theorem dX4_addDeed_52 : decode cX4_addDeed 52 = .ok (.aload_n 0, 1) := by decide +kernel
theorem dX4_addDeed_53 : decode cX4_addDeed 53 = .ok (.getfield 67, 3) := by decide +kernel
theorem dX4_addDeed_56 : decode cX4_addDeed 56 = .ok (.iconst 1, 1) := by decide +kernel
theorem dX4_addDeed_57 : decode cX4_addDeed 57 = .ok (.isub, 1) := by decide +kernel
theorem dX4_addDeed_58 : decode cX4_addDeed 58 = .ok (.ireturn, 1) := by decide +kernel
set_option maxRecDepth 20000 in
theorem ggX4_rightOfSeller_X4_usersOf : GoodIn wsX4_rightOfSeller wsX4_usersOf := goodIn_r _ [8, 9, 10, 11, 7, 12, 13, 14, 15, 16, 17, 18, 19, 20, 27, 28, 29, 30, 31, 32, 33, 34, 35, 36, 37, 38, 39, 40, 41, 42, 43] (by decide +kernel) (by decide +kernel)
set_option maxRecDepth 20000 in
theorem gX4_rightOfSeller_X4_usersOf : GoodIn wsX4_rightOfSeller (wsV RX4 70 RX4 yX4_usersOf wsX4_usersOf) := goodIn_app (goodIn_of _ (by decide +kernel)) ggX4_rightOfSeller_X4_usersOf
set_option maxRecDepth 20000 in
theorem ggX4_rightOfSeller_X4_ownerOf : GoodIn wsX4_rightOfSeller wsX4_ownerOf := goodIn_r _ [24, 9, 10, 11, 7, 12, 13, 14, 15, 16, 17, 18, 19, 20, 27, 28, 29, 30, 31, 32, 33, 34, 35, 36, 37, 38, 39, 40, 41, 42, 43] (by decide +kernel) (by decide +kernel)
set_option maxRecDepth 20000 in
theorem gX4_rightOfSeller_X4_ownerOf : GoodIn wsX4_rightOfSeller (wsV RX4 74 RX4 yX4_ownerOf wsX4_ownerOf) := goodIn_app (goodIn_of _ (by decide +kernel)) ggX4_rightOfSeller_X4_ownerOf
set_option maxRecDepth 20000 in
theorem ggX4_rightOfSeller_X11_hasBit : GoodIn wsX4_rightOfSeller wsX11_hasBit := goodIn_r _ [26] (by decide +kernel) (by decide +kernel)
set_option maxRecDepth 20000 in
theorem gX4_rightOfSeller_X11_hasBit_n77 : GoodIn wsX4_rightOfSeller (wsX11_hasBit) := ggX4_rightOfSeller_X11_hasBit
theorem dX4_rightOfSeller_0 : decode cX4_rightOfSeller 0 = .ok (.aload_n 0, 1) := by decide +kernel
theorem dX4_rightOfSeller_1 : decode cX4_rightOfSeller 1 = .ok (.getfield 37, 3) := by decide +kernel
theorem dX4_rightOfSeller_4 : decode cX4_rightOfSeller 4 = .ok (.iload_n 1, 1) := by decide +kernel
theorem dX4_rightOfSeller_5 : decode cX4_rightOfSeller 5 = .ok (.iaload, 1) := by decide +kernel
theorem dX4_rightOfSeller_6 : decode cX4_rightOfSeller 6 = .ok (.istore_n 2, 1) := by decide +kernel
theorem dX4_rightOfSeller_7 : decode cX4_rightOfSeller 7 = .ok (.aload_n 0, 1) := by decide +kernel
theorem dX4_rightOfSeller_8 : decode cX4_rightOfSeller 8 = .ok (.aload_n 0, 1) := by decide +kernel
theorem dX4_rightOfSeller_9 : decode cX4_rightOfSeller 9 = .ok (.getfield 34, 3) := by decide +kernel
theorem dX4_rightOfSeller_12 : decode cX4_rightOfSeller 12 = .ok (.iload_n 1, 1) := by decide +kernel
theorem dX4_rightOfSeller_13 : decode cX4_rightOfSeller 13 = .ok (.iaload, 1) := by decide +kernel
theorem dX4_rightOfSeller_14 : decode cX4_rightOfSeller 14 = .ok (.aload_n 0, 1) := by decide +kernel
theorem dX4_rightOfSeller_15 : decode cX4_rightOfSeller 15 = .ok (.getfield 40, 3) := by decide +kernel
theorem dX4_rightOfSeller_18 : decode cX4_rightOfSeller 18 = .ok (.iload_n 1, 1) := by decide +kernel
theorem dX4_rightOfSeller_19 : decode cX4_rightOfSeller 19 = .ok (.iaload, 1) := by decide +kernel
theorem dX4_rightOfSeller_20 : decode cX4_rightOfSeller 20 = .ok (.invokevirtual 70, 3) := by decide +kernel
theorem dX4_rightOfSeller_23 : decode cX4_rightOfSeller 23 = .ok (.istore_n 3, 1) := by decide +kernel
theorem dX4_rightOfSeller_24 : decode cX4_rightOfSeller 24 = .ok (.aload_n 0, 1) := by decide +kernel
theorem dX4_rightOfSeller_25 : decode cX4_rightOfSeller 25 = .ok (.aload_n 0, 1) := by decide +kernel
theorem dX4_rightOfSeller_26 : decode cX4_rightOfSeller 26 = .ok (.getfield 34, 3) := by decide +kernel
theorem dX4_rightOfSeller_29 : decode cX4_rightOfSeller 29 = .ok (.iload_n 1, 1) := by decide +kernel
theorem dX4_rightOfSeller_30 : decode cX4_rightOfSeller 30 = .ok (.iaload, 1) := by decide +kernel
theorem dX4_rightOfSeller_31 : decode cX4_rightOfSeller 31 = .ok (.aload_n 0, 1) := by decide +kernel
theorem dX4_rightOfSeller_32 : decode cX4_rightOfSeller 32 = .ok (.getfield 40, 3) := by decide +kernel
theorem dX4_rightOfSeller_35 : decode cX4_rightOfSeller 35 = .ok (.iload_n 1, 1) := by decide +kernel
theorem dX4_rightOfSeller_36 : decode cX4_rightOfSeller 36 = .ok (.iaload, 1) := by decide +kernel
theorem dX4_rightOfSeller_37 : decode cX4_rightOfSeller 37 = .ok (.invokevirtual 74, 3) := by decide +kernel
theorem dX4_rightOfSeller_40 : decode cX4_rightOfSeller 40 = .ok (.iload_n 2, 1) := by decide +kernel
theorem dX4_rightOfSeller_41 : decode cX4_rightOfSeller 41 = .ok (.if_icmp .ne 7, 3) := by decide +kernel
theorem dX4_rightOfSeller_44 : decode cX4_rightOfSeller 44 = .ok (.iconst 1, 1) := by decide +kernel
theorem dX4_rightOfSeller_45 : decode cX4_rightOfSeller 45 = .ok (.goto 4, 3) := by decide +kernel
theorem dX4_rightOfSeller_48 : decode cX4_rightOfSeller 48 = .ok (.iconst 0, 1) := by decide +kernel
theorem dX4_rightOfSeller_49 : decode cX4_rightOfSeller 49 = .ok (.istore 4, 2) := by decide +kernel
theorem dX4_rightOfSeller_51 : decode cX4_rightOfSeller 51 = .ok (.iload 4, 2) := by decide +kernel
theorem dX4_rightOfSeller_53 : decode cX4_rightOfSeller 53 = .ok (.ifCond .eq 15, 3) := by decide +kernel
theorem dX4_rightOfSeller_56 : decode cX4_rightOfSeller 56 = .ok (.iload_n 3, 1) := by decide +kernel
theorem dX4_rightOfSeller_57 : decode cX4_rightOfSeller 57 = .ok (.iconst 1, 1) := by decide +kernel
theorem dX4_rightOfSeller_58 : decode cX4_rightOfSeller 58 = .ok (.iload_n 2, 1) := by decide +kernel
theorem dX4_rightOfSeller_59 : decode cX4_rightOfSeller 59 = .ok (.ishl, 1) := by decide +kernel
theorem dX4_rightOfSeller_60 : decode cX4_rightOfSeller 60 = .ok (.iconst (-1), 1) := by decide +kernel
theorem dX4_rightOfSeller_61 : decode cX4_rightOfSeller 61 = .ok (.ixor, 1) := by decide +kernel
theorem dX4_rightOfSeller_62 : decode cX4_rightOfSeller 62 = .ok (.iand, 1) := by decide +kernel
theorem dX4_rightOfSeller_63 : decode cX4_rightOfSeller 63 = .ok (.ifCond .ne 5, 3) := by decide +kernel
theorem dX4_rightOfSeller_66 : decode cX4_rightOfSeller 66 = .ok (.iconst 2, 1) := by decide +kernel
theorem dX4_rightOfSeller_67 : decode cX4_rightOfSeller 67 = .ok (.ireturn, 1) := by decide +kernel
theorem dX4_rightOfSeller_68 : decode cX4_rightOfSeller 68 = .ok (.iload 4, 2) := by decide +kernel
theorem dX4_rightOfSeller_70 : decode cX4_rightOfSeller 70 = .ok (.ifCond .ne 11, 3) := by decide +kernel
theorem dX4_rightOfSeller_73 : decode cX4_rightOfSeller 73 = .ok (.iload_n 3, 1) := by decide +kernel
theorem dX4_rightOfSeller_74 : decode cX4_rightOfSeller 74 = .ok (.iload_n 2, 1) := by decide +kernel
theorem dX4_rightOfSeller_75 : decode cX4_rightOfSeller 75 = .ok (.invokestatic 77, 3) := by decide +kernel
theorem dX4_rightOfSeller_78 : decode cX4_rightOfSeller 78 = .ok (.ifCond .eq 7, 3) := by decide +kernel
theorem dX4_rightOfSeller_81 : decode cX4_rightOfSeller 81 = .ok (.iconst 1, 1) := by decide +kernel
theorem dX4_rightOfSeller_82 : decode cX4_rightOfSeller 82 = .ok (.goto 4, 3) := by decide +kernel
theorem dX4_rightOfSeller_85 : decode cX4_rightOfSeller 85 = .ok (.iconst 0, 1) := by decide +kernel
theorem dX4_rightOfSeller_86 : decode cX4_rightOfSeller 86 = .ok (.ireturn, 1) := by decide +kernel
theorem dX4_firstSoldTwice_0 : decode cX4_firstSoldTwice 0 = .ok (.iconst (-1), 1) := by decide +kernel
theorem dX4_firstSoldTwice_1 : decode cX4_firstSoldTwice 1 = .ok (.istore_n 2, 1) := by decide +kernel
theorem dX4_firstSoldTwice_2 : decode cX4_firstSoldTwice 2 = .ok (.iconst 0, 1) := by decide +kernel
theorem dX4_firstSoldTwice_3 : decode cX4_firstSoldTwice 3 = .ok (.istore_n 3, 1) := by decide +kernel
theorem dX4_firstSoldTwice_4 : decode cX4_firstSoldTwice 4 = .ok (.iload_n 3, 1) := by decide +kernel
theorem dX4_firstSoldTwice_5 : decode cX4_firstSoldTwice 5 = .ok (.aload_n 0, 1) := by decide +kernel
theorem dX4_firstSoldTwice_6 : decode cX4_firstSoldTwice 6 = .ok (.getfield 67, 3) := by decide +kernel
theorem dX4_firstSoldTwice_9 : decode cX4_firstSoldTwice 9 = .ok (.if_icmp .ge 50, 3) := by decide +kernel
theorem dX4_firstSoldTwice_12 : decode cX4_firstSoldTwice 12 = .ok (.aload_n 0, 1) := by decide +kernel
theorem dX4_firstSoldTwice_13 : decode cX4_firstSoldTwice 13 = .ok (.getfield 34, 3) := by decide +kernel
theorem dX4_firstSoldTwice_16 : decode cX4_firstSoldTwice 16 = .ok (.iload_n 3, 1) := by decide +kernel
theorem dX4_firstSoldTwice_17 : decode cX4_firstSoldTwice 17 = .ok (.iaload, 1) := by decide +kernel
theorem dX4_firstSoldTwice_18 : decode cX4_firstSoldTwice 18 = .ok (.iload_n 1, 1) := by decide +kernel
theorem dX4_firstSoldTwice_19 : decode cX4_firstSoldTwice 19 = .ok (.if_icmp .ne 34, 3) := by decide +kernel
theorem dX4_firstSoldTwice_22 : decode cX4_firstSoldTwice 22 = .ok (.iload_n 2, 1) := by decide +kernel
theorem dX4_firstSoldTwice_23 : decode cX4_firstSoldTwice 23 = .ok (.ifCond .ge 8, 3) := by decide +kernel
theorem dX4_firstSoldTwice_26 : decode cX4_firstSoldTwice 26 = .ok (.iload_n 3, 1) := by decide +kernel
theorem dX4_firstSoldTwice_27 : decode cX4_firstSoldTwice 27 = .ok (.istore_n 2, 1) := by decide +kernel
theorem dX4_firstSoldTwice_28 : decode cX4_firstSoldTwice 28 = .ok (.goto 25, 3) := by decide +kernel
theorem dX4_firstSoldTwice_31 : decode cX4_firstSoldTwice 31 = .ok (.aload_n 0, 1) := by decide +kernel
theorem dX4_firstSoldTwice_32 : decode cX4_firstSoldTwice 32 = .ok (.getfield 37, 3) := by decide +kernel
theorem dX4_firstSoldTwice_35 : decode cX4_firstSoldTwice 35 = .ok (.iload_n 3, 1) := by decide +kernel
theorem dX4_firstSoldTwice_36 : decode cX4_firstSoldTwice 36 = .ok (.iaload, 1) := by decide +kernel
theorem dX4_firstSoldTwice_37 : decode cX4_firstSoldTwice 37 = .ok (.aload_n 0, 1) := by decide +kernel
theorem dX4_firstSoldTwice_38 : decode cX4_firstSoldTwice 38 = .ok (.getfield 37, 3) := by decide +kernel
theorem dX4_firstSoldTwice_41 : decode cX4_firstSoldTwice 41 = .ok (.iload_n 2, 1) := by decide +kernel
theorem dX4_firstSoldTwice_42 : decode cX4_firstSoldTwice 42 = .ok (.iaload, 1) := by decide +kernel
theorem dX4_firstSoldTwice_43 : decode cX4_firstSoldTwice 43 = .ok (.if_icmp .eq 10, 3) := by decide +kernel
theorem dX4_firstSoldTwice_46 : decode cX4_firstSoldTwice 46 = .ok (.bipush 100, 2) := by decide +kernel
theorem dX4_firstSoldTwice_48 : decode cX4_firstSoldTwice 48 = .ok (.iload_n 2, 1) := by decide +kernel
theorem dX4_firstSoldTwice_49 : decode cX4_firstSoldTwice 49 = .ok (.imul, 1) := by decide +kernel
theorem dX4_firstSoldTwice_50 : decode cX4_firstSoldTwice 50 = .ok (.iload_n 3, 1) := by decide +kernel
theorem dX4_firstSoldTwice_51 : decode cX4_firstSoldTwice 51 = .ok (.iadd, 1) := by decide +kernel
theorem dX4_firstSoldTwice_52 : decode cX4_firstSoldTwice 52 = .ok (.ireturn, 1) := by decide +kernel
theorem dX4_firstSoldTwice_53 : decode cX4_firstSoldTwice 53 = .ok (.iinc 3 1, 3) := by decide +kernel
theorem dX4_firstSoldTwice_56 : decode cX4_firstSoldTwice 56 = .ok (.goto (-52), 3) := by decide +kernel
theorem dX4_firstSoldTwice_59 : decode cX4_firstSoldTwice 59 = .ok (.bipush (-4), 2) := by decide +kernel
theorem dX4_firstSoldTwice_61 : decode cX4_firstSoldTwice 61 = .ok (.ireturn, 1) := by decide +kernel
theorem dX4_addTaking_0 : decode cX4_addTaking 0 = .ok (.aload_n 0, 1) := by decide +kernel
theorem dX4_addTaking_1 : decode cX4_addTaking 1 = .ok (.getfield 81, 3) := by decide +kernel
theorem dX4_addTaking_4 : decode cX4_addTaking 4 = .ok (.bipush 12, 2) := by decide +kernel
theorem dX4_addTaking_6 : decode cX4_addTaking 6 = .ok (.if_icmp .lt 6, 3) := by decide +kernel
theorem dX4_addTaking_9 : decode cX4_addTaking 9 = .ok (.bipush (-3), 2) := by decide +kernel
theorem dX4_addTaking_11 : decode cX4_addTaking 11 = .ok (.ireturn, 1) := by decide +kernel
theorem dX4_addTaking_12 : decode cX4_addTaking 12 = .ok (.aload_n 0, 1) := by decide +kernel
theorem dX4_addTaking_13 : decode cX4_addTaking 13 = .ok (.getfield 43, 3) := by decide +kernel
theorem dX4_addTaking_16 : decode cX4_addTaking 16 = .ok (.aload_n 0, 1) := by decide +kernel
theorem dX4_addTaking_17 : decode cX4_addTaking 17 = .ok (.getfield 81, 3) := by decide +kernel
theorem dX4_addTaking_20 : decode cX4_addTaking 20 = .ok (.iload_n 1, 1) := by decide +kernel
theorem dX4_addTaking_21 : decode cX4_addTaking 21 = .ok (.iastore, 1) := by decide +kernel
theorem dX4_addTaking_22 : decode cX4_addTaking 22 = .ok (.aload_n 0, 1) := by decide +kernel
theorem dX4_addTaking_23 : decode cX4_addTaking 23 = .ok (.getfield 46, 3) := by decide +kernel
theorem dX4_addTaking_26 : decode cX4_addTaking 26 = .ok (.aload_n 0, 1) := by decide +kernel
theorem dX4_addTaking_27 : decode cX4_addTaking 27 = .ok (.getfield 81, 3) := by decide +kernel
theorem dX4_addTaking_30 : decode cX4_addTaking 30 = .ok (.iload_n 2, 1) := by decide +kernel
theorem dX4_addTaking_31 : decode cX4_addTaking 31 = .ok (.iastore, 1) := by decide +kernel
theorem dX4_addTaking_32 : decode cX4_addTaking 32 = .ok (.aload_n 0, 1) := by decide +kernel
theorem dX4_addTaking_33 : decode cX4_addTaking 33 = .ok (.getfield 49, 3) := by decide +kernel
theorem dX4_addTaking_36 : decode cX4_addTaking 36 = .ok (.aload_n 0, 1) := by decide +kernel
theorem dX4_addTaking_37 : decode cX4_addTaking 37 = .ok (.getfield 81, 3) := by decide +kernel
theorem dX4_addTaking_40 : decode cX4_addTaking 40 = .ok (.iload_n 3, 1) := by decide +kernel
theorem dX4_addTaking_41 : decode cX4_addTaking 41 = .ok (.iastore, 1) := by decide +kernel
theorem dX4_addTaking_42 : decode cX4_addTaking 42 = .ok (.aload_n 0, 1) := by decide +kernel
theorem dX4_addTaking_43 : decode cX4_addTaking 43 = .ok (.dup, 1) := by decide +kernel
theorem dX4_addTaking_44 : decode cX4_addTaking 44 = .ok (.getfield 81, 3) := by decide +kernel
theorem dX4_addTaking_47 : decode cX4_addTaking 47 = .ok (.iconst 1, 1) := by decide +kernel
theorem dX4_addTaking_48 : decode cX4_addTaking 48 = .ok (.iadd, 1) := by decide +kernel
theorem dX4_addTaking_49 : decode cX4_addTaking 49 = .ok (.putfield 81, 3) := by decide +kernel
theorem dX4_addTaking_52 : decode cX4_addTaking 52 = .ok (.aload_n 0, 1) := by decide +kernel
theorem dX4_addTaking_53 : decode cX4_addTaking 53 = .ok (.getfield 81, 3) := by decide +kernel
theorem dX4_addTaking_56 : decode cX4_addTaking 56 = .ok (.iconst 1, 1) := by decide +kernel
theorem dX4_addTaking_57 : decode cX4_addTaking 57 = .ok (.isub, 1) := by decide +kernel
theorem dX4_addTaking_58 : decode cX4_addTaking 58 = .ok (.ireturn, 1) := by decide +kernel
set_option maxRecDepth 20000 in
theorem ggX4_wrongedBy_X4_ownerOf : GoodIn wsX4_wrongedBy wsX4_ownerOf := goodIn_r _ [8, 9, 10, 11, 7, 12, 13, 14, 15, 16, 17, 18, 19, 20, 25, 26, 27, 28, 29, 30, 31, 32, 33, 34, 35, 36, 37, 38, 39, 40, 41] (by decide +kernel) (by decide +kernel)
set_option maxRecDepth 20000 in
theorem gX4_wrongedBy_X4_ownerOf : GoodIn wsX4_wrongedBy (wsV RX4 74 RX4 yX4_ownerOf wsX4_ownerOf) := goodIn_app (goodIn_of _ (by decide +kernel)) ggX4_wrongedBy_X4_ownerOf
set_option maxRecDepth 20000 in
theorem ggX4_wrongedBy_X4_usersOf : GoodIn wsX4_wrongedBy wsX4_usersOf := goodIn_r _ [24, 9, 10, 11, 7, 12, 13, 14, 15, 16, 17, 18, 19, 20, 25, 26, 27, 28, 29, 30, 31, 32, 33, 34, 35, 36, 37, 38, 39, 40, 41] (by decide +kernel) (by decide +kernel)
set_option maxRecDepth 20000 in
theorem gX4_wrongedBy_X4_usersOf : GoodIn wsX4_wrongedBy (wsV RX4 70 RX4 yX4_usersOf wsX4_usersOf) := goodIn_app (goodIn_of _ (by decide +kernel)) ggX4_wrongedBy_X4_usersOf
theorem dX4_wrongedBy_0 : decode cX4_wrongedBy 0 = .ok (.aload_n 0, 1) := by decide +kernel
theorem dX4_wrongedBy_1 : decode cX4_wrongedBy 1 = .ok (.getfield 43, 3) := by decide +kernel
theorem dX4_wrongedBy_4 : decode cX4_wrongedBy 4 = .ok (.iload_n 1, 1) := by decide +kernel
theorem dX4_wrongedBy_5 : decode cX4_wrongedBy 5 = .ok (.iaload, 1) := by decide +kernel
theorem dX4_wrongedBy_6 : decode cX4_wrongedBy 6 = .ok (.istore_n 2, 1) := by decide +kernel
theorem dX4_wrongedBy_7 : decode cX4_wrongedBy 7 = .ok (.aload_n 0, 1) := by decide +kernel
theorem dX4_wrongedBy_8 : decode cX4_wrongedBy 8 = .ok (.iload_n 2, 1) := by decide +kernel
theorem dX4_wrongedBy_9 : decode cX4_wrongedBy 9 = .ok (.aload_n 0, 1) := by decide +kernel
theorem dX4_wrongedBy_10 : decode cX4_wrongedBy 10 = .ok (.getfield 49, 3) := by decide +kernel
theorem dX4_wrongedBy_13 : decode cX4_wrongedBy 13 = .ok (.iload_n 1, 1) := by decide +kernel
theorem dX4_wrongedBy_14 : decode cX4_wrongedBy 14 = .ok (.iaload, 1) := by decide +kernel
theorem dX4_wrongedBy_15 : decode cX4_wrongedBy 15 = .ok (.invokevirtual 74, 3) := by decide +kernel
theorem dX4_wrongedBy_18 : decode cX4_wrongedBy 18 = .ok (.istore_n 3, 1) := by decide +kernel
theorem dX4_wrongedBy_19 : decode cX4_wrongedBy 19 = .ok (.aload_n 0, 1) := by decide +kernel
theorem dX4_wrongedBy_20 : decode cX4_wrongedBy 20 = .ok (.iload_n 2, 1) := by decide +kernel
theorem dX4_wrongedBy_21 : decode cX4_wrongedBy 21 = .ok (.aload_n 0, 1) := by decide +kernel
theorem dX4_wrongedBy_22 : decode cX4_wrongedBy 22 = .ok (.getfield 49, 3) := by decide +kernel
theorem dX4_wrongedBy_25 : decode cX4_wrongedBy 25 = .ok (.iload_n 1, 1) := by decide +kernel
theorem dX4_wrongedBy_26 : decode cX4_wrongedBy 26 = .ok (.iaload, 1) := by decide +kernel
theorem dX4_wrongedBy_27 : decode cX4_wrongedBy 27 = .ok (.invokevirtual 70, 3) := by decide +kernel
theorem dX4_wrongedBy_30 : decode cX4_wrongedBy 30 = .ok (.iload_n 3, 1) := by decide +kernel
theorem dX4_wrongedBy_31 : decode cX4_wrongedBy 31 = .ok (.ifCond .ge 7, 3) := by decide +kernel
theorem dX4_wrongedBy_34 : decode cX4_wrongedBy 34 = .ok (.iconst 0, 1) := by decide +kernel
theorem dX4_wrongedBy_35 : decode cX4_wrongedBy 35 = .ok (.goto 6, 3) := by decide +kernel
theorem dX4_wrongedBy_38 : decode cX4_wrongedBy 38 = .ok (.iconst 1, 1) := by decide +kernel
theorem dX4_wrongedBy_39 : decode cX4_wrongedBy 39 = .ok (.iload_n 3, 1) := by decide +kernel
theorem dX4_wrongedBy_40 : decode cX4_wrongedBy 40 = .ok (.ishl, 1) := by decide +kernel
theorem dX4_wrongedBy_41 : decode cX4_wrongedBy 41 = .ok (.ior, 1) := by decide +kernel
theorem dX4_wrongedBy_42 : decode cX4_wrongedBy 42 = .ok (.istore 4, 2) := by decide +kernel
theorem dX4_wrongedBy_44 : decode cX4_wrongedBy 44 = .ok (.iload 4, 2) := by decide +kernel
theorem dX4_wrongedBy_46 : decode cX4_wrongedBy 46 = .ok (.iconst 1, 1) := by decide +kernel
theorem dX4_wrongedBy_47 : decode cX4_wrongedBy 47 = .ok (.aload_n 0, 1) := by decide +kernel
theorem dX4_wrongedBy_48 : decode cX4_wrongedBy 48 = .ok (.getfield 46, 3) := by decide +kernel
theorem dX4_wrongedBy_51 : decode cX4_wrongedBy 51 = .ok (.iload_n 1, 1) := by decide +kernel
theorem dX4_wrongedBy_52 : decode cX4_wrongedBy 52 = .ok (.iaload, 1) := by decide +kernel
theorem dX4_wrongedBy_53 : decode cX4_wrongedBy 53 = .ok (.ishl, 1) := by decide +kernel
theorem dX4_wrongedBy_54 : decode cX4_wrongedBy 54 = .ok (.iconst (-1), 1) := by decide +kernel
theorem dX4_wrongedBy_55 : decode cX4_wrongedBy 55 = .ok (.ixor, 1) := by decide +kernel
theorem dX4_wrongedBy_56 : decode cX4_wrongedBy 56 = .ok (.iand, 1) := by decide +kernel
theorem dX4_wrongedBy_57 : decode cX4_wrongedBy 57 = .ok (.ireturn, 1) := by decide +kernel
set_option maxRecDepth 20000 in
theorem ggX4_wrongedByAll_X4_wrongedBy : GoodIn wsX4_wrongedByAll wsX4_wrongedBy := goodIn_r _ [7, 2, 8, 9, 10, 11, 12, 6, 13, 14, 15, 16, 17, 18, 19, 20, 21, 22, 23, 24, 25, 26, 27, 28, 29, 30, 31, 32, 33, 34, 35, 36, 37, 38, 39, 40, 41, 42, 43, 44, 45, 46] (by decide +kernel) (by decide +kernel)
set_option maxRecDepth 20000 in
theorem gX4_wrongedByAll_X4_wrongedBy : GoodIn wsX4_wrongedByAll (wsV RX4 84 RX4 yX4_wrongedBy wsX4_wrongedBy) := goodIn_app (goodIn_of _ (by decide +kernel)) ggX4_wrongedByAll_X4_wrongedBy
theorem dX4_wrongedByAll_0 : decode cX4_wrongedByAll 0 = .ok (.iconst 0, 1) := by decide +kernel
theorem dX4_wrongedByAll_1 : decode cX4_wrongedByAll 1 = .ok (.istore_n 2, 1) := by decide +kernel
theorem dX4_wrongedByAll_2 : decode cX4_wrongedByAll 2 = .ok (.iconst 0, 1) := by decide +kernel
theorem dX4_wrongedByAll_3 : decode cX4_wrongedByAll 3 = .ok (.istore_n 3, 1) := by decide +kernel
theorem dX4_wrongedByAll_4 : decode cX4_wrongedByAll 4 = .ok (.iload_n 3, 1) := by decide +kernel
theorem dX4_wrongedByAll_5 : decode cX4_wrongedByAll 5 = .ok (.aload_n 0, 1) := by decide +kernel
theorem dX4_wrongedByAll_6 : decode cX4_wrongedByAll 6 = .ok (.getfield 81, 3) := by decide +kernel
theorem dX4_wrongedByAll_9 : decode cX4_wrongedByAll 9 = .ok (.if_icmp .ge 27, 3) := by decide +kernel
theorem dX4_wrongedByAll_12 : decode cX4_wrongedByAll 12 = .ok (.aload_n 0, 1) := by decide +kernel
theorem dX4_wrongedByAll_13 : decode cX4_wrongedByAll 13 = .ok (.getfield 43, 3) := by decide +kernel
theorem dX4_wrongedByAll_16 : decode cX4_wrongedByAll 16 = .ok (.iload_n 3, 1) := by decide +kernel
theorem dX4_wrongedByAll_17 : decode cX4_wrongedByAll 17 = .ok (.iaload, 1) := by decide +kernel
theorem dX4_wrongedByAll_18 : decode cX4_wrongedByAll 18 = .ok (.iload_n 1, 1) := by decide +kernel
theorem dX4_wrongedByAll_19 : decode cX4_wrongedByAll 19 = .ok (.if_icmp .ne 11, 3) := by decide +kernel
theorem dX4_wrongedByAll_22 : decode cX4_wrongedByAll 22 = .ok (.iload_n 2, 1) := by decide +kernel
theorem dX4_wrongedByAll_23 : decode cX4_wrongedByAll 23 = .ok (.aload_n 0, 1) := by decide +kernel
theorem dX4_wrongedByAll_24 : decode cX4_wrongedByAll 24 = .ok (.iload_n 3, 1) := by decide +kernel
theorem dX4_wrongedByAll_25 : decode cX4_wrongedByAll 25 = .ok (.invokevirtual 84, 3) := by decide +kernel
theorem dX4_wrongedByAll_28 : decode cX4_wrongedByAll 28 = .ok (.ior, 1) := by decide +kernel
theorem dX4_wrongedByAll_29 : decode cX4_wrongedByAll 29 = .ok (.istore_n 2, 1) := by decide +kernel
theorem dX4_wrongedByAll_30 : decode cX4_wrongedByAll 30 = .ok (.iinc 3 1, 3) := by decide +kernel
theorem dX4_wrongedByAll_33 : decode cX4_wrongedByAll 33 = .ok (.goto (-29), 3) := by decide +kernel
theorem dX4_wrongedByAll_36 : decode cX4_wrongedByAll 36 = .ok (.iload_n 2, 1) := by decide +kernel
theorem dX4_wrongedByAll_37 : decode cX4_wrongedByAll 37 = .ok (.ireturn, 1) := by decide +kernel
set_option maxRecDepth 20000 in
theorem ggX4_worthLeft_X4_wrongedByAll : GoodIn wsX4_worthLeft wsX4_wrongedByAll := goodIn_r _ [7, 8, 9, 10, 11, 12, 6, 13, 14, 15, 16, 17, 18, 19, 20, 21, 22, 23, 24, 25, 26, 27, 28, 29, 30, 31, 32, 33, 34, 35, 38, 39, 40, 41, 42, 43, 44, 45, 46, 47, 48, 49, 50, 51, 52, 53, 54] (by decide +kernel) (by decide +kernel)
set_option maxRecDepth 20000 in
theorem gX4_worthLeft_X4_wrongedByAll : GoodIn wsX4_worthLeft (wsV RX4 88 RX4 yX4_wrongedByAll wsX4_wrongedByAll) := goodIn_app (goodIn_of _ (by decide +kernel)) ggX4_worthLeft_X4_wrongedByAll
set_option maxRecDepth 20000 in
theorem ggX4_worthLeft_X11_hasBit : GoodIn wsX4_worthLeft wsX11_hasBit := goodIn_r _ [37] (by decide +kernel) (by decide +kernel)
set_option maxRecDepth 20000 in
theorem gX4_worthLeft_X11_hasBit_n77 : GoodIn wsX4_worthLeft (wsX11_hasBit) := ggX4_worthLeft_X11_hasBit
set_option maxRecDepth 20000 in
theorem ggX4_worthLeft_X4_ownerOf : GoodIn wsX4_worthLeft wsX4_ownerOf := goodIn_r _ [19, 20, 21, 22, 6, 23, 24, 25, 26, 27, 28, 29, 30, 31, 38, 39, 40, 41, 42, 43, 44, 45, 46, 47, 48, 49, 50, 51, 52, 53, 54] (by decide +kernel) (by decide +kernel)
set_option maxRecDepth 20000 in
theorem gX4_worthLeft_X4_ownerOf : GoodIn wsX4_worthLeft (wsV RX4 74 RX4 yX4_ownerOf wsX4_ownerOf) := goodIn_app (goodIn_of _ (by decide +kernel)) ggX4_worthLeft_X4_ownerOf
theorem dX4_worthLeft_0 : decode cX4_worthLeft 0 = .ok (.iconst 0, 1) := by decide +kernel
theorem dX4_worthLeft_1 : decode cX4_worthLeft 1 = .ok (.istore 4, 2) := by decide +kernel
theorem dX4_worthLeft_3 : decode cX4_worthLeft 3 = .ok (.iconst 0, 1) := by decide +kernel
theorem dX4_worthLeft_4 : decode cX4_worthLeft 4 = .ok (.istore 5, 2) := by decide +kernel
theorem dX4_worthLeft_6 : decode cX4_worthLeft 6 = .ok (.iload 5, 2) := by decide +kernel
theorem dX4_worthLeft_8 : decode cX4_worthLeft 8 = .ok (.aload_n 0, 1) := by decide +kernel
theorem dX4_worthLeft_9 : decode cX4_worthLeft 9 = .ok (.getfield 52, 3) := by decide +kernel
theorem dX4_worthLeft_12 : decode cX4_worthLeft 12 = .ok (.if_icmp .ge 72, 3) := by decide +kernel
theorem dX4_worthLeft_15 : decode cX4_worthLeft 15 = .ok (.aload_n 0, 1) := by decide +kernel
theorem dX4_worthLeft_16 : decode cX4_worthLeft 16 = .ok (.iload 5, 2) := by decide +kernel
theorem dX4_worthLeft_18 : decode cX4_worthLeft 18 = .ok (.invokevirtual 88, 3) := by decide +kernel
theorem dX4_worthLeft_21 : decode cX4_worthLeft 21 = .ok (.istore 6, 2) := by decide +kernel
theorem dX4_worthLeft_23 : decode cX4_worthLeft 23 = .ok (.iload_n 3, 1) := by decide +kernel
theorem dX4_worthLeft_24 : decode cX4_worthLeft 24 = .ok (.ifCond .eq 19, 3) := by decide +kernel
theorem dX4_worthLeft_27 : decode cX4_worthLeft 27 = .ok (.iload 6, 2) := by decide +kernel
theorem dX4_worthLeft_29 : decode cX4_worthLeft 29 = .ok (.iconst 1, 1) := by decide +kernel
theorem dX4_worthLeft_30 : decode cX4_worthLeft 30 = .ok (.iload_n 1, 1) := by decide +kernel
theorem dX4_worthLeft_31 : decode cX4_worthLeft 31 = .ok (.ishl, 1) := by decide +kernel
theorem dX4_worthLeft_32 : decode cX4_worthLeft 32 = .ok (.if_icmp .ne 7, 3) := by decide +kernel
theorem dX4_worthLeft_35 : decode cX4_worthLeft 35 = .ok (.iconst 1, 1) := by decide +kernel
theorem dX4_worthLeft_36 : decode cX4_worthLeft 36 = .ok (.goto 13, 3) := by decide +kernel
theorem dX4_worthLeft_39 : decode cX4_worthLeft 39 = .ok (.iconst 0, 1) := by decide +kernel
theorem dX4_worthLeft_40 : decode cX4_worthLeft 40 = .ok (.goto 9, 3) := by decide +kernel
theorem dX4_worthLeft_43 : decode cX4_worthLeft 43 = .ok (.iload 6, 2) := by decide +kernel
theorem dX4_worthLeft_45 : decode cX4_worthLeft 45 = .ok (.iload_n 1, 1) := by decide +kernel
theorem dX4_worthLeft_46 : decode cX4_worthLeft 46 = .ok (.invokestatic 77, 3) := by decide +kernel
theorem dX4_worthLeft_49 : decode cX4_worthLeft 49 = .ok (.istore 7, 2) := by decide +kernel
theorem dX4_worthLeft_51 : decode cX4_worthLeft 51 = .ok (.iload 7, 2) := by decide +kernel
theorem dX4_worthLeft_53 : decode cX4_worthLeft 53 = .ok (.ifCond .eq 25, 3) := by decide +kernel
theorem dX4_worthLeft_56 : decode cX4_worthLeft 56 = .ok (.aload_n 0, 1) := by decide +kernel
theorem dX4_worthLeft_57 : decode cX4_worthLeft 57 = .ok (.iload 5, 2) := by decide +kernel
theorem dX4_worthLeft_59 : decode cX4_worthLeft 59 = .ok (.iload_n 2, 1) := by decide +kernel
theorem dX4_worthLeft_60 : decode cX4_worthLeft 60 = .ok (.invokevirtual 74, 3) := by decide +kernel
theorem dX4_worthLeft_63 : decode cX4_worthLeft 63 = .ok (.ifCond .ge 15, 3) := by decide +kernel
theorem dX4_worthLeft_66 : decode cX4_worthLeft 66 = .ok (.iload 4, 2) := by decide +kernel
theorem dX4_worthLeft_68 : decode cX4_worthLeft 68 = .ok (.aload_n 0, 1) := by decide +kernel
theorem dX4_worthLeft_69 : decode cX4_worthLeft 69 = .ok (.getfield 9, 3) := by decide +kernel
theorem dX4_worthLeft_72 : decode cX4_worthLeft 72 = .ok (.iload 5, 2) := by decide +kernel
theorem dX4_worthLeft_74 : decode cX4_worthLeft 74 = .ok (.iaload, 1) := by decide +kernel
theorem dX4_worthLeft_75 : decode cX4_worthLeft 75 = .ok (.iadd, 1) := by decide +kernel
theorem dX4_worthLeft_76 : decode cX4_worthLeft 76 = .ok (.istore 4, 2) := by decide +kernel
theorem dX4_worthLeft_78 : decode cX4_worthLeft 78 = .ok (.iinc 5 1, 3) := by decide +kernel
theorem dX4_worthLeft_81 : decode cX4_worthLeft 81 = .ok (.goto (-75), 3) := by decide +kernel
theorem dX4_worthLeft_84 : decode cX4_worthLeft 84 = .ok (.iload 4, 2) := by decide +kernel
theorem dX4_worthLeft_86 : decode cX4_worthLeft 86 = .ok (.ireturn, 1) := by decide +kernel
theorem dX5_init_0 : decode cX5_init 0 = .ok (.aload_n 0, 1) := by decide +kernel
theorem dX5_init_1 : decode cX5_init 1 = .ok (.invokespecial 3, 3) := by decide +kernel
theorem dX5_init_4 : decode cX5_init 4 = .ok (.aload_n 0, 1) := by decide +kernel
theorem dX5_init_5 : decode cX5_init 5 = .ok (.sipush 512, 3) := by decide +kernel
theorem dX5_init_8 : decode cX5_init 8 = .ok (.newarray .int, 2) := by decide +kernel
theorem dX5_init_10 : decode cX5_init 10 = .ok (.putfield 9, 3) := by decide +kernel
theorem dX5_init_13 : decode cX5_init 13 = .ok (.aload_n 0, 1) := by decide +kernel
theorem dX5_init_14 : decode cX5_init 14 = .ok (.aload_n 1, 1) := by decide +kernel
theorem dX5_init_15 : decode cX5_init 15 = .ok (.putfield 15, 3) := by decide +kernel
theorem dX5_init_18 : decode cX5_init 18 = .ok (.return_, 1) := by decide +kernel
set_option maxRecDepth 20000 in
theorem ggX5_arrange_X0_everyOne : GoodIn wsX5_arrange wsX0_everyOne := goodIn_r _ [8, 9, 83, 84, 85, 86, 87, 88, 89] (by decide +kernel) (by decide +kernel)
set_option maxRecDepth 20000 in
theorem gX5_arrange_X0_everyOne : GoodIn wsX5_arrange (wsV RX5 19 RX0 yX0_everyOne wsX0_everyOne) := goodIn_app (goodIn_of _ (by decide +kernel)) ggX5_arrange_X0_everyOne
set_option maxRecDepth 20000 in
theorem ggX5_arrange_X5_cheapestRest : GoodIn wsX5_arrange wsX5_cheapestRest := goodIn_r _ [15, 2, 16, 1, 17, 18, 19, 20, 21, 22, 23, 24, 25, 14, 26, 27, 28, 29, 30, 31, 32, 33, 34, 35, 36, 37, 38, 39, 40, 41, 42, 43, 44, 45, 46, 47, 48, 49, 50, 51, 3, 52, 53, 54, 55, 56, 57, 58, 59, 60, 61, 62, 63, 64, 65, 66, 67, 68, 69, 70, 71, 72, 74, 75, 76, 77, 78, 79, 80, 81, 82, 83, 84, 85, 86, 87, 88, 89, 90, 91, 92, 93, 94, 95, 96, 97, 98, 99, 100, 101] (by decide +kernel) (by decide +kernel)
set_option maxRecDepth 20000 in
theorem gX5_arrange_X5_cheapestRest_u29X2 : GoodIn wsX5_arrange (va_wsU RX5 29 RX2 "TwoTongues$Order" ⟨"TwoTongues$Order", "cheapestRest", "(I)I"⟩ yX5_cheapestRest wsX5_cheapestRest) := goodIn_app (goodIn_of _ (by decide +kernel)) ggX5_arrange_X5_cheapestRest
set_option maxRecDepth 20000 in
theorem gX5_arrange_X5_cheapestRest_u29X6 : GoodIn wsX5_arrange (va_wsU RX5 29 RX6 "TwoTongues$Order" ⟨"TwoTongues$Order", "cheapestRest", "(I)I"⟩ yX5_cheapestRest wsX5_cheapestRest) := goodIn_app (goodIn_of _ (by decide +kernel)) ggX5_arrange_X5_cheapestRest
theorem dX5_arrange_0 : decode cX5_arrange 0 = .ok (.aload_n 0, 1) := by decide +kernel
theorem dX5_arrange_1 : decode cX5_arrange 1 = .ok (.iload_n 1, 1) := by decide +kernel
theorem dX5_arrange_2 : decode cX5_arrange 2 = .ok (.aload_n 0, 1) := by decide +kernel
theorem dX5_arrange_3 : decode cX5_arrange 3 = .ok (.getfield 15, 3) := by decide +kernel
theorem dX5_arrange_6 : decode cX5_arrange 6 = .ok (.invokevirtual 19, 3) := by decide +kernel
theorem dX5_arrange_9 : decode cX5_arrange 9 = .ok (.iand, 1) := by decide +kernel
theorem dX5_arrange_10 : decode cX5_arrange 10 = .ok (.putfield 25, 3) := by decide +kernel
theorem dX5_arrange_13 : decode cX5_arrange 13 = .ok (.aload_n 0, 1) := by decide +kernel
theorem dX5_arrange_14 : decode cX5_arrange 14 = .ok (.getfield 25, 3) := by decide +kernel
theorem dX5_arrange_17 : decode cX5_arrange 17 = .ok (.istore_n 2, 1) := by decide +kernel
theorem dX5_arrange_18 : decode cX5_arrange 18 = .ok (.iload_n 2, 1) := by decide +kernel
theorem dX5_arrange_19 : decode cX5_arrange 19 = .ok (.ifCond .lt 31, 3) := by decide +kernel
theorem dX5_arrange_22 : decode cX5_arrange 22 = .ok (.iload_n 2, 1) := by decide +kernel
theorem dX5_arrange_23 : decode cX5_arrange 23 = .ok (.aload_n 0, 1) := by decide +kernel
theorem dX5_arrange_24 : decode cX5_arrange 24 = .ok (.getfield 25, 3) := by decide +kernel
theorem dX5_arrange_27 : decode cX5_arrange 27 = .ok (.iconst (-1), 1) := by decide +kernel
theorem dX5_arrange_28 : decode cX5_arrange 28 = .ok (.ixor, 1) := by decide +kernel
theorem dX5_arrange_29 : decode cX5_arrange 29 = .ok (.iand, 1) := by decide +kernel
theorem dX5_arrange_30 : decode cX5_arrange 30 = .ok (.ifCond .ne 14, 3) := by decide +kernel
theorem dX5_arrange_33 : decode cX5_arrange 33 = .ok (.aload_n 0, 1) := by decide +kernel
theorem dX5_arrange_34 : decode cX5_arrange 34 = .ok (.getfield 9, 3) := by decide +kernel
theorem dX5_arrange_37 : decode cX5_arrange 37 = .ok (.iload_n 2, 1) := by decide +kernel
theorem dX5_arrange_38 : decode cX5_arrange 38 = .ok (.aload_n 0, 1) := by decide +kernel
theorem dX5_arrange_39 : decode cX5_arrange 39 = .ok (.iload_n 2, 1) := by decide +kernel
theorem dX5_arrange_40 : decode cX5_arrange 40 = .ok (.invokevirtual 29, 3) := by decide +kernel
theorem dX5_arrange_43 : decode cX5_arrange 43 = .ok (.iastore, 1) := by decide +kernel
theorem dX5_arrange_44 : decode cX5_arrange 44 = .ok (.iinc 2 (-1), 3) := by decide +kernel
theorem dX5_arrange_47 : decode cX5_arrange 47 = .ok (.goto (-29), 3) := by decide +kernel
theorem dX5_arrange_50 : decode cX5_arrange 50 = .ok (.aload_n 0, 1) := by decide +kernel
theorem dX5_arrange_51 : decode cX5_arrange 51 = .ok (.getfield 9, 3) := by decide +kernel
theorem dX5_arrange_54 : decode cX5_arrange 54 = .ok (.iconst 0, 1) := by decide +kernel
theorem dX5_arrange_55 : decode cX5_arrange 55 = .ok (.iaload, 1) := by decide +kernel
theorem dX5_arrange_56 : decode cX5_arrange 56 = .ok (.ireturn, 1) := by decide +kernel
set_option maxRecDepth 20000 in
theorem ggX5_claimAt_X5_nextOf : GoodIn wsX5_claimAt wsX5_nextOf := goodIn_r _ [8, 1, 2, 9, 10, 11, 12, 13, 14, 7, 15, 16, 17, 18, 19, 20, 21, 22, 23, 24, 25, 26, 27, 28, 29, 30, 31, 32, 33, 34, 35, 36, 37, 38, 39, 40, 41, 42, 43, 44, 45, 46, 47, 48, 49, 50, 51, 52, 53, 54, 55, 56, 57, 58, 59, 60, 61, 63, 64, 65, 66, 67, 68, 69, 70, 71, 72, 73, 74, 75, 76, 77, 78, 79, 80, 81, 82, 83, 84, 85, 86, 87, 88, 89, 90] (by decide +kernel) (by decide +kernel)
set_option maxRecDepth 20000 in
theorem gX5_claimAt_X5_nextOf_u36X2 : GoodIn wsX5_claimAt (va_wsU RX5 36 RX2 "TwoTongues$Order" ⟨"TwoTongues$Order", "nextOf", "(I)I"⟩ yX5_nextOf wsX5_nextOf) := goodIn_app (goodIn_of _ (by decide +kernel)) ggX5_claimAt_X5_nextOf
set_option maxRecDepth 20000 in
theorem gX5_claimAt_X5_nextOf_u36X6 : GoodIn wsX5_claimAt (va_wsU RX5 36 RX6 "TwoTongues$Order" ⟨"TwoTongues$Order", "nextOf", "(I)I"⟩ yX5_nextOf wsX5_nextOf) := goodIn_app (goodIn_of _ (by decide +kernel)) ggX5_claimAt_X5_nextOf
theorem dX5_claimAt_0 : decode cX5_claimAt 0 = .ok (.iconst 0, 1) := by decide +kernel
theorem dX5_claimAt_1 : decode cX5_claimAt 1 = .ok (.istore_n 2, 1) := by decide +kernel
theorem dX5_claimAt_2 : decode cX5_claimAt 2 = .ok (.iconst 0, 1) := by decide +kernel
theorem dX5_claimAt_3 : decode cX5_claimAt 3 = .ok (.istore_n 3, 1) := by decide +kernel
theorem dX5_claimAt_4 : decode cX5_claimAt 4 = .ok (.iload_n 3, 1) := by decide +kernel
theorem dX5_claimAt_5 : decode cX5_claimAt 5 = .ok (.aload_n 0, 1) := by decide +kernel
theorem dX5_claimAt_6 : decode cX5_claimAt 6 = .ok (.getfield 15, 3) := by decide +kernel
theorem dX5_claimAt_9 : decode cX5_claimAt 9 = .ok (.getfield 33, 3) := by decide +kernel
theorem dX5_claimAt_12 : decode cX5_claimAt 12 = .ok (.if_icmp .ge 36, 3) := by decide +kernel
theorem dX5_claimAt_15 : decode cX5_claimAt 15 = .ok (.aload_n 0, 1) := by decide +kernel
theorem dX5_claimAt_16 : decode cX5_claimAt 16 = .ok (.iload_n 2, 1) := by decide +kernel
theorem dX5_claimAt_17 : decode cX5_claimAt 17 = .ok (.invokevirtual 36, 3) := by decide +kernel
theorem dX5_claimAt_20 : decode cX5_claimAt 20 = .ok (.istore 4, 2) := by decide +kernel
theorem dX5_claimAt_22 : decode cX5_claimAt 22 = .ok (.iload 4, 2) := by decide +kernel
theorem dX5_claimAt_24 : decode cX5_claimAt 24 = .ok (.ifCond .lt 8, 3) := by decide +kernel
theorem dX5_claimAt_27 : decode cX5_claimAt 27 = .ok (.iload_n 3, 1) := by decide +kernel
theorem dX5_claimAt_28 : decode cX5_claimAt 28 = .ok (.iload_n 1, 1) := by decide +kernel
theorem dX5_claimAt_29 : decode cX5_claimAt 29 = .ok (.if_icmp .ne 6, 3) := by decide +kernel
theorem dX5_claimAt_32 : decode cX5_claimAt 32 = .ok (.iload 4, 2) := by decide +kernel
theorem dX5_claimAt_34 : decode cX5_claimAt 34 = .ok (.ireturn, 1) := by decide +kernel
theorem dX5_claimAt_35 : decode cX5_claimAt 35 = .ok (.iload_n 2, 1) := by decide +kernel
theorem dX5_claimAt_36 : decode cX5_claimAt 36 = .ok (.iconst 1, 1) := by decide +kernel
theorem dX5_claimAt_37 : decode cX5_claimAt 37 = .ok (.iload 4, 2) := by decide +kernel
theorem dX5_claimAt_39 : decode cX5_claimAt 39 = .ok (.ishl, 1) := by decide +kernel
theorem dX5_claimAt_40 : decode cX5_claimAt 40 = .ok (.ior, 1) := by decide +kernel
theorem dX5_claimAt_41 : decode cX5_claimAt 41 = .ok (.istore_n 2, 1) := by decide +kernel
theorem dX5_claimAt_42 : decode cX5_claimAt 42 = .ok (.iinc 3 1, 3) := by decide +kernel
theorem dX5_claimAt_45 : decode cX5_claimAt 45 = .ok (.goto (-41), 3) := by decide +kernel
theorem dX5_claimAt_48 : decode cX5_claimAt 48 = .ok (.bipush (-4), 2) := by decide +kernel
theorem dX5_claimAt_50 : decode cX5_claimAt 50 = .ok (.ireturn, 1) := by decide +kernel
set_option maxRecDepth 20000 in
theorem ggX5_cheapestRest_X5_lengthOfAll : GoodIn wsX5_cheapestRest wsX5_lengthOfAll := goodIn_r _ [14, 3, 4, 15, 16, 17, 18, 19, 20, 21, 22, 23, 24, 25, 26, 27, 28, 29, 30, 31, 32, 33, 62, 63, 64, 65, 66, 67, 68, 69, 70, 71, 72, 73, 74, 75, 76, 77] (by decide +kernel) (by decide +kernel)
set_option maxRecDepth 20000 in
theorem gX5_cheapestRest_X5_lengthOfAll_u40X2 : GoodIn wsX5_cheapestRest (va_wsU RX5 40 RX2 "TwoTongues$Order" ⟨"TwoTongues$Order", "lengthOfAll", "(I)I"⟩ yX5_lengthOfAll wsX5_lengthOfAll) := goodIn_app (goodIn_of _ (by decide +kernel)) ggX5_cheapestRest_X5_lengthOfAll
set_option maxRecDepth 20000 in
theorem gX5_cheapestRest_X5_lengthOfAll_u40X6 : GoodIn wsX5_cheapestRest (va_wsU RX5 40 RX6 "TwoTongues$Order" ⟨"TwoTongues$Order", "lengthOfAll", "(I)I"⟩ yX5_lengthOfAll wsX5_lengthOfAll) := goodIn_app (goodIn_of _ (by decide +kernel)) ggX5_cheapestRest_X5_lengthOfAll
set_option maxRecDepth 20000 in
theorem ggX5_cheapestRest_X11_hasBit : GoodIn wsX5_cheapestRest wsX11_hasBit := goodIn_r _ [17] (by decide +kernel) (by decide +kernel)
set_option maxRecDepth 20000 in
theorem gX5_cheapestRest_X11_hasBit_n43 : GoodIn wsX5_cheapestRest (wsX11_hasBit) := ggX5_cheapestRest_X11_hasBit
set_option maxRecDepth 20000 in
theorem ggX5_cheapestRest_X5_restWith : GoodIn wsX5_cheapestRest wsX5_restWith := goodIn_r _ [39, 40, 18, 19, 20, 21, 22, 23, 24, 25, 26, 27, 28, 29, 30, 31, 32, 33, 41, 42, 43, 44, 45, 46, 47, 48, 49, 50, 51, 52, 53, 54, 55, 56, 57, 58, 59, 60, 62, 63, 64, 65, 66, 67, 68, 69, 70, 71, 72, 73, 74, 75, 76, 77, 78, 79, 80, 81, 82, 83, 84, 85, 86, 87, 88, 89] (by decide +kernel) (by decide +kernel)
set_option maxRecDepth 20000 in
theorem gX5_cheapestRest_X5_restWith_u47X2 : GoodIn wsX5_cheapestRest (va_wsU RX5 47 RX2 "TwoTongues$Order" ⟨"TwoTongues$Order", "restWith", "(III)I"⟩ yX5_restWith wsX5_restWith) := goodIn_app (goodIn_of _ (by decide +kernel)) ggX5_cheapestRest_X5_restWith
set_option maxRecDepth 20000 in
theorem gX5_cheapestRest_X5_restWith_u47X6 : GoodIn wsX5_cheapestRest (va_wsU RX5 47 RX6 "TwoTongues$Order" ⟨"TwoTongues$Order", "restWith", "(III)I"⟩ yX5_restWith wsX5_restWith) := goodIn_app (goodIn_of _ (by decide +kernel)) ggX5_cheapestRest_X5_restWith
theorem dX5_cheapestRest_0 : decode cX5_cheapestRest 0 = .ok (.iload_n 1, 1) := by decide +kernel
theorem dX5_cheapestRest_1 : decode cX5_cheapestRest 1 = .ok (.aload_n 0, 1) := by decide +kernel
theorem dX5_cheapestRest_2 : decode cX5_cheapestRest 2 = .ok (.getfield 25, 3) := by decide +kernel
theorem dX5_cheapestRest_5 : decode cX5_cheapestRest 5 = .ok (.if_icmp .ne 7, 3) := by decide +kernel
theorem dX5_cheapestRest_8 : decode cX5_cheapestRest 8 = .ok (.iconst 0, 1) := by decide +kernel
theorem dX5_cheapestRest_9 : decode cX5_cheapestRest 9 = .ok (.goto 5, 3) := by decide +kernel
theorem dX5_cheapestRest_12 : decode cX5_cheapestRest 12 = .ok (.ldc 39, 2) := by decide +kernel
theorem dX5_cheapestRest_14 : decode cX5_cheapestRest 14 = .ok (.istore_n 2, 1) := by decide +kernel
theorem dX5_cheapestRest_15 : decode cX5_cheapestRest 15 = .ok (.aload_n 0, 1) := by decide +kernel
theorem dX5_cheapestRest_16 : decode cX5_cheapestRest 16 = .ok (.iload_n 1, 1) := by decide +kernel
theorem dX5_cheapestRest_17 : decode cX5_cheapestRest 17 = .ok (.invokevirtual 40, 3) := by decide +kernel
theorem dX5_cheapestRest_20 : decode cX5_cheapestRest 20 = .ok (.istore_n 3, 1) := by decide +kernel
theorem dX5_cheapestRest_21 : decode cX5_cheapestRest 21 = .ok (.iconst 0, 1) := by decide +kernel
theorem dX5_cheapestRest_22 : decode cX5_cheapestRest 22 = .ok (.istore 4, 2) := by decide +kernel
theorem dX5_cheapestRest_24 : decode cX5_cheapestRest 24 = .ok (.iload 4, 2) := by decide +kernel
theorem dX5_cheapestRest_26 : decode cX5_cheapestRest 26 = .ok (.aload_n 0, 1) := by decide +kernel
theorem dX5_cheapestRest_27 : decode cX5_cheapestRest 27 = .ok (.getfield 15, 3) := by decide +kernel
theorem dX5_cheapestRest_30 : decode cX5_cheapestRest 30 = .ok (.getfield 33, 3) := by decide +kernel
theorem dX5_cheapestRest_33 : decode cX5_cheapestRest 33 = .ok (.if_icmp .ge 38, 3) := by decide +kernel
theorem dX5_cheapestRest_36 : decode cX5_cheapestRest 36 = .ok (.aload_n 0, 1) := by decide +kernel
theorem dX5_cheapestRest_37 : decode cX5_cheapestRest 37 = .ok (.getfield 25, 3) := by decide +kernel
theorem dX5_cheapestRest_40 : decode cX5_cheapestRest 40 = .ok (.iload_n 1, 1) := by decide +kernel
theorem dX5_cheapestRest_41 : decode cX5_cheapestRest 41 = .ok (.iconst (-1), 1) := by decide +kernel
theorem dX5_cheapestRest_42 : decode cX5_cheapestRest 42 = .ok (.ixor, 1) := by decide +kernel
theorem dX5_cheapestRest_43 : decode cX5_cheapestRest 43 = .ok (.iand, 1) := by decide +kernel
theorem dX5_cheapestRest_44 : decode cX5_cheapestRest 44 = .ok (.iload 4, 2) := by decide +kernel
theorem dX5_cheapestRest_46 : decode cX5_cheapestRest 46 = .ok (.invokestatic 43, 3) := by decide +kernel
theorem dX5_cheapestRest_49 : decode cX5_cheapestRest 49 = .ok (.ifCond .eq 16, 3) := by decide +kernel
theorem dX5_cheapestRest_52 : decode cX5_cheapestRest 52 = .ok (.iload_n 2, 1) := by decide +kernel
theorem dX5_cheapestRest_53 : decode cX5_cheapestRest 53 = .ok (.aload_n 0, 1) := by decide +kernel
theorem dX5_cheapestRest_54 : decode cX5_cheapestRest 54 = .ok (.iload 4, 2) := by decide +kernel
theorem dX5_cheapestRest_56 : decode cX5_cheapestRest 56 = .ok (.iload_n 1, 1) := by decide +kernel
theorem dX5_cheapestRest_57 : decode cX5_cheapestRest 57 = .ok (.iload_n 3, 1) := by decide +kernel
theorem dX5_cheapestRest_58 : decode cX5_cheapestRest 58 = .ok (.invokevirtual 47, 3) := by decide +kernel
theorem dX5_cheapestRest_61 : decode cX5_cheapestRest 61 = .ok (.invokestatic 51, 3) := by decide +kernel
theorem dX5_cheapestRest_64 : decode cX5_cheapestRest 64 = .ok (.istore_n 2, 1) := by decide +kernel
theorem dX5_cheapestRest_65 : decode cX5_cheapestRest 65 = .ok (.iinc 4 1, 3) := by decide +kernel
theorem dX5_cheapestRest_68 : decode cX5_cheapestRest 68 = .ok (.goto (-44), 3) := by decide +kernel
theorem dX5_cheapestRest_71 : decode cX5_cheapestRest 71 = .ok (.iload_n 2, 1) := by decide +kernel
theorem dX5_cheapestRest_72 : decode cX5_cheapestRest 72 = .ok (.ireturn, 1) := by decide +kernel
set_option maxRecDepth 20000 in
theorem ggX5_nextOf_X5_lengthOfAll : GoodIn wsX5_nextOf wsX5_lengthOfAll := goodIn_r _ [10, 1, 2, 11, 12, 13, 14, 15, 16, 17, 18, 19, 20, 21, 22, 23, 24, 25, 26, 27, 28, 29, 57, 58, 59, 60, 61, 62, 63, 64, 65, 66, 67, 68, 69, 70, 71, 72] (by decide +kernel) (by decide +kernel)
set_option maxRecDepth 20000 in
theorem gX5_nextOf_X5_lengthOfAll_u40X2 : GoodIn wsX5_nextOf (va_wsU RX5 40 RX2 "TwoTongues$Order" ⟨"TwoTongues$Order", "lengthOfAll", "(I)I"⟩ yX5_lengthOfAll wsX5_lengthOfAll) := goodIn_app (goodIn_of _ (by decide +kernel)) ggX5_nextOf_X5_lengthOfAll
set_option maxRecDepth 20000 in
theorem gX5_nextOf_X5_lengthOfAll_u40X6 : GoodIn wsX5_nextOf (va_wsU RX5 40 RX6 "TwoTongues$Order" ⟨"TwoTongues$Order", "lengthOfAll", "(I)I"⟩ yX5_lengthOfAll wsX5_lengthOfAll) := goodIn_app (goodIn_of _ (by decide +kernel)) ggX5_nextOf_X5_lengthOfAll
set_option maxRecDepth 20000 in
theorem ggX5_nextOf_X11_hasBit : GoodIn wsX5_nextOf wsX11_hasBit := goodIn_r _ [13] (by decide +kernel) (by decide +kernel)
set_option maxRecDepth 20000 in
theorem gX5_nextOf_X11_hasBit_n43 : GoodIn wsX5_nextOf (wsX11_hasBit) := ggX5_nextOf_X11_hasBit
set_option maxRecDepth 20000 in
theorem ggX5_nextOf_X5_restWith : GoodIn wsX5_nextOf wsX5_restWith := goodIn_r _ [35, 4, 14, 15, 16, 17, 18, 19, 20, 21, 22, 23, 24, 25, 26, 27, 28, 29, 36, 37, 38, 39, 40, 41, 42, 43, 44, 45, 46, 47, 48, 49, 50, 51, 52, 53, 54, 55, 57, 58, 59, 60, 61, 62, 63, 64, 65, 66, 67, 68, 69, 70, 71, 72, 73, 74, 75, 76, 77, 78, 79, 80, 81, 82, 83, 84] (by decide +kernel) (by decide +kernel)
set_option maxRecDepth 20000 in
theorem gX5_nextOf_X5_restWith_u47X2 : GoodIn wsX5_nextOf (va_wsU RX5 47 RX2 "TwoTongues$Order" ⟨"TwoTongues$Order", "restWith", "(III)I"⟩ yX5_restWith wsX5_restWith) := goodIn_app (goodIn_of _ (by decide +kernel)) ggX5_nextOf_X5_restWith
set_option maxRecDepth 20000 in
theorem gX5_nextOf_X5_restWith_u47X6 : GoodIn wsX5_nextOf (va_wsU RX5 47 RX6 "TwoTongues$Order" ⟨"TwoTongues$Order", "restWith", "(III)I"⟩ yX5_restWith wsX5_restWith) := goodIn_app (goodIn_of _ (by decide +kernel)) ggX5_nextOf_X5_restWith
theorem dX5_nextOf_0 : decode cX5_nextOf 0 = .ok (.aload_n 0, 1) := by decide +kernel
theorem dX5_nextOf_1 : decode cX5_nextOf 1 = .ok (.iload_n 1, 1) := by decide +kernel
theorem dX5_nextOf_2 : decode cX5_nextOf 2 = .ok (.invokevirtual 40, 3) := by decide +kernel
theorem dX5_nextOf_5 : decode cX5_nextOf 5 = .ok (.istore_n 2, 1) := by decide +kernel
theorem dX5_nextOf_6 : decode cX5_nextOf 6 = .ok (.iconst 0, 1) := by decide +kernel
theorem dX5_nextOf_7 : decode cX5_nextOf 7 = .ok (.istore_n 3, 1) := by decide +kernel
theorem dX5_nextOf_8 : decode cX5_nextOf 8 = .ok (.iload_n 3, 1) := by decide +kernel
theorem dX5_nextOf_9 : decode cX5_nextOf 9 = .ok (.aload_n 0, 1) := by decide +kernel
theorem dX5_nextOf_10 : decode cX5_nextOf 10 = .ok (.getfield 15, 3) := by decide +kernel
theorem dX5_nextOf_13 : decode cX5_nextOf 13 = .ok (.getfield 33, 3) := by decide +kernel
theorem dX5_nextOf_16 : decode cX5_nextOf 16 = .ok (.if_icmp .ge 42, 3) := by decide +kernel
theorem dX5_nextOf_19 : decode cX5_nextOf 19 = .ok (.aload_n 0, 1) := by decide +kernel
theorem dX5_nextOf_20 : decode cX5_nextOf 20 = .ok (.getfield 25, 3) := by decide +kernel
theorem dX5_nextOf_23 : decode cX5_nextOf 23 = .ok (.iload_n 1, 1) := by decide +kernel
theorem dX5_nextOf_24 : decode cX5_nextOf 24 = .ok (.iconst (-1), 1) := by decide +kernel
theorem dX5_nextOf_25 : decode cX5_nextOf 25 = .ok (.ixor, 1) := by decide +kernel
theorem dX5_nextOf_26 : decode cX5_nextOf 26 = .ok (.iand, 1) := by decide +kernel
theorem dX5_nextOf_27 : decode cX5_nextOf 27 = .ok (.iload_n 3, 1) := by decide +kernel
theorem dX5_nextOf_28 : decode cX5_nextOf 28 = .ok (.invokestatic 43, 3) := by decide +kernel
theorem dX5_nextOf_31 : decode cX5_nextOf 31 = .ok (.ifCond .eq 21, 3) := by decide +kernel
theorem dX5_nextOf_34 : decode cX5_nextOf 34 = .ok (.aload_n 0, 1) := by decide +kernel
theorem dX5_nextOf_35 : decode cX5_nextOf 35 = .ok (.iload_n 3, 1) := by decide +kernel
theorem dX5_nextOf_36 : decode cX5_nextOf 36 = .ok (.iload_n 1, 1) := by decide +kernel
theorem dX5_nextOf_37 : decode cX5_nextOf 37 = .ok (.iload_n 2, 1) := by decide +kernel
theorem dX5_nextOf_38 : decode cX5_nextOf 38 = .ok (.invokevirtual 47, 3) := by decide +kernel
theorem dX5_nextOf_41 : decode cX5_nextOf 41 = .ok (.aload_n 0, 1) := by decide +kernel
theorem dX5_nextOf_42 : decode cX5_nextOf 42 = .ok (.getfield 9, 3) := by decide +kernel
theorem dX5_nextOf_45 : decode cX5_nextOf 45 = .ok (.iload_n 1, 1) := by decide +kernel
theorem dX5_nextOf_46 : decode cX5_nextOf 46 = .ok (.iaload, 1) := by decide +kernel
theorem dX5_nextOf_47 : decode cX5_nextOf 47 = .ok (.if_icmp .ne 5, 3) := by decide +kernel
theorem dX5_nextOf_50 : decode cX5_nextOf 50 = .ok (.iload_n 3, 1) := by decide +kernel
theorem dX5_nextOf_51 : decode cX5_nextOf 51 = .ok (.ireturn, 1) := by decide +kernel
theorem dX5_nextOf_52 : decode cX5_nextOf 52 = .ok (.iinc 3 1, 3) := by decide +kernel
theorem dX5_nextOf_55 : decode cX5_nextOf 55 = .ok (.goto (-47), 3) := by decide +kernel
theorem dX5_nextOf_58 : decode cX5_nextOf 58 = .ok (.bipush (-4), 2) := by decide +kernel
theorem dX5_nextOf_60 : decode cX5_nextOf 60 = .ok (.ireturn, 1) := by decide +kernel
set_option maxRecDepth 20000 in
theorem ggX5_restWith_X2_lengthOf : GoodIn wsX5_restWith wsX2_lengthOf := goodIn_r _ [7, 8, 9, 10, 38, 39, 40, 41, 42, 43, 44, 45, 46, 47, 48, 49, 50, 51, 52, 53] (by decide +kernel) (by decide +kernel)
set_option maxRecDepth 20000 in
theorem gX5_restWith_X2_lengthOf_u57X2 : GoodIn wsX5_restWith (va_wsU RX5 57 RX2 "TwoTongues$Order" ⟨"TwoTongues$Order", "lengthOf", "(I)I"⟩ yX2_lengthOf wsX2_lengthOf) := goodIn_app (goodIn_of _ (by decide +kernel)) ggX5_restWith_X2_lengthOf
set_option maxRecDepth 20000 in
theorem ggX5_restWith_X6_lengthOf : GoodIn wsX5_restWith wsX6_lengthOf := goodIn_r _ [14, 15, 16, 17, 38, 39, 40, 41, 42, 43, 44, 45, 46, 47, 48, 49, 50, 51, 52, 53] (by decide +kernel) (by decide +kernel)
set_option maxRecDepth 20000 in
theorem gX5_restWith_X6_lengthOf_u57X6 : GoodIn wsX5_restWith (va_wsU RX5 57 RX6 "TwoTongues$Order" ⟨"TwoTongues$Order", "lengthOf", "(I)I"⟩ yX6_lengthOf wsX6_lengthOf) := goodIn_app (goodIn_of _ (by decide +kernel)) ggX5_restWith_X6_lengthOf
set_option maxRecDepth 20000 in
theorem ggX5_restWith_X2_priceOf : GoodIn wsX5_restWith wsX2_priceOf := goodIn_r _ [22, 23, 8, 9, 24, 25, 26, 27, 28, 29, 30, 31, 32, 38, 39, 40, 41, 42, 43, 44, 45, 46, 47, 48, 49, 50, 51, 52, 53, 54, 55, 56, 57, 58, 59, 60, 61, 62, 63, 64, 65] (by decide +kernel) (by decide +kernel)
set_option maxRecDepth 20000 in
theorem gX5_restWith_X2_priceOf_u60X2 : GoodIn wsX5_restWith (va_wsU RX5 60 RX2 "TwoTongues$Order" ⟨"TwoTongues$Order", "priceOf", "(II)I"⟩ yX2_priceOf wsX2_priceOf) := goodIn_app (goodIn_of _ (by decide +kernel)) ggX5_restWith_X2_priceOf
set_option maxRecDepth 20000 in
theorem ggX5_restWith_X6_priceOf : GoodIn wsX5_restWith wsX6_priceOf := goodIn_r _ [35, 15, 16, 36, 37, 38, 39, 40, 41, 42, 43, 44, 45, 46, 47, 48, 49, 50, 51, 52, 53] (by decide +kernel) (by decide +kernel)
set_option maxRecDepth 20000 in
theorem gX5_restWith_X6_priceOf_u60X6 : GoodIn wsX5_restWith (va_wsU RX5 60 RX6 "TwoTongues$Order" ⟨"TwoTongues$Order", "priceOf", "(II)I"⟩ yX6_priceOf wsX6_priceOf) := goodIn_app (goodIn_of _ (by decide +kernel)) ggX5_restWith_X6_priceOf
theorem dX5_restWith_0 : decode cX5_restWith 0 = .ok (.aload_n 0, 1) := by decide +kernel
theorem dX5_restWith_1 : decode cX5_restWith 1 = .ok (.iload_n 1, 1) := by decide +kernel
theorem dX5_restWith_2 : decode cX5_restWith 2 = .ok (.iload_n 3, 1) := by decide +kernel
theorem dX5_restWith_3 : decode cX5_restWith 3 = .ok (.aload_n 0, 1) := by decide +kernel
theorem dX5_restWith_4 : decode cX5_restWith 4 = .ok (.iload_n 1, 1) := by decide +kernel
theorem dX5_restWith_5 : decode cX5_restWith 5 = .ok (.invokevirtual 57, 3) := by decide +kernel
theorem dX5_restWith_8 : decode cX5_restWith 8 = .ok (.iadd, 1) := by decide +kernel
theorem dX5_restWith_9 : decode cX5_restWith 9 = .ok (.invokevirtual 60, 3) := by decide +kernel
theorem dX5_restWith_12 : decode cX5_restWith 12 = .ok (.aload_n 0, 1) := by decide +kernel
theorem dX5_restWith_13 : decode cX5_restWith 13 = .ok (.getfield 9, 3) := by decide +kernel
theorem dX5_restWith_16 : decode cX5_restWith 16 = .ok (.iload_n 2, 1) := by decide +kernel
theorem dX5_restWith_17 : decode cX5_restWith 17 = .ok (.iconst 1, 1) := by decide +kernel
theorem dX5_restWith_18 : decode cX5_restWith 18 = .ok (.iload_n 1, 1) := by decide +kernel
theorem dX5_restWith_19 : decode cX5_restWith 19 = .ok (.ishl, 1) := by decide +kernel
theorem dX5_restWith_20 : decode cX5_restWith 20 = .ok (.ior, 1) := by decide +kernel
theorem dX5_restWith_21 : decode cX5_restWith 21 = .ok (.iaload, 1) := by decide +kernel
theorem dX5_restWith_22 : decode cX5_restWith 22 = .ok (.iadd, 1) := by decide +kernel
theorem dX5_restWith_23 : decode cX5_restWith 23 = .ok (.ireturn, 1) := by decide +kernel
set_option maxRecDepth 20000 in
theorem ggX5_lengthOfAll_X11_hasBit : GoodIn wsX5_lengthOfAll wsX11_hasBit := goodIn_r _ [5] (by decide +kernel) (by decide +kernel)
set_option maxRecDepth 20000 in
theorem gX5_lengthOfAll_X11_hasBit_n43 : GoodIn wsX5_lengthOfAll (wsX11_hasBit) := ggX5_lengthOfAll_X11_hasBit
set_option maxRecDepth 20000 in
theorem ggX5_lengthOfAll_X2_lengthOf : GoodIn wsX5_lengthOfAll wsX2_lengthOf := goodIn_r _ [11, 12, 13, 14, 22, 23, 24, 25, 26, 27, 28, 29, 30, 31, 32, 33, 34, 35, 36, 37] (by decide +kernel) (by decide +kernel)
set_option maxRecDepth 20000 in
theorem gX5_lengthOfAll_X2_lengthOf_u57X2 : GoodIn wsX5_lengthOfAll (va_wsU RX5 57 RX2 "TwoTongues$Order" ⟨"TwoTongues$Order", "lengthOf", "(I)I"⟩ yX2_lengthOf wsX2_lengthOf) := goodIn_app (goodIn_of _ (by decide +kernel)) ggX5_lengthOfAll_X2_lengthOf
set_option maxRecDepth 20000 in
theorem ggX5_lengthOfAll_X6_lengthOf : GoodIn wsX5_lengthOfAll wsX6_lengthOf := goodIn_r _ [18, 19, 20, 21, 22, 23, 24, 25, 26, 27, 28, 29, 30, 31, 32, 33, 34, 35, 36, 37] (by decide +kernel) (by decide +kernel)
set_option maxRecDepth 20000 in
theorem gX5_lengthOfAll_X6_lengthOf_u57X6 : GoodIn wsX5_lengthOfAll (va_wsU RX5 57 RX6 "TwoTongues$Order" ⟨"TwoTongues$Order", "lengthOf", "(I)I"⟩ yX6_lengthOf wsX6_lengthOf) := goodIn_app (goodIn_of _ (by decide +kernel)) ggX5_lengthOfAll_X6_lengthOf
theorem dX5_lengthOfAll_0 : decode cX5_lengthOfAll 0 = .ok (.iconst 0, 1) := by decide +kernel
theorem dX5_lengthOfAll_1 : decode cX5_lengthOfAll 1 = .ok (.istore_n 2, 1) := by decide +kernel
theorem dX5_lengthOfAll_2 : decode cX5_lengthOfAll 2 = .ok (.iconst 0, 1) := by decide +kernel
theorem dX5_lengthOfAll_3 : decode cX5_lengthOfAll 3 = .ok (.istore_n 3, 1) := by decide +kernel
theorem dX5_lengthOfAll_4 : decode cX5_lengthOfAll 4 = .ok (.iload_n 3, 1) := by decide +kernel
theorem dX5_lengthOfAll_5 : decode cX5_lengthOfAll 5 = .ok (.aload_n 0, 1) := by decide +kernel
theorem dX5_lengthOfAll_6 : decode cX5_lengthOfAll 6 = .ok (.getfield 15, 3) := by decide +kernel
theorem dX5_lengthOfAll_9 : decode cX5_lengthOfAll 9 = .ok (.getfield 33, 3) := by decide +kernel
theorem dX5_lengthOfAll_12 : decode cX5_lengthOfAll 12 = .ok (.if_icmp .ge 25, 3) := by decide +kernel
theorem dX5_lengthOfAll_15 : decode cX5_lengthOfAll 15 = .ok (.iload_n 1, 1) := by decide +kernel
theorem dX5_lengthOfAll_16 : decode cX5_lengthOfAll 16 = .ok (.iload_n 3, 1) := by decide +kernel
theorem dX5_lengthOfAll_17 : decode cX5_lengthOfAll 17 = .ok (.invokestatic 43, 3) := by decide +kernel
theorem dX5_lengthOfAll_20 : decode cX5_lengthOfAll 20 = .ok (.ifCond .eq 11, 3) := by decide +kernel
theorem dX5_lengthOfAll_23 : decode cX5_lengthOfAll 23 = .ok (.iload_n 2, 1) := by decide +kernel
theorem dX5_lengthOfAll_24 : decode cX5_lengthOfAll 24 = .ok (.aload_n 0, 1) := by decide +kernel
theorem dX5_lengthOfAll_25 : decode cX5_lengthOfAll 25 = .ok (.iload_n 3, 1) := by decide +kernel
theorem dX5_lengthOfAll_26 : decode cX5_lengthOfAll 26 = .ok (.invokevirtual 57, 3) := by decide +kernel
theorem dX5_lengthOfAll_29 : decode cX5_lengthOfAll 29 = .ok (.iadd, 1) := by decide +kernel
theorem dX5_lengthOfAll_30 : decode cX5_lengthOfAll 30 = .ok (.istore_n 2, 1) := by decide +kernel
theorem dX5_lengthOfAll_31 : decode cX5_lengthOfAll 31 = .ok (.iinc 3 1, 3) := by decide +kernel
theorem dX5_lengthOfAll_34 : decode cX5_lengthOfAll 34 = .ok (.goto (-30), 3) := by decide +kernel
theorem dX5_lengthOfAll_37 : decode cX5_lengthOfAll 37 = .ok (.iload_n 2, 1) := by decide +kernel
theorem dX5_lengthOfAll_38 : decode cX5_lengthOfAll 38 = .ok (.ireturn, 1) := by decide +kernel
set_option maxRecDepth 20000 in
theorem ggX6_init_X5_init : GoodIn wsX6_init wsX5_init := goodIn_r _ [5, 6, 7, 8, 9, 10, 11, 16, 17, 18, 19, 20, 12, 13, 14, 15] (by decide +kernel) (by decide +kernel)
set_option maxRecDepth 20000 in
theorem gX6_init_X5_init : GoodIn wsX6_init (wsX5_init) := ggX6_init_X5_init
theorem dX6_init_0 : decode cX6_init 0 = .ok (.aload_n 0, 1) := by decide +kernel
theorem dX6_init_1 : decode cX6_init 1 = .ok (.aload_n 1, 1) := by decide +kernel
theorem dX6_init_2 : decode cX6_init 2 = .ok (.invokespecial 1, 3) := by decide +kernel
theorem dX6_init_5 : decode cX6_init 5 = .ok (.aload_n 0, 1) := by decide +kernel
theorem dX6_init_6 : decode cX6_init 6 = .ok (.iconst 1, 1) := by decide +kernel
theorem dX6_init_7 : decode cX6_init 7 = .ok (.putfield 7, 3) := by decide +kernel
theorem dX6_init_10 : decode cX6_init 10 = .ok (.return_, 1) := by decide +kernel
set_option maxRecDepth 20000 in
theorem ggX6_arrangeBy_X5_arrange : GoodIn wsX6_arrangeBy wsX5_arrange := goodIn_r _ [11, 12, 13, 14, 15, 16, 17, 18, 19, 20, 21, 22, 23, 24, 10, 25, 26, 27, 28, 29, 3, 30, 31, 32, 33, 34, 35, 36, 37, 38, 39, 40, 41, 42, 43, 44, 45, 46, 47, 48, 49, 50, 51, 52, 53, 54, 55, 56, 57, 58, 59, 60, 61, 62, 63, 64, 65, 66, 67, 68, 69, 70, 71, 72, 73, 74, 75, 76, 77, 78, 79, 5, 80, 81, 86, 87, 88, 89, 90, 82, 83, 84, 85, 91, 92, 93, 94, 95, 96, 97, 98, 99, 100, 101, 102, 103, 104, 105, 106, 107, 108, 109] (by decide +kernel) (by decide +kernel)
set_option maxRecDepth 20000 in
theorem gX6_arrangeBy_X5_arrange_u19X6 : GoodIn wsX6_arrangeBy (va_wsU RX6 19 RX6 "TwoTongues$Order" ⟨"TwoTongues$Payments", "arrange", "(I)I"⟩ yX5_arrange wsX5_arrange) := goodIn_app (goodIn_of _ (by decide +kernel)) ggX6_arrangeBy_X5_arrange
theorem dX6_arrangeBy_0 : decode cX6_arrangeBy 0 = .ok (.aload_n 0, 1) := by decide +kernel
theorem dX6_arrangeBy_1 : decode cX6_arrangeBy 1 = .ok (.iconst 1, 1) := by decide +kernel
theorem dX6_arrangeBy_2 : decode cX6_arrangeBy 2 = .ok (.iload_n 1, 1) := by decide +kernel
theorem dX6_arrangeBy_3 : decode cX6_arrangeBy 3 = .ok (.invokestatic 13, 3) := by decide +kernel
theorem dX6_arrangeBy_6 : decode cX6_arrangeBy 6 = .ok (.putfield 7, 3) := by decide +kernel
theorem dX6_arrangeBy_9 : decode cX6_arrangeBy 9 = .ok (.aload_n 0, 1) := by decide +kernel
theorem dX6_arrangeBy_10 : decode cX6_arrangeBy 10 = .ok (.iload_n 2, 1) := by decide +kernel
theorem dX6_arrangeBy_11 : decode cX6_arrangeBy 11 = .ok (.invokevirtual 19, 3) := by decide +kernel
theorem dX6_arrangeBy_14 : decode cX6_arrangeBy 14 = .ok (.ireturn, 1) := by decide +kernel
theorem dX6_lengthOf_0 : decode cX6_lengthOf 0 = .ok (.aload_n 0, 1) := by decide +kernel
theorem dX6_lengthOf_1 : decode cX6_lengthOf 1 = .ok (.getfield 23, 3) := by decide +kernel
theorem dX6_lengthOf_4 : decode cX6_lengthOf 4 = .ok (.getfield 27, 3) := by decide +kernel
theorem dX6_lengthOf_7 : decode cX6_lengthOf 7 = .ok (.iload_n 1, 1) := by decide +kernel
theorem dX6_lengthOf_8 : decode cX6_lengthOf 8 = .ok (.iaload, 1) := by decide +kernel
theorem dX6_lengthOf_9 : decode cX6_lengthOf 9 = .ok (.ireturn, 1) := by decide +kernel
theorem dX6_priceOf_0 : decode cX6_priceOf 0 = .ok (.aload_n 0, 1) := by decide +kernel
theorem dX6_priceOf_1 : decode cX6_priceOf 1 = .ok (.getfield 23, 3) := by decide +kernel
theorem dX6_priceOf_4 : decode cX6_priceOf 4 = .ok (.getfield 33, 3) := by decide +kernel
theorem dX6_priceOf_7 : decode cX6_priceOf 7 = .ok (.iload_n 1, 1) := by decide +kernel
theorem dX6_priceOf_8 : decode cX6_priceOf 8 = .ok (.iaload, 1) := by decide +kernel
theorem dX6_priceOf_9 : decode cX6_priceOf 9 = .ok (.iload_n 2, 1) := by decide +kernel
theorem dX6_priceOf_10 : decode cX6_priceOf 10 = .ok (.iconst 1, 1) := by decide +kernel
theorem dX6_priceOf_11 : decode cX6_priceOf 11 = .ok (.isub, 1) := by decide +kernel
theorem dX6_priceOf_12 : decode cX6_priceOf 12 = .ok (.aload_n 0, 1) := by decide +kernel
theorem dX6_priceOf_13 : decode cX6_priceOf 13 = .ok (.getfield 7, 3) := by decide +kernel
theorem dX6_priceOf_16 : decode cX6_priceOf 16 = .ok (.idiv, 1) := by decide +kernel
theorem dX6_priceOf_17 : decode cX6_priceOf 17 = .ok (.imul, 1) := by decide +kernel
theorem dX6_priceOf_18 : decode cX6_priceOf 18 = .ok (.ireturn, 1) := by decide +kernel
theorem dX7_init_0 : decode cX7_init 0 = .ok (.aload_n 0, 1) := by decide +kernel
theorem dX7_init_1 : decode cX7_init 1 = .ok (.invokespecial 3, 3) := by decide +kernel
theorem dX7_init_4 : decode cX7_init 4 = .ok (.aload_n 0, 1) := by decide +kernel
theorem dX7_init_5 : decode cX7_init 5 = .ok (.bipush 30, 2) := by decide +kernel
theorem dX7_init_7 : decode cX7_init 7 = .ok (.newarray .int, 2) := by decide +kernel
theorem dX7_init_9 : decode cX7_init 9 = .ok (.putfield 9, 3) := by decide +kernel
theorem dX7_init_12 : decode cX7_init 12 = .ok (.aload_n 0, 1) := by decide +kernel
theorem dX7_init_13 : decode cX7_init 13 = .ok (.bipush 30, 2) := by decide +kernel
theorem dX7_init_15 : decode cX7_init 15 = .ok (.newarray .int, 2) := by decide +kernel
theorem dX7_init_17 : decode cX7_init 17 = .ok (.putfield 15, 3) := by decide +kernel
theorem dX7_init_20 : decode cX7_init 20 = .ok (.aload_n 0, 1) := by decide +kernel
theorem dX7_init_21 : decode cX7_init 21 = .ok (.bipush 30, 2) := by decide +kernel
theorem dX7_init_23 : decode cX7_init 23 = .ok (.newarray .int, 2) := by decide +kernel
theorem dX7_init_25 : decode cX7_init 25 = .ok (.putfield 18, 3) := by decide +kernel
theorem dX7_init_28 : decode cX7_init 28 = .ok (.aload_n 0, 1) := by decide +kernel
theorem dX7_init_29 : decode cX7_init 29 = .ok (.bipush 30, 2) := by decide +kernel
theorem dX7_init_31 : decode cX7_init 31 = .ok (.newarray .int, 2) := by decide +kernel
theorem dX7_init_33 : decode cX7_init 33 = .ok (.putfield 21, 3) := by decide +kernel
theorem dX7_init_36 : decode cX7_init 36 = .ok (.aload_n 0, 1) := by decide +kernel
theorem dX7_init_37 : decode cX7_init 37 = .ok (.bipush 30, 2) := by decide +kernel
theorem dX7_init_39 : decode cX7_init 39 = .ok (.newarray .int, 2) := by decide +kernel
theorem dX7_init_41 : decode cX7_init 41 = .ok (.putfield 24, 3) := by decide +kernel
theorem dX7_init_44 : decode cX7_init 44 = .ok (.aload_n 0, 1) := by decide +kernel
theorem dX7_init_45 : decode cX7_init 45 = .ok (.bipush 30, 2) := by decide +kernel
theorem dX7_init_47 : decode cX7_init 47 = .ok (.newarray .int, 2) := by decide +kernel
theorem dX7_init_49 : decode cX7_init 49 = .ok (.putfield 27, 3) := by decide +kernel
theorem dX7_init_52 : decode cX7_init 52 = .ok (.aload_n 0, 1) := by decide +kernel
theorem dX7_init_53 : decode cX7_init 53 = .ok (.bipush 20, 2) := by decide +kernel
theorem dX7_init_55 : decode cX7_init 55 = .ok (.newarray .int, 2) := by decide +kernel
theorem dX7_init_57 : decode cX7_init 57 = .ok (.putfield 30, 3) := by decide +kernel
theorem dX7_init_60 : decode cX7_init 60 = .ok (.aload_n 0, 1) := by decide +kernel
theorem dX7_init_61 : decode cX7_init 61 = .ok (.bipush 20, 2) := by decide +kernel
theorem dX7_init_63 : decode cX7_init 63 = .ok (.newarray .int, 2) := by decide +kernel
theorem dX7_init_65 : decode cX7_init 65 = .ok (.putfield 33, 3) := by decide +kernel
theorem dX7_init_68 : decode cX7_init 68 = .ok (.aload_n 0, 1) := by decide +kernel
theorem dX7_init_69 : decode cX7_init 69 = .ok (.bipush 20, 2) := by decide +kernel
