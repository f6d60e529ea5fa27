theorem dX7_init_71 : decode cX7_init 71 = .ok (.newarray .int, 2) := by decide +kernel
theorem dX7_init_73 : decode cX7_init 73 = .ok (.putfield 36, 3) := by decide +kernel
theorem dX7_init_76 : decode cX7_init 76 = .ok (.aload_n 0, 1) := by decide +kernel
theorem dX7_init_77 : decode cX7_init 77 = .ok (.bipush 20, 2) := by decide +kernel
theorem dX7_init_79 : decode cX7_init 79 = .ok (.newarray .boolean, 2) := by decide +kernel
theorem dX7_init_81 : decode cX7_init 81 = .ok (.putfield 39, 3) := by decide +kernel
theorem dX7_init_84 : decode cX7_init 84 = .ok (.return_, 1) := by decide +kernel
set_option maxRecDepth 20000 in
theorem ggX7_has_X11_within : GoodIn wsX7_has wsX11_within := goodIn_r _ [4] (by decide +kernel) (by decide +kernel)
set_option maxRecDepth 20000 in
theorem gX7_has_X11_within_n47 : GoodIn wsX7_has (wsX11_within) := ggX7_has_X11_within
theorem dX7_has_0 : decode cX7_has 0 = .ok (.iload_n 1, 1) := by decide +kernel
theorem dX7_has_1 : decode cX7_has 1 = .ok (.iconst 0, 1) := by decide +kernel
theorem dX7_has_2 : decode cX7_has 2 = .ok (.aload_n 0, 1) := by decide +kernel
theorem dX7_has_3 : decode cX7_has 3 = .ok (.getfield 43, 3) := by decide +kernel
theorem dX7_has_6 : decode cX7_has 6 = .ok (.iconst 1, 1) := by decide +kernel
theorem dX7_has_7 : decode cX7_has 7 = .ok (.isub, 1) := by decide +kernel
theorem dX7_has_8 : decode cX7_has 8 = .ok (.invokestatic 47, 3) := by decide +kernel
theorem dX7_has_11 : decode cX7_has 11 = .ok (.ireturn, 1) := by decide +kernel
set_option maxRecDepth 20000 in
theorem ggX7_add_X7_inherited : GoodIn wsX7_add wsX7_inherited := goodIn_r _ [13, 5, 6, 8, 14, 15, 16, 12, 17, 1, 18, 19, 20, 21, 22, 23, 24, 25, 26, 27, 28, 29, 30, 31, 32] (by decide +kernel) (by decide +kernel)
set_option maxRecDepth 20000 in
theorem gX7_add_X7_inherited : GoodIn wsX7_add (wsV RX7 52 RX7 yX7_inherited wsX7_inherited) := goodIn_app (goodIn_of _ (by decide +kernel)) ggX7_add_X7_inherited
theorem dX7_add_0 : decode cX7_add 0 = .ok (.aload_n 0, 1) := by decide +kernel
theorem dX7_add_1 : decode cX7_add 1 = .ok (.getfield 43, 3) := by decide +kernel
theorem dX7_add_4 : decode cX7_add 4 = .ok (.bipush 30, 2) := by decide +kernel
theorem dX7_add_6 : decode cX7_add 6 = .ok (.if_icmp .lt 6, 3) := by decide +kernel
theorem dX7_add_9 : decode cX7_add 9 = .ok (.bipush (-3), 2) := by decide +kernel
theorem dX7_add_11 : decode cX7_add 11 = .ok (.ireturn, 1) := by decide +kernel
theorem dX7_add_12 : decode cX7_add 12 = .ok (.aload_n 0, 1) := by decide +kernel
theorem dX7_add_13 : decode cX7_add 13 = .ok (.getfield 9, 3) := by decide +kernel
theorem dX7_add_16 : decode cX7_add 16 = .ok (.aload_n 0, 1) := by decide +kernel
theorem dX7_add_17 : decode cX7_add 17 = .ok (.getfield 43, 3) := by decide +kernel
theorem dX7_add_20 : decode cX7_add 20 = .ok (.iload_n 1, 1) := by decide +kernel
theorem dX7_add_21 : decode cX7_add 21 = .ok (.iastore, 1) := by decide +kernel
theorem dX7_add_22 : decode cX7_add 22 = .ok (.aload_n 0, 1) := by decide +kernel
theorem dX7_add_23 : decode cX7_add 23 = .ok (.getfield 15, 3) := by decide +kernel
theorem dX7_add_26 : decode cX7_add 26 = .ok (.aload_n 0, 1) := by decide +kernel
theorem dX7_add_27 : decode cX7_add 27 = .ok (.getfield 43, 3) := by decide +kernel
theorem dX7_add_30 : decode cX7_add 30 = .ok (.ldc 51, 2) := by decide +kernel
theorem dX7_add_32 : decode cX7_add 32 = .ok (.iastore, 1) := by decide +kernel
theorem dX7_add_33 : decode cX7_add 33 = .ok (.aload_n 0, 1) := by decide +kernel
theorem dX7_add_34 : decode cX7_add 34 = .ok (.getfield 18, 3) := by decide +kernel
theorem dX7_add_37 : decode cX7_add 37 = .ok (.aload_n 0, 1) := by decide +kernel
theorem dX7_add_38 : decode cX7_add 38 = .ok (.getfield 43, 3) := by decide +kernel
theorem dX7_add_41 : decode cX7_add 41 = .ok (.iload_n 2, 1) := by decide +kernel
theorem dX7_add_42 : decode cX7_add 42 = .ok (.iastore, 1) := by decide +kernel
theorem dX7_add_43 : decode cX7_add 43 = .ok (.aload_n 0, 1) := by decide +kernel
theorem dX7_add_44 : decode cX7_add 44 = .ok (.getfield 21, 3) := by decide +kernel
theorem dX7_add_47 : decode cX7_add 47 = .ok (.aload_n 0, 1) := by decide +kernel
theorem dX7_add_48 : decode cX7_add 48 = .ok (.getfield 43, 3) := by decide +kernel
theorem dX7_add_51 : decode cX7_add 51 = .ok (.iload_n 3, 1) := by decide +kernel
theorem dX7_add_52 : decode cX7_add 52 = .ok (.iastore, 1) := by decide +kernel
theorem dX7_add_53 : decode cX7_add 53 = .ok (.aload_n 0, 1) := by decide +kernel
theorem dX7_add_54 : decode cX7_add 54 = .ok (.getfield 24, 3) := by decide +kernel
theorem dX7_add_57 : decode cX7_add 57 = .ok (.aload_n 0, 1) := by decide +kernel
theorem dX7_add_58 : decode cX7_add 58 = .ok (.getfield 43, 3) := by decide +kernel
theorem dX7_add_61 : decode cX7_add 61 = .ok (.iconst 0, 1) := by decide +kernel
theorem dX7_add_62 : decode cX7_add 62 = .ok (.iastore, 1) := by decide +kernel
theorem dX7_add_63 : decode cX7_add 63 = .ok (.aload_n 0, 1) := by decide +kernel
theorem dX7_add_64 : decode cX7_add 64 = .ok (.getfield 27, 3) := by decide +kernel
theorem dX7_add_67 : decode cX7_add 67 = .ok (.aload_n 0, 1) := by decide +kernel
theorem dX7_add_68 : decode cX7_add 68 = .ok (.getfield 43, 3) := by decide +kernel
theorem dX7_add_71 : decode cX7_add 71 = .ok (.aload_n 0, 1) := by decide +kernel
theorem dX7_add_72 : decode cX7_add 72 = .ok (.aload_n 0, 1) := by decide +kernel
theorem dX7_add_73 : decode cX7_add 73 = .ok (.getfield 43, 3) := by decide +kernel
theorem dX7_add_76 : decode cX7_add 76 = .ok (.invokevirtual 52, 3) := by decide +kernel
theorem dX7_add_79 : decode cX7_add 79 = .ok (.iastore, 1) := by decide +kernel
theorem dX7_add_80 : decode cX7_add 80 = .ok (.aload_n 0, 1) := by decide +kernel
theorem dX7_add_81 : decode cX7_add 81 = .ok (.dup, 1) := by decide +kernel
theorem dX7_add_82 : decode cX7_add 82 = .ok (.getfield 43, 3) := by decide +kernel
theorem dX7_add_85 : decode cX7_add 85 = .ok (.iconst 1, 1) := by decide +kernel
theorem dX7_add_86 : decode cX7_add 86 = .ok (.iadd, 1) := by decide +kernel
theorem dX7_add_87 : decode cX7_add 87 = .ok (.putfield 43, 3) := by decide +kernel
theorem dX7_add_90 : decode cX7_add 90 = .ok (.aload_n 0, 1) := by decide +kernel
theorem dX7_add_91 : decode cX7_add 91 = .ok (.getfield 43, 3) := by decide +kernel
theorem dX7_add_94 : decode cX7_add 94 = .ok (.iconst 1, 1) := by decide +kernel
theorem dX7_add_95 : decode cX7_add 95 = .ok (.isub, 1) := by decide +kernel
theorem dX7_add_96 : decode cX7_add 96 = .ok (.ireturn, 1) := by decide +kernel
set_option maxRecDepth 20000 in
theorem ggX7_inherited_X7_has : GoodIn wsX7_inherited wsX7_has := goodIn_r _ [8, 9, 10, 11, 12, 13, 14, 15, 16, 17, 18, 19, 20, 21, 22, 23, 24] (by decide +kernel) (by decide +kernel)
set_option maxRecDepth 20000 in
theorem gX7_inherited_X7_has : GoodIn wsX7_inherited (wsV RX7 56 RX7 yX7_has wsX7_has) := goodIn_app (goodIn_of _ (by decide +kernel)) ggX7_inherited_X7_has
theorem dX7_inherited_0 : decode cX7_inherited 0 = .ok (.aload_n 0, 1) := by decide +kernel
theorem dX7_inherited_1 : decode cX7_inherited 1 = .ok (.getfield 18, 3) := by decide +kernel
theorem dX7_inherited_4 : decode cX7_inherited 4 = .ok (.iload_n 1, 1) := by decide +kernel
theorem dX7_inherited_5 : decode cX7_inherited 5 = .ok (.iaload, 1) := by decide +kernel
theorem dX7_inherited_6 : decode cX7_inherited 6 = .ok (.istore_n 2, 1) := by decide +kernel
theorem dX7_inherited_7 : decode cX7_inherited 7 = .ok (.aload_n 0, 1) := by decide +kernel
theorem dX7_inherited_8 : decode cX7_inherited 8 = .ok (.getfield 21, 3) := by decide +kernel
theorem dX7_inherited_11 : decode cX7_inherited 11 = .ok (.iload_n 1, 1) := by decide +kernel
theorem dX7_inherited_12 : decode cX7_inherited 12 = .ok (.iaload, 1) := by decide +kernel
theorem dX7_inherited_13 : decode cX7_inherited 13 = .ok (.istore_n 3, 1) := by decide +kernel
theorem dX7_inherited_14 : decode cX7_inherited 14 = .ok (.aload_n 0, 1) := by decide +kernel
theorem dX7_inherited_15 : decode cX7_inherited 15 = .ok (.iload_n 2, 1) := by decide +kernel
theorem dX7_inherited_16 : decode cX7_inherited 16 = .ok (.invokevirtual 56, 3) := by decide +kernel
theorem dX7_inherited_19 : decode cX7_inherited 19 = .ok (.ifCond .eq 12, 3) := by decide +kernel
theorem dX7_inherited_22 : decode cX7_inherited 22 = .ok (.aload_n 0, 1) := by decide +kernel
theorem dX7_inherited_23 : decode cX7_inherited 23 = .ok (.getfield 27, 3) := by decide +kernel
theorem dX7_inherited_26 : decode cX7_inherited 26 = .ok (.iload_n 2, 1) := by decide +kernel
theorem dX7_inherited_27 : decode cX7_inherited 27 = .ok (.iaload, 1) := by decide +kernel
theorem dX7_inherited_28 : decode cX7_inherited 28 = .ok (.goto 4, 3) := by decide +kernel
theorem dX7_inherited_31 : decode cX7_inherited 31 = .ok (.iconst 0, 1) := by decide +kernel
theorem dX7_inherited_32 : decode cX7_inherited 32 = .ok (.aload_n 0, 1) := by decide +kernel
theorem dX7_inherited_33 : decode cX7_inherited 33 = .ok (.iload_n 3, 1) := by decide +kernel
theorem dX7_inherited_34 : decode cX7_inherited 34 = .ok (.invokevirtual 56, 3) := by decide +kernel
theorem dX7_inherited_37 : decode cX7_inherited 37 = .ok (.ifCond .eq 12, 3) := by decide +kernel
theorem dX7_inherited_40 : decode cX7_inherited 40 = .ok (.aload_n 0, 1) := by decide +kernel
theorem dX7_inherited_41 : decode cX7_inherited 41 = .ok (.getfield 27, 3) := by decide +kernel
theorem dX7_inherited_44 : decode cX7_inherited 44 = .ok (.iload_n 3, 1) := by decide +kernel
theorem dX7_inherited_45 : decode cX7_inherited 45 = .ok (.iaload, 1) := by decide +kernel
theorem dX7_inherited_46 : decode cX7_inherited 46 = .ok (.goto 4, 3) := by decide +kernel
theorem dX7_inherited_49 : decode cX7_inherited 49 = .ok (.iconst 0, 1) := by decide +kernel
theorem dX7_inherited_50 : decode cX7_inherited 50 = .ok (.ior, 1) := by decide +kernel
theorem dX7_inherited_51 : decode cX7_inherited 51 = .ok (.ireturn, 1) := by decide +kernel
set_option maxRecDepth 20000 in
theorem ggX7_isFounder_X11_hasBit : GoodIn wsX7_isFounder wsX11_hasBit := goodIn_r _ [4] (by decide +kernel) (by decide +kernel)
set_option maxRecDepth 20000 in
theorem gX7_isFounder_X11_hasBit_n60 : GoodIn wsX7_isFounder (wsX11_hasBit) := ggX7_isFounder_X11_hasBit
theorem dX7_isFounder_0 : decode cX7_isFounder 0 = .ok (.aload_n 0, 1) := by decide +kernel
theorem dX7_isFounder_1 : decode cX7_isFounder 1 = .ok (.getfield 24, 3) := by decide +kernel
theorem dX7_isFounder_4 : decode cX7_isFounder 4 = .ok (.iload_n 1, 1) := by decide +kernel
theorem dX7_isFounder_5 : decode cX7_isFounder 5 = .ok (.iaload, 1) := by decide +kernel
theorem dX7_isFounder_6 : decode cX7_isFounder 6 = .ok (.iload_n 2, 1) := by decide +kernel
theorem dX7_isFounder_7 : decode cX7_isFounder 7 = .ok (.invokestatic 60, 3) := by decide +kernel
theorem dX7_isFounder_10 : decode cX7_isFounder 10 = .ok (.ireturn, 1) := by decide +kernel
set_option maxRecDepth 20000 in
theorem ggX7_addFounder_X7_inherited : GoodIn wsX7_addFounder wsX7_inherited := goodIn_r _ [8, 9, 10, 3, 11, 12, 13, 7, 14, 2, 15, 16, 17, 24, 25, 26, 27, 28, 29, 30, 31, 32, 33, 34, 35] (by decide +kernel) (by decide +kernel)
set_option maxRecDepth 20000 in
theorem gX7_addFounder_X7_inherited : GoodIn wsX7_addFounder (wsV RX7 52 RX7 yX7_inherited wsX7_inherited) := goodIn_app (goodIn_of _ (by decide +kernel)) ggX7_addFounder_X7_inherited
set_option maxRecDepth 20000 in
theorem ggX7_addFounder_X7_isFounder : GoodIn wsX7_addFounder wsX7_isFounder := goodIn_r _ [21, 1, 22, 16, 23, 24, 25, 26, 27, 28, 29, 30, 31, 32, 33, 34, 35] (by decide +kernel) (by decide +kernel)
set_option maxRecDepth 20000 in
theorem gX7_addFounder_X7_isFounder : GoodIn wsX7_addFounder (wsV RX7 64 RX7 yX7_isFounder wsX7_isFounder) := goodIn_app (goodIn_of _ (by decide +kernel)) ggX7_addFounder_X7_isFounder
theorem dX7_addFounder_0 : decode cX7_addFounder 0 = .ok (.aload_n 0, 1) := by decide +kernel
theorem dX7_addFounder_1 : decode cX7_addFounder 1 = .ok (.getfield 24, 3) := by decide +kernel
theorem dX7_addFounder_4 : decode cX7_addFounder 4 = .ok (.iload_n 1, 1) := by decide +kernel
theorem dX7_addFounder_5 : decode cX7_addFounder 5 = .ok (.dup2, 1) := by decide +kernel
theorem dX7_addFounder_6 : decode cX7_addFounder 6 = .ok (.iaload, 1) := by decide +kernel
theorem dX7_addFounder_7 : decode cX7_addFounder 7 = .ok (.iconst 1, 1) := by decide +kernel
theorem dX7_addFounder_8 : decode cX7_addFounder 8 = .ok (.iload_n 2, 1) := by decide +kernel
theorem dX7_addFounder_9 : decode cX7_addFounder 9 = .ok (.ishl, 1) := by decide +kernel
theorem dX7_addFounder_10 : decode cX7_addFounder 10 = .ok (.ior, 1) := by decide +kernel
theorem dX7_addFounder_11 : decode cX7_addFounder 11 = .ok (.iastore, 1) := by decide +kernel
theorem dX7_addFounder_12 : decode cX7_addFounder 12 = .ok (.iconst 0, 1) := by decide +kernel
theorem dX7_addFounder_13 : decode cX7_addFounder 13 = .ok (.istore_n 3, 1) := by decide +kernel
theorem dX7_addFounder_14 : decode cX7_addFounder 14 = .ok (.iconst 0, 1) := by decide +kernel
theorem dX7_addFounder_15 : decode cX7_addFounder 15 = .ok (.istore 4, 2) := by decide +kernel
theorem dX7_addFounder_17 : decode cX7_addFounder 17 = .ok (.iload 4, 2) := by decide +kernel
theorem dX7_addFounder_19 : decode cX7_addFounder 19 = .ok (.aload_n 0, 1) := by decide +kernel
theorem dX7_addFounder_20 : decode cX7_addFounder 20 = .ok (.getfield 43, 3) := by decide +kernel
theorem dX7_addFounder_23 : decode cX7_addFounder 23 = .ok (.if_icmp .ge 43, 3) := by decide +kernel
theorem dX7_addFounder_26 : decode cX7_addFounder 26 = .ok (.aload_n 0, 1) := by decide +kernel
theorem dX7_addFounder_27 : decode cX7_addFounder 27 = .ok (.getfield 27, 3) := by decide +kernel
theorem dX7_addFounder_30 : decode cX7_addFounder 30 = .ok (.iload 4, 2) := by decide +kernel
theorem dX7_addFounder_32 : decode cX7_addFounder 32 = .ok (.aload_n 0, 1) := by decide +kernel
theorem dX7_addFounder_33 : decode cX7_addFounder 33 = .ok (.getfield 24, 3) := by decide +kernel
theorem dX7_addFounder_36 : decode cX7_addFounder 36 = .ok (.iload 4, 2) := by decide +kernel
theorem dX7_addFounder_38 : decode cX7_addFounder 38 = .ok (.iaload, 1) := by decide +kernel
theorem dX7_addFounder_39 : decode cX7_addFounder 39 = .ok (.aload_n 0, 1) := by decide +kernel
theorem dX7_addFounder_40 : decode cX7_addFounder 40 = .ok (.iload 4, 2) := by decide +kernel
theorem dX7_addFounder_42 : decode cX7_addFounder 42 = .ok (.invokevirtual 52, 3) := by decide +kernel
theorem dX7_addFounder_45 : decode cX7_addFounder 45 = .ok (.ior, 1) := by decide +kernel
theorem dX7_addFounder_46 : decode cX7_addFounder 46 = .ok (.iastore, 1) := by decide +kernel
theorem dX7_addFounder_47 : decode cX7_addFounder 47 = .ok (.aload_n 0, 1) := by decide +kernel
theorem dX7_addFounder_48 : decode cX7_addFounder 48 = .ok (.iload 4, 2) := by decide +kernel
theorem dX7_addFounder_50 : decode cX7_addFounder 50 = .ok (.iload_n 2, 1) := by decide +kernel
theorem dX7_addFounder_51 : decode cX7_addFounder 51 = .ok (.invokevirtual 64, 3) := by decide +kernel
theorem dX7_addFounder_54 : decode cX7_addFounder 54 = .ok (.ifCond .eq 6, 3) := by decide +kernel
theorem dX7_addFounder_57 : decode cX7_addFounder 57 = .ok (.iinc 3 1, 3) := by decide +kernel
theorem dX7_addFounder_60 : decode cX7_addFounder 60 = .ok (.iinc 4 1, 3) := by decide +kernel
theorem dX7_addFounder_63 : decode cX7_addFounder 63 = .ok (.goto (-46), 3) := by decide +kernel
theorem dX7_addFounder_66 : decode cX7_addFounder 66 = .ok (.iload_n 3, 1) := by decide +kernel
theorem dX7_addFounder_67 : decode cX7_addFounder 67 = .ok (.ireturn, 1) := by decide +kernel
theorem dX7_isDead_0 : decode cX7_isDead 0 = .ok (.aload_n 0, 1) := by decide +kernel
theorem dX7_isDead_1 : decode cX7_isDead 1 = .ok (.getfield 15, 3) := by decide +kernel
theorem dX7_isDead_4 : decode cX7_isDead 4 = .ok (.iload_n 1, 1) := by decide +kernel
theorem dX7_isDead_5 : decode cX7_isDead 5 = .ok (.iaload, 1) := by decide +kernel
theorem dX7_isDead_6 : decode cX7_isDead 6 = .ok (.iload_n 2, 1) := by decide +kernel
theorem dX7_isDead_7 : decode cX7_isDead 7 = .ok (.if_icmp .gt 7, 3) := by decide +kernel
theorem dX7_isDead_10 : decode cX7_isDead 10 = .ok (.iconst 1, 1) := by decide +kernel
theorem dX7_isDead_11 : decode cX7_isDead 11 = .ok (.goto 4, 3) := by decide +kernel
theorem dX7_isDead_14 : decode cX7_isDead 14 = .ok (.iconst 0, 1) := by decide +kernel
theorem dX7_isDead_15 : decode cX7_isDead 15 = .ok (.ireturn, 1) := by decide +kernel
set_option maxRecDepth 20000 in
theorem ggX7_isLivingFounder_X7_isFounder : GoodIn wsX7_isLivingFounder wsX7_isFounder := goodIn_r _ [6, 7, 8, 9, 10, 16, 17, 18, 19, 20, 21, 22, 23, 24, 25, 26, 27] (by decide +kernel) (by decide +kernel)
set_option maxRecDepth 20000 in
theorem gX7_isLivingFounder_X7_isFounder : GoodIn wsX7_isLivingFounder (wsV RX7 64 RX7 yX7_isFounder wsX7_isFounder) := goodIn_app (goodIn_of _ (by decide +kernel)) ggX7_isLivingFounder_X7_isFounder
set_option maxRecDepth 20000 in
theorem ggX7_isLivingFounder_X7_isDead : GoodIn wsX7_isLivingFounder wsX7_isDead := goodIn_r _ [14, 15, 16, 17, 18, 19, 20, 21, 22, 23, 24, 25, 26, 27] (by decide +kernel) (by decide +kernel)
set_option maxRecDepth 20000 in
theorem gX7_isLivingFounder_X7_isDead : GoodIn wsX7_isLivingFounder (wsV RX7 67 RX7 yX7_isDead wsX7_isDead) := goodIn_app (goodIn_of _ (by decide +kernel)) ggX7_isLivingFounder_X7_isDead
theorem dX7_isLivingFounder_0 : decode cX7_isLivingFounder 0 = .ok (.aload_n 0, 1) := by decide +kernel
theorem dX7_isLivingFounder_1 : decode cX7_isLivingFounder 1 = .ok (.iload_n 1, 1) := by decide +kernel
theorem dX7_isLivingFounder_2 : decode cX7_isLivingFounder 2 = .ok (.iload_n 2, 1) := by decide +kernel
theorem dX7_isLivingFounder_3 : decode cX7_isLivingFounder 3 = .ok (.invokevirtual 64, 3) := by decide +kernel
theorem dX7_isLivingFounder_6 : decode cX7_isLivingFounder 6 = .ok (.ifCond .eq 26, 3) := by decide +kernel
theorem dX7_isLivingFounder_9 : decode cX7_isLivingFounder 9 = .ok (.aload_n 0, 1) := by decide +kernel
theorem dX7_isLivingFounder_10 : decode cX7_isLivingFounder 10 = .ok (.getfield 9, 3) := by decide +kernel
theorem dX7_isLivingFounder_13 : decode cX7_isLivingFounder 13 = .ok (.iload_n 1, 1) := by decide +kernel
theorem dX7_isLivingFounder_14 : decode cX7_isLivingFounder 14 = .ok (.iaload, 1) := by decide +kernel
theorem dX7_isLivingFounder_15 : decode cX7_isLivingFounder 15 = .ok (.iload_n 3, 1) := by decide +kernel
theorem dX7_isLivingFounder_16 : decode cX7_isLivingFounder 16 = .ok (.if_icmp .gt 16, 3) := by decide +kernel
theorem dX7_isLivingFounder_19 : decode cX7_isLivingFounder 19 = .ok (.aload_n 0, 1) := by decide +kernel
theorem dX7_isLivingFounder_20 : decode cX7_isLivingFounder 20 = .ok (.iload_n 1, 1) := by decide +kernel
theorem dX7_isLivingFounder_21 : decode cX7_isLivingFounder 21 = .ok (.iload_n 3, 1) := by decide +kernel
theorem dX7_isLivingFounder_22 : decode cX7_isLivingFounder 22 = .ok (.invokevirtual 67, 3) := by decide +kernel
theorem dX7_isLivingFounder_25 : decode cX7_isLivingFounder 25 = .ok (.ifCond .ne 7, 3) := by decide +kernel
theorem dX7_isLivingFounder_28 : decode cX7_isLivingFounder 28 = .ok (.iconst 1, 1) := by decide +kernel
theorem dX7_isLivingFounder_29 : decode cX7_isLivingFounder 29 = .ok (.goto 4, 3) := by decide +kernel
theorem dX7_isLivingFounder_32 : decode cX7_isLivingFounder 32 = .ok (.iconst 0, 1) := by decide +kernel
theorem dX7_isLivingFounder_33 : decode cX7_isLivingFounder 33 = .ok (.ireturn, 1) := by decide +kernel
set_option maxRecDepth 20000 in
theorem ggX7_livingFounders_X7_isLivingFounder : GoodIn wsX7_livingFounders wsX7_isLivingFounder := goodIn_r _ [6, 7, 8, 9, 10, 5, 11, 12, 13, 14, 15, 16, 17, 18, 19, 20, 21, 22, 23, 24, 25, 26, 27, 28, 29, 30, 31, 32] (by decide +kernel) (by decide +kernel)
set_option maxRecDepth 20000 in
theorem gX7_livingFounders_X7_isLivingFounder : GoodIn wsX7_livingFounders (wsV RX7 70 RX7 yX7_isLivingFounder wsX7_isLivingFounder) := goodIn_app (goodIn_of _ (by decide +kernel)) ggX7_livingFounders_X7_isLivingFounder
theorem dX7_livingFounders_0 : decode cX7_livingFounders 0 = .ok (.iconst 0, 1) := by decide +kernel
theorem dX7_livingFounders_1 : decode cX7_livingFounders 1 = .ok (.istore_n 3, 1) := by decide +kernel
theorem dX7_livingFounders_2 : decode cX7_livingFounders 2 = .ok (.iconst 0, 1) := by decide +kernel
theorem dX7_livingFounders_3 : decode cX7_livingFounders 3 = .ok (.istore 4, 2) := by decide +kernel
theorem dX7_livingFounders_5 : decode cX7_livingFounders 5 = .ok (.iload 4, 2) := by decide +kernel
theorem dX7_livingFounders_7 : decode cX7_livingFounders 7 = .ok (.aload_n 0, 1) := by decide +kernel
theorem dX7_livingFounders_8 : decode cX7_livingFounders 8 = .ok (.getfield 43, 3) := by decide +kernel
theorem dX7_livingFounders_11 : decode cX7_livingFounders 11 = .ok (.if_icmp .ge 23, 3) := by decide +kernel
theorem dX7_livingFounders_14 : decode cX7_livingFounders 14 = .ok (.aload_n 0, 1) := by decide +kernel
theorem dX7_livingFounders_15 : decode cX7_livingFounders 15 = .ok (.iload 4, 2) := by decide +kernel
theorem dX7_livingFounders_17 : decode cX7_livingFounders 17 = .ok (.iload_n 1, 1) := by decide +kernel
theorem dX7_livingFounders_18 : decode cX7_livingFounders 18 = .ok (.iload_n 2, 1) := by decide +kernel
theorem dX7_livingFounders_19 : decode cX7_livingFounders 19 = .ok (.invokevirtual 70, 3) := by decide +kernel
theorem dX7_livingFounders_22 : decode cX7_livingFounders 22 = .ok (.ifCond .eq 6, 3) := by decide +kernel
theorem dX7_livingFounders_25 : decode cX7_livingFounders 25 = .ok (.iinc 3 1, 3) := by decide +kernel
theorem dX7_livingFounders_28 : decode cX7_livingFounders 28 = .ok (.iinc 4 1, 3) := by decide +kernel
theorem dX7_livingFounders_31 : decode cX7_livingFounders 31 = .ok (.goto (-26), 3) := by decide +kernel
theorem dX7_livingFounders_34 : decode cX7_livingFounders 34 = .ok (.iload_n 3, 1) := by decide +kernel
theorem dX7_livingFounders_35 : decode cX7_livingFounders 35 = .ok (.ireturn, 1) := by decide +kernel
theorem dX7_isChild_0 : decode cX7_isChild 0 = .ok (.aload_n 0, 1) := by decide +kernel
theorem dX7_isChild_1 : decode cX7_isChild 1 = .ok (.getfield 18, 3) := by decide +kernel
theorem dX7_isChild_4 : decode cX7_isChild 4 = .ok (.iload_n 1, 1) := by decide +kernel
theorem dX7_isChild_5 : decode cX7_isChild 5 = .ok (.iaload, 1) := by decide +kernel
theorem dX7_isChild_6 : decode cX7_isChild 6 = .ok (.iload_n 2, 1) := by decide +kernel
theorem dX7_isChild_7 : decode cX7_isChild 7 = .ok (.if_icmp .eq 13, 3) := by decide +kernel
theorem dX7_isChild_10 : decode cX7_isChild 10 = .ok (.aload_n 0, 1) := by decide +kernel
theorem dX7_isChild_11 : decode cX7_isChild 11 = .ok (.getfield 21, 3) := by decide +kernel
theorem dX7_isChild_14 : decode cX7_isChild 14 = .ok (.iload_n 1, 1) := by decide +kernel
theorem dX7_isChild_15 : decode cX7_isChild 15 = .ok (.iaload, 1) := by decide +kernel
theorem dX7_isChild_16 : decode cX7_isChild 16 = .ok (.iload_n 2, 1) := by decide +kernel
theorem dX7_isChild_17 : decode cX7_isChild 17 = .ok (.if_icmp .ne 17, 3) := by decide +kernel
theorem dX7_isChild_20 : decode cX7_isChild 20 = .ok (.aload_n 0, 1) := by decide +kernel
theorem dX7_isChild_21 : decode cX7_isChild 21 = .ok (.getfield 9, 3) := by decide +kernel
theorem dX7_isChild_24 : decode cX7_isChild 24 = .ok (.iload_n 1, 1) := by decide +kernel
theorem dX7_isChild_25 : decode cX7_isChild 25 = .ok (.iaload, 1) := by decide +kernel
theorem dX7_isChild_26 : decode cX7_isChild 26 = .ok (.iload_n 3, 1) := by decide +kernel
theorem dX7_isChild_27 : decode cX7_isChild 27 = .ok (.if_icmp .gt 7, 3) := by decide +kernel
theorem dX7_isChild_30 : decode cX7_isChild 30 = .ok (.iconst 1, 1) := by decide +kernel
theorem dX7_isChild_31 : decode cX7_isChild 31 = .ok (.goto 4, 3) := by decide +kernel
theorem dX7_isChild_34 : decode cX7_isChild 34 = .ok (.iconst 0, 1) := by decide +kernel
theorem dX7_isChild_35 : decode cX7_isChild 35 = .ok (.ireturn, 1) := by decide +kernel
set_option maxRecDepth 20000 in
theorem ggX7_children_X7_isChild : GoodIn wsX7_children wsX7_isChild := goodIn_r _ [6, 7, 8, 9, 10, 11, 12, 13, 14, 15, 16, 17, 18, 19, 20, 21] (by decide +kernel) (by decide +kernel)
set_option maxRecDepth 20000 in
theorem gX7_children_X7_isChild : GoodIn wsX7_children (wsV RX7 73 RX7 yX7_isChild wsX7_isChild) := goodIn_app (goodIn_of _ (by decide +kernel)) ggX7_children_X7_isChild
theorem dX7_children_0 : decode cX7_children 0 = .ok (.iconst 0, 1) := by decide +kernel
theorem dX7_children_1 : decode cX7_children 1 = .ok (.istore_n 3, 1) := by decide +kernel
theorem dX7_children_2 : decode cX7_children 2 = .ok (.iconst 0, 1) := by decide +kernel
theorem dX7_children_3 : decode cX7_children 3 = .ok (.istore 4, 2) := by decide +kernel
theorem dX7_children_5 : decode cX7_children 5 = .ok (.iload 4, 2) := by decide +kernel
theorem dX7_children_7 : decode cX7_children 7 = .ok (.aload_n 0, 1) := by decide +kernel
theorem dX7_children_8 : decode cX7_children 8 = .ok (.getfield 43, 3) := by decide +kernel
theorem dX7_children_11 : decode cX7_children 11 = .ok (.if_icmp .ge 23, 3) := by decide +kernel
theorem dX7_children_14 : decode cX7_children 14 = .ok (.aload_n 0, 1) := by decide +kernel
theorem dX7_children_15 : decode cX7_children 15 = .ok (.iload 4, 2) := by decide +kernel
theorem dX7_children_17 : decode cX7_children 17 = .ok (.iload_n 1, 1) := by decide +kernel
theorem dX7_children_18 : decode cX7_children 18 = .ok (.iload_n 2, 1) := by decide +kernel
theorem dX7_children_19 : decode cX7_children 19 = .ok (.invokevirtual 73, 3) := by decide +kernel
theorem dX7_children_22 : decode cX7_children 22 = .ok (.ifCond .eq 6, 3) := by decide +kernel
theorem dX7_children_25 : decode cX7_children 25 = .ok (.iinc 3 1, 3) := by decide +kernel
theorem dX7_children_28 : decode cX7_children 28 = .ok (.iinc 4 1, 3) := by decide +kernel
theorem dX7_children_31 : decode cX7_children 31 = .ok (.goto (-26), 3) := by decide +kernel
theorem dX7_children_34 : decode cX7_children 34 = .ok (.iload_n 3, 1) := by decide +kernel
theorem dX7_children_35 : decode cX7_children 35 = .ok (.ireturn, 1) := by decide +kernel
set_option maxRecDepth 20000 in
theorem ggX7_ofBoth_X11_hasBit : GoodIn wsX7_ofBoth wsX11_hasBit := goodIn_r _ [5] (by decide +kernel) (by decide +kernel)
set_option maxRecDepth 20000 in
theorem gX7_ofBoth_X11_hasBit_n60 : GoodIn wsX7_ofBoth (wsX11_hasBit) := ggX7_ofBoth_X11_hasBit
theorem dX7_ofBoth_0 : decode cX7_ofBoth 0 = .ok (.iconst 0, 1) := by decide +kernel
theorem dX7_ofBoth_1 : decode cX7_ofBoth 1 = .ok (.istore_n 3, 1) := by decide +kernel
theorem dX7_ofBoth_2 : decode cX7_ofBoth 2 = .ok (.iconst 0, 1) := by decide +kernel
theorem dX7_ofBoth_3 : decode cX7_ofBoth 3 = .ok (.istore 4, 2) := by decide +kernel
theorem dX7_ofBoth_5 : decode cX7_ofBoth 5 = .ok (.iload 4, 2) := by decide +kernel
theorem dX7_ofBoth_7 : decode cX7_ofBoth 7 = .ok (.aload_n 0, 1) := by decide +kernel
theorem dX7_ofBoth_8 : decode cX7_ofBoth 8 = .ok (.getfield 43, 3) := by decide +kernel
theorem dX7_ofBoth_11 : decode cX7_ofBoth 11 = .ok (.if_icmp .ge 40, 3) := by decide +kernel
theorem dX7_ofBoth_14 : decode cX7_ofBoth 14 = .ok (.aload_n 0, 1) := by decide +kernel
theorem dX7_ofBoth_15 : decode cX7_ofBoth 15 = .ok (.getfield 27, 3) := by decide +kernel
theorem dX7_ofBoth_18 : decode cX7_ofBoth 18 = .ok (.iload 4, 2) := by decide +kernel
theorem dX7_ofBoth_20 : decode cX7_ofBoth 20 = .ok (.iaload, 1) := by decide +kernel
theorem dX7_ofBoth_21 : decode cX7_ofBoth 21 = .ok (.iload_n 1, 1) := by decide +kernel
theorem dX7_ofBoth_22 : decode cX7_ofBoth 22 = .ok (.invokestatic 60, 3) := by decide +kernel
theorem dX7_ofBoth_25 : decode cX7_ofBoth 25 = .ok (.ifCond .eq 20, 3) := by decide +kernel
theorem dX7_ofBoth_28 : decode cX7_ofBoth 28 = .ok (.aload_n 0, 1) := by decide +kernel
theorem dX7_ofBoth_29 : decode cX7_ofBoth 29 = .ok (.getfield 27, 3) := by decide +kernel
theorem dX7_ofBoth_32 : decode cX7_ofBoth 32 = .ok (.iload 4, 2) := by decide +kernel
theorem dX7_ofBoth_34 : decode cX7_ofBoth 34 = .ok (.iaload, 1) := by decide +kernel
theorem dX7_ofBoth_35 : decode cX7_ofBoth 35 = .ok (.iload_n 2, 1) := by decide +kernel
theorem dX7_ofBoth_36 : decode cX7_ofBoth 36 = .ok (.invokestatic 60, 3) := by decide +kernel
theorem dX7_ofBoth_39 : decode cX7_ofBoth 39 = .ok (.ifCond .eq 6, 3) := by decide +kernel
theorem dX7_ofBoth_42 : decode cX7_ofBoth 42 = .ok (.iinc 3 1, 3) := by decide +kernel
theorem dX7_ofBoth_45 : decode cX7_ofBoth 45 = .ok (.iinc 4 1, 3) := by decide +kernel
theorem dX7_ofBoth_48 : decode cX7_ofBoth 48 = .ok (.goto (-43), 3) := by decide +kernel
theorem dX7_ofBoth_51 : decode cX7_ofBoth 51 = .ok (.iload_n 3, 1) := by decide +kernel
theorem dX7_ofBoth_52 : decode cX7_ofBoth 52 = .ok (.ireturn, 1) := by decide +kernel
set_option maxRecDepth 20000 in
theorem ggX7_cousinsCut_J6_bitCount_0f7a4 : GoodIn wsX7_cousinsCut wsJ6_bitCount_0f7a4 := goodIn_r _ [6, 7, 8, 9] (by decide +kernel) (by decide +kernel)
set_option maxRecDepth 20000 in
theorem gX7_cousinsCut_J6_bitCount_0f7a4 : GoodIn wsX7_cousinsCut (va_wsS RX7 76 yJ6_bitCount_0f7a4 wsJ6_bitCount_0f7a4) := goodIn_app (goodIn_of _ (by decide +kernel)) ggX7_cousinsCut_J6_bitCount_0f7a4
theorem dX7_cousinsCut_0 : decode cX7_cousinsCut 0 = .ok (.iconst 0, 1) := by decide +kernel
theorem dX7_cousinsCut_1 : decode cX7_cousinsCut 1 = .ok (.istore_n 2, 1) := by decide +kernel
theorem dX7_cousinsCut_2 : decode cX7_cousinsCut 2 = .ok (.iconst 0, 1) := by decide +kernel
theorem dX7_cousinsCut_3 : decode cX7_cousinsCut 3 = .ok (.istore_n 3, 1) := by decide +kernel
theorem dX7_cousinsCut_4 : decode cX7_cousinsCut 4 = .ok (.iload_n 3, 1) := by decide +kernel
theorem dX7_cousinsCut_5 : decode cX7_cousinsCut 5 = .ok (.aload_n 0, 1) := by decide +kernel
theorem dX7_cousinsCut_6 : decode cX7_cousinsCut 6 = .ok (.getfield 43, 3) := by decide +kernel
theorem dX7_cousinsCut_9 : decode cX7_cousinsCut 9 = .ok (.if_icmp .ge 37, 3) := by decide +kernel
theorem dX7_cousinsCut_12 : decode cX7_cousinsCut 12 = .ok (.iload_n 2, 1) := by decide +kernel
theorem dX7_cousinsCut_13 : decode cX7_cousinsCut 13 = .ok (.aload_n 0, 1) := by decide +kernel
theorem dX7_cousinsCut_14 : decode cX7_cousinsCut 14 = .ok (.getfield 27, 3) := by decide +kernel
theorem dX7_cousinsCut_17 : decode cX7_cousinsCut 17 = .ok (.iload_n 3, 1) := by decide +kernel
theorem dX7_cousinsCut_18 : decode cX7_cousinsCut 18 = .ok (.iaload, 1) := by decide +kernel
theorem dX7_cousinsCut_19 : decode cX7_cousinsCut 19 = .ok (.iload_n 1, 1) := by decide +kernel
theorem dX7_cousinsCut_20 : decode cX7_cousinsCut 20 = .ok (.iand, 1) := by decide +kernel
theorem dX7_cousinsCut_21 : decode cX7_cousinsCut 21 = .ok (.invokestatic 76, 3) := by decide +kernel
theorem dX7_cousinsCut_24 : decode cX7_cousinsCut 24 = .ok (.aload_n 0, 1) := by decide +kernel
theorem dX7_cousinsCut_25 : decode cX7_cousinsCut 25 = .ok (.getfield 27, 3) := by decide +kernel
theorem dX7_cousinsCut_28 : decode cX7_cousinsCut 28 = .ok (.iload_n 3, 1) := by decide +kernel
theorem dX7_cousinsCut_29 : decode cX7_cousinsCut 29 = .ok (.iaload, 1) := by decide +kernel
theorem dX7_cousinsCut_30 : decode cX7_cousinsCut 30 = .ok (.iload_n 1, 1) := by decide +kernel
theorem dX7_cousinsCut_31 : decode cX7_cousinsCut 31 = .ok (.iconst (-1), 1) := by decide +kernel
theorem dX7_cousinsCut_32 : decode cX7_cousinsCut 32 = .ok (.ixor, 1) := by decide +kernel
theorem dX7_cousinsCut_33 : decode cX7_cousinsCut 33 = .ok (.iand, 1) := by decide +kernel
theorem dX7_cousinsCut_34 : decode cX7_cousinsCut 34 = .ok (.invokestatic 76, 3) := by decide +kernel
theorem dX7_cousinsCut_37 : decode cX7_cousinsCut 37 = .ok (.imul, 1) := by decide +kernel
theorem dX7_cousinsCut_38 : decode cX7_cousinsCut 38 = .ok (.iadd, 1) := by decide +kernel
theorem dX7_cousinsCut_39 : decode cX7_cousinsCut 39 = .ok (.istore_n 2, 1) := by decide +kernel
theorem dX7_cousinsCut_40 : decode cX7_cousinsCut 40 = .ok (.iinc 3 1, 3) := by decide +kernel
theorem dX7_cousinsCut_43 : decode cX7_cousinsCut 43 = .ok (.goto (-39), 3) := by decide +kernel
theorem dX7_cousinsCut_46 : decode cX7_cousinsCut 46 = .ok (.iload_n 2, 1) := by decide +kernel
theorem dX7_cousinsCut_47 : decode cX7_cousinsCut 47 = .ok (.ireturn, 1) := by decide +kernel
theorem dX7_addSaying_0 : decode cX7_addSaying 0 = .ok (.aload_n 0, 1) := by decide +kernel
theorem dX7_addSaying_1 : decode cX7_addSaying 1 = .ok (.getfield 81, 3) := by decide +kernel
theorem dX7_addSaying_4 : decode cX7_addSaying 4 = .ok (.bipush 20, 2) := by decide +kernel
theorem dX7_addSaying_6 : decode cX7_addSaying 6 = .ok (.if_icmp .lt 6, 3) := by decide +kernel
theorem dX7_addSaying_9 : decode cX7_addSaying 9 = .ok (.bipush (-3), 2) := by decide +kernel
theorem dX7_addSaying_11 : decode cX7_addSaying 11 = .ok (.ireturn, 1) := by decide +kernel
theorem dX7_addSaying_12 : decode cX7_addSaying 12 = .ok (.aload_n 0, 1) := by decide +kernel
theorem dX7_addSaying_13 : decode cX7_addSaying 13 = .ok (.getfield 30, 3) := by decide +kernel
theorem dX7_addSaying_16 : decode cX7_addSaying 16 = .ok (.aload_n 0, 1) := by decide +kernel
theorem dX7_addSaying_17 : decode cX7_addSaying 17 = .ok (.getfield 81, 3) := by decide +kernel
theorem dX7_addSaying_20 : decode cX7_addSaying 20 = .ok (.iload_n 1, 1) := by decide +kernel
theorem dX7_addSaying_21 : decode cX7_addSaying 21 = .ok (.iastore, 1) := by decide +kernel
theorem dX7_addSaying_22 : decode cX7_addSaying 22 = .ok (.aload_n 0, 1) := by decide +kernel
theorem dX7_addSaying_23 : decode cX7_addSaying 23 = .ok (.getfield 33, 3) := by decide +kernel
theorem dX7_addSaying_26 : decode cX7_addSaying 26 = .ok (.aload_n 0, 1) := by decide +kernel
theorem dX7_addSaying_27 : decode cX7_addSaying 27 = .ok (.getfield 81, 3) := by decide +kernel
theorem dX7_addSaying_30 : decode cX7_addSaying 30 = .ok (.iload_n 2, 1) := by decide +kernel
theorem dX7_addSaying_31 : decode cX7_addSaying 31 = .ok (.iastore, 1) := by decide +kernel
theorem dX7_addSaying_32 : decode cX7_addSaying 32 = .ok (.aload_n 0, 1) := by decide +kernel
theorem dX7_addSaying_33 : decode cX7_addSaying 33 = .ok (.getfield 36, 3) := by decide +kernel
theorem dX7_addSaying_36 : decode cX7_addSaying 36 = .ok (.aload_n 0, 1) := by decide +kernel
theorem dX7_addSaying_37 : decode cX7_addSaying 37 = .ok (.getfield 81, 3) := by decide +kernel
theorem dX7_addSaying_40 : decode cX7_addSaying 40 = .ok (.iload_n 3, 1) := by decide +kernel
theorem dX7_addSaying_41 : decode cX7_addSaying 41 = .ok (.iastore, 1) := by decide +kernel
theorem dX7_addSaying_42 : decode cX7_addSaying 42 = .ok (.aload_n 0, 1) := by decide +kernel
theorem dX7_addSaying_43 : decode cX7_addSaying 43 = .ok (.getfield 39, 3) := by decide +kernel
theorem dX7_addSaying_46 : decode cX7_addSaying 46 = .ok (.aload_n 0, 1) := by decide +kernel
theorem dX7_addSaying_47 : decode cX7_addSaying 47 = .ok (.getfield 81, 3) := by decide +kernel
theorem dX7_addSaying_50 : decode cX7_addSaying 50 = .ok (.iload 4, 2) := by decide +kernel
theorem dX7_addSaying_52 : decode cX7_addSaying 52 = .ok (.bastore, 1) := by decide +kernel
theorem dX7_addSaying_53 : decode cX7_addSaying 53 = .ok (.aload_n 0, 1) := by decide +kernel
theorem dX7_addSaying_54 : decode cX7_addSaying 54 = .ok (.dup, 1) := by decide +kernel
theorem dX7_addSaying_55 : decode cX7_addSaying 55 = .ok (.getfield 81, 3) := by decide +kernel
theorem dX7_addSaying_58 : decode cX7_addSaying 58 = .ok (.iconst 1, 1) := by decide +kernel
theorem dX7_addSaying_59 : decode cX7_addSaying 59 = .ok (.iadd, 1) := by decide +kernel
theorem dX7_addSaying_60 : decode cX7_addSaying 60 = .ok (.putfield 81, 3) := by decide +kernel
theorem dX7_addSaying_63 : decode cX7_addSaying 63 = .ok (.aload_n 0, 1) := by decide +kernel
theorem dX7_addSaying_64 : decode cX7_addSaying 64 = .ok (.getfield 81, 3) := by decide +kernel
theorem dX7_addSaying_67 : decode cX7_addSaying 67 = .ok (.ireturn, 1) := by decide +kernel
theorem dX7_isSaying_0 : decode cX7_isSaying 0 = .ok (.aload_n 0, 1) := by decide +kernel
theorem dX7_isSaying_1 : decode cX7_isSaying 1 = .ok (.getfield 33, 3) := by decide +kernel
theorem dX7_isSaying_4 : decode cX7_isSaying 4 = .ok (.iload_n 1, 1) := by decide +kernel
theorem dX7_isSaying_5 : decode cX7_isSaying 5 = .ok (.iaload, 1) := by decide +kernel
theorem dX7_isSaying_6 : decode cX7_isSaying 6 = .ok (.iload_n 2, 1) := by decide +kernel
theorem dX7_isSaying_7 : decode cX7_isSaying 7 = .ok (.if_icmp .ne 17, 3) := by decide +kernel
theorem dX7_isSaying_10 : decode cX7_isSaying 10 = .ok (.aload_n 0, 1) := by decide +kernel
theorem dX7_isSaying_11 : decode cX7_isSaying 11 = .ok (.getfield 36, 3) := by decide +kernel
theorem dX7_isSaying_14 : decode cX7_isSaying 14 = .ok (.iload_n 1, 1) := by decide +kernel
theorem dX7_isSaying_15 : decode cX7_isSaying 15 = .ok (.iaload, 1) := by decide +kernel
theorem dX7_isSaying_16 : decode cX7_isSaying 16 = .ok (.iload_n 3, 1) := by decide +kernel
theorem dX7_isSaying_17 : decode cX7_isSaying 17 = .ok (.if_icmp .ne 7, 3) := by decide +kernel
theorem dX7_isSaying_20 : decode cX7_isSaying 20 = .ok (.iconst 1, 1) := by decide +kernel
theorem dX7_isSaying_21 : decode cX7_isSaying 21 = .ok (.goto 4, 3) := by decide +kernel
theorem dX7_isSaying_24 : decode cX7_isSaying 24 = .ok (.iconst 0, 1) := by decide +kernel
theorem dX7_isSaying_25 : decode cX7_isSaying 25 = .ok (.ireturn, 1) := by decide +kernel
set_option maxRecDepth 20000 in
theorem ggX7_isSaidToBe_X7_isSaying : GoodIn wsX7_isSaidToBe wsX7_isSaying := goodIn_r _ [7, 8, 9, 10, 11, 12, 13, 14, 15, 16, 17, 18, 19, 20, 21] (by decide +kernel) (by decide +kernel)
set_option maxRecDepth 20000 in
theorem gX7_isSaidToBe_X7_isSaying : GoodIn wsX7_isSaidToBe (wsV RX7 84 RX7 yX7_isSaying wsX7_isSaying) := goodIn_app (goodIn_of _ (by decide +kernel)) ggX7_isSaidToBe_X7_isSaying
theorem dX7_isSaidToBe_0 : decode cX7_isSaidToBe 0 = .ok (.aload_n 0, 1) := by decide +kernel
theorem dX7_isSaidToBe_1 : decode cX7_isSaidToBe 1 = .ok (.getfield 81, 3) := by decide +kernel
theorem dX7_isSaidToBe_4 : decode cX7_isSaidToBe 4 = .ok (.iconst 1, 1) := by decide +kernel
theorem dX7_isSaidToBe_5 : decode cX7_isSaidToBe 5 = .ok (.isub, 1) := by decide +kernel
theorem dX7_isSaidToBe_6 : decode cX7_isSaidToBe 6 = .ok (.istore_n 3, 1) := by decide +kernel
theorem dX7_isSaidToBe_7 : decode cX7_isSaidToBe 7 = .ok (.iload_n 3, 1) := by decide +kernel
theorem dX7_isSaidToBe_8 : decode cX7_isSaidToBe 8 = .ok (.ifCond .lt 26, 3) := by decide +kernel
theorem dX7_isSaidToBe_11 : decode cX7_isSaidToBe 11 = .ok (.aload_n 0, 1) := by decide +kernel
theorem dX7_isSaidToBe_12 : decode cX7_isSaidToBe 12 = .ok (.iload_n 3, 1) := by decide +kernel
theorem dX7_isSaidToBe_13 : decode cX7_isSaidToBe 13 = .ok (.iload_n 1, 1) := by decide +kernel
theorem dX7_isSaidToBe_14 : decode cX7_isSaidToBe 14 = .ok (.iload_n 2, 1) := by decide +kernel
theorem dX7_isSaidToBe_15 : decode cX7_isSaidToBe 15 = .ok (.invokevirtual 84, 3) := by decide +kernel
theorem dX7_isSaidToBe_18 : decode cX7_isSaidToBe 18 = .ok (.ifCond .eq 10, 3) := by decide +kernel
theorem dX7_isSaidToBe_21 : decode cX7_isSaidToBe 21 = .ok (.aload_n 0, 1) := by decide +kernel
theorem dX7_isSaidToBe_22 : decode cX7_isSaidToBe 22 = .ok (.getfield 39, 3) := by decide +kernel
theorem dX7_isSaidToBe_25 : decode cX7_isSaidToBe 25 = .ok (.iload_n 3, 1) := by decide +kernel
theorem dX7_isSaidToBe_26 : decode cX7_isSaidToBe 26 = .ok (.baload, 1) := by decide +kernel
theorem dX7_isSaidToBe_27 : decode cX7_isSaidToBe 27 = .ok (.ireturn, 1) := by decide +kernel
theorem dX7_isSaidToBe_28 : decode cX7_isSaidToBe 28 = .ok (.iinc 3 (-1), 3) := by decide +kernel
theorem dX7_isSaidToBe_31 : decode cX7_isSaidToBe 31 = .ok (.goto (-24), 3) := by decide +kernel
theorem dX7_isSaidToBe_34 : decode cX7_isSaidToBe 34 = .ok (.iconst 0, 1) := by decide +kernel
theorem dX7_isSaidToBe_35 : decode cX7_isSaidToBe 35 = .ok (.ireturn, 1) := by decide +kernel
set_option maxRecDepth 20000 in
theorem ggX7_pairsAtOdds_X7_isSaying : GoodIn wsX7_pairsAtOdds wsX7_isSaying := goodIn_r _ [8, 9, 10, 14, 15, 16, 17, 18, 19, 20, 21, 22, 23, 24, 25] (by decide +kernel) (by decide +kernel)
set_option maxRecDepth 20000 in
theorem gX7_pairsAtOdds_X7_isSaying : GoodIn wsX7_pairsAtOdds (wsV RX7 84 RX7 yX7_isSaying wsX7_isSaying) := goodIn_app (goodIn_of _ (by decide +kernel)) ggX7_pairsAtOdds_X7_isSaying
set_option maxRecDepth 20000 in
theorem ggX7_pairsAtOdds_X11_hasBit : GoodIn wsX7_pairsAtOdds wsX11_hasBit := goodIn_r _ [13] (by decide +kernel) (by decide +kernel)
set_option maxRecDepth 20000 in
theorem gX7_pairsAtOdds_X11_hasBit_n60 : GoodIn wsX7_pairsAtOdds (wsX11_hasBit) := ggX7_pairsAtOdds_X11_hasBit
theorem dX7_pairsAtOdds_0 : decode cX7_pairsAtOdds 0 = .ok (.iconst 0, 1) := by decide +kernel
theorem dX7_pairsAtOdds_1 : decode cX7_pairsAtOdds 1 = .ok (.istore_n 3, 1) := by decide +kernel
theorem dX7_pairsAtOdds_2 : decode cX7_pairsAtOdds 2 = .ok (.iconst 0, 1) := by decide +kernel
theorem dX7_pairsAtOdds_3 : decode cX7_pairsAtOdds 3 = .ok (.istore 4, 2) := by decide +kernel
theorem dX7_pairsAtOdds_5 : decode cX7_pairsAtOdds 5 = .ok (.iconst 0, 1) := by decide +kernel
theorem dX7_pairsAtOdds_6 : decode cX7_pairsAtOdds 6 = .ok (.istore 5, 2) := by decide +kernel
theorem dX7_pairsAtOdds_8 : decode cX7_pairsAtOdds 8 = .ok (.aload_n 0, 1) := by decide +kernel
theorem dX7_pairsAtOdds_9 : decode cX7_pairsAtOdds 9 = .ok (.getfield 81, 3) := by decide +kernel
theorem dX7_pairsAtOdds_12 : decode cX7_pairsAtOdds 12 = .ok (.iconst 1, 1) := by decide +kernel
theorem dX7_pairsAtOdds_13 : decode cX7_pairsAtOdds 13 = .ok (.isub, 1) := by decide +kernel
theorem dX7_pairsAtOdds_14 : decode cX7_pairsAtOdds 14 = .ok (.istore 6, 2) := by decide +kernel
theorem dX7_pairsAtOdds_16 : decode cX7_pairsAtOdds 16 = .ok (.iload 6, 2) := by decide +kernel
theorem dX7_pairsAtOdds_18 : decode cX7_pairsAtOdds 18 = .ok (.ifCond .lt 86, 3) := by decide +kernel
theorem dX7_pairsAtOdds_21 : decode cX7_pairsAtOdds 21 = .ok (.aload_n 0, 1) := by decide +kernel
theorem dX7_pairsAtOdds_22 : decode cX7_pairsAtOdds 22 = .ok (.iload 6, 2) := by decide +kernel
theorem dX7_pairsAtOdds_24 : decode cX7_pairsAtOdds 24 = .ok (.iload_n 1, 1) := by decide +kernel
theorem dX7_pairsAtOdds_25 : decode cX7_pairsAtOdds 25 = .ok (.iload_n 2, 1) := by decide +kernel
theorem dX7_pairsAtOdds_26 : decode cX7_pairsAtOdds 26 = .ok (.invokevirtual 84, 3) := by decide +kernel
theorem dX7_pairsAtOdds_29 : decode cX7_pairsAtOdds 29 = .ok (.ifCond .eq 69, 3) := by decide +kernel
theorem dX7_pairsAtOdds_32 : decode cX7_pairsAtOdds 32 = .ok (.iload_n 3, 1) := by decide +kernel
theorem dX7_pairsAtOdds_33 : decode cX7_pairsAtOdds 33 = .ok (.aload_n 0, 1) := by decide +kernel
theorem dX7_pairsAtOdds_34 : decode cX7_pairsAtOdds 34 = .ok (.getfield 30, 3) := by decide +kernel
theorem dX7_pairsAtOdds_37 : decode cX7_pairsAtOdds 37 = .ok (.iload 6, 2) := by decide +kernel
theorem dX7_pairsAtOdds_39 : decode cX7_pairsAtOdds 39 = .ok (.iaload, 1) := by decide +kernel
theorem dX7_pairsAtOdds_40 : decode cX7_pairsAtOdds 40 = .ok (.invokestatic 60, 3) := by decide +kernel
theorem dX7_pairsAtOdds_43 : decode cX7_pairsAtOdds 43 = .ok (.ifCond .ne 55, 3) := by decide +kernel
theorem dX7_pairsAtOdds_46 : decode cX7_pairsAtOdds 46 = .ok (.iload_n 3, 1) := by decide +kernel
theorem dX7_pairsAtOdds_47 : decode cX7_pairsAtOdds 47 = .ok (.iconst 1, 1) := by decide +kernel
theorem dX7_pairsAtOdds_48 : decode cX7_pairsAtOdds 48 = .ok (.aload_n 0, 1) := by decide +kernel
theorem dX7_pairsAtOdds_49 : decode cX7_pairsAtOdds 49 = .ok (.getfield 30, 3) := by decide +kernel
theorem dX7_pairsAtOdds_52 : decode cX7_pairsAtOdds 52 = .ok (.iload 6, 2) := by decide +kernel
theorem dX7_pairsAtOdds_54 : decode cX7_pairsAtOdds 54 = .ok (.iaload, 1) := by decide +kernel
theorem dX7_pairsAtOdds_55 : decode cX7_pairsAtOdds 55 = .ok (.ishl, 1) := by decide +kernel
theorem dX7_pairsAtOdds_56 : decode cX7_pairsAtOdds 56 = .ok (.ior, 1) := by decide +kernel
theorem dX7_pairsAtOdds_57 : decode cX7_pairsAtOdds 57 = .ok (.istore_n 3, 1) := by decide +kernel
theorem dX7_pairsAtOdds_58 : decode cX7_pairsAtOdds 58 = .ok (.iload 4, 2) := by decide +kernel
theorem dX7_pairsAtOdds_60 : decode cX7_pairsAtOdds 60 = .ok (.aload_n 0, 1) := by decide +kernel
theorem dX7_pairsAtOdds_61 : decode cX7_pairsAtOdds 61 = .ok (.getfield 39, 3) := by decide +kernel
theorem dX7_pairsAtOdds_64 : decode cX7_pairsAtOdds 64 = .ok (.iload 6, 2) := by decide +kernel
theorem dX7_pairsAtOdds_66 : decode cX7_pairsAtOdds 66 = .ok (.baload, 1) := by decide +kernel
theorem dX7_pairsAtOdds_67 : decode cX7_pairsAtOdds 67 = .ok (.ifCond .eq 7, 3) := by decide +kernel
theorem dX7_pairsAtOdds_70 : decode cX7_pairsAtOdds 70 = .ok (.iconst 1, 1) := by decide +kernel
theorem dX7_pairsAtOdds_71 : decode cX7_pairsAtOdds 71 = .ok (.goto 4, 3) := by decide +kernel
theorem dX7_pairsAtOdds_74 : decode cX7_pairsAtOdds 74 = .ok (.iconst 0, 1) := by decide +kernel
theorem dX7_pairsAtOdds_75 : decode cX7_pairsAtOdds 75 = .ok (.iadd, 1) := by decide +kernel
theorem dX7_pairsAtOdds_76 : decode cX7_pairsAtOdds 76 = .ok (.istore 4, 2) := by decide +kernel
theorem dX7_pairsAtOdds_78 : decode cX7_pairsAtOdds 78 = .ok (.iload 5, 2) := by decide +kernel
theorem dX7_pairsAtOdds_80 : decode cX7_pairsAtOdds 80 = .ok (.aload_n 0, 1) := by decide +kernel
theorem dX7_pairsAtOdds_81 : decode cX7_pairsAtOdds 81 = .ok (.getfield 39, 3) := by decide +kernel
theorem dX7_pairsAtOdds_84 : decode cX7_pairsAtOdds 84 = .ok (.iload 6, 2) := by decide +kernel
theorem dX7_pairsAtOdds_86 : decode cX7_pairsAtOdds 86 = .ok (.baload, 1) := by decide +kernel
theorem dX7_pairsAtOdds_87 : decode cX7_pairsAtOdds 87 = .ok (.ifCond .eq 7, 3) := by decide +kernel
theorem dX7_pairsAtOdds_90 : decode cX7_pairsAtOdds 90 = .ok (.iconst 0, 1) := by decide +kernel
theorem dX7_pairsAtOdds_91 : decode cX7_pairsAtOdds 91 = .ok (.goto 4, 3) := by decide +kernel
theorem dX7_pairsAtOdds_94 : decode cX7_pairsAtOdds 94 = .ok (.iconst 1, 1) := by decide +kernel
theorem dX7_pairsAtOdds_95 : decode cX7_pairsAtOdds 95 = .ok (.iadd, 1) := by decide +kernel
theorem dX7_pairsAtOdds_96 : decode cX7_pairsAtOdds 96 = .ok (.istore 5, 2) := by decide +kernel
theorem dX7_pairsAtOdds_98 : decode cX7_pairsAtOdds 98 = .ok (.iinc 6 (-1), 3) := by decide +kernel
theorem dX7_pairsAtOdds_101 : decode cX7_pairsAtOdds 101 = .ok (.goto (-85), 3) := by decide +kernel
theorem dX7_pairsAtOdds_104 : decode cX7_pairsAtOdds 104 = .ok (.iload 4, 2) := by decide +kernel
theorem dX7_pairsAtOdds_106 : decode cX7_pairsAtOdds 106 = .ok (.iload 5, 2) := by decide +kernel
theorem dX7_pairsAtOdds_108 : decode cX7_pairsAtOdds 108 = .ok (.imul, 1) := by decide +kernel
theorem dX7_pairsAtOdds_109 : decode cX7_pairsAtOdds 109 = .ok (.ireturn, 1) := by decide +kernel
theorem dX8_init_0 : decode cX8_init 0 = .ok (.aload_n 0, 1) := by decide +kernel
theorem dX8_init_1 : decode cX8_init 1 = .ok (.invokespecial 3, 3) := by decide +kernel
theorem dX8_init_4 : decode cX8_init 4 = .ok (.aload_n 0, 1) := by decide +kernel
theorem dX8_init_5 : decode cX8_init 5 = .ok (.bipush 8, 2) := by decide +kernel
theorem dX8_init_7 : decode cX8_init 7 = .ok (.newarray .int, 2) := by decide +kernel
theorem dX8_init_9 : decode cX8_init 9 = .ok (.putfield 9, 3) := by decide +kernel
theorem dX8_init_12 : decode cX8_init 12 = .ok (.aload_n 0, 1) := by decide +kernel
theorem dX8_init_13 : decode cX8_init 13 = .ok (.bipush 8, 2) := by decide +kernel
theorem dX8_init_15 : decode cX8_init 15 = .ok (.newarray .int, 2) := by decide +kernel
theorem dX8_init_17 : decode cX8_init 17 = .ok (.putfield 15, 3) := by decide +kernel
theorem dX8_init_20 : decode cX8_init 20 = .ok (.return_, 1) := by decide +kernel
theorem dX8_add_0 : decode cX8_add 0 = .ok (.aload_n 0, 1) := by decide +kernel
theorem dX8_add_1 : decode cX8_add 1 = .ok (.getfield 18, 3) := by decide +kernel
theorem dX8_add_4 : decode cX8_add 4 = .ok (.bipush 8, 2) := by decide +kernel
theorem dX8_add_6 : decode cX8_add 6 = .ok (.if_icmp .lt 6, 3) := by decide +kernel
theorem dX8_add_9 : decode cX8_add 9 = .ok (.bipush (-3), 2) := by decide +kernel
theorem dX8_add_11 : decode cX8_add 11 = .ok (.ireturn, 1) := by decide +kernel
theorem dX8_add_12 : decode cX8_add 12 = .ok (.aload_n 0, 1) := by decide +kernel
theorem dX8_add_13 : decode cX8_add 13 = .ok (.getfield 9, 3) := by decide +kernel
theorem dX8_add_16 : decode cX8_add 16 = .ok (.aload_n 0, 1) := by decide +kernel
theorem dX8_add_17 : decode cX8_add 17 = .ok (.getfield 18, 3) := by decide +kernel
theorem dX8_add_20 : decode cX8_add 20 = .ok (.iload_n 1, 1) := by decide +kernel
theorem dX8_add_21 : decode cX8_add 21 = .ok (.iastore, 1) := by decide +kernel
theorem dX8_add_22 : decode cX8_add 22 = .ok (.aload_n 0, 1) := by decide +kernel
theorem dX8_add_23 : decode cX8_add 23 = .ok (.getfield 15, 3) := by decide +kernel
theorem dX8_add_26 : decode cX8_add 26 = .ok (.aload_n 0, 1) := by decide +kernel
theorem dX8_add_27 : decode cX8_add 27 = .ok (.getfield 18, 3) := by decide +kernel
theorem dX8_add_30 : decode cX8_add 30 = .ok (.iload_n 2, 1) := by decide +kernel
theorem dX8_add_31 : decode cX8_add 31 = .ok (.iastore, 1) := by decide +kernel
theorem dX8_add_32 : decode cX8_add 32 = .ok (.aload_n 0, 1) := by decide +kernel
theorem dX8_add_33 : decode cX8_add 33 = .ok (.dup, 1) := by decide +kernel
theorem dX8_add_34 : decode cX8_add 34 = .ok (.getfield 18, 3) := by decide +kernel
theorem dX8_add_37 : decode cX8_add 37 = .ok (.iconst 1, 1) := by decide +kernel
theorem dX8_add_38 : decode cX8_add 38 = .ok (.iadd, 1) := by decide +kernel
theorem dX8_add_39 : decode cX8_add 39 = .ok (.putfield 18, 3) := by decide +kernel
theorem dX8_add_42 : decode cX8_add 42 = .ok (.aload_n 0, 1) := by decide +kernel
theorem dX8_add_43 : decode cX8_add 43 = .ok (.getfield 18, 3) := by decide +kernel
theorem dX8_add_46 : decode cX8_add 46 = .ok (.iconst 1, 1) := by decide +kernel
theorem dX8_add_47 : decode cX8_add 47 = .ok (.isub, 1) := by decide +kernel
theorem dX8_add_48 : decode cX8_add 48 = .ok (.ireturn, 1) := by decide +kernel
theorem dX8_toppingOf_0 : decode cX8_toppingOf 0 = .ok (.iconst 0, 1) := by decide +kernel
theorem dX8_toppingOf_1 : decode cX8_toppingOf 1 = .ok (.istore_n 2, 1) := by decide +kernel
theorem dX8_toppingOf_2 : decode cX8_toppingOf 2 = .ok (.iload_n 1, 1) := by decide +kernel
theorem dX8_toppingOf_3 : decode cX8_toppingOf 3 = .ok (.iconst 1, 1) := by decide +kernel
theorem dX8_toppingOf_4 : decode cX8_toppingOf 4 = .ok (.iadd, 1) := by decide +kernel
theorem dX8_toppingOf_5 : decode cX8_toppingOf 5 = .ok (.istore_n 3, 1) := by decide +kernel
theorem dX8_toppingOf_6 : decode cX8_toppingOf 6 = .ok (.iload_n 3, 1) := by decide +kernel
theorem dX8_toppingOf_7 : decode cX8_toppingOf 7 = .ok (.aload_n 0, 1) := by decide +kernel
theorem dX8_toppingOf_8 : decode cX8_toppingOf 8 = .ok (.getfield 18, 3) := by decide +kernel
theorem dX8_toppingOf_11 : decode cX8_toppingOf 11 = .ok (.if_icmp .ge 28, 3) := by decide +kernel
theorem dX8_toppingOf_14 : decode cX8_toppingOf 14 = .ok (.iload_n 2, 1) := by decide +kernel
theorem dX8_toppingOf_15 : decode cX8_toppingOf 15 = .ok (.aload_n 0, 1) := by decide +kernel
theorem dX8_toppingOf_16 : decode cX8_toppingOf 16 = .ok (.getfield 9, 3) := by decide +kernel
theorem dX8_toppingOf_19 : decode cX8_toppingOf 19 = .ok (.iload_n 3, 1) := by decide +kernel
theorem dX8_toppingOf_20 : decode cX8_toppingOf 20 = .ok (.iaload, 1) := by decide +kernel
theorem dX8_toppingOf_21 : decode cX8_toppingOf 21 = .ok (.aload_n 0, 1) := by decide +kernel
theorem dX8_toppingOf_22 : decode cX8_toppingOf 22 = .ok (.getfield 15, 3) := by decide +kernel
theorem dX8_toppingOf_25 : decode cX8_toppingOf 25 = .ok (.iload_n 1, 1) := by decide +kernel
theorem dX8_toppingOf_26 : decode cX8_toppingOf 26 = .ok (.iaload, 1) := by decide +kernel
theorem dX8_toppingOf_27 : decode cX8_toppingOf 27 = .ok (.imul, 1) := by decide +kernel
theorem dX8_toppingOf_28 : decode cX8_toppingOf 28 = .ok (.bipush 100, 2) := by decide +kernel
theorem dX8_toppingOf_30 : decode cX8_toppingOf 30 = .ok (.idiv, 1) := by decide +kernel
theorem dX8_toppingOf_31 : decode cX8_toppingOf 31 = .ok (.iadd, 1) := by decide +kernel
theorem dX8_toppingOf_32 : decode cX8_toppingOf 32 = .ok (.istore_n 2, 1) := by decide +kernel
theorem dX8_toppingOf_33 : decode cX8_toppingOf 33 = .ok (.iinc 3 1, 3) := by decide +kernel
theorem dX8_toppingOf_36 : decode cX8_toppingOf 36 = .ok (.goto (-30), 3) := by decide +kernel
theorem dX8_toppingOf_39 : decode cX8_toppingOf 39 = .ok (.iload_n 2, 1) := by decide +kernel
theorem dX8_toppingOf_40 : decode cX8_toppingOf 40 = .ok (.ireturn, 1) := by decide +kernel
set_option maxRecDepth 20000 in
theorem ggX8_costOfAll_X8_toppingOf : GoodIn wsX8_costOfAll wsX8_toppingOf := goodIn_r _ [7, 1, 2, 8, 9, 10, 11] (by decide +kernel) (by decide +kernel)
set_option maxRecDepth 20000 in
theorem gX8_costOfAll_X8_toppingOf : GoodIn wsX8_costOfAll (wsV RX8 22 RX8 yX8_toppingOf wsX8_toppingOf) := goodIn_app (goodIn_of _ (by decide +kernel)) ggX8_costOfAll_X8_toppingOf
theorem dX8_costOfAll_0 : decode cX8_costOfAll 0 = .ok (.iconst 0, 1) := by decide +kernel
theorem dX8_costOfAll_1 : decode cX8_costOfAll 1 = .ok (.istore_n 1, 1) := by decide +kernel
theorem dX8_costOfAll_2 : decode cX8_costOfAll 2 = .ok (.iconst 0, 1) := by decide +kernel
theorem dX8_costOfAll_3 : decode cX8_costOfAll 3 = .ok (.istore_n 2, 1) := by decide +kernel
theorem dX8_costOfAll_4 : decode cX8_costOfAll 4 = .ok (.iload_n 2, 1) := by decide +kernel
theorem dX8_costOfAll_5 : decode cX8_costOfAll 5 = .ok (.aload_n 0, 1) := by decide +kernel
theorem dX8_costOfAll_6 : decode cX8_costOfAll 6 = .ok (.getfield 18, 3) := by decide +kernel
theorem dX8_costOfAll_9 : decode cX8_costOfAll 9 = .ok (.if_icmp .ge 24, 3) := by decide +kernel
theorem dX8_costOfAll_12 : decode cX8_costOfAll 12 = .ok (.iload_n 1, 1) := by decide +kernel
theorem dX8_costOfAll_13 : decode cX8_costOfAll 13 = .ok (.aload_n 0, 1) := by decide +kernel
theorem dX8_costOfAll_14 : decode cX8_costOfAll 14 = .ok (.getfield 9, 3) := by decide +kernel
theorem dX8_costOfAll_17 : decode cX8_costOfAll 17 = .ok (.iload_n 2, 1) := by decide +kernel
theorem dX8_costOfAll_18 : decode cX8_costOfAll 18 = .ok (.iaload, 1) := by decide +kernel
theorem dX8_costOfAll_19 : decode cX8_costOfAll 19 = .ok (.aload_n 0, 1) := by decide +kernel
theorem dX8_costOfAll_20 : decode cX8_costOfAll 20 = .ok (.iload_n 2, 1) := by decide +kernel
theorem dX8_costOfAll_21 : decode cX8_costOfAll 21 = .ok (.invokevirtual 22, 3) := by decide +kernel
theorem dX8_costOfAll_24 : decode cX8_costOfAll 24 = .ok (.iadd, 1) := by decide +kernel
theorem dX8_costOfAll_25 : decode cX8_costOfAll 25 = .ok (.iadd, 1) := by decide +kernel
theorem dX8_costOfAll_26 : decode cX8_costOfAll 26 = .ok (.istore_n 1, 1) := by decide +kernel
theorem dX8_costOfAll_27 : decode cX8_costOfAll 27 = .ok (.iinc 2 1, 3) := by decide +kernel
theorem dX8_costOfAll_30 : decode cX8_costOfAll 30 = .ok (.goto (-26), 3) := by decide +kernel
theorem dX8_costOfAll_33 : decode cX8_costOfAll 33 = .ok (.iload_n 1, 1) := by decide +kernel
theorem dX8_costOfAll_34 : decode cX8_costOfAll 34 = .ok (.ireturn, 1) := by decide +kernel
set_option maxRecDepth 20000 in
theorem ggX9_init_X3_init : GoodIn wsX9_init wsX3_init := goodIn_r _ [13, 14, 2, 3] (by decide +kernel) (by decide +kernel)
set_option maxRecDepth 20000 in
theorem gX9_init_X3_init_n21 : GoodIn wsX9_init (wsX3_init) := ggX9_init_X3_init
theorem dX9_init_0 : decode cX9_init 0 = .ok (.aload_n 0, 1) := by decide +kernel
theorem dX9_init_1 : decode cX9_init 1 = .ok (.invokespecial 3, 3) := by decide +kernel
theorem dX9_init_4 : decode cX9_init 4 = .ok (.aload_n 0, 1) := by decide +kernel
theorem dX9_init_5 : decode cX9_init 5 = .ok (.sipush 240, 3) := by decide +kernel
theorem dX9_init_8 : decode cX9_init 8 = .ok (.newarray .byte, 2) := by decide +kernel
theorem dX9_init_10 : decode cX9_init 10 = .ok (.putfield 9, 3) := by decide +kernel
theorem dX9_init_13 : decode cX9_init 13 = .ok (.aload_n 0, 1) := by decide +kernel
theorem dX9_init_14 : decode cX9_init 14 = .ok (.iconst 5, 1) := by decide +kernel
theorem dX9_init_15 : decode cX9_init 15 = .ok (.newarray .int, 2) := by decide +kernel
theorem dX9_init_17 : decode cX9_init 17 = .ok (.putfield 15, 3) := by decide +kernel
theorem dX9_init_20 : decode cX9_init 20 = .ok (.aload_n 0, 1) := by decide +kernel
theorem dX9_init_21 : decode cX9_init 21 = .ok (.new 19, 3) := by decide +kernel
theorem dX9_init_24 : decode cX9_init 24 = .ok (.dup, 1) := by decide +kernel
theorem dX9_init_25 : decode cX9_init 25 = .ok (.invokespecial 21, 3) := by decide +kernel
theorem dX9_init_28 : decode cX9_init 28 = .ok (.putfield 22, 3) := by decide +kernel
theorem dX9_init_31 : decode cX9_init 31 = .ok (.return_, 1) := by decide +kernel
theorem dX9_append_0 : decode cX9_append 0 = .ok (.aload_n 0, 1) := by decide +kernel
theorem dX9_append_1 : decode cX9_append 1 = .ok (.getfield 26, 3) := by decide +kernel
theorem dX9_append_4 : decode cX9_append 4 = .ok (.iload_n 1, 1) := by decide +kernel
theorem dX9_append_5 : decode cX9_append 5 = .ok (.iadd, 1) := by decide +kernel
theorem dX9_append_6 : decode cX9_append 6 = .ok (.sipush 240, 3) := by decide +kernel
theorem dX9_append_9 : decode cX9_append 9 = .ok (.if_icmp .le 6, 3) := by decide +kernel
theorem dX9_append_12 : decode cX9_append 12 = .ok (.bipush (-3), 2) := by decide +kernel
theorem dX9_append_14 : decode cX9_append 14 = .ok (.ireturn, 1) := by decide +kernel
theorem dX9_append_15 : decode cX9_append 15 = .ok (.iload_n 1, 1) := by decide +kernel
theorem dX9_append_16 : decode cX9_append 16 = .ok (.iconst 1, 1) := by decide +kernel
theorem dX9_append_17 : decode cX9_append 17 = .ok (.isub, 1) := by decide +kernel
theorem dX9_append_18 : decode cX9_append 18 = .ok (.istore 4, 2) := by decide +kernel
theorem dX9_append_20 : decode cX9_append 20 = .ok (.iload 4, 2) := by decide +kernel
theorem dX9_append_22 : decode cX9_append 22 = .ok (.ifCond .lt 37, 3) := by decide +kernel
theorem dX9_append_25 : decode cX9_append 25 = .ok (.aload_n 0, 1) := by decide +kernel
theorem dX9_append_26 : decode cX9_append 26 = .ok (.getfield 9, 3) := by decide +kernel
theorem dX9_append_29 : decode cX9_append 29 = .ok (.aload_n 0, 1) := by decide +kernel
theorem dX9_append_30 : decode cX9_append 30 = .ok (.getfield 26, 3) := by decide +kernel
theorem dX9_append_33 : decode cX9_append 33 = .ok (.lload_n 2, 1) := by decide +kernel
theorem dX9_append_34 : decode cX9_append 34 = .ok (.bipush 8, 2) := by decide +kernel
theorem dX9_append_36 : decode cX9_append 36 = .ok (.iload 4, 2) := by decide +kernel
theorem dX9_append_38 : decode cX9_append 38 = .ok (.imul, 1) := by decide +kernel
theorem dX9_append_39 : decode cX9_append 39 = .ok (.lshr, 1) := by decide +kernel
theorem dX9_append_40 : decode cX9_append 40 = .ok (.l2i, 1) := by decide +kernel
theorem dX9_append_41 : decode cX9_append 41 = .ok (.i2b, 1) := by decide +kernel
theorem dX9_append_42 : decode cX9_append 42 = .ok (.bastore, 1) := by decide +kernel
theorem dX9_append_43 : decode cX9_append 43 = .ok (.aload_n 0, 1) := by decide +kernel
theorem dX9_append_44 : decode cX9_append 44 = .ok (.dup, 1) := by decide +kernel
theorem dX9_append_45 : decode cX9_append 45 = .ok (.getfield 26, 3) := by decide +kernel
theorem dX9_append_48 : decode cX9_append 48 = .ok (.iconst 1, 1) := by decide +kernel
theorem dX9_append_49 : decode cX9_append 49 = .ok (.iadd, 1) := by decide +kernel
theorem dX9_append_50 : decode cX9_append 50 = .ok (.putfield 26, 3) := by decide +kernel
theorem dX9_append_53 : decode cX9_append 53 = .ok (.iinc 4 (-1), 3) := by decide +kernel
theorem dX9_append_56 : decode cX9_append 56 = .ok (.goto (-36), 3) := by decide +kernel
theorem dX9_append_59 : decode cX9_append 59 = .ok (.aload_n 0, 1) := by decide +kernel
theorem dX9_append_60 : decode cX9_append 60 = .ok (.getfield 26, 3) := by decide +kernel
theorem dX9_append_63 : decode cX9_append 63 = .ok (.ireturn, 1) := by decide +kernel
theorem dX9_clear_0 : decode cX9_clear 0 = .ok (.aload_n 0, 1) := by decide +kernel
theorem dX9_clear_1 : decode cX9_clear 1 = .ok (.getfield 26, 3) := by decide +kernel
theorem dX9_clear_4 : decode cX9_clear 4 = .ok (.istore_n 1, 1) := by decide +kernel
theorem dX9_clear_5 : decode cX9_clear 5 = .ok (.aload_n 0, 1) := by decide +kernel
theorem dX9_clear_6 : decode cX9_clear 6 = .ok (.iconst 0, 1) := by decide +kernel
theorem dX9_clear_7 : decode cX9_clear 7 = .ok (.putfield 26, 3) := by decide +kernel
theorem dX9_clear_10 : decode cX9_clear 10 = .ok (.iload_n 1, 1) := by decide +kernel
theorem dX9_clear_11 : decode cX9_clear 11 = .ok (.ireturn, 1) := by decide +kernel
set_option maxRecDepth 20000 in
theorem ggX9_firstFault_X9_read : GoodIn wsX9_firstFault wsX9_read := goodIn_r _ [7, 8, 9, 10, 11, 6, 12, 1, 13, 14, 15, 16, 17, 18, 19, 20, 21, 22, 23, 24, 25, 26, 27, 28, 29, 30, 31, 32, 33, 34, 35, 36, 37, 38, 39, 40, 41, 42, 43, 44, 45, 46, 47, 48, 49, 50, 51, 52, 53, 54, 55, 56, 57, 58, 59, 60] (by decide +kernel) (by decide +kernel)
set_option maxRecDepth 20000 in
theorem gX9_firstFault_X9_read : GoodIn wsX9_firstFault (wsV RX9 30 RX9 yX9_read wsX9_read) := goodIn_app (goodIn_of _ (by decide +kernel)) ggX9_firstFault_X9_read
theorem dX9_firstFault_0 : decode cX9_firstFault 0 = .ok (.iconst 0, 1) := by decide +kernel
theorem dX9_firstFault_1 : decode cX9_firstFault 1 = .ok (.istore_n 1, 1) := by decide +kernel
theorem dX9_firstFault_2 : decode cX9_firstFault 2 = .ok (.iconst 0, 1) := by decide +kernel
theorem dX9_firstFault_3 : decode cX9_firstFault 3 = .ok (.istore_n 2, 1) := by decide +kernel
theorem dX9_firstFault_4 : decode cX9_firstFault 4 = .ok (.iload_n 2, 1) := by decide +kernel
theorem dX9_firstFault_5 : decode cX9_firstFault 5 = .ok (.sipush 240, 3) := by decide +kernel
theorem dX9_firstFault_8 : decode cX9_firstFault 8 = .ok (.if_icmp .ge 35, 3) := by decide +kernel
theorem dX9_firstFault_11 : decode cX9_firstFault 11 = .ok (.iload_n 1, 1) := by decide +kernel
theorem dX9_firstFault_12 : decode cX9_firstFault 12 = .ok (.aload_n 0, 1) := by decide +kernel
theorem dX9_firstFault_13 : decode cX9_firstFault 13 = .ok (.getfield 26, 3) := by decide +kernel
theorem dX9_firstFault_16 : decode cX9_firstFault 16 = .ok (.if_icmp .ge 27, 3) := by decide +kernel
theorem dX9_firstFault_19 : decode cX9_firstFault 19 = .ok (.aload_n 0, 1) := by decide +kernel
theorem dX9_firstFault_20 : decode cX9_firstFault 20 = .ok (.iload_n 1, 1) := by decide +kernel
theorem dX9_firstFault_21 : decode cX9_firstFault 21 = .ok (.aload_n 0, 1) := by decide +kernel
theorem dX9_firstFault_22 : decode cX9_firstFault 22 = .ok (.getfield 22, 3) := by decide +kernel
theorem dX9_firstFault_25 : decode cX9_firstFault 25 = .ok (.invokevirtual 30, 3) := by decide +kernel
theorem dX9_firstFault_28 : decode cX9_firstFault 28 = .ok (.istore_n 3, 1) := by decide +kernel
theorem dX9_firstFault_29 : decode cX9_firstFault 29 = .ok (.iload_n 3, 1) := by decide +kernel
theorem dX9_firstFault_30 : decode cX9_firstFault 30 = .ok (.ifCond .ge 5, 3) := by decide +kernel
theorem dX9_firstFault_33 : decode cX9_firstFault 33 = .ok (.iload_n 1, 1) := by decide +kernel
theorem dX9_firstFault_34 : decode cX9_firstFault 34 = .ok (.ireturn, 1) := by decide +kernel
theorem dX9_firstFault_35 : decode cX9_firstFault 35 = .ok (.iload_n 3, 1) := by decide +kernel
theorem dX9_firstFault_36 : decode cX9_firstFault 36 = .ok (.istore_n 1, 1) := by decide +kernel
theorem dX9_firstFault_37 : decode cX9_firstFault 37 = .ok (.iinc 2 1, 3) := by decide +kernel
theorem dX9_firstFault_40 : decode cX9_firstFault 40 = .ok (.goto (-36), 3) := by decide +kernel
theorem dX9_firstFault_43 : decode cX9_firstFault 43 = .ok (.bipush (-4), 2) := by decide +kernel
theorem dX9_firstFault_45 : decode cX9_firstFault 45 = .ok (.ireturn, 1) := by decide +kernel
set_option maxRecDepth 20000 in
theorem ggX9_read_X9_signAt : GoodIn wsX9_read wsX9_signAt := goodIn_r _ [6, 7, 8, 9, 10, 11, 46, 47, 48, 49] (by decide +kernel) (by decide +kernel)
set_option maxRecDepth 20000 in
theorem gX9_read_X9_signAt : GoodIn wsX9_read (wsV RX9 34 RX9 yX9_signAt wsX9_signAt) := goodIn_app (goodIn_of _ (by decide +kernel)) ggX9_read_X9_signAt
set_option maxRecDepth 20000 in
theorem ggX9_read_X9_figuresAt : GoodIn wsX9_read wsX9_figuresAt := goodIn_r _ [15, 2, 3, 4, 5, 6, 7, 8, 9, 10, 11, 46, 47, 48, 49] (by decide +kernel) (by decide +kernel)
set_option maxRecDepth 20000 in
theorem gX9_read_X9_figuresAt : GoodIn wsX9_read (wsV RX9 38 RX9 yX9_figuresAt wsX9_figuresAt) := goodIn_app (goodIn_of _ (by decide +kernel)) ggX9_read_X9_figuresAt
set_option maxRecDepth 20000 in
theorem ggX9_read_X9_numberAt : GoodIn wsX9_read wsX9_numberAt := goodIn_r _ [19, 2, 3, 4, 5, 6, 7, 8, 9, 10, 11, 46, 47, 48, 49] (by decide +kernel) (by decide +kernel)
set_option maxRecDepth 20000 in
theorem gX9_read_X9_numberAt : GoodIn wsX9_read (wsV RX9 41 RX9 yX9_numberAt wsX9_numberAt) := goodIn_app (goodIn_of _ (by decide +kernel)) ggX9_read_X9_numberAt
set_option maxRecDepth 20000 in
theorem ggX9_read_X3_fill : GoodIn wsX9_read wsX3_fill := goodIn_r _ [24, 25, 26, 27, 28, 29, 30, 31, 32, 33, 23, 34, 50, 51, 52, 53, 54, 55] (by decide +kernel) (by decide +kernel)
set_option maxRecDepth 20000 in
theorem gX9_read_X3_fill : GoodIn wsX9_read (wsV RX9 45 RX3 yX3_fill wsX3_fill) := goodIn_app (goodIn_of _ (by decide +kernel)) ggX9_read_X3_fill
set_option maxRecDepth 20000 in
theorem ggX9_read_X3_isInBounds : GoodIn wsX9_read wsX3_isInBounds := goodIn_r _ [38, 26, 27, 29, 28, 30, 31, 32, 33, 23, 34, 25, 39, 10, 40, 41, 9, 11, 42, 43, 44, 45, 50, 51, 52, 53, 54, 55] (by decide +kernel) (by decide +kernel)
set_option maxRecDepth 20000 in
theorem gX9_read_X3_isInBounds : GoodIn wsX9_read (wsV RX9 49 RX3 yX3_isInBounds wsX3_isInBounds) := goodIn_app (goodIn_of _ (by decide +kernel)) ggX9_read_X3_isInBounds
theorem dX9_read_0 : decode cX9_read 0 = .ok (.aload_n 0, 1) := by decide +kernel
theorem dX9_read_1 : decode cX9_read 1 = .ok (.iload_n 1, 1) := by decide +kernel
theorem dX9_read_2 : decode cX9_read 2 = .ok (.invokevirtual 34, 3) := by decide +kernel
theorem dX9_read_5 : decode cX9_read 5 = .ok (.istore_n 3, 1) := by decide +kernel
theorem dX9_read_6 : decode cX9_read 6 = .ok (.iload_n 3, 1) := by decide +kernel
theorem dX9_read_7 : decode cX9_read 7 = .ok (.bipush 119, 2) := by decide +kernel
theorem dX9_read_9 : decode cX9_read 9 = .ok (.if_icmp .ne 7, 3) := by decide +kernel
theorem dX9_read_12 : decode cX9_read 12 = .ok (.iconst 3, 1) := by decide +kernel
theorem dX9_read_13 : decode cX9_read 13 = .ok (.goto 20, 3) := by decide +kernel
theorem dX9_read_16 : decode cX9_read 16 = .ok (.iload_n 3, 1) := by decide +kernel
theorem dX9_read_17 : decode cX9_read 17 = .ok (.bipush 108, 2) := by decide +kernel
theorem dX9_read_19 : decode cX9_read 19 = .ok (.if_icmp .eq 9, 3) := by decide +kernel
theorem dX9_read_22 : decode cX9_read 22 = .ok (.iload_n 3, 1) := by decide +kernel
theorem dX9_read_23 : decode cX9_read 23 = .ok (.bipush 98, 2) := by decide +kernel
theorem dX9_read_25 : decode cX9_read 25 = .ok (.if_icmp .ne 7, 3) := by decide +kernel
theorem dX9_read_28 : decode cX9_read 28 = .ok (.iconst 5, 1) := by decide +kernel
theorem dX9_read_29 : decode cX9_read 29 = .ok (.goto 4, 3) := by decide +kernel
theorem dX9_read_32 : decode cX9_read 32 = .ok (.iconst 0, 1) := by decide +kernel
theorem dX9_read_33 : decode cX9_read 33 = .ok (.istore 4, 2) := by decide +kernel
theorem dX9_read_35 : decode cX9_read 35 = .ok (.iload_n 1, 1) := by decide +kernel
theorem dX9_read_36 : decode cX9_read 36 = .ok (.iconst 1, 1) := by decide +kernel
theorem dX9_read_37 : decode cX9_read 37 = .ok (.iadd, 1) := by decide +kernel
theorem dX9_read_38 : decode cX9_read 38 = .ok (.istore 5, 2) := by decide +kernel
theorem dX9_read_40 : decode cX9_read 40 = .ok (.iconst 0, 1) := by decide +kernel
theorem dX9_read_41 : decode cX9_read 41 = .ok (.istore 6, 2) := by decide +kernel
theorem dX9_read_43 : decode cX9_read 43 = .ok (.iload 6, 2) := by decide +kernel
theorem dX9_read_45 : decode cX9_read 45 = .ok (.iload 4, 2) := by decide +kernel
theorem dX9_read_47 : decode cX9_read 47 = .ok (.if_icmp .ge 79, 3) := by decide +kernel
theorem dX9_read_50 : decode cX9_read 50 = .ok (.iload 5, 2) := by decide +kernel
theorem dX9_read_52 : decode cX9_read 52 = .ok (.aload_n 0, 1) := by decide +kernel
theorem dX9_read_53 : decode cX9_read 53 = .ok (.iload 5, 2) := by decide +kernel
theorem dX9_read_55 : decode cX9_read 55 = .ok (.invokevirtual 38, 3) := by decide +kernel
theorem dX9_read_58 : decode cX9_read 58 = .ok (.iadd, 1) := by decide +kernel
theorem dX9_read_59 : decode cX9_read 59 = .ok (.istore 7, 2) := by decide +kernel
theorem dX9_read_61 : decode cX9_read 61 = .ok (.iload 6, 2) := by decide +kernel
theorem dX9_read_63 : decode cX9_read 63 = .ok (.iload 4, 2) := by decide +kernel
theorem dX9_read_65 : decode cX9_read 65 = .ok (.iconst 1, 1) := by decide +kernel
theorem dX9_read_66 : decode cX9_read 66 = .ok (.isub, 1) := by decide +kernel
theorem dX9_read_67 : decode cX9_read 67 = .ok (.if_icmp .ne 8, 3) := by decide +kernel
theorem dX9_read_70 : decode cX9_read 70 = .ok (.bipush 59, 2) := by decide +kernel
theorem dX9_read_72 : decode cX9_read 72 = .ok (.goto 5, 3) := by decide +kernel
theorem dX9_read_75 : decode cX9_read 75 = .ok (.bipush 44, 2) := by decide +kernel
theorem dX9_read_77 : decode cX9_read 77 = .ok (.istore 8, 2) := by decide +kernel
theorem dX9_read_79 : decode cX9_read 79 = .ok (.iload 7, 2) := by decide +kernel
theorem dX9_read_81 : decode cX9_read 81 = .ok (.iload 5, 2) := by decide +kernel
theorem dX9_read_83 : decode cX9_read 83 = .ok (.if_icmp .eq 14, 3) := by decide +kernel
theorem dX9_read_86 : decode cX9_read 86 = .ok (.aload_n 0, 1) := by decide +kernel
theorem dX9_read_87 : decode cX9_read 87 = .ok (.iload 7, 2) := by decide +kernel
theorem dX9_read_89 : decode cX9_read 89 = .ok (.invokevirtual 34, 3) := by decide +kernel
theorem dX9_read_92 : decode cX9_read 92 = .ok (.iload 8, 2) := by decide +kernel
theorem dX9_read_94 : decode cX9_read 94 = .ok (.if_icmp .eq 5, 3) := by decide +kernel
theorem dX9_read_97 : decode cX9_read 97 = .ok (.iconst (-1), 1) := by decide +kernel
theorem dX9_read_98 : decode cX9_read 98 = .ok (.ireturn, 1) := by decide +kernel
theorem dX9_read_99 : decode cX9_read 99 = .ok (.aload_n 0, 1) := by decide +kernel
theorem dX9_read_100 : decode cX9_read 100 = .ok (.getfield 15, 3) := by decide +kernel
theorem dX9_read_103 : decode cX9_read 103 = .ok (.iload 6, 2) := by decide +kernel
theorem dX9_read_105 : decode cX9_read 105 = .ok (.aload_n 0, 1) := by decide +kernel
theorem dX9_read_106 : decode cX9_read 106 = .ok (.iload 5, 2) := by decide +kernel
theorem dX9_read_108 : decode cX9_read 108 = .ok (.iload 7, 2) := by decide +kernel
theorem dX9_read_110 : decode cX9_read 110 = .ok (.invokevirtual 41, 3) := by decide +kernel
theorem dX9_read_113 : decode cX9_read 113 = .ok (.iastore, 1) := by decide +kernel
theorem dX9_read_114 : decode cX9_read 114 = .ok (.iload 7, 2) := by decide +kernel
theorem dX9_read_116 : decode cX9_read 116 = .ok (.iconst 1, 1) := by decide +kernel
theorem dX9_read_117 : decode cX9_read 117 = .ok (.iadd, 1) := by decide +kernel
theorem dX9_read_118 : decode cX9_read 118 = .ok (.istore 5, 2) := by decide +kernel
theorem dX9_read_120 : decode cX9_read 120 = .ok (.iinc 6 1, 3) := by decide +kernel
theorem dX9_read_123 : decode cX9_read 123 = .ok (.goto (-80), 3) := by decide +kernel
theorem dX9_read_126 : decode cX9_read 126 = .ok (.iload 4, 2) := by decide +kernel
theorem dX9_read_128 : decode cX9_read 128 = .ok (.ifCond .ne 5, 3) := by decide +kernel
theorem dX9_read_131 : decode cX9_read 131 = .ok (.iconst (-1), 1) := by decide +kernel
theorem dX9_read_132 : decode cX9_read 132 = .ok (.ireturn, 1) := by decide +kernel
theorem dX9_read_133 : decode cX9_read 133 = .ok (.aload_n 2, 1) := by decide +kernel
theorem dX9_read_134 : decode cX9_read 134 = .ok (.iload_n 3, 1) := by decide +kernel
theorem dX9_read_135 : decode cX9_read 135 = .ok (.aload_n 0, 1) := by decide +kernel
theorem dX9_read_136 : decode cX9_read 136 = .ok (.getfield 15, 3) := by decide +kernel
theorem dX9_read_139 : decode cX9_read 139 = .ok (.invokevirtual 45, 3) := by decide +kernel
theorem dX9_read_142 : decode cX9_read 142 = .ok (.aload_n 2, 1) := by decide +kernel
theorem dX9_read_143 : decode cX9_read 143 = .ok (.invokevirtual 49, 3) := by decide +kernel
theorem dX9_read_146 : decode cX9_read 146 = .ok (.ifCond .eq 8, 3) := by decide +kernel
theorem dX9_read_149 : decode cX9_read 149 = .ok (.iload 5, 2) := by decide +kernel
theorem dX9_read_151 : decode cX9_read 151 = .ok (.goto 4, 3) := by decide +kernel
theorem dX9_read_154 : decode cX9_read 154 = .ok (.iconst (-1), 1) := by decide +kernel
theorem dX9_read_155 : decode cX9_read 155 = .ok (.ireturn, 1) := by decide +kernel
set_option maxRecDepth 20000 in
theorem ggX9_figuresAt_X9_signAt : GoodIn wsX9_figuresAt wsX9_signAt := goodIn_r _ [5, 6, 7, 8, 9, 10, 11, 12, 13, 14] (by decide +kernel) (by decide +kernel)
set_option maxRecDepth 20000 in
theorem gX9_figuresAt_X9_signAt : GoodIn wsX9_figuresAt (wsV RX9 34 RX9 yX9_signAt wsX9_signAt) := goodIn_app (goodIn_of _ (by decide +kernel)) ggX9_figuresAt_X9_signAt
set_option maxRecDepth 20000 in
theorem ggX9_figuresAt_X11_within : GoodIn wsX9_figuresAt wsX11_within := goodIn_r _ [10] (by decide +kernel) (by decide +kernel)
set_option maxRecDepth 20000 in
theorem gX9_figuresAt_X11_within_n53 : GoodIn wsX9_figuresAt (wsX11_within) := ggX9_figuresAt_X11_within
theorem dX9_figuresAt_0 : decode cX9_figuresAt 0 = .ok (.iconst 0, 1) := by decide +kernel
theorem dX9_figuresAt_1 : decode cX9_figuresAt 1 = .ok (.istore_n 2, 1) := by decide +kernel
theorem dX9_figuresAt_2 : decode cX9_figuresAt 2 = .ok (.iload_n 2, 1) := by decide +kernel
theorem dX9_figuresAt_3 : decode cX9_figuresAt 3 = .ok (.iconst 3, 1) := by decide +kernel
theorem dX9_figuresAt_4 : decode cX9_figuresAt 4 = .ok (.if_icmp .ge 26, 3) := by decide +kernel
theorem dX9_figuresAt_7 : decode cX9_figuresAt 7 = .ok (.aload_n 0, 1) := by decide +kernel
theorem dX9_figuresAt_8 : decode cX9_figuresAt 8 = .ok (.iload_n 1, 1) := by decide +kernel
theorem dX9_figuresAt_9 : decode cX9_figuresAt 9 = .ok (.iload_n 2, 1) := by decide +kernel
theorem dX9_figuresAt_10 : decode cX9_figuresAt 10 = .ok (.iadd, 1) := by decide +kernel
theorem dX9_figuresAt_11 : decode cX9_figuresAt 11 = .ok (.invokevirtual 34, 3) := by decide +kernel
theorem dX9_figuresAt_14 : decode cX9_figuresAt 14 = .ok (.bipush 48, 2) := by decide +kernel
theorem dX9_figuresAt_16 : decode cX9_figuresAt 16 = .ok (.bipush 57, 2) := by decide +kernel
theorem dX9_figuresAt_18 : decode cX9_figuresAt 18 = .ok (.invokestatic 53, 3) := by decide +kernel
theorem dX9_figuresAt_21 : decode cX9_figuresAt 21 = .ok (.ifCond .eq 9, 3) := by decide +kernel
theorem dX9_figuresAt_24 : decode cX9_figuresAt 24 = .ok (.iinc 2 1, 3) := by decide +kernel
theorem dX9_figuresAt_27 : decode cX9_figuresAt 27 = .ok (.goto (-25), 3) := by decide +kernel
theorem dX9_figuresAt_30 : decode cX9_figuresAt 30 = .ok (.iload_n 2, 1) := by decide +kernel
theorem dX9_figuresAt_31 : decode cX9_figuresAt 31 = .ok (.ireturn, 1) := by decide +kernel
set_option maxRecDepth 20000 in
theorem ggX9_numberAt_X9_signAt : GoodIn wsX9_numberAt wsX9_signAt := goodIn_r _ [5, 6, 7, 8, 9, 10, 11, 12, 13, 14] (by decide +kernel) (by decide +kernel)
set_option maxRecDepth 20000 in
theorem gX9_numberAt_X9_signAt : GoodIn wsX9_numberAt (wsV RX9 34 RX9 yX9_signAt wsX9_signAt) := goodIn_app (goodIn_of _ (by decide +kernel)) ggX9_numberAt_X9_signAt
theorem dX9_numberAt_0 : decode cX9_numberAt 0 = .ok (.iconst 0, 1) := by decide +kernel
theorem dX9_numberAt_1 : decode cX9_numberAt 1 = .ok (.istore_n 3, 1) := by decide +kernel
theorem dX9_numberAt_2 : decode cX9_numberAt 2 = .ok (.iload_n 1, 1) := by decide +kernel
theorem dX9_numberAt_3 : decode cX9_numberAt 3 = .ok (.istore 4, 2) := by decide +kernel
theorem dX9_numberAt_5 : decode cX9_numberAt 5 = .ok (.iload 4, 2) := by decide +kernel
theorem dX9_numberAt_7 : decode cX9_numberAt 7 = .ok (.iload_n 2, 1) := by decide +kernel
theorem dX9_numberAt_8 : decode cX9_numberAt 8 = .ok (.if_icmp .ge 24, 3) := by decide +kernel
theorem dX9_numberAt_11 : decode cX9_numberAt 11 = .ok (.bipush 10, 2) := by decide +kernel
theorem dX9_numberAt_13 : decode cX9_numberAt 13 = .ok (.iload_n 3, 1) := by decide +kernel
theorem dX9_numberAt_14 : decode cX9_numberAt 14 = .ok (.imul, 1) := by decide +kernel
theorem dX9_numberAt_15 : decode cX9_numberAt 15 = .ok (.aload_n 0, 1) := by decide +kernel
theorem dX9_numberAt_16 : decode cX9_numberAt 16 = .ok (.iload 4, 2) := by decide +kernel
theorem dX9_numberAt_18 : decode cX9_numberAt 18 = .ok (.invokevirtual 34, 3) := by decide +kernel
theorem dX9_numberAt_21 : decode cX9_numberAt 21 = .ok (.iadd, 1) := by decide +kernel
theorem dX9_numberAt_22 : decode cX9_numberAt 22 = .ok (.bipush 48, 2) := by decide +kernel
theorem dX9_numberAt_24 : decode cX9_numberAt 24 = .ok (.isub, 1) := by decide +kernel
theorem dX9_numberAt_25 : decode cX9_numberAt 25 = .ok (.istore_n 3, 1) := by decide +kernel
theorem dX9_numberAt_26 : decode cX9_numberAt 26 = .ok (.iinc 4 1, 3) := by decide +kernel
theorem dX9_numberAt_29 : decode cX9_numberAt 29 = .ok (.goto (-24), 3) := by decide +kernel
theorem dX9_numberAt_32 : decode cX9_numberAt 32 = .ok (.iload_n 3, 1) := by decide +kernel
theorem dX9_numberAt_33 : decode cX9_numberAt 33 = .ok (.ireturn, 1) := by decide +kernel
set_option maxRecDepth 20000 in
theorem ggX9_signAt_X11_within : GoodIn wsX9_signAt wsX11_within := goodIn_r _ [5] (by decide +kernel) (by decide +kernel)
set_option maxRecDepth 20000 in
theorem gX9_signAt_X11_within_n53 : GoodIn wsX9_signAt (wsX11_within) := ggX9_signAt_X11_within
theorem dX9_signAt_0 : decode cX9_signAt 0 = .ok (.iload_n 1, 1) := by decide +kernel
theorem dX9_signAt_1 : decode cX9_signAt 1 = .ok (.iconst 0, 1) := by decide +kernel
theorem dX9_signAt_2 : decode cX9_signAt 2 = .ok (.aload_n 0, 1) := by decide +kernel
theorem dX9_signAt_3 : decode cX9_signAt 3 = .ok (.getfield 26, 3) := by decide +kernel
theorem dX9_signAt_6 : decode cX9_signAt 6 = .ok (.iconst 1, 1) := by decide +kernel
theorem dX9_signAt_7 : decode cX9_signAt 7 = .ok (.isub, 1) := by decide +kernel
theorem dX9_signAt_8 : decode cX9_signAt 8 = .ok (.invokestatic 53, 3) := by decide +kernel
theorem dX9_signAt_11 : decode cX9_signAt 11 = .ok (.ifCond .eq 12, 3) := by decide +kernel
theorem dX9_signAt_14 : decode cX9_signAt 14 = .ok (.aload_n 0, 1) := by decide +kernel
theorem dX9_signAt_15 : decode cX9_signAt 15 = .ok (.getfield 9, 3) := by decide +kernel
theorem dX9_signAt_18 : decode cX9_signAt 18 = .ok (.iload_n 1, 1) := by decide +kernel
theorem dX9_signAt_19 : decode cX9_signAt 19 = .ok (.baload, 1) := by decide +kernel
theorem dX9_signAt_20 : decode cX9_signAt 20 = .ok (.goto 4, 3) := by decide +kernel
theorem dX9_signAt_23 : decode cX9_signAt 23 = .ok (.iconst 0, 1) := by decide +kernel
theorem dX9_signAt_24 : decode cX9_signAt 24 = .ok (.ireturn, 1) := by decide +kernel
set_option maxRecDepth 20000 in
theorem ggX10_init_X9_init : GoodIn wsX10_init wsX9_init := goodIn_r _ [18, 19, 2, 3, 20, 21, 4, 22, 23, 15, 16, 24, 25, 26, 27, 36, 37, 38, 39, 40, 41, 42, 43, 44, 45] (by decide +kernel) (by decide +kernel)
set_option maxRecDepth 20000 in
theorem gX10_init_X9_init_n23 : GoodIn wsX10_init (wsX9_init) := ggX10_init_X9_init
set_option maxRecDepth 20000 in
theorem ggX10_init_X3_init : GoodIn wsX10_init wsX3_init := goodIn_r _ [26, 27, 2, 3] (by decide +kernel) (by decide +kernel)
set_option maxRecDepth 20000 in
theorem gX10_init_X3_init_n37 : GoodIn wsX10_init (wsX3_init) := ggX10_init_X3_init
theorem dX10_init_0 : decode cX10_init 0 = .ok (.aload_n 0, 1) := by decide +kernel
theorem dX10_init_1 : decode cX10_init 1 = .ok (.invokespecial 3, 3) := by decide +kernel
theorem dX10_init_4 : decode cX10_init 4 = .ok (.aload_n 0, 1) := by decide +kernel
theorem dX10_init_5 : decode cX10_init 5 = .ok (.bipush 20, 2) := by decide +kernel
theorem dX10_init_7 : decode cX10_init 7 = .ok (.newarray .int, 2) := by decide +kernel
theorem dX10_init_9 : decode cX10_init 9 = .ok (.putfield 9, 3) := by decide +kernel
theorem dX10_init_12 : decode cX10_init 12 = .ok (.aload_n 0, 1) := by decide +kernel
theorem dX10_init_13 : decode cX10_init 13 = .ok (.bipush 20, 2) := by decide +kernel
theorem dX10_init_15 : decode cX10_init 15 = .ok (.newarray .int, 2) := by decide +kernel
theorem dX10_init_17 : decode cX10_init 17 = .ok (.putfield 15, 3) := by decide +kernel
theorem dX10_init_20 : decode cX10_init 20 = .ok (.aload_n 0, 1) := by decide +kernel
theorem dX10_init_21 : decode cX10_init 21 = .ok (.bipush 20, 2) := by decide +kernel
theorem dX10_init_23 : decode cX10_init 23 = .ok (.newarray .int, 2) := by decide +kernel
theorem dX10_init_25 : decode cX10_init 25 = .ok (.putfield 18, 3) := by decide +kernel
theorem dX10_init_28 : decode cX10_init 28 = .ok (.aload_n 0, 1) := by decide +kernel
theorem dX10_init_29 : decode cX10_init 29 = .ok (.new 21, 3) := by decide +kernel
theorem dX10_init_32 : decode cX10_init 32 = .ok (.dup, 1) := by decide +kernel
theorem dX10_init_33 : decode cX10_init 33 = .ok (.invokespecial 23, 3) := by decide +kernel
theorem dX10_init_36 : decode cX10_init 36 = .ok (.putfield 24, 3) := by decide +kernel
theorem dX10_init_39 : decode cX10_init 39 = .ok (.aload_n 0, 1) := by decide +kernel
theorem dX10_init_40 : decode cX10_init 40 = .ok (.bipush 34, 2) := by decide +kernel
theorem dX10_init_42 : decode cX10_init 42 = .ok (.anewarray 28, 3) := by decide +kernel
theorem dX10_init_45 : decode cX10_init 45 = .ok (.putfield 30, 3) := by decide +kernel
theorem dX10_init_48 : decode cX10_init 48 = .ok (.aload_n 0, 1) := by decide +kernel
theorem dX10_init_49 : decode cX10_init 49 = .ok (.bipush 8, 2) := by decide +kernel
theorem dX10_init_51 : decode cX10_init 51 = .ok (.newarray .int, 2) := by decide +kernel
theorem dX10_init_53 : decode cX10_init 53 = .ok (.putfield 34, 3) := by decide +kernel
theorem dX10_init_56 : decode cX10_init 56 = .ok (.iconst 0, 1) := by decide +kernel
theorem dX10_init_57 : decode cX10_init 57 = .ok (.istore_n 1, 1) := by decide +kernel
theorem dX10_init_58 : decode cX10_init 58 = .ok (.iload_n 1, 1) := by decide +kernel
theorem dX10_init_59 : decode cX10_init 59 = .ok (.bipush 34, 2) := by decide +kernel
theorem dX10_init_61 : decode cX10_init 61 = .ok (.if_icmp .ge 22, 3) := by decide +kernel
theorem dX10_init_64 : decode cX10_init 64 = .ok (.aload_n 0, 1) := by decide +kernel
theorem dX10_init_65 : decode cX10_init 65 = .ok (.getfield 30, 3) := by decide +kernel
theorem dX10_init_68 : decode cX10_init 68 = .ok (.iload_n 1, 1) := by decide +kernel
theorem dX10_init_69 : decode cX10_init 69 = .ok (.new 28, 3) := by decide +kernel
theorem dX10_init_72 : decode cX10_init 72 = .ok (.dup, 1) := by decide +kernel
theorem dX10_init_73 : decode cX10_init 73 = .ok (.invokespecial 37, 3) := by decide +kernel
theorem dX10_init_76 : decode cX10_init 76 = .ok (.aastore, 1) := by decide +kernel
theorem dX10_init_77 : decode cX10_init 77 = .ok (.iinc 1 1, 3) := by decide +kernel
theorem dX10_init_80 : decode cX10_init 80 = .ok (.goto (-22), 3) := by decide +kernel
theorem dX10_init_83 : decode cX10_init 83 = .ok (.return_, 1) := by decide +kernel
theorem dX10_tell_0 : decode cX10_tell 0 = .ok (.aload_n 0, 1) := by decide +kernel
theorem dX10_tell_1 : decode cX10_tell 1 = .ok (.getfield 38, 3) := by decide +kernel
theorem dX10_tell_4 : decode cX10_tell 4 = .ok (.bipush 20, 2) := by decide +kernel
theorem dX10_tell_6 : decode cX10_tell 6 = .ok (.if_icmp .lt 6, 3) := by decide +kernel
theorem dX10_tell_9 : decode cX10_tell 9 = .ok (.bipush (-3), 2) := by decide +kernel
theorem dX10_tell_11 : decode cX10_tell 11 = .ok (.ireturn, 1) := by decide +kernel
theorem dX10_tell_12 : decode cX10_tell 12 = .ok (.aload_n 0, 1) := by decide +kernel
theorem dX10_tell_13 : decode cX10_tell 13 = .ok (.getfield 9, 3) := by decide +kernel
theorem dX10_tell_16 : decode cX10_tell 16 = .ok (.aload_n 0, 1) := by decide +kernel
theorem dX10_tell_17 : decode cX10_tell 17 = .ok (.getfield 38, 3) := by decide +kernel
theorem dX10_tell_20 : decode cX10_tell 20 = .ok (.iload_n 1, 1) := by decide +kernel
theorem dX10_tell_21 : decode cX10_tell 21 = .ok (.iastore, 1) := by decide +kernel
theorem dX10_tell_22 : decode cX10_tell 22 = .ok (.aload_n 0, 1) := by decide +kernel
theorem dX10_tell_23 : decode cX10_tell 23 = .ok (.getfield 15, 3) := by decide +kernel
theorem dX10_tell_26 : decode cX10_tell 26 = .ok (.aload_n 0, 1) := by decide +kernel
theorem dX10_tell_27 : decode cX10_tell 27 = .ok (.getfield 38, 3) := by decide +kernel
theorem dX10_tell_30 : decode cX10_tell 30 = .ok (.iload_n 2, 1) := by decide +kernel
theorem dX10_tell_31 : decode cX10_tell 31 = .ok (.iastore, 1) := by decide +kernel
theorem dX10_tell_32 : decode cX10_tell 32 = .ok (.aload_n 0, 1) := by decide +kernel
theorem dX10_tell_33 : decode cX10_tell 33 = .ok (.getfield 18, 3) := by decide +kernel
theorem dX10_tell_36 : decode cX10_tell 36 = .ok (.aload_n 0, 1) := by decide +kernel
theorem dX10_tell_37 : decode cX10_tell 37 = .ok (.getfield 38, 3) := by decide +kernel
theorem dX10_tell_40 : decode cX10_tell 40 = .ok (.iload_n 3, 1) := by decide +kernel
theorem dX10_tell_41 : decode cX10_tell 41 = .ok (.iastore, 1) := by decide +kernel
theorem dX10_tell_42 : decode cX10_tell 42 = .ok (.aload_n 0, 1) := by decide +kernel
theorem dX10_tell_43 : decode cX10_tell 43 = .ok (.dup, 1) := by decide +kernel
theorem dX10_tell_44 : decode cX10_tell 44 = .ok (.getfield 38, 3) := by decide +kernel
theorem dX10_tell_47 : decode cX10_tell 47 = .ok (.iconst 1, 1) := by decide +kernel
theorem dX10_tell_48 : decode cX10_tell 48 = .ok (.iadd, 1) := by decide +kernel
theorem dX10_tell_49 : decode cX10_tell 49 = .ok (.putfield 38, 3) := by decide +kernel
theorem dX10_tell_52 : decode cX10_tell 52 = .ok (.aload_n 0, 1) := by decide +kernel
theorem dX10_tell_53 : decode cX10_tell 53 = .ok (.getfield 38, 3) := by decide +kernel
theorem dX10_tell_56 : decode cX10_tell 56 = .ok (.ireturn, 1) := by decide +kernel
set_option maxRecDepth 20000 in
theorem ggX10_enact_X9_firstFault : GoodIn wsX10_enact wsX9_firstFault := goodIn_r _ [9, 10, 11, 12, 13, 14, 8, 15, 16, 17, 18, 19, 20, 21, 22, 23, 24, 25, 26, 27, 28, 29, 30, 31, 32, 33, 34, 35, 36, 37, 38, 39, 40, 41, 42, 43, 44, 45, 46, 47, 48, 49, 50, 51, 52, 53, 54, 55, 56, 57, 58, 68, 69, 70, 71, 72, 73, 74, 75, 76, 77] (by decide +kernel) (by decide +kernel)
set_option maxRecDepth 20000 in
theorem gX10_enact_X9_firstFault : GoodIn wsX10_enact (wsV RX10 42 RX9 yX9_firstFault wsX9_firstFault) := goodIn_app (goodIn_of _ (by decide +kernel)) ggX10_enact_X9_firstFault
set_option maxRecDepth 20000 in
theorem ggX10_enact_X9_read : GoodIn wsX10_enact wsX9_read := goodIn_r _ [15, 16, 17, 18, 19, 8, 20, 10, 21, 22, 23, 24, 25, 26, 27, 28, 29, 30, 31, 32, 33, 34, 35, 36, 37, 38, 39, 40, 41, 42, 43, 44, 45, 46, 47, 48, 49, 50, 51, 52, 53, 54, 55, 56, 57, 58, 68, 69, 70, 71, 72, 73, 74, 75, 76, 77] (by decide +kernel) (by decide +kernel)
set_option maxRecDepth 20000 in
theorem gX10_enact_X9_read : GoodIn wsX10_enact (wsV RX10 52 RX9 yX9_read wsX9_read) := goodIn_app (goodIn_of _ (by decide +kernel)) ggX10_enact_X9_read
theorem dX10_enact_0 : decode cX10_enact 0 = .ok (.aload_n 0, 1) := by decide +kernel
theorem dX10_enact_1 : decode cX10_enact 1 = .ok (.getfield 24, 3) := by decide +kernel
theorem dX10_enact_4 : decode cX10_enact 4 = .ok (.invokevirtual 42, 3) := by decide +kernel
theorem dX10_enact_7 : decode cX10_enact 7 = .ok (.bipush (-4), 2) := by decide +kernel
theorem dX10_enact_9 : decode cX10_enact 9 = .ok (.if_icmp .eq 6, 3) := by decide +kernel
theorem dX10_enact_12 : decode cX10_enact 12 = .ok (.bipush (-2), 2) := by decide +kernel
theorem dX10_enact_14 : decode cX10_enact 14 = .ok (.ireturn, 1) := by decide +kernel
theorem dX10_enact_15 : decode cX10_enact 15 = .ok (.aload_n 0, 1) := by decide +kernel
theorem dX10_enact_16 : decode cX10_enact 16 = .ok (.iconst 0, 1) := by decide +kernel
theorem dX10_enact_17 : decode cX10_enact 17 = .ok (.putfield 46, 3) := by decide +kernel
theorem dX10_enact_20 : decode cX10_enact 20 = .ok (.iconst 0, 1) := by decide +kernel
theorem dX10_enact_21 : decode cX10_enact 21 = .ok (.istore_n 1, 1) := by decide +kernel
theorem dX10_enact_22 : decode cX10_enact 22 = .ok (.aload_n 0, 1) := by decide +kernel
theorem dX10_enact_23 : decode cX10_enact 23 = .ok (.getfield 46, 3) := by decide +kernel
theorem dX10_enact_26 : decode cX10_enact 26 = .ok (.bipush 34, 2) := by decide +kernel
theorem dX10_enact_28 : decode cX10_enact 28 = .ok (.if_icmp .ge 45, 3) := by decide +kernel
theorem dX10_enact_31 : decode cX10_enact 31 = .ok (.iload_n 1, 1) := by decide +kernel
theorem dX10_enact_32 : decode cX10_enact 32 = .ok (.aload_n 0, 1) := by decide +kernel
theorem dX10_enact_33 : decode cX10_enact 33 = .ok (.getfield 24, 3) := by decide +kernel
theorem dX10_enact_36 : decode cX10_enact 36 = .ok (.getfield 49, 3) := by decide +kernel
theorem dX10_enact_39 : decode cX10_enact 39 = .ok (.if_icmp .ge 34, 3) := by decide +kernel
theorem dX10_enact_42 : decode cX10_enact 42 = .ok (.aload_n 0, 1) := by decide +kernel
theorem dX10_enact_43 : decode cX10_enact 43 = .ok (.getfield 24, 3) := by decide +kernel
theorem dX10_enact_46 : decode cX10_enact 46 = .ok (.iload_n 1, 1) := by decide +kernel
theorem dX10_enact_47 : decode cX10_enact 47 = .ok (.aload_n 0, 1) := by decide +kernel
theorem dX10_enact_48 : decode cX10_enact 48 = .ok (.getfield 30, 3) := by decide +kernel
theorem dX10_enact_51 : decode cX10_enact 51 = .ok (.aload_n 0, 1) := by decide +kernel
theorem dX10_enact_52 : decode cX10_enact 52 = .ok (.getfield 46, 3) := by decide +kernel
theorem dX10_enact_55 : decode cX10_enact 55 = .ok (.aaload, 1) := by decide +kernel
theorem dX10_enact_56 : decode cX10_enact 56 = .ok (.invokevirtual 52, 3) := by decide +kernel
theorem dX10_enact_59 : decode cX10_enact 59 = .ok (.istore_n 1, 1) := by decide +kernel
theorem dX10_enact_60 : decode cX10_enact 60 = .ok (.aload_n 0, 1) := by decide +kernel
theorem dX10_enact_61 : decode cX10_enact 61 = .ok (.dup, 1) := by decide +kernel
theorem dX10_enact_62 : decode cX10_enact 62 = .ok (.getfield 46, 3) := by decide +kernel
theorem dX10_enact_65 : decode cX10_enact 65 = .ok (.iconst 1, 1) := by decide +kernel
theorem dX10_enact_66 : decode cX10_enact 66 = .ok (.iadd, 1) := by decide +kernel
theorem dX10_enact_67 : decode cX10_enact 67 = .ok (.putfield 46, 3) := by decide +kernel
theorem dX10_enact_70 : decode cX10_enact 70 = .ok (.goto (-48), 3) := by decide +kernel
theorem dX10_enact_73 : decode cX10_enact 73 = .ok (.aload_n 0, 1) := by decide +kernel
theorem dX10_enact_74 : decode cX10_enact 74 = .ok (.getfield 46, 3) := by decide +kernel
theorem dX10_enact_77 : decode cX10_enact 77 = .ok (.ireturn, 1) := by decide +kernel
set_option maxRecDepth 20000 in
theorem ggX10_meaningOf_X11_within : GoodIn wsX10_meaningOf wsX11_within := goodIn_r _ [12] (by decide +kernel) (by decide +kernel)
set_option maxRecDepth 20000 in
theorem gX10_meaningOf_X11_within_n56 : GoodIn wsX10_meaningOf (wsX11_within) := ggX10_meaningOf_X11_within
set_option maxRecDepth 20000 in
theorem ggX10_meaningOf_X3_isBook : GoodIn wsX10_meaningOf wsX3_isBook := goodIn_r _ [17, 18, 27, 28, 29, 30, 31, 32] (by decide +kernel) (by decide +kernel)
set_option maxRecDepth 20000 in
theorem gX10_meaningOf_X3_isBook : GoodIn wsX10_meaningOf (wsV RX10 60 RX3 yX3_isBook wsX3_isBook) := goodIn_app (goodIn_of _ (by decide +kernel)) ggX10_meaningOf_X3_isBook
theorem dX10_meaningOf_0 : decode cX10_meaningOf 0 = .ok (.iconst 0, 1) := by decide +kernel
theorem dX10_meaningOf_1 : decode cX10_meaningOf 1 = .ok (.istore_n 3, 1) := by decide +kernel
theorem dX10_meaningOf_2 : decode cX10_meaningOf 2 = .ok (.iconst 0, 1) := by decide +kernel
theorem dX10_meaningOf_3 : decode cX10_meaningOf 3 = .ok (.istore 4, 2) := by decide +kernel
theorem dX10_meaningOf_5 : decode cX10_meaningOf 5 = .ok (.iconst 0, 1) := by decide +kernel
theorem dX10_meaningOf_6 : decode cX10_meaningOf 6 = .ok (.istore 5, 2) := by decide +kernel
theorem dX10_meaningOf_8 : decode cX10_meaningOf 8 = .ok (.iload 5, 2) := by decide +kernel
theorem dX10_meaningOf_10 : decode cX10_meaningOf 10 = .ok (.aload_n 0, 1) := by decide +kernel
theorem dX10_meaningOf_11 : decode cX10_meaningOf 11 = .ok (.getfield 38, 3) := by decide +kernel
theorem dX10_meaningOf_14 : decode cX10_meaningOf 14 = .ok (.if_icmp .ge 53, 3) := by decide +kernel
theorem dX10_meaningOf_17 : decode cX10_meaningOf 17 = .ok (.aload_n 0, 1) := by decide +kernel
theorem dX10_meaningOf_18 : decode cX10_meaningOf 18 = .ok (.getfield 9, 3) := by decide +kernel
theorem dX10_meaningOf_21 : decode cX10_meaningOf 21 = .ok (.iload 5, 2) := by decide +kernel
theorem dX10_meaningOf_23 : decode cX10_meaningOf 23 = .ok (.iaload, 1) := by decide +kernel
theorem dX10_meaningOf_24 : decode cX10_meaningOf 24 = .ok (.iload_n 1, 1) := by decide +kernel
theorem dX10_meaningOf_25 : decode cX10_meaningOf 25 = .ok (.if_icmp .ne 36, 3) := by decide +kernel
theorem dX10_meaningOf_28 : decode cX10_meaningOf 28 = .ok (.aload_n 0, 1) := by decide +kernel
theorem dX10_meaningOf_29 : decode cX10_meaningOf 29 = .ok (.getfield 15, 3) := by decide +kernel
theorem dX10_meaningOf_32 : decode cX10_meaningOf 32 = .ok (.iload 5, 2) := by decide +kernel
theorem dX10_meaningOf_34 : decode cX10_meaningOf 34 = .ok (.iaload, 1) := by decide +kernel
theorem dX10_meaningOf_35 : decode cX10_meaningOf 35 = .ok (.iload 4, 2) := by decide +kernel
theorem dX10_meaningOf_37 : decode cX10_meaningOf 37 = .ok (.iload_n 2, 1) := by decide +kernel
theorem dX10_meaningOf_38 : decode cX10_meaningOf 38 = .ok (.invokestatic 56, 3) := by decide +kernel
theorem dX10_meaningOf_41 : decode cX10_meaningOf 41 = .ok (.ifCond .eq 20, 3) := by decide +kernel
theorem dX10_meaningOf_44 : decode cX10_meaningOf 44 = .ok (.aload_n 0, 1) := by decide +kernel
theorem dX10_meaningOf_45 : decode cX10_meaningOf 45 = .ok (.getfield 15, 3) := by decide +kernel
theorem dX10_meaningOf_48 : decode cX10_meaningOf 48 = .ok (.iload 5, 2) := by decide +kernel
theorem dX10_meaningOf_50 : decode cX10_meaningOf 50 = .ok (.iaload, 1) := by decide +kernel
theorem dX10_meaningOf_51 : decode cX10_meaningOf 51 = .ok (.istore 4, 2) := by decide +kernel
theorem dX10_meaningOf_53 : decode cX10_meaningOf 53 = .ok (.aload_n 0, 1) := by decide +kernel
theorem dX10_meaningOf_54 : decode cX10_meaningOf 54 = .ok (.getfield 18, 3) := by decide +kernel
theorem dX10_meaningOf_57 : decode cX10_meaningOf 57 = .ok (.iload 5, 2) := by decide +kernel
theorem dX10_meaningOf_59 : decode cX10_meaningOf 59 = .ok (.iaload, 1) := by decide +kernel
theorem dX10_meaningOf_60 : decode cX10_meaningOf 60 = .ok (.istore_n 3, 1) := by decide +kernel
theorem dX10_meaningOf_61 : decode cX10_meaningOf 61 = .ok (.iinc 5 1, 3) := by decide +kernel
theorem dX10_meaningOf_64 : decode cX10_meaningOf 64 = .ok (.goto (-56), 3) := by decide +kernel
theorem dX10_meaningOf_67 : decode cX10_meaningOf 67 = .ok (.iconst 0, 1) := by decide +kernel
theorem dX10_meaningOf_68 : decode cX10_meaningOf 68 = .ok (.istore 5, 2) := by decide +kernel
theorem dX10_meaningOf_70 : decode cX10_meaningOf 70 = .ok (.iload 5, 2) := by decide +kernel
theorem dX10_meaningOf_72 : decode cX10_meaningOf 72 = .ok (.aload_n 0, 1) := by decide +kernel
theorem dX10_meaningOf_73 : decode cX10_meaningOf 73 = .ok (.getfield 46, 3) := by decide +kernel
theorem dX10_meaningOf_76 : decode cX10_meaningOf 76 = .ok (.if_icmp .ge 62, 3) := by decide +kernel
theorem dX10_meaningOf_79 : decode cX10_meaningOf 79 = .ok (.aload_n 0, 1) := by decide +kernel
theorem dX10_meaningOf_80 : decode cX10_meaningOf 80 = .ok (.getfield 30, 3) := by decide +kernel
theorem dX10_meaningOf_83 : decode cX10_meaningOf 83 = .ok (.iload 5, 2) := by decide +kernel
theorem dX10_meaningOf_85 : decode cX10_meaningOf 85 = .ok (.aaload, 1) := by decide +kernel
theorem dX10_meaningOf_86 : decode cX10_meaningOf 86 = .ok (.astore 6, 2) := by decide +kernel
theorem dX10_meaningOf_88 : decode cX10_meaningOf 88 = .ok (.aload 6, 2) := by decide +kernel
theorem dX10_meaningOf_90 : decode cX10_meaningOf 90 = .ok (.invokevirtual 60, 3) := by decide +kernel
theorem dX10_meaningOf_93 : decode cX10_meaningOf 93 = .ok (.ifCond .eq 39, 3) := by decide +kernel
theorem dX10_meaningOf_96 : decode cX10_meaningOf 96 = .ok (.aload 6, 2) := by decide +kernel
theorem dX10_meaningOf_98 : decode cX10_meaningOf 98 = .ok (.getfield 64, 3) := by decide +kernel
theorem dX10_meaningOf_101 : decode cX10_meaningOf 101 = .ok (.iload_n 1, 1) := by decide +kernel
theorem dX10_meaningOf_102 : decode cX10_meaningOf 102 = .ok (.if_icmp .ne 30, 3) := by decide +kernel
theorem dX10_meaningOf_105 : decode cX10_meaningOf 105 = .ok (.aload 6, 2) := by decide +kernel
theorem dX10_meaningOf_107 : decode cX10_meaningOf 107 = .ok (.getfield 67, 3) := by decide +kernel
theorem dX10_meaningOf_110 : decode cX10_meaningOf 110 = .ok (.iload 4, 2) := by decide +kernel
theorem dX10_meaningOf_112 : decode cX10_meaningOf 112 = .ok (.iload_n 2, 1) := by decide +kernel
theorem dX10_meaningOf_113 : decode cX10_meaningOf 113 = .ok (.invokestatic 56, 3) := by decide +kernel
theorem dX10_meaningOf_116 : decode cX10_meaningOf 116 = .ok (.ifCond .eq 16, 3) := by decide +kernel
theorem dX10_meaningOf_119 : decode cX10_meaningOf 119 = .ok (.aload 6, 2) := by decide +kernel
theorem dX10_meaningOf_121 : decode cX10_meaningOf 121 = .ok (.getfield 67, 3) := by decide +kernel
theorem dX10_meaningOf_124 : decode cX10_meaningOf 124 = .ok (.istore 4, 2) := by decide +kernel
theorem dX10_meaningOf_126 : decode cX10_meaningOf 126 = .ok (.aload 6, 2) := by decide +kernel
theorem dX10_meaningOf_128 : decode cX10_meaningOf 128 = .ok (.getfield 70, 3) := by decide +kernel
theorem dX10_meaningOf_131 : decode cX10_meaningOf 131 = .ok (.istore_n 3, 1) := by decide +kernel
theorem dX10_meaningOf_132 : decode cX10_meaningOf 132 = .ok (.iinc 5 1, 3) := by decide +kernel
theorem dX10_meaningOf_135 : decode cX10_meaningOf 135 = .ok (.goto (-65), 3) := by decide +kernel
theorem dX10_meaningOf_138 : decode cX10_meaningOf 138 = .ok (.iload_n 3, 1) := by decide +kernel
theorem dX10_meaningOf_139 : decode cX10_meaningOf 139 = .ok (.ireturn, 1) := by decide +kernel
set_option maxRecDepth 20000 in
theorem ggX10_learn_X10_meaningOf : GoodIn wsX10_learn wsX10_meaningOf := goodIn_r _ [6, 7, 8, 9, 10, 11, 12, 13, 14, 15, 16, 17, 18, 19, 20, 21, 22, 23, 24, 25, 26, 27, 28, 29, 30, 31, 32, 33, 34, 35, 36, 37, 38] (by decide +kernel) (by decide +kernel)
set_option maxRecDepth 20000 in
theorem gX10_learn_X10_meaningOf : GoodIn wsX10_learn (wsV RX10 73 RX10 yX10_meaningOf wsX10_meaningOf) := goodIn_app (goodIn_of _ (by decide +kernel)) ggX10_learn_X10_meaningOf
theorem dX10_learn_0 : decode cX10_learn 0 = .ok (.iconst 0, 1) := by decide +kernel
theorem dX10_learn_1 : decode cX10_learn 1 = .ok (.istore_n 2, 1) := by decide +kernel
theorem dX10_learn_2 : decode cX10_learn 2 = .ok (.iload_n 2, 1) := by decide +kernel
theorem dX10_learn_3 : decode cX10_learn 3 = .ok (.bipush 8, 2) := by decide +kernel
theorem dX10_learn_5 : decode cX10_learn 5 = .ok (.if_icmp .ge 21, 3) := by decide +kernel
theorem dX10_learn_8 : decode cX10_learn 8 = .ok (.aload_n 0, 1) := by decide +kernel
theorem dX10_learn_9 : decode cX10_learn 9 = .ok (.getfield 34, 3) := by decide +kernel
theorem dX10_learn_12 : decode cX10_learn 12 = .ok (.iload_n 2, 1) := by decide +kernel
theorem dX10_learn_13 : decode cX10_learn 13 = .ok (.aload_n 0, 1) := by decide +kernel
theorem dX10_learn_14 : decode cX10_learn 14 = .ok (.iload_n 2, 1) := by decide +kernel
theorem dX10_learn_15 : decode cX10_learn 15 = .ok (.iload_n 1, 1) := by decide +kernel
theorem dX10_learn_16 : decode cX10_learn 16 = .ok (.invokevirtual 73, 3) := by decide +kernel
theorem dX10_learn_19 : decode cX10_learn 19 = .ok (.iastore, 1) := by decide +kernel
theorem dX10_learn_20 : decode cX10_learn 20 = .ok (.iinc 2 1, 3) := by decide +kernel
theorem dX10_learn_23 : decode cX10_learn 23 = .ok (.goto (-21), 3) := by decide +kernel
theorem dX10_learn_26 : decode cX10_learn 26 = .ok (.return_, 1) := by decide +kernel
set_option maxRecDepth 20000 in
theorem ggX10_ruling_X3_speaksOf : GoodIn wsX10_ruling wsX3_speaksOf := goodIn_r _ [10, 11, 12, 13, 14, 15, 16, 9, 17, 18, 19, 20, 21, 32, 33, 34, 35, 36, 37] (by decide +kernel) (by decide +kernel)
set_option maxRecDepth 20000 in
theorem gX10_ruling_X3_speaksOf : GoodIn wsX10_ruling (wsV RX10 77 RX3 yX3_speaksOf wsX3_speaksOf) := goodIn_app (goodIn_of _ (by decide +kernel)) ggX10_ruling_X3_speaksOf
set_option maxRecDepth 20000 in
theorem ggX10_ruling_X11_hasBit : GoodIn wsX10_ruling wsX11_hasBit := goodIn_r _ [23] (by decide +kernel) (by decide +kernel)
set_option maxRecDepth 20000 in
theorem gX10_ruling_X11_hasBit_n81 : GoodIn wsX10_ruling (wsX11_hasBit) := ggX10_ruling_X11_hasBit
theorem dX10_ruling_0 : decode cX10_ruling 0 = .ok (.aload_n 0, 1) := by decide +kernel
theorem dX10_ruling_1 : decode cX10_ruling 1 = .ok (.getfield 46, 3) := by decide +kernel
theorem dX10_ruling_4 : decode cX10_ruling 4 = .ok (.iconst 1, 1) := by decide +kernel
theorem dX10_ruling_5 : decode cX10_ruling 5 = .ok (.isub, 1) := by decide +kernel
theorem dX10_ruling_6 : decode cX10_ruling 6 = .ok (.istore 5, 2) := by decide +kernel
theorem dX10_ruling_8 : decode cX10_ruling 8 = .ok (.iload 5, 2) := by decide +kernel
theorem dX10_ruling_10 : decode cX10_ruling 10 = .ok (.ifCond .lt 61, 3) := by decide +kernel
theorem dX10_ruling_13 : decode cX10_ruling 13 = .ok (.aload_n 0, 1) := by decide +kernel
theorem dX10_ruling_14 : decode cX10_ruling 14 = .ok (.getfield 30, 3) := by decide +kernel
theorem dX10_ruling_17 : decode cX10_ruling 17 = .ok (.iload 5, 2) := by decide +kernel
theorem dX10_ruling_19 : decode cX10_ruling 19 = .ok (.aaload, 1) := by decide +kernel
theorem dX10_ruling_20 : decode cX10_ruling 20 = .ok (.astore 6, 2) := by decide +kernel
theorem dX10_ruling_22 : decode cX10_ruling 22 = .ok (.aload 6, 2) := by decide +kernel
theorem dX10_ruling_24 : decode cX10_ruling 24 = .ok (.iload_n 2, 1) := by decide +kernel
theorem dX10_ruling_25 : decode cX10_ruling 25 = .ok (.iload_n 3, 1) := by decide +kernel
theorem dX10_ruling_26 : decode cX10_ruling 26 = .ok (.invokevirtual 77, 3) := by decide +kernel
theorem dX10_ruling_29 : decode cX10_ruling 29 = .ok (.ifCond .eq 36, 3) := by decide +kernel
theorem dX10_ruling_32 : decode cX10_ruling 32 = .ok (.aload_n 0, 1) := by decide +kernel
theorem dX10_ruling_33 : decode cX10_ruling 33 = .ok (.getfield 34, 3) := by decide +kernel
theorem dX10_ruling_36 : decode cX10_ruling 36 = .ok (.aload 6, 2) := by decide +kernel
theorem dX10_ruling_38 : decode cX10_ruling 38 = .ok (.getfield 64, 3) := by decide +kernel
theorem dX10_ruling_41 : decode cX10_ruling 41 = .ok (.iaload, 1) := by decide +kernel
theorem dX10_ruling_42 : decode cX10_ruling 42 = .ok (.iload_n 1, 1) := by decide +kernel
theorem dX10_ruling_43 : decode cX10_ruling 43 = .ok (.invokestatic 81, 3) := by decide +kernel
theorem dX10_ruling_46 : decode cX10_ruling 46 = .ok (.ifCond .eq 19, 3) := by decide +kernel
theorem dX10_ruling_49 : decode cX10_ruling 49 = .ok (.aload 6, 2) := by decide +kernel
theorem dX10_ruling_51 : decode cX10_ruling 51 = .ok (.getfield 70, 3) := by decide +kernel
theorem dX10_ruling_54 : decode cX10_ruling 54 = .ok (.iload 4, 2) := by decide +kernel
theorem dX10_ruling_56 : decode cX10_ruling 56 = .ok (.iconst (-1), 1) := by decide +kernel
theorem dX10_ruling_57 : decode cX10_ruling 57 = .ok (.ixor, 1) := by decide +kernel
theorem dX10_ruling_58 : decode cX10_ruling 58 = .ok (.iand, 1) := by decide +kernel
theorem dX10_ruling_59 : decode cX10_ruling 59 = .ok (.ifCond .ne 6, 3) := by decide +kernel
theorem dX10_ruling_62 : decode cX10_ruling 62 = .ok (.iload 5, 2) := by decide +kernel
theorem dX10_ruling_64 : decode cX10_ruling 64 = .ok (.ireturn, 1) := by decide +kernel
theorem dX10_ruling_65 : decode cX10_ruling 65 = .ok (.iinc 5 (-1), 3) := by decide +kernel
theorem dX10_ruling_68 : decode cX10_ruling 68 = .ok (.goto (-60), 3) := by decide +kernel
theorem dX10_ruling_71 : decode cX10_ruling 71 = .ok (.bipush (-4), 2) := by decide +kernel
theorem dX10_ruling_73 : decode cX10_ruling 73 = .ok (.ireturn, 1) := by decide +kernel
set_option maxRecDepth 20000 in
theorem ggX10_lets_X10_ruling : GoodIn wsX10_lets wsX10_ruling := goodIn_r _ [7, 8, 1, 9, 10, 11, 12, 13, 14, 15, 16, 17, 18, 19, 20, 21, 22, 23, 24, 25, 26, 27, 28, 29, 30, 31, 32, 33, 34, 35, 36, 37, 38, 39, 40, 41, 42, 43] (by decide +kernel) (by decide +kernel)
set_option maxRecDepth 20000 in
theorem gX10_lets_X10_ruling : GoodIn wsX10_lets (wsV RX10 84 RX10 yX10_ruling wsX10_ruling) := goodIn_app (goodIn_of _ (by decide +kernel)) ggX10_lets_X10_ruling
theorem dX10_lets_0 : decode cX10_lets 0 = .ok (.aload_n 0, 1) := by decide +kernel
theorem dX10_lets_1 : decode cX10_lets 1 = .ok (.iload_n 1, 1) := by decide +kernel
theorem dX10_lets_2 : decode cX10_lets 2 = .ok (.iload_n 2, 1) := by decide +kernel
theorem dX10_lets_3 : decode cX10_lets 3 = .ok (.iload_n 3, 1) := by decide +kernel
theorem dX10_lets_4 : decode cX10_lets 4 = .ok (.iload 4, 2) := by decide +kernel
theorem dX10_lets_6 : decode cX10_lets 6 = .ok (.invokevirtual 84, 3) := by decide +kernel
theorem dX10_lets_9 : decode cX10_lets 9 = .ok (.istore 5, 2) := by decide +kernel
theorem dX10_lets_11 : decode cX10_lets 11 = .ok (.iload 5, 2) := by decide +kernel
theorem dX10_lets_13 : decode cX10_lets 13 = .ok (.ifCond .lt 22, 3) := by decide +kernel
theorem dX10_lets_16 : decode cX10_lets 16 = .ok (.aload_n 0, 1) := by decide +kernel
theorem dX10_lets_17 : decode cX10_lets 17 = .ok (.getfield 30, 3) := by decide +kernel
theorem dX10_lets_20 : decode cX10_lets 20 = .ok (.iload 5, 2) := by decide +kernel
theorem dX10_lets_22 : decode cX10_lets 22 = .ok (.aaload, 1) := by decide +kernel
theorem dX10_lets_23 : decode cX10_lets 23 = .ok (.getfield 88, 3) := by decide +kernel
theorem dX10_lets_26 : decode cX10_lets 26 = .ok (.bipush 108, 2) := by decide +kernel
theorem dX10_lets_28 : decode cX10_lets 28 = .ok (.if_icmp .ne 7, 3) := by decide +kernel
theorem dX10_lets_31 : decode cX10_lets 31 = .ok (.iconst 1, 1) := by decide +kernel
theorem dX10_lets_32 : decode cX10_lets 32 = .ok (.goto 4, 3) := by decide +kernel
theorem dX10_lets_35 : decode cX10_lets 35 = .ok (.iconst 0, 1) := by decide +kernel
theorem dX10_lets_36 : decode cX10_lets 36 = .ok (.ireturn, 1) := by decide +kernel
set_option maxRecDepth 20000 in
theorem ggX11_init_X10_init : GoodIn wsX11_init wsX10_init := goodIn_r _ [39, 40, 2, 3, 41, 42, 43, 44, 45, 46, 47, 48, 49, 50, 51, 52, 53, 54, 55, 56, 57, 58, 59, 60, 61, 62, 63, 64, 136, 137, 138, 139, 140, 141, 142, 143, 209, 210, 211, 212, 213, 214, 215, 216, 217, 218] (by decide +kernel) (by decide +kernel)
set_option maxRecDepth 20000 in
theorem gX11_init_X10_init : GoodIn wsX11_init (wsX10_init) := ggX11_init_X10_init
set_option maxRecDepth 20000 in
theorem ggX11_init_X7_init : GoodIn wsX11_init wsX7_init := goodIn_r _ [66, 67, 2, 3, 41, 68, 69, 70, 71, 72, 73, 74, 75, 76, 77, 78, 153, 154, 155, 156, 157, 158, 159, 160, 161, 162, 163, 164] (by decide +kernel) (by decide +kernel)
set_option maxRecDepth 20000 in
theorem gX11_init_X7_init_n21 : GoodIn wsX11_init (wsX7_init) := ggX11_init_X7_init
set_option maxRecDepth 20000 in
theorem ggX11_init_X4_init : GoodIn wsX11_init wsX4_init := goodIn_r _ [80, 81, 2, 3, 41, 82, 83, 84, 85, 77, 86, 87, 88, 89, 90, 91, 92, 93, 94, 165, 166, 167, 168, 169, 170, 171, 172, 173, 174, 175, 176, 177, 178, 179, 180, 181] (by decide +kernel) (by decide +kernel)
set_option maxRecDepth 20000 in
theorem gX11_init_X4_init_n28 : GoodIn wsX11_init (wsX4_init) := ggX11_init_X4_init
set_option maxRecDepth 20000 in
theorem ggX11_init_X1_init : GoodIn wsX11_init wsX1_init := goodIn_r _ [97, 98, 2, 3, 99, 100, 41, 101, 102, 103, 104, 105, 182, 183, 184, 185, 186, 187, 188, 189] (by decide +kernel) (by decide +kernel)
set_option maxRecDepth 20000 in
theorem gX11_init_X1_init : GoodIn wsX11_init (wsX1_init) := ggX11_init_X1_init
set_option maxRecDepth 20000 in
theorem ggX11_init_X0_init : GoodIn wsX11_init wsX0_init := goodIn_r _ [107, 108, 2, 3, 41, 109, 110, 111, 112, 113, 114, 190, 191, 192, 193, 194, 195, 196] (by decide +kernel) (by decide +kernel)
set_option maxRecDepth 20000 in
theorem gX11_init_X0_init_n44 : GoodIn wsX11_init (wsX0_init) := ggX11_init_X0_init
set_option maxRecDepth 20000 in
theorem ggX11_init_X2_init : GoodIn wsX11_init wsX2_init := goodIn_r _ [117, 118, 119, 120, 121, 122, 123, 2, 3, 41, 124, 125, 197, 198, 199, 200, 201, 202, 203, 204, 205] (by decide +kernel) (by decide +kernel)
set_option maxRecDepth 20000 in
theorem gX11_init_X2_init : GoodIn wsX11_init (wsX2_init) := ggX11_init_X2_init
set_option maxRecDepth 20000 in
theorem ggX11_init_X6_init : GoodIn wsX11_init wsX6_init := goodIn_r _ [128, 129, 130, 120, 121, 122, 123, 2, 3, 41, 124, 125, 202, 203, 204, 205, 197, 198, 199, 200, 201] (by decide +kernel) (by decide +kernel)
set_option maxRecDepth 20000 in
theorem gX11_init_X6_init : GoodIn wsX11_init (wsX6_init) := ggX11_init_X6_init
set_option maxRecDepth 20000 in
theorem ggX11_init_X8_init : GoodIn wsX11_init wsX8_init := goodIn_r _ [132, 133, 2, 3, 41, 134, 135, 206, 207, 208] (by decide +kernel) (by decide +kernel)
set_option maxRecDepth 20000 in
theorem gX11_init_X8_init_n69 : GoodIn wsX11_init (wsX8_init) := ggX11_init_X8_init
theorem dX11_init_0 : decode cX11_init 0 = .ok (.aload_n 0, 1) := by decide +kernel
theorem dX11_init_1 : decode cX11_init 1 = .ok (.invokespecial 3, 3) := by decide +kernel
theorem dX11_init_4 : decode cX11_init 4 = .ok (.aload_n 0, 1) := by decide +kernel
theorem dX11_init_5 : decode cX11_init 5 = .ok (.new 9, 3) := by decide +kernel
theorem dX11_init_8 : decode cX11_init 8 = .ok (.dup, 1) := by decide +kernel
theorem dX11_init_9 : decode cX11_init 9 = .ok (.invokespecial 11, 3) := by decide +kernel
theorem dX11_init_12 : decode cX11_init 12 = .ok (.putfield 12, 3) := by decide +kernel
theorem dX11_init_15 : decode cX11_init 15 = .ok (.aload_n 0, 1) := by decide +kernel
theorem dX11_init_16 : decode cX11_init 16 = .ok (.new 9, 3) := by decide +kernel
theorem dX11_init_19 : decode cX11_init 19 = .ok (.dup, 1) := by decide +kernel
theorem dX11_init_20 : decode cX11_init 20 = .ok (.invokespecial 11, 3) := by decide +kernel
theorem dX11_init_23 : decode cX11_init 23 = .ok (.putfield 16, 3) := by decide +kernel
theorem dX11_init_26 : decode cX11_init 26 = .ok (.aload_n 0, 1) := by decide +kernel
theorem dX11_init_27 : decode cX11_init 27 = .ok (.new 19, 3) := by decide +kernel
theorem dX11_init_30 : decode cX11_init 30 = .ok (.dup, 1) := by decide +kernel
theorem dX11_init_31 : decode cX11_init 31 = .ok (.invokespecial 21, 3) := by decide +kernel
theorem dX11_init_34 : decode cX11_init 34 = .ok (.putfield 22, 3) := by decide +kernel
theorem dX11_init_37 : decode cX11_init 37 = .ok (.aload_n 0, 1) := by decide +kernel
theorem dX11_init_38 : decode cX11_init 38 = .ok (.new 26, 3) := by decide +kernel
theorem dX11_init_41 : decode cX11_init 41 = .ok (.dup, 1) := by decide +kernel
theorem dX11_init_42 : decode cX11_init 42 = .ok (.invokespecial 28, 3) := by decide +kernel
theorem dX11_init_45 : decode cX11_init 45 = .ok (.putfield 29, 3) := by decide +kernel
theorem dX11_init_48 : decode cX11_init 48 = .ok (.aload_n 0, 1) := by decide +kernel
theorem dX11_init_49 : decode cX11_init 49 = .ok (.new 33, 3) := by decide +kernel
theorem dX11_init_52 : decode cX11_init 52 = .ok (.dup, 1) := by decide +kernel
theorem dX11_init_53 : decode cX11_init 53 = .ok (.aload_n 0, 1) := by decide +kernel
theorem dX11_init_54 : decode cX11_init 54 = .ok (.getfield 22, 3) := by decide +kernel
theorem dX11_init_57 : decode cX11_init 57 = .ok (.invokespecial 35, 3) := by decide +kernel
theorem dX11_init_60 : decode cX11_init 60 = .ok (.putfield 38, 3) := by decide +kernel
theorem dX11_init_63 : decode cX11_init 63 = .ok (.aload_n 0, 1) := by decide +kernel
theorem dX11_init_64 : decode cX11_init 64 = .ok (.new 42, 3) := by decide +kernel
theorem dX11_init_67 : decode cX11_init 67 = .ok (.dup, 1) := by decide +kernel
theorem dX11_init_68 : decode cX11_init 68 = .ok (.invokespecial 44, 3) := by decide +kernel
theorem dX11_init_71 : decode cX11_init 71 = .ok (.putfield 45, 3) := by decide +kernel
theorem dX11_init_74 : decode cX11_init 74 = .ok (.aload_n 0, 1) := by decide +kernel
theorem dX11_init_75 : decode cX11_init 75 = .ok (.new 49, 3) := by decide +kernel
theorem dX11_init_78 : decode cX11_init 78 = .ok (.dup, 1) := by decide +kernel
theorem dX11_init_79 : decode cX11_init 79 = .ok (.aload_n 0, 1) := by decide +kernel
theorem dX11_init_80 : decode cX11_init 80 = .ok (.getfield 45, 3) := by decide +kernel
theorem dX11_init_83 : decode cX11_init 83 = .ok (.aload_n 0, 1) := by decide +kernel
theorem dX11_init_84 : decode cX11_init 84 = .ok (.getfield 22, 3) := by decide +kernel
theorem dX11_init_87 : decode cX11_init 87 = .ok (.invokespecial 51, 3) := by decide +kernel
theorem dX11_init_90 : decode cX11_init 90 = .ok (.putfield 54, 3) := by decide +kernel
theorem dX11_init_93 : decode cX11_init 93 = .ok (.aload_n 0, 1) := by decide +kernel
theorem dX11_init_94 : decode cX11_init 94 = .ok (.new 58, 3) := by decide +kernel
theorem dX11_init_97 : decode cX11_init 97 = .ok (.dup, 1) := by decide +kernel
theorem dX11_init_98 : decode cX11_init 98 = .ok (.aload_n 0, 1) := by decide +kernel
theorem dX11_init_99 : decode cX11_init 99 = .ok (.getfield 45, 3) := by decide +kernel
theorem dX11_init_102 : decode cX11_init 102 = .ok (.invokespecial 60, 3) := by decide +kernel
theorem dX11_init_105 : decode cX11_init 105 = .ok (.putfield 63, 3) := by decide +kernel
theorem dX11_init_108 : decode cX11_init 108 = .ok (.aload_n 0, 1) := by decide +kernel
theorem dX11_init_109 : decode cX11_init 109 = .ok (.new 67, 3) := by decide +kernel
theorem dX11_init_112 : decode cX11_init 112 = .ok (.dup, 1) := by decide +kernel
theorem dX11_init_113 : decode cX11_init 113 = .ok (.invokespecial 69, 3) := by decide +kernel
theorem dX11_init_116 : decode cX11_init 116 = .ok (.putfield 70, 3) := by decide +kernel
theorem dX11_init_119 : decode cX11_init 119 = .ok (.return_, 1) := by decide +kernel
set_option maxRecDepth 20000 in
theorem ggX11_book_X11_isTongue : GoodIn wsX11_book wsX11_isTongue := goodIn_r _ [4, 5, 6, 3, 7] (by decide +kernel) (by decide +kernel)
set_option maxRecDepth 20000 in
theorem gX11_book_X11_isTongue : GoodIn wsX11_book (va_wsS RX11 74 yX11_isTongue wsX11_isTongue) := goodIn_app (goodIn_of _ (by decide +kernel)) ggX11_book_X11_isTongue
set_option maxRecDepth 20000 in
theorem ggX11_book_X11_isWord : GoodIn wsX11_book wsX11_isWord := goodIn_r _ [10, 5, 6, 3, 7] (by decide +kernel) (by decide +kernel)
set_option maxRecDepth 20000 in
theorem gX11_book_X11_isWord : GoodIn wsX11_book (va_wsS RX11 78 yX11_isWord wsX11_isWord) := goodIn_app (goodIn_of _ (by decide +kernel)) ggX11_book_X11_isWord
set_option maxRecDepth 20000 in
theorem ggX11_book_X11_isYear : GoodIn wsX11_book wsX11_isYear := goodIn_r _ [13, 5, 6, 3, 7] (by decide +kernel) (by decide +kernel)
set_option maxRecDepth 20000 in
theorem gX11_book_X11_isYear : GoodIn wsX11_book (va_wsS RX11 81 yX11_isYear wsX11_isYear) := goodIn_app (goodIn_of _ (by decide +kernel)) ggX11_book_X11_isYear
set_option maxRecDepth 20000 in
theorem ggX11_book_X11_within : GoodIn wsX11_book wsX11_within := goodIn_r _ [7] (by decide +kernel) (by decide +kernel)
set_option maxRecDepth 20000 in
theorem gX11_book_X11_within : GoodIn wsX11_book (va_wsS RX11 84 yX11_within wsX11_within) := goodIn_app (goodIn_of _ (by decide +kernel)) ggX11_book_X11_within
set_option maxRecDepth 20000 in
theorem ggX11_book_X11_tongueOf : GoodIn wsX11_book wsX11_tongueOf := goodIn_r _ [17, 18, 19, 29, 30, 31, 32, 33, 34, 35, 36, 37] (by decide +kernel) (by decide +kernel)
set_option maxRecDepth 20000 in
theorem gX11_book_X11_tongueOf : GoodIn wsX11_book (wsV RX11 88 RX11 yX11_tongueOf wsX11_tongueOf) := goodIn_app (goodIn_of _ (by decide +kernel)) ggX11_book_X11_tongueOf
set_option maxRecDepth 20000 in
theorem ggX11_book_X10_tell : GoodIn wsX11_book wsX10_tell := goodIn_r _ [24, 25, 26, 27, 28, 38, 39, 40, 41, 42, 43, 44, 45] (by decide +kernel) (by decide +kernel)
set_option maxRecDepth 20000 in
theorem gX11_book_X10_tell : GoodIn wsX11_book (wsV RX11 92 RX10 yX10_tell wsX10_tell) := goodIn_app (goodIn_of _ (by decide +kernel)) ggX11_book_X10_tell
theorem dX11_book_0 : decode cX11_book 0 = .ok (.iload_n 1, 1) := by decide +kernel
theorem dX11_book_1 : decode cX11_book 1 = .ok (.invokestatic 74, 3) := by decide +kernel
theorem dX11_book_4 : decode cX11_book 4 = .ok (.ifCond .eq 28, 3) := by decide +kernel
theorem dX11_book_7 : decode cX11_book 7 = .ok (.iload_n 2, 1) := by decide +kernel
theorem dX11_book_8 : decode cX11_book 8 = .ok (.invokestatic 78, 3) := by decide +kernel
theorem dX11_book_11 : decode cX11_book 11 = .ok (.ifCond .eq 21, 3) := by decide +kernel
theorem dX11_book_14 : decode cX11_book 14 = .ok (.iload_n 3, 1) := by decide +kernel
theorem dX11_book_15 : decode cX11_book 15 = .ok (.invokestatic 81, 3) := by decide +kernel
theorem dX11_book_18 : decode cX11_book 18 = .ok (.ifCond .eq 14, 3) := by decide +kernel
theorem dX11_book_21 : decode cX11_book 21 = .ok (.iload 4, 2) := by decide +kernel
theorem dX11_book_23 : decode cX11_book 23 = .ok (.iconst 0, 1) := by decide +kernel
theorem dX11_book_24 : decode cX11_book 24 = .ok (.bipush 63, 2) := by decide +kernel
theorem dX11_book_26 : decode cX11_book 26 = .ok (.invokestatic 84, 3) := by decide +kernel
theorem dX11_book_29 : decode cX11_book 29 = .ok (.ifCond .ne 5, 3) := by decide +kernel
theorem dX11_book_32 : decode cX11_book 32 = .ok (.iconst (-1), 1) := by decide +kernel
theorem dX11_book_33 : decode cX11_book 33 = .ok (.ireturn, 1) := by decide +kernel
theorem dX11_book_34 : decode cX11_book 34 = .ok (.aload_n 0, 1) := by decide +kernel
theorem dX11_book_35 : decode cX11_book 35 = .ok (.iload_n 1, 1) := by decide +kernel
theorem dX11_book_36 : decode cX11_book 36 = .ok (.invokevirtual 88, 3) := by decide +kernel
theorem dX11_book_39 : decode cX11_book 39 = .ok (.iload_n 2, 1) := by decide +kernel
theorem dX11_book_40 : decode cX11_book 40 = .ok (.iload_n 3, 1) := by decide +kernel
theorem dX11_book_41 : decode cX11_book 41 = .ok (.iload 4, 2) := by decide +kernel
theorem dX11_book_43 : decode cX11_book 43 = .ok (.invokevirtual 92, 3) := by decide +kernel
theorem dX11_book_46 : decode cX11_book 46 = .ok (.ireturn, 1) := by decide +kernel
set_option maxRecDepth 20000 in
theorem ggX11_write_X11_isTongue : GoodIn wsX11_write wsX11_isTongue := goodIn_r _ [5, 6, 7, 4, 8] (by decide +kernel) (by decide +kernel)
set_option maxRecDepth 20000 in
theorem gX11_write_X11_isTongue : GoodIn wsX11_write (va_wsS RX11 74 yX11_isTongue wsX11_isTongue) := goodIn_app (goodIn_of _ (by decide +kernel)) ggX11_write_X11_isTongue
set_option maxRecDepth 20000 in
theorem ggX11_write_X11_within : GoodIn wsX11_write wsX11_within := goodIn_r _ [8] (by decide +kernel) (by decide +kernel)
set_option maxRecDepth 20000 in
theorem gX11_write_X11_within : GoodIn wsX11_write (va_wsS RX11 84 yX11_within wsX11_within) := goodIn_app (goodIn_of _ (by decide +kernel)) ggX11_write_X11_within
set_option maxRecDepth 20000 in
theorem ggX11_write_X11_tongueOf : GoodIn wsX11_write wsX11_tongueOf := goodIn_r _ [12, 13, 14, 30, 31, 32, 33, 34, 35, 36, 37, 38] (by decide +kernel) (by decide +kernel)
set_option maxRecDepth 20000 in
theorem gX11_write_X11_tongueOf : GoodIn wsX11_write (wsV RX11 88 RX11 yX11_tongueOf wsX11_tongueOf) := goodIn_app (goodIn_of _ (by decide +kernel)) ggX11_write_X11_tongueOf
set_option maxRecDepth 20000 in
theorem ggX11_write_X9_append : GoodIn wsX11_write wsX9_append := goodIn_r _ [19, 20, 21, 39, 40, 41, 42] (by decide +kernel) (by decide +kernel)
set_option maxRecDepth 20000 in
theorem gX11_write_X9_append : GoodIn wsX11_write (wsV RX11 100 RX9 yX9_append wsX9_append) := goodIn_app (goodIn_of _ (by decide +kernel)) ggX11_write_X9_append
theorem dX11_write_0 : decode cX11_write 0 = .ok (.iload_n 1, 1) := by decide +kernel
theorem dX11_write_1 : decode cX11_write 1 = .ok (.invokestatic 74, 3) := by decide +kernel
theorem dX11_write_4 : decode cX11_write 4 = .ok (.ifCond .eq 13, 3) := by decide +kernel
theorem dX11_write_7 : decode cX11_write 7 = .ok (.iload_n 2, 1) := by decide +kernel
theorem dX11_write_8 : decode cX11_write 8 = .ok (.iconst 1, 1) := by decide +kernel
theorem dX11_write_9 : decode cX11_write 9 = .ok (.bipush 8, 2) := by decide +kernel
theorem dX11_write_11 : decode cX11_write 11 = .ok (.invokestatic 84, 3) := by decide +kernel
theorem dX11_write_14 : decode cX11_write 14 = .ok (.ifCond .ne 5, 3) := by decide +kernel
theorem dX11_write_17 : decode cX11_write 17 = .ok (.iconst (-1), 1) := by decide +kernel
theorem dX11_write_18 : decode cX11_write 18 = .ok (.ireturn, 1) := by decide +kernel
theorem dX11_write_19 : decode cX11_write 19 = .ok (.aload_n 0, 1) := by decide +kernel
theorem dX11_write_20 : decode cX11_write 20 = .ok (.iload_n 1, 1) := by decide +kernel
theorem dX11_write_21 : decode cX11_write 21 = .ok (.invokevirtual 88, 3) := by decide +kernel
theorem dX11_write_24 : decode cX11_write 24 = .ok (.getfield 96, 3) := by decide +kernel
theorem dX11_write_27 : decode cX11_write 27 = .ok (.iload_n 2, 1) := by decide +kernel
theorem dX11_write_28 : decode cX11_write 28 = .ok (.lload_n 3, 1) := by decide +kernel
theorem dX11_write_29 : decode cX11_write 29 = .ok (.invokevirtual 100, 3) := by decide +kernel
theorem dX11_write_32 : decode cX11_write 32 = .ok (.ireturn, 1) := by decide +kernel
set_option maxRecDepth 20000 in
theorem ggX11_wipe_X11_isTongue : GoodIn wsX11_wipe wsX11_isTongue := goodIn_r _ [5, 6, 7, 4, 8] (by decide +kernel) (by decide +kernel)
set_option maxRecDepth 20000 in
theorem gX11_wipe_X11_isTongue : GoodIn wsX11_wipe (va_wsS RX11 74 yX11_isTongue wsX11_isTongue) := goodIn_app (goodIn_of _ (by decide +kernel)) ggX11_wipe_X11_isTongue
set_option maxRecDepth 20000 in
theorem ggX11_wipe_X11_tongueOf : GoodIn wsX11_wipe wsX11_tongueOf := goodIn_r _ [12, 13, 14, 29, 30, 31, 32, 33, 34, 35, 36, 37] (by decide +kernel) (by decide +kernel)
set_option maxRecDepth 20000 in
theorem gX11_wipe_X11_tongueOf : GoodIn wsX11_wipe (wsV RX11 88 RX11 yX11_tongueOf wsX11_tongueOf) := goodIn_app (goodIn_of _ (by decide +kernel)) ggX11_wipe_X11_tongueOf
set_option maxRecDepth 20000 in
theorem ggX11_wipe_X9_clear : GoodIn wsX11_wipe wsX9_clear := goodIn_r _ [19, 20, 38, 39, 40, 41] (by decide +kernel) (by decide +kernel)
set_option maxRecDepth 20000 in
theorem gX11_wipe_X9_clear : GoodIn wsX11_wipe (wsV RX11 106 RX9 yX9_clear wsX9_clear) := goodIn_app (goodIn_of _ (by decide +kernel)) ggX11_wipe_X9_clear
theorem dX11_wipe_0 : decode cX11_wipe 0 = .ok (.iload_n 1, 1) := by decide +kernel
theorem dX11_wipe_1 : decode cX11_wipe 1 = .ok (.invokestatic 74, 3) := by decide +kernel
theorem dX11_wipe_4 : decode cX11_wipe 4 = .ok (.ifCond .ne 5, 3) := by decide +kernel
theorem dX11_wipe_7 : decode cX11_wipe 7 = .ok (.iconst (-1), 1) := by decide +kernel
theorem dX11_wipe_8 : decode cX11_wipe 8 = .ok (.ireturn, 1) := by decide +kernel
theorem dX11_wipe_9 : decode cX11_wipe 9 = .ok (.aload_n 0, 1) := by decide +kernel
theorem dX11_wipe_10 : decode cX11_wipe 10 = .ok (.iload_n 1, 1) := by decide +kernel
theorem dX11_wipe_11 : decode cX11_wipe 11 = .ok (.invokevirtual 88, 3) := by decide +kernel
theorem dX11_wipe_14 : decode cX11_wipe 14 = .ok (.getfield 96, 3) := by decide +kernel
theorem dX11_wipe_17 : decode cX11_wipe 17 = .ok (.invokevirtual 106, 3) := by decide +kernel
theorem dX11_wipe_20 : decode cX11_wipe 20 = .ok (.ireturn, 1) := by decide +kernel
set_option maxRecDepth 20000 in
theorem ggX11_fault_X11_isTongue : GoodIn wsX11_fault wsX11_isTongue := goodIn_r _ [5, 6, 7, 4, 8] (by decide +kernel) (by decide +kernel)
set_option maxRecDepth 20000 in
theorem gX11_fault_X11_isTongue : GoodIn wsX11_fault (va_wsS RX11 74 yX11_isTongue wsX11_isTongue) := goodIn_app (goodIn_of _ (by decide +kernel)) ggX11_fault_X11_isTongue
set_option maxRecDepth 20000 in
theorem ggX11_fault_X11_tongueOf : GoodIn wsX11_fault wsX11_tongueOf := goodIn_r _ [12, 13, 14, 73, 74, 75, 76, 77, 78, 79, 80, 81] (by decide +kernel) (by decide +kernel)
set_option maxRecDepth 20000 in
theorem gX11_fault_X11_tongueOf : GoodIn wsX11_fault (wsV RX11 88 RX11 yX11_tongueOf wsX11_tongueOf) := goodIn_app (goodIn_of _ (by decide +kernel)) ggX11_fault_X11_tongueOf
set_option maxRecDepth 20000 in
theorem ggX11_fault_X9_firstFault : GoodIn wsX11_fault wsX9_firstFault := goodIn_r _ [19, 20, 21, 22, 23, 24, 18, 25, 26, 27, 28, 29, 30, 31, 7, 4, 8, 32, 33, 34, 35, 36, 37, 38, 39, 40, 41, 42, 43, 44, 45, 46, 47, 48, 49, 50, 51, 52, 53, 54, 55, 56, 57, 58, 59, 60, 6, 61, 62, 63, 64, 82, 83, 84, 85, 86, 87, 88, 89, 90, 91] (by decide +kernel) (by decide +kernel)
set_option maxRecDepth 20000 in
theorem gX11_fault_X9_firstFault : GoodIn wsX11_fault (wsV RX11 110 RX9 yX9_firstFault wsX9_firstFault) := goodIn_app (goodIn_of _ (by decide +kernel)) ggX11_fault_X9_firstFault
theorem dX11_fault_0 : decode cX11_fault 0 = .ok (.iload_n 1, 1) := by decide +kernel
theorem dX11_fault_1 : decode cX11_fault 1 = .ok (.invokestatic 74, 3) := by decide +kernel
theorem dX11_fault_4 : decode cX11_fault 4 = .ok (.ifCond .ne 5, 3) := by decide +kernel
theorem dX11_fault_7 : decode cX11_fault 7 = .ok (.iconst (-1), 1) := by decide +kernel
theorem dX11_fault_8 : decode cX11_fault 8 = .ok (.ireturn, 1) := by decide +kernel
theorem dX11_fault_9 : decode cX11_fault 9 = .ok (.aload_n 0, 1) := by decide +kernel
theorem dX11_fault_10 : decode cX11_fault 10 = .ok (.iload_n 1, 1) := by decide +kernel
theorem dX11_fault_11 : decode cX11_fault 11 = .ok (.invokevirtual 88, 3) := by decide +kernel
theorem dX11_fault_14 : decode cX11_fault 14 = .ok (.getfield 96, 3) := by decide +kernel
theorem dX11_fault_17 : decode cX11_fault 17 = .ok (.invokevirtual 110, 3) := by decide +kernel
theorem dX11_fault_20 : decode cX11_fault 20 = .ok (.ireturn, 1) := by decide +kernel
set_option maxRecDepth 20000 in
theorem ggX11_force_X11_isTongue : GoodIn wsX11_force wsX11_isTongue := goodIn_r _ [4, 5, 6, 3, 7] (by decide +kernel) (by decide +kernel)
set_option maxRecDepth 20000 in
theorem gX11_force_X11_isTongue : GoodIn wsX11_force (va_wsS RX11 74 yX11_isTongue wsX11_isTongue) := goodIn_app (goodIn_of _ (by decide +kernel)) ggX11_force_X11_isTongue
set_option maxRecDepth 20000 in
theorem ggX11_force_X11_tongueOf : GoodIn wsX11_force wsX11_tongueOf := goodIn_r _ [11, 12, 13, 74, 75, 76, 77, 78, 79, 80, 81, 82] (by decide +kernel) (by decide +kernel)
set_option maxRecDepth 20000 in
theorem gX11_force_X11_tongueOf : GoodIn wsX11_force (wsV RX11 88 RX11 yX11_tongueOf wsX11_tongueOf) := goodIn_app (goodIn_of _ (by decide +kernel)) ggX11_force_X11_tongueOf
set_option maxRecDepth 20000 in
theorem ggX11_force_X10_enact : GoodIn wsX11_force wsX10_enact := goodIn_r _ [18, 19, 20, 21, 22, 23, 24, 25, 26, 27, 28, 29, 30, 31, 32, 33, 34, 35, 36, 37, 38, 39, 6, 3, 7, 40, 41, 42, 43, 44, 45, 46, 47, 48, 49, 50, 51, 52, 53, 54, 55, 56, 57, 58, 59, 60, 61, 62, 63, 64, 65, 66, 67, 68, 5, 69, 70, 71, 72, 73, 83, 84, 85, 86, 87, 88, 89, 90, 91, 92, 93, 94, 95, 96, 97, 98, 99, 100] (by decide +kernel) (by decide +kernel)
set_option maxRecDepth 20000 in
theorem gX11_force_X10_enact : GoodIn wsX11_force (wsV RX11 113 RX10 yX10_enact wsX10_enact) := goodIn_app (goodIn_of _ (by decide +kernel)) ggX11_force_X10_enact
theorem dX11_force_0 : decode cX11_force 0 = .ok (.iload_n 1, 1) := by decide +kernel
theorem dX11_force_1 : decode cX11_force 1 = .ok (.invokestatic 74, 3) := by decide +kernel
theorem dX11_force_4 : decode cX11_force 4 = .ok (.ifCond .ne 5, 3) := by decide +kernel
theorem dX11_force_7 : decode cX11_force 7 = .ok (.iconst (-1), 1) := by decide +kernel
theorem dX11_force_8 : decode cX11_force 8 = .ok (.ireturn, 1) := by decide +kernel
theorem dX11_force_9 : decode cX11_force 9 = .ok (.aload_n 0, 1) := by decide +kernel
theorem dX11_force_10 : decode cX11_force 10 = .ok (.iload_n 1, 1) := by decide +kernel
theorem dX11_force_11 : decode cX11_force 11 = .ok (.invokevirtual 88, 3) := by decide +kernel
theorem dX11_force_14 : decode cX11_force 14 = .ok (.invokevirtual 113, 3) := by decide +kernel
theorem dX11_force_17 : decode cX11_force 17 = .ok (.ireturn, 1) := by decide +kernel
set_option maxRecDepth 20000 in
theorem ggX11_means_X11_isTongue : GoodIn wsX11_means wsX11_isTongue := goodIn_r _ [4, 5, 6, 3, 7] (by decide +kernel) (by decide +kernel)
set_option maxRecDepth 20000 in
theorem gX11_means_X11_isTongue : GoodIn wsX11_means (va_wsS RX11 74 yX11_isTongue wsX11_isTongue) := goodIn_app (goodIn_of _ (by decide +kernel)) ggX11_means_X11_isTongue
set_option maxRecDepth 20000 in
theorem ggX11_means_X11_isWord : GoodIn wsX11_means wsX11_isWord := goodIn_r _ [10, 5, 6, 3, 7] (by decide +kernel) (by decide +kernel)
set_option maxRecDepth 20000 in
theorem gX11_means_X11_isWord : GoodIn wsX11_means (va_wsS RX11 78 yX11_isWord wsX11_isWord) := goodIn_app (goodIn_of _ (by decide +kernel)) ggX11_means_X11_isWord
set_option maxRecDepth 20000 in
theorem ggX11_means_X11_isYear : GoodIn wsX11_means wsX11_isYear := goodIn_r _ [13, 5, 6, 3, 7] (by decide +kernel) (by decide +kernel)
set_option maxRecDepth 20000 in
theorem gX11_means_X11_isYear : GoodIn wsX11_means (va_wsS RX11 81 yX11_isYear wsX11_isYear) := goodIn_app (goodIn_of _ (by decide +kernel)) ggX11_means_X11_isYear
set_option maxRecDepth 20000 in
theorem ggX11_means_X11_tongueOf : GoodIn wsX11_means wsX11_tongueOf := goodIn_r _ [17, 18, 19, 40, 41, 42, 43, 44, 45, 46, 47, 48] (by decide +kernel) (by decide +kernel)
set_option maxRecDepth 20000 in
theorem gX11_means_X11_tongueOf : GoodIn wsX11_means (wsV RX11 88 RX11 yX11_tongueOf wsX11_tongueOf) := goodIn_app (goodIn_of _ (by decide +kernel)) ggX11_means_X11_tongueOf
set_option maxRecDepth 20000 in
theorem ggX11_means_X10_meaningOf : GoodIn wsX11_means wsX10_meaningOf := goodIn_r _ [24, 25, 26, 27, 28, 29, 30, 31, 32, 33, 6, 3, 7, 34, 35, 36, 37, 38, 39, 49, 50, 51, 52, 53, 54, 55, 56, 57, 58, 59, 60, 61, 62] (by decide +kernel) (by decide +kernel)
set_option maxRecDepth 20000 in
theorem gX11_means_X10_meaningOf : GoodIn wsX11_means (wsV RX11 116 RX10 yX10_meaningOf wsX10_meaningOf) := goodIn_app (goodIn_of _ (by decide +kernel)) ggX11_means_X10_meaningOf
theorem dX11_means_0 : decode cX11_means 0 = .ok (.iload_n 1, 1) := by decide +kernel
theorem dX11_means_1 : decode cX11_means 1 = .ok (.invokestatic 74, 3) := by decide +kernel
theorem dX11_means_4 : decode cX11_means 4 = .ok (.ifCond .eq 17, 3) := by decide +kernel
theorem dX11_means_7 : decode cX11_means 7 = .ok (.iload_n 2, 1) := by decide +kernel
theorem dX11_means_8 : decode cX11_means 8 = .ok (.invokestatic 78, 3) := by decide +kernel
theorem dX11_means_11 : decode cX11_means 11 = .ok (.ifCond .eq 10, 3) := by decide +kernel
theorem dX11_means_14 : decode cX11_means 14 = .ok (.iload_n 3, 1) := by decide +kernel
theorem dX11_means_15 : decode cX11_means 15 = .ok (.invokestatic 81, 3) := by decide +kernel
theorem dX11_means_18 : decode cX11_means 18 = .ok (.ifCond .ne 5, 3) := by decide +kernel
theorem dX11_means_21 : decode cX11_means 21 = .ok (.iconst (-1), 1) := by decide +kernel
theorem dX11_means_22 : decode cX11_means 22 = .ok (.ireturn, 1) := by decide +kernel
theorem dX11_means_23 : decode cX11_means 23 = .ok (.aload_n 0, 1) := by decide +kernel
theorem dX11_means_24 : decode cX11_means 24 = .ok (.iload_n 1, 1) := by decide +kernel
theorem dX11_means_25 : decode cX11_means 25 = .ok (.invokevirtual 88, 3) := by decide +kernel
theorem dX11_means_28 : decode cX11_means 28 = .ok (.iload_n 2, 1) := by decide +kernel
theorem dX11_means_29 : decode cX11_means 29 = .ok (.iload_n 3, 1) := by decide +kernel
theorem dX11_means_30 : decode cX11_means 30 = .ok (.invokevirtual 116, 3) := by decide +kernel
theorem dX11_means_33 : decode cX11_means 33 = .ok (.ireturn, 1) := by decide +kernel
set_option maxRecDepth 20000 in
theorem ggX11_let_X11_isTongue : GoodIn wsX11_let wsX11_isTongue := goodIn_r _ [4, 5, 6, 3, 7] (by decide +kernel) (by decide +kernel)
set_option maxRecDepth 20000 in
theorem gX11_let_X11_isTongue : GoodIn wsX11_let (va_wsS RX11 74 yX11_isTongue wsX11_isTongue) := goodIn_app (goodIn_of _ (by decide +kernel)) ggX11_let_X11_isTongue
set_option maxRecDepth 20000 in
theorem ggX11_let_X11_isVerb : GoodIn wsX11_let wsX11_isVerb := goodIn_r _ [10, 5, 6, 3, 7] (by decide +kernel) (by decide +kernel)
set_option maxRecDepth 20000 in
theorem gX11_let_X11_isVerb : GoodIn wsX11_let (va_wsS RX11 120 yX11_isVerb wsX11_isVerb) := goodIn_app (goodIn_of _ (by decide +kernel)) ggX11_let_X11_isVerb
set_option maxRecDepth 20000 in
theorem ggX11_let_X11_isThing : GoodIn wsX11_let wsX11_isThing := goodIn_r _ [13, 5, 6, 3, 7] (by decide +kernel) (by decide +kernel)
set_option maxRecDepth 20000 in
theorem gX11_let_X11_isThing : GoodIn wsX11_let (va_wsS RX11 123 yX11_isThing wsX11_isThing) := goodIn_app (goodIn_of _ (by decide +kernel)) ggX11_let_X11_isThing
set_option maxRecDepth 20000 in
theorem ggX11_let_X11_isYear : GoodIn wsX11_let wsX11_isYear := goodIn_r _ [16, 5, 6, 3, 7] (by decide +kernel) (by decide +kernel)
set_option maxRecDepth 20000 in
theorem gX11_let_X11_isYear : GoodIn wsX11_let (va_wsS RX11 81 yX11_isYear wsX11_isYear) := goodIn_app (goodIn_of _ (by decide +kernel)) ggX11_let_X11_isYear
set_option maxRecDepth 20000 in
theorem ggX11_let_X11_isFactSet : GoodIn wsX11_let wsX11_isFactSet := goodIn_r _ [19, 5, 6, 3, 7] (by decide +kernel) (by decide +kernel)
set_option maxRecDepth 20000 in
theorem gX11_let_X11_isFactSet : GoodIn wsX11_let (va_wsS RX11 126 yX11_isFactSet wsX11_isFactSet) := goodIn_app (goodIn_of _ (by decide +kernel)) ggX11_let_X11_isFactSet
set_option maxRecDepth 20000 in
theorem ggX11_let_X11_tongueOf : GoodIn wsX11_let wsX11_tongueOf := goodIn_r _ [23, 24, 25, 70, 71, 72, 73, 74, 75, 76, 77, 78] (by decide +kernel) (by decide +kernel)
set_option maxRecDepth 20000 in
theorem gX11_let_X11_tongueOf : GoodIn wsX11_let (wsV RX11 88 RX11 yX11_tongueOf wsX11_tongueOf) := goodIn_app (goodIn_of _ (by decide +kernel)) ggX11_let_X11_tongueOf
set_option maxRecDepth 20000 in
theorem ggX11_let_X10_learn : GoodIn wsX11_let wsX10_learn := goodIn_r _ [30, 31, 32, 33, 34, 29, 35, 36, 37, 38, 39, 40, 41, 42, 43, 44, 6, 3, 7, 45, 46, 47, 48, 49, 50, 79, 80, 81, 82, 83, 84, 85, 86, 87, 88, 89, 90, 91, 92] (by decide +kernel) (by decide +kernel)
set_option maxRecDepth 20000 in
theorem gX11_let_X10_learn : GoodIn wsX11_let (wsV RX11 129 RX10 yX10_learn wsX10_learn) := goodIn_app (goodIn_of _ (by decide +kernel)) ggX11_let_X10_learn
set_option maxRecDepth 20000 in
theorem ggX11_let_X10_lets : GoodIn wsX11_let wsX10_lets := goodIn_r _ [54, 41, 55, 56, 57, 58, 29, 59, 40, 31, 42, 44, 60, 61, 62, 48, 63, 64, 65, 66, 67, 46, 47, 49, 50, 6, 3, 7, 68, 69, 79, 80, 81, 82, 83, 84, 85, 86, 87, 88, 89, 90, 91, 92] (by decide +kernel) (by decide +kernel)
set_option maxRecDepth 20000 in
theorem gX11_let_X10_lets : GoodIn wsX11_let (wsV RX11 133 RX10 yX10_lets wsX10_lets) := goodIn_app (goodIn_of _ (by decide +kernel)) ggX11_let_X10_lets
theorem dX11_let_0 : decode cX11_let 0 = .ok (.iload_n 1, 1) := by decide +kernel
theorem dX11_let_1 : decode cX11_let 1 = .ok (.invokestatic 74, 3) := by decide +kernel
theorem dX11_let_4 : decode cX11_let 4 = .ok (.ifCond .eq 33, 3) := by decide +kernel
theorem dX11_let_7 : decode cX11_let 7 = .ok (.iload_n 2, 1) := by decide +kernel
theorem dX11_let_8 : decode cX11_let 8 = .ok (.invokestatic 120, 3) := by decide +kernel
theorem dX11_let_11 : decode cX11_let 11 = .ok (.ifCond .eq 26, 3) := by decide +kernel
theorem dX11_let_14 : decode cX11_let 14 = .ok (.iload_n 3, 1) := by decide +kernel
theorem dX11_let_15 : decode cX11_let 15 = .ok (.invokestatic 123, 3) := by decide +kernel
theorem dX11_let_18 : decode cX11_let 18 = .ok (.ifCond .eq 19, 3) := by decide +kernel
theorem dX11_let_21 : decode cX11_let 21 = .ok (.iload 4, 2) := by decide +kernel
theorem dX11_let_23 : decode cX11_let 23 = .ok (.invokestatic 81, 3) := by decide +kernel
theorem dX11_let_26 : decode cX11_let 26 = .ok (.ifCond .eq 11, 3) := by decide +kernel
theorem dX11_let_29 : decode cX11_let 29 = .ok (.iload 5, 2) := by decide +kernel
theorem dX11_let_31 : decode cX11_let 31 = .ok (.invokestatic 126, 3) := by decide +kernel
theorem dX11_let_34 : decode cX11_let 34 = .ok (.ifCond .ne 5, 3) := by decide +kernel
theorem dX11_let_37 : decode cX11_let 37 = .ok (.iconst (-1), 1) := by decide +kernel
theorem dX11_let_38 : decode cX11_let 38 = .ok (.ireturn, 1) := by decide +kernel
theorem dX11_let_39 : decode cX11_let 39 = .ok (.aload_n 0, 1) := by decide +kernel
theorem dX11_let_40 : decode cX11_let 40 = .ok (.iload_n 1, 1) := by decide +kernel
theorem dX11_let_41 : decode cX11_let 41 = .ok (.invokevirtual 88, 3) := by decide +kernel
theorem dX11_let_44 : decode cX11_let 44 = .ok (.astore 6, 2) := by decide +kernel
theorem dX11_let_46 : decode cX11_let 46 = .ok (.aload 6, 2) := by decide +kernel
theorem dX11_let_48 : decode cX11_let 48 = .ok (.iload 4, 2) := by decide +kernel
theorem dX11_let_50 : decode cX11_let 50 = .ok (.invokevirtual 129, 3) := by decide +kernel
theorem dX11_let_53 : decode cX11_let 53 = .ok (.aload 6, 2) := by decide +kernel
theorem dX11_let_55 : decode cX11_let 55 = .ok (.iload_n 2, 1) := by decide +kernel
theorem dX11_let_56 : decode cX11_let 56 = .ok (.iload_n 3, 1) := by decide +kernel
theorem dX11_let_57 : decode cX11_let 57 = .ok (.iload 4, 2) := by decide +kernel
theorem dX11_let_59 : decode cX11_let 59 = .ok (.iload 5, 2) := by decide +kernel
