theorem dX12_doneBy_12 : decode cX12_doneBy 12 = .ok (.iload_n 2, 1) := by decide +kernel
theorem dX12_doneBy_13 : decode cX12_doneBy 13 = .ok (.invokestatic 107, 3) := by decide +kernel
theorem dX12_doneBy_16 : decode cX12_doneBy 16 = .ok (.ifCond .eq 15, 3) := by decide +kernel
theorem dX12_doneBy_19 : decode cX12_doneBy 19 = .ok (.iload_n 3, 1) := by decide +kernel
theorem dX12_doneBy_20 : decode cX12_doneBy 20 = .ok (.i2l, 1) := by decide +kernel
theorem dX12_doneBy_21 : decode cX12_doneBy 21 = .ok (.lconst 0, 1) := by decide +kernel
theorem dX12_doneBy_22 : decode cX12_doneBy 22 = .ok (.ldc2_w 114, 3) := by decide +kernel
theorem dX12_doneBy_25 : decode cX12_doneBy 25 = .ok (.invokestatic 97, 3) := by decide +kernel
theorem dX12_doneBy_28 : decode cX12_doneBy 28 = .ok (.ifCond .ne 5, 3) := by decide +kernel
theorem dX12_doneBy_31 : decode cX12_doneBy 31 = .ok (.iconst (-1), 1) := by decide +kernel
theorem dX12_doneBy_32 : decode cX12_doneBy 32 = .ok (.ireturn, 1) := by decide +kernel
theorem dX12_doneBy_33 : decode cX12_doneBy 33 = .ok (.aload_n 0, 1) := by decide +kernel
theorem dX12_doneBy_34 : decode cX12_doneBy 34 = .ok (.iload_n 2, 1) := by decide +kernel
theorem dX12_doneBy_35 : decode cX12_doneBy 35 = .ok (.invokevirtual 162, 3) := by decide +kernel
theorem dX12_doneBy_38 : decode cX12_doneBy 38 = .ok (.aload_n 0, 1) := by decide +kernel
theorem dX12_doneBy_39 : decode cX12_doneBy 39 = .ok (.iload_n 1, 1) := by decide +kernel
theorem dX12_doneBy_40 : decode cX12_doneBy 40 = .ok (.iload_n 2, 1) := by decide +kernel
theorem dX12_doneBy_41 : decode cX12_doneBy 41 = .ok (.iload_n 3, 1) := by decide +kernel
theorem dX12_doneBy_42 : decode cX12_doneBy 42 = .ok (.invokevirtual 166, 3) := by decide +kernel
theorem dX12_doneBy_45 : decode cX12_doneBy 45 = .ok (.ifCond .ne 6, 3) := by decide +kernel
theorem dX12_doneBy_48 : decode cX12_doneBy 48 = .ok (.bipush (-2), 2) := by decide +kernel
theorem dX12_doneBy_50 : decode cX12_doneBy 50 = .ok (.ireturn, 1) := by decide +kernel
theorem dX12_doneBy_51 : decode cX12_doneBy 51 = .ok (.iconst 0, 1) := by decide +kernel
theorem dX12_doneBy_52 : decode cX12_doneBy 52 = .ok (.istore 4, 2) := by decide +kernel
theorem dX12_doneBy_54 : decode cX12_doneBy 54 = .ok (.iconst 0, 1) := by decide +kernel
theorem dX12_doneBy_55 : decode cX12_doneBy 55 = .ok (.istore 5, 2) := by decide +kernel
theorem dX12_doneBy_57 : decode cX12_doneBy 57 = .ok (.iload 5, 2) := by decide +kernel
theorem dX12_doneBy_59 : decode cX12_doneBy 59 = .ok (.bipush 8, 2) := by decide +kernel
theorem dX12_doneBy_61 : decode cX12_doneBy 61 = .ok (.if_icmp .ge 67, 3) := by decide +kernel
theorem dX12_doneBy_64 : decode cX12_doneBy 64 = .ok (.aload_n 0, 1) := by decide +kernel
theorem dX12_doneBy_65 : decode cX12_doneBy 65 = .ok (.getfield 73, 3) := by decide +kernel
theorem dX12_doneBy_68 : decode cX12_doneBy 68 = .ok (.iload 5, 2) := by decide +kernel
theorem dX12_doneBy_70 : decode cX12_doneBy 70 = .ok (.iaload, 1) := by decide +kernel
theorem dX12_doneBy_71 : decode cX12_doneBy 71 = .ok (.istore 6, 2) := by decide +kernel
theorem dX12_doneBy_73 : decode cX12_doneBy 73 = .ok (.aload_n 0, 1) := by decide +kernel
theorem dX12_doneBy_74 : decode cX12_doneBy 74 = .ok (.getfield 73, 3) := by decide +kernel
theorem dX12_doneBy_77 : decode cX12_doneBy 77 = .ok (.iload 5, 2) := by decide +kernel
theorem dX12_doneBy_79 : decode cX12_doneBy 79 = .ok (.aload_n 0, 1) := by decide +kernel
theorem dX12_doneBy_80 : decode cX12_doneBy 80 = .ok (.getfield 73, 3) := by decide +kernel
theorem dX12_doneBy_83 : decode cX12_doneBy 83 = .ok (.bipush 8, 2) := by decide +kernel
theorem dX12_doneBy_85 : decode cX12_doneBy 85 = .ok (.iload 5, 2) := by decide +kernel
theorem dX12_doneBy_87 : decode cX12_doneBy 87 = .ok (.iadd, 1) := by decide +kernel
theorem dX12_doneBy_88 : decode cX12_doneBy 88 = .ok (.iaload, 1) := by decide +kernel
theorem dX12_doneBy_89 : decode cX12_doneBy 89 = .ok (.iastore, 1) := by decide +kernel
theorem dX12_doneBy_90 : decode cX12_doneBy 90 = .ok (.iload 4, 2) := by decide +kernel
theorem dX12_doneBy_92 : decode cX12_doneBy 92 = .ok (.aload_n 0, 1) := by decide +kernel
theorem dX12_doneBy_93 : decode cX12_doneBy 93 = .ok (.iload_n 1, 1) := by decide +kernel
theorem dX12_doneBy_94 : decode cX12_doneBy 94 = .ok (.iload_n 2, 1) := by decide +kernel
theorem dX12_doneBy_95 : decode cX12_doneBy 95 = .ok (.iload_n 3, 1) := by decide +kernel
theorem dX12_doneBy_96 : decode cX12_doneBy 96 = .ok (.invokevirtual 166, 3) := by decide +kernel
theorem dX12_doneBy_99 : decode cX12_doneBy 99 = .ok (.ifCond .eq 7, 3) := by decide +kernel
theorem dX12_doneBy_102 : decode cX12_doneBy 102 = .ok (.iconst 0, 1) := by decide +kernel
theorem dX12_doneBy_103 : decode cX12_doneBy 103 = .ok (.goto 7, 3) := by decide +kernel
theorem dX12_doneBy_106 : decode cX12_doneBy 106 = .ok (.iconst 1, 1) := by decide +kernel
theorem dX12_doneBy_107 : decode cX12_doneBy 107 = .ok (.iload 5, 2) := by decide +kernel
theorem dX12_doneBy_109 : decode cX12_doneBy 109 = .ok (.ishl, 1) := by decide +kernel
theorem dX12_doneBy_110 : decode cX12_doneBy 110 = .ok (.ior, 1) := by decide +kernel
theorem dX12_doneBy_111 : decode cX12_doneBy 111 = .ok (.istore 4, 2) := by decide +kernel
theorem dX12_doneBy_113 : decode cX12_doneBy 113 = .ok (.aload_n 0, 1) := by decide +kernel
theorem dX12_doneBy_114 : decode cX12_doneBy 114 = .ok (.getfield 73, 3) := by decide +kernel
theorem dX12_doneBy_117 : decode cX12_doneBy 117 = .ok (.iload 5, 2) := by decide +kernel
theorem dX12_doneBy_119 : decode cX12_doneBy 119 = .ok (.iload 6, 2) := by decide +kernel
theorem dX12_doneBy_121 : decode cX12_doneBy 121 = .ok (.iastore, 1) := by decide +kernel
theorem dX12_doneBy_122 : decode cX12_doneBy 122 = .ok (.iinc 5 1, 3) := by decide +kernel
theorem dX12_doneBy_125 : decode cX12_doneBy 125 = .ok (.goto (-68), 3) := by decide +kernel
theorem dX12_doneBy_128 : decode cX12_doneBy 128 = .ok (.iload 4, 2) := by decide +kernel
theorem dX12_doneBy_130 : decode cX12_doneBy 130 = .ok (.ireturn, 1) := by decide +kernel
set_option maxRecDepth 20000 in
theorem ggX12_isPerson_X12_in : GoodIn wsX12_isPerson wsX12_in := goodIn_r _ [5] (by decide +kernel) (by decide +kernel)
set_option maxRecDepth 20000 in
theorem gX12_isPerson_X12_in : GoodIn wsX12_isPerson (va_wsS RX12 97 yX12_in wsX12_in) := goodIn_app (goodIn_of _ (by decide +kernel)) ggX12_isPerson_X12_in
theorem dX12_isPerson_0 : decode cX12_isPerson 0 = .ok (.iload_n 1, 1) := by decide +kernel
theorem dX12_isPerson_1 : decode cX12_isPerson 1 = .ok (.i2l, 1) := by decide +kernel
theorem dX12_isPerson_2 : decode cX12_isPerson 2 = .ok (.lconst 0, 1) := by decide +kernel
theorem dX12_isPerson_3 : decode cX12_isPerson 3 = .ok (.aload_n 0, 1) := by decide +kernel
theorem dX12_isPerson_4 : decode cX12_isPerson 4 = .ok (.getfield 175, 3) := by decide +kernel
theorem dX12_isPerson_7 : decode cX12_isPerson 7 = .ok (.iconst 1, 1) := by decide +kernel
theorem dX12_isPerson_8 : decode cX12_isPerson 8 = .ok (.isub, 1) := by decide +kernel
theorem dX12_isPerson_9 : decode cX12_isPerson 9 = .ok (.i2l, 1) := by decide +kernel
theorem dX12_isPerson_10 : decode cX12_isPerson 10 = .ok (.invokestatic 97, 3) := by decide +kernel
theorem dX12_isPerson_13 : decode cX12_isPerson 13 = .ok (.ireturn, 1) := by decide +kernel
set_option maxRecDepth 20000 in
theorem ggX12_isKin_X12_in : GoodIn wsX12_isKin wsX12_in := goodIn_r _ [5] (by decide +kernel) (by decide +kernel)
set_option maxRecDepth 20000 in
theorem gX12_isKin_X12_in : GoodIn wsX12_isKin (va_wsS RX12 97 yX12_in wsX12_in) := goodIn_app (goodIn_of _ (by decide +kernel)) ggX12_isKin_X12_in
theorem dX12_isKin_0 : decode cX12_isKin 0 = .ok (.iload_n 0, 1) := by decide +kernel
theorem dX12_isKin_1 : decode cX12_isKin 1 = .ok (.i2l, 1) := by decide +kernel
theorem dX12_isKin_2 : decode cX12_isKin 2 = .ok (.lconst 0, 1) := by decide +kernel
theorem dX12_isKin_3 : decode cX12_isKin 3 = .ok (.ldc2_w 178, 3) := by decide +kernel
theorem dX12_isKin_6 : decode cX12_isKin 6 = .ok (.invokestatic 97, 3) := by decide +kernel
theorem dX12_isKin_9 : decode cX12_isKin 9 = .ok (.ireturn, 1) := by decide +kernel
set_option maxRecDepth 20000 in
theorem ggX12_person_X12_isYear : GoodIn wsX12_person wsX12_isYear := goodIn_r _ [10, 11, 12, 13, 9, 14] (by decide +kernel) (by decide +kernel)
set_option maxRecDepth 20000 in
theorem gX12_person_X12_isYear : GoodIn wsX12_person (va_wsS RX12 107 yX12_isYear wsX12_isYear) := goodIn_app (goodIn_of _ (by decide +kernel)) ggX12_person_X12_isYear
set_option maxRecDepth 20000 in
theorem ggX12_person_X12_isPerson : GoodIn wsX12_person wsX12_isPerson := goodIn_r _ [18, 1, 12, 13, 9, 14, 19, 20, 21, 22, 23, 24, 25, 26, 27, 28, 29, 30, 31, 32, 33, 34, 35, 36, 37, 38, 39, 40, 41, 42, 43, 44, 45, 46, 47, 48, 49, 50, 51, 52, 53, 54, 55, 56, 57, 58] (by decide +kernel) (by decide +kernel)
set_option maxRecDepth 20000 in
theorem gX12_person_X12_isPerson : GoodIn wsX12_person (wsV RX12 180 RX12 yX12_isPerson wsX12_isPerson) := goodIn_app (goodIn_of _ (by decide +kernel)) ggX12_person_X12_isPerson
theorem dX12_person_0 : decode cX12_person 0 = .ok (.iload_n 2, 1) := by decide +kernel
theorem dX12_person_1 : decode cX12_person 1 = .ok (.iconst (-1), 1) := by decide +kernel
theorem dX12_person_2 : decode cX12_person 2 = .ok (.if_icmp .ne 12, 3) := by decide +kernel
theorem dX12_person_5 : decode cX12_person 5 = .ok (.iload_n 3, 1) := by decide +kernel
theorem dX12_person_6 : decode cX12_person 6 = .ok (.iconst (-1), 1) := by decide +kernel
theorem dX12_person_7 : decode cX12_person 7 = .ok (.if_icmp .ne 7, 3) := by decide +kernel
theorem dX12_person_10 : decode cX12_person 10 = .ok (.iconst 1, 1) := by decide +kernel
theorem dX12_person_11 : decode cX12_person 11 = .ok (.goto 4, 3) := by decide +kernel
theorem dX12_person_14 : decode cX12_person 14 = .ok (.iconst 0, 1) := by decide +kernel
theorem dX12_person_15 : decode cX12_person 15 = .ok (.istore 4, 2) := by decide +kernel
theorem dX12_person_17 : decode cX12_person 17 = .ok (.iload_n 1, 1) := by decide +kernel
theorem dX12_person_18 : decode cX12_person 18 = .ok (.invokestatic 107, 3) := by decide +kernel
theorem dX12_person_21 : decode cX12_person 21 = .ok (.ifCond .eq 29, 3) := by decide +kernel
theorem dX12_person_24 : decode cX12_person 24 = .ok (.iload 4, 2) := by decide +kernel
theorem dX12_person_26 : decode cX12_person 26 = .ok (.ifCond .ne 26, 3) := by decide +kernel
theorem dX12_person_29 : decode cX12_person 29 = .ok (.aload_n 0, 1) := by decide +kernel
theorem dX12_person_30 : decode cX12_person 30 = .ok (.iload_n 2, 1) := by decide +kernel
theorem dX12_person_31 : decode cX12_person 31 = .ok (.invokevirtual 180, 3) := by decide +kernel
theorem dX12_person_34 : decode cX12_person 34 = .ok (.ifCond .eq 16, 3) := by decide +kernel
theorem dX12_person_37 : decode cX12_person 37 = .ok (.aload_n 0, 1) := by decide +kernel
theorem dX12_person_38 : decode cX12_person 38 = .ok (.iload_n 3, 1) := by decide +kernel
theorem dX12_person_39 : decode cX12_person 39 = .ok (.invokevirtual 180, 3) := by decide +kernel
theorem dX12_person_42 : decode cX12_person 42 = .ok (.ifCond .eq 8, 3) := by decide +kernel
theorem dX12_person_45 : decode cX12_person 45 = .ok (.iload_n 2, 1) := by decide +kernel
theorem dX12_person_46 : decode cX12_person 46 = .ok (.iload_n 3, 1) := by decide +kernel
theorem dX12_person_47 : decode cX12_person 47 = .ok (.if_icmp .ne 5, 3) := by decide +kernel
theorem dX12_person_50 : decode cX12_person 50 = .ok (.iconst (-1), 1) := by decide +kernel
theorem dX12_person_51 : decode cX12_person 51 = .ok (.ireturn, 1) := by decide +kernel
theorem dX12_person_52 : decode cX12_person 52 = .ok (.aload_n 0, 1) := by decide +kernel
theorem dX12_person_53 : decode cX12_person 53 = .ok (.getfield 175, 3) := by decide +kernel
theorem dX12_person_56 : decode cX12_person 56 = .ok (.bipush 30, 2) := by decide +kernel
theorem dX12_person_58 : decode cX12_person 58 = .ok (.if_icmp .ne 6, 3) := by decide +kernel
theorem dX12_person_61 : decode cX12_person 61 = .ok (.bipush (-3), 2) := by decide +kernel
theorem dX12_person_63 : decode cX12_person 63 = .ok (.ireturn, 1) := by decide +kernel
theorem dX12_person_64 : decode cX12_person 64 = .ok (.aload_n 0, 1) := by decide +kernel
theorem dX12_person_65 : decode cX12_person 65 = .ok (.getfield 28, 3) := by decide +kernel
theorem dX12_person_68 : decode cX12_person 68 = .ok (.aload_n 0, 1) := by decide +kernel
theorem dX12_person_69 : decode cX12_person 69 = .ok (.getfield 175, 3) := by decide +kernel
theorem dX12_person_72 : decode cX12_person 72 = .ok (.iload_n 1, 1) := by decide +kernel
theorem dX12_person_73 : decode cX12_person 73 = .ok (.iastore, 1) := by decide +kernel
theorem dX12_person_74 : decode cX12_person 74 = .ok (.aload_n 0, 1) := by decide +kernel
theorem dX12_person_75 : decode cX12_person 75 = .ok (.getfield 31, 3) := by decide +kernel
theorem dX12_person_78 : decode cX12_person 78 = .ok (.iconst 2, 1) := by decide +kernel
theorem dX12_person_79 : decode cX12_person 79 = .ok (.aload_n 0, 1) := by decide +kernel
theorem dX12_person_80 : decode cX12_person 80 = .ok (.getfield 175, 3) := by decide +kernel
theorem dX12_person_83 : decode cX12_person 83 = .ok (.imul, 1) := by decide +kernel
theorem dX12_person_84 : decode cX12_person 84 = .ok (.iload_n 2, 1) := by decide +kernel
theorem dX12_person_85 : decode cX12_person 85 = .ok (.iastore, 1) := by decide +kernel
theorem dX12_person_86 : decode cX12_person 86 = .ok (.aload_n 0, 1) := by decide +kernel
theorem dX12_person_87 : decode cX12_person 87 = .ok (.getfield 31, 3) := by decide +kernel
theorem dX12_person_90 : decode cX12_person 90 = .ok (.iconst 2, 1) := by decide +kernel
theorem dX12_person_91 : decode cX12_person 91 = .ok (.aload_n 0, 1) := by decide +kernel
theorem dX12_person_92 : decode cX12_person 92 = .ok (.getfield 175, 3) := by decide +kernel
theorem dX12_person_95 : decode cX12_person 95 = .ok (.imul, 1) := by decide +kernel
theorem dX12_person_96 : decode cX12_person 96 = .ok (.iconst 1, 1) := by decide +kernel
theorem dX12_person_97 : decode cX12_person 97 = .ok (.iadd, 1) := by decide +kernel
theorem dX12_person_98 : decode cX12_person 98 = .ok (.iload_n 3, 1) := by decide +kernel
theorem dX12_person_99 : decode cX12_person 99 = .ok (.iastore, 1) := by decide +kernel
theorem dX12_person_100 : decode cX12_person 100 = .ok (.aload_n 0, 1) := by decide +kernel
theorem dX12_person_101 : decode cX12_person 101 = .ok (.getfield 34, 3) := by decide +kernel
theorem dX12_person_104 : decode cX12_person 104 = .ok (.aload_n 0, 1) := by decide +kernel
theorem dX12_person_105 : decode cX12_person 105 = .ok (.getfield 175, 3) := by decide +kernel
theorem dX12_person_108 : decode cX12_person 108 = .ok (.ldc 183, 2) := by decide +kernel
theorem dX12_person_110 : decode cX12_person 110 = .ok (.iastore, 1) := by decide +kernel
theorem dX12_person_111 : decode cX12_person 111 = .ok (.aload_n 0, 1) := by decide +kernel
theorem dX12_person_112 : decode cX12_person 112 = .ok (.getfield 37, 3) := by decide +kernel
theorem dX12_person_115 : decode cX12_person 115 = .ok (.aload_n 0, 1) := by decide +kernel
theorem dX12_person_116 : decode cX12_person 116 = .ok (.getfield 175, 3) := by decide +kernel
theorem dX12_person_119 : decode cX12_person 119 = .ok (.iconst 0, 1) := by decide +kernel
theorem dX12_person_120 : decode cX12_person 120 = .ok (.iastore, 1) := by decide +kernel
theorem dX12_person_121 : decode cX12_person 121 = .ok (.aload_n 0, 1) := by decide +kernel
theorem dX12_person_122 : decode cX12_person 122 = .ok (.dup, 1) := by decide +kernel
theorem dX12_person_123 : decode cX12_person 123 = .ok (.getfield 175, 3) := by decide +kernel
theorem dX12_person_126 : decode cX12_person 126 = .ok (.iconst 1, 1) := by decide +kernel
theorem dX12_person_127 : decode cX12_person 127 = .ok (.iadd, 1) := by decide +kernel
theorem dX12_person_128 : decode cX12_person 128 = .ok (.putfield 175, 3) := by decide +kernel
theorem dX12_person_131 : decode cX12_person 131 = .ok (.aload_n 0, 1) := by decide +kernel
theorem dX12_person_132 : decode cX12_person 132 = .ok (.getfield 175, 3) := by decide +kernel
theorem dX12_person_135 : decode cX12_person 135 = .ok (.iconst 1, 1) := by decide +kernel
theorem dX12_person_136 : decode cX12_person 136 = .ok (.isub, 1) := by decide +kernel
theorem dX12_person_137 : decode cX12_person 137 = .ok (.ireturn, 1) := by decide +kernel
set_option maxRecDepth 20000 in
theorem ggX12_die_X12_isPerson : GoodIn wsX12_die wsX12_isPerson := goodIn_r _ [8, 9, 10, 11, 7, 12, 17, 18, 19, 20, 21, 22, 23, 24, 25, 26, 27, 28, 29, 30, 31, 32, 33, 34, 35, 36, 37, 38, 39, 40, 41, 42, 43, 44, 45, 46, 47, 48, 49, 50, 51, 52, 53, 54, 55, 56] (by decide +kernel) (by decide +kernel)
set_option maxRecDepth 20000 in
theorem gX12_die_X12_isPerson : GoodIn wsX12_die (wsV RX12 180 RX12 yX12_isPerson wsX12_isPerson) := goodIn_app (goodIn_of _ (by decide +kernel)) ggX12_die_X12_isPerson
set_option maxRecDepth 20000 in
theorem ggX12_die_X12_isYear : GoodIn wsX12_die wsX12_isYear := goodIn_r _ [15, 16, 10, 11, 7, 12] (by decide +kernel) (by decide +kernel)
set_option maxRecDepth 20000 in
theorem gX12_die_X12_isYear : GoodIn wsX12_die (va_wsS RX12 107 yX12_isYear wsX12_isYear) := goodIn_app (goodIn_of _ (by decide +kernel)) ggX12_die_X12_isYear
theorem dX12_die_0 : decode cX12_die 0 = .ok (.aload_n 0, 1) := by decide +kernel
theorem dX12_die_1 : decode cX12_die 1 = .ok (.iload_n 1, 1) := by decide +kernel
theorem dX12_die_2 : decode cX12_die 2 = .ok (.invokevirtual 180, 3) := by decide +kernel
theorem dX12_die_5 : decode cX12_die 5 = .ok (.ifCond .eq 10, 3) := by decide +kernel
theorem dX12_die_8 : decode cX12_die 8 = .ok (.iload_n 2, 1) := by decide +kernel
theorem dX12_die_9 : decode cX12_die 9 = .ok (.invokestatic 107, 3) := by decide +kernel
theorem dX12_die_12 : decode cX12_die 12 = .ok (.ifCond .ne 5, 3) := by decide +kernel
theorem dX12_die_15 : decode cX12_die 15 = .ok (.iconst (-1), 1) := by decide +kernel
theorem dX12_die_16 : decode cX12_die 16 = .ok (.ireturn, 1) := by decide +kernel
theorem dX12_die_17 : decode cX12_die 17 = .ok (.aload_n 0, 1) := by decide +kernel
theorem dX12_die_18 : decode cX12_die 18 = .ok (.getfield 34, 3) := by decide +kernel
theorem dX12_die_21 : decode cX12_die 21 = .ok (.iload_n 1, 1) := by decide +kernel
theorem dX12_die_22 : decode cX12_die 22 = .ok (.iaload, 1) := by decide +kernel
theorem dX12_die_23 : decode cX12_die 23 = .ok (.ldc 183, 2) := by decide +kernel
theorem dX12_die_25 : decode cX12_die 25 = .ok (.if_icmp .lt 13, 3) := by decide +kernel
theorem dX12_die_28 : decode cX12_die 28 = .ok (.iload_n 2, 1) := by decide +kernel
theorem dX12_die_29 : decode cX12_die 29 = .ok (.aload_n 0, 1) := by decide +kernel
theorem dX12_die_30 : decode cX12_die 30 = .ok (.getfield 28, 3) := by decide +kernel
theorem dX12_die_33 : decode cX12_die 33 = .ok (.iload_n 1, 1) := by decide +kernel
theorem dX12_die_34 : decode cX12_die 34 = .ok (.iaload, 1) := by decide +kernel
theorem dX12_die_35 : decode cX12_die 35 = .ok (.if_icmp .ge 6, 3) := by decide +kernel
theorem dX12_die_38 : decode cX12_die 38 = .ok (.bipush (-2), 2) := by decide +kernel
theorem dX12_die_40 : decode cX12_die 40 = .ok (.ireturn, 1) := by decide +kernel
theorem dX12_die_41 : decode cX12_die 41 = .ok (.aload_n 0, 1) := by decide +kernel
theorem dX12_die_42 : decode cX12_die 42 = .ok (.getfield 34, 3) := by decide +kernel
theorem dX12_die_45 : decode cX12_die 45 = .ok (.iload_n 1, 1) := by decide +kernel
theorem dX12_die_46 : decode cX12_die 46 = .ok (.iload_n 2, 1) := by decide +kernel
theorem dX12_die_47 : decode cX12_die 47 = .ok (.iastore, 1) := by decide +kernel
theorem dX12_die_48 : decode cX12_die 48 = .ok (.iconst 0, 1) := by decide +kernel
theorem dX12_die_49 : decode cX12_die 49 = .ok (.ireturn, 1) := by decide +kernel
set_option maxRecDepth 20000 in
theorem ggX12_founder_X12_isPerson : GoodIn wsX12_founder wsX12_isPerson := goodIn_r _ [7, 2, 8, 9, 6, 10, 18, 19, 20, 21, 22, 23, 24, 25, 26, 27, 28, 29, 30, 31, 32, 33, 34, 35, 36, 37, 38, 39, 40, 41, 42, 43, 44, 45, 46, 47, 48, 49, 50, 51, 52, 53, 54, 55, 56, 57] (by decide +kernel) (by decide +kernel)
set_option maxRecDepth 20000 in
theorem gX12_founder_X12_isPerson : GoodIn wsX12_founder (wsV RX12 180 RX12 yX12_isPerson wsX12_isPerson) := goodIn_app (goodIn_of _ (by decide +kernel)) ggX12_founder_X12_isPerson
set_option maxRecDepth 20000 in
theorem ggX12_founder_X12_isKin : GoodIn wsX12_founder wsX12_isKin := goodIn_r _ [13, 14, 8, 9, 6, 10] (by decide +kernel) (by decide +kernel)
set_option maxRecDepth 20000 in
theorem gX12_founder_X12_isKin : GoodIn wsX12_founder (va_wsS RX12 184 yX12_isKin wsX12_isKin) := goodIn_app (goodIn_of _ (by decide +kernel)) ggX12_founder_X12_isKin
set_option maxRecDepth 20000 in
theorem ggX12_founder_X12_has : GoodIn wsX12_founder wsX12_has := goodIn_r _ [17] (by decide +kernel) (by decide +kernel)
set_option maxRecDepth 20000 in
theorem gX12_founder_X12_has : GoodIn wsX12_founder (va_wsS RX12 147 yX12_has wsX12_has) := goodIn_app (goodIn_of _ (by decide +kernel)) ggX12_founder_X12_has
theorem dX12_founder_0 : decode cX12_founder 0 = .ok (.aload_n 0, 1) := by decide +kernel
theorem dX12_founder_1 : decode cX12_founder 1 = .ok (.iload_n 1, 1) := by decide +kernel
theorem dX12_founder_2 : decode cX12_founder 2 = .ok (.invokevirtual 180, 3) := by decide +kernel
theorem dX12_founder_5 : decode cX12_founder 5 = .ok (.ifCond .eq 10, 3) := by decide +kernel
theorem dX12_founder_8 : decode cX12_founder 8 = .ok (.iload_n 2, 1) := by decide +kernel
theorem dX12_founder_9 : decode cX12_founder 9 = .ok (.invokestatic 184, 3) := by decide +kernel
theorem dX12_founder_12 : decode cX12_founder 12 = .ok (.ifCond .ne 5, 3) := by decide +kernel
theorem dX12_founder_15 : decode cX12_founder 15 = .ok (.iconst (-1), 1) := by decide +kernel
theorem dX12_founder_16 : decode cX12_founder 16 = .ok (.ireturn, 1) := by decide +kernel
theorem dX12_founder_17 : decode cX12_founder 17 = .ok (.aload_n 0, 1) := by decide +kernel
theorem dX12_founder_18 : decode cX12_founder 18 = .ok (.getfield 37, 3) := by decide +kernel
theorem dX12_founder_21 : decode cX12_founder 21 = .ok (.iload_n 1, 1) := by decide +kernel
theorem dX12_founder_22 : decode cX12_founder 22 = .ok (.iaload, 1) := by decide +kernel
theorem dX12_founder_23 : decode cX12_founder 23 = .ok (.iload_n 2, 1) := by decide +kernel
theorem dX12_founder_24 : decode cX12_founder 24 = .ok (.invokestatic 147, 3) := by decide +kernel
theorem dX12_founder_27 : decode cX12_founder 27 = .ok (.ifCond .eq 6, 3) := by decide +kernel
theorem dX12_founder_30 : decode cX12_founder 30 = .ok (.bipush (-2), 2) := by decide +kernel
theorem dX12_founder_32 : decode cX12_founder 32 = .ok (.ireturn, 1) := by decide +kernel
theorem dX12_founder_33 : decode cX12_founder 33 = .ok (.aload_n 0, 1) := by decide +kernel
theorem dX12_founder_34 : decode cX12_founder 34 = .ok (.getfield 37, 3) := by decide +kernel
theorem dX12_founder_37 : decode cX12_founder 37 = .ok (.iload_n 1, 1) := by decide +kernel
theorem dX12_founder_38 : decode cX12_founder 38 = .ok (.dup2, 1) := by decide +kernel
theorem dX12_founder_39 : decode cX12_founder 39 = .ok (.iaload, 1) := by decide +kernel
theorem dX12_founder_40 : decode cX12_founder 40 = .ok (.iconst 1, 1) := by decide +kernel
theorem dX12_founder_41 : decode cX12_founder 41 = .ok (.iload_n 2, 1) := by decide +kernel
theorem dX12_founder_42 : decode cX12_founder 42 = .ok (.ishl, 1) := by decide +kernel
theorem dX12_founder_43 : decode cX12_founder 43 = .ok (.ior, 1) := by decide +kernel
theorem dX12_founder_44 : decode cX12_founder 44 = .ok (.iastore, 1) := by decide +kernel
theorem dX12_founder_45 : decode cX12_founder 45 = .ok (.iconst 0, 1) := by decide +kernel
theorem dX12_founder_46 : decode cX12_founder 46 = .ok (.istore_n 3, 1) := by decide +kernel
theorem dX12_founder_47 : decode cX12_founder 47 = .ok (.iconst 0, 1) := by decide +kernel
theorem dX12_founder_48 : decode cX12_founder 48 = .ok (.istore 4, 2) := by decide +kernel
theorem dX12_founder_50 : decode cX12_founder 50 = .ok (.iload 4, 2) := by decide +kernel
theorem dX12_founder_52 : decode cX12_founder 52 = .ok (.aload_n 0, 1) := by decide +kernel
theorem dX12_founder_53 : decode cX12_founder 53 = .ok (.getfield 175, 3) := by decide +kernel
theorem dX12_founder_56 : decode cX12_founder 56 = .ok (.if_icmp .ge 31, 3) := by decide +kernel
theorem dX12_founder_59 : decode cX12_founder 59 = .ok (.iload_n 3, 1) := by decide +kernel
theorem dX12_founder_60 : decode cX12_founder 60 = .ok (.aload_n 0, 1) := by decide +kernel
theorem dX12_founder_61 : decode cX12_founder 61 = .ok (.getfield 37, 3) := by decide +kernel
theorem dX12_founder_64 : decode cX12_founder 64 = .ok (.iload 4, 2) := by decide +kernel
theorem dX12_founder_66 : decode cX12_founder 66 = .ok (.iaload, 1) := by decide +kernel
theorem dX12_founder_67 : decode cX12_founder 67 = .ok (.iload_n 2, 1) := by decide +kernel
theorem dX12_founder_68 : decode cX12_founder 68 = .ok (.invokestatic 147, 3) := by decide +kernel
theorem dX12_founder_71 : decode cX12_founder 71 = .ok (.ifCond .eq 7, 3) := by decide +kernel
theorem dX12_founder_74 : decode cX12_founder 74 = .ok (.iconst 1, 1) := by decide +kernel
theorem dX12_founder_75 : decode cX12_founder 75 = .ok (.goto 4, 3) := by decide +kernel
theorem dX12_founder_78 : decode cX12_founder 78 = .ok (.iconst 0, 1) := by decide +kernel
theorem dX12_founder_79 : decode cX12_founder 79 = .ok (.iadd, 1) := by decide +kernel
theorem dX12_founder_80 : decode cX12_founder 80 = .ok (.istore_n 3, 1) := by decide +kernel
theorem dX12_founder_81 : decode cX12_founder 81 = .ok (.iinc 4 1, 3) := by decide +kernel
theorem dX12_founder_84 : decode cX12_founder 84 = .ok (.goto (-34), 3) := by decide +kernel
theorem dX12_founder_87 : decode cX12_founder 87 = .ok (.iload_n 3, 1) := by decide +kernel
theorem dX12_founder_88 : decode cX12_founder 88 = .ok (.ireturn, 1) := by decide +kernel
set_option maxRecDepth 20000 in
theorem ggX12_say_X12_isPerson : GoodIn wsX12_say wsX12_isPerson := goodIn_r _ [7, 8, 9, 10, 6, 11, 16, 17, 18, 19, 20, 21, 22, 23, 24, 25, 26, 27, 28, 29, 30, 31, 32, 33, 34, 35, 36, 37, 38, 39, 40, 41, 42, 43, 44, 45, 46, 47, 48, 49, 50, 51, 52, 53, 54, 55] (by decide +kernel) (by decide +kernel)
set_option maxRecDepth 20000 in
theorem gX12_say_X12_isPerson : GoodIn wsX12_say (wsV RX12 180 RX12 yX12_isPerson wsX12_isPerson) := goodIn_app (goodIn_of _ (by decide +kernel)) ggX12_say_X12_isPerson
set_option maxRecDepth 20000 in
theorem ggX12_say_X12_isKin : GoodIn wsX12_say wsX12_isKin := goodIn_r _ [14, 15, 9, 10, 6, 11] (by decide +kernel) (by decide +kernel)
set_option maxRecDepth 20000 in
theorem gX12_say_X12_isKin : GoodIn wsX12_say (va_wsS RX12 184 yX12_isKin wsX12_isKin) := goodIn_app (goodIn_of _ (by decide +kernel)) ggX12_say_X12_isKin
theorem dX12_say_0 : decode cX12_say 0 = .ok (.aload_n 0, 1) := by decide +kernel
theorem dX12_say_1 : decode cX12_say 1 = .ok (.iload_n 1, 1) := by decide +kernel
theorem dX12_say_2 : decode cX12_say 2 = .ok (.invokevirtual 180, 3) := by decide +kernel
theorem dX12_say_5 : decode cX12_say 5 = .ok (.ifCond .eq 23, 3) := by decide +kernel
theorem dX12_say_8 : decode cX12_say 8 = .ok (.aload_n 0, 1) := by decide +kernel
theorem dX12_say_9 : decode cX12_say 9 = .ok (.iload_n 2, 1) := by decide +kernel
theorem dX12_say_10 : decode cX12_say 10 = .ok (.invokevirtual 180, 3) := by decide +kernel
theorem dX12_say_13 : decode cX12_say 13 = .ok (.ifCond .eq 15, 3) := by decide +kernel
theorem dX12_say_16 : decode cX12_say 16 = .ok (.iload_n 1, 1) := by decide +kernel
theorem dX12_say_17 : decode cX12_say 17 = .ok (.iload_n 2, 1) := by decide +kernel
theorem dX12_say_18 : decode cX12_say 18 = .ok (.if_icmp .eq 10, 3) := by decide +kernel
theorem dX12_say_21 : decode cX12_say 21 = .ok (.iload_n 3, 1) := by decide +kernel
theorem dX12_say_22 : decode cX12_say 22 = .ok (.invokestatic 184, 3) := by decide +kernel
theorem dX12_say_25 : decode cX12_say 25 = .ok (.ifCond .ne 5, 3) := by decide +kernel
theorem dX12_say_28 : decode cX12_say 28 = .ok (.iconst (-1), 1) := by decide +kernel
theorem dX12_say_29 : decode cX12_say 29 = .ok (.ireturn, 1) := by decide +kernel
theorem dX12_say_30 : decode cX12_say 30 = .ok (.aload_n 0, 1) := by decide +kernel
theorem dX12_say_31 : decode cX12_say 31 = .ok (.getfield 187, 3) := by decide +kernel
theorem dX12_say_34 : decode cX12_say 34 = .ok (.bipush 20, 2) := by decide +kernel
theorem dX12_say_36 : decode cX12_say 36 = .ok (.if_icmp .ne 6, 3) := by decide +kernel
theorem dX12_say_39 : decode cX12_say 39 = .ok (.bipush (-3), 2) := by decide +kernel
theorem dX12_say_41 : decode cX12_say 41 = .ok (.ireturn, 1) := by decide +kernel
theorem dX12_say_42 : decode cX12_say 42 = .ok (.iconst 4, 1) := by decide +kernel
theorem dX12_say_43 : decode cX12_say 43 = .ok (.aload_n 0, 1) := by decide +kernel
theorem dX12_say_44 : decode cX12_say 44 = .ok (.getfield 187, 3) := by decide +kernel
theorem dX12_say_47 : decode cX12_say 47 = .ok (.imul, 1) := by decide +kernel
theorem dX12_say_48 : decode cX12_say 48 = .ok (.istore 5, 2) := by decide +kernel
theorem dX12_say_50 : decode cX12_say 50 = .ok (.aload_n 0, 1) := by decide +kernel
theorem dX12_say_51 : decode cX12_say 51 = .ok (.getfield 40, 3) := by decide +kernel
theorem dX12_say_54 : decode cX12_say 54 = .ok (.iload 5, 2) := by decide +kernel
theorem dX12_say_56 : decode cX12_say 56 = .ok (.iload_n 1, 1) := by decide +kernel
theorem dX12_say_57 : decode cX12_say 57 = .ok (.iastore, 1) := by decide +kernel
theorem dX12_say_58 : decode cX12_say 58 = .ok (.aload_n 0, 1) := by decide +kernel
theorem dX12_say_59 : decode cX12_say 59 = .ok (.getfield 40, 3) := by decide +kernel
theorem dX12_say_62 : decode cX12_say 62 = .ok (.iload 5, 2) := by decide +kernel
theorem dX12_say_64 : decode cX12_say 64 = .ok (.iconst 1, 1) := by decide +kernel
theorem dX12_say_65 : decode cX12_say 65 = .ok (.iadd, 1) := by decide +kernel
theorem dX12_say_66 : decode cX12_say 66 = .ok (.iload_n 2, 1) := by decide +kernel
theorem dX12_say_67 : decode cX12_say 67 = .ok (.iastore, 1) := by decide +kernel
theorem dX12_say_68 : decode cX12_say 68 = .ok (.aload_n 0, 1) := by decide +kernel
theorem dX12_say_69 : decode cX12_say 69 = .ok (.getfield 40, 3) := by decide +kernel
theorem dX12_say_72 : decode cX12_say 72 = .ok (.iload 5, 2) := by decide +kernel
theorem dX12_say_74 : decode cX12_say 74 = .ok (.iconst 2, 1) := by decide +kernel
theorem dX12_say_75 : decode cX12_say 75 = .ok (.iadd, 1) := by decide +kernel
theorem dX12_say_76 : decode cX12_say 76 = .ok (.iload_n 3, 1) := by decide +kernel
theorem dX12_say_77 : decode cX12_say 77 = .ok (.iastore, 1) := by decide +kernel
theorem dX12_say_78 : decode cX12_say 78 = .ok (.aload_n 0, 1) := by decide +kernel
theorem dX12_say_79 : decode cX12_say 79 = .ok (.getfield 40, 3) := by decide +kernel
theorem dX12_say_82 : decode cX12_say 82 = .ok (.iload 5, 2) := by decide +kernel
theorem dX12_say_84 : decode cX12_say 84 = .ok (.iconst 3, 1) := by decide +kernel
theorem dX12_say_85 : decode cX12_say 85 = .ok (.iadd, 1) := by decide +kernel
theorem dX12_say_86 : decode cX12_say 86 = .ok (.iload 4, 2) := by decide +kernel
theorem dX12_say_88 : decode cX12_say 88 = .ok (.ifCond .eq 7, 3) := by decide +kernel
theorem dX12_say_91 : decode cX12_say 91 = .ok (.iconst 1, 1) := by decide +kernel
theorem dX12_say_92 : decode cX12_say 92 = .ok (.goto 4, 3) := by decide +kernel
theorem dX12_say_95 : decode cX12_say 95 = .ok (.iconst 0, 1) := by decide +kernel
theorem dX12_say_96 : decode cX12_say 96 = .ok (.iastore, 1) := by decide +kernel
theorem dX12_say_97 : decode cX12_say 97 = .ok (.aload_n 0, 1) := by decide +kernel
theorem dX12_say_98 : decode cX12_say 98 = .ok (.dup, 1) := by decide +kernel
theorem dX12_say_99 : decode cX12_say 99 = .ok (.getfield 187, 3) := by decide +kernel
theorem dX12_say_102 : decode cX12_say 102 = .ok (.iconst 1, 1) := by decide +kernel
theorem dX12_say_103 : decode cX12_say 103 = .ok (.iadd, 1) := by decide +kernel
theorem dX12_say_104 : decode cX12_say 104 = .ok (.putfield 187, 3) := by decide +kernel
theorem dX12_say_107 : decode cX12_say 107 = .ok (.aload_n 0, 1) := by decide +kernel
theorem dX12_say_108 : decode cX12_say 108 = .ok (.getfield 187, 3) := by decide +kernel
theorem dX12_say_111 : decode cX12_say 111 = .ok (.ireturn, 1) := by decide +kernel
theorem dX12_layKins_0 : decode cX12_layKins 0 = .ok (.iconst 0, 1) := by decide +kernel
theorem dX12_layKins_1 : decode cX12_layKins 1 = .ok (.istore_n 1, 1) := by decide +kernel
theorem dX12_layKins_2 : decode cX12_layKins 2 = .ok (.iload_n 1, 1) := by decide +kernel
theorem dX12_layKins_3 : decode cX12_layKins 3 = .ok (.aload_n 0, 1) := by decide +kernel
theorem dX12_layKins_4 : decode cX12_layKins 4 = .ok (.getfield 175, 3) := by decide +kernel
theorem dX12_layKins_7 : decode cX12_layKins 7 = .ok (.if_icmp .ge 73, 3) := by decide +kernel
theorem dX12_layKins_10 : decode cX12_layKins 10 = .ok (.aload_n 0, 1) := by decide +kernel
theorem dX12_layKins_11 : decode cX12_layKins 11 = .ok (.getfield 76, 3) := by decide +kernel
theorem dX12_layKins_14 : decode cX12_layKins 14 = .ok (.iload_n 1, 1) := by decide +kernel
theorem dX12_layKins_15 : decode cX12_layKins 15 = .ok (.aload_n 0, 1) := by decide +kernel
theorem dX12_layKins_16 : decode cX12_layKins 16 = .ok (.getfield 37, 3) := by decide +kernel
theorem dX12_layKins_19 : decode cX12_layKins 19 = .ok (.iload_n 1, 1) := by decide +kernel
theorem dX12_layKins_20 : decode cX12_layKins 20 = .ok (.iaload, 1) := by decide +kernel
theorem dX12_layKins_21 : decode cX12_layKins 21 = .ok (.iastore, 1) := by decide +kernel
theorem dX12_layKins_22 : decode cX12_layKins 22 = .ok (.iconst 2, 1) := by decide +kernel
theorem dX12_layKins_23 : decode cX12_layKins 23 = .ok (.iload_n 1, 1) := by decide +kernel
theorem dX12_layKins_24 : decode cX12_layKins 24 = .ok (.imul, 1) := by decide +kernel
theorem dX12_layKins_25 : decode cX12_layKins 25 = .ok (.istore_n 2, 1) := by decide +kernel
theorem dX12_layKins_26 : decode cX12_layKins 26 = .ok (.iload_n 2, 1) := by decide +kernel
theorem dX12_layKins_27 : decode cX12_layKins 27 = .ok (.iconst 2, 1) := by decide +kernel
theorem dX12_layKins_28 : decode cX12_layKins 28 = .ok (.iload_n 1, 1) := by decide +kernel
theorem dX12_layKins_29 : decode cX12_layKins 29 = .ok (.imul, 1) := by decide +kernel
theorem dX12_layKins_30 : decode cX12_layKins 30 = .ok (.iconst 2, 1) := by decide +kernel
theorem dX12_layKins_31 : decode cX12_layKins 31 = .ok (.iadd, 1) := by decide +kernel
theorem dX12_layKins_32 : decode cX12_layKins 32 = .ok (.if_icmp .ge 42, 3) := by decide +kernel
theorem dX12_layKins_35 : decode cX12_layKins 35 = .ok (.aload_n 0, 1) := by decide +kernel
theorem dX12_layKins_36 : decode cX12_layKins 36 = .ok (.getfield 76, 3) := by decide +kernel
theorem dX12_layKins_39 : decode cX12_layKins 39 = .ok (.iload_n 1, 1) := by decide +kernel
theorem dX12_layKins_40 : decode cX12_layKins 40 = .ok (.dup2, 1) := by decide +kernel
theorem dX12_layKins_41 : decode cX12_layKins 41 = .ok (.iaload, 1) := by decide +kernel
theorem dX12_layKins_42 : decode cX12_layKins 42 = .ok (.aload_n 0, 1) := by decide +kernel
theorem dX12_layKins_43 : decode cX12_layKins 43 = .ok (.getfield 31, 3) := by decide +kernel
theorem dX12_layKins_46 : decode cX12_layKins 46 = .ok (.iload_n 2, 1) := by decide +kernel
theorem dX12_layKins_47 : decode cX12_layKins 47 = .ok (.iaload, 1) := by decide +kernel
theorem dX12_layKins_48 : decode cX12_layKins 48 = .ok (.ifCond .lt 17, 3) := by decide +kernel
theorem dX12_layKins_51 : decode cX12_layKins 51 = .ok (.aload_n 0, 1) := by decide +kernel
theorem dX12_layKins_52 : decode cX12_layKins 52 = .ok (.getfield 76, 3) := by decide +kernel
theorem dX12_layKins_55 : decode cX12_layKins 55 = .ok (.aload_n 0, 1) := by decide +kernel
theorem dX12_layKins_56 : decode cX12_layKins 56 = .ok (.getfield 31, 3) := by decide +kernel
theorem dX12_layKins_59 : decode cX12_layKins 59 = .ok (.iload_n 2, 1) := by decide +kernel
theorem dX12_layKins_60 : decode cX12_layKins 60 = .ok (.iaload, 1) := by decide +kernel
theorem dX12_layKins_61 : decode cX12_layKins 61 = .ok (.iaload, 1) := by decide +kernel
theorem dX12_layKins_62 : decode cX12_layKins 62 = .ok (.goto 4, 3) := by decide +kernel
theorem dX12_layKins_65 : decode cX12_layKins 65 = .ok (.iconst 0, 1) := by decide +kernel
theorem dX12_layKins_66 : decode cX12_layKins 66 = .ok (.ior, 1) := by decide +kernel
theorem dX12_layKins_67 : decode cX12_layKins 67 = .ok (.iastore, 1) := by decide +kernel
theorem dX12_layKins_68 : decode cX12_layKins 68 = .ok (.iinc 2 1, 3) := by decide +kernel
theorem dX12_layKins_71 : decode cX12_layKins 71 = .ok (.goto (-45), 3) := by decide +kernel
theorem dX12_layKins_74 : decode cX12_layKins 74 = .ok (.iinc 1 1, 3) := by decide +kernel
theorem dX12_layKins_77 : decode cX12_layKins 77 = .ok (.goto (-75), 3) := by decide +kernel
theorem dX12_layKins_80 : decode cX12_layKins 80 = .ok (.return_, 1) := by decide +kernel
set_option maxRecDepth 20000 in
theorem ggX12_of_X12_isPerson : GoodIn wsX12_of wsX12_isPerson := goodIn_r _ [8, 9, 10, 11, 7, 12, 26, 27, 28, 29, 30, 31, 32, 33, 34, 35, 36, 37, 38, 39, 40, 41, 42, 43, 44, 45, 46, 47, 48, 49, 50, 51, 52, 53, 54, 55, 56, 57, 58, 59, 60, 61, 62, 63, 64, 65] (by decide +kernel) (by decide +kernel)
set_option maxRecDepth 20000 in
theorem gX12_of_X12_isPerson : GoodIn wsX12_of (wsV RX12 180 RX12 yX12_isPerson wsX12_isPerson) := goodIn_app (goodIn_of _ (by decide +kernel)) ggX12_of_X12_isPerson
set_option maxRecDepth 20000 in
theorem ggX12_of_X12_isKin : GoodIn wsX12_of wsX12_isKin := goodIn_r _ [15, 16, 10, 11, 7, 12] (by decide +kernel) (by decide +kernel)
set_option maxRecDepth 20000 in
theorem gX12_of_X12_isKin : GoodIn wsX12_of (va_wsS RX12 184 yX12_isKin wsX12_isKin) := goodIn_app (goodIn_of _ (by decide +kernel)) ggX12_of_X12_isKin
set_option maxRecDepth 20000 in
theorem ggX12_of_X12_layKins : GoodIn wsX12_of wsX12_layKins := goodIn_r _ [20, 9, 1, 21, 22, 26, 27, 28, 29, 30, 31, 32, 33, 34, 35, 36, 37, 38, 39, 40, 41, 42, 43, 44, 45, 46, 47, 48, 49, 50, 51, 52, 53, 54, 55, 56, 57, 58, 59, 60, 61, 62, 63, 64, 65] (by decide +kernel) (by decide +kernel)
set_option maxRecDepth 20000 in
theorem gX12_of_X12_layKins : GoodIn wsX12_of (wsV RX12 190 RX12 yX12_layKins wsX12_layKins) := goodIn_app (goodIn_of _ (by decide +kernel)) ggX12_of_X12_layKins
set_option maxRecDepth 20000 in
theorem ggX12_of_X12_has : GoodIn wsX12_of wsX12_has := goodIn_r _ [25] (by decide +kernel) (by decide +kernel)
set_option maxRecDepth 20000 in
theorem gX12_of_X12_has : GoodIn wsX12_of (va_wsS RX12 147 yX12_has wsX12_has) := goodIn_app (goodIn_of _ (by decide +kernel)) ggX12_of_X12_has
theorem dX12_of_0 : decode cX12_of 0 = .ok (.aload_n 0, 1) := by decide +kernel
theorem dX12_of_1 : decode cX12_of 1 = .ok (.iload_n 1, 1) := by decide +kernel
theorem dX12_of_2 : decode cX12_of 2 = .ok (.invokevirtual 180, 3) := by decide +kernel
theorem dX12_of_5 : decode cX12_of 5 = .ok (.ifCond .eq 10, 3) := by decide +kernel
theorem dX12_of_8 : decode cX12_of 8 = .ok (.iload_n 2, 1) := by decide +kernel
theorem dX12_of_9 : decode cX12_of 9 = .ok (.invokestatic 184, 3) := by decide +kernel
theorem dX12_of_12 : decode cX12_of 12 = .ok (.ifCond .ne 5, 3) := by decide +kernel
theorem dX12_of_15 : decode cX12_of 15 = .ok (.iconst (-1), 1) := by decide +kernel
theorem dX12_of_16 : decode cX12_of 16 = .ok (.ireturn, 1) := by decide +kernel
theorem dX12_of_17 : decode cX12_of 17 = .ok (.aload_n 0, 1) := by decide +kernel
theorem dX12_of_18 : decode cX12_of 18 = .ok (.invokevirtual 190, 3) := by decide +kernel
theorem dX12_of_21 : decode cX12_of 21 = .ok (.aload_n 0, 1) := by decide +kernel
theorem dX12_of_22 : decode cX12_of 22 = .ok (.getfield 76, 3) := by decide +kernel
theorem dX12_of_25 : decode cX12_of 25 = .ok (.iload_n 1, 1) := by decide +kernel
theorem dX12_of_26 : decode cX12_of 26 = .ok (.iaload, 1) := by decide +kernel
theorem dX12_of_27 : decode cX12_of 27 = .ok (.iload_n 2, 1) := by decide +kernel
theorem dX12_of_28 : decode cX12_of 28 = .ok (.invokestatic 147, 3) := by decide +kernel
theorem dX12_of_31 : decode cX12_of 31 = .ok (.ifCond .eq 5, 3) := by decide +kernel
theorem dX12_of_34 : decode cX12_of 34 = .ok (.iconst 2, 1) := by decide +kernel
theorem dX12_of_35 : decode cX12_of 35 = .ok (.ireturn, 1) := by decide +kernel
theorem dX12_of_36 : decode cX12_of 36 = .ok (.iconst 0, 1) := by decide +kernel
theorem dX12_of_37 : decode cX12_of 37 = .ok (.istore_n 3, 1) := by decide +kernel
theorem dX12_of_38 : decode cX12_of 38 = .ok (.iconst 0, 1) := by decide +kernel
theorem dX12_of_39 : decode cX12_of 39 = .ok (.istore 4, 2) := by decide +kernel
theorem dX12_of_41 : decode cX12_of 41 = .ok (.iload 4, 2) := by decide +kernel
theorem dX12_of_43 : decode cX12_of 43 = .ok (.iconst 4, 1) := by decide +kernel
theorem dX12_of_44 : decode cX12_of 44 = .ok (.aload_n 0, 1) := by decide +kernel
theorem dX12_of_45 : decode cX12_of 45 = .ok (.getfield 187, 3) := by decide +kernel
theorem dX12_of_48 : decode cX12_of 48 = .ok (.imul, 1) := by decide +kernel
theorem dX12_of_49 : decode cX12_of 49 = .ok (.if_icmp .ge 49, 3) := by decide +kernel
theorem dX12_of_52 : decode cX12_of 52 = .ok (.aload_n 0, 1) := by decide +kernel
theorem dX12_of_53 : decode cX12_of 53 = .ok (.getfield 40, 3) := by decide +kernel
theorem dX12_of_56 : decode cX12_of 56 = .ok (.iload 4, 2) := by decide +kernel
theorem dX12_of_58 : decode cX12_of 58 = .ok (.iconst 1, 1) := by decide +kernel
theorem dX12_of_59 : decode cX12_of 59 = .ok (.iadd, 1) := by decide +kernel
theorem dX12_of_60 : decode cX12_of 60 = .ok (.iaload, 1) := by decide +kernel
theorem dX12_of_61 : decode cX12_of 61 = .ok (.iload_n 1, 1) := by decide +kernel
theorem dX12_of_62 : decode cX12_of 62 = .ok (.if_icmp .ne 28, 3) := by decide +kernel
theorem dX12_of_65 : decode cX12_of 65 = .ok (.aload_n 0, 1) := by decide +kernel
theorem dX12_of_66 : decode cX12_of 66 = .ok (.getfield 40, 3) := by decide +kernel
theorem dX12_of_69 : decode cX12_of 69 = .ok (.iload 4, 2) := by decide +kernel
theorem dX12_of_71 : decode cX12_of 71 = .ok (.iconst 2, 1) := by decide +kernel
theorem dX12_of_72 : decode cX12_of 72 = .ok (.iadd, 1) := by decide +kernel
theorem dX12_of_73 : decode cX12_of 73 = .ok (.iaload, 1) := by decide +kernel
theorem dX12_of_74 : decode cX12_of 74 = .ok (.iload_n 2, 1) := by decide +kernel
theorem dX12_of_75 : decode cX12_of 75 = .ok (.if_icmp .ne 15, 3) := by decide +kernel
theorem dX12_of_78 : decode cX12_of 78 = .ok (.aload_n 0, 1) := by decide +kernel
theorem dX12_of_79 : decode cX12_of 79 = .ok (.getfield 40, 3) := by decide +kernel
theorem dX12_of_82 : decode cX12_of 82 = .ok (.iload 4, 2) := by decide +kernel
theorem dX12_of_84 : decode cX12_of 84 = .ok (.iconst 3, 1) := by decide +kernel
theorem dX12_of_85 : decode cX12_of 85 = .ok (.iadd, 1) := by decide +kernel
theorem dX12_of_86 : decode cX12_of 86 = .ok (.iaload, 1) := by decide +kernel
theorem dX12_of_87 : decode cX12_of 87 = .ok (.goto 4, 3) := by decide +kernel
theorem dX12_of_90 : decode cX12_of 90 = .ok (.iload_n 3, 1) := by decide +kernel
theorem dX12_of_91 : decode cX12_of 91 = .ok (.istore_n 3, 1) := by decide +kernel
theorem dX12_of_92 : decode cX12_of 92 = .ok (.iinc 4 4, 3) := by decide +kernel
theorem dX12_of_95 : decode cX12_of 95 = .ok (.goto (-54), 3) := by decide +kernel
theorem dX12_of_98 : decode cX12_of 98 = .ok (.iload_n 3, 1) := by decide +kernel
theorem dX12_of_99 : decode cX12_of 99 = .ok (.ireturn, 1) := by decide +kernel
set_option maxRecDepth 20000 in
theorem ggX12_odds_X12_isPerson : GoodIn wsX12_odds wsX12_isPerson := goodIn_r _ [8, 1, 9, 10, 7, 11, 16, 17, 18, 19, 20, 21, 22, 23, 24, 25, 26, 27, 28, 29, 30, 31, 32, 33, 34, 35, 36, 37, 38, 39, 40, 41, 42, 43, 44, 45, 46, 47, 48, 49, 50, 51, 52, 53, 54, 55] (by decide +kernel) (by decide +kernel)
set_option maxRecDepth 20000 in
theorem gX12_odds_X12_isPerson : GoodIn wsX12_odds (wsV RX12 180 RX12 yX12_isPerson wsX12_isPerson) := goodIn_app (goodIn_of _ (by decide +kernel)) ggX12_odds_X12_isPerson
set_option maxRecDepth 20000 in
theorem ggX12_odds_X12_isKin : GoodIn wsX12_odds wsX12_isKin := goodIn_r _ [14, 15, 9, 10, 7, 11] (by decide +kernel) (by decide +kernel)
set_option maxRecDepth 20000 in
theorem gX12_odds_X12_isKin : GoodIn wsX12_odds (va_wsS RX12 184 yX12_isKin wsX12_isKin) := goodIn_app (goodIn_of _ (by decide +kernel)) ggX12_odds_X12_isKin
theorem dX12_odds_0 : decode cX12_odds 0 = .ok (.aload_n 0, 1) := by decide +kernel
theorem dX12_odds_1 : decode cX12_odds 1 = .ok (.iload_n 1, 1) := by decide +kernel
theorem dX12_odds_2 : decode cX12_odds 2 = .ok (.invokevirtual 180, 3) := by decide +kernel
theorem dX12_odds_5 : decode cX12_odds 5 = .ok (.ifCond .eq 10, 3) := by decide +kernel
theorem dX12_odds_8 : decode cX12_odds 8 = .ok (.iload_n 2, 1) := by decide +kernel
theorem dX12_odds_9 : decode cX12_odds 9 = .ok (.invokestatic 184, 3) := by decide +kernel
theorem dX12_odds_12 : decode cX12_odds 12 = .ok (.ifCond .ne 5, 3) := by decide +kernel
theorem dX12_odds_15 : decode cX12_odds 15 = .ok (.iconst (-1), 1) := by decide +kernel
theorem dX12_odds_16 : decode cX12_odds 16 = .ok (.ireturn, 1) := by decide +kernel
theorem dX12_odds_17 : decode cX12_odds 17 = .ok (.iconst 0, 1) := by decide +kernel
theorem dX12_odds_18 : decode cX12_odds 18 = .ok (.istore_n 3, 1) := by decide +kernel
theorem dX12_odds_19 : decode cX12_odds 19 = .ok (.iconst 0, 1) := by decide +kernel
theorem dX12_odds_20 : decode cX12_odds 20 = .ok (.istore 4, 2) := by decide +kernel
theorem dX12_odds_22 : decode cX12_odds 22 = .ok (.iconst 0, 1) := by decide +kernel
theorem dX12_odds_23 : decode cX12_odds 23 = .ok (.istore 5, 2) := by decide +kernel
theorem dX12_odds_25 : decode cX12_odds 25 = .ok (.iload 5, 2) := by decide +kernel
theorem dX12_odds_27 : decode cX12_odds 27 = .ok (.aload_n 0, 1) := by decide +kernel
theorem dX12_odds_28 : decode cX12_odds 28 = .ok (.getfield 175, 3) := by decide +kernel
theorem dX12_odds_31 : decode cX12_odds 31 = .ok (.if_icmp .ge 116, 3) := by decide +kernel
theorem dX12_odds_34 : decode cX12_odds 34 = .ok (.bipush (-4), 2) := by decide +kernel
theorem dX12_odds_36 : decode cX12_odds 36 = .ok (.istore 6, 2) := by decide +kernel
theorem dX12_odds_38 : decode cX12_odds 38 = .ok (.iconst 0, 1) := by decide +kernel
theorem dX12_odds_39 : decode cX12_odds 39 = .ok (.istore 7, 2) := by decide +kernel
theorem dX12_odds_41 : decode cX12_odds 41 = .ok (.iload 7, 2) := by decide +kernel
theorem dX12_odds_43 : decode cX12_odds 43 = .ok (.iconst 4, 1) := by decide +kernel
theorem dX12_odds_44 : decode cX12_odds 44 = .ok (.aload_n 0, 1) := by decide +kernel
theorem dX12_odds_45 : decode cX12_odds 45 = .ok (.getfield 187, 3) := by decide +kernel
theorem dX12_odds_48 : decode cX12_odds 48 = .ok (.imul, 1) := by decide +kernel
theorem dX12_odds_49 : decode cX12_odds 49 = .ok (.if_icmp .ge 63, 3) := by decide +kernel
theorem dX12_odds_52 : decode cX12_odds 52 = .ok (.aload_n 0, 1) := by decide +kernel
theorem dX12_odds_53 : decode cX12_odds 53 = .ok (.getfield 40, 3) := by decide +kernel
theorem dX12_odds_56 : decode cX12_odds 56 = .ok (.iload 7, 2) := by decide +kernel
theorem dX12_odds_58 : decode cX12_odds 58 = .ok (.iaload, 1) := by decide +kernel
theorem dX12_odds_59 : decode cX12_odds 59 = .ok (.iload 5, 2) := by decide +kernel
theorem dX12_odds_61 : decode cX12_odds 61 = .ok (.if_icmp .ne 41, 3) := by decide +kernel
theorem dX12_odds_64 : decode cX12_odds 64 = .ok (.aload_n 0, 1) := by decide +kernel
theorem dX12_odds_65 : decode cX12_odds 65 = .ok (.getfield 40, 3) := by decide +kernel
theorem dX12_odds_68 : decode cX12_odds 68 = .ok (.iload 7, 2) := by decide +kernel
theorem dX12_odds_70 : decode cX12_odds 70 = .ok (.iconst 1, 1) := by decide +kernel
theorem dX12_odds_71 : decode cX12_odds 71 = .ok (.iadd, 1) := by decide +kernel
theorem dX12_odds_72 : decode cX12_odds 72 = .ok (.iaload, 1) := by decide +kernel
theorem dX12_odds_73 : decode cX12_odds 73 = .ok (.iload_n 1, 1) := by decide +kernel
theorem dX12_odds_74 : decode cX12_odds 74 = .ok (.if_icmp .ne 28, 3) := by decide +kernel
theorem dX12_odds_77 : decode cX12_odds 77 = .ok (.aload_n 0, 1) := by decide +kernel
theorem dX12_odds_78 : decode cX12_odds 78 = .ok (.getfield 40, 3) := by decide +kernel
theorem dX12_odds_81 : decode cX12_odds 81 = .ok (.iload 7, 2) := by decide +kernel
theorem dX12_odds_83 : decode cX12_odds 83 = .ok (.iconst 2, 1) := by decide +kernel
theorem dX12_odds_84 : decode cX12_odds 84 = .ok (.iadd, 1) := by decide +kernel
theorem dX12_odds_85 : decode cX12_odds 85 = .ok (.iaload, 1) := by decide +kernel
theorem dX12_odds_86 : decode cX12_odds 86 = .ok (.iload_n 2, 1) := by decide +kernel
theorem dX12_odds_87 : decode cX12_odds 87 = .ok (.if_icmp .ne 15, 3) := by decide +kernel
theorem dX12_odds_90 : decode cX12_odds 90 = .ok (.aload_n 0, 1) := by decide +kernel
theorem dX12_odds_91 : decode cX12_odds 91 = .ok (.getfield 40, 3) := by decide +kernel
theorem dX12_odds_94 : decode cX12_odds 94 = .ok (.iload 7, 2) := by decide +kernel
theorem dX12_odds_96 : decode cX12_odds 96 = .ok (.iconst 3, 1) := by decide +kernel
theorem dX12_odds_97 : decode cX12_odds 97 = .ok (.iadd, 1) := by decide +kernel
theorem dX12_odds_98 : decode cX12_odds 98 = .ok (.iaload, 1) := by decide +kernel
theorem dX12_odds_99 : decode cX12_odds 99 = .ok (.goto 5, 3) := by decide +kernel
theorem dX12_odds_102 : decode cX12_odds 102 = .ok (.iload 6, 2) := by decide +kernel
theorem dX12_odds_104 : decode cX12_odds 104 = .ok (.istore 6, 2) := by decide +kernel
theorem dX12_odds_106 : decode cX12_odds 106 = .ok (.iinc 7 4, 3) := by decide +kernel
theorem dX12_odds_109 : decode cX12_odds 109 = .ok (.goto (-68), 3) := by decide +kernel
theorem dX12_odds_112 : decode cX12_odds 112 = .ok (.iload_n 3, 1) := by decide +kernel
theorem dX12_odds_113 : decode cX12_odds 113 = .ok (.iload 6, 2) := by decide +kernel
theorem dX12_odds_115 : decode cX12_odds 115 = .ok (.iconst 1, 1) := by decide +kernel
theorem dX12_odds_116 : decode cX12_odds 116 = .ok (.if_icmp .ne 7, 3) := by decide +kernel
theorem dX12_odds_119 : decode cX12_odds 119 = .ok (.iconst 1, 1) := by decide +kernel
theorem dX12_odds_120 : decode cX12_odds 120 = .ok (.goto 4, 3) := by decide +kernel
theorem dX12_odds_123 : decode cX12_odds 123 = .ok (.iconst 0, 1) := by decide +kernel
theorem dX12_odds_124 : decode cX12_odds 124 = .ok (.iadd, 1) := by decide +kernel
theorem dX12_odds_125 : decode cX12_odds 125 = .ok (.istore_n 3, 1) := by decide +kernel
theorem dX12_odds_126 : decode cX12_odds 126 = .ok (.iload 4, 2) := by decide +kernel
theorem dX12_odds_128 : decode cX12_odds 128 = .ok (.iload 6, 2) := by decide +kernel
theorem dX12_odds_130 : decode cX12_odds 130 = .ok (.ifCond .ne 7, 3) := by decide +kernel
theorem dX12_odds_133 : decode cX12_odds 133 = .ok (.iconst 1, 1) := by decide +kernel
theorem dX12_odds_134 : decode cX12_odds 134 = .ok (.goto 4, 3) := by decide +kernel
theorem dX12_odds_137 : decode cX12_odds 137 = .ok (.iconst 0, 1) := by decide +kernel
theorem dX12_odds_138 : decode cX12_odds 138 = .ok (.iadd, 1) := by decide +kernel
theorem dX12_odds_139 : decode cX12_odds 139 = .ok (.istore 4, 2) := by decide +kernel
theorem dX12_odds_141 : decode cX12_odds 141 = .ok (.iinc 5 1, 3) := by decide +kernel
theorem dX12_odds_144 : decode cX12_odds 144 = .ok (.goto (-119), 3) := by decide +kernel
theorem dX12_odds_147 : decode cX12_odds 147 = .ok (.iload_n 3, 1) := by decide +kernel
theorem dX12_odds_148 : decode cX12_odds 148 = .ok (.iload 4, 2) := by decide +kernel
theorem dX12_odds_150 : decode cX12_odds 150 = .ok (.imul, 1) := by decide +kernel
theorem dX12_odds_151 : decode cX12_odds 151 = .ok (.ireturn, 1) := by decide +kernel
set_option maxRecDepth 20000 in
theorem ggX12_isBlock_X12_in : GoodIn wsX12_isBlock wsX12_in := goodIn_r _ [5] (by decide +kernel) (by decide +kernel)
set_option maxRecDepth 20000 in
theorem gX12_isBlock_X12_in : GoodIn wsX12_isBlock (va_wsS RX12 97 yX12_in wsX12_in) := goodIn_app (goodIn_of _ (by decide +kernel)) ggX12_isBlock_X12_in
theorem dX12_isBlock_0 : decode cX12_isBlock 0 = .ok (.iload_n 1, 1) := by decide +kernel
theorem dX12_isBlock_1 : decode cX12_isBlock 1 = .ok (.i2l, 1) := by decide +kernel
theorem dX12_isBlock_2 : decode cX12_isBlock 2 = .ok (.lconst 0, 1) := by decide +kernel
theorem dX12_isBlock_3 : decode cX12_isBlock 3 = .ok (.aload_n 0, 1) := by decide +kernel
theorem dX12_isBlock_4 : decode cX12_isBlock 4 = .ok (.getfield 193, 3) := by decide +kernel
theorem dX12_isBlock_7 : decode cX12_isBlock 7 = .ok (.iconst 1, 1) := by decide +kernel
theorem dX12_isBlock_8 : decode cX12_isBlock 8 = .ok (.isub, 1) := by decide +kernel
theorem dX12_isBlock_9 : decode cX12_isBlock 9 = .ok (.i2l, 1) := by decide +kernel
theorem dX12_isBlock_10 : decode cX12_isBlock 10 = .ok (.invokestatic 97, 3) := by decide +kernel
theorem dX12_isBlock_13 : decode cX12_isBlock 13 = .ok (.ireturn, 1) := by decide +kernel
set_option maxRecDepth 20000 in
theorem ggX12_block_X12_in : GoodIn wsX12_block wsX12_in := goodIn_r _ [7] (by decide +kernel) (by decide +kernel)
set_option maxRecDepth 20000 in
theorem gX12_block_X12_in : GoodIn wsX12_block (va_wsS RX12 97 yX12_in wsX12_in) := goodIn_app (goodIn_of _ (by decide +kernel)) ggX12_block_X12_in
theorem dX12_block_0 : decode cX12_block 0 = .ok (.iload_n 1, 1) := by decide +kernel
theorem dX12_block_1 : decode cX12_block 1 = .ok (.i2l, 1) := by decide +kernel
theorem dX12_block_2 : decode cX12_block 2 = .ok (.lconst 1, 1) := by decide +kernel
theorem dX12_block_3 : decode cX12_block 3 = .ok (.ldc2_w 196, 3) := by decide +kernel
theorem dX12_block_6 : decode cX12_block 6 = .ok (.invokestatic 97, 3) := by decide +kernel
theorem dX12_block_9 : decode cX12_block 9 = .ok (.ifCond .ne 5, 3) := by decide +kernel
theorem dX12_block_12 : decode cX12_block 12 = .ok (.iconst (-1), 1) := by decide +kernel
theorem dX12_block_13 : decode cX12_block 13 = .ok (.ireturn, 1) := by decide +kernel
theorem dX12_block_14 : decode cX12_block 14 = .ok (.aload_n 0, 1) := by decide +kernel
theorem dX12_block_15 : decode cX12_block 15 = .ok (.getfield 193, 3) := by decide +kernel
theorem dX12_block_18 : decode cX12_block 18 = .ok (.bipush 12, 2) := by decide +kernel
theorem dX12_block_20 : decode cX12_block 20 = .ok (.if_icmp .ne 6, 3) := by decide +kernel
theorem dX12_block_23 : decode cX12_block 23 = .ok (.bipush (-3), 2) := by decide +kernel
theorem dX12_block_25 : decode cX12_block 25 = .ok (.ireturn, 1) := by decide +kernel
theorem dX12_block_26 : decode cX12_block 26 = .ok (.aload_n 0, 1) := by decide +kernel
theorem dX12_block_27 : decode cX12_block 27 = .ok (.getfield 43, 3) := by decide +kernel
theorem dX12_block_30 : decode cX12_block 30 = .ok (.aload_n 0, 1) := by decide +kernel
theorem dX12_block_31 : decode cX12_block 31 = .ok (.getfield 193, 3) := by decide +kernel
theorem dX12_block_34 : decode cX12_block 34 = .ok (.iload_n 1, 1) := by decide +kernel
theorem dX12_block_35 : decode cX12_block 35 = .ok (.iastore, 1) := by decide +kernel
theorem dX12_block_36 : decode cX12_block 36 = .ok (.aload_n 0, 1) := by decide +kernel
theorem dX12_block_37 : decode cX12_block 37 = .ok (.dup, 1) := by decide +kernel
theorem dX12_block_38 : decode cX12_block 38 = .ok (.getfield 193, 3) := by decide +kernel
theorem dX12_block_41 : decode cX12_block 41 = .ok (.iconst 1, 1) := by decide +kernel
theorem dX12_block_42 : decode cX12_block 42 = .ok (.iadd, 1) := by decide +kernel
theorem dX12_block_43 : decode cX12_block 43 = .ok (.putfield 193, 3) := by decide +kernel
theorem dX12_block_46 : decode cX12_block 46 = .ok (.aload_n 0, 1) := by decide +kernel
theorem dX12_block_47 : decode cX12_block 47 = .ok (.getfield 193, 3) := by decide +kernel
theorem dX12_block_50 : decode cX12_block 50 = .ok (.iconst 1, 1) := by decide +kernel
theorem dX12_block_51 : decode cX12_block 51 = .ok (.isub, 1) := by decide +kernel
theorem dX12_block_52 : decode cX12_block 52 = .ok (.ireturn, 1) := by decide +kernel
theorem dX12_hold_0 : decode cX12_hold 0 = .ok (.aload_n 0, 1) := by decide +kernel
theorem dX12_hold_1 : decode cX12_hold 1 = .ok (.getfield 198, 3) := by decide +kernel
theorem dX12_hold_4 : decode cX12_hold 4 = .ok (.bipush 60, 2) := by decide +kernel
theorem dX12_hold_6 : decode cX12_hold 6 = .ok (.if_icmp .ne 6, 3) := by decide +kernel
theorem dX12_hold_9 : decode cX12_hold 9 = .ok (.bipush (-3), 2) := by decide +kernel
theorem dX12_hold_11 : decode cX12_hold 11 = .ok (.ireturn, 1) := by decide +kernel
theorem dX12_hold_12 : decode cX12_hold 12 = .ok (.iconst 4, 1) := by decide +kernel
theorem dX12_hold_13 : decode cX12_hold 13 = .ok (.aload_n 0, 1) := by decide +kernel
theorem dX12_hold_14 : decode cX12_hold 14 = .ok (.getfield 198, 3) := by decide +kernel
theorem dX12_hold_17 : decode cX12_hold 17 = .ok (.imul, 1) := by decide +kernel
theorem dX12_hold_18 : decode cX12_hold 18 = .ok (.istore 5, 2) := by decide +kernel
theorem dX12_hold_20 : decode cX12_hold 20 = .ok (.aload_n 0, 1) := by decide +kernel
theorem dX12_hold_21 : decode cX12_hold 21 = .ok (.getfield 46, 3) := by decide +kernel
theorem dX12_hold_24 : decode cX12_hold 24 = .ok (.iload 5, 2) := by decide +kernel
theorem dX12_hold_26 : decode cX12_hold 26 = .ok (.iload_n 1, 1) := by decide +kernel
theorem dX12_hold_27 : decode cX12_hold 27 = .ok (.iastore, 1) := by decide +kernel
theorem dX12_hold_28 : decode cX12_hold 28 = .ok (.aload_n 0, 1) := by decide +kernel
theorem dX12_hold_29 : decode cX12_hold 29 = .ok (.getfield 46, 3) := by decide +kernel
theorem dX12_hold_32 : decode cX12_hold 32 = .ok (.iload 5, 2) := by decide +kernel
theorem dX12_hold_34 : decode cX12_hold 34 = .ok (.iconst 1, 1) := by decide +kernel
theorem dX12_hold_35 : decode cX12_hold 35 = .ok (.iadd, 1) := by decide +kernel
theorem dX12_hold_36 : decode cX12_hold 36 = .ok (.iload_n 2, 1) := by decide +kernel
theorem dX12_hold_37 : decode cX12_hold 37 = .ok (.iastore, 1) := by decide +kernel
theorem dX12_hold_38 : decode cX12_hold 38 = .ok (.aload_n 0, 1) := by decide +kernel
theorem dX12_hold_39 : decode cX12_hold 39 = .ok (.getfield 46, 3) := by decide +kernel
theorem dX12_hold_42 : decode cX12_hold 42 = .ok (.iload 5, 2) := by decide +kernel
theorem dX12_hold_44 : decode cX12_hold 44 = .ok (.iconst 2, 1) := by decide +kernel
theorem dX12_hold_45 : decode cX12_hold 45 = .ok (.iadd, 1) := by decide +kernel
theorem dX12_hold_46 : decode cX12_hold 46 = .ok (.iload_n 3, 1) := by decide +kernel
theorem dX12_hold_47 : decode cX12_hold 47 = .ok (.iastore, 1) := by decide +kernel
theorem dX12_hold_48 : decode cX12_hold 48 = .ok (.aload_n 0, 1) := by decide +kernel
theorem dX12_hold_49 : decode cX12_hold 49 = .ok (.getfield 46, 3) := by decide +kernel
theorem dX12_hold_52 : decode cX12_hold 52 = .ok (.iload 5, 2) := by decide +kernel
theorem dX12_hold_54 : decode cX12_hold 54 = .ok (.iconst 3, 1) := by decide +kernel
theorem dX12_hold_55 : decode cX12_hold 55 = .ok (.iadd, 1) := by decide +kernel
theorem dX12_hold_56 : decode cX12_hold 56 = .ok (.iload 4, 2) := by decide +kernel
theorem dX12_hold_58 : decode cX12_hold 58 = .ok (.iastore, 1) := by decide +kernel
theorem dX12_hold_59 : decode cX12_hold 59 = .ok (.aload_n 0, 1) := by decide +kernel
theorem dX12_hold_60 : decode cX12_hold 60 = .ok (.dup, 1) := by decide +kernel
theorem dX12_hold_61 : decode cX12_hold 61 = .ok (.getfield 198, 3) := by decide +kernel
theorem dX12_hold_64 : decode cX12_hold 64 = .ok (.iconst 1, 1) := by decide +kernel
theorem dX12_hold_65 : decode cX12_hold 65 = .ok (.iadd, 1) := by decide +kernel
theorem dX12_hold_66 : decode cX12_hold 66 = .ok (.putfield 198, 3) := by decide +kernel
theorem dX12_hold_69 : decode cX12_hold 69 = .ok (.aload_n 0, 1) := by decide +kernel
theorem dX12_hold_70 : decode cX12_hold 70 = .ok (.getfield 198, 3) := by decide +kernel
theorem dX12_hold_73 : decode cX12_hold 73 = .ok (.ireturn, 1) := by decide +kernel
set_option maxRecDepth 20000 in
theorem ggX12_paper_X12_isBlock : GoodIn wsX12_paper wsX12_isBlock := goodIn_r _ [7, 8, 9, 10, 6, 11, 22, 23, 24, 25, 26, 27, 28, 29, 30, 31, 32, 33, 34, 35, 36, 37, 38, 39, 40, 41, 42, 43, 44, 45, 46, 47, 48, 49, 50, 51, 52, 53, 54, 55, 56, 57, 58, 59, 60, 61] (by decide +kernel) (by decide +kernel)
set_option maxRecDepth 20000 in
theorem gX12_paper_X12_isBlock : GoodIn wsX12_paper (wsV RX12 201 RX12 yX12_isBlock wsX12_isBlock) := goodIn_app (goodIn_of _ (by decide +kernel)) ggX12_paper_X12_isBlock
set_option maxRecDepth 20000 in
theorem ggX12_paper_X12_in : GoodIn wsX12_paper wsX12_in := goodIn_r _ [11] (by decide +kernel) (by decide +kernel)
set_option maxRecDepth 20000 in
theorem gX12_paper_X12_in : GoodIn wsX12_paper (va_wsS RX12 97 yX12_in wsX12_in) := goodIn_app (goodIn_of _ (by decide +kernel)) ggX12_paper_X12_in
set_option maxRecDepth 20000 in
theorem ggX12_paper_X12_isYear : GoodIn wsX12_paper wsX12_isYear := goodIn_r _ [14, 15, 9, 10, 6, 11] (by decide +kernel) (by decide +kernel)
set_option maxRecDepth 20000 in
theorem gX12_paper_X12_isYear : GoodIn wsX12_paper (va_wsS RX12 107 yX12_isYear wsX12_isYear) := goodIn_app (goodIn_of _ (by decide +kernel)) ggX12_paper_X12_isYear
set_option maxRecDepth 20000 in
theorem ggX12_paper_X12_hold : GoodIn wsX12_paper wsX12_hold := goodIn_r _ [19, 20, 21, 22, 23, 24, 25, 26, 27, 28, 29, 30, 31, 32, 33, 34, 35, 36, 37, 38, 39, 40, 41, 42, 43, 44, 45, 46, 47, 48, 49, 50, 51, 52, 53, 54, 55, 56, 57, 58, 59, 60, 61] (by decide +kernel) (by decide +kernel)
set_option maxRecDepth 20000 in
theorem gX12_paper_X12_hold : GoodIn wsX12_paper (wsV RX12 206 RX12 yX12_hold wsX12_hold) := goodIn_app (goodIn_of _ (by decide +kernel)) ggX12_paper_X12_hold
theorem dX12_paper_0 : decode cX12_paper 0 = .ok (.aload_n 0, 1) := by decide +kernel
theorem dX12_paper_1 : decode cX12_paper 1 = .ok (.iload_n 1, 1) := by decide +kernel
theorem dX12_paper_2 : decode cX12_paper 2 = .ok (.invokevirtual 201, 3) := by decide +kernel
theorem dX12_paper_5 : decode cX12_paper 5 = .ok (.ifCond .eq 35, 3) := by decide +kernel
theorem dX12_paper_8 : decode cX12_paper 8 = .ok (.iload_n 2, 1) := by decide +kernel
theorem dX12_paper_9 : decode cX12_paper 9 = .ok (.i2l, 1) := by decide +kernel
theorem dX12_paper_10 : decode cX12_paper 10 = .ok (.ldc2_w 204, 3) := by decide +kernel
theorem dX12_paper_13 : decode cX12_paper 13 = .ok (.ldc2_w 178, 3) := by decide +kernel
theorem dX12_paper_16 : decode cX12_paper 16 = .ok (.invokestatic 97, 3) := by decide +kernel
theorem dX12_paper_19 : decode cX12_paper 19 = .ok (.ifCond .eq 21, 3) := by decide +kernel
theorem dX12_paper_22 : decode cX12_paper 22 = .ok (.iload_n 3, 1) := by decide +kernel
theorem dX12_paper_23 : decode cX12_paper 23 = .ok (.invokestatic 107, 3) := by decide +kernel
theorem dX12_paper_26 : decode cX12_paper 26 = .ok (.ifCond .eq 14, 3) := by decide +kernel
theorem dX12_paper_29 : decode cX12_paper 29 = .ok (.aload_n 0, 1) := by decide +kernel
theorem dX12_paper_30 : decode cX12_paper 30 = .ok (.iload_n 1, 1) := by decide +kernel
theorem dX12_paper_31 : decode cX12_paper 31 = .ok (.iconst 0, 1) := by decide +kernel
theorem dX12_paper_32 : decode cX12_paper 32 = .ok (.iload_n 2, 1) := by decide +kernel
theorem dX12_paper_33 : decode cX12_paper 33 = .ok (.iload_n 3, 1) := by decide +kernel
theorem dX12_paper_34 : decode cX12_paper 34 = .ok (.invokevirtual 206, 3) := by decide +kernel
theorem dX12_paper_37 : decode cX12_paper 37 = .ok (.goto 4, 3) := by decide +kernel
theorem dX12_paper_40 : decode cX12_paper 40 = .ok (.iconst (-1), 1) := by decide +kernel
theorem dX12_paper_41 : decode cX12_paper 41 = .ok (.ireturn, 1) := by decide +kernel
set_option maxRecDepth 20000 in
theorem ggX12_use_X12_isBlock : GoodIn wsX12_use wsX12_isBlock := goodIn_r _ [6, 7, 8, 9, 5, 10, 21, 22, 23, 24, 25, 26, 27, 28, 29, 30, 31, 32, 33, 34, 35, 36, 37, 38, 39, 40, 41, 42, 43, 44, 45, 46, 47, 48, 49, 50, 51, 52, 53, 54, 55, 56, 57, 58, 59, 60] (by decide +kernel) (by decide +kernel)
set_option maxRecDepth 20000 in
theorem gX12_use_X12_isBlock : GoodIn wsX12_use (wsV RX12 201 RX12 yX12_isBlock wsX12_isBlock) := goodIn_app (goodIn_of _ (by decide +kernel)) ggX12_use_X12_isBlock
set_option maxRecDepth 20000 in
theorem ggX12_use_X12_in : GoodIn wsX12_use wsX12_in := goodIn_r _ [10] (by decide +kernel) (by decide +kernel)
set_option maxRecDepth 20000 in
theorem gX12_use_X12_in : GoodIn wsX12_use (va_wsS RX12 97 yX12_in wsX12_in) := goodIn_app (goodIn_of _ (by decide +kernel)) ggX12_use_X12_in
set_option maxRecDepth 20000 in
theorem ggX12_use_X12_isYear : GoodIn wsX12_use wsX12_isYear := goodIn_r _ [13, 14, 8, 9, 5, 10] (by decide +kernel) (by decide +kernel)
set_option maxRecDepth 20000 in
theorem gX12_use_X12_isYear : GoodIn wsX12_use (va_wsS RX12 107 yX12_isYear wsX12_isYear) := goodIn_app (goodIn_of _ (by decide +kernel)) ggX12_use_X12_isYear
set_option maxRecDepth 20000 in
theorem ggX12_use_X12_hold : GoodIn wsX12_use wsX12_hold := goodIn_r _ [18, 19, 20, 21, 22, 23, 24, 25, 26, 27, 28, 29, 30, 31, 32, 33, 34, 35, 36, 37, 38, 39, 40, 41, 42, 43, 44, 45, 46, 47, 48, 49, 50, 51, 52, 53, 54, 55, 56, 57, 58, 59, 60] (by decide +kernel) (by decide +kernel)
set_option maxRecDepth 20000 in
theorem gX12_use_X12_hold : GoodIn wsX12_use (wsV RX12 206 RX12 yX12_hold wsX12_hold) := goodIn_app (goodIn_of _ (by decide +kernel)) ggX12_use_X12_hold
theorem dX12_use_0 : decode cX12_use 0 = .ok (.aload_n 0, 1) := by decide +kernel
theorem dX12_use_1 : decode cX12_use 1 = .ok (.iload_n 1, 1) := by decide +kernel
theorem dX12_use_2 : decode cX12_use 2 = .ok (.invokevirtual 201, 3) := by decide +kernel
theorem dX12_use_5 : decode cX12_use 5 = .ok (.ifCond .eq 33, 3) := by decide +kernel
theorem dX12_use_8 : decode cX12_use 8 = .ok (.iload_n 2, 1) := by decide +kernel
theorem dX12_use_9 : decode cX12_use 9 = .ok (.i2l, 1) := by decide +kernel
theorem dX12_use_10 : decode cX12_use 10 = .ok (.lconst 0, 1) := by decide +kernel
theorem dX12_use_11 : decode cX12_use 11 = .ok (.ldc2_w 209, 3) := by decide +kernel
theorem dX12_use_14 : decode cX12_use 14 = .ok (.invokestatic 97, 3) := by decide +kernel
theorem dX12_use_17 : decode cX12_use 17 = .ok (.ifCond .eq 21, 3) := by decide +kernel
theorem dX12_use_20 : decode cX12_use 20 = .ok (.iload_n 3, 1) := by decide +kernel
theorem dX12_use_21 : decode cX12_use 21 = .ok (.invokestatic 107, 3) := by decide +kernel
theorem dX12_use_24 : decode cX12_use 24 = .ok (.ifCond .eq 14, 3) := by decide +kernel
theorem dX12_use_27 : decode cX12_use 27 = .ok (.aload_n 0, 1) := by decide +kernel
theorem dX12_use_28 : decode cX12_use 28 = .ok (.iload_n 1, 1) := by decide +kernel
theorem dX12_use_29 : decode cX12_use 29 = .ok (.iconst 1, 1) := by decide +kernel
theorem dX12_use_30 : decode cX12_use 30 = .ok (.iload_n 2, 1) := by decide +kernel
theorem dX12_use_31 : decode cX12_use 31 = .ok (.iload_n 3, 1) := by decide +kernel
theorem dX12_use_32 : decode cX12_use 32 = .ok (.invokevirtual 206, 3) := by decide +kernel
theorem dX12_use_35 : decode cX12_use 35 = .ok (.goto 4, 3) := by decide +kernel
theorem dX12_use_38 : decode cX12_use 38 = .ok (.iconst (-1), 1) := by decide +kernel
theorem dX12_use_39 : decode cX12_use 39 = .ok (.ireturn, 1) := by decide +kernel
theorem dX12_heldBy_0 : decode cX12_heldBy 0 = .ok (.iconst (-1), 1) := by decide +kernel
theorem dX12_heldBy_1 : decode cX12_heldBy 1 = .ok (.istore 4, 2) := by decide +kernel
theorem dX12_heldBy_3 : decode cX12_heldBy 3 = .ok (.iload_n 3, 1) := by decide +kernel
theorem dX12_heldBy_4 : decode cX12_heldBy 4 = .ok (.ifCond .ne 7, 3) := by decide +kernel
theorem dX12_heldBy_7 : decode cX12_heldBy 7 = .ok (.iconst (-1), 1) := by decide +kernel
theorem dX12_heldBy_8 : decode cX12_heldBy 8 = .ok (.goto 4, 3) := by decide +kernel
theorem dX12_heldBy_11 : decode cX12_heldBy 11 = .ok (.iconst 0, 1) := by decide +kernel
theorem dX12_heldBy_12 : decode cX12_heldBy 12 = .ok (.istore 5, 2) := by decide +kernel
theorem dX12_heldBy_14 : decode cX12_heldBy 14 = .ok (.iconst 0, 1) := by decide +kernel
theorem dX12_heldBy_15 : decode cX12_heldBy 15 = .ok (.istore 6, 2) := by decide +kernel
theorem dX12_heldBy_17 : decode cX12_heldBy 17 = .ok (.iload 6, 2) := by decide +kernel
theorem dX12_heldBy_19 : decode cX12_heldBy 19 = .ok (.iconst 4, 1) := by decide +kernel
theorem dX12_heldBy_20 : decode cX12_heldBy 20 = .ok (.aload_n 0, 1) := by decide +kernel
theorem dX12_heldBy_21 : decode cX12_heldBy 21 = .ok (.getfield 198, 3) := by decide +kernel
theorem dX12_heldBy_24 : decode cX12_heldBy 24 = .ok (.imul, 1) := by decide +kernel
theorem dX12_heldBy_25 : decode cX12_heldBy 25 = .ok (.if_icmp .ge 82, 3) := by decide +kernel
theorem dX12_heldBy_28 : decode cX12_heldBy 28 = .ok (.aload_n 0, 1) := by decide +kernel
theorem dX12_heldBy_29 : decode cX12_heldBy 29 = .ok (.getfield 46, 3) := by decide +kernel
theorem dX12_heldBy_32 : decode cX12_heldBy 32 = .ok (.iload 6, 2) := by decide +kernel
theorem dX12_heldBy_34 : decode cX12_heldBy 34 = .ok (.iaload, 1) := by decide +kernel
theorem dX12_heldBy_35 : decode cX12_heldBy 35 = .ok (.iload_n 1, 1) := by decide +kernel
theorem dX12_heldBy_36 : decode cX12_heldBy 36 = .ok (.if_icmp .ne 65, 3) := by decide +kernel
theorem dX12_heldBy_39 : decode cX12_heldBy 39 = .ok (.aload_n 0, 1) := by decide +kernel
theorem dX12_heldBy_40 : decode cX12_heldBy 40 = .ok (.getfield 46, 3) := by decide +kernel
theorem dX12_heldBy_43 : decode cX12_heldBy 43 = .ok (.iload 6, 2) := by decide +kernel
theorem dX12_heldBy_45 : decode cX12_heldBy 45 = .ok (.iconst 1, 1) := by decide +kernel
theorem dX12_heldBy_46 : decode cX12_heldBy 46 = .ok (.iadd, 1) := by decide +kernel
theorem dX12_heldBy_47 : decode cX12_heldBy 47 = .ok (.iaload, 1) := by decide +kernel
theorem dX12_heldBy_48 : decode cX12_heldBy 48 = .ok (.iload_n 3, 1) := by decide +kernel
theorem dX12_heldBy_49 : decode cX12_heldBy 49 = .ok (.if_icmp .ne 52, 3) := by decide +kernel
theorem dX12_heldBy_52 : decode cX12_heldBy 52 = .ok (.aload_n 0, 1) := by decide +kernel
theorem dX12_heldBy_53 : decode cX12_heldBy 53 = .ok (.getfield 46, 3) := by decide +kernel
theorem dX12_heldBy_56 : decode cX12_heldBy 56 = .ok (.iload 6, 2) := by decide +kernel
theorem dX12_heldBy_58 : decode cX12_heldBy 58 = .ok (.iconst 3, 1) := by decide +kernel
theorem dX12_heldBy_59 : decode cX12_heldBy 59 = .ok (.iadd, 1) := by decide +kernel
theorem dX12_heldBy_60 : decode cX12_heldBy 60 = .ok (.iaload, 1) := by decide +kernel
theorem dX12_heldBy_61 : decode cX12_heldBy 61 = .ok (.iload_n 2, 1) := by decide +kernel
theorem dX12_heldBy_62 : decode cX12_heldBy 62 = .ok (.if_icmp .gt 39, 3) := by decide +kernel
theorem dX12_heldBy_65 : decode cX12_heldBy 65 = .ok (.aload_n 0, 1) := by decide +kernel
theorem dX12_heldBy_66 : decode cX12_heldBy 66 = .ok (.getfield 46, 3) := by decide +kernel
theorem dX12_heldBy_69 : decode cX12_heldBy 69 = .ok (.iload 6, 2) := by decide +kernel
theorem dX12_heldBy_71 : decode cX12_heldBy 71 = .ok (.iconst 3, 1) := by decide +kernel
theorem dX12_heldBy_72 : decode cX12_heldBy 72 = .ok (.iadd, 1) := by decide +kernel
theorem dX12_heldBy_73 : decode cX12_heldBy 73 = .ok (.iaload, 1) := by decide +kernel
theorem dX12_heldBy_74 : decode cX12_heldBy 74 = .ok (.iload 4, 2) := by decide +kernel
theorem dX12_heldBy_76 : decode cX12_heldBy 76 = .ok (.if_icmp .lt 25, 3) := by decide +kernel
theorem dX12_heldBy_79 : decode cX12_heldBy 79 = .ok (.aload_n 0, 1) := by decide +kernel
theorem dX12_heldBy_80 : decode cX12_heldBy 80 = .ok (.getfield 46, 3) := by decide +kernel
theorem dX12_heldBy_83 : decode cX12_heldBy 83 = .ok (.iload 6, 2) := by decide +kernel
theorem dX12_heldBy_85 : decode cX12_heldBy 85 = .ok (.iconst 3, 1) := by decide +kernel
theorem dX12_heldBy_86 : decode cX12_heldBy 86 = .ok (.iadd, 1) := by decide +kernel
theorem dX12_heldBy_87 : decode cX12_heldBy 87 = .ok (.iaload, 1) := by decide +kernel
theorem dX12_heldBy_88 : decode cX12_heldBy 88 = .ok (.istore 4, 2) := by decide +kernel
theorem dX12_heldBy_90 : decode cX12_heldBy 90 = .ok (.aload_n 0, 1) := by decide +kernel
theorem dX12_heldBy_91 : decode cX12_heldBy 91 = .ok (.getfield 46, 3) := by decide +kernel
theorem dX12_heldBy_94 : decode cX12_heldBy 94 = .ok (.iload 6, 2) := by decide +kernel
theorem dX12_heldBy_96 : decode cX12_heldBy 96 = .ok (.iconst 2, 1) := by decide +kernel
theorem dX12_heldBy_97 : decode cX12_heldBy 97 = .ok (.iadd, 1) := by decide +kernel
theorem dX12_heldBy_98 : decode cX12_heldBy 98 = .ok (.iaload, 1) := by decide +kernel
theorem dX12_heldBy_99 : decode cX12_heldBy 99 = .ok (.istore 5, 2) := by decide +kernel
theorem dX12_heldBy_101 : decode cX12_heldBy 101 = .ok (.iinc 6 4, 3) := by decide +kernel
theorem dX12_heldBy_104 : decode cX12_heldBy 104 = .ok (.goto (-87), 3) := by decide +kernel
theorem dX12_heldBy_107 : decode cX12_heldBy 107 = .ok (.iload 5, 2) := by decide +kernel
theorem dX12_heldBy_109 : decode cX12_heldBy 109 = .ok (.ireturn, 1) := by decide +kernel
set_option maxRecDepth 20000 in
theorem ggX12_holds_X12_isBlock : GoodIn wsX12_holds wsX12_isBlock := goodIn_r _ [5, 6, 7, 8, 4, 9, 20, 21, 22, 23, 24, 25, 26, 27, 28, 29, 30, 31, 32, 33, 34, 35, 36, 37, 38, 39, 40, 41, 42, 43, 44, 45, 46, 47, 48, 49, 50, 51, 52, 53, 54, 55, 56, 57, 58, 59] (by decide +kernel) (by decide +kernel)
set_option maxRecDepth 20000 in
theorem gX12_holds_X12_isBlock : GoodIn wsX12_holds (wsV RX12 201 RX12 yX12_isBlock wsX12_isBlock) := goodIn_app (goodIn_of _ (by decide +kernel)) ggX12_holds_X12_isBlock
set_option maxRecDepth 20000 in
theorem ggX12_holds_X12_isYear : GoodIn wsX12_holds wsX12_isYear := goodIn_r _ [12, 13, 7, 8, 4, 9] (by decide +kernel) (by decide +kernel)
set_option maxRecDepth 20000 in
theorem gX12_holds_X12_isYear : GoodIn wsX12_holds (va_wsS RX12 107 yX12_isYear wsX12_isYear) := goodIn_app (goodIn_of _ (by decide +kernel)) ggX12_holds_X12_isYear
set_option maxRecDepth 20000 in
theorem ggX12_holds_X12_in : GoodIn wsX12_holds wsX12_in := goodIn_r _ [9] (by decide +kernel) (by decide +kernel)
set_option maxRecDepth 20000 in
theorem gX12_holds_X12_in : GoodIn wsX12_holds (va_wsS RX12 97 yX12_in wsX12_in) := goodIn_app (goodIn_of _ (by decide +kernel)) ggX12_holds_X12_in
set_option maxRecDepth 20000 in
theorem ggX12_holds_X12_heldBy : GoodIn wsX12_holds wsX12_heldBy := goodIn_r _ [17, 18, 19, 20, 21, 22, 23, 24, 25, 26, 27, 28, 29, 30, 31, 32, 33, 34, 35, 36, 37, 38, 39, 40, 41, 42, 43, 44, 45, 46, 47, 48, 49, 50, 51, 52, 53, 54, 55, 56, 57, 58, 59] (by decide +kernel) (by decide +kernel)
set_option maxRecDepth 20000 in
theorem gX12_holds_X12_heldBy : GoodIn wsX12_holds (wsV RX12 211 RX12 yX12_heldBy wsX12_heldBy) := goodIn_app (goodIn_of _ (by decide +kernel)) ggX12_holds_X12_heldBy
theorem dX12_holds_0 : decode cX12_holds 0 = .ok (.aload_n 0, 1) := by decide +kernel
theorem dX12_holds_1 : decode cX12_holds 1 = .ok (.iload_n 1, 1) := by decide +kernel
theorem dX12_holds_2 : decode cX12_holds 2 = .ok (.invokevirtual 201, 3) := by decide +kernel
theorem dX12_holds_5 : decode cX12_holds 5 = .ok (.ifCond .eq 20, 3) := by decide +kernel
theorem dX12_holds_8 : decode cX12_holds 8 = .ok (.iload_n 2, 1) := by decide +kernel
theorem dX12_holds_9 : decode cX12_holds 9 = .ok (.invokestatic 107, 3) := by decide +kernel
theorem dX12_holds_12 : decode cX12_holds 12 = .ok (.ifCond .eq 13, 3) := by decide +kernel
theorem dX12_holds_15 : decode cX12_holds 15 = .ok (.iload_n 3, 1) := by decide +kernel
theorem dX12_holds_16 : decode cX12_holds 16 = .ok (.i2l, 1) := by decide +kernel
theorem dX12_holds_17 : decode cX12_holds 17 = .ok (.lconst 0, 1) := by decide +kernel
theorem dX12_holds_18 : decode cX12_holds 18 = .ok (.lconst 1, 1) := by decide +kernel
theorem dX12_holds_19 : decode cX12_holds 19 = .ok (.invokestatic 97, 3) := by decide +kernel
theorem dX12_holds_22 : decode cX12_holds 22 = .ok (.ifCond .ne 5, 3) := by decide +kernel
theorem dX12_holds_25 : decode cX12_holds 25 = .ok (.iconst (-1), 1) := by decide +kernel
theorem dX12_holds_26 : decode cX12_holds 26 = .ok (.ireturn, 1) := by decide +kernel
theorem dX12_holds_27 : decode cX12_holds 27 = .ok (.aload_n 0, 1) := by decide +kernel
theorem dX12_holds_28 : decode cX12_holds 28 = .ok (.iload_n 1, 1) := by decide +kernel
theorem dX12_holds_29 : decode cX12_holds 29 = .ok (.iload_n 2, 1) := by decide +kernel
theorem dX12_holds_30 : decode cX12_holds 30 = .ok (.iload_n 3, 1) := by decide +kernel
theorem dX12_holds_31 : decode cX12_holds 31 = .ok (.invokevirtual 211, 3) := by decide +kernel
theorem dX12_holds_34 : decode cX12_holds 34 = .ok (.istore 4, 2) := by decide +kernel
theorem dX12_holds_36 : decode cX12_holds 36 = .ok (.iload 4, 2) := by decide +kernel
theorem dX12_holds_38 : decode cX12_holds 38 = .ok (.ifCond .ge 8, 3) := by decide +kernel
theorem dX12_holds_41 : decode cX12_holds 41 = .ok (.bipush (-4), 2) := by decide +kernel
theorem dX12_holds_43 : decode cX12_holds 43 = .ok (.goto 5, 3) := by decide +kernel
theorem dX12_holds_46 : decode cX12_holds 46 = .ok (.iload 4, 2) := by decide +kernel
theorem dX12_holds_48 : decode cX12_holds 48 = .ok (.ireturn, 1) := by decide +kernel
set_option maxRecDepth 20000 in
theorem ggX12_deed_X12_isBlock : GoodIn wsX12_deed wsX12_isBlock := goodIn_r _ [8, 9, 10, 11, 7, 12, 21, 22, 23, 24, 25, 26, 27, 28, 29, 30, 31, 32, 33, 34, 35, 36, 37, 38, 39, 40, 41, 42, 43, 44, 45, 46, 47, 48, 49, 50, 51, 52, 53, 54, 55, 56, 57, 58, 59, 60] (by decide +kernel) (by decide +kernel)
set_option maxRecDepth 20000 in
theorem gX12_deed_X12_isBlock : GoodIn wsX12_deed (wsV RX12 201 RX12 yX12_isBlock wsX12_isBlock) := goodIn_app (goodIn_of _ (by decide +kernel)) ggX12_deed_X12_isBlock
set_option maxRecDepth 20000 in
theorem ggX12_deed_X12_isKin : GoodIn wsX12_deed wsX12_isKin := goodIn_r _ [15, 16, 10, 11, 7, 12] (by decide +kernel) (by decide +kernel)
set_option maxRecDepth 20000 in
theorem gX12_deed_X12_isKin : GoodIn wsX12_deed (va_wsS RX12 184 yX12_isKin wsX12_isKin) := goodIn_app (goodIn_of _ (by decide +kernel)) ggX12_deed_X12_isKin
set_option maxRecDepth 20000 in
theorem ggX12_deed_X12_in : GoodIn wsX12_deed wsX12_in := goodIn_r _ [12] (by decide +kernel) (by decide +kernel)
set_option maxRecDepth 20000 in
theorem gX12_deed_X12_in : GoodIn wsX12_deed (va_wsS RX12 97 yX12_in wsX12_in) := goodIn_app (goodIn_of _ (by decide +kernel)) ggX12_deed_X12_in
set_option maxRecDepth 20000 in
theorem ggX12_deed_X12_isYear : GoodIn wsX12_deed wsX12_isYear := goodIn_r _ [19, 20, 10, 11, 7, 12] (by decide +kernel) (by decide +kernel)
set_option maxRecDepth 20000 in
theorem gX12_deed_X12_isYear : GoodIn wsX12_deed (va_wsS RX12 107 yX12_isYear wsX12_isYear) := goodIn_app (goodIn_of _ (by decide +kernel)) ggX12_deed_X12_isYear
theorem dX12_deed_0 : decode cX12_deed 0 = .ok (.aload_n 0, 1) := by decide +kernel
theorem dX12_deed_1 : decode cX12_deed 1 = .ok (.iload_n 1, 1) := by decide +kernel
theorem dX12_deed_2 : decode cX12_deed 2 = .ok (.invokevirtual 201, 3) := by decide +kernel
theorem dX12_deed_5 : decode cX12_deed 5 = .ok (.ifCond .eq 30, 3) := by decide +kernel
theorem dX12_deed_8 : decode cX12_deed 8 = .ok (.iload_n 2, 1) := by decide +kernel
theorem dX12_deed_9 : decode cX12_deed 9 = .ok (.invokestatic 184, 3) := by decide +kernel
theorem dX12_deed_12 : decode cX12_deed 12 = .ok (.ifCond .eq 23, 3) := by decide +kernel
theorem dX12_deed_15 : decode cX12_deed 15 = .ok (.iload_n 3, 1) := by decide +kernel
theorem dX12_deed_16 : decode cX12_deed 16 = .ok (.i2l, 1) := by decide +kernel
theorem dX12_deed_17 : decode cX12_deed 17 = .ok (.lconst 0, 1) := by decide +kernel
theorem dX12_deed_18 : decode cX12_deed 18 = .ok (.ldc2_w 134, 3) := by decide +kernel
theorem dX12_deed_21 : decode cX12_deed 21 = .ok (.invokestatic 97, 3) := by decide +kernel
theorem dX12_deed_24 : decode cX12_deed 24 = .ok (.ifCond .eq 11, 3) := by decide +kernel
theorem dX12_deed_27 : decode cX12_deed 27 = .ok (.iload 4, 2) := by decide +kernel
theorem dX12_deed_29 : decode cX12_deed 29 = .ok (.invokestatic 107, 3) := by decide +kernel
theorem dX12_deed_32 : decode cX12_deed 32 = .ok (.ifCond .ne 5, 3) := by decide +kernel
theorem dX12_deed_35 : decode cX12_deed 35 = .ok (.iconst (-1), 1) := by decide +kernel
theorem dX12_deed_36 : decode cX12_deed 36 = .ok (.ireturn, 1) := by decide +kernel
theorem dX12_deed_37 : decode cX12_deed 37 = .ok (.aload_n 0, 1) := by decide +kernel
theorem dX12_deed_38 : decode cX12_deed 38 = .ok (.getfield 214, 3) := by decide +kernel
theorem dX12_deed_41 : decode cX12_deed 41 = .ok (.bipush 20, 2) := by decide +kernel
theorem dX12_deed_43 : decode cX12_deed 43 = .ok (.if_icmp .ne 6, 3) := by decide +kernel
theorem dX12_deed_46 : decode cX12_deed 46 = .ok (.bipush (-3), 2) := by decide +kernel
theorem dX12_deed_48 : decode cX12_deed 48 = .ok (.ireturn, 1) := by decide +kernel
theorem dX12_deed_49 : decode cX12_deed 49 = .ok (.iconst 4, 1) := by decide +kernel
theorem dX12_deed_50 : decode cX12_deed 50 = .ok (.aload_n 0, 1) := by decide +kernel
theorem dX12_deed_51 : decode cX12_deed 51 = .ok (.getfield 214, 3) := by decide +kernel
theorem dX12_deed_54 : decode cX12_deed 54 = .ok (.imul, 1) := by decide +kernel
theorem dX12_deed_55 : decode cX12_deed 55 = .ok (.istore 5, 2) := by decide +kernel
theorem dX12_deed_57 : decode cX12_deed 57 = .ok (.aload_n 0, 1) := by decide +kernel
theorem dX12_deed_58 : decode cX12_deed 58 = .ok (.getfield 49, 3) := by decide +kernel
theorem dX12_deed_61 : decode cX12_deed 61 = .ok (.iload 5, 2) := by decide +kernel
theorem dX12_deed_63 : decode cX12_deed 63 = .ok (.iload_n 1, 1) := by decide +kernel
theorem dX12_deed_64 : decode cX12_deed 64 = .ok (.iastore, 1) := by decide +kernel
theorem dX12_deed_65 : decode cX12_deed 65 = .ok (.aload_n 0, 1) := by decide +kernel
theorem dX12_deed_66 : decode cX12_deed 66 = .ok (.getfield 49, 3) := by decide +kernel
theorem dX12_deed_69 : decode cX12_deed 69 = .ok (.iload 5, 2) := by decide +kernel
theorem dX12_deed_71 : decode cX12_deed 71 = .ok (.iconst 1, 1) := by decide +kernel
theorem dX12_deed_72 : decode cX12_deed 72 = .ok (.iadd, 1) := by decide +kernel
theorem dX12_deed_73 : decode cX12_deed 73 = .ok (.iload_n 2, 1) := by decide +kernel
theorem dX12_deed_74 : decode cX12_deed 74 = .ok (.iastore, 1) := by decide +kernel
theorem dX12_deed_75 : decode cX12_deed 75 = .ok (.aload_n 0, 1) := by decide +kernel
theorem dX12_deed_76 : decode cX12_deed 76 = .ok (.getfield 49, 3) := by decide +kernel
theorem dX12_deed_79 : decode cX12_deed 79 = .ok (.iload 5, 2) := by decide +kernel
theorem dX12_deed_81 : decode cX12_deed 81 = .ok (.iconst 2, 1) := by decide +kernel
theorem dX12_deed_82 : decode cX12_deed 82 = .ok (.iadd, 1) := by decide +kernel
theorem dX12_deed_83 : decode cX12_deed 83 = .ok (.iload_n 3, 1) := by decide +kernel
theorem dX12_deed_84 : decode cX12_deed 84 = .ok (.iastore, 1) := by decide +kernel
theorem dX12_deed_85 : decode cX12_deed 85 = .ok (.aload_n 0, 1) := by decide +kernel
theorem dX12_deed_86 : decode cX12_deed 86 = .ok (.getfield 49, 3) := by decide +kernel
theorem dX12_deed_89 : decode cX12_deed 89 = .ok (.iload 5, 2) := by decide +kernel
theorem dX12_deed_91 : decode cX12_deed 91 = .ok (.iconst 3, 1) := by decide +kernel
theorem dX12_deed_92 : decode cX12_deed 92 = .ok (.iadd, 1) := by decide +kernel
theorem dX12_deed_93 : decode cX12_deed 93 = .ok (.iload 4, 2) := by decide +kernel
theorem dX12_deed_95 : decode cX12_deed 95 = .ok (.iastore, 1) := by decide +kernel
theorem dX12_deed_96 : decode cX12_deed 96 = .ok (.aload_n 0, 1) := by decide +kernel
theorem dX12_deed_97 : decode cX12_deed 97 = .ok (.dup, 1) := by decide +kernel
theorem dX12_deed_98 : decode cX12_deed 98 = .ok (.getfield 214, 3) := by decide +kernel
theorem dX12_deed_101 : decode cX12_deed 101 = .ok (.iconst 1, 1) := by decide +kernel
theorem dX12_deed_102 : decode cX12_deed 102 = .ok (.iadd, 1) := by decide +kernel
theorem dX12_deed_103 : decode cX12_deed 103 = .ok (.putfield 214, 3) := by decide +kernel
theorem dX12_deed_106 : decode cX12_deed 106 = .ok (.aload_n 0, 1) := by decide +kernel
theorem dX12_deed_107 : decode cX12_deed 107 = .ok (.getfield 214, 3) := by decide +kernel
theorem dX12_deed_110 : decode cX12_deed 110 = .ok (.iconst 1, 1) := by decide +kernel
theorem dX12_deed_111 : decode cX12_deed 111 = .ok (.isub, 1) := by decide +kernel
theorem dX12_deed_112 : decode cX12_deed 112 = .ok (.ireturn, 1) := by decide +kernel
set_option maxRecDepth 20000 in
theorem ggX12_could_X12_in : GoodIn wsX12_could wsX12_in := goodIn_r _ [6] (by decide +kernel) (by decide +kernel)
set_option maxRecDepth 20000 in
theorem gX12_could_X12_in : GoodIn wsX12_could (va_wsS RX12 97 yX12_in wsX12_in) := goodIn_app (goodIn_of _ (by decide +kernel)) ggX12_could_X12_in
set_option maxRecDepth 20000 in
theorem ggX12_could_X12_heldBy : GoodIn wsX12_could wsX12_heldBy := goodIn_r _ [10, 11, 12, 16, 17, 18, 19, 20, 21, 22, 23, 24, 25, 26, 27, 28, 29, 30, 31, 32, 33, 34, 35, 36, 37, 38, 39, 40, 41, 42, 43, 44, 45, 46, 47, 48, 49, 50, 51, 52, 53, 54, 55] (by decide +kernel) (by decide +kernel)
set_option maxRecDepth 20000 in
theorem gX12_could_X12_heldBy : GoodIn wsX12_could (wsV RX12 211 RX12 yX12_heldBy wsX12_heldBy) := goodIn_app (goodIn_of _ (by decide +kernel)) ggX12_could_X12_heldBy
set_option maxRecDepth 20000 in
theorem ggX12_could_X12_has : GoodIn wsX12_could wsX12_has := goodIn_r _ [15] (by decide +kernel) (by decide +kernel)
set_option maxRecDepth 20000 in
theorem gX12_could_X12_has : GoodIn wsX12_could (va_wsS RX12 147 yX12_has wsX12_has) := goodIn_app (goodIn_of _ (by decide +kernel)) ggX12_could_X12_has
theorem dX12_could_0 : decode cX12_could 0 = .ok (.iload_n 1, 1) := by decide +kernel
theorem dX12_could_1 : decode cX12_could 1 = .ok (.i2l, 1) := by decide +kernel
theorem dX12_could_2 : decode cX12_could 2 = .ok (.lconst 0, 1) := by decide +kernel
theorem dX12_could_3 : decode cX12_could 3 = .ok (.aload_n 0, 1) := by decide +kernel
theorem dX12_could_4 : decode cX12_could 4 = .ok (.getfield 214, 3) := by decide +kernel
theorem dX12_could_7 : decode cX12_could 7 = .ok (.iconst 1, 1) := by decide +kernel
theorem dX12_could_8 : decode cX12_could 8 = .ok (.isub, 1) := by decide +kernel
theorem dX12_could_9 : decode cX12_could 9 = .ok (.i2l, 1) := by decide +kernel
theorem dX12_could_10 : decode cX12_could 10 = .ok (.invokestatic 97, 3) := by decide +kernel
theorem dX12_could_13 : decode cX12_could 13 = .ok (.ifCond .ne 5, 3) := by decide +kernel
theorem dX12_could_16 : decode cX12_could 16 = .ok (.iconst (-1), 1) := by decide +kernel
theorem dX12_could_17 : decode cX12_could 17 = .ok (.ireturn, 1) := by decide +kernel
theorem dX12_could_18 : decode cX12_could 18 = .ok (.iconst 4, 1) := by decide +kernel
theorem dX12_could_19 : decode cX12_could 19 = .ok (.iload_n 1, 1) := by decide +kernel
theorem dX12_could_20 : decode cX12_could 20 = .ok (.imul, 1) := by decide +kernel
theorem dX12_could_21 : decode cX12_could 21 = .ok (.istore_n 2, 1) := by decide +kernel
theorem dX12_could_22 : decode cX12_could 22 = .ok (.aload_n 0, 1) := by decide +kernel
theorem dX12_could_23 : decode cX12_could 23 = .ok (.getfield 49, 3) := by decide +kernel
theorem dX12_could_26 : decode cX12_could 26 = .ok (.iload_n 2, 1) := by decide +kernel
theorem dX12_could_27 : decode cX12_could 27 = .ok (.iconst 1, 1) := by decide +kernel
theorem dX12_could_28 : decode cX12_could 28 = .ok (.iadd, 1) := by decide +kernel
theorem dX12_could_29 : decode cX12_could 29 = .ok (.iaload, 1) := by decide +kernel
theorem dX12_could_30 : decode cX12_could 30 = .ok (.istore_n 3, 1) := by decide +kernel
theorem dX12_could_31 : decode cX12_could 31 = .ok (.aload_n 0, 1) := by decide +kernel
theorem dX12_could_32 : decode cX12_could 32 = .ok (.aload_n 0, 1) := by decide +kernel
theorem dX12_could_33 : decode cX12_could 33 = .ok (.getfield 49, 3) := by decide +kernel
theorem dX12_could_36 : decode cX12_could 36 = .ok (.iload_n 2, 1) := by decide +kernel
theorem dX12_could_37 : decode cX12_could 37 = .ok (.iaload, 1) := by decide +kernel
theorem dX12_could_38 : decode cX12_could 38 = .ok (.aload_n 0, 1) := by decide +kernel
theorem dX12_could_39 : decode cX12_could 39 = .ok (.getfield 49, 3) := by decide +kernel
theorem dX12_could_42 : decode cX12_could 42 = .ok (.iload_n 2, 1) := by decide +kernel
theorem dX12_could_43 : decode cX12_could 43 = .ok (.iconst 3, 1) := by decide +kernel
theorem dX12_could_44 : decode cX12_could 44 = .ok (.iadd, 1) := by decide +kernel
theorem dX12_could_45 : decode cX12_could 45 = .ok (.iaload, 1) := by decide +kernel
theorem dX12_could_46 : decode cX12_could 46 = .ok (.iconst 0, 1) := by decide +kernel
theorem dX12_could_47 : decode cX12_could 47 = .ok (.invokevirtual 211, 3) := by decide +kernel
theorem dX12_could_50 : decode cX12_could 50 = .ok (.iload_n 3, 1) := by decide +kernel
theorem dX12_could_51 : decode cX12_could 51 = .ok (.if_icmp .ne 7, 3) := by decide +kernel
theorem dX12_could_54 : decode cX12_could 54 = .ok (.iconst 1, 1) := by decide +kernel
theorem dX12_could_55 : decode cX12_could 55 = .ok (.goto 4, 3) := by decide +kernel
theorem dX12_could_58 : decode cX12_could 58 = .ok (.iconst 0, 1) := by decide +kernel
theorem dX12_could_59 : decode cX12_could 59 = .ok (.istore 4, 2) := by decide +kernel
theorem dX12_could_61 : decode cX12_could 61 = .ok (.aload_n 0, 1) := by decide +kernel
theorem dX12_could_62 : decode cX12_could 62 = .ok (.aload_n 0, 1) := by decide +kernel
theorem dX12_could_63 : decode cX12_could 63 = .ok (.getfield 49, 3) := by decide +kernel
theorem dX12_could_66 : decode cX12_could 66 = .ok (.iload_n 2, 1) := by decide +kernel
theorem dX12_could_67 : decode cX12_could 67 = .ok (.iaload, 1) := by decide +kernel
theorem dX12_could_68 : decode cX12_could 68 = .ok (.aload_n 0, 1) := by decide +kernel
theorem dX12_could_69 : decode cX12_could 69 = .ok (.getfield 49, 3) := by decide +kernel
theorem dX12_could_72 : decode cX12_could 72 = .ok (.iload_n 2, 1) := by decide +kernel
theorem dX12_could_73 : decode cX12_could 73 = .ok (.iconst 3, 1) := by decide +kernel
theorem dX12_could_74 : decode cX12_could 74 = .ok (.iadd, 1) := by decide +kernel
theorem dX12_could_75 : decode cX12_could 75 = .ok (.iaload, 1) := by decide +kernel
theorem dX12_could_76 : decode cX12_could 76 = .ok (.iconst 1, 1) := by decide +kernel
theorem dX12_could_77 : decode cX12_could 77 = .ok (.invokevirtual 211, 3) := by decide +kernel
theorem dX12_could_80 : decode cX12_could 80 = .ok (.istore 5, 2) := by decide +kernel
theorem dX12_could_82 : decode cX12_could 82 = .ok (.iload 4, 2) := by decide +kernel
theorem dX12_could_84 : decode cX12_could 84 = .ok (.ifCond .eq 18, 3) := by decide +kernel
theorem dX12_could_87 : decode cX12_could 87 = .ok (.iload 5, 2) := by decide +kernel
theorem dX12_could_89 : decode cX12_could 89 = .ok (.iconst 1, 1) := by decide +kernel
theorem dX12_could_90 : decode cX12_could 90 = .ok (.iload_n 3, 1) := by decide +kernel
theorem dX12_could_91 : decode cX12_could 91 = .ok (.ishl, 1) := by decide +kernel
theorem dX12_could_92 : decode cX12_could 92 = .ok (.iconst (-1), 1) := by decide +kernel
theorem dX12_could_93 : decode cX12_could 93 = .ok (.ixor, 1) := by decide +kernel
theorem dX12_could_94 : decode cX12_could 94 = .ok (.iand, 1) := by decide +kernel
theorem dX12_could_95 : decode cX12_could 95 = .ok (.ifCond .ne 7, 3) := by decide +kernel
theorem dX12_could_98 : decode cX12_could 98 = .ok (.iconst 2, 1) := by decide +kernel
theorem dX12_could_99 : decode cX12_could 99 = .ok (.goto 22, 3) := by decide +kernel
theorem dX12_could_102 : decode cX12_could 102 = .ok (.iload 4, 2) := by decide +kernel
theorem dX12_could_104 : decode cX12_could 104 = .ok (.ifCond .ne 12, 3) := by decide +kernel
theorem dX12_could_107 : decode cX12_could 107 = .ok (.iload 5, 2) := by decide +kernel
theorem dX12_could_109 : decode cX12_could 109 = .ok (.iload_n 3, 1) := by decide +kernel
theorem dX12_could_110 : decode cX12_could 110 = .ok (.invokestatic 147, 3) := by decide +kernel
theorem dX12_could_113 : decode cX12_could 113 = .ok (.ifCond .eq 7, 3) := by decide +kernel
theorem dX12_could_116 : decode cX12_could 116 = .ok (.iconst 1, 1) := by decide +kernel
theorem dX12_could_117 : decode cX12_could 117 = .ok (.goto 4, 3) := by decide +kernel
theorem dX12_could_120 : decode cX12_could 120 = .ok (.iconst 0, 1) := by decide +kernel
theorem dX12_could_121 : decode cX12_could 121 = .ok (.ireturn, 1) := by decide +kernel
set_option maxRecDepth 20000 in
theorem ggX12_twice_X12_isBlock : GoodIn wsX12_twice wsX12_isBlock := goodIn_r _ [7, 8, 9, 10, 6, 11, 12, 13, 14, 15, 16, 17, 18, 19, 20, 21, 22, 23, 24, 25, 26, 27, 28, 29, 30, 31, 32, 33, 34, 35, 36, 37, 38, 39, 40, 41, 42, 43, 44, 45, 46, 47, 48, 49, 50, 51] (by decide +kernel) (by decide +kernel)
set_option maxRecDepth 20000 in
theorem gX12_twice_X12_isBlock : GoodIn wsX12_twice (wsV RX12 201 RX12 yX12_isBlock wsX12_isBlock) := goodIn_app (goodIn_of _ (by decide +kernel)) ggX12_twice_X12_isBlock
theorem dX12_twice_0 : decode cX12_twice 0 = .ok (.aload_n 0, 1) := by decide +kernel
theorem dX12_twice_1 : decode cX12_twice 1 = .ok (.iload_n 1, 1) := by decide +kernel
theorem dX12_twice_2 : decode cX12_twice 2 = .ok (.invokevirtual 201, 3) := by decide +kernel
theorem dX12_twice_5 : decode cX12_twice 5 = .ok (.ifCond .ne 5, 3) := by decide +kernel
theorem dX12_twice_8 : decode cX12_twice 8 = .ok (.iconst (-1), 1) := by decide +kernel
theorem dX12_twice_9 : decode cX12_twice 9 = .ok (.ireturn, 1) := by decide +kernel
theorem dX12_twice_10 : decode cX12_twice 10 = .ok (.iconst 0, 1) := by decide +kernel
theorem dX12_twice_11 : decode cX12_twice 11 = .ok (.istore_n 2, 1) := by decide +kernel
theorem dX12_twice_12 : decode cX12_twice 12 = .ok (.iload_n 2, 1) := by decide +kernel
theorem dX12_twice_13 : decode cX12_twice 13 = .ok (.aload_n 0, 1) := by decide +kernel
theorem dX12_twice_14 : decode cX12_twice 14 = .ok (.getfield 214, 3) := by decide +kernel
theorem dX12_twice_17 : decode cX12_twice 17 = .ok (.if_icmp .ge 81, 3) := by decide +kernel
theorem dX12_twice_20 : decode cX12_twice 20 = .ok (.iload_n 2, 1) := by decide +kernel
theorem dX12_twice_21 : decode cX12_twice 21 = .ok (.iconst 1, 1) := by decide +kernel
theorem dX12_twice_22 : decode cX12_twice 22 = .ok (.iadd, 1) := by decide +kernel
theorem dX12_twice_23 : decode cX12_twice 23 = .ok (.istore_n 3, 1) := by decide +kernel
theorem dX12_twice_24 : decode cX12_twice 24 = .ok (.iload_n 3, 1) := by decide +kernel
theorem dX12_twice_25 : decode cX12_twice 25 = .ok (.aload_n 0, 1) := by decide +kernel
theorem dX12_twice_26 : decode cX12_twice 26 = .ok (.getfield 214, 3) := by decide +kernel
theorem dX12_twice_29 : decode cX12_twice 29 = .ok (.if_icmp .ge 63, 3) := by decide +kernel
theorem dX12_twice_32 : decode cX12_twice 32 = .ok (.aload_n 0, 1) := by decide +kernel
theorem dX12_twice_33 : decode cX12_twice 33 = .ok (.getfield 49, 3) := by decide +kernel
theorem dX12_twice_36 : decode cX12_twice 36 = .ok (.iconst 4, 1) := by decide +kernel
theorem dX12_twice_37 : decode cX12_twice 37 = .ok (.iload_n 2, 1) := by decide +kernel
theorem dX12_twice_38 : decode cX12_twice 38 = .ok (.imul, 1) := by decide +kernel
theorem dX12_twice_39 : decode cX12_twice 39 = .ok (.iaload, 1) := by decide +kernel
theorem dX12_twice_40 : decode cX12_twice 40 = .ok (.iload_n 1, 1) := by decide +kernel
theorem dX12_twice_41 : decode cX12_twice 41 = .ok (.if_icmp .ne 45, 3) := by decide +kernel
theorem dX12_twice_44 : decode cX12_twice 44 = .ok (.aload_n 0, 1) := by decide +kernel
theorem dX12_twice_45 : decode cX12_twice 45 = .ok (.getfield 49, 3) := by decide +kernel
theorem dX12_twice_48 : decode cX12_twice 48 = .ok (.iconst 4, 1) := by decide +kernel
theorem dX12_twice_49 : decode cX12_twice 49 = .ok (.iload_n 3, 1) := by decide +kernel
theorem dX12_twice_50 : decode cX12_twice 50 = .ok (.imul, 1) := by decide +kernel
theorem dX12_twice_51 : decode cX12_twice 51 = .ok (.iaload, 1) := by decide +kernel
theorem dX12_twice_52 : decode cX12_twice 52 = .ok (.iload_n 1, 1) := by decide +kernel
theorem dX12_twice_53 : decode cX12_twice 53 = .ok (.if_icmp .ne 33, 3) := by decide +kernel
theorem dX12_twice_56 : decode cX12_twice 56 = .ok (.aload_n 0, 1) := by decide +kernel
theorem dX12_twice_57 : decode cX12_twice 57 = .ok (.getfield 49, 3) := by decide +kernel
theorem dX12_twice_60 : decode cX12_twice 60 = .ok (.iconst 4, 1) := by decide +kernel
theorem dX12_twice_61 : decode cX12_twice 61 = .ok (.iload_n 2, 1) := by decide +kernel
theorem dX12_twice_62 : decode cX12_twice 62 = .ok (.imul, 1) := by decide +kernel
theorem dX12_twice_63 : decode cX12_twice 63 = .ok (.iconst 1, 1) := by decide +kernel
theorem dX12_twice_64 : decode cX12_twice 64 = .ok (.iadd, 1) := by decide +kernel
theorem dX12_twice_65 : decode cX12_twice 65 = .ok (.iaload, 1) := by decide +kernel
theorem dX12_twice_66 : decode cX12_twice 66 = .ok (.aload_n 0, 1) := by decide +kernel
theorem dX12_twice_67 : decode cX12_twice 67 = .ok (.getfield 49, 3) := by decide +kernel
theorem dX12_twice_70 : decode cX12_twice 70 = .ok (.iconst 4, 1) := by decide +kernel
theorem dX12_twice_71 : decode cX12_twice 71 = .ok (.iload_n 3, 1) := by decide +kernel
theorem dX12_twice_72 : decode cX12_twice 72 = .ok (.imul, 1) := by decide +kernel
theorem dX12_twice_73 : decode cX12_twice 73 = .ok (.iconst 1, 1) := by decide +kernel
theorem dX12_twice_74 : decode cX12_twice 74 = .ok (.iadd, 1) := by decide +kernel
theorem dX12_twice_75 : decode cX12_twice 75 = .ok (.iaload, 1) := by decide +kernel
theorem dX12_twice_76 : decode cX12_twice 76 = .ok (.if_icmp .eq 10, 3) := by decide +kernel
theorem dX12_twice_79 : decode cX12_twice 79 = .ok (.bipush 100, 2) := by decide +kernel
theorem dX12_twice_81 : decode cX12_twice 81 = .ok (.iload_n 2, 1) := by decide +kernel
theorem dX12_twice_82 : decode cX12_twice 82 = .ok (.imul, 1) := by decide +kernel
theorem dX12_twice_83 : decode cX12_twice 83 = .ok (.iload_n 3, 1) := by decide +kernel
theorem dX12_twice_84 : decode cX12_twice 84 = .ok (.iadd, 1) := by decide +kernel
theorem dX12_twice_85 : decode cX12_twice 85 = .ok (.ireturn, 1) := by decide +kernel
theorem dX12_twice_86 : decode cX12_twice 86 = .ok (.iinc 3 1, 3) := by decide +kernel
theorem dX12_twice_89 : decode cX12_twice 89 = .ok (.goto (-65), 3) := by decide +kernel
theorem dX12_twice_92 : decode cX12_twice 92 = .ok (.iinc 2 1, 3) := by decide +kernel
theorem dX12_twice_95 : decode cX12_twice 95 = .ok (.goto (-83), 3) := by decide +kernel
theorem dX12_twice_98 : decode cX12_twice 98 = .ok (.bipush (-4), 2) := by decide +kernel
theorem dX12_twice_100 : decode cX12_twice 100 = .ok (.ireturn, 1) := by decide +kernel
set_option maxRecDepth 20000 in
theorem ggX12_take_X12_isBlock : GoodIn wsX12_take wsX12_isBlock := goodIn_r _ [7, 8, 9, 10, 6, 11, 20, 21, 22, 23, 24, 25, 26, 27, 28, 29, 30, 31, 32, 33, 34, 35, 36, 37, 38, 39, 40, 41, 42, 43, 44, 45, 46, 47, 48, 49, 50, 51, 52, 53, 54, 55, 56, 57, 58, 59] (by decide +kernel) (by decide +kernel)
set_option maxRecDepth 20000 in
theorem gX12_take_X12_isBlock : GoodIn wsX12_take (wsV RX12 201 RX12 yX12_isBlock wsX12_isBlock) := goodIn_app (goodIn_of _ (by decide +kernel)) ggX12_take_X12_isBlock
set_option maxRecDepth 20000 in
theorem ggX12_take_X12_isKin : GoodIn wsX12_take wsX12_isKin := goodIn_r _ [14, 15, 9, 10, 6, 11] (by decide +kernel) (by decide +kernel)
set_option maxRecDepth 20000 in
theorem gX12_take_X12_isKin : GoodIn wsX12_take (va_wsS RX12 184 yX12_isKin wsX12_isKin) := goodIn_app (goodIn_of _ (by decide +kernel)) ggX12_take_X12_isKin
set_option maxRecDepth 20000 in
theorem ggX12_take_X12_isYear : GoodIn wsX12_take wsX12_isYear := goodIn_r _ [18, 19, 9, 10, 6, 11] (by decide +kernel) (by decide +kernel)
set_option maxRecDepth 20000 in
theorem gX12_take_X12_isYear : GoodIn wsX12_take (va_wsS RX12 107 yX12_isYear wsX12_isYear) := goodIn_app (goodIn_of _ (by decide +kernel)) ggX12_take_X12_isYear
theorem dX12_take_0 : decode cX12_take 0 = .ok (.aload_n 0, 1) := by decide +kernel
theorem dX12_take_1 : decode cX12_take 1 = .ok (.iload_n 1, 1) := by decide +kernel
theorem dX12_take_2 : decode cX12_take 2 = .ok (.invokevirtual 201, 3) := by decide +kernel
theorem dX12_take_5 : decode cX12_take 5 = .ok (.ifCond .eq 17, 3) := by decide +kernel
theorem dX12_take_8 : decode cX12_take 8 = .ok (.iload_n 2, 1) := by decide +kernel
theorem dX12_take_9 : decode cX12_take 9 = .ok (.invokestatic 184, 3) := by decide +kernel
theorem dX12_take_12 : decode cX12_take 12 = .ok (.ifCond .eq 10, 3) := by decide +kernel
theorem dX12_take_15 : decode cX12_take 15 = .ok (.iload_n 3, 1) := by decide +kernel
theorem dX12_take_16 : decode cX12_take 16 = .ok (.invokestatic 107, 3) := by decide +kernel
theorem dX12_take_19 : decode cX12_take 19 = .ok (.ifCond .ne 5, 3) := by decide +kernel
theorem dX12_take_22 : decode cX12_take 22 = .ok (.iconst (-1), 1) := by decide +kernel
theorem dX12_take_23 : decode cX12_take 23 = .ok (.ireturn, 1) := by decide +kernel
theorem dX12_take_24 : decode cX12_take 24 = .ok (.aload_n 0, 1) := by decide +kernel
theorem dX12_take_25 : decode cX12_take 25 = .ok (.getfield 217, 3) := by decide +kernel
theorem dX12_take_28 : decode cX12_take 28 = .ok (.bipush 12, 2) := by decide +kernel
theorem dX12_take_30 : decode cX12_take 30 = .ok (.if_icmp .ne 6, 3) := by decide +kernel
theorem dX12_take_33 : decode cX12_take 33 = .ok (.bipush (-3), 2) := by decide +kernel
theorem dX12_take_35 : decode cX12_take 35 = .ok (.ireturn, 1) := by decide +kernel
theorem dX12_take_36 : decode cX12_take 36 = .ok (.aload_n 0, 1) := by decide +kernel
theorem dX12_take_37 : decode cX12_take 37 = .ok (.getfield 52, 3) := by decide +kernel
theorem dX12_take_40 : decode cX12_take 40 = .ok (.iconst 3, 1) := by decide +kernel
theorem dX12_take_41 : decode cX12_take 41 = .ok (.aload_n 0, 1) := by decide +kernel
theorem dX12_take_42 : decode cX12_take 42 = .ok (.getfield 217, 3) := by decide +kernel
theorem dX12_take_45 : decode cX12_take 45 = .ok (.imul, 1) := by decide +kernel
theorem dX12_take_46 : decode cX12_take 46 = .ok (.iload_n 1, 1) := by decide +kernel
theorem dX12_take_47 : decode cX12_take 47 = .ok (.iastore, 1) := by decide +kernel
theorem dX12_take_48 : decode cX12_take 48 = .ok (.aload_n 0, 1) := by decide +kernel
theorem dX12_take_49 : decode cX12_take 49 = .ok (.getfield 52, 3) := by decide +kernel
theorem dX12_take_52 : decode cX12_take 52 = .ok (.iconst 3, 1) := by decide +kernel
theorem dX12_take_53 : decode cX12_take 53 = .ok (.aload_n 0, 1) := by decide +kernel
theorem dX12_take_54 : decode cX12_take 54 = .ok (.getfield 217, 3) := by decide +kernel
theorem dX12_take_57 : decode cX12_take 57 = .ok (.imul, 1) := by decide +kernel
theorem dX12_take_58 : decode cX12_take 58 = .ok (.iconst 1, 1) := by decide +kernel
theorem dX12_take_59 : decode cX12_take 59 = .ok (.iadd, 1) := by decide +kernel
theorem dX12_take_60 : decode cX12_take 60 = .ok (.iload_n 2, 1) := by decide +kernel
theorem dX12_take_61 : decode cX12_take 61 = .ok (.iastore, 1) := by decide +kernel
theorem dX12_take_62 : decode cX12_take 62 = .ok (.aload_n 0, 1) := by decide +kernel
theorem dX12_take_63 : decode cX12_take 63 = .ok (.getfield 52, 3) := by decide +kernel
theorem dX12_take_66 : decode cX12_take 66 = .ok (.iconst 3, 1) := by decide +kernel
theorem dX12_take_67 : decode cX12_take 67 = .ok (.aload_n 0, 1) := by decide +kernel
theorem dX12_take_68 : decode cX12_take 68 = .ok (.getfield 217, 3) := by decide +kernel
theorem dX12_take_71 : decode cX12_take 71 = .ok (.imul, 1) := by decide +kernel
theorem dX12_take_72 : decode cX12_take 72 = .ok (.iconst 2, 1) := by decide +kernel
theorem dX12_take_73 : decode cX12_take 73 = .ok (.iadd, 1) := by decide +kernel
theorem dX12_take_74 : decode cX12_take 74 = .ok (.iload_n 3, 1) := by decide +kernel
theorem dX12_take_75 : decode cX12_take 75 = .ok (.iastore, 1) := by decide +kernel
theorem dX12_take_76 : decode cX12_take 76 = .ok (.aload_n 0, 1) := by decide +kernel
theorem dX12_take_77 : decode cX12_take 77 = .ok (.dup, 1) := by decide +kernel
theorem dX12_take_78 : decode cX12_take 78 = .ok (.getfield 217, 3) := by decide +kernel
theorem dX12_take_81 : decode cX12_take 81 = .ok (.iconst 1, 1) := by decide +kernel
theorem dX12_take_82 : decode cX12_take 82 = .ok (.iadd, 1) := by decide +kernel
theorem dX12_take_83 : decode cX12_take 83 = .ok (.putfield 217, 3) := by decide +kernel
theorem dX12_take_86 : decode cX12_take 86 = .ok (.aload_n 0, 1) := by decide +kernel
theorem dX12_take_87 : decode cX12_take 87 = .ok (.getfield 217, 3) := by decide +kernel
theorem dX12_take_90 : decode cX12_take 90 = .ok (.iconst 1, 1) := by decide +kernel
theorem dX12_take_91 : decode cX12_take 91 = .ok (.isub, 1) := by decide +kernel
theorem dX12_take_92 : decode cX12_take 92 = .ok (.ireturn, 1) := by decide +kernel
set_option maxRecDepth 20000 in
theorem ggX12_wrongedBy_X12_heldBy : GoodIn wsX12_wrongedBy wsX12_heldBy := goodIn_r _ [6, 7, 8, 9, 10, 11, 12, 13, 14, 15, 16, 17, 18, 19, 20, 21, 22, 23, 24, 25, 26, 27, 28, 29, 30, 31, 32, 33, 34, 35, 36, 37, 38, 39, 40, 41, 42, 43, 44, 45, 46, 47, 48] (by decide +kernel) (by decide +kernel)
set_option maxRecDepth 20000 in
theorem gX12_wrongedBy_X12_heldBy : GoodIn wsX12_wrongedBy (wsV RX12 211 RX12 yX12_heldBy wsX12_heldBy) := goodIn_app (goodIn_of _ (by decide +kernel)) ggX12_wrongedBy_X12_heldBy
theorem dX12_wrongedBy_0 : decode cX12_wrongedBy 0 = .ok (.aload_n 0, 1) := by decide +kernel
theorem dX12_wrongedBy_1 : decode cX12_wrongedBy 1 = .ok (.getfield 52, 3) := by decide +kernel
theorem dX12_wrongedBy_4 : decode cX12_wrongedBy 4 = .ok (.iconst 3, 1) := by decide +kernel
theorem dX12_wrongedBy_5 : decode cX12_wrongedBy 5 = .ok (.iload_n 1, 1) := by decide +kernel
theorem dX12_wrongedBy_6 : decode cX12_wrongedBy 6 = .ok (.imul, 1) := by decide +kernel
theorem dX12_wrongedBy_7 : decode cX12_wrongedBy 7 = .ok (.iaload, 1) := by decide +kernel
theorem dX12_wrongedBy_8 : decode cX12_wrongedBy 8 = .ok (.istore_n 2, 1) := by decide +kernel
theorem dX12_wrongedBy_9 : decode cX12_wrongedBy 9 = .ok (.aload_n 0, 1) := by decide +kernel
theorem dX12_wrongedBy_10 : decode cX12_wrongedBy 10 = .ok (.getfield 52, 3) := by decide +kernel
theorem dX12_wrongedBy_13 : decode cX12_wrongedBy 13 = .ok (.iconst 3, 1) := by decide +kernel
theorem dX12_wrongedBy_14 : decode cX12_wrongedBy 14 = .ok (.iload_n 1, 1) := by decide +kernel
theorem dX12_wrongedBy_15 : decode cX12_wrongedBy 15 = .ok (.imul, 1) := by decide +kernel
theorem dX12_wrongedBy_16 : decode cX12_wrongedBy 16 = .ok (.iconst 2, 1) := by decide +kernel
theorem dX12_wrongedBy_17 : decode cX12_wrongedBy 17 = .ok (.iadd, 1) := by decide +kernel
theorem dX12_wrongedBy_18 : decode cX12_wrongedBy 18 = .ok (.iaload, 1) := by decide +kernel
theorem dX12_wrongedBy_19 : decode cX12_wrongedBy 19 = .ok (.istore_n 3, 1) := by decide +kernel
theorem dX12_wrongedBy_20 : decode cX12_wrongedBy 20 = .ok (.aload_n 0, 1) := by decide +kernel
theorem dX12_wrongedBy_21 : decode cX12_wrongedBy 21 = .ok (.iload_n 2, 1) := by decide +kernel
theorem dX12_wrongedBy_22 : decode cX12_wrongedBy 22 = .ok (.iload_n 3, 1) := by decide +kernel
theorem dX12_wrongedBy_23 : decode cX12_wrongedBy 23 = .ok (.iconst 0, 1) := by decide +kernel
theorem dX12_wrongedBy_24 : decode cX12_wrongedBy 24 = .ok (.invokevirtual 211, 3) := by decide +kernel
theorem dX12_wrongedBy_27 : decode cX12_wrongedBy 27 = .ok (.istore 4, 2) := by decide +kernel
theorem dX12_wrongedBy_29 : decode cX12_wrongedBy 29 = .ok (.aload_n 0, 1) := by decide +kernel
theorem dX12_wrongedBy_30 : decode cX12_wrongedBy 30 = .ok (.iload_n 2, 1) := by decide +kernel
theorem dX12_wrongedBy_31 : decode cX12_wrongedBy 31 = .ok (.iload_n 3, 1) := by decide +kernel
theorem dX12_wrongedBy_32 : decode cX12_wrongedBy 32 = .ok (.iconst 1, 1) := by decide +kernel
theorem dX12_wrongedBy_33 : decode cX12_wrongedBy 33 = .ok (.invokevirtual 211, 3) := by decide +kernel
theorem dX12_wrongedBy_36 : decode cX12_wrongedBy 36 = .ok (.iload 4, 2) := by decide +kernel
theorem dX12_wrongedBy_38 : decode cX12_wrongedBy 38 = .ok (.ifCond .ge 7, 3) := by decide +kernel
theorem dX12_wrongedBy_41 : decode cX12_wrongedBy 41 = .ok (.iconst 0, 1) := by decide +kernel
theorem dX12_wrongedBy_42 : decode cX12_wrongedBy 42 = .ok (.goto 7, 3) := by decide +kernel
theorem dX12_wrongedBy_45 : decode cX12_wrongedBy 45 = .ok (.iconst 1, 1) := by decide +kernel
theorem dX12_wrongedBy_46 : decode cX12_wrongedBy 46 = .ok (.iload 4, 2) := by decide +kernel
theorem dX12_wrongedBy_48 : decode cX12_wrongedBy 48 = .ok (.ishl, 1) := by decide +kernel
theorem dX12_wrongedBy_49 : decode cX12_wrongedBy 49 = .ok (.ior, 1) := by decide +kernel
theorem dX12_wrongedBy_50 : decode cX12_wrongedBy 50 = .ok (.istore 5, 2) := by decide +kernel
theorem dX12_wrongedBy_52 : decode cX12_wrongedBy 52 = .ok (.iload 5, 2) := by decide +kernel
theorem dX12_wrongedBy_54 : decode cX12_wrongedBy 54 = .ok (.iconst 1, 1) := by decide +kernel
theorem dX12_wrongedBy_55 : decode cX12_wrongedBy 55 = .ok (.aload_n 0, 1) := by decide +kernel
theorem dX12_wrongedBy_56 : decode cX12_wrongedBy 56 = .ok (.getfield 52, 3) := by decide +kernel
theorem dX12_wrongedBy_59 : decode cX12_wrongedBy 59 = .ok (.iconst 3, 1) := by decide +kernel
theorem dX12_wrongedBy_60 : decode cX12_wrongedBy 60 = .ok (.iload_n 1, 1) := by decide +kernel
theorem dX12_wrongedBy_61 : decode cX12_wrongedBy 61 = .ok (.imul, 1) := by decide +kernel
theorem dX12_wrongedBy_62 : decode cX12_wrongedBy 62 = .ok (.iconst 1, 1) := by decide +kernel
theorem dX12_wrongedBy_63 : decode cX12_wrongedBy 63 = .ok (.iadd, 1) := by decide +kernel
theorem dX12_wrongedBy_64 : decode cX12_wrongedBy 64 = .ok (.iaload, 1) := by decide +kernel
theorem dX12_wrongedBy_65 : decode cX12_wrongedBy 65 = .ok (.ishl, 1) := by decide +kernel
theorem dX12_wrongedBy_66 : decode cX12_wrongedBy 66 = .ok (.iconst (-1), 1) := by decide +kernel
theorem dX12_wrongedBy_67 : decode cX12_wrongedBy 67 = .ok (.ixor, 1) := by decide +kernel
theorem dX12_wrongedBy_68 : decode cX12_wrongedBy 68 = .ok (.iand, 1) := by decide +kernel
theorem dX12_wrongedBy_69 : decode cX12_wrongedBy 69 = .ok (.ireturn, 1) := by decide +kernel
set_option maxRecDepth 20000 in
theorem ggX12_wronged_X12_in : GoodIn wsX12_wronged wsX12_in := goodIn_r _ [5] (by decide +kernel) (by decide +kernel)
set_option maxRecDepth 20000 in
theorem gX12_wronged_X12_in : GoodIn wsX12_wronged (va_wsS RX12 97 yX12_in wsX12_in) := goodIn_app (goodIn_of _ (by decide +kernel)) ggX12_wronged_X12_in
set_option maxRecDepth 20000 in
theorem ggX12_wronged_X12_wrongedBy : GoodIn wsX12_wronged wsX12_wrongedBy := goodIn_r _ [9, 10, 11, 12, 13, 4, 14, 15, 16, 17, 18, 19, 20, 21, 22, 23, 24, 25, 26, 27, 28, 29, 30, 31, 32, 33, 34, 35, 36, 37, 38, 39, 40, 41, 42, 43, 44, 45, 46, 47, 48, 49, 50, 51, 52, 53, 54, 55, 56] (by decide +kernel) (by decide +kernel)
set_option maxRecDepth 20000 in
theorem gX12_wronged_X12_wrongedBy : GoodIn wsX12_wronged (wsV RX12 220 RX12 yX12_wrongedBy wsX12_wrongedBy) := goodIn_app (goodIn_of _ (by decide +kernel)) ggX12_wronged_X12_wrongedBy
theorem dX12_wronged_0 : decode cX12_wronged 0 = .ok (.iload_n 1, 1) := by decide +kernel
theorem dX12_wronged_1 : decode cX12_wronged 1 = .ok (.i2l, 1) := by decide +kernel
theorem dX12_wronged_2 : decode cX12_wronged 2 = .ok (.lconst 0, 1) := by decide +kernel
theorem dX12_wronged_3 : decode cX12_wronged 3 = .ok (.aload_n 0, 1) := by decide +kernel
theorem dX12_wronged_4 : decode cX12_wronged 4 = .ok (.getfield 217, 3) := by decide +kernel
theorem dX12_wronged_7 : decode cX12_wronged 7 = .ok (.iconst 1, 1) := by decide +kernel
theorem dX12_wronged_8 : decode cX12_wronged 8 = .ok (.isub, 1) := by decide +kernel
theorem dX12_wronged_9 : decode cX12_wronged 9 = .ok (.i2l, 1) := by decide +kernel
theorem dX12_wronged_10 : decode cX12_wronged 10 = .ok (.invokestatic 97, 3) := by decide +kernel
theorem dX12_wronged_13 : decode cX12_wronged 13 = .ok (.ifCond .eq 11, 3) := by decide +kernel
theorem dX12_wronged_16 : decode cX12_wronged 16 = .ok (.aload_n 0, 1) := by decide +kernel
theorem dX12_wronged_17 : decode cX12_wronged 17 = .ok (.iload_n 1, 1) := by decide +kernel
theorem dX12_wronged_18 : decode cX12_wronged 18 = .ok (.invokevirtual 220, 3) := by decide +kernel
theorem dX12_wronged_21 : decode cX12_wronged 21 = .ok (.goto 4, 3) := by decide +kernel
theorem dX12_wronged_24 : decode cX12_wronged 24 = .ok (.iconst (-1), 1) := by decide +kernel
theorem dX12_wronged_25 : decode cX12_wronged 25 = .ok (.ireturn, 1) := by decide +kernel
set_option maxRecDepth 20000 in
theorem ggX12_beginShares_X12_isHeir : GoodIn wsX12_beginShares wsX12_isHeir := goodIn_r _ [10, 11, 12, 13, 14, 15, 9, 16, 17, 18, 19, 20, 21, 22, 23, 24, 25, 26, 27, 28, 29, 30, 31, 32, 33, 34, 35, 36, 37, 38, 39, 40, 41, 42, 43, 44, 45, 46, 47, 48, 49, 50, 51, 52, 53, 54, 55, 56] (by decide +kernel) (by decide +kernel)
set_option maxRecDepth 20000 in
theorem gX12_beginShares_X12_isHeir : GoodIn wsX12_beginShares (wsV RX12 226 RX12 yX12_isHeir wsX12_isHeir) := goodIn_app (goodIn_of _ (by decide +kernel)) ggX12_beginShares_X12_isHeir
theorem dX12_beginShares_0 : decode cX12_beginShares 0 = .ok (.aload_n 0, 1) := by decide +kernel
theorem dX12_beginShares_1 : decode cX12_beginShares 1 = .ok (.iconst 0, 1) := by decide +kernel
theorem dX12_beginShares_2 : decode cX12_beginShares 2 = .ok (.putfield 223, 3) := by decide +kernel
theorem dX12_beginShares_5 : decode cX12_beginShares 5 = .ok (.iconst 0, 1) := by decide +kernel
theorem dX12_beginShares_6 : decode cX12_beginShares 6 = .ok (.istore_n 3, 1) := by decide +kernel
theorem dX12_beginShares_7 : decode cX12_beginShares 7 = .ok (.iload_n 3, 1) := by decide +kernel
theorem dX12_beginShares_8 : decode cX12_beginShares 8 = .ok (.aload_n 0, 1) := by decide +kernel
theorem dX12_beginShares_9 : decode cX12_beginShares 9 = .ok (.getfield 175, 3) := by decide +kernel
theorem dX12_beginShares_12 : decode cX12_beginShares 12 = .ok (.if_icmp .ge 33, 3) := by decide +kernel
theorem dX12_beginShares_15 : decode cX12_beginShares 15 = .ok (.aload_n 0, 1) := by decide +kernel
theorem dX12_beginShares_16 : decode cX12_beginShares 16 = .ok (.dup, 1) := by decide +kernel
theorem dX12_beginShares_17 : decode cX12_beginShares 17 = .ok (.getfield 223, 3) := by decide +kernel
theorem dX12_beginShares_20 : decode cX12_beginShares 20 = .ok (.aload_n 0, 1) := by decide +kernel
theorem dX12_beginShares_21 : decode cX12_beginShares 21 = .ok (.iload_n 3, 1) := by decide +kernel
theorem dX12_beginShares_22 : decode cX12_beginShares 22 = .ok (.iload_n 1, 1) := by decide +kernel
theorem dX12_beginShares_23 : decode cX12_beginShares 23 = .ok (.iload_n 2, 1) := by decide +kernel
theorem dX12_beginShares_24 : decode cX12_beginShares 24 = .ok (.invokevirtual 226, 3) := by decide +kernel
theorem dX12_beginShares_27 : decode cX12_beginShares 27 = .ok (.ifCond .eq 7, 3) := by decide +kernel
theorem dX12_beginShares_30 : decode cX12_beginShares 30 = .ok (.iconst 1, 1) := by decide +kernel
theorem dX12_beginShares_31 : decode cX12_beginShares 31 = .ok (.goto 4, 3) := by decide +kernel
theorem dX12_beginShares_34 : decode cX12_beginShares 34 = .ok (.iconst 0, 1) := by decide +kernel
theorem dX12_beginShares_35 : decode cX12_beginShares 35 = .ok (.iadd, 1) := by decide +kernel
theorem dX12_beginShares_36 : decode cX12_beginShares 36 = .ok (.putfield 223, 3) := by decide +kernel
theorem dX12_beginShares_39 : decode cX12_beginShares 39 = .ok (.iinc 3 1, 3) := by decide +kernel
theorem dX12_beginShares_42 : decode cX12_beginShares 42 = .ok (.goto (-35), 3) := by decide +kernel
theorem dX12_beginShares_45 : decode cX12_beginShares 45 = .ok (.aload_n 0, 1) := by decide +kernel
theorem dX12_beginShares_46 : decode cX12_beginShares 46 = .ok (.ldc2_w 229, 3) := by decide +kernel
theorem dX12_beginShares_49 : decode cX12_beginShares 49 = .ok (.putfield 231, 3) := by decide +kernel
theorem dX12_beginShares_52 : decode cX12_beginShares 52 = .ok (.iconst 0, 1) := by decide +kernel
theorem dX12_beginShares_53 : decode cX12_beginShares 53 = .ok (.istore_n 3, 1) := by decide +kernel
theorem dX12_beginShares_54 : decode cX12_beginShares 54 = .ok (.iload_n 3, 1) := by decide +kernel
theorem dX12_beginShares_55 : decode cX12_beginShares 55 = .ok (.aload_n 0, 1) := by decide +kernel
theorem dX12_beginShares_56 : decode cX12_beginShares 56 = .ok (.getfield 175, 3) := by decide +kernel
theorem dX12_beginShares_59 : decode cX12_beginShares 59 = .ok (.if_icmp .ge 53, 3) := by decide +kernel
theorem dX12_beginShares_62 : decode cX12_beginShares 62 = .ok (.aload_n 0, 1) := by decide +kernel
theorem dX12_beginShares_63 : decode cX12_beginShares 63 = .ok (.getfield 79, 3) := by decide +kernel
theorem dX12_beginShares_66 : decode cX12_beginShares 66 = .ok (.iload_n 3, 1) := by decide +kernel
theorem dX12_beginShares_67 : decode cX12_beginShares 67 = .ok (.aload_n 0, 1) := by decide +kernel
theorem dX12_beginShares_68 : decode cX12_beginShares 68 = .ok (.iload_n 3, 1) := by decide +kernel
theorem dX12_beginShares_69 : decode cX12_beginShares 69 = .ok (.iload_n 1, 1) := by decide +kernel
theorem dX12_beginShares_70 : decode cX12_beginShares 70 = .ok (.iload_n 2, 1) := by decide +kernel
theorem dX12_beginShares_71 : decode cX12_beginShares 71 = .ok (.invokevirtual 226, 3) := by decide +kernel
theorem dX12_beginShares_74 : decode cX12_beginShares 74 = .ok (.ifCond .eq 15, 3) := by decide +kernel
theorem dX12_beginShares_77 : decode cX12_beginShares 77 = .ok (.ldc2_w 229, 3) := by decide +kernel
theorem dX12_beginShares_80 : decode cX12_beginShares 80 = .ok (.aload_n 0, 1) := by decide +kernel
theorem dX12_beginShares_81 : decode cX12_beginShares 81 = .ok (.getfield 223, 3) := by decide +kernel
theorem dX12_beginShares_84 : decode cX12_beginShares 84 = .ok (.i2l, 1) := by decide +kernel
theorem dX12_beginShares_85 : decode cX12_beginShares 85 = .ok (.ldiv, 1) := by decide +kernel
theorem dX12_beginShares_86 : decode cX12_beginShares 86 = .ok (.goto 4, 3) := by decide +kernel
theorem dX12_beginShares_89 : decode cX12_beginShares 89 = .ok (.lconst 0, 1) := by decide +kernel
theorem dX12_beginShares_90 : decode cX12_beginShares 90 = .ok (.lastore, 1) := by decide +kernel
theorem dX12_beginShares_91 : decode cX12_beginShares 91 = .ok (.aload_n 0, 1) := by decide +kernel
theorem dX12_beginShares_92 : decode cX12_beginShares 92 = .ok (.dup, 1) := by decide +kernel
theorem dX12_beginShares_93 : decode cX12_beginShares 93 = .ok (.getfield 231, 3) := by decide +kernel
theorem dX12_beginShares_96 : decode cX12_beginShares 96 = .ok (.aload_n 0, 1) := by decide +kernel
theorem dX12_beginShares_97 : decode cX12_beginShares 97 = .ok (.getfield 79, 3) := by decide +kernel
theorem dX12_beginShares_100 : decode cX12_beginShares 100 = .ok (.iload_n 3, 1) := by decide +kernel
theorem dX12_beginShares_101 : decode cX12_beginShares 101 = .ok (.laload, 1) := by decide +kernel
theorem dX12_beginShares_102 : decode cX12_beginShares 102 = .ok (.lsub, 1) := by decide +kernel
theorem dX12_beginShares_103 : decode cX12_beginShares 103 = .ok (.putfield 231, 3) := by decide +kernel
theorem dX12_beginShares_106 : decode cX12_beginShares 106 = .ok (.iinc 3 1, 3) := by decide +kernel
theorem dX12_beginShares_109 : decode cX12_beginShares 109 = .ok (.goto (-55), 3) := by decide +kernel
theorem dX12_beginShares_112 : decode cX12_beginShares 112 = .ok (.return_, 1) := by decide +kernel
set_option maxRecDepth 20000 in
theorem ggX12_isHeir_X12_has : GoodIn wsX12_isHeir wsX12_has := goodIn_r _ [7] (by decide +kernel) (by decide +kernel)
set_option maxRecDepth 20000 in
theorem gX12_isHeir_X12_has : GoodIn wsX12_isHeir (va_wsS RX12 147 yX12_has wsX12_has) := goodIn_app (goodIn_of _ (by decide +kernel)) ggX12_isHeir_X12_has
theorem dX12_isHeir_0 : decode cX12_isHeir 0 = .ok (.aload_n 0, 1) := by decide +kernel
theorem dX12_isHeir_1 : decode cX12_isHeir 1 = .ok (.getfield 37, 3) := by decide +kernel
theorem dX12_isHeir_4 : decode cX12_isHeir 4 = .ok (.iload_n 1, 1) := by decide +kernel
theorem dX12_isHeir_5 : decode cX12_isHeir 5 = .ok (.iaload, 1) := by decide +kernel
theorem dX12_isHeir_6 : decode cX12_isHeir 6 = .ok (.iload_n 2, 1) := by decide +kernel
theorem dX12_isHeir_7 : decode cX12_isHeir 7 = .ok (.invokestatic 147, 3) := by decide +kernel
theorem dX12_isHeir_10 : decode cX12_isHeir 10 = .ok (.ifCond .eq 27, 3) := by decide +kernel
theorem dX12_isHeir_13 : decode cX12_isHeir 13 = .ok (.aload_n 0, 1) := by decide +kernel
theorem dX12_isHeir_14 : decode cX12_isHeir 14 = .ok (.getfield 28, 3) := by decide +kernel
theorem dX12_isHeir_17 : decode cX12_isHeir 17 = .ok (.iload_n 1, 1) := by decide +kernel
theorem dX12_isHeir_18 : decode cX12_isHeir 18 = .ok (.iaload, 1) := by decide +kernel
theorem dX12_isHeir_19 : decode cX12_isHeir 19 = .ok (.iload_n 3, 1) := by decide +kernel
theorem dX12_isHeir_20 : decode cX12_isHeir 20 = .ok (.if_icmp .gt 17, 3) := by decide +kernel
theorem dX12_isHeir_23 : decode cX12_isHeir 23 = .ok (.aload_n 0, 1) := by decide +kernel
theorem dX12_isHeir_24 : decode cX12_isHeir 24 = .ok (.getfield 34, 3) := by decide +kernel
theorem dX12_isHeir_27 : decode cX12_isHeir 27 = .ok (.iload_n 1, 1) := by decide +kernel
theorem dX12_isHeir_28 : decode cX12_isHeir 28 = .ok (.iaload, 1) := by decide +kernel
theorem dX12_isHeir_29 : decode cX12_isHeir 29 = .ok (.iload_n 3, 1) := by decide +kernel
theorem dX12_isHeir_30 : decode cX12_isHeir 30 = .ok (.if_icmp .le 7, 3) := by decide +kernel
theorem dX12_isHeir_33 : decode cX12_isHeir 33 = .ok (.iconst 1, 1) := by decide +kernel
theorem dX12_isHeir_34 : decode cX12_isHeir 34 = .ok (.goto 4, 3) := by decide +kernel
theorem dX12_isHeir_37 : decode cX12_isHeir 37 = .ok (.iconst 0, 1) := by decide +kernel
theorem dX12_isHeir_38 : decode cX12_isHeir 38 = .ok (.ireturn, 1) := by decide +kernel
theorem dX12_isChild_0 : decode cX12_isChild 0 = .ok (.aload_n 0, 1) := by decide +kernel
theorem dX12_isChild_1 : decode cX12_isChild 1 = .ok (.getfield 31, 3) := by decide +kernel
theorem dX12_isChild_4 : decode cX12_isChild 4 = .ok (.iconst 2, 1) := by decide +kernel
theorem dX12_isChild_5 : decode cX12_isChild 5 = .ok (.iload_n 1, 1) := by decide +kernel
theorem dX12_isChild_6 : decode cX12_isChild 6 = .ok (.imul, 1) := by decide +kernel
theorem dX12_isChild_7 : decode cX12_isChild 7 = .ok (.iaload, 1) := by decide +kernel
theorem dX12_isChild_8 : decode cX12_isChild 8 = .ok (.iload_n 2, 1) := by decide +kernel
theorem dX12_isChild_9 : decode cX12_isChild 9 = .ok (.if_icmp .eq 17, 3) := by decide +kernel
theorem dX12_isChild_12 : decode cX12_isChild 12 = .ok (.aload_n 0, 1) := by decide +kernel
theorem dX12_isChild_13 : decode cX12_isChild 13 = .ok (.getfield 31, 3) := by decide +kernel
theorem dX12_isChild_16 : decode cX12_isChild 16 = .ok (.iconst 2, 1) := by decide +kernel
theorem dX12_isChild_17 : decode cX12_isChild 17 = .ok (.iload_n 1, 1) := by decide +kernel
theorem dX12_isChild_18 : decode cX12_isChild 18 = .ok (.imul, 1) := by decide +kernel
theorem dX12_isChild_19 : decode cX12_isChild 19 = .ok (.iconst 1, 1) := by decide +kernel
theorem dX12_isChild_20 : decode cX12_isChild 20 = .ok (.iadd, 1) := by decide +kernel
theorem dX12_isChild_21 : decode cX12_isChild 21 = .ok (.iaload, 1) := by decide +kernel
theorem dX12_isChild_22 : decode cX12_isChild 22 = .ok (.iload_n 2, 1) := by decide +kernel
theorem dX12_isChild_23 : decode cX12_isChild 23 = .ok (.if_icmp .ne 17, 3) := by decide +kernel
theorem dX12_isChild_26 : decode cX12_isChild 26 = .ok (.aload_n 0, 1) := by decide +kernel
theorem dX12_isChild_27 : decode cX12_isChild 27 = .ok (.getfield 28, 3) := by decide +kernel
theorem dX12_isChild_30 : decode cX12_isChild 30 = .ok (.iload_n 1, 1) := by decide +kernel
theorem dX12_isChild_31 : decode cX12_isChild 31 = .ok (.iaload, 1) := by decide +kernel
theorem dX12_isChild_32 : decode cX12_isChild 32 = .ok (.iload_n 3, 1) := by decide +kernel
theorem dX12_isChild_33 : decode cX12_isChild 33 = .ok (.if_icmp .gt 7, 3) := by decide +kernel
theorem dX12_isChild_36 : decode cX12_isChild 36 = .ok (.iconst 1, 1) := by decide +kernel
theorem dX12_isChild_37 : decode cX12_isChild 37 = .ok (.goto 4, 3) := by decide +kernel
theorem dX12_isChild_40 : decode cX12_isChild 40 = .ok (.iconst 0, 1) := by decide +kernel
theorem dX12_isChild_41 : decode cX12_isChild 41 = .ok (.ireturn, 1) := by decide +kernel
set_option maxRecDepth 20000 in
theorem ggX12_handOn_X12_isChild : GoodIn wsX12_handOn wsX12_isChild := goodIn_r _ [12, 13, 14, 15, 16, 17, 18, 19, 20, 21, 22, 23, 24, 25, 26, 27, 28, 29, 30, 31, 32, 33, 34, 35, 36, 37, 38, 39, 40, 41, 42, 43, 44, 45, 46, 47, 48, 49, 50, 51, 52, 53, 54] (by decide +kernel) (by decide +kernel)
set_option maxRecDepth 20000 in
theorem gX12_handOn_X12_isChild : GoodIn wsX12_handOn (wsV RX12 238 RX12 yX12_isChild wsX12_isChild) := goodIn_app (goodIn_of _ (by decide +kernel)) ggX12_handOn_X12_isChild
theorem dX12_handOn_0 : decode cX12_handOn 0 = .ok (.aload_n 0, 1) := by decide +kernel
theorem dX12_handOn_1 : decode cX12_handOn 1 = .ok (.getfield 83, 3) := by decide +kernel
theorem dX12_handOn_4 : decode cX12_handOn 4 = .ok (.iconst 0, 1) := by decide +kernel
theorem dX12_handOn_5 : decode cX12_handOn 5 = .ok (.iload_n 1, 1) := by decide +kernel
theorem dX12_handOn_6 : decode cX12_handOn 6 = .ok (.iastore, 1) := by decide +kernel
theorem dX12_handOn_7 : decode cX12_handOn 7 = .ok (.aload_n 0, 1) := by decide +kernel
theorem dX12_handOn_8 : decode cX12_handOn 8 = .ok (.getfield 86, 3) := by decide +kernel
theorem dX12_handOn_11 : decode cX12_handOn 11 = .ok (.iconst 0, 1) := by decide +kernel
theorem dX12_handOn_12 : decode cX12_handOn 12 = .ok (.aload_n 0, 1) := by decide +kernel
theorem dX12_handOn_13 : decode cX12_handOn 13 = .ok (.getfield 79, 3) := by decide +kernel
theorem dX12_handOn_16 : decode cX12_handOn 16 = .ok (.iload_n 1, 1) := by decide +kernel
theorem dX12_handOn_17 : decode cX12_handOn 17 = .ok (.laload, 1) := by decide +kernel
theorem dX12_handOn_18 : decode cX12_handOn 18 = .ok (.lastore, 1) := by decide +kernel
theorem dX12_handOn_19 : decode cX12_handOn 19 = .ok (.aload_n 0, 1) := by decide +kernel
theorem dX12_handOn_20 : decode cX12_handOn 20 = .ok (.iconst 1, 1) := by decide +kernel
theorem dX12_handOn_21 : decode cX12_handOn 21 = .ok (.putfield 235, 3) := by decide +kernel
theorem dX12_handOn_24 : decode cX12_handOn 24 = .ok (.aload_n 0, 1) := by decide +kernel
theorem dX12_handOn_25 : decode cX12_handOn 25 = .ok (.getfield 79, 3) := by decide +kernel
theorem dX12_handOn_28 : decode cX12_handOn 28 = .ok (.iload_n 1, 1) := by decide +kernel
theorem dX12_handOn_29 : decode cX12_handOn 29 = .ok (.lconst 0, 1) := by decide +kernel
theorem dX12_handOn_30 : decode cX12_handOn 30 = .ok (.lastore, 1) := by decide +kernel
theorem dX12_handOn_31 : decode cX12_handOn 31 = .ok (.aload_n 0, 1) := by decide +kernel
theorem dX12_handOn_32 : decode cX12_handOn 32 = .ok (.getfield 235, 3) := by decide +kernel
theorem dX12_handOn_35 : decode cX12_handOn 35 = .ok (.ifCond .le 208, 3) := by decide +kernel
theorem dX12_handOn_38 : decode cX12_handOn 38 = .ok (.aload_n 0, 1) := by decide +kernel
theorem dX12_handOn_39 : decode cX12_handOn 39 = .ok (.dup, 1) := by decide +kernel
theorem dX12_handOn_40 : decode cX12_handOn 40 = .ok (.getfield 235, 3) := by decide +kernel
theorem dX12_handOn_43 : decode cX12_handOn 43 = .ok (.iconst 1, 1) := by decide +kernel
theorem dX12_handOn_44 : decode cX12_handOn 44 = .ok (.isub, 1) := by decide +kernel
theorem dX12_handOn_45 : decode cX12_handOn 45 = .ok (.putfield 235, 3) := by decide +kernel
theorem dX12_handOn_48 : decode cX12_handOn 48 = .ok (.aload_n 0, 1) := by decide +kernel
theorem dX12_handOn_49 : decode cX12_handOn 49 = .ok (.getfield 83, 3) := by decide +kernel
theorem dX12_handOn_52 : decode cX12_handOn 52 = .ok (.aload_n 0, 1) := by decide +kernel
theorem dX12_handOn_53 : decode cX12_handOn 53 = .ok (.getfield 235, 3) := by decide +kernel
theorem dX12_handOn_56 : decode cX12_handOn 56 = .ok (.iaload, 1) := by decide +kernel
theorem dX12_handOn_57 : decode cX12_handOn 57 = .ok (.istore_n 3, 1) := by decide +kernel
theorem dX12_handOn_58 : decode cX12_handOn 58 = .ok (.aload_n 0, 1) := by decide +kernel
theorem dX12_handOn_59 : decode cX12_handOn 59 = .ok (.getfield 86, 3) := by decide +kernel
theorem dX12_handOn_62 : decode cX12_handOn 62 = .ok (.aload_n 0, 1) := by decide +kernel
theorem dX12_handOn_63 : decode cX12_handOn 63 = .ok (.getfield 235, 3) := by decide +kernel
theorem dX12_handOn_66 : decode cX12_handOn 66 = .ok (.laload, 1) := by decide +kernel
theorem dX12_handOn_67 : decode cX12_handOn 67 = .ok (.lstore 4, 2) := by decide +kernel
theorem dX12_handOn_69 : decode cX12_handOn 69 = .ok (.iconst 0, 1) := by decide +kernel
theorem dX12_handOn_70 : decode cX12_handOn 70 = .ok (.istore 6, 2) := by decide +kernel
theorem dX12_handOn_72 : decode cX12_handOn 72 = .ok (.iconst 0, 1) := by decide +kernel
theorem dX12_handOn_73 : decode cX12_handOn 73 = .ok (.istore 7, 2) := by decide +kernel
theorem dX12_handOn_75 : decode cX12_handOn 75 = .ok (.iload 7, 2) := by decide +kernel
theorem dX12_handOn_77 : decode cX12_handOn 77 = .ok (.aload_n 0, 1) := by decide +kernel
theorem dX12_handOn_78 : decode cX12_handOn 78 = .ok (.getfield 175, 3) := by decide +kernel
theorem dX12_handOn_81 : decode cX12_handOn 81 = .ok (.if_icmp .ge 30, 3) := by decide +kernel
theorem dX12_handOn_84 : decode cX12_handOn 84 = .ok (.iload 6, 2) := by decide +kernel
theorem dX12_handOn_86 : decode cX12_handOn 86 = .ok (.aload_n 0, 1) := by decide +kernel
theorem dX12_handOn_87 : decode cX12_handOn 87 = .ok (.iload 7, 2) := by decide +kernel
theorem dX12_handOn_89 : decode cX12_handOn 89 = .ok (.iload_n 3, 1) := by decide +kernel
theorem dX12_handOn_90 : decode cX12_handOn 90 = .ok (.iload_n 2, 1) := by decide +kernel
theorem dX12_handOn_91 : decode cX12_handOn 91 = .ok (.invokevirtual 238, 3) := by decide +kernel
theorem dX12_handOn_94 : decode cX12_handOn 94 = .ok (.ifCond .eq 7, 3) := by decide +kernel
theorem dX12_handOn_97 : decode cX12_handOn 97 = .ok (.iconst 1, 1) := by decide +kernel
theorem dX12_handOn_98 : decode cX12_handOn 98 = .ok (.goto 4, 3) := by decide +kernel
theorem dX12_handOn_101 : decode cX12_handOn 101 = .ok (.iconst 0, 1) := by decide +kernel
theorem dX12_handOn_102 : decode cX12_handOn 102 = .ok (.iadd, 1) := by decide +kernel
theorem dX12_handOn_103 : decode cX12_handOn 103 = .ok (.istore 6, 2) := by decide +kernel
theorem dX12_handOn_105 : decode cX12_handOn 105 = .ok (.iinc 7 1, 3) := by decide +kernel
theorem dX12_handOn_108 : decode cX12_handOn 108 = .ok (.goto (-33), 3) := by decide +kernel
theorem dX12_handOn_111 : decode cX12_handOn 111 = .ok (.iload 6, 2) := by decide +kernel
theorem dX12_handOn_113 : decode cX12_handOn 113 = .ok (.ifCond .ne 7, 3) := by decide +kernel
theorem dX12_handOn_116 : decode cX12_handOn 116 = .ok (.lconst 0, 1) := by decide +kernel
theorem dX12_handOn_117 : decode cX12_handOn 117 = .ok (.goto 9, 3) := by decide +kernel
theorem dX12_handOn_120 : decode cX12_handOn 120 = .ok (.lload 4, 2) := by decide +kernel
theorem dX12_handOn_122 : decode cX12_handOn 122 = .ok (.iload 6, 2) := by decide +kernel
theorem dX12_handOn_124 : decode cX12_handOn 124 = .ok (.i2l, 1) := by decide +kernel
theorem dX12_handOn_125 : decode cX12_handOn 125 = .ok (.ldiv, 1) := by decide +kernel
theorem dX12_handOn_126 : decode cX12_handOn 126 = .ok (.lstore 7, 2) := by decide +kernel
theorem dX12_handOn_128 : decode cX12_handOn 128 = .ok (.aload_n 0, 1) := by decide +kernel
theorem dX12_handOn_129 : decode cX12_handOn 129 = .ok (.dup, 1) := by decide +kernel
theorem dX12_handOn_130 : decode cX12_handOn 130 = .ok (.getfield 231, 3) := by decide +kernel
theorem dX12_handOn_133 : decode cX12_handOn 133 = .ok (.lload 4, 2) := by decide +kernel
theorem dX12_handOn_135 : decode cX12_handOn 135 = .ok (.lload 7, 2) := by decide +kernel
theorem dX12_handOn_137 : decode cX12_handOn 137 = .ok (.iload 6, 2) := by decide +kernel
theorem dX12_handOn_139 : decode cX12_handOn 139 = .ok (.i2l, 1) := by decide +kernel
theorem dX12_handOn_140 : decode cX12_handOn 140 = .ok (.lmul, 1) := by decide +kernel
theorem dX12_handOn_141 : decode cX12_handOn 141 = .ok (.lsub, 1) := by decide +kernel
theorem dX12_handOn_142 : decode cX12_handOn 142 = .ok (.ladd, 1) := by decide +kernel
theorem dX12_handOn_143 : decode cX12_handOn 143 = .ok (.putfield 231, 3) := by decide +kernel
theorem dX12_handOn_146 : decode cX12_handOn 146 = .ok (.iconst 0, 1) := by decide +kernel
theorem dX12_handOn_147 : decode cX12_handOn 147 = .ok (.istore 9, 2) := by decide +kernel
theorem dX12_handOn_149 : decode cX12_handOn 149 = .ok (.iload 9, 2) := by decide +kernel
theorem dX12_handOn_151 : decode cX12_handOn 151 = .ok (.aload_n 0, 1) := by decide +kernel
theorem dX12_handOn_152 : decode cX12_handOn 152 = .ok (.getfield 175, 3) := by decide +kernel
theorem dX12_handOn_155 : decode cX12_handOn 155 = .ok (.if_icmp .ge 85, 3) := by decide +kernel
theorem dX12_handOn_158 : decode cX12_handOn 158 = .ok (.lload 7, 2) := by decide +kernel
theorem dX12_handOn_160 : decode cX12_handOn 160 = .ok (.lconst 0, 1) := by decide +kernel
theorem dX12_handOn_161 : decode cX12_handOn 161 = .ok (.lcmp, 1) := by decide +kernel
theorem dX12_handOn_162 : decode cX12_handOn 162 = .ok (.ifCond .le 78, 3) := by decide +kernel
theorem dX12_handOn_165 : decode cX12_handOn 165 = .ok (.aload_n 0, 1) := by decide +kernel
theorem dX12_handOn_166 : decode cX12_handOn 166 = .ok (.iload 9, 2) := by decide +kernel
theorem dX12_handOn_168 : decode cX12_handOn 168 = .ok (.iload_n 3, 1) := by decide +kernel
theorem dX12_handOn_169 : decode cX12_handOn 169 = .ok (.iload_n 2, 1) := by decide +kernel
theorem dX12_handOn_170 : decode cX12_handOn 170 = .ok (.invokevirtual 238, 3) := by decide +kernel
theorem dX12_handOn_173 : decode cX12_handOn 173 = .ok (.ifCond .eq 61, 3) := by decide +kernel
theorem dX12_handOn_176 : decode cX12_handOn 176 = .ok (.aload_n 0, 1) := by decide +kernel
theorem dX12_handOn_177 : decode cX12_handOn 177 = .ok (.getfield 34, 3) := by decide +kernel
theorem dX12_handOn_180 : decode cX12_handOn 180 = .ok (.iload 9, 2) := by decide +kernel
theorem dX12_handOn_182 : decode cX12_handOn 182 = .ok (.iaload, 1) := by decide +kernel
theorem dX12_handOn_183 : decode cX12_handOn 183 = .ok (.iload_n 2, 1) := by decide +kernel
theorem dX12_handOn_184 : decode cX12_handOn 184 = .ok (.if_icmp .gt 38, 3) := by decide +kernel
theorem dX12_handOn_187 : decode cX12_handOn 187 = .ok (.aload_n 0, 1) := by decide +kernel
theorem dX12_handOn_188 : decode cX12_handOn 188 = .ok (.getfield 83, 3) := by decide +kernel
theorem dX12_handOn_191 : decode cX12_handOn 191 = .ok (.aload_n 0, 1) := by decide +kernel
theorem dX12_handOn_192 : decode cX12_handOn 192 = .ok (.getfield 235, 3) := by decide +kernel
theorem dX12_handOn_195 : decode cX12_handOn 195 = .ok (.iload 9, 2) := by decide +kernel
theorem dX12_handOn_197 : decode cX12_handOn 197 = .ok (.iastore, 1) := by decide +kernel
theorem dX12_handOn_198 : decode cX12_handOn 198 = .ok (.aload_n 0, 1) := by decide +kernel
theorem dX12_handOn_199 : decode cX12_handOn 199 = .ok (.getfield 86, 3) := by decide +kernel
theorem dX12_handOn_202 : decode cX12_handOn 202 = .ok (.aload_n 0, 1) := by decide +kernel
theorem dX12_handOn_203 : decode cX12_handOn 203 = .ok (.getfield 235, 3) := by decide +kernel
theorem dX12_handOn_206 : decode cX12_handOn 206 = .ok (.lload 7, 2) := by decide +kernel
theorem dX12_handOn_208 : decode cX12_handOn 208 = .ok (.lastore, 1) := by decide +kernel
theorem dX12_handOn_209 : decode cX12_handOn 209 = .ok (.aload_n 0, 1) := by decide +kernel
theorem dX12_handOn_210 : decode cX12_handOn 210 = .ok (.dup, 1) := by decide +kernel
theorem dX12_handOn_211 : decode cX12_handOn 211 = .ok (.getfield 235, 3) := by decide +kernel
theorem dX12_handOn_214 : decode cX12_handOn 214 = .ok (.iconst 1, 1) := by decide +kernel
theorem dX12_handOn_215 : decode cX12_handOn 215 = .ok (.iadd, 1) := by decide +kernel
theorem dX12_handOn_216 : decode cX12_handOn 216 = .ok (.putfield 235, 3) := by decide +kernel
theorem dX12_handOn_219 : decode cX12_handOn 219 = .ok (.goto 15, 3) := by decide +kernel
theorem dX12_handOn_222 : decode cX12_handOn 222 = .ok (.aload_n 0, 1) := by decide +kernel
theorem dX12_handOn_223 : decode cX12_handOn 223 = .ok (.getfield 79, 3) := by decide +kernel
theorem dX12_handOn_226 : decode cX12_handOn 226 = .ok (.iload 9, 2) := by decide +kernel
theorem dX12_handOn_228 : decode cX12_handOn 228 = .ok (.dup2, 1) := by decide +kernel
theorem dX12_handOn_229 : decode cX12_handOn 229 = .ok (.laload, 1) := by decide +kernel
theorem dX12_handOn_230 : decode cX12_handOn 230 = .ok (.lload 7, 2) := by decide +kernel
