theorem dX7_comes_39 : decode cX7_comes 39 = .ok (.ireturn, 1) := by decide +kernel
theorem dX7_comes_40 : decode cX7_comes 40 = .ok (.aload_n 0, 1) := by decide +kernel
theorem dX7_comes_41 : decode cX7_comes 41 = .ok (.aload_n 0, 1) := by decide +kernel
theorem dX7_comes_42 : decode cX7_comes 42 = .ok (.getfield 25, 3) := by decide +kernel
theorem dX7_comes_45 : decode cX7_comes 45 = .ok (.iload_n 1, 1) := by decide +kernel
theorem dX7_comes_46 : decode cX7_comes 46 = .ok (.invokevirtual 109, 3) := by decide +kernel
theorem dX7_comes_49 : decode cX7_comes 49 = .ok (.ifCond .eq 6, 3) := by decide +kernel
theorem dX7_comes_52 : decode cX7_comes 52 = .ok (.bipush (-3), 2) := by decide +kernel
theorem dX7_comes_54 : decode cX7_comes 54 = .ok (.ireturn, 1) := by decide +kernel
theorem dX7_comes_55 : decode cX7_comes 55 = .ok (.aload_n 0, 1) := by decide +kernel
theorem dX7_comes_56 : decode cX7_comes 56 = .ok (.iload_n 1, 1) := by decide +kernel
theorem dX7_comes_57 : decode cX7_comes 57 = .ok (.iload_n 2, 1) := by decide +kernel
theorem dX7_comes_58 : decode cX7_comes 58 = .ok (.invokevirtual 162, 3) := by decide +kernel
theorem dX7_comes_61 : decode cX7_comes 61 = .ok (.iload_n 3, 1) := by decide +kernel
theorem dX7_comes_62 : decode cX7_comes 62 = .ok (.ifCond .ne 10, 3) := by decide +kernel
theorem dX7_comes_65 : decode cX7_comes 65 = .ok (.aload_n 0, 1) := by decide +kernel
theorem dX7_comes_66 : decode cX7_comes 66 = .ok (.getfield 154, 3) := by decide +kernel
theorem dX7_comes_69 : decode cX7_comes 69 = .ok (.goto 7, 3) := by decide +kernel
theorem dX7_comes_72 : decode cX7_comes 72 = .ok (.aload_n 0, 1) := by decide +kernel
theorem dX7_comes_73 : decode cX7_comes 73 = .ok (.getfield 157, 3) := by decide +kernel
theorem dX7_comes_76 : decode cX7_comes 76 = .ok (.ireturn, 1) := by decide +kernel
set_option maxRecDepth 20000 in
theorem ggX7_isRound_X7_begin : GoodIn wsX7_isRound wsX7_begin := goodIn_r _ [7, 2, 8, 32, 33, 34, 35, 36, 37, 38, 39, 40, 41, 42, 43, 44, 45, 46, 47, 48, 49, 50, 51, 52, 53, 54, 55, 56, 57, 58, 59, 60, 61, 62] (by decide +kernel) (by decide +kernel)
set_option maxRecDepth 20000 in
theorem gX7_isRound_X7_begin : GoodIn wsX7_isRound (wsV RX7 135 RX7 yX7_begin wsX7_begin) := goodIn_app (goodIn_of _ (by decide +kernel)) ggX7_isRound_X7_begin
set_option maxRecDepth 20000 in
theorem ggX7_isRound_X7_power : GoodIn wsX7_isRound wsX7_power := goodIn_r _ [11] (by decide +kernel) (by decide +kernel)
set_option maxRecDepth 20000 in
theorem gX7_isRound_X7_power : GoodIn wsX7_isRound (va_wsS RX7 138 yX7_power wsX7_power) := goodIn_app (goodIn_of _ (by decide +kernel)) ggX7_isRound_X7_power
set_option maxRecDepth 20000 in
theorem ggX7_isRound_X7_in : GoodIn wsX7_isRound wsX7_in := goodIn_r _ [14] (by decide +kernel) (by decide +kernel)
set_option maxRecDepth 20000 in
theorem gX7_isRound_X7_in : GoodIn wsX7_isRound (va_wsS RX7 57 yX7_in wsX7_in) := goodIn_app (goodIn_of _ (by decide +kernel)) ggX7_isRound_X7_in
set_option maxRecDepth 20000 in
theorem ggX7_isRound_X7_goHand : GoodIn wsX7_isRound wsX7_goHand := goodIn_r _ [18, 19, 20, 21, 22, 6, 23, 24, 25, 26, 27, 28, 29, 30, 31, 32, 33, 34, 35, 36, 37, 38, 39, 40, 41, 42, 43, 44, 45, 46, 47, 48, 49, 50, 51, 52, 53, 54, 55, 56, 57, 58, 59, 60, 61, 62] (by decide +kernel) (by decide +kernel)
set_option maxRecDepth 20000 in
theorem gX7_isRound_X7_goHand : GoodIn wsX7_isRound (wsV RX7 141 RX7 yX7_goHand wsX7_goHand) := goodIn_app (goodIn_of _ (by decide +kernel)) ggX7_isRound_X7_goHand
theorem dX7_isRound_0 : decode cX7_isRound 0 = .ok (.aload_n 0, 1) := by decide +kernel
theorem dX7_isRound_1 : decode cX7_isRound 1 = .ok (.invokevirtual 135, 3) := by decide +kernel
theorem dX7_isRound_4 : decode cX7_isRound 4 = .ok (.iconst 0, 1) := by decide +kernel
theorem dX7_isRound_5 : decode cX7_isRound 5 = .ok (.istore_n 3, 1) := by decide +kernel
theorem dX7_isRound_6 : decode cX7_isRound 6 = .ok (.bipush (-9), 2) := by decide +kernel
theorem dX7_isRound_8 : decode cX7_isRound 8 = .ok (.istore 4, 2) := by decide +kernel
theorem dX7_isRound_10 : decode cX7_isRound 10 = .ok (.iconst 1, 1) := by decide +kernel
theorem dX7_isRound_11 : decode cX7_isRound 11 = .ok (.istore 5, 2) := by decide +kernel
theorem dX7_isRound_13 : decode cX7_isRound 13 = .ok (.aload_n 0, 1) := by decide +kernel
theorem dX7_isRound_14 : decode cX7_isRound 14 = .ok (.getfield 54, 3) := by decide +kernel
theorem dX7_isRound_17 : decode cX7_isRound 17 = .ok (.iconst 1, 1) := by decide +kernel
theorem dX7_isRound_18 : decode cX7_isRound 18 = .ok (.isub, 1) := by decide +kernel
theorem dX7_isRound_19 : decode cX7_isRound 19 = .ok (.istore 6, 2) := by decide +kernel
theorem dX7_isRound_21 : decode cX7_isRound 21 = .ok (.iload 6, 2) := by decide +kernel
theorem dX7_isRound_23 : decode cX7_isRound 23 = .ok (.ifCond .lt 106, 3) := by decide +kernel
theorem dX7_isRound_26 : decode cX7_isRound 26 = .ok (.iload 5, 2) := by decide +kernel
theorem dX7_isRound_28 : decode cX7_isRound 28 = .ok (.ifCond .eq 101, 3) := by decide +kernel
theorem dX7_isRound_31 : decode cX7_isRound 31 = .ok (.iload_n 2, 1) := by decide +kernel
theorem dX7_isRound_32 : decode cX7_isRound 32 = .ok (.bipush 10, 2) := by decide +kernel
theorem dX7_isRound_34 : decode cX7_isRound 34 = .ok (.iload 6, 2) := by decide +kernel
theorem dX7_isRound_36 : decode cX7_isRound 36 = .ok (.invokestatic 138, 3) := by decide +kernel
theorem dX7_isRound_39 : decode cX7_isRound 39 = .ok (.idiv, 1) := by decide +kernel
theorem dX7_isRound_40 : decode cX7_isRound 40 = .ok (.bipush 10, 2) := by decide +kernel
theorem dX7_isRound_42 : decode cX7_isRound 42 = .ok (.irem, 1) := by decide +kernel
theorem dX7_isRound_43 : decode cX7_isRound 43 = .ok (.iconst 1, 1) := by decide +kernel
theorem dX7_isRound_44 : decode cX7_isRound 44 = .ok (.isub, 1) := by decide +kernel
theorem dX7_isRound_45 : decode cX7_isRound 45 = .ok (.istore 7, 2) := by decide +kernel
theorem dX7_isRound_47 : decode cX7_isRound 47 = .ok (.iload 7, 2) := by decide +kernel
theorem dX7_isRound_49 : decode cX7_isRound 49 = .ok (.i2l, 1) := by decide +kernel
theorem dX7_isRound_50 : decode cX7_isRound 50 = .ok (.lconst 0, 1) := by decide +kernel
theorem dX7_isRound_51 : decode cX7_isRound 51 = .ok (.aload_n 0, 1) := by decide +kernel
theorem dX7_isRound_52 : decode cX7_isRound 52 = .ok (.getfield 54, 3) := by decide +kernel
theorem dX7_isRound_55 : decode cX7_isRound 55 = .ok (.iconst 1, 1) := by decide +kernel
theorem dX7_isRound_56 : decode cX7_isRound 56 = .ok (.isub, 1) := by decide +kernel
theorem dX7_isRound_57 : decode cX7_isRound 57 = .ok (.i2l, 1) := by decide +kernel
theorem dX7_isRound_58 : decode cX7_isRound 58 = .ok (.invokestatic 57, 3) := by decide +kernel
theorem dX7_isRound_61 : decode cX7_isRound 61 = .ok (.ifCond .eq 16, 3) := by decide +kernel
theorem dX7_isRound_64 : decode cX7_isRound 64 = .ok (.iload_n 3, 1) := by decide +kernel
theorem dX7_isRound_65 : decode cX7_isRound 65 = .ok (.iload 7, 2) := by decide +kernel
theorem dX7_isRound_67 : decode cX7_isRound 67 = .ok (.ishr, 1) := by decide +kernel
theorem dX7_isRound_68 : decode cX7_isRound 68 = .ok (.iconst 1, 1) := by decide +kernel
theorem dX7_isRound_69 : decode cX7_isRound 69 = .ok (.iand, 1) := by decide +kernel
theorem dX7_isRound_70 : decode cX7_isRound 70 = .ok (.ifCond .ne 7, 3) := by decide +kernel
theorem dX7_isRound_73 : decode cX7_isRound 73 = .ok (.iconst 1, 1) := by decide +kernel
theorem dX7_isRound_74 : decode cX7_isRound 74 = .ok (.goto 4, 3) := by decide +kernel
theorem dX7_isRound_77 : decode cX7_isRound 77 = .ok (.iconst 0, 1) := by decide +kernel
theorem dX7_isRound_78 : decode cX7_isRound 78 = .ok (.istore 5, 2) := by decide +kernel
theorem dX7_isRound_80 : decode cX7_isRound 80 = .ok (.iload 5, 2) := by decide +kernel
theorem dX7_isRound_82 : decode cX7_isRound 82 = .ok (.ifCond .eq 41, 3) := by decide +kernel
theorem dX7_isRound_85 : decode cX7_isRound 85 = .ok (.iload_n 3, 1) := by decide +kernel
theorem dX7_isRound_86 : decode cX7_isRound 86 = .ok (.iconst 1, 1) := by decide +kernel
theorem dX7_isRound_87 : decode cX7_isRound 87 = .ok (.iload 7, 2) := by decide +kernel
theorem dX7_isRound_89 : decode cX7_isRound 89 = .ok (.ishl, 1) := by decide +kernel
theorem dX7_isRound_90 : decode cX7_isRound 90 = .ok (.ior, 1) := by decide +kernel
theorem dX7_isRound_91 : decode cX7_isRound 91 = .ok (.istore_n 3, 1) := by decide +kernel
theorem dX7_isRound_92 : decode cX7_isRound 92 = .ok (.aload_n 0, 1) := by decide +kernel
theorem dX7_isRound_93 : decode cX7_isRound 93 = .ok (.aload_n 0, 1) := by decide +kernel
theorem dX7_isRound_94 : decode cX7_isRound 94 = .ok (.getfield 28, 3) := by decide +kernel
theorem dX7_isRound_97 : decode cX7_isRound 97 = .ok (.iload_n 1, 1) := by decide +kernel
theorem dX7_isRound_98 : decode cX7_isRound 98 = .ok (.iload 7, 2) := by decide +kernel
theorem dX7_isRound_100 : decode cX7_isRound 100 = .ok (.invokevirtual 141, 3) := by decide +kernel
theorem dX7_isRound_103 : decode cX7_isRound 103 = .ok (.istore 8, 2) := by decide +kernel
theorem dX7_isRound_105 : decode cX7_isRound 105 = .ok (.iload 8, 2) := by decide +kernel
theorem dX7_isRound_107 : decode cX7_isRound 107 = .ok (.iload 4, 2) := by decide +kernel
theorem dX7_isRound_109 : decode cX7_isRound 109 = .ok (.if_icmp .eq 7, 3) := by decide +kernel
theorem dX7_isRound_112 : decode cX7_isRound 112 = .ok (.iconst 1, 1) := by decide +kernel
theorem dX7_isRound_113 : decode cX7_isRound 113 = .ok (.goto 4, 3) := by decide +kernel
theorem dX7_isRound_116 : decode cX7_isRound 116 = .ok (.iconst 0, 1) := by decide +kernel
theorem dX7_isRound_117 : decode cX7_isRound 117 = .ok (.istore 5, 2) := by decide +kernel
theorem dX7_isRound_119 : decode cX7_isRound 119 = .ok (.iload 8, 2) := by decide +kernel
theorem dX7_isRound_121 : decode cX7_isRound 121 = .ok (.istore 4, 2) := by decide +kernel
theorem dX7_isRound_123 : decode cX7_isRound 123 = .ok (.iinc 6 (-1), 3) := by decide +kernel
theorem dX7_isRound_126 : decode cX7_isRound 126 = .ok (.goto (-105), 3) := by decide +kernel
theorem dX7_isRound_129 : decode cX7_isRound 129 = .ok (.iload 5, 2) := by decide +kernel
theorem dX7_isRound_131 : decode cX7_isRound 131 = .ok (.ireturn, 1) := by decide +kernel
set_option maxRecDepth 20000 in
theorem ggX7_findRounds_X7_power : GoodIn wsX7_findRounds wsX7_power := goodIn_r _ [7] (by decide +kernel) (by decide +kernel)
set_option maxRecDepth 20000 in
theorem gX7_findRounds_X7_power : GoodIn wsX7_findRounds (va_wsS RX7 138 yX7_power wsX7_power) := goodIn_app (goodIn_of _ (by decide +kernel)) ggX7_findRounds_X7_power
set_option maxRecDepth 20000 in
theorem ggX7_findRounds_X7_isRound : GoodIn wsX7_findRounds wsX7_isRound := goodIn_r _ [11, 3, 12, 13, 14, 15, 6, 16, 17, 4, 5, 7, 18, 19, 20, 21, 22, 23, 24, 25, 26, 27, 28, 29, 30, 31, 32, 33, 34, 35, 36, 37, 38, 39, 40, 41, 42, 43, 44, 45, 46, 47, 48, 49, 50, 51, 52, 53, 54, 55, 56, 57, 58, 59, 60, 61, 62, 63, 64, 65, 66, 67, 68] (by decide +kernel) (by decide +kernel)
set_option maxRecDepth 20000 in
theorem gX7_findRounds_X7_isRound : GoodIn wsX7_findRounds (wsV RX7 172 RX7 yX7_isRound wsX7_isRound) := goodIn_app (goodIn_of _ (by decide +kernel)) ggX7_findRounds_X7_isRound
theorem dX7_findRounds_0 : decode cX7_findRounds 0 = .ok (.aload_n 0, 1) := by decide +kernel
theorem dX7_findRounds_1 : decode cX7_findRounds 1 = .ok (.iconst 0, 1) := by decide +kernel
theorem dX7_findRounds_2 : decode cX7_findRounds 2 = .ok (.putfield 166, 3) := by decide +kernel
theorem dX7_findRounds_5 : decode cX7_findRounds 5 = .ok (.aload_n 0, 1) := by decide +kernel
theorem dX7_findRounds_6 : decode cX7_findRounds 6 = .ok (.bipush (-9), 2) := by decide +kernel
theorem dX7_findRounds_8 : decode cX7_findRounds 8 = .ok (.putfield 169, 3) := by decide +kernel
theorem dX7_findRounds_11 : decode cX7_findRounds 11 = .ok (.iconst 0, 1) := by decide +kernel
theorem dX7_findRounds_12 : decode cX7_findRounds 12 = .ok (.istore_n 2, 1) := by decide +kernel
theorem dX7_findRounds_13 : decode cX7_findRounds 13 = .ok (.iload_n 2, 1) := by decide +kernel
theorem dX7_findRounds_14 : decode cX7_findRounds 14 = .ok (.bipush 10, 2) := by decide +kernel
theorem dX7_findRounds_16 : decode cX7_findRounds 16 = .ok (.aload_n 0, 1) := by decide +kernel
theorem dX7_findRounds_17 : decode cX7_findRounds 17 = .ok (.getfield 54, 3) := by decide +kernel
theorem dX7_findRounds_20 : decode cX7_findRounds 20 = .ok (.invokestatic 138, 3) := by decide +kernel
theorem dX7_findRounds_23 : decode cX7_findRounds 23 = .ok (.if_icmp .ge 47, 3) := by decide +kernel
theorem dX7_findRounds_26 : decode cX7_findRounds 26 = .ok (.aload_n 0, 1) := by decide +kernel
theorem dX7_findRounds_27 : decode cX7_findRounds 27 = .ok (.iload_n 1, 1) := by decide +kernel
theorem dX7_findRounds_28 : decode cX7_findRounds 28 = .ok (.iload_n 2, 1) := by decide +kernel
theorem dX7_findRounds_29 : decode cX7_findRounds 29 = .ok (.invokevirtual 172, 3) := by decide +kernel
theorem dX7_findRounds_32 : decode cX7_findRounds 32 = .ok (.ifCond .eq 32, 3) := by decide +kernel
theorem dX7_findRounds_35 : decode cX7_findRounds 35 = .ok (.aload_n 0, 1) := by decide +kernel
theorem dX7_findRounds_36 : decode cX7_findRounds 36 = .ok (.aload_n 0, 1) := by decide +kernel
theorem dX7_findRounds_37 : decode cX7_findRounds 37 = .ok (.getfield 166, 3) := by decide +kernel
theorem dX7_findRounds_40 : decode cX7_findRounds 40 = .ok (.ifCond .ne 7, 3) := by decide +kernel
theorem dX7_findRounds_43 : decode cX7_findRounds 43 = .ok (.iload_n 2, 1) := by decide +kernel
theorem dX7_findRounds_44 : decode cX7_findRounds 44 = .ok (.goto 7, 3) := by decide +kernel
theorem dX7_findRounds_47 : decode cX7_findRounds 47 = .ok (.aload_n 0, 1) := by decide +kernel
theorem dX7_findRounds_48 : decode cX7_findRounds 48 = .ok (.getfield 169, 3) := by decide +kernel
theorem dX7_findRounds_51 : decode cX7_findRounds 51 = .ok (.putfield 169, 3) := by decide +kernel
theorem dX7_findRounds_54 : decode cX7_findRounds 54 = .ok (.aload_n 0, 1) := by decide +kernel
theorem dX7_findRounds_55 : decode cX7_findRounds 55 = .ok (.dup, 1) := by decide +kernel
theorem dX7_findRounds_56 : decode cX7_findRounds 56 = .ok (.getfield 166, 3) := by decide +kernel
theorem dX7_findRounds_59 : decode cX7_findRounds 59 = .ok (.iconst 1, 1) := by decide +kernel
theorem dX7_findRounds_60 : decode cX7_findRounds 60 = .ok (.iadd, 1) := by decide +kernel
theorem dX7_findRounds_61 : decode cX7_findRounds 61 = .ok (.putfield 166, 3) := by decide +kernel
theorem dX7_findRounds_64 : decode cX7_findRounds 64 = .ok (.iinc 2 1, 3) := by decide +kernel
theorem dX7_findRounds_67 : decode cX7_findRounds 67 = .ok (.goto (-54), 3) := by decide +kernel
theorem dX7_findRounds_70 : decode cX7_findRounds 70 = .ok (.return_, 1) := by decide +kernel
set_option maxRecDepth 20000 in
theorem ggX7_rounds_X7_noGlove : GoodIn wsX7_rounds wsX7_noGlove := goodIn_r _ [9, 10, 11, 12, 8, 13, 52, 53, 54, 55, 56, 57, 58, 59, 60, 61, 62, 63, 64, 65, 66, 67, 68, 69, 70, 71, 72, 73, 74, 75, 76, 77, 78, 79, 80, 81, 82] (by decide +kernel) (by decide +kernel)
set_option maxRecDepth 20000 in
theorem gX7_rounds_X7_noGlove : GoodIn wsX7_rounds (wsV RX7 125 RX7 yX7_noGlove wsX7_noGlove) := goodIn_app (goodIn_of _ (by decide +kernel)) ggX7_rounds_X7_noGlove
set_option maxRecDepth 20000 in
theorem ggX7_rounds_X7_in : GoodIn wsX7_rounds wsX7_in := goodIn_r _ [13] (by decide +kernel) (by decide +kernel)
set_option maxRecDepth 20000 in
theorem gX7_rounds_X7_in : GoodIn wsX7_rounds (va_wsS RX7 57 yX7_in wsX7_in) := goodIn_app (goodIn_of _ (by decide +kernel)) ggX7_rounds_X7_in
set_option maxRecDepth 20000 in
theorem ggX7_rounds_X7_isWorn : GoodIn wsX7_rounds wsX7_isWorn := goodIn_r _ [17] (by decide +kernel) (by decide +kernel)
set_option maxRecDepth 20000 in
theorem gX7_rounds_X7_isWorn : GoodIn wsX7_rounds (wsV RX7 109 RX7 yX7_isWorn wsX7_isWorn) := goodIn_app (goodIn_of _ (by decide +kernel)) ggX7_rounds_X7_isWorn
set_option maxRecDepth 20000 in
theorem ggX7_rounds_X7_findRounds : GoodIn wsX7_rounds wsX7_findRounds := goodIn_r _ [21, 3, 4, 22, 23, 24, 8, 25, 26, 27, 28, 29, 30, 31, 32, 33, 34, 2, 11, 12, 13, 35, 36, 37, 38, 39, 40, 41, 42, 43, 44, 45, 46, 47, 48, 49, 50, 51, 52, 53, 54, 55, 56, 57, 58, 59, 60, 61, 62, 63, 64, 65, 66, 67, 68, 69, 70, 71, 72, 73, 74, 75, 76, 77, 78, 79, 80, 81, 82] (by decide +kernel) (by decide +kernel)
set_option maxRecDepth 20000 in
theorem gX7_rounds_X7_findRounds : GoodIn wsX7_rounds (wsV RX7 175 RX7 yX7_findRounds wsX7_findRounds) := goodIn_app (goodIn_of _ (by decide +kernel)) ggX7_rounds_X7_findRounds
theorem dX7_rounds_0 : decode cX7_rounds 0 = .ok (.aload_n 0, 1) := by decide +kernel
theorem dX7_rounds_1 : decode cX7_rounds 1 = .ok (.iconst 0, 1) := by decide +kernel
theorem dX7_rounds_2 : decode cX7_rounds 2 = .ok (.putfield 50, 3) := by decide +kernel
theorem dX7_rounds_5 : decode cX7_rounds 5 = .ok (.aload_n 0, 1) := by decide +kernel
theorem dX7_rounds_6 : decode cX7_rounds 6 = .ok (.iload_n 1, 1) := by decide +kernel
theorem dX7_rounds_7 : decode cX7_rounds 7 = .ok (.invokevirtual 125, 3) := by decide +kernel
theorem dX7_rounds_10 : decode cX7_rounds 10 = .ok (.ifCond .eq 5, 3) := by decide +kernel
theorem dX7_rounds_13 : decode cX7_rounds 13 = .ok (.iconst (-1), 1) := by decide +kernel
theorem dX7_rounds_14 : decode cX7_rounds 14 = .ok (.ireturn, 1) := by decide +kernel
theorem dX7_rounds_15 : decode cX7_rounds 15 = .ok (.iload_n 2, 1) := by decide +kernel
theorem dX7_rounds_16 : decode cX7_rounds 16 = .ok (.i2l, 1) := by decide +kernel
theorem dX7_rounds_17 : decode cX7_rounds 17 = .ok (.lconst 0, 1) := by decide +kernel
theorem dX7_rounds_18 : decode cX7_rounds 18 = .ok (.lconst 1, 1) := by decide +kernel
theorem dX7_rounds_19 : decode cX7_rounds 19 = .ok (.invokestatic 57, 3) := by decide +kernel
theorem dX7_rounds_22 : decode cX7_rounds 22 = .ok (.ifCond .ne 6, 3) := by decide +kernel
theorem dX7_rounds_25 : decode cX7_rounds 25 = .ok (.bipush (-2), 2) := by decide +kernel
theorem dX7_rounds_27 : decode cX7_rounds 27 = .ok (.ireturn, 1) := by decide +kernel
theorem dX7_rounds_28 : decode cX7_rounds 28 = .ok (.aload_n 0, 1) := by decide +kernel
theorem dX7_rounds_29 : decode cX7_rounds 29 = .ok (.aload_n 0, 1) := by decide +kernel
theorem dX7_rounds_30 : decode cX7_rounds 30 = .ok (.getfield 25, 3) := by decide +kernel
theorem dX7_rounds_33 : decode cX7_rounds 33 = .ok (.iload_n 1, 1) := by decide +kernel
theorem dX7_rounds_34 : decode cX7_rounds 34 = .ok (.invokevirtual 109, 3) := by decide +kernel
theorem dX7_rounds_37 : decode cX7_rounds 37 = .ok (.ifCond .eq 6, 3) := by decide +kernel
theorem dX7_rounds_40 : decode cX7_rounds 40 = .ok (.bipush (-3), 2) := by decide +kernel
theorem dX7_rounds_42 : decode cX7_rounds 42 = .ok (.ireturn, 1) := by decide +kernel
theorem dX7_rounds_43 : decode cX7_rounds 43 = .ok (.aload_n 0, 1) := by decide +kernel
theorem dX7_rounds_44 : decode cX7_rounds 44 = .ok (.iload_n 1, 1) := by decide +kernel
theorem dX7_rounds_45 : decode cX7_rounds 45 = .ok (.invokevirtual 175, 3) := by decide +kernel
theorem dX7_rounds_48 : decode cX7_rounds 48 = .ok (.iload_n 2, 1) := by decide +kernel
theorem dX7_rounds_49 : decode cX7_rounds 49 = .ok (.ifCond .ne 10, 3) := by decide +kernel
theorem dX7_rounds_52 : decode cX7_rounds 52 = .ok (.aload_n 0, 1) := by decide +kernel
theorem dX7_rounds_53 : decode cX7_rounds 53 = .ok (.getfield 166, 3) := by decide +kernel
theorem dX7_rounds_56 : decode cX7_rounds 56 = .ok (.goto 7, 3) := by decide +kernel
theorem dX7_rounds_59 : decode cX7_rounds 59 = .ok (.aload_n 0, 1) := by decide +kernel
theorem dX7_rounds_60 : decode cX7_rounds 60 = .ok (.getfield 169, 3) := by decide +kernel
theorem dX7_rounds_63 : decode cX7_rounds 63 = .ok (.ireturn, 1) := by decide +kernel
set_option maxRecDepth 20000 in
theorem ggX7_givesAway_X7_noGlove : GoodIn wsX7_givesAway wsX7_noGlove := goodIn_r _ [9, 10, 11, 12, 8, 13, 26, 27, 28, 29, 30, 31, 32, 33, 34, 35, 36, 37, 38, 39, 40, 41, 42, 43, 44, 45, 46, 47, 48, 49, 50, 51, 52, 53, 54, 55, 56] (by decide +kernel) (by decide +kernel)
set_option maxRecDepth 20000 in
theorem gX7_givesAway_X7_noGlove : GoodIn wsX7_givesAway (wsV RX7 125 RX7 yX7_noGlove wsX7_noGlove) := goodIn_app (goodIn_of _ (by decide +kernel)) ggX7_givesAway_X7_noGlove
set_option maxRecDepth 20000 in
theorem ggX7_givesAway_X7_isWorn : GoodIn wsX7_givesAway wsX7_isWorn := goodIn_r _ [17] (by decide +kernel) (by decide +kernel)
set_option maxRecDepth 20000 in
theorem gX7_givesAway_X7_isWorn : GoodIn wsX7_givesAway (wsV RX7 109 RX7 yX7_isWorn wsX7_isWorn) := goodIn_app (goodIn_of _ (by decide +kernel)) ggX7_givesAway_X7_isWorn
set_option maxRecDepth 20000 in
theorem ggX7_givesAway_X7_doesOn : GoodIn wsX7_givesAway wsX7_doesOn := goodIn_r _ [21, 22, 4, 23, 24, 8, 25, 26, 27, 28, 29, 30, 31, 32, 33, 34, 35, 36, 37, 38, 39, 40, 41, 42, 43, 44, 45, 46, 47, 48, 49, 50, 51, 52, 53, 54, 55, 56] (by decide +kernel) (by decide +kernel)
set_option maxRecDepth 20000 in
theorem gX7_givesAway_X7_doesOn : GoodIn wsX7_givesAway (wsV RX7 105 RX7 yX7_doesOn wsX7_doesOn) := goodIn_app (goodIn_of _ (by decide +kernel)) ggX7_givesAway_X7_doesOn
theorem dX7_givesAway_0 : decode cX7_givesAway 0 = .ok (.aload_n 0, 1) := by decide +kernel
theorem dX7_givesAway_1 : decode cX7_givesAway 1 = .ok (.iconst 0, 1) := by decide +kernel
theorem dX7_givesAway_2 : decode cX7_givesAway 2 = .ok (.putfield 50, 3) := by decide +kernel
theorem dX7_givesAway_5 : decode cX7_givesAway 5 = .ok (.aload_n 0, 1) := by decide +kernel
theorem dX7_givesAway_6 : decode cX7_givesAway 6 = .ok (.iload_n 1, 1) := by decide +kernel
theorem dX7_givesAway_7 : decode cX7_givesAway 7 = .ok (.invokevirtual 125, 3) := by decide +kernel
theorem dX7_givesAway_10 : decode cX7_givesAway 10 = .ok (.ifCond .eq 5, 3) := by decide +kernel
theorem dX7_givesAway_13 : decode cX7_givesAway 13 = .ok (.iconst (-1), 1) := by decide +kernel
theorem dX7_givesAway_14 : decode cX7_givesAway 14 = .ok (.ireturn, 1) := by decide +kernel
theorem dX7_givesAway_15 : decode cX7_givesAway 15 = .ok (.aload_n 0, 1) := by decide +kernel
theorem dX7_givesAway_16 : decode cX7_givesAway 16 = .ok (.aload_n 0, 1) := by decide +kernel
theorem dX7_givesAway_17 : decode cX7_givesAway 17 = .ok (.getfield 25, 3) := by decide +kernel
theorem dX7_givesAway_20 : decode cX7_givesAway 20 = .ok (.iload_n 1, 1) := by decide +kernel
theorem dX7_givesAway_21 : decode cX7_givesAway 21 = .ok (.invokevirtual 109, 3) := by decide +kernel
theorem dX7_givesAway_24 : decode cX7_givesAway 24 = .ok (.ifCond .eq 6, 3) := by decide +kernel
theorem dX7_givesAway_27 : decode cX7_givesAway 27 = .ok (.bipush (-3), 2) := by decide +kernel
theorem dX7_givesAway_29 : decode cX7_givesAway 29 = .ok (.ireturn, 1) := by decide +kernel
theorem dX7_givesAway_30 : decode cX7_givesAway 30 = .ok (.iconst 0, 1) := by decide +kernel
theorem dX7_givesAway_31 : decode cX7_givesAway 31 = .ok (.istore_n 2, 1) := by decide +kernel
theorem dX7_givesAway_32 : decode cX7_givesAway 32 = .ok (.iconst 0, 1) := by decide +kernel
theorem dX7_givesAway_33 : decode cX7_givesAway 33 = .ok (.istore_n 3, 1) := by decide +kernel
theorem dX7_givesAway_34 : decode cX7_givesAway 34 = .ok (.iload_n 3, 1) := by decide +kernel
theorem dX7_givesAway_35 : decode cX7_givesAway 35 = .ok (.aload_n 0, 1) := by decide +kernel
theorem dX7_givesAway_36 : decode cX7_givesAway 36 = .ok (.getfield 54, 3) := by decide +kernel
theorem dX7_givesAway_39 : decode cX7_givesAway 39 = .ok (.if_icmp .ge 102, 3) := by decide +kernel
theorem dX7_givesAway_42 : decode cX7_givesAway 42 = .ok (.aload_n 0, 1) := by decide +kernel
theorem dX7_givesAway_43 : decode cX7_givesAway 43 = .ok (.aload_n 0, 1) := by decide +kernel
theorem dX7_givesAway_44 : decode cX7_givesAway 44 = .ok (.getfield 25, 3) := by decide +kernel
theorem dX7_givesAway_47 : decode cX7_givesAway 47 = .ok (.iload_n 1, 1) := by decide +kernel
theorem dX7_givesAway_48 : decode cX7_givesAway 48 = .ok (.iload_n 3, 1) := by decide +kernel
theorem dX7_givesAway_49 : decode cX7_givesAway 49 = .ok (.invokevirtual 105, 3) := by decide +kernel
theorem dX7_givesAway_52 : decode cX7_givesAway 52 = .ok (.istore 4, 2) := by decide +kernel
theorem dX7_givesAway_54 : decode cX7_givesAway 54 = .ok (.iconst 0, 1) := by decide +kernel
theorem dX7_givesAway_55 : decode cX7_givesAway 55 = .ok (.istore 5, 2) := by decide +kernel
theorem dX7_givesAway_57 : decode cX7_givesAway 57 = .ok (.iconst 0, 1) := by decide +kernel
theorem dX7_givesAway_58 : decode cX7_givesAway 58 = .ok (.istore 6, 2) := by decide +kernel
theorem dX7_givesAway_60 : decode cX7_givesAway 60 = .ok (.iload 6, 2) := by decide +kernel
theorem dX7_givesAway_62 : decode cX7_givesAway 62 = .ok (.aload_n 0, 1) := by decide +kernel
theorem dX7_givesAway_63 : decode cX7_givesAway 63 = .ok (.getfield 54, 3) := by decide +kernel
theorem dX7_givesAway_66 : decode cX7_givesAway 66 = .ok (.if_icmp .ge 41, 3) := by decide +kernel
theorem dX7_givesAway_69 : decode cX7_givesAway 69 = .ok (.iload 5, 2) := by decide +kernel
theorem dX7_givesAway_71 : decode cX7_givesAway 71 = .ok (.ifCond .ne 23, 3) := by decide +kernel
theorem dX7_givesAway_74 : decode cX7_givesAway 74 = .ok (.iload 6, 2) := by decide +kernel
theorem dX7_givesAway_76 : decode cX7_givesAway 76 = .ok (.iload_n 3, 1) := by decide +kernel
theorem dX7_givesAway_77 : decode cX7_givesAway 77 = .ok (.if_icmp .eq 21, 3) := by decide +kernel
theorem dX7_givesAway_80 : decode cX7_givesAway 80 = .ok (.aload_n 0, 1) := by decide +kernel
theorem dX7_givesAway_81 : decode cX7_givesAway 81 = .ok (.getfield 13, 3) := by decide +kernel
theorem dX7_givesAway_84 : decode cX7_givesAway 84 = .ok (.iconst 3, 1) := by decide +kernel
theorem dX7_givesAway_85 : decode cX7_givesAway 85 = .ok (.iload 6, 2) := by decide +kernel
theorem dX7_givesAway_87 : decode cX7_givesAway 87 = .ok (.imul, 1) := by decide +kernel
theorem dX7_givesAway_88 : decode cX7_givesAway 88 = .ok (.iaload, 1) := by decide +kernel
theorem dX7_givesAway_89 : decode cX7_givesAway 89 = .ok (.iload 4, 2) := by decide +kernel
theorem dX7_givesAway_91 : decode cX7_givesAway 91 = .ok (.if_icmp .ne 7, 3) := by decide +kernel
theorem dX7_givesAway_94 : decode cX7_givesAway 94 = .ok (.iconst 1, 1) := by decide +kernel
theorem dX7_givesAway_95 : decode cX7_givesAway 95 = .ok (.goto 4, 3) := by decide +kernel
theorem dX7_givesAway_98 : decode cX7_givesAway 98 = .ok (.iconst 0, 1) := by decide +kernel
theorem dX7_givesAway_99 : decode cX7_givesAway 99 = .ok (.istore 5, 2) := by decide +kernel
theorem dX7_givesAway_101 : decode cX7_givesAway 101 = .ok (.iinc 6 1, 3) := by decide +kernel
theorem dX7_givesAway_104 : decode cX7_givesAway 104 = .ok (.goto (-44), 3) := by decide +kernel
theorem dX7_givesAway_107 : decode cX7_givesAway 107 = .ok (.iload_n 2, 1) := by decide +kernel
theorem dX7_givesAway_108 : decode cX7_givesAway 108 = .ok (.iload 5, 2) := by decide +kernel
theorem dX7_givesAway_110 : decode cX7_givesAway 110 = .ok (.ifCond .eq 22, 3) := by decide +kernel
theorem dX7_givesAway_113 : decode cX7_givesAway 113 = .ok (.iload 4, 2) := by decide +kernel
theorem dX7_givesAway_115 : decode cX7_givesAway 115 = .ok (.aload_n 0, 1) := by decide +kernel
theorem dX7_givesAway_116 : decode cX7_givesAway 116 = .ok (.getfield 13, 3) := by decide +kernel
theorem dX7_givesAway_119 : decode cX7_givesAway 119 = .ok (.iconst 3, 1) := by decide +kernel
theorem dX7_givesAway_120 : decode cX7_givesAway 120 = .ok (.iload_n 3, 1) := by decide +kernel
theorem dX7_givesAway_121 : decode cX7_givesAway 121 = .ok (.imul, 1) := by decide +kernel
theorem dX7_givesAway_122 : decode cX7_givesAway 122 = .ok (.iaload, 1) := by decide +kernel
theorem dX7_givesAway_123 : decode cX7_givesAway 123 = .ok (.if_icmp .eq 9, 3) := by decide +kernel
theorem dX7_givesAway_126 : decode cX7_givesAway 126 = .ok (.iconst 1, 1) := by decide +kernel
theorem dX7_givesAway_127 : decode cX7_givesAway 127 = .ok (.iload_n 3, 1) := by decide +kernel
theorem dX7_givesAway_128 : decode cX7_givesAway 128 = .ok (.ishl, 1) := by decide +kernel
theorem dX7_givesAway_129 : decode cX7_givesAway 129 = .ok (.goto 4, 3) := by decide +kernel
theorem dX7_givesAway_132 : decode cX7_givesAway 132 = .ok (.iconst 0, 1) := by decide +kernel
theorem dX7_givesAway_133 : decode cX7_givesAway 133 = .ok (.ior, 1) := by decide +kernel
theorem dX7_givesAway_134 : decode cX7_givesAway 134 = .ok (.istore_n 2, 1) := by decide +kernel
theorem dX7_givesAway_135 : decode cX7_givesAway 135 = .ok (.iinc 3 1, 3) := by decide +kernel
theorem dX7_givesAway_138 : decode cX7_givesAway 138 = .ok (.goto (-104), 3) := by decide +kernel
theorem dX7_givesAway_141 : decode cX7_givesAway 141 = .ok (.iload_n 2, 1) := by decide +kernel
theorem dX7_givesAway_142 : decode cX7_givesAway 142 = .ok (.ireturn, 1) := by decide +kernel
theorem dX7_leftOf_0 : decode cX7_leftOf 0 = .ok (.aload_n 0, 1) := by decide +kernel
theorem dX7_leftOf_1 : decode cX7_leftOf 1 = .ok (.getfield 25, 3) := by decide +kernel
theorem dX7_leftOf_4 : decode cX7_leftOf 4 = .ok (.iconst 5, 1) := by decide +kernel
theorem dX7_leftOf_5 : decode cX7_leftOf 5 = .ok (.iload_n 1, 1) := by decide +kernel
theorem dX7_leftOf_6 : decode cX7_leftOf 6 = .ok (.imul, 1) := by decide +kernel
theorem dX7_leftOf_7 : decode cX7_leftOf 7 = .ok (.iaload, 1) := by decide +kernel
theorem dX7_leftOf_8 : decode cX7_leftOf 8 = .ok (.iload_n 2, 1) := by decide +kernel
theorem dX7_leftOf_9 : decode cX7_leftOf 9 = .ok (.isub, 1) := by decide +kernel
theorem dX7_leftOf_10 : decode cX7_leftOf 10 = .ok (.istore_n 3, 1) := by decide +kernel
theorem dX7_leftOf_11 : decode cX7_leftOf 11 = .ok (.iload_n 3, 1) := by decide +kernel
theorem dX7_leftOf_12 : decode cX7_leftOf 12 = .ok (.ifCond .gt 7, 3) := by decide +kernel
theorem dX7_leftOf_15 : decode cX7_leftOf 15 = .ok (.iconst 0, 1) := by decide +kernel
theorem dX7_leftOf_16 : decode cX7_leftOf 16 = .ok (.goto 13, 3) := by decide +kernel
theorem dX7_leftOf_19 : decode cX7_leftOf 19 = .ok (.aload_n 0, 1) := by decide +kernel
theorem dX7_leftOf_20 : decode cX7_leftOf 20 = .ok (.getfield 25, 3) := by decide +kernel
theorem dX7_leftOf_23 : decode cX7_leftOf 23 = .ok (.iconst 5, 1) := by decide +kernel
theorem dX7_leftOf_24 : decode cX7_leftOf 24 = .ok (.iload_n 1, 1) := by decide +kernel
theorem dX7_leftOf_25 : decode cX7_leftOf 25 = .ok (.imul, 1) := by decide +kernel
theorem dX7_leftOf_26 : decode cX7_leftOf 26 = .ok (.iload_n 3, 1) := by decide +kernel
theorem dX7_leftOf_27 : decode cX7_leftOf 27 = .ok (.iadd, 1) := by decide +kernel
theorem dX7_leftOf_28 : decode cX7_leftOf 28 = .ok (.iaload, 1) := by decide +kernel
theorem dX7_leftOf_29 : decode cX7_leftOf 29 = .ok (.ireturn, 1) := by decide +kernel
set_option maxRecDepth 20000 in
theorem ggX7_leftBy_X7_noGlove : GoodIn wsX7_leftBy wsX7_noGlove := goodIn_r _ [7, 8, 9, 10, 6, 11, 17, 18, 19, 20, 21, 22, 23, 24, 25, 26, 27, 28, 29, 30, 31, 32, 33, 34, 35, 36, 37, 38, 39, 40, 41, 42, 43, 44, 45, 46, 47] (by decide +kernel) (by decide +kernel)
set_option maxRecDepth 20000 in
theorem gX7_leftBy_X7_noGlove : GoodIn wsX7_leftBy (wsV RX7 125 RX7 yX7_noGlove wsX7_noGlove) := goodIn_app (goodIn_of _ (by decide +kernel)) ggX7_leftBy_X7_noGlove
set_option maxRecDepth 20000 in
theorem ggX7_leftBy_X7_in : GoodIn wsX7_leftBy wsX7_in := goodIn_r _ [11] (by decide +kernel) (by decide +kernel)
set_option maxRecDepth 20000 in
theorem gX7_leftBy_X7_in : GoodIn wsX7_leftBy (va_wsS RX7 57 yX7_in wsX7_in) := goodIn_app (goodIn_of _ (by decide +kernel)) ggX7_leftBy_X7_in
set_option maxRecDepth 20000 in
theorem ggX7_leftBy_X7_leftOf : GoodIn wsX7_leftBy wsX7_leftOf := goodIn_r _ [15, 16, 17, 18, 19, 20, 21, 22, 23, 24, 25, 26, 27, 28, 29, 30, 31, 32, 33, 34, 35, 36, 37, 38, 39, 40, 41, 42, 43, 44, 45, 46, 47] (by decide +kernel) (by decide +kernel)
set_option maxRecDepth 20000 in
theorem gX7_leftBy_X7_leftOf : GoodIn wsX7_leftBy (wsV RX7 181 RX7 yX7_leftOf wsX7_leftOf) := goodIn_app (goodIn_of _ (by decide +kernel)) ggX7_leftBy_X7_leftOf
theorem dX7_leftBy_0 : decode cX7_leftBy 0 = .ok (.aload_n 0, 1) := by decide +kernel
theorem dX7_leftBy_1 : decode cX7_leftBy 1 = .ok (.iconst 0, 1) := by decide +kernel
theorem dX7_leftBy_2 : decode cX7_leftBy 2 = .ok (.putfield 50, 3) := by decide +kernel
theorem dX7_leftBy_5 : decode cX7_leftBy 5 = .ok (.aload_n 0, 1) := by decide +kernel
theorem dX7_leftBy_6 : decode cX7_leftBy 6 = .ok (.iload_n 1, 1) := by decide +kernel
theorem dX7_leftBy_7 : decode cX7_leftBy 7 = .ok (.invokevirtual 125, 3) := by decide +kernel
theorem dX7_leftBy_10 : decode cX7_leftBy 10 = .ok (.ifCond .eq 5, 3) := by decide +kernel
theorem dX7_leftBy_13 : decode cX7_leftBy 13 = .ok (.iconst (-1), 1) := by decide +kernel
theorem dX7_leftBy_14 : decode cX7_leftBy 14 = .ok (.ireturn, 1) := by decide +kernel
theorem dX7_leftBy_15 : decode cX7_leftBy 15 = .ok (.iload_n 2, 1) := by decide +kernel
theorem dX7_leftBy_16 : decode cX7_leftBy 16 = .ok (.i2l, 1) := by decide +kernel
theorem dX7_leftBy_17 : decode cX7_leftBy 17 = .ok (.lconst 0, 1) := by decide +kernel
theorem dX7_leftBy_18 : decode cX7_leftBy 18 = .ok (.ldc2_w 179, 3) := by decide +kernel
theorem dX7_leftBy_21 : decode cX7_leftBy 21 = .ok (.invokestatic 57, 3) := by decide +kernel
theorem dX7_leftBy_24 : decode cX7_leftBy 24 = .ok (.ifCond .eq 12, 3) := by decide +kernel
theorem dX7_leftBy_27 : decode cX7_leftBy 27 = .ok (.aload_n 0, 1) := by decide +kernel
theorem dX7_leftBy_28 : decode cX7_leftBy 28 = .ok (.iload_n 1, 1) := by decide +kernel
theorem dX7_leftBy_29 : decode cX7_leftBy 29 = .ok (.iload_n 2, 1) := by decide +kernel
theorem dX7_leftBy_30 : decode cX7_leftBy 30 = .ok (.invokevirtual 181, 3) := by decide +kernel
theorem dX7_leftBy_33 : decode cX7_leftBy 33 = .ok (.goto 5, 3) := by decide +kernel
theorem dX7_leftBy_36 : decode cX7_leftBy 36 = .ok (.bipush (-2), 2) := by decide +kernel
theorem dX7_leftBy_38 : decode cX7_leftBy 38 = .ok (.ireturn, 1) := by decide +kernel
set_option maxRecDepth 20000 in
theorem ggX7_washes_X7_noGlove : GoodIn wsX7_washes wsX7_noGlove := goodIn_r _ [7, 8, 9, 10, 6, 11, 17, 18, 19, 20, 21, 22, 23, 24, 25, 26, 27, 28, 29, 30, 31, 32, 33, 34, 35, 36, 37, 38, 39, 40, 41, 42, 43, 44, 45, 46, 47] (by decide +kernel) (by decide +kernel)
set_option maxRecDepth 20000 in
theorem gX7_washes_X7_noGlove : GoodIn wsX7_washes (wsV RX7 125 RX7 yX7_noGlove wsX7_noGlove) := goodIn_app (goodIn_of _ (by decide +kernel)) ggX7_washes_X7_noGlove
set_option maxRecDepth 20000 in
theorem ggX7_washes_X7_in : GoodIn wsX7_washes wsX7_in := goodIn_r _ [11] (by decide +kernel) (by decide +kernel)
set_option maxRecDepth 20000 in
theorem gX7_washes_X7_in : GoodIn wsX7_washes (va_wsS RX7 57 yX7_in wsX7_in) := goodIn_app (goodIn_of _ (by decide +kernel)) ggX7_washes_X7_in
set_option maxRecDepth 20000 in
theorem ggX7_washes_X7_leftOf : GoodIn wsX7_washes wsX7_leftOf := goodIn_r _ [15, 16, 17, 18, 19, 20, 21, 22, 23, 24, 25, 26, 27, 28, 29, 30, 31, 32, 33, 34, 35, 36, 37, 38, 39, 40, 41, 42, 43, 44, 45, 46, 47] (by decide +kernel) (by decide +kernel)
set_option maxRecDepth 20000 in
theorem gX7_washes_X7_leftOf : GoodIn wsX7_washes (wsV RX7 181 RX7 yX7_leftOf wsX7_leftOf) := goodIn_app (goodIn_of _ (by decide +kernel)) ggX7_washes_X7_leftOf
theorem dX7_washes_0 : decode cX7_washes 0 = .ok (.aload_n 0, 1) := by decide +kernel
theorem dX7_washes_1 : decode cX7_washes 1 = .ok (.iconst 0, 1) := by decide +kernel
theorem dX7_washes_2 : decode cX7_washes 2 = .ok (.putfield 50, 3) := by decide +kernel
theorem dX7_washes_5 : decode cX7_washes 5 = .ok (.aload_n 0, 1) := by decide +kernel
theorem dX7_washes_6 : decode cX7_washes 6 = .ok (.iload_n 1, 1) := by decide +kernel
theorem dX7_washes_7 : decode cX7_washes 7 = .ok (.invokevirtual 125, 3) := by decide +kernel
theorem dX7_washes_10 : decode cX7_washes 10 = .ok (.ifCond .eq 5, 3) := by decide +kernel
theorem dX7_washes_13 : decode cX7_washes 13 = .ok (.iconst (-1), 1) := by decide +kernel
theorem dX7_washes_14 : decode cX7_washes 14 = .ok (.ireturn, 1) := by decide +kernel
theorem dX7_washes_15 : decode cX7_washes 15 = .ok (.iload_n 2, 1) := by decide +kernel
theorem dX7_washes_16 : decode cX7_washes 16 = .ok (.i2l, 1) := by decide +kernel
theorem dX7_washes_17 : decode cX7_washes 17 = .ok (.lconst 0, 1) := by decide +kernel
theorem dX7_washes_18 : decode cX7_washes 18 = .ok (.ldc2_w 160, 3) := by decide +kernel
theorem dX7_washes_21 : decode cX7_washes 21 = .ok (.invokestatic 57, 3) := by decide +kernel
theorem dX7_washes_24 : decode cX7_washes 24 = .ok (.ifCond .ne 6, 3) := by decide +kernel
theorem dX7_washes_27 : decode cX7_washes 27 = .ok (.bipush (-2), 2) := by decide +kernel
theorem dX7_washes_29 : decode cX7_washes 29 = .ok (.ireturn, 1) := by decide +kernel
theorem dX7_washes_30 : decode cX7_washes 30 = .ok (.iconst 0, 1) := by decide +kernel
theorem dX7_washes_31 : decode cX7_washes 31 = .ok (.istore_n 3, 1) := by decide +kernel
theorem dX7_washes_32 : decode cX7_washes 32 = .ok (.iload_n 3, 1) := by decide +kernel
theorem dX7_washes_33 : decode cX7_washes 33 = .ok (.iconst 3, 1) := by decide +kernel
theorem dX7_washes_34 : decode cX7_washes 34 = .ok (.if_icmp .gt 21, 3) := by decide +kernel
theorem dX7_washes_37 : decode cX7_washes 37 = .ok (.aload_n 0, 1) := by decide +kernel
theorem dX7_washes_38 : decode cX7_washes 38 = .ok (.iload_n 1, 1) := by decide +kernel
theorem dX7_washes_39 : decode cX7_washes 39 = .ok (.iload_n 3, 1) := by decide +kernel
theorem dX7_washes_40 : decode cX7_washes 40 = .ok (.invokevirtual 181, 3) := by decide +kernel
theorem dX7_washes_43 : decode cX7_washes 43 = .ok (.iload_n 2, 1) := by decide +kernel
theorem dX7_washes_44 : decode cX7_washes 44 = .ok (.if_icmp .ne 5, 3) := by decide +kernel
theorem dX7_washes_47 : decode cX7_washes 47 = .ok (.iload_n 3, 1) := by decide +kernel
theorem dX7_washes_48 : decode cX7_washes 48 = .ok (.ireturn, 1) := by decide +kernel
theorem dX7_washes_49 : decode cX7_washes 49 = .ok (.iinc 3 1, 3) := by decide +kernel
theorem dX7_washes_52 : decode cX7_washes 52 = .ok (.goto (-20), 3) := by decide +kernel
theorem dX7_washes_55 : decode cX7_washes 55 = .ok (.bipush (-9), 2) := by decide +kernel
theorem dX7_washes_57 : decode cX7_washes 57 = .ok (.ireturn, 1) := by decide +kernel
set_option maxRecDepth 20000 in
theorem ggX7_both_X7_noGlove : GoodIn wsX7_both wsX7_noGlove := goodIn_r _ [7, 8, 9, 10, 6, 11, 15, 16, 17, 18, 19, 20, 21, 22, 23, 24, 25, 26, 27, 28, 29, 30, 31, 32, 33, 34, 35, 36, 37, 38, 39, 40, 41, 42, 43, 44, 45] (by decide +kernel) (by decide +kernel)
set_option maxRecDepth 20000 in
theorem gX7_both_X7_noGlove : GoodIn wsX7_both (wsV RX7 125 RX7 yX7_noGlove wsX7_noGlove) := goodIn_app (goodIn_of _ (by decide +kernel)) ggX7_both_X7_noGlove
set_option maxRecDepth 20000 in
theorem ggX7_both_X7_lastOf : GoodIn wsX7_both wsX7_lastOf := goodIn_r _ [14] (by decide +kernel) (by decide +kernel)
set_option maxRecDepth 20000 in
theorem gX7_both_X7_lastOf : GoodIn wsX7_both (va_wsS RX7 97 yX7_lastOf wsX7_lastOf) := goodIn_app (goodIn_of _ (by decide +kernel)) ggX7_both_X7_lastOf
theorem dX7_both_0 : decode cX7_both 0 = .ok (.aload_n 0, 1) := by decide +kernel
theorem dX7_both_1 : decode cX7_both 1 = .ok (.iconst 0, 1) := by decide +kernel
theorem dX7_both_2 : decode cX7_both 2 = .ok (.putfield 50, 3) := by decide +kernel
theorem dX7_both_5 : decode cX7_both 5 = .ok (.aload_n 0, 1) := by decide +kernel
theorem dX7_both_6 : decode cX7_both 6 = .ok (.iload_n 1, 1) := by decide +kernel
theorem dX7_both_7 : decode cX7_both 7 = .ok (.invokevirtual 125, 3) := by decide +kernel
theorem dX7_both_10 : decode cX7_both 10 = .ok (.ifCond .ne 11, 3) := by decide +kernel
theorem dX7_both_13 : decode cX7_both 13 = .ok (.aload_n 0, 1) := by decide +kernel
theorem dX7_both_14 : decode cX7_both 14 = .ok (.iload_n 2, 1) := by decide +kernel
theorem dX7_both_15 : decode cX7_both 15 = .ok (.invokevirtual 125, 3) := by decide +kernel
theorem dX7_both_18 : decode cX7_both 18 = .ok (.ifCond .eq 7, 3) := by decide +kernel
theorem dX7_both_21 : decode cX7_both 21 = .ok (.iconst (-1), 1) := by decide +kernel
theorem dX7_both_22 : decode cX7_both 22 = .ok (.goto 20, 3) := by decide +kernel
theorem dX7_both_25 : decode cX7_both 25 = .ok (.aload_n 0, 1) := by decide +kernel
theorem dX7_both_26 : decode cX7_both 26 = .ok (.getfield 25, 3) := by decide +kernel
theorem dX7_both_29 : decode cX7_both 29 = .ok (.iload_n 1, 1) := by decide +kernel
theorem dX7_both_30 : decode cX7_both 30 = .ok (.invokestatic 97, 3) := by decide +kernel
theorem dX7_both_33 : decode cX7_both 33 = .ok (.aload_n 0, 1) := by decide +kernel
theorem dX7_both_34 : decode cX7_both 34 = .ok (.getfield 25, 3) := by decide +kernel
theorem dX7_both_37 : decode cX7_both 37 = .ok (.iload_n 2, 1) := by decide +kernel
theorem dX7_both_38 : decode cX7_both 38 = .ok (.invokestatic 97, 3) := by decide +kernel
theorem dX7_both_41 : decode cX7_both 41 = .ok (.ixor, 1) := by decide +kernel
theorem dX7_both_42 : decode cX7_both 42 = .ok (.ireturn, 1) := by decide +kernel
set_option maxRecDepth 20000 in
theorem ggX7_either_X7_noGlove : GoodIn wsX7_either wsX7_noGlove := goodIn_r _ [7, 8, 9, 10, 6, 11, 15, 16, 17, 18, 19, 20, 21, 22, 23, 24, 25, 26, 27, 28, 29, 30, 31, 32, 33, 34, 35, 36, 37, 38, 39, 40, 41, 42, 43, 44, 45] (by decide +kernel) (by decide +kernel)
set_option maxRecDepth 20000 in
theorem gX7_either_X7_noGlove : GoodIn wsX7_either (wsV RX7 125 RX7 yX7_noGlove wsX7_noGlove) := goodIn_app (goodIn_of _ (by decide +kernel)) ggX7_either_X7_noGlove
set_option maxRecDepth 20000 in
theorem ggX7_either_X7_lastOf : GoodIn wsX7_either wsX7_lastOf := goodIn_r _ [14] (by decide +kernel) (by decide +kernel)
set_option maxRecDepth 20000 in
theorem gX7_either_X7_lastOf : GoodIn wsX7_either (va_wsS RX7 97 yX7_lastOf wsX7_lastOf) := goodIn_app (goodIn_of _ (by decide +kernel)) ggX7_either_X7_lastOf
theorem dX7_either_0 : decode cX7_either 0 = .ok (.aload_n 0, 1) := by decide +kernel
theorem dX7_either_1 : decode cX7_either 1 = .ok (.iconst 0, 1) := by decide +kernel
theorem dX7_either_2 : decode cX7_either 2 = .ok (.putfield 50, 3) := by decide +kernel
theorem dX7_either_5 : decode cX7_either 5 = .ok (.aload_n 0, 1) := by decide +kernel
theorem dX7_either_6 : decode cX7_either 6 = .ok (.iload_n 1, 1) := by decide +kernel
theorem dX7_either_7 : decode cX7_either 7 = .ok (.invokevirtual 125, 3) := by decide +kernel
theorem dX7_either_10 : decode cX7_either 10 = .ok (.ifCond .ne 11, 3) := by decide +kernel
theorem dX7_either_13 : decode cX7_either 13 = .ok (.aload_n 0, 1) := by decide +kernel
theorem dX7_either_14 : decode cX7_either 14 = .ok (.iload_n 2, 1) := by decide +kernel
theorem dX7_either_15 : decode cX7_either 15 = .ok (.invokevirtual 125, 3) := by decide +kernel
theorem dX7_either_18 : decode cX7_either 18 = .ok (.ifCond .eq 5, 3) := by decide +kernel
theorem dX7_either_21 : decode cX7_either 21 = .ok (.iconst (-1), 1) := by decide +kernel
theorem dX7_either_22 : decode cX7_either 22 = .ok (.ireturn, 1) := by decide +kernel
theorem dX7_either_23 : decode cX7_either 23 = .ok (.aload_n 0, 1) := by decide +kernel
theorem dX7_either_24 : decode cX7_either 24 = .ok (.getfield 25, 3) := by decide +kernel
theorem dX7_either_27 : decode cX7_either 27 = .ok (.iload_n 1, 1) := by decide +kernel
theorem dX7_either_28 : decode cX7_either 28 = .ok (.invokestatic 97, 3) := by decide +kernel
theorem dX7_either_31 : decode cX7_either 31 = .ok (.istore_n 3, 1) := by decide +kernel
theorem dX7_either_32 : decode cX7_either 32 = .ok (.aload_n 0, 1) := by decide +kernel
theorem dX7_either_33 : decode cX7_either 33 = .ok (.getfield 25, 3) := by decide +kernel
theorem dX7_either_36 : decode cX7_either 36 = .ok (.iload_n 2, 1) := by decide +kernel
theorem dX7_either_37 : decode cX7_either 37 = .ok (.invokestatic 97, 3) := by decide +kernel
theorem dX7_either_40 : decode cX7_either 40 = .ok (.istore 4, 2) := by decide +kernel
theorem dX7_either_42 : decode cX7_either 42 = .ok (.iload_n 3, 1) := by decide +kernel
theorem dX7_either_43 : decode cX7_either 43 = .ok (.iload_n 3, 1) := by decide +kernel
theorem dX7_either_44 : decode cX7_either 44 = .ok (.iload 4, 2) := by decide +kernel
theorem dX7_either_46 : decode cX7_either 46 = .ok (.ixor, 1) := by decide +kernel
theorem dX7_either_47 : decode cX7_either 47 = .ok (.if_icmp .eq 12, 3) := by decide +kernel
theorem dX7_either_50 : decode cX7_either 50 = .ok (.iload 4, 2) := by decide +kernel
theorem dX7_either_52 : decode cX7_either 52 = .ok (.iload_n 3, 1) := by decide +kernel
theorem dX7_either_53 : decode cX7_either 53 = .ok (.iload 4, 2) := by decide +kernel
theorem dX7_either_55 : decode cX7_either 55 = .ok (.ixor, 1) := by decide +kernel
theorem dX7_either_56 : decode cX7_either 56 = .ok (.if_icmp .ne 7, 3) := by decide +kernel
theorem dX7_either_59 : decode cX7_either 59 = .ok (.iconst 1, 1) := by decide +kernel
theorem dX7_either_60 : decode cX7_either 60 = .ok (.goto 4, 3) := by decide +kernel
theorem dX7_either_63 : decode cX7_either 63 = .ok (.iconst 0, 1) := by decide +kernel
theorem dX7_either_64 : decode cX7_either 64 = .ok (.ireturn, 1) := by decide +kernel
set_option maxRecDepth 20000 in
theorem ggX7_see_X7_noGlove : GoodIn wsX7_see wsX7_noGlove := goodIn_r _ [11, 12, 13, 14, 10, 15, 21, 22, 23, 24, 25, 26, 27, 28, 29, 30, 31, 32, 33, 34, 35, 36, 37, 38, 39, 40, 41, 42, 43, 44, 45, 46, 47, 48, 49, 50, 51] (by decide +kernel) (by decide +kernel)
set_option maxRecDepth 20000 in
theorem gX7_see_X7_noGlove : GoodIn wsX7_see (wsV RX7 125 RX7 yX7_noGlove wsX7_noGlove) := goodIn_app (goodIn_of _ (by decide +kernel)) ggX7_see_X7_noGlove
set_option maxRecDepth 20000 in
theorem ggX7_see_X7_noPerson : GoodIn wsX7_see wsX7_noPerson := goodIn_r _ [19, 20, 13, 14, 10, 15, 21, 22, 23, 24, 25, 26, 27, 28, 29, 30, 31, 32, 33, 34, 35, 36, 37, 38, 39, 40, 41, 42, 43, 44, 45, 46, 47, 48, 49, 50, 51] (by decide +kernel) (by decide +kernel)
set_option maxRecDepth 20000 in
theorem gX7_see_X7_noPerson : GoodIn wsX7_see (wsV RX7 116 RX7 yX7_noPerson wsX7_noPerson) := goodIn_app (goodIn_of _ (by decide +kernel)) ggX7_see_X7_noPerson
set_option maxRecDepth 20000 in
theorem ggX7_see_X7_in : GoodIn wsX7_see wsX7_in := goodIn_r _ [15] (by decide +kernel) (by decide +kernel)
set_option maxRecDepth 20000 in
theorem gX7_see_X7_in : GoodIn wsX7_see (va_wsS RX7 57 yX7_in wsX7_in) := goodIn_app (goodIn_of _ (by decide +kernel)) ggX7_see_X7_in
theorem dX7_see_0 : decode cX7_see 0 = .ok (.aload_n 0, 1) := by decide +kernel
theorem dX7_see_1 : decode cX7_see 1 = .ok (.iconst 0, 1) := by decide +kernel
theorem dX7_see_2 : decode cX7_see 2 = .ok (.putfield 50, 3) := by decide +kernel
theorem dX7_see_5 : decode cX7_see 5 = .ok (.aload_n 0, 1) := by decide +kernel
theorem dX7_see_6 : decode cX7_see 6 = .ok (.iload_n 1, 1) := by decide +kernel
theorem dX7_see_7 : decode cX7_see 7 = .ok (.invokevirtual 125, 3) := by decide +kernel
theorem dX7_see_10 : decode cX7_see 10 = .ok (.ifCond .ne 11, 3) := by decide +kernel
theorem dX7_see_13 : decode cX7_see 13 = .ok (.aload_n 0, 1) := by decide +kernel
theorem dX7_see_14 : decode cX7_see 14 = .ok (.iload_n 2, 1) := by decide +kernel
theorem dX7_see_15 : decode cX7_see 15 = .ok (.invokevirtual 116, 3) := by decide +kernel
theorem dX7_see_18 : decode cX7_see 18 = .ok (.ifCond .eq 5, 3) := by decide +kernel
theorem dX7_see_21 : decode cX7_see 21 = .ok (.iconst (-1), 1) := by decide +kernel
theorem dX7_see_22 : decode cX7_see 22 = .ok (.ireturn, 1) := by decide +kernel
theorem dX7_see_23 : decode cX7_see 23 = .ok (.iload_n 3, 1) := by decide +kernel
theorem dX7_see_24 : decode cX7_see 24 = .ok (.i2l, 1) := by decide +kernel
theorem dX7_see_25 : decode cX7_see 25 = .ok (.lconst 0, 1) := by decide +kernel
theorem dX7_see_26 : decode cX7_see 26 = .ok (.ldc2_w 160, 3) := by decide +kernel
theorem dX7_see_29 : decode cX7_see 29 = .ok (.invokestatic 57, 3) := by decide +kernel
theorem dX7_see_32 : decode cX7_see 32 = .ok (.ifCond .ne 6, 3) := by decide +kernel
theorem dX7_see_35 : decode cX7_see 35 = .ok (.bipush (-2), 2) := by decide +kernel
theorem dX7_see_37 : decode cX7_see 37 = .ok (.ireturn, 1) := by decide +kernel
theorem dX7_see_38 : decode cX7_see 38 = .ok (.aload_n 0, 1) := by decide +kernel
theorem dX7_see_39 : decode cX7_see 39 = .ok (.getfield 113, 3) := by decide +kernel
theorem dX7_see_42 : decode cX7_see 42 = .ok (.iconst 4, 1) := by decide +kernel
theorem dX7_see_43 : decode cX7_see 43 = .ok (.if_icmp .ne 6, 3) := by decide +kernel
theorem dX7_see_46 : decode cX7_see 46 = .ok (.bipush (-4), 2) := by decide +kernel
theorem dX7_see_48 : decode cX7_see 48 = .ok (.ireturn, 1) := by decide +kernel
theorem dX7_see_49 : decode cX7_see 49 = .ok (.aload_n 0, 1) := by decide +kernel
theorem dX7_see_50 : decode cX7_see 50 = .ok (.getfield 41, 3) := by decide +kernel
theorem dX7_see_53 : decode cX7_see 53 = .ok (.aload_n 0, 1) := by decide +kernel
theorem dX7_see_54 : decode cX7_see 54 = .ok (.getfield 113, 3) := by decide +kernel
theorem dX7_see_57 : decode cX7_see 57 = .ok (.iload_n 1, 1) := by decide +kernel
theorem dX7_see_58 : decode cX7_see 58 = .ok (.iastore, 1) := by decide +kernel
theorem dX7_see_59 : decode cX7_see 59 = .ok (.aload_n 0, 1) := by decide +kernel
theorem dX7_see_60 : decode cX7_see 60 = .ok (.getfield 44, 3) := by decide +kernel
theorem dX7_see_63 : decode cX7_see 63 = .ok (.aload_n 0, 1) := by decide +kernel
theorem dX7_see_64 : decode cX7_see 64 = .ok (.getfield 113, 3) := by decide +kernel
theorem dX7_see_67 : decode cX7_see 67 = .ok (.iload_n 2, 1) := by decide +kernel
theorem dX7_see_68 : decode cX7_see 68 = .ok (.iastore, 1) := by decide +kernel
theorem dX7_see_69 : decode cX7_see 69 = .ok (.aload_n 0, 1) := by decide +kernel
theorem dX7_see_70 : decode cX7_see 70 = .ok (.getfield 47, 3) := by decide +kernel
theorem dX7_see_73 : decode cX7_see 73 = .ok (.aload_n 0, 1) := by decide +kernel
theorem dX7_see_74 : decode cX7_see 74 = .ok (.getfield 113, 3) := by decide +kernel
theorem dX7_see_77 : decode cX7_see 77 = .ok (.iload_n 3, 1) := by decide +kernel
theorem dX7_see_78 : decode cX7_see 78 = .ok (.iastore, 1) := by decide +kernel
theorem dX7_see_79 : decode cX7_see 79 = .ok (.aload_n 0, 1) := by decide +kernel
theorem dX7_see_80 : decode cX7_see 80 = .ok (.dup, 1) := by decide +kernel
theorem dX7_see_81 : decode cX7_see 81 = .ok (.getfield 113, 3) := by decide +kernel
theorem dX7_see_84 : decode cX7_see 84 = .ok (.iconst 1, 1) := by decide +kernel
theorem dX7_see_85 : decode cX7_see 85 = .ok (.iadd, 1) := by decide +kernel
theorem dX7_see_86 : decode cX7_see 86 = .ok (.putfield 113, 3) := by decide +kernel
theorem dX7_see_89 : decode cX7_see 89 = .ok (.aload_n 0, 1) := by decide +kernel
theorem dX7_see_90 : decode cX7_see 90 = .ok (.getfield 113, 3) := by decide +kernel
theorem dX7_see_93 : decode cX7_see 93 = .ok (.ireturn, 1) := by decide +kernel
theorem dX7_unsee_0 : decode cX7_unsee 0 = .ok (.aload_n 0, 1) := by decide +kernel
theorem dX7_unsee_1 : decode cX7_unsee 1 = .ok (.iconst 0, 1) := by decide +kernel
theorem dX7_unsee_2 : decode cX7_unsee 2 = .ok (.putfield 50, 3) := by decide +kernel
theorem dX7_unsee_5 : decode cX7_unsee 5 = .ok (.aload_n 0, 1) := by decide +kernel
theorem dX7_unsee_6 : decode cX7_unsee 6 = .ok (.getfield 113, 3) := by decide +kernel
theorem dX7_unsee_9 : decode cX7_unsee 9 = .ok (.istore_n 1, 1) := by decide +kernel
theorem dX7_unsee_10 : decode cX7_unsee 10 = .ok (.aload_n 0, 1) := by decide +kernel
theorem dX7_unsee_11 : decode cX7_unsee 11 = .ok (.iconst 0, 1) := by decide +kernel
theorem dX7_unsee_12 : decode cX7_unsee 12 = .ok (.putfield 113, 3) := by decide +kernel
theorem dX7_unsee_15 : decode cX7_unsee 15 = .ok (.iload_n 1, 1) := by decide +kernel
theorem dX7_unsee_16 : decode cX7_unsee 16 = .ok (.ireturn, 1) := by decide +kernel
theorem dX7_looks_0 : decode cX7_looks 0 = .ok (.aload_n 0, 1) := by decide +kernel
theorem dX7_looks_1 : decode cX7_looks 1 = .ok (.getfield 41, 3) := by decide +kernel
theorem dX7_looks_4 : decode cX7_looks 4 = .ok (.iload_n 1, 1) := by decide +kernel
theorem dX7_looks_5 : decode cX7_looks 5 = .ok (.iaload, 1) := by decide +kernel
theorem dX7_looks_6 : decode cX7_looks 6 = .ok (.iload_n 2, 1) := by decide +kernel
theorem dX7_looks_7 : decode cX7_looks 7 = .ok (.if_icmp .ne 20, 3) := by decide +kernel
theorem dX7_looks_10 : decode cX7_looks 10 = .ok (.aload_n 0, 1) := by decide +kernel
theorem dX7_looks_11 : decode cX7_looks 11 = .ok (.getfield 44, 3) := by decide +kernel
theorem dX7_looks_14 : decode cX7_looks 14 = .ok (.iload_n 1, 1) := by decide +kernel
theorem dX7_looks_15 : decode cX7_looks 15 = .ok (.iaload, 1) := by decide +kernel
theorem dX7_looks_16 : decode cX7_looks 16 = .ok (.aload_n 0, 1) := by decide +kernel
theorem dX7_looks_17 : decode cX7_looks 17 = .ok (.getfield 54, 3) := by decide +kernel
theorem dX7_looks_20 : decode cX7_looks 20 = .ok (.if_icmp .ge 7, 3) := by decide +kernel
theorem dX7_looks_23 : decode cX7_looks 23 = .ok (.iconst 1, 1) := by decide +kernel
theorem dX7_looks_24 : decode cX7_looks 24 = .ok (.goto 4, 3) := by decide +kernel
theorem dX7_looks_27 : decode cX7_looks 27 = .ok (.iconst 0, 1) := by decide +kernel
theorem dX7_looks_28 : decode cX7_looks 28 = .ok (.ireturn, 1) := by decide +kernel
set_option maxRecDepth 20000 in
theorem ggX7_findWore_X7_looks : GoodIn wsX7_findWore wsX7_looks := goodIn_r _ [12, 13, 6, 4, 39, 40, 41, 42, 43, 44, 45, 46, 47, 48, 49, 50, 51, 52, 53, 54, 55, 56, 57, 58, 59, 60, 61, 62, 63, 64, 65, 66, 67, 68, 69] (by decide +kernel) (by decide +kernel)
set_option maxRecDepth 20000 in
theorem gX7_findWore_X7_looks : GoodIn wsX7_findWore (wsV RX7 184 RX7 yX7_looks wsX7_looks) := goodIn_app (goodIn_of _ (by decide +kernel)) ggX7_findWore_X7_looks
set_option maxRecDepth 20000 in
theorem ggX7_findWore_X7_power : GoodIn wsX7_findWore wsX7_power := goodIn_r _ [16] (by decide +kernel) (by decide +kernel)
set_option maxRecDepth 20000 in
theorem gX7_findWore_X7_power : GoodIn wsX7_findWore (va_wsS RX7 138 yX7_power wsX7_power) := goodIn_app (goodIn_of _ (by decide +kernel)) ggX7_findWore_X7_power
set_option maxRecDepth 20000 in
theorem ggX7_findWore_X7_begin : GoodIn wsX7_findWore wsX7_begin := goodIn_r _ [20, 5, 21, 39, 40, 41, 42, 43, 44, 45, 46, 47, 48, 49, 50, 51, 52, 53, 54, 55, 56, 57, 58, 59, 60, 61, 62, 63, 64, 65, 66, 67, 68, 69] (by decide +kernel) (by decide +kernel)
set_option maxRecDepth 20000 in
theorem gX7_findWore_X7_begin : GoodIn wsX7_findWore (wsV RX7 135 RX7 yX7_begin wsX7_begin) := goodIn_app (goodIn_of _ (by decide +kernel)) ggX7_findWore_X7_begin
set_option maxRecDepth 20000 in
theorem ggX7_findWore_X7_goHand : GoodIn wsX7_findWore wsX7_goHand := goodIn_r _ [25, 26, 27, 28, 29, 11, 30, 31, 32, 33, 34, 35, 36, 37, 38, 39, 40, 41, 42, 43, 44, 45, 46, 47, 48, 49, 50, 51, 52, 53, 54, 55, 56, 57, 58, 59, 60, 61, 62, 63, 64, 65, 66, 67, 68, 69] (by decide +kernel) (by decide +kernel)
set_option maxRecDepth 20000 in
theorem gX7_findWore_X7_goHand : GoodIn wsX7_findWore (wsV RX7 141 RX7 yX7_goHand wsX7_goHand) := goodIn_app (goodIn_of _ (by decide +kernel)) ggX7_findWore_X7_goHand
theorem dX7_findWore_0 : decode cX7_findWore 0 = .ok (.iconst 0, 1) := by decide +kernel
theorem dX7_findWore_1 : decode cX7_findWore 1 = .ok (.istore_n 2, 1) := by decide +kernel
theorem dX7_findWore_2 : decode cX7_findWore 2 = .ok (.iconst 0, 1) := by decide +kernel
theorem dX7_findWore_3 : decode cX7_findWore 3 = .ok (.istore_n 3, 1) := by decide +kernel
theorem dX7_findWore_4 : decode cX7_findWore 4 = .ok (.iload_n 3, 1) := by decide +kernel
theorem dX7_findWore_5 : decode cX7_findWore 5 = .ok (.aload_n 0, 1) := by decide +kernel
theorem dX7_findWore_6 : decode cX7_findWore 6 = .ok (.getfield 113, 3) := by decide +kernel
theorem dX7_findWore_9 : decode cX7_findWore 9 = .ok (.if_icmp .ge 26, 3) := by decide +kernel
theorem dX7_findWore_12 : decode cX7_findWore 12 = .ok (.iload_n 2, 1) := by decide +kernel
theorem dX7_findWore_13 : decode cX7_findWore 13 = .ok (.aload_n 0, 1) := by decide +kernel
theorem dX7_findWore_14 : decode cX7_findWore 14 = .ok (.iload_n 3, 1) := by decide +kernel
theorem dX7_findWore_15 : decode cX7_findWore 15 = .ok (.iload_n 1, 1) := by decide +kernel
theorem dX7_findWore_16 : decode cX7_findWore 16 = .ok (.invokevirtual 184, 3) := by decide +kernel
theorem dX7_findWore_19 : decode cX7_findWore 19 = .ok (.ifCond .eq 7, 3) := by decide +kernel
theorem dX7_findWore_22 : decode cX7_findWore 22 = .ok (.iconst 1, 1) := by decide +kernel
theorem dX7_findWore_23 : decode cX7_findWore 23 = .ok (.goto 4, 3) := by decide +kernel
theorem dX7_findWore_26 : decode cX7_findWore 26 = .ok (.iconst 0, 1) := by decide +kernel
theorem dX7_findWore_27 : decode cX7_findWore 27 = .ok (.iadd, 1) := by decide +kernel
theorem dX7_findWore_28 : decode cX7_findWore 28 = .ok (.istore_n 2, 1) := by decide +kernel
theorem dX7_findWore_29 : decode cX7_findWore 29 = .ok (.iinc 3 1, 3) := by decide +kernel
theorem dX7_findWore_32 : decode cX7_findWore 32 = .ok (.goto (-28), 3) := by decide +kernel
theorem dX7_findWore_35 : decode cX7_findWore 35 = .ok (.aload_n 0, 1) := by decide +kernel
theorem dX7_findWore_36 : decode cX7_findWore 36 = .ok (.iconst 0, 1) := by decide +kernel
theorem dX7_findWore_37 : decode cX7_findWore 37 = .ok (.putfield 187, 3) := by decide +kernel
theorem dX7_findWore_40 : decode cX7_findWore 40 = .ok (.aload_n 0, 1) := by decide +kernel
theorem dX7_findWore_41 : decode cX7_findWore 41 = .ok (.bipush (-9), 2) := by decide +kernel
theorem dX7_findWore_43 : decode cX7_findWore 43 = .ok (.putfield 190, 3) := by decide +kernel
theorem dX7_findWore_46 : decode cX7_findWore 46 = .ok (.iconst 0, 1) := by decide +kernel
theorem dX7_findWore_47 : decode cX7_findWore 47 = .ok (.istore_n 3, 1) := by decide +kernel
theorem dX7_findWore_48 : decode cX7_findWore 48 = .ok (.iload_n 3, 1) := by decide +kernel
theorem dX7_findWore_49 : decode cX7_findWore 49 = .ok (.aload_n 0, 1) := by decide +kernel
theorem dX7_findWore_50 : decode cX7_findWore 50 = .ok (.getfield 54, 3) := by decide +kernel
theorem dX7_findWore_53 : decode cX7_findWore 53 = .ok (.iload_n 2, 1) := by decide +kernel
theorem dX7_findWore_54 : decode cX7_findWore 54 = .ok (.invokestatic 138, 3) := by decide +kernel
theorem dX7_findWore_57 : decode cX7_findWore 57 = .ok (.if_icmp .ge 168, 3) := by decide +kernel
theorem dX7_findWore_60 : decode cX7_findWore 60 = .ok (.aload_n 0, 1) := by decide +kernel
theorem dX7_findWore_61 : decode cX7_findWore 61 = .ok (.invokevirtual 135, 3) := by decide +kernel
theorem dX7_findWore_64 : decode cX7_findWore 64 = .ok (.iload_n 2, 1) := by decide +kernel
theorem dX7_findWore_65 : decode cX7_findWore 65 = .ok (.istore 4, 2) := by decide +kernel
theorem dX7_findWore_67 : decode cX7_findWore 67 = .ok (.iconst 0, 1) := by decide +kernel
theorem dX7_findWore_68 : decode cX7_findWore 68 = .ok (.istore 5, 2) := by decide +kernel
theorem dX7_findWore_70 : decode cX7_findWore 70 = .ok (.iconst 1, 1) := by decide +kernel
theorem dX7_findWore_71 : decode cX7_findWore 71 = .ok (.istore 6, 2) := by decide +kernel
theorem dX7_findWore_73 : decode cX7_findWore 73 = .ok (.iconst 0, 1) := by decide +kernel
theorem dX7_findWore_74 : decode cX7_findWore 74 = .ok (.istore 7, 2) := by decide +kernel
theorem dX7_findWore_76 : decode cX7_findWore 76 = .ok (.iload 7, 2) := by decide +kernel
theorem dX7_findWore_78 : decode cX7_findWore 78 = .ok (.aload_n 0, 1) := by decide +kernel
theorem dX7_findWore_79 : decode cX7_findWore 79 = .ok (.getfield 113, 3) := by decide +kernel
theorem dX7_findWore_82 : decode cX7_findWore 82 = .ok (.if_icmp .ge 102, 3) := by decide +kernel
theorem dX7_findWore_85 : decode cX7_findWore 85 = .ok (.aload_n 0, 1) := by decide +kernel
theorem dX7_findWore_86 : decode cX7_findWore 86 = .ok (.iload 7, 2) := by decide +kernel
theorem dX7_findWore_88 : decode cX7_findWore 88 = .ok (.iload_n 1, 1) := by decide +kernel
theorem dX7_findWore_89 : decode cX7_findWore 89 = .ok (.invokevirtual 184, 3) := by decide +kernel
theorem dX7_findWore_92 : decode cX7_findWore 92 = .ok (.ifCond .eq 86, 3) := by decide +kernel
theorem dX7_findWore_95 : decode cX7_findWore 95 = .ok (.iinc 4 (-1), 3) := by decide +kernel
theorem dX7_findWore_98 : decode cX7_findWore 98 = .ok (.iload_n 3, 1) := by decide +kernel
theorem dX7_findWore_99 : decode cX7_findWore 99 = .ok (.aload_n 0, 1) := by decide +kernel
theorem dX7_findWore_100 : decode cX7_findWore 100 = .ok (.getfield 54, 3) := by decide +kernel
theorem dX7_findWore_103 : decode cX7_findWore 103 = .ok (.iload 4, 2) := by decide +kernel
theorem dX7_findWore_105 : decode cX7_findWore 105 = .ok (.invokestatic 138, 3) := by decide +kernel
theorem dX7_findWore_108 : decode cX7_findWore 108 = .ok (.idiv, 1) := by decide +kernel
theorem dX7_findWore_109 : decode cX7_findWore 109 = .ok (.aload_n 0, 1) := by decide +kernel
theorem dX7_findWore_110 : decode cX7_findWore 110 = .ok (.getfield 54, 3) := by decide +kernel
theorem dX7_findWore_113 : decode cX7_findWore 113 = .ok (.irem, 1) := by decide +kernel
theorem dX7_findWore_114 : decode cX7_findWore 114 = .ok (.istore 8, 2) := by decide +kernel
theorem dX7_findWore_116 : decode cX7_findWore 116 = .ok (.bipush 10, 2) := by decide +kernel
theorem dX7_findWore_118 : decode cX7_findWore 118 = .ok (.iload 5, 2) := by decide +kernel
theorem dX7_findWore_120 : decode cX7_findWore 120 = .ok (.imul, 1) := by decide +kernel
theorem dX7_findWore_121 : decode cX7_findWore 121 = .ok (.iload 8, 2) := by decide +kernel
theorem dX7_findWore_123 : decode cX7_findWore 123 = .ok (.iadd, 1) := by decide +kernel
theorem dX7_findWore_124 : decode cX7_findWore 124 = .ok (.iconst 1, 1) := by decide +kernel
theorem dX7_findWore_125 : decode cX7_findWore 125 = .ok (.iadd, 1) := by decide +kernel
theorem dX7_findWore_126 : decode cX7_findWore 126 = .ok (.istore 5, 2) := by decide +kernel
theorem dX7_findWore_128 : decode cX7_findWore 128 = .ok (.aload_n 0, 1) := by decide +kernel
theorem dX7_findWore_129 : decode cX7_findWore 129 = .ok (.aload_n 0, 1) := by decide +kernel
theorem dX7_findWore_130 : decode cX7_findWore 130 = .ok (.getfield 28, 3) := by decide +kernel
theorem dX7_findWore_133 : decode cX7_findWore 133 = .ok (.iload_n 1, 1) := by decide +kernel
theorem dX7_findWore_134 : decode cX7_findWore 134 = .ok (.iload 8, 2) := by decide +kernel
theorem dX7_findWore_136 : decode cX7_findWore 136 = .ok (.invokevirtual 141, 3) := by decide +kernel
theorem dX7_findWore_139 : decode cX7_findWore 139 = .ok (.pop, 1) := by decide +kernel
theorem dX7_findWore_140 : decode cX7_findWore 140 = .ok (.aload_n 0, 1) := by decide +kernel
theorem dX7_findWore_141 : decode cX7_findWore 141 = .ok (.aload_n 0, 1) := by decide +kernel
theorem dX7_findWore_142 : decode cX7_findWore 142 = .ok (.getfield 28, 3) := by decide +kernel
theorem dX7_findWore_145 : decode cX7_findWore 145 = .ok (.iload_n 1, 1) := by decide +kernel
theorem dX7_findWore_146 : decode cX7_findWore 146 = .ok (.aload_n 0, 1) := by decide +kernel
theorem dX7_findWore_147 : decode cX7_findWore 147 = .ok (.getfield 44, 3) := by decide +kernel
theorem dX7_findWore_150 : decode cX7_findWore 150 = .ok (.iload 7, 2) := by decide +kernel
theorem dX7_findWore_152 : decode cX7_findWore 152 = .ok (.iaload, 1) := by decide +kernel
theorem dX7_findWore_153 : decode cX7_findWore 153 = .ok (.invokevirtual 141, 3) := by decide +kernel
theorem dX7_findWore_156 : decode cX7_findWore 156 = .ok (.aload_n 0, 1) := by decide +kernel
theorem dX7_findWore_157 : decode cX7_findWore 157 = .ok (.getfield 47, 3) := by decide +kernel
theorem dX7_findWore_160 : decode cX7_findWore 160 = .ok (.iload 7, 2) := by decide +kernel
theorem dX7_findWore_162 : decode cX7_findWore 162 = .ok (.iaload, 1) := by decide +kernel
theorem dX7_findWore_163 : decode cX7_findWore 163 = .ok (.if_icmp .ne 12, 3) := by decide +kernel
theorem dX7_findWore_166 : decode cX7_findWore 166 = .ok (.iload 6, 2) := by decide +kernel
theorem dX7_findWore_168 : decode cX7_findWore 168 = .ok (.ifCond .eq 7, 3) := by decide +kernel
theorem dX7_findWore_171 : decode cX7_findWore 171 = .ok (.iconst 1, 1) := by decide +kernel
theorem dX7_findWore_172 : decode cX7_findWore 172 = .ok (.goto 4, 3) := by decide +kernel
theorem dX7_findWore_175 : decode cX7_findWore 175 = .ok (.iconst 0, 1) := by decide +kernel
theorem dX7_findWore_176 : decode cX7_findWore 176 = .ok (.istore 6, 2) := by decide +kernel
theorem dX7_findWore_178 : decode cX7_findWore 178 = .ok (.iinc 7 1, 3) := by decide +kernel
theorem dX7_findWore_181 : decode cX7_findWore 181 = .ok (.goto (-105), 3) := by decide +kernel
theorem dX7_findWore_184 : decode cX7_findWore 184 = .ok (.iload 6, 2) := by decide +kernel
theorem dX7_findWore_186 : decode cX7_findWore 186 = .ok (.ifCond .eq 33, 3) := by decide +kernel
theorem dX7_findWore_189 : decode cX7_findWore 189 = .ok (.aload_n 0, 1) := by decide +kernel
theorem dX7_findWore_190 : decode cX7_findWore 190 = .ok (.aload_n 0, 1) := by decide +kernel
theorem dX7_findWore_191 : decode cX7_findWore 191 = .ok (.getfield 187, 3) := by decide +kernel
theorem dX7_findWore_194 : decode cX7_findWore 194 = .ok (.ifCond .ne 8, 3) := by decide +kernel
theorem dX7_findWore_197 : decode cX7_findWore 197 = .ok (.iload 5, 2) := by decide +kernel
theorem dX7_findWore_199 : decode cX7_findWore 199 = .ok (.goto 7, 3) := by decide +kernel
theorem dX7_findWore_202 : decode cX7_findWore 202 = .ok (.aload_n 0, 1) := by decide +kernel
theorem dX7_findWore_203 : decode cX7_findWore 203 = .ok (.getfield 190, 3) := by decide +kernel
theorem dX7_findWore_206 : decode cX7_findWore 206 = .ok (.putfield 190, 3) := by decide +kernel
theorem dX7_findWore_209 : decode cX7_findWore 209 = .ok (.aload_n 0, 1) := by decide +kernel
theorem dX7_findWore_210 : decode cX7_findWore 210 = .ok (.dup, 1) := by decide +kernel
theorem dX7_findWore_211 : decode cX7_findWore 211 = .ok (.getfield 187, 3) := by decide +kernel
theorem dX7_findWore_214 : decode cX7_findWore 214 = .ok (.iconst 1, 1) := by decide +kernel
theorem dX7_findWore_215 : decode cX7_findWore 215 = .ok (.iadd, 1) := by decide +kernel
theorem dX7_findWore_216 : decode cX7_findWore 216 = .ok (.putfield 187, 3) := by decide +kernel
theorem dX7_findWore_219 : decode cX7_findWore 219 = .ok (.iinc 3 1, 3) := by decide +kernel
theorem dX7_findWore_222 : decode cX7_findWore 222 = .ok (.goto (-174), 3) := by decide +kernel
theorem dX7_findWore_225 : decode cX7_findWore 225 = .ok (.return_, 1) := by decide +kernel
set_option maxRecDepth 20000 in
theorem ggX7_wore_X7_noGlove : GoodIn wsX7_wore wsX7_noGlove := goodIn_r _ [9, 10, 11, 12, 8, 13, 56, 57, 58, 59, 60, 61, 62, 63, 64, 65, 66, 67, 68, 69, 70, 71, 72, 73, 74, 75, 76, 77, 78, 79, 80, 81, 82, 83, 84, 85, 86] (by decide +kernel) (by decide +kernel)
set_option maxRecDepth 20000 in
theorem gX7_wore_X7_noGlove : GoodIn wsX7_wore (wsV RX7 125 RX7 yX7_noGlove wsX7_noGlove) := goodIn_app (goodIn_of _ (by decide +kernel)) ggX7_wore_X7_noGlove
set_option maxRecDepth 20000 in
theorem ggX7_wore_X7_in : GoodIn wsX7_wore wsX7_in := goodIn_r _ [13] (by decide +kernel) (by decide +kernel)
set_option maxRecDepth 20000 in
theorem gX7_wore_X7_in : GoodIn wsX7_wore (va_wsS RX7 57 yX7_in wsX7_in) := goodIn_app (goodIn_of _ (by decide +kernel)) ggX7_wore_X7_in
set_option maxRecDepth 20000 in
theorem ggX7_wore_X7_isWorn : GoodIn wsX7_wore wsX7_isWorn := goodIn_r _ [17] (by decide +kernel) (by decide +kernel)
set_option maxRecDepth 20000 in
theorem gX7_wore_X7_isWorn : GoodIn wsX7_wore (wsV RX7 109 RX7 yX7_isWorn wsX7_isWorn) := goodIn_app (goodIn_of _ (by decide +kernel)) ggX7_wore_X7_isWorn
set_option maxRecDepth 20000 in
theorem ggX7_wore_X7_findWore : GoodIn wsX7_wore wsX7_findWore := goodIn_r _ [21, 22, 3, 4, 23, 24, 25, 26, 27, 28, 29, 8, 30, 31, 32, 33, 34, 35, 36, 37, 38, 2, 39, 40, 41, 42, 43, 44, 45, 46, 47, 48, 49, 50, 51, 52, 53, 54, 55, 56, 57, 58, 59, 60, 61, 62, 63, 64, 65, 66, 67, 68, 69, 70, 71, 72, 73, 74, 75, 76, 77, 78, 79, 80, 81, 82, 83, 84, 85, 86] (by decide +kernel) (by decide +kernel)
set_option maxRecDepth 20000 in
theorem gX7_wore_X7_findWore : GoodIn wsX7_wore (wsV RX7 193 RX7 yX7_findWore wsX7_findWore) := goodIn_app (goodIn_of _ (by decide +kernel)) ggX7_wore_X7_findWore
theorem dX7_wore_0 : decode cX7_wore 0 = .ok (.aload_n 0, 1) := by decide +kernel
theorem dX7_wore_1 : decode cX7_wore 1 = .ok (.iconst 0, 1) := by decide +kernel
theorem dX7_wore_2 : decode cX7_wore 2 = .ok (.putfield 50, 3) := by decide +kernel
theorem dX7_wore_5 : decode cX7_wore 5 = .ok (.aload_n 0, 1) := by decide +kernel
theorem dX7_wore_6 : decode cX7_wore 6 = .ok (.iload_n 1, 1) := by decide +kernel
theorem dX7_wore_7 : decode cX7_wore 7 = .ok (.invokevirtual 125, 3) := by decide +kernel
theorem dX7_wore_10 : decode cX7_wore 10 = .ok (.ifCond .eq 5, 3) := by decide +kernel
theorem dX7_wore_13 : decode cX7_wore 13 = .ok (.iconst (-1), 1) := by decide +kernel
theorem dX7_wore_14 : decode cX7_wore 14 = .ok (.ireturn, 1) := by decide +kernel
theorem dX7_wore_15 : decode cX7_wore 15 = .ok (.iload_n 2, 1) := by decide +kernel
theorem dX7_wore_16 : decode cX7_wore 16 = .ok (.i2l, 1) := by decide +kernel
theorem dX7_wore_17 : decode cX7_wore 17 = .ok (.lconst 0, 1) := by decide +kernel
theorem dX7_wore_18 : decode cX7_wore 18 = .ok (.lconst 1, 1) := by decide +kernel
theorem dX7_wore_19 : decode cX7_wore 19 = .ok (.invokestatic 57, 3) := by decide +kernel
theorem dX7_wore_22 : decode cX7_wore 22 = .ok (.ifCond .ne 6, 3) := by decide +kernel
theorem dX7_wore_25 : decode cX7_wore 25 = .ok (.bipush (-2), 2) := by decide +kernel
theorem dX7_wore_27 : decode cX7_wore 27 = .ok (.ireturn, 1) := by decide +kernel
theorem dX7_wore_28 : decode cX7_wore 28 = .ok (.aload_n 0, 1) := by decide +kernel
theorem dX7_wore_29 : decode cX7_wore 29 = .ok (.aload_n 0, 1) := by decide +kernel
theorem dX7_wore_30 : decode cX7_wore 30 = .ok (.getfield 25, 3) := by decide +kernel
theorem dX7_wore_33 : decode cX7_wore 33 = .ok (.iload_n 1, 1) := by decide +kernel
theorem dX7_wore_34 : decode cX7_wore 34 = .ok (.invokevirtual 109, 3) := by decide +kernel
theorem dX7_wore_37 : decode cX7_wore 37 = .ok (.ifCond .eq 6, 3) := by decide +kernel
theorem dX7_wore_40 : decode cX7_wore 40 = .ok (.bipush (-3), 2) := by decide +kernel
theorem dX7_wore_42 : decode cX7_wore 42 = .ok (.ireturn, 1) := by decide +kernel
theorem dX7_wore_43 : decode cX7_wore 43 = .ok (.aload_n 0, 1) := by decide +kernel
theorem dX7_wore_44 : decode cX7_wore 44 = .ok (.iload_n 1, 1) := by decide +kernel
theorem dX7_wore_45 : decode cX7_wore 45 = .ok (.invokevirtual 193, 3) := by decide +kernel
theorem dX7_wore_48 : decode cX7_wore 48 = .ok (.iload_n 2, 1) := by decide +kernel
theorem dX7_wore_49 : decode cX7_wore 49 = .ok (.ifCond .ne 10, 3) := by decide +kernel
theorem dX7_wore_52 : decode cX7_wore 52 = .ok (.aload_n 0, 1) := by decide +kernel
theorem dX7_wore_53 : decode cX7_wore 53 = .ok (.getfield 187, 3) := by decide +kernel
theorem dX7_wore_56 : decode cX7_wore 56 = .ok (.goto 7, 3) := by decide +kernel
theorem dX7_wore_59 : decode cX7_wore 59 = .ok (.aload_n 0, 1) := by decide +kernel
theorem dX7_wore_60 : decode cX7_wore 60 = .ok (.getfield 190, 3) := by decide +kernel
theorem dX7_wore_63 : decode cX7_wore 63 = .ok (.ireturn, 1) := by decide +kernel
set_option maxRecDepth 20000 in
theorem ggX7_worthTo_X7_doesOn : GoodIn wsX7_worthTo wsX7_doesOn := goodIn_r _ [7, 8, 2, 9, 10, 6, 11, 12, 13, 14, 15, 16, 17, 18, 19, 20, 21, 22, 23, 24, 25, 26, 27, 28, 29, 30, 31, 32, 33, 34, 35, 36, 37, 38, 39, 40, 41, 42] (by decide +kernel) (by decide +kernel)
set_option maxRecDepth 20000 in
theorem gX7_worthTo_X7_doesOn : GoodIn wsX7_worthTo (wsV RX7 105 RX7 yX7_doesOn wsX7_doesOn) := goodIn_app (goodIn_of _ (by decide +kernel)) ggX7_worthTo_X7_doesOn
theorem dX7_worthTo_0 : decode cX7_worthTo 0 = .ok (.aload_n 0, 1) := by decide +kernel
theorem dX7_worthTo_1 : decode cX7_worthTo 1 = .ok (.aload_n 0, 1) := by decide +kernel
theorem dX7_worthTo_2 : decode cX7_worthTo 2 = .ok (.getfield 25, 3) := by decide +kernel
theorem dX7_worthTo_5 : decode cX7_worthTo 5 = .ok (.iload_n 1, 1) := by decide +kernel
theorem dX7_worthTo_6 : decode cX7_worthTo 6 = .ok (.iload_n 2, 1) := by decide +kernel
theorem dX7_worthTo_7 : decode cX7_worthTo 7 = .ok (.invokevirtual 105, 3) := by decide +kernel
theorem dX7_worthTo_10 : decode cX7_worthTo 10 = .ok (.aload_n 0, 1) := by decide +kernel
theorem dX7_worthTo_11 : decode cX7_worthTo 11 = .ok (.getfield 13, 3) := by decide +kernel
theorem dX7_worthTo_14 : decode cX7_worthTo 14 = .ok (.iconst 3, 1) := by decide +kernel
theorem dX7_worthTo_15 : decode cX7_worthTo 15 = .ok (.iload_n 2, 1) := by decide +kernel
theorem dX7_worthTo_16 : decode cX7_worthTo 16 = .ok (.imul, 1) := by decide +kernel
theorem dX7_worthTo_17 : decode cX7_worthTo 17 = .ok (.iconst 1, 1) := by decide +kernel
theorem dX7_worthTo_18 : decode cX7_worthTo 18 = .ok (.iadd, 1) := by decide +kernel
theorem dX7_worthTo_19 : decode cX7_worthTo 19 = .ok (.iaload, 1) := by decide +kernel
theorem dX7_worthTo_20 : decode cX7_worthTo 20 = .ok (.if_icmp .ne 16, 3) := by decide +kernel
theorem dX7_worthTo_23 : decode cX7_worthTo 23 = .ok (.aload_n 0, 1) := by decide +kernel
theorem dX7_worthTo_24 : decode cX7_worthTo 24 = .ok (.getfield 13, 3) := by decide +kernel
theorem dX7_worthTo_27 : decode cX7_worthTo 27 = .ok (.iconst 3, 1) := by decide +kernel
theorem dX7_worthTo_28 : decode cX7_worthTo 28 = .ok (.iload_n 2, 1) := by decide +kernel
theorem dX7_worthTo_29 : decode cX7_worthTo 29 = .ok (.imul, 1) := by decide +kernel
theorem dX7_worthTo_30 : decode cX7_worthTo 30 = .ok (.iconst 2, 1) := by decide +kernel
theorem dX7_worthTo_31 : decode cX7_worthTo 31 = .ok (.iadd, 1) := by decide +kernel
theorem dX7_worthTo_32 : decode cX7_worthTo 32 = .ok (.iaload, 1) := by decide +kernel
theorem dX7_worthTo_33 : decode cX7_worthTo 33 = .ok (.goto 4, 3) := by decide +kernel
theorem dX7_worthTo_36 : decode cX7_worthTo 36 = .ok (.iconst 0, 1) := by decide +kernel
theorem dX7_worthTo_37 : decode cX7_worthTo 37 = .ok (.ireturn, 1) := by decide +kernel
set_option maxRecDepth 20000 in
theorem ggX7_findBids_X7_worthTo : GoodIn wsX7_findBids wsX7_worthTo := goodIn_r _ [7, 8, 9, 10, 11, 12, 6, 13, 14, 15, 16, 17, 18, 19, 20, 21, 22, 23, 24, 25, 26, 27, 28, 29, 30, 31, 32, 33, 34, 35, 36, 37, 38, 39, 40, 41, 42, 43, 44, 45, 46, 47, 48] (by decide +kernel) (by decide +kernel)
set_option maxRecDepth 20000 in
theorem gX7_findBids_X7_worthTo : GoodIn wsX7_findBids (wsV RX7 202 RX7 yX7_worthTo wsX7_worthTo) := goodIn_app (goodIn_of _ (by decide +kernel)) ggX7_findBids_X7_worthTo
theorem dX7_findBids_0 : decode cX7_findBids 0 = .ok (.aload_n 0, 1) := by decide +kernel
theorem dX7_findBids_1 : decode cX7_findBids 1 = .ok (.iconst 0, 1) := by decide +kernel
theorem dX7_findBids_2 : decode cX7_findBids 2 = .ok (.putfield 196, 3) := by decide +kernel
theorem dX7_findBids_5 : decode cX7_findBids 5 = .ok (.aload_n 0, 1) := by decide +kernel
theorem dX7_findBids_6 : decode cX7_findBids 6 = .ok (.bipush (-9), 2) := by decide +kernel
theorem dX7_findBids_8 : decode cX7_findBids 8 = .ok (.putfield 199, 3) := by decide +kernel
theorem dX7_findBids_11 : decode cX7_findBids 11 = .ok (.aload_n 0, 1) := by decide +kernel
theorem dX7_findBids_12 : decode cX7_findBids 12 = .ok (.iload_n 1, 1) := by decide +kernel
theorem dX7_findBids_13 : decode cX7_findBids 13 = .ok (.iload_n 2, 1) := by decide +kernel
theorem dX7_findBids_14 : decode cX7_findBids 14 = .ok (.invokevirtual 202, 3) := by decide +kernel
theorem dX7_findBids_17 : decode cX7_findBids 17 = .ok (.istore 4, 2) := by decide +kernel
theorem dX7_findBids_19 : decode cX7_findBids 19 = .ok (.aload_n 0, 1) := by decide +kernel
theorem dX7_findBids_20 : decode cX7_findBids 20 = .ok (.iload_n 1, 1) := by decide +kernel
theorem dX7_findBids_21 : decode cX7_findBids 21 = .ok (.iload_n 3, 1) := by decide +kernel
theorem dX7_findBids_22 : decode cX7_findBids 22 = .ok (.invokevirtual 202, 3) := by decide +kernel
theorem dX7_findBids_25 : decode cX7_findBids 25 = .ok (.istore 5, 2) := by decide +kernel
theorem dX7_findBids_27 : decode cX7_findBids 27 = .ok (.iconst 0, 1) := by decide +kernel
theorem dX7_findBids_28 : decode cX7_findBids 28 = .ok (.istore 6, 2) := by decide +kernel
theorem dX7_findBids_30 : decode cX7_findBids 30 = .ok (.iload 6, 2) := by decide +kernel
theorem dX7_findBids_32 : decode cX7_findBids 32 = .ok (.bipush 100, 2) := by decide +kernel
theorem dX7_findBids_34 : decode cX7_findBids 34 = .ok (.if_icmp .ge 176, 3) := by decide +kernel
theorem dX7_findBids_37 : decode cX7_findBids 37 = .ok (.iload 6, 2) := by decide +kernel
theorem dX7_findBids_39 : decode cX7_findBids 39 = .ok (.bipush 10, 2) := by decide +kernel
theorem dX7_findBids_41 : decode cX7_findBids 41 = .ok (.idiv, 1) := by decide +kernel
theorem dX7_findBids_42 : decode cX7_findBids 42 = .ok (.istore 7, 2) := by decide +kernel
theorem dX7_findBids_44 : decode cX7_findBids 44 = .ok (.iload 6, 2) := by decide +kernel
theorem dX7_findBids_46 : decode cX7_findBids 46 = .ok (.bipush 10, 2) := by decide +kernel
theorem dX7_findBids_48 : decode cX7_findBids 48 = .ok (.irem, 1) := by decide +kernel
theorem dX7_findBids_49 : decode cX7_findBids 49 = .ok (.istore 8, 2) := by decide +kernel
theorem dX7_findBids_51 : decode cX7_findBids 51 = .ok (.iload 7, 2) := by decide +kernel
theorem dX7_findBids_53 : decode cX7_findBids 53 = .ok (.iload 8, 2) := by decide +kernel
theorem dX7_findBids_55 : decode cX7_findBids 55 = .ok (.if_icmp .lt 11, 3) := by decide +kernel
theorem dX7_findBids_58 : decode cX7_findBids 58 = .ok (.iload 4, 2) := by decide +kernel
theorem dX7_findBids_60 : decode cX7_findBids 60 = .ok (.iload 7, 2) := by decide +kernel
theorem dX7_findBids_62 : decode cX7_findBids 62 = .ok (.isub, 1) := by decide +kernel
theorem dX7_findBids_63 : decode cX7_findBids 63 = .ok (.goto 4, 3) := by decide +kernel
theorem dX7_findBids_66 : decode cX7_findBids 66 = .ok (.iconst 0, 1) := by decide +kernel
theorem dX7_findBids_67 : decode cX7_findBids 67 = .ok (.istore 9, 2) := by decide +kernel
theorem dX7_findBids_69 : decode cX7_findBids 69 = .ok (.iload 7, 2) := by decide +kernel
theorem dX7_findBids_71 : decode cX7_findBids 71 = .ok (.iload 8, 2) := by decide +kernel
theorem dX7_findBids_73 : decode cX7_findBids 73 = .ok (.if_icmp .lt 7, 3) := by decide +kernel
theorem dX7_findBids_76 : decode cX7_findBids 76 = .ok (.iconst 0, 1) := by decide +kernel
theorem dX7_findBids_77 : decode cX7_findBids 77 = .ok (.goto 8, 3) := by decide +kernel
theorem dX7_findBids_80 : decode cX7_findBids 80 = .ok (.iload 5, 2) := by decide +kernel
theorem dX7_findBids_82 : decode cX7_findBids 82 = .ok (.iload 8, 2) := by decide +kernel
theorem dX7_findBids_84 : decode cX7_findBids 84 = .ok (.isub, 1) := by decide +kernel
theorem dX7_findBids_85 : decode cX7_findBids 85 = .ok (.istore 10, 2) := by decide +kernel
theorem dX7_findBids_87 : decode cX7_findBids 87 = .ok (.iconst 1, 1) := by decide +kernel
theorem dX7_findBids_88 : decode cX7_findBids 88 = .ok (.istore 11, 2) := by decide +kernel
theorem dX7_findBids_90 : decode cX7_findBids 90 = .ok (.iconst 0, 1) := by decide +kernel
theorem dX7_findBids_91 : decode cX7_findBids 91 = .ok (.istore 12, 2) := by decide +kernel
theorem dX7_findBids_93 : decode cX7_findBids 93 = .ok (.iload 12, 2) := by decide +kernel
theorem dX7_findBids_95 : decode cX7_findBids 95 = .ok (.bipush 10, 2) := by decide +kernel
theorem dX7_findBids_97 : decode cX7_findBids 97 = .ok (.if_icmp .ge 63, 3) := by decide +kernel
theorem dX7_findBids_100 : decode cX7_findBids 100 = .ok (.iload 11, 2) := by decide +kernel
theorem dX7_findBids_102 : decode cX7_findBids 102 = .ok (.ifCond .eq 49, 3) := by decide +kernel
theorem dX7_findBids_105 : decode cX7_findBids 105 = .ok (.iload 12, 2) := by decide +kernel
theorem dX7_findBids_107 : decode cX7_findBids 107 = .ok (.iload 8, 2) := by decide +kernel
theorem dX7_findBids_109 : decode cX7_findBids 109 = .ok (.if_icmp .lt 11, 3) := by decide +kernel
theorem dX7_findBids_112 : decode cX7_findBids 112 = .ok (.iload 4, 2) := by decide +kernel
theorem dX7_findBids_114 : decode cX7_findBids 114 = .ok (.iload 12, 2) := by decide +kernel
theorem dX7_findBids_116 : decode cX7_findBids 116 = .ok (.isub, 1) := by decide +kernel
theorem dX7_findBids_117 : decode cX7_findBids 117 = .ok (.goto 4, 3) := by decide +kernel
theorem dX7_findBids_120 : decode cX7_findBids 120 = .ok (.iconst 0, 1) := by decide +kernel
theorem dX7_findBids_121 : decode cX7_findBids 121 = .ok (.iload 9, 2) := by decide +kernel
theorem dX7_findBids_123 : decode cX7_findBids 123 = .ok (.if_icmp .gt 28, 3) := by decide +kernel
theorem dX7_findBids_126 : decode cX7_findBids 126 = .ok (.iload 7, 2) := by decide +kernel
theorem dX7_findBids_128 : decode cX7_findBids 128 = .ok (.iload 12, 2) := by decide +kernel
theorem dX7_findBids_130 : decode cX7_findBids 130 = .ok (.if_icmp .lt 7, 3) := by decide +kernel
theorem dX7_findBids_133 : decode cX7_findBids 133 = .ok (.iconst 0, 1) := by decide +kernel
theorem dX7_findBids_134 : decode cX7_findBids 134 = .ok (.goto 8, 3) := by decide +kernel
theorem dX7_findBids_137 : decode cX7_findBids 137 = .ok (.iload 5, 2) := by decide +kernel
theorem dX7_findBids_139 : decode cX7_findBids 139 = .ok (.iload 12, 2) := by decide +kernel
theorem dX7_findBids_141 : decode cX7_findBids 141 = .ok (.isub, 1) := by decide +kernel
theorem dX7_findBids_142 : decode cX7_findBids 142 = .ok (.iload 10, 2) := by decide +kernel
theorem dX7_findBids_144 : decode cX7_findBids 144 = .ok (.if_icmp .gt 7, 3) := by decide +kernel
theorem dX7_findBids_147 : decode cX7_findBids 147 = .ok (.iconst 1, 1) := by decide +kernel
theorem dX7_findBids_148 : decode cX7_findBids 148 = .ok (.goto 4, 3) := by decide +kernel
theorem dX7_findBids_151 : decode cX7_findBids 151 = .ok (.iconst 0, 1) := by decide +kernel
theorem dX7_findBids_152 : decode cX7_findBids 152 = .ok (.istore 11, 2) := by decide +kernel
theorem dX7_findBids_154 : decode cX7_findBids 154 = .ok (.iinc 12 1, 3) := by decide +kernel
theorem dX7_findBids_157 : decode cX7_findBids 157 = .ok (.goto (-64), 3) := by decide +kernel
theorem dX7_findBids_160 : decode cX7_findBids 160 = .ok (.aload_n 0, 1) := by decide +kernel
theorem dX7_findBids_161 : decode cX7_findBids 161 = .ok (.iload 11, 2) := by decide +kernel
theorem dX7_findBids_163 : decode cX7_findBids 163 = .ok (.ifCond .eq 15, 3) := by decide +kernel
theorem dX7_findBids_166 : decode cX7_findBids 166 = .ok (.aload_n 0, 1) := by decide +kernel
theorem dX7_findBids_167 : decode cX7_findBids 167 = .ok (.getfield 196, 3) := by decide +kernel
theorem dX7_findBids_170 : decode cX7_findBids 170 = .ok (.ifCond .ne 8, 3) := by decide +kernel
theorem dX7_findBids_173 : decode cX7_findBids 173 = .ok (.iload 6, 2) := by decide +kernel
theorem dX7_findBids_175 : decode cX7_findBids 175 = .ok (.goto 7, 3) := by decide +kernel
theorem dX7_findBids_178 : decode cX7_findBids 178 = .ok (.aload_n 0, 1) := by decide +kernel
theorem dX7_findBids_179 : decode cX7_findBids 179 = .ok (.getfield 199, 3) := by decide +kernel
theorem dX7_findBids_182 : decode cX7_findBids 182 = .ok (.putfield 199, 3) := by decide +kernel
theorem dX7_findBids_185 : decode cX7_findBids 185 = .ok (.aload_n 0, 1) := by decide +kernel
theorem dX7_findBids_186 : decode cX7_findBids 186 = .ok (.dup, 1) := by decide +kernel
theorem dX7_findBids_187 : decode cX7_findBids 187 = .ok (.getfield 196, 3) := by decide +kernel
theorem dX7_findBids_190 : decode cX7_findBids 190 = .ok (.iload 11, 2) := by decide +kernel
theorem dX7_findBids_192 : decode cX7_findBids 192 = .ok (.ifCond .eq 7, 3) := by decide +kernel
theorem dX7_findBids_195 : decode cX7_findBids 195 = .ok (.iconst 1, 1) := by decide +kernel
theorem dX7_findBids_196 : decode cX7_findBids 196 = .ok (.goto 4, 3) := by decide +kernel
theorem dX7_findBids_199 : decode cX7_findBids 199 = .ok (.iconst 0, 1) := by decide +kernel
theorem dX7_findBids_200 : decode cX7_findBids 200 = .ok (.iadd, 1) := by decide +kernel
theorem dX7_findBids_201 : decode cX7_findBids 201 = .ok (.putfield 196, 3) := by decide +kernel
theorem dX7_findBids_204 : decode cX7_findBids 204 = .ok (.iinc 6 1, 3) := by decide +kernel
theorem dX7_findBids_207 : decode cX7_findBids 207 = .ok (.goto (-177), 3) := by decide +kernel
theorem dX7_findBids_210 : decode cX7_findBids 210 = .ok (.return_, 1) := by decide +kernel
set_option maxRecDepth 20000 in
theorem ggX7_bids_X7_noGlove : GoodIn wsX7_bids wsX7_noGlove := goodIn_r _ [9, 10, 11, 12, 8, 13, 40, 41, 42, 43, 44, 45, 46, 47, 48, 49, 50, 51, 52, 53, 54, 55, 56, 57, 58, 59, 60, 61, 62, 63, 64, 65, 66, 67, 68, 69, 70] (by decide +kernel) (by decide +kernel)
set_option maxRecDepth 20000 in
theorem gX7_bids_X7_noGlove : GoodIn wsX7_bids (wsV RX7 125 RX7 yX7_noGlove wsX7_noGlove) := goodIn_app (goodIn_of _ (by decide +kernel)) ggX7_bids_X7_noGlove
set_option maxRecDepth 20000 in
theorem ggX7_bids_X7_noPerson : GoodIn wsX7_bids wsX7_noPerson := goodIn_r _ [17, 18, 11, 12, 8, 13, 40, 41, 42, 43, 44, 45, 46, 47, 48, 49, 50, 51, 52, 53, 54, 55, 56, 57, 58, 59, 60, 61, 62, 63, 64, 65, 66, 67, 68, 69, 70] (by decide +kernel) (by decide +kernel)
set_option maxRecDepth 20000 in
theorem gX7_bids_X7_noPerson : GoodIn wsX7_bids (wsV RX7 116 RX7 yX7_noPerson wsX7_noPerson) := goodIn_app (goodIn_of _ (by decide +kernel)) ggX7_bids_X7_noPerson
set_option maxRecDepth 20000 in
theorem ggX7_bids_X7_in : GoodIn wsX7_bids wsX7_in := goodIn_r _ [13] (by decide +kernel) (by decide +kernel)
set_option maxRecDepth 20000 in
theorem gX7_bids_X7_in : GoodIn wsX7_bids (va_wsS RX7 57 yX7_in wsX7_in) := goodIn_app (goodIn_of _ (by decide +kernel)) ggX7_bids_X7_in
set_option maxRecDepth 20000 in
theorem ggX7_bids_X7_isWorn : GoodIn wsX7_bids wsX7_isWorn := goodIn_r _ [22] (by decide +kernel) (by decide +kernel)
set_option maxRecDepth 20000 in
theorem gX7_bids_X7_isWorn : GoodIn wsX7_bids (wsV RX7 109 RX7 yX7_isWorn wsX7_isWorn) := goodIn_app (goodIn_of _ (by decide +kernel)) ggX7_bids_X7_isWorn
set_option maxRecDepth 20000 in
theorem ggX7_bids_X7_findBids : GoodIn wsX7_bids wsX7_findBids := goodIn_r _ [26, 3, 4, 27, 28, 29, 8, 30, 2, 31, 32, 33, 34, 35, 36, 37, 38, 39, 40, 41, 42, 43, 44, 45, 46, 47, 48, 49, 50, 51, 52, 53, 54, 55, 56, 57, 58, 59, 60, 61, 62, 63, 64, 65, 66, 67, 68, 69, 70] (by decide +kernel) (by decide +kernel)
set_option maxRecDepth 20000 in
theorem gX7_bids_X7_findBids : GoodIn wsX7_bids (wsV RX7 205 RX7 yX7_findBids wsX7_findBids) := goodIn_app (goodIn_of _ (by decide +kernel)) ggX7_bids_X7_findBids
theorem dX7_bids_0 : decode cX7_bids 0 = .ok (.aload_n 0, 1) := by decide +kernel
theorem dX7_bids_1 : decode cX7_bids 1 = .ok (.iconst 0, 1) := by decide +kernel
theorem dX7_bids_2 : decode cX7_bids 2 = .ok (.putfield 50, 3) := by decide +kernel
theorem dX7_bids_5 : decode cX7_bids 5 = .ok (.aload_n 0, 1) := by decide +kernel
theorem dX7_bids_6 : decode cX7_bids 6 = .ok (.iload_n 1, 1) := by decide +kernel
theorem dX7_bids_7 : decode cX7_bids 7 = .ok (.invokevirtual 125, 3) := by decide +kernel
theorem dX7_bids_10 : decode cX7_bids 10 = .ok (.ifCond .ne 19, 3) := by decide +kernel
theorem dX7_bids_13 : decode cX7_bids 13 = .ok (.aload_n 0, 1) := by decide +kernel
theorem dX7_bids_14 : decode cX7_bids 14 = .ok (.iload_n 2, 1) := by decide +kernel
theorem dX7_bids_15 : decode cX7_bids 15 = .ok (.invokevirtual 116, 3) := by decide +kernel
theorem dX7_bids_18 : decode cX7_bids 18 = .ok (.ifCond .ne 11, 3) := by decide +kernel
theorem dX7_bids_21 : decode cX7_bids 21 = .ok (.aload_n 0, 1) := by decide +kernel
theorem dX7_bids_22 : decode cX7_bids 22 = .ok (.iload_n 3, 1) := by decide +kernel
theorem dX7_bids_23 : decode cX7_bids 23 = .ok (.invokevirtual 116, 3) := by decide +kernel
theorem dX7_bids_26 : decode cX7_bids 26 = .ok (.ifCond .eq 5, 3) := by decide +kernel
theorem dX7_bids_29 : decode cX7_bids 29 = .ok (.iconst (-1), 1) := by decide +kernel
theorem dX7_bids_30 : decode cX7_bids 30 = .ok (.ireturn, 1) := by decide +kernel
theorem dX7_bids_31 : decode cX7_bids 31 = .ok (.iload_n 2, 1) := by decide +kernel
theorem dX7_bids_32 : decode cX7_bids 32 = .ok (.iload_n 3, 1) := by decide +kernel
theorem dX7_bids_33 : decode cX7_bids 33 = .ok (.if_icmp .eq 14, 3) := by decide +kernel
theorem dX7_bids_36 : decode cX7_bids 36 = .ok (.iload 4, 2) := by decide +kernel
theorem dX7_bids_38 : decode cX7_bids 38 = .ok (.i2l, 1) := by decide +kernel
theorem dX7_bids_39 : decode cX7_bids 39 = .ok (.lconst 0, 1) := by decide +kernel
theorem dX7_bids_40 : decode cX7_bids 40 = .ok (.lconst 1, 1) := by decide +kernel
theorem dX7_bids_41 : decode cX7_bids 41 = .ok (.invokestatic 57, 3) := by decide +kernel
theorem dX7_bids_44 : decode cX7_bids 44 = .ok (.ifCond .ne 6, 3) := by decide +kernel
theorem dX7_bids_47 : decode cX7_bids 47 = .ok (.bipush (-2), 2) := by decide +kernel
theorem dX7_bids_49 : decode cX7_bids 49 = .ok (.ireturn, 1) := by decide +kernel
theorem dX7_bids_50 : decode cX7_bids 50 = .ok (.aload_n 0, 1) := by decide +kernel
theorem dX7_bids_51 : decode cX7_bids 51 = .ok (.aload_n 0, 1) := by decide +kernel
theorem dX7_bids_52 : decode cX7_bids 52 = .ok (.getfield 25, 3) := by decide +kernel
theorem dX7_bids_55 : decode cX7_bids 55 = .ok (.iload_n 1, 1) := by decide +kernel
theorem dX7_bids_56 : decode cX7_bids 56 = .ok (.invokevirtual 109, 3) := by decide +kernel
theorem dX7_bids_59 : decode cX7_bids 59 = .ok (.ifCond .eq 6, 3) := by decide +kernel
theorem dX7_bids_62 : decode cX7_bids 62 = .ok (.bipush (-3), 2) := by decide +kernel
theorem dX7_bids_64 : decode cX7_bids 64 = .ok (.ireturn, 1) := by decide +kernel
theorem dX7_bids_65 : decode cX7_bids 65 = .ok (.aload_n 0, 1) := by decide +kernel
theorem dX7_bids_66 : decode cX7_bids 66 = .ok (.iload_n 1, 1) := by decide +kernel
theorem dX7_bids_67 : decode cX7_bids 67 = .ok (.iload_n 2, 1) := by decide +kernel
theorem dX7_bids_68 : decode cX7_bids 68 = .ok (.iload_n 3, 1) := by decide +kernel
theorem dX7_bids_69 : decode cX7_bids 69 = .ok (.invokevirtual 205, 3) := by decide +kernel
theorem dX7_bids_72 : decode cX7_bids 72 = .ok (.iload 4, 2) := by decide +kernel
theorem dX7_bids_74 : decode cX7_bids 74 = .ok (.ifCond .ne 10, 3) := by decide +kernel
theorem dX7_bids_77 : decode cX7_bids 77 = .ok (.aload_n 0, 1) := by decide +kernel
theorem dX7_bids_78 : decode cX7_bids 78 = .ok (.getfield 196, 3) := by decide +kernel
theorem dX7_bids_81 : decode cX7_bids 81 = .ok (.goto 7, 3) := by decide +kernel
theorem dX7_bids_84 : decode cX7_bids 84 = .ok (.aload_n 0, 1) := by decide +kernel
theorem dX7_bids_85 : decode cX7_bids 85 = .ok (.getfield 199, 3) := by decide +kernel
theorem dX7_bids_88 : decode cX7_bids 88 = .ok (.ireturn, 1) := by decide +kernel
theorem dX7_divisor_0 : decode cX7_divisor 0 = .ok (.iload_n 0, 1) := by decide +kernel
theorem dX7_divisor_1 : decode cX7_divisor 1 = .ok (.istore_n 2, 1) := by decide +kernel
theorem dX7_divisor_2 : decode cX7_divisor 2 = .ok (.iload_n 1, 1) := by decide +kernel
theorem dX7_divisor_3 : decode cX7_divisor 3 = .ok (.istore_n 3, 1) := by decide +kernel
theorem dX7_divisor_4 : decode cX7_divisor 4 = .ok (.iload_n 3, 1) := by decide +kernel
theorem dX7_divisor_5 : decode cX7_divisor 5 = .ok (.ifCond .eq 16, 3) := by decide +kernel
theorem dX7_divisor_8 : decode cX7_divisor 8 = .ok (.iload_n 2, 1) := by decide +kernel
theorem dX7_divisor_9 : decode cX7_divisor 9 = .ok (.iload_n 3, 1) := by decide +kernel
theorem dX7_divisor_10 : decode cX7_divisor 10 = .ok (.irem, 1) := by decide +kernel
theorem dX7_divisor_11 : decode cX7_divisor 11 = .ok (.istore 4, 2) := by decide +kernel
theorem dX7_divisor_13 : decode cX7_divisor 13 = .ok (.iload_n 3, 1) := by decide +kernel
theorem dX7_divisor_14 : decode cX7_divisor 14 = .ok (.istore_n 2, 1) := by decide +kernel
theorem dX7_divisor_15 : decode cX7_divisor 15 = .ok (.iload 4, 2) := by decide +kernel
theorem dX7_divisor_17 : decode cX7_divisor 17 = .ok (.istore_n 3, 1) := by decide +kernel
theorem dX7_divisor_18 : decode cX7_divisor 18 = .ok (.goto (-14), 3) := by decide +kernel
theorem dX7_divisor_21 : decode cX7_divisor 21 = .ok (.iload_n 2, 1) := by decide +kernel
theorem dX7_divisor_22 : decode cX7_divisor 22 = .ok (.ireturn, 1) := by decide +kernel
set_option maxRecDepth 20000 in
theorem ggX7_lost_X7_noGlove : GoodIn wsX7_lost wsX7_noGlove := goodIn_r _ [11, 12, 13, 14, 10, 15, 51, 52, 53, 54, 55, 56, 57, 58, 59, 60, 61, 62, 63, 64, 65, 66, 67, 68, 69, 70, 71, 72, 73, 74, 75, 76, 77, 78, 79, 80, 81] (by decide +kernel) (by decide +kernel)
set_option maxRecDepth 20000 in
theorem gX7_lost_X7_noGlove : GoodIn wsX7_lost (wsV RX7 125 RX7 yX7_noGlove wsX7_noGlove) := goodIn_app (goodIn_of _ (by decide +kernel)) ggX7_lost_X7_noGlove
set_option maxRecDepth 20000 in
theorem ggX7_lost_X7_noPerson : GoodIn wsX7_lost wsX7_noPerson := goodIn_r _ [19, 5, 13, 14, 10, 15, 51, 52, 53, 54, 55, 56, 57, 58, 59, 60, 61, 62, 63, 64, 65, 66, 67, 68, 69, 70, 71, 72, 73, 74, 75, 76, 77, 78, 79, 80, 81] (by decide +kernel) (by decide +kernel)
set_option maxRecDepth 20000 in
theorem gX7_lost_X7_noPerson : GoodIn wsX7_lost (wsV RX7 116 RX7 yX7_noPerson wsX7_noPerson) := goodIn_app (goodIn_of _ (by decide +kernel)) ggX7_lost_X7_noPerson
set_option maxRecDepth 20000 in
theorem ggX7_lost_X7_in : GoodIn wsX7_lost wsX7_in := goodIn_r _ [15] (by decide +kernel) (by decide +kernel)
set_option maxRecDepth 20000 in
theorem gX7_lost_X7_in : GoodIn wsX7_lost (va_wsS RX7 57 yX7_in wsX7_in) := goodIn_app (goodIn_of _ (by decide +kernel)) ggX7_lost_X7_in
set_option maxRecDepth 20000 in
theorem ggX7_lost_X7_isWorn : GoodIn wsX7_lost wsX7_isWorn := goodIn_r _ [23] (by decide +kernel) (by decide +kernel)
set_option maxRecDepth 20000 in
theorem gX7_lost_X7_isWorn : GoodIn wsX7_lost (wsV RX7 109 RX7 yX7_isWorn wsX7_isWorn) := goodIn_app (goodIn_of _ (by decide +kernel)) ggX7_lost_X7_isWorn
set_option maxRecDepth 20000 in
theorem ggX7_lost_X7_power : GoodIn wsX7_lost wsX7_power := goodIn_r _ [26] (by decide +kernel) (by decide +kernel)
set_option maxRecDepth 20000 in
theorem gX7_lost_X7_power : GoodIn wsX7_lost (va_wsS RX7 138 yX7_power wsX7_power) := goodIn_app (goodIn_of _ (by decide +kernel)) ggX7_lost_X7_power
set_option maxRecDepth 20000 in
theorem ggX7_lost_X7_begin : GoodIn wsX7_lost wsX7_begin := goodIn_r _ [30, 6, 4, 51, 52, 53, 54, 55, 56, 57, 58, 59, 60, 61, 62, 63, 64, 65, 66, 67, 68, 69, 70, 71, 72, 73, 74, 75, 76, 77, 78, 79, 80, 81] (by decide +kernel) (by decide +kernel)
set_option maxRecDepth 20000 in
theorem gX7_lost_X7_begin : GoodIn wsX7_lost (wsV RX7 135 RX7 yX7_begin wsX7_begin) := goodIn_app (goodIn_of _ (by decide +kernel)) ggX7_lost_X7_begin
set_option maxRecDepth 20000 in
theorem ggX7_lost_X7_goHand : GoodIn wsX7_lost wsX7_goHand := goodIn_r _ [34, 35, 36, 37, 38, 10, 39, 40, 41, 42, 43, 44, 45, 46, 47, 51, 52, 53, 54, 55, 56, 57, 58, 59, 60, 61, 62, 63, 64, 65, 66, 67, 68, 69, 70, 71, 72, 73, 74, 75, 76, 77, 78, 79, 80, 81] (by decide +kernel) (by decide +kernel)
set_option maxRecDepth 20000 in
theorem gX7_lost_X7_goHand : GoodIn wsX7_lost (wsV RX7 141 RX7 yX7_goHand wsX7_goHand) := goodIn_app (goodIn_of _ (by decide +kernel)) ggX7_lost_X7_goHand
set_option maxRecDepth 20000 in
theorem ggX7_lost_X7_doesOn : GoodIn wsX7_lost wsX7_doesOn := goodIn_r _ [39, 40, 35, 41, 42, 10, 43, 51, 52, 53, 54, 55, 56, 57, 58, 59, 60, 61, 62, 63, 64, 65, 66, 67, 68, 69, 70, 71, 72, 73, 74, 75, 76, 77, 78, 79, 80, 81] (by decide +kernel) (by decide +kernel)
set_option maxRecDepth 20000 in
theorem gX7_lost_X7_doesOn : GoodIn wsX7_lost (wsV RX7 105 RX7 yX7_doesOn wsX7_doesOn) := goodIn_app (goodIn_of _ (by decide +kernel)) ggX7_lost_X7_doesOn
set_option maxRecDepth 20000 in
theorem ggX7_lost_X7_divisor : GoodIn wsX7_lost wsX7_divisor := goodIn_r _ [50] (by decide +kernel) (by decide +kernel)
set_option maxRecDepth 20000 in
theorem gX7_lost_X7_divisor : GoodIn wsX7_lost (va_wsS RX7 209 yX7_divisor wsX7_divisor) := goodIn_app (goodIn_of _ (by decide +kernel)) ggX7_lost_X7_divisor
theorem dX7_lost_0 : decode cX7_lost 0 = .ok (.aload_n 0, 1) := by decide +kernel
theorem dX7_lost_1 : decode cX7_lost 1 = .ok (.iconst 0, 1) := by decide +kernel
theorem dX7_lost_2 : decode cX7_lost 2 = .ok (.putfield 50, 3) := by decide +kernel
theorem dX7_lost_5 : decode cX7_lost 5 = .ok (.aload_n 0, 1) := by decide +kernel
theorem dX7_lost_6 : decode cX7_lost 6 = .ok (.iload_n 1, 1) := by decide +kernel
theorem dX7_lost_7 : decode cX7_lost 7 = .ok (.invokevirtual 125, 3) := by decide +kernel
theorem dX7_lost_10 : decode cX7_lost 10 = .ok (.ifCond .ne 11, 3) := by decide +kernel
theorem dX7_lost_13 : decode cX7_lost 13 = .ok (.aload_n 0, 1) := by decide +kernel
theorem dX7_lost_14 : decode cX7_lost 14 = .ok (.iload_n 2, 1) := by decide +kernel
theorem dX7_lost_15 : decode cX7_lost 15 = .ok (.invokevirtual 116, 3) := by decide +kernel
theorem dX7_lost_18 : decode cX7_lost 18 = .ok (.ifCond .eq 5, 3) := by decide +kernel
theorem dX7_lost_21 : decode cX7_lost 21 = .ok (.iconst (-1), 1) := by decide +kernel
theorem dX7_lost_22 : decode cX7_lost 22 = .ok (.ireturn, 1) := by decide +kernel
theorem dX7_lost_23 : decode cX7_lost 23 = .ok (.iload_n 3, 1) := by decide +kernel
theorem dX7_lost_24 : decode cX7_lost 24 = .ok (.i2l, 1) := by decide +kernel
theorem dX7_lost_25 : decode cX7_lost 25 = .ok (.lconst 0, 1) := by decide +kernel
theorem dX7_lost_26 : decode cX7_lost 26 = .ok (.ldc2_w 160, 3) := by decide +kernel
theorem dX7_lost_29 : decode cX7_lost 29 = .ok (.invokestatic 57, 3) := by decide +kernel
theorem dX7_lost_32 : decode cX7_lost 32 = .ok (.ifCond .eq 16, 3) := by decide +kernel
theorem dX7_lost_35 : decode cX7_lost 35 = .ok (.iload 4, 2) := by decide +kernel
theorem dX7_lost_37 : decode cX7_lost 37 = .ok (.i2l, 1) := by decide +kernel
theorem dX7_lost_38 : decode cX7_lost 38 = .ok (.lconst 0, 1) := by decide +kernel
theorem dX7_lost_39 : decode cX7_lost 39 = .ok (.ldc2_w 179, 3) := by decide +kernel
theorem dX7_lost_42 : decode cX7_lost 42 = .ok (.invokestatic 57, 3) := by decide +kernel
theorem dX7_lost_45 : decode cX7_lost 45 = .ok (.ifCond .ne 6, 3) := by decide +kernel
theorem dX7_lost_48 : decode cX7_lost 48 = .ok (.bipush (-2), 2) := by decide +kernel
theorem dX7_lost_50 : decode cX7_lost 50 = .ok (.ireturn, 1) := by decide +kernel
theorem dX7_lost_51 : decode cX7_lost 51 = .ok (.aload_n 0, 1) := by decide +kernel
theorem dX7_lost_52 : decode cX7_lost 52 = .ok (.aload_n 0, 1) := by decide +kernel
theorem dX7_lost_53 : decode cX7_lost 53 = .ok (.getfield 25, 3) := by decide +kernel
theorem dX7_lost_56 : decode cX7_lost 56 = .ok (.iload_n 1, 1) := by decide +kernel
theorem dX7_lost_57 : decode cX7_lost 57 = .ok (.invokevirtual 109, 3) := by decide +kernel
theorem dX7_lost_60 : decode cX7_lost 60 = .ok (.ifCond .eq 6, 3) := by decide +kernel
theorem dX7_lost_63 : decode cX7_lost 63 = .ok (.bipush (-3), 2) := by decide +kernel
theorem dX7_lost_65 : decode cX7_lost 65 = .ok (.ireturn, 1) := by decide +kernel
theorem dX7_lost_66 : decode cX7_lost 66 = .ok (.iconst 0, 1) := by decide +kernel
theorem dX7_lost_67 : decode cX7_lost 67 = .ok (.istore 6, 2) := by decide +kernel
theorem dX7_lost_69 : decode cX7_lost 69 = .ok (.aload_n 0, 1) := by decide +kernel
theorem dX7_lost_70 : decode cX7_lost 70 = .ok (.getfield 54, 3) := by decide +kernel
theorem dX7_lost_73 : decode cX7_lost 73 = .ok (.iload 4, 2) := by decide +kernel
theorem dX7_lost_75 : decode cX7_lost 75 = .ok (.invokestatic 138, 3) := by decide +kernel
theorem dX7_lost_78 : decode cX7_lost 78 = .ok (.istore 7, 2) := by decide +kernel
theorem dX7_lost_80 : decode cX7_lost 80 = .ok (.iconst 0, 1) := by decide +kernel
theorem dX7_lost_81 : decode cX7_lost 81 = .ok (.istore 8, 2) := by decide +kernel
theorem dX7_lost_83 : decode cX7_lost 83 = .ok (.iload 8, 2) := by decide +kernel
theorem dX7_lost_85 : decode cX7_lost 85 = .ok (.iload 7, 2) := by decide +kernel
theorem dX7_lost_87 : decode cX7_lost 87 = .ok (.if_icmp .ge 81, 3) := by decide +kernel
theorem dX7_lost_90 : decode cX7_lost 90 = .ok (.aload_n 0, 1) := by decide +kernel
theorem dX7_lost_91 : decode cX7_lost 91 = .ok (.invokevirtual 135, 3) := by decide +kernel
theorem dX7_lost_94 : decode cX7_lost 94 = .ok (.iload 4, 2) := by decide +kernel
theorem dX7_lost_96 : decode cX7_lost 96 = .ok (.iconst 1, 1) := by decide +kernel
theorem dX7_lost_97 : decode cX7_lost 97 = .ok (.isub, 1) := by decide +kernel
theorem dX7_lost_98 : decode cX7_lost 98 = .ok (.istore 9, 2) := by decide +kernel
theorem dX7_lost_100 : decode cX7_lost 100 = .ok (.iload 9, 2) := by decide +kernel
theorem dX7_lost_102 : decode cX7_lost 102 = .ok (.ifCond .lt 36, 3) := by decide +kernel
theorem dX7_lost_105 : decode cX7_lost 105 = .ok (.aload_n 0, 1) := by decide +kernel
theorem dX7_lost_106 : decode cX7_lost 106 = .ok (.aload_n 0, 1) := by decide +kernel
theorem dX7_lost_107 : decode cX7_lost 107 = .ok (.getfield 28, 3) := by decide +kernel
theorem dX7_lost_110 : decode cX7_lost 110 = .ok (.iload_n 1, 1) := by decide +kernel
theorem dX7_lost_111 : decode cX7_lost 111 = .ok (.iload 8, 2) := by decide +kernel
theorem dX7_lost_113 : decode cX7_lost 113 = .ok (.aload_n 0, 1) := by decide +kernel
theorem dX7_lost_114 : decode cX7_lost 114 = .ok (.getfield 54, 3) := by decide +kernel
theorem dX7_lost_117 : decode cX7_lost 117 = .ok (.iload 9, 2) := by decide +kernel
theorem dX7_lost_119 : decode cX7_lost 119 = .ok (.invokestatic 138, 3) := by decide +kernel
theorem dX7_lost_122 : decode cX7_lost 122 = .ok (.idiv, 1) := by decide +kernel
theorem dX7_lost_123 : decode cX7_lost 123 = .ok (.aload_n 0, 1) := by decide +kernel
theorem dX7_lost_124 : decode cX7_lost 124 = .ok (.getfield 54, 3) := by decide +kernel
theorem dX7_lost_127 : decode cX7_lost 127 = .ok (.irem, 1) := by decide +kernel
theorem dX7_lost_128 : decode cX7_lost 128 = .ok (.invokevirtual 141, 3) := by decide +kernel
theorem dX7_lost_131 : decode cX7_lost 131 = .ok (.pop, 1) := by decide +kernel
theorem dX7_lost_132 : decode cX7_lost 132 = .ok (.iinc 9 (-1), 3) := by decide +kernel
theorem dX7_lost_135 : decode cX7_lost 135 = .ok (.goto (-35), 3) := by decide +kernel
theorem dX7_lost_138 : decode cX7_lost 138 = .ok (.iload 6, 2) := by decide +kernel
theorem dX7_lost_140 : decode cX7_lost 140 = .ok (.aload_n 0, 1) := by decide +kernel
theorem dX7_lost_141 : decode cX7_lost 141 = .ok (.aload_n 0, 1) := by decide +kernel
theorem dX7_lost_142 : decode cX7_lost 142 = .ok (.getfield 28, 3) := by decide +kernel
theorem dX7_lost_145 : decode cX7_lost 145 = .ok (.iload_n 1, 1) := by decide +kernel
theorem dX7_lost_146 : decode cX7_lost 146 = .ok (.iload_n 2, 1) := by decide +kernel
theorem dX7_lost_147 : decode cX7_lost 147 = .ok (.invokevirtual 105, 3) := by decide +kernel
theorem dX7_lost_150 : decode cX7_lost 150 = .ok (.iload_n 3, 1) := by decide +kernel
theorem dX7_lost_151 : decode cX7_lost 151 = .ok (.if_icmp .ne 7, 3) := by decide +kernel
theorem dX7_lost_154 : decode cX7_lost 154 = .ok (.iconst 1, 1) := by decide +kernel
theorem dX7_lost_155 : decode cX7_lost 155 = .ok (.goto 4, 3) := by decide +kernel
theorem dX7_lost_158 : decode cX7_lost 158 = .ok (.iconst 0, 1) := by decide +kernel
theorem dX7_lost_159 : decode cX7_lost 159 = .ok (.iadd, 1) := by decide +kernel
theorem dX7_lost_160 : decode cX7_lost 160 = .ok (.istore 6, 2) := by decide +kernel
theorem dX7_lost_162 : decode cX7_lost 162 = .ok (.iinc 8 1, 3) := by decide +kernel
theorem dX7_lost_165 : decode cX7_lost 165 = .ok (.goto (-82), 3) := by decide +kernel
theorem dX7_lost_168 : decode cX7_lost 168 = .ok (.iload 6, 2) := by decide +kernel
theorem dX7_lost_170 : decode cX7_lost 170 = .ok (.iload 7, 2) := by decide +kernel
theorem dX7_lost_172 : decode cX7_lost 172 = .ok (.invokestatic 209, 3) := by decide +kernel
theorem dX7_lost_175 : decode cX7_lost 175 = .ok (.istore 8, 2) := by decide +kernel
theorem dX7_lost_177 : decode cX7_lost 177 = .ok (.iload 5, 2) := by decide +kernel
theorem dX7_lost_179 : decode cX7_lost 179 = .ok (.ifCond .eq 11, 3) := by decide +kernel
theorem dX7_lost_182 : decode cX7_lost 182 = .ok (.iload 6, 2) := by decide +kernel
theorem dX7_lost_184 : decode cX7_lost 184 = .ok (.iload 8, 2) := by decide +kernel
theorem dX7_lost_186 : decode cX7_lost 186 = .ok (.idiv, 1) := by decide +kernel
theorem dX7_lost_187 : decode cX7_lost 187 = .ok (.goto 8, 3) := by decide +kernel
theorem dX7_lost_190 : decode cX7_lost 190 = .ok (.iload 7, 2) := by decide +kernel
theorem dX7_lost_192 : decode cX7_lost 192 = .ok (.iload 8, 2) := by decide +kernel
theorem dX7_lost_194 : decode cX7_lost 194 = .ok (.idiv, 1) := by decide +kernel
theorem dX7_lost_195 : decode cX7_lost 195 = .ok (.ireturn, 1) := by decide +kernel
theorem dX7_seed_0 : decode cX7_seed 0 = .ok (.aload_n 0, 1) := by decide +kernel
theorem dX7_seed_1 : decode cX7_seed 1 = .ok (.iconst 0, 1) := by decide +kernel
theorem dX7_seed_2 : decode cX7_seed 2 = .ok (.putfield 50, 3) := by decide +kernel
theorem dX7_seed_5 : decode cX7_seed 5 = .ok (.aload_n 0, 1) := by decide +kernel
theorem dX7_seed_6 : decode cX7_seed 6 = .ok (.getfield 212, 3) := by decide +kernel
theorem dX7_seed_9 : decode cX7_seed 9 = .ok (.lstore_n 3, 1) := by decide +kernel
theorem dX7_seed_10 : decode cX7_seed 10 = .ok (.aload_n 0, 1) := by decide +kernel
theorem dX7_seed_11 : decode cX7_seed 11 = .ok (.lload_n 1, 1) := by decide +kernel
theorem dX7_seed_12 : decode cX7_seed 12 = .ok (.putfield 212, 3) := by decide +kernel
theorem dX7_seed_15 : decode cX7_seed 15 = .ok (.lload_n 3, 1) := by decide +kernel
theorem dX7_seed_16 : decode cX7_seed 16 = .ok (.lreturn, 1) := by decide +kernel
set_option maxRecDepth 20000 in
theorem ggX7_weeks_X7_in : GoodIn wsX7_weeks wsX7_in := goodIn_r _ [14] (by decide +kernel) (by decide +kernel)
set_option maxRecDepth 20000 in
theorem gX7_weeks_X7_in : GoodIn wsX7_weeks (va_wsS RX7 57 yX7_in wsX7_in) := goodIn_app (goodIn_of _ (by decide +kernel)) ggX7_weeks_X7_in
set_option maxRecDepth 20000 in
theorem ggX7_weeks_X7_begin : GoodIn wsX7_weeks wsX7_begin := goodIn_r _ [18, 9, 19, 44, 45, 46, 47, 48, 49, 50, 51, 52, 53, 54, 55, 56, 57, 58, 59, 60, 61, 62, 63, 64, 65, 66, 67, 68, 69, 70, 71, 72, 73, 74] (by decide +kernel) (by decide +kernel)
set_option maxRecDepth 20000 in
theorem gX7_weeks_X7_begin : GoodIn wsX7_weeks (wsV RX7 135 RX7 yX7_begin wsX7_begin) := goodIn_app (goodIn_of _ (by decide +kernel)) ggX7_weeks_X7_begin
set_option maxRecDepth 20000 in
theorem ggX7_weeks_X7_isWorn : GoodIn wsX7_weeks wsX7_isWorn := goodIn_r _ [23] (by decide +kernel) (by decide +kernel)
set_option maxRecDepth 20000 in
theorem gX7_weeks_X7_isWorn : GoodIn wsX7_weeks (wsV RX7 109 RX7 yX7_isWorn wsX7_isWorn) := goodIn_app (goodIn_of _ (by decide +kernel)) ggX7_weeks_X7_isWorn
set_option maxRecDepth 20000 in
theorem ggX7_weeks_X7_wears : GoodIn wsX7_weeks wsX7_wears := goodIn_r _ [27, 7, 44, 45, 46, 47, 48, 49, 50, 51, 52, 53, 54, 55, 56, 57, 58, 59, 60, 61, 62, 63, 64, 65, 66, 67, 68, 69, 70, 71, 72, 73, 74] (by decide +kernel) (by decide +kernel)
set_option maxRecDepth 20000 in
theorem gX7_weeks_X7_wears : GoodIn wsX7_weeks (wsV RX7 122 RX7 yX7_wears wsX7_wears) := goodIn_app (goodIn_of _ (by decide +kernel)) ggX7_weeks_X7_wears
set_option maxRecDepth 20000 in
theorem ggX7_weeks_X7_goHand : GoodIn wsX7_weeks wsX7_goHand := goodIn_r _ [31, 10, 32, 33, 34, 13, 35, 36, 37, 38, 39, 40, 41, 42, 43, 44, 45, 46, 47, 48, 49, 50, 51, 52, 53, 54, 55, 56, 57, 58, 59, 60, 61, 62, 63, 64, 65, 66, 67, 68, 69, 70, 71, 72, 73, 74] (by decide +kernel) (by decide +kernel)
set_option maxRecDepth 20000 in
theorem gX7_weeks_X7_goHand : GoodIn wsX7_weeks (wsV RX7 141 RX7 yX7_goHand wsX7_goHand) := goodIn_app (goodIn_of _ (by decide +kernel)) ggX7_weeks_X7_goHand
theorem dX7_weeks_0 : decode cX7_weeks 0 = .ok (.aload_n 0, 1) := by decide +kernel
theorem dX7_weeks_1 : decode cX7_weeks 1 = .ok (.iconst 0, 1) := by decide +kernel
theorem dX7_weeks_2 : decode cX7_weeks 2 = .ok (.putfield 50, 3) := by decide +kernel
theorem dX7_weeks_5 : decode cX7_weeks 5 = .ok (.iload_n 1, 1) := by decide +kernel
theorem dX7_weeks_6 : decode cX7_weeks 6 = .ok (.i2l, 1) := by decide +kernel
theorem dX7_weeks_7 : decode cX7_weeks 7 = .ok (.lconst 1, 1) := by decide +kernel
theorem dX7_weeks_8 : decode cX7_weeks 8 = .ok (.ldc2_w 216, 3) := by decide +kernel
theorem dX7_weeks_11 : decode cX7_weeks 11 = .ok (.invokestatic 57, 3) := by decide +kernel
theorem dX7_weeks_14 : decode cX7_weeks 14 = .ok (.ifCond .ne 6, 3) := by decide +kernel
theorem dX7_weeks_17 : decode cX7_weeks 17 = .ok (.bipush (-2), 2) := by decide +kernel
theorem dX7_weeks_19 : decode cX7_weeks 19 = .ok (.ireturn, 1) := by decide +kernel
theorem dX7_weeks_20 : decode cX7_weeks 20 = .ok (.aload_n 0, 1) := by decide +kernel
theorem dX7_weeks_21 : decode cX7_weeks 21 = .ok (.invokevirtual 135, 3) := by decide +kernel
theorem dX7_weeks_24 : decode cX7_weeks 24 = .ok (.iconst 0, 1) := by decide +kernel
theorem dX7_weeks_25 : decode cX7_weeks 25 = .ok (.istore_n 2, 1) := by decide +kernel
theorem dX7_weeks_26 : decode cX7_weeks 26 = .ok (.iconst 0, 1) := by decide +kernel
theorem dX7_weeks_27 : decode cX7_weeks 27 = .ok (.istore_n 3, 1) := by decide +kernel
theorem dX7_weeks_28 : decode cX7_weeks 28 = .ok (.iload_n 3, 1) := by decide +kernel
theorem dX7_weeks_29 : decode cX7_weeks 29 = .ok (.iload_n 1, 1) := by decide +kernel
theorem dX7_weeks_30 : decode cX7_weeks 30 = .ok (.if_icmp .ge 131, 3) := by decide +kernel
theorem dX7_weeks_33 : decode cX7_weeks 33 = .ok (.aload_n 0, 1) := by decide +kernel
theorem dX7_weeks_34 : decode cX7_weeks 34 = .ok (.aload_n 0, 1) := by decide +kernel
theorem dX7_weeks_35 : decode cX7_weeks 35 = .ok (.getfield 212, 3) := by decide +kernel
theorem dX7_weeks_38 : decode cX7_weeks 38 = .ok (.ldc2_w 218, 3) := by decide +kernel
theorem dX7_weeks_41 : decode cX7_weeks 41 = .ok (.lmul, 1) := by decide +kernel
theorem dX7_weeks_42 : decode cX7_weeks 42 = .ok (.ldc2_w 220, 3) := by decide +kernel
theorem dX7_weeks_45 : decode cX7_weeks 45 = .ok (.ladd, 1) := by decide +kernel
theorem dX7_weeks_46 : decode cX7_weeks 46 = .ok (.putfield 212, 3) := by decide +kernel
theorem dX7_weeks_49 : decode cX7_weeks 49 = .ok (.aload_n 0, 1) := by decide +kernel
theorem dX7_weeks_50 : decode cX7_weeks 50 = .ok (.getfield 212, 3) := by decide +kernel
theorem dX7_weeks_53 : decode cX7_weeks 53 = .ok (.bipush 33, 2) := by decide +kernel
theorem dX7_weeks_55 : decode cX7_weeks 55 = .ok (.lushr, 1) := by decide +kernel
theorem dX7_weeks_56 : decode cX7_weeks 56 = .ok (.ldc2_w 222, 3) := by decide +kernel
theorem dX7_weeks_59 : decode cX7_weeks 59 = .ok (.lrem, 1) := by decide +kernel
theorem dX7_weeks_60 : decode cX7_weeks 60 = .ok (.l2i, 1) := by decide +kernel
theorem dX7_weeks_61 : decode cX7_weeks 61 = .ok (.istore 4, 2) := by decide +kernel
theorem dX7_weeks_63 : decode cX7_weeks 63 = .ok (.iload 4, 2) := by decide +kernel
theorem dX7_weeks_65 : decode cX7_weeks 65 = .ok (.iconst 5, 1) := by decide +kernel
theorem dX7_weeks_66 : decode cX7_weeks 66 = .ok (.idiv, 1) := by decide +kernel
theorem dX7_weeks_67 : decode cX7_weeks 67 = .ok (.istore 5, 2) := by decide +kernel
theorem dX7_weeks_69 : decode cX7_weeks 69 = .ok (.iload 4, 2) := by decide +kernel
theorem dX7_weeks_71 : decode cX7_weeks 71 = .ok (.iconst 5, 1) := by decide +kernel
theorem dX7_weeks_72 : decode cX7_weeks 72 = .ok (.irem, 1) := by decide +kernel
theorem dX7_weeks_73 : decode cX7_weeks 73 = .ok (.istore 6, 2) := by decide +kernel
theorem dX7_weeks_75 : decode cX7_weeks 75 = .ok (.iload 5, 2) := by decide +kernel
theorem dX7_weeks_77 : decode cX7_weeks 77 = .ok (.aload_n 0, 1) := by decide +kernel
theorem dX7_weeks_78 : decode cX7_weeks 78 = .ok (.getfield 61, 3) := by decide +kernel
theorem dX7_weeks_81 : decode cX7_weeks 81 = .ok (.if_icmp .ge 74, 3) := by decide +kernel
theorem dX7_weeks_84 : decode cX7_weeks 84 = .ok (.iload 6, 2) := by decide +kernel
theorem dX7_weeks_86 : decode cX7_weeks 86 = .ok (.aload_n 0, 1) := by decide +kernel
theorem dX7_weeks_87 : decode cX7_weeks 87 = .ok (.getfield 54, 3) := by decide +kernel
theorem dX7_weeks_90 : decode cX7_weeks 90 = .ok (.if_icmp .ge 65, 3) := by decide +kernel
theorem dX7_weeks_93 : decode cX7_weeks 93 = .ok (.aload_n 0, 1) := by decide +kernel
theorem dX7_weeks_94 : decode cX7_weeks 94 = .ok (.aload_n 0, 1) := by decide +kernel
theorem dX7_weeks_95 : decode cX7_weeks 95 = .ok (.getfield 28, 3) := by decide +kernel
theorem dX7_weeks_98 : decode cX7_weeks 98 = .ok (.iload 5, 2) := by decide +kernel
theorem dX7_weeks_100 : decode cX7_weeks 100 = .ok (.invokevirtual 109, 3) := by decide +kernel
theorem dX7_weeks_103 : decode cX7_weeks 103 = .ok (.ifCond .ne 52, 3) := by decide +kernel
theorem dX7_weeks_106 : decode cX7_weeks 106 = .ok (.aload_n 0, 1) := by decide +kernel
theorem dX7_weeks_107 : decode cX7_weeks 107 = .ok (.aload_n 0, 1) := by decide +kernel
theorem dX7_weeks_108 : decode cX7_weeks 108 = .ok (.getfield 28, 3) := by decide +kernel
theorem dX7_weeks_111 : decode cX7_weeks 111 = .ok (.iload 6, 2) := by decide +kernel
theorem dX7_weeks_113 : decode cX7_weeks 113 = .ok (.invokevirtual 122, 3) := by decide +kernel
theorem dX7_weeks_116 : decode cX7_weeks 116 = .ok (.bipush (-9), 2) := by decide +kernel
theorem dX7_weeks_118 : decode cX7_weeks 118 = .ok (.if_icmp .ne 37, 3) := by decide +kernel
theorem dX7_weeks_121 : decode cX7_weeks 121 = .ok (.iload_n 2, 1) := by decide +kernel
theorem dX7_weeks_122 : decode cX7_weeks 122 = .ok (.aload_n 0, 1) := by decide +kernel
theorem dX7_weeks_123 : decode cX7_weeks 123 = .ok (.aload_n 0, 1) := by decide +kernel
theorem dX7_weeks_124 : decode cX7_weeks 124 = .ok (.getfield 28, 3) := by decide +kernel
theorem dX7_weeks_127 : decode cX7_weeks 127 = .ok (.iload 5, 2) := by decide +kernel
theorem dX7_weeks_129 : decode cX7_weeks 129 = .ok (.iload 6, 2) := by decide +kernel
theorem dX7_weeks_131 : decode cX7_weeks 131 = .ok (.invokevirtual 141, 3) := by decide +kernel
theorem dX7_weeks_134 : decode cX7_weeks 134 = .ok (.aload_n 0, 1) := by decide +kernel
theorem dX7_weeks_135 : decode cX7_weeks 135 = .ok (.getfield 13, 3) := by decide +kernel
theorem dX7_weeks_138 : decode cX7_weeks 138 = .ok (.iconst 3, 1) := by decide +kernel
theorem dX7_weeks_139 : decode cX7_weeks 139 = .ok (.iload 6, 2) := by decide +kernel
theorem dX7_weeks_141 : decode cX7_weeks 141 = .ok (.imul, 1) := by decide +kernel
theorem dX7_weeks_142 : decode cX7_weeks 142 = .ok (.iconst 1, 1) := by decide +kernel
theorem dX7_weeks_143 : decode cX7_weeks 143 = .ok (.iadd, 1) := by decide +kernel
theorem dX7_weeks_144 : decode cX7_weeks 144 = .ok (.iaload, 1) := by decide +kernel
theorem dX7_weeks_145 : decode cX7_weeks 145 = .ok (.if_icmp .ne 7, 3) := by decide +kernel
theorem dX7_weeks_148 : decode cX7_weeks 148 = .ok (.iconst 1, 1) := by decide +kernel
theorem dX7_weeks_149 : decode cX7_weeks 149 = .ok (.goto 4, 3) := by decide +kernel
theorem dX7_weeks_152 : decode cX7_weeks 152 = .ok (.iconst 0, 1) := by decide +kernel
theorem dX7_weeks_153 : decode cX7_weeks 153 = .ok (.iadd, 1) := by decide +kernel
theorem dX7_weeks_154 : decode cX7_weeks 154 = .ok (.istore_n 2, 1) := by decide +kernel
theorem dX7_weeks_155 : decode cX7_weeks 155 = .ok (.iinc 3 1, 3) := by decide +kernel
theorem dX7_weeks_158 : decode cX7_weeks 158 = .ok (.goto (-130), 3) := by decide +kernel
theorem dX7_weeks_161 : decode cX7_weeks 161 = .ok (.iload_n 2, 1) := by decide +kernel
theorem dX7_weeks_162 : decode cX7_weeks 162 = .ok (.ireturn, 1) := by decide +kernel
set_option maxRecDepth 20000 in
theorem ggX7_keep_X7_in : GoodIn wsX7_keep wsX7_in := goodIn_r _ [8] (by decide +kernel) (by decide +kernel)
set_option maxRecDepth 20000 in
theorem gX7_keep_X7_in : GoodIn wsX7_keep (va_wsS RX7 57 yX7_in wsX7_in) := goodIn_app (goodIn_of _ (by decide +kernel)) ggX7_keep_X7_in
theorem dX7_keep_0 : decode cX7_keep 0 = .ok (.aload_n 0, 1) := by decide +kernel
theorem dX7_keep_1 : decode cX7_keep 1 = .ok (.iconst 0, 1) := by decide +kernel
theorem dX7_keep_2 : decode cX7_keep 2 = .ok (.putfield 50, 3) := by decide +kernel
theorem dX7_keep_5 : decode cX7_keep 5 = .ok (.iload_n 1, 1) := by decide +kernel
theorem dX7_keep_6 : decode cX7_keep 6 = .ok (.i2l, 1) := by decide +kernel
theorem dX7_keep_7 : decode cX7_keep 7 = .ok (.lconst 0, 1) := by decide +kernel
theorem dX7_keep_8 : decode cX7_keep 8 = .ok (.lconst 1, 1) := by decide +kernel
theorem dX7_keep_9 : decode cX7_keep 9 = .ok (.invokestatic 57, 3) := by decide +kernel
theorem dX7_keep_12 : decode cX7_keep 12 = .ok (.ifCond .ne 5, 3) := by decide +kernel
theorem dX7_keep_15 : decode cX7_keep 15 = .ok (.iconst (-1), 1) := by decide +kernel
theorem dX7_keep_16 : decode cX7_keep 16 = .ok (.ireturn, 1) := by decide +kernel
theorem dX7_keep_17 : decode cX7_keep 17 = .ok (.aload_n 0, 1) := by decide +kernel
theorem dX7_keep_18 : decode cX7_keep 18 = .ok (.getfield 37, 3) := by decide +kernel
theorem dX7_keep_21 : decode cX7_keep 21 = .ok (.iload_n 1, 1) := by decide +kernel
theorem dX7_keep_22 : decode cX7_keep 22 = .ok (.iconst 1, 1) := by decide +kernel
theorem dX7_keep_23 : decode cX7_keep 23 = .ok (.bastore, 1) := by decide +kernel
theorem dX7_keep_24 : decode cX7_keep 24 = .ok (.iconst 0, 1) := by decide +kernel
theorem dX7_keep_25 : decode cX7_keep 25 = .ok (.istore_n 2, 1) := by decide +kernel
theorem dX7_keep_26 : decode cX7_keep 26 = .ok (.iload_n 2, 1) := by decide +kernel
theorem dX7_keep_27 : decode cX7_keep 27 = .ok (.bipush 21, 2) := by decide +kernel
theorem dX7_keep_29 : decode cX7_keep 29 = .ok (.if_icmp .ge 26, 3) := by decide +kernel
theorem dX7_keep_32 : decode cX7_keep 32 = .ok (.aload_n 0, 1) := by decide +kernel
theorem dX7_keep_33 : decode cX7_keep 33 = .ok (.getfield 34, 3) := by decide +kernel
theorem dX7_keep_36 : decode cX7_keep 36 = .ok (.bipush 21, 2) := by decide +kernel
theorem dX7_keep_38 : decode cX7_keep 38 = .ok (.iload_n 1, 1) := by decide +kernel
theorem dX7_keep_39 : decode cX7_keep 39 = .ok (.imul, 1) := by decide +kernel
theorem dX7_keep_40 : decode cX7_keep 40 = .ok (.iload_n 2, 1) := by decide +kernel
theorem dX7_keep_41 : decode cX7_keep 41 = .ok (.iadd, 1) := by decide +kernel
theorem dX7_keep_42 : decode cX7_keep 42 = .ok (.aload_n 0, 1) := by decide +kernel
theorem dX7_keep_43 : decode cX7_keep 43 = .ok (.getfield 25, 3) := by decide +kernel
theorem dX7_keep_46 : decode cX7_keep 46 = .ok (.iload_n 2, 1) := by decide +kernel
theorem dX7_keep_47 : decode cX7_keep 47 = .ok (.iaload, 1) := by decide +kernel
theorem dX7_keep_48 : decode cX7_keep 48 = .ok (.iastore, 1) := by decide +kernel
theorem dX7_keep_49 : decode cX7_keep 49 = .ok (.iinc 2 1, 3) := by decide +kernel
theorem dX7_keep_52 : decode cX7_keep 52 = .ok (.goto (-26), 3) := by decide +kernel
theorem dX7_keep_55 : decode cX7_keep 55 = .ok (.aload_n 0, 1) := by decide +kernel
theorem dX7_keep_56 : decode cX7_keep 56 = .ok (.getfield 25, 3) := by decide +kernel
theorem dX7_keep_59 : decode cX7_keep 59 = .ok (.bipush 20, 2) := by decide +kernel
theorem dX7_keep_61 : decode cX7_keep 61 = .ok (.iaload, 1) := by decide +kernel
theorem dX7_keep_62 : decode cX7_keep 62 = .ok (.ireturn, 1) := by decide +kernel
set_option maxRecDepth 20000 in
theorem ggX7_again_X7_in : GoodIn wsX7_again wsX7_in := goodIn_r _ [9] (by decide +kernel) (by decide +kernel)
set_option maxRecDepth 20000 in
theorem gX7_again_X7_in : GoodIn wsX7_again (va_wsS RX7 57 yX7_in wsX7_in) := goodIn_app (goodIn_of _ (by decide +kernel)) ggX7_again_X7_in
theorem dX7_again_0 : decode cX7_again 0 = .ok (.aload_n 0, 1) := by decide +kernel
theorem dX7_again_1 : decode cX7_again 1 = .ok (.iconst 0, 1) := by decide +kernel
theorem dX7_again_2 : decode cX7_again 2 = .ok (.putfield 50, 3) := by decide +kernel
theorem dX7_again_5 : decode cX7_again 5 = .ok (.iload_n 1, 1) := by decide +kernel
theorem dX7_again_6 : decode cX7_again 6 = .ok (.i2l, 1) := by decide +kernel
theorem dX7_again_7 : decode cX7_again 7 = .ok (.lconst 0, 1) := by decide +kernel
theorem dX7_again_8 : decode cX7_again 8 = .ok (.lconst 1, 1) := by decide +kernel
theorem dX7_again_9 : decode cX7_again 9 = .ok (.invokestatic 57, 3) := by decide +kernel
theorem dX7_again_12 : decode cX7_again 12 = .ok (.ifCond .ne 5, 3) := by decide +kernel
theorem dX7_again_15 : decode cX7_again 15 = .ok (.iconst (-1), 1) := by decide +kernel
theorem dX7_again_16 : decode cX7_again 16 = .ok (.ireturn, 1) := by decide +kernel
theorem dX7_again_17 : decode cX7_again 17 = .ok (.aload_n 0, 1) := by decide +kernel
theorem dX7_again_18 : decode cX7_again 18 = .ok (.getfield 37, 3) := by decide +kernel
theorem dX7_again_21 : decode cX7_again 21 = .ok (.iload_n 1, 1) := by decide +kernel
theorem dX7_again_22 : decode cX7_again 22 = .ok (.baload, 1) := by decide +kernel
theorem dX7_again_23 : decode cX7_again 23 = .ok (.ifCond .ne 6, 3) := by decide +kernel
theorem dX7_again_26 : decode cX7_again 26 = .ok (.bipush (-3), 2) := by decide +kernel
theorem dX7_again_28 : decode cX7_again 28 = .ok (.ireturn, 1) := by decide +kernel
theorem dX7_again_29 : decode cX7_again 29 = .ok (.iconst 0, 1) := by decide +kernel
theorem dX7_again_30 : decode cX7_again 30 = .ok (.istore_n 2, 1) := by decide +kernel
theorem dX7_again_31 : decode cX7_again 31 = .ok (.iload_n 2, 1) := by decide +kernel
theorem dX7_again_32 : decode cX7_again 32 = .ok (.bipush 21, 2) := by decide +kernel
theorem dX7_again_34 : decode cX7_again 34 = .ok (.if_icmp .ge 26, 3) := by decide +kernel
theorem dX7_again_37 : decode cX7_again 37 = .ok (.aload_n 0, 1) := by decide +kernel
theorem dX7_again_38 : decode cX7_again 38 = .ok (.getfield 25, 3) := by decide +kernel
theorem dX7_again_41 : decode cX7_again 41 = .ok (.iload_n 2, 1) := by decide +kernel
theorem dX7_again_42 : decode cX7_again 42 = .ok (.aload_n 0, 1) := by decide +kernel
theorem dX7_again_43 : decode cX7_again 43 = .ok (.getfield 34, 3) := by decide +kernel
theorem dX7_again_46 : decode cX7_again 46 = .ok (.bipush 21, 2) := by decide +kernel
theorem dX7_again_48 : decode cX7_again 48 = .ok (.iload_n 1, 1) := by decide +kernel
theorem dX7_again_49 : decode cX7_again 49 = .ok (.imul, 1) := by decide +kernel
theorem dX7_again_50 : decode cX7_again 50 = .ok (.iload_n 2, 1) := by decide +kernel
theorem dX7_again_51 : decode cX7_again 51 = .ok (.iadd, 1) := by decide +kernel
theorem dX7_again_52 : decode cX7_again 52 = .ok (.iaload, 1) := by decide +kernel
theorem dX7_again_53 : decode cX7_again 53 = .ok (.iastore, 1) := by decide +kernel
theorem dX7_again_54 : decode cX7_again 54 = .ok (.iinc 2 1, 3) := by decide +kernel
theorem dX7_again_57 : decode cX7_again 57 = .ok (.goto (-26), 3) := by decide +kernel
theorem dX7_again_60 : decode cX7_again 60 = .ok (.aload_n 0, 1) := by decide +kernel
theorem dX7_again_61 : decode cX7_again 61 = .ok (.iconst 0, 1) := by decide +kernel
theorem dX7_again_62 : decode cX7_again 62 = .ok (.putfield 94, 3) := by decide +kernel
theorem dX7_again_65 : decode cX7_again 65 = .ok (.aload_n 0, 1) := by decide +kernel
theorem dX7_again_66 : decode cX7_again 66 = .ok (.getfield 25, 3) := by decide +kernel
theorem dX7_again_69 : decode cX7_again 69 = .ok (.bipush 20, 2) := by decide +kernel
theorem dX7_again_71 : decode cX7_again 71 = .ok (.iaload, 1) := by decide +kernel
theorem dX7_again_72 : decode cX7_again 72 = .ok (.ireturn, 1) := by decide +kernel
