set_option maxRecDepth 20000 in
theorem gX6_bids_X6_isChoice : GoodIn wsX6_bids (va_wsS RX6 180 yX6_isChoice wsX6_isChoice) := goodIn_app (goodIn_of _ (by decide +kernel)) ggX6_bids_X6_isChoice
set_option maxRecDepth 20000 in
theorem ggX6_bids_X2_isWorn : GoodIn wsX6_bids wsX2_isWorn := goodIn_r _ [26, 27, 28, 29, 25, 30, 31, 32, 17, 33, 112, 113, 114, 115] (by decide +kernel) (by decide +kernel)
set_option maxRecDepth 20000 in
theorem gX6_bids_X2_isWorn : GoodIn wsX6_bids (wsV RX6 141 RX2 yX2_isWorn wsX2_isWorn) := goodIn_app (goodIn_of _ (by decide +kernel)) ggX6_bids_X2_isWorn
set_option maxRecDepth 20000 in
theorem ggX6_bids_X6_worthOn : GoodIn wsX6_bids wsX6_worthOn := goodIn_r _ [37, 1, 2, 38, 39, 40, 25, 41, 42, 32, 17, 33, 43, 44, 45, 7, 46, 47, 48, 49, 50, 51, 52, 53, 54, 55, 56, 57, 58, 59, 60, 61, 62, 63, 64, 65, 66, 67, 68, 69, 70, 95, 96, 97, 98, 99, 100, 101, 102, 103, 112, 113, 114, 115, 104, 105, 106, 107, 108, 109, 110, 111] (by decide +kernel) (by decide +kernel)
set_option maxRecDepth 20000 in
theorem gX6_bids_X6_worthOn : GoodIn wsX6_bids (wsV RX6 214 RX6 yX6_worthOn wsX6_worthOn) := goodIn_app (goodIn_of _ (by decide +kernel)) ggX6_bids_X6_worthOn
set_option maxRecDepth 20000 in
theorem ggX6_bids_X4_start : GoodIn wsX6_bids wsX4_start := goodIn_r _ [75, 76, 77, 116, 117] (by decide +kernel) (by decide +kernel)
set_option maxRecDepth 20000 in
theorem gX6_bids_X4_start : GoodIn wsX6_bids (wsV RX6 187 RX4 yX4_start wsX4_start) := goodIn_app (goodIn_of _ (by decide +kernel)) ggX6_bids_X4_start
set_option maxRecDepth 20000 in
theorem ggX6_bids_X6_isAtRest : GoodIn wsX6_bids wsX6_isAtRest := goodIn_r _ [80, 81, 82, 17, 83, 84, 85, 86] (by decide +kernel) (by decide +kernel)
set_option maxRecDepth 20000 in
theorem gX6_bids_X6_isAtRest : GoodIn wsX6_bids (va_wsS RX6 217 yX6_isAtRest wsX6_isAtRest) := goodIn_app (goodIn_of _ (by decide +kernel)) ggX6_bids_X6_isAtRest
set_option maxRecDepth 20000 in
theorem ggX6_bids_X4_add : GoodIn wsX6_bids wsX4_add := goodIn_r _ [90, 76, 77, 116, 117] (by decide +kernel) (by decide +kernel)
set_option maxRecDepth 20000 in
theorem gX6_bids_X4_add : GoodIn wsX6_bids (wsV RX6 221 RX4 yX4_add wsX4_add) := goodIn_app (goodIn_of _ (by decide +kernel)) ggX6_bids_X4_add
set_option maxRecDepth 20000 in
theorem ggX6_bids_X4_told : GoodIn wsX6_bids wsX4_told := goodIn_r _ [94, 76, 77, 116, 117] (by decide +kernel) (by decide +kernel)
set_option maxRecDepth 20000 in
theorem gX6_bids_X4_told : GoodIn wsX6_bids (wsV RX6 193 RX4 yX4_told wsX4_told) := goodIn_app (goodIn_of _ (by decide +kernel)) ggX6_bids_X4_told
theorem dX6_bids_0 : decode cX6_bids 0 = .ok (.aload_n 0, 1) := by decide +kernel
theorem dX6_bids_1 : decode cX6_bids 1 = .ok (.getfield 19, 3) := by decide +kernel
theorem dX6_bids_4 : decode cX6_bids 4 = .ok (.iload_n 1, 1) := by decide +kernel
theorem dX6_bids_5 : decode cX6_bids 5 = .ok (.invokevirtual 123, 3) := by decide +kernel
theorem dX6_bids_8 : decode cX6_bids 8 = .ok (.ifCond .eq 25, 3) := by decide +kernel
theorem dX6_bids_11 : decode cX6_bids 11 = .ok (.aload_n 0, 1) := by decide +kernel
theorem dX6_bids_12 : decode cX6_bids 12 = .ok (.getfield 19, 3) := by decide +kernel
theorem dX6_bids_15 : decode cX6_bids 15 = .ok (.iload_n 2, 1) := by decide +kernel
theorem dX6_bids_16 : decode cX6_bids 16 = .ok (.invokevirtual 106, 3) := by decide +kernel
theorem dX6_bids_19 : decode cX6_bids 19 = .ok (.ifCond .eq 14, 3) := by decide +kernel
theorem dX6_bids_22 : decode cX6_bids 22 = .ok (.aload_n 0, 1) := by decide +kernel
theorem dX6_bids_23 : decode cX6_bids 23 = .ok (.getfield 19, 3) := by decide +kernel
theorem dX6_bids_26 : decode cX6_bids 26 = .ok (.iload_n 3, 1) := by decide +kernel
theorem dX6_bids_27 : decode cX6_bids 27 = .ok (.invokevirtual 106, 3) := by decide +kernel
theorem dX6_bids_30 : decode cX6_bids 30 = .ok (.ifCond .ne 5, 3) := by decide +kernel
theorem dX6_bids_33 : decode cX6_bids 33 = .ok (.iconst (-1), 1) := by decide +kernel
theorem dX6_bids_34 : decode cX6_bids 34 = .ok (.ireturn, 1) := by decide +kernel
theorem dX6_bids_35 : decode cX6_bids 35 = .ok (.iload_n 2, 1) := by decide +kernel
theorem dX6_bids_36 : decode cX6_bids 36 = .ok (.iload_n 3, 1) := by decide +kernel
theorem dX6_bids_37 : decode cX6_bids 37 = .ok (.if_icmp .eq 11, 3) := by decide +kernel
theorem dX6_bids_40 : decode cX6_bids 40 = .ok (.iload 4, 2) := by decide +kernel
theorem dX6_bids_42 : decode cX6_bids 42 = .ok (.invokestatic 180, 3) := by decide +kernel
theorem dX6_bids_45 : decode cX6_bids 45 = .ok (.ifCond .ne 6, 3) := by decide +kernel
theorem dX6_bids_48 : decode cX6_bids 48 = .ok (.bipush (-2), 2) := by decide +kernel
theorem dX6_bids_50 : decode cX6_bids 50 = .ok (.ireturn, 1) := by decide +kernel
theorem dX6_bids_51 : decode cX6_bids 51 = .ok (.aload_n 0, 1) := by decide +kernel
theorem dX6_bids_52 : decode cX6_bids 52 = .ok (.getfield 26, 3) := by decide +kernel
theorem dX6_bids_55 : decode cX6_bids 55 = .ok (.iload_n 1, 1) := by decide +kernel
theorem dX6_bids_56 : decode cX6_bids 56 = .ok (.invokevirtual 141, 3) := by decide +kernel
theorem dX6_bids_59 : decode cX6_bids 59 = .ok (.ifCond .eq 6, 3) := by decide +kernel
theorem dX6_bids_62 : decode cX6_bids 62 = .ok (.bipush (-3), 2) := by decide +kernel
theorem dX6_bids_64 : decode cX6_bids 64 = .ok (.ireturn, 1) := by decide +kernel
theorem dX6_bids_65 : decode cX6_bids 65 = .ok (.aload_n 0, 1) := by decide +kernel
theorem dX6_bids_66 : decode cX6_bids 66 = .ok (.iload_n 1, 1) := by decide +kernel
theorem dX6_bids_67 : decode cX6_bids 67 = .ok (.iload_n 2, 1) := by decide +kernel
theorem dX6_bids_68 : decode cX6_bids 68 = .ok (.invokevirtual 214, 3) := by decide +kernel
theorem dX6_bids_71 : decode cX6_bids 71 = .ok (.istore 5, 2) := by decide +kernel
theorem dX6_bids_73 : decode cX6_bids 73 = .ok (.aload_n 0, 1) := by decide +kernel
theorem dX6_bids_74 : decode cX6_bids 74 = .ok (.iload_n 1, 1) := by decide +kernel
theorem dX6_bids_75 : decode cX6_bids 75 = .ok (.iload_n 3, 1) := by decide +kernel
theorem dX6_bids_76 : decode cX6_bids 76 = .ok (.invokevirtual 214, 3) := by decide +kernel
theorem dX6_bids_79 : decode cX6_bids 79 = .ok (.istore 6, 2) := by decide +kernel
theorem dX6_bids_81 : decode cX6_bids 81 = .ok (.aload_n 0, 1) := by decide +kernel
theorem dX6_bids_82 : decode cX6_bids 82 = .ok (.getfield 50, 3) := by decide +kernel
theorem dX6_bids_85 : decode cX6_bids 85 = .ok (.invokevirtual 187, 3) := by decide +kernel
theorem dX6_bids_88 : decode cX6_bids 88 = .ok (.iconst 0, 1) := by decide +kernel
theorem dX6_bids_89 : decode cX6_bids 89 = .ok (.istore 7, 2) := by decide +kernel
theorem dX6_bids_91 : decode cX6_bids 91 = .ok (.iload 7, 2) := by decide +kernel
theorem dX6_bids_93 : decode cX6_bids 93 = .ok (.bipush 9, 2) := by decide +kernel
theorem dX6_bids_95 : decode cX6_bids 95 = .ok (.if_icmp .gt 54, 3) := by decide +kernel
theorem dX6_bids_98 : decode cX6_bids 98 = .ok (.iconst 0, 1) := by decide +kernel
theorem dX6_bids_99 : decode cX6_bids 99 = .ok (.istore 8, 2) := by decide +kernel
theorem dX6_bids_101 : decode cX6_bids 101 = .ok (.iload 8, 2) := by decide +kernel
theorem dX6_bids_103 : decode cX6_bids 103 = .ok (.bipush 9, 2) := by decide +kernel
theorem dX6_bids_105 : decode cX6_bids 105 = .ok (.if_icmp .gt 38, 3) := by decide +kernel
theorem dX6_bids_108 : decode cX6_bids 108 = .ok (.iload 7, 2) := by decide +kernel
theorem dX6_bids_110 : decode cX6_bids 110 = .ok (.iload 8, 2) := by decide +kernel
theorem dX6_bids_112 : decode cX6_bids 112 = .ok (.iload 5, 2) := by decide +kernel
theorem dX6_bids_114 : decode cX6_bids 114 = .ok (.iload 6, 2) := by decide +kernel
theorem dX6_bids_116 : decode cX6_bids 116 = .ok (.invokestatic 217, 3) := by decide +kernel
theorem dX6_bids_119 : decode cX6_bids 119 = .ok (.ifCond .eq 18, 3) := by decide +kernel
theorem dX6_bids_122 : decode cX6_bids 122 = .ok (.aload_n 0, 1) := by decide +kernel
theorem dX6_bids_123 : decode cX6_bids 123 = .ok (.getfield 50, 3) := by decide +kernel
theorem dX6_bids_126 : decode cX6_bids 126 = .ok (.bipush 10, 2) := by decide +kernel
theorem dX6_bids_128 : decode cX6_bids 128 = .ok (.iload 7, 2) := by decide +kernel
theorem dX6_bids_130 : decode cX6_bids 130 = .ok (.imul, 1) := by decide +kernel
theorem dX6_bids_131 : decode cX6_bids 131 = .ok (.iload 8, 2) := by decide +kernel
theorem dX6_bids_133 : decode cX6_bids 133 = .ok (.iadd, 1) := by decide +kernel
theorem dX6_bids_134 : decode cX6_bids 134 = .ok (.invokevirtual 221, 3) := by decide +kernel
theorem dX6_bids_137 : decode cX6_bids 137 = .ok (.iinc 8 1, 3) := by decide +kernel
theorem dX6_bids_140 : decode cX6_bids 140 = .ok (.goto (-39), 3) := by decide +kernel
theorem dX6_bids_143 : decode cX6_bids 143 = .ok (.iinc 7 1, 3) := by decide +kernel
theorem dX6_bids_146 : decode cX6_bids 146 = .ok (.goto (-55), 3) := by decide +kernel
theorem dX6_bids_149 : decode cX6_bids 149 = .ok (.aload_n 0, 1) := by decide +kernel
theorem dX6_bids_150 : decode cX6_bids 150 = .ok (.getfield 50, 3) := by decide +kernel
theorem dX6_bids_153 : decode cX6_bids 153 = .ok (.iload 4, 2) := by decide +kernel
theorem dX6_bids_155 : decode cX6_bids 155 = .ok (.invokevirtual 193, 3) := by decide +kernel
theorem dX6_bids_158 : decode cX6_bids 158 = .ok (.ireturn, 1) := by decide +kernel
set_option maxRecDepth 20000 in
theorem ggX6_lost_X1_hasGlove : GoodIn wsX6_lost wsX1_hasGlove := goodIn_r _ [7, 8, 83, 84, 85, 86, 87, 88, 89, 90] (by decide +kernel) (by decide +kernel)
set_option maxRecDepth 20000 in
theorem gX6_lost_X1_hasGlove : GoodIn wsX6_lost (wsV RX6 123 RX1 yX1_hasGlove wsX1_hasGlove) := goodIn_app (goodIn_of _ (by decide +kernel)) ggX6_lost_X1_hasGlove
set_option maxRecDepth 20000 in
theorem ggX6_lost_X1_hasPerson : GoodIn wsX6_lost wsX1_hasPerson := goodIn_r _ [12, 13, 83, 84, 85, 86, 87, 88, 89, 90] (by decide +kernel) (by decide +kernel)
set_option maxRecDepth 20000 in
theorem gX6_lost_X1_hasPerson : GoodIn wsX6_lost (wsV RX6 106 RX1 yX1_hasPerson wsX1_hasPerson) := goodIn_app (goodIn_of _ (by decide +kernel)) ggX6_lost_X1_hasPerson
set_option maxRecDepth 20000 in
theorem ggX6_lost_X6_within : GoodIn wsX6_lost wsX6_within := goodIn_r _ [17] (by decide +kernel) (by decide +kernel)
set_option maxRecDepth 20000 in
theorem gX6_lost_X6_within : GoodIn wsX6_lost (va_wsS RX6 62 yX6_within wsX6_within) := goodIn_app (goodIn_of _ (by decide +kernel)) ggX6_lost_X6_within
set_option maxRecDepth 20000 in
theorem ggX6_lost_X2_isWorn : GoodIn wsX6_lost wsX2_isWorn := goodIn_r _ [22, 23, 24, 25, 21, 26, 27, 28, 16, 29, 91, 92, 93, 94] (by decide +kernel) (by decide +kernel)
set_option maxRecDepth 20000 in
theorem gX6_lost_X2_isWorn : GoodIn wsX6_lost (wsV RX6 141 RX2 yX2_isWorn wsX2_isWorn) := goodIn_app (goodIn_of _ (by decide +kernel)) ggX6_lost_X2_isWorn
set_option maxRecDepth 20000 in
theorem ggX6_lost_X2_keptBy : GoodIn wsX6_lost wsX2_keptBy := goodIn_r _ [33, 34, 28, 16, 29, 91, 92, 93, 94] (by decide +kernel) (by decide +kernel)
set_option maxRecDepth 20000 in
theorem gX6_lost_X2_keptBy : GoodIn wsX6_lost (wsV RX6 132 RX2 yX2_keptBy wsX2_keptBy) := goodIn_app (goodIn_of _ (by decide +kernel)) ggX6_lost_X2_keptBy
set_option maxRecDepth 20000 in
theorem ggX6_lost_X6_waysToDo : GoodIn wsX6_lost wsX6_waysToDo := goodIn_r _ [37, 38, 39, 40, 6, 41, 42, 16, 43, 44, 45, 46, 47, 48, 28, 29, 49, 50, 51, 52, 53, 54, 55, 56, 57, 58, 59, 13, 60, 61, 62, 63, 64, 65, 66, 67, 68, 69, 70, 35, 36, 83, 84, 85, 86, 87, 88, 89, 90] (by decide +kernel) (by decide +kernel)
set_option maxRecDepth 20000 in
theorem gX6_lost_X6_waysToDo : GoodIn wsX6_lost (va_wsS RX6 222 yX6_waysToDo wsX6_waysToDo) := goodIn_app (goodIn_of _ (by decide +kernel)) ggX6_lost_X6_waysToDo
set_option maxRecDepth 20000 in
theorem ggX6_lost_X1_people : GoodIn wsX6_lost wsX1_people := goodIn_r _ [59, 13, 83, 84, 85, 86, 87, 88, 89, 90] (by decide +kernel) (by decide +kernel)
set_option maxRecDepth 20000 in
theorem gX6_lost_X1_people : GoodIn wsX6_lost (wsV RX6 92 RX1 yX1_people wsX1_people) := goodIn_app (goodIn_of _ (by decide +kernel)) ggX6_lost_X1_people
set_option maxRecDepth 20000 in
theorem ggX6_lost_X6_partInLeastTerms : GoodIn wsX6_lost wsX6_partInLeastTerms := goodIn_r _ [73] (by decide +kernel) (by decide +kernel)
set_option maxRecDepth 20000 in
theorem gX6_lost_X6_partInLeastTerms : GoodIn wsX6_lost (va_wsS RX6 225 yX6_partInLeastTerms wsX6_partInLeastTerms) := goodIn_app (goodIn_of _ (by decide +kernel)) ggX6_lost_X6_partInLeastTerms
theorem dX6_lost_0 : decode cX6_lost 0 = .ok (.aload_n 0, 1) := by decide +kernel
theorem dX6_lost_1 : decode cX6_lost 1 = .ok (.getfield 19, 3) := by decide +kernel
theorem dX6_lost_4 : decode cX6_lost 4 = .ok (.iload_n 1, 1) := by decide +kernel
theorem dX6_lost_5 : decode cX6_lost 5 = .ok (.invokevirtual 123, 3) := by decide +kernel
theorem dX6_lost_8 : decode cX6_lost 8 = .ok (.ifCond .eq 14, 3) := by decide +kernel
theorem dX6_lost_11 : decode cX6_lost 11 = .ok (.aload_n 0, 1) := by decide +kernel
theorem dX6_lost_12 : decode cX6_lost 12 = .ok (.getfield 19, 3) := by decide +kernel
theorem dX6_lost_15 : decode cX6_lost 15 = .ok (.iload_n 2, 1) := by decide +kernel
theorem dX6_lost_16 : decode cX6_lost 16 = .ok (.invokevirtual 106, 3) := by decide +kernel
theorem dX6_lost_19 : decode cX6_lost 19 = .ok (.ifCond .ne 5, 3) := by decide +kernel
theorem dX6_lost_22 : decode cX6_lost 22 = .ok (.iconst (-1), 1) := by decide +kernel
theorem dX6_lost_23 : decode cX6_lost 23 = .ok (.ireturn, 1) := by decide +kernel
theorem dX6_lost_24 : decode cX6_lost 24 = .ok (.iload_n 3, 1) := by decide +kernel
theorem dX6_lost_25 : decode cX6_lost 25 = .ok (.iconst 0, 1) := by decide +kernel
theorem dX6_lost_26 : decode cX6_lost 26 = .ok (.bipush 7, 2) := by decide +kernel
theorem dX6_lost_28 : decode cX6_lost 28 = .ok (.invokestatic 62, 3) := by decide +kernel
theorem dX6_lost_31 : decode cX6_lost 31 = .ok (.ifCond .eq 13, 3) := by decide +kernel
theorem dX6_lost_34 : decode cX6_lost 34 = .ok (.iload 4, 2) := by decide +kernel
theorem dX6_lost_36 : decode cX6_lost 36 = .ok (.iconst 0, 1) := by decide +kernel
theorem dX6_lost_37 : decode cX6_lost 37 = .ok (.iconst 3, 1) := by decide +kernel
theorem dX6_lost_38 : decode cX6_lost 38 = .ok (.invokestatic 62, 3) := by decide +kernel
theorem dX6_lost_41 : decode cX6_lost 41 = .ok (.ifCond .ne 6, 3) := by decide +kernel
theorem dX6_lost_44 : decode cX6_lost 44 = .ok (.bipush (-2), 2) := by decide +kernel
theorem dX6_lost_46 : decode cX6_lost 46 = .ok (.ireturn, 1) := by decide +kernel
theorem dX6_lost_47 : decode cX6_lost 47 = .ok (.aload_n 0, 1) := by decide +kernel
theorem dX6_lost_48 : decode cX6_lost 48 = .ok (.getfield 26, 3) := by decide +kernel
theorem dX6_lost_51 : decode cX6_lost 51 = .ok (.iload_n 1, 1) := by decide +kernel
theorem dX6_lost_52 : decode cX6_lost 52 = .ok (.invokevirtual 141, 3) := by decide +kernel
theorem dX6_lost_55 : decode cX6_lost 55 = .ok (.ifCond .eq 6, 3) := by decide +kernel
theorem dX6_lost_58 : decode cX6_lost 58 = .ok (.bipush (-3), 2) := by decide +kernel
theorem dX6_lost_60 : decode cX6_lost 60 = .ok (.ireturn, 1) := by decide +kernel
theorem dX6_lost_61 : decode cX6_lost 61 = .ok (.aload_n 0, 1) := by decide +kernel
theorem dX6_lost_62 : decode cX6_lost 62 = .ok (.getfield 19, 3) := by decide +kernel
theorem dX6_lost_65 : decode cX6_lost 65 = .ok (.iload_n 1, 1) := by decide +kernel
theorem dX6_lost_66 : decode cX6_lost 66 = .ok (.aload_n 0, 1) := by decide +kernel
theorem dX6_lost_67 : decode cX6_lost 67 = .ok (.getfield 26, 3) := by decide +kernel
theorem dX6_lost_70 : decode cX6_lost 70 = .ok (.iload_n 1, 1) := by decide +kernel
theorem dX6_lost_71 : decode cX6_lost 71 = .ok (.invokevirtual 132, 3) := by decide +kernel
theorem dX6_lost_74 : decode cX6_lost 74 = .ok (.iload_n 2, 1) := by decide +kernel
theorem dX6_lost_75 : decode cX6_lost 75 = .ok (.iload_n 3, 1) := by decide +kernel
theorem dX6_lost_76 : decode cX6_lost 76 = .ok (.iload 4, 2) := by decide +kernel
theorem dX6_lost_78 : decode cX6_lost 78 = .ok (.invokestatic 222, 3) := by decide +kernel
theorem dX6_lost_81 : decode cX6_lost 81 = .ok (.istore 6, 2) := by decide +kernel
theorem dX6_lost_83 : decode cX6_lost 83 = .ok (.iconst 1, 1) := by decide +kernel
theorem dX6_lost_84 : decode cX6_lost 84 = .ok (.istore 7, 2) := by decide +kernel
theorem dX6_lost_86 : decode cX6_lost 86 = .ok (.iconst 0, 1) := by decide +kernel
theorem dX6_lost_87 : decode cX6_lost 87 = .ok (.istore 8, 2) := by decide +kernel
theorem dX6_lost_89 : decode cX6_lost 89 = .ok (.iload 8, 2) := by decide +kernel
theorem dX6_lost_91 : decode cX6_lost 91 = .ok (.iload 4, 2) := by decide +kernel
theorem dX6_lost_93 : decode cX6_lost 93 = .ok (.if_icmp .ge 21, 3) := by decide +kernel
theorem dX6_lost_96 : decode cX6_lost 96 = .ok (.iload 7, 2) := by decide +kernel
theorem dX6_lost_98 : decode cX6_lost 98 = .ok (.aload_n 0, 1) := by decide +kernel
theorem dX6_lost_99 : decode cX6_lost 99 = .ok (.getfield 19, 3) := by decide +kernel
theorem dX6_lost_102 : decode cX6_lost 102 = .ok (.invokevirtual 92, 3) := by decide +kernel
theorem dX6_lost_105 : decode cX6_lost 105 = .ok (.imul, 1) := by decide +kernel
theorem dX6_lost_106 : decode cX6_lost 106 = .ok (.istore 7, 2) := by decide +kernel
theorem dX6_lost_108 : decode cX6_lost 108 = .ok (.iinc 8 1, 3) := by decide +kernel
theorem dX6_lost_111 : decode cX6_lost 111 = .ok (.goto (-22), 3) := by decide +kernel
theorem dX6_lost_114 : decode cX6_lost 114 = .ok (.iload 6, 2) := by decide +kernel
theorem dX6_lost_116 : decode cX6_lost 116 = .ok (.iload 7, 2) := by decide +kernel
theorem dX6_lost_118 : decode cX6_lost 118 = .ok (.iload 5, 2) := by decide +kernel
theorem dX6_lost_120 : decode cX6_lost 120 = .ok (.invokestatic 225, 3) := by decide +kernel
theorem dX6_lost_123 : decode cX6_lost 123 = .ok (.ireturn, 1) := by decide +kernel
theorem dX6_seed_0 : decode cX6_seed 0 = .ok (.aload_n 0, 1) := by decide +kernel
theorem dX6_seed_1 : decode cX6_seed 1 = .ok (.getfield 58, 3) := by decide +kernel
theorem dX6_seed_4 : decode cX6_seed 4 = .ok (.lstore_n 3, 1) := by decide +kernel
theorem dX6_seed_5 : decode cX6_seed 5 = .ok (.aload_n 0, 1) := by decide +kernel
theorem dX6_seed_6 : decode cX6_seed 6 = .ok (.lload_n 1, 1) := by decide +kernel
theorem dX6_seed_7 : decode cX6_seed 7 = .ok (.putfield 58, 3) := by decide +kernel
theorem dX6_seed_10 : decode cX6_seed 10 = .ok (.lload_n 3, 1) := by decide +kernel
theorem dX6_seed_11 : decode cX6_seed 11 = .ok (.lreturn, 1) := by decide +kernel
set_option maxRecDepth 20000 in
theorem ggX6_weeks_X6_within : GoodIn wsX6_weeks wsX6_within := goodIn_r _ [10] (by decide +kernel) (by decide +kernel)
set_option maxRecDepth 20000 in
theorem gX6_weeks_X6_within : GoodIn wsX6_weeks (va_wsS RX6 62 yX6_within wsX6_within) := goodIn_app (goodIn_of _ (by decide +kernel)) ggX6_weeks_X6_within
set_option maxRecDepth 20000 in
theorem ggX6_weeks_X2_copy : GoodIn wsX6_weeks wsX2_copy := goodIn_r _ [15, 16, 17, 18, 19, 20, 9, 21, 105, 106, 107, 108] (by decide +kernel) (by decide +kernel)
set_option maxRecDepth 20000 in
theorem gX6_weeks_X2_copy : GoodIn wsX6_weeks (wsV RX6 229 RX2 yX2_copy wsX2_copy) := goodIn_app (goodIn_of _ (by decide +kernel)) ggX6_weeks_X2_copy
set_option maxRecDepth 20000 in
theorem ggX6_weeks_X6_pleasesOnTrial : GoodIn wsX6_weeks wsX6_pleasesOnTrial := goodIn_r _ [25, 26, 1, 27, 28, 29, 30, 31, 32, 33, 34, 35, 36, 37, 38, 39, 40, 14, 41, 42, 43, 44, 45, 17, 46, 9, 47, 48, 49, 50, 51, 52, 53, 54, 55, 16, 56, 57, 58, 59, 60, 61, 62, 63, 64, 65, 66, 67, 68, 69, 70, 71, 72, 73, 74, 75, 76, 77, 78, 79, 80, 81, 82, 83, 84, 85, 86, 87, 88, 89, 90, 91, 92, 93, 94, 95, 96, 97, 98, 99, 100, 101, 102, 103, 104, 109, 110, 111, 112, 113, 114, 115, 116, 105, 106, 107, 108] (by decide +kernel) (by decide +kernel)
set_option maxRecDepth 20000 in
theorem gX6_weeks_X6_pleasesOnTrial : GoodIn wsX6_weeks (wsV RX6 238 RX6 yX6_pleasesOnTrial wsX6_pleasesOnTrial) := goodIn_app (goodIn_of _ (by decide +kernel)) ggX6_weeks_X6_pleasesOnTrial
theorem dX6_weeks_0 : decode cX6_weeks 0 = .ok (.iload_n 1, 1) := by decide +kernel
theorem dX6_weeks_1 : decode cX6_weeks 1 = .ok (.iconst 1, 1) := by decide +kernel
theorem dX6_weeks_2 : decode cX6_weeks 2 = .ok (.bipush 30, 2) := by decide +kernel
theorem dX6_weeks_4 : decode cX6_weeks 4 = .ok (.invokestatic 62, 3) := by decide +kernel
theorem dX6_weeks_7 : decode cX6_weeks 7 = .ok (.ifCond .ne 6, 3) := by decide +kernel
theorem dX6_weeks_10 : decode cX6_weeks 10 = .ok (.bipush (-2), 2) := by decide +kernel
theorem dX6_weeks_12 : decode cX6_weeks 12 = .ok (.ireturn, 1) := by decide +kernel
theorem dX6_weeks_13 : decode cX6_weeks 13 = .ok (.aload_n 0, 1) := by decide +kernel
theorem dX6_weeks_14 : decode cX6_weeks 14 = .ok (.getfield 30, 3) := by decide +kernel
theorem dX6_weeks_17 : decode cX6_weeks 17 = .ok (.aload_n 0, 1) := by decide +kernel
theorem dX6_weeks_18 : decode cX6_weeks 18 = .ok (.getfield 26, 3) := by decide +kernel
theorem dX6_weeks_21 : decode cX6_weeks 21 = .ok (.invokevirtual 229, 3) := by decide +kernel
theorem dX6_weeks_24 : decode cX6_weeks 24 = .ok (.iconst 0, 1) := by decide +kernel
theorem dX6_weeks_25 : decode cX6_weeks 25 = .ok (.istore_n 2, 1) := by decide +kernel
theorem dX6_weeks_26 : decode cX6_weeks 26 = .ok (.iconst 0, 1) := by decide +kernel
theorem dX6_weeks_27 : decode cX6_weeks 27 = .ok (.istore_n 3, 1) := by decide +kernel
theorem dX6_weeks_28 : decode cX6_weeks 28 = .ok (.iload_n 3, 1) := by decide +kernel
theorem dX6_weeks_29 : decode cX6_weeks 29 = .ok (.iload_n 1, 1) := by decide +kernel
theorem dX6_weeks_30 : decode cX6_weeks 30 = .ok (.if_icmp .ge 57, 3) := by decide +kernel
theorem dX6_weeks_33 : decode cX6_weeks 33 = .ok (.aload_n 0, 1) := by decide +kernel
theorem dX6_weeks_34 : decode cX6_weeks 34 = .ok (.aload_n 0, 1) := by decide +kernel
theorem dX6_weeks_35 : decode cX6_weeks 35 = .ok (.getfield 58, 3) := by decide +kernel
theorem dX6_weeks_38 : decode cX6_weeks 38 = .ok (.ldc2_w 232, 3) := by decide +kernel
theorem dX6_weeks_41 : decode cX6_weeks 41 = .ok (.lmul, 1) := by decide +kernel
theorem dX6_weeks_42 : decode cX6_weeks 42 = .ok (.ldc2_w 234, 3) := by decide +kernel
theorem dX6_weeks_45 : decode cX6_weeks 45 = .ok (.ladd, 1) := by decide +kernel
theorem dX6_weeks_46 : decode cX6_weeks 46 = .ok (.putfield 58, 3) := by decide +kernel
theorem dX6_weeks_49 : decode cX6_weeks 49 = .ok (.aload_n 0, 1) := by decide +kernel
theorem dX6_weeks_50 : decode cX6_weeks 50 = .ok (.getfield 58, 3) := by decide +kernel
theorem dX6_weeks_53 : decode cX6_weeks 53 = .ok (.bipush 33, 2) := by decide +kernel
theorem dX6_weeks_55 : decode cX6_weeks 55 = .ok (.lushr, 1) := by decide +kernel
theorem dX6_weeks_56 : decode cX6_weeks 56 = .ok (.ldc2_w 236, 3) := by decide +kernel
theorem dX6_weeks_59 : decode cX6_weeks 59 = .ok (.lrem, 1) := by decide +kernel
theorem dX6_weeks_60 : decode cX6_weeks 60 = .ok (.l2i, 1) := by decide +kernel
theorem dX6_weeks_61 : decode cX6_weeks 61 = .ok (.istore 4, 2) := by decide +kernel
theorem dX6_weeks_63 : decode cX6_weeks 63 = .ok (.aload_n 0, 1) := by decide +kernel
theorem dX6_weeks_64 : decode cX6_weeks 64 = .ok (.iload 4, 2) := by decide +kernel
theorem dX6_weeks_66 : decode cX6_weeks 66 = .ok (.iconst 5, 1) := by decide +kernel
theorem dX6_weeks_67 : decode cX6_weeks 67 = .ok (.idiv, 1) := by decide +kernel
theorem dX6_weeks_68 : decode cX6_weeks 68 = .ok (.iload 4, 2) := by decide +kernel
theorem dX6_weeks_70 : decode cX6_weeks 70 = .ok (.iconst 5, 1) := by decide +kernel
theorem dX6_weeks_71 : decode cX6_weeks 71 = .ok (.irem, 1) := by decide +kernel
theorem dX6_weeks_72 : decode cX6_weeks 72 = .ok (.invokevirtual 238, 3) := by decide +kernel
theorem dX6_weeks_75 : decode cX6_weeks 75 = .ok (.ifCond .eq 6, 3) := by decide +kernel
theorem dX6_weeks_78 : decode cX6_weeks 78 = .ok (.iinc 2 1, 3) := by decide +kernel
theorem dX6_weeks_81 : decode cX6_weeks 81 = .ok (.iinc 3 1, 3) := by decide +kernel
theorem dX6_weeks_84 : decode cX6_weeks 84 = .ok (.goto (-56), 3) := by decide +kernel
theorem dX6_weeks_87 : decode cX6_weeks 87 = .ok (.iload_n 2, 1) := by decide +kernel
theorem dX6_weeks_88 : decode cX6_weeks 88 = .ok (.ireturn, 1) := by decide +kernel
set_option maxRecDepth 20000 in
theorem ggX6_keep_X6_slotAt : GoodIn wsX6_keep wsX6_slotAt := goodIn_r _ [6, 7, 23, 24, 25, 26, 27, 28, 29, 30, 31] (by decide +kernel) (by decide +kernel)
set_option maxRecDepth 20000 in
theorem gX6_keep_X6_slotAt : GoodIn wsX6_keep (wsV RX6 241 RX6 yX6_slotAt wsX6_slotAt) := goodIn_app (goodIn_of _ (by decide +kernel)) ggX6_keep_X6_slotAt
set_option maxRecDepth 20000 in
theorem ggX6_keep_X2_copy : GoodIn wsX6_keep wsX2_copy := goodIn_r _ [12, 13, 14, 15, 16, 17, 5, 18, 32, 33, 34, 35] (by decide +kernel) (by decide +kernel)
set_option maxRecDepth 20000 in
theorem gX6_keep_X2_copy : GoodIn wsX6_keep (wsV RX6 229 RX2 yX2_copy wsX2_copy) := goodIn_app (goodIn_of _ (by decide +kernel)) ggX6_keep_X2_copy
set_option maxRecDepth 20000 in
theorem ggX6_keep_X2_today : GoodIn wsX6_keep wsX2_today := goodIn_r _ [22, 15, 32, 33, 34, 35] (by decide +kernel) (by decide +kernel)
set_option maxRecDepth 20000 in
theorem gX6_keep_X2_today : GoodIn wsX6_keep (wsV RX6 98 RX2 yX2_today wsX2_today) := goodIn_app (goodIn_of _ (by decide +kernel)) ggX6_keep_X2_today
theorem dX6_keep_0 : decode cX6_keep 0 = .ok (.aload_n 0, 1) := by decide +kernel
theorem dX6_keep_1 : decode cX6_keep 1 = .ok (.iload_n 1, 1) := by decide +kernel
theorem dX6_keep_2 : decode cX6_keep 2 = .ok (.invokevirtual 241, 3) := by decide +kernel
theorem dX6_keep_5 : decode cX6_keep 5 = .ok (.astore_n 2, 1) := by decide +kernel
theorem dX6_keep_6 : decode cX6_keep 6 = .ok (.aload_n 2, 1) := by decide +kernel
theorem dX6_keep_7 : decode cX6_keep 7 = .ok (.ifnonnull 5, 3) := by decide +kernel
theorem dX6_keep_10 : decode cX6_keep 10 = .ok (.iconst (-1), 1) := by decide +kernel
theorem dX6_keep_11 : decode cX6_keep 11 = .ok (.ireturn, 1) := by decide +kernel
theorem dX6_keep_12 : decode cX6_keep 12 = .ok (.aload_n 2, 1) := by decide +kernel
theorem dX6_keep_13 : decode cX6_keep 13 = .ok (.aload_n 0, 1) := by decide +kernel
theorem dX6_keep_14 : decode cX6_keep 14 = .ok (.getfield 26, 3) := by decide +kernel
theorem dX6_keep_17 : decode cX6_keep 17 = .ok (.invokevirtual 229, 3) := by decide +kernel
theorem dX6_keep_20 : decode cX6_keep 20 = .ok (.aload_n 0, 1) := by decide +kernel
theorem dX6_keep_21 : decode cX6_keep 21 = .ok (.getfield 26, 3) := by decide +kernel
theorem dX6_keep_24 : decode cX6_keep 24 = .ok (.invokevirtual 98, 3) := by decide +kernel
theorem dX6_keep_27 : decode cX6_keep 27 = .ok (.ireturn, 1) := by decide +kernel
set_option maxRecDepth 20000 in
theorem ggX6_again_X6_slotAt : GoodIn wsX6_again wsX6_slotAt := goodIn_r _ [7, 8, 34, 35, 36, 37, 38, 39, 40, 41, 42] (by decide +kernel) (by decide +kernel)
set_option maxRecDepth 20000 in
theorem gX6_again_X6_slotAt : GoodIn wsX6_again (wsV RX6 241 RX6 yX6_slotAt wsX6_slotAt) := goodIn_app (goodIn_of _ (by decide +kernel)) ggX6_again_X6_slotAt
set_option maxRecDepth 20000 in
theorem ggX6_again_X2_isTaken : GoodIn wsX6_again wsX2_isTaken := goodIn_r _ [13, 14, 43, 44, 45, 46] (by decide +kernel) (by decide +kernel)
set_option maxRecDepth 20000 in
theorem gX6_again_X2_isTaken : GoodIn wsX6_again (wsV RX6 245 RX2 yX2_isTaken wsX2_isTaken) := goodIn_app (goodIn_of _ (by decide +kernel)) ggX6_again_X2_isTaken
set_option maxRecDepth 20000 in
theorem ggX6_again_X2_copy : GoodIn wsX6_again wsX2_copy := goodIn_r _ [18, 19, 20, 21, 14, 22, 6, 23, 43, 44, 45, 46] (by decide +kernel) (by decide +kernel)
set_option maxRecDepth 20000 in
theorem gX6_again_X2_copy : GoodIn wsX6_again (wsV RX6 229 RX2 yX2_copy wsX2_copy) := goodIn_app (goodIn_of _ (by decide +kernel)) ggX6_again_X2_copy
set_option maxRecDepth 20000 in
theorem ggX6_again_X0_clear : GoodIn wsX6_again wsX0_clear := goodIn_r _ [28, 29, 47, 48, 49] (by decide +kernel) (by decide +kernel)
set_option maxRecDepth 20000 in
theorem gX6_again_X0_clear : GoodIn wsX6_again (wsV RX6 88 RX0 yX0_clear wsX0_clear) := goodIn_app (goodIn_of _ (by decide +kernel)) ggX6_again_X0_clear
set_option maxRecDepth 20000 in
theorem ggX6_again_X2_today : GoodIn wsX6_again wsX2_today := goodIn_r _ [33, 21, 43, 44, 45, 46] (by decide +kernel) (by decide +kernel)
set_option maxRecDepth 20000 in
theorem gX6_again_X2_today : GoodIn wsX6_again (wsV RX6 98 RX2 yX2_today wsX2_today) := goodIn_app (goodIn_of _ (by decide +kernel)) ggX6_again_X2_today
theorem dX6_again_0 : decode cX6_again 0 = .ok (.aload_n 0, 1) := by decide +kernel
theorem dX6_again_1 : decode cX6_again 1 = .ok (.iload_n 1, 1) := by decide +kernel
theorem dX6_again_2 : decode cX6_again 2 = .ok (.invokevirtual 241, 3) := by decide +kernel
theorem dX6_again_5 : decode cX6_again 5 = .ok (.astore_n 2, 1) := by decide +kernel
theorem dX6_again_6 : decode cX6_again 6 = .ok (.aload_n 2, 1) := by decide +kernel
theorem dX6_again_7 : decode cX6_again 7 = .ok (.ifnonnull 5, 3) := by decide +kernel
theorem dX6_again_10 : decode cX6_again 10 = .ok (.iconst (-1), 1) := by decide +kernel
theorem dX6_again_11 : decode cX6_again 11 = .ok (.ireturn, 1) := by decide +kernel
theorem dX6_again_12 : decode cX6_again 12 = .ok (.aload_n 2, 1) := by decide +kernel
theorem dX6_again_13 : decode cX6_again 13 = .ok (.invokevirtual 245, 3) := by decide +kernel
theorem dX6_again_16 : decode cX6_again 16 = .ok (.ifCond .ne 6, 3) := by decide +kernel
theorem dX6_again_19 : decode cX6_again 19 = .ok (.bipush (-3), 2) := by decide +kernel
theorem dX6_again_21 : decode cX6_again 21 = .ok (.ireturn, 1) := by decide +kernel
theorem dX6_again_22 : decode cX6_again 22 = .ok (.aload_n 0, 1) := by decide +kernel
theorem dX6_again_23 : decode cX6_again 23 = .ok (.getfield 26, 3) := by decide +kernel
theorem dX6_again_26 : decode cX6_again 26 = .ok (.aload_n 2, 1) := by decide +kernel
theorem dX6_again_27 : decode cX6_again 27 = .ok (.invokevirtual 229, 3) := by decide +kernel
theorem dX6_again_30 : decode cX6_again 30 = .ok (.aload_n 0, 1) := by decide +kernel
theorem dX6_again_31 : decode cX6_again 31 = .ok (.getfield 36, 3) := by decide +kernel
theorem dX6_again_34 : decode cX6_again 34 = .ok (.invokevirtual 88, 3) := by decide +kernel
theorem dX6_again_37 : decode cX6_again 37 = .ok (.aload_n 0, 1) := by decide +kernel
theorem dX6_again_38 : decode cX6_again 38 = .ok (.getfield 26, 3) := by decide +kernel
theorem dX6_again_41 : decode cX6_again 41 = .ok (.invokevirtual 98, 3) := by decide +kernel
theorem dX6_again_44 : decode cX6_again 44 = .ok (.ireturn, 1) := by decide +kernel
theorem dX6_slotAt_0 : decode cX6_slotAt 0 = .ok (.iload_n 1, 1) := by decide +kernel
theorem dX6_slotAt_1 : decode cX6_slotAt 1 = .ok (.ifCond .lt 21, 3) := by decide +kernel
theorem dX6_slotAt_4 : decode cX6_slotAt 4 = .ok (.iload_n 1, 1) := by decide +kernel
theorem dX6_slotAt_5 : decode cX6_slotAt 5 = .ok (.aload_n 0, 1) := by decide +kernel
theorem dX6_slotAt_6 : decode cX6_slotAt 6 = .ok (.getfield 54, 3) := by decide +kernel
theorem dX6_slotAt_9 : decode cX6_slotAt 9 = .ok (.arraylength, 1) := by decide +kernel
theorem dX6_slotAt_10 : decode cX6_slotAt 10 = .ok (.if_icmp .ge 12, 3) := by decide +kernel
theorem dX6_slotAt_13 : decode cX6_slotAt 13 = .ok (.aload_n 0, 1) := by decide +kernel
theorem dX6_slotAt_14 : decode cX6_slotAt 14 = .ok (.getfield 54, 3) := by decide +kernel
theorem dX6_slotAt_17 : decode cX6_slotAt 17 = .ok (.iload_n 1, 1) := by decide +kernel
theorem dX6_slotAt_18 : decode cX6_slotAt 18 = .ok (.aaload, 1) := by decide +kernel
theorem dX6_slotAt_19 : decode cX6_slotAt 19 = .ok (.goto 4, 3) := by decide +kernel
theorem dX6_slotAt_22 : decode cX6_slotAt 22 = .ok (.aconst_null, 1) := by decide +kernel
theorem dX6_slotAt_23 : decode cX6_slotAt 23 = .ok (.areturn, 1) := by decide +kernel
set_option maxRecDepth 20000 in
theorem ggX6_forgetSlots_X2_release : GoodIn wsX6_forgetSlots wsX2_release := goodIn_r _ [6, 7, 17, 18, 19, 20] (by decide +kernel) (by decide +kernel)
set_option maxRecDepth 20000 in
theorem gX6_forgetSlots_X2_release : GoodIn wsX6_forgetSlots (wsV RX6 249 RX2 yX2_release wsX2_release) := goodIn_app (goodIn_of _ (by decide +kernel)) ggX6_forgetSlots_X2_release
theorem dX6_forgetSlots_0 : decode cX6_forgetSlots 0 = .ok (.iconst 0, 1) := by decide +kernel
theorem dX6_forgetSlots_1 : decode cX6_forgetSlots 1 = .ok (.istore_n 1, 1) := by decide +kernel
theorem dX6_forgetSlots_2 : decode cX6_forgetSlots 2 = .ok (.iload_n 1, 1) := by decide +kernel
theorem dX6_forgetSlots_3 : decode cX6_forgetSlots 3 = .ok (.aload_n 0, 1) := by decide +kernel
theorem dX6_forgetSlots_4 : decode cX6_forgetSlots 4 = .ok (.getfield 54, 3) := by decide +kernel
theorem dX6_forgetSlots_7 : decode cX6_forgetSlots 7 = .ok (.arraylength, 1) := by decide +kernel
theorem dX6_forgetSlots_8 : decode cX6_forgetSlots 8 = .ok (.if_icmp .ge 24, 3) := by decide +kernel
theorem dX6_forgetSlots_11 : decode cX6_forgetSlots 11 = .ok (.aload_n 0, 1) := by decide +kernel
theorem dX6_forgetSlots_12 : decode cX6_forgetSlots 12 = .ok (.getfield 54, 3) := by decide +kernel
theorem dX6_forgetSlots_15 : decode cX6_forgetSlots 15 = .ok (.iload_n 1, 1) := by decide +kernel
theorem dX6_forgetSlots_16 : decode cX6_forgetSlots 16 = .ok (.aaload, 1) := by decide +kernel
theorem dX6_forgetSlots_17 : decode cX6_forgetSlots 17 = .ok (.astore_n 2, 1) := by decide +kernel
theorem dX6_forgetSlots_18 : decode cX6_forgetSlots 18 = .ok (.aload_n 2, 1) := by decide +kernel
theorem dX6_forgetSlots_19 : decode cX6_forgetSlots 19 = .ok (.ifnull 7, 3) := by decide +kernel
theorem dX6_forgetSlots_22 : decode cX6_forgetSlots 22 = .ok (.aload_n 2, 1) := by decide +kernel
theorem dX6_forgetSlots_23 : decode cX6_forgetSlots 23 = .ok (.invokevirtual 249, 3) := by decide +kernel
theorem dX6_forgetSlots_26 : decode cX6_forgetSlots 26 = .ok (.iinc 1 1, 3) := by decide +kernel
theorem dX6_forgetSlots_29 : decode cX6_forgetSlots 29 = .ok (.goto (-27), 3) := by decide +kernel
theorem dX6_forgetSlots_32 : decode cX6_forgetSlots 32 = .ok (.return_, 1) := by decide +kernel
set_option maxRecDepth 20000 in
theorem ggX6_layDown_X2_keptBy : GoodIn wsX6_layDown wsX2_keptBy := goodIn_r _ [7, 8, 9, 10, 11, 53, 54, 55, 56] (by decide +kernel) (by decide +kernel)
set_option maxRecDepth 20000 in
theorem gX6_layDown_X2_keptBy : GoodIn wsX6_layDown (wsV RX6 132 RX2 yX2_keptBy wsX2_keptBy) := goodIn_app (goodIn_of _ (by decide +kernel)) ggX6_layDown_X2_keptBy
set_option maxRecDepth 20000 in
theorem ggX6_layDown_X2_wearerOf : GoodIn wsX6_layDown wsX2_wearerOf := goodIn_r _ [15, 16, 9, 10, 11, 53, 54, 55, 56] (by decide +kernel) (by decide +kernel)
set_option maxRecDepth 20000 in
theorem gX6_layDown_X2_wearerOf : GoodIn wsX6_layDown (wsV RX6 138 RX2 yX2_wearerOf wsX2_wearerOf) := goodIn_app (goodIn_of _ (by decide +kernel)) ggX6_layDown_X2_wearerOf
set_option maxRecDepth 20000 in
theorem ggX6_layDown_X1_afterHand : GoodIn wsX6_layDown wsX1_afterHand := goodIn_r _ [21, 22, 23, 24, 20, 25, 26, 9, 10, 11, 27, 28, 29, 30, 31, 32, 33, 57, 58, 59, 60, 61, 62, 63, 64] (by decide +kernel) (by decide +kernel)
set_option maxRecDepth 20000 in
theorem gX6_layDown_X1_afterHand : GoodIn wsX6_layDown (wsV RX6 252 RX1 yX1_afterHand wsX1_afterHand) := goodIn_app (goodIn_of _ (by decide +kernel)) ggX6_layDown_X1_afterHand
set_option maxRecDepth 20000 in
theorem ggX6_layDown_X2_setKept : GoodIn wsX6_layDown wsX2_setKept := goodIn_r _ [37, 8, 38, 10, 39, 53, 54, 55, 56] (by decide +kernel) (by decide +kernel)
set_option maxRecDepth 20000 in
theorem gX6_layDown_X2_setKept : GoodIn wsX6_layDown (wsV RX6 161 RX2 yX2_setKept wsX2_setKept) := goodIn_app (goodIn_of _ (by decide +kernel)) ggX6_layDown_X2_setKept
set_option maxRecDepth 20000 in
theorem ggX6_layDown_X2_putOn : GoodIn wsX6_layDown wsX2_putOn := goodIn_r _ [43, 16, 38, 10, 39, 53, 54, 55, 56] (by decide +kernel) (by decide +kernel)
set_option maxRecDepth 20000 in
theorem gX6_layDown_X2_putOn : GoodIn wsX6_layDown (wsV RX6 147 RX2 yX2_putOn wsX2_putOn) := goodIn_app (goodIn_of _ (by decide +kernel)) ggX6_layDown_X2_putOn
theorem dX6_layDown_0 : decode cX6_layDown 0 = .ok (.aload_n 0, 1) := by decide +kernel
theorem dX6_layDown_1 : decode cX6_layDown 1 = .ok (.getfield 19, 3) := by decide +kernel
theorem dX6_layDown_4 : decode cX6_layDown 4 = .ok (.iload_n 1, 1) := by decide +kernel
theorem dX6_layDown_5 : decode cX6_layDown 5 = .ok (.aload_n 0, 1) := by decide +kernel
theorem dX6_layDown_6 : decode cX6_layDown 6 = .ok (.getfield 26, 3) := by decide +kernel
theorem dX6_layDown_9 : decode cX6_layDown 9 = .ok (.iload_n 1, 1) := by decide +kernel
theorem dX6_layDown_10 : decode cX6_layDown 10 = .ok (.invokevirtual 132, 3) := by decide +kernel
theorem dX6_layDown_13 : decode cX6_layDown 13 = .ok (.aload_n 0, 1) := by decide +kernel
theorem dX6_layDown_14 : decode cX6_layDown 14 = .ok (.getfield 26, 3) := by decide +kernel
theorem dX6_layDown_17 : decode cX6_layDown 17 = .ok (.iload_n 1, 1) := by decide +kernel
theorem dX6_layDown_18 : decode cX6_layDown 18 = .ok (.invokevirtual 138, 3) := by decide +kernel
theorem dX6_layDown_21 : decode cX6_layDown 21 = .ok (.invokevirtual 252, 3) := by decide +kernel
theorem dX6_layDown_24 : decode cX6_layDown 24 = .ok (.istore_n 2, 1) := by decide +kernel
theorem dX6_layDown_25 : decode cX6_layDown 25 = .ok (.aload_n 0, 1) := by decide +kernel
theorem dX6_layDown_26 : decode cX6_layDown 26 = .ok (.getfield 26, 3) := by decide +kernel
theorem dX6_layDown_29 : decode cX6_layDown 29 = .ok (.iload_n 1, 1) := by decide +kernel
theorem dX6_layDown_30 : decode cX6_layDown 30 = .ok (.iload_n 2, 1) := by decide +kernel
theorem dX6_layDown_31 : decode cX6_layDown 31 = .ok (.invokevirtual 161, 3) := by decide +kernel
theorem dX6_layDown_34 : decode cX6_layDown 34 = .ok (.aload_n 0, 1) := by decide +kernel
theorem dX6_layDown_35 : decode cX6_layDown 35 = .ok (.getfield 26, 3) := by decide +kernel
theorem dX6_layDown_38 : decode cX6_layDown 38 = .ok (.iload_n 1, 1) := by decide +kernel
theorem dX6_layDown_39 : decode cX6_layDown 39 = .ok (.bipush (-9), 2) := by decide +kernel
theorem dX6_layDown_41 : decode cX6_layDown 41 = .ok (.invokevirtual 147, 3) := by decide +kernel
theorem dX6_layDown_44 : decode cX6_layDown 44 = .ok (.return_, 1) := by decide +kernel
set_option maxRecDepth 20000 in
theorem ggX6_lastAfterWashes_X2_keptBy : GoodIn wsX6_lastAfterWashes wsX2_keptBy := goodIn_r _ [6, 7, 8, 9, 10, 26, 27, 28, 29] (by decide +kernel) (by decide +kernel)
set_option maxRecDepth 20000 in
theorem gX6_lastAfterWashes_X2_keptBy : GoodIn wsX6_lastAfterWashes (wsV RX6 132 RX2 yX2_keptBy wsX2_keptBy) := goodIn_app (goodIn_of _ (by decide +kernel)) ggX6_lastAfterWashes_X2_keptBy
set_option maxRecDepth 20000 in
theorem ggX6_lastAfterWashes_X6_withoutLast : GoodIn wsX6_lastAfterWashes wsX6_withoutLast := goodIn_r _ [13] (by decide +kernel) (by decide +kernel)
set_option maxRecDepth 20000 in
theorem gX6_lastAfterWashes_X6_withoutLast : GoodIn wsX6_lastAfterWashes (va_wsS RX6 158 yX6_withoutLast wsX6_withoutLast) := goodIn_app (goodIn_of _ (by decide +kernel)) ggX6_lastAfterWashes_X6_withoutLast
set_option maxRecDepth 20000 in
theorem ggX6_lastAfterWashes_X6_lastOf : GoodIn wsX6_lastAfterWashes wsX6_lastOf := goodIn_r _ [16] (by decide +kernel) (by decide +kernel)
set_option maxRecDepth 20000 in
theorem gX6_lastAfterWashes_X6_lastOf : GoodIn wsX6_lastAfterWashes (va_wsS RX6 164 yX6_lastOf wsX6_lastOf) := goodIn_app (goodIn_of _ (by decide +kernel)) ggX6_lastAfterWashes_X6_lastOf
theorem dX6_lastAfterWashes_0 : decode cX6_lastAfterWashes 0 = .ok (.aload_n 0, 1) := by decide +kernel
theorem dX6_lastAfterWashes_1 : decode cX6_lastAfterWashes 1 = .ok (.getfield 26, 3) := by decide +kernel
theorem dX6_lastAfterWashes_4 : decode cX6_lastAfterWashes 4 = .ok (.iload_n 1, 1) := by decide +kernel
theorem dX6_lastAfterWashes_5 : decode cX6_lastAfterWashes 5 = .ok (.invokevirtual 132, 3) := by decide +kernel
theorem dX6_lastAfterWashes_8 : decode cX6_lastAfterWashes 8 = .ok (.istore_n 3, 1) := by decide +kernel
theorem dX6_lastAfterWashes_9 : decode cX6_lastAfterWashes 9 = .ok (.iconst 0, 1) := by decide +kernel
theorem dX6_lastAfterWashes_10 : decode cX6_lastAfterWashes 10 = .ok (.istore 4, 2) := by decide +kernel
theorem dX6_lastAfterWashes_12 : decode cX6_lastAfterWashes 12 = .ok (.iload 4, 2) := by decide +kernel
theorem dX6_lastAfterWashes_14 : decode cX6_lastAfterWashes 14 = .ok (.iload_n 2, 1) := by decide +kernel
theorem dX6_lastAfterWashes_15 : decode cX6_lastAfterWashes 15 = .ok (.if_icmp .ge 14, 3) := by decide +kernel
theorem dX6_lastAfterWashes_18 : decode cX6_lastAfterWashes 18 = .ok (.iload_n 3, 1) := by decide +kernel
theorem dX6_lastAfterWashes_19 : decode cX6_lastAfterWashes 19 = .ok (.invokestatic 158, 3) := by decide +kernel
theorem dX6_lastAfterWashes_22 : decode cX6_lastAfterWashes 22 = .ok (.istore_n 3, 1) := by decide +kernel
theorem dX6_lastAfterWashes_23 : decode cX6_lastAfterWashes 23 = .ok (.iinc 4 1, 3) := by decide +kernel
theorem dX6_lastAfterWashes_26 : decode cX6_lastAfterWashes 26 = .ok (.goto (-14), 3) := by decide +kernel
theorem dX6_lastAfterWashes_29 : decode cX6_lastAfterWashes 29 = .ok (.iload_n 3, 1) := by decide +kernel
theorem dX6_lastAfterWashes_30 : decode cX6_lastAfterWashes 30 = .ok (.invokestatic 164, 3) := by decide +kernel
theorem dX6_lastAfterWashes_33 : decode cX6_lastAfterWashes 33 = .ok (.ireturn, 1) := by decide +kernel
set_option maxRecDepth 20000 in
theorem ggX6_secretOf_X2_keptBy : GoodIn wsX6_secretOf wsX2_keptBy := goodIn_r _ [6, 7, 8, 9, 10, 23, 24, 25, 26] (by decide +kernel) (by decide +kernel)
set_option maxRecDepth 20000 in
theorem gX6_secretOf_X2_keptBy : GoodIn wsX6_secretOf (wsV RX6 132 RX2 yX2_keptBy wsX2_keptBy) := goodIn_app (goodIn_of _ (by decide +kernel)) ggX6_secretOf_X2_keptBy
set_option maxRecDepth 20000 in
theorem ggX6_secretOf_X6_lastOf : GoodIn wsX6_secretOf wsX6_lastOf := goodIn_r _ [13] (by decide +kernel) (by decide +kernel)
set_option maxRecDepth 20000 in
theorem gX6_secretOf_X6_lastOf : GoodIn wsX6_secretOf (va_wsS RX6 164 yX6_lastOf wsX6_lastOf) := goodIn_app (goodIn_of _ (by decide +kernel)) ggX6_secretOf_X6_lastOf
theorem dX6_secretOf_0 : decode cX6_secretOf 0 = .ok (.aload_n 0, 1) := by decide +kernel
theorem dX6_secretOf_1 : decode cX6_secretOf 1 = .ok (.getfield 26, 3) := by decide +kernel
theorem dX6_secretOf_4 : decode cX6_secretOf 4 = .ok (.iload_n 1, 1) := by decide +kernel
theorem dX6_secretOf_5 : decode cX6_secretOf 5 = .ok (.invokevirtual 132, 3) := by decide +kernel
theorem dX6_secretOf_8 : decode cX6_secretOf 8 = .ok (.invokestatic 164, 3) := by decide +kernel
theorem dX6_secretOf_11 : decode cX6_secretOf 11 = .ok (.aload_n 0, 1) := by decide +kernel
theorem dX6_secretOf_12 : decode cX6_secretOf 12 = .ok (.getfield 26, 3) := by decide +kernel
theorem dX6_secretOf_15 : decode cX6_secretOf 15 = .ok (.iload_n 2, 1) := by decide +kernel
theorem dX6_secretOf_16 : decode cX6_secretOf 16 = .ok (.invokevirtual 132, 3) := by decide +kernel
theorem dX6_secretOf_19 : decode cX6_secretOf 19 = .ok (.invokestatic 164, 3) := by decide +kernel
theorem dX6_secretOf_22 : decode cX6_secretOf 22 = .ok (.ixor, 1) := by decide +kernel
theorem dX6_secretOf_23 : decode cX6_secretOf 23 = .ok (.ireturn, 1) := by decide +kernel
set_option maxRecDepth 20000 in
theorem ggX6_isRow_X1_hasPerson : GoodIn wsX6_isRow wsX1_hasPerson := goodIn_r _ [6, 7, 17, 18, 19, 20, 21, 22, 23, 24] (by decide +kernel) (by decide +kernel)
set_option maxRecDepth 20000 in
theorem gX6_isRow_X1_hasPerson : GoodIn wsX6_isRow (wsV RX6 106 RX1 yX1_hasPerson wsX1_hasPerson) := goodIn_app (goodIn_of _ (by decide +kernel)) ggX6_isRow_X1_hasPerson
theorem dX6_isRow_0 : decode cX6_isRow 0 = .ok (.iload_n 2, 1) := by decide +kernel
theorem dX6_isRow_1 : decode cX6_isRow 1 = .ok (.istore_n 3, 1) := by decide +kernel
theorem dX6_isRow_2 : decode cX6_isRow 2 = .ok (.iconst 0, 1) := by decide +kernel
theorem dX6_isRow_3 : decode cX6_isRow 3 = .ok (.istore 4, 2) := by decide +kernel
theorem dX6_isRow_5 : decode cX6_isRow 5 = .ok (.iload 4, 2) := by decide +kernel
theorem dX6_isRow_7 : decode cX6_isRow 7 = .ok (.iload_n 1, 1) := by decide +kernel
theorem dX6_isRow_8 : decode cX6_isRow 8 = .ok (.if_icmp .ge 32, 3) := by decide +kernel
theorem dX6_isRow_11 : decode cX6_isRow 11 = .ok (.aload_n 0, 1) := by decide +kernel
theorem dX6_isRow_12 : decode cX6_isRow 12 = .ok (.getfield 19, 3) := by decide +kernel
theorem dX6_isRow_15 : decode cX6_isRow 15 = .ok (.iload_n 3, 1) := by decide +kernel
theorem dX6_isRow_16 : decode cX6_isRow 16 = .ok (.bipush 10, 2) := by decide +kernel
theorem dX6_isRow_18 : decode cX6_isRow 18 = .ok (.irem, 1) := by decide +kernel
theorem dX6_isRow_19 : decode cX6_isRow 19 = .ok (.iconst 1, 1) := by decide +kernel
theorem dX6_isRow_20 : decode cX6_isRow 20 = .ok (.isub, 1) := by decide +kernel
theorem dX6_isRow_21 : decode cX6_isRow 21 = .ok (.invokevirtual 106, 3) := by decide +kernel
theorem dX6_isRow_24 : decode cX6_isRow 24 = .ok (.ifCond .ne 5, 3) := by decide +kernel
theorem dX6_isRow_27 : decode cX6_isRow 27 = .ok (.iconst 0, 1) := by decide +kernel
theorem dX6_isRow_28 : decode cX6_isRow 28 = .ok (.ireturn, 1) := by decide +kernel
theorem dX6_isRow_29 : decode cX6_isRow 29 = .ok (.iload_n 3, 1) := by decide +kernel
theorem dX6_isRow_30 : decode cX6_isRow 30 = .ok (.bipush 10, 2) := by decide +kernel
theorem dX6_isRow_32 : decode cX6_isRow 32 = .ok (.idiv, 1) := by decide +kernel
theorem dX6_isRow_33 : decode cX6_isRow 33 = .ok (.istore_n 3, 1) := by decide +kernel
theorem dX6_isRow_34 : decode cX6_isRow 34 = .ok (.iinc 4 1, 3) := by decide +kernel
theorem dX6_isRow_37 : decode cX6_isRow 37 = .ok (.goto (-32), 3) := by decide +kernel
theorem dX6_isRow_40 : decode cX6_isRow 40 = .ok (.iload_n 3, 1) := by decide +kernel
theorem dX6_isRow_41 : decode cX6_isRow 41 = .ok (.ifCond .ne 7, 3) := by decide +kernel
theorem dX6_isRow_44 : decode cX6_isRow 44 = .ok (.iconst 1, 1) := by decide +kernel
theorem dX6_isRow_45 : decode cX6_isRow 45 = .ok (.goto 4, 3) := by decide +kernel
theorem dX6_isRow_48 : decode cX6_isRow 48 = .ok (.iconst 0, 1) := by decide +kernel
theorem dX6_isRow_49 : decode cX6_isRow 49 = .ok (.ireturn, 1) := by decide +kernel
set_option maxRecDepth 20000 in
theorem ggX6_replyToRow_X6_turned : GoodIn wsX6_replyToRow wsX6_turned := goodIn_r _ [6] (by decide +kernel) (by decide +kernel)
set_option maxRecDepth 20000 in
theorem gX6_replyToRow_X6_turned : GoodIn wsX6_replyToRow (va_wsS RX6 255 yX6_turned wsX6_turned) := goodIn_app (goodIn_of _ (by decide +kernel)) ggX6_replyToRow_X6_turned
set_option maxRecDepth 20000 in
theorem ggX6_replyToRow_X2_keptBy : GoodIn wsX6_replyToRow wsX2_keptBy := goodIn_r _ [11, 12, 13, 5, 14, 54, 55, 56, 57] (by decide +kernel) (by decide +kernel)
set_option maxRecDepth 20000 in
theorem gX6_replyToRow_X2_keptBy : GoodIn wsX6_replyToRow (wsV RX6 132 RX2 yX2_keptBy wsX2_keptBy) := goodIn_app (goodIn_of _ (by decide +kernel)) ggX6_replyToRow_X2_keptBy
set_option maxRecDepth 20000 in
theorem ggX6_replyToRow_X1_afterHand : GoodIn wsX6_replyToRow wsX1_afterHand := goodIn_r _ [19, 20, 21, 22, 18, 23, 24, 13, 5, 14, 25, 26, 27, 28, 29, 30, 31, 58, 59, 60, 61, 62, 63, 64, 65] (by decide +kernel) (by decide +kernel)
set_option maxRecDepth 20000 in
theorem gX6_replyToRow_X1_afterHand : GoodIn wsX6_replyToRow (wsV RX6 252 RX1 yX1_afterHand wsX1_afterHand) := goodIn_app (goodIn_of _ (by decide +kernel)) ggX6_replyToRow_X1_afterHand
set_option maxRecDepth 20000 in
theorem ggX6_replyToRow_X1_reply : GoodIn wsX6_replyToRow wsX1_reply := goodIn_r _ [35, 36, 5, 37, 38, 39, 40, 18, 41, 42, 13, 14, 43, 44, 20, 21, 22, 23, 24, 58, 59, 60, 61, 62, 63, 64, 65] (by decide +kernel) (by decide +kernel)
set_option maxRecDepth 20000 in
theorem gX6_replyToRow_X1_reply : GoodIn wsX6_replyToRow (wsV RX6 151 RX1 yX1_reply wsX1_reply) := goodIn_app (goodIn_of _ (by decide +kernel)) ggX6_replyToRow_X1_reply
theorem dX6_replyToRow_0 : decode cX6_replyToRow 0 = .ok (.iload_n 2, 1) := by decide +kernel
theorem dX6_replyToRow_1 : decode cX6_replyToRow 1 = .ok (.iload_n 3, 1) := by decide +kernel
theorem dX6_replyToRow_2 : decode cX6_replyToRow 2 = .ok (.invokestatic 255, 3) := by decide +kernel
theorem dX6_replyToRow_5 : decode cX6_replyToRow 5 = .ok (.istore 4, 2) := by decide +kernel
theorem dX6_replyToRow_7 : decode cX6_replyToRow 7 = .ok (.aload_n 0, 1) := by decide +kernel
theorem dX6_replyToRow_8 : decode cX6_replyToRow 8 = .ok (.getfield 26, 3) := by decide +kernel
theorem dX6_replyToRow_11 : decode cX6_replyToRow 11 = .ok (.iload_n 1, 1) := by decide +kernel
theorem dX6_replyToRow_12 : decode cX6_replyToRow 12 = .ok (.invokevirtual 132, 3) := by decide +kernel
theorem dX6_replyToRow_15 : decode cX6_replyToRow 15 = .ok (.istore 5, 2) := by decide +kernel
theorem dX6_replyToRow_17 : decode cX6_replyToRow 17 = .ok (.iconst 1, 1) := by decide +kernel
theorem dX6_replyToRow_18 : decode cX6_replyToRow 18 = .ok (.istore 6, 2) := by decide +kernel
theorem dX6_replyToRow_20 : decode cX6_replyToRow 20 = .ok (.iload 6, 2) := by decide +kernel
theorem dX6_replyToRow_22 : decode cX6_replyToRow 22 = .ok (.iload_n 2, 1) := by decide +kernel
theorem dX6_replyToRow_23 : decode cX6_replyToRow 23 = .ok (.if_icmp .ge 35, 3) := by decide +kernel
theorem dX6_replyToRow_26 : decode cX6_replyToRow 26 = .ok (.aload_n 0, 1) := by decide +kernel
theorem dX6_replyToRow_27 : decode cX6_replyToRow 27 = .ok (.getfield 19, 3) := by decide +kernel
theorem dX6_replyToRow_30 : decode cX6_replyToRow 30 = .ok (.iload_n 1, 1) := by decide +kernel
theorem dX6_replyToRow_31 : decode cX6_replyToRow 31 = .ok (.iload 5, 2) := by decide +kernel
theorem dX6_replyToRow_33 : decode cX6_replyToRow 33 = .ok (.iload 4, 2) := by decide +kernel
theorem dX6_replyToRow_35 : decode cX6_replyToRow 35 = .ok (.bipush 10, 2) := by decide +kernel
theorem dX6_replyToRow_37 : decode cX6_replyToRow 37 = .ok (.irem, 1) := by decide +kernel
theorem dX6_replyToRow_38 : decode cX6_replyToRow 38 = .ok (.iconst 1, 1) := by decide +kernel
theorem dX6_replyToRow_39 : decode cX6_replyToRow 39 = .ok (.isub, 1) := by decide +kernel
theorem dX6_replyToRow_40 : decode cX6_replyToRow 40 = .ok (.invokevirtual 252, 3) := by decide +kernel
theorem dX6_replyToRow_43 : decode cX6_replyToRow 43 = .ok (.istore 5, 2) := by decide +kernel
theorem dX6_replyToRow_45 : decode cX6_replyToRow 45 = .ok (.iload 4, 2) := by decide +kernel
theorem dX6_replyToRow_47 : decode cX6_replyToRow 47 = .ok (.bipush 10, 2) := by decide +kernel
theorem dX6_replyToRow_49 : decode cX6_replyToRow 49 = .ok (.idiv, 1) := by decide +kernel
theorem dX6_replyToRow_50 : decode cX6_replyToRow 50 = .ok (.istore 4, 2) := by decide +kernel
theorem dX6_replyToRow_52 : decode cX6_replyToRow 52 = .ok (.iinc 6 1, 3) := by decide +kernel
theorem dX6_replyToRow_55 : decode cX6_replyToRow 55 = .ok (.goto (-35), 3) := by decide +kernel
theorem dX6_replyToRow_58 : decode cX6_replyToRow 58 = .ok (.aload_n 0, 1) := by decide +kernel
theorem dX6_replyToRow_59 : decode cX6_replyToRow 59 = .ok (.getfield 19, 3) := by decide +kernel
theorem dX6_replyToRow_62 : decode cX6_replyToRow 62 = .ok (.iload_n 1, 1) := by decide +kernel
theorem dX6_replyToRow_63 : decode cX6_replyToRow 63 = .ok (.iload 5, 2) := by decide +kernel
theorem dX6_replyToRow_65 : decode cX6_replyToRow 65 = .ok (.iload 4, 2) := by decide +kernel
theorem dX6_replyToRow_67 : decode cX6_replyToRow 67 = .ok (.bipush 10, 2) := by decide +kernel
theorem dX6_replyToRow_69 : decode cX6_replyToRow 69 = .ok (.irem, 1) := by decide +kernel
theorem dX6_replyToRow_70 : decode cX6_replyToRow 70 = .ok (.iconst 1, 1) := by decide +kernel
theorem dX6_replyToRow_71 : decode cX6_replyToRow 71 = .ok (.isub, 1) := by decide +kernel
theorem dX6_replyToRow_72 : decode cX6_replyToRow 72 = .ok (.invokevirtual 151, 3) := by decide +kernel
theorem dX6_replyToRow_75 : decode cX6_replyToRow 75 = .ok (.ireturn, 1) := by decide +kernel
set_option maxRecDepth 20000 in
theorem ggX6_worthOn_X2_keptBy : GoodIn wsX6_worthOn wsX2_keptBy := goodIn_r _ [7, 8, 9, 10, 11, 50, 51, 52, 53] (by decide +kernel) (by decide +kernel)
set_option maxRecDepth 20000 in
theorem gX6_worthOn_X2_keptBy : GoodIn wsX6_worthOn (wsV RX6 132 RX2 yX2_keptBy wsX2_keptBy) := goodIn_app (goodIn_of _ (by decide +kernel)) ggX6_worthOn_X2_keptBy
set_option maxRecDepth 20000 in
theorem ggX6_worthOn_X1_reply : GoodIn wsX6_worthOn wsX1_reply := goodIn_r _ [16, 17, 10, 18, 19, 20, 21, 15, 22, 23, 9, 11, 24, 25, 26, 27, 28, 29, 30, 54, 55, 56, 57, 58, 59, 60, 61] (by decide +kernel) (by decide +kernel)
set_option maxRecDepth 20000 in
theorem gX6_worthOn_X1_reply : GoodIn wsX6_worthOn (wsV RX6 151 RX1 yX1_reply wsX1_reply) := goodIn_app (goodIn_of _ (by decide +kernel)) ggX6_worthOn_X1_reply
set_option maxRecDepth 20000 in
theorem ggX6_worthOn_X1_dearTo : GoodIn wsX6_worthOn wsX1_dearTo := goodIn_r _ [34, 35, 9, 10, 11, 54, 55, 56, 57, 58, 59, 60, 61] (by decide +kernel) (by decide +kernel)
set_option maxRecDepth 20000 in
theorem gX6_worthOn_X1_dearTo : GoodIn wsX6_worthOn (wsV RX6 114 RX1 yX1_dearTo wsX1_dearTo) := goodIn_app (goodIn_of _ (by decide +kernel)) ggX6_worthOn_X1_dearTo
set_option maxRecDepth 20000 in
theorem ggX6_worthOn_X1_worthTo : GoodIn wsX6_worthOn wsX1_worthTo := goodIn_r _ [39, 40, 9, 10, 11, 54, 55, 56, 57, 58, 59, 60, 61] (by decide +kernel) (by decide +kernel)
set_option maxRecDepth 20000 in
theorem gX6_worthOn_X1_worthTo : GoodIn wsX6_worthOn (wsV RX6 117 RX1 yX1_worthTo wsX1_worthTo) := goodIn_app (goodIn_of _ (by decide +kernel)) ggX6_worthOn_X1_worthTo
theorem dX6_worthOn_0 : decode cX6_worthOn 0 = .ok (.aload_n 0, 1) := by decide +kernel
theorem dX6_worthOn_1 : decode cX6_worthOn 1 = .ok (.getfield 19, 3) := by decide +kernel
theorem dX6_worthOn_4 : decode cX6_worthOn 4 = .ok (.iload_n 1, 1) := by decide +kernel
theorem dX6_worthOn_5 : decode cX6_worthOn 5 = .ok (.aload_n 0, 1) := by decide +kernel
theorem dX6_worthOn_6 : decode cX6_worthOn 6 = .ok (.getfield 26, 3) := by decide +kernel
theorem dX6_worthOn_9 : decode cX6_worthOn 9 = .ok (.iload_n 1, 1) := by decide +kernel
theorem dX6_worthOn_10 : decode cX6_worthOn 10 = .ok (.invokevirtual 132, 3) := by decide +kernel
theorem dX6_worthOn_13 : decode cX6_worthOn 13 = .ok (.iload_n 2, 1) := by decide +kernel
theorem dX6_worthOn_14 : decode cX6_worthOn 14 = .ok (.invokevirtual 151, 3) := by decide +kernel
theorem dX6_worthOn_17 : decode cX6_worthOn 17 = .ok (.istore_n 3, 1) := by decide +kernel
theorem dX6_worthOn_18 : decode cX6_worthOn 18 = .ok (.iload_n 3, 1) := by decide +kernel
theorem dX6_worthOn_19 : decode cX6_worthOn 19 = .ok (.aload_n 0, 1) := by decide +kernel
theorem dX6_worthOn_20 : decode cX6_worthOn 20 = .ok (.getfield 19, 3) := by decide +kernel
theorem dX6_worthOn_23 : decode cX6_worthOn 23 = .ok (.iload_n 2, 1) := by decide +kernel
theorem dX6_worthOn_24 : decode cX6_worthOn 24 = .ok (.invokevirtual 114, 3) := by decide +kernel
theorem dX6_worthOn_27 : decode cX6_worthOn 27 = .ok (.if_icmp .ne 14, 3) := by decide +kernel
theorem dX6_worthOn_30 : decode cX6_worthOn 30 = .ok (.aload_n 0, 1) := by decide +kernel
theorem dX6_worthOn_31 : decode cX6_worthOn 31 = .ok (.getfield 19, 3) := by decide +kernel
theorem dX6_worthOn_34 : decode cX6_worthOn 34 = .ok (.iload_n 2, 1) := by decide +kernel
theorem dX6_worthOn_35 : decode cX6_worthOn 35 = .ok (.invokevirtual 117, 3) := by decide +kernel
theorem dX6_worthOn_38 : decode cX6_worthOn 38 = .ok (.goto 4, 3) := by decide +kernel
theorem dX6_worthOn_41 : decode cX6_worthOn 41 = .ok (.iconst 0, 1) := by decide +kernel
theorem dX6_worthOn_42 : decode cX6_worthOn 42 = .ok (.ireturn, 1) := by decide +kernel
set_option maxRecDepth 20000 in
theorem ggX6_pleasesOnTrial_X1_hasGlove : GoodIn wsX6_pleasesOnTrial wsX1_hasGlove := goodIn_r _ [7, 8, 85, 86, 87, 88, 89, 90, 91, 92] (by decide +kernel) (by decide +kernel)
set_option maxRecDepth 20000 in
theorem gX6_pleasesOnTrial_X1_hasGlove : GoodIn wsX6_pleasesOnTrial (wsV RX6 123 RX1 yX1_hasGlove wsX1_hasGlove) := goodIn_app (goodIn_of _ (by decide +kernel)) ggX6_pleasesOnTrial_X1_hasGlove
set_option maxRecDepth 20000 in
theorem ggX6_pleasesOnTrial_X1_hasPerson : GoodIn wsX6_pleasesOnTrial wsX1_hasPerson := goodIn_r _ [12, 13, 85, 86, 87, 88, 89, 90, 91, 92] (by decide +kernel) (by decide +kernel)
set_option maxRecDepth 20000 in
theorem gX6_pleasesOnTrial_X1_hasPerson : GoodIn wsX6_pleasesOnTrial (wsV RX6 106 RX1 yX1_hasPerson wsX1_hasPerson) := goodIn_app (goodIn_of _ (by decide +kernel)) ggX6_pleasesOnTrial_X1_hasPerson
set_option maxRecDepth 20000 in
theorem ggX6_pleasesOnTrial_X2_isWorn : GoodIn wsX6_pleasesOnTrial wsX2_isWorn := goodIn_r _ [18, 19, 20, 21, 17, 22, 23, 24, 25, 26, 93, 94, 95, 96] (by decide +kernel) (by decide +kernel)
set_option maxRecDepth 20000 in
theorem gX6_pleasesOnTrial_X2_isWorn : GoodIn wsX6_pleasesOnTrial (wsV RX6 141 RX2 yX2_isWorn wsX2_isWorn) := goodIn_app (goodIn_of _ (by decide +kernel)) ggX6_pleasesOnTrial_X2_isWorn
set_option maxRecDepth 20000 in
theorem ggX6_pleasesOnTrial_X2_gloveOn : GoodIn wsX6_pleasesOnTrial wsX2_gloveOn := goodIn_r _ [30, 19, 20, 21, 17, 22, 23, 24, 25, 26, 93, 94, 95, 96] (by decide +kernel) (by decide +kernel)
set_option maxRecDepth 20000 in
theorem gX6_pleasesOnTrial_X2_gloveOn : GoodIn wsX6_pleasesOnTrial (wsV RX6 120 RX2 yX2_gloveOn wsX2_gloveOn) := goodIn_app (goodIn_of _ (by decide +kernel)) ggX6_pleasesOnTrial_X2_gloveOn
set_option maxRecDepth 20000 in
theorem ggX6_pleasesOnTrial_X2_keptBy : GoodIn wsX6_pleasesOnTrial wsX2_keptBy := goodIn_r _ [34, 35, 24, 25, 26, 93, 94, 95, 96] (by decide +kernel) (by decide +kernel)
set_option maxRecDepth 20000 in
theorem gX6_pleasesOnTrial_X2_keptBy : GoodIn wsX6_pleasesOnTrial (wsV RX6 132 RX2 yX2_keptBy wsX2_keptBy) := goodIn_app (goodIn_of _ (by decide +kernel)) ggX6_pleasesOnTrial_X2_keptBy
set_option maxRecDepth 20000 in
theorem ggX6_pleasesOnTrial_X1_afterHand : GoodIn wsX6_pleasesOnTrial wsX1_afterHand := goodIn_r _ [39, 40, 41, 42, 6, 43, 44, 24, 25, 26, 45, 46, 47, 48, 49, 50, 51, 85, 86, 87, 88, 89, 90, 91, 92] (by decide +kernel) (by decide +kernel)
set_option maxRecDepth 20000 in
theorem gX6_pleasesOnTrial_X1_afterHand : GoodIn wsX6_pleasesOnTrial (wsV RX6 252 RX1 yX1_afterHand wsX1_afterHand) := goodIn_app (goodIn_of _ (by decide +kernel)) ggX6_pleasesOnTrial_X1_afterHand
set_option maxRecDepth 20000 in
theorem ggX6_pleasesOnTrial_X2_setKept : GoodIn wsX6_pleasesOnTrial wsX2_setKept := goodIn_r _ [55, 35, 56, 25, 57, 93, 94, 95, 96] (by decide +kernel) (by decide +kernel)
set_option maxRecDepth 20000 in
theorem gX6_pleasesOnTrial_X2_setKept : GoodIn wsX6_pleasesOnTrial (wsV RX6 161 RX2 yX2_setKept wsX2_setKept) := goodIn_app (goodIn_of _ (by decide +kernel)) ggX6_pleasesOnTrial_X2_setKept
set_option maxRecDepth 20000 in
theorem ggX6_pleasesOnTrial_X1_reply : GoodIn wsX6_pleasesOnTrial wsX1_reply := goodIn_r _ [61, 62, 25, 63, 64, 65, 66, 6, 67, 68, 24, 26, 69, 70, 40, 41, 42, 43, 44, 85, 86, 87, 88, 89, 90, 91, 92] (by decide +kernel) (by decide +kernel)
set_option maxRecDepth 20000 in
theorem gX6_pleasesOnTrial_X1_reply : GoodIn wsX6_pleasesOnTrial (wsV RX6 151 RX1 yX1_reply wsX1_reply) := goodIn_app (goodIn_of _ (by decide +kernel)) ggX6_pleasesOnTrial_X1_reply
set_option maxRecDepth 20000 in
theorem ggX6_pleasesOnTrial_X1_dearTo : GoodIn wsX6_pleasesOnTrial wsX1_dearTo := goodIn_r _ [74, 75, 24, 25, 26, 85, 86, 87, 88, 89, 90, 91, 92] (by decide +kernel) (by decide +kernel)
set_option maxRecDepth 20000 in
theorem gX6_pleasesOnTrial_X1_dearTo : GoodIn wsX6_pleasesOnTrial (wsV RX6 114 RX1 yX1_dearTo wsX1_dearTo) := goodIn_app (goodIn_of _ (by decide +kernel)) ggX6_pleasesOnTrial_X1_dearTo
theorem dX6_pleasesOnTrial_0 : decode cX6_pleasesOnTrial 0 = .ok (.aload_n 0, 1) := by decide +kernel
theorem dX6_pleasesOnTrial_1 : decode cX6_pleasesOnTrial 1 = .ok (.getfield 19, 3) := by decide +kernel
theorem dX6_pleasesOnTrial_4 : decode cX6_pleasesOnTrial 4 = .ok (.iload_n 1, 1) := by decide +kernel
theorem dX6_pleasesOnTrial_5 : decode cX6_pleasesOnTrial 5 = .ok (.invokevirtual 123, 3) := by decide +kernel
theorem dX6_pleasesOnTrial_8 : decode cX6_pleasesOnTrial 8 = .ok (.ifCond .eq 14, 3) := by decide +kernel
theorem dX6_pleasesOnTrial_11 : decode cX6_pleasesOnTrial 11 = .ok (.aload_n 0, 1) := by decide +kernel
theorem dX6_pleasesOnTrial_12 : decode cX6_pleasesOnTrial 12 = .ok (.getfield 19, 3) := by decide +kernel
theorem dX6_pleasesOnTrial_15 : decode cX6_pleasesOnTrial 15 = .ok (.iload_n 2, 1) := by decide +kernel
theorem dX6_pleasesOnTrial_16 : decode cX6_pleasesOnTrial 16 = .ok (.invokevirtual 106, 3) := by decide +kernel
theorem dX6_pleasesOnTrial_19 : decode cX6_pleasesOnTrial 19 = .ok (.ifCond .ne 5, 3) := by decide +kernel
theorem dX6_pleasesOnTrial_22 : decode cX6_pleasesOnTrial 22 = .ok (.iconst 0, 1) := by decide +kernel
theorem dX6_pleasesOnTrial_23 : decode cX6_pleasesOnTrial 23 = .ok (.ireturn, 1) := by decide +kernel
theorem dX6_pleasesOnTrial_24 : decode cX6_pleasesOnTrial 24 = .ok (.aload_n 0, 1) := by decide +kernel
theorem dX6_pleasesOnTrial_25 : decode cX6_pleasesOnTrial 25 = .ok (.getfield 30, 3) := by decide +kernel
theorem dX6_pleasesOnTrial_28 : decode cX6_pleasesOnTrial 28 = .ok (.iload_n 1, 1) := by decide +kernel
theorem dX6_pleasesOnTrial_29 : decode cX6_pleasesOnTrial 29 = .ok (.invokevirtual 141, 3) := by decide +kernel
theorem dX6_pleasesOnTrial_32 : decode cX6_pleasesOnTrial 32 = .ok (.ifCond .ne 16, 3) := by decide +kernel
theorem dX6_pleasesOnTrial_35 : decode cX6_pleasesOnTrial 35 = .ok (.aload_n 0, 1) := by decide +kernel
theorem dX6_pleasesOnTrial_36 : decode cX6_pleasesOnTrial 36 = .ok (.getfield 30, 3) := by decide +kernel
theorem dX6_pleasesOnTrial_39 : decode cX6_pleasesOnTrial 39 = .ok (.iload_n 2, 1) := by decide +kernel
theorem dX6_pleasesOnTrial_40 : decode cX6_pleasesOnTrial 40 = .ok (.invokevirtual 120, 3) := by decide +kernel
theorem dX6_pleasesOnTrial_43 : decode cX6_pleasesOnTrial 43 = .ok (.bipush (-9), 2) := by decide +kernel
theorem dX6_pleasesOnTrial_45 : decode cX6_pleasesOnTrial 45 = .ok (.if_icmp .eq 5, 3) := by decide +kernel
theorem dX6_pleasesOnTrial_48 : decode cX6_pleasesOnTrial 48 = .ok (.iconst 0, 1) := by decide +kernel
theorem dX6_pleasesOnTrial_49 : decode cX6_pleasesOnTrial 49 = .ok (.ireturn, 1) := by decide +kernel
theorem dX6_pleasesOnTrial_50 : decode cX6_pleasesOnTrial 50 = .ok (.aload_n 0, 1) := by decide +kernel
theorem dX6_pleasesOnTrial_51 : decode cX6_pleasesOnTrial 51 = .ok (.getfield 30, 3) := by decide +kernel
theorem dX6_pleasesOnTrial_54 : decode cX6_pleasesOnTrial 54 = .ok (.iload_n 1, 1) := by decide +kernel
theorem dX6_pleasesOnTrial_55 : decode cX6_pleasesOnTrial 55 = .ok (.invokevirtual 132, 3) := by decide +kernel
theorem dX6_pleasesOnTrial_58 : decode cX6_pleasesOnTrial 58 = .ok (.istore_n 3, 1) := by decide +kernel
theorem dX6_pleasesOnTrial_59 : decode cX6_pleasesOnTrial 59 = .ok (.aload_n 0, 1) := by decide +kernel
theorem dX6_pleasesOnTrial_60 : decode cX6_pleasesOnTrial 60 = .ok (.getfield 30, 3) := by decide +kernel
theorem dX6_pleasesOnTrial_63 : decode cX6_pleasesOnTrial 63 = .ok (.iload_n 1, 1) := by decide +kernel
theorem dX6_pleasesOnTrial_64 : decode cX6_pleasesOnTrial 64 = .ok (.aload_n 0, 1) := by decide +kernel
theorem dX6_pleasesOnTrial_65 : decode cX6_pleasesOnTrial 65 = .ok (.getfield 19, 3) := by decide +kernel
theorem dX6_pleasesOnTrial_68 : decode cX6_pleasesOnTrial 68 = .ok (.iload_n 1, 1) := by decide +kernel
theorem dX6_pleasesOnTrial_69 : decode cX6_pleasesOnTrial 69 = .ok (.iload_n 3, 1) := by decide +kernel
theorem dX6_pleasesOnTrial_70 : decode cX6_pleasesOnTrial 70 = .ok (.iload_n 2, 1) := by decide +kernel
theorem dX6_pleasesOnTrial_71 : decode cX6_pleasesOnTrial 71 = .ok (.invokevirtual 252, 3) := by decide +kernel
theorem dX6_pleasesOnTrial_74 : decode cX6_pleasesOnTrial 74 = .ok (.invokevirtual 161, 3) := by decide +kernel
theorem dX6_pleasesOnTrial_77 : decode cX6_pleasesOnTrial 77 = .ok (.aload_n 0, 1) := by decide +kernel
theorem dX6_pleasesOnTrial_78 : decode cX6_pleasesOnTrial 78 = .ok (.getfield 19, 3) := by decide +kernel
theorem dX6_pleasesOnTrial_81 : decode cX6_pleasesOnTrial 81 = .ok (.iload_n 1, 1) := by decide +kernel
theorem dX6_pleasesOnTrial_82 : decode cX6_pleasesOnTrial 82 = .ok (.iload_n 3, 1) := by decide +kernel
theorem dX6_pleasesOnTrial_83 : decode cX6_pleasesOnTrial 83 = .ok (.iload_n 2, 1) := by decide +kernel
theorem dX6_pleasesOnTrial_84 : decode cX6_pleasesOnTrial 84 = .ok (.invokevirtual 151, 3) := by decide +kernel
theorem dX6_pleasesOnTrial_87 : decode cX6_pleasesOnTrial 87 = .ok (.aload_n 0, 1) := by decide +kernel
theorem dX6_pleasesOnTrial_88 : decode cX6_pleasesOnTrial 88 = .ok (.getfield 19, 3) := by decide +kernel
theorem dX6_pleasesOnTrial_91 : decode cX6_pleasesOnTrial 91 = .ok (.iload_n 2, 1) := by decide +kernel
theorem dX6_pleasesOnTrial_92 : decode cX6_pleasesOnTrial 92 = .ok (.invokevirtual 114, 3) := by decide +kernel
theorem dX6_pleasesOnTrial_95 : decode cX6_pleasesOnTrial 95 = .ok (.if_icmp .ne 7, 3) := by decide +kernel
theorem dX6_pleasesOnTrial_98 : decode cX6_pleasesOnTrial 98 = .ok (.iconst 1, 1) := by decide +kernel
theorem dX6_pleasesOnTrial_99 : decode cX6_pleasesOnTrial 99 = .ok (.goto 4, 3) := by decide +kernel
theorem dX6_pleasesOnTrial_102 : decode cX6_pleasesOnTrial 102 = .ok (.iconst 0, 1) := by decide +kernel
theorem dX6_pleasesOnTrial_103 : decode cX6_pleasesOnTrial 103 = .ok (.ireturn, 1) := by decide +kernel
set_option maxRecDepth 20000 in
theorem ggX6_firstRow_X1_people : GoodIn wsX6_firstRow wsX1_people := goodIn_r _ [5, 6, 41, 42, 43, 44, 45, 46, 47, 48] (by decide +kernel) (by decide +kernel)
set_option maxRecDepth 20000 in
theorem gX6_firstRow_X1_people : GoodIn wsX6_firstRow (wsV RX6 92 RX1 yX1_people wsX1_people) := goodIn_app (goodIn_of _ (by decide +kernel)) ggX6_firstRow_X1_people
set_option maxRecDepth 20000 in
theorem ggX6_firstRow_X1_afterHand : GoodIn wsX6_firstRow wsX1_afterHand := goodIn_r _ [10, 11, 12, 13, 4, 14, 15, 16, 17, 18, 19, 20, 21, 22, 23, 24, 25, 41, 42, 43, 44, 45, 46, 47, 48] (by decide +kernel) (by decide +kernel)
set_option maxRecDepth 20000 in
theorem gX6_firstRow_X1_afterHand : GoodIn wsX6_firstRow (wsV RX6 252 RX1 yX1_afterHand wsX1_afterHand) := goodIn_app (goodIn_of _ (by decide +kernel)) ggX6_firstRow_X1_afterHand
set_option maxRecDepth 20000 in
theorem ggX6_firstRow_X6_firstRow : GoodIn wsX6_firstRow wsX6_firstRow := goodIn_r _ [0, 1, 2, 3, 4, 5, 6, 7, 8, 9, 10, 11, 12, 13, 14, 15, 16, 17, 18, 19, 20, 21, 22, 23, 24, 25, 26, 27, 28, 29, 30, 31, 32, 33, 34, 35, 36, 37, 38, 39, 40, 41, 42, 43, 44, 45, 46, 47, 48] (by decide +kernel) (by decide +kernel)
set_option maxRecDepth 20000 in
theorem gX6_firstRow_X6_firstRow : GoodIn wsX6_firstRow (va_wsS RX6 183 yX6_firstRow wsX6_firstRow) := goodIn_app (goodIn_of _ (by decide +kernel)) ggX6_firstRow_X6_firstRow
set_option maxRecDepth 20000 in
theorem ggX6_firstRow_X1_reply : GoodIn wsX6_firstRow wsX1_reply := goodIn_r _ [31, 32, 17, 33, 34, 35, 36, 4, 37, 38, 16, 18, 39, 40, 11, 12, 13, 14, 15, 41, 42, 43, 44, 45, 46, 47, 48] (by decide +kernel) (by decide +kernel)
set_option maxRecDepth 20000 in
theorem gX6_firstRow_X1_reply : GoodIn wsX6_firstRow (wsV RX6 151 RX1 yX1_reply wsX1_reply) := goodIn_app (goodIn_of _ (by decide +kernel)) ggX6_firstRow_X1_reply
theorem dX6_firstRow_0 : decode cX6_firstRow 0 = .ok (.iload 5, 2) := by decide +kernel
theorem dX6_firstRow_2 : decode cX6_firstRow 2 = .ok (.iconst 1, 1) := by decide +kernel
theorem dX6_firstRow_3 : decode cX6_firstRow 3 = .ok (.if_icmp .ge 6, 3) := by decide +kernel
theorem dX6_firstRow_6 : decode cX6_firstRow 6 = .ok (.bipush (-9), 2) := by decide +kernel
theorem dX6_firstRow_8 : decode cX6_firstRow 8 = .ok (.ireturn, 1) := by decide +kernel
theorem dX6_firstRow_9 : decode cX6_firstRow 9 = .ok (.iconst 0, 1) := by decide +kernel
theorem dX6_firstRow_10 : decode cX6_firstRow 10 = .ok (.istore 6, 2) := by decide +kernel
theorem dX6_firstRow_12 : decode cX6_firstRow 12 = .ok (.iload 6, 2) := by decide +kernel
theorem dX6_firstRow_14 : decode cX6_firstRow 14 = .ok (.aload_n 0, 1) := by decide +kernel
theorem dX6_firstRow_15 : decode cX6_firstRow 15 = .ok (.invokevirtual 92, 3) := by decide +kernel
theorem dX6_firstRow_18 : decode cX6_firstRow 18 = .ok (.if_icmp .ge 86, 3) := by decide +kernel
theorem dX6_firstRow_21 : decode cX6_firstRow 21 = .ok (.iload 4, 2) := by decide +kernel
theorem dX6_firstRow_23 : decode cX6_firstRow 23 = .ok (.bipush 10, 2) := by decide +kernel
theorem dX6_firstRow_25 : decode cX6_firstRow 25 = .ok (.imul, 1) := by decide +kernel
theorem dX6_firstRow_26 : decode cX6_firstRow 26 = .ok (.iload 6, 2) := by decide +kernel
theorem dX6_firstRow_28 : decode cX6_firstRow 28 = .ok (.iadd, 1) := by decide +kernel
theorem dX6_firstRow_29 : decode cX6_firstRow 29 = .ok (.iconst 1, 1) := by decide +kernel
theorem dX6_firstRow_30 : decode cX6_firstRow 30 = .ok (.iadd, 1) := by decide +kernel
theorem dX6_firstRow_31 : decode cX6_firstRow 31 = .ok (.istore 7, 2) := by decide +kernel
theorem dX6_firstRow_33 : decode cX6_firstRow 33 = .ok (.bipush (-9), 2) := by decide +kernel
theorem dX6_firstRow_35 : decode cX6_firstRow 35 = .ok (.istore 8, 2) := by decide +kernel
theorem dX6_firstRow_37 : decode cX6_firstRow 37 = .ok (.iload 5, 2) := by decide +kernel
theorem dX6_firstRow_39 : decode cX6_firstRow 39 = .ok (.iconst 1, 1) := by decide +kernel
theorem dX6_firstRow_40 : decode cX6_firstRow 40 = .ok (.if_icmp .le 32, 3) := by decide +kernel
theorem dX6_firstRow_43 : decode cX6_firstRow 43 = .ok (.aload_n 0, 1) := by decide +kernel
theorem dX6_firstRow_44 : decode cX6_firstRow 44 = .ok (.iload_n 1, 1) := by decide +kernel
theorem dX6_firstRow_45 : decode cX6_firstRow 45 = .ok (.iload_n 2, 1) := by decide +kernel
theorem dX6_firstRow_46 : decode cX6_firstRow 46 = .ok (.iload 6, 2) := by decide +kernel
theorem dX6_firstRow_48 : decode cX6_firstRow 48 = .ok (.invokevirtual 252, 3) := by decide +kernel
theorem dX6_firstRow_51 : decode cX6_firstRow 51 = .ok (.istore 9, 2) := by decide +kernel
theorem dX6_firstRow_53 : decode cX6_firstRow 53 = .ok (.aload_n 0, 1) := by decide +kernel
theorem dX6_firstRow_54 : decode cX6_firstRow 54 = .ok (.iload_n 1, 1) := by decide +kernel
theorem dX6_firstRow_55 : decode cX6_firstRow 55 = .ok (.iload 9, 2) := by decide +kernel
theorem dX6_firstRow_57 : decode cX6_firstRow 57 = .ok (.iload_n 3, 1) := by decide +kernel
theorem dX6_firstRow_58 : decode cX6_firstRow 58 = .ok (.iload 7, 2) := by decide +kernel
theorem dX6_firstRow_60 : decode cX6_firstRow 60 = .ok (.iload 5, 2) := by decide +kernel
theorem dX6_firstRow_62 : decode cX6_firstRow 62 = .ok (.iconst 1, 1) := by decide +kernel
theorem dX6_firstRow_63 : decode cX6_firstRow 63 = .ok (.isub, 1) := by decide +kernel
theorem dX6_firstRow_64 : decode cX6_firstRow 64 = .ok (.invokestatic 183, 3) := by decide +kernel
theorem dX6_firstRow_67 : decode cX6_firstRow 67 = .ok (.istore 8, 2) := by decide +kernel
theorem dX6_firstRow_69 : decode cX6_firstRow 69 = .ok (.goto 19, 3) := by decide +kernel
theorem dX6_firstRow_72 : decode cX6_firstRow 72 = .ok (.aload_n 0, 1) := by decide +kernel
theorem dX6_firstRow_73 : decode cX6_firstRow 73 = .ok (.iload_n 1, 1) := by decide +kernel
theorem dX6_firstRow_74 : decode cX6_firstRow 74 = .ok (.iload_n 2, 1) := by decide +kernel
theorem dX6_firstRow_75 : decode cX6_firstRow 75 = .ok (.iload 6, 2) := by decide +kernel
theorem dX6_firstRow_77 : decode cX6_firstRow 77 = .ok (.invokevirtual 151, 3) := by decide +kernel
theorem dX6_firstRow_80 : decode cX6_firstRow 80 = .ok (.iload_n 3, 1) := by decide +kernel
theorem dX6_firstRow_81 : decode cX6_firstRow 81 = .ok (.if_icmp .ne 7, 3) := by decide +kernel
theorem dX6_firstRow_84 : decode cX6_firstRow 84 = .ok (.iload 7, 2) := by decide +kernel
theorem dX6_firstRow_86 : decode cX6_firstRow 86 = .ok (.istore 8, 2) := by decide +kernel
theorem dX6_firstRow_88 : decode cX6_firstRow 88 = .ok (.iload 8, 2) := by decide +kernel
theorem dX6_firstRow_90 : decode cX6_firstRow 90 = .ok (.bipush (-9), 2) := by decide +kernel
theorem dX6_firstRow_92 : decode cX6_firstRow 92 = .ok (.if_icmp .eq 6, 3) := by decide +kernel
theorem dX6_firstRow_95 : decode cX6_firstRow 95 = .ok (.iload 8, 2) := by decide +kernel
theorem dX6_firstRow_97 : decode cX6_firstRow 97 = .ok (.ireturn, 1) := by decide +kernel
theorem dX6_firstRow_98 : decode cX6_firstRow 98 = .ok (.iinc 6 1, 3) := by decide +kernel
theorem dX6_firstRow_101 : decode cX6_firstRow 101 = .ok (.goto (-89), 3) := by decide +kernel
theorem dX6_firstRow_104 : decode cX6_firstRow 104 = .ok (.bipush (-9), 2) := by decide +kernel
theorem dX6_firstRow_106 : decode cX6_firstRow 106 = .ok (.ireturn, 1) := by decide +kernel
set_option maxRecDepth 20000 in
theorem ggX6_tallyRounds_X4_add : GoodIn wsX6_tallyRounds wsX4_add := goodIn_r _ [5, 6, 7, 51, 52] (by decide +kernel) (by decide +kernel)
set_option maxRecDepth 20000 in
theorem gX6_tallyRounds_X4_add : GoodIn wsX6_tallyRounds (wsV RX6 221 RX4 yX4_add wsX4_add) := goodIn_app (goodIn_of _ (by decide +kernel)) ggX6_tallyRounds_X4_add
set_option maxRecDepth 20000 in
theorem ggX6_tallyRounds_X1_people : GoodIn wsX6_tallyRounds wsX1_people := goodIn_r _ [12, 13, 53, 54, 55, 56, 57, 58, 59, 60] (by decide +kernel) (by decide +kernel)
set_option maxRecDepth 20000 in
theorem gX6_tallyRounds_X1_people : GoodIn wsX6_tallyRounds (wsV RX6 92 RX1 yX1_people wsX1_people) := goodIn_app (goodIn_of _ (by decide +kernel)) ggX6_tallyRounds_X1_people
set_option maxRecDepth 20000 in
theorem ggX6_tallyRounds_X1_reply : GoodIn wsX6_tallyRounds wsX1_reply := goodIn_r _ [17, 18, 19, 20, 21, 22, 23, 11, 24, 25, 26, 27, 28, 29, 30, 31, 32, 33, 34, 53, 54, 55, 56, 57, 58, 59, 60] (by decide +kernel) (by decide +kernel)
set_option maxRecDepth 20000 in
theorem gX6_tallyRounds_X1_reply : GoodIn wsX6_tallyRounds (wsV RX6 151 RX1 yX1_reply wsX1_reply) := goodIn_app (goodIn_of _ (by decide +kernel)) ggX6_tallyRounds_X1_reply
set_option maxRecDepth 20000 in
theorem ggX6_tallyRounds_X6_hasFigure : GoodIn wsX6_tallyRounds wsX6_hasFigure := goodIn_r _ [37] (by decide +kernel) (by decide +kernel)
set_option maxRecDepth 20000 in
theorem gX6_tallyRounds_X6_hasFigure : GoodIn wsX6_tallyRounds (va_wsS RX6 258 yX6_hasFigure wsX6_hasFigure) := goodIn_app (goodIn_of _ (by decide +kernel)) ggX6_tallyRounds_X6_hasFigure
set_option maxRecDepth 20000 in
theorem ggX6_tallyRounds_X1_afterHand : GoodIn wsX6_tallyRounds wsX1_afterHand := goodIn_r _ [41, 30, 31, 32, 11, 33, 34, 26, 19, 27, 42, 43, 44, 45, 46, 47, 48, 53, 54, 55, 56, 57, 58, 59, 60] (by decide +kernel) (by decide +kernel)
set_option maxRecDepth 20000 in
theorem gX6_tallyRounds_X1_afterHand : GoodIn wsX6_tallyRounds (wsV RX6 252 RX1 yX1_afterHand wsX1_afterHand) := goodIn_app (goodIn_of _ (by decide +kernel)) ggX6_tallyRounds_X1_afterHand
set_option maxRecDepth 20000 in
theorem ggX6_tallyRounds_X6_tallyRounds : GoodIn wsX6_tallyRounds wsX6_tallyRounds := goodIn_r _ [0, 1, 2, 3, 4, 5, 6, 7, 8, 9, 10, 11, 12, 13, 14, 15, 16, 17, 18, 19, 20, 21, 22, 23, 24, 25, 26, 27, 28, 29, 30, 31, 32, 33, 34, 35, 36, 37, 38, 39, 40, 41, 42, 43, 44, 45, 46, 47, 48, 49, 50, 51, 52, 53, 54, 55, 56, 57, 58, 59, 60] (by decide +kernel) (by decide +kernel)
set_option maxRecDepth 20000 in
theorem gX6_tallyRounds_X6_tallyRounds : GoodIn wsX6_tallyRounds (va_wsS RX6 189 yX6_tallyRounds wsX6_tallyRounds) := goodIn_app (goodIn_of _ (by decide +kernel)) ggX6_tallyRounds_X6_tallyRounds
theorem dX6_tallyRounds_0 : decode cX6_tallyRounds 0 = .ok (.iload 6, 2) := by decide +kernel
theorem dX6_tallyRounds_2 : decode cX6_tallyRounds 2 = .ok (.iconst 1, 1) := by decide +kernel
theorem dX6_tallyRounds_3 : decode cX6_tallyRounds 3 = .ok (.if_icmp .ge 10, 3) := by decide +kernel
theorem dX6_tallyRounds_6 : decode cX6_tallyRounds 6 = .ok (.aload_n 1, 1) := by decide +kernel
theorem dX6_tallyRounds_7 : decode cX6_tallyRounds 7 = .ok (.iload 5, 2) := by decide +kernel
theorem dX6_tallyRounds_9 : decode cX6_tallyRounds 9 = .ok (.invokevirtual 221, 3) := by decide +kernel
theorem dX6_tallyRounds_12 : decode cX6_tallyRounds 12 = .ok (.return_, 1) := by decide +kernel
theorem dX6_tallyRounds_13 : decode cX6_tallyRounds 13 = .ok (.iconst 0, 1) := by decide +kernel
theorem dX6_tallyRounds_14 : decode cX6_tallyRounds 14 = .ok (.istore 7, 2) := by decide +kernel
theorem dX6_tallyRounds_16 : decode cX6_tallyRounds 16 = .ok (.iload 7, 2) := by decide +kernel
theorem dX6_tallyRounds_18 : decode cX6_tallyRounds 18 = .ok (.aload_n 0, 1) := by decide +kernel
theorem dX6_tallyRounds_19 : decode cX6_tallyRounds 19 = .ok (.invokevirtual 92, 3) := by decide +kernel
theorem dX6_tallyRounds_22 : decode cX6_tallyRounds 22 = .ok (.if_icmp .ge 72, 3) := by decide +kernel
theorem dX6_tallyRounds_25 : decode cX6_tallyRounds 25 = .ok (.aload_n 0, 1) := by decide +kernel
theorem dX6_tallyRounds_26 : decode cX6_tallyRounds 26 = .ok (.iload_n 2, 1) := by decide +kernel
theorem dX6_tallyRounds_27 : decode cX6_tallyRounds 27 = .ok (.iload_n 3, 1) := by decide +kernel
theorem dX6_tallyRounds_28 : decode cX6_tallyRounds 28 = .ok (.iload 7, 2) := by decide +kernel
theorem dX6_tallyRounds_30 : decode cX6_tallyRounds 30 = .ok (.invokevirtual 151, 3) := by decide +kernel
theorem dX6_tallyRounds_33 : decode cX6_tallyRounds 33 = .ok (.istore 8, 2) := by decide +kernel
theorem dX6_tallyRounds_35 : decode cX6_tallyRounds 35 = .ok (.iload 8, 2) := by decide +kernel
theorem dX6_tallyRounds_37 : decode cX6_tallyRounds 37 = .ok (.iload 4, 2) := by decide +kernel
theorem dX6_tallyRounds_39 : decode cX6_tallyRounds 39 = .ok (.if_icmp .eq 49, 3) := by decide +kernel
theorem dX6_tallyRounds_42 : decode cX6_tallyRounds 42 = .ok (.iload 5, 2) := by decide +kernel
theorem dX6_tallyRounds_44 : decode cX6_tallyRounds 44 = .ok (.iload 7, 2) := by decide +kernel
theorem dX6_tallyRounds_46 : decode cX6_tallyRounds 46 = .ok (.iconst 1, 1) := by decide +kernel
theorem dX6_tallyRounds_47 : decode cX6_tallyRounds 47 = .ok (.iadd, 1) := by decide +kernel
theorem dX6_tallyRounds_48 : decode cX6_tallyRounds 48 = .ok (.invokestatic 258, 3) := by decide +kernel
theorem dX6_tallyRounds_51 : decode cX6_tallyRounds 51 = .ok (.ifCond .ne 37, 3) := by decide +kernel
theorem dX6_tallyRounds_54 : decode cX6_tallyRounds 54 = .ok (.aload_n 0, 1) := by decide +kernel
theorem dX6_tallyRounds_55 : decode cX6_tallyRounds 55 = .ok (.iload_n 2, 1) := by decide +kernel
theorem dX6_tallyRounds_56 : decode cX6_tallyRounds 56 = .ok (.iload_n 3, 1) := by decide +kernel
theorem dX6_tallyRounds_57 : decode cX6_tallyRounds 57 = .ok (.iload 7, 2) := by decide +kernel
theorem dX6_tallyRounds_59 : decode cX6_tallyRounds 59 = .ok (.invokevirtual 252, 3) := by decide +kernel
theorem dX6_tallyRounds_62 : decode cX6_tallyRounds 62 = .ok (.istore 9, 2) := by decide +kernel
theorem dX6_tallyRounds_64 : decode cX6_tallyRounds 64 = .ok (.aload_n 0, 1) := by decide +kernel
theorem dX6_tallyRounds_65 : decode cX6_tallyRounds 65 = .ok (.aload_n 1, 1) := by decide +kernel
theorem dX6_tallyRounds_66 : decode cX6_tallyRounds 66 = .ok (.iload_n 2, 1) := by decide +kernel
theorem dX6_tallyRounds_67 : decode cX6_tallyRounds 67 = .ok (.iload 9, 2) := by decide +kernel
theorem dX6_tallyRounds_69 : decode cX6_tallyRounds 69 = .ok (.iload 8, 2) := by decide +kernel
theorem dX6_tallyRounds_71 : decode cX6_tallyRounds 71 = .ok (.iload 5, 2) := by decide +kernel
theorem dX6_tallyRounds_73 : decode cX6_tallyRounds 73 = .ok (.bipush 10, 2) := by decide +kernel
theorem dX6_tallyRounds_75 : decode cX6_tallyRounds 75 = .ok (.imul, 1) := by decide +kernel
theorem dX6_tallyRounds_76 : decode cX6_tallyRounds 76 = .ok (.iload 7, 2) := by decide +kernel
theorem dX6_tallyRounds_78 : decode cX6_tallyRounds 78 = .ok (.iadd, 1) := by decide +kernel
theorem dX6_tallyRounds_79 : decode cX6_tallyRounds 79 = .ok (.iconst 1, 1) := by decide +kernel
theorem dX6_tallyRounds_80 : decode cX6_tallyRounds 80 = .ok (.iadd, 1) := by decide +kernel
theorem dX6_tallyRounds_81 : decode cX6_tallyRounds 81 = .ok (.iload 6, 2) := by decide +kernel
theorem dX6_tallyRounds_83 : decode cX6_tallyRounds 83 = .ok (.iconst 1, 1) := by decide +kernel
theorem dX6_tallyRounds_84 : decode cX6_tallyRounds 84 = .ok (.isub, 1) := by decide +kernel
theorem dX6_tallyRounds_85 : decode cX6_tallyRounds 85 = .ok (.invokestatic 189, 3) := by decide +kernel
theorem dX6_tallyRounds_88 : decode cX6_tallyRounds 88 = .ok (.iinc 7 1, 3) := by decide +kernel
theorem dX6_tallyRounds_91 : decode cX6_tallyRounds 91 = .ok (.goto (-75), 3) := by decide +kernel
theorem dX6_tallyRounds_94 : decode cX6_tallyRounds 94 = .ok (.return_, 1) := by decide +kernel
set_option maxRecDepth 20000 in
theorem ggX6_tallyWearers_X3_nextOf : GoodIn wsX6_tallyWearers wsX3_nextOf := goodIn_r _ [5, 6, 7, 8, 9, 10, 11, 12, 13, 4, 14, 15, 16, 17, 18, 19, 20, 21, 74, 75, 76, 77, 78, 79, 80, 81, 82, 83, 84, 85] (by decide +kernel) (by decide +kernel)
set_option maxRecDepth 20000 in
theorem gX6_tallyWearers_X3_nextOf : GoodIn wsX6_tallyWearers (wsV RX6 261 RX3 yX3_nextOf wsX3_nextOf) := goodIn_app (goodIn_of _ (by decide +kernel)) ggX6_tallyWearers_X3_nextOf
set_option maxRecDepth 20000 in
theorem ggX6_tallyWearers_X3_size : GoodIn wsX6_tallyWearers wsX3_size := goodIn_r _ [25, 6, 74, 75, 76, 77] (by decide +kernel) (by decide +kernel)
set_option maxRecDepth 20000 in
theorem gX6_tallyWearers_X3_size : GoodIn wsX6_tallyWearers (wsV RX6 105 RX3 yX3_size wsX3_size) := goodIn_app (goodIn_of _ (by decide +kernel)) ggX6_tallyWearers_X3_size
set_option maxRecDepth 20000 in
theorem ggX6_tallyWearers_X4_add : GoodIn wsX6_tallyWearers wsX4_add := goodIn_r _ [30, 31, 32, 86, 87] (by decide +kernel) (by decide +kernel)
set_option maxRecDepth 20000 in
theorem gX6_tallyWearers_X4_add : GoodIn wsX6_tallyWearers (wsV RX6 221 RX4 yX4_add wsX4_add) := goodIn_app (goodIn_of _ (by decide +kernel)) ggX6_tallyWearers_X4_add
set_option maxRecDepth 20000 in
theorem ggX6_tallyWearers_X3_personAt : GoodIn wsX6_tallyWearers wsX3_personAt := goodIn_r _ [14, 15, 8, 9, 10, 74, 75, 76, 77] (by decide +kernel) (by decide +kernel)
set_option maxRecDepth 20000 in
theorem gX6_tallyWearers_X3_personAt : GoodIn wsX6_tallyWearers (wsV RX6 265 RX3 yX3_personAt wsX3_personAt) := goodIn_app (goodIn_of _ (by decide +kernel)) ggX6_tallyWearers_X3_personAt
set_option maxRecDepth 20000 in
theorem ggX6_tallyWearers_X1_people : GoodIn wsX6_tallyWearers wsX1_people := goodIn_r _ [37, 21, 78, 79, 80, 81, 82, 83, 84, 85] (by decide +kernel) (by decide +kernel)
set_option maxRecDepth 20000 in
theorem gX6_tallyWearers_X1_people : GoodIn wsX6_tallyWearers (wsV RX6 92 RX1 yX1_people wsX1_people) := goodIn_app (goodIn_of _ (by decide +kernel)) ggX6_tallyWearers_X1_people
set_option maxRecDepth 20000 in
theorem ggX6_tallyWearers_X1_afterHand : GoodIn wsX6_tallyWearers wsX1_afterHand := goodIn_r _ [41, 42, 43, 44, 19, 45, 46, 8, 9, 10, 47, 48, 49, 50, 51, 52, 53, 78, 79, 80, 81, 82, 83, 84, 85] (by decide +kernel) (by decide +kernel)
set_option maxRecDepth 20000 in
theorem gX6_tallyWearers_X1_afterHand : GoodIn wsX6_tallyWearers (wsV RX6 252 RX1 yX1_afterHand wsX1_afterHand) := goodIn_app (goodIn_of _ (by decide +kernel)) ggX6_tallyWearers_X1_afterHand
set_option maxRecDepth 20000 in
theorem ggX6_tallyWearers_X1_reply : GoodIn wsX6_tallyWearers wsX1_reply := goodIn_r _ [57, 58, 9, 59, 60, 61, 62, 19, 63, 64, 8, 10, 65, 66, 42, 43, 44, 45, 46, 78, 79, 80, 81, 82, 83, 84, 85] (by decide +kernel) (by decide +kernel)
set_option maxRecDepth 20000 in
theorem gX6_tallyWearers_X1_reply : GoodIn wsX6_tallyWearers (wsV RX6 151 RX1 yX1_reply wsX1_reply) := goodIn_app (goodIn_of _ (by decide +kernel)) ggX6_tallyWearers_X1_reply
set_option maxRecDepth 20000 in
theorem ggX6_tallyWearers_X3_doingAt : GoodIn wsX6_tallyWearers wsX3_doingAt := goodIn_r _ [70, 71, 8, 9, 10, 74, 75, 76, 77] (by decide +kernel) (by decide +kernel)
set_option maxRecDepth 20000 in
theorem gX6_tallyWearers_X3_doingAt : GoodIn wsX6_tallyWearers (wsV RX6 268 RX3 yX3_doingAt wsX3_doingAt) := goodIn_app (goodIn_of _ (by decide +kernel)) ggX6_tallyWearers_X3_doingAt
set_option maxRecDepth 20000 in
theorem ggX6_tallyWearers_X6_tallyWearers : GoodIn wsX6_tallyWearers wsX6_tallyWearers := goodIn_r _ [0, 1, 2, 3, 4, 5, 6, 7, 8, 9, 10, 11, 12, 13, 14, 15, 16, 17, 18, 19, 20, 21, 22, 23, 24, 25, 26, 27, 28, 29, 30, 31, 32, 33, 34, 35, 36, 37, 38, 39, 40, 41, 42, 43, 44, 45, 46, 47, 48, 49, 50, 51, 52, 53, 54, 55, 56, 57, 58, 59, 60, 61, 62, 63, 64, 65, 66, 67, 68, 69, 70, 71, 72, 73, 74, 75, 76, 77, 78, 79, 80, 81, 82, 83, 84, 85, 86, 87] (by decide +kernel) (by decide +kernel)
set_option maxRecDepth 20000 in
theorem gX6_tallyWearers_X6_tallyWearers : GoodIn wsX6_tallyWearers (va_wsS RX6 210 yX6_tallyWearers wsX6_tallyWearers) := goodIn_app (goodIn_of _ (by decide +kernel)) ggX6_tallyWearers_X6_tallyWearers
theorem dX6_tallyWearers_0 : decode cX6_tallyWearers 0 = .ok (.aload_n 1, 1) := by decide +kernel
theorem dX6_tallyWearers_1 : decode cX6_tallyWearers 1 = .ok (.iload_n 3, 1) := by decide +kernel
theorem dX6_tallyWearers_2 : decode cX6_tallyWearers 2 = .ok (.aload_n 0, 1) := by decide +kernel
theorem dX6_tallyWearers_3 : decode cX6_tallyWearers 3 = .ok (.iload 6, 2) := by decide +kernel
theorem dX6_tallyWearers_5 : decode cX6_tallyWearers 5 = .ok (.invokevirtual 261, 3) := by decide +kernel
theorem dX6_tallyWearers_8 : decode cX6_tallyWearers 8 = .ok (.istore 7, 2) := by decide +kernel
theorem dX6_tallyWearers_10 : decode cX6_tallyWearers 10 = .ok (.iload 7, 2) := by decide +kernel
theorem dX6_tallyWearers_12 : decode cX6_tallyWearers 12 = .ok (.aload_n 1, 1) := by decide +kernel
theorem dX6_tallyWearers_13 : decode cX6_tallyWearers 13 = .ok (.invokevirtual 105, 3) := by decide +kernel
theorem dX6_tallyWearers_16 : decode cX6_tallyWearers 16 = .ok (.if_icmp .lt 10, 3) := by decide +kernel
theorem dX6_tallyWearers_19 : decode cX6_tallyWearers 19 = .ok (.aload_n 2, 1) := by decide +kernel
theorem dX6_tallyWearers_20 : decode cX6_tallyWearers 20 = .ok (.iload 5, 2) := by decide +kernel
theorem dX6_tallyWearers_22 : decode cX6_tallyWearers 22 = .ok (.invokevirtual 221, 3) := by decide +kernel
theorem dX6_tallyWearers_25 : decode cX6_tallyWearers 25 = .ok (.return_, 1) := by decide +kernel
theorem dX6_tallyWearers_26 : decode cX6_tallyWearers 26 = .ok (.aload_n 1, 1) := by decide +kernel
theorem dX6_tallyWearers_27 : decode cX6_tallyWearers 27 = .ok (.iload 7, 2) := by decide +kernel
theorem dX6_tallyWearers_29 : decode cX6_tallyWearers 29 = .ok (.invokevirtual 265, 3) := by decide +kernel
theorem dX6_tallyWearers_32 : decode cX6_tallyWearers 32 = .ok (.istore 8, 2) := by decide +kernel
theorem dX6_tallyWearers_34 : decode cX6_tallyWearers 34 = .ok (.iconst 0, 1) := by decide +kernel
theorem dX6_tallyWearers_35 : decode cX6_tallyWearers 35 = .ok (.istore 9, 2) := by decide +kernel
theorem dX6_tallyWearers_37 : decode cX6_tallyWearers 37 = .ok (.iload 9, 2) := by decide +kernel
theorem dX6_tallyWearers_39 : decode cX6_tallyWearers 39 = .ok (.aload_n 0, 1) := by decide +kernel
theorem dX6_tallyWearers_40 : decode cX6_tallyWearers 40 = .ok (.invokevirtual 92, 3) := by decide +kernel
theorem dX6_tallyWearers_43 : decode cX6_tallyWearers 43 = .ok (.if_icmp .ge 72, 3) := by decide +kernel
theorem dX6_tallyWearers_46 : decode cX6_tallyWearers 46 = .ok (.aload_n 0, 1) := by decide +kernel
theorem dX6_tallyWearers_47 : decode cX6_tallyWearers 47 = .ok (.iload_n 3, 1) := by decide +kernel
theorem dX6_tallyWearers_48 : decode cX6_tallyWearers 48 = .ok (.iload 4, 2) := by decide +kernel
theorem dX6_tallyWearers_50 : decode cX6_tallyWearers 50 = .ok (.iload 9, 2) := by decide +kernel
theorem dX6_tallyWearers_52 : decode cX6_tallyWearers 52 = .ok (.invokevirtual 252, 3) := by decide +kernel
theorem dX6_tallyWearers_55 : decode cX6_tallyWearers 55 = .ok (.istore 10, 2) := by decide +kernel
theorem dX6_tallyWearers_57 : decode cX6_tallyWearers 57 = .ok (.aload_n 0, 1) := by decide +kernel
theorem dX6_tallyWearers_58 : decode cX6_tallyWearers 58 = .ok (.iload_n 3, 1) := by decide +kernel
theorem dX6_tallyWearers_59 : decode cX6_tallyWearers 59 = .ok (.iload 10, 2) := by decide +kernel
theorem dX6_tallyWearers_61 : decode cX6_tallyWearers 61 = .ok (.iload 8, 2) := by decide +kernel
theorem dX6_tallyWearers_63 : decode cX6_tallyWearers 63 = .ok (.invokevirtual 151, 3) := by decide +kernel
theorem dX6_tallyWearers_66 : decode cX6_tallyWearers 66 = .ok (.aload_n 1, 1) := by decide +kernel
theorem dX6_tallyWearers_67 : decode cX6_tallyWearers 67 = .ok (.iload 7, 2) := by decide +kernel
theorem dX6_tallyWearers_69 : decode cX6_tallyWearers 69 = .ok (.invokevirtual 268, 3) := by decide +kernel
theorem dX6_tallyWearers_72 : decode cX6_tallyWearers 72 = .ok (.if_icmp .ne 37, 3) := by decide +kernel
theorem dX6_tallyWearers_75 : decode cX6_tallyWearers 75 = .ok (.aload_n 0, 1) := by decide +kernel
theorem dX6_tallyWearers_76 : decode cX6_tallyWearers 76 = .ok (.iload_n 3, 1) := by decide +kernel
theorem dX6_tallyWearers_77 : decode cX6_tallyWearers 77 = .ok (.iload 10, 2) := by decide +kernel
theorem dX6_tallyWearers_79 : decode cX6_tallyWearers 79 = .ok (.iload 8, 2) := by decide +kernel
theorem dX6_tallyWearers_81 : decode cX6_tallyWearers 81 = .ok (.invokevirtual 252, 3) := by decide +kernel
theorem dX6_tallyWearers_84 : decode cX6_tallyWearers 84 = .ok (.istore 11, 2) := by decide +kernel
theorem dX6_tallyWearers_86 : decode cX6_tallyWearers 86 = .ok (.aload_n 0, 1) := by decide +kernel
theorem dX6_tallyWearers_87 : decode cX6_tallyWearers 87 = .ok (.aload_n 1, 1) := by decide +kernel
theorem dX6_tallyWearers_88 : decode cX6_tallyWearers 88 = .ok (.aload_n 2, 1) := by decide +kernel
theorem dX6_tallyWearers_89 : decode cX6_tallyWearers 89 = .ok (.iload_n 3, 1) := by decide +kernel
theorem dX6_tallyWearers_90 : decode cX6_tallyWearers 90 = .ok (.iload 11, 2) := by decide +kernel
theorem dX6_tallyWearers_92 : decode cX6_tallyWearers 92 = .ok (.iload 5, 2) := by decide +kernel
theorem dX6_tallyWearers_94 : decode cX6_tallyWearers 94 = .ok (.bipush 10, 2) := by decide +kernel
theorem dX6_tallyWearers_96 : decode cX6_tallyWearers 96 = .ok (.imul, 1) := by decide +kernel
theorem dX6_tallyWearers_97 : decode cX6_tallyWearers 97 = .ok (.iload 9, 2) := by decide +kernel
theorem dX6_tallyWearers_99 : decode cX6_tallyWearers 99 = .ok (.iadd, 1) := by decide +kernel
theorem dX6_tallyWearers_100 : decode cX6_tallyWearers 100 = .ok (.iconst 1, 1) := by decide +kernel
theorem dX6_tallyWearers_101 : decode cX6_tallyWearers 101 = .ok (.iadd, 1) := by decide +kernel
theorem dX6_tallyWearers_102 : decode cX6_tallyWearers 102 = .ok (.iload 7, 2) := by decide +kernel
theorem dX6_tallyWearers_104 : decode cX6_tallyWearers 104 = .ok (.iconst 1, 1) := by decide +kernel
theorem dX6_tallyWearers_105 : decode cX6_tallyWearers 105 = .ok (.iadd, 1) := by decide +kernel
theorem dX6_tallyWearers_106 : decode cX6_tallyWearers 106 = .ok (.invokestatic 210, 3) := by decide +kernel
theorem dX6_tallyWearers_109 : decode cX6_tallyWearers 109 = .ok (.iinc 9 1, 3) := by decide +kernel
theorem dX6_tallyWearers_112 : decode cX6_tallyWearers 112 = .ok (.goto (-75), 3) := by decide +kernel
theorem dX6_tallyWearers_115 : decode cX6_tallyWearers 115 = .ok (.return_, 1) := by decide +kernel
set_option maxRecDepth 20000 in
theorem ggX6_waysToDo_X1_reply : GoodIn wsX6_waysToDo wsX1_reply := goodIn_r _ [5, 6, 7, 8, 9, 10, 11, 4, 12, 13, 14, 15, 16, 17, 18, 19, 20, 21, 22, 41, 42, 43, 44, 45, 46, 47, 48] (by decide +kernel) (by decide +kernel)
set_option maxRecDepth 20000 in
theorem gX6_waysToDo_X1_reply : GoodIn wsX6_waysToDo (wsV RX6 151 RX1 yX1_reply wsX1_reply) := goodIn_app (goodIn_of _ (by decide +kernel)) ggX6_waysToDo_X1_reply
set_option maxRecDepth 20000 in
theorem ggX6_waysToDo_X1_people : GoodIn wsX6_waysToDo wsX1_people := goodIn_r _ [26, 27, 41, 42, 43, 44, 45, 46, 47, 48] (by decide +kernel) (by decide +kernel)
set_option maxRecDepth 20000 in
theorem gX6_waysToDo_X1_people : GoodIn wsX6_waysToDo (wsV RX6 92 RX1 yX1_people wsX1_people) := goodIn_app (goodIn_of _ (by decide +kernel)) ggX6_waysToDo_X1_people
set_option maxRecDepth 20000 in
theorem ggX6_waysToDo_X1_afterHand : GoodIn wsX6_waysToDo wsX1_afterHand := goodIn_r _ [31, 18, 19, 20, 4, 21, 22, 14, 7, 15, 32, 33, 34, 35, 36, 37, 38, 41, 42, 43, 44, 45, 46, 47, 48] (by decide +kernel) (by decide +kernel)
set_option maxRecDepth 20000 in
theorem gX6_waysToDo_X1_afterHand : GoodIn wsX6_waysToDo (wsV RX6 252 RX1 yX1_afterHand wsX1_afterHand) := goodIn_app (goodIn_of _ (by decide +kernel)) ggX6_waysToDo_X1_afterHand
set_option maxRecDepth 20000 in
theorem ggX6_waysToDo_X6_waysToDo : GoodIn wsX6_waysToDo wsX6_waysToDo := goodIn_r _ [0, 1, 2, 3, 4, 5, 6, 7, 8, 9, 10, 11, 12, 13, 14, 15, 16, 17, 18, 19, 20, 21, 22, 23, 24, 25, 26, 27, 28, 29, 30, 31, 32, 33, 34, 35, 36, 37, 38, 39, 40, 41, 42, 43, 44, 45, 46, 47, 48] (by decide +kernel) (by decide +kernel)
set_option maxRecDepth 20000 in
theorem gX6_waysToDo_X6_waysToDo : GoodIn wsX6_waysToDo (va_wsS RX6 222 yX6_waysToDo wsX6_waysToDo) := goodIn_app (goodIn_of _ (by decide +kernel)) ggX6_waysToDo_X6_waysToDo
theorem dX6_waysToDo_0 : decode cX6_waysToDo 0 = .ok (.iload 5, 2) := by decide +kernel
theorem dX6_waysToDo_2 : decode cX6_waysToDo 2 = .ok (.iconst 1, 1) := by decide +kernel
theorem dX6_waysToDo_3 : decode cX6_waysToDo 3 = .ok (.if_icmp .ge 21, 3) := by decide +kernel
theorem dX6_waysToDo_6 : decode cX6_waysToDo 6 = .ok (.aload_n 0, 1) := by decide +kernel
theorem dX6_waysToDo_7 : decode cX6_waysToDo 7 = .ok (.iload_n 1, 1) := by decide +kernel
theorem dX6_waysToDo_8 : decode cX6_waysToDo 8 = .ok (.iload_n 2, 1) := by decide +kernel
theorem dX6_waysToDo_9 : decode cX6_waysToDo 9 = .ok (.iload_n 3, 1) := by decide +kernel
theorem dX6_waysToDo_10 : decode cX6_waysToDo 10 = .ok (.invokevirtual 151, 3) := by decide +kernel
theorem dX6_waysToDo_13 : decode cX6_waysToDo 13 = .ok (.iload 4, 2) := by decide +kernel
theorem dX6_waysToDo_15 : decode cX6_waysToDo 15 = .ok (.if_icmp .ne 7, 3) := by decide +kernel
theorem dX6_waysToDo_18 : decode cX6_waysToDo 18 = .ok (.iconst 1, 1) := by decide +kernel
theorem dX6_waysToDo_19 : decode cX6_waysToDo 19 = .ok (.goto 4, 3) := by decide +kernel
theorem dX6_waysToDo_22 : decode cX6_waysToDo 22 = .ok (.iconst 0, 1) := by decide +kernel
theorem dX6_waysToDo_23 : decode cX6_waysToDo 23 = .ok (.ireturn, 1) := by decide +kernel
theorem dX6_waysToDo_24 : decode cX6_waysToDo 24 = .ok (.iconst 0, 1) := by decide +kernel
theorem dX6_waysToDo_25 : decode cX6_waysToDo 25 = .ok (.istore 6, 2) := by decide +kernel
theorem dX6_waysToDo_27 : decode cX6_waysToDo 27 = .ok (.iconst 0, 1) := by decide +kernel
theorem dX6_waysToDo_28 : decode cX6_waysToDo 28 = .ok (.istore 7, 2) := by decide +kernel
theorem dX6_waysToDo_30 : decode cX6_waysToDo 30 = .ok (.iload 7, 2) := by decide +kernel
theorem dX6_waysToDo_32 : decode cX6_waysToDo 32 = .ok (.aload_n 0, 1) := by decide +kernel
theorem dX6_waysToDo_33 : decode cX6_waysToDo 33 = .ok (.invokevirtual 92, 3) := by decide +kernel
theorem dX6_waysToDo_36 : decode cX6_waysToDo 36 = .ok (.if_icmp .ge 38, 3) := by decide +kernel
theorem dX6_waysToDo_39 : decode cX6_waysToDo 39 = .ok (.aload_n 0, 1) := by decide +kernel
theorem dX6_waysToDo_40 : decode cX6_waysToDo 40 = .ok (.iload_n 1, 1) := by decide +kernel
theorem dX6_waysToDo_41 : decode cX6_waysToDo 41 = .ok (.iload_n 2, 1) := by decide +kernel
theorem dX6_waysToDo_42 : decode cX6_waysToDo 42 = .ok (.iload 7, 2) := by decide +kernel
theorem dX6_waysToDo_44 : decode cX6_waysToDo 44 = .ok (.invokevirtual 252, 3) := by decide +kernel
theorem dX6_waysToDo_47 : decode cX6_waysToDo 47 = .ok (.istore 8, 2) := by decide +kernel
theorem dX6_waysToDo_49 : decode cX6_waysToDo 49 = .ok (.iload 6, 2) := by decide +kernel
theorem dX6_waysToDo_51 : decode cX6_waysToDo 51 = .ok (.aload_n 0, 1) := by decide +kernel
theorem dX6_waysToDo_52 : decode cX6_waysToDo 52 = .ok (.iload_n 1, 1) := by decide +kernel
theorem dX6_waysToDo_53 : decode cX6_waysToDo 53 = .ok (.iload 8, 2) := by decide +kernel
theorem dX6_waysToDo_55 : decode cX6_waysToDo 55 = .ok (.iload_n 3, 1) := by decide +kernel
theorem dX6_waysToDo_56 : decode cX6_waysToDo 56 = .ok (.iload 4, 2) := by decide +kernel
theorem dX6_waysToDo_58 : decode cX6_waysToDo 58 = .ok (.iload 5, 2) := by decide +kernel
theorem dX6_waysToDo_60 : decode cX6_waysToDo 60 = .ok (.iconst 1, 1) := by decide +kernel
theorem dX6_waysToDo_61 : decode cX6_waysToDo 61 = .ok (.isub, 1) := by decide +kernel
theorem dX6_waysToDo_62 : decode cX6_waysToDo 62 = .ok (.invokestatic 222, 3) := by decide +kernel
theorem dX6_waysToDo_65 : decode cX6_waysToDo 65 = .ok (.iadd, 1) := by decide +kernel
theorem dX6_waysToDo_66 : decode cX6_waysToDo 66 = .ok (.istore 6, 2) := by decide +kernel
theorem dX6_waysToDo_68 : decode cX6_waysToDo 68 = .ok (.iinc 7 1, 3) := by decide +kernel
theorem dX6_waysToDo_71 : decode cX6_waysToDo 71 = .ok (.goto (-41), 3) := by decide +kernel
theorem dX6_waysToDo_74 : decode cX6_waysToDo 74 = .ok (.iload 6, 2) := by decide +kernel
theorem dX6_waysToDo_76 : decode cX6_waysToDo 76 = .ok (.ireturn, 1) := by decide +kernel
set_option maxRecDepth 20000 in
theorem ggX6_isAtRest_X6_gainOfFirst : GoodIn wsX6_isAtRest wsX6_gainOfFirst := goodIn_r _ [4] (by decide +kernel) (by decide +kernel)
set_option maxRecDepth 20000 in
theorem gX6_isAtRest_X6_gainOfFirst : GoodIn wsX6_isAtRest (va_wsS RX6 271 yX6_gainOfFirst wsX6_gainOfFirst) := goodIn_app (goodIn_of _ (by decide +kernel)) ggX6_isAtRest_X6_gainOfFirst
set_option maxRecDepth 20000 in
theorem ggX6_isAtRest_X6_gainOfOther : GoodIn wsX6_isAtRest wsX6_gainOfOther := goodIn_r _ [7] (by decide +kernel) (by decide +kernel)
set_option maxRecDepth 20000 in
theorem gX6_isAtRest_X6_gainOfOther : GoodIn wsX6_isAtRest (va_wsS RX6 274 yX6_gainOfOther wsX6_gainOfOther) := goodIn_app (goodIn_of _ (by decide +kernel)) ggX6_isAtRest_X6_gainOfOther
theorem dX6_isAtRest_0 : decode cX6_isAtRest 0 = .ok (.iload_n 0, 1) := by decide +kernel
theorem dX6_isAtRest_1 : decode cX6_isAtRest 1 = .ok (.iload_n 1, 1) := by decide +kernel
theorem dX6_isAtRest_2 : decode cX6_isAtRest 2 = .ok (.iload_n 2, 1) := by decide +kernel
theorem dX6_isAtRest_3 : decode cX6_isAtRest 3 = .ok (.invokestatic 271, 3) := by decide +kernel
theorem dX6_isAtRest_6 : decode cX6_isAtRest 6 = .ok (.istore 4, 2) := by decide +kernel
theorem dX6_isAtRest_8 : decode cX6_isAtRest 8 = .ok (.iload_n 0, 1) := by decide +kernel
theorem dX6_isAtRest_9 : decode cX6_isAtRest 9 = .ok (.iload_n 1, 1) := by decide +kernel
theorem dX6_isAtRest_10 : decode cX6_isAtRest 10 = .ok (.iload_n 3, 1) := by decide +kernel
theorem dX6_isAtRest_11 : decode cX6_isAtRest 11 = .ok (.invokestatic 274, 3) := by decide +kernel
theorem dX6_isAtRest_14 : decode cX6_isAtRest 14 = .ok (.istore 5, 2) := by decide +kernel
theorem dX6_isAtRest_16 : decode cX6_isAtRest 16 = .ok (.iconst 0, 1) := by decide +kernel
theorem dX6_isAtRest_17 : decode cX6_isAtRest 17 = .ok (.istore 6, 2) := by decide +kernel
theorem dX6_isAtRest_19 : decode cX6_isAtRest 19 = .ok (.iload 6, 2) := by decide +kernel
theorem dX6_isAtRest_21 : decode cX6_isAtRest 21 = .ok (.bipush 9, 2) := by decide +kernel
theorem dX6_isAtRest_23 : decode cX6_isAtRest 23 = .ok (.if_icmp .gt 37, 3) := by decide +kernel
theorem dX6_isAtRest_26 : decode cX6_isAtRest 26 = .ok (.iload 6, 2) := by decide +kernel
theorem dX6_isAtRest_28 : decode cX6_isAtRest 28 = .ok (.iload_n 1, 1) := by decide +kernel
theorem dX6_isAtRest_29 : decode cX6_isAtRest 29 = .ok (.iload_n 2, 1) := by decide +kernel
theorem dX6_isAtRest_30 : decode cX6_isAtRest 30 = .ok (.invokestatic 271, 3) := by decide +kernel
theorem dX6_isAtRest_33 : decode cX6_isAtRest 33 = .ok (.iload 4, 2) := by decide +kernel
theorem dX6_isAtRest_35 : decode cX6_isAtRest 35 = .ok (.if_icmp .le 5, 3) := by decide +kernel
theorem dX6_isAtRest_38 : decode cX6_isAtRest 38 = .ok (.iconst 0, 1) := by decide +kernel
theorem dX6_isAtRest_39 : decode cX6_isAtRest 39 = .ok (.ireturn, 1) := by decide +kernel
theorem dX6_isAtRest_40 : decode cX6_isAtRest 40 = .ok (.iload_n 0, 1) := by decide +kernel
theorem dX6_isAtRest_41 : decode cX6_isAtRest 41 = .ok (.iload 6, 2) := by decide +kernel
theorem dX6_isAtRest_43 : decode cX6_isAtRest 43 = .ok (.iload_n 3, 1) := by decide +kernel
theorem dX6_isAtRest_44 : decode cX6_isAtRest 44 = .ok (.invokestatic 274, 3) := by decide +kernel
theorem dX6_isAtRest_47 : decode cX6_isAtRest 47 = .ok (.iload 5, 2) := by decide +kernel
theorem dX6_isAtRest_49 : decode cX6_isAtRest 49 = .ok (.if_icmp .le 5, 3) := by decide +kernel
theorem dX6_isAtRest_52 : decode cX6_isAtRest 52 = .ok (.iconst 0, 1) := by decide +kernel
theorem dX6_isAtRest_53 : decode cX6_isAtRest 53 = .ok (.ireturn, 1) := by decide +kernel
theorem dX6_isAtRest_54 : decode cX6_isAtRest 54 = .ok (.iinc 6 1, 3) := by decide +kernel
theorem dX6_isAtRest_57 : decode cX6_isAtRest 57 = .ok (.goto (-38), 3) := by decide +kernel
theorem dX6_isAtRest_60 : decode cX6_isAtRest 60 = .ok (.iconst 1, 1) := by decide +kernel
theorem dX6_isAtRest_61 : decode cX6_isAtRest 61 = .ok (.ireturn, 1) := by decide +kernel
theorem dX6_gainOfFirst_0 : decode cX6_gainOfFirst 0 = .ok (.iload_n 0, 1) := by decide +kernel
theorem dX6_gainOfFirst_1 : decode cX6_gainOfFirst 1 = .ok (.iload_n 1, 1) := by decide +kernel
theorem dX6_gainOfFirst_2 : decode cX6_gainOfFirst 2 = .ok (.if_icmp .lt 9, 3) := by decide +kernel
theorem dX6_gainOfFirst_5 : decode cX6_gainOfFirst 5 = .ok (.iload_n 2, 1) := by decide +kernel
theorem dX6_gainOfFirst_6 : decode cX6_gainOfFirst 6 = .ok (.iload_n 0, 1) := by decide +kernel
theorem dX6_gainOfFirst_7 : decode cX6_gainOfFirst 7 = .ok (.isub, 1) := by decide +kernel
theorem dX6_gainOfFirst_8 : decode cX6_gainOfFirst 8 = .ok (.goto 4, 3) := by decide +kernel
theorem dX6_gainOfFirst_11 : decode cX6_gainOfFirst 11 = .ok (.iconst 0, 1) := by decide +kernel
theorem dX6_gainOfFirst_12 : decode cX6_gainOfFirst 12 = .ok (.ireturn, 1) := by decide +kernel
theorem dX6_gainOfOther_0 : decode cX6_gainOfOther 0 = .ok (.iload_n 1, 1) := by decide +kernel
theorem dX6_gainOfOther_1 : decode cX6_gainOfOther 1 = .ok (.iload_n 0, 1) := by decide +kernel
theorem dX6_gainOfOther_2 : decode cX6_gainOfOther 2 = .ok (.if_icmp .le 9, 3) := by decide +kernel
theorem dX6_gainOfOther_5 : decode cX6_gainOfOther 5 = .ok (.iload_n 2, 1) := by decide +kernel
theorem dX6_gainOfOther_6 : decode cX6_gainOfOther 6 = .ok (.iload_n 1, 1) := by decide +kernel
theorem dX6_gainOfOther_7 : decode cX6_gainOfOther 7 = .ok (.isub, 1) := by decide +kernel
theorem dX6_gainOfOther_8 : decode cX6_gainOfOther 8 = .ok (.goto 4, 3) := by decide +kernel
theorem dX6_gainOfOther_11 : decode cX6_gainOfOther 11 = .ok (.iconst 0, 1) := by decide +kernel
theorem dX6_gainOfOther_12 : decode cX6_gainOfOther 12 = .ok (.ireturn, 1) := by decide +kernel
theorem dX6_within_0 : decode cX6_within 0 = .ok (.iload_n 0, 1) := by decide +kernel
theorem dX6_within_1 : decode cX6_within 1 = .ok (.iload_n 1, 1) := by decide +kernel
theorem dX6_within_2 : decode cX6_within 2 = .ok (.if_icmp .lt 12, 3) := by decide +kernel
theorem dX6_within_5 : decode cX6_within 5 = .ok (.iload_n 0, 1) := by decide +kernel
theorem dX6_within_6 : decode cX6_within 6 = .ok (.iload_n 2, 1) := by decide +kernel
theorem dX6_within_7 : decode cX6_within 7 = .ok (.if_icmp .gt 7, 3) := by decide +kernel
theorem dX6_within_10 : decode cX6_within 10 = .ok (.iconst 1, 1) := by decide +kernel
theorem dX6_within_11 : decode cX6_within 11 = .ok (.goto 4, 3) := by decide +kernel
theorem dX6_within_14 : decode cX6_within 14 = .ok (.iconst 0, 1) := by decide +kernel
theorem dX6_within_15 : decode cX6_within 15 = .ok (.ireturn, 1) := by decide +kernel
set_option maxRecDepth 20000 in
theorem ggX6_isChoice_X6_within : GoodIn wsX6_isChoice wsX6_within := goodIn_r _ [4] (by decide +kernel) (by decide +kernel)
set_option maxRecDepth 20000 in
theorem gX6_isChoice_X6_within : GoodIn wsX6_isChoice (va_wsS RX6 62 yX6_within wsX6_within) := goodIn_app (goodIn_of _ (by decide +kernel)) ggX6_isChoice_X6_within
theorem dX6_isChoice_0 : decode cX6_isChoice 0 = .ok (.iload_n 0, 1) := by decide +kernel
theorem dX6_isChoice_1 : decode cX6_isChoice 1 = .ok (.iconst 0, 1) := by decide +kernel
theorem dX6_isChoice_2 : decode cX6_isChoice 2 = .ok (.iconst 1, 1) := by decide +kernel
theorem dX6_isChoice_3 : decode cX6_isChoice 3 = .ok (.invokestatic 62, 3) := by decide +kernel
theorem dX6_isChoice_6 : decode cX6_isChoice 6 = .ok (.ireturn, 1) := by decide +kernel
theorem dX6_partInLeastTerms_0 : decode cX6_partInLeastTerms 0 = .ok (.iload_n 2, 1) := by decide +kernel
theorem dX6_partInLeastTerms_1 : decode cX6_partInLeastTerms 1 = .ok (.ifCond .eq 7, 3) := by decide +kernel
theorem dX6_partInLeastTerms_4 : decode cX6_partInLeastTerms 4 = .ok (.iload_n 0, 1) := by decide +kernel
theorem dX6_partInLeastTerms_5 : decode cX6_partInLeastTerms 5 = .ok (.goto 4, 3) := by decide +kernel
theorem dX6_partInLeastTerms_8 : decode cX6_partInLeastTerms 8 = .ok (.iload_n 1, 1) := by decide +kernel
theorem dX6_partInLeastTerms_9 : decode cX6_partInLeastTerms 9 = .ok (.istore_n 3, 1) := by decide +kernel
theorem dX6_partInLeastTerms_10 : decode cX6_partInLeastTerms 10 = .ok (.iload_n 1, 1) := by decide +kernel
theorem dX6_partInLeastTerms_11 : decode cX6_partInLeastTerms 11 = .ok (.istore 4, 2) := by decide +kernel
theorem dX6_partInLeastTerms_13 : decode cX6_partInLeastTerms 13 = .ok (.iload 4, 2) := by decide +kernel
theorem dX6_partInLeastTerms_15 : decode cX6_partInLeastTerms 15 = .ok (.iconst 1, 1) := by decide +kernel
theorem dX6_partInLeastTerms_16 : decode cX6_partInLeastTerms 16 = .ok (.if_icmp .le 28, 3) := by decide +kernel
theorem dX6_partInLeastTerms_19 : decode cX6_partInLeastTerms 19 = .ok (.iload_n 0, 1) := by decide +kernel
theorem dX6_partInLeastTerms_20 : decode cX6_partInLeastTerms 20 = .ok (.iload 4, 2) := by decide +kernel
theorem dX6_partInLeastTerms_22 : decode cX6_partInLeastTerms 22 = .ok (.irem, 1) := by decide +kernel
theorem dX6_partInLeastTerms_23 : decode cX6_partInLeastTerms 23 = .ok (.ifCond .ne 15, 3) := by decide +kernel
theorem dX6_partInLeastTerms_26 : decode cX6_partInLeastTerms 26 = .ok (.iload_n 1, 1) := by decide +kernel
theorem dX6_partInLeastTerms_27 : decode cX6_partInLeastTerms 27 = .ok (.iload 4, 2) := by decide +kernel
theorem dX6_partInLeastTerms_29 : decode cX6_partInLeastTerms 29 = .ok (.irem, 1) := by decide +kernel
theorem dX6_partInLeastTerms_30 : decode cX6_partInLeastTerms 30 = .ok (.ifCond .ne 8, 3) := by decide +kernel
theorem dX6_partInLeastTerms_33 : decode cX6_partInLeastTerms 33 = .ok (.iload_n 3, 1) := by decide +kernel
theorem dX6_partInLeastTerms_34 : decode cX6_partInLeastTerms 34 = .ok (.iload 4, 2) := by decide +kernel
theorem dX6_partInLeastTerms_36 : decode cX6_partInLeastTerms 36 = .ok (.idiv, 1) := by decide +kernel
theorem dX6_partInLeastTerms_37 : decode cX6_partInLeastTerms 37 = .ok (.ireturn, 1) := by decide +kernel
theorem dX6_partInLeastTerms_38 : decode cX6_partInLeastTerms 38 = .ok (.iinc 4 (-1), 3) := by decide +kernel
theorem dX6_partInLeastTerms_41 : decode cX6_partInLeastTerms 41 = .ok (.goto (-28), 3) := by decide +kernel
theorem dX6_partInLeastTerms_44 : decode cX6_partInLeastTerms 44 = .ok (.iload_n 3, 1) := by decide +kernel
theorem dX6_partInLeastTerms_45 : decode cX6_partInLeastTerms 45 = .ok (.ireturn, 1) := by decide +kernel
theorem dX6_turned_0 : decode cX6_turned 0 = .ok (.iload_n 1, 1) := by decide +kernel
theorem dX6_turned_1 : decode cX6_turned 1 = .ok (.istore_n 2, 1) := by decide +kernel
theorem dX6_turned_2 : decode cX6_turned 2 = .ok (.iconst 0, 1) := by decide +kernel
theorem dX6_turned_3 : decode cX6_turned 3 = .ok (.istore_n 3, 1) := by decide +kernel
theorem dX6_turned_4 : decode cX6_turned 4 = .ok (.iconst 0, 1) := by decide +kernel
theorem dX6_turned_5 : decode cX6_turned 5 = .ok (.istore 4, 2) := by decide +kernel
theorem dX6_turned_7 : decode cX6_turned 7 = .ok (.iload 4, 2) := by decide +kernel
theorem dX6_turned_9 : decode cX6_turned 9 = .ok (.iload_n 0, 1) := by decide +kernel
theorem dX6_turned_10 : decode cX6_turned 10 = .ok (.if_icmp .ge 24, 3) := by decide +kernel
theorem dX6_turned_13 : decode cX6_turned 13 = .ok (.iload_n 3, 1) := by decide +kernel
theorem dX6_turned_14 : decode cX6_turned 14 = .ok (.bipush 10, 2) := by decide +kernel
theorem dX6_turned_16 : decode cX6_turned 16 = .ok (.imul, 1) := by decide +kernel
theorem dX6_turned_17 : decode cX6_turned 17 = .ok (.iload_n 2, 1) := by decide +kernel
theorem dX6_turned_18 : decode cX6_turned 18 = .ok (.bipush 10, 2) := by decide +kernel
theorem dX6_turned_20 : decode cX6_turned 20 = .ok (.irem, 1) := by decide +kernel
theorem dX6_turned_21 : decode cX6_turned 21 = .ok (.iadd, 1) := by decide +kernel
theorem dX6_turned_22 : decode cX6_turned 22 = .ok (.istore_n 3, 1) := by decide +kernel
theorem dX6_turned_23 : decode cX6_turned 23 = .ok (.iload_n 2, 1) := by decide +kernel
theorem dX6_turned_24 : decode cX6_turned 24 = .ok (.bipush 10, 2) := by decide +kernel
theorem dX6_turned_26 : decode cX6_turned 26 = .ok (.idiv, 1) := by decide +kernel
theorem dX6_turned_27 : decode cX6_turned 27 = .ok (.istore_n 2, 1) := by decide +kernel
theorem dX6_turned_28 : decode cX6_turned 28 = .ok (.iinc 4 1, 3) := by decide +kernel
theorem dX6_turned_31 : decode cX6_turned 31 = .ok (.goto (-24), 3) := by decide +kernel
theorem dX6_turned_34 : decode cX6_turned 34 = .ok (.iload_n 3, 1) := by decide +kernel
theorem dX6_turned_35 : decode cX6_turned 35 = .ok (.ireturn, 1) := by decide +kernel
theorem dX6_hasFigure_0 : decode cX6_hasFigure 0 = .ok (.iload_n 0, 1) := by decide +kernel
theorem dX6_hasFigure_1 : decode cX6_hasFigure 1 = .ok (.istore_n 2, 1) := by decide +kernel
theorem dX6_hasFigure_2 : decode cX6_hasFigure 2 = .ok (.iload_n 2, 1) := by decide +kernel
theorem dX6_hasFigure_3 : decode cX6_hasFigure 3 = .ok (.ifCond .le 21, 3) := by decide +kernel
theorem dX6_hasFigure_6 : decode cX6_hasFigure 6 = .ok (.iload_n 2, 1) := by decide +kernel
theorem dX6_hasFigure_7 : decode cX6_hasFigure 7 = .ok (.bipush 10, 2) := by decide +kernel
theorem dX6_hasFigure_9 : decode cX6_hasFigure 9 = .ok (.irem, 1) := by decide +kernel
theorem dX6_hasFigure_10 : decode cX6_hasFigure 10 = .ok (.iload_n 1, 1) := by decide +kernel
theorem dX6_hasFigure_11 : decode cX6_hasFigure 11 = .ok (.if_icmp .ne 5, 3) := by decide +kernel
theorem dX6_hasFigure_14 : decode cX6_hasFigure 14 = .ok (.iconst 1, 1) := by decide +kernel
theorem dX6_hasFigure_15 : decode cX6_hasFigure 15 = .ok (.ireturn, 1) := by decide +kernel
theorem dX6_hasFigure_16 : decode cX6_hasFigure 16 = .ok (.iload_n 2, 1) := by decide +kernel
theorem dX6_hasFigure_17 : decode cX6_hasFigure 17 = .ok (.bipush 10, 2) := by decide +kernel
theorem dX6_hasFigure_19 : decode cX6_hasFigure 19 = .ok (.idiv, 1) := by decide +kernel
theorem dX6_hasFigure_20 : decode cX6_hasFigure 20 = .ok (.istore_n 2, 1) := by decide +kernel
theorem dX6_hasFigure_21 : decode cX6_hasFigure 21 = .ok (.goto (-19), 3) := by decide +kernel
theorem dX6_hasFigure_24 : decode cX6_hasFigure 24 = .ok (.iconst 0, 1) := by decide +kernel
theorem dX6_hasFigure_25 : decode cX6_hasFigure 25 = .ok (.ireturn, 1) := by decide +kernel
theorem dX6_figuresIn_0 : decode cX6_figuresIn 0 = .ok (.iconst 0, 1) := by decide +kernel
theorem dX6_figuresIn_1 : decode cX6_figuresIn 1 = .ok (.istore_n 1, 1) := by decide +kernel
theorem dX6_figuresIn_2 : decode cX6_figuresIn 2 = .ok (.iload_n 0, 1) := by decide +kernel
theorem dX6_figuresIn_3 : decode cX6_figuresIn 3 = .ok (.istore_n 2, 1) := by decide +kernel
theorem dX6_figuresIn_4 : decode cX6_figuresIn 4 = .ok (.iload_n 2, 1) := by decide +kernel
theorem dX6_figuresIn_5 : decode cX6_figuresIn 5 = .ok (.ifCond .le 14, 3) := by decide +kernel
theorem dX6_figuresIn_8 : decode cX6_figuresIn 8 = .ok (.iinc 1 1, 3) := by decide +kernel
theorem dX6_figuresIn_11 : decode cX6_figuresIn 11 = .ok (.iload_n 2, 1) := by decide +kernel
theorem dX6_figuresIn_12 : decode cX6_figuresIn 12 = .ok (.bipush 10, 2) := by decide +kernel
theorem dX6_figuresIn_14 : decode cX6_figuresIn 14 = .ok (.idiv, 1) := by decide +kernel
theorem dX6_figuresIn_15 : decode cX6_figuresIn 15 = .ok (.istore_n 2, 1) := by decide +kernel
theorem dX6_figuresIn_16 : decode cX6_figuresIn 16 = .ok (.goto (-12), 3) := by decide +kernel
theorem dX6_figuresIn_19 : decode cX6_figuresIn 19 = .ok (.iload_n 1, 1) := by decide +kernel
theorem dX6_figuresIn_20 : decode cX6_figuresIn 20 = .ok (.ireturn, 1) := by decide +kernel
theorem dX6_firstOf_0 : decode cX6_firstOf 0 = .ok (.iload_n 0, 1) := by decide +kernel
theorem dX6_firstOf_1 : decode cX6_firstOf 1 = .ok (.bipush 100, 2) := by decide +kernel
theorem dX6_firstOf_3 : decode cX6_firstOf 3 = .ok (.if_icmp .lt 8, 3) := by decide +kernel
theorem dX6_firstOf_6 : decode cX6_firstOf 6 = .ok (.iload_n 0, 1) := by decide +kernel
theorem dX6_firstOf_7 : decode cX6_firstOf 7 = .ok (.bipush 100, 2) := by decide +kernel
theorem dX6_firstOf_9 : decode cX6_firstOf 9 = .ok (.idiv, 1) := by decide +kernel
theorem dX6_firstOf_10 : decode cX6_firstOf 10 = .ok (.ireturn, 1) := by decide +kernel
theorem dX6_firstOf_11 : decode cX6_firstOf 11 = .ok (.iload_n 0, 1) := by decide +kernel
theorem dX6_firstOf_12 : decode cX6_firstOf 12 = .ok (.bipush 10, 2) := by decide +kernel
theorem dX6_firstOf_14 : decode cX6_firstOf 14 = .ok (.if_icmp .lt 10, 3) := by decide +kernel
theorem dX6_firstOf_17 : decode cX6_firstOf 17 = .ok (.iload_n 0, 1) := by decide +kernel
theorem dX6_firstOf_18 : decode cX6_firstOf 18 = .ok (.bipush 10, 2) := by decide +kernel
theorem dX6_firstOf_20 : decode cX6_firstOf 20 = .ok (.idiv, 1) := by decide +kernel
theorem dX6_firstOf_21 : decode cX6_firstOf 21 = .ok (.goto 4, 3) := by decide +kernel
theorem dX6_firstOf_24 : decode cX6_firstOf 24 = .ok (.iload_n 0, 1) := by decide +kernel
theorem dX6_firstOf_25 : decode cX6_firstOf 25 = .ok (.ireturn, 1) := by decide +kernel
theorem dX6_lastOf_0 : decode cX6_lastOf 0 = .ok (.iload_n 0, 1) := by decide +kernel
theorem dX6_lastOf_1 : decode cX6_lastOf 1 = .ok (.bipush 10, 2) := by decide +kernel
theorem dX6_lastOf_3 : decode cX6_lastOf 3 = .ok (.irem, 1) := by decide +kernel
theorem dX6_lastOf_4 : decode cX6_lastOf 4 = .ok (.ireturn, 1) := by decide +kernel
theorem dX6_withoutLast_0 : decode cX6_withoutLast 0 = .ok (.iload_n 0, 1) := by decide +kernel
theorem dX6_withoutLast_1 : decode cX6_withoutLast 1 = .ok (.bipush 10, 2) := by decide +kernel
theorem dX6_withoutLast_3 : decode cX6_withoutLast 3 = .ok (.idiv, 1) := by decide +kernel
theorem dX6_withoutLast_4 : decode cX6_withoutLast 4 = .ok (.ireturn, 1) := by decide +kernel
theorem dX6_withBehind_0 : decode cX6_withBehind 0 = .ok (.iload_n 2, 1) := by decide +kernel
theorem dX6_withBehind_1 : decode cX6_withBehind 1 = .ok (.iconst 1, 1) := by decide +kernel
theorem dX6_withBehind_2 : decode cX6_withBehind 2 = .ok (.if_icmp .gt 5, 3) := by decide +kernel
theorem dX6_withBehind_5 : decode cX6_withBehind 5 = .ok (.iload_n 1, 1) := by decide +kernel
theorem dX6_withBehind_6 : decode cX6_withBehind 6 = .ok (.ireturn, 1) := by decide +kernel
theorem dX6_withBehind_7 : decode cX6_withBehind 7 = .ok (.iload_n 2, 1) := by decide +kernel
theorem dX6_withBehind_8 : decode cX6_withBehind 8 = .ok (.iconst 2, 1) := by decide +kernel
theorem dX6_withBehind_9 : decode cX6_withBehind 9 = .ok (.if_icmp .ne 15, 3) := by decide +kernel
theorem dX6_withBehind_12 : decode cX6_withBehind 12 = .ok (.iload_n 0, 1) := by decide +kernel
theorem dX6_withBehind_13 : decode cX6_withBehind 13 = .ok (.bipush 10, 2) := by decide +kernel
theorem dX6_withBehind_15 : decode cX6_withBehind 15 = .ok (.irem, 1) := by decide +kernel
theorem dX6_withBehind_16 : decode cX6_withBehind 16 = .ok (.bipush 10, 2) := by decide +kernel
theorem dX6_withBehind_18 : decode cX6_withBehind 18 = .ok (.imul, 1) := by decide +kernel
theorem dX6_withBehind_19 : decode cX6_withBehind 19 = .ok (.iload_n 1, 1) := by decide +kernel
theorem dX6_withBehind_20 : decode cX6_withBehind 20 = .ok (.iadd, 1) := by decide +kernel
theorem dX6_withBehind_21 : decode cX6_withBehind 21 = .ok (.goto 12, 3) := by decide +kernel
theorem dX6_withBehind_24 : decode cX6_withBehind 24 = .ok (.iload_n 0, 1) := by decide +kernel
theorem dX6_withBehind_25 : decode cX6_withBehind 25 = .ok (.bipush 100, 2) := by decide +kernel
theorem dX6_withBehind_27 : decode cX6_withBehind 27 = .ok (.irem, 1) := by decide +kernel
theorem dX6_withBehind_28 : decode cX6_withBehind 28 = .ok (.bipush 10, 2) := by decide +kernel
theorem dX6_withBehind_30 : decode cX6_withBehind 30 = .ok (.imul, 1) := by decide +kernel
theorem dX6_withBehind_31 : decode cX6_withBehind 31 = .ok (.iload_n 1, 1) := by decide +kernel
theorem dX6_withBehind_32 : decode cX6_withBehind 32 = .ok (.iadd, 1) := by decide +kernel
theorem dX6_withBehind_33 : decode cX6_withBehind 33 = .ok (.ireturn, 1) := by decide +kernel
theorem dX6_at_0 : decode cX6_at 0 = .ok (.iload_n 1, 1) := by decide +kernel
theorem dX6_at_1 : decode cX6_at 1 = .ok (.ifCond .lt 15, 3) := by decide +kernel
theorem dX6_at_4 : decode cX6_at 4 = .ok (.iload_n 1, 1) := by decide +kernel
theorem dX6_at_5 : decode cX6_at 5 = .ok (.aload_n 0, 1) := by decide +kernel
theorem dX6_at_6 : decode cX6_at 6 = .ok (.arraylength, 1) := by decide +kernel
theorem dX6_at_7 : decode cX6_at 7 = .ok (.if_icmp .ge 9, 3) := by decide +kernel
theorem dX6_at_10 : decode cX6_at 10 = .ok (.aload_n 0, 1) := by decide +kernel
theorem dX6_at_11 : decode cX6_at 11 = .ok (.iload_n 1, 1) := by decide +kernel
theorem dX6_at_12 : decode cX6_at 12 = .ok (.iaload, 1) := by decide +kernel
theorem dX6_at_13 : decode cX6_at 13 = .ok (.goto 4, 3) := by decide +kernel
theorem dX6_at_16 : decode cX6_at 16 = .ok (.iconst 0, 1) := by decide +kernel
theorem dX6_at_17 : decode cX6_at 17 = .ok (.ireturn, 1) := by decide +kernel
theorem dX6_put_0 : decode cX6_put 0 = .ok (.iload_n 1, 1) := by decide +kernel
theorem dX6_put_1 : decode cX6_put 1 = .ok (.ifCond .lt 13, 3) := by decide +kernel
theorem dX6_put_4 : decode cX6_put 4 = .ok (.iload_n 1, 1) := by decide +kernel
theorem dX6_put_5 : decode cX6_put 5 = .ok (.aload_n 0, 1) := by decide +kernel
theorem dX6_put_6 : decode cX6_put 6 = .ok (.arraylength, 1) := by decide +kernel
theorem dX6_put_7 : decode cX6_put 7 = .ok (.if_icmp .ge 7, 3) := by decide +kernel
theorem dX6_put_10 : decode cX6_put 10 = .ok (.aload_n 0, 1) := by decide +kernel
theorem dX6_put_11 : decode cX6_put 11 = .ok (.iload_n 1, 1) := by decide +kernel
theorem dX6_put_12 : decode cX6_put 12 = .ok (.iload_n 2, 1) := by decide +kernel
theorem dX6_put_13 : decode cX6_put 13 = .ok (.iastore, 1) := by decide +kernel
theorem dX6_put_14 : decode cX6_put 14 = .ok (.return_, 1) := by decide +kernel
theorem dX6_copyRow_0 : decode cX6_copyRow 0 = .ok (.iconst 0, 1) := by decide +kernel
theorem dX6_copyRow_1 : decode cX6_copyRow 1 = .ok (.istore_n 2, 1) := by decide +kernel
theorem dX6_copyRow_2 : decode cX6_copyRow 2 = .ok (.iload_n 2, 1) := by decide +kernel
theorem dX6_copyRow_3 : decode cX6_copyRow 3 = .ok (.aload_n 0, 1) := by decide +kernel
theorem dX6_copyRow_4 : decode cX6_copyRow 4 = .ok (.arraylength, 1) := by decide +kernel
theorem dX6_copyRow_5 : decode cX6_copyRow 5 = .ok (.if_icmp .ge 21, 3) := by decide +kernel
theorem dX6_copyRow_8 : decode cX6_copyRow 8 = .ok (.iload_n 2, 1) := by decide +kernel
theorem dX6_copyRow_9 : decode cX6_copyRow 9 = .ok (.aload_n 1, 1) := by decide +kernel
theorem dX6_copyRow_10 : decode cX6_copyRow 10 = .ok (.arraylength, 1) := by decide +kernel
theorem dX6_copyRow_11 : decode cX6_copyRow 11 = .ok (.if_icmp .ge 15, 3) := by decide +kernel
theorem dX6_copyRow_14 : decode cX6_copyRow 14 = .ok (.aload_n 1, 1) := by decide +kernel
theorem dX6_copyRow_15 : decode cX6_copyRow 15 = .ok (.iload_n 2, 1) := by decide +kernel
theorem dX6_copyRow_16 : decode cX6_copyRow 16 = .ok (.aload_n 0, 1) := by decide +kernel
theorem dX6_copyRow_17 : decode cX6_copyRow 17 = .ok (.iload_n 2, 1) := by decide +kernel
theorem dX6_copyRow_18 : decode cX6_copyRow 18 = .ok (.iaload, 1) := by decide +kernel
theorem dX6_copyRow_19 : decode cX6_copyRow 19 = .ok (.iastore, 1) := by decide +kernel
theorem dX6_copyRow_20 : decode cX6_copyRow 20 = .ok (.iinc 2 1, 3) := by decide +kernel
theorem dX6_copyRow_23 : decode cX6_copyRow 23 = .ok (.goto (-21), 3) := by decide +kernel
theorem dX6_copyRow_26 : decode cX6_copyRow 26 = .ok (.return_, 1) := by decide +kernel
