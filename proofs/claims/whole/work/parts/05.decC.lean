theorem dX7_init_0 : decode cX7_init 0 = .ok (.aload_n 0, 1) := by decide +kernel
theorem dX7_init_1 : decode cX7_init 1 = .ok (.invokespecial 1, 3) := by decide +kernel
theorem dX7_init_4 : decode cX7_init 4 = .ok (.aload_n 0, 1) := by decide +kernel
theorem dX7_init_5 : decode cX7_init 5 = .ok (.bipush 40, 2) := by decide +kernel
theorem dX7_init_7 : decode cX7_init 7 = .ok (.newarray .int, 2) := by decide +kernel
theorem dX7_init_9 : decode cX7_init 9 = .ok (.putfield 7, 3) := by decide +kernel
theorem dX7_init_12 : decode cX7_init 12 = .ok (.aload_n 0, 1) := by decide +kernel
theorem dX7_init_13 : decode cX7_init 13 = .ok (.bipush 15, 2) := by decide +kernel
theorem dX7_init_15 : decode cX7_init 15 = .ok (.newarray .int, 2) := by decide +kernel
theorem dX7_init_17 : decode cX7_init 17 = .ok (.putfield 13, 3) := by decide +kernel
theorem dX7_init_20 : decode cX7_init 20 = .ok (.aload_n 0, 1) := by decide +kernel
theorem dX7_init_21 : decode cX7_init 21 = .ok (.bipush 12, 2) := by decide +kernel
theorem dX7_init_23 : decode cX7_init 23 = .ok (.newarray .int, 2) := by decide +kernel
theorem dX7_init_25 : decode cX7_init 25 = .ok (.putfield 16, 3) := by decide +kernel
theorem dX7_init_28 : decode cX7_init 28 = .ok (.aload_n 0, 1) := by decide +kernel
theorem dX7_init_29 : decode cX7_init 29 = .ok (.bipush 15, 2) := by decide +kernel
theorem dX7_init_31 : decode cX7_init 31 = .ok (.newarray .int, 2) := by decide +kernel
theorem dX7_init_33 : decode cX7_init 33 = .ok (.putfield 19, 3) := by decide +kernel
theorem dX7_init_36 : decode cX7_init 36 = .ok (.aload_n 0, 1) := by decide +kernel
theorem dX7_init_37 : decode cX7_init 37 = .ok (.bipush 12, 2) := by decide +kernel
theorem dX7_init_39 : decode cX7_init 39 = .ok (.newarray .int, 2) := by decide +kernel
theorem dX7_init_41 : decode cX7_init 41 = .ok (.putfield 22, 3) := by decide +kernel
theorem dX7_init_44 : decode cX7_init 44 = .ok (.aload_n 0, 1) := by decide +kernel
theorem dX7_init_45 : decode cX7_init 45 = .ok (.bipush 21, 2) := by decide +kernel
theorem dX7_init_47 : decode cX7_init 47 = .ok (.newarray .int, 2) := by decide +kernel
theorem dX7_init_49 : decode cX7_init 49 = .ok (.putfield 25, 3) := by decide +kernel
theorem dX7_init_52 : decode cX7_init 52 = .ok (.aload_n 0, 1) := by decide +kernel
theorem dX7_init_53 : decode cX7_init 53 = .ok (.bipush 21, 2) := by decide +kernel
theorem dX7_init_55 : decode cX7_init 55 = .ok (.newarray .int, 2) := by decide +kernel
theorem dX7_init_57 : decode cX7_init 57 = .ok (.putfield 28, 3) := by decide +kernel
theorem dX7_init_60 : decode cX7_init 60 = .ok (.aload_n 0, 1) := by decide +kernel
theorem dX7_init_61 : decode cX7_init 61 = .ok (.sipush 294, 3) := by decide +kernel
theorem dX7_init_64 : decode cX7_init 64 = .ok (.newarray .int, 2) := by decide +kernel
theorem dX7_init_66 : decode cX7_init 66 = .ok (.putfield 31, 3) := by decide +kernel
theorem dX7_init_69 : decode cX7_init 69 = .ok (.aload_n 0, 1) := by decide +kernel
theorem dX7_init_70 : decode cX7_init 70 = .ok (.bipush 42, 2) := by decide +kernel
theorem dX7_init_72 : decode cX7_init 72 = .ok (.newarray .int, 2) := by decide +kernel
theorem dX7_init_74 : decode cX7_init 74 = .ok (.putfield 34, 3) := by decide +kernel
theorem dX7_init_77 : decode cX7_init 77 = .ok (.aload_n 0, 1) := by decide +kernel
theorem dX7_init_78 : decode cX7_init 78 = .ok (.iconst 2, 1) := by decide +kernel
theorem dX7_init_79 : decode cX7_init 79 = .ok (.newarray .boolean, 2) := by decide +kernel
theorem dX7_init_81 : decode cX7_init 81 = .ok (.putfield 37, 3) := by decide +kernel
theorem dX7_init_84 : decode cX7_init 84 = .ok (.aload_n 0, 1) := by decide +kernel
theorem dX7_init_85 : decode cX7_init 85 = .ok (.iconst 4, 1) := by decide +kernel
theorem dX7_init_86 : decode cX7_init 86 = .ok (.newarray .int, 2) := by decide +kernel
theorem dX7_init_88 : decode cX7_init 88 = .ok (.putfield 41, 3) := by decide +kernel
theorem dX7_init_91 : decode cX7_init 91 = .ok (.aload_n 0, 1) := by decide +kernel
theorem dX7_init_92 : decode cX7_init 92 = .ok (.iconst 4, 1) := by decide +kernel
theorem dX7_init_93 : decode cX7_init 93 = .ok (.newarray .int, 2) := by decide +kernel
theorem dX7_init_95 : decode cX7_init 95 = .ok (.putfield 44, 3) := by decide +kernel
theorem dX7_init_98 : decode cX7_init 98 = .ok (.aload_n 0, 1) := by decide +kernel
theorem dX7_init_99 : decode cX7_init 99 = .ok (.iconst 4, 1) := by decide +kernel
theorem dX7_init_100 : decode cX7_init 100 = .ok (.newarray .int, 2) := by decide +kernel
theorem dX7_init_102 : decode cX7_init 102 = .ok (.putfield 47, 3) := by decide +kernel
theorem dX7_init_105 : decode cX7_init 105 = .ok (.return_, 1) := by decide +kernel
theorem dX7_in_0 : decode cX7_in 0 = .ok (.lload_n 0, 1) := by decide +kernel
theorem dX7_in_1 : decode cX7_in 1 = .ok (.lload_n 2, 1) := by decide +kernel
theorem dX7_in_2 : decode cX7_in 2 = .ok (.lcmp, 1) := by decide +kernel
theorem dX7_in_3 : decode cX7_in 3 = .ok (.ifCond .lt 14, 3) := by decide +kernel
theorem dX7_in_6 : decode cX7_in 6 = .ok (.lload_n 0, 1) := by decide +kernel
theorem dX7_in_7 : decode cX7_in 7 = .ok (.lload 4, 2) := by decide +kernel
theorem dX7_in_9 : decode cX7_in 9 = .ok (.lcmp, 1) := by decide +kernel
theorem dX7_in_10 : decode cX7_in 10 = .ok (.ifCond .gt 7, 3) := by decide +kernel
theorem dX7_in_13 : decode cX7_in 13 = .ok (.iconst 1, 1) := by decide +kernel
theorem dX7_in_14 : decode cX7_in 14 = .ok (.goto 4, 3) := by decide +kernel
theorem dX7_in_17 : decode cX7_in 17 = .ok (.iconst 0, 1) := by decide +kernel
theorem dX7_in_18 : decode cX7_in 18 = .ok (.ireturn, 1) := by decide +kernel
set_option maxRecDepth 20000 in
theorem ggX7_noPerson_X7_in : GoodIn wsX7_noPerson wsX7_in := goodIn_r _ [5] (by decide +kernel) (by decide +kernel)
set_option maxRecDepth 20000 in
theorem gX7_noPerson_X7_in : GoodIn wsX7_noPerson (va_wsS RX7 57 yX7_in wsX7_in) := goodIn_app (goodIn_of _ (by decide +kernel)) ggX7_noPerson_X7_in
theorem dX7_noPerson_0 : decode cX7_noPerson 0 = .ok (.iload_n 1, 1) := by decide +kernel
theorem dX7_noPerson_1 : decode cX7_noPerson 1 = .ok (.i2l, 1) := by decide +kernel
theorem dX7_noPerson_2 : decode cX7_noPerson 2 = .ok (.lconst 0, 1) := by decide +kernel
theorem dX7_noPerson_3 : decode cX7_noPerson 3 = .ok (.aload_n 0, 1) := by decide +kernel
theorem dX7_noPerson_4 : decode cX7_noPerson 4 = .ok (.getfield 54, 3) := by decide +kernel
theorem dX7_noPerson_7 : decode cX7_noPerson 7 = .ok (.iconst 1, 1) := by decide +kernel
theorem dX7_noPerson_8 : decode cX7_noPerson 8 = .ok (.isub, 1) := by decide +kernel
theorem dX7_noPerson_9 : decode cX7_noPerson 9 = .ok (.i2l, 1) := by decide +kernel
theorem dX7_noPerson_10 : decode cX7_noPerson 10 = .ok (.invokestatic 57, 3) := by decide +kernel
theorem dX7_noPerson_13 : decode cX7_noPerson 13 = .ok (.ifCond .ne 7, 3) := by decide +kernel
theorem dX7_noPerson_16 : decode cX7_noPerson 16 = .ok (.iconst 1, 1) := by decide +kernel
theorem dX7_noPerson_17 : decode cX7_noPerson 17 = .ok (.goto 4, 3) := by decide +kernel
theorem dX7_noPerson_20 : decode cX7_noPerson 20 = .ok (.iconst 0, 1) := by decide +kernel
theorem dX7_noPerson_21 : decode cX7_noPerson 21 = .ok (.ireturn, 1) := by decide +kernel
set_option maxRecDepth 20000 in
theorem ggX7_noGlove_X7_in : GoodIn wsX7_noGlove wsX7_in := goodIn_r _ [5] (by decide +kernel) (by decide +kernel)
set_option maxRecDepth 20000 in
theorem gX7_noGlove_X7_in : GoodIn wsX7_noGlove (va_wsS RX7 57 yX7_in wsX7_in) := goodIn_app (goodIn_of _ (by decide +kernel)) ggX7_noGlove_X7_in
theorem dX7_noGlove_0 : decode cX7_noGlove 0 = .ok (.iload_n 1, 1) := by decide +kernel
theorem dX7_noGlove_1 : decode cX7_noGlove 1 = .ok (.i2l, 1) := by decide +kernel
theorem dX7_noGlove_2 : decode cX7_noGlove 2 = .ok (.lconst 0, 1) := by decide +kernel
theorem dX7_noGlove_3 : decode cX7_noGlove 3 = .ok (.aload_n 0, 1) := by decide +kernel
theorem dX7_noGlove_4 : decode cX7_noGlove 4 = .ok (.getfield 61, 3) := by decide +kernel
theorem dX7_noGlove_7 : decode cX7_noGlove 7 = .ok (.iconst 1, 1) := by decide +kernel
theorem dX7_noGlove_8 : decode cX7_noGlove 8 = .ok (.isub, 1) := by decide +kernel
theorem dX7_noGlove_9 : decode cX7_noGlove 9 = .ok (.i2l, 1) := by decide +kernel
theorem dX7_noGlove_10 : decode cX7_noGlove 10 = .ok (.invokestatic 57, 3) := by decide +kernel
theorem dX7_noGlove_13 : decode cX7_noGlove 13 = .ok (.ifCond .ne 7, 3) := by decide +kernel
theorem dX7_noGlove_16 : decode cX7_noGlove 16 = .ok (.iconst 1, 1) := by decide +kernel
theorem dX7_noGlove_17 : decode cX7_noGlove 17 = .ok (.goto 4, 3) := by decide +kernel
theorem dX7_noGlove_20 : decode cX7_noGlove 20 = .ok (.iconst 0, 1) := by decide +kernel
theorem dX7_noGlove_21 : decode cX7_noGlove 21 = .ok (.ireturn, 1) := by decide +kernel
set_option maxRecDepth 20000 in
theorem ggX7_write_X7_in : GoodIn wsX7_write wsX7_in := goodIn_r _ [8] (by decide +kernel) (by decide +kernel)
set_option maxRecDepth 20000 in
theorem gX7_write_X7_in : GoodIn wsX7_write (va_wsS RX7 57 yX7_in wsX7_in) := goodIn_app (goodIn_of _ (by decide +kernel)) ggX7_write_X7_in
theorem dX7_write_0 : decode cX7_write 0 = .ok (.aload_n 0, 1) := by decide +kernel
theorem dX7_write_1 : decode cX7_write 1 = .ok (.iconst 0, 1) := by decide +kernel
theorem dX7_write_2 : decode cX7_write 2 = .ok (.putfield 50, 3) := by decide +kernel
theorem dX7_write_5 : decode cX7_write 5 = .ok (.iload_n 1, 1) := by decide +kernel
theorem dX7_write_6 : decode cX7_write 6 = .ok (.i2l, 1) := by decide +kernel
theorem dX7_write_7 : decode cX7_write 7 = .ok (.lconst 0, 1) := by decide +kernel
theorem dX7_write_8 : decode cX7_write 8 = .ok (.ldc2_w 64, 3) := by decide +kernel
theorem dX7_write_11 : decode cX7_write 11 = .ok (.invokestatic 57, 3) := by decide +kernel
theorem dX7_write_14 : decode cX7_write 14 = .ok (.ifCond .ne 6, 3) := by decide +kernel
theorem dX7_write_17 : decode cX7_write 17 = .ok (.bipush (-2), 2) := by decide +kernel
theorem dX7_write_19 : decode cX7_write 19 = .ok (.ireturn, 1) := by decide +kernel
theorem dX7_write_20 : decode cX7_write 20 = .ok (.aload_n 0, 1) := by decide +kernel
theorem dX7_write_21 : decode cX7_write 21 = .ok (.getfield 66, 3) := by decide +kernel
theorem dX7_write_24 : decode cX7_write 24 = .ok (.bipush 40, 2) := by decide +kernel
theorem dX7_write_26 : decode cX7_write 26 = .ok (.if_icmp .ne 6, 3) := by decide +kernel
theorem dX7_write_29 : decode cX7_write 29 = .ok (.bipush (-4), 2) := by decide +kernel
theorem dX7_write_31 : decode cX7_write 31 = .ok (.ireturn, 1) := by decide +kernel
theorem dX7_write_32 : decode cX7_write 32 = .ok (.aload_n 0, 1) := by decide +kernel
theorem dX7_write_33 : decode cX7_write 33 = .ok (.getfield 7, 3) := by decide +kernel
theorem dX7_write_36 : decode cX7_write 36 = .ok (.aload_n 0, 1) := by decide +kernel
theorem dX7_write_37 : decode cX7_write 37 = .ok (.getfield 66, 3) := by decide +kernel
theorem dX7_write_40 : decode cX7_write 40 = .ok (.iload_n 1, 1) := by decide +kernel
theorem dX7_write_41 : decode cX7_write 41 = .ok (.iastore, 1) := by decide +kernel
theorem dX7_write_42 : decode cX7_write 42 = .ok (.aload_n 0, 1) := by decide +kernel
theorem dX7_write_43 : decode cX7_write 43 = .ok (.dup, 1) := by decide +kernel
theorem dX7_write_44 : decode cX7_write 44 = .ok (.getfield 66, 3) := by decide +kernel
theorem dX7_write_47 : decode cX7_write 47 = .ok (.iconst 1, 1) := by decide +kernel
theorem dX7_write_48 : decode cX7_write 48 = .ok (.iadd, 1) := by decide +kernel
theorem dX7_write_49 : decode cX7_write 49 = .ok (.putfield 66, 3) := by decide +kernel
theorem dX7_write_52 : decode cX7_write 52 = .ok (.aload_n 0, 1) := by decide +kernel
theorem dX7_write_53 : decode cX7_write 53 = .ok (.getfield 66, 3) := by decide +kernel
theorem dX7_write_56 : decode cX7_write 56 = .ok (.ireturn, 1) := by decide +kernel
theorem dX7_wipe_0 : decode cX7_wipe 0 = .ok (.aload_n 0, 1) := by decide +kernel
theorem dX7_wipe_1 : decode cX7_wipe 1 = .ok (.iconst 0, 1) := by decide +kernel
theorem dX7_wipe_2 : decode cX7_wipe 2 = .ok (.putfield 50, 3) := by decide +kernel
theorem dX7_wipe_5 : decode cX7_wipe 5 = .ok (.aload_n 0, 1) := by decide +kernel
theorem dX7_wipe_6 : decode cX7_wipe 6 = .ok (.getfield 66, 3) := by decide +kernel
theorem dX7_wipe_9 : decode cX7_wipe 9 = .ok (.istore_n 1, 1) := by decide +kernel
theorem dX7_wipe_10 : decode cX7_wipe 10 = .ok (.aload_n 0, 1) := by decide +kernel
theorem dX7_wipe_11 : decode cX7_wipe 11 = .ok (.iconst 0, 1) := by decide +kernel
theorem dX7_wipe_12 : decode cX7_wipe 12 = .ok (.putfield 66, 3) := by decide +kernel
theorem dX7_wipe_15 : decode cX7_wipe 15 = .ok (.iload_n 1, 1) := by decide +kernel
theorem dX7_wipe_16 : decode cX7_wipe 16 = .ok (.ireturn, 1) := by decide +kernel
set_option maxRecDepth 20000 in
theorem ggX7_figure_X7_in : GoodIn wsX7_figure wsX7_in := goodIn_r _ [7] (by decide +kernel) (by decide +kernel)
set_option maxRecDepth 20000 in
theorem gX7_figure_X7_in : GoodIn wsX7_figure (va_wsS RX7 57 yX7_in wsX7_in) := goodIn_app (goodIn_of _ (by decide +kernel)) ggX7_figure_X7_in
theorem dX7_figure_0 : decode cX7_figure 0 = .ok (.aload_n 0, 1) := by decide +kernel
theorem dX7_figure_1 : decode cX7_figure 1 = .ok (.getfield 69, 3) := by decide +kernel
theorem dX7_figure_4 : decode cX7_figure 4 = .ok (.aload_n 0, 1) := by decide +kernel
theorem dX7_figure_5 : decode cX7_figure 5 = .ok (.getfield 66, 3) := by decide +kernel
theorem dX7_figure_8 : decode cX7_figure 8 = .ok (.if_icmp .eq 26, 3) := by decide +kernel
theorem dX7_figure_11 : decode cX7_figure 11 = .ok (.aload_n 0, 1) := by decide +kernel
theorem dX7_figure_12 : decode cX7_figure 12 = .ok (.getfield 7, 3) := by decide +kernel
theorem dX7_figure_15 : decode cX7_figure 15 = .ok (.aload_n 0, 1) := by decide +kernel
theorem dX7_figure_16 : decode cX7_figure 16 = .ok (.getfield 69, 3) := by decide +kernel
theorem dX7_figure_19 : decode cX7_figure 19 = .ok (.iaload, 1) := by decide +kernel
theorem dX7_figure_20 : decode cX7_figure 20 = .ok (.bipush 48, 2) := by decide +kernel
theorem dX7_figure_22 : decode cX7_figure 22 = .ok (.isub, 1) := by decide +kernel
theorem dX7_figure_23 : decode cX7_figure 23 = .ok (.i2l, 1) := by decide +kernel
theorem dX7_figure_24 : decode cX7_figure 24 = .ok (.iload_n 1, 1) := by decide +kernel
theorem dX7_figure_25 : decode cX7_figure 25 = .ok (.i2l, 1) := by decide +kernel
theorem dX7_figure_26 : decode cX7_figure 26 = .ok (.iload_n 2, 1) := by decide +kernel
theorem dX7_figure_27 : decode cX7_figure 27 = .ok (.i2l, 1) := by decide +kernel
theorem dX7_figure_28 : decode cX7_figure 28 = .ok (.invokestatic 57, 3) := by decide +kernel
theorem dX7_figure_31 : decode cX7_figure 31 = .ok (.ifCond .ne 6, 3) := by decide +kernel
theorem dX7_figure_34 : decode cX7_figure 34 = .ok (.bipush (-9), 2) := by decide +kernel
theorem dX7_figure_36 : decode cX7_figure 36 = .ok (.ireturn, 1) := by decide +kernel
theorem dX7_figure_37 : decode cX7_figure 37 = .ok (.aload_n 0, 1) := by decide +kernel
theorem dX7_figure_38 : decode cX7_figure 38 = .ok (.dup, 1) := by decide +kernel
theorem dX7_figure_39 : decode cX7_figure 39 = .ok (.getfield 69, 3) := by decide +kernel
theorem dX7_figure_42 : decode cX7_figure 42 = .ok (.iconst 1, 1) := by decide +kernel
theorem dX7_figure_43 : decode cX7_figure 43 = .ok (.iadd, 1) := by decide +kernel
theorem dX7_figure_44 : decode cX7_figure 44 = .ok (.putfield 69, 3) := by decide +kernel
theorem dX7_figure_47 : decode cX7_figure 47 = .ok (.aload_n 0, 1) := by decide +kernel
theorem dX7_figure_48 : decode cX7_figure 48 = .ok (.getfield 7, 3) := by decide +kernel
theorem dX7_figure_51 : decode cX7_figure 51 = .ok (.aload_n 0, 1) := by decide +kernel
theorem dX7_figure_52 : decode cX7_figure 52 = .ok (.getfield 69, 3) := by decide +kernel
theorem dX7_figure_55 : decode cX7_figure 55 = .ok (.iconst 1, 1) := by decide +kernel
theorem dX7_figure_56 : decode cX7_figure 56 = .ok (.isub, 1) := by decide +kernel
theorem dX7_figure_57 : decode cX7_figure 57 = .ok (.iaload, 1) := by decide +kernel
theorem dX7_figure_58 : decode cX7_figure 58 = .ok (.bipush 48, 2) := by decide +kernel
theorem dX7_figure_60 : decode cX7_figure 60 = .ok (.isub, 1) := by decide +kernel
theorem dX7_figure_61 : decode cX7_figure 61 = .ok (.ireturn, 1) := by decide +kernel
set_option maxRecDepth 20000 in
theorem ggX7_readPerson_X7_figure : GoodIn wsX7_readPerson wsX7_figure := goodIn_r _ [7, 8, 9, 10, 11, 12, 6, 13, 14, 15, 16, 17, 18, 19, 20, 21, 22, 23, 24, 25, 26, 27, 28, 29, 30, 31, 32, 33, 34, 35, 36, 37, 38, 39, 40, 41, 42, 43, 44] (by decide +kernel) (by decide +kernel)
set_option maxRecDepth 20000 in
theorem gX7_readPerson_X7_figure : GoodIn wsX7_readPerson (wsV RX7 72 RX7 yX7_figure wsX7_figure) := goodIn_app (goodIn_of _ (by decide +kernel)) ggX7_readPerson_X7_figure
theorem dX7_readPerson_0 : decode cX7_readPerson 0 = .ok (.iconst 0, 1) := by decide +kernel
theorem dX7_readPerson_1 : decode cX7_readPerson 1 = .ok (.istore_n 1, 1) := by decide +kernel
theorem dX7_readPerson_2 : decode cX7_readPerson 2 = .ok (.iload_n 1, 1) := by decide +kernel
theorem dX7_readPerson_3 : decode cX7_readPerson 3 = .ok (.iconst 3, 1) := by decide +kernel
theorem dX7_readPerson_4 : decode cX7_readPerson 4 = .ok (.if_icmp .ge 54, 3) := by decide +kernel
theorem dX7_readPerson_7 : decode cX7_readPerson 7 = .ok (.iload_n 1, 1) := by decide +kernel
theorem dX7_readPerson_8 : decode cX7_readPerson 8 = .ok (.iconst 2, 1) := by decide +kernel
theorem dX7_readPerson_9 : decode cX7_readPerson 9 = .ok (.if_icmp .ge 13, 3) := by decide +kernel
theorem dX7_readPerson_12 : decode cX7_readPerson 12 = .ok (.aload_n 0, 1) := by decide +kernel
theorem dX7_readPerson_13 : decode cX7_readPerson 13 = .ok (.iconst 1, 1) := by decide +kernel
theorem dX7_readPerson_14 : decode cX7_readPerson 14 = .ok (.bipush 7, 2) := by decide +kernel
theorem dX7_readPerson_16 : decode cX7_readPerson 16 = .ok (.invokevirtual 72, 3) := by decide +kernel
theorem dX7_readPerson_19 : decode cX7_readPerson 19 = .ok (.goto 10, 3) := by decide +kernel
theorem dX7_readPerson_22 : decode cX7_readPerson 22 = .ok (.aload_n 0, 1) := by decide +kernel
theorem dX7_readPerson_23 : decode cX7_readPerson 23 = .ok (.iconst 0, 1) := by decide +kernel
theorem dX7_readPerson_24 : decode cX7_readPerson 24 = .ok (.bipush 9, 2) := by decide +kernel
theorem dX7_readPerson_26 : decode cX7_readPerson 26 = .ok (.invokevirtual 72, 3) := by decide +kernel
theorem dX7_readPerson_29 : decode cX7_readPerson 29 = .ok (.istore_n 2, 1) := by decide +kernel
theorem dX7_readPerson_30 : decode cX7_readPerson 30 = .ok (.iload_n 2, 1) := by decide +kernel
theorem dX7_readPerson_31 : decode cX7_readPerson 31 = .ok (.bipush (-9), 2) := by decide +kernel
theorem dX7_readPerson_33 : decode cX7_readPerson 33 = .ok (.if_icmp .ne 5, 3) := by decide +kernel
theorem dX7_readPerson_36 : decode cX7_readPerson 36 = .ok (.iconst 0, 1) := by decide +kernel
theorem dX7_readPerson_37 : decode cX7_readPerson 37 = .ok (.ireturn, 1) := by decide +kernel
theorem dX7_readPerson_38 : decode cX7_readPerson 38 = .ok (.aload_n 0, 1) := by decide +kernel
theorem dX7_readPerson_39 : decode cX7_readPerson 39 = .ok (.getfield 19, 3) := by decide +kernel
theorem dX7_readPerson_42 : decode cX7_readPerson 42 = .ok (.iconst 3, 1) := by decide +kernel
theorem dX7_readPerson_43 : decode cX7_readPerson 43 = .ok (.aload_n 0, 1) := by decide +kernel
theorem dX7_readPerson_44 : decode cX7_readPerson 44 = .ok (.getfield 76, 3) := by decide +kernel
theorem dX7_readPerson_47 : decode cX7_readPerson 47 = .ok (.imul, 1) := by decide +kernel
theorem dX7_readPerson_48 : decode cX7_readPerson 48 = .ok (.iload_n 1, 1) := by decide +kernel
theorem dX7_readPerson_49 : decode cX7_readPerson 49 = .ok (.iadd, 1) := by decide +kernel
theorem dX7_readPerson_50 : decode cX7_readPerson 50 = .ok (.iload_n 2, 1) := by decide +kernel
theorem dX7_readPerson_51 : decode cX7_readPerson 51 = .ok (.iastore, 1) := by decide +kernel
theorem dX7_readPerson_52 : decode cX7_readPerson 52 = .ok (.iinc 1 1, 3) := by decide +kernel
theorem dX7_readPerson_55 : decode cX7_readPerson 55 = .ok (.goto (-53), 3) := by decide +kernel
theorem dX7_readPerson_58 : decode cX7_readPerson 58 = .ok (.aload_n 0, 1) := by decide +kernel
theorem dX7_readPerson_59 : decode cX7_readPerson 59 = .ok (.dup, 1) := by decide +kernel
theorem dX7_readPerson_60 : decode cX7_readPerson 60 = .ok (.getfield 76, 3) := by decide +kernel
theorem dX7_readPerson_63 : decode cX7_readPerson 63 = .ok (.iconst 1, 1) := by decide +kernel
theorem dX7_readPerson_64 : decode cX7_readPerson 64 = .ok (.iadd, 1) := by decide +kernel
theorem dX7_readPerson_65 : decode cX7_readPerson 65 = .ok (.putfield 76, 3) := by decide +kernel
theorem dX7_readPerson_68 : decode cX7_readPerson 68 = .ok (.iconst 1, 1) := by decide +kernel
theorem dX7_readPerson_69 : decode cX7_readPerson 69 = .ok (.ireturn, 1) := by decide +kernel
set_option maxRecDepth 20000 in
theorem ggX7_readGlove_X7_figure : GoodIn wsX7_readGlove wsX7_figure := goodIn_r _ [7, 8, 9, 10, 11, 12, 6, 13, 14, 15, 16, 17, 18, 19, 20, 21, 22, 23, 24, 25, 26, 27, 28, 29, 30, 31, 32, 33, 34, 35, 36, 37, 38, 39, 40, 41, 42, 43, 44] (by decide +kernel) (by decide +kernel)
set_option maxRecDepth 20000 in
theorem gX7_readGlove_X7_figure : GoodIn wsX7_readGlove (wsV RX7 72 RX7 yX7_figure wsX7_figure) := goodIn_app (goodIn_of _ (by decide +kernel)) ggX7_readGlove_X7_figure
theorem dX7_readGlove_0 : decode cX7_readGlove 0 = .ok (.iconst 0, 1) := by decide +kernel
theorem dX7_readGlove_1 : decode cX7_readGlove 1 = .ok (.istore_n 1, 1) := by decide +kernel
theorem dX7_readGlove_2 : decode cX7_readGlove 2 = .ok (.iload_n 1, 1) := by decide +kernel
theorem dX7_readGlove_3 : decode cX7_readGlove 3 = .ok (.iconst 3, 1) := by decide +kernel
theorem dX7_readGlove_4 : decode cX7_readGlove 4 = .ok (.if_icmp .ge 61, 3) := by decide +kernel
theorem dX7_readGlove_7 : decode cX7_readGlove 7 = .ok (.iload_n 1, 1) := by decide +kernel
theorem dX7_readGlove_8 : decode cX7_readGlove 8 = .ok (.ifCond .ne 12, 3) := by decide +kernel
theorem dX7_readGlove_11 : decode cX7_readGlove 11 = .ok (.aload_n 0, 1) := by decide +kernel
theorem dX7_readGlove_12 : decode cX7_readGlove 12 = .ok (.iconst 1, 1) := by decide +kernel
theorem dX7_readGlove_13 : decode cX7_readGlove 13 = .ok (.iconst 3, 1) := by decide +kernel
theorem dX7_readGlove_14 : decode cX7_readGlove 14 = .ok (.invokevirtual 72, 3) := by decide +kernel
theorem dX7_readGlove_17 : decode cX7_readGlove 17 = .ok (.goto 19, 3) := by decide +kernel
theorem dX7_readGlove_20 : decode cX7_readGlove 20 = .ok (.aload_n 0, 1) := by decide +kernel
theorem dX7_readGlove_21 : decode cX7_readGlove 21 = .ok (.iconst 0, 1) := by decide +kernel
theorem dX7_readGlove_22 : decode cX7_readGlove 22 = .ok (.iload_n 1, 1) := by decide +kernel
theorem dX7_readGlove_23 : decode cX7_readGlove 23 = .ok (.iconst 1, 1) := by decide +kernel
theorem dX7_readGlove_24 : decode cX7_readGlove 24 = .ok (.if_icmp .ne 7, 3) := by decide +kernel
theorem dX7_readGlove_27 : decode cX7_readGlove 27 = .ok (.iconst 3, 1) := by decide +kernel
theorem dX7_readGlove_28 : decode cX7_readGlove 28 = .ok (.goto 5, 3) := by decide +kernel
theorem dX7_readGlove_31 : decode cX7_readGlove 31 = .ok (.bipush 7, 2) := by decide +kernel
theorem dX7_readGlove_33 : decode cX7_readGlove 33 = .ok (.invokevirtual 72, 3) := by decide +kernel
theorem dX7_readGlove_36 : decode cX7_readGlove 36 = .ok (.istore_n 2, 1) := by decide +kernel
theorem dX7_readGlove_37 : decode cX7_readGlove 37 = .ok (.iload_n 2, 1) := by decide +kernel
theorem dX7_readGlove_38 : decode cX7_readGlove 38 = .ok (.bipush (-9), 2) := by decide +kernel
theorem dX7_readGlove_40 : decode cX7_readGlove 40 = .ok (.if_icmp .ne 5, 3) := by decide +kernel
theorem dX7_readGlove_43 : decode cX7_readGlove 43 = .ok (.iconst 0, 1) := by decide +kernel
theorem dX7_readGlove_44 : decode cX7_readGlove 44 = .ok (.ireturn, 1) := by decide +kernel
theorem dX7_readGlove_45 : decode cX7_readGlove 45 = .ok (.aload_n 0, 1) := by decide +kernel
theorem dX7_readGlove_46 : decode cX7_readGlove 46 = .ok (.getfield 22, 3) := by decide +kernel
theorem dX7_readGlove_49 : decode cX7_readGlove 49 = .ok (.iconst 3, 1) := by decide +kernel
theorem dX7_readGlove_50 : decode cX7_readGlove 50 = .ok (.aload_n 0, 1) := by decide +kernel
theorem dX7_readGlove_51 : decode cX7_readGlove 51 = .ok (.getfield 79, 3) := by decide +kernel
theorem dX7_readGlove_54 : decode cX7_readGlove 54 = .ok (.imul, 1) := by decide +kernel
theorem dX7_readGlove_55 : decode cX7_readGlove 55 = .ok (.iload_n 1, 1) := by decide +kernel
theorem dX7_readGlove_56 : decode cX7_readGlove 56 = .ok (.iadd, 1) := by decide +kernel
theorem dX7_readGlove_57 : decode cX7_readGlove 57 = .ok (.iload_n 2, 1) := by decide +kernel
theorem dX7_readGlove_58 : decode cX7_readGlove 58 = .ok (.iastore, 1) := by decide +kernel
theorem dX7_readGlove_59 : decode cX7_readGlove 59 = .ok (.iinc 1 1, 3) := by decide +kernel
theorem dX7_readGlove_62 : decode cX7_readGlove 62 = .ok (.goto (-60), 3) := by decide +kernel
theorem dX7_readGlove_65 : decode cX7_readGlove 65 = .ok (.aload_n 0, 1) := by decide +kernel
theorem dX7_readGlove_66 : decode cX7_readGlove 66 = .ok (.dup, 1) := by decide +kernel
theorem dX7_readGlove_67 : decode cX7_readGlove 67 = .ok (.getfield 79, 3) := by decide +kernel
theorem dX7_readGlove_70 : decode cX7_readGlove 70 = .ok (.iconst 1, 1) := by decide +kernel
theorem dX7_readGlove_71 : decode cX7_readGlove 71 = .ok (.iadd, 1) := by decide +kernel
theorem dX7_readGlove_72 : decode cX7_readGlove 72 = .ok (.putfield 79, 3) := by decide +kernel
theorem dX7_readGlove_75 : decode cX7_readGlove 75 = .ok (.iconst 1, 1) := by decide +kernel
theorem dX7_readGlove_76 : decode cX7_readGlove 76 = .ok (.ireturn, 1) := by decide +kernel
set_option maxRecDepth 20000 in
theorem ggX7_readPart_X7_readPerson : GoodIn wsX7_readPart wsX7_readPerson := goodIn_r _ [9, 10, 3, 11, 12, 13, 8, 14, 2, 15, 1, 16, 17, 18, 24, 25, 26, 27, 28, 29, 30, 31, 32, 33, 34, 35, 36, 37, 38, 39, 40, 41, 42, 43, 44, 45, 46, 47, 48, 49, 50, 51, 52, 53, 54] (by decide +kernel) (by decide +kernel)
set_option maxRecDepth 20000 in
theorem gX7_readPart_X7_readPerson : GoodIn wsX7_readPart (wsV RX7 82 RX7 yX7_readPerson wsX7_readPerson) := goodIn_app (goodIn_of _ (by decide +kernel)) ggX7_readPart_X7_readPerson
set_option maxRecDepth 20000 in
theorem ggX7_readPart_X7_readGlove : GoodIn wsX7_readPart wsX7_readGlove := goodIn_r _ [22, 23, 4, 11, 12, 13, 8, 14, 2, 15, 1, 16, 17, 18, 24, 25, 26, 27, 28, 29, 30, 31, 32, 33, 34, 35, 36, 37, 38, 39, 40, 41, 42, 43, 44, 45, 46, 47, 48, 49, 50, 51, 52, 53, 54] (by decide +kernel) (by decide +kernel)
set_option maxRecDepth 20000 in
theorem gX7_readPart_X7_readGlove : GoodIn wsX7_readPart (wsV RX7 85 RX7 yX7_readGlove wsX7_readGlove) := goodIn_app (goodIn_of _ (by decide +kernel)) ggX7_readPart_X7_readGlove
theorem dX7_readPart_0 : decode cX7_readPart 0 = .ok (.aload_n 0, 1) := by decide +kernel
theorem dX7_readPart_1 : decode cX7_readPart 1 = .ok (.getfield 7, 3) := by decide +kernel
theorem dX7_readPart_4 : decode cX7_readPart 4 = .ok (.aload_n 0, 1) := by decide +kernel
theorem dX7_readPart_5 : decode cX7_readPart 5 = .ok (.getfield 69, 3) := by decide +kernel
theorem dX7_readPart_8 : decode cX7_readPart 8 = .ok (.iaload, 1) := by decide +kernel
theorem dX7_readPart_9 : decode cX7_readPart 9 = .ok (.istore_n 1, 1) := by decide +kernel
theorem dX7_readPart_10 : decode cX7_readPart 10 = .ok (.aload_n 0, 1) := by decide +kernel
theorem dX7_readPart_11 : decode cX7_readPart 11 = .ok (.dup, 1) := by decide +kernel
theorem dX7_readPart_12 : decode cX7_readPart 12 = .ok (.getfield 69, 3) := by decide +kernel
theorem dX7_readPart_15 : decode cX7_readPart 15 = .ok (.iconst 1, 1) := by decide +kernel
theorem dX7_readPart_16 : decode cX7_readPart 16 = .ok (.iadd, 1) := by decide +kernel
theorem dX7_readPart_17 : decode cX7_readPart 17 = .ok (.putfield 69, 3) := by decide +kernel
theorem dX7_readPart_20 : decode cX7_readPart 20 = .ok (.iload_n 1, 1) := by decide +kernel
theorem dX7_readPart_21 : decode cX7_readPart 21 = .ok (.bipush 80, 2) := by decide +kernel
theorem dX7_readPart_23 : decode cX7_readPart 23 = .ok (.if_icmp .ne 16, 3) := by decide +kernel
theorem dX7_readPart_26 : decode cX7_readPart 26 = .ok (.aload_n 0, 1) := by decide +kernel
theorem dX7_readPart_27 : decode cX7_readPart 27 = .ok (.getfield 76, 3) := by decide +kernel
theorem dX7_readPart_30 : decode cX7_readPart 30 = .ok (.iconst 5, 1) := by decide +kernel
theorem dX7_readPart_31 : decode cX7_readPart 31 = .ok (.if_icmp .ge 8, 3) := by decide +kernel
theorem dX7_readPart_34 : decode cX7_readPart 34 = .ok (.aload_n 0, 1) := by decide +kernel
theorem dX7_readPart_35 : decode cX7_readPart 35 = .ok (.invokevirtual 82, 3) := by decide +kernel
theorem dX7_readPart_38 : decode cX7_readPart 38 = .ok (.ireturn, 1) := by decide +kernel
theorem dX7_readPart_39 : decode cX7_readPart 39 = .ok (.iload_n 1, 1) := by decide +kernel
theorem dX7_readPart_40 : decode cX7_readPart 40 = .ok (.bipush 76, 2) := by decide +kernel
theorem dX7_readPart_42 : decode cX7_readPart 42 = .ok (.if_icmp .ne 16, 3) := by decide +kernel
theorem dX7_readPart_45 : decode cX7_readPart 45 = .ok (.aload_n 0, 1) := by decide +kernel
theorem dX7_readPart_46 : decode cX7_readPart 46 = .ok (.getfield 79, 3) := by decide +kernel
theorem dX7_readPart_49 : decode cX7_readPart 49 = .ok (.iconst 4, 1) := by decide +kernel
theorem dX7_readPart_50 : decode cX7_readPart 50 = .ok (.if_icmp .ge 8, 3) := by decide +kernel
theorem dX7_readPart_53 : decode cX7_readPart 53 = .ok (.aload_n 0, 1) := by decide +kernel
theorem dX7_readPart_54 : decode cX7_readPart 54 = .ok (.invokevirtual 85, 3) := by decide +kernel
theorem dX7_readPart_57 : decode cX7_readPart 57 = .ok (.ireturn, 1) := by decide +kernel
theorem dX7_readPart_58 : decode cX7_readPart 58 = .ok (.aload_n 0, 1) := by decide +kernel
theorem dX7_readPart_59 : decode cX7_readPart 59 = .ok (.dup, 1) := by decide +kernel
theorem dX7_readPart_60 : decode cX7_readPart 60 = .ok (.getfield 69, 3) := by decide +kernel
theorem dX7_readPart_63 : decode cX7_readPart 63 = .ok (.iconst 1, 1) := by decide +kernel
theorem dX7_readPart_64 : decode cX7_readPart 64 = .ok (.isub, 1) := by decide +kernel
theorem dX7_readPart_65 : decode cX7_readPart 65 = .ok (.putfield 69, 3) := by decide +kernel
theorem dX7_readPart_68 : decode cX7_readPart 68 = .ok (.iconst 0, 1) := by decide +kernel
theorem dX7_readPart_69 : decode cX7_readPart 69 = .ok (.ireturn, 1) := by decide +kernel
set_option maxRecDepth 20000 in
theorem ggX7_readDesk_X7_readPart : GoodIn wsX7_readDesk wsX7_readPart := goodIn_r _ [10, 5, 1, 2, 3, 11, 12, 13, 9, 14, 15, 16, 17, 18, 19, 4, 20, 21, 22, 23, 24, 25, 26, 27, 28, 29, 30, 31, 32, 33, 34, 35, 36, 37, 38, 39, 40, 41, 42, 43, 44, 45, 46, 47, 48, 49, 50, 51, 52, 53, 54, 55, 56, 57, 58] (by decide +kernel) (by decide +kernel)
set_option maxRecDepth 20000 in
theorem gX7_readDesk_X7_readPart : GoodIn wsX7_readDesk (wsV RX7 87 RX7 yX7_readPart wsX7_readPart) := goodIn_app (goodIn_of _ (by decide +kernel)) ggX7_readDesk_X7_readPart
theorem dX7_readDesk_0 : decode cX7_readDesk 0 = .ok (.aload_n 0, 1) := by decide +kernel
theorem dX7_readDesk_1 : decode cX7_readDesk 1 = .ok (.iconst 0, 1) := by decide +kernel
theorem dX7_readDesk_2 : decode cX7_readDesk 2 = .ok (.putfield 69, 3) := by decide +kernel
theorem dX7_readDesk_5 : decode cX7_readDesk 5 = .ok (.aload_n 0, 1) := by decide +kernel
theorem dX7_readDesk_6 : decode cX7_readDesk 6 = .ok (.iconst 0, 1) := by decide +kernel
theorem dX7_readDesk_7 : decode cX7_readDesk 7 = .ok (.putfield 76, 3) := by decide +kernel
theorem dX7_readDesk_10 : decode cX7_readDesk 10 = .ok (.aload_n 0, 1) := by decide +kernel
theorem dX7_readDesk_11 : decode cX7_readDesk 11 = .ok (.iconst 0, 1) := by decide +kernel
theorem dX7_readDesk_12 : decode cX7_readDesk 12 = .ok (.putfield 79, 3) := by decide +kernel
theorem dX7_readDesk_15 : decode cX7_readDesk 15 = .ok (.aload_n 0, 1) := by decide +kernel
theorem dX7_readDesk_16 : decode cX7_readDesk 16 = .ok (.getfield 66, 3) := by decide +kernel
theorem dX7_readDesk_19 : decode cX7_readDesk 19 = .ok (.ifCond .eq 14, 3) := by decide +kernel
theorem dX7_readDesk_22 : decode cX7_readDesk 22 = .ok (.aload_n 0, 1) := by decide +kernel
theorem dX7_readDesk_23 : decode cX7_readDesk 23 = .ok (.getfield 7, 3) := by decide +kernel
theorem dX7_readDesk_26 : decode cX7_readDesk 26 = .ok (.iconst 0, 1) := by decide +kernel
theorem dX7_readDesk_27 : decode cX7_readDesk 27 = .ok (.iaload, 1) := by decide +kernel
theorem dX7_readDesk_28 : decode cX7_readDesk 28 = .ok (.bipush 71, 2) := by decide +kernel
theorem dX7_readDesk_30 : decode cX7_readDesk 30 = .ok (.if_icmp .eq 5, 3) := by decide +kernel
theorem dX7_readDesk_33 : decode cX7_readDesk 33 = .ok (.iconst 0, 1) := by decide +kernel
theorem dX7_readDesk_34 : decode cX7_readDesk 34 = .ok (.ireturn, 1) := by decide +kernel
theorem dX7_readDesk_35 : decode cX7_readDesk 35 = .ok (.aload_n 0, 1) := by decide +kernel
theorem dX7_readDesk_36 : decode cX7_readDesk 36 = .ok (.iconst 1, 1) := by decide +kernel
theorem dX7_readDesk_37 : decode cX7_readDesk 37 = .ok (.putfield 69, 3) := by decide +kernel
theorem dX7_readDesk_40 : decode cX7_readDesk 40 = .ok (.aload_n 0, 1) := by decide +kernel
theorem dX7_readDesk_41 : decode cX7_readDesk 41 = .ok (.getfield 69, 3) := by decide +kernel
theorem dX7_readDesk_44 : decode cX7_readDesk 44 = .ok (.aload_n 0, 1) := by decide +kernel
theorem dX7_readDesk_45 : decode cX7_readDesk 45 = .ok (.getfield 66, 3) := by decide +kernel
theorem dX7_readDesk_48 : decode cX7_readDesk 48 = .ok (.if_icmp .ge 15, 3) := by decide +kernel
theorem dX7_readDesk_51 : decode cX7_readDesk 51 = .ok (.aload_n 0, 1) := by decide +kernel
theorem dX7_readDesk_52 : decode cX7_readDesk 52 = .ok (.invokevirtual 87, 3) := by decide +kernel
theorem dX7_readDesk_55 : decode cX7_readDesk 55 = .ok (.ifCond .ne (-15), 3) := by decide +kernel
theorem dX7_readDesk_58 : decode cX7_readDesk 58 = .ok (.aload_n 0, 1) := by decide +kernel
theorem dX7_readDesk_59 : decode cX7_readDesk 59 = .ok (.getfield 69, 3) := by decide +kernel
theorem dX7_readDesk_62 : decode cX7_readDesk 62 = .ok (.ireturn, 1) := by decide +kernel
theorem dX7_readDesk_63 : decode cX7_readDesk 63 = .ok (.bipush (-9), 2) := by decide +kernel
theorem dX7_readDesk_65 : decode cX7_readDesk 65 = .ok (.ireturn, 1) := by decide +kernel
set_option maxRecDepth 20000 in
theorem ggX7_fault_X7_readDesk : GoodIn wsX7_fault wsX7_readDesk := goodIn_r _ [6, 7, 8, 9, 10, 11, 12, 13, 14, 5, 15, 16, 17, 18, 19, 20, 21, 22, 23, 24, 25, 26, 27, 28, 29, 30, 31, 32, 33, 34, 35, 36, 37, 38, 39, 40, 41, 42, 43, 44, 45, 46, 47, 48, 49, 50, 51, 52, 53, 54, 55, 56, 57, 58, 59, 60, 61, 62, 63] (by decide +kernel) (by decide +kernel)
set_option maxRecDepth 20000 in
theorem gX7_fault_X7_readDesk : GoodIn wsX7_fault (wsV RX7 90 RX7 yX7_readDesk wsX7_readDesk) := goodIn_app (goodIn_of _ (by decide +kernel)) ggX7_fault_X7_readDesk
theorem dX7_fault_0 : decode cX7_fault 0 = .ok (.aload_n 0, 1) := by decide +kernel
theorem dX7_fault_1 : decode cX7_fault 1 = .ok (.iconst 0, 1) := by decide +kernel
theorem dX7_fault_2 : decode cX7_fault 2 = .ok (.putfield 50, 3) := by decide +kernel
theorem dX7_fault_5 : decode cX7_fault 5 = .ok (.aload_n 0, 1) := by decide +kernel
theorem dX7_fault_6 : decode cX7_fault 6 = .ok (.invokevirtual 90, 3) := by decide +kernel
theorem dX7_fault_9 : decode cX7_fault 9 = .ok (.ireturn, 1) := by decide +kernel
set_option maxRecDepth 20000 in
theorem ggX7_desk_X7_readDesk : GoodIn wsX7_desk wsX7_readDesk := goodIn_r _ [17, 18, 2, 4, 19, 20, 21, 22, 23, 16, 24, 25, 26, 27, 28, 7, 29, 30, 31, 32, 33, 34, 35, 36, 37, 38, 39, 10, 40, 41, 42, 43, 44, 45, 46, 47, 48, 49, 50, 51, 52, 53, 54, 55, 56, 57, 58, 59, 60, 61, 62, 63, 64, 65, 66, 67, 68, 69, 70] (by decide +kernel) (by decide +kernel)
set_option maxRecDepth 20000 in
theorem gX7_desk_X7_readDesk : GoodIn wsX7_desk (wsV RX7 90 RX7 yX7_readDesk wsX7_readDesk) := goodIn_app (goodIn_of _ (by decide +kernel)) ggX7_desk_X7_readDesk
theorem dX7_desk_0 : decode cX7_desk 0 = .ok (.aload_n 0, 1) := by decide +kernel
theorem dX7_desk_1 : decode cX7_desk 1 = .ok (.iconst 0, 1) := by decide +kernel
theorem dX7_desk_2 : decode cX7_desk 2 = .ok (.putfield 50, 3) := by decide +kernel
theorem dX7_desk_5 : decode cX7_desk 5 = .ok (.aload_n 0, 1) := by decide +kernel
theorem dX7_desk_6 : decode cX7_desk 6 = .ok (.invokevirtual 90, 3) := by decide +kernel
theorem dX7_desk_9 : decode cX7_desk 9 = .ok (.bipush (-9), 2) := by decide +kernel
theorem dX7_desk_11 : decode cX7_desk 11 = .ok (.if_icmp .eq 6, 3) := by decide +kernel
theorem dX7_desk_14 : decode cX7_desk 14 = .ok (.bipush (-3), 2) := by decide +kernel
theorem dX7_desk_16 : decode cX7_desk 16 = .ok (.ireturn, 1) := by decide +kernel
theorem dX7_desk_17 : decode cX7_desk 17 = .ok (.aload_n 0, 1) := by decide +kernel
theorem dX7_desk_18 : decode cX7_desk 18 = .ok (.aload_n 0, 1) := by decide +kernel
theorem dX7_desk_19 : decode cX7_desk 19 = .ok (.getfield 76, 3) := by decide +kernel
theorem dX7_desk_22 : decode cX7_desk 22 = .ok (.putfield 54, 3) := by decide +kernel
theorem dX7_desk_25 : decode cX7_desk 25 = .ok (.aload_n 0, 1) := by decide +kernel
theorem dX7_desk_26 : decode cX7_desk 26 = .ok (.aload_n 0, 1) := by decide +kernel
theorem dX7_desk_27 : decode cX7_desk 27 = .ok (.getfield 79, 3) := by decide +kernel
theorem dX7_desk_30 : decode cX7_desk 30 = .ok (.putfield 61, 3) := by decide +kernel
theorem dX7_desk_33 : decode cX7_desk 33 = .ok (.iconst 0, 1) := by decide +kernel
theorem dX7_desk_34 : decode cX7_desk 34 = .ok (.istore_n 1, 1) := by decide +kernel
theorem dX7_desk_35 : decode cX7_desk 35 = .ok (.iload_n 1, 1) := by decide +kernel
theorem dX7_desk_36 : decode cX7_desk 36 = .ok (.iconst 3, 1) := by decide +kernel
theorem dX7_desk_37 : decode cX7_desk 37 = .ok (.aload_n 0, 1) := by decide +kernel
theorem dX7_desk_38 : decode cX7_desk 38 = .ok (.getfield 54, 3) := by decide +kernel
theorem dX7_desk_41 : decode cX7_desk 41 = .ok (.imul, 1) := by decide +kernel
theorem dX7_desk_42 : decode cX7_desk 42 = .ok (.if_icmp .ge 21, 3) := by decide +kernel
theorem dX7_desk_45 : decode cX7_desk 45 = .ok (.aload_n 0, 1) := by decide +kernel
theorem dX7_desk_46 : decode cX7_desk 46 = .ok (.getfield 13, 3) := by decide +kernel
theorem dX7_desk_49 : decode cX7_desk 49 = .ok (.iload_n 1, 1) := by decide +kernel
theorem dX7_desk_50 : decode cX7_desk 50 = .ok (.aload_n 0, 1) := by decide +kernel
theorem dX7_desk_51 : decode cX7_desk 51 = .ok (.getfield 19, 3) := by decide +kernel
theorem dX7_desk_54 : decode cX7_desk 54 = .ok (.iload_n 1, 1) := by decide +kernel
theorem dX7_desk_55 : decode cX7_desk 55 = .ok (.iaload, 1) := by decide +kernel
theorem dX7_desk_56 : decode cX7_desk 56 = .ok (.iastore, 1) := by decide +kernel
theorem dX7_desk_57 : decode cX7_desk 57 = .ok (.iinc 1 1, 3) := by decide +kernel
theorem dX7_desk_60 : decode cX7_desk 60 = .ok (.goto (-25), 3) := by decide +kernel
theorem dX7_desk_63 : decode cX7_desk 63 = .ok (.iconst 0, 1) := by decide +kernel
theorem dX7_desk_64 : decode cX7_desk 64 = .ok (.istore_n 1, 1) := by decide +kernel
theorem dX7_desk_65 : decode cX7_desk 65 = .ok (.iload_n 1, 1) := by decide +kernel
theorem dX7_desk_66 : decode cX7_desk 66 = .ok (.bipush 21, 2) := by decide +kernel
theorem dX7_desk_68 : decode cX7_desk 68 = .ok (.if_icmp .ge 16, 3) := by decide +kernel
theorem dX7_desk_71 : decode cX7_desk 71 = .ok (.aload_n 0, 1) := by decide +kernel
theorem dX7_desk_72 : decode cX7_desk 72 = .ok (.getfield 25, 3) := by decide +kernel
theorem dX7_desk_75 : decode cX7_desk 75 = .ok (.iload_n 1, 1) := by decide +kernel
theorem dX7_desk_76 : decode cX7_desk 76 = .ok (.iconst 0, 1) := by decide +kernel
theorem dX7_desk_77 : decode cX7_desk 77 = .ok (.iastore, 1) := by decide +kernel
theorem dX7_desk_78 : decode cX7_desk 78 = .ok (.iinc 1 1, 3) := by decide +kernel
theorem dX7_desk_81 : decode cX7_desk 81 = .ok (.goto (-16), 3) := by decide +kernel
theorem dX7_desk_84 : decode cX7_desk 84 = .ok (.iconst 0, 1) := by decide +kernel
theorem dX7_desk_85 : decode cX7_desk 85 = .ok (.istore_n 1, 1) := by decide +kernel
theorem dX7_desk_86 : decode cX7_desk 86 = .ok (.iload_n 1, 1) := by decide +kernel
theorem dX7_desk_87 : decode cX7_desk 87 = .ok (.aload_n 0, 1) := by decide +kernel
theorem dX7_desk_88 : decode cX7_desk 88 = .ok (.getfield 61, 3) := by decide +kernel
theorem dX7_desk_91 : decode cX7_desk 91 = .ok (.if_icmp .ge 100, 3) := by decide +kernel
theorem dX7_desk_94 : decode cX7_desk 94 = .ok (.iconst 0, 1) := by decide +kernel
theorem dX7_desk_95 : decode cX7_desk 95 = .ok (.istore_n 2, 1) := by decide +kernel
theorem dX7_desk_96 : decode cX7_desk 96 = .ok (.iload_n 2, 1) := by decide +kernel
theorem dX7_desk_97 : decode cX7_desk 97 = .ok (.iconst 3, 1) := by decide +kernel
theorem dX7_desk_98 : decode cX7_desk 98 = .ok (.if_icmp .ge 29, 3) := by decide +kernel
theorem dX7_desk_101 : decode cX7_desk 101 = .ok (.aload_n 0, 1) := by decide +kernel
theorem dX7_desk_102 : decode cX7_desk 102 = .ok (.getfield 16, 3) := by decide +kernel
theorem dX7_desk_105 : decode cX7_desk 105 = .ok (.iconst 3, 1) := by decide +kernel
theorem dX7_desk_106 : decode cX7_desk 106 = .ok (.iload_n 1, 1) := by decide +kernel
theorem dX7_desk_107 : decode cX7_desk 107 = .ok (.imul, 1) := by decide +kernel
theorem dX7_desk_108 : decode cX7_desk 108 = .ok (.iload_n 2, 1) := by decide +kernel
theorem dX7_desk_109 : decode cX7_desk 109 = .ok (.iadd, 1) := by decide +kernel
theorem dX7_desk_110 : decode cX7_desk 110 = .ok (.aload_n 0, 1) := by decide +kernel
theorem dX7_desk_111 : decode cX7_desk 111 = .ok (.getfield 22, 3) := by decide +kernel
theorem dX7_desk_114 : decode cX7_desk 114 = .ok (.iconst 3, 1) := by decide +kernel
theorem dX7_desk_115 : decode cX7_desk 115 = .ok (.iload_n 1, 1) := by decide +kernel
theorem dX7_desk_116 : decode cX7_desk 116 = .ok (.imul, 1) := by decide +kernel
theorem dX7_desk_117 : decode cX7_desk 117 = .ok (.iload_n 2, 1) := by decide +kernel
theorem dX7_desk_118 : decode cX7_desk 118 = .ok (.iadd, 1) := by decide +kernel
theorem dX7_desk_119 : decode cX7_desk 119 = .ok (.iaload, 1) := by decide +kernel
theorem dX7_desk_120 : decode cX7_desk 120 = .ok (.iastore, 1) := by decide +kernel
theorem dX7_desk_121 : decode cX7_desk 121 = .ok (.iinc 2 1, 3) := by decide +kernel
theorem dX7_desk_124 : decode cX7_desk 124 = .ok (.goto (-28), 3) := by decide +kernel
theorem dX7_desk_127 : decode cX7_desk 127 = .ok (.aload_n 0, 1) := by decide +kernel
theorem dX7_desk_128 : decode cX7_desk 128 = .ok (.getfield 25, 3) := by decide +kernel
theorem dX7_desk_131 : decode cX7_desk 131 = .ok (.iconst 5, 1) := by decide +kernel
theorem dX7_desk_132 : decode cX7_desk 132 = .ok (.iload_n 1, 1) := by decide +kernel
theorem dX7_desk_133 : decode cX7_desk 133 = .ok (.imul, 1) := by decide +kernel
theorem dX7_desk_134 : decode cX7_desk 134 = .ok (.aload_n 0, 1) := by decide +kernel
theorem dX7_desk_135 : decode cX7_desk 135 = .ok (.getfield 16, 3) := by decide +kernel
theorem dX7_desk_138 : decode cX7_desk 138 = .ok (.iconst 3, 1) := by decide +kernel
theorem dX7_desk_139 : decode cX7_desk 139 = .ok (.iload_n 1, 1) := by decide +kernel
theorem dX7_desk_140 : decode cX7_desk 140 = .ok (.imul, 1) := by decide +kernel
theorem dX7_desk_141 : decode cX7_desk 141 = .ok (.iconst 2, 1) := by decide +kernel
theorem dX7_desk_142 : decode cX7_desk 142 = .ok (.iadd, 1) := by decide +kernel
theorem dX7_desk_143 : decode cX7_desk 143 = .ok (.iaload, 1) := by decide +kernel
theorem dX7_desk_144 : decode cX7_desk 144 = .ok (.ifCond .ne 7, 3) := by decide +kernel
theorem dX7_desk_147 : decode cX7_desk 147 = .ok (.iconst 0, 1) := by decide +kernel
theorem dX7_desk_148 : decode cX7_desk 148 = .ok (.goto 4, 3) := by decide +kernel
theorem dX7_desk_151 : decode cX7_desk 151 = .ok (.iconst 1, 1) := by decide +kernel
theorem dX7_desk_152 : decode cX7_desk 152 = .ok (.iastore, 1) := by decide +kernel
theorem dX7_desk_153 : decode cX7_desk 153 = .ok (.aload_n 0, 1) := by decide +kernel
theorem dX7_desk_154 : decode cX7_desk 154 = .ok (.getfield 25, 3) := by decide +kernel
theorem dX7_desk_157 : decode cX7_desk 157 = .ok (.iconst 5, 1) := by decide +kernel
theorem dX7_desk_158 : decode cX7_desk 158 = .ok (.iload_n 1, 1) := by decide +kernel
theorem dX7_desk_159 : decode cX7_desk 159 = .ok (.imul, 1) := by decide +kernel
theorem dX7_desk_160 : decode cX7_desk 160 = .ok (.iconst 1, 1) := by decide +kernel
theorem dX7_desk_161 : decode cX7_desk 161 = .ok (.iadd, 1) := by decide +kernel
theorem dX7_desk_162 : decode cX7_desk 162 = .ok (.aload_n 0, 1) := by decide +kernel
theorem dX7_desk_163 : decode cX7_desk 163 = .ok (.getfield 16, 3) := by decide +kernel
theorem dX7_desk_166 : decode cX7_desk 166 = .ok (.iconst 3, 1) := by decide +kernel
theorem dX7_desk_167 : decode cX7_desk 167 = .ok (.iload_n 1, 1) := by decide +kernel
theorem dX7_desk_168 : decode cX7_desk 168 = .ok (.imul, 1) := by decide +kernel
theorem dX7_desk_169 : decode cX7_desk 169 = .ok (.iconst 2, 1) := by decide +kernel
theorem dX7_desk_170 : decode cX7_desk 170 = .ok (.iadd, 1) := by decide +kernel
theorem dX7_desk_171 : decode cX7_desk 171 = .ok (.iaload, 1) := by decide +kernel
theorem dX7_desk_172 : decode cX7_desk 172 = .ok (.iastore, 1) := by decide +kernel
theorem dX7_desk_173 : decode cX7_desk 173 = .ok (.aload_n 0, 1) := by decide +kernel
theorem dX7_desk_174 : decode cX7_desk 174 = .ok (.getfield 25, 3) := by decide +kernel
theorem dX7_desk_177 : decode cX7_desk 177 = .ok (.iconst 5, 1) := by decide +kernel
theorem dX7_desk_178 : decode cX7_desk 178 = .ok (.iload_n 1, 1) := by decide +kernel
theorem dX7_desk_179 : decode cX7_desk 179 = .ok (.imul, 1) := by decide +kernel
theorem dX7_desk_180 : decode cX7_desk 180 = .ok (.iconst 4, 1) := by decide +kernel
theorem dX7_desk_181 : decode cX7_desk 181 = .ok (.iadd, 1) := by decide +kernel
theorem dX7_desk_182 : decode cX7_desk 182 = .ok (.bipush (-9), 2) := by decide +kernel
theorem dX7_desk_184 : decode cX7_desk 184 = .ok (.iastore, 1) := by decide +kernel
theorem dX7_desk_185 : decode cX7_desk 185 = .ok (.iinc 1 1, 3) := by decide +kernel
theorem dX7_desk_188 : decode cX7_desk 188 = .ok (.goto (-102), 3) := by decide +kernel
theorem dX7_desk_191 : decode cX7_desk 191 = .ok (.aload_n 0, 1) := by decide +kernel
theorem dX7_desk_192 : decode cX7_desk 192 = .ok (.iconst 0, 1) := by decide +kernel
theorem dX7_desk_193 : decode cX7_desk 193 = .ok (.putfield 94, 3) := by decide +kernel
theorem dX7_desk_196 : decode cX7_desk 196 = .ok (.aload_n 0, 1) := by decide +kernel
theorem dX7_desk_197 : decode cX7_desk 197 = .ok (.getfield 37, 3) := by decide +kernel
theorem dX7_desk_200 : decode cX7_desk 200 = .ok (.iconst 0, 1) := by decide +kernel
theorem dX7_desk_201 : decode cX7_desk 201 = .ok (.iconst 0, 1) := by decide +kernel
theorem dX7_desk_202 : decode cX7_desk 202 = .ok (.bastore, 1) := by decide +kernel
theorem dX7_desk_203 : decode cX7_desk 203 = .ok (.aload_n 0, 1) := by decide +kernel
theorem dX7_desk_204 : decode cX7_desk 204 = .ok (.getfield 37, 3) := by decide +kernel
theorem dX7_desk_207 : decode cX7_desk 207 = .ok (.iconst 1, 1) := by decide +kernel
theorem dX7_desk_208 : decode cX7_desk 208 = .ok (.iconst 0, 1) := by decide +kernel
theorem dX7_desk_209 : decode cX7_desk 209 = .ok (.bastore, 1) := by decide +kernel
theorem dX7_desk_210 : decode cX7_desk 210 = .ok (.bipush 10, 2) := by decide +kernel
theorem dX7_desk_212 : decode cX7_desk 212 = .ok (.aload_n 0, 1) := by decide +kernel
theorem dX7_desk_213 : decode cX7_desk 213 = .ok (.getfield 54, 3) := by decide +kernel
theorem dX7_desk_216 : decode cX7_desk 216 = .ok (.imul, 1) := by decide +kernel
theorem dX7_desk_217 : decode cX7_desk 217 = .ok (.aload_n 0, 1) := by decide +kernel
theorem dX7_desk_218 : decode cX7_desk 218 = .ok (.getfield 61, 3) := by decide +kernel
theorem dX7_desk_221 : decode cX7_desk 221 = .ok (.iadd, 1) := by decide +kernel
theorem dX7_desk_222 : decode cX7_desk 222 = .ok (.ireturn, 1) := by decide +kernel
theorem dX7_isWorn_0 : decode cX7_isWorn 0 = .ok (.aload_n 1, 1) := by decide +kernel
theorem dX7_isWorn_1 : decode cX7_isWorn 1 = .ok (.iconst 5, 1) := by decide +kernel
theorem dX7_isWorn_2 : decode cX7_isWorn 2 = .ok (.iload_n 2, 1) := by decide +kernel
theorem dX7_isWorn_3 : decode cX7_isWorn 3 = .ok (.imul, 1) := by decide +kernel
theorem dX7_isWorn_4 : decode cX7_isWorn 4 = .ok (.iconst 4, 1) := by decide +kernel
theorem dX7_isWorn_5 : decode cX7_isWorn 5 = .ok (.iadd, 1) := by decide +kernel
theorem dX7_isWorn_6 : decode cX7_isWorn 6 = .ok (.iaload, 1) := by decide +kernel
theorem dX7_isWorn_7 : decode cX7_isWorn 7 = .ok (.bipush (-9), 2) := by decide +kernel
theorem dX7_isWorn_9 : decode cX7_isWorn 9 = .ok (.if_icmp .eq 7, 3) := by decide +kernel
theorem dX7_isWorn_12 : decode cX7_isWorn 12 = .ok (.iconst 1, 1) := by decide +kernel
theorem dX7_isWorn_13 : decode cX7_isWorn 13 = .ok (.goto 4, 3) := by decide +kernel
theorem dX7_isWorn_16 : decode cX7_isWorn 16 = .ok (.iconst 0, 1) := by decide +kernel
theorem dX7_isWorn_17 : decode cX7_isWorn 17 = .ok (.ireturn, 1) := by decide +kernel
theorem dX7_wears_0 : decode cX7_wears 0 = .ok (.bipush (-9), 2) := by decide +kernel
theorem dX7_wears_2 : decode cX7_wears 2 = .ok (.istore_n 3, 1) := by decide +kernel
theorem dX7_wears_3 : decode cX7_wears 3 = .ok (.iconst 0, 1) := by decide +kernel
theorem dX7_wears_4 : decode cX7_wears 4 = .ok (.istore 4, 2) := by decide +kernel
theorem dX7_wears_6 : decode cX7_wears 6 = .ok (.iload 4, 2) := by decide +kernel
theorem dX7_wears_8 : decode cX7_wears 8 = .ok (.aload_n 0, 1) := by decide +kernel
theorem dX7_wears_9 : decode cX7_wears 9 = .ok (.getfield 61, 3) := by decide +kernel
theorem dX7_wears_12 : decode cX7_wears 12 = .ok (.if_icmp .ge 28, 3) := by decide +kernel
theorem dX7_wears_15 : decode cX7_wears 15 = .ok (.aload_n 1, 1) := by decide +kernel
theorem dX7_wears_16 : decode cX7_wears 16 = .ok (.iconst 5, 1) := by decide +kernel
theorem dX7_wears_17 : decode cX7_wears 17 = .ok (.iload 4, 2) := by decide +kernel
theorem dX7_wears_19 : decode cX7_wears 19 = .ok (.imul, 1) := by decide +kernel
theorem dX7_wears_20 : decode cX7_wears 20 = .ok (.iconst 4, 1) := by decide +kernel
theorem dX7_wears_21 : decode cX7_wears 21 = .ok (.iadd, 1) := by decide +kernel
theorem dX7_wears_22 : decode cX7_wears 22 = .ok (.iaload, 1) := by decide +kernel
theorem dX7_wears_23 : decode cX7_wears 23 = .ok (.iload_n 2, 1) := by decide +kernel
theorem dX7_wears_24 : decode cX7_wears 24 = .ok (.if_icmp .ne 8, 3) := by decide +kernel
theorem dX7_wears_27 : decode cX7_wears 27 = .ok (.iload 4, 2) := by decide +kernel
theorem dX7_wears_29 : decode cX7_wears 29 = .ok (.goto 4, 3) := by decide +kernel
theorem dX7_wears_32 : decode cX7_wears 32 = .ok (.iload_n 3, 1) := by decide +kernel
theorem dX7_wears_33 : decode cX7_wears 33 = .ok (.istore_n 3, 1) := by decide +kernel
theorem dX7_wears_34 : decode cX7_wears 34 = .ok (.iinc 4 1, 3) := by decide +kernel
theorem dX7_wears_37 : decode cX7_wears 37 = .ok (.goto (-31), 3) := by decide +kernel
theorem dX7_wears_40 : decode cX7_wears 40 = .ok (.iload_n 3, 1) := by decide +kernel
theorem dX7_wears_41 : decode cX7_wears 41 = .ok (.ireturn, 1) := by decide +kernel
theorem dX7_lastOf_0 : decode cX7_lastOf 0 = .ok (.aload_n 0, 1) := by decide +kernel
theorem dX7_lastOf_1 : decode cX7_lastOf 1 = .ok (.iconst 5, 1) := by decide +kernel
theorem dX7_lastOf_2 : decode cX7_lastOf 2 = .ok (.iload_n 1, 1) := by decide +kernel
theorem dX7_lastOf_3 : decode cX7_lastOf 3 = .ok (.imul, 1) := by decide +kernel
theorem dX7_lastOf_4 : decode cX7_lastOf 4 = .ok (.iaload, 1) := by decide +kernel
theorem dX7_lastOf_5 : decode cX7_lastOf 5 = .ok (.istore_n 2, 1) := by decide +kernel
theorem dX7_lastOf_6 : decode cX7_lastOf 6 = .ok (.iload_n 2, 1) := by decide +kernel
theorem dX7_lastOf_7 : decode cX7_lastOf 7 = .ok (.ifCond .ne 7, 3) := by decide +kernel
theorem dX7_lastOf_10 : decode cX7_lastOf 10 = .ok (.iconst 0, 1) := by decide +kernel
theorem dX7_lastOf_11 : decode cX7_lastOf 11 = .ok (.goto 10, 3) := by decide +kernel
theorem dX7_lastOf_14 : decode cX7_lastOf 14 = .ok (.aload_n 0, 1) := by decide +kernel
theorem dX7_lastOf_15 : decode cX7_lastOf 15 = .ok (.iconst 5, 1) := by decide +kernel
theorem dX7_lastOf_16 : decode cX7_lastOf 16 = .ok (.iload_n 1, 1) := by decide +kernel
theorem dX7_lastOf_17 : decode cX7_lastOf 17 = .ok (.imul, 1) := by decide +kernel
theorem dX7_lastOf_18 : decode cX7_lastOf 18 = .ok (.iload_n 2, 1) := by decide +kernel
theorem dX7_lastOf_19 : decode cX7_lastOf 19 = .ok (.iadd, 1) := by decide +kernel
theorem dX7_lastOf_20 : decode cX7_lastOf 20 = .ok (.iaload, 1) := by decide +kernel
theorem dX7_lastOf_21 : decode cX7_lastOf 21 = .ok (.ireturn, 1) := by decide +kernel
set_option maxRecDepth 20000 in
theorem ggX7_doesOn_X7_lastOf : GoodIn wsX7_doesOn wsX7_lastOf := goodIn_r _ [6] (by decide +kernel) (by decide +kernel)
set_option maxRecDepth 20000 in
theorem gX7_doesOn_X7_lastOf : GoodIn wsX7_doesOn (va_wsS RX7 97 yX7_lastOf wsX7_lastOf) := goodIn_app (goodIn_of _ (by decide +kernel)) ggX7_doesOn_X7_lastOf
theorem dX7_doesOn_0 : decode cX7_doesOn 0 = .ok (.aload_n 1, 1) := by decide +kernel
theorem dX7_doesOn_1 : decode cX7_doesOn 1 = .ok (.iload_n 2, 1) := by decide +kernel
theorem dX7_doesOn_2 : decode cX7_doesOn 2 = .ok (.invokestatic 97, 3) := by decide +kernel
theorem dX7_doesOn_5 : decode cX7_doesOn 5 = .ok (.istore 4, 2) := by decide +kernel
theorem dX7_doesOn_7 : decode cX7_doesOn 7 = .ok (.aload_n 0, 1) := by decide +kernel
theorem dX7_doesOn_8 : decode cX7_doesOn 8 = .ok (.getfield 16, 3) := by decide +kernel
theorem dX7_doesOn_11 : decode cX7_doesOn 11 = .ok (.iconst 3, 1) := by decide +kernel
theorem dX7_doesOn_12 : decode cX7_doesOn 12 = .ok (.iload_n 2, 1) := by decide +kernel
theorem dX7_doesOn_13 : decode cX7_doesOn 13 = .ok (.imul, 1) := by decide +kernel
theorem dX7_doesOn_14 : decode cX7_doesOn 14 = .ok (.iconst 1, 1) := by decide +kernel
theorem dX7_doesOn_15 : decode cX7_doesOn 15 = .ok (.iadd, 1) := by decide +kernel
theorem dX7_doesOn_16 : decode cX7_doesOn 16 = .ok (.iaload, 1) := by decide +kernel
theorem dX7_doesOn_17 : decode cX7_doesOn 17 = .ok (.tableswitch 83 1 3 #[27, 43, 63], 27) := by decide +kernel
theorem dX7_doesOn_44 : decode cX7_doesOn 44 = .ok (.iload 4, 2) := by decide +kernel
theorem dX7_doesOn_46 : decode cX7_doesOn 46 = .ok (.iconst 4, 1) := by decide +kernel
theorem dX7_doesOn_47 : decode cX7_doesOn 47 = .ok (.if_icmp .le 10, 3) := by decide +kernel
theorem dX7_doesOn_50 : decode cX7_doesOn 50 = .ok (.iload 4, 2) := by decide +kernel
theorem dX7_doesOn_52 : decode cX7_doesOn 52 = .ok (.iconst 4, 1) := by decide +kernel
theorem dX7_doesOn_53 : decode cX7_doesOn 53 = .ok (.isub, 1) := by decide +kernel
theorem dX7_doesOn_54 : decode cX7_doesOn 54 = .ok (.goto 5, 3) := by decide +kernel
theorem dX7_doesOn_57 : decode cX7_doesOn 57 = .ok (.iload 4, 2) := by decide +kernel
theorem dX7_doesOn_59 : decode cX7_doesOn 59 = .ok (.ireturn, 1) := by decide +kernel
theorem dX7_doesOn_60 : decode cX7_doesOn 60 = .ok (.aload_n 1, 1) := by decide +kernel
theorem dX7_doesOn_61 : decode cX7_doesOn 61 = .ok (.iconst 5, 1) := by decide +kernel
theorem dX7_doesOn_62 : decode cX7_doesOn 62 = .ok (.iload_n 2, 1) := by decide +kernel
theorem dX7_doesOn_63 : decode cX7_doesOn 63 = .ok (.imul, 1) := by decide +kernel
theorem dX7_doesOn_64 : decode cX7_doesOn 64 = .ok (.iaload, 1) := by decide +kernel
theorem dX7_doesOn_65 : decode cX7_doesOn 65 = .ok (.ifCond .ne 7, 3) := by decide +kernel
theorem dX7_doesOn_68 : decode cX7_doesOn 68 = .ok (.iconst 0, 1) := by decide +kernel
theorem dX7_doesOn_69 : decode cX7_doesOn 69 = .ok (.goto 10, 3) := by decide +kernel
theorem dX7_doesOn_72 : decode cX7_doesOn 72 = .ok (.aload_n 1, 1) := by decide +kernel
theorem dX7_doesOn_73 : decode cX7_doesOn 73 = .ok (.iconst 5, 1) := by decide +kernel
theorem dX7_doesOn_74 : decode cX7_doesOn 74 = .ok (.iload_n 2, 1) := by decide +kernel
theorem dX7_doesOn_75 : decode cX7_doesOn 75 = .ok (.imul, 1) := by decide +kernel
theorem dX7_doesOn_76 : decode cX7_doesOn 76 = .ok (.iconst 1, 1) := by decide +kernel
theorem dX7_doesOn_77 : decode cX7_doesOn 77 = .ok (.iadd, 1) := by decide +kernel
theorem dX7_doesOn_78 : decode cX7_doesOn 78 = .ok (.iaload, 1) := by decide +kernel
theorem dX7_doesOn_79 : decode cX7_doesOn 79 = .ok (.ireturn, 1) := by decide +kernel
theorem dX7_doesOn_80 : decode cX7_doesOn 80 = .ok (.iload 4, 2) := by decide +kernel
theorem dX7_doesOn_82 : decode cX7_doesOn 82 = .ok (.aload_n 0, 1) := by decide +kernel
theorem dX7_doesOn_83 : decode cX7_doesOn 83 = .ok (.getfield 13, 3) := by decide +kernel
theorem dX7_doesOn_86 : decode cX7_doesOn 86 = .ok (.iconst 3, 1) := by decide +kernel
theorem dX7_doesOn_87 : decode cX7_doesOn 87 = .ok (.iload_n 3, 1) := by decide +kernel
theorem dX7_doesOn_88 : decode cX7_doesOn 88 = .ok (.imul, 1) := by decide +kernel
theorem dX7_doesOn_89 : decode cX7_doesOn 89 = .ok (.iaload, 1) := by decide +kernel
theorem dX7_doesOn_90 : decode cX7_doesOn 90 = .ok (.if_icmp .ne 7, 3) := by decide +kernel
theorem dX7_doesOn_93 : decode cX7_doesOn 93 = .ok (.iconst 0, 1) := by decide +kernel
theorem dX7_doesOn_94 : decode cX7_doesOn 94 = .ok (.goto 5, 3) := by decide +kernel
theorem dX7_doesOn_97 : decode cX7_doesOn 97 = .ok (.iload 4, 2) := by decide +kernel
theorem dX7_doesOn_99 : decode cX7_doesOn 99 = .ok (.ireturn, 1) := by decide +kernel
theorem dX7_doesOn_100 : decode cX7_doesOn 100 = .ok (.iload 4, 2) := by decide +kernel
theorem dX7_doesOn_102 : decode cX7_doesOn 102 = .ok (.ireturn, 1) := by decide +kernel
theorem dX7_keepDoing_0 : decode cX7_keepDoing 0 = .ok (.aload_n 1, 1) := by decide +kernel
theorem dX7_keepDoing_1 : decode cX7_keepDoing 1 = .ok (.iconst 5, 1) := by decide +kernel
theorem dX7_keepDoing_2 : decode cX7_keepDoing 2 = .ok (.iload_n 2, 1) := by decide +kernel
theorem dX7_keepDoing_3 : decode cX7_keepDoing 3 = .ok (.imul, 1) := by decide +kernel
theorem dX7_keepDoing_4 : decode cX7_keepDoing 4 = .ok (.iaload, 1) := by decide +kernel
theorem dX7_keepDoing_5 : decode cX7_keepDoing 5 = .ok (.aload_n 0, 1) := by decide +kernel
theorem dX7_keepDoing_6 : decode cX7_keepDoing 6 = .ok (.getfield 16, 3) := by decide +kernel
theorem dX7_keepDoing_9 : decode cX7_keepDoing 9 = .ok (.iconst 3, 1) := by decide +kernel
theorem dX7_keepDoing_10 : decode cX7_keepDoing 10 = .ok (.iload_n 2, 1) := by decide +kernel
theorem dX7_keepDoing_11 : decode cX7_keepDoing 11 = .ok (.imul, 1) := by decide +kernel
theorem dX7_keepDoing_12 : decode cX7_keepDoing 12 = .ok (.iaload, 1) := by decide +kernel
theorem dX7_keepDoing_13 : decode cX7_keepDoing 13 = .ok (.if_icmp .ne 49, 3) := by decide +kernel
theorem dX7_keepDoing_16 : decode cX7_keepDoing 16 = .ok (.iconst 1, 1) := by decide +kernel
theorem dX7_keepDoing_17 : decode cX7_keepDoing 17 = .ok (.istore 4, 2) := by decide +kernel
theorem dX7_keepDoing_19 : decode cX7_keepDoing 19 = .ok (.iload 4, 2) := by decide +kernel
theorem dX7_keepDoing_21 : decode cX7_keepDoing 21 = .ok (.aload_n 1, 1) := by decide +kernel
theorem dX7_keepDoing_22 : decode cX7_keepDoing 22 = .ok (.iconst 5, 1) := by decide +kernel
theorem dX7_keepDoing_23 : decode cX7_keepDoing 23 = .ok (.iload_n 2, 1) := by decide +kernel
theorem dX7_keepDoing_24 : decode cX7_keepDoing 24 = .ok (.imul, 1) := by decide +kernel
theorem dX7_keepDoing_25 : decode cX7_keepDoing 25 = .ok (.iaload, 1) := by decide +kernel
theorem dX7_keepDoing_26 : decode cX7_keepDoing 26 = .ok (.if_icmp .ge 27, 3) := by decide +kernel
theorem dX7_keepDoing_29 : decode cX7_keepDoing 29 = .ok (.aload_n 1, 1) := by decide +kernel
theorem dX7_keepDoing_30 : decode cX7_keepDoing 30 = .ok (.iconst 5, 1) := by decide +kernel
theorem dX7_keepDoing_31 : decode cX7_keepDoing 31 = .ok (.iload_n 2, 1) := by decide +kernel
theorem dX7_keepDoing_32 : decode cX7_keepDoing 32 = .ok (.imul, 1) := by decide +kernel
theorem dX7_keepDoing_33 : decode cX7_keepDoing 33 = .ok (.iload 4, 2) := by decide +kernel
theorem dX7_keepDoing_35 : decode cX7_keepDoing 35 = .ok (.iadd, 1) := by decide +kernel
theorem dX7_keepDoing_36 : decode cX7_keepDoing 36 = .ok (.aload_n 1, 1) := by decide +kernel
theorem dX7_keepDoing_37 : decode cX7_keepDoing 37 = .ok (.iconst 5, 1) := by decide +kernel
theorem dX7_keepDoing_38 : decode cX7_keepDoing 38 = .ok (.iload_n 2, 1) := by decide +kernel
theorem dX7_keepDoing_39 : decode cX7_keepDoing 39 = .ok (.imul, 1) := by decide +kernel
theorem dX7_keepDoing_40 : decode cX7_keepDoing 40 = .ok (.iload 4, 2) := by decide +kernel
theorem dX7_keepDoing_42 : decode cX7_keepDoing 42 = .ok (.iadd, 1) := by decide +kernel
theorem dX7_keepDoing_43 : decode cX7_keepDoing 43 = .ok (.iconst 1, 1) := by decide +kernel
theorem dX7_keepDoing_44 : decode cX7_keepDoing 44 = .ok (.iadd, 1) := by decide +kernel
theorem dX7_keepDoing_45 : decode cX7_keepDoing 45 = .ok (.iaload, 1) := by decide +kernel
theorem dX7_keepDoing_46 : decode cX7_keepDoing 46 = .ok (.iastore, 1) := by decide +kernel
theorem dX7_keepDoing_47 : decode cX7_keepDoing 47 = .ok (.iinc 4 1, 3) := by decide +kernel
theorem dX7_keepDoing_50 : decode cX7_keepDoing 50 = .ok (.goto (-31), 3) := by decide +kernel
theorem dX7_keepDoing_53 : decode cX7_keepDoing 53 = .ok (.aload_n 1, 1) := by decide +kernel
theorem dX7_keepDoing_54 : decode cX7_keepDoing 54 = .ok (.iconst 5, 1) := by decide +kernel
theorem dX7_keepDoing_55 : decode cX7_keepDoing 55 = .ok (.iload_n 2, 1) := by decide +kernel
theorem dX7_keepDoing_56 : decode cX7_keepDoing 56 = .ok (.imul, 1) := by decide +kernel
theorem dX7_keepDoing_57 : decode cX7_keepDoing 57 = .ok (.dup2, 1) := by decide +kernel
theorem dX7_keepDoing_58 : decode cX7_keepDoing 58 = .ok (.iaload, 1) := by decide +kernel
theorem dX7_keepDoing_59 : decode cX7_keepDoing 59 = .ok (.iconst 1, 1) := by decide +kernel
theorem dX7_keepDoing_60 : decode cX7_keepDoing 60 = .ok (.isub, 1) := by decide +kernel
theorem dX7_keepDoing_61 : decode cX7_keepDoing 61 = .ok (.iastore, 1) := by decide +kernel
theorem dX7_keepDoing_62 : decode cX7_keepDoing 62 = .ok (.aload_n 1, 1) := by decide +kernel
theorem dX7_keepDoing_63 : decode cX7_keepDoing 63 = .ok (.iconst 5, 1) := by decide +kernel
theorem dX7_keepDoing_64 : decode cX7_keepDoing 64 = .ok (.iload_n 2, 1) := by decide +kernel
theorem dX7_keepDoing_65 : decode cX7_keepDoing 65 = .ok (.imul, 1) := by decide +kernel
theorem dX7_keepDoing_66 : decode cX7_keepDoing 66 = .ok (.dup2, 1) := by decide +kernel
theorem dX7_keepDoing_67 : decode cX7_keepDoing 67 = .ok (.iaload, 1) := by decide +kernel
theorem dX7_keepDoing_68 : decode cX7_keepDoing 68 = .ok (.iconst 1, 1) := by decide +kernel
theorem dX7_keepDoing_69 : decode cX7_keepDoing 69 = .ok (.iadd, 1) := by decide +kernel
theorem dX7_keepDoing_70 : decode cX7_keepDoing 70 = .ok (.iastore, 1) := by decide +kernel
theorem dX7_keepDoing_71 : decode cX7_keepDoing 71 = .ok (.aload_n 1, 1) := by decide +kernel
theorem dX7_keepDoing_72 : decode cX7_keepDoing 72 = .ok (.iconst 5, 1) := by decide +kernel
theorem dX7_keepDoing_73 : decode cX7_keepDoing 73 = .ok (.iload_n 2, 1) := by decide +kernel
theorem dX7_keepDoing_74 : decode cX7_keepDoing 74 = .ok (.imul, 1) := by decide +kernel
theorem dX7_keepDoing_75 : decode cX7_keepDoing 75 = .ok (.aload_n 1, 1) := by decide +kernel
theorem dX7_keepDoing_76 : decode cX7_keepDoing 76 = .ok (.iconst 5, 1) := by decide +kernel
theorem dX7_keepDoing_77 : decode cX7_keepDoing 77 = .ok (.iload_n 2, 1) := by decide +kernel
theorem dX7_keepDoing_78 : decode cX7_keepDoing 78 = .ok (.imul, 1) := by decide +kernel
theorem dX7_keepDoing_79 : decode cX7_keepDoing 79 = .ok (.iaload, 1) := by decide +kernel
theorem dX7_keepDoing_80 : decode cX7_keepDoing 80 = .ok (.iadd, 1) := by decide +kernel
theorem dX7_keepDoing_81 : decode cX7_keepDoing 81 = .ok (.iload_n 3, 1) := by decide +kernel
theorem dX7_keepDoing_82 : decode cX7_keepDoing 82 = .ok (.iastore, 1) := by decide +kernel
theorem dX7_keepDoing_83 : decode cX7_keepDoing 83 = .ok (.return_, 1) := by decide +kernel
set_option maxRecDepth 20000 in
theorem ggX7_goOff_X7_keepDoing : GoodIn wsX7_goOff wsX7_keepDoing := goodIn_r _ [6, 7, 8, 9, 10, 11, 12, 13, 14, 15, 16, 17, 18, 19, 20, 21, 22, 23, 24, 25, 26, 27, 28, 29, 30, 31, 32, 33, 34, 35, 36, 37, 38] (by decide +kernel) (by decide +kernel)
set_option maxRecDepth 20000 in
theorem gX7_goOff_X7_keepDoing : GoodIn wsX7_goOff (wsV RX7 101 RX7 yX7_keepDoing wsX7_keepDoing) := goodIn_app (goodIn_of _ (by decide +kernel)) ggX7_goOff_X7_keepDoing
theorem dX7_goOff_0 : decode cX7_goOff 0 = .ok (.aload_n 0, 1) := by decide +kernel
theorem dX7_goOff_1 : decode cX7_goOff 1 = .ok (.aload_n 1, 1) := by decide +kernel
theorem dX7_goOff_2 : decode cX7_goOff 2 = .ok (.iload_n 2, 1) := by decide +kernel
theorem dX7_goOff_3 : decode cX7_goOff 3 = .ok (.aload_n 0, 1) := by decide +kernel
theorem dX7_goOff_4 : decode cX7_goOff 4 = .ok (.getfield 13, 3) := by decide +kernel
theorem dX7_goOff_7 : decode cX7_goOff 7 = .ok (.iconst 3, 1) := by decide +kernel
theorem dX7_goOff_8 : decode cX7_goOff 8 = .ok (.aload_n 1, 1) := by decide +kernel
theorem dX7_goOff_9 : decode cX7_goOff 9 = .ok (.iconst 5, 1) := by decide +kernel
theorem dX7_goOff_10 : decode cX7_goOff 10 = .ok (.iload_n 2, 1) := by decide +kernel
theorem dX7_goOff_11 : decode cX7_goOff 11 = .ok (.imul, 1) := by decide +kernel
theorem dX7_goOff_12 : decode cX7_goOff 12 = .ok (.iconst 4, 1) := by decide +kernel
theorem dX7_goOff_13 : decode cX7_goOff 13 = .ok (.iadd, 1) := by decide +kernel
theorem dX7_goOff_14 : decode cX7_goOff 14 = .ok (.iaload, 1) := by decide +kernel
theorem dX7_goOff_15 : decode cX7_goOff 15 = .ok (.imul, 1) := by decide +kernel
theorem dX7_goOff_16 : decode cX7_goOff 16 = .ok (.iaload, 1) := by decide +kernel
theorem dX7_goOff_17 : decode cX7_goOff 17 = .ok (.invokevirtual 101, 3) := by decide +kernel
theorem dX7_goOff_20 : decode cX7_goOff 20 = .ok (.aload_n 1, 1) := by decide +kernel
theorem dX7_goOff_21 : decode cX7_goOff 21 = .ok (.iconst 5, 1) := by decide +kernel
theorem dX7_goOff_22 : decode cX7_goOff 22 = .ok (.iload_n 2, 1) := by decide +kernel
theorem dX7_goOff_23 : decode cX7_goOff 23 = .ok (.imul, 1) := by decide +kernel
theorem dX7_goOff_24 : decode cX7_goOff 24 = .ok (.iconst 4, 1) := by decide +kernel
theorem dX7_goOff_25 : decode cX7_goOff 25 = .ok (.iadd, 1) := by decide +kernel
theorem dX7_goOff_26 : decode cX7_goOff 26 = .ok (.bipush (-9), 2) := by decide +kernel
theorem dX7_goOff_28 : decode cX7_goOff 28 = .ok (.iastore, 1) := by decide +kernel
theorem dX7_goOff_29 : decode cX7_goOff 29 = .ok (.return_, 1) := by decide +kernel
set_option maxRecDepth 20000 in
theorem ggX7_goHand_X7_doesOn : GoodIn wsX7_goHand wsX7_doesOn := goodIn_r _ [6, 7, 1, 8, 9, 5, 10, 15, 16, 17, 18, 19, 20, 21, 22, 23, 24, 25, 26, 27, 28, 29, 30, 31, 32, 33, 34, 35, 36, 37, 38, 39, 40, 41, 42, 43, 44, 45] (by decide +kernel) (by decide +kernel)
set_option maxRecDepth 20000 in
theorem gX7_goHand_X7_doesOn : GoodIn wsX7_goHand (wsV RX7 105 RX7 yX7_doesOn wsX7_doesOn) := goodIn_app (goodIn_of _ (by decide +kernel)) ggX7_goHand_X7_doesOn
set_option maxRecDepth 20000 in
theorem ggX7_goHand_X7_keepDoing : GoodIn wsX7_goHand wsX7_keepDoing := goodIn_r _ [14, 7, 15, 16, 17, 18, 19, 20, 21, 22, 23, 24, 25, 26, 27, 28, 29, 30, 31, 32, 33, 34, 35, 36, 37, 38, 39, 40, 41, 42, 43, 44, 45] (by decide +kernel) (by decide +kernel)
set_option maxRecDepth 20000 in
theorem gX7_goHand_X7_keepDoing : GoodIn wsX7_goHand (wsV RX7 101 RX7 yX7_keepDoing wsX7_keepDoing) := goodIn_app (goodIn_of _ (by decide +kernel)) ggX7_goHand_X7_keepDoing
theorem dX7_goHand_0 : decode cX7_goHand 0 = .ok (.aload_n 0, 1) := by decide +kernel
theorem dX7_goHand_1 : decode cX7_goHand 1 = .ok (.aload_n 1, 1) := by decide +kernel
theorem dX7_goHand_2 : decode cX7_goHand 2 = .ok (.iload_n 2, 1) := by decide +kernel
theorem dX7_goHand_3 : decode cX7_goHand 3 = .ok (.iload_n 3, 1) := by decide +kernel
theorem dX7_goHand_4 : decode cX7_goHand 4 = .ok (.invokevirtual 105, 3) := by decide +kernel
theorem dX7_goHand_7 : decode cX7_goHand 7 = .ok (.istore 4, 2) := by decide +kernel
theorem dX7_goHand_9 : decode cX7_goHand 9 = .ok (.aload_n 0, 1) := by decide +kernel
theorem dX7_goHand_10 : decode cX7_goHand 10 = .ok (.aload_n 1, 1) := by decide +kernel
theorem dX7_goHand_11 : decode cX7_goHand 11 = .ok (.iload_n 2, 1) := by decide +kernel
theorem dX7_goHand_12 : decode cX7_goHand 12 = .ok (.aload_n 0, 1) := by decide +kernel
theorem dX7_goHand_13 : decode cX7_goHand 13 = .ok (.getfield 13, 3) := by decide +kernel
theorem dX7_goHand_16 : decode cX7_goHand 16 = .ok (.iconst 3, 1) := by decide +kernel
theorem dX7_goHand_17 : decode cX7_goHand 17 = .ok (.iload_n 3, 1) := by decide +kernel
theorem dX7_goHand_18 : decode cX7_goHand 18 = .ok (.imul, 1) := by decide +kernel
theorem dX7_goHand_19 : decode cX7_goHand 19 = .ok (.iaload, 1) := by decide +kernel
theorem dX7_goHand_20 : decode cX7_goHand 20 = .ok (.invokevirtual 101, 3) := by decide +kernel
theorem dX7_goHand_23 : decode cX7_goHand 23 = .ok (.iload 4, 2) := by decide +kernel
theorem dX7_goHand_25 : decode cX7_goHand 25 = .ok (.ireturn, 1) := by decide +kernel
set_option maxRecDepth 20000 in
theorem ggX7_about_X7_isWorn : GoodIn wsX7_about wsX7_isWorn := goodIn_r _ [12] (by decide +kernel) (by decide +kernel)
set_option maxRecDepth 20000 in
theorem gX7_about_X7_isWorn : GoodIn wsX7_about (wsV RX7 109 RX7 yX7_isWorn wsX7_isWorn) := goodIn_app (goodIn_of _ (by decide +kernel)) ggX7_about_X7_isWorn
theorem dX7_about_0 : decode cX7_about 0 = .ok (.aload_n 0, 1) := by decide +kernel
theorem dX7_about_1 : decode cX7_about 1 = .ok (.iconst 0, 1) := by decide +kernel
theorem dX7_about_2 : decode cX7_about 2 = .ok (.putfield 50, 3) := by decide +kernel
theorem dX7_about_5 : decode cX7_about 5 = .ok (.iconst 0, 1) := by decide +kernel
theorem dX7_about_6 : decode cX7_about 6 = .ok (.istore_n 2, 1) := by decide +kernel
theorem dX7_about_7 : decode cX7_about 7 = .ok (.iconst 0, 1) := by decide +kernel
theorem dX7_about_8 : decode cX7_about 8 = .ok (.istore_n 3, 1) := by decide +kernel
theorem dX7_about_9 : decode cX7_about 9 = .ok (.iload_n 3, 1) := by decide +kernel
theorem dX7_about_10 : decode cX7_about 10 = .ok (.aload_n 0, 1) := by decide +kernel
theorem dX7_about_11 : decode cX7_about 11 = .ok (.getfield 61, 3) := by decide +kernel
theorem dX7_about_14 : decode cX7_about 14 = .ok (.if_icmp .ge 31, 3) := by decide +kernel
theorem dX7_about_17 : decode cX7_about 17 = .ok (.iload_n 2, 1) := by decide +kernel
theorem dX7_about_18 : decode cX7_about 18 = .ok (.aload_n 0, 1) := by decide +kernel
theorem dX7_about_19 : decode cX7_about 19 = .ok (.aload_n 0, 1) := by decide +kernel
theorem dX7_about_20 : decode cX7_about 20 = .ok (.getfield 25, 3) := by decide +kernel
theorem dX7_about_23 : decode cX7_about 23 = .ok (.iload_n 3, 1) := by decide +kernel
theorem dX7_about_24 : decode cX7_about 24 = .ok (.invokevirtual 109, 3) := by decide +kernel
theorem dX7_about_27 : decode cX7_about 27 = .ok (.ifCond .eq 9, 3) := by decide +kernel
theorem dX7_about_30 : decode cX7_about 30 = .ok (.iconst 1, 1) := by decide +kernel
theorem dX7_about_31 : decode cX7_about 31 = .ok (.iload_n 3, 1) := by decide +kernel
theorem dX7_about_32 : decode cX7_about 32 = .ok (.ishl, 1) := by decide +kernel
theorem dX7_about_33 : decode cX7_about 33 = .ok (.goto 4, 3) := by decide +kernel
theorem dX7_about_36 : decode cX7_about 36 = .ok (.iconst 0, 1) := by decide +kernel
theorem dX7_about_37 : decode cX7_about 37 = .ok (.ior, 1) := by decide +kernel
theorem dX7_about_38 : decode cX7_about 38 = .ok (.istore_n 2, 1) := by decide +kernel
theorem dX7_about_39 : decode cX7_about 39 = .ok (.iinc 3 1, 3) := by decide +kernel
theorem dX7_about_42 : decode cX7_about 42 = .ok (.goto (-33), 3) := by decide +kernel
theorem dX7_about_45 : decode cX7_about 45 = .ok (.iload_n 1, 1) := by decide +kernel
theorem dX7_about_46 : decode cX7_about 46 = .ok (.tableswitch 77 0 6 #[42, 47, 52, 60, 62, 67, 72], 42) := by decide +kernel
theorem dX7_about_88 : decode cX7_about 88 = .ok (.aload_n 0, 1) := by decide +kernel
theorem dX7_about_89 : decode cX7_about 89 = .ok (.getfield 54, 3) := by decide +kernel
theorem dX7_about_92 : decode cX7_about 92 = .ok (.ireturn, 1) := by decide +kernel
theorem dX7_about_93 : decode cX7_about 93 = .ok (.aload_n 0, 1) := by decide +kernel
theorem dX7_about_94 : decode cX7_about 94 = .ok (.getfield 61, 3) := by decide +kernel
theorem dX7_about_97 : decode cX7_about 97 = .ok (.ireturn, 1) := by decide +kernel
theorem dX7_about_98 : decode cX7_about 98 = .ok (.aload_n 0, 1) := by decide +kernel
theorem dX7_about_99 : decode cX7_about 99 = .ok (.getfield 25, 3) := by decide +kernel
theorem dX7_about_102 : decode cX7_about 102 = .ok (.bipush 20, 2) := by decide +kernel
theorem dX7_about_104 : decode cX7_about 104 = .ok (.iaload, 1) := by decide +kernel
theorem dX7_about_105 : decode cX7_about 105 = .ok (.ireturn, 1) := by decide +kernel
theorem dX7_about_106 : decode cX7_about 106 = .ok (.iload_n 2, 1) := by decide +kernel
theorem dX7_about_107 : decode cX7_about 107 = .ok (.ireturn, 1) := by decide +kernel
theorem dX7_about_108 : decode cX7_about 108 = .ok (.aload_n 0, 1) := by decide +kernel
theorem dX7_about_109 : decode cX7_about 109 = .ok (.getfield 94, 3) := by decide +kernel
theorem dX7_about_112 : decode cX7_about 112 = .ok (.ireturn, 1) := by decide +kernel
theorem dX7_about_113 : decode cX7_about 113 = .ok (.aload_n 0, 1) := by decide +kernel
theorem dX7_about_114 : decode cX7_about 114 = .ok (.getfield 113, 3) := by decide +kernel
theorem dX7_about_117 : decode cX7_about 117 = .ok (.ireturn, 1) := by decide +kernel
theorem dX7_about_118 : decode cX7_about 118 = .ok (.aload_n 0, 1) := by decide +kernel
theorem dX7_about_119 : decode cX7_about 119 = .ok (.getfield 66, 3) := by decide +kernel
theorem dX7_about_122 : decode cX7_about 122 = .ok (.ireturn, 1) := by decide +kernel
theorem dX7_about_123 : decode cX7_about 123 = .ok (.bipush (-2), 2) := by decide +kernel
theorem dX7_about_125 : decode cX7_about 125 = .ok (.ireturn, 1) := by decide +kernel
set_option maxRecDepth 20000 in
theorem ggX7_person_X7_noPerson : GoodIn wsX7_person wsX7_noPerson := goodIn_r _ [9, 10, 11, 12, 8, 13, 19, 20, 21, 22, 23, 24, 25, 26, 27, 28, 29, 30, 31, 32, 33, 34, 35, 36, 37, 38, 39, 40, 41, 42, 43, 44, 45, 46, 47, 48, 49] (by decide +kernel) (by decide +kernel)
set_option maxRecDepth 20000 in
theorem gX7_person_X7_noPerson : GoodIn wsX7_person (wsV RX7 116 RX7 yX7_noPerson wsX7_noPerson) := goodIn_app (goodIn_of _ (by decide +kernel)) ggX7_person_X7_noPerson
set_option maxRecDepth 20000 in
theorem ggX7_person_X7_in : GoodIn wsX7_person wsX7_in := goodIn_r _ [13] (by decide +kernel) (by decide +kernel)
set_option maxRecDepth 20000 in
theorem gX7_person_X7_in : GoodIn wsX7_person (va_wsS RX7 57 yX7_in wsX7_in) := goodIn_app (goodIn_of _ (by decide +kernel)) ggX7_person_X7_in
set_option maxRecDepth 20000 in
theorem ggX7_person_X7_wears : GoodIn wsX7_person wsX7_wears := goodIn_r _ [17, 18, 19, 20, 21, 22, 23, 24, 25, 26, 27, 28, 29, 30, 31, 32, 33, 34, 35, 36, 37, 38, 39, 40, 41, 42, 43, 44, 45, 46, 47, 48, 49] (by decide +kernel) (by decide +kernel)
set_option maxRecDepth 20000 in
theorem gX7_person_X7_wears : GoodIn wsX7_person (wsV RX7 122 RX7 yX7_wears wsX7_wears) := goodIn_app (goodIn_of _ (by decide +kernel)) ggX7_person_X7_wears
theorem dX7_person_0 : decode cX7_person 0 = .ok (.aload_n 0, 1) := by decide +kernel
theorem dX7_person_1 : decode cX7_person 1 = .ok (.iconst 0, 1) := by decide +kernel
theorem dX7_person_2 : decode cX7_person 2 = .ok (.putfield 50, 3) := by decide +kernel
theorem dX7_person_5 : decode cX7_person 5 = .ok (.aload_n 0, 1) := by decide +kernel
theorem dX7_person_6 : decode cX7_person 6 = .ok (.iload_n 1, 1) := by decide +kernel
theorem dX7_person_7 : decode cX7_person 7 = .ok (.invokevirtual 116, 3) := by decide +kernel
theorem dX7_person_10 : decode cX7_person 10 = .ok (.ifCond .eq 5, 3) := by decide +kernel
theorem dX7_person_13 : decode cX7_person 13 = .ok (.iconst (-1), 1) := by decide +kernel
theorem dX7_person_14 : decode cX7_person 14 = .ok (.ireturn, 1) := by decide +kernel
theorem dX7_person_15 : decode cX7_person 15 = .ok (.iload_n 2, 1) := by decide +kernel
theorem dX7_person_16 : decode cX7_person 16 = .ok (.i2l, 1) := by decide +kernel
theorem dX7_person_17 : decode cX7_person 17 = .ok (.lconst 0, 1) := by decide +kernel
theorem dX7_person_18 : decode cX7_person 18 = .ok (.ldc2_w 120, 3) := by decide +kernel
theorem dX7_person_21 : decode cX7_person 21 = .ok (.invokestatic 57, 3) := by decide +kernel
theorem dX7_person_24 : decode cX7_person 24 = .ok (.ifCond .eq 16, 3) := by decide +kernel
theorem dX7_person_27 : decode cX7_person 27 = .ok (.aload_n 0, 1) := by decide +kernel
theorem dX7_person_28 : decode cX7_person 28 = .ok (.getfield 13, 3) := by decide +kernel
theorem dX7_person_31 : decode cX7_person 31 = .ok (.iconst 3, 1) := by decide +kernel
theorem dX7_person_32 : decode cX7_person 32 = .ok (.iload_n 1, 1) := by decide +kernel
theorem dX7_person_33 : decode cX7_person 33 = .ok (.imul, 1) := by decide +kernel
theorem dX7_person_34 : decode cX7_person 34 = .ok (.iload_n 2, 1) := by decide +kernel
theorem dX7_person_35 : decode cX7_person 35 = .ok (.iadd, 1) := by decide +kernel
theorem dX7_person_36 : decode cX7_person 36 = .ok (.iaload, 1) := by decide +kernel
theorem dX7_person_37 : decode cX7_person 37 = .ok (.goto 22, 3) := by decide +kernel
theorem dX7_person_40 : decode cX7_person 40 = .ok (.iload_n 2, 1) := by decide +kernel
theorem dX7_person_41 : decode cX7_person 41 = .ok (.iconst 3, 1) := by decide +kernel
theorem dX7_person_42 : decode cX7_person 42 = .ok (.if_icmp .ne 15, 3) := by decide +kernel
theorem dX7_person_45 : decode cX7_person 45 = .ok (.aload_n 0, 1) := by decide +kernel
theorem dX7_person_46 : decode cX7_person 46 = .ok (.aload_n 0, 1) := by decide +kernel
theorem dX7_person_47 : decode cX7_person 47 = .ok (.getfield 25, 3) := by decide +kernel
theorem dX7_person_50 : decode cX7_person 50 = .ok (.iload_n 1, 1) := by decide +kernel
theorem dX7_person_51 : decode cX7_person 51 = .ok (.invokevirtual 122, 3) := by decide +kernel
theorem dX7_person_54 : decode cX7_person 54 = .ok (.goto 5, 3) := by decide +kernel
theorem dX7_person_57 : decode cX7_person 57 = .ok (.bipush (-2), 2) := by decide +kernel
theorem dX7_person_59 : decode cX7_person 59 = .ok (.ireturn, 1) := by decide +kernel
set_option maxRecDepth 20000 in
theorem ggX7_glove_X7_noGlove : GoodIn wsX7_glove wsX7_noGlove := goodIn_r _ [8, 9, 10, 11, 7, 12, 13, 14, 15, 16, 17, 18, 19, 20, 21, 22, 23, 24, 25, 26, 27, 28, 29, 30, 31, 32, 33, 34, 35, 36, 37, 38, 39, 40, 41, 42, 43] (by decide +kernel) (by decide +kernel)
set_option maxRecDepth 20000 in
theorem gX7_glove_X7_noGlove : GoodIn wsX7_glove (wsV RX7 125 RX7 yX7_noGlove wsX7_noGlove) := goodIn_app (goodIn_of _ (by decide +kernel)) ggX7_glove_X7_noGlove
theorem dX7_glove_0 : decode cX7_glove 0 = .ok (.aload_n 0, 1) := by decide +kernel
theorem dX7_glove_1 : decode cX7_glove 1 = .ok (.iconst 0, 1) := by decide +kernel
theorem dX7_glove_2 : decode cX7_glove 2 = .ok (.putfield 50, 3) := by decide +kernel
theorem dX7_glove_5 : decode cX7_glove 5 = .ok (.aload_n 0, 1) := by decide +kernel
theorem dX7_glove_6 : decode cX7_glove 6 = .ok (.iload_n 1, 1) := by decide +kernel
theorem dX7_glove_7 : decode cX7_glove 7 = .ok (.invokevirtual 125, 3) := by decide +kernel
theorem dX7_glove_10 : decode cX7_glove 10 = .ok (.ifCond .eq 5, 3) := by decide +kernel
theorem dX7_glove_13 : decode cX7_glove 13 = .ok (.iconst (-1), 1) := by decide +kernel
theorem dX7_glove_14 : decode cX7_glove 14 = .ok (.ireturn, 1) := by decide +kernel
theorem dX7_glove_15 : decode cX7_glove 15 = .ok (.iconst 0, 1) := by decide +kernel
theorem dX7_glove_16 : decode cX7_glove 16 = .ok (.istore_n 3, 1) := by decide +kernel
theorem dX7_glove_17 : decode cX7_glove 17 = .ok (.iload_n 2, 1) := by decide +kernel
theorem dX7_glove_18 : decode cX7_glove 18 = .ok (.tableswitch 106 0 4 #[34, 34, 45, 54, 95], 34) := by decide +kernel
theorem dX7_glove_52 : decode cX7_glove 52 = .ok (.aload_n 0, 1) := by decide +kernel
theorem dX7_glove_53 : decode cX7_glove 53 = .ok (.getfield 16, 3) := by decide +kernel
theorem dX7_glove_56 : decode cX7_glove 56 = .ok (.iconst 3, 1) := by decide +kernel
theorem dX7_glove_57 : decode cX7_glove 57 = .ok (.iload_n 1, 1) := by decide +kernel
theorem dX7_glove_58 : decode cX7_glove 58 = .ok (.imul, 1) := by decide +kernel
theorem dX7_glove_59 : decode cX7_glove 59 = .ok (.iload_n 2, 1) := by decide +kernel
theorem dX7_glove_60 : decode cX7_glove 60 = .ok (.iadd, 1) := by decide +kernel
theorem dX7_glove_61 : decode cX7_glove 61 = .ok (.iaload, 1) := by decide +kernel
theorem dX7_glove_62 : decode cX7_glove 62 = .ok (.ireturn, 1) := by decide +kernel
theorem dX7_glove_63 : decode cX7_glove 63 = .ok (.aload_n 0, 1) := by decide +kernel
theorem dX7_glove_64 : decode cX7_glove 64 = .ok (.getfield 25, 3) := by decide +kernel
theorem dX7_glove_67 : decode cX7_glove 67 = .ok (.iconst 5, 1) := by decide +kernel
theorem dX7_glove_68 : decode cX7_glove 68 = .ok (.iload_n 1, 1) := by decide +kernel
theorem dX7_glove_69 : decode cX7_glove 69 = .ok (.imul, 1) := by decide +kernel
theorem dX7_glove_70 : decode cX7_glove 70 = .ok (.iaload, 1) := by decide +kernel
theorem dX7_glove_71 : decode cX7_glove 71 = .ok (.ireturn, 1) := by decide +kernel
theorem dX7_glove_72 : decode cX7_glove 72 = .ok (.iconst 1, 1) := by decide +kernel
theorem dX7_glove_73 : decode cX7_glove 73 = .ok (.istore 4, 2) := by decide +kernel
theorem dX7_glove_75 : decode cX7_glove 75 = .ok (.iload 4, 2) := by decide +kernel
theorem dX7_glove_77 : decode cX7_glove 77 = .ok (.aload_n 0, 1) := by decide +kernel
theorem dX7_glove_78 : decode cX7_glove 78 = .ok (.getfield 25, 3) := by decide +kernel
theorem dX7_glove_81 : decode cX7_glove 81 = .ok (.iconst 5, 1) := by decide +kernel
theorem dX7_glove_82 : decode cX7_glove 82 = .ok (.iload_n 1, 1) := by decide +kernel
theorem dX7_glove_83 : decode cX7_glove 83 = .ok (.imul, 1) := by decide +kernel
theorem dX7_glove_84 : decode cX7_glove 84 = .ok (.iaload, 1) := by decide +kernel
theorem dX7_glove_85 : decode cX7_glove 85 = .ok (.if_icmp .gt 26, 3) := by decide +kernel
theorem dX7_glove_88 : decode cX7_glove 88 = .ok (.bipush 10, 2) := by decide +kernel
theorem dX7_glove_90 : decode cX7_glove 90 = .ok (.iload_n 3, 1) := by decide +kernel
theorem dX7_glove_91 : decode cX7_glove 91 = .ok (.imul, 1) := by decide +kernel
theorem dX7_glove_92 : decode cX7_glove 92 = .ok (.aload_n 0, 1) := by decide +kernel
theorem dX7_glove_93 : decode cX7_glove 93 = .ok (.getfield 25, 3) := by decide +kernel
theorem dX7_glove_96 : decode cX7_glove 96 = .ok (.iconst 5, 1) := by decide +kernel
theorem dX7_glove_97 : decode cX7_glove 97 = .ok (.iload_n 1, 1) := by decide +kernel
theorem dX7_glove_98 : decode cX7_glove 98 = .ok (.imul, 1) := by decide +kernel
theorem dX7_glove_99 : decode cX7_glove 99 = .ok (.iload 4, 2) := by decide +kernel
theorem dX7_glove_101 : decode cX7_glove 101 = .ok (.iadd, 1) := by decide +kernel
theorem dX7_glove_102 : decode cX7_glove 102 = .ok (.iaload, 1) := by decide +kernel
theorem dX7_glove_103 : decode cX7_glove 103 = .ok (.iadd, 1) := by decide +kernel
theorem dX7_glove_104 : decode cX7_glove 104 = .ok (.istore_n 3, 1) := by decide +kernel
theorem dX7_glove_105 : decode cX7_glove 105 = .ok (.iinc 4 1, 3) := by decide +kernel
theorem dX7_glove_108 : decode cX7_glove 108 = .ok (.goto (-33), 3) := by decide +kernel
theorem dX7_glove_111 : decode cX7_glove 111 = .ok (.iload_n 3, 1) := by decide +kernel
theorem dX7_glove_112 : decode cX7_glove 112 = .ok (.ireturn, 1) := by decide +kernel
theorem dX7_glove_113 : decode cX7_glove 113 = .ok (.aload_n 0, 1) := by decide +kernel
theorem dX7_glove_114 : decode cX7_glove 114 = .ok (.getfield 25, 3) := by decide +kernel
theorem dX7_glove_117 : decode cX7_glove 117 = .ok (.iconst 5, 1) := by decide +kernel
theorem dX7_glove_118 : decode cX7_glove 118 = .ok (.iload_n 1, 1) := by decide +kernel
theorem dX7_glove_119 : decode cX7_glove 119 = .ok (.imul, 1) := by decide +kernel
theorem dX7_glove_120 : decode cX7_glove 120 = .ok (.iconst 4, 1) := by decide +kernel
theorem dX7_glove_121 : decode cX7_glove 121 = .ok (.iadd, 1) := by decide +kernel
theorem dX7_glove_122 : decode cX7_glove 122 = .ok (.iaload, 1) := by decide +kernel
theorem dX7_glove_123 : decode cX7_glove 123 = .ok (.ireturn, 1) := by decide +kernel
theorem dX7_glove_124 : decode cX7_glove 124 = .ok (.bipush (-2), 2) := by decide +kernel
theorem dX7_glove_126 : decode cX7_glove 126 = .ok (.ireturn, 1) := by decide +kernel
theorem dX7_note_0 : decode cX7_note 0 = .ok (.aload_n 0, 1) := by decide +kernel
theorem dX7_note_1 : decode cX7_note 1 = .ok (.getfield 94, 3) := by decide +kernel
theorem dX7_note_4 : decode cX7_note 4 = .ok (.bipush 14, 2) := by decide +kernel
theorem dX7_note_6 : decode cX7_note 6 = .ok (.if_icmp .ne 43, 3) := by decide +kernel
theorem dX7_note_9 : decode cX7_note 9 = .ok (.iconst 0, 1) := by decide +kernel
theorem dX7_note_10 : decode cX7_note 10 = .ok (.istore_n 1, 1) := by decide +kernel
theorem dX7_note_11 : decode cX7_note 11 = .ok (.iload_n 1, 1) := by decide +kernel
theorem dX7_note_12 : decode cX7_note 12 = .ok (.sipush 273, 3) := by decide +kernel
theorem dX7_note_15 : decode cX7_note 15 = .ok (.if_icmp .ge 24, 3) := by decide +kernel
theorem dX7_note_18 : decode cX7_note 18 = .ok (.aload_n 0, 1) := by decide +kernel
theorem dX7_note_19 : decode cX7_note 19 = .ok (.getfield 31, 3) := by decide +kernel
theorem dX7_note_22 : decode cX7_note 22 = .ok (.iload_n 1, 1) := by decide +kernel
theorem dX7_note_23 : decode cX7_note 23 = .ok (.aload_n 0, 1) := by decide +kernel
theorem dX7_note_24 : decode cX7_note 24 = .ok (.getfield 31, 3) := by decide +kernel
theorem dX7_note_27 : decode cX7_note 27 = .ok (.iload_n 1, 1) := by decide +kernel
theorem dX7_note_28 : decode cX7_note 28 = .ok (.bipush 21, 2) := by decide +kernel
theorem dX7_note_30 : decode cX7_note 30 = .ok (.iadd, 1) := by decide +kernel
theorem dX7_note_31 : decode cX7_note 31 = .ok (.iaload, 1) := by decide +kernel
theorem dX7_note_32 : decode cX7_note 32 = .ok (.iastore, 1) := by decide +kernel
theorem dX7_note_33 : decode cX7_note 33 = .ok (.iinc 1 1, 3) := by decide +kernel
theorem dX7_note_36 : decode cX7_note 36 = .ok (.goto (-25), 3) := by decide +kernel
theorem dX7_note_39 : decode cX7_note 39 = .ok (.aload_n 0, 1) := by decide +kernel
theorem dX7_note_40 : decode cX7_note 40 = .ok (.dup, 1) := by decide +kernel
theorem dX7_note_41 : decode cX7_note 41 = .ok (.getfield 94, 3) := by decide +kernel
theorem dX7_note_44 : decode cX7_note 44 = .ok (.iconst 1, 1) := by decide +kernel
theorem dX7_note_45 : decode cX7_note 45 = .ok (.isub, 1) := by decide +kernel
theorem dX7_note_46 : decode cX7_note 46 = .ok (.putfield 94, 3) := by decide +kernel
theorem dX7_note_49 : decode cX7_note 49 = .ok (.iconst 0, 1) := by decide +kernel
theorem dX7_note_50 : decode cX7_note 50 = .ok (.istore_n 1, 1) := by decide +kernel
theorem dX7_note_51 : decode cX7_note 51 = .ok (.iload_n 1, 1) := by decide +kernel
theorem dX7_note_52 : decode cX7_note 52 = .ok (.bipush 21, 2) := by decide +kernel
theorem dX7_note_54 : decode cX7_note 54 = .ok (.if_icmp .ge 29, 3) := by decide +kernel
theorem dX7_note_57 : decode cX7_note 57 = .ok (.aload_n 0, 1) := by decide +kernel
theorem dX7_note_58 : decode cX7_note 58 = .ok (.getfield 31, 3) := by decide +kernel
theorem dX7_note_61 : decode cX7_note 61 = .ok (.bipush 21, 2) := by decide +kernel
theorem dX7_note_63 : decode cX7_note 63 = .ok (.aload_n 0, 1) := by decide +kernel
theorem dX7_note_64 : decode cX7_note 64 = .ok (.getfield 94, 3) := by decide +kernel
theorem dX7_note_67 : decode cX7_note 67 = .ok (.imul, 1) := by decide +kernel
theorem dX7_note_68 : decode cX7_note 68 = .ok (.iload_n 1, 1) := by decide +kernel
theorem dX7_note_69 : decode cX7_note 69 = .ok (.iadd, 1) := by decide +kernel
theorem dX7_note_70 : decode cX7_note 70 = .ok (.aload_n 0, 1) := by decide +kernel
theorem dX7_note_71 : decode cX7_note 71 = .ok (.getfield 25, 3) := by decide +kernel
theorem dX7_note_74 : decode cX7_note 74 = .ok (.iload_n 1, 1) := by decide +kernel
theorem dX7_note_75 : decode cX7_note 75 = .ok (.iaload, 1) := by decide +kernel
theorem dX7_note_76 : decode cX7_note 76 = .ok (.iastore, 1) := by decide +kernel
theorem dX7_note_77 : decode cX7_note 77 = .ok (.iinc 1 1, 3) := by decide +kernel
theorem dX7_note_80 : decode cX7_note 80 = .ok (.goto (-29), 3) := by decide +kernel
theorem dX7_note_83 : decode cX7_note 83 = .ok (.aload_n 0, 1) := by decide +kernel
theorem dX7_note_84 : decode cX7_note 84 = .ok (.dup, 1) := by decide +kernel
theorem dX7_note_85 : decode cX7_note 85 = .ok (.getfield 94, 3) := by decide +kernel
theorem dX7_note_88 : decode cX7_note 88 = .ok (.iconst 1, 1) := by decide +kernel
theorem dX7_note_89 : decode cX7_note 89 = .ok (.iadd, 1) := by decide +kernel
theorem dX7_note_90 : decode cX7_note 90 = .ok (.putfield 94, 3) := by decide +kernel
theorem dX7_note_93 : decode cX7_note 93 = .ok (.return_, 1) := by decide +kernel
set_option maxRecDepth 20000 in
theorem ggX7_wear_X7_noGlove : GoodIn wsX7_wear wsX7_noGlove := goodIn_r _ [7, 8, 9, 10, 6, 11, 40, 41, 42, 43, 44, 45, 46, 47, 48, 49, 50, 51, 52, 53, 54, 55, 56, 57, 58, 59, 60, 61, 62, 63, 64, 65, 66, 67, 68, 69, 70] (by decide +kernel) (by decide +kernel)
set_option maxRecDepth 20000 in
theorem gX7_wear_X7_noGlove : GoodIn wsX7_wear (wsV RX7 125 RX7 yX7_noGlove wsX7_noGlove) := goodIn_app (goodIn_of _ (by decide +kernel)) ggX7_wear_X7_noGlove
set_option maxRecDepth 20000 in
theorem ggX7_wear_X7_noPerson : GoodIn wsX7_wear wsX7_noPerson := goodIn_r _ [15, 16, 9, 10, 6, 11, 40, 41, 42, 43, 44, 45, 46, 47, 48, 49, 50, 51, 52, 53, 54, 55, 56, 57, 58, 59, 60, 61, 62, 63, 64, 65, 66, 67, 68, 69, 70] (by decide +kernel) (by decide +kernel)
set_option maxRecDepth 20000 in
theorem gX7_wear_X7_noPerson : GoodIn wsX7_wear (wsV RX7 116 RX7 yX7_noPerson wsX7_noPerson) := goodIn_app (goodIn_of _ (by decide +kernel)) ggX7_wear_X7_noPerson
set_option maxRecDepth 20000 in
theorem ggX7_wear_X7_isWorn : GoodIn wsX7_wear wsX7_isWorn := goodIn_r _ [20] (by decide +kernel) (by decide +kernel)
set_option maxRecDepth 20000 in
theorem gX7_wear_X7_isWorn : GoodIn wsX7_wear (wsV RX7 109 RX7 yX7_isWorn wsX7_isWorn) := goodIn_app (goodIn_of _ (by decide +kernel)) ggX7_wear_X7_isWorn
set_option maxRecDepth 20000 in
theorem ggX7_wear_X7_wears : GoodIn wsX7_wear wsX7_wears := goodIn_r _ [24, 8, 40, 41, 42, 43, 44, 45, 46, 47, 48, 49, 50, 51, 52, 53, 54, 55, 56, 57, 58, 59, 60, 61, 62, 63, 64, 65, 66, 67, 68, 69, 70] (by decide +kernel) (by decide +kernel)
set_option maxRecDepth 20000 in
theorem gX7_wear_X7_wears : GoodIn wsX7_wear (wsV RX7 122 RX7 yX7_wears wsX7_wears) := goodIn_app (goodIn_of _ (by decide +kernel)) ggX7_wear_X7_wears
set_option maxRecDepth 20000 in
theorem ggX7_wear_X7_note : GoodIn wsX7_wear wsX7_note := goodIn_r _ [28, 29, 30, 2, 40, 41, 42, 43, 44, 45, 46, 47, 48, 49, 50, 51, 52, 53, 54, 55, 56, 57, 58, 59, 60, 61, 62, 63, 64, 65, 66, 67, 68, 69, 70] (by decide +kernel) (by decide +kernel)
set_option maxRecDepth 20000 in
theorem gX7_wear_X7_note : GoodIn wsX7_wear (wsV RX7 128 RX7 yX7_note wsX7_note) := goodIn_app (goodIn_of _ (by decide +kernel)) ggX7_wear_X7_note
set_option maxRecDepth 20000 in
theorem ggX7_wear_X7_doesOn : GoodIn wsX7_wear wsX7_doesOn := goodIn_r _ [34, 35, 36, 37, 38, 6, 39, 40, 41, 42, 43, 44, 45, 46, 47, 48, 49, 50, 51, 52, 53, 54, 55, 56, 57, 58, 59, 60, 61, 62, 63, 64, 65, 66, 67, 68, 69, 70] (by decide +kernel) (by decide +kernel)
set_option maxRecDepth 20000 in
theorem gX7_wear_X7_doesOn : GoodIn wsX7_wear (wsV RX7 105 RX7 yX7_doesOn wsX7_doesOn) := goodIn_app (goodIn_of _ (by decide +kernel)) ggX7_wear_X7_doesOn
theorem dX7_wear_0 : decode cX7_wear 0 = .ok (.aload_n 0, 1) := by decide +kernel
theorem dX7_wear_1 : decode cX7_wear 1 = .ok (.iconst 0, 1) := by decide +kernel
theorem dX7_wear_2 : decode cX7_wear 2 = .ok (.putfield 50, 3) := by decide +kernel
theorem dX7_wear_5 : decode cX7_wear 5 = .ok (.aload_n 0, 1) := by decide +kernel
theorem dX7_wear_6 : decode cX7_wear 6 = .ok (.iload_n 1, 1) := by decide +kernel
theorem dX7_wear_7 : decode cX7_wear 7 = .ok (.invokevirtual 125, 3) := by decide +kernel
theorem dX7_wear_10 : decode cX7_wear 10 = .ok (.ifCond .ne 11, 3) := by decide +kernel
theorem dX7_wear_13 : decode cX7_wear 13 = .ok (.aload_n 0, 1) := by decide +kernel
theorem dX7_wear_14 : decode cX7_wear 14 = .ok (.iload_n 2, 1) := by decide +kernel
theorem dX7_wear_15 : decode cX7_wear 15 = .ok (.invokevirtual 116, 3) := by decide +kernel
theorem dX7_wear_18 : decode cX7_wear 18 = .ok (.ifCond .eq 5, 3) := by decide +kernel
theorem dX7_wear_21 : decode cX7_wear 21 = .ok (.iconst (-1), 1) := by decide +kernel
theorem dX7_wear_22 : decode cX7_wear 22 = .ok (.ireturn, 1) := by decide +kernel
theorem dX7_wear_23 : decode cX7_wear 23 = .ok (.aload_n 0, 1) := by decide +kernel
theorem dX7_wear_24 : decode cX7_wear 24 = .ok (.aload_n 0, 1) := by decide +kernel
theorem dX7_wear_25 : decode cX7_wear 25 = .ok (.getfield 25, 3) := by decide +kernel
theorem dX7_wear_28 : decode cX7_wear 28 = .ok (.iload_n 1, 1) := by decide +kernel
theorem dX7_wear_29 : decode cX7_wear 29 = .ok (.invokevirtual 109, 3) := by decide +kernel
theorem dX7_wear_32 : decode cX7_wear 32 = .ok (.ifCond .ne 17, 3) := by decide +kernel
theorem dX7_wear_35 : decode cX7_wear 35 = .ok (.aload_n 0, 1) := by decide +kernel
theorem dX7_wear_36 : decode cX7_wear 36 = .ok (.aload_n 0, 1) := by decide +kernel
theorem dX7_wear_37 : decode cX7_wear 37 = .ok (.getfield 25, 3) := by decide +kernel
theorem dX7_wear_40 : decode cX7_wear 40 = .ok (.iload_n 2, 1) := by decide +kernel
theorem dX7_wear_41 : decode cX7_wear 41 = .ok (.invokevirtual 122, 3) := by decide +kernel
theorem dX7_wear_44 : decode cX7_wear 44 = .ok (.bipush (-9), 2) := by decide +kernel
theorem dX7_wear_46 : decode cX7_wear 46 = .ok (.if_icmp .eq 6, 3) := by decide +kernel
theorem dX7_wear_49 : decode cX7_wear 49 = .ok (.bipush (-3), 2) := by decide +kernel
theorem dX7_wear_51 : decode cX7_wear 51 = .ok (.ireturn, 1) := by decide +kernel
theorem dX7_wear_52 : decode cX7_wear 52 = .ok (.aload_n 0, 1) := by decide +kernel
theorem dX7_wear_53 : decode cX7_wear 53 = .ok (.invokevirtual 128, 3) := by decide +kernel
theorem dX7_wear_56 : decode cX7_wear 56 = .ok (.aload_n 0, 1) := by decide +kernel
theorem dX7_wear_57 : decode cX7_wear 57 = .ok (.getfield 25, 3) := by decide +kernel
theorem dX7_wear_60 : decode cX7_wear 60 = .ok (.iconst 5, 1) := by decide +kernel
theorem dX7_wear_61 : decode cX7_wear 61 = .ok (.iload_n 1, 1) := by decide +kernel
theorem dX7_wear_62 : decode cX7_wear 62 = .ok (.imul, 1) := by decide +kernel
theorem dX7_wear_63 : decode cX7_wear 63 = .ok (.iconst 4, 1) := by decide +kernel
theorem dX7_wear_64 : decode cX7_wear 64 = .ok (.iadd, 1) := by decide +kernel
theorem dX7_wear_65 : decode cX7_wear 65 = .ok (.iload_n 2, 1) := by decide +kernel
theorem dX7_wear_66 : decode cX7_wear 66 = .ok (.iastore, 1) := by decide +kernel
theorem dX7_wear_67 : decode cX7_wear 67 = .ok (.aload_n 0, 1) := by decide +kernel
theorem dX7_wear_68 : decode cX7_wear 68 = .ok (.aload_n 0, 1) := by decide +kernel
theorem dX7_wear_69 : decode cX7_wear 69 = .ok (.getfield 25, 3) := by decide +kernel
theorem dX7_wear_72 : decode cX7_wear 72 = .ok (.iload_n 1, 1) := by decide +kernel
theorem dX7_wear_73 : decode cX7_wear 73 = .ok (.iload_n 2, 1) := by decide +kernel
theorem dX7_wear_74 : decode cX7_wear 74 = .ok (.invokevirtual 105, 3) := by decide +kernel
theorem dX7_wear_77 : decode cX7_wear 77 = .ok (.ireturn, 1) := by decide +kernel
set_option maxRecDepth 20000 in
theorem ggX7_takeOff_X7_noGlove : GoodIn wsX7_takeOff wsX7_noGlove := goodIn_r _ [7, 8, 9, 10, 6, 11, 32, 33, 34, 35, 36, 37, 38, 39, 40, 41, 42, 43, 44, 45, 46, 47, 48, 49, 50, 51, 52, 53, 54, 55, 56, 57, 58, 59, 60, 61, 62] (by decide +kernel) (by decide +kernel)
set_option maxRecDepth 20000 in
theorem gX7_takeOff_X7_noGlove : GoodIn wsX7_takeOff (wsV RX7 125 RX7 yX7_noGlove wsX7_noGlove) := goodIn_app (goodIn_of _ (by decide +kernel)) ggX7_takeOff_X7_noGlove
set_option maxRecDepth 20000 in
theorem ggX7_takeOff_X7_isWorn : GoodIn wsX7_takeOff wsX7_isWorn := goodIn_r _ [15] (by decide +kernel) (by decide +kernel)
set_option maxRecDepth 20000 in
theorem gX7_takeOff_X7_isWorn : GoodIn wsX7_takeOff (wsV RX7 109 RX7 yX7_isWorn wsX7_isWorn) := goodIn_app (goodIn_of _ (by decide +kernel)) ggX7_takeOff_X7_isWorn
set_option maxRecDepth 20000 in
theorem ggX7_takeOff_X7_note : GoodIn wsX7_takeOff wsX7_note := goodIn_r _ [19, 20, 21, 2, 32, 33, 34, 35, 36, 37, 38, 39, 40, 41, 42, 43, 44, 45, 46, 47, 48, 49, 50, 51, 52, 53, 54, 55, 56, 57, 58, 59, 60, 61, 62] (by decide +kernel) (by decide +kernel)
set_option maxRecDepth 20000 in
theorem gX7_takeOff_X7_note : GoodIn wsX7_takeOff (wsV RX7 128 RX7 yX7_note wsX7_note) := goodIn_app (goodIn_of _ (by decide +kernel)) ggX7_takeOff_X7_note
set_option maxRecDepth 20000 in
theorem ggX7_takeOff_X7_goOff : GoodIn wsX7_takeOff wsX7_goOff := goodIn_r _ [25, 26, 27, 28, 29, 6, 30, 31, 32, 33, 34, 35, 36, 37, 38, 39, 40, 41, 42, 43, 44, 45, 46, 47, 48, 49, 50, 51, 52, 53, 54, 55, 56, 57, 58, 59, 60, 61, 62] (by decide +kernel) (by decide +kernel)
set_option maxRecDepth 20000 in
theorem gX7_takeOff_X7_goOff : GoodIn wsX7_takeOff (wsV RX7 131 RX7 yX7_goOff wsX7_goOff) := goodIn_app (goodIn_of _ (by decide +kernel)) ggX7_takeOff_X7_goOff
theorem dX7_takeOff_0 : decode cX7_takeOff 0 = .ok (.aload_n 0, 1) := by decide +kernel
theorem dX7_takeOff_1 : decode cX7_takeOff 1 = .ok (.iconst 0, 1) := by decide +kernel
theorem dX7_takeOff_2 : decode cX7_takeOff 2 = .ok (.putfield 50, 3) := by decide +kernel
theorem dX7_takeOff_5 : decode cX7_takeOff 5 = .ok (.aload_n 0, 1) := by decide +kernel
theorem dX7_takeOff_6 : decode cX7_takeOff 6 = .ok (.iload_n 1, 1) := by decide +kernel
theorem dX7_takeOff_7 : decode cX7_takeOff 7 = .ok (.invokevirtual 125, 3) := by decide +kernel
theorem dX7_takeOff_10 : decode cX7_takeOff 10 = .ok (.ifCond .eq 5, 3) := by decide +kernel
theorem dX7_takeOff_13 : decode cX7_takeOff 13 = .ok (.iconst (-1), 1) := by decide +kernel
theorem dX7_takeOff_14 : decode cX7_takeOff 14 = .ok (.ireturn, 1) := by decide +kernel
theorem dX7_takeOff_15 : decode cX7_takeOff 15 = .ok (.aload_n 0, 1) := by decide +kernel
theorem dX7_takeOff_16 : decode cX7_takeOff 16 = .ok (.aload_n 0, 1) := by decide +kernel
theorem dX7_takeOff_17 : decode cX7_takeOff 17 = .ok (.getfield 25, 3) := by decide +kernel
theorem dX7_takeOff_20 : decode cX7_takeOff 20 = .ok (.iload_n 1, 1) := by decide +kernel
theorem dX7_takeOff_21 : decode cX7_takeOff 21 = .ok (.invokevirtual 109, 3) := by decide +kernel
theorem dX7_takeOff_24 : decode cX7_takeOff 24 = .ok (.ifCond .ne 6, 3) := by decide +kernel
theorem dX7_takeOff_27 : decode cX7_takeOff 27 = .ok (.bipush (-3), 2) := by decide +kernel
theorem dX7_takeOff_29 : decode cX7_takeOff 29 = .ok (.ireturn, 1) := by decide +kernel
theorem dX7_takeOff_30 : decode cX7_takeOff 30 = .ok (.aload_n 0, 1) := by decide +kernel
theorem dX7_takeOff_31 : decode cX7_takeOff 31 = .ok (.invokevirtual 128, 3) := by decide +kernel
theorem dX7_takeOff_34 : decode cX7_takeOff 34 = .ok (.aload_n 0, 1) := by decide +kernel
theorem dX7_takeOff_35 : decode cX7_takeOff 35 = .ok (.aload_n 0, 1) := by decide +kernel
theorem dX7_takeOff_36 : decode cX7_takeOff 36 = .ok (.getfield 25, 3) := by decide +kernel
theorem dX7_takeOff_39 : decode cX7_takeOff 39 = .ok (.iload_n 1, 1) := by decide +kernel
theorem dX7_takeOff_40 : decode cX7_takeOff 40 = .ok (.invokevirtual 131, 3) := by decide +kernel
theorem dX7_takeOff_43 : decode cX7_takeOff 43 = .ok (.aload_n 0, 1) := by decide +kernel
theorem dX7_takeOff_44 : decode cX7_takeOff 44 = .ok (.getfield 25, 3) := by decide +kernel
theorem dX7_takeOff_47 : decode cX7_takeOff 47 = .ok (.iconst 5, 1) := by decide +kernel
theorem dX7_takeOff_48 : decode cX7_takeOff 48 = .ok (.iload_n 1, 1) := by decide +kernel
theorem dX7_takeOff_49 : decode cX7_takeOff 49 = .ok (.imul, 1) := by decide +kernel
theorem dX7_takeOff_50 : decode cX7_takeOff 50 = .ok (.iaload, 1) := by decide +kernel
theorem dX7_takeOff_51 : decode cX7_takeOff 51 = .ok (.ireturn, 1) := by decide +kernel
set_option maxRecDepth 20000 in
theorem ggX7_wash_X7_noGlove : GoodIn wsX7_wash wsX7_noGlove := goodIn_r _ [7, 8, 9, 10, 6, 11, 25, 26, 27, 28, 29, 30, 31, 32, 33, 34, 35, 36, 37, 38, 39, 40, 41, 42, 43, 44, 45, 46, 47, 48, 49, 50, 51, 52, 53, 54, 55] (by decide +kernel) (by decide +kernel)
set_option maxRecDepth 20000 in
theorem gX7_wash_X7_noGlove : GoodIn wsX7_wash (wsV RX7 125 RX7 yX7_noGlove wsX7_noGlove) := goodIn_app (goodIn_of _ (by decide +kernel)) ggX7_wash_X7_noGlove
set_option maxRecDepth 20000 in
theorem ggX7_wash_X7_isWorn : GoodIn wsX7_wash wsX7_isWorn := goodIn_r _ [15] (by decide +kernel) (by decide +kernel)
set_option maxRecDepth 20000 in
theorem gX7_wash_X7_isWorn : GoodIn wsX7_wash (wsV RX7 109 RX7 yX7_isWorn wsX7_isWorn) := goodIn_app (goodIn_of _ (by decide +kernel)) ggX7_wash_X7_isWorn
set_option maxRecDepth 20000 in
theorem ggX7_wash_X7_note : GoodIn wsX7_wash wsX7_note := goodIn_r _ [19, 20, 21, 2, 25, 26, 27, 28, 29, 30, 31, 32, 33, 34, 35, 36, 37, 38, 39, 40, 41, 42, 43, 44, 45, 46, 47, 48, 49, 50, 51, 52, 53, 54, 55] (by decide +kernel) (by decide +kernel)
set_option maxRecDepth 20000 in
theorem gX7_wash_X7_note : GoodIn wsX7_wash (wsV RX7 128 RX7 yX7_note wsX7_note) := goodIn_app (goodIn_of _ (by decide +kernel)) ggX7_wash_X7_note
set_option maxRecDepth 20000 in
theorem ggX7_wash_X7_lastOf : GoodIn wsX7_wash wsX7_lastOf := goodIn_r _ [24] (by decide +kernel) (by decide +kernel)
set_option maxRecDepth 20000 in
theorem gX7_wash_X7_lastOf : GoodIn wsX7_wash (va_wsS RX7 97 yX7_lastOf wsX7_lastOf) := goodIn_app (goodIn_of _ (by decide +kernel)) ggX7_wash_X7_lastOf
theorem dX7_wash_0 : decode cX7_wash 0 = .ok (.aload_n 0, 1) := by decide +kernel
theorem dX7_wash_1 : decode cX7_wash 1 = .ok (.iconst 0, 1) := by decide +kernel
theorem dX7_wash_2 : decode cX7_wash 2 = .ok (.putfield 50, 3) := by decide +kernel
theorem dX7_wash_5 : decode cX7_wash 5 = .ok (.aload_n 0, 1) := by decide +kernel
theorem dX7_wash_6 : decode cX7_wash 6 = .ok (.iload_n 1, 1) := by decide +kernel
theorem dX7_wash_7 : decode cX7_wash 7 = .ok (.invokevirtual 125, 3) := by decide +kernel
theorem dX7_wash_10 : decode cX7_wash 10 = .ok (.ifCond .eq 5, 3) := by decide +kernel
theorem dX7_wash_13 : decode cX7_wash 13 = .ok (.iconst (-1), 1) := by decide +kernel
theorem dX7_wash_14 : decode cX7_wash 14 = .ok (.ireturn, 1) := by decide +kernel
theorem dX7_wash_15 : decode cX7_wash 15 = .ok (.aload_n 0, 1) := by decide +kernel
theorem dX7_wash_16 : decode cX7_wash 16 = .ok (.aload_n 0, 1) := by decide +kernel
theorem dX7_wash_17 : decode cX7_wash 17 = .ok (.getfield 25, 3) := by decide +kernel
theorem dX7_wash_20 : decode cX7_wash 20 = .ok (.iload_n 1, 1) := by decide +kernel
theorem dX7_wash_21 : decode cX7_wash 21 = .ok (.invokevirtual 109, 3) := by decide +kernel
theorem dX7_wash_24 : decode cX7_wash 24 = .ok (.ifCond .ne 14, 3) := by decide +kernel
theorem dX7_wash_27 : decode cX7_wash 27 = .ok (.aload_n 0, 1) := by decide +kernel
theorem dX7_wash_28 : decode cX7_wash 28 = .ok (.getfield 25, 3) := by decide +kernel
theorem dX7_wash_31 : decode cX7_wash 31 = .ok (.iconst 5, 1) := by decide +kernel
theorem dX7_wash_32 : decode cX7_wash 32 = .ok (.iload_n 1, 1) := by decide +kernel
theorem dX7_wash_33 : decode cX7_wash 33 = .ok (.imul, 1) := by decide +kernel
theorem dX7_wash_34 : decode cX7_wash 34 = .ok (.iaload, 1) := by decide +kernel
theorem dX7_wash_35 : decode cX7_wash 35 = .ok (.ifCond .ne 6, 3) := by decide +kernel
theorem dX7_wash_38 : decode cX7_wash 38 = .ok (.bipush (-3), 2) := by decide +kernel
theorem dX7_wash_40 : decode cX7_wash 40 = .ok (.ireturn, 1) := by decide +kernel
theorem dX7_wash_41 : decode cX7_wash 41 = .ok (.aload_n 0, 1) := by decide +kernel
theorem dX7_wash_42 : decode cX7_wash 42 = .ok (.invokevirtual 128, 3) := by decide +kernel
theorem dX7_wash_45 : decode cX7_wash 45 = .ok (.aload_n 0, 1) := by decide +kernel
theorem dX7_wash_46 : decode cX7_wash 46 = .ok (.getfield 25, 3) := by decide +kernel
theorem dX7_wash_49 : decode cX7_wash 49 = .ok (.iload_n 1, 1) := by decide +kernel
theorem dX7_wash_50 : decode cX7_wash 50 = .ok (.invokestatic 97, 3) := by decide +kernel
theorem dX7_wash_53 : decode cX7_wash 53 = .ok (.istore_n 2, 1) := by decide +kernel
theorem dX7_wash_54 : decode cX7_wash 54 = .ok (.aload_n 0, 1) := by decide +kernel
theorem dX7_wash_55 : decode cX7_wash 55 = .ok (.getfield 25, 3) := by decide +kernel
theorem dX7_wash_58 : decode cX7_wash 58 = .ok (.iconst 5, 1) := by decide +kernel
theorem dX7_wash_59 : decode cX7_wash 59 = .ok (.iload_n 1, 1) := by decide +kernel
theorem dX7_wash_60 : decode cX7_wash 60 = .ok (.imul, 1) := by decide +kernel
theorem dX7_wash_61 : decode cX7_wash 61 = .ok (.dup2, 1) := by decide +kernel
theorem dX7_wash_62 : decode cX7_wash 62 = .ok (.iaload, 1) := by decide +kernel
theorem dX7_wash_63 : decode cX7_wash 63 = .ok (.iconst 1, 1) := by decide +kernel
theorem dX7_wash_64 : decode cX7_wash 64 = .ok (.isub, 1) := by decide +kernel
theorem dX7_wash_65 : decode cX7_wash 65 = .ok (.iastore, 1) := by decide +kernel
theorem dX7_wash_66 : decode cX7_wash 66 = .ok (.iload_n 2, 1) := by decide +kernel
theorem dX7_wash_67 : decode cX7_wash 67 = .ok (.ireturn, 1) := by decide +kernel
set_option maxRecDepth 20000 in
theorem ggX7_day_X7_note : GoodIn wsX7_day wsX7_note := goodIn_r _ [8, 9, 10, 3, 25, 26, 27, 28, 29, 30, 31, 32, 33, 34, 35, 36, 37, 38, 39, 40, 41, 42, 43, 44, 45, 46, 47, 48, 49, 50, 51, 52, 53, 54, 55] (by decide +kernel) (by decide +kernel)
set_option maxRecDepth 20000 in
theorem gX7_day_X7_note : GoodIn wsX7_day (wsV RX7 128 RX7 yX7_note wsX7_note) := goodIn_app (goodIn_of _ (by decide +kernel)) ggX7_day_X7_note
set_option maxRecDepth 20000 in
theorem ggX7_day_X7_isWorn : GoodIn wsX7_day wsX7_isWorn := goodIn_r _ [14] (by decide +kernel) (by decide +kernel)
set_option maxRecDepth 20000 in
theorem gX7_day_X7_isWorn : GoodIn wsX7_day (wsV RX7 109 RX7 yX7_isWorn wsX7_isWorn) := goodIn_app (goodIn_of _ (by decide +kernel)) ggX7_day_X7_isWorn
set_option maxRecDepth 20000 in
theorem ggX7_day_X7_goOff : GoodIn wsX7_day wsX7_goOff := goodIn_r _ [18, 19, 20, 21, 22, 7, 23, 24, 25, 26, 27, 28, 29, 30, 31, 32, 33, 34, 35, 36, 37, 38, 39, 40, 41, 42, 43, 44, 45, 46, 47, 48, 49, 50, 51, 52, 53, 54, 55] (by decide +kernel) (by decide +kernel)
set_option maxRecDepth 20000 in
theorem gX7_day_X7_goOff : GoodIn wsX7_day (wsV RX7 131 RX7 yX7_goOff wsX7_goOff) := goodIn_app (goodIn_of _ (by decide +kernel)) ggX7_day_X7_goOff
theorem dX7_day_0 : decode cX7_day 0 = .ok (.aload_n 0, 1) := by decide +kernel
theorem dX7_day_1 : decode cX7_day 1 = .ok (.iconst 0, 1) := by decide +kernel
theorem dX7_day_2 : decode cX7_day 2 = .ok (.putfield 50, 3) := by decide +kernel
theorem dX7_day_5 : decode cX7_day 5 = .ok (.aload_n 0, 1) := by decide +kernel
theorem dX7_day_6 : decode cX7_day 6 = .ok (.invokevirtual 128, 3) := by decide +kernel
theorem dX7_day_9 : decode cX7_day 9 = .ok (.iconst 0, 1) := by decide +kernel
theorem dX7_day_10 : decode cX7_day 10 = .ok (.istore_n 1, 1) := by decide +kernel
theorem dX7_day_11 : decode cX7_day 11 = .ok (.iconst 0, 1) := by decide +kernel
theorem dX7_day_12 : decode cX7_day 12 = .ok (.istore_n 2, 1) := by decide +kernel
theorem dX7_day_13 : decode cX7_day 13 = .ok (.iload_n 2, 1) := by decide +kernel
theorem dX7_day_14 : decode cX7_day 14 = .ok (.aload_n 0, 1) := by decide +kernel
theorem dX7_day_15 : decode cX7_day 15 = .ok (.getfield 61, 3) := by decide +kernel
theorem dX7_day_18 : decode cX7_day 18 = .ok (.if_icmp .ge 33, 3) := by decide +kernel
theorem dX7_day_21 : decode cX7_day 21 = .ok (.aload_n 0, 1) := by decide +kernel
theorem dX7_day_22 : decode cX7_day 22 = .ok (.aload_n 0, 1) := by decide +kernel
theorem dX7_day_23 : decode cX7_day 23 = .ok (.getfield 25, 3) := by decide +kernel
theorem dX7_day_26 : decode cX7_day 26 = .ok (.iload_n 2, 1) := by decide +kernel
theorem dX7_day_27 : decode cX7_day 27 = .ok (.invokevirtual 109, 3) := by decide +kernel
theorem dX7_day_30 : decode cX7_day 30 = .ok (.ifCond .eq 15, 3) := by decide +kernel
theorem dX7_day_33 : decode cX7_day 33 = .ok (.aload_n 0, 1) := by decide +kernel
theorem dX7_day_34 : decode cX7_day 34 = .ok (.aload_n 0, 1) := by decide +kernel
theorem dX7_day_35 : decode cX7_day 35 = .ok (.getfield 25, 3) := by decide +kernel
theorem dX7_day_38 : decode cX7_day 38 = .ok (.iload_n 2, 1) := by decide +kernel
theorem dX7_day_39 : decode cX7_day 39 = .ok (.invokevirtual 131, 3) := by decide +kernel
theorem dX7_day_42 : decode cX7_day 42 = .ok (.iinc 1 1, 3) := by decide +kernel
theorem dX7_day_45 : decode cX7_day 45 = .ok (.iinc 2 1, 3) := by decide +kernel
theorem dX7_day_48 : decode cX7_day 48 = .ok (.goto (-35), 3) := by decide +kernel
theorem dX7_day_51 : decode cX7_day 51 = .ok (.aload_n 0, 1) := by decide +kernel
theorem dX7_day_52 : decode cX7_day 52 = .ok (.getfield 25, 3) := by decide +kernel
theorem dX7_day_55 : decode cX7_day 55 = .ok (.bipush 20, 2) := by decide +kernel
theorem dX7_day_57 : decode cX7_day 57 = .ok (.dup2, 1) := by decide +kernel
theorem dX7_day_58 : decode cX7_day 58 = .ok (.iaload, 1) := by decide +kernel
theorem dX7_day_59 : decode cX7_day 59 = .ok (.iconst 1, 1) := by decide +kernel
theorem dX7_day_60 : decode cX7_day 60 = .ok (.iadd, 1) := by decide +kernel
theorem dX7_day_61 : decode cX7_day 61 = .ok (.iastore, 1) := by decide +kernel
theorem dX7_day_62 : decode cX7_day 62 = .ok (.iload_n 1, 1) := by decide +kernel
theorem dX7_day_63 : decode cX7_day 63 = .ok (.ireturn, 1) := by decide +kernel
theorem dX7_undo_0 : decode cX7_undo 0 = .ok (.aload_n 0, 1) := by decide +kernel
theorem dX7_undo_1 : decode cX7_undo 1 = .ok (.iconst 0, 1) := by decide +kernel
theorem dX7_undo_2 : decode cX7_undo 2 = .ok (.putfield 50, 3) := by decide +kernel
theorem dX7_undo_5 : decode cX7_undo 5 = .ok (.aload_n 0, 1) := by decide +kernel
theorem dX7_undo_6 : decode cX7_undo 6 = .ok (.getfield 94, 3) := by decide +kernel
theorem dX7_undo_9 : decode cX7_undo 9 = .ok (.ifCond .ne 6, 3) := by decide +kernel
theorem dX7_undo_12 : decode cX7_undo 12 = .ok (.bipush (-3), 2) := by decide +kernel
theorem dX7_undo_14 : decode cX7_undo 14 = .ok (.ireturn, 1) := by decide +kernel
theorem dX7_undo_15 : decode cX7_undo 15 = .ok (.aload_n 0, 1) := by decide +kernel
theorem dX7_undo_16 : decode cX7_undo 16 = .ok (.dup, 1) := by decide +kernel
theorem dX7_undo_17 : decode cX7_undo 17 = .ok (.getfield 94, 3) := by decide +kernel
theorem dX7_undo_20 : decode cX7_undo 20 = .ok (.iconst 1, 1) := by decide +kernel
theorem dX7_undo_21 : decode cX7_undo 21 = .ok (.isub, 1) := by decide +kernel
theorem dX7_undo_22 : decode cX7_undo 22 = .ok (.putfield 94, 3) := by decide +kernel
theorem dX7_undo_25 : decode cX7_undo 25 = .ok (.iconst 0, 1) := by decide +kernel
theorem dX7_undo_26 : decode cX7_undo 26 = .ok (.istore_n 1, 1) := by decide +kernel
theorem dX7_undo_27 : decode cX7_undo 27 = .ok (.iload_n 1, 1) := by decide +kernel
theorem dX7_undo_28 : decode cX7_undo 28 = .ok (.bipush 21, 2) := by decide +kernel
theorem dX7_undo_30 : decode cX7_undo 30 = .ok (.if_icmp .ge 29, 3) := by decide +kernel
theorem dX7_undo_33 : decode cX7_undo 33 = .ok (.aload_n 0, 1) := by decide +kernel
theorem dX7_undo_34 : decode cX7_undo 34 = .ok (.getfield 25, 3) := by decide +kernel
theorem dX7_undo_37 : decode cX7_undo 37 = .ok (.iload_n 1, 1) := by decide +kernel
theorem dX7_undo_38 : decode cX7_undo 38 = .ok (.aload_n 0, 1) := by decide +kernel
theorem dX7_undo_39 : decode cX7_undo 39 = .ok (.getfield 31, 3) := by decide +kernel
theorem dX7_undo_42 : decode cX7_undo 42 = .ok (.bipush 21, 2) := by decide +kernel
theorem dX7_undo_44 : decode cX7_undo 44 = .ok (.aload_n 0, 1) := by decide +kernel
theorem dX7_undo_45 : decode cX7_undo 45 = .ok (.getfield 94, 3) := by decide +kernel
theorem dX7_undo_48 : decode cX7_undo 48 = .ok (.imul, 1) := by decide +kernel
theorem dX7_undo_49 : decode cX7_undo 49 = .ok (.iload_n 1, 1) := by decide +kernel
theorem dX7_undo_50 : decode cX7_undo 50 = .ok (.iadd, 1) := by decide +kernel
theorem dX7_undo_51 : decode cX7_undo 51 = .ok (.iaload, 1) := by decide +kernel
theorem dX7_undo_52 : decode cX7_undo 52 = .ok (.iastore, 1) := by decide +kernel
theorem dX7_undo_53 : decode cX7_undo 53 = .ok (.iinc 1 1, 3) := by decide +kernel
theorem dX7_undo_56 : decode cX7_undo 56 = .ok (.goto (-29), 3) := by decide +kernel
theorem dX7_undo_59 : decode cX7_undo 59 = .ok (.aload_n 0, 1) := by decide +kernel
theorem dX7_undo_60 : decode cX7_undo 60 = .ok (.getfield 94, 3) := by decide +kernel
theorem dX7_undo_63 : decode cX7_undo 63 = .ok (.ireturn, 1) := by decide +kernel
theorem dX7_begin_0 : decode cX7_begin 0 = .ok (.iconst 0, 1) := by decide +kernel
theorem dX7_begin_1 : decode cX7_begin 1 = .ok (.istore_n 1, 1) := by decide +kernel
theorem dX7_begin_2 : decode cX7_begin 2 = .ok (.iload_n 1, 1) := by decide +kernel
theorem dX7_begin_3 : decode cX7_begin 3 = .ok (.bipush 21, 2) := by decide +kernel
theorem dX7_begin_5 : decode cX7_begin 5 = .ok (.if_icmp .ge 21, 3) := by decide +kernel
theorem dX7_begin_8 : decode cX7_begin 8 = .ok (.aload_n 0, 1) := by decide +kernel
theorem dX7_begin_9 : decode cX7_begin 9 = .ok (.getfield 28, 3) := by decide +kernel
theorem dX7_begin_12 : decode cX7_begin 12 = .ok (.iload_n 1, 1) := by decide +kernel
theorem dX7_begin_13 : decode cX7_begin 13 = .ok (.aload_n 0, 1) := by decide +kernel
theorem dX7_begin_14 : decode cX7_begin 14 = .ok (.getfield 25, 3) := by decide +kernel
theorem dX7_begin_17 : decode cX7_begin 17 = .ok (.iload_n 1, 1) := by decide +kernel
theorem dX7_begin_18 : decode cX7_begin 18 = .ok (.iaload, 1) := by decide +kernel
theorem dX7_begin_19 : decode cX7_begin 19 = .ok (.iastore, 1) := by decide +kernel
theorem dX7_begin_20 : decode cX7_begin 20 = .ok (.iinc 1 1, 3) := by decide +kernel
theorem dX7_begin_23 : decode cX7_begin 23 = .ok (.goto (-21), 3) := by decide +kernel
theorem dX7_begin_26 : decode cX7_begin 26 = .ok (.return_, 1) := by decide +kernel
theorem dX7_power_0 : decode cX7_power 0 = .ok (.iconst 1, 1) := by decide +kernel
theorem dX7_power_1 : decode cX7_power 1 = .ok (.istore_n 2, 1) := by decide +kernel
theorem dX7_power_2 : decode cX7_power 2 = .ok (.iconst 0, 1) := by decide +kernel
theorem dX7_power_3 : decode cX7_power 3 = .ok (.istore_n 3, 1) := by decide +kernel
theorem dX7_power_4 : decode cX7_power 4 = .ok (.iload_n 3, 1) := by decide +kernel
theorem dX7_power_5 : decode cX7_power 5 = .ok (.iload_n 1, 1) := by decide +kernel
theorem dX7_power_6 : decode cX7_power 6 = .ok (.if_icmp .ge 13, 3) := by decide +kernel
theorem dX7_power_9 : decode cX7_power 9 = .ok (.iload_n 2, 1) := by decide +kernel
theorem dX7_power_10 : decode cX7_power 10 = .ok (.iload_n 0, 1) := by decide +kernel
theorem dX7_power_11 : decode cX7_power 11 = .ok (.imul, 1) := by decide +kernel
theorem dX7_power_12 : decode cX7_power 12 = .ok (.istore_n 2, 1) := by decide +kernel
theorem dX7_power_13 : decode cX7_power 13 = .ok (.iinc 3 1, 3) := by decide +kernel
theorem dX7_power_16 : decode cX7_power 16 = .ok (.goto (-12), 3) := by decide +kernel
theorem dX7_power_19 : decode cX7_power 19 = .ok (.iload_n 2, 1) := by decide +kernel
theorem dX7_power_20 : decode cX7_power 20 = .ok (.ireturn, 1) := by decide +kernel
set_option maxRecDepth 20000 in
theorem ggX7_doesBy_X7_begin : GoodIn wsX7_doesBy wsX7_begin := goodIn_r _ [6, 1, 7, 28, 29, 30, 31, 32, 33, 34, 35, 36, 37, 38, 39, 40, 41, 42, 43, 44, 45, 46, 47, 48, 49, 50, 51, 52, 53, 54, 55, 56, 57, 58] (by decide +kernel) (by decide +kernel)
set_option maxRecDepth 20000 in
theorem gX7_doesBy_X7_begin : GoodIn wsX7_doesBy (wsV RX7 135 RX7 yX7_begin wsX7_begin) := goodIn_app (goodIn_of _ (by decide +kernel)) ggX7_doesBy_X7_begin
set_option maxRecDepth 20000 in
theorem ggX7_doesBy_X7_power : GoodIn wsX7_doesBy wsX7_power := goodIn_r _ [10] (by decide +kernel) (by decide +kernel)
set_option maxRecDepth 20000 in
theorem gX7_doesBy_X7_power : GoodIn wsX7_doesBy (va_wsS RX7 138 yX7_power wsX7_power) := goodIn_app (goodIn_of _ (by decide +kernel)) ggX7_doesBy_X7_power
set_option maxRecDepth 20000 in
theorem ggX7_doesBy_X7_goHand : GoodIn wsX7_doesBy wsX7_goHand := goodIn_r _ [14, 15, 16, 17, 18, 5, 19, 20, 21, 22, 23, 24, 25, 26, 27, 28, 29, 30, 31, 32, 33, 34, 35, 36, 37, 38, 39, 40, 41, 42, 43, 44, 45, 46, 47, 48, 49, 50, 51, 52, 53, 54, 55, 56, 57, 58] (by decide +kernel) (by decide +kernel)
set_option maxRecDepth 20000 in
theorem gX7_doesBy_X7_goHand : GoodIn wsX7_doesBy (wsV RX7 141 RX7 yX7_goHand wsX7_goHand) := goodIn_app (goodIn_of _ (by decide +kernel)) ggX7_doesBy_X7_goHand
theorem dX7_doesBy_0 : decode cX7_doesBy 0 = .ok (.aload_n 0, 1) := by decide +kernel
theorem dX7_doesBy_1 : decode cX7_doesBy 1 = .ok (.invokevirtual 135, 3) := by decide +kernel
theorem dX7_doesBy_4 : decode cX7_doesBy 4 = .ok (.iconst 0, 1) := by decide +kernel
theorem dX7_doesBy_5 : decode cX7_doesBy 5 = .ok (.istore 4, 2) := by decide +kernel
theorem dX7_doesBy_7 : decode cX7_doesBy 7 = .ok (.iload_n 2, 1) := by decide +kernel
theorem dX7_doesBy_8 : decode cX7_doesBy 8 = .ok (.iconst 1, 1) := by decide +kernel
theorem dX7_doesBy_9 : decode cX7_doesBy 9 = .ok (.isub, 1) := by decide +kernel
theorem dX7_doesBy_10 : decode cX7_doesBy 10 = .ok (.istore 5, 2) := by decide +kernel
theorem dX7_doesBy_12 : decode cX7_doesBy 12 = .ok (.iload 5, 2) := by decide +kernel
theorem dX7_doesBy_14 : decode cX7_doesBy 14 = .ok (.ifCond .lt 34, 3) := by decide +kernel
theorem dX7_doesBy_17 : decode cX7_doesBy 17 = .ok (.aload_n 0, 1) := by decide +kernel
theorem dX7_doesBy_18 : decode cX7_doesBy 18 = .ok (.aload_n 0, 1) := by decide +kernel
theorem dX7_doesBy_19 : decode cX7_doesBy 19 = .ok (.getfield 28, 3) := by decide +kernel
theorem dX7_doesBy_22 : decode cX7_doesBy 22 = .ok (.iload_n 1, 1) := by decide +kernel
theorem dX7_doesBy_23 : decode cX7_doesBy 23 = .ok (.iload_n 3, 1) := by decide +kernel
theorem dX7_doesBy_24 : decode cX7_doesBy 24 = .ok (.bipush 10, 2) := by decide +kernel
theorem dX7_doesBy_26 : decode cX7_doesBy 26 = .ok (.iload 5, 2) := by decide +kernel
theorem dX7_doesBy_28 : decode cX7_doesBy 28 = .ok (.invokestatic 138, 3) := by decide +kernel
theorem dX7_doesBy_31 : decode cX7_doesBy 31 = .ok (.idiv, 1) := by decide +kernel
theorem dX7_doesBy_32 : decode cX7_doesBy 32 = .ok (.bipush 10, 2) := by decide +kernel
theorem dX7_doesBy_34 : decode cX7_doesBy 34 = .ok (.irem, 1) := by decide +kernel
theorem dX7_doesBy_35 : decode cX7_doesBy 35 = .ok (.iconst 1, 1) := by decide +kernel
theorem dX7_doesBy_36 : decode cX7_doesBy 36 = .ok (.isub, 1) := by decide +kernel
theorem dX7_doesBy_37 : decode cX7_doesBy 37 = .ok (.invokevirtual 141, 3) := by decide +kernel
theorem dX7_doesBy_40 : decode cX7_doesBy 40 = .ok (.istore 4, 2) := by decide +kernel
theorem dX7_doesBy_42 : decode cX7_doesBy 42 = .ok (.iinc 5 (-1), 3) := by decide +kernel
theorem dX7_doesBy_45 : decode cX7_doesBy 45 = .ok (.goto (-33), 3) := by decide +kernel
theorem dX7_doesBy_48 : decode cX7_doesBy 48 = .ok (.iload 4, 2) := by decide +kernel
theorem dX7_doesBy_50 : decode cX7_doesBy 50 = .ok (.ireturn, 1) := by decide +kernel
set_option maxRecDepth 20000 in
theorem ggX7_noRow_X7_in : GoodIn wsX7_noRow wsX7_in := goodIn_r _ [6] (by decide +kernel) (by decide +kernel)
set_option maxRecDepth 20000 in
theorem gX7_noRow_X7_in : GoodIn wsX7_noRow (va_wsS RX7 57 yX7_in wsX7_in) := goodIn_app (goodIn_of _ (by decide +kernel)) ggX7_noRow_X7_in
set_option maxRecDepth 20000 in
theorem ggX7_noRow_X7_power : GoodIn wsX7_noRow wsX7_power := goodIn_r _ [9] (by decide +kernel) (by decide +kernel)
set_option maxRecDepth 20000 in
theorem gX7_noRow_X7_power : GoodIn wsX7_noRow (va_wsS RX7 138 yX7_power wsX7_power) := goodIn_app (goodIn_of _ (by decide +kernel)) ggX7_noRow_X7_power
theorem dX7_noRow_0 : decode cX7_noRow 0 = .ok (.iload_n 1, 1) := by decide +kernel
theorem dX7_noRow_1 : decode cX7_noRow 1 = .ok (.i2l, 1) := by decide +kernel
theorem dX7_noRow_2 : decode cX7_noRow 2 = .ok (.lconst 1, 1) := by decide +kernel
theorem dX7_noRow_3 : decode cX7_noRow 3 = .ok (.ldc2_w 144, 3) := by decide +kernel
theorem dX7_noRow_6 : decode cX7_noRow 6 = .ok (.invokestatic 57, 3) := by decide +kernel
theorem dX7_noRow_9 : decode cX7_noRow 9 = .ok (.ifCond .eq 21, 3) := by decide +kernel
theorem dX7_noRow_12 : decode cX7_noRow 12 = .ok (.iload_n 2, 1) := by decide +kernel
theorem dX7_noRow_13 : decode cX7_noRow 13 = .ok (.i2l, 1) := by decide +kernel
theorem dX7_noRow_14 : decode cX7_noRow 14 = .ok (.lconst 0, 1) := by decide +kernel
theorem dX7_noRow_15 : decode cX7_noRow 15 = .ok (.bipush 10, 2) := by decide +kernel
theorem dX7_noRow_17 : decode cX7_noRow 17 = .ok (.iload_n 1, 1) := by decide +kernel
theorem dX7_noRow_18 : decode cX7_noRow 18 = .ok (.invokestatic 138, 3) := by decide +kernel
theorem dX7_noRow_21 : decode cX7_noRow 21 = .ok (.iconst 1, 1) := by decide +kernel
theorem dX7_noRow_22 : decode cX7_noRow 22 = .ok (.isub, 1) := by decide +kernel
theorem dX7_noRow_23 : decode cX7_noRow 23 = .ok (.i2l, 1) := by decide +kernel
theorem dX7_noRow_24 : decode cX7_noRow 24 = .ok (.invokestatic 57, 3) := by decide +kernel
theorem dX7_noRow_27 : decode cX7_noRow 27 = .ok (.ifCond .ne 5, 3) := by decide +kernel
theorem dX7_noRow_30 : decode cX7_noRow 30 = .ok (.iconst 1, 1) := by decide +kernel
theorem dX7_noRow_31 : decode cX7_noRow 31 = .ok (.ireturn, 1) := by decide +kernel
theorem dX7_noRow_32 : decode cX7_noRow 32 = .ok (.iconst 1, 1) := by decide +kernel
theorem dX7_noRow_33 : decode cX7_noRow 33 = .ok (.istore_n 3, 1) := by decide +kernel
theorem dX7_noRow_34 : decode cX7_noRow 34 = .ok (.iconst 0, 1) := by decide +kernel
theorem dX7_noRow_35 : decode cX7_noRow 35 = .ok (.istore 4, 2) := by decide +kernel
theorem dX7_noRow_37 : decode cX7_noRow 37 = .ok (.iload 4, 2) := by decide +kernel
theorem dX7_noRow_39 : decode cX7_noRow 39 = .ok (.iload_n 1, 1) := by decide +kernel
theorem dX7_noRow_40 : decode cX7_noRow 40 = .ok (.if_icmp .ge 44, 3) := by decide +kernel
theorem dX7_noRow_43 : decode cX7_noRow 43 = .ok (.iload_n 3, 1) := by decide +kernel
theorem dX7_noRow_44 : decode cX7_noRow 44 = .ok (.ifCond .eq 32, 3) := by decide +kernel
theorem dX7_noRow_47 : decode cX7_noRow 47 = .ok (.iload_n 2, 1) := by decide +kernel
theorem dX7_noRow_48 : decode cX7_noRow 48 = .ok (.bipush 10, 2) := by decide +kernel
theorem dX7_noRow_50 : decode cX7_noRow 50 = .ok (.iload 4, 2) := by decide +kernel
theorem dX7_noRow_52 : decode cX7_noRow 52 = .ok (.invokestatic 138, 3) := by decide +kernel
theorem dX7_noRow_55 : decode cX7_noRow 55 = .ok (.idiv, 1) := by decide +kernel
theorem dX7_noRow_56 : decode cX7_noRow 56 = .ok (.bipush 10, 2) := by decide +kernel
theorem dX7_noRow_58 : decode cX7_noRow 58 = .ok (.irem, 1) := by decide +kernel
theorem dX7_noRow_59 : decode cX7_noRow 59 = .ok (.i2l, 1) := by decide +kernel
theorem dX7_noRow_60 : decode cX7_noRow 60 = .ok (.lconst 1, 1) := by decide +kernel
theorem dX7_noRow_61 : decode cX7_noRow 61 = .ok (.aload_n 0, 1) := by decide +kernel
theorem dX7_noRow_62 : decode cX7_noRow 62 = .ok (.getfield 54, 3) := by decide +kernel
theorem dX7_noRow_65 : decode cX7_noRow 65 = .ok (.i2l, 1) := by decide +kernel
theorem dX7_noRow_66 : decode cX7_noRow 66 = .ok (.invokestatic 57, 3) := by decide +kernel
theorem dX7_noRow_69 : decode cX7_noRow 69 = .ok (.ifCond .eq 7, 3) := by decide +kernel
theorem dX7_noRow_72 : decode cX7_noRow 72 = .ok (.iconst 1, 1) := by decide +kernel
theorem dX7_noRow_73 : decode cX7_noRow 73 = .ok (.goto 4, 3) := by decide +kernel
theorem dX7_noRow_76 : decode cX7_noRow 76 = .ok (.iconst 0, 1) := by decide +kernel
theorem dX7_noRow_77 : decode cX7_noRow 77 = .ok (.istore_n 3, 1) := by decide +kernel
theorem dX7_noRow_78 : decode cX7_noRow 78 = .ok (.iinc 4 1, 3) := by decide +kernel
theorem dX7_noRow_81 : decode cX7_noRow 81 = .ok (.goto (-44), 3) := by decide +kernel
theorem dX7_noRow_84 : decode cX7_noRow 84 = .ok (.iload_n 3, 1) := by decide +kernel
theorem dX7_noRow_85 : decode cX7_noRow 85 = .ok (.ifCond .ne 7, 3) := by decide +kernel
theorem dX7_noRow_88 : decode cX7_noRow 88 = .ok (.iconst 1, 1) := by decide +kernel
theorem dX7_noRow_89 : decode cX7_noRow 89 = .ok (.goto 4, 3) := by decide +kernel
theorem dX7_noRow_92 : decode cX7_noRow 92 = .ok (.iconst 0, 1) := by decide +kernel
theorem dX7_noRow_93 : decode cX7_noRow 93 = .ok (.ireturn, 1) := by decide +kernel
set_option maxRecDepth 20000 in
theorem ggX7_does_X7_noGlove : GoodIn wsX7_does wsX7_noGlove := goodIn_r _ [7, 8, 9, 10, 6, 11, 51, 52, 53, 54, 55, 56, 57, 58, 59, 60, 61, 62, 63, 64, 65, 66, 67, 68, 69, 70, 71, 72, 73, 74, 75, 76, 77, 78, 79, 80, 81] (by decide +kernel) (by decide +kernel)
set_option maxRecDepth 20000 in
theorem gX7_does_X7_noGlove : GoodIn wsX7_does (wsV RX7 125 RX7 yX7_noGlove wsX7_noGlove) := goodIn_app (goodIn_of _ (by decide +kernel)) ggX7_does_X7_noGlove
set_option maxRecDepth 20000 in
theorem ggX7_does_X7_noRow : GoodIn wsX7_does wsX7_noRow := goodIn_r _ [15, 16, 17, 9, 10, 6, 11, 18, 19, 20, 51, 52, 53, 54, 55, 56, 57, 58, 59, 60, 61, 62, 63, 64, 65, 66, 67, 68, 69, 70, 71, 72, 73, 74, 75, 76, 77, 78, 79, 80, 81] (by decide +kernel) (by decide +kernel)
set_option maxRecDepth 20000 in
theorem gX7_does_X7_noRow : GoodIn wsX7_does (wsV RX7 146 RX7 yX7_noRow wsX7_noRow) := goodIn_app (goodIn_of _ (by decide +kernel)) ggX7_does_X7_noRow
set_option maxRecDepth 20000 in
theorem ggX7_does_X7_isWorn : GoodIn wsX7_does wsX7_isWorn := goodIn_r _ [24] (by decide +kernel) (by decide +kernel)
set_option maxRecDepth 20000 in
theorem gX7_does_X7_isWorn : GoodIn wsX7_does (wsV RX7 109 RX7 yX7_isWorn wsX7_isWorn) := goodIn_app (goodIn_of _ (by decide +kernel)) ggX7_does_X7_isWorn
set_option maxRecDepth 20000 in
theorem ggX7_does_X7_doesBy : GoodIn wsX7_does wsX7_doesBy := goodIn_r _ [28, 29, 30, 31, 32, 6, 33, 2, 18, 19, 20, 34, 35, 36, 37, 38, 39, 40, 41, 42, 43, 44, 45, 46, 47, 48, 49, 50, 51, 52, 53, 54, 55, 56, 57, 58, 59, 60, 61, 62, 63, 64, 65, 66, 67, 68, 69, 70, 71, 72, 73, 74, 75, 76, 77, 78, 79, 80, 81] (by decide +kernel) (by decide +kernel)
set_option maxRecDepth 20000 in
theorem gX7_does_X7_doesBy : GoodIn wsX7_does (wsV RX7 150 RX7 yX7_doesBy wsX7_doesBy) := goodIn_app (goodIn_of _ (by decide +kernel)) ggX7_does_X7_doesBy
theorem dX7_does_0 : decode cX7_does 0 = .ok (.aload_n 0, 1) := by decide +kernel
theorem dX7_does_1 : decode cX7_does 1 = .ok (.iconst 0, 1) := by decide +kernel
theorem dX7_does_2 : decode cX7_does 2 = .ok (.putfield 50, 3) := by decide +kernel
theorem dX7_does_5 : decode cX7_does 5 = .ok (.aload_n 0, 1) := by decide +kernel
theorem dX7_does_6 : decode cX7_does 6 = .ok (.iload_n 1, 1) := by decide +kernel
theorem dX7_does_7 : decode cX7_does 7 = .ok (.invokevirtual 125, 3) := by decide +kernel
theorem dX7_does_10 : decode cX7_does 10 = .ok (.ifCond .eq 5, 3) := by decide +kernel
theorem dX7_does_13 : decode cX7_does 13 = .ok (.iconst (-1), 1) := by decide +kernel
theorem dX7_does_14 : decode cX7_does 14 = .ok (.ireturn, 1) := by decide +kernel
theorem dX7_does_15 : decode cX7_does 15 = .ok (.aload_n 0, 1) := by decide +kernel
theorem dX7_does_16 : decode cX7_does 16 = .ok (.iload_n 2, 1) := by decide +kernel
theorem dX7_does_17 : decode cX7_does 17 = .ok (.iload_n 3, 1) := by decide +kernel
theorem dX7_does_18 : decode cX7_does 18 = .ok (.invokevirtual 146, 3) := by decide +kernel
theorem dX7_does_21 : decode cX7_does 21 = .ok (.ifCond .eq 6, 3) := by decide +kernel
theorem dX7_does_24 : decode cX7_does 24 = .ok (.bipush (-2), 2) := by decide +kernel
theorem dX7_does_26 : decode cX7_does 26 = .ok (.ireturn, 1) := by decide +kernel
theorem dX7_does_27 : decode cX7_does 27 = .ok (.aload_n 0, 1) := by decide +kernel
theorem dX7_does_28 : decode cX7_does 28 = .ok (.aload_n 0, 1) := by decide +kernel
theorem dX7_does_29 : decode cX7_does 29 = .ok (.getfield 25, 3) := by decide +kernel
theorem dX7_does_32 : decode cX7_does 32 = .ok (.iload_n 1, 1) := by decide +kernel
theorem dX7_does_33 : decode cX7_does 33 = .ok (.invokevirtual 109, 3) := by decide +kernel
theorem dX7_does_36 : decode cX7_does 36 = .ok (.ifCond .eq 8, 3) := by decide +kernel
theorem dX7_does_39 : decode cX7_does 39 = .ok (.bipush (-3), 2) := by decide +kernel
theorem dX7_does_41 : decode cX7_does 41 = .ok (.goto 10, 3) := by decide +kernel
theorem dX7_does_44 : decode cX7_does 44 = .ok (.aload_n 0, 1) := by decide +kernel
theorem dX7_does_45 : decode cX7_does 45 = .ok (.iload_n 1, 1) := by decide +kernel
theorem dX7_does_46 : decode cX7_does 46 = .ok (.iload_n 2, 1) := by decide +kernel
theorem dX7_does_47 : decode cX7_does 47 = .ok (.iload_n 3, 1) := by decide +kernel
theorem dX7_does_48 : decode cX7_does 48 = .ok (.invokevirtual 150, 3) := by decide +kernel
theorem dX7_does_51 : decode cX7_does 51 = .ok (.ireturn, 1) := by decide +kernel
set_option maxRecDepth 20000 in
theorem ggX7_findComes_X7_power : GoodIn wsX7_findComes wsX7_power := goodIn_r _ [6] (by decide +kernel) (by decide +kernel)
set_option maxRecDepth 20000 in
theorem gX7_findComes_X7_power : GoodIn wsX7_findComes (va_wsS RX7 138 yX7_power wsX7_power) := goodIn_app (goodIn_of _ (by decide +kernel)) ggX7_findComes_X7_power
set_option maxRecDepth 20000 in
theorem ggX7_findComes_X7_noRow : GoodIn wsX7_findComes wsX7_noRow := goodIn_r _ [10, 11, 12, 13, 14, 5, 15, 3, 4, 6, 43, 44, 45, 46, 47, 48, 49, 50, 51, 52, 53, 54, 55, 56, 57, 58, 59, 60, 61, 62, 63, 64, 65, 66, 67, 68, 69, 70, 71, 72, 73] (by decide +kernel) (by decide +kernel)
set_option maxRecDepth 20000 in
theorem gX7_findComes_X7_noRow : GoodIn wsX7_findComes (wsV RX7 146 RX7 yX7_noRow wsX7_noRow) := goodIn_app (goodIn_of _ (by decide +kernel)) ggX7_findComes_X7_noRow
set_option maxRecDepth 20000 in
theorem ggX7_findComes_X7_doesBy : GoodIn wsX7_findComes wsX7_doesBy := goodIn_r _ [19, 20, 21, 22, 23, 5, 24, 25, 3, 4, 6, 26, 27, 28, 29, 30, 31, 32, 33, 34, 35, 36, 37, 38, 39, 40, 41, 42, 43, 44, 45, 46, 47, 48, 49, 50, 51, 52, 53, 54, 55, 56, 57, 58, 59, 60, 61, 62, 63, 64, 65, 66, 67, 68, 69, 70, 71, 72, 73] (by decide +kernel) (by decide +kernel)
set_option maxRecDepth 20000 in
theorem gX7_findComes_X7_doesBy : GoodIn wsX7_findComes (wsV RX7 150 RX7 yX7_doesBy wsX7_doesBy) := goodIn_app (goodIn_of _ (by decide +kernel)) ggX7_findComes_X7_doesBy
theorem dX7_findComes_0 : decode cX7_findComes 0 = .ok (.aload_n 0, 1) := by decide +kernel
theorem dX7_findComes_1 : decode cX7_findComes 1 = .ok (.bipush (-9), 2) := by decide +kernel
theorem dX7_findComes_3 : decode cX7_findComes 3 = .ok (.putfield 154, 3) := by decide +kernel
theorem dX7_findComes_6 : decode cX7_findComes 6 = .ok (.aload_n 0, 1) := by decide +kernel
theorem dX7_findComes_7 : decode cX7_findComes 7 = .ok (.bipush (-9), 2) := by decide +kernel
theorem dX7_findComes_9 : decode cX7_findComes 9 = .ok (.putfield 157, 3) := by decide +kernel
theorem dX7_findComes_12 : decode cX7_findComes 12 = .ok (.iconst 1, 1) := by decide +kernel
theorem dX7_findComes_13 : decode cX7_findComes 13 = .ok (.istore_n 3, 1) := by decide +kernel
theorem dX7_findComes_14 : decode cX7_findComes 14 = .ok (.iload_n 3, 1) := by decide +kernel
theorem dX7_findComes_15 : decode cX7_findComes 15 = .ok (.iconst 4, 1) := by decide +kernel
theorem dX7_findComes_16 : decode cX7_findComes 16 = .ok (.if_icmp .gt 80, 3) := by decide +kernel
theorem dX7_findComes_19 : decode cX7_findComes 19 = .ok (.aload_n 0, 1) := by decide +kernel
theorem dX7_findComes_20 : decode cX7_findComes 20 = .ok (.getfield 154, 3) := by decide +kernel
theorem dX7_findComes_23 : decode cX7_findComes 23 = .ok (.bipush (-9), 2) := by decide +kernel
theorem dX7_findComes_25 : decode cX7_findComes 25 = .ok (.if_icmp .ne 71, 3) := by decide +kernel
theorem dX7_findComes_28 : decode cX7_findComes 28 = .ok (.iconst 0, 1) := by decide +kernel
theorem dX7_findComes_29 : decode cX7_findComes 29 = .ok (.istore 4, 2) := by decide +kernel
theorem dX7_findComes_31 : decode cX7_findComes 31 = .ok (.iload 4, 2) := by decide +kernel
theorem dX7_findComes_33 : decode cX7_findComes 33 = .ok (.bipush 10, 2) := by decide +kernel
theorem dX7_findComes_35 : decode cX7_findComes 35 = .ok (.iload_n 3, 1) := by decide +kernel
theorem dX7_findComes_36 : decode cX7_findComes 36 = .ok (.invokestatic 138, 3) := by decide +kernel
theorem dX7_findComes_39 : decode cX7_findComes 39 = .ok (.if_icmp .ge 51, 3) := by decide +kernel
theorem dX7_findComes_42 : decode cX7_findComes 42 = .ok (.aload_n 0, 1) := by decide +kernel
theorem dX7_findComes_43 : decode cX7_findComes 43 = .ok (.getfield 154, 3) := by decide +kernel
theorem dX7_findComes_46 : decode cX7_findComes 46 = .ok (.bipush (-9), 2) := by decide +kernel
theorem dX7_findComes_48 : decode cX7_findComes 48 = .ok (.if_icmp .ne 42, 3) := by decide +kernel
theorem dX7_findComes_51 : decode cX7_findComes 51 = .ok (.aload_n 0, 1) := by decide +kernel
theorem dX7_findComes_52 : decode cX7_findComes 52 = .ok (.iload_n 3, 1) := by decide +kernel
theorem dX7_findComes_53 : decode cX7_findComes 53 = .ok (.iload 4, 2) := by decide +kernel
theorem dX7_findComes_55 : decode cX7_findComes 55 = .ok (.invokevirtual 146, 3) := by decide +kernel
theorem dX7_findComes_58 : decode cX7_findComes 58 = .ok (.ifCond .ne 26, 3) := by decide +kernel
theorem dX7_findComes_61 : decode cX7_findComes 61 = .ok (.aload_n 0, 1) := by decide +kernel
theorem dX7_findComes_62 : decode cX7_findComes 62 = .ok (.iload_n 1, 1) := by decide +kernel
theorem dX7_findComes_63 : decode cX7_findComes 63 = .ok (.iload_n 3, 1) := by decide +kernel
theorem dX7_findComes_64 : decode cX7_findComes 64 = .ok (.iload 4, 2) := by decide +kernel
theorem dX7_findComes_66 : decode cX7_findComes 66 = .ok (.invokevirtual 150, 3) := by decide +kernel
theorem dX7_findComes_69 : decode cX7_findComes 69 = .ok (.iload_n 2, 1) := by decide +kernel
theorem dX7_findComes_70 : decode cX7_findComes 70 = .ok (.if_icmp .ne 14, 3) := by decide +kernel
theorem dX7_findComes_73 : decode cX7_findComes 73 = .ok (.aload_n 0, 1) := by decide +kernel
theorem dX7_findComes_74 : decode cX7_findComes 74 = .ok (.iload_n 3, 1) := by decide +kernel
theorem dX7_findComes_75 : decode cX7_findComes 75 = .ok (.putfield 154, 3) := by decide +kernel
theorem dX7_findComes_78 : decode cX7_findComes 78 = .ok (.aload_n 0, 1) := by decide +kernel
theorem dX7_findComes_79 : decode cX7_findComes 79 = .ok (.iload 4, 2) := by decide +kernel
theorem dX7_findComes_81 : decode cX7_findComes 81 = .ok (.putfield 157, 3) := by decide +kernel
theorem dX7_findComes_84 : decode cX7_findComes 84 = .ok (.iinc 4 1, 3) := by decide +kernel
theorem dX7_findComes_87 : decode cX7_findComes 87 = .ok (.goto (-56), 3) := by decide +kernel
theorem dX7_findComes_90 : decode cX7_findComes 90 = .ok (.iinc 3 1, 3) := by decide +kernel
theorem dX7_findComes_93 : decode cX7_findComes 93 = .ok (.goto (-79), 3) := by decide +kernel
theorem dX7_findComes_96 : decode cX7_findComes 96 = .ok (.return_, 1) := by decide +kernel
set_option maxRecDepth 20000 in
theorem ggX7_comes_X7_noGlove : GoodIn wsX7_comes wsX7_noGlove := goodIn_r _ [10, 11, 12, 13, 9, 14, 58, 59, 60, 61, 62, 63, 64, 65, 66, 67, 68, 69, 70, 71, 72, 73, 74, 75, 76, 77, 78, 79, 80, 81, 82, 83, 84, 85, 86, 87, 88] (by decide +kernel) (by decide +kernel)
set_option maxRecDepth 20000 in
theorem gX7_comes_X7_noGlove : GoodIn wsX7_comes (wsV RX7 125 RX7 yX7_noGlove wsX7_noGlove) := goodIn_app (goodIn_of _ (by decide +kernel)) ggX7_comes_X7_noGlove
set_option maxRecDepth 20000 in
theorem ggX7_comes_X7_in : GoodIn wsX7_comes wsX7_in := goodIn_r _ [14] (by decide +kernel) (by decide +kernel)
set_option maxRecDepth 20000 in
theorem gX7_comes_X7_in : GoodIn wsX7_comes (va_wsS RX7 57 yX7_in wsX7_in) := goodIn_app (goodIn_of _ (by decide +kernel)) ggX7_comes_X7_in
set_option maxRecDepth 20000 in
theorem ggX7_comes_X7_isWorn : GoodIn wsX7_comes wsX7_isWorn := goodIn_r _ [18] (by decide +kernel) (by decide +kernel)
set_option maxRecDepth 20000 in
theorem gX7_comes_X7_isWorn : GoodIn wsX7_comes (wsV RX7 109 RX7 yX7_isWorn wsX7_isWorn) := goodIn_app (goodIn_of _ (by decide +kernel)) ggX7_comes_X7_isWorn
set_option maxRecDepth 20000 in
theorem ggX7_comes_X7_findComes : GoodIn wsX7_comes wsX7_findComes := goodIn_r _ [22, 4, 5, 23, 24, 9, 25, 26, 27, 28, 29, 30, 31, 12, 13, 14, 32, 33, 34, 35, 36, 37, 38, 39, 40, 3, 41, 42, 43, 44, 45, 46, 47, 48, 49, 50, 51, 52, 53, 54, 55, 56, 57, 58, 59, 60, 61, 62, 63, 64, 65, 66, 67, 68, 69, 70, 71, 72, 73, 74, 75, 76, 77, 78, 79, 80, 81, 82, 83, 84, 85, 86, 87, 88] (by decide +kernel) (by decide +kernel)
set_option maxRecDepth 20000 in
theorem gX7_comes_X7_findComes : GoodIn wsX7_comes (wsV RX7 162 RX7 yX7_findComes wsX7_findComes) := goodIn_app (goodIn_of _ (by decide +kernel)) ggX7_comes_X7_findComes
theorem dX7_comes_0 : decode cX7_comes 0 = .ok (.aload_n 0, 1) := by decide +kernel
theorem dX7_comes_1 : decode cX7_comes 1 = .ok (.iconst 0, 1) := by decide +kernel
theorem dX7_comes_2 : decode cX7_comes 2 = .ok (.putfield 50, 3) := by decide +kernel
theorem dX7_comes_5 : decode cX7_comes 5 = .ok (.aload_n 0, 1) := by decide +kernel
theorem dX7_comes_6 : decode cX7_comes 6 = .ok (.iload_n 1, 1) := by decide +kernel
theorem dX7_comes_7 : decode cX7_comes 7 = .ok (.invokevirtual 125, 3) := by decide +kernel
theorem dX7_comes_10 : decode cX7_comes 10 = .ok (.ifCond .eq 5, 3) := by decide +kernel
theorem dX7_comes_13 : decode cX7_comes 13 = .ok (.iconst (-1), 1) := by decide +kernel
theorem dX7_comes_14 : decode cX7_comes 14 = .ok (.ireturn, 1) := by decide +kernel
theorem dX7_comes_15 : decode cX7_comes 15 = .ok (.iload_n 2, 1) := by decide +kernel
theorem dX7_comes_16 : decode cX7_comes 16 = .ok (.i2l, 1) := by decide +kernel
theorem dX7_comes_17 : decode cX7_comes 17 = .ok (.lconst 1, 1) := by decide +kernel
theorem dX7_comes_18 : decode cX7_comes 18 = .ok (.ldc2_w 160, 3) := by decide +kernel
theorem dX7_comes_21 : decode cX7_comes 21 = .ok (.invokestatic 57, 3) := by decide +kernel
theorem dX7_comes_24 : decode cX7_comes 24 = .ok (.ifCond .eq 13, 3) := by decide +kernel
theorem dX7_comes_27 : decode cX7_comes 27 = .ok (.iload_n 3, 1) := by decide +kernel
theorem dX7_comes_28 : decode cX7_comes 28 = .ok (.i2l, 1) := by decide +kernel
theorem dX7_comes_29 : decode cX7_comes 29 = .ok (.lconst 0, 1) := by decide +kernel
theorem dX7_comes_30 : decode cX7_comes 30 = .ok (.lconst 1, 1) := by decide +kernel
theorem dX7_comes_31 : decode cX7_comes 31 = .ok (.invokestatic 57, 3) := by decide +kernel
theorem dX7_comes_34 : decode cX7_comes 34 = .ok (.ifCond .ne 6, 3) := by decide +kernel
theorem dX7_comes_37 : decode cX7_comes 37 = .ok (.bipush (-2), 2) := by decide +kernel
