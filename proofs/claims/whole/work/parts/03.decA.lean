set_option maxRecDepth 20000 in
theorem ggX0_init_X2_init : GoodIn wsX0_init wsX2_init := goodIn_r _ [12, 13, 2, 3, 14, 15, 16, 17, 18, 22, 23, 24, 25] (by decide +kernel) (by decide +kernel)
set_option maxRecDepth 20000 in
theorem gX0_init_X2_init : GoodIn wsX0_init (wsX2_init) := ggX0_init_X2_init
theorem dX0_init_0 : decode cX0_init 0 = .ok (.aload_n 0, 1) := by decide +kernel
theorem dX0_init_1 : decode cX0_init 1 = .ok (.invokespecial 3, 3) := by decide +kernel
theorem dX0_init_4 : decode cX0_init 4 = .ok (.aload_n 0, 1) := by decide +kernel
theorem dX0_init_5 : decode cX0_init 5 = .ok (.bipush 14, 2) := by decide +kernel
theorem dX0_init_7 : decode cX0_init 7 = .ok (.anewarray 9, 3) := by decide +kernel
theorem dX0_init_10 : decode cX0_init 10 = .ok (.putfield 11, 3) := by decide +kernel
theorem dX0_init_13 : decode cX0_init 13 = .ok (.iconst 0, 1) := by decide +kernel
theorem dX0_init_14 : decode cX0_init 14 = .ok (.istore_n 1, 1) := by decide +kernel
theorem dX0_init_15 : decode cX0_init 15 = .ok (.iload_n 1, 1) := by decide +kernel
theorem dX0_init_16 : decode cX0_init 16 = .ok (.aload_n 0, 1) := by decide +kernel
theorem dX0_init_17 : decode cX0_init 17 = .ok (.getfield 11, 3) := by decide +kernel
theorem dX0_init_20 : decode cX0_init 20 = .ok (.arraylength, 1) := by decide +kernel
theorem dX0_init_21 : decode cX0_init 21 = .ok (.if_icmp .ge 22, 3) := by decide +kernel
theorem dX0_init_24 : decode cX0_init 24 = .ok (.aload_n 0, 1) := by decide +kernel
theorem dX0_init_25 : decode cX0_init 25 = .ok (.getfield 11, 3) := by decide +kernel
theorem dX0_init_28 : decode cX0_init 28 = .ok (.iload_n 1, 1) := by decide +kernel
theorem dX0_init_29 : decode cX0_init 29 = .ok (.new 9, 3) := by decide +kernel
theorem dX0_init_32 : decode cX0_init 32 = .ok (.dup, 1) := by decide +kernel
theorem dX0_init_33 : decode cX0_init 33 = .ok (.invokespecial 17, 3) := by decide +kernel
theorem dX0_init_36 : decode cX0_init 36 = .ok (.aastore, 1) := by decide +kernel
theorem dX0_init_37 : decode cX0_init 37 = .ok (.iinc 1 1, 3) := by decide +kernel
theorem dX0_init_40 : decode cX0_init 40 = .ok (.goto (-25), 3) := by decide +kernel
theorem dX0_init_43 : decode cX0_init 43 = .ok (.aload_n 0, 1) := by decide +kernel
theorem dX0_init_44 : decode cX0_init 44 = .ok (.iconst 0, 1) := by decide +kernel
theorem dX0_init_45 : decode cX0_init 45 = .ok (.putfield 18, 3) := by decide +kernel
theorem dX0_init_48 : decode cX0_init 48 = .ok (.aload_n 0, 1) := by decide +kernel
theorem dX0_init_49 : decode cX0_init 49 = .ok (.iconst 0, 1) := by decide +kernel
theorem dX0_init_50 : decode cX0_init 50 = .ok (.putfield 22, 3) := by decide +kernel
theorem dX0_init_53 : decode cX0_init 53 = .ok (.return_, 1) := by decide +kernel
theorem dX0_size_0 : decode cX0_size 0 = .ok (.aload_n 0, 1) := by decide +kernel
theorem dX0_size_1 : decode cX0_size 1 = .ok (.getfield 22, 3) := by decide +kernel
theorem dX0_size_4 : decode cX0_size 4 = .ok (.ireturn, 1) := by decide +kernel
theorem dX0_clear_0 : decode cX0_clear 0 = .ok (.aload_n 0, 1) := by decide +kernel
theorem dX0_clear_1 : decode cX0_clear 1 = .ok (.iconst 0, 1) := by decide +kernel
theorem dX0_clear_2 : decode cX0_clear 2 = .ok (.putfield 22, 3) := by decide +kernel
theorem dX0_clear_5 : decode cX0_clear 5 = .ok (.return_, 1) := by decide +kernel
set_option maxRecDepth 20000 in
theorem ggX0_add_X0_placeAt : GoodIn wsX0_add wsX0_placeAt := goodIn_r _ [7, 2, 8, 21, 22, 23] (by decide +kernel) (by decide +kernel)
set_option maxRecDepth 20000 in
theorem gX0_add_X0_placeAt : GoodIn wsX0_add (wsV RX0 25 RX0 yX0_placeAt wsX0_placeAt) := goodIn_app (goodIn_of _ (by decide +kernel)) ggX0_add_X0_placeAt
set_option maxRecDepth 20000 in
theorem ggX0_add_X2_copy : GoodIn wsX0_add wsX2_copy := goodIn_r _ [13, 14, 15, 16, 17, 18, 19, 20, 24, 25, 26, 27] (by decide +kernel) (by decide +kernel)
set_option maxRecDepth 20000 in
theorem gX0_add_X2_copy : GoodIn wsX0_add (wsV RX0 29 RX2 yX2_copy wsX2_copy) := goodIn_app (goodIn_of _ (by decide +kernel)) ggX0_add_X2_copy
theorem dX0_add_0 : decode cX0_add 0 = .ok (.aload_n 0, 1) := by decide +kernel
theorem dX0_add_1 : decode cX0_add 1 = .ok (.aload_n 0, 1) := by decide +kernel
theorem dX0_add_2 : decode cX0_add 2 = .ok (.getfield 22, 3) := by decide +kernel
theorem dX0_add_5 : decode cX0_add 5 = .ok (.invokevirtual 25, 3) := by decide +kernel
theorem dX0_add_8 : decode cX0_add 8 = .ok (.astore_n 2, 1) := by decide +kernel
theorem dX0_add_9 : decode cX0_add 9 = .ok (.aload_n 2, 1) := by decide +kernel
theorem dX0_add_10 : decode cX0_add 10 = .ok (.ifnull 8, 3) := by decide +kernel
theorem dX0_add_13 : decode cX0_add 13 = .ok (.aload_n 2, 1) := by decide +kernel
theorem dX0_add_14 : decode cX0_add 14 = .ok (.aload_n 1, 1) := by decide +kernel
theorem dX0_add_15 : decode cX0_add 15 = .ok (.invokevirtual 29, 3) := by decide +kernel
theorem dX0_add_18 : decode cX0_add 18 = .ok (.aload_n 0, 1) := by decide +kernel
theorem dX0_add_19 : decode cX0_add 19 = .ok (.getfield 22, 3) := by decide +kernel
theorem dX0_add_22 : decode cX0_add 22 = .ok (.bipush 14, 2) := by decide +kernel
theorem dX0_add_24 : decode cX0_add 24 = .ok (.if_icmp .ge 16, 3) := by decide +kernel
theorem dX0_add_27 : decode cX0_add 27 = .ok (.aload_n 0, 1) := by decide +kernel
theorem dX0_add_28 : decode cX0_add 28 = .ok (.dup, 1) := by decide +kernel
theorem dX0_add_29 : decode cX0_add 29 = .ok (.getfield 22, 3) := by decide +kernel
theorem dX0_add_32 : decode cX0_add 32 = .ok (.iconst 1, 1) := by decide +kernel
theorem dX0_add_33 : decode cX0_add 33 = .ok (.iadd, 1) := by decide +kernel
theorem dX0_add_34 : decode cX0_add 34 = .ok (.putfield 22, 3) := by decide +kernel
theorem dX0_add_37 : decode cX0_add 37 = .ok (.goto 16, 3) := by decide +kernel
theorem dX0_add_40 : decode cX0_add 40 = .ok (.aload_n 0, 1) := by decide +kernel
theorem dX0_add_41 : decode cX0_add 41 = .ok (.aload_n 0, 1) := by decide +kernel
theorem dX0_add_42 : decode cX0_add 42 = .ok (.getfield 18, 3) := by decide +kernel
theorem dX0_add_45 : decode cX0_add 45 = .ok (.iconst 1, 1) := by decide +kernel
theorem dX0_add_46 : decode cX0_add 46 = .ok (.iadd, 1) := by decide +kernel
theorem dX0_add_47 : decode cX0_add 47 = .ok (.bipush 14, 2) := by decide +kernel
theorem dX0_add_49 : decode cX0_add 49 = .ok (.irem, 1) := by decide +kernel
theorem dX0_add_50 : decode cX0_add 50 = .ok (.putfield 18, 3) := by decide +kernel
theorem dX0_add_53 : decode cX0_add 53 = .ok (.return_, 1) := by decide +kernel
set_option maxRecDepth 20000 in
theorem ggX0_giveBackLast_X0_placeAt : GoodIn wsX0_giveBackLast wsX0_placeAt := goodIn_r _ [6, 7, 8, 21, 22, 23] (by decide +kernel) (by decide +kernel)
set_option maxRecDepth 20000 in
theorem gX0_giveBackLast_X0_placeAt : GoodIn wsX0_giveBackLast (wsV RX0 25 RX0 yX0_placeAt wsX0_placeAt) := goodIn_app (goodIn_of _ (by decide +kernel)) ggX0_giveBackLast_X0_placeAt
set_option maxRecDepth 20000 in
theorem ggX0_giveBackLast_X2_copy : GoodIn wsX0_giveBackLast wsX2_copy := goodIn_r _ [13, 14, 15, 16, 17, 18, 19, 20, 24, 25, 26, 27] (by decide +kernel) (by decide +kernel)
set_option maxRecDepth 20000 in
theorem gX0_giveBackLast_X2_copy : GoodIn wsX0_giveBackLast (wsV RX0 29 RX2 yX2_copy wsX2_copy) := goodIn_app (goodIn_of _ (by decide +kernel)) ggX0_giveBackLast_X2_copy
theorem dX0_giveBackLast_0 : decode cX0_giveBackLast 0 = .ok (.aload_n 0, 1) := by decide +kernel
theorem dX0_giveBackLast_1 : decode cX0_giveBackLast 1 = .ok (.getfield 22, 3) := by decide +kernel
theorem dX0_giveBackLast_4 : decode cX0_giveBackLast 4 = .ok (.ifCond .le 31, 3) := by decide +kernel
theorem dX0_giveBackLast_7 : decode cX0_giveBackLast 7 = .ok (.aload_n 0, 1) := by decide +kernel
theorem dX0_giveBackLast_8 : decode cX0_giveBackLast 8 = .ok (.dup, 1) := by decide +kernel
theorem dX0_giveBackLast_9 : decode cX0_giveBackLast 9 = .ok (.getfield 22, 3) := by decide +kernel
theorem dX0_giveBackLast_12 : decode cX0_giveBackLast 12 = .ok (.iconst 1, 1) := by decide +kernel
theorem dX0_giveBackLast_13 : decode cX0_giveBackLast 13 = .ok (.isub, 1) := by decide +kernel
theorem dX0_giveBackLast_14 : decode cX0_giveBackLast 14 = .ok (.putfield 22, 3) := by decide +kernel
theorem dX0_giveBackLast_17 : decode cX0_giveBackLast 17 = .ok (.aload_n 0, 1) := by decide +kernel
theorem dX0_giveBackLast_18 : decode cX0_giveBackLast 18 = .ok (.aload_n 0, 1) := by decide +kernel
theorem dX0_giveBackLast_19 : decode cX0_giveBackLast 19 = .ok (.getfield 22, 3) := by decide +kernel
theorem dX0_giveBackLast_22 : decode cX0_giveBackLast 22 = .ok (.invokevirtual 25, 3) := by decide +kernel
theorem dX0_giveBackLast_25 : decode cX0_giveBackLast 25 = .ok (.astore_n 2, 1) := by decide +kernel
theorem dX0_giveBackLast_26 : decode cX0_giveBackLast 26 = .ok (.aload_n 2, 1) := by decide +kernel
theorem dX0_giveBackLast_27 : decode cX0_giveBackLast 27 = .ok (.ifnull 8, 3) := by decide +kernel
theorem dX0_giveBackLast_30 : decode cX0_giveBackLast 30 = .ok (.aload_n 1, 1) := by decide +kernel
theorem dX0_giveBackLast_31 : decode cX0_giveBackLast 31 = .ok (.aload_n 2, 1) := by decide +kernel
theorem dX0_giveBackLast_32 : decode cX0_giveBackLast 32 = .ok (.invokevirtual 29, 3) := by decide +kernel
theorem dX0_giveBackLast_35 : decode cX0_giveBackLast 35 = .ok (.return_, 1) := by decide +kernel
theorem dX0_placeAt_0 : decode cX0_placeAt 0 = .ok (.aload_n 0, 1) := by decide +kernel
theorem dX0_placeAt_1 : decode cX0_placeAt 1 = .ok (.getfield 18, 3) := by decide +kernel
theorem dX0_placeAt_4 : decode cX0_placeAt 4 = .ok (.iload_n 1, 1) := by decide +kernel
theorem dX0_placeAt_5 : decode cX0_placeAt 5 = .ok (.iadd, 1) := by decide +kernel
theorem dX0_placeAt_6 : decode cX0_placeAt 6 = .ok (.bipush 14, 2) := by decide +kernel
theorem dX0_placeAt_8 : decode cX0_placeAt 8 = .ok (.irem, 1) := by decide +kernel
theorem dX0_placeAt_9 : decode cX0_placeAt 9 = .ok (.istore_n 2, 1) := by decide +kernel
theorem dX0_placeAt_10 : decode cX0_placeAt 10 = .ok (.iload_n 2, 1) := by decide +kernel
theorem dX0_placeAt_11 : decode cX0_placeAt 11 = .ok (.ifCond .lt 21, 3) := by decide +kernel
theorem dX0_placeAt_14 : decode cX0_placeAt 14 = .ok (.iload_n 2, 1) := by decide +kernel
theorem dX0_placeAt_15 : decode cX0_placeAt 15 = .ok (.aload_n 0, 1) := by decide +kernel
theorem dX0_placeAt_16 : decode cX0_placeAt 16 = .ok (.getfield 11, 3) := by decide +kernel
theorem dX0_placeAt_19 : decode cX0_placeAt 19 = .ok (.arraylength, 1) := by decide +kernel
theorem dX0_placeAt_20 : decode cX0_placeAt 20 = .ok (.if_icmp .ge 12, 3) := by decide +kernel
theorem dX0_placeAt_23 : decode cX0_placeAt 23 = .ok (.aload_n 0, 1) := by decide +kernel
theorem dX0_placeAt_24 : decode cX0_placeAt 24 = .ok (.getfield 11, 3) := by decide +kernel
theorem dX0_placeAt_27 : decode cX0_placeAt 27 = .ok (.iload_n 2, 1) := by decide +kernel
theorem dX0_placeAt_28 : decode cX0_placeAt 28 = .ok (.aaload, 1) := by decide +kernel
theorem dX0_placeAt_29 : decode cX0_placeAt 29 = .ok (.goto 4, 3) := by decide +kernel
theorem dX0_placeAt_32 : decode cX0_placeAt 32 = .ok (.aconst_null, 1) := by decide +kernel
theorem dX0_placeAt_33 : decode cX0_placeAt 33 = .ok (.areturn, 1) := by decide +kernel
theorem dX1_init_0 : decode cX1_init 0 = .ok (.aload_n 0, 1) := by decide +kernel
theorem dX1_init_1 : decode cX1_init 1 = .ok (.invokespecial 3, 3) := by decide +kernel
theorem dX1_init_4 : decode cX1_init 4 = .ok (.aload_n 0, 1) := by decide +kernel
theorem dX1_init_5 : decode cX1_init 5 = .ok (.iconst 5, 1) := by decide +kernel
theorem dX1_init_6 : decode cX1_init 6 = .ok (.newarray .int, 2) := by decide +kernel
theorem dX1_init_8 : decode cX1_init 8 = .ok (.putfield 9, 3) := by decide +kernel
theorem dX1_init_11 : decode cX1_init 11 = .ok (.aload_n 0, 1) := by decide +kernel
theorem dX1_init_12 : decode cX1_init 12 = .ok (.iconst 5, 1) := by decide +kernel
theorem dX1_init_13 : decode cX1_init 13 = .ok (.newarray .int, 2) := by decide +kernel
theorem dX1_init_15 : decode cX1_init 15 = .ok (.putfield 15, 3) := by decide +kernel
theorem dX1_init_18 : decode cX1_init 18 = .ok (.aload_n 0, 1) := by decide +kernel
theorem dX1_init_19 : decode cX1_init 19 = .ok (.iconst 5, 1) := by decide +kernel
theorem dX1_init_20 : decode cX1_init 20 = .ok (.newarray .int, 2) := by decide +kernel
theorem dX1_init_22 : decode cX1_init 22 = .ok (.putfield 18, 3) := by decide +kernel
theorem dX1_init_25 : decode cX1_init 25 = .ok (.aload_n 0, 1) := by decide +kernel
theorem dX1_init_26 : decode cX1_init 26 = .ok (.iconst 4, 1) := by decide +kernel
theorem dX1_init_27 : decode cX1_init 27 = .ok (.newarray .int, 2) := by decide +kernel
theorem dX1_init_29 : decode cX1_init 29 = .ok (.putfield 21, 3) := by decide +kernel
theorem dX1_init_32 : decode cX1_init 32 = .ok (.aload_n 0, 1) := by decide +kernel
theorem dX1_init_33 : decode cX1_init 33 = .ok (.iconst 4, 1) := by decide +kernel
theorem dX1_init_34 : decode cX1_init 34 = .ok (.newarray .int, 2) := by decide +kernel
theorem dX1_init_36 : decode cX1_init 36 = .ok (.putfield 24, 3) := by decide +kernel
theorem dX1_init_39 : decode cX1_init 39 = .ok (.aload_n 0, 1) := by decide +kernel
theorem dX1_init_40 : decode cX1_init 40 = .ok (.iconst 4, 1) := by decide +kernel
theorem dX1_init_41 : decode cX1_init 41 = .ok (.newarray .int, 2) := by decide +kernel
theorem dX1_init_43 : decode cX1_init 43 = .ok (.putfield 27, 3) := by decide +kernel
theorem dX1_init_46 : decode cX1_init 46 = .ok (.aload_n 0, 1) := by decide +kernel
theorem dX1_init_47 : decode cX1_init 47 = .ok (.iconst 0, 1) := by decide +kernel
theorem dX1_init_48 : decode cX1_init 48 = .ok (.putfield 30, 3) := by decide +kernel
theorem dX1_init_51 : decode cX1_init 51 = .ok (.aload_n 0, 1) := by decide +kernel
theorem dX1_init_52 : decode cX1_init 52 = .ok (.iconst 0, 1) := by decide +kernel
theorem dX1_init_53 : decode cX1_init 53 = .ok (.putfield 34, 3) := by decide +kernel
theorem dX1_init_56 : decode cX1_init 56 = .ok (.return_, 1) := by decide +kernel
set_option maxRecDepth 20000 in
theorem ggX1_read_X5_size : GoodIn wsX1_read wsX5_size := goodIn_r _ [7, 8, 46, 47] (by decide +kernel) (by decide +kernel)
set_option maxRecDepth 20000 in
theorem gX1_read_X5_size : GoodIn wsX1_read (wsV RX1 37 RX5 yX5_size wsX5_size) := goodIn_app (goodIn_of _ (by decide +kernel)) ggX1_read_X5_size
set_option maxRecDepth 20000 in
theorem ggX1_read_X5_isPerson : GoodIn wsX1_read wsX5_isPerson := goodIn_r _ [12, 13, 14, 15, 16, 46, 47] (by decide +kernel) (by decide +kernel)
set_option maxRecDepth 20000 in
theorem gX1_read_X5_isPerson : GoodIn wsX1_read (wsV RX1 43 RX5 yX5_isPerson wsX5_isPerson) := goodIn_app (goodIn_of _ (by decide +kernel)) ggX1_read_X5_isPerson
set_option maxRecDepth 20000 in
theorem ggX1_read_X1_addPerson : GoodIn wsX1_read wsX1_addPerson := goodIn_r _ [21, 1, 22, 23, 24, 25, 26, 27, 6, 28, 13, 14, 15, 16, 29, 30, 38, 39, 40, 41, 42, 43, 44, 45, 46, 47] (by decide +kernel) (by decide +kernel)
set_option maxRecDepth 20000 in
theorem gX1_read_X1_addPerson : GoodIn wsX1_read (wsV RX1 47 RX1 yX1_addPerson wsX1_addPerson) := goodIn_app (goodIn_of _ (by decide +kernel)) ggX1_read_X1_addPerson
set_option maxRecDepth 20000 in
theorem ggX1_read_X1_addGlove : GoodIn wsX1_read wsX1_addGlove := goodIn_r _ [34, 2, 35, 36, 37, 25, 26, 27, 6, 28, 13, 14, 15, 16, 29, 30, 38, 39, 40, 41, 42, 43, 44, 45, 46, 47] (by decide +kernel) (by decide +kernel)
set_option maxRecDepth 20000 in
theorem gX1_read_X1_addGlove : GoodIn wsX1_read (wsV RX1 51 RX1 yX1_addGlove wsX1_addGlove) := goodIn_app (goodIn_of _ (by decide +kernel)) ggX1_read_X1_addGlove
theorem dX1_read_0 : decode cX1_read 0 = .ok (.aload_n 0, 1) := by decide +kernel
theorem dX1_read_1 : decode cX1_read 1 = .ok (.iconst 0, 1) := by decide +kernel
theorem dX1_read_2 : decode cX1_read 2 = .ok (.putfield 30, 3) := by decide +kernel
theorem dX1_read_5 : decode cX1_read 5 = .ok (.aload_n 0, 1) := by decide +kernel
theorem dX1_read_6 : decode cX1_read 6 = .ok (.iconst 0, 1) := by decide +kernel
theorem dX1_read_7 : decode cX1_read 7 = .ok (.putfield 34, 3) := by decide +kernel
theorem dX1_read_10 : decode cX1_read 10 = .ok (.iconst 1, 1) := by decide +kernel
theorem dX1_read_11 : decode cX1_read 11 = .ok (.istore_n 2, 1) := by decide +kernel
theorem dX1_read_12 : decode cX1_read 12 = .ok (.iload_n 2, 1) := by decide +kernel
theorem dX1_read_13 : decode cX1_read 13 = .ok (.aload_n 1, 1) := by decide +kernel
theorem dX1_read_14 : decode cX1_read 14 = .ok (.invokevirtual 37, 3) := by decide +kernel
theorem dX1_read_17 : decode cX1_read 17 = .ok (.if_icmp .ge 32, 3) := by decide +kernel
theorem dX1_read_20 : decode cX1_read 20 = .ok (.aload_n 1, 1) := by decide +kernel
theorem dX1_read_21 : decode cX1_read 21 = .ok (.iload_n 2, 1) := by decide +kernel
theorem dX1_read_22 : decode cX1_read 22 = .ok (.invokevirtual 43, 3) := by decide +kernel
theorem dX1_read_25 : decode cX1_read 25 = .ok (.ifCond .eq 12, 3) := by decide +kernel
theorem dX1_read_28 : decode cX1_read 28 = .ok (.aload_n 0, 1) := by decide +kernel
theorem dX1_read_29 : decode cX1_read 29 = .ok (.aload_n 1, 1) := by decide +kernel
theorem dX1_read_30 : decode cX1_read 30 = .ok (.iload_n 2, 1) := by decide +kernel
theorem dX1_read_31 : decode cX1_read 31 = .ok (.invokevirtual 47, 3) := by decide +kernel
theorem dX1_read_34 : decode cX1_read 34 = .ok (.goto 9, 3) := by decide +kernel
theorem dX1_read_37 : decode cX1_read 37 = .ok (.aload_n 0, 1) := by decide +kernel
theorem dX1_read_38 : decode cX1_read 38 = .ok (.aload_n 1, 1) := by decide +kernel
theorem dX1_read_39 : decode cX1_read 39 = .ok (.iload_n 2, 1) := by decide +kernel
theorem dX1_read_40 : decode cX1_read 40 = .ok (.invokevirtual 51, 3) := by decide +kernel
theorem dX1_read_43 : decode cX1_read 43 = .ok (.iinc 2 4, 3) := by decide +kernel
theorem dX1_read_46 : decode cX1_read 46 = .ok (.goto (-34), 3) := by decide +kernel
theorem dX1_read_49 : decode cX1_read 49 = .ok (.return_, 1) := by decide +kernel
set_option maxRecDepth 20000 in
theorem ggX1_addPerson_X5_figureAt : GoodIn wsX1_addPerson wsX5_figureAt := goodIn_r _ [9, 10, 11, 12, 13, 24, 25] (by decide +kernel) (by decide +kernel)
set_option maxRecDepth 20000 in
theorem gX1_addPerson_X5_figureAt : GoodIn wsX1_addPerson (wsV RX1 54 RX5 yX5_figureAt wsX5_figureAt) := goodIn_app (goodIn_of _ (by decide +kernel)) ggX1_addPerson_X5_figureAt
set_option maxRecDepth 20000 in
theorem ggX1_addPerson_X6_put : GoodIn wsX1_addPerson wsX6_put := goodIn_r _ [15] (by decide +kernel) (by decide +kernel)
set_option maxRecDepth 20000 in
theorem gX1_addPerson_X6_put_n58 : GoodIn wsX1_addPerson (wsX6_put) := ggX1_addPerson_X6_put
theorem dX1_addPerson_0 : decode cX1_addPerson 0 = .ok (.aload_n 0, 1) := by decide +kernel
theorem dX1_addPerson_1 : decode cX1_addPerson 1 = .ok (.getfield 30, 3) := by decide +kernel
theorem dX1_addPerson_4 : decode cX1_addPerson 4 = .ok (.iconst 5, 1) := by decide +kernel
theorem dX1_addPerson_5 : decode cX1_addPerson 5 = .ok (.if_icmp .ge 67, 3) := by decide +kernel
theorem dX1_addPerson_8 : decode cX1_addPerson 8 = .ok (.aload_n 0, 1) := by decide +kernel
theorem dX1_addPerson_9 : decode cX1_addPerson 9 = .ok (.getfield 9, 3) := by decide +kernel
theorem dX1_addPerson_12 : decode cX1_addPerson 12 = .ok (.aload_n 0, 1) := by decide +kernel
theorem dX1_addPerson_13 : decode cX1_addPerson 13 = .ok (.getfield 30, 3) := by decide +kernel
theorem dX1_addPerson_16 : decode cX1_addPerson 16 = .ok (.aload_n 1, 1) := by decide +kernel
theorem dX1_addPerson_17 : decode cX1_addPerson 17 = .ok (.iload_n 2, 1) := by decide +kernel
theorem dX1_addPerson_18 : decode cX1_addPerson 18 = .ok (.iconst 1, 1) := by decide +kernel
theorem dX1_addPerson_19 : decode cX1_addPerson 19 = .ok (.iadd, 1) := by decide +kernel
theorem dX1_addPerson_20 : decode cX1_addPerson 20 = .ok (.invokevirtual 54, 3) := by decide +kernel
theorem dX1_addPerson_23 : decode cX1_addPerson 23 = .ok (.invokestatic 58, 3) := by decide +kernel
theorem dX1_addPerson_26 : decode cX1_addPerson 26 = .ok (.aload_n 0, 1) := by decide +kernel
theorem dX1_addPerson_27 : decode cX1_addPerson 27 = .ok (.getfield 15, 3) := by decide +kernel
theorem dX1_addPerson_30 : decode cX1_addPerson 30 = .ok (.aload_n 0, 1) := by decide +kernel
theorem dX1_addPerson_31 : decode cX1_addPerson 31 = .ok (.getfield 30, 3) := by decide +kernel
theorem dX1_addPerson_34 : decode cX1_addPerson 34 = .ok (.aload_n 1, 1) := by decide +kernel
theorem dX1_addPerson_35 : decode cX1_addPerson 35 = .ok (.iload_n 2, 1) := by decide +kernel
theorem dX1_addPerson_36 : decode cX1_addPerson 36 = .ok (.iconst 2, 1) := by decide +kernel
theorem dX1_addPerson_37 : decode cX1_addPerson 37 = .ok (.iadd, 1) := by decide +kernel
theorem dX1_addPerson_38 : decode cX1_addPerson 38 = .ok (.invokevirtual 54, 3) := by decide +kernel
theorem dX1_addPerson_41 : decode cX1_addPerson 41 = .ok (.invokestatic 58, 3) := by decide +kernel
theorem dX1_addPerson_44 : decode cX1_addPerson 44 = .ok (.aload_n 0, 1) := by decide +kernel
theorem dX1_addPerson_45 : decode cX1_addPerson 45 = .ok (.getfield 18, 3) := by decide +kernel
theorem dX1_addPerson_48 : decode cX1_addPerson 48 = .ok (.aload_n 0, 1) := by decide +kernel
theorem dX1_addPerson_49 : decode cX1_addPerson 49 = .ok (.getfield 30, 3) := by decide +kernel
theorem dX1_addPerson_52 : decode cX1_addPerson 52 = .ok (.aload_n 1, 1) := by decide +kernel
theorem dX1_addPerson_53 : decode cX1_addPerson 53 = .ok (.iload_n 2, 1) := by decide +kernel
theorem dX1_addPerson_54 : decode cX1_addPerson 54 = .ok (.iconst 3, 1) := by decide +kernel
theorem dX1_addPerson_55 : decode cX1_addPerson 55 = .ok (.iadd, 1) := by decide +kernel
theorem dX1_addPerson_56 : decode cX1_addPerson 56 = .ok (.invokevirtual 54, 3) := by decide +kernel
theorem dX1_addPerson_59 : decode cX1_addPerson 59 = .ok (.invokestatic 58, 3) := by decide +kernel
theorem dX1_addPerson_62 : decode cX1_addPerson 62 = .ok (.aload_n 0, 1) := by decide +kernel
theorem dX1_addPerson_63 : decode cX1_addPerson 63 = .ok (.dup, 1) := by decide +kernel
theorem dX1_addPerson_64 : decode cX1_addPerson 64 = .ok (.getfield 30, 3) := by decide +kernel
theorem dX1_addPerson_67 : decode cX1_addPerson 67 = .ok (.iconst 1, 1) := by decide +kernel
theorem dX1_addPerson_68 : decode cX1_addPerson 68 = .ok (.iadd, 1) := by decide +kernel
theorem dX1_addPerson_69 : decode cX1_addPerson 69 = .ok (.putfield 30, 3) := by decide +kernel
theorem dX1_addPerson_72 : decode cX1_addPerson 72 = .ok (.return_, 1) := by decide +kernel
set_option maxRecDepth 20000 in
theorem ggX1_addGlove_X5_figureAt : GoodIn wsX1_addGlove wsX5_figureAt := goodIn_r _ [9, 10, 11, 12, 13, 24, 25] (by decide +kernel) (by decide +kernel)
set_option maxRecDepth 20000 in
theorem gX1_addGlove_X5_figureAt : GoodIn wsX1_addGlove (wsV RX1 54 RX5 yX5_figureAt wsX5_figureAt) := goodIn_app (goodIn_of _ (by decide +kernel)) ggX1_addGlove_X5_figureAt
set_option maxRecDepth 20000 in
theorem ggX1_addGlove_X6_put : GoodIn wsX1_addGlove wsX6_put := goodIn_r _ [15] (by decide +kernel) (by decide +kernel)
set_option maxRecDepth 20000 in
theorem gX1_addGlove_X6_put_n58 : GoodIn wsX1_addGlove (wsX6_put) := ggX1_addGlove_X6_put
theorem dX1_addGlove_0 : decode cX1_addGlove 0 = .ok (.aload_n 0, 1) := by decide +kernel
theorem dX1_addGlove_1 : decode cX1_addGlove 1 = .ok (.getfield 34, 3) := by decide +kernel
theorem dX1_addGlove_4 : decode cX1_addGlove 4 = .ok (.iconst 4, 1) := by decide +kernel
theorem dX1_addGlove_5 : decode cX1_addGlove 5 = .ok (.if_icmp .ge 67, 3) := by decide +kernel
theorem dX1_addGlove_8 : decode cX1_addGlove 8 = .ok (.aload_n 0, 1) := by decide +kernel
theorem dX1_addGlove_9 : decode cX1_addGlove 9 = .ok (.getfield 21, 3) := by decide +kernel
theorem dX1_addGlove_12 : decode cX1_addGlove 12 = .ok (.aload_n 0, 1) := by decide +kernel
theorem dX1_addGlove_13 : decode cX1_addGlove 13 = .ok (.getfield 34, 3) := by decide +kernel
theorem dX1_addGlove_16 : decode cX1_addGlove 16 = .ok (.aload_n 1, 1) := by decide +kernel
theorem dX1_addGlove_17 : decode cX1_addGlove 17 = .ok (.iload_n 2, 1) := by decide +kernel
theorem dX1_addGlove_18 : decode cX1_addGlove 18 = .ok (.iconst 1, 1) := by decide +kernel
theorem dX1_addGlove_19 : decode cX1_addGlove 19 = .ok (.iadd, 1) := by decide +kernel
theorem dX1_addGlove_20 : decode cX1_addGlove 20 = .ok (.invokevirtual 54, 3) := by decide +kernel
theorem dX1_addGlove_23 : decode cX1_addGlove 23 = .ok (.invokestatic 58, 3) := by decide +kernel
theorem dX1_addGlove_26 : decode cX1_addGlove 26 = .ok (.aload_n 0, 1) := by decide +kernel
theorem dX1_addGlove_27 : decode cX1_addGlove 27 = .ok (.getfield 24, 3) := by decide +kernel
theorem dX1_addGlove_30 : decode cX1_addGlove 30 = .ok (.aload_n 0, 1) := by decide +kernel
theorem dX1_addGlove_31 : decode cX1_addGlove 31 = .ok (.getfield 34, 3) := by decide +kernel
theorem dX1_addGlove_34 : decode cX1_addGlove 34 = .ok (.aload_n 1, 1) := by decide +kernel
theorem dX1_addGlove_35 : decode cX1_addGlove 35 = .ok (.iload_n 2, 1) := by decide +kernel
theorem dX1_addGlove_36 : decode cX1_addGlove 36 = .ok (.iconst 2, 1) := by decide +kernel
theorem dX1_addGlove_37 : decode cX1_addGlove 37 = .ok (.iadd, 1) := by decide +kernel
theorem dX1_addGlove_38 : decode cX1_addGlove 38 = .ok (.invokevirtual 54, 3) := by decide +kernel
theorem dX1_addGlove_41 : decode cX1_addGlove 41 = .ok (.invokestatic 58, 3) := by decide +kernel
theorem dX1_addGlove_44 : decode cX1_addGlove 44 = .ok (.aload_n 0, 1) := by decide +kernel
theorem dX1_addGlove_45 : decode cX1_addGlove 45 = .ok (.getfield 27, 3) := by decide +kernel
theorem dX1_addGlove_48 : decode cX1_addGlove 48 = .ok (.aload_n 0, 1) := by decide +kernel
theorem dX1_addGlove_49 : decode cX1_addGlove 49 = .ok (.getfield 34, 3) := by decide +kernel
theorem dX1_addGlove_52 : decode cX1_addGlove 52 = .ok (.aload_n 1, 1) := by decide +kernel
theorem dX1_addGlove_53 : decode cX1_addGlove 53 = .ok (.iload_n 2, 1) := by decide +kernel
theorem dX1_addGlove_54 : decode cX1_addGlove 54 = .ok (.iconst 3, 1) := by decide +kernel
theorem dX1_addGlove_55 : decode cX1_addGlove 55 = .ok (.iadd, 1) := by decide +kernel
theorem dX1_addGlove_56 : decode cX1_addGlove 56 = .ok (.invokevirtual 54, 3) := by decide +kernel
theorem dX1_addGlove_59 : decode cX1_addGlove 59 = .ok (.invokestatic 58, 3) := by decide +kernel
theorem dX1_addGlove_62 : decode cX1_addGlove 62 = .ok (.aload_n 0, 1) := by decide +kernel
theorem dX1_addGlove_63 : decode cX1_addGlove 63 = .ok (.dup, 1) := by decide +kernel
theorem dX1_addGlove_64 : decode cX1_addGlove 64 = .ok (.getfield 34, 3) := by decide +kernel
theorem dX1_addGlove_67 : decode cX1_addGlove 67 = .ok (.iconst 1, 1) := by decide +kernel
theorem dX1_addGlove_68 : decode cX1_addGlove 68 = .ok (.iadd, 1) := by decide +kernel
theorem dX1_addGlove_69 : decode cX1_addGlove 69 = .ok (.putfield 34, 3) := by decide +kernel
theorem dX1_addGlove_72 : decode cX1_addGlove 72 = .ok (.return_, 1) := by decide +kernel
theorem dX1_people_0 : decode cX1_people 0 = .ok (.aload_n 0, 1) := by decide +kernel
theorem dX1_people_1 : decode cX1_people 1 = .ok (.getfield 30, 3) := by decide +kernel
theorem dX1_people_4 : decode cX1_people 4 = .ok (.ireturn, 1) := by decide +kernel
theorem dX1_gloves_0 : decode cX1_gloves 0 = .ok (.aload_n 0, 1) := by decide +kernel
theorem dX1_gloves_1 : decode cX1_gloves 1 = .ok (.getfield 34, 3) := by decide +kernel
theorem dX1_gloves_4 : decode cX1_gloves 4 = .ok (.ireturn, 1) := by decide +kernel
theorem dX1_hasPerson_0 : decode cX1_hasPerson 0 = .ok (.iload_n 1, 1) := by decide +kernel
theorem dX1_hasPerson_1 : decode cX1_hasPerson 1 = .ok (.ifCond .lt 15, 3) := by decide +kernel
theorem dX1_hasPerson_4 : decode cX1_hasPerson 4 = .ok (.iload_n 1, 1) := by decide +kernel
theorem dX1_hasPerson_5 : decode cX1_hasPerson 5 = .ok (.aload_n 0, 1) := by decide +kernel
theorem dX1_hasPerson_6 : decode cX1_hasPerson 6 = .ok (.getfield 30, 3) := by decide +kernel
theorem dX1_hasPerson_9 : decode cX1_hasPerson 9 = .ok (.if_icmp .ge 7, 3) := by decide +kernel
theorem dX1_hasPerson_12 : decode cX1_hasPerson 12 = .ok (.iconst 1, 1) := by decide +kernel
theorem dX1_hasPerson_13 : decode cX1_hasPerson 13 = .ok (.goto 4, 3) := by decide +kernel
theorem dX1_hasPerson_16 : decode cX1_hasPerson 16 = .ok (.iconst 0, 1) := by decide +kernel
theorem dX1_hasPerson_17 : decode cX1_hasPerson 17 = .ok (.ireturn, 1) := by decide +kernel
theorem dX1_hasGlove_0 : decode cX1_hasGlove 0 = .ok (.iload_n 1, 1) := by decide +kernel
theorem dX1_hasGlove_1 : decode cX1_hasGlove 1 = .ok (.ifCond .lt 15, 3) := by decide +kernel
theorem dX1_hasGlove_4 : decode cX1_hasGlove 4 = .ok (.iload_n 1, 1) := by decide +kernel
theorem dX1_hasGlove_5 : decode cX1_hasGlove 5 = .ok (.aload_n 0, 1) := by decide +kernel
theorem dX1_hasGlove_6 : decode cX1_hasGlove 6 = .ok (.getfield 34, 3) := by decide +kernel
theorem dX1_hasGlove_9 : decode cX1_hasGlove 9 = .ok (.if_icmp .ge 7, 3) := by decide +kernel
theorem dX1_hasGlove_12 : decode cX1_hasGlove 12 = .ok (.iconst 1, 1) := by decide +kernel
theorem dX1_hasGlove_13 : decode cX1_hasGlove 13 = .ok (.goto 4, 3) := by decide +kernel
theorem dX1_hasGlove_16 : decode cX1_hasGlove 16 = .ok (.iconst 0, 1) := by decide +kernel
theorem dX1_hasGlove_17 : decode cX1_hasGlove 17 = .ok (.ireturn, 1) := by decide +kernel
set_option maxRecDepth 20000 in
theorem ggX1_ownOf_X6_at : GoodIn wsX1_ownOf wsX6_at := goodIn_r _ [4] (by decide +kernel) (by decide +kernel)
set_option maxRecDepth 20000 in
theorem gX1_ownOf_X6_at_n62 : GoodIn wsX1_ownOf (wsX6_at) := ggX1_ownOf_X6_at
theorem dX1_ownOf_0 : decode cX1_ownOf 0 = .ok (.aload_n 0, 1) := by decide +kernel
theorem dX1_ownOf_1 : decode cX1_ownOf 1 = .ok (.getfield 9, 3) := by decide +kernel
theorem dX1_ownOf_4 : decode cX1_ownOf 4 = .ok (.iload_n 1, 1) := by decide +kernel
theorem dX1_ownOf_5 : decode cX1_ownOf 5 = .ok (.invokestatic 62, 3) := by decide +kernel
theorem dX1_ownOf_8 : decode cX1_ownOf 8 = .ok (.ireturn, 1) := by decide +kernel
set_option maxRecDepth 20000 in
theorem ggX1_dearTo_X6_at : GoodIn wsX1_dearTo wsX6_at := goodIn_r _ [4] (by decide +kernel) (by decide +kernel)
set_option maxRecDepth 20000 in
theorem gX1_dearTo_X6_at_n62 : GoodIn wsX1_dearTo (wsX6_at) := ggX1_dearTo_X6_at
theorem dX1_dearTo_0 : decode cX1_dearTo 0 = .ok (.aload_n 0, 1) := by decide +kernel
theorem dX1_dearTo_1 : decode cX1_dearTo 1 = .ok (.getfield 15, 3) := by decide +kernel
theorem dX1_dearTo_4 : decode cX1_dearTo 4 = .ok (.iload_n 1, 1) := by decide +kernel
theorem dX1_dearTo_5 : decode cX1_dearTo 5 = .ok (.invokestatic 62, 3) := by decide +kernel
theorem dX1_dearTo_8 : decode cX1_dearTo 8 = .ok (.ireturn, 1) := by decide +kernel
set_option maxRecDepth 20000 in
theorem ggX1_worthTo_X6_at : GoodIn wsX1_worthTo wsX6_at := goodIn_r _ [4] (by decide +kernel) (by decide +kernel)
set_option maxRecDepth 20000 in
theorem gX1_worthTo_X6_at_n62 : GoodIn wsX1_worthTo (wsX6_at) := ggX1_worthTo_X6_at
theorem dX1_worthTo_0 : decode cX1_worthTo 0 = .ok (.aload_n 0, 1) := by decide +kernel
theorem dX1_worthTo_1 : decode cX1_worthTo 1 = .ok (.getfield 18, 3) := by decide +kernel
theorem dX1_worthTo_4 : decode cX1_worthTo 4 = .ok (.iload_n 1, 1) := by decide +kernel
theorem dX1_worthTo_5 : decode cX1_worthTo 5 = .ok (.invokestatic 62, 3) := by decide +kernel
theorem dX1_worthTo_8 : decode cX1_worthTo 8 = .ok (.ireturn, 1) := by decide +kernel
set_option maxRecDepth 20000 in
theorem ggX1_roomOf_X6_at : GoodIn wsX1_roomOf wsX6_at := goodIn_r _ [4] (by decide +kernel) (by decide +kernel)
set_option maxRecDepth 20000 in
theorem gX1_roomOf_X6_at_n62 : GoodIn wsX1_roomOf (wsX6_at) := ggX1_roomOf_X6_at
theorem dX1_roomOf_0 : decode cX1_roomOf 0 = .ok (.aload_n 0, 1) := by decide +kernel
theorem dX1_roomOf_1 : decode cX1_roomOf 1 = .ok (.getfield 21, 3) := by decide +kernel
theorem dX1_roomOf_4 : decode cX1_roomOf 4 = .ok (.iload_n 1, 1) := by decide +kernel
theorem dX1_roomOf_5 : decode cX1_roomOf 5 = .ok (.invokestatic 62, 3) := by decide +kernel
theorem dX1_roomOf_8 : decode cX1_roomOf 8 = .ok (.ireturn, 1) := by decide +kernel
set_option maxRecDepth 20000 in
theorem ggX1_kindOf_X6_at : GoodIn wsX1_kindOf wsX6_at := goodIn_r _ [4] (by decide +kernel) (by decide +kernel)
set_option maxRecDepth 20000 in
theorem gX1_kindOf_X6_at_n62 : GoodIn wsX1_kindOf (wsX6_at) := ggX1_kindOf_X6_at
theorem dX1_kindOf_0 : decode cX1_kindOf 0 = .ok (.aload_n 0, 1) := by decide +kernel
theorem dX1_kindOf_1 : decode cX1_kindOf 1 = .ok (.getfield 24, 3) := by decide +kernel
theorem dX1_kindOf_4 : decode cX1_kindOf 4 = .ok (.iload_n 1, 1) := by decide +kernel
theorem dX1_kindOf_5 : decode cX1_kindOf 5 = .ok (.invokestatic 62, 3) := by decide +kernel
theorem dX1_kindOf_8 : decode cX1_kindOf 8 = .ok (.ireturn, 1) := by decide +kernel
set_option maxRecDepth 20000 in
theorem ggX1_toldOf_X1_hasGlove : GoodIn wsX1_toldOf wsX1_hasGlove := goodIn_r _ [6, 7, 11, 12, 13, 14, 15, 16, 17, 18] (by decide +kernel) (by decide +kernel)
set_option maxRecDepth 20000 in
theorem gX1_toldOf_X1_hasGlove : GoodIn wsX1_toldOf (wsV RX1 66 RX1 yX1_hasGlove wsX1_hasGlove) := goodIn_app (goodIn_of _ (by decide +kernel)) ggX1_toldOf_X1_hasGlove
set_option maxRecDepth 20000 in
theorem ggX1_toldOf_X6_at : GoodIn wsX1_toldOf wsX6_at := goodIn_r _ [10] (by decide +kernel) (by decide +kernel)
set_option maxRecDepth 20000 in
theorem gX1_toldOf_X6_at_n62 : GoodIn wsX1_toldOf (wsX6_at) := ggX1_toldOf_X6_at
theorem dX1_toldOf_0 : decode cX1_toldOf 0 = .ok (.aload_n 0, 1) := by decide +kernel
theorem dX1_toldOf_1 : decode cX1_toldOf 1 = .ok (.iload_n 1, 1) := by decide +kernel
theorem dX1_toldOf_2 : decode cX1_toldOf 2 = .ok (.invokevirtual 66, 3) := by decide +kernel
theorem dX1_toldOf_5 : decode cX1_toldOf 5 = .ok (.ifCond .eq 14, 3) := by decide +kernel
theorem dX1_toldOf_8 : decode cX1_toldOf 8 = .ok (.aload_n 0, 1) := by decide +kernel
theorem dX1_toldOf_9 : decode cX1_toldOf 9 = .ok (.getfield 27, 3) := by decide +kernel
theorem dX1_toldOf_12 : decode cX1_toldOf 12 = .ok (.iload_n 1, 1) := by decide +kernel
theorem dX1_toldOf_13 : decode cX1_toldOf 13 = .ok (.invokestatic 62, 3) := by decide +kernel
theorem dX1_toldOf_16 : decode cX1_toldOf 16 = .ok (.goto 4, 3) := by decide +kernel
theorem dX1_toldOf_19 : decode cX1_toldOf 19 = .ok (.iconst 0, 1) := by decide +kernel
theorem dX1_toldOf_20 : decode cX1_toldOf 20 = .ok (.ireturn, 1) := by decide +kernel
set_option maxRecDepth 20000 in
theorem ggX1_isSomeonesOwn_X1_ownOf : GoodIn wsX1_isSomeonesOwn wsX1_ownOf := goodIn_r _ [6, 7, 8, 9, 10, 11, 12, 13, 14, 15, 16, 17, 18] (by decide +kernel) (by decide +kernel)
set_option maxRecDepth 20000 in
theorem gX1_isSomeonesOwn_X1_ownOf : GoodIn wsX1_isSomeonesOwn (wsV RX1 69 RX1 yX1_ownOf wsX1_ownOf) := goodIn_app (goodIn_of _ (by decide +kernel)) ggX1_isSomeonesOwn_X1_ownOf
theorem dX1_isSomeonesOwn_0 : decode cX1_isSomeonesOwn 0 = .ok (.iconst 0, 1) := by decide +kernel
theorem dX1_isSomeonesOwn_1 : decode cX1_isSomeonesOwn 1 = .ok (.istore_n 2, 1) := by decide +kernel
theorem dX1_isSomeonesOwn_2 : decode cX1_isSomeonesOwn 2 = .ok (.iload_n 2, 1) := by decide +kernel
theorem dX1_isSomeonesOwn_3 : decode cX1_isSomeonesOwn 3 = .ok (.aload_n 0, 1) := by decide +kernel
theorem dX1_isSomeonesOwn_4 : decode cX1_isSomeonesOwn 4 = .ok (.getfield 30, 3) := by decide +kernel
theorem dX1_isSomeonesOwn_7 : decode cX1_isSomeonesOwn 7 = .ok (.if_icmp .ge 20, 3) := by decide +kernel
theorem dX1_isSomeonesOwn_10 : decode cX1_isSomeonesOwn 10 = .ok (.aload_n 0, 1) := by decide +kernel
theorem dX1_isSomeonesOwn_11 : decode cX1_isSomeonesOwn 11 = .ok (.iload_n 2, 1) := by decide +kernel
theorem dX1_isSomeonesOwn_12 : decode cX1_isSomeonesOwn 12 = .ok (.invokevirtual 69, 3) := by decide +kernel
theorem dX1_isSomeonesOwn_15 : decode cX1_isSomeonesOwn 15 = .ok (.iload_n 1, 1) := by decide +kernel
theorem dX1_isSomeonesOwn_16 : decode cX1_isSomeonesOwn 16 = .ok (.if_icmp .ne 5, 3) := by decide +kernel
theorem dX1_isSomeonesOwn_19 : decode cX1_isSomeonesOwn 19 = .ok (.iconst 1, 1) := by decide +kernel
theorem dX1_isSomeonesOwn_20 : decode cX1_isSomeonesOwn 20 = .ok (.ireturn, 1) := by decide +kernel
theorem dX1_isSomeonesOwn_21 : decode cX1_isSomeonesOwn 21 = .ok (.iinc 2 1, 3) := by decide +kernel
theorem dX1_isSomeonesOwn_24 : decode cX1_isSomeonesOwn 24 = .ok (.goto (-22), 3) := by decide +kernel
theorem dX1_isSomeonesOwn_27 : decode cX1_isSomeonesOwn 27 = .ok (.iconst 0, 1) := by decide +kernel
theorem dX1_isSomeonesOwn_28 : decode cX1_isSomeonesOwn 28 = .ok (.ireturn, 1) := by decide +kernel
set_option maxRecDepth 20000 in
theorem ggX1_reply_X6_lastOf : GoodIn wsX1_reply wsX6_lastOf := goodIn_r _ [3] (by decide +kernel) (by decide +kernel)
set_option maxRecDepth 20000 in
theorem gX1_reply_X6_lastOf_n72 : GoodIn wsX1_reply (wsX6_lastOf) := ggX1_reply_X6_lastOf
set_option maxRecDepth 20000 in
theorem ggX1_reply_X1_kindOf : GoodIn wsX1_reply wsX1_kindOf := goodIn_r _ [8, 9, 10, 2, 11, 19, 20, 21, 22, 23, 24, 25, 26] (by decide +kernel) (by decide +kernel)
set_option maxRecDepth 20000 in
theorem gX1_reply_X1_kindOf : GoodIn wsX1_reply (wsV RX1 75 RX1 yX1_kindOf wsX1_kindOf) := goodIn_app (goodIn_of _ (by decide +kernel)) ggX1_reply_X1_kindOf
set_option maxRecDepth 20000 in
theorem ggX1_reply_X6_firstOf : GoodIn wsX1_reply wsX6_firstOf := goodIn_r _ [13] (by decide +kernel) (by decide +kernel)
set_option maxRecDepth 20000 in
theorem gX1_reply_X6_firstOf_n78 : GoodIn wsX1_reply (wsX6_firstOf) := ggX1_reply_X6_firstOf
set_option maxRecDepth 20000 in
theorem ggX1_reply_X1_ownOf : GoodIn wsX1_reply wsX1_ownOf := goodIn_r _ [17, 18, 10, 2, 11, 19, 20, 21, 22, 23, 24, 25, 26] (by decide +kernel) (by decide +kernel)
set_option maxRecDepth 20000 in
theorem gX1_reply_X1_ownOf : GoodIn wsX1_reply (wsV RX1 69 RX1 yX1_ownOf wsX1_ownOf) := goodIn_app (goodIn_of _ (by decide +kernel)) ggX1_reply_X1_ownOf
theorem dX1_reply_0 : decode cX1_reply 0 = .ok (.iload_n 2, 1) := by decide +kernel
theorem dX1_reply_1 : decode cX1_reply 1 = .ok (.invokestatic 72, 3) := by decide +kernel
theorem dX1_reply_4 : decode cX1_reply 4 = .ok (.istore 4, 2) := by decide +kernel
theorem dX1_reply_6 : decode cX1_reply 6 = .ok (.aload_n 0, 1) := by decide +kernel
theorem dX1_reply_7 : decode cX1_reply 7 = .ok (.iload_n 1, 1) := by decide +kernel
theorem dX1_reply_8 : decode cX1_reply 8 = .ok (.invokevirtual 75, 3) := by decide +kernel
theorem dX1_reply_11 : decode cX1_reply 11 = .ok (.tableswitch 63 1 3 #[25, 41, 46], 25) := by decide +kernel
theorem dX1_reply_36 : decode cX1_reply 36 = .ok (.iload 4, 2) := by decide +kernel
theorem dX1_reply_38 : decode cX1_reply 38 = .ok (.iconst 4, 1) := by decide +kernel
theorem dX1_reply_39 : decode cX1_reply 39 = .ok (.if_icmp .le 10, 3) := by decide +kernel
theorem dX1_reply_42 : decode cX1_reply 42 = .ok (.iload 4, 2) := by decide +kernel
theorem dX1_reply_44 : decode cX1_reply 44 = .ok (.iconst 4, 1) := by decide +kernel
theorem dX1_reply_45 : decode cX1_reply 45 = .ok (.isub, 1) := by decide +kernel
theorem dX1_reply_46 : decode cX1_reply 46 = .ok (.goto 5, 3) := by decide +kernel
theorem dX1_reply_49 : decode cX1_reply 49 = .ok (.iload 4, 2) := by decide +kernel
theorem dX1_reply_51 : decode cX1_reply 51 = .ok (.ireturn, 1) := by decide +kernel
theorem dX1_reply_52 : decode cX1_reply 52 = .ok (.iload_n 2, 1) := by decide +kernel
theorem dX1_reply_53 : decode cX1_reply 53 = .ok (.invokestatic 78, 3) := by decide +kernel
theorem dX1_reply_56 : decode cX1_reply 56 = .ok (.ireturn, 1) := by decide +kernel
theorem dX1_reply_57 : decode cX1_reply 57 = .ok (.iload 4, 2) := by decide +kernel
theorem dX1_reply_59 : decode cX1_reply 59 = .ok (.aload_n 0, 1) := by decide +kernel
theorem dX1_reply_60 : decode cX1_reply 60 = .ok (.iload_n 3, 1) := by decide +kernel
theorem dX1_reply_61 : decode cX1_reply 61 = .ok (.invokevirtual 69, 3) := by decide +kernel
theorem dX1_reply_64 : decode cX1_reply 64 = .ok (.if_icmp .ne 7, 3) := by decide +kernel
theorem dX1_reply_67 : decode cX1_reply 67 = .ok (.iconst 0, 1) := by decide +kernel
theorem dX1_reply_68 : decode cX1_reply 68 = .ok (.goto 5, 3) := by decide +kernel
theorem dX1_reply_71 : decode cX1_reply 71 = .ok (.iload 4, 2) := by decide +kernel
theorem dX1_reply_73 : decode cX1_reply 73 = .ok (.ireturn, 1) := by decide +kernel
theorem dX1_reply_74 : decode cX1_reply 74 = .ok (.iload 4, 2) := by decide +kernel
theorem dX1_reply_76 : decode cX1_reply 76 = .ok (.ireturn, 1) := by decide +kernel
set_option maxRecDepth 20000 in
theorem ggX1_afterHand_X1_ownOf : GoodIn wsX1_afterHand wsX1_ownOf := goodIn_r _ [5, 6, 7, 8, 9, 17, 18, 19, 20, 21, 22, 23, 24] (by decide +kernel) (by decide +kernel)
set_option maxRecDepth 20000 in
theorem gX1_afterHand_X1_ownOf : GoodIn wsX1_afterHand (wsV RX1 69 RX1 yX1_ownOf wsX1_ownOf) := goodIn_app (goodIn_of _ (by decide +kernel)) ggX1_afterHand_X1_ownOf
set_option maxRecDepth 20000 in
theorem ggX1_afterHand_X1_roomOf : GoodIn wsX1_afterHand wsX1_roomOf := goodIn_r _ [13, 14, 7, 8, 9, 17, 18, 19, 20, 21, 22, 23, 24] (by decide +kernel) (by decide +kernel)
set_option maxRecDepth 20000 in
theorem gX1_afterHand_X1_roomOf : GoodIn wsX1_afterHand (wsV RX1 81 RX1 yX1_roomOf wsX1_roomOf) := goodIn_app (goodIn_of _ (by decide +kernel)) ggX1_afterHand_X1_roomOf
set_option maxRecDepth 20000 in
theorem ggX1_afterHand_X6_withBehind : GoodIn wsX1_afterHand wsX6_withBehind := goodIn_r _ [16] (by decide +kernel) (by decide +kernel)
set_option maxRecDepth 20000 in
theorem gX1_afterHand_X6_withBehind_n84 : GoodIn wsX1_afterHand (wsX6_withBehind) := ggX1_afterHand_X6_withBehind
theorem dX1_afterHand_0 : decode cX1_afterHand 0 = .ok (.iload_n 2, 1) := by decide +kernel
theorem dX1_afterHand_1 : decode cX1_afterHand 1 = .ok (.aload_n 0, 1) := by decide +kernel
theorem dX1_afterHand_2 : decode cX1_afterHand 2 = .ok (.iload_n 3, 1) := by decide +kernel
theorem dX1_afterHand_3 : decode cX1_afterHand 3 = .ok (.invokevirtual 69, 3) := by decide +kernel
theorem dX1_afterHand_6 : decode cX1_afterHand 6 = .ok (.aload_n 0, 1) := by decide +kernel
theorem dX1_afterHand_7 : decode cX1_afterHand 7 = .ok (.iload_n 1, 1) := by decide +kernel
theorem dX1_afterHand_8 : decode cX1_afterHand 8 = .ok (.invokevirtual 81, 3) := by decide +kernel
theorem dX1_afterHand_11 : decode cX1_afterHand 11 = .ok (.invokestatic 84, 3) := by decide +kernel
theorem dX1_afterHand_14 : decode cX1_afterHand 14 = .ok (.ireturn, 1) := by decide +kernel
theorem dX2_init_0 : decode cX2_init 0 = .ok (.aload_n 0, 1) := by decide +kernel
theorem dX2_init_1 : decode cX2_init 1 = .ok (.invokespecial 3, 3) := by decide +kernel
theorem dX2_init_4 : decode cX2_init 4 = .ok (.aload_n 0, 1) := by decide +kernel
theorem dX2_init_5 : decode cX2_init 5 = .ok (.iconst 4, 1) := by decide +kernel
theorem dX2_init_6 : decode cX2_init 6 = .ok (.newarray .int, 2) := by decide +kernel
theorem dX2_init_8 : decode cX2_init 8 = .ok (.putfield 9, 3) := by decide +kernel
theorem dX2_init_11 : decode cX2_init 11 = .ok (.aload_n 0, 1) := by decide +kernel
theorem dX2_init_12 : decode cX2_init 12 = .ok (.iconst 4, 1) := by decide +kernel
theorem dX2_init_13 : decode cX2_init 13 = .ok (.newarray .int, 2) := by decide +kernel
theorem dX2_init_15 : decode cX2_init 15 = .ok (.putfield 15, 3) := by decide +kernel
theorem dX2_init_18 : decode cX2_init 18 = .ok (.iconst 0, 1) := by decide +kernel
theorem dX2_init_19 : decode cX2_init 19 = .ok (.istore_n 1, 1) := by decide +kernel
theorem dX2_init_20 : decode cX2_init 20 = .ok (.iload_n 1, 1) := by decide +kernel
theorem dX2_init_21 : decode cX2_init 21 = .ok (.aload_n 0, 1) := by decide +kernel
theorem dX2_init_22 : decode cX2_init 22 = .ok (.getfield 15, 3) := by decide +kernel
theorem dX2_init_25 : decode cX2_init 25 = .ok (.arraylength, 1) := by decide +kernel
theorem dX2_init_26 : decode cX2_init 26 = .ok (.if_icmp .ge 17, 3) := by decide +kernel
theorem dX2_init_29 : decode cX2_init 29 = .ok (.aload_n 0, 1) := by decide +kernel
theorem dX2_init_30 : decode cX2_init 30 = .ok (.getfield 15, 3) := by decide +kernel
theorem dX2_init_33 : decode cX2_init 33 = .ok (.iload_n 1, 1) := by decide +kernel
theorem dX2_init_34 : decode cX2_init 34 = .ok (.bipush (-9), 2) := by decide +kernel
theorem dX2_init_36 : decode cX2_init 36 = .ok (.iastore, 1) := by decide +kernel
theorem dX2_init_37 : decode cX2_init 37 = .ok (.iinc 1 1, 3) := by decide +kernel
theorem dX2_init_40 : decode cX2_init 40 = .ok (.goto (-20), 3) := by decide +kernel
theorem dX2_init_43 : decode cX2_init 43 = .ok (.aload_n 0, 1) := by decide +kernel
theorem dX2_init_44 : decode cX2_init 44 = .ok (.iconst 0, 1) := by decide +kernel
theorem dX2_init_45 : decode cX2_init 45 = .ok (.putfield 18, 3) := by decide +kernel
theorem dX2_init_48 : decode cX2_init 48 = .ok (.aload_n 0, 1) := by decide +kernel
theorem dX2_init_49 : decode cX2_init 49 = .ok (.iconst 0, 1) := by decide +kernel
theorem dX2_init_50 : decode cX2_init 50 = .ok (.putfield 22, 3) := by decide +kernel
theorem dX2_init_53 : decode cX2_init 53 = .ok (.return_, 1) := by decide +kernel
set_option maxRecDepth 20000 in
theorem ggX2_start_X1_toldOf : GoodIn wsX2_start wsX1_toldOf := goodIn_r _ [8, 9, 10, 11, 12, 7, 13, 14, 15, 16, 17, 24, 25, 26, 27, 28, 29, 30, 31] (by decide +kernel) (by decide +kernel)
set_option maxRecDepth 20000 in
theorem gX2_start_X1_toldOf : GoodIn wsX2_start (wsV RX2 26 RX1 yX1_toldOf wsX1_toldOf) := goodIn_app (goodIn_of _ (by decide +kernel)) ggX2_start_X1_toldOf
set_option maxRecDepth 20000 in
theorem ggX2_start_X6_put : GoodIn wsX2_start wsX6_put := goodIn_r _ [19] (by decide +kernel) (by decide +kernel)
set_option maxRecDepth 20000 in
theorem gX2_start_X6_put_n32 : GoodIn wsX2_start (wsX6_put) := ggX2_start_X6_put
theorem dX2_start_0 : decode cX2_start 0 = .ok (.iconst 0, 1) := by decide +kernel
theorem dX2_start_1 : decode cX2_start 1 = .ok (.istore_n 2, 1) := by decide +kernel
theorem dX2_start_2 : decode cX2_start 2 = .ok (.iload_n 2, 1) := by decide +kernel
theorem dX2_start_3 : decode cX2_start 3 = .ok (.iconst 4, 1) := by decide +kernel
theorem dX2_start_4 : decode cX2_start 4 = .ok (.if_icmp .ge 32, 3) := by decide +kernel
theorem dX2_start_7 : decode cX2_start 7 = .ok (.aload_n 0, 1) := by decide +kernel
theorem dX2_start_8 : decode cX2_start 8 = .ok (.getfield 9, 3) := by decide +kernel
theorem dX2_start_11 : decode cX2_start 11 = .ok (.iload_n 2, 1) := by decide +kernel
theorem dX2_start_12 : decode cX2_start 12 = .ok (.aload_n 1, 1) := by decide +kernel
theorem dX2_start_13 : decode cX2_start 13 = .ok (.iload_n 2, 1) := by decide +kernel
theorem dX2_start_14 : decode cX2_start 14 = .ok (.invokevirtual 26, 3) := by decide +kernel
theorem dX2_start_17 : decode cX2_start 17 = .ok (.invokestatic 32, 3) := by decide +kernel
theorem dX2_start_20 : decode cX2_start 20 = .ok (.aload_n 0, 1) := by decide +kernel
theorem dX2_start_21 : decode cX2_start 21 = .ok (.getfield 15, 3) := by decide +kernel
theorem dX2_start_24 : decode cX2_start 24 = .ok (.iload_n 2, 1) := by decide +kernel
theorem dX2_start_25 : decode cX2_start 25 = .ok (.bipush (-9), 2) := by decide +kernel
theorem dX2_start_27 : decode cX2_start 27 = .ok (.invokestatic 32, 3) := by decide +kernel
theorem dX2_start_30 : decode cX2_start 30 = .ok (.iinc 2 1, 3) := by decide +kernel
theorem dX2_start_33 : decode cX2_start 33 = .ok (.goto (-31), 3) := by decide +kernel
theorem dX2_start_36 : decode cX2_start 36 = .ok (.aload_n 0, 1) := by decide +kernel
theorem dX2_start_37 : decode cX2_start 37 = .ok (.iconst 0, 1) := by decide +kernel
theorem dX2_start_38 : decode cX2_start 38 = .ok (.putfield 18, 3) := by decide +kernel
theorem dX2_start_41 : decode cX2_start 41 = .ok (.return_, 1) := by decide +kernel
set_option maxRecDepth 20000 in
theorem ggX2_copy_X6_copyRow : GoodIn wsX2_copy wsX6_copyRow := goodIn_r _ [7] (by decide +kernel) (by decide +kernel)
set_option maxRecDepth 20000 in
theorem gX2_copy_X6_copyRow_n36 : GoodIn wsX2_copy (wsX6_copyRow) := ggX2_copy_X6_copyRow
theorem dX2_copy_0 : decode cX2_copy 0 = .ok (.aload_n 1, 1) := by decide +kernel
theorem dX2_copy_1 : decode cX2_copy 1 = .ok (.getfield 9, 3) := by decide +kernel
theorem dX2_copy_4 : decode cX2_copy 4 = .ok (.aload_n 0, 1) := by decide +kernel
theorem dX2_copy_5 : decode cX2_copy 5 = .ok (.getfield 9, 3) := by decide +kernel
theorem dX2_copy_8 : decode cX2_copy 8 = .ok (.invokestatic 36, 3) := by decide +kernel
theorem dX2_copy_11 : decode cX2_copy 11 = .ok (.aload_n 1, 1) := by decide +kernel
theorem dX2_copy_12 : decode cX2_copy 12 = .ok (.getfield 15, 3) := by decide +kernel
theorem dX2_copy_15 : decode cX2_copy 15 = .ok (.aload_n 0, 1) := by decide +kernel
theorem dX2_copy_16 : decode cX2_copy 16 = .ok (.getfield 15, 3) := by decide +kernel
theorem dX2_copy_19 : decode cX2_copy 19 = .ok (.invokestatic 36, 3) := by decide +kernel
theorem dX2_copy_22 : decode cX2_copy 22 = .ok (.aload_n 0, 1) := by decide +kernel
theorem dX2_copy_23 : decode cX2_copy 23 = .ok (.aload_n 1, 1) := by decide +kernel
theorem dX2_copy_24 : decode cX2_copy 24 = .ok (.getfield 18, 3) := by decide +kernel
theorem dX2_copy_27 : decode cX2_copy 27 = .ok (.putfield 18, 3) := by decide +kernel
theorem dX2_copy_30 : decode cX2_copy 30 = .ok (.aload_n 0, 1) := by decide +kernel
theorem dX2_copy_31 : decode cX2_copy 31 = .ok (.iconst 1, 1) := by decide +kernel
theorem dX2_copy_32 : decode cX2_copy 32 = .ok (.putfield 22, 3) := by decide +kernel
theorem dX2_copy_35 : decode cX2_copy 35 = .ok (.return_, 1) := by decide +kernel
theorem dX2_isTaken_0 : decode cX2_isTaken 0 = .ok (.aload_n 0, 1) := by decide +kernel
theorem dX2_isTaken_1 : decode cX2_isTaken 1 = .ok (.getfield 22, 3) := by decide +kernel
theorem dX2_isTaken_4 : decode cX2_isTaken 4 = .ok (.ireturn, 1) := by decide +kernel
theorem dX2_release_0 : decode cX2_release 0 = .ok (.aload_n 0, 1) := by decide +kernel
theorem dX2_release_1 : decode cX2_release 1 = .ok (.iconst 0, 1) := by decide +kernel
theorem dX2_release_2 : decode cX2_release 2 = .ok (.putfield 22, 3) := by decide +kernel
theorem dX2_release_5 : decode cX2_release 5 = .ok (.return_, 1) := by decide +kernel
theorem dX2_today_0 : decode cX2_today 0 = .ok (.aload_n 0, 1) := by decide +kernel
theorem dX2_today_1 : decode cX2_today 1 = .ok (.getfield 18, 3) := by decide +kernel
theorem dX2_today_4 : decode cX2_today 4 = .ok (.ireturn, 1) := by decide +kernel
theorem dX2_nextDay_0 : decode cX2_nextDay 0 = .ok (.aload_n 0, 1) := by decide +kernel
theorem dX2_nextDay_1 : decode cX2_nextDay 1 = .ok (.dup, 1) := by decide +kernel
theorem dX2_nextDay_2 : decode cX2_nextDay 2 = .ok (.getfield 18, 3) := by decide +kernel
theorem dX2_nextDay_5 : decode cX2_nextDay 5 = .ok (.iconst 1, 1) := by decide +kernel
theorem dX2_nextDay_6 : decode cX2_nextDay 6 = .ok (.iadd, 1) := by decide +kernel
theorem dX2_nextDay_7 : decode cX2_nextDay 7 = .ok (.putfield 18, 3) := by decide +kernel
theorem dX2_nextDay_10 : decode cX2_nextDay 10 = .ok (.return_, 1) := by decide +kernel
set_option maxRecDepth 20000 in
theorem ggX2_keptBy_X6_at : GoodIn wsX2_keptBy wsX6_at := goodIn_r _ [4] (by decide +kernel) (by decide +kernel)
set_option maxRecDepth 20000 in
theorem gX2_keptBy_X6_at_n40 : GoodIn wsX2_keptBy (wsX6_at) := ggX2_keptBy_X6_at
theorem dX2_keptBy_0 : decode cX2_keptBy 0 = .ok (.aload_n 0, 1) := by decide +kernel
theorem dX2_keptBy_1 : decode cX2_keptBy 1 = .ok (.getfield 9, 3) := by decide +kernel
theorem dX2_keptBy_4 : decode cX2_keptBy 4 = .ok (.iload_n 1, 1) := by decide +kernel
theorem dX2_keptBy_5 : decode cX2_keptBy 5 = .ok (.invokestatic 40, 3) := by decide +kernel
theorem dX2_keptBy_8 : decode cX2_keptBy 8 = .ok (.ireturn, 1) := by decide +kernel
set_option maxRecDepth 20000 in
theorem ggX2_setKept_X6_put : GoodIn wsX2_setKept wsX6_put := goodIn_r _ [4] (by decide +kernel) (by decide +kernel)
set_option maxRecDepth 20000 in
theorem gX2_setKept_X6_put_n32 : GoodIn wsX2_setKept (wsX6_put) := ggX2_setKept_X6_put
theorem dX2_setKept_0 : decode cX2_setKept 0 = .ok (.aload_n 0, 1) := by decide +kernel
theorem dX2_setKept_1 : decode cX2_setKept 1 = .ok (.getfield 9, 3) := by decide +kernel
theorem dX2_setKept_4 : decode cX2_setKept 4 = .ok (.iload_n 1, 1) := by decide +kernel
theorem dX2_setKept_5 : decode cX2_setKept 5 = .ok (.iload_n 2, 1) := by decide +kernel
theorem dX2_setKept_6 : decode cX2_setKept 6 = .ok (.invokestatic 32, 3) := by decide +kernel
theorem dX2_setKept_9 : decode cX2_setKept 9 = .ok (.return_, 1) := by decide +kernel
set_option maxRecDepth 20000 in
theorem ggX2_wearerOf_X6_at : GoodIn wsX2_wearerOf wsX6_at := goodIn_r _ [4] (by decide +kernel) (by decide +kernel)
set_option maxRecDepth 20000 in
theorem gX2_wearerOf_X6_at_n40 : GoodIn wsX2_wearerOf (wsX6_at) := ggX2_wearerOf_X6_at
theorem dX2_wearerOf_0 : decode cX2_wearerOf 0 = .ok (.aload_n 0, 1) := by decide +kernel
theorem dX2_wearerOf_1 : decode cX2_wearerOf 1 = .ok (.getfield 15, 3) := by decide +kernel
theorem dX2_wearerOf_4 : decode cX2_wearerOf 4 = .ok (.iload_n 1, 1) := by decide +kernel
theorem dX2_wearerOf_5 : decode cX2_wearerOf 5 = .ok (.invokestatic 40, 3) := by decide +kernel
theorem dX2_wearerOf_8 : decode cX2_wearerOf 8 = .ok (.ireturn, 1) := by decide +kernel
set_option maxRecDepth 20000 in
theorem ggX2_putOn_X6_put : GoodIn wsX2_putOn wsX6_put := goodIn_r _ [4] (by decide +kernel) (by decide +kernel)
set_option maxRecDepth 20000 in
theorem gX2_putOn_X6_put_n32 : GoodIn wsX2_putOn (wsX6_put) := ggX2_putOn_X6_put
theorem dX2_putOn_0 : decode cX2_putOn 0 = .ok (.aload_n 0, 1) := by decide +kernel
theorem dX2_putOn_1 : decode cX2_putOn 1 = .ok (.getfield 15, 3) := by decide +kernel
theorem dX2_putOn_4 : decode cX2_putOn 4 = .ok (.iload_n 1, 1) := by decide +kernel
theorem dX2_putOn_5 : decode cX2_putOn 5 = .ok (.iload_n 2, 1) := by decide +kernel
theorem dX2_putOn_6 : decode cX2_putOn 6 = .ok (.invokestatic 32, 3) := by decide +kernel
theorem dX2_putOn_9 : decode cX2_putOn 9 = .ok (.return_, 1) := by decide +kernel
set_option maxRecDepth 20000 in
theorem ggX2_isWorn_X2_wearerOf : GoodIn wsX2_isWorn wsX2_wearerOf := goodIn_r _ [5, 6, 7, 8, 9, 10, 11, 12, 13] (by decide +kernel) (by decide +kernel)
set_option maxRecDepth 20000 in
theorem gX2_isWorn_X2_wearerOf : GoodIn wsX2_isWorn (wsV RX2 44 RX2 yX2_wearerOf wsX2_wearerOf) := goodIn_app (goodIn_of _ (by decide +kernel)) ggX2_isWorn_X2_wearerOf
theorem dX2_isWorn_0 : decode cX2_isWorn 0 = .ok (.aload_n 0, 1) := by decide +kernel
theorem dX2_isWorn_1 : decode cX2_isWorn 1 = .ok (.iload_n 1, 1) := by decide +kernel
theorem dX2_isWorn_2 : decode cX2_isWorn 2 = .ok (.invokevirtual 44, 3) := by decide +kernel
theorem dX2_isWorn_5 : decode cX2_isWorn 5 = .ok (.bipush (-9), 2) := by decide +kernel
theorem dX2_isWorn_7 : decode cX2_isWorn 7 = .ok (.if_icmp .eq 7, 3) := by decide +kernel
theorem dX2_isWorn_10 : decode cX2_isWorn 10 = .ok (.iconst 1, 1) := by decide +kernel
theorem dX2_isWorn_11 : decode cX2_isWorn 11 = .ok (.goto 4, 3) := by decide +kernel
theorem dX2_isWorn_14 : decode cX2_isWorn 14 = .ok (.iconst 0, 1) := by decide +kernel
theorem dX2_isWorn_15 : decode cX2_isWorn 15 = .ok (.ireturn, 1) := by decide +kernel
set_option maxRecDepth 20000 in
theorem ggX2_gloveOn_X2_wearerOf : GoodIn wsX2_gloveOn wsX2_wearerOf := goodIn_r _ [5, 6, 7, 8, 9, 10, 11, 12, 13] (by decide +kernel) (by decide +kernel)
set_option maxRecDepth 20000 in
theorem gX2_gloveOn_X2_wearerOf : GoodIn wsX2_gloveOn (wsV RX2 44 RX2 yX2_wearerOf wsX2_wearerOf) := goodIn_app (goodIn_of _ (by decide +kernel)) ggX2_gloveOn_X2_wearerOf
theorem dX2_gloveOn_0 : decode cX2_gloveOn 0 = .ok (.iconst 0, 1) := by decide +kernel
theorem dX2_gloveOn_1 : decode cX2_gloveOn 1 = .ok (.istore_n 2, 1) := by decide +kernel
theorem dX2_gloveOn_2 : decode cX2_gloveOn 2 = .ok (.iload_n 2, 1) := by decide +kernel
theorem dX2_gloveOn_3 : decode cX2_gloveOn 3 = .ok (.iconst 4, 1) := by decide +kernel
theorem dX2_gloveOn_4 : decode cX2_gloveOn 4 = .ok (.if_icmp .ge 20, 3) := by decide +kernel
theorem dX2_gloveOn_7 : decode cX2_gloveOn 7 = .ok (.aload_n 0, 1) := by decide +kernel
theorem dX2_gloveOn_8 : decode cX2_gloveOn 8 = .ok (.iload_n 2, 1) := by decide +kernel
theorem dX2_gloveOn_9 : decode cX2_gloveOn 9 = .ok (.invokevirtual 44, 3) := by decide +kernel
theorem dX2_gloveOn_12 : decode cX2_gloveOn 12 = .ok (.iload_n 1, 1) := by decide +kernel
theorem dX2_gloveOn_13 : decode cX2_gloveOn 13 = .ok (.if_icmp .ne 5, 3) := by decide +kernel
theorem dX2_gloveOn_16 : decode cX2_gloveOn 16 = .ok (.iload_n 2, 1) := by decide +kernel
theorem dX2_gloveOn_17 : decode cX2_gloveOn 17 = .ok (.ireturn, 1) := by decide +kernel
theorem dX2_gloveOn_18 : decode cX2_gloveOn 18 = .ok (.iinc 2 1, 3) := by decide +kernel
theorem dX2_gloveOn_21 : decode cX2_gloveOn 21 = .ok (.goto (-19), 3) := by decide +kernel
theorem dX2_gloveOn_24 : decode cX2_gloveOn 24 = .ok (.bipush (-9), 2) := by decide +kernel
theorem dX2_gloveOn_26 : decode cX2_gloveOn 26 = .ok (.ireturn, 1) := by decide +kernel
set_option maxRecDepth 20000 in
theorem ggX2_wornBits_X2_isWorn : GoodIn wsX2_wornBits wsX2_isWorn := goodIn_r _ [5, 6, 7, 8, 4, 9, 10, 11, 12, 13, 14, 15, 16, 17] (by decide +kernel) (by decide +kernel)
set_option maxRecDepth 20000 in
theorem gX2_wornBits_X2_isWorn : GoodIn wsX2_wornBits (wsV RX2 47 RX2 yX2_isWorn wsX2_isWorn) := goodIn_app (goodIn_of _ (by decide +kernel)) ggX2_wornBits_X2_isWorn
theorem dX2_wornBits_0 : decode cX2_wornBits 0 = .ok (.iconst 0, 1) := by decide +kernel
theorem dX2_wornBits_1 : decode cX2_wornBits 1 = .ok (.istore_n 1, 1) := by decide +kernel
theorem dX2_wornBits_2 : decode cX2_wornBits 2 = .ok (.iconst 0, 1) := by decide +kernel
theorem dX2_wornBits_3 : decode cX2_wornBits 3 = .ok (.istore_n 2, 1) := by decide +kernel
theorem dX2_wornBits_4 : decode cX2_wornBits 4 = .ok (.iload_n 2, 1) := by decide +kernel
theorem dX2_wornBits_5 : decode cX2_wornBits 5 = .ok (.iconst 4, 1) := by decide +kernel
theorem dX2_wornBits_6 : decode cX2_wornBits 6 = .ok (.if_icmp .ge 23, 3) := by decide +kernel
theorem dX2_wornBits_9 : decode cX2_wornBits 9 = .ok (.aload_n 0, 1) := by decide +kernel
theorem dX2_wornBits_10 : decode cX2_wornBits 10 = .ok (.iload_n 2, 1) := by decide +kernel
theorem dX2_wornBits_11 : decode cX2_wornBits 11 = .ok (.invokevirtual 47, 3) := by decide +kernel
theorem dX2_wornBits_14 : decode cX2_wornBits 14 = .ok (.ifCond .eq 9, 3) := by decide +kernel
theorem dX2_wornBits_17 : decode cX2_wornBits 17 = .ok (.iload_n 1, 1) := by decide +kernel
theorem dX2_wornBits_18 : decode cX2_wornBits 18 = .ok (.iconst 1, 1) := by decide +kernel
theorem dX2_wornBits_19 : decode cX2_wornBits 19 = .ok (.iload_n 2, 1) := by decide +kernel
theorem dX2_wornBits_20 : decode cX2_wornBits 20 = .ok (.ishl, 1) := by decide +kernel
theorem dX2_wornBits_21 : decode cX2_wornBits 21 = .ok (.ior, 1) := by decide +kernel
theorem dX2_wornBits_22 : decode cX2_wornBits 22 = .ok (.istore_n 1, 1) := by decide +kernel
theorem dX2_wornBits_23 : decode cX2_wornBits 23 = .ok (.iinc 2 1, 3) := by decide +kernel
theorem dX2_wornBits_26 : decode cX2_wornBits 26 = .ok (.goto (-22), 3) := by decide +kernel
theorem dX2_wornBits_29 : decode cX2_wornBits 29 = .ok (.iload_n 1, 1) := by decide +kernel
theorem dX2_wornBits_30 : decode cX2_wornBits 30 = .ok (.ireturn, 1) := by decide +kernel
theorem dX3_init_0 : decode cX3_init 0 = .ok (.aload_n 0, 1) := by decide +kernel
theorem dX3_init_1 : decode cX3_init 1 = .ok (.invokespecial 3, 3) := by decide +kernel
theorem dX3_init_4 : decode cX3_init 4 = .ok (.aload_n 0, 1) := by decide +kernel
theorem dX3_init_5 : decode cX3_init 5 = .ok (.iconst 4, 1) := by decide +kernel
theorem dX3_init_6 : decode cX3_init 6 = .ok (.newarray .int, 2) := by decide +kernel
theorem dX3_init_8 : decode cX3_init 8 = .ok (.putfield 9, 3) := by decide +kernel
theorem dX3_init_11 : decode cX3_init 11 = .ok (.aload_n 0, 1) := by decide +kernel
theorem dX3_init_12 : decode cX3_init 12 = .ok (.iconst 4, 1) := by decide +kernel
theorem dX3_init_13 : decode cX3_init 13 = .ok (.newarray .int, 2) := by decide +kernel
theorem dX3_init_15 : decode cX3_init 15 = .ok (.putfield 15, 3) := by decide +kernel
theorem dX3_init_18 : decode cX3_init 18 = .ok (.aload_n 0, 1) := by decide +kernel
theorem dX3_init_19 : decode cX3_init 19 = .ok (.iconst 4, 1) := by decide +kernel
theorem dX3_init_20 : decode cX3_init 20 = .ok (.newarray .int, 2) := by decide +kernel
theorem dX3_init_22 : decode cX3_init 22 = .ok (.putfield 18, 3) := by decide +kernel
theorem dX3_init_25 : decode cX3_init 25 = .ok (.aload_n 0, 1) := by decide +kernel
theorem dX3_init_26 : decode cX3_init 26 = .ok (.iconst 0, 1) := by decide +kernel
theorem dX3_init_27 : decode cX3_init 27 = .ok (.putfield 21, 3) := by decide +kernel
theorem dX3_init_30 : decode cX3_init 30 = .ok (.return_, 1) := by decide +kernel
theorem dX3_size_0 : decode cX3_size 0 = .ok (.aload_n 0, 1) := by decide +kernel
theorem dX3_size_1 : decode cX3_size 1 = .ok (.getfield 21, 3) := by decide +kernel
theorem dX3_size_4 : decode cX3_size 4 = .ok (.ireturn, 1) := by decide +kernel
theorem dX3_clear_0 : decode cX3_clear 0 = .ok (.aload_n 0, 1) := by decide +kernel
theorem dX3_clear_1 : decode cX3_clear 1 = .ok (.iconst 0, 1) := by decide +kernel
theorem dX3_clear_2 : decode cX3_clear 2 = .ok (.putfield 21, 3) := by decide +kernel
theorem dX3_clear_5 : decode cX3_clear 5 = .ok (.return_, 1) := by decide +kernel
set_option maxRecDepth 20000 in
theorem ggX3_add_X6_put : GoodIn wsX3_add wsX6_put := goodIn_r _ [7] (by decide +kernel) (by decide +kernel)
set_option maxRecDepth 20000 in
theorem gX3_add_X6_put_n25 : GoodIn wsX3_add (wsX6_put) := ggX3_add_X6_put
theorem dX3_add_0 : decode cX3_add 0 = .ok (.aload_n 0, 1) := by decide +kernel
theorem dX3_add_1 : decode cX3_add 1 = .ok (.getfield 21, 3) := by decide +kernel
theorem dX3_add_4 : decode cX3_add 4 = .ok (.iconst 4, 1) := by decide +kernel
theorem dX3_add_5 : decode cX3_add 5 = .ok (.if_icmp .ge 49, 3) := by decide +kernel
theorem dX3_add_8 : decode cX3_add 8 = .ok (.aload_n 0, 1) := by decide +kernel
theorem dX3_add_9 : decode cX3_add 9 = .ok (.getfield 9, 3) := by decide +kernel
theorem dX3_add_12 : decode cX3_add 12 = .ok (.aload_n 0, 1) := by decide +kernel
theorem dX3_add_13 : decode cX3_add 13 = .ok (.getfield 21, 3) := by decide +kernel
theorem dX3_add_16 : decode cX3_add 16 = .ok (.iload_n 1, 1) := by decide +kernel
theorem dX3_add_17 : decode cX3_add 17 = .ok (.invokestatic 25, 3) := by decide +kernel
theorem dX3_add_20 : decode cX3_add 20 = .ok (.aload_n 0, 1) := by decide +kernel
theorem dX3_add_21 : decode cX3_add 21 = .ok (.getfield 15, 3) := by decide +kernel
theorem dX3_add_24 : decode cX3_add 24 = .ok (.aload_n 0, 1) := by decide +kernel
theorem dX3_add_25 : decode cX3_add 25 = .ok (.getfield 21, 3) := by decide +kernel
theorem dX3_add_28 : decode cX3_add 28 = .ok (.iload_n 2, 1) := by decide +kernel
theorem dX3_add_29 : decode cX3_add 29 = .ok (.invokestatic 25, 3) := by decide +kernel
theorem dX3_add_32 : decode cX3_add 32 = .ok (.aload_n 0, 1) := by decide +kernel
theorem dX3_add_33 : decode cX3_add 33 = .ok (.getfield 18, 3) := by decide +kernel
theorem dX3_add_36 : decode cX3_add 36 = .ok (.aload_n 0, 1) := by decide +kernel
theorem dX3_add_37 : decode cX3_add 37 = .ok (.getfield 21, 3) := by decide +kernel
theorem dX3_add_40 : decode cX3_add 40 = .ok (.iload_n 3, 1) := by decide +kernel
theorem dX3_add_41 : decode cX3_add 41 = .ok (.invokestatic 25, 3) := by decide +kernel
theorem dX3_add_44 : decode cX3_add 44 = .ok (.aload_n 0, 1) := by decide +kernel
theorem dX3_add_45 : decode cX3_add 45 = .ok (.dup, 1) := by decide +kernel
theorem dX3_add_46 : decode cX3_add 46 = .ok (.getfield 21, 3) := by decide +kernel
theorem dX3_add_49 : decode cX3_add 49 = .ok (.iconst 1, 1) := by decide +kernel
theorem dX3_add_50 : decode cX3_add 50 = .ok (.iadd, 1) := by decide +kernel
theorem dX3_add_51 : decode cX3_add 51 = .ok (.putfield 21, 3) := by decide +kernel
theorem dX3_add_54 : decode cX3_add 54 = .ok (.return_, 1) := by decide +kernel
set_option maxRecDepth 20000 in
theorem ggX3_personAt_X6_at : GoodIn wsX3_personAt wsX6_at := goodIn_r _ [4] (by decide +kernel) (by decide +kernel)
set_option maxRecDepth 20000 in
theorem gX3_personAt_X6_at_n29 : GoodIn wsX3_personAt (wsX6_at) := ggX3_personAt_X6_at
theorem dX3_personAt_0 : decode cX3_personAt 0 = .ok (.aload_n 0, 1) := by decide +kernel
theorem dX3_personAt_1 : decode cX3_personAt 1 = .ok (.getfield 15, 3) := by decide +kernel
theorem dX3_personAt_4 : decode cX3_personAt 4 = .ok (.iload_n 1, 1) := by decide +kernel
theorem dX3_personAt_5 : decode cX3_personAt 5 = .ok (.invokestatic 29, 3) := by decide +kernel
theorem dX3_personAt_8 : decode cX3_personAt 8 = .ok (.ireturn, 1) := by decide +kernel
set_option maxRecDepth 20000 in
theorem ggX3_doingAt_X6_at : GoodIn wsX3_doingAt wsX6_at := goodIn_r _ [4] (by decide +kernel) (by decide +kernel)
set_option maxRecDepth 20000 in
theorem gX3_doingAt_X6_at_n29 : GoodIn wsX3_doingAt (wsX6_at) := ggX3_doingAt_X6_at
theorem dX3_doingAt_0 : decode cX3_doingAt 0 = .ok (.aload_n 0, 1) := by decide +kernel
theorem dX3_doingAt_1 : decode cX3_doingAt 1 = .ok (.getfield 18, 3) := by decide +kernel
theorem dX3_doingAt_4 : decode cX3_doingAt 4 = .ok (.iload_n 1, 1) := by decide +kernel
theorem dX3_doingAt_5 : decode cX3_doingAt 5 = .ok (.invokestatic 29, 3) := by decide +kernel
theorem dX3_doingAt_8 : decode cX3_doingAt 8 = .ok (.ireturn, 1) := by decide +kernel
set_option maxRecDepth 20000 in
theorem ggX3_nextOf_X6_at : GoodIn wsX3_nextOf wsX6_at := goodIn_r _ [5] (by decide +kernel) (by decide +kernel)
set_option maxRecDepth 20000 in
theorem gX3_nextOf_X6_at_n29 : GoodIn wsX3_nextOf (wsX6_at) := ggX3_nextOf_X6_at
set_option maxRecDepth 20000 in
theorem ggX3_nextOf_X3_personAt : GoodIn wsX3_nextOf wsX3_personAt := goodIn_r _ [10, 11, 3, 4, 5, 18, 19, 20, 21] (by decide +kernel) (by decide +kernel)
set_option maxRecDepth 20000 in
theorem gX3_nextOf_X3_personAt : GoodIn wsX3_nextOf (wsV RX3 33 RX3 yX3_personAt wsX3_personAt) := goodIn_app (goodIn_of _ (by decide +kernel)) ggX3_nextOf_X3_personAt
set_option maxRecDepth 20000 in
theorem ggX3_nextOf_X1_hasPerson : GoodIn wsX3_nextOf wsX1_hasPerson := goodIn_r _ [16, 17, 22, 23, 24, 25, 26, 27, 28, 29] (by decide +kernel) (by decide +kernel)
set_option maxRecDepth 20000 in
theorem gX3_nextOf_X1_hasPerson : GoodIn wsX3_nextOf (wsV RX3 37 RX1 yX1_hasPerson wsX1_hasPerson) := goodIn_app (goodIn_of _ (by decide +kernel)) ggX3_nextOf_X1_hasPerson
theorem dX3_nextOf_0 : decode cX3_nextOf 0 = .ok (.iload_n 3, 1) := by decide +kernel
theorem dX3_nextOf_1 : decode cX3_nextOf 1 = .ok (.istore 4, 2) := by decide +kernel
theorem dX3_nextOf_3 : decode cX3_nextOf 3 = .ok (.iload 4, 2) := by decide +kernel
theorem dX3_nextOf_5 : decode cX3_nextOf 5 = .ok (.aload_n 0, 1) := by decide +kernel
theorem dX3_nextOf_6 : decode cX3_nextOf 6 = .ok (.getfield 21, 3) := by decide +kernel
theorem dX3_nextOf_9 : decode cX3_nextOf 9 = .ok (.if_icmp .ge 38, 3) := by decide +kernel
theorem dX3_nextOf_12 : decode cX3_nextOf 12 = .ok (.aload_n 0, 1) := by decide +kernel
theorem dX3_nextOf_13 : decode cX3_nextOf 13 = .ok (.getfield 9, 3) := by decide +kernel
theorem dX3_nextOf_16 : decode cX3_nextOf 16 = .ok (.iload 4, 2) := by decide +kernel
theorem dX3_nextOf_18 : decode cX3_nextOf 18 = .ok (.invokestatic 29, 3) := by decide +kernel
theorem dX3_nextOf_21 : decode cX3_nextOf 21 = .ok (.iload_n 1, 1) := by decide +kernel
theorem dX3_nextOf_22 : decode cX3_nextOf 22 = .ok (.if_icmp .ne 19, 3) := by decide +kernel
theorem dX3_nextOf_25 : decode cX3_nextOf 25 = .ok (.aload_n 2, 1) := by decide +kernel
theorem dX3_nextOf_26 : decode cX3_nextOf 26 = .ok (.aload_n 0, 1) := by decide +kernel
theorem dX3_nextOf_27 : decode cX3_nextOf 27 = .ok (.iload 4, 2) := by decide +kernel
theorem dX3_nextOf_29 : decode cX3_nextOf 29 = .ok (.invokevirtual 33, 3) := by decide +kernel
theorem dX3_nextOf_32 : decode cX3_nextOf 32 = .ok (.invokevirtual 37, 3) := by decide +kernel
theorem dX3_nextOf_35 : decode cX3_nextOf 35 = .ok (.ifCond .eq 6, 3) := by decide +kernel
theorem dX3_nextOf_38 : decode cX3_nextOf 38 = .ok (.iload 4, 2) := by decide +kernel
theorem dX3_nextOf_40 : decode cX3_nextOf 40 = .ok (.ireturn, 1) := by decide +kernel
theorem dX3_nextOf_41 : decode cX3_nextOf 41 = .ok (.iinc 4 1, 3) := by decide +kernel
theorem dX3_nextOf_44 : decode cX3_nextOf 44 = .ok (.goto (-41), 3) := by decide +kernel
theorem dX3_nextOf_47 : decode cX3_nextOf 47 = .ok (.aload_n 0, 1) := by decide +kernel
theorem dX3_nextOf_48 : decode cX3_nextOf 48 = .ok (.getfield 21, 3) := by decide +kernel
theorem dX3_nextOf_51 : decode cX3_nextOf 51 = .ok (.ireturn, 1) := by decide +kernel
theorem dX4_init_0 : decode cX4_init 0 = .ok (.aload_n 0, 1) := by decide +kernel
theorem dX4_init_1 : decode cX4_init 1 = .ok (.invokespecial 3, 3) := by decide +kernel
theorem dX4_init_4 : decode cX4_init 4 = .ok (.aload_n 0, 1) := by decide +kernel
theorem dX4_init_5 : decode cX4_init 5 = .ok (.iconst 0, 1) := by decide +kernel
theorem dX4_init_6 : decode cX4_init 6 = .ok (.putfield 9, 3) := by decide +kernel
theorem dX4_init_9 : decode cX4_init 9 = .ok (.aload_n 0, 1) := by decide +kernel
theorem dX4_init_10 : decode cX4_init 10 = .ok (.bipush (-9), 2) := by decide +kernel
theorem dX4_init_12 : decode cX4_init 12 = .ok (.putfield 15, 3) := by decide +kernel
theorem dX4_init_15 : decode cX4_init 15 = .ok (.return_, 1) := by decide +kernel
theorem dX4_start_0 : decode cX4_start 0 = .ok (.aload_n 0, 1) := by decide +kernel
theorem dX4_start_1 : decode cX4_start 1 = .ok (.iconst 0, 1) := by decide +kernel
theorem dX4_start_2 : decode cX4_start 2 = .ok (.putfield 9, 3) := by decide +kernel
theorem dX4_start_5 : decode cX4_start 5 = .ok (.aload_n 0, 1) := by decide +kernel
theorem dX4_start_6 : decode cX4_start 6 = .ok (.bipush (-9), 2) := by decide +kernel
theorem dX4_start_8 : decode cX4_start 8 = .ok (.putfield 15, 3) := by decide +kernel
theorem dX4_start_11 : decode cX4_start 11 = .ok (.return_, 1) := by decide +kernel
theorem dX4_add_0 : decode cX4_add 0 = .ok (.aload_n 0, 1) := by decide +kernel
theorem dX4_add_1 : decode cX4_add 1 = .ok (.getfield 9, 3) := by decide +kernel
theorem dX4_add_4 : decode cX4_add 4 = .ok (.ifCond .ne 8, 3) := by decide +kernel
theorem dX4_add_7 : decode cX4_add 7 = .ok (.aload_n 0, 1) := by decide +kernel
theorem dX4_add_8 : decode cX4_add 8 = .ok (.iload_n 1, 1) := by decide +kernel
theorem dX4_add_9 : decode cX4_add 9 = .ok (.putfield 15, 3) := by decide +kernel
theorem dX4_add_12 : decode cX4_add 12 = .ok (.aload_n 0, 1) := by decide +kernel
theorem dX4_add_13 : decode cX4_add 13 = .ok (.dup, 1) := by decide +kernel
theorem dX4_add_14 : decode cX4_add 14 = .ok (.getfield 9, 3) := by decide +kernel
theorem dX4_add_17 : decode cX4_add 17 = .ok (.iconst 1, 1) := by decide +kernel
theorem dX4_add_18 : decode cX4_add 18 = .ok (.iadd, 1) := by decide +kernel
theorem dX4_add_19 : decode cX4_add 19 = .ok (.putfield 9, 3) := by decide +kernel
theorem dX4_add_22 : decode cX4_add 22 = .ok (.return_, 1) := by decide +kernel
theorem dX4_told_0 : decode cX4_told 0 = .ok (.iload_n 1, 1) := by decide +kernel
theorem dX4_told_1 : decode cX4_told 1 = .ok (.ifCond .ne 10, 3) := by decide +kernel
theorem dX4_told_4 : decode cX4_told 4 = .ok (.aload_n 0, 1) := by decide +kernel
theorem dX4_told_5 : decode cX4_told 5 = .ok (.getfield 9, 3) := by decide +kernel
theorem dX4_told_8 : decode cX4_told 8 = .ok (.goto 7, 3) := by decide +kernel
theorem dX4_told_11 : decode cX4_told 11 = .ok (.aload_n 0, 1) := by decide +kernel
theorem dX4_told_12 : decode cX4_told 12 = .ok (.getfield 15, 3) := by decide +kernel
theorem dX4_told_15 : decode cX4_told 15 = .ok (.ireturn, 1) := by decide +kernel
theorem dX5_init_0 : decode cX5_init 0 = .ok (.aload_n 0, 1) := by decide +kernel
theorem dX5_init_1 : decode cX5_init 1 = .ok (.invokespecial 3, 3) := by decide +kernel
theorem dX5_init_4 : decode cX5_init 4 = .ok (.aload_n 0, 1) := by decide +kernel
theorem dX5_init_5 : decode cX5_init 5 = .ok (.bipush 40, 2) := by decide +kernel
theorem dX5_init_7 : decode cX5_init 7 = .ok (.newarray .int, 2) := by decide +kernel
theorem dX5_init_9 : decode cX5_init 9 = .ok (.putfield 9, 3) := by decide +kernel
theorem dX5_init_12 : decode cX5_init 12 = .ok (.aload_n 0, 1) := by decide +kernel
theorem dX5_init_13 : decode cX5_init 13 = .ok (.iconst 0, 1) := by decide +kernel
theorem dX5_init_14 : decode cX5_init 14 = .ok (.putfield 15, 3) := by decide +kernel
theorem dX5_init_17 : decode cX5_init 17 = .ok (.return_, 1) := by decide +kernel
theorem dX5_size_0 : decode cX5_size 0 = .ok (.aload_n 0, 1) := by decide +kernel
theorem dX5_size_1 : decode cX5_size 1 = .ok (.getfield 15, 3) := by decide +kernel
theorem dX5_size_4 : decode cX5_size 4 = .ok (.ireturn, 1) := by decide +kernel
set_option maxRecDepth 20000 in
theorem ggX5_add_X6_put : GoodIn wsX5_add wsX6_put := goodIn_r _ [5] (by decide +kernel) (by decide +kernel)
set_option maxRecDepth 20000 in
theorem gX5_add_X6_put_n19 : GoodIn wsX5_add (wsX6_put) := ggX5_add_X6_put
theorem dX5_add_0 : decode cX5_add 0 = .ok (.aload_n 0, 1) := by decide +kernel
theorem dX5_add_1 : decode cX5_add 1 = .ok (.getfield 15, 3) := by decide +kernel
theorem dX5_add_4 : decode cX5_add 4 = .ok (.bipush 40, 2) := by decide +kernel
theorem dX5_add_6 : decode cX5_add 6 = .ok (.if_icmp .ge 25, 3) := by decide +kernel
theorem dX5_add_9 : decode cX5_add 9 = .ok (.aload_n 0, 1) := by decide +kernel
theorem dX5_add_10 : decode cX5_add 10 = .ok (.getfield 9, 3) := by decide +kernel
theorem dX5_add_13 : decode cX5_add 13 = .ok (.aload_n 0, 1) := by decide +kernel
theorem dX5_add_14 : decode cX5_add 14 = .ok (.getfield 15, 3) := by decide +kernel
theorem dX5_add_17 : decode cX5_add 17 = .ok (.iload_n 1, 1) := by decide +kernel
theorem dX5_add_18 : decode cX5_add 18 = .ok (.invokestatic 19, 3) := by decide +kernel
theorem dX5_add_21 : decode cX5_add 21 = .ok (.aload_n 0, 1) := by decide +kernel
theorem dX5_add_22 : decode cX5_add 22 = .ok (.dup, 1) := by decide +kernel
theorem dX5_add_23 : decode cX5_add 23 = .ok (.getfield 15, 3) := by decide +kernel
theorem dX5_add_26 : decode cX5_add 26 = .ok (.iconst 1, 1) := by decide +kernel
theorem dX5_add_27 : decode cX5_add 27 = .ok (.iadd, 1) := by decide +kernel
theorem dX5_add_28 : decode cX5_add 28 = .ok (.putfield 15, 3) := by decide +kernel
theorem dX5_add_31 : decode cX5_add 31 = .ok (.return_, 1) := by decide +kernel
theorem dX5_clear_0 : decode cX5_clear 0 = .ok (.aload_n 0, 1) := by decide +kernel
theorem dX5_clear_1 : decode cX5_clear 1 = .ok (.iconst 0, 1) := by decide +kernel
theorem dX5_clear_2 : decode cX5_clear 2 = .ok (.putfield 15, 3) := by decide +kernel
theorem dX5_clear_5 : decode cX5_clear 5 = .ok (.return_, 1) := by decide +kernel
set_option maxRecDepth 20000 in
theorem ggX5_firstFault_X5_fits : GoodIn wsX5_firstFault wsX5_fits := goodIn_r _ [6, 7, 8, 9, 10, 11, 12, 13, 14, 15, 16, 17, 5, 18, 19, 20, 21, 22, 23, 24, 25, 26, 27, 28, 33, 34] (by decide +kernel) (by decide +kernel)
set_option maxRecDepth 20000 in
theorem gX5_firstFault_X5_fits : GoodIn wsX5_firstFault (wsV RX5 23 RX5 yX5_fits wsX5_fits) := goodIn_app (goodIn_of _ (by decide +kernel)) ggX5_firstFault_X5_fits
set_option maxRecDepth 20000 in
theorem ggX5_firstFault_X5_endsAPart : GoodIn wsX5_firstFault wsX5_endsAPart := goodIn_r _ [32, 1, 33, 34] (by decide +kernel) (by decide +kernel)
set_option maxRecDepth 20000 in
theorem gX5_firstFault_X5_endsAPart : GoodIn wsX5_firstFault (wsV RX5 27 RX5 yX5_endsAPart wsX5_endsAPart) := goodIn_app (goodIn_of _ (by decide +kernel)) ggX5_firstFault_X5_endsAPart
theorem dX5_firstFault_0 : decode cX5_firstFault 0 = .ok (.iconst 0, 1) := by decide +kernel
theorem dX5_firstFault_1 : decode cX5_firstFault 1 = .ok (.istore_n 1, 1) := by decide +kernel
theorem dX5_firstFault_2 : decode cX5_firstFault 2 = .ok (.iload_n 1, 1) := by decide +kernel
theorem dX5_firstFault_3 : decode cX5_firstFault 3 = .ok (.aload_n 0, 1) := by decide +kernel
theorem dX5_firstFault_4 : decode cX5_firstFault 4 = .ok (.getfield 15, 3) := by decide +kernel
theorem dX5_firstFault_7 : decode cX5_firstFault 7 = .ok (.if_icmp .ge 19, 3) := by decide +kernel
theorem dX5_firstFault_10 : decode cX5_firstFault 10 = .ok (.aload_n 0, 1) := by decide +kernel
theorem dX5_firstFault_11 : decode cX5_firstFault 11 = .ok (.iload_n 1, 1) := by decide +kernel
theorem dX5_firstFault_12 : decode cX5_firstFault 12 = .ok (.invokevirtual 23, 3) := by decide +kernel
theorem dX5_firstFault_15 : decode cX5_firstFault 15 = .ok (.ifCond .ne 5, 3) := by decide +kernel
theorem dX5_firstFault_18 : decode cX5_firstFault 18 = .ok (.iload_n 1, 1) := by decide +kernel
theorem dX5_firstFault_19 : decode cX5_firstFault 19 = .ok (.ireturn, 1) := by decide +kernel
theorem dX5_firstFault_20 : decode cX5_firstFault 20 = .ok (.iinc 1 1, 3) := by decide +kernel
theorem dX5_firstFault_23 : decode cX5_firstFault 23 = .ok (.goto (-21), 3) := by decide +kernel
theorem dX5_firstFault_26 : decode cX5_firstFault 26 = .ok (.aload_n 0, 1) := by decide +kernel
theorem dX5_firstFault_27 : decode cX5_firstFault 27 = .ok (.invokevirtual 27, 3) := by decide +kernel
theorem dX5_firstFault_30 : decode cX5_firstFault 30 = .ok (.ifCond .eq 8, 3) := by decide +kernel
theorem dX5_firstFault_33 : decode cX5_firstFault 33 = .ok (.bipush (-9), 2) := by decide +kernel
theorem dX5_firstFault_35 : decode cX5_firstFault 35 = .ok (.goto 7, 3) := by decide +kernel
theorem dX5_firstFault_38 : decode cX5_firstFault 38 = .ok (.aload_n 0, 1) := by decide +kernel
theorem dX5_firstFault_39 : decode cX5_firstFault 39 = .ok (.getfield 15, 3) := by decide +kernel
theorem dX5_firstFault_42 : decode cX5_firstFault 42 = .ok (.ireturn, 1) := by decide +kernel
theorem dX5_endsAPart_0 : decode cX5_endsAPart 0 = .ok (.aload_n 0, 1) := by decide +kernel
theorem dX5_endsAPart_1 : decode cX5_endsAPart 1 = .ok (.getfield 15, 3) := by decide +kernel
theorem dX5_endsAPart_4 : decode cX5_endsAPart 4 = .ok (.ifCond .le 18, 3) := by decide +kernel
theorem dX5_endsAPart_7 : decode cX5_endsAPart 7 = .ok (.aload_n 0, 1) := by decide +kernel
theorem dX5_endsAPart_8 : decode cX5_endsAPart 8 = .ok (.getfield 15, 3) := by decide +kernel
theorem dX5_endsAPart_11 : decode cX5_endsAPart 11 = .ok (.iconst 1, 1) := by decide +kernel
theorem dX5_endsAPart_12 : decode cX5_endsAPart 12 = .ok (.isub, 1) := by decide +kernel
theorem dX5_endsAPart_13 : decode cX5_endsAPart 13 = .ok (.iconst 4, 1) := by decide +kernel
theorem dX5_endsAPart_14 : decode cX5_endsAPart 14 = .ok (.irem, 1) := by decide +kernel
theorem dX5_endsAPart_15 : decode cX5_endsAPart 15 = .ok (.ifCond .ne 7, 3) := by decide +kernel
theorem dX5_endsAPart_18 : decode cX5_endsAPart 18 = .ok (.iconst 1, 1) := by decide +kernel
theorem dX5_endsAPart_19 : decode cX5_endsAPart 19 = .ok (.goto 4, 3) := by decide +kernel
theorem dX5_endsAPart_22 : decode cX5_endsAPart 22 = .ok (.iconst 0, 1) := by decide +kernel
theorem dX5_endsAPart_23 : decode cX5_endsAPart 23 = .ok (.ireturn, 1) := by decide +kernel
set_option maxRecDepth 20000 in
theorem ggX5_fits_X6_at : GoodIn wsX5_fits wsX6_at := goodIn_r _ [8] (by decide +kernel) (by decide +kernel)
set_option maxRecDepth 20000 in
theorem gX5_fits_X6_at_n31 : GoodIn wsX5_fits (wsX6_at) := ggX5_fits_X6_at
set_option maxRecDepth 20000 in
theorem ggX5_fits_X5_partsAhead : GoodIn wsX5_fits wsX5_partsAhead := goodIn_r _ [13, 1, 6, 7, 8, 24, 25] (by decide +kernel) (by decide +kernel)
set_option maxRecDepth 20000 in
theorem gX5_fits_X5_partsAhead : GoodIn wsX5_fits (wsV RX5 35 RX5 yX5_partsAhead wsX5_partsAhead) := goodIn_app (goodIn_of _ (by decide +kernel)) ggX5_fits_X5_partsAhead
set_option maxRecDepth 20000 in
theorem ggX5_fits_X5_isPerson : GoodIn wsX5_fits wsX5_isPerson := goodIn_r _ [17, 1, 6, 7, 8, 24, 25] (by decide +kernel) (by decide +kernel)
set_option maxRecDepth 20000 in
theorem gX5_fits_X5_isPerson : GoodIn wsX5_fits (wsV RX5 39 RX5 yX5_isPerson wsX5_isPerson) := goodIn_app (goodIn_of _ (by decide +kernel)) ggX5_fits_X5_isPerson
set_option maxRecDepth 20000 in
theorem ggX5_fits_X5_figureAt : GoodIn wsX5_fits wsX5_figureAt := goodIn_r _ [21, 1, 6, 7, 8, 24, 25] (by decide +kernel) (by decide +kernel)
set_option maxRecDepth 20000 in
theorem gX5_fits_X5_figureAt : GoodIn wsX5_fits (wsV RX5 54 RX5 yX5_figureAt wsX5_figureAt) := goodIn_app (goodIn_of _ (by decide +kernel)) ggX5_fits_X5_figureAt
set_option maxRecDepth 20000 in
theorem ggX5_fits_X6_within : GoodIn wsX5_fits wsX6_within := goodIn_r _ [23] (by decide +kernel) (by decide +kernel)
set_option maxRecDepth 20000 in
theorem gX5_fits_X6_within_n58 : GoodIn wsX5_fits (wsX6_within) := ggX5_fits_X6_within
theorem dX5_fits_0 : decode cX5_fits 0 = .ok (.aload_n 0, 1) := by decide +kernel
theorem dX5_fits_1 : decode cX5_fits 1 = .ok (.getfield 9, 3) := by decide +kernel
theorem dX5_fits_4 : decode cX5_fits 4 = .ok (.iload_n 1, 1) := by decide +kernel
theorem dX5_fits_5 : decode cX5_fits 5 = .ok (.invokestatic 31, 3) := by decide +kernel
theorem dX5_fits_8 : decode cX5_fits 8 = .ok (.istore_n 2, 1) := by decide +kernel
theorem dX5_fits_9 : decode cX5_fits 9 = .ok (.iload_n 1, 1) := by decide +kernel
theorem dX5_fits_10 : decode cX5_fits 10 = .ok (.ifCond .ne 15, 3) := by decide +kernel
theorem dX5_fits_13 : decode cX5_fits 13 = .ok (.iload_n 2, 1) := by decide +kernel
theorem dX5_fits_14 : decode cX5_fits 14 = .ok (.bipush 71, 2) := by decide +kernel
theorem dX5_fits_16 : decode cX5_fits 16 = .ok (.if_icmp .ne 7, 3) := by decide +kernel
theorem dX5_fits_19 : decode cX5_fits 19 = .ok (.iconst 1, 1) := by decide +kernel
theorem dX5_fits_20 : decode cX5_fits 20 = .ok (.goto 4, 3) := by decide +kernel
theorem dX5_fits_23 : decode cX5_fits 23 = .ok (.iconst 0, 1) := by decide +kernel
theorem dX5_fits_24 : decode cX5_fits 24 = .ok (.ireturn, 1) := by decide +kernel
theorem dX5_fits_25 : decode cX5_fits 25 = .ok (.iload_n 1, 1) := by decide +kernel
theorem dX5_fits_26 : decode cX5_fits 26 = .ok (.iconst 1, 1) := by decide +kernel
theorem dX5_fits_27 : decode cX5_fits 27 = .ok (.isub, 1) := by decide +kernel
theorem dX5_fits_28 : decode cX5_fits 28 = .ok (.iconst 4, 1) := by decide +kernel
theorem dX5_fits_29 : decode cX5_fits 29 = .ok (.irem, 1) := by decide +kernel
theorem dX5_fits_30 : decode cX5_fits 30 = .ok (.istore_n 3, 1) := by decide +kernel
theorem dX5_fits_31 : decode cX5_fits 31 = .ok (.iload_n 3, 1) := by decide +kernel
theorem dX5_fits_32 : decode cX5_fits 32 = .ok (.ifCond .ne 43, 3) := by decide +kernel
theorem dX5_fits_35 : decode cX5_fits 35 = .ok (.iload_n 2, 1) := by decide +kernel
theorem dX5_fits_36 : decode cX5_fits 36 = .ok (.bipush 80, 2) := by decide +kernel
theorem dX5_fits_38 : decode cX5_fits 38 = .ok (.if_icmp .ne 14, 3) := by decide +kernel
theorem dX5_fits_41 : decode cX5_fits 41 = .ok (.aload_n 0, 1) := by decide +kernel
theorem dX5_fits_42 : decode cX5_fits 42 = .ok (.iload_n 1, 1) := by decide +kernel
theorem dX5_fits_43 : decode cX5_fits 43 = .ok (.bipush 80, 2) := by decide +kernel
theorem dX5_fits_45 : decode cX5_fits 45 = .ok (.invokevirtual 35, 3) := by decide +kernel
theorem dX5_fits_48 : decode cX5_fits 48 = .ok (.iconst 5, 1) := by decide +kernel
theorem dX5_fits_49 : decode cX5_fits 49 = .ok (.if_icmp .lt 20, 3) := by decide +kernel
theorem dX5_fits_52 : decode cX5_fits 52 = .ok (.iload_n 2, 1) := by decide +kernel
theorem dX5_fits_53 : decode cX5_fits 53 = .ok (.bipush 76, 2) := by decide +kernel
theorem dX5_fits_55 : decode cX5_fits 55 = .ok (.if_icmp .ne 18, 3) := by decide +kernel
theorem dX5_fits_58 : decode cX5_fits 58 = .ok (.aload_n 0, 1) := by decide +kernel
theorem dX5_fits_59 : decode cX5_fits 59 = .ok (.iload_n 1, 1) := by decide +kernel
theorem dX5_fits_60 : decode cX5_fits 60 = .ok (.bipush 76, 2) := by decide +kernel
theorem dX5_fits_62 : decode cX5_fits 62 = .ok (.invokevirtual 35, 3) := by decide +kernel
theorem dX5_fits_65 : decode cX5_fits 65 = .ok (.iconst 4, 1) := by decide +kernel
theorem dX5_fits_66 : decode cX5_fits 66 = .ok (.if_icmp .ge 7, 3) := by decide +kernel
theorem dX5_fits_69 : decode cX5_fits 69 = .ok (.iconst 1, 1) := by decide +kernel
theorem dX5_fits_70 : decode cX5_fits 70 = .ok (.goto 4, 3) := by decide +kernel
theorem dX5_fits_73 : decode cX5_fits 73 = .ok (.iconst 0, 1) := by decide +kernel
theorem dX5_fits_74 : decode cX5_fits 74 = .ok (.ireturn, 1) := by decide +kernel
theorem dX5_fits_75 : decode cX5_fits 75 = .ok (.aload_n 0, 1) := by decide +kernel
theorem dX5_fits_76 : decode cX5_fits 76 = .ok (.iload_n 1, 1) := by decide +kernel
theorem dX5_fits_77 : decode cX5_fits 77 = .ok (.iload_n 3, 1) := by decide +kernel
theorem dX5_fits_78 : decode cX5_fits 78 = .ok (.isub, 1) := by decide +kernel
theorem dX5_fits_79 : decode cX5_fits 79 = .ok (.invokevirtual 39, 3) := by decide +kernel
theorem dX5_fits_82 : decode cX5_fits 82 = .ok (.istore 4, 2) := by decide +kernel
theorem dX5_fits_84 : decode cX5_fits 84 = .ok (.iload 4, 2) := by decide +kernel
theorem dX5_fits_86 : decode cX5_fits 86 = .ok (.ifCond .eq 9, 3) := by decide +kernel
theorem dX5_fits_89 : decode cX5_fits 89 = .ok (.getstatic 42, 3) := by decide +kernel
theorem dX5_fits_92 : decode cX5_fits 92 = .ok (.goto 6, 3) := by decide +kernel
theorem dX5_fits_95 : decode cX5_fits 95 = .ok (.getstatic 45, 3) := by decide +kernel
theorem dX5_fits_98 : decode cX5_fits 98 = .ok (.iload_n 3, 1) := by decide +kernel
theorem dX5_fits_99 : decode cX5_fits 99 = .ok (.iconst 1, 1) := by decide +kernel
theorem dX5_fits_100 : decode cX5_fits 100 = .ok (.isub, 1) := by decide +kernel
theorem dX5_fits_101 : decode cX5_fits 101 = .ok (.invokestatic 31, 3) := by decide +kernel
theorem dX5_fits_104 : decode cX5_fits 104 = .ok (.istore 5, 2) := by decide +kernel
theorem dX5_fits_106 : decode cX5_fits 106 = .ok (.iload 4, 2) := by decide +kernel
theorem dX5_fits_108 : decode cX5_fits 108 = .ok (.ifCond .eq 9, 3) := by decide +kernel
theorem dX5_fits_111 : decode cX5_fits 111 = .ok (.getstatic 48, 3) := by decide +kernel
theorem dX5_fits_114 : decode cX5_fits 114 = .ok (.goto 6, 3) := by decide +kernel
theorem dX5_fits_117 : decode cX5_fits 117 = .ok (.getstatic 51, 3) := by decide +kernel
theorem dX5_fits_120 : decode cX5_fits 120 = .ok (.iload_n 3, 1) := by decide +kernel
theorem dX5_fits_121 : decode cX5_fits 121 = .ok (.iconst 1, 1) := by decide +kernel
theorem dX5_fits_122 : decode cX5_fits 122 = .ok (.isub, 1) := by decide +kernel
theorem dX5_fits_123 : decode cX5_fits 123 = .ok (.invokestatic 31, 3) := by decide +kernel
theorem dX5_fits_126 : decode cX5_fits 126 = .ok (.istore 6, 2) := by decide +kernel
theorem dX5_fits_128 : decode cX5_fits 128 = .ok (.aload_n 0, 1) := by decide +kernel
theorem dX5_fits_129 : decode cX5_fits 129 = .ok (.iload_n 1, 1) := by decide +kernel
theorem dX5_fits_130 : decode cX5_fits 130 = .ok (.invokevirtual 54, 3) := by decide +kernel
theorem dX5_fits_133 : decode cX5_fits 133 = .ok (.iload 5, 2) := by decide +kernel
theorem dX5_fits_135 : decode cX5_fits 135 = .ok (.iload 6, 2) := by decide +kernel
theorem dX5_fits_137 : decode cX5_fits 137 = .ok (.invokestatic 58, 3) := by decide +kernel
theorem dX5_fits_140 : decode cX5_fits 140 = .ok (.ireturn, 1) := by decide +kernel
set_option maxRecDepth 20000 in
theorem ggX5_partsAhead_X6_at : GoodIn wsX5_partsAhead wsX6_at := goodIn_r _ [4] (by decide +kernel) (by decide +kernel)
set_option maxRecDepth 20000 in
theorem gX5_partsAhead_X6_at_n31 : GoodIn wsX5_partsAhead (wsX6_at) := ggX5_partsAhead_X6_at
theorem dX5_partsAhead_0 : decode cX5_partsAhead 0 = .ok (.iconst 0, 1) := by decide +kernel
theorem dX5_partsAhead_1 : decode cX5_partsAhead 1 = .ok (.istore_n 3, 1) := by decide +kernel
theorem dX5_partsAhead_2 : decode cX5_partsAhead 2 = .ok (.iconst 1, 1) := by decide +kernel
theorem dX5_partsAhead_3 : decode cX5_partsAhead 3 = .ok (.istore 4, 2) := by decide +kernel
theorem dX5_partsAhead_5 : decode cX5_partsAhead 5 = .ok (.iload 4, 2) := by decide +kernel
theorem dX5_partsAhead_7 : decode cX5_partsAhead 7 = .ok (.iload_n 1, 1) := by decide +kernel
theorem dX5_partsAhead_8 : decode cX5_partsAhead 8 = .ok (.if_icmp .ge 25, 3) := by decide +kernel
theorem dX5_partsAhead_11 : decode cX5_partsAhead 11 = .ok (.aload_n 0, 1) := by decide +kernel
theorem dX5_partsAhead_12 : decode cX5_partsAhead 12 = .ok (.getfield 9, 3) := by decide +kernel
theorem dX5_partsAhead_15 : decode cX5_partsAhead 15 = .ok (.iload 4, 2) := by decide +kernel
theorem dX5_partsAhead_17 : decode cX5_partsAhead 17 = .ok (.invokestatic 31, 3) := by decide +kernel
theorem dX5_partsAhead_20 : decode cX5_partsAhead 20 = .ok (.iload_n 2, 1) := by decide +kernel
theorem dX5_partsAhead_21 : decode cX5_partsAhead 21 = .ok (.if_icmp .ne 6, 3) := by decide +kernel
theorem dX5_partsAhead_24 : decode cX5_partsAhead 24 = .ok (.iinc 3 1, 3) := by decide +kernel
theorem dX5_partsAhead_27 : decode cX5_partsAhead 27 = .ok (.iinc 4 4, 3) := by decide +kernel
theorem dX5_partsAhead_30 : decode cX5_partsAhead 30 = .ok (.goto (-25), 3) := by decide +kernel
theorem dX5_partsAhead_33 : decode cX5_partsAhead 33 = .ok (.iload_n 3, 1) := by decide +kernel
theorem dX5_partsAhead_34 : decode cX5_partsAhead 34 = .ok (.ireturn, 1) := by decide +kernel
set_option maxRecDepth 20000 in
theorem ggX5_isPerson_X6_at : GoodIn wsX5_isPerson wsX6_at := goodIn_r _ [4] (by decide +kernel) (by decide +kernel)
set_option maxRecDepth 20000 in
theorem gX5_isPerson_X6_at_n31 : GoodIn wsX5_isPerson (wsX6_at) := ggX5_isPerson_X6_at
theorem dX5_isPerson_0 : decode cX5_isPerson 0 = .ok (.aload_n 0, 1) := by decide +kernel
theorem dX5_isPerson_1 : decode cX5_isPerson 1 = .ok (.getfield 9, 3) := by decide +kernel
theorem dX5_isPerson_4 : decode cX5_isPerson 4 = .ok (.iload_n 1, 1) := by decide +kernel
theorem dX5_isPerson_5 : decode cX5_isPerson 5 = .ok (.invokestatic 31, 3) := by decide +kernel
theorem dX5_isPerson_8 : decode cX5_isPerson 8 = .ok (.bipush 80, 2) := by decide +kernel
theorem dX5_isPerson_10 : decode cX5_isPerson 10 = .ok (.if_icmp .ne 7, 3) := by decide +kernel
theorem dX5_isPerson_13 : decode cX5_isPerson 13 = .ok (.iconst 1, 1) := by decide +kernel
theorem dX5_isPerson_14 : decode cX5_isPerson 14 = .ok (.goto 4, 3) := by decide +kernel
theorem dX5_isPerson_17 : decode cX5_isPerson 17 = .ok (.iconst 0, 1) := by decide +kernel
theorem dX5_isPerson_18 : decode cX5_isPerson 18 = .ok (.ireturn, 1) := by decide +kernel
set_option maxRecDepth 20000 in
theorem ggX5_figureAt_X6_at : GoodIn wsX5_figureAt wsX6_at := goodIn_r _ [4] (by decide +kernel) (by decide +kernel)
set_option maxRecDepth 20000 in
theorem gX5_figureAt_X6_at_n31 : GoodIn wsX5_figureAt (wsX6_at) := ggX5_figureAt_X6_at
theorem dX5_figureAt_0 : decode cX5_figureAt 0 = .ok (.aload_n 0, 1) := by decide +kernel
theorem dX5_figureAt_1 : decode cX5_figureAt 1 = .ok (.getfield 9, 3) := by decide +kernel
theorem dX5_figureAt_4 : decode cX5_figureAt 4 = .ok (.iload_n 1, 1) := by decide +kernel
theorem dX5_figureAt_5 : decode cX5_figureAt 5 = .ok (.invokestatic 31, 3) := by decide +kernel
theorem dX5_figureAt_8 : decode cX5_figureAt 8 = .ok (.bipush 48, 2) := by decide +kernel
theorem dX5_figureAt_10 : decode cX5_figureAt 10 = .ok (.isub, 1) := by decide +kernel
theorem dX5_figureAt_11 : decode cX5_figureAt 11 = .ok (.ireturn, 1) := by decide +kernel
set_option maxRecDepth 20000 in
theorem ggX6_init_X5_init : GoodIn wsX6_init wsX5_init := goodIn_r _ [33, 34, 2, 3, 35, 36, 37, 81, 82] (by decide +kernel) (by decide +kernel)
set_option maxRecDepth 20000 in
theorem gX6_init_X5_init : GoodIn wsX6_init (wsX5_init) := ggX6_init_X5_init
set_option maxRecDepth 20000 in
theorem ggX6_init_X1_init : GoodIn wsX6_init wsX1_init := goodIn_r _ [40, 41, 2, 3, 35, 42, 43, 44, 45, 46, 47, 48, 49, 92, 93, 94, 95, 96, 97, 98, 99] (by decide +kernel) (by decide +kernel)
set_option maxRecDepth 20000 in
theorem gX6_init_X1_init : GoodIn wsX6_init (wsX1_init) := ggX6_init_X1_init
set_option maxRecDepth 20000 in
theorem ggX6_init_X2_init : GoodIn wsX6_init wsX2_init := goodIn_r _ [52, 53, 2, 3, 35, 54, 55, 56, 57, 100, 101, 102, 103] (by decide +kernel) (by decide +kernel)
set_option maxRecDepth 20000 in
theorem gX6_init_X2_init : GoodIn wsX6_init (wsX2_init) := ggX6_init_X2_init
set_option maxRecDepth 20000 in
theorem ggX6_init_X0_init : GoodIn wsX6_init wsX0_init := goodIn_r _ [60, 61, 2, 3, 62, 63, 13, 14, 64, 65, 66, 51, 52, 53, 35, 54, 55, 56, 57, 104, 105, 106, 100, 101, 102, 103] (by decide +kernel) (by decide +kernel)
set_option maxRecDepth 20000 in
theorem gX6_init_X0_init : GoodIn wsX6_init (wsX0_init) := ggX6_init_X0_init
set_option maxRecDepth 20000 in
theorem ggX6_init_X3_init : GoodIn wsX6_init wsX3_init := goodIn_r _ [69, 70, 2, 3, 35, 71, 72, 73, 74, 107, 108, 109, 110] (by decide +kernel) (by decide +kernel)
set_option maxRecDepth 20000 in
theorem gX6_init_X3_init : GoodIn wsX6_init (wsX3_init) := ggX6_init_X3_init
set_option maxRecDepth 20000 in
theorem ggX6_init_X4_init : GoodIn wsX6_init wsX4_init := goodIn_r _ [77, 78, 2, 3, 79, 80, 111, 112] (by decide +kernel) (by decide +kernel)
set_option maxRecDepth 20000 in
theorem gX6_init_X4_init : GoodIn wsX6_init (wsX4_init) := ggX6_init_X4_init
theorem dX6_init_0 : decode cX6_init 0 = .ok (.aload_n 0, 1) := by decide +kernel
theorem dX6_init_1 : decode cX6_init 1 = .ok (.invokespecial 1, 3) := by decide +kernel
theorem dX6_init_4 : decode cX6_init 4 = .ok (.aload_n 0, 1) := by decide +kernel
theorem dX6_init_5 : decode cX6_init 5 = .ok (.new 7, 3) := by decide +kernel
theorem dX6_init_8 : decode cX6_init 8 = .ok (.dup, 1) := by decide +kernel
theorem dX6_init_9 : decode cX6_init 9 = .ok (.invokespecial 9, 3) := by decide +kernel
theorem dX6_init_12 : decode cX6_init 12 = .ok (.putfield 10, 3) := by decide +kernel
theorem dX6_init_15 : decode cX6_init 15 = .ok (.aload_n 0, 1) := by decide +kernel
theorem dX6_init_16 : decode cX6_init 16 = .ok (.new 16, 3) := by decide +kernel
theorem dX6_init_19 : decode cX6_init 19 = .ok (.dup, 1) := by decide +kernel
theorem dX6_init_20 : decode cX6_init 20 = .ok (.invokespecial 18, 3) := by decide +kernel
theorem dX6_init_23 : decode cX6_init 23 = .ok (.putfield 19, 3) := by decide +kernel
theorem dX6_init_26 : decode cX6_init 26 = .ok (.aload_n 0, 1) := by decide +kernel
theorem dX6_init_27 : decode cX6_init 27 = .ok (.new 23, 3) := by decide +kernel
theorem dX6_init_30 : decode cX6_init 30 = .ok (.dup, 1) := by decide +kernel
theorem dX6_init_31 : decode cX6_init 31 = .ok (.invokespecial 25, 3) := by decide +kernel
theorem dX6_init_34 : decode cX6_init 34 = .ok (.putfield 26, 3) := by decide +kernel
theorem dX6_init_37 : decode cX6_init 37 = .ok (.aload_n 0, 1) := by decide +kernel
theorem dX6_init_38 : decode cX6_init 38 = .ok (.new 23, 3) := by decide +kernel
theorem dX6_init_41 : decode cX6_init 41 = .ok (.dup, 1) := by decide +kernel
theorem dX6_init_42 : decode cX6_init 42 = .ok (.invokespecial 25, 3) := by decide +kernel
theorem dX6_init_45 : decode cX6_init 45 = .ok (.putfield 30, 3) := by decide +kernel
theorem dX6_init_48 : decode cX6_init 48 = .ok (.aload_n 0, 1) := by decide +kernel
theorem dX6_init_49 : decode cX6_init 49 = .ok (.new 33, 3) := by decide +kernel
theorem dX6_init_52 : decode cX6_init 52 = .ok (.dup, 1) := by decide +kernel
theorem dX6_init_53 : decode cX6_init 53 = .ok (.invokespecial 35, 3) := by decide +kernel
theorem dX6_init_56 : decode cX6_init 56 = .ok (.putfield 36, 3) := by decide +kernel
theorem dX6_init_59 : decode cX6_init 59 = .ok (.aload_n 0, 1) := by decide +kernel
theorem dX6_init_60 : decode cX6_init 60 = .ok (.new 40, 3) := by decide +kernel
theorem dX6_init_63 : decode cX6_init 63 = .ok (.dup, 1) := by decide +kernel
theorem dX6_init_64 : decode cX6_init 64 = .ok (.invokespecial 42, 3) := by decide +kernel
theorem dX6_init_67 : decode cX6_init 67 = .ok (.putfield 43, 3) := by decide +kernel
theorem dX6_init_70 : decode cX6_init 70 = .ok (.aload_n 0, 1) := by decide +kernel
theorem dX6_init_71 : decode cX6_init 71 = .ok (.new 47, 3) := by decide +kernel
theorem dX6_init_74 : decode cX6_init 74 = .ok (.dup, 1) := by decide +kernel
theorem dX6_init_75 : decode cX6_init 75 = .ok (.invokespecial 49, 3) := by decide +kernel
theorem dX6_init_78 : decode cX6_init 78 = .ok (.putfield 50, 3) := by decide +kernel
theorem dX6_init_81 : decode cX6_init 81 = .ok (.aload_n 0, 1) := by decide +kernel
theorem dX6_init_82 : decode cX6_init 82 = .ok (.iconst 2, 1) := by decide +kernel
theorem dX6_init_83 : decode cX6_init 83 = .ok (.anewarray 23, 3) := by decide +kernel
theorem dX6_init_86 : decode cX6_init 86 = .ok (.putfield 54, 3) := by decide +kernel
theorem dX6_init_89 : decode cX6_init 89 = .ok (.iconst 0, 1) := by decide +kernel
theorem dX6_init_90 : decode cX6_init 90 = .ok (.istore_n 1, 1) := by decide +kernel
theorem dX6_init_91 : decode cX6_init 91 = .ok (.iload_n 1, 1) := by decide +kernel
theorem dX6_init_92 : decode cX6_init 92 = .ok (.aload_n 0, 1) := by decide +kernel
theorem dX6_init_93 : decode cX6_init 93 = .ok (.getfield 54, 3) := by decide +kernel
theorem dX6_init_96 : decode cX6_init 96 = .ok (.arraylength, 1) := by decide +kernel
theorem dX6_init_97 : decode cX6_init 97 = .ok (.if_icmp .ge 22, 3) := by decide +kernel
theorem dX6_init_100 : decode cX6_init 100 = .ok (.aload_n 0, 1) := by decide +kernel
theorem dX6_init_101 : decode cX6_init 101 = .ok (.getfield 54, 3) := by decide +kernel
theorem dX6_init_104 : decode cX6_init 104 = .ok (.iload_n 1, 1) := by decide +kernel
theorem dX6_init_105 : decode cX6_init 105 = .ok (.new 23, 3) := by decide +kernel
theorem dX6_init_108 : decode cX6_init 108 = .ok (.dup, 1) := by decide +kernel
theorem dX6_init_109 : decode cX6_init 109 = .ok (.invokespecial 25, 3) := by decide +kernel
theorem dX6_init_112 : decode cX6_init 112 = .ok (.aastore, 1) := by decide +kernel
theorem dX6_init_113 : decode cX6_init 113 = .ok (.iinc 1 1, 3) := by decide +kernel
theorem dX6_init_116 : decode cX6_init 116 = .ok (.goto (-25), 3) := by decide +kernel
theorem dX6_init_119 : decode cX6_init 119 = .ok (.aload_n 0, 1) := by decide +kernel
theorem dX6_init_120 : decode cX6_init 120 = .ok (.lconst 0, 1) := by decide +kernel
theorem dX6_init_121 : decode cX6_init 121 = .ok (.putfield 58, 3) := by decide +kernel
theorem dX6_init_124 : decode cX6_init 124 = .ok (.return_, 1) := by decide +kernel
set_option maxRecDepth 20000 in
theorem ggX6_write_X6_within : GoodIn wsX6_write wsX6_within := goodIn_r _ [5] (by decide +kernel) (by decide +kernel)
set_option maxRecDepth 20000 in
theorem gX6_write_X6_within : GoodIn wsX6_write (va_wsS RX6 62 yX6_within wsX6_within) := goodIn_app (goodIn_of _ (by decide +kernel)) ggX6_write_X6_within
set_option maxRecDepth 20000 in
theorem ggX6_write_X5_size : GoodIn wsX6_write wsX5_size := goodIn_r _ [10, 11, 28, 29] (by decide +kernel) (by decide +kernel)
set_option maxRecDepth 20000 in
theorem gX6_write_X5_size : GoodIn wsX6_write (wsV RX6 66 RX5 yX5_size wsX5_size) := goodIn_app (goodIn_of _ (by decide +kernel)) ggX6_write_X5_size
set_option maxRecDepth 20000 in
theorem ggX6_write_X5_add : GoodIn wsX6_write wsX5_add := goodIn_r _ [15, 11, 16, 17, 4, 18, 28, 29] (by decide +kernel) (by decide +kernel)
set_option maxRecDepth 20000 in
theorem gX6_write_X5_add : GoodIn wsX6_write (wsV RX6 70 RX5 yX5_add wsX5_add) := goodIn_app (goodIn_of _ (by decide +kernel)) ggX6_write_X5_add
theorem dX6_write_0 : decode cX6_write 0 = .ok (.iload_n 1, 1) := by decide +kernel
theorem dX6_write_1 : decode cX6_write 1 = .ok (.iconst 0, 1) := by decide +kernel
theorem dX6_write_2 : decode cX6_write 2 = .ok (.sipush 255, 3) := by decide +kernel
theorem dX6_write_5 : decode cX6_write 5 = .ok (.invokestatic 62, 3) := by decide +kernel
theorem dX6_write_8 : decode cX6_write 8 = .ok (.ifCond .ne 6, 3) := by decide +kernel
theorem dX6_write_11 : decode cX6_write 11 = .ok (.bipush (-2), 2) := by decide +kernel
theorem dX6_write_13 : decode cX6_write 13 = .ok (.ireturn, 1) := by decide +kernel
theorem dX6_write_14 : decode cX6_write 14 = .ok (.aload_n 0, 1) := by decide +kernel
theorem dX6_write_15 : decode cX6_write 15 = .ok (.getfield 10, 3) := by decide +kernel
theorem dX6_write_18 : decode cX6_write 18 = .ok (.invokevirtual 66, 3) := by decide +kernel
theorem dX6_write_21 : decode cX6_write 21 = .ok (.bipush 40, 2) := by decide +kernel
theorem dX6_write_23 : decode cX6_write 23 = .ok (.if_icmp .lt 6, 3) := by decide +kernel
theorem dX6_write_26 : decode cX6_write 26 = .ok (.bipush (-4), 2) := by decide +kernel
theorem dX6_write_28 : decode cX6_write 28 = .ok (.ireturn, 1) := by decide +kernel
theorem dX6_write_29 : decode cX6_write 29 = .ok (.aload_n 0, 1) := by decide +kernel
theorem dX6_write_30 : decode cX6_write 30 = .ok (.getfield 10, 3) := by decide +kernel
theorem dX6_write_33 : decode cX6_write 33 = .ok (.iload_n 1, 1) := by decide +kernel
theorem dX6_write_34 : decode cX6_write 34 = .ok (.invokevirtual 70, 3) := by decide +kernel
theorem dX6_write_37 : decode cX6_write 37 = .ok (.aload_n 0, 1) := by decide +kernel
theorem dX6_write_38 : decode cX6_write 38 = .ok (.getfield 10, 3) := by decide +kernel
theorem dX6_write_41 : decode cX6_write 41 = .ok (.invokevirtual 66, 3) := by decide +kernel
theorem dX6_write_44 : decode cX6_write 44 = .ok (.ireturn, 1) := by decide +kernel
set_option maxRecDepth 20000 in
theorem ggX6_wipe_X5_size : GoodIn wsX6_wipe wsX5_size := goodIn_r _ [6, 7, 21, 22] (by decide +kernel) (by decide +kernel)
set_option maxRecDepth 20000 in
theorem gX6_wipe_X5_size : GoodIn wsX6_wipe (wsV RX6 66 RX5 yX5_size wsX5_size) := goodIn_app (goodIn_of _ (by decide +kernel)) ggX6_wipe_X5_size
set_option maxRecDepth 20000 in
theorem ggX6_wipe_X5_clear : GoodIn wsX6_wipe wsX5_clear := goodIn_r _ [11, 7, 21, 22] (by decide +kernel) (by decide +kernel)
set_option maxRecDepth 20000 in
theorem gX6_wipe_X5_clear : GoodIn wsX6_wipe (wsV RX6 74 RX5 yX5_clear wsX5_clear) := goodIn_app (goodIn_of _ (by decide +kernel)) ggX6_wipe_X5_clear
theorem dX6_wipe_0 : decode cX6_wipe 0 = .ok (.aload_n 0, 1) := by decide +kernel
theorem dX6_wipe_1 : decode cX6_wipe 1 = .ok (.getfield 10, 3) := by decide +kernel
theorem dX6_wipe_4 : decode cX6_wipe 4 = .ok (.invokevirtual 66, 3) := by decide +kernel
theorem dX6_wipe_7 : decode cX6_wipe 7 = .ok (.istore_n 1, 1) := by decide +kernel
theorem dX6_wipe_8 : decode cX6_wipe 8 = .ok (.aload_n 0, 1) := by decide +kernel
theorem dX6_wipe_9 : decode cX6_wipe 9 = .ok (.getfield 10, 3) := by decide +kernel
theorem dX6_wipe_12 : decode cX6_wipe 12 = .ok (.invokevirtual 74, 3) := by decide +kernel
theorem dX6_wipe_15 : decode cX6_wipe 15 = .ok (.iload_n 1, 1) := by decide +kernel
theorem dX6_wipe_16 : decode cX6_wipe 16 = .ok (.ireturn, 1) := by decide +kernel
set_option maxRecDepth 20000 in
theorem ggX6_fault_X5_firstFault : GoodIn wsX6_fault wsX5_firstFault := goodIn_r _ [6, 7, 8, 9, 10, 5, 11, 12, 13, 14, 15, 16, 17, 18, 19, 20, 21, 22, 23, 24, 25, 26, 27, 28, 29, 30, 31, 32, 33, 34, 35, 36, 37, 47, 48] (by decide +kernel) (by decide +kernel)
set_option maxRecDepth 20000 in
theorem gX6_fault_X5_firstFault : GoodIn wsX6_fault (wsV RX6 77 RX5 yX5_firstFault wsX5_firstFault) := goodIn_app (goodIn_of _ (by decide +kernel)) ggX6_fault_X5_firstFault
theorem dX6_fault_0 : decode cX6_fault 0 = .ok (.aload_n 0, 1) := by decide +kernel
theorem dX6_fault_1 : decode cX6_fault 1 = .ok (.getfield 10, 3) := by decide +kernel
theorem dX6_fault_4 : decode cX6_fault 4 = .ok (.invokevirtual 77, 3) := by decide +kernel
theorem dX6_fault_7 : decode cX6_fault 7 = .ok (.ireturn, 1) := by decide +kernel
set_option maxRecDepth 20000 in
theorem ggX6_desk_X5_firstFault : GoodIn wsX6_desk wsX5_firstFault := goodIn_r _ [9, 10, 11, 12, 13, 8, 14, 15, 16, 17, 18, 19, 20, 21, 22, 23, 24, 25, 26, 27, 28, 29, 30, 31, 32, 33, 34, 35, 36, 37, 38, 39, 40, 119, 120] (by decide +kernel) (by decide +kernel)
set_option maxRecDepth 20000 in
theorem gX6_desk_X5_firstFault : GoodIn wsX6_desk (wsV RX6 77 RX5 yX5_firstFault wsX5_firstFault) := goodIn_app (goodIn_of _ (by decide +kernel)) ggX6_desk_X5_firstFault
set_option maxRecDepth 20000 in
theorem ggX6_desk_X1_read : GoodIn wsX6_desk wsX1_read := goodIn_r _ [45, 46, 47, 48, 49, 50, 8, 51, 10, 52, 28, 29, 30, 15, 20, 21, 22, 53, 54, 55, 44, 56, 57, 58, 59, 60, 32, 33, 34, 61, 62, 63, 64, 65, 66, 67, 68, 69, 121, 122, 123, 124, 125, 126, 127, 128, 119, 120] (by decide +kernel) (by decide +kernel)
set_option maxRecDepth 20000 in
theorem gX6_desk_X1_read : GoodIn wsX6_desk (wsV RX6 80 RX1 yX1_read wsX1_read) := goodIn_app (goodIn_of _ (by decide +kernel)) ggX6_desk_X1_read
set_option maxRecDepth 20000 in
theorem ggX6_desk_X2_start : GoodIn wsX6_desk wsX2_start := goodIn_r _ [74, 75, 76, 77, 78, 79, 80, 44, 81, 69, 82, 83, 84, 85, 47, 20, 21, 22, 61, 62, 129, 130, 131, 132, 121, 122, 123, 124, 125, 126, 127, 128] (by decide +kernel) (by decide +kernel)
set_option maxRecDepth 20000 in
theorem gX6_desk_X2_start : GoodIn wsX6_desk (wsV RX6 84 RX2 yX2_start wsX2_start) := goodIn_app (goodIn_of _ (by decide +kernel)) ggX6_desk_X2_start
set_option maxRecDepth 20000 in
theorem ggX6_desk_X0_clear : GoodIn wsX6_desk wsX0_clear := goodIn_r _ [90, 91, 133, 134, 135] (by decide +kernel) (by decide +kernel)
set_option maxRecDepth 20000 in
theorem gX6_desk_X0_clear : GoodIn wsX6_desk (wsV RX6 88 RX0 yX0_clear wsX0_clear) := goodIn_app (goodIn_of _ (by decide +kernel)) ggX6_desk_X0_clear
set_option maxRecDepth 20000 in
theorem ggX6_desk_X6_forgetSlots : GoodIn wsX6_desk wsX6_forgetSlots := goodIn_r _ [95, 96, 97, 98, 99, 73, 100, 101, 110, 111, 112, 113, 114, 115, 116, 117, 118, 129, 130, 131, 132] (by decide +kernel) (by decide +kernel)
set_option maxRecDepth 20000 in
theorem gX6_desk_X6_forgetSlots : GoodIn wsX6_desk (wsV RX6 89 RX6 yX6_forgetSlots wsX6_forgetSlots) := goodIn_app (goodIn_of _ (by decide +kernel)) ggX6_desk_X6_forgetSlots
set_option maxRecDepth 20000 in
theorem ggX6_desk_X1_people : GoodIn wsX6_desk wsX1_people := goodIn_r _ [105, 46, 121, 122, 123, 124, 125, 126, 127, 128] (by decide +kernel) (by decide +kernel)
set_option maxRecDepth 20000 in
theorem gX6_desk_X1_people : GoodIn wsX6_desk (wsV RX6 92 RX1 yX1_people wsX1_people) := goodIn_app (goodIn_of _ (by decide +kernel)) ggX6_desk_X1_people
set_option maxRecDepth 20000 in
theorem ggX6_desk_X1_gloves : GoodIn wsX6_desk wsX1_gloves := goodIn_r _ [109, 47, 121, 122, 123, 124, 125, 126, 127, 128] (by decide +kernel) (by decide +kernel)
set_option maxRecDepth 20000 in
theorem gX6_desk_X1_gloves : GoodIn wsX6_desk (wsV RX6 95 RX1 yX1_gloves wsX1_gloves) := goodIn_app (goodIn_of _ (by decide +kernel)) ggX6_desk_X1_gloves
theorem dX6_desk_0 : decode cX6_desk 0 = .ok (.aload_n 0, 1) := by decide +kernel
theorem dX6_desk_1 : decode cX6_desk 1 = .ok (.getfield 10, 3) := by decide +kernel
theorem dX6_desk_4 : decode cX6_desk 4 = .ok (.invokevirtual 77, 3) := by decide +kernel
theorem dX6_desk_7 : decode cX6_desk 7 = .ok (.bipush (-9), 2) := by decide +kernel
theorem dX6_desk_9 : decode cX6_desk 9 = .ok (.if_icmp .eq 6, 3) := by decide +kernel
theorem dX6_desk_12 : decode cX6_desk 12 = .ok (.bipush (-3), 2) := by decide +kernel
theorem dX6_desk_14 : decode cX6_desk 14 = .ok (.ireturn, 1) := by decide +kernel
theorem dX6_desk_15 : decode cX6_desk 15 = .ok (.aload_n 0, 1) := by decide +kernel
theorem dX6_desk_16 : decode cX6_desk 16 = .ok (.getfield 19, 3) := by decide +kernel
theorem dX6_desk_19 : decode cX6_desk 19 = .ok (.aload_n 0, 1) := by decide +kernel
theorem dX6_desk_20 : decode cX6_desk 20 = .ok (.getfield 10, 3) := by decide +kernel
theorem dX6_desk_23 : decode cX6_desk 23 = .ok (.invokevirtual 80, 3) := by decide +kernel
theorem dX6_desk_26 : decode cX6_desk 26 = .ok (.aload_n 0, 1) := by decide +kernel
theorem dX6_desk_27 : decode cX6_desk 27 = .ok (.getfield 26, 3) := by decide +kernel
theorem dX6_desk_30 : decode cX6_desk 30 = .ok (.aload_n 0, 1) := by decide +kernel
theorem dX6_desk_31 : decode cX6_desk 31 = .ok (.getfield 19, 3) := by decide +kernel
theorem dX6_desk_34 : decode cX6_desk 34 = .ok (.invokevirtual 84, 3) := by decide +kernel
theorem dX6_desk_37 : decode cX6_desk 37 = .ok (.aload_n 0, 1) := by decide +kernel
theorem dX6_desk_38 : decode cX6_desk 38 = .ok (.getfield 36, 3) := by decide +kernel
theorem dX6_desk_41 : decode cX6_desk 41 = .ok (.invokevirtual 88, 3) := by decide +kernel
theorem dX6_desk_44 : decode cX6_desk 44 = .ok (.aload_n 0, 1) := by decide +kernel
theorem dX6_desk_45 : decode cX6_desk 45 = .ok (.invokevirtual 89, 3) := by decide +kernel
theorem dX6_desk_48 : decode cX6_desk 48 = .ok (.bipush 10, 2) := by decide +kernel
theorem dX6_desk_50 : decode cX6_desk 50 = .ok (.aload_n 0, 1) := by decide +kernel
theorem dX6_desk_51 : decode cX6_desk 51 = .ok (.getfield 19, 3) := by decide +kernel
theorem dX6_desk_54 : decode cX6_desk 54 = .ok (.invokevirtual 92, 3) := by decide +kernel
theorem dX6_desk_57 : decode cX6_desk 57 = .ok (.imul, 1) := by decide +kernel
theorem dX6_desk_58 : decode cX6_desk 58 = .ok (.aload_n 0, 1) := by decide +kernel
theorem dX6_desk_59 : decode cX6_desk 59 = .ok (.getfield 19, 3) := by decide +kernel
theorem dX6_desk_62 : decode cX6_desk 62 = .ok (.invokevirtual 95, 3) := by decide +kernel
theorem dX6_desk_65 : decode cX6_desk 65 = .ok (.iadd, 1) := by decide +kernel
theorem dX6_desk_66 : decode cX6_desk 66 = .ok (.ireturn, 1) := by decide +kernel
set_option maxRecDepth 20000 in
theorem ggX6_about_X1_people : GoodIn wsX6_about wsX1_people := goodIn_r _ [10, 11, 66, 67, 68, 69, 70, 71, 72, 73] (by decide +kernel) (by decide +kernel)
set_option maxRecDepth 20000 in
theorem gX6_about_X1_people : GoodIn wsX6_about (wsV RX6 92 RX1 yX1_people wsX1_people) := goodIn_app (goodIn_of _ (by decide +kernel)) ggX6_about_X1_people
set_option maxRecDepth 20000 in
theorem ggX6_about_X1_gloves : GoodIn wsX6_about wsX1_gloves := goodIn_r _ [15, 16, 66, 67, 68, 69, 70, 71, 72, 73] (by decide +kernel) (by decide +kernel)
set_option maxRecDepth 20000 in
theorem gX6_about_X1_gloves : GoodIn wsX6_about (wsV RX6 95 RX1 yX1_gloves wsX1_gloves) := goodIn_app (goodIn_of _ (by decide +kernel)) ggX6_about_X1_gloves
set_option maxRecDepth 20000 in
theorem ggX6_about_X2_today : GoodIn wsX6_about wsX2_today := goodIn_r _ [21, 22, 74, 75, 76, 77] (by decide +kernel) (by decide +kernel)
set_option maxRecDepth 20000 in
theorem gX6_about_X2_today : GoodIn wsX6_about (wsV RX6 98 RX2 yX2_today wsX2_today) := goodIn_app (goodIn_of _ (by decide +kernel)) ggX6_about_X2_today
set_option maxRecDepth 20000 in
theorem ggX6_about_X2_wornBits : GoodIn wsX6_about wsX2_wornBits := goodIn_r _ [26, 27, 28, 29, 20, 30, 31, 32, 33, 34, 35, 36, 37, 38, 74, 75, 76, 77] (by decide +kernel) (by decide +kernel)
set_option maxRecDepth 20000 in
theorem gX6_about_X2_wornBits : GoodIn wsX6_about (wsV RX6 101 RX2 yX2_wornBits wsX2_wornBits) := goodIn_app (goodIn_of _ (by decide +kernel)) ggX6_about_X2_wornBits
set_option maxRecDepth 20000 in
theorem ggX6_about_X0_size : GoodIn wsX6_about wsX0_size := goodIn_r _ [43, 44, 78, 79, 80] (by decide +kernel) (by decide +kernel)
set_option maxRecDepth 20000 in
theorem gX6_about_X0_size : GoodIn wsX6_about (wsV RX6 104 RX0 yX0_size wsX0_size) := goodIn_app (goodIn_of _ (by decide +kernel)) ggX6_about_X0_size
set_option maxRecDepth 20000 in
theorem ggX6_about_X3_size : GoodIn wsX6_about wsX3_size := goodIn_r _ [49, 50, 81, 82, 83, 84] (by decide +kernel) (by decide +kernel)
set_option maxRecDepth 20000 in
theorem gX6_about_X3_size : GoodIn wsX6_about (wsV RX6 105 RX3 yX3_size wsX3_size) := goodIn_app (goodIn_of _ (by decide +kernel)) ggX6_about_X3_size
set_option maxRecDepth 20000 in
theorem ggX6_about_X5_size : GoodIn wsX6_about wsX5_size := goodIn_r _ [55, 56, 85, 86] (by decide +kernel) (by decide +kernel)
set_option maxRecDepth 20000 in
theorem gX6_about_X5_size : GoodIn wsX6_about (wsV RX6 66 RX5 yX5_size wsX5_size) := goodIn_app (goodIn_of _ (by decide +kernel)) ggX6_about_X5_size
theorem dX6_about_0 : decode cX6_about 0 = .ok (.iload_n 1, 1) := by decide +kernel
theorem dX6_about_1 : decode cX6_about 1 = .ok (.tableswitch 99 0 6 #[43, 51, 59, 67, 75, 83, 91], 43) := by decide +kernel
theorem dX6_about_44 : decode cX6_about 44 = .ok (.aload_n 0, 1) := by decide +kernel
theorem dX6_about_45 : decode cX6_about 45 = .ok (.getfield 19, 3) := by decide +kernel
theorem dX6_about_48 : decode cX6_about 48 = .ok (.invokevirtual 92, 3) := by decide +kernel
theorem dX6_about_51 : decode cX6_about 51 = .ok (.ireturn, 1) := by decide +kernel
theorem dX6_about_52 : decode cX6_about 52 = .ok (.aload_n 0, 1) := by decide +kernel
theorem dX6_about_53 : decode cX6_about 53 = .ok (.getfield 19, 3) := by decide +kernel
theorem dX6_about_56 : decode cX6_about 56 = .ok (.invokevirtual 95, 3) := by decide +kernel
theorem dX6_about_59 : decode cX6_about 59 = .ok (.ireturn, 1) := by decide +kernel
theorem dX6_about_60 : decode cX6_about 60 = .ok (.aload_n 0, 1) := by decide +kernel
theorem dX6_about_61 : decode cX6_about 61 = .ok (.getfield 26, 3) := by decide +kernel
theorem dX6_about_64 : decode cX6_about 64 = .ok (.invokevirtual 98, 3) := by decide +kernel
theorem dX6_about_67 : decode cX6_about 67 = .ok (.ireturn, 1) := by decide +kernel
theorem dX6_about_68 : decode cX6_about 68 = .ok (.aload_n 0, 1) := by decide +kernel
theorem dX6_about_69 : decode cX6_about 69 = .ok (.getfield 26, 3) := by decide +kernel
theorem dX6_about_72 : decode cX6_about 72 = .ok (.invokevirtual 101, 3) := by decide +kernel
theorem dX6_about_75 : decode cX6_about 75 = .ok (.ireturn, 1) := by decide +kernel
theorem dX6_about_76 : decode cX6_about 76 = .ok (.aload_n 0, 1) := by decide +kernel
theorem dX6_about_77 : decode cX6_about 77 = .ok (.getfield 36, 3) := by decide +kernel
theorem dX6_about_80 : decode cX6_about 80 = .ok (.invokevirtual 104, 3) := by decide +kernel
theorem dX6_about_83 : decode cX6_about 83 = .ok (.ireturn, 1) := by decide +kernel
theorem dX6_about_84 : decode cX6_about 84 = .ok (.aload_n 0, 1) := by decide +kernel
theorem dX6_about_85 : decode cX6_about 85 = .ok (.getfield 43, 3) := by decide +kernel
theorem dX6_about_88 : decode cX6_about 88 = .ok (.invokevirtual 105, 3) := by decide +kernel
theorem dX6_about_91 : decode cX6_about 91 = .ok (.ireturn, 1) := by decide +kernel
theorem dX6_about_92 : decode cX6_about 92 = .ok (.aload_n 0, 1) := by decide +kernel
theorem dX6_about_93 : decode cX6_about 93 = .ok (.getfield 10, 3) := by decide +kernel
theorem dX6_about_96 : decode cX6_about 96 = .ok (.invokevirtual 66, 3) := by decide +kernel
theorem dX6_about_99 : decode cX6_about 99 = .ok (.ireturn, 1) := by decide +kernel
theorem dX6_about_100 : decode cX6_about 100 = .ok (.bipush (-2), 2) := by decide +kernel
theorem dX6_about_102 : decode cX6_about 102 = .ok (.ireturn, 1) := by decide +kernel
set_option maxRecDepth 20000 in
theorem ggX6_person_X1_hasPerson : GoodIn wsX6_person wsX1_hasPerson := goodIn_r _ [7, 8, 46, 47, 48, 49, 50, 51, 52, 53] (by decide +kernel) (by decide +kernel)
set_option maxRecDepth 20000 in
theorem gX6_person_X1_hasPerson : GoodIn wsX6_person (wsV RX6 106 RX1 yX1_hasPerson wsX1_hasPerson) := goodIn_app (goodIn_of _ (by decide +kernel)) ggX6_person_X1_hasPerson
set_option maxRecDepth 20000 in
theorem ggX6_person_X1_ownOf : GoodIn wsX6_person wsX1_ownOf := goodIn_r _ [12, 13, 14, 15, 16, 46, 47, 48, 49, 50, 51, 52, 53] (by decide +kernel) (by decide +kernel)
set_option maxRecDepth 20000 in
theorem gX6_person_X1_ownOf : GoodIn wsX6_person (wsV RX6 110 RX1 yX1_ownOf wsX1_ownOf) := goodIn_app (goodIn_of _ (by decide +kernel)) ggX6_person_X1_ownOf
set_option maxRecDepth 20000 in
theorem ggX6_person_X1_dearTo : GoodIn wsX6_person wsX1_dearTo := goodIn_r _ [20, 21, 14, 15, 16, 46, 47, 48, 49, 50, 51, 52, 53] (by decide +kernel) (by decide +kernel)
set_option maxRecDepth 20000 in
theorem gX6_person_X1_dearTo : GoodIn wsX6_person (wsV RX6 114 RX1 yX1_dearTo wsX1_dearTo) := goodIn_app (goodIn_of _ (by decide +kernel)) ggX6_person_X1_dearTo
set_option maxRecDepth 20000 in
theorem ggX6_person_X1_worthTo : GoodIn wsX6_person wsX1_worthTo := goodIn_r _ [25, 26, 14, 15, 16, 46, 47, 48, 49, 50, 51, 52, 53] (by decide +kernel) (by decide +kernel)
set_option maxRecDepth 20000 in
theorem gX6_person_X1_worthTo : GoodIn wsX6_person (wsV RX6 117 RX1 yX1_worthTo wsX1_worthTo) := goodIn_app (goodIn_of _ (by decide +kernel)) ggX6_person_X1_worthTo
set_option maxRecDepth 20000 in
theorem ggX6_person_X2_gloveOn : GoodIn wsX6_person wsX2_gloveOn := goodIn_r _ [31, 32, 33, 34, 30, 35, 36, 14, 15, 16, 54, 55, 56, 57] (by decide +kernel) (by decide +kernel)
set_option maxRecDepth 20000 in
theorem gX6_person_X2_gloveOn : GoodIn wsX6_person (wsV RX6 120 RX2 yX2_gloveOn wsX2_gloveOn) := goodIn_app (goodIn_of _ (by decide +kernel)) ggX6_person_X2_gloveOn
theorem dX6_person_0 : decode cX6_person 0 = .ok (.aload_n 0, 1) := by decide +kernel
theorem dX6_person_1 : decode cX6_person 1 = .ok (.getfield 19, 3) := by decide +kernel
theorem dX6_person_4 : decode cX6_person 4 = .ok (.iload_n 1, 1) := by decide +kernel
theorem dX6_person_5 : decode cX6_person 5 = .ok (.invokevirtual 106, 3) := by decide +kernel
theorem dX6_person_8 : decode cX6_person 8 = .ok (.ifCond .ne 5, 3) := by decide +kernel
theorem dX6_person_11 : decode cX6_person 11 = .ok (.iconst (-1), 1) := by decide +kernel
theorem dX6_person_12 : decode cX6_person 12 = .ok (.ireturn, 1) := by decide +kernel
theorem dX6_person_13 : decode cX6_person 13 = .ok (.iload_n 2, 1) := by decide +kernel
theorem dX6_person_14 : decode cX6_person 14 = .ok (.tableswitch 66 0 3 #[30, 39, 48, 57], 30) := by decide +kernel
theorem dX6_person_44 : decode cX6_person 44 = .ok (.aload_n 0, 1) := by decide +kernel
theorem dX6_person_45 : decode cX6_person 45 = .ok (.getfield 19, 3) := by decide +kernel
theorem dX6_person_48 : decode cX6_person 48 = .ok (.iload_n 1, 1) := by decide +kernel
theorem dX6_person_49 : decode cX6_person 49 = .ok (.invokevirtual 110, 3) := by decide +kernel
theorem dX6_person_52 : decode cX6_person 52 = .ok (.ireturn, 1) := by decide +kernel
theorem dX6_person_53 : decode cX6_person 53 = .ok (.aload_n 0, 1) := by decide +kernel
theorem dX6_person_54 : decode cX6_person 54 = .ok (.getfield 19, 3) := by decide +kernel
theorem dX6_person_57 : decode cX6_person 57 = .ok (.iload_n 1, 1) := by decide +kernel
theorem dX6_person_58 : decode cX6_person 58 = .ok (.invokevirtual 114, 3) := by decide +kernel
theorem dX6_person_61 : decode cX6_person 61 = .ok (.ireturn, 1) := by decide +kernel
theorem dX6_person_62 : decode cX6_person 62 = .ok (.aload_n 0, 1) := by decide +kernel
theorem dX6_person_63 : decode cX6_person 63 = .ok (.getfield 19, 3) := by decide +kernel
theorem dX6_person_66 : decode cX6_person 66 = .ok (.iload_n 1, 1) := by decide +kernel
theorem dX6_person_67 : decode cX6_person 67 = .ok (.invokevirtual 117, 3) := by decide +kernel
theorem dX6_person_70 : decode cX6_person 70 = .ok (.ireturn, 1) := by decide +kernel
theorem dX6_person_71 : decode cX6_person 71 = .ok (.aload_n 0, 1) := by decide +kernel
theorem dX6_person_72 : decode cX6_person 72 = .ok (.getfield 26, 3) := by decide +kernel
theorem dX6_person_75 : decode cX6_person 75 = .ok (.iload_n 1, 1) := by decide +kernel
theorem dX6_person_76 : decode cX6_person 76 = .ok (.invokevirtual 120, 3) := by decide +kernel
theorem dX6_person_79 : decode cX6_person 79 = .ok (.ireturn, 1) := by decide +kernel
theorem dX6_person_80 : decode cX6_person 80 = .ok (.bipush (-2), 2) := by decide +kernel
theorem dX6_person_82 : decode cX6_person 82 = .ok (.ireturn, 1) := by decide +kernel
set_option maxRecDepth 20000 in
theorem ggX6_glove_X1_hasGlove : GoodIn wsX6_glove wsX1_hasGlove := goodIn_r _ [7, 8, 45, 46, 47, 48, 49, 50, 51, 52] (by decide +kernel) (by decide +kernel)
set_option maxRecDepth 20000 in
theorem gX6_glove_X1_hasGlove : GoodIn wsX6_glove (wsV RX6 123 RX1 yX1_hasGlove wsX1_hasGlove) := goodIn_app (goodIn_of _ (by decide +kernel)) ggX6_glove_X1_hasGlove
set_option maxRecDepth 20000 in
theorem ggX6_glove_X1_roomOf : GoodIn wsX6_glove wsX1_roomOf := goodIn_r _ [12, 13, 14, 15, 16, 45, 46, 47, 48, 49, 50, 51, 52] (by decide +kernel) (by decide +kernel)
set_option maxRecDepth 20000 in
theorem gX6_glove_X1_roomOf : GoodIn wsX6_glove (wsV RX6 126 RX1 yX1_roomOf wsX1_roomOf) := goodIn_app (goodIn_of _ (by decide +kernel)) ggX6_glove_X1_roomOf
set_option maxRecDepth 20000 in
theorem ggX6_glove_X1_kindOf : GoodIn wsX6_glove wsX1_kindOf := goodIn_r _ [20, 21, 14, 15, 16, 45, 46, 47, 48, 49, 50, 51, 52] (by decide +kernel) (by decide +kernel)
set_option maxRecDepth 20000 in
theorem gX6_glove_X1_kindOf : GoodIn wsX6_glove (wsV RX6 129 RX1 yX1_kindOf wsX1_kindOf) := goodIn_app (goodIn_of _ (by decide +kernel)) ggX6_glove_X1_kindOf
set_option maxRecDepth 20000 in
theorem ggX6_glove_X2_keptBy : GoodIn wsX6_glove wsX2_keptBy := goodIn_r _ [26, 27, 14, 15, 16, 53, 54, 55, 56] (by decide +kernel) (by decide +kernel)
set_option maxRecDepth 20000 in
theorem gX6_glove_X2_keptBy : GoodIn wsX6_glove (wsV RX6 132 RX2 yX2_keptBy wsX2_keptBy) := goodIn_app (goodIn_of _ (by decide +kernel)) ggX6_glove_X2_keptBy
set_option maxRecDepth 20000 in
theorem ggX6_glove_X6_figuresIn : GoodIn wsX6_glove wsX6_figuresIn := goodIn_r _ [30] (by decide +kernel) (by decide +kernel)
set_option maxRecDepth 20000 in
theorem gX6_glove_X6_figuresIn : GoodIn wsX6_glove (va_wsS RX6 135 yX6_figuresIn wsX6_figuresIn) := goodIn_app (goodIn_of _ (by decide +kernel)) ggX6_glove_X6_figuresIn
set_option maxRecDepth 20000 in
theorem ggX6_glove_X2_wearerOf : GoodIn wsX6_glove wsX2_wearerOf := goodIn_r _ [34, 35, 14, 15, 16, 53, 54, 55, 56] (by decide +kernel) (by decide +kernel)
set_option maxRecDepth 20000 in
theorem gX6_glove_X2_wearerOf : GoodIn wsX6_glove (wsV RX6 138 RX2 yX2_wearerOf wsX2_wearerOf) := goodIn_app (goodIn_of _ (by decide +kernel)) ggX6_glove_X2_wearerOf
theorem dX6_glove_0 : decode cX6_glove 0 = .ok (.aload_n 0, 1) := by decide +kernel
theorem dX6_glove_1 : decode cX6_glove 1 = .ok (.getfield 19, 3) := by decide +kernel
theorem dX6_glove_4 : decode cX6_glove 4 = .ok (.iload_n 1, 1) := by decide +kernel
theorem dX6_glove_5 : decode cX6_glove 5 = .ok (.invokevirtual 123, 3) := by decide +kernel
theorem dX6_glove_8 : decode cX6_glove 8 = .ok (.ifCond .ne 5, 3) := by decide +kernel
theorem dX6_glove_11 : decode cX6_glove 11 = .ok (.iconst (-1), 1) := by decide +kernel
theorem dX6_glove_12 : decode cX6_glove 12 = .ok (.ireturn, 1) := by decide +kernel
theorem dX6_glove_13 : decode cX6_glove 13 = .ok (.iload_n 2, 1) := by decide +kernel
theorem dX6_glove_14 : decode cX6_glove 14 = .ok (.tableswitch 82 0 4 #[34, 43, 52, 64, 73], 34) := by decide +kernel
theorem dX6_glove_48 : decode cX6_glove 48 = .ok (.aload_n 0, 1) := by decide +kernel
theorem dX6_glove_49 : decode cX6_glove 49 = .ok (.getfield 19, 3) := by decide +kernel
theorem dX6_glove_52 : decode cX6_glove 52 = .ok (.iload_n 1, 1) := by decide +kernel
theorem dX6_glove_53 : decode cX6_glove 53 = .ok (.invokevirtual 126, 3) := by decide +kernel
theorem dX6_glove_56 : decode cX6_glove 56 = .ok (.ireturn, 1) := by decide +kernel
theorem dX6_glove_57 : decode cX6_glove 57 = .ok (.aload_n 0, 1) := by decide +kernel
theorem dX6_glove_58 : decode cX6_glove 58 = .ok (.getfield 19, 3) := by decide +kernel
theorem dX6_glove_61 : decode cX6_glove 61 = .ok (.iload_n 1, 1) := by decide +kernel
theorem dX6_glove_62 : decode cX6_glove 62 = .ok (.invokevirtual 129, 3) := by decide +kernel
theorem dX6_glove_65 : decode cX6_glove 65 = .ok (.ireturn, 1) := by decide +kernel
theorem dX6_glove_66 : decode cX6_glove 66 = .ok (.aload_n 0, 1) := by decide +kernel
theorem dX6_glove_67 : decode cX6_glove 67 = .ok (.getfield 26, 3) := by decide +kernel
theorem dX6_glove_70 : decode cX6_glove 70 = .ok (.iload_n 1, 1) := by decide +kernel
theorem dX6_glove_71 : decode cX6_glove 71 = .ok (.invokevirtual 132, 3) := by decide +kernel
theorem dX6_glove_74 : decode cX6_glove 74 = .ok (.invokestatic 135, 3) := by decide +kernel
theorem dX6_glove_77 : decode cX6_glove 77 = .ok (.ireturn, 1) := by decide +kernel
theorem dX6_glove_78 : decode cX6_glove 78 = .ok (.aload_n 0, 1) := by decide +kernel
theorem dX6_glove_79 : decode cX6_glove 79 = .ok (.getfield 26, 3) := by decide +kernel
theorem dX6_glove_82 : decode cX6_glove 82 = .ok (.iload_n 1, 1) := by decide +kernel
theorem dX6_glove_83 : decode cX6_glove 83 = .ok (.invokevirtual 132, 3) := by decide +kernel
theorem dX6_glove_86 : decode cX6_glove 86 = .ok (.ireturn, 1) := by decide +kernel
theorem dX6_glove_87 : decode cX6_glove 87 = .ok (.aload_n 0, 1) := by decide +kernel
theorem dX6_glove_88 : decode cX6_glove 88 = .ok (.getfield 26, 3) := by decide +kernel
theorem dX6_glove_91 : decode cX6_glove 91 = .ok (.iload_n 1, 1) := by decide +kernel
theorem dX6_glove_92 : decode cX6_glove 92 = .ok (.invokevirtual 138, 3) := by decide +kernel
theorem dX6_glove_95 : decode cX6_glove 95 = .ok (.ireturn, 1) := by decide +kernel
theorem dX6_glove_96 : decode cX6_glove 96 = .ok (.bipush (-2), 2) := by decide +kernel
theorem dX6_glove_98 : decode cX6_glove 98 = .ok (.ireturn, 1) := by decide +kernel
set_option maxRecDepth 20000 in
theorem ggX6_wear_X1_hasGlove : GoodIn wsX6_wear wsX1_hasGlove := goodIn_r _ [8, 9, 90, 91, 92, 93, 94, 95, 96, 97] (by decide +kernel) (by decide +kernel)
set_option maxRecDepth 20000 in
theorem gX6_wear_X1_hasGlove : GoodIn wsX6_wear (wsV RX6 123 RX1 yX1_hasGlove wsX1_hasGlove) := goodIn_app (goodIn_of _ (by decide +kernel)) ggX6_wear_X1_hasGlove
set_option maxRecDepth 20000 in
theorem ggX6_wear_X1_hasPerson : GoodIn wsX6_wear wsX1_hasPerson := goodIn_r _ [13, 14, 90, 91, 92, 93, 94, 95, 96, 97] (by decide +kernel) (by decide +kernel)
set_option maxRecDepth 20000 in
theorem gX6_wear_X1_hasPerson : GoodIn wsX6_wear (wsV RX6 106 RX1 yX1_hasPerson wsX1_hasPerson) := goodIn_app (goodIn_of _ (by decide +kernel)) ggX6_wear_X1_hasPerson
set_option maxRecDepth 20000 in
theorem ggX6_wear_X2_isWorn : GoodIn wsX6_wear wsX2_isWorn := goodIn_r _ [19, 20, 21, 22, 18, 23, 24, 25, 26, 27, 98, 99, 100, 101] (by decide +kernel) (by decide +kernel)
set_option maxRecDepth 20000 in
theorem gX6_wear_X2_isWorn : GoodIn wsX6_wear (wsV RX6 141 RX2 yX2_isWorn wsX2_isWorn) := goodIn_app (goodIn_of _ (by decide +kernel)) ggX6_wear_X2_isWorn
set_option maxRecDepth 20000 in
theorem ggX6_wear_X2_gloveOn : GoodIn wsX6_wear wsX2_gloveOn := goodIn_r _ [31, 20, 21, 22, 18, 23, 24, 25, 26, 27, 98, 99, 100, 101] (by decide +kernel) (by decide +kernel)
set_option maxRecDepth 20000 in
theorem gX6_wear_X2_gloveOn : GoodIn wsX6_wear (wsV RX6 120 RX2 yX2_gloveOn wsX2_gloveOn) := goodIn_app (goodIn_of _ (by decide +kernel)) ggX6_wear_X2_gloveOn
set_option maxRecDepth 20000 in
theorem ggX6_wear_X0_add : GoodIn wsX6_wear wsX0_add := goodIn_r _ [36, 37, 38, 39, 40, 41, 35, 42, 43, 44, 45, 46, 18, 47, 48, 24, 49, 50, 51, 26, 52, 102, 103, 104, 98, 99, 100, 101] (by decide +kernel) (by decide +kernel)
set_option maxRecDepth 20000 in
theorem gX6_wear_X0_add : GoodIn wsX6_wear (wsV RX6 144 RX0 yX0_add wsX0_add) := goodIn_app (goodIn_of _ (by decide +kernel)) ggX6_wear_X0_add
set_option maxRecDepth 20000 in
theorem ggX6_wear_X2_putOn : GoodIn wsX6_wear wsX2_putOn := goodIn_r _ [56, 24, 57, 26, 58, 98, 99, 100, 101] (by decide +kernel) (by decide +kernel)
set_option maxRecDepth 20000 in
theorem gX6_wear_X2_putOn : GoodIn wsX6_wear (wsV RX6 147 RX2 yX2_putOn wsX2_putOn) := goodIn_app (goodIn_of _ (by decide +kernel)) ggX6_wear_X2_putOn
set_option maxRecDepth 20000 in
theorem ggX6_wear_X2_keptBy : GoodIn wsX6_wear wsX2_keptBy := goodIn_r _ [62, 48, 25, 26, 27, 98, 99, 100, 101] (by decide +kernel) (by decide +kernel)
set_option maxRecDepth 20000 in
theorem gX6_wear_X2_keptBy : GoodIn wsX6_wear (wsV RX6 132 RX2 yX2_keptBy wsX2_keptBy) := goodIn_app (goodIn_of _ (by decide +kernel)) ggX6_wear_X2_keptBy
set_option maxRecDepth 20000 in
theorem ggX6_wear_X1_reply : GoodIn wsX6_wear wsX1_reply := goodIn_r _ [66, 67, 26, 68, 69, 70, 71, 7, 72, 73, 25, 27, 74, 75, 76, 77, 78, 79, 80, 90, 91, 92, 93, 94, 95, 96, 97] (by decide +kernel) (by decide +kernel)
set_option maxRecDepth 20000 in
theorem gX6_wear_X1_reply : GoodIn wsX6_wear (wsV RX6 151 RX1 yX1_reply wsX1_reply) := goodIn_app (goodIn_of _ (by decide +kernel)) ggX6_wear_X1_reply
theorem dX6_wear_0 : decode cX6_wear 0 = .ok (.aload_n 0, 1) := by decide +kernel
theorem dX6_wear_1 : decode cX6_wear 1 = .ok (.getfield 19, 3) := by decide +kernel
theorem dX6_wear_4 : decode cX6_wear 4 = .ok (.iload_n 1, 1) := by decide +kernel
theorem dX6_wear_5 : decode cX6_wear 5 = .ok (.invokevirtual 123, 3) := by decide +kernel
theorem dX6_wear_8 : decode cX6_wear 8 = .ok (.ifCond .eq 14, 3) := by decide +kernel
theorem dX6_wear_11 : decode cX6_wear 11 = .ok (.aload_n 0, 1) := by decide +kernel
theorem dX6_wear_12 : decode cX6_wear 12 = .ok (.getfield 19, 3) := by decide +kernel
theorem dX6_wear_15 : decode cX6_wear 15 = .ok (.iload_n 2, 1) := by decide +kernel
theorem dX6_wear_16 : decode cX6_wear 16 = .ok (.invokevirtual 106, 3) := by decide +kernel
theorem dX6_wear_19 : decode cX6_wear 19 = .ok (.ifCond .ne 5, 3) := by decide +kernel
theorem dX6_wear_22 : decode cX6_wear 22 = .ok (.iconst (-1), 1) := by decide +kernel
theorem dX6_wear_23 : decode cX6_wear 23 = .ok (.ireturn, 1) := by decide +kernel
theorem dX6_wear_24 : decode cX6_wear 24 = .ok (.aload_n 0, 1) := by decide +kernel
theorem dX6_wear_25 : decode cX6_wear 25 = .ok (.getfield 26, 3) := by decide +kernel
theorem dX6_wear_28 : decode cX6_wear 28 = .ok (.iload_n 1, 1) := by decide +kernel
theorem dX6_wear_29 : decode cX6_wear 29 = .ok (.invokevirtual 141, 3) := by decide +kernel
theorem dX6_wear_32 : decode cX6_wear 32 = .ok (.ifCond .ne 16, 3) := by decide +kernel
theorem dX6_wear_35 : decode cX6_wear 35 = .ok (.aload_n 0, 1) := by decide +kernel
theorem dX6_wear_36 : decode cX6_wear 36 = .ok (.getfield 26, 3) := by decide +kernel
theorem dX6_wear_39 : decode cX6_wear 39 = .ok (.iload_n 2, 1) := by decide +kernel
theorem dX6_wear_40 : decode cX6_wear 40 = .ok (.invokevirtual 120, 3) := by decide +kernel
theorem dX6_wear_43 : decode cX6_wear 43 = .ok (.bipush (-9), 2) := by decide +kernel
theorem dX6_wear_45 : decode cX6_wear 45 = .ok (.if_icmp .eq 6, 3) := by decide +kernel
theorem dX6_wear_48 : decode cX6_wear 48 = .ok (.bipush (-3), 2) := by decide +kernel
theorem dX6_wear_50 : decode cX6_wear 50 = .ok (.ireturn, 1) := by decide +kernel
theorem dX6_wear_51 : decode cX6_wear 51 = .ok (.aload_n 0, 1) := by decide +kernel
theorem dX6_wear_52 : decode cX6_wear 52 = .ok (.getfield 36, 3) := by decide +kernel
theorem dX6_wear_55 : decode cX6_wear 55 = .ok (.aload_n 0, 1) := by decide +kernel
theorem dX6_wear_56 : decode cX6_wear 56 = .ok (.getfield 26, 3) := by decide +kernel
theorem dX6_wear_59 : decode cX6_wear 59 = .ok (.invokevirtual 144, 3) := by decide +kernel
theorem dX6_wear_62 : decode cX6_wear 62 = .ok (.aload_n 0, 1) := by decide +kernel
theorem dX6_wear_63 : decode cX6_wear 63 = .ok (.getfield 26, 3) := by decide +kernel
theorem dX6_wear_66 : decode cX6_wear 66 = .ok (.iload_n 1, 1) := by decide +kernel
theorem dX6_wear_67 : decode cX6_wear 67 = .ok (.iload_n 2, 1) := by decide +kernel
theorem dX6_wear_68 : decode cX6_wear 68 = .ok (.invokevirtual 147, 3) := by decide +kernel
theorem dX6_wear_71 : decode cX6_wear 71 = .ok (.aload_n 0, 1) := by decide +kernel
theorem dX6_wear_72 : decode cX6_wear 72 = .ok (.getfield 19, 3) := by decide +kernel
theorem dX6_wear_75 : decode cX6_wear 75 = .ok (.iload_n 1, 1) := by decide +kernel
theorem dX6_wear_76 : decode cX6_wear 76 = .ok (.aload_n 0, 1) := by decide +kernel
theorem dX6_wear_77 : decode cX6_wear 77 = .ok (.getfield 26, 3) := by decide +kernel
theorem dX6_wear_80 : decode cX6_wear 80 = .ok (.iload_n 1, 1) := by decide +kernel
theorem dX6_wear_81 : decode cX6_wear 81 = .ok (.invokevirtual 132, 3) := by decide +kernel
theorem dX6_wear_84 : decode cX6_wear 84 = .ok (.iload_n 2, 1) := by decide +kernel
theorem dX6_wear_85 : decode cX6_wear 85 = .ok (.invokevirtual 151, 3) := by decide +kernel
theorem dX6_wear_88 : decode cX6_wear 88 = .ok (.ireturn, 1) := by decide +kernel
set_option maxRecDepth 20000 in
theorem ggX6_takeOff_X1_hasGlove : GoodIn wsX6_takeOff wsX1_hasGlove := goodIn_r _ [8, 9, 91, 92, 93, 94, 95, 96, 97, 98] (by decide +kernel) (by decide +kernel)
set_option maxRecDepth 20000 in
theorem gX6_takeOff_X1_hasGlove : GoodIn wsX6_takeOff (wsV RX6 123 RX1 yX1_hasGlove wsX1_hasGlove) := goodIn_app (goodIn_of _ (by decide +kernel)) ggX6_takeOff_X1_hasGlove
set_option maxRecDepth 20000 in
theorem ggX6_takeOff_X2_isWorn : GoodIn wsX6_takeOff wsX2_isWorn := goodIn_r _ [14, 15, 16, 17, 13, 18, 19, 20, 21, 22, 99, 100, 101, 102] (by decide +kernel) (by decide +kernel)
set_option maxRecDepth 20000 in
theorem gX6_takeOff_X2_isWorn : GoodIn wsX6_takeOff (wsV RX6 141 RX2 yX2_isWorn wsX2_isWorn) := goodIn_app (goodIn_of _ (by decide +kernel)) ggX6_takeOff_X2_isWorn
set_option maxRecDepth 20000 in
theorem ggX6_takeOff_X0_add : GoodIn wsX6_takeOff wsX0_add := goodIn_r _ [27, 28, 29, 30, 31, 32, 26, 33, 34, 35, 36, 37, 13, 38, 39, 19, 40, 41, 42, 21, 43, 103, 104, 105, 99, 100, 101, 102] (by decide +kernel) (by decide +kernel)
set_option maxRecDepth 20000 in
theorem gX6_takeOff_X0_add : GoodIn wsX6_takeOff (wsV RX6 144 RX0 yX0_add wsX0_add) := goodIn_app (goodIn_of _ (by decide +kernel)) ggX6_takeOff_X0_add
set_option maxRecDepth 20000 in
theorem ggX6_takeOff_X6_layDown : GoodIn wsX6_takeOff wsX6_layDown := goodIn_r _ [47, 1, 2, 48, 49, 50, 13, 51, 39, 20, 21, 22, 52, 16, 17, 18, 19, 53, 54, 55, 7, 56, 57, 58, 59, 60, 61, 62, 63, 64, 65, 66, 67, 68, 69, 70, 71, 72, 73, 74, 75, 76, 77, 78, 82, 83, 84, 85, 86, 87, 88, 89, 90, 99, 100, 101, 102, 91, 92, 93, 94, 95, 96, 97, 98] (by decide +kernel) (by decide +kernel)
set_option maxRecDepth 20000 in
theorem gX6_takeOff_X6_layDown : GoodIn wsX6_takeOff (wsV RX6 155 RX6 yX6_layDown wsX6_layDown) := goodIn_app (goodIn_of _ (by decide +kernel)) ggX6_takeOff_X6_layDown
set_option maxRecDepth 20000 in
theorem ggX6_takeOff_X2_keptBy : GoodIn wsX6_takeOff wsX2_keptBy := goodIn_r _ [51, 39, 20, 21, 22, 99, 100, 101, 102] (by decide +kernel) (by decide +kernel)
set_option maxRecDepth 20000 in
theorem gX6_takeOff_X2_keptBy : GoodIn wsX6_takeOff (wsV RX6 132 RX2 yX2_keptBy wsX2_keptBy) := goodIn_app (goodIn_of _ (by decide +kernel)) ggX6_takeOff_X2_keptBy
set_option maxRecDepth 20000 in
theorem ggX6_takeOff_X6_figuresIn : GoodIn wsX6_takeOff wsX6_figuresIn := goodIn_r _ [81] (by decide +kernel) (by decide +kernel)
set_option maxRecDepth 20000 in
theorem gX6_takeOff_X6_figuresIn : GoodIn wsX6_takeOff (va_wsS RX6 135 yX6_figuresIn wsX6_figuresIn) := goodIn_app (goodIn_of _ (by decide +kernel)) ggX6_takeOff_X6_figuresIn
theorem dX6_takeOff_0 : decode cX6_takeOff 0 = .ok (.aload_n 0, 1) := by decide +kernel
theorem dX6_takeOff_1 : decode cX6_takeOff 1 = .ok (.getfield 19, 3) := by decide +kernel
theorem dX6_takeOff_4 : decode cX6_takeOff 4 = .ok (.iload_n 1, 1) := by decide +kernel
theorem dX6_takeOff_5 : decode cX6_takeOff 5 = .ok (.invokevirtual 123, 3) := by decide +kernel
theorem dX6_takeOff_8 : decode cX6_takeOff 8 = .ok (.ifCond .ne 5, 3) := by decide +kernel
theorem dX6_takeOff_11 : decode cX6_takeOff 11 = .ok (.iconst (-1), 1) := by decide +kernel
theorem dX6_takeOff_12 : decode cX6_takeOff 12 = .ok (.ireturn, 1) := by decide +kernel
theorem dX6_takeOff_13 : decode cX6_takeOff 13 = .ok (.aload_n 0, 1) := by decide +kernel
theorem dX6_takeOff_14 : decode cX6_takeOff 14 = .ok (.getfield 26, 3) := by decide +kernel
theorem dX6_takeOff_17 : decode cX6_takeOff 17 = .ok (.iload_n 1, 1) := by decide +kernel
theorem dX6_takeOff_18 : decode cX6_takeOff 18 = .ok (.invokevirtual 141, 3) := by decide +kernel
theorem dX6_takeOff_21 : decode cX6_takeOff 21 = .ok (.ifCond .ne 6, 3) := by decide +kernel
theorem dX6_takeOff_24 : decode cX6_takeOff 24 = .ok (.bipush (-3), 2) := by decide +kernel
theorem dX6_takeOff_26 : decode cX6_takeOff 26 = .ok (.ireturn, 1) := by decide +kernel
theorem dX6_takeOff_27 : decode cX6_takeOff 27 = .ok (.aload_n 0, 1) := by decide +kernel
theorem dX6_takeOff_28 : decode cX6_takeOff 28 = .ok (.getfield 36, 3) := by decide +kernel
theorem dX6_takeOff_31 : decode cX6_takeOff 31 = .ok (.aload_n 0, 1) := by decide +kernel
theorem dX6_takeOff_32 : decode cX6_takeOff 32 = .ok (.getfield 26, 3) := by decide +kernel
theorem dX6_takeOff_35 : decode cX6_takeOff 35 = .ok (.invokevirtual 144, 3) := by decide +kernel
theorem dX6_takeOff_38 : decode cX6_takeOff 38 = .ok (.aload_n 0, 1) := by decide +kernel
theorem dX6_takeOff_39 : decode cX6_takeOff 39 = .ok (.iload_n 1, 1) := by decide +kernel
theorem dX6_takeOff_40 : decode cX6_takeOff 40 = .ok (.invokevirtual 155, 3) := by decide +kernel
theorem dX6_takeOff_43 : decode cX6_takeOff 43 = .ok (.aload_n 0, 1) := by decide +kernel
theorem dX6_takeOff_44 : decode cX6_takeOff 44 = .ok (.getfield 26, 3) := by decide +kernel
theorem dX6_takeOff_47 : decode cX6_takeOff 47 = .ok (.iload_n 1, 1) := by decide +kernel
theorem dX6_takeOff_48 : decode cX6_takeOff 48 = .ok (.invokevirtual 132, 3) := by decide +kernel
theorem dX6_takeOff_51 : decode cX6_takeOff 51 = .ok (.invokestatic 135, 3) := by decide +kernel
theorem dX6_takeOff_54 : decode cX6_takeOff 54 = .ok (.ireturn, 1) := by decide +kernel
set_option maxRecDepth 20000 in
theorem ggX6_wash_X1_hasGlove : GoodIn wsX6_wash wsX1_hasGlove := goodIn_r _ [8, 9, 69, 70, 71, 72, 73, 74, 75, 76] (by decide +kernel) (by decide +kernel)
set_option maxRecDepth 20000 in
theorem gX6_wash_X1_hasGlove : GoodIn wsX6_wash (wsV RX6 123 RX1 yX1_hasGlove wsX1_hasGlove) := goodIn_app (goodIn_of _ (by decide +kernel)) ggX6_wash_X1_hasGlove
set_option maxRecDepth 20000 in
theorem ggX6_wash_X2_keptBy : GoodIn wsX6_wash wsX2_keptBy := goodIn_r _ [14, 15, 16, 17, 18, 77, 78, 79, 80] (by decide +kernel) (by decide +kernel)
set_option maxRecDepth 20000 in
theorem gX6_wash_X2_keptBy : GoodIn wsX6_wash (wsV RX6 132 RX2 yX2_keptBy wsX2_keptBy) := goodIn_app (goodIn_of _ (by decide +kernel)) ggX6_wash_X2_keptBy
set_option maxRecDepth 20000 in
theorem ggX6_wash_X2_isWorn : GoodIn wsX6_wash wsX2_isWorn := goodIn_r _ [22, 23, 24, 25, 13, 26, 27, 16, 17, 18, 77, 78, 79, 80] (by decide +kernel) (by decide +kernel)
set_option maxRecDepth 20000 in
theorem gX6_wash_X2_isWorn : GoodIn wsX6_wash (wsV RX6 141 RX2 yX2_isWorn wsX2_isWorn) := goodIn_app (goodIn_of _ (by decide +kernel)) ggX6_wash_X2_isWorn
set_option maxRecDepth 20000 in
theorem ggX6_wash_X0_add : GoodIn wsX6_wash wsX0_add := goodIn_r _ [32, 33, 34, 35, 36, 37, 31, 38, 39, 40, 41, 42, 13, 43, 15, 27, 44, 45, 46, 17, 47, 81, 82, 83, 77, 78, 79, 80] (by decide +kernel) (by decide +kernel)
set_option maxRecDepth 20000 in
theorem gX6_wash_X0_add : GoodIn wsX6_wash (wsV RX6 144 RX0 yX0_add wsX0_add) := goodIn_app (goodIn_of _ (by decide +kernel)) ggX6_wash_X0_add
set_option maxRecDepth 20000 in
theorem ggX6_wash_X6_withoutLast : GoodIn wsX6_wash wsX6_withoutLast := goodIn_r _ [50] (by decide +kernel) (by decide +kernel)
set_option maxRecDepth 20000 in
theorem gX6_wash_X6_withoutLast : GoodIn wsX6_wash (va_wsS RX6 158 yX6_withoutLast wsX6_withoutLast) := goodIn_app (goodIn_of _ (by decide +kernel)) ggX6_wash_X6_withoutLast
set_option maxRecDepth 20000 in
theorem ggX6_wash_X2_setKept : GoodIn wsX6_wash wsX2_setKept := goodIn_r _ [54, 15, 55, 17, 56, 77, 78, 79, 80] (by decide +kernel) (by decide +kernel)
set_option maxRecDepth 20000 in
theorem gX6_wash_X2_setKept : GoodIn wsX6_wash (wsV RX6 161 RX2 yX2_setKept wsX2_setKept) := goodIn_app (goodIn_of _ (by decide +kernel)) ggX6_wash_X2_setKept
set_option maxRecDepth 20000 in
theorem ggX6_wash_X6_lastOf : GoodIn wsX6_wash wsX6_lastOf := goodIn_r _ [59] (by decide +kernel) (by decide +kernel)
set_option maxRecDepth 20000 in
theorem gX6_wash_X6_lastOf : GoodIn wsX6_wash (va_wsS RX6 164 yX6_lastOf wsX6_lastOf) := goodIn_app (goodIn_of _ (by decide +kernel)) ggX6_wash_X6_lastOf
theorem dX6_wash_0 : decode cX6_wash 0 = .ok (.aload_n 0, 1) := by decide +kernel
theorem dX6_wash_1 : decode cX6_wash 1 = .ok (.getfield 19, 3) := by decide +kernel
theorem dX6_wash_4 : decode cX6_wash 4 = .ok (.iload_n 1, 1) := by decide +kernel
theorem dX6_wash_5 : decode cX6_wash 5 = .ok (.invokevirtual 123, 3) := by decide +kernel
theorem dX6_wash_8 : decode cX6_wash 8 = .ok (.ifCond .ne 5, 3) := by decide +kernel
theorem dX6_wash_11 : decode cX6_wash 11 = .ok (.iconst (-1), 1) := by decide +kernel
theorem dX6_wash_12 : decode cX6_wash 12 = .ok (.ireturn, 1) := by decide +kernel
theorem dX6_wash_13 : decode cX6_wash 13 = .ok (.aload_n 0, 1) := by decide +kernel
theorem dX6_wash_14 : decode cX6_wash 14 = .ok (.getfield 26, 3) := by decide +kernel
theorem dX6_wash_17 : decode cX6_wash 17 = .ok (.iload_n 1, 1) := by decide +kernel
theorem dX6_wash_18 : decode cX6_wash 18 = .ok (.invokevirtual 132, 3) := by decide +kernel
theorem dX6_wash_21 : decode cX6_wash 21 = .ok (.istore_n 2, 1) := by decide +kernel
theorem dX6_wash_22 : decode cX6_wash 22 = .ok (.aload_n 0, 1) := by decide +kernel
theorem dX6_wash_23 : decode cX6_wash 23 = .ok (.getfield 26, 3) := by decide +kernel
theorem dX6_wash_26 : decode cX6_wash 26 = .ok (.iload_n 1, 1) := by decide +kernel
theorem dX6_wash_27 : decode cX6_wash 27 = .ok (.invokevirtual 141, 3) := by decide +kernel
theorem dX6_wash_30 : decode cX6_wash 30 = .ok (.ifCond .ne 7, 3) := by decide +kernel
theorem dX6_wash_33 : decode cX6_wash 33 = .ok (.iload_n 2, 1) := by decide +kernel
theorem dX6_wash_34 : decode cX6_wash 34 = .ok (.ifCond .ne 6, 3) := by decide +kernel
theorem dX6_wash_37 : decode cX6_wash 37 = .ok (.bipush (-3), 2) := by decide +kernel
theorem dX6_wash_39 : decode cX6_wash 39 = .ok (.ireturn, 1) := by decide +kernel
theorem dX6_wash_40 : decode cX6_wash 40 = .ok (.aload_n 0, 1) := by decide +kernel
theorem dX6_wash_41 : decode cX6_wash 41 = .ok (.getfield 36, 3) := by decide +kernel
theorem dX6_wash_44 : decode cX6_wash 44 = .ok (.aload_n 0, 1) := by decide +kernel
theorem dX6_wash_45 : decode cX6_wash 45 = .ok (.getfield 26, 3) := by decide +kernel
theorem dX6_wash_48 : decode cX6_wash 48 = .ok (.invokevirtual 144, 3) := by decide +kernel
theorem dX6_wash_51 : decode cX6_wash 51 = .ok (.aload_n 0, 1) := by decide +kernel
theorem dX6_wash_52 : decode cX6_wash 52 = .ok (.getfield 26, 3) := by decide +kernel
theorem dX6_wash_55 : decode cX6_wash 55 = .ok (.iload_n 1, 1) := by decide +kernel
theorem dX6_wash_56 : decode cX6_wash 56 = .ok (.iload_n 2, 1) := by decide +kernel
theorem dX6_wash_57 : decode cX6_wash 57 = .ok (.invokestatic 158, 3) := by decide +kernel
theorem dX6_wash_60 : decode cX6_wash 60 = .ok (.invokevirtual 161, 3) := by decide +kernel
theorem dX6_wash_63 : decode cX6_wash 63 = .ok (.iload_n 2, 1) := by decide +kernel
theorem dX6_wash_64 : decode cX6_wash 64 = .ok (.invokestatic 164, 3) := by decide +kernel
theorem dX6_wash_67 : decode cX6_wash 67 = .ok (.ireturn, 1) := by decide +kernel
set_option maxRecDepth 20000 in
theorem ggX6_day_X0_add : GoodIn wsX6_day wsX0_add := goodIn_r _ [8, 9, 10, 11, 12, 13, 7, 14, 15, 16, 17, 18, 19, 20, 21, 22, 23, 24, 25, 26, 27, 92, 93, 94, 95, 96, 97, 98] (by decide +kernel) (by decide +kernel)
set_option maxRecDepth 20000 in
theorem gX6_day_X0_add : GoodIn wsX6_day (wsV RX6 144 RX0 yX0_add wsX0_add) := goodIn_app (goodIn_of _ (by decide +kernel)) ggX6_day_X0_add
set_option maxRecDepth 20000 in
theorem ggX6_day_X1_gloves : GoodIn wsX6_day wsX1_gloves := goodIn_r _ [32, 33, 99, 100, 101, 102, 103, 104, 105, 106] (by decide +kernel) (by decide +kernel)
set_option maxRecDepth 20000 in
theorem gX6_day_X1_gloves : GoodIn wsX6_day (wsV RX6 95 RX1 yX1_gloves wsX1_gloves) := goodIn_app (goodIn_of _ (by decide +kernel)) ggX6_day_X1_gloves
set_option maxRecDepth 20000 in
theorem ggX6_day_X2_isWorn : GoodIn wsX6_day wsX2_isWorn := goodIn_r _ [37, 38, 39, 40, 19, 41, 22, 42, 26, 43, 95, 96, 97, 98] (by decide +kernel) (by decide +kernel)
set_option maxRecDepth 20000 in
theorem gX6_day_X2_isWorn : GoodIn wsX6_day (wsV RX6 141 RX2 yX2_isWorn wsX2_isWorn) := goodIn_app (goodIn_of _ (by decide +kernel)) ggX6_day_X2_isWorn
set_option maxRecDepth 20000 in
theorem ggX6_day_X6_layDown : GoodIn wsX6_day wsX6_layDown := goodIn_r _ [47, 3, 2, 48, 49, 50, 19, 51, 21, 42, 26, 43, 52, 39, 40, 41, 22, 53, 54, 55, 31, 56, 57, 58, 59, 60, 61, 62, 63, 64, 65, 66, 67, 68, 69, 70, 71, 72, 73, 74, 75, 76, 77, 78, 83, 84, 85, 86, 87, 88, 89, 90, 91, 95, 96, 97, 98, 99, 100, 101, 102, 103, 104, 105, 106] (by decide +kernel) (by decide +kernel)
set_option maxRecDepth 20000 in
theorem gX6_day_X6_layDown : GoodIn wsX6_day (wsV RX6 155 RX6 yX6_layDown wsX6_layDown) := goodIn_app (goodIn_of _ (by decide +kernel)) ggX6_day_X6_layDown
set_option maxRecDepth 20000 in
theorem ggX6_day_X2_nextDay : GoodIn wsX6_day wsX2_nextDay := goodIn_r _ [82, 23, 95, 96, 97, 98] (by decide +kernel) (by decide +kernel)
set_option maxRecDepth 20000 in
theorem gX6_day_X2_nextDay : GoodIn wsX6_day (wsV RX6 167 RX2 yX2_nextDay wsX2_nextDay) := goodIn_app (goodIn_of _ (by decide +kernel)) ggX6_day_X2_nextDay
theorem dX6_day_0 : decode cX6_day 0 = .ok (.aload_n 0, 1) := by decide +kernel
theorem dX6_day_1 : decode cX6_day 1 = .ok (.getfield 36, 3) := by decide +kernel
theorem dX6_day_4 : decode cX6_day 4 = .ok (.aload_n 0, 1) := by decide +kernel
theorem dX6_day_5 : decode cX6_day 5 = .ok (.getfield 26, 3) := by decide +kernel
theorem dX6_day_8 : decode cX6_day 8 = .ok (.invokevirtual 144, 3) := by decide +kernel
theorem dX6_day_11 : decode cX6_day 11 = .ok (.iconst 0, 1) := by decide +kernel
theorem dX6_day_12 : decode cX6_day 12 = .ok (.istore_n 1, 1) := by decide +kernel
theorem dX6_day_13 : decode cX6_day 13 = .ok (.iconst 0, 1) := by decide +kernel
theorem dX6_day_14 : decode cX6_day 14 = .ok (.istore_n 2, 1) := by decide +kernel
theorem dX6_day_15 : decode cX6_day 15 = .ok (.iload_n 2, 1) := by decide +kernel
theorem dX6_day_16 : decode cX6_day 16 = .ok (.aload_n 0, 1) := by decide +kernel
theorem dX6_day_17 : decode cX6_day 17 = .ok (.getfield 19, 3) := by decide +kernel
theorem dX6_day_20 : decode cX6_day 20 = .ok (.invokevirtual 95, 3) := by decide +kernel
theorem dX6_day_23 : decode cX6_day 23 = .ok (.if_icmp .ge 28, 3) := by decide +kernel
theorem dX6_day_26 : decode cX6_day 26 = .ok (.aload_n 0, 1) := by decide +kernel
theorem dX6_day_27 : decode cX6_day 27 = .ok (.getfield 26, 3) := by decide +kernel
theorem dX6_day_30 : decode cX6_day 30 = .ok (.iload_n 2, 1) := by decide +kernel
theorem dX6_day_31 : decode cX6_day 31 = .ok (.invokevirtual 141, 3) := by decide +kernel
theorem dX6_day_34 : decode cX6_day 34 = .ok (.ifCond .eq 11, 3) := by decide +kernel
theorem dX6_day_37 : decode cX6_day 37 = .ok (.aload_n 0, 1) := by decide +kernel
theorem dX6_day_38 : decode cX6_day 38 = .ok (.iload_n 2, 1) := by decide +kernel
theorem dX6_day_39 : decode cX6_day 39 = .ok (.invokevirtual 155, 3) := by decide +kernel
theorem dX6_day_42 : decode cX6_day 42 = .ok (.iinc 1 1, 3) := by decide +kernel
theorem dX6_day_45 : decode cX6_day 45 = .ok (.iinc 2 1, 3) := by decide +kernel
theorem dX6_day_48 : decode cX6_day 48 = .ok (.goto (-33), 3) := by decide +kernel
theorem dX6_day_51 : decode cX6_day 51 = .ok (.aload_n 0, 1) := by decide +kernel
theorem dX6_day_52 : decode cX6_day 52 = .ok (.getfield 26, 3) := by decide +kernel
theorem dX6_day_55 : decode cX6_day 55 = .ok (.invokevirtual 167, 3) := by decide +kernel
theorem dX6_day_58 : decode cX6_day 58 = .ok (.iload_n 1, 1) := by decide +kernel
theorem dX6_day_59 : decode cX6_day 59 = .ok (.ireturn, 1) := by decide +kernel
set_option maxRecDepth 20000 in
theorem ggX6_undo_X0_size : GoodIn wsX6_undo wsX0_size := goodIn_r _ [7, 8, 40, 41, 42] (by decide +kernel) (by decide +kernel)
set_option maxRecDepth 20000 in
theorem gX6_undo_X0_size : GoodIn wsX6_undo (wsV RX6 104 RX0 yX0_size wsX0_size) := goodIn_app (goodIn_of _ (by decide +kernel)) ggX6_undo_X0_size
set_option maxRecDepth 20000 in
theorem ggX6_undo_X0_giveBackLast : GoodIn wsX6_undo wsX0_giveBackLast := goodIn_r _ [12, 8, 13, 14, 15, 6, 16, 17, 18, 19, 20, 21, 22, 23, 24, 25, 26, 27, 28, 29, 30, 40, 41, 42, 43, 44, 45, 46] (by decide +kernel) (by decide +kernel)
set_option maxRecDepth 20000 in
theorem gX6_undo_X0_giveBackLast : GoodIn wsX6_undo (wsV RX6 170 RX0 yX0_giveBackLast wsX0_giveBackLast) := goodIn_app (goodIn_of _ (by decide +kernel)) ggX6_undo_X0_giveBackLast
theorem dX6_undo_0 : decode cX6_undo 0 = .ok (.aload_n 0, 1) := by decide +kernel
theorem dX6_undo_1 : decode cX6_undo 1 = .ok (.getfield 36, 3) := by decide +kernel
theorem dX6_undo_4 : decode cX6_undo 4 = .ok (.invokevirtual 104, 3) := by decide +kernel
theorem dX6_undo_7 : decode cX6_undo 7 = .ok (.ifCond .ne 6, 3) := by decide +kernel
theorem dX6_undo_10 : decode cX6_undo 10 = .ok (.bipush (-3), 2) := by decide +kernel
theorem dX6_undo_12 : decode cX6_undo 12 = .ok (.ireturn, 1) := by decide +kernel
theorem dX6_undo_13 : decode cX6_undo 13 = .ok (.aload_n 0, 1) := by decide +kernel
theorem dX6_undo_14 : decode cX6_undo 14 = .ok (.getfield 36, 3) := by decide +kernel
theorem dX6_undo_17 : decode cX6_undo 17 = .ok (.aload_n 0, 1) := by decide +kernel
theorem dX6_undo_18 : decode cX6_undo 18 = .ok (.getfield 26, 3) := by decide +kernel
theorem dX6_undo_21 : decode cX6_undo 21 = .ok (.invokevirtual 170, 3) := by decide +kernel
theorem dX6_undo_24 : decode cX6_undo 24 = .ok (.aload_n 0, 1) := by decide +kernel
theorem dX6_undo_25 : decode cX6_undo 25 = .ok (.getfield 36, 3) := by decide +kernel
theorem dX6_undo_28 : decode cX6_undo 28 = .ok (.invokevirtual 104, 3) := by decide +kernel
theorem dX6_undo_31 : decode cX6_undo 31 = .ok (.ireturn, 1) := by decide +kernel
set_option maxRecDepth 20000 in
theorem ggX6_does_X1_hasGlove : GoodIn wsX6_does wsX1_hasGlove := goodIn_r _ [7, 8, 84, 85, 86, 87, 88, 89, 90, 91] (by decide +kernel) (by decide +kernel)
set_option maxRecDepth 20000 in
theorem gX6_does_X1_hasGlove : GoodIn wsX6_does (wsV RX6 123 RX1 yX1_hasGlove wsX1_hasGlove) := goodIn_app (goodIn_of _ (by decide +kernel)) ggX6_does_X1_hasGlove
set_option maxRecDepth 20000 in
theorem ggX6_does_X6_within : GoodIn wsX6_does wsX6_within := goodIn_r _ [12] (by decide +kernel) (by decide +kernel)
set_option maxRecDepth 20000 in
theorem gX6_does_X6_within : GoodIn wsX6_does (va_wsS RX6 62 yX6_within wsX6_within) := goodIn_app (goodIn_of _ (by decide +kernel)) ggX6_does_X6_within
set_option maxRecDepth 20000 in
theorem ggX6_does_X6_isRow : GoodIn wsX6_does wsX6_isRow := goodIn_r _ [16, 1, 17, 18, 19, 6, 20, 21, 75, 76, 77, 78, 79, 80, 81, 82, 83, 84, 85, 86, 87, 88, 89, 90, 91] (by decide +kernel) (by decide +kernel)
set_option maxRecDepth 20000 in
theorem gX6_does_X6_isRow : GoodIn wsX6_does (wsV RX6 173 RX6 yX6_isRow wsX6_isRow) := goodIn_app (goodIn_of _ (by decide +kernel)) ggX6_does_X6_isRow
set_option maxRecDepth 20000 in
theorem ggX6_does_X2_isWorn : GoodIn wsX6_does wsX2_isWorn := goodIn_r _ [26, 27, 28, 29, 25, 30, 31, 32, 11, 33, 92, 93, 94, 95] (by decide +kernel) (by decide +kernel)
set_option maxRecDepth 20000 in
theorem gX6_does_X2_isWorn : GoodIn wsX6_does (wsV RX6 141 RX2 yX2_isWorn wsX2_isWorn) := goodIn_app (goodIn_of _ (by decide +kernel)) ggX6_does_X2_isWorn
set_option maxRecDepth 20000 in
theorem ggX6_does_X6_replyToRow : GoodIn wsX6_does wsX6_replyToRow := goodIn_r _ [37, 2, 1, 38, 39, 11, 40, 41, 42, 43, 25, 44, 45, 32, 33, 46, 47, 48, 6, 49, 50, 51, 52, 53, 54, 55, 56, 57, 58, 59, 60, 61, 62, 63, 64, 65, 66, 67, 68, 69, 70, 71, 72, 73, 74, 75, 76, 77, 78, 79, 80, 81, 82, 83, 92, 93, 94, 95, 84, 85, 86, 87, 88, 89, 90, 91] (by decide +kernel) (by decide +kernel)
set_option maxRecDepth 20000 in
theorem gX6_does_X6_replyToRow : GoodIn wsX6_does (wsV RX6 177 RX6 yX6_replyToRow wsX6_replyToRow) := goodIn_app (goodIn_of _ (by decide +kernel)) ggX6_does_X6_replyToRow
theorem dX6_does_0 : decode cX6_does 0 = .ok (.aload_n 0, 1) := by decide +kernel
theorem dX6_does_1 : decode cX6_does 1 = .ok (.getfield 19, 3) := by decide +kernel
theorem dX6_does_4 : decode cX6_does 4 = .ok (.iload_n 1, 1) := by decide +kernel
theorem dX6_does_5 : decode cX6_does 5 = .ok (.invokevirtual 123, 3) := by decide +kernel
theorem dX6_does_8 : decode cX6_does 8 = .ok (.ifCond .ne 5, 3) := by decide +kernel
theorem dX6_does_11 : decode cX6_does 11 = .ok (.iconst (-1), 1) := by decide +kernel
theorem dX6_does_12 : decode cX6_does 12 = .ok (.ireturn, 1) := by decide +kernel
theorem dX6_does_13 : decode cX6_does 13 = .ok (.iload_n 2, 1) := by decide +kernel
theorem dX6_does_14 : decode cX6_does 14 = .ok (.iconst 1, 1) := by decide +kernel
theorem dX6_does_15 : decode cX6_does 15 = .ok (.iconst 4, 1) := by decide +kernel
theorem dX6_does_16 : decode cX6_does 16 = .ok (.invokestatic 62, 3) := by decide +kernel
theorem dX6_does_19 : decode cX6_does 19 = .ok (.ifCond .eq 12, 3) := by decide +kernel
theorem dX6_does_22 : decode cX6_does 22 = .ok (.aload_n 0, 1) := by decide +kernel
theorem dX6_does_23 : decode cX6_does 23 = .ok (.iload_n 2, 1) := by decide +kernel
theorem dX6_does_24 : decode cX6_does 24 = .ok (.iload_n 3, 1) := by decide +kernel
theorem dX6_does_25 : decode cX6_does 25 = .ok (.invokevirtual 173, 3) := by decide +kernel
theorem dX6_does_28 : decode cX6_does 28 = .ok (.ifCond .ne 6, 3) := by decide +kernel
theorem dX6_does_31 : decode cX6_does 31 = .ok (.bipush (-2), 2) := by decide +kernel
theorem dX6_does_33 : decode cX6_does 33 = .ok (.ireturn, 1) := by decide +kernel
theorem dX6_does_34 : decode cX6_does 34 = .ok (.aload_n 0, 1) := by decide +kernel
theorem dX6_does_35 : decode cX6_does 35 = .ok (.getfield 26, 3) := by decide +kernel
theorem dX6_does_38 : decode cX6_does 38 = .ok (.iload_n 1, 1) := by decide +kernel
theorem dX6_does_39 : decode cX6_does 39 = .ok (.invokevirtual 141, 3) := by decide +kernel
theorem dX6_does_42 : decode cX6_does 42 = .ok (.ifCond .eq 6, 3) := by decide +kernel
theorem dX6_does_45 : decode cX6_does 45 = .ok (.bipush (-3), 2) := by decide +kernel
theorem dX6_does_47 : decode cX6_does 47 = .ok (.ireturn, 1) := by decide +kernel
theorem dX6_does_48 : decode cX6_does 48 = .ok (.aload_n 0, 1) := by decide +kernel
theorem dX6_does_49 : decode cX6_does 49 = .ok (.iload_n 1, 1) := by decide +kernel
theorem dX6_does_50 : decode cX6_does 50 = .ok (.iload_n 2, 1) := by decide +kernel
theorem dX6_does_51 : decode cX6_does 51 = .ok (.iload_n 3, 1) := by decide +kernel
theorem dX6_does_52 : decode cX6_does 52 = .ok (.invokevirtual 177, 3) := by decide +kernel
theorem dX6_does_55 : decode cX6_does 55 = .ok (.ireturn, 1) := by decide +kernel
set_option maxRecDepth 20000 in
theorem ggX6_comes_X1_hasGlove : GoodIn wsX6_comes wsX1_hasGlove := goodIn_r _ [7, 8, 79, 80, 81, 82, 83, 84, 85, 86] (by decide +kernel) (by decide +kernel)
set_option maxRecDepth 20000 in
theorem gX6_comes_X1_hasGlove : GoodIn wsX6_comes (wsV RX6 123 RX1 yX1_hasGlove wsX1_hasGlove) := goodIn_app (goodIn_of _ (by decide +kernel)) ggX6_comes_X1_hasGlove
set_option maxRecDepth 20000 in
theorem ggX6_comes_X6_within : GoodIn wsX6_comes wsX6_within := goodIn_r _ [12] (by decide +kernel) (by decide +kernel)
set_option maxRecDepth 20000 in
theorem gX6_comes_X6_within : GoodIn wsX6_comes (va_wsS RX6 62 yX6_within wsX6_within) := goodIn_app (goodIn_of _ (by decide +kernel)) ggX6_comes_X6_within
set_option maxRecDepth 20000 in
theorem ggX6_comes_X6_isChoice : GoodIn wsX6_comes wsX6_isChoice := goodIn_r _ [15, 9, 10, 11, 12] (by decide +kernel) (by decide +kernel)
set_option maxRecDepth 20000 in
theorem gX6_comes_X6_isChoice : GoodIn wsX6_comes (va_wsS RX6 180 yX6_isChoice wsX6_isChoice) := goodIn_app (goodIn_of _ (by decide +kernel)) ggX6_comes_X6_isChoice
set_option maxRecDepth 20000 in
theorem ggX6_comes_X2_isWorn : GoodIn wsX6_comes wsX2_isWorn := goodIn_r _ [20, 21, 22, 23, 19, 24, 25, 26, 11, 27, 87, 88, 89, 90] (by decide +kernel) (by decide +kernel)
set_option maxRecDepth 20000 in
theorem gX6_comes_X2_isWorn : GoodIn wsX6_comes (wsV RX6 141 RX2 yX2_isWorn wsX2_isWorn) := goodIn_app (goodIn_of _ (by decide +kernel)) ggX6_comes_X2_isWorn
set_option maxRecDepth 20000 in
theorem ggX6_comes_X2_keptBy : GoodIn wsX6_comes wsX2_keptBy := goodIn_r _ [31, 32, 26, 11, 27, 87, 88, 89, 90] (by decide +kernel) (by decide +kernel)
set_option maxRecDepth 20000 in
theorem gX6_comes_X2_keptBy : GoodIn wsX6_comes (wsV RX6 132 RX2 yX2_keptBy wsX2_keptBy) := goodIn_app (goodIn_of _ (by decide +kernel)) ggX6_comes_X2_keptBy
set_option maxRecDepth 20000 in
theorem ggX6_comes_X6_firstRow : GoodIn wsX6_comes wsX6_firstRow := goodIn_r _ [35, 36, 37, 38, 6, 39, 40, 41, 42, 43, 44, 45, 46, 47, 48, 49, 26, 11, 27, 50, 51, 52, 53, 54, 55, 56, 33, 34, 57, 58, 59, 60, 61, 62, 63, 64, 65, 66, 67, 68, 69, 79, 80, 81, 82, 83, 84, 85, 86] (by decide +kernel) (by decide +kernel)
set_option maxRecDepth 20000 in
theorem gX6_comes_X6_firstRow : GoodIn wsX6_comes (va_wsS RX6 183 yX6_firstRow wsX6_firstRow) := goodIn_app (goodIn_of _ (by decide +kernel)) ggX6_comes_X6_firstRow
theorem dX6_comes_0 : decode cX6_comes 0 = .ok (.aload_n 0, 1) := by decide +kernel
theorem dX6_comes_1 : decode cX6_comes 1 = .ok (.getfield 19, 3) := by decide +kernel
theorem dX6_comes_4 : decode cX6_comes 4 = .ok (.iload_n 1, 1) := by decide +kernel
theorem dX6_comes_5 : decode cX6_comes 5 = .ok (.invokevirtual 123, 3) := by decide +kernel
theorem dX6_comes_8 : decode cX6_comes 8 = .ok (.ifCond .ne 5, 3) := by decide +kernel
theorem dX6_comes_11 : decode cX6_comes 11 = .ok (.iconst (-1), 1) := by decide +kernel
theorem dX6_comes_12 : decode cX6_comes 12 = .ok (.ireturn, 1) := by decide +kernel
theorem dX6_comes_13 : decode cX6_comes 13 = .ok (.iload_n 2, 1) := by decide +kernel
theorem dX6_comes_14 : decode cX6_comes 14 = .ok (.iconst 1, 1) := by decide +kernel
theorem dX6_comes_15 : decode cX6_comes 15 = .ok (.bipush 7, 2) := by decide +kernel
theorem dX6_comes_17 : decode cX6_comes 17 = .ok (.invokestatic 62, 3) := by decide +kernel
theorem dX6_comes_20 : decode cX6_comes 20 = .ok (.ifCond .eq 10, 3) := by decide +kernel
theorem dX6_comes_23 : decode cX6_comes 23 = .ok (.iload_n 3, 1) := by decide +kernel
theorem dX6_comes_24 : decode cX6_comes 24 = .ok (.invokestatic 180, 3) := by decide +kernel
theorem dX6_comes_27 : decode cX6_comes 27 = .ok (.ifCond .ne 6, 3) := by decide +kernel
theorem dX6_comes_30 : decode cX6_comes 30 = .ok (.bipush (-2), 2) := by decide +kernel
theorem dX6_comes_32 : decode cX6_comes 32 = .ok (.ireturn, 1) := by decide +kernel
theorem dX6_comes_33 : decode cX6_comes 33 = .ok (.aload_n 0, 1) := by decide +kernel
theorem dX6_comes_34 : decode cX6_comes 34 = .ok (.getfield 26, 3) := by decide +kernel
theorem dX6_comes_37 : decode cX6_comes 37 = .ok (.iload_n 1, 1) := by decide +kernel
theorem dX6_comes_38 : decode cX6_comes 38 = .ok (.invokevirtual 141, 3) := by decide +kernel
theorem dX6_comes_41 : decode cX6_comes 41 = .ok (.ifCond .eq 6, 3) := by decide +kernel
theorem dX6_comes_44 : decode cX6_comes 44 = .ok (.bipush (-3), 2) := by decide +kernel
theorem dX6_comes_46 : decode cX6_comes 46 = .ok (.ireturn, 1) := by decide +kernel
theorem dX6_comes_47 : decode cX6_comes 47 = .ok (.iconst 1, 1) := by decide +kernel
theorem dX6_comes_48 : decode cX6_comes 48 = .ok (.istore 4, 2) := by decide +kernel
theorem dX6_comes_50 : decode cX6_comes 50 = .ok (.iload 4, 2) := by decide +kernel
theorem dX6_comes_52 : decode cX6_comes 52 = .ok (.iconst 4, 1) := by decide +kernel
theorem dX6_comes_53 : decode cX6_comes 53 = .ok (.if_icmp .gt 50, 3) := by decide +kernel
theorem dX6_comes_56 : decode cX6_comes 56 = .ok (.aload_n 0, 1) := by decide +kernel
theorem dX6_comes_57 : decode cX6_comes 57 = .ok (.getfield 19, 3) := by decide +kernel
theorem dX6_comes_60 : decode cX6_comes 60 = .ok (.iload_n 1, 1) := by decide +kernel
theorem dX6_comes_61 : decode cX6_comes 61 = .ok (.aload_n 0, 1) := by decide +kernel
theorem dX6_comes_62 : decode cX6_comes 62 = .ok (.getfield 26, 3) := by decide +kernel
theorem dX6_comes_65 : decode cX6_comes 65 = .ok (.iload_n 1, 1) := by decide +kernel
theorem dX6_comes_66 : decode cX6_comes 66 = .ok (.invokevirtual 132, 3) := by decide +kernel
theorem dX6_comes_69 : decode cX6_comes 69 = .ok (.iload_n 2, 1) := by decide +kernel
theorem dX6_comes_70 : decode cX6_comes 70 = .ok (.iconst 0, 1) := by decide +kernel
theorem dX6_comes_71 : decode cX6_comes 71 = .ok (.iload 4, 2) := by decide +kernel
theorem dX6_comes_73 : decode cX6_comes 73 = .ok (.invokestatic 183, 3) := by decide +kernel
theorem dX6_comes_76 : decode cX6_comes 76 = .ok (.istore 5, 2) := by decide +kernel
theorem dX6_comes_78 : decode cX6_comes 78 = .ok (.iload 5, 2) := by decide +kernel
theorem dX6_comes_80 : decode cX6_comes 80 = .ok (.bipush (-9), 2) := by decide +kernel
theorem dX6_comes_82 : decode cX6_comes 82 = .ok (.if_icmp .eq 15, 3) := by decide +kernel
theorem dX6_comes_85 : decode cX6_comes 85 = .ok (.iload_n 3, 1) := by decide +kernel
theorem dX6_comes_86 : decode cX6_comes 86 = .ok (.ifCond .ne 8, 3) := by decide +kernel
theorem dX6_comes_89 : decode cX6_comes 89 = .ok (.iload 4, 2) := by decide +kernel
theorem dX6_comes_91 : decode cX6_comes 91 = .ok (.goto 5, 3) := by decide +kernel
theorem dX6_comes_94 : decode cX6_comes 94 = .ok (.iload 5, 2) := by decide +kernel
theorem dX6_comes_96 : decode cX6_comes 96 = .ok (.ireturn, 1) := by decide +kernel
theorem dX6_comes_97 : decode cX6_comes 97 = .ok (.iinc 4 1, 3) := by decide +kernel
theorem dX6_comes_100 : decode cX6_comes 100 = .ok (.goto (-50), 3) := by decide +kernel
theorem dX6_comes_103 : decode cX6_comes 103 = .ok (.bipush (-9), 2) := by decide +kernel
theorem dX6_comes_105 : decode cX6_comes 105 = .ok (.ireturn, 1) := by decide +kernel
set_option maxRecDepth 20000 in
theorem ggX6_rounds_X1_hasGlove : GoodIn wsX6_rounds wsX1_hasGlove := goodIn_r _ [8, 9, 98, 99, 100, 101, 102, 103, 104, 105] (by decide +kernel) (by decide +kernel)
set_option maxRecDepth 20000 in
theorem gX6_rounds_X1_hasGlove : GoodIn wsX6_rounds (wsV RX6 123 RX1 yX1_hasGlove wsX1_hasGlove) := goodIn_app (goodIn_of _ (by decide +kernel)) ggX6_rounds_X1_hasGlove
set_option maxRecDepth 20000 in
theorem ggX6_rounds_X6_isChoice : GoodIn wsX6_rounds wsX6_isChoice := goodIn_r _ [13, 14, 15, 12, 16] (by decide +kernel) (by decide +kernel)
set_option maxRecDepth 20000 in
theorem gX6_rounds_X6_isChoice : GoodIn wsX6_rounds (va_wsS RX6 180 yX6_isChoice wsX6_isChoice) := goodIn_app (goodIn_of _ (by decide +kernel)) ggX6_rounds_X6_isChoice
set_option maxRecDepth 20000 in
theorem ggX6_rounds_X2_isWorn : GoodIn wsX6_rounds wsX2_isWorn := goodIn_r _ [21, 22, 23, 24, 20, 25, 26, 27, 12, 28, 106, 107, 108, 109] (by decide +kernel) (by decide +kernel)
set_option maxRecDepth 20000 in
theorem gX6_rounds_X2_isWorn : GoodIn wsX6_rounds (wsV RX6 141 RX2 yX2_isWorn wsX2_isWorn) := goodIn_app (goodIn_of _ (by decide +kernel)) ggX6_rounds_X2_isWorn
set_option maxRecDepth 20000 in
theorem ggX6_rounds_X4_start : GoodIn wsX6_rounds wsX4_start := goodIn_r _ [33, 34, 35, 110, 111] (by decide +kernel) (by decide +kernel)
set_option maxRecDepth 20000 in
theorem gX6_rounds_X4_start : GoodIn wsX6_rounds (wsV RX6 187 RX4 yX4_start wsX4_start) := goodIn_app (goodIn_of _ (by decide +kernel)) ggX6_rounds_X4_start
set_option maxRecDepth 20000 in
theorem ggX6_rounds_X2_keptBy : GoodIn wsX6_rounds wsX2_keptBy := goodIn_r _ [39, 40, 27, 12, 28, 106, 107, 108, 109] (by decide +kernel) (by decide +kernel)
set_option maxRecDepth 20000 in
theorem gX6_rounds_X2_keptBy : GoodIn wsX6_rounds (wsV RX6 132 RX2 yX2_keptBy wsX2_keptBy) := goodIn_app (goodIn_of _ (by decide +kernel)) ggX6_rounds_X2_keptBy
set_option maxRecDepth 20000 in
theorem ggX6_rounds_X1_people : GoodIn wsX6_rounds wsX1_people := goodIn_r _ [44, 45, 98, 99, 100, 101, 102, 103, 104, 105] (by decide +kernel) (by decide +kernel)
set_option maxRecDepth 20000 in
theorem gX6_rounds_X1_people : GoodIn wsX6_rounds (wsV RX6 92 RX1 yX1_people wsX1_people) := goodIn_app (goodIn_of _ (by decide +kernel)) ggX6_rounds_X1_people
set_option maxRecDepth 20000 in
theorem ggX6_rounds_X6_tallyRounds : GoodIn wsX6_rounds wsX6_tallyRounds := goodIn_r _ [48, 49, 50, 51, 32, 52, 34, 35, 41, 42, 43, 7, 44, 45, 53, 54, 55, 56, 57, 12, 58, 59, 60, 61, 62, 63, 27, 28, 64, 65, 66, 67, 68, 69, 70, 71, 72, 73, 74, 75, 76, 77, 78, 79, 80, 81, 82, 83, 84, 46, 47, 110, 111, 98, 99, 100, 101, 102, 103, 104, 105] (by decide +kernel) (by decide +kernel)
set_option maxRecDepth 20000 in
theorem gX6_rounds_X6_tallyRounds : GoodIn wsX6_rounds (va_wsS RX6 189 yX6_tallyRounds wsX6_tallyRounds) := goodIn_app (goodIn_of _ (by decide +kernel)) ggX6_rounds_X6_tallyRounds
set_option maxRecDepth 20000 in
theorem ggX6_rounds_X4_told : GoodIn wsX6_rounds wsX4_told := goodIn_r _ [88, 34, 35, 110, 111] (by decide +kernel) (by decide +kernel)
set_option maxRecDepth 20000 in
theorem gX6_rounds_X4_told : GoodIn wsX6_rounds (wsV RX6 193 RX4 yX4_told wsX4_told) := goodIn_app (goodIn_of _ (by decide +kernel)) ggX6_rounds_X4_told
theorem dX6_rounds_0 : decode cX6_rounds 0 = .ok (.aload_n 0, 1) := by decide +kernel
theorem dX6_rounds_1 : decode cX6_rounds 1 = .ok (.getfield 19, 3) := by decide +kernel
theorem dX6_rounds_4 : decode cX6_rounds 4 = .ok (.iload_n 1, 1) := by decide +kernel
theorem dX6_rounds_5 : decode cX6_rounds 5 = .ok (.invokevirtual 123, 3) := by decide +kernel
theorem dX6_rounds_8 : decode cX6_rounds 8 = .ok (.ifCond .ne 5, 3) := by decide +kernel
theorem dX6_rounds_11 : decode cX6_rounds 11 = .ok (.iconst (-1), 1) := by decide +kernel
theorem dX6_rounds_12 : decode cX6_rounds 12 = .ok (.ireturn, 1) := by decide +kernel
theorem dX6_rounds_13 : decode cX6_rounds 13 = .ok (.iload_n 2, 1) := by decide +kernel
theorem dX6_rounds_14 : decode cX6_rounds 14 = .ok (.invokestatic 180, 3) := by decide +kernel
theorem dX6_rounds_17 : decode cX6_rounds 17 = .ok (.ifCond .ne 6, 3) := by decide +kernel
theorem dX6_rounds_20 : decode cX6_rounds 20 = .ok (.bipush (-2), 2) := by decide +kernel
theorem dX6_rounds_22 : decode cX6_rounds 22 = .ok (.ireturn, 1) := by decide +kernel
theorem dX6_rounds_23 : decode cX6_rounds 23 = .ok (.aload_n 0, 1) := by decide +kernel
theorem dX6_rounds_24 : decode cX6_rounds 24 = .ok (.getfield 26, 3) := by decide +kernel
theorem dX6_rounds_27 : decode cX6_rounds 27 = .ok (.iload_n 1, 1) := by decide +kernel
theorem dX6_rounds_28 : decode cX6_rounds 28 = .ok (.invokevirtual 141, 3) := by decide +kernel
theorem dX6_rounds_31 : decode cX6_rounds 31 = .ok (.ifCond .eq 6, 3) := by decide +kernel
theorem dX6_rounds_34 : decode cX6_rounds 34 = .ok (.bipush (-3), 2) := by decide +kernel
theorem dX6_rounds_36 : decode cX6_rounds 36 = .ok (.ireturn, 1) := by decide +kernel
theorem dX6_rounds_37 : decode cX6_rounds 37 = .ok (.aload_n 0, 1) := by decide +kernel
theorem dX6_rounds_38 : decode cX6_rounds 38 = .ok (.getfield 50, 3) := by decide +kernel
theorem dX6_rounds_41 : decode cX6_rounds 41 = .ok (.invokevirtual 187, 3) := by decide +kernel
theorem dX6_rounds_44 : decode cX6_rounds 44 = .ok (.aload_n 0, 1) := by decide +kernel
theorem dX6_rounds_45 : decode cX6_rounds 45 = .ok (.getfield 19, 3) := by decide +kernel
theorem dX6_rounds_48 : decode cX6_rounds 48 = .ok (.aload_n 0, 1) := by decide +kernel
theorem dX6_rounds_49 : decode cX6_rounds 49 = .ok (.getfield 50, 3) := by decide +kernel
theorem dX6_rounds_52 : decode cX6_rounds 52 = .ok (.iload_n 1, 1) := by decide +kernel
theorem dX6_rounds_53 : decode cX6_rounds 53 = .ok (.aload_n 0, 1) := by decide +kernel
theorem dX6_rounds_54 : decode cX6_rounds 54 = .ok (.getfield 26, 3) := by decide +kernel
theorem dX6_rounds_57 : decode cX6_rounds 57 = .ok (.iload_n 1, 1) := by decide +kernel
theorem dX6_rounds_58 : decode cX6_rounds 58 = .ok (.invokevirtual 132, 3) := by decide +kernel
theorem dX6_rounds_61 : decode cX6_rounds 61 = .ok (.iconst (-1), 1) := by decide +kernel
theorem dX6_rounds_62 : decode cX6_rounds 62 = .ok (.iconst 0, 1) := by decide +kernel
theorem dX6_rounds_63 : decode cX6_rounds 63 = .ok (.aload_n 0, 1) := by decide +kernel
theorem dX6_rounds_64 : decode cX6_rounds 64 = .ok (.getfield 19, 3) := by decide +kernel
theorem dX6_rounds_67 : decode cX6_rounds 67 = .ok (.invokevirtual 92, 3) := by decide +kernel
theorem dX6_rounds_70 : decode cX6_rounds 70 = .ok (.invokestatic 189, 3) := by decide +kernel
theorem dX6_rounds_73 : decode cX6_rounds 73 = .ok (.aload_n 0, 1) := by decide +kernel
theorem dX6_rounds_74 : decode cX6_rounds 74 = .ok (.getfield 50, 3) := by decide +kernel
theorem dX6_rounds_77 : decode cX6_rounds 77 = .ok (.iload_n 2, 1) := by decide +kernel
theorem dX6_rounds_78 : decode cX6_rounds 78 = .ok (.invokevirtual 193, 3) := by decide +kernel
theorem dX6_rounds_81 : decode cX6_rounds 81 = .ok (.ireturn, 1) := by decide +kernel
set_option maxRecDepth 20000 in
theorem ggX6_givesAway_X1_hasGlove : GoodIn wsX6_givesAway wsX1_hasGlove := goodIn_r _ [7, 8, 64, 65, 66, 67, 68, 69, 70, 71] (by decide +kernel) (by decide +kernel)
set_option maxRecDepth 20000 in
theorem gX6_givesAway_X1_hasGlove : GoodIn wsX6_givesAway (wsV RX6 123 RX1 yX1_hasGlove wsX1_hasGlove) := goodIn_app (goodIn_of _ (by decide +kernel)) ggX6_givesAway_X1_hasGlove
set_option maxRecDepth 20000 in
theorem ggX6_givesAway_X2_isWorn : GoodIn wsX6_givesAway wsX2_isWorn := goodIn_r _ [13, 14, 15, 16, 12, 17, 18, 19, 20, 21, 72, 73, 74, 75] (by decide +kernel) (by decide +kernel)
set_option maxRecDepth 20000 in
theorem gX6_givesAway_X2_isWorn : GoodIn wsX6_givesAway (wsV RX6 141 RX2 yX2_isWorn wsX2_isWorn) := goodIn_app (goodIn_of _ (by decide +kernel)) ggX6_givesAway_X2_isWorn
set_option maxRecDepth 20000 in
theorem ggX6_givesAway_X1_people : GoodIn wsX6_givesAway wsX1_people := goodIn_r _ [25, 26, 64, 65, 66, 67, 68, 69, 70, 71] (by decide +kernel) (by decide +kernel)
set_option maxRecDepth 20000 in
theorem gX6_givesAway_X1_people : GoodIn wsX6_givesAway (wsV RX6 92 RX1 yX1_people wsX1_people) := goodIn_app (goodIn_of _ (by decide +kernel)) ggX6_givesAway_X1_people
set_option maxRecDepth 20000 in
theorem ggX6_givesAway_X2_keptBy : GoodIn wsX6_givesAway wsX2_keptBy := goodIn_r _ [30, 31, 19, 20, 21, 72, 73, 74, 75] (by decide +kernel) (by decide +kernel)
set_option maxRecDepth 20000 in
theorem gX6_givesAway_X2_keptBy : GoodIn wsX6_givesAway (wsV RX6 132 RX2 yX2_keptBy wsX2_keptBy) := goodIn_app (goodIn_of _ (by decide +kernel)) ggX6_givesAway_X2_keptBy
set_option maxRecDepth 20000 in
theorem ggX6_givesAway_X1_reply : GoodIn wsX6_givesAway wsX1_reply := goodIn_r _ [35, 36, 20, 37, 38, 39, 40, 6, 41, 42, 19, 21, 43, 44, 45, 46, 47, 48, 49, 64, 65, 66, 67, 68, 69, 70, 71] (by decide +kernel) (by decide +kernel)
set_option maxRecDepth 20000 in
theorem gX6_givesAway_X1_reply : GoodIn wsX6_givesAway (wsV RX6 151 RX1 yX1_reply wsX1_reply) := goodIn_app (goodIn_of _ (by decide +kernel)) ggX6_givesAway_X1_reply
set_option maxRecDepth 20000 in
theorem ggX6_givesAway_X1_ownOf : GoodIn wsX6_givesAway wsX1_ownOf := goodIn_r _ [48, 49, 19, 20, 21, 64, 65, 66, 67, 68, 69, 70, 71] (by decide +kernel) (by decide +kernel)
set_option maxRecDepth 20000 in
theorem gX6_givesAway_X1_ownOf : GoodIn wsX6_givesAway (wsV RX6 110 RX1 yX1_ownOf wsX1_ownOf) := goodIn_app (goodIn_of _ (by decide +kernel)) ggX6_givesAway_X1_ownOf
set_option maxRecDepth 20000 in
theorem ggX6_givesAway_X1_isSomeonesOwn : GoodIn wsX6_givesAway wsX1_isSomeonesOwn := goodIn_r _ [54, 26, 45, 46, 47, 6, 48, 49, 19, 20, 21, 64, 65, 66, 67, 68, 69, 70, 71] (by decide +kernel) (by decide +kernel)
set_option maxRecDepth 20000 in
theorem gX6_givesAway_X1_isSomeonesOwn : GoodIn wsX6_givesAway (wsV RX6 196 RX1 yX1_isSomeonesOwn wsX1_isSomeonesOwn) := goodIn_app (goodIn_of _ (by decide +kernel)) ggX6_givesAway_X1_isSomeonesOwn
theorem dX6_givesAway_0 : decode cX6_givesAway 0 = .ok (.aload_n 0, 1) := by decide +kernel
theorem dX6_givesAway_1 : decode cX6_givesAway 1 = .ok (.getfield 19, 3) := by decide +kernel
theorem dX6_givesAway_4 : decode cX6_givesAway 4 = .ok (.iload_n 1, 1) := by decide +kernel
theorem dX6_givesAway_5 : decode cX6_givesAway 5 = .ok (.invokevirtual 123, 3) := by decide +kernel
theorem dX6_givesAway_8 : decode cX6_givesAway 8 = .ok (.ifCond .ne 5, 3) := by decide +kernel
theorem dX6_givesAway_11 : decode cX6_givesAway 11 = .ok (.iconst (-1), 1) := by decide +kernel
theorem dX6_givesAway_12 : decode cX6_givesAway 12 = .ok (.ireturn, 1) := by decide +kernel
theorem dX6_givesAway_13 : decode cX6_givesAway 13 = .ok (.aload_n 0, 1) := by decide +kernel
theorem dX6_givesAway_14 : decode cX6_givesAway 14 = .ok (.getfield 26, 3) := by decide +kernel
theorem dX6_givesAway_17 : decode cX6_givesAway 17 = .ok (.iload_n 1, 1) := by decide +kernel
theorem dX6_givesAway_18 : decode cX6_givesAway 18 = .ok (.invokevirtual 141, 3) := by decide +kernel
theorem dX6_givesAway_21 : decode cX6_givesAway 21 = .ok (.ifCond .eq 6, 3) := by decide +kernel
theorem dX6_givesAway_24 : decode cX6_givesAway 24 = .ok (.bipush (-3), 2) := by decide +kernel
theorem dX6_givesAway_26 : decode cX6_givesAway 26 = .ok (.ireturn, 1) := by decide +kernel
theorem dX6_givesAway_27 : decode cX6_givesAway 27 = .ok (.iconst 0, 1) := by decide +kernel
theorem dX6_givesAway_28 : decode cX6_givesAway 28 = .ok (.istore_n 2, 1) := by decide +kernel
theorem dX6_givesAway_29 : decode cX6_givesAway 29 = .ok (.iconst 0, 1) := by decide +kernel
theorem dX6_givesAway_30 : decode cX6_givesAway 30 = .ok (.istore_n 3, 1) := by decide +kernel
theorem dX6_givesAway_31 : decode cX6_givesAway 31 = .ok (.iload_n 3, 1) := by decide +kernel
theorem dX6_givesAway_32 : decode cX6_givesAway 32 = .ok (.aload_n 0, 1) := by decide +kernel
theorem dX6_givesAway_33 : decode cX6_givesAway 33 = .ok (.getfield 19, 3) := by decide +kernel
theorem dX6_givesAway_36 : decode cX6_givesAway 36 = .ok (.invokevirtual 92, 3) := by decide +kernel
theorem dX6_givesAway_39 : decode cX6_givesAway 39 = .ok (.if_icmp .ge 59, 3) := by decide +kernel
theorem dX6_givesAway_42 : decode cX6_givesAway 42 = .ok (.aload_n 0, 1) := by decide +kernel
theorem dX6_givesAway_43 : decode cX6_givesAway 43 = .ok (.getfield 19, 3) := by decide +kernel
theorem dX6_givesAway_46 : decode cX6_givesAway 46 = .ok (.iload_n 1, 1) := by decide +kernel
theorem dX6_givesAway_47 : decode cX6_givesAway 47 = .ok (.aload_n 0, 1) := by decide +kernel
theorem dX6_givesAway_48 : decode cX6_givesAway 48 = .ok (.getfield 26, 3) := by decide +kernel
theorem dX6_givesAway_51 : decode cX6_givesAway 51 = .ok (.iload_n 1, 1) := by decide +kernel
theorem dX6_givesAway_52 : decode cX6_givesAway 52 = .ok (.invokevirtual 132, 3) := by decide +kernel
theorem dX6_givesAway_55 : decode cX6_givesAway 55 = .ok (.iload_n 3, 1) := by decide +kernel
theorem dX6_givesAway_56 : decode cX6_givesAway 56 = .ok (.invokevirtual 151, 3) := by decide +kernel
theorem dX6_givesAway_59 : decode cX6_givesAway 59 = .ok (.istore 4, 2) := by decide +kernel
theorem dX6_givesAway_61 : decode cX6_givesAway 61 = .ok (.iload 4, 2) := by decide +kernel
theorem dX6_givesAway_63 : decode cX6_givesAway 63 = .ok (.aload_n 0, 1) := by decide +kernel
theorem dX6_givesAway_64 : decode cX6_givesAway 64 = .ok (.getfield 19, 3) := by decide +kernel
theorem dX6_givesAway_67 : decode cX6_givesAway 67 = .ok (.iload_n 3, 1) := by decide +kernel
theorem dX6_givesAway_68 : decode cX6_givesAway 68 = .ok (.invokevirtual 110, 3) := by decide +kernel
theorem dX6_givesAway_71 : decode cX6_givesAway 71 = .ok (.if_icmp .eq 21, 3) := by decide +kernel
theorem dX6_givesAway_74 : decode cX6_givesAway 74 = .ok (.aload_n 0, 1) := by decide +kernel
theorem dX6_givesAway_75 : decode cX6_givesAway 75 = .ok (.getfield 19, 3) := by decide +kernel
theorem dX6_givesAway_78 : decode cX6_givesAway 78 = .ok (.iload 4, 2) := by decide +kernel
theorem dX6_givesAway_80 : decode cX6_givesAway 80 = .ok (.invokevirtual 196, 3) := by decide +kernel
theorem dX6_givesAway_83 : decode cX6_givesAway 83 = .ok (.ifCond .eq 9, 3) := by decide +kernel
theorem dX6_givesAway_86 : decode cX6_givesAway 86 = .ok (.iload_n 2, 1) := by decide +kernel
theorem dX6_givesAway_87 : decode cX6_givesAway 87 = .ok (.iconst 1, 1) := by decide +kernel
theorem dX6_givesAway_88 : decode cX6_givesAway 88 = .ok (.iload_n 3, 1) := by decide +kernel
theorem dX6_givesAway_89 : decode cX6_givesAway 89 = .ok (.ishl, 1) := by decide +kernel
theorem dX6_givesAway_90 : decode cX6_givesAway 90 = .ok (.ior, 1) := by decide +kernel
theorem dX6_givesAway_91 : decode cX6_givesAway 91 = .ok (.istore_n 2, 1) := by decide +kernel
theorem dX6_givesAway_92 : decode cX6_givesAway 92 = .ok (.iinc 3 1, 3) := by decide +kernel
theorem dX6_givesAway_95 : decode cX6_givesAway 95 = .ok (.goto (-64), 3) := by decide +kernel
theorem dX6_givesAway_98 : decode cX6_givesAway 98 = .ok (.iload_n 2, 1) := by decide +kernel
theorem dX6_givesAway_99 : decode cX6_givesAway 99 = .ok (.ireturn, 1) := by decide +kernel
set_option maxRecDepth 20000 in
theorem ggX6_leftBy_X1_hasGlove : GoodIn wsX6_leftBy wsX1_hasGlove := goodIn_r _ [6, 7, 40, 41, 42, 43, 44, 45, 46, 47] (by decide +kernel) (by decide +kernel)
set_option maxRecDepth 20000 in
theorem gX6_leftBy_X1_hasGlove : GoodIn wsX6_leftBy (wsV RX6 123 RX1 yX1_hasGlove wsX1_hasGlove) := goodIn_app (goodIn_of _ (by decide +kernel)) ggX6_leftBy_X1_hasGlove
set_option maxRecDepth 20000 in
theorem ggX6_leftBy_X6_within : GoodIn wsX6_leftBy wsX6_within := goodIn_r _ [11] (by decide +kernel) (by decide +kernel)
set_option maxRecDepth 20000 in
theorem gX6_leftBy_X6_within : GoodIn wsX6_leftBy (va_wsS RX6 62 yX6_within wsX6_within) := goodIn_app (goodIn_of _ (by decide +kernel)) ggX6_leftBy_X6_within
set_option maxRecDepth 20000 in
theorem ggX6_leftBy_X6_lastAfterWashes : GoodIn wsX6_leftBy wsX6_lastAfterWashes := goodIn_r _ [15, 16, 17, 18, 19, 20, 21, 22, 23, 10, 24, 25, 26, 27, 28, 29, 30, 31, 32, 33, 34, 35, 36, 37, 38, 39, 48, 49, 50, 51] (by decide +kernel) (by decide +kernel)
set_option maxRecDepth 20000 in
theorem gX6_leftBy_X6_lastAfterWashes : GoodIn wsX6_leftBy (wsV RX6 199 RX6 yX6_lastAfterWashes wsX6_lastAfterWashes) := goodIn_app (goodIn_of _ (by decide +kernel)) ggX6_leftBy_X6_lastAfterWashes
theorem dX6_leftBy_0 : decode cX6_leftBy 0 = .ok (.aload_n 0, 1) := by decide +kernel
theorem dX6_leftBy_1 : decode cX6_leftBy 1 = .ok (.getfield 19, 3) := by decide +kernel
theorem dX6_leftBy_4 : decode cX6_leftBy 4 = .ok (.iload_n 1, 1) := by decide +kernel
theorem dX6_leftBy_5 : decode cX6_leftBy 5 = .ok (.invokevirtual 123, 3) := by decide +kernel
theorem dX6_leftBy_8 : decode cX6_leftBy 8 = .ok (.ifCond .ne 5, 3) := by decide +kernel
theorem dX6_leftBy_11 : decode cX6_leftBy 11 = .ok (.iconst (-1), 1) := by decide +kernel
theorem dX6_leftBy_12 : decode cX6_leftBy 12 = .ok (.ireturn, 1) := by decide +kernel
theorem dX6_leftBy_13 : decode cX6_leftBy 13 = .ok (.iload_n 2, 1) := by decide +kernel
theorem dX6_leftBy_14 : decode cX6_leftBy 14 = .ok (.iconst 0, 1) := by decide +kernel
theorem dX6_leftBy_15 : decode cX6_leftBy 15 = .ok (.iconst 3, 1) := by decide +kernel
theorem dX6_leftBy_16 : decode cX6_leftBy 16 = .ok (.invokestatic 62, 3) := by decide +kernel
theorem dX6_leftBy_19 : decode cX6_leftBy 19 = .ok (.ifCond .ne 6, 3) := by decide +kernel
theorem dX6_leftBy_22 : decode cX6_leftBy 22 = .ok (.bipush (-2), 2) := by decide +kernel
theorem dX6_leftBy_24 : decode cX6_leftBy 24 = .ok (.ireturn, 1) := by decide +kernel
theorem dX6_leftBy_25 : decode cX6_leftBy 25 = .ok (.aload_n 0, 1) := by decide +kernel
theorem dX6_leftBy_26 : decode cX6_leftBy 26 = .ok (.iload_n 1, 1) := by decide +kernel
theorem dX6_leftBy_27 : decode cX6_leftBy 27 = .ok (.iload_n 2, 1) := by decide +kernel
theorem dX6_leftBy_28 : decode cX6_leftBy 28 = .ok (.invokevirtual 199, 3) := by decide +kernel
theorem dX6_leftBy_31 : decode cX6_leftBy 31 = .ok (.ireturn, 1) := by decide +kernel
set_option maxRecDepth 20000 in
theorem ggX6_washes_X1_hasGlove : GoodIn wsX6_washes wsX1_hasGlove := goodIn_r _ [6, 7, 40, 41, 42, 43, 44, 45, 46, 47] (by decide +kernel) (by decide +kernel)
set_option maxRecDepth 20000 in
theorem gX6_washes_X1_hasGlove : GoodIn wsX6_washes (wsV RX6 123 RX1 yX1_hasGlove wsX1_hasGlove) := goodIn_app (goodIn_of _ (by decide +kernel)) ggX6_washes_X1_hasGlove
set_option maxRecDepth 20000 in
theorem ggX6_washes_X6_within : GoodIn wsX6_washes wsX6_within := goodIn_r _ [11] (by decide +kernel) (by decide +kernel)
set_option maxRecDepth 20000 in
theorem gX6_washes_X6_within : GoodIn wsX6_washes (va_wsS RX6 62 yX6_within wsX6_within) := goodIn_app (goodIn_of _ (by decide +kernel)) ggX6_washes_X6_within
set_option maxRecDepth 20000 in
theorem ggX6_washes_X6_lastAfterWashes : GoodIn wsX6_washes wsX6_lastAfterWashes := goodIn_r _ [15, 16, 17, 18, 19, 20, 21, 22, 23, 10, 24, 25, 26, 27, 28, 29, 30, 31, 32, 33, 34, 35, 36, 37, 38, 39, 48, 49, 50, 51] (by decide +kernel) (by decide +kernel)
set_option maxRecDepth 20000 in
theorem gX6_washes_X6_lastAfterWashes : GoodIn wsX6_washes (wsV RX6 199 RX6 yX6_lastAfterWashes wsX6_lastAfterWashes) := goodIn_app (goodIn_of _ (by decide +kernel)) ggX6_washes_X6_lastAfterWashes
theorem dX6_washes_0 : decode cX6_washes 0 = .ok (.aload_n 0, 1) := by decide +kernel
theorem dX6_washes_1 : decode cX6_washes 1 = .ok (.getfield 19, 3) := by decide +kernel
theorem dX6_washes_4 : decode cX6_washes 4 = .ok (.iload_n 1, 1) := by decide +kernel
theorem dX6_washes_5 : decode cX6_washes 5 = .ok (.invokevirtual 123, 3) := by decide +kernel
theorem dX6_washes_8 : decode cX6_washes 8 = .ok (.ifCond .ne 5, 3) := by decide +kernel
theorem dX6_washes_11 : decode cX6_washes 11 = .ok (.iconst (-1), 1) := by decide +kernel
theorem dX6_washes_12 : decode cX6_washes 12 = .ok (.ireturn, 1) := by decide +kernel
theorem dX6_washes_13 : decode cX6_washes 13 = .ok (.iload_n 2, 1) := by decide +kernel
theorem dX6_washes_14 : decode cX6_washes 14 = .ok (.iconst 0, 1) := by decide +kernel
theorem dX6_washes_15 : decode cX6_washes 15 = .ok (.bipush 7, 2) := by decide +kernel
theorem dX6_washes_17 : decode cX6_washes 17 = .ok (.invokestatic 62, 3) := by decide +kernel
theorem dX6_washes_20 : decode cX6_washes 20 = .ok (.ifCond .ne 6, 3) := by decide +kernel
theorem dX6_washes_23 : decode cX6_washes 23 = .ok (.bipush (-2), 2) := by decide +kernel
theorem dX6_washes_25 : decode cX6_washes 25 = .ok (.ireturn, 1) := by decide +kernel
theorem dX6_washes_26 : decode cX6_washes 26 = .ok (.iconst 0, 1) := by decide +kernel
theorem dX6_washes_27 : decode cX6_washes 27 = .ok (.istore_n 3, 1) := by decide +kernel
theorem dX6_washes_28 : decode cX6_washes 28 = .ok (.iload_n 3, 1) := by decide +kernel
theorem dX6_washes_29 : decode cX6_washes 29 = .ok (.iconst 3, 1) := by decide +kernel
theorem dX6_washes_30 : decode cX6_washes 30 = .ok (.if_icmp .gt 21, 3) := by decide +kernel
theorem dX6_washes_33 : decode cX6_washes 33 = .ok (.aload_n 0, 1) := by decide +kernel
theorem dX6_washes_34 : decode cX6_washes 34 = .ok (.iload_n 1, 1) := by decide +kernel
theorem dX6_washes_35 : decode cX6_washes 35 = .ok (.iload_n 3, 1) := by decide +kernel
theorem dX6_washes_36 : decode cX6_washes 36 = .ok (.invokevirtual 199, 3) := by decide +kernel
theorem dX6_washes_39 : decode cX6_washes 39 = .ok (.iload_n 2, 1) := by decide +kernel
theorem dX6_washes_40 : decode cX6_washes 40 = .ok (.if_icmp .ne 5, 3) := by decide +kernel
theorem dX6_washes_43 : decode cX6_washes 43 = .ok (.iload_n 3, 1) := by decide +kernel
theorem dX6_washes_44 : decode cX6_washes 44 = .ok (.ireturn, 1) := by decide +kernel
theorem dX6_washes_45 : decode cX6_washes 45 = .ok (.iinc 3 1, 3) := by decide +kernel
theorem dX6_washes_48 : decode cX6_washes 48 = .ok (.goto (-20), 3) := by decide +kernel
theorem dX6_washes_51 : decode cX6_washes 51 = .ok (.bipush (-9), 2) := by decide +kernel
theorem dX6_washes_53 : decode cX6_washes 53 = .ok (.ireturn, 1) := by decide +kernel
set_option maxRecDepth 20000 in
theorem ggX6_both_X1_hasGlove : GoodIn wsX6_both wsX1_hasGlove := goodIn_r _ [6, 7, 34, 35, 36, 37, 38, 39, 40, 41] (by decide +kernel) (by decide +kernel)
set_option maxRecDepth 20000 in
theorem gX6_both_X1_hasGlove : GoodIn wsX6_both (wsV RX6 123 RX1 yX1_hasGlove wsX1_hasGlove) := goodIn_app (goodIn_of _ (by decide +kernel)) ggX6_both_X1_hasGlove
set_option maxRecDepth 20000 in
theorem ggX6_both_X6_secretOf : GoodIn wsX6_both wsX6_secretOf := goodIn_r _ [12, 13, 14, 15, 16, 17, 18, 19, 20, 11, 21, 22, 23, 24, 25, 26, 27, 28, 29, 30, 31, 32, 33, 42, 43, 44, 45] (by decide +kernel) (by decide +kernel)
set_option maxRecDepth 20000 in
theorem gX6_both_X6_secretOf : GoodIn wsX6_both (wsV RX6 203 RX6 yX6_secretOf wsX6_secretOf) := goodIn_app (goodIn_of _ (by decide +kernel)) ggX6_both_X6_secretOf
theorem dX6_both_0 : decode cX6_both 0 = .ok (.aload_n 0, 1) := by decide +kernel
theorem dX6_both_1 : decode cX6_both 1 = .ok (.getfield 19, 3) := by decide +kernel
theorem dX6_both_4 : decode cX6_both 4 = .ok (.iload_n 1, 1) := by decide +kernel
theorem dX6_both_5 : decode cX6_both 5 = .ok (.invokevirtual 123, 3) := by decide +kernel
theorem dX6_both_8 : decode cX6_both 8 = .ok (.ifCond .eq 14, 3) := by decide +kernel
theorem dX6_both_11 : decode cX6_both 11 = .ok (.aload_n 0, 1) := by decide +kernel
theorem dX6_both_12 : decode cX6_both 12 = .ok (.getfield 19, 3) := by decide +kernel
theorem dX6_both_15 : decode cX6_both 15 = .ok (.iload_n 2, 1) := by decide +kernel
theorem dX6_both_16 : decode cX6_both 16 = .ok (.invokevirtual 123, 3) := by decide +kernel
theorem dX6_both_19 : decode cX6_both 19 = .ok (.ifCond .ne 5, 3) := by decide +kernel
theorem dX6_both_22 : decode cX6_both 22 = .ok (.iconst (-1), 1) := by decide +kernel
theorem dX6_both_23 : decode cX6_both 23 = .ok (.ireturn, 1) := by decide +kernel
theorem dX6_both_24 : decode cX6_both 24 = .ok (.aload_n 0, 1) := by decide +kernel
theorem dX6_both_25 : decode cX6_both 25 = .ok (.iload_n 1, 1) := by decide +kernel
theorem dX6_both_26 : decode cX6_both 26 = .ok (.iload_n 2, 1) := by decide +kernel
theorem dX6_both_27 : decode cX6_both 27 = .ok (.invokevirtual 203, 3) := by decide +kernel
theorem dX6_both_30 : decode cX6_both 30 = .ok (.ireturn, 1) := by decide +kernel
set_option maxRecDepth 20000 in
theorem ggX6_either_X1_hasGlove : GoodIn wsX6_either wsX1_hasGlove := goodIn_r _ [7, 8, 34, 35, 36, 37, 38, 39, 40, 41] (by decide +kernel) (by decide +kernel)
set_option maxRecDepth 20000 in
theorem gX6_either_X1_hasGlove : GoodIn wsX6_either (wsV RX6 123 RX1 yX1_hasGlove wsX1_hasGlove) := goodIn_app (goodIn_of _ (by decide +kernel)) ggX6_either_X1_hasGlove
set_option maxRecDepth 20000 in
theorem ggX6_either_X6_secretOf : GoodIn wsX6_either wsX6_secretOf := goodIn_r _ [13, 2, 14, 15, 16, 17, 18, 19, 20, 12, 21, 22, 23, 24, 25, 26, 27, 28, 29, 30, 31, 32, 33, 42, 43, 44, 45] (by decide +kernel) (by decide +kernel)
set_option maxRecDepth 20000 in
theorem gX6_either_X6_secretOf : GoodIn wsX6_either (wsV RX6 203 RX6 yX6_secretOf wsX6_secretOf) := goodIn_app (goodIn_of _ (by decide +kernel)) ggX6_either_X6_secretOf
set_option maxRecDepth 20000 in
theorem ggX6_either_X2_keptBy : GoodIn wsX6_either wsX2_keptBy := goodIn_r _ [18, 19, 20, 12, 21, 42, 43, 44, 45] (by decide +kernel) (by decide +kernel)
set_option maxRecDepth 20000 in
theorem gX6_either_X2_keptBy : GoodIn wsX6_either (wsV RX6 132 RX2 yX2_keptBy wsX2_keptBy) := goodIn_app (goodIn_of _ (by decide +kernel)) ggX6_either_X2_keptBy
set_option maxRecDepth 20000 in
theorem ggX6_either_X6_lastOf : GoodIn wsX6_either wsX6_lastOf := goodIn_r _ [24] (by decide +kernel) (by decide +kernel)
set_option maxRecDepth 20000 in
theorem gX6_either_X6_lastOf : GoodIn wsX6_either (va_wsS RX6 164 yX6_lastOf wsX6_lastOf) := goodIn_app (goodIn_of _ (by decide +kernel)) ggX6_either_X6_lastOf
theorem dX6_either_0 : decode cX6_either 0 = .ok (.aload_n 0, 1) := by decide +kernel
theorem dX6_either_1 : decode cX6_either 1 = .ok (.getfield 19, 3) := by decide +kernel
theorem dX6_either_4 : decode cX6_either 4 = .ok (.iload_n 1, 1) := by decide +kernel
theorem dX6_either_5 : decode cX6_either 5 = .ok (.invokevirtual 123, 3) := by decide +kernel
theorem dX6_either_8 : decode cX6_either 8 = .ok (.ifCond .eq 14, 3) := by decide +kernel
theorem dX6_either_11 : decode cX6_either 11 = .ok (.aload_n 0, 1) := by decide +kernel
theorem dX6_either_12 : decode cX6_either 12 = .ok (.getfield 19, 3) := by decide +kernel
theorem dX6_either_15 : decode cX6_either 15 = .ok (.iload_n 2, 1) := by decide +kernel
theorem dX6_either_16 : decode cX6_either 16 = .ok (.invokevirtual 123, 3) := by decide +kernel
theorem dX6_either_19 : decode cX6_either 19 = .ok (.ifCond .ne 5, 3) := by decide +kernel
theorem dX6_either_22 : decode cX6_either 22 = .ok (.iconst (-1), 1) := by decide +kernel
theorem dX6_either_23 : decode cX6_either 23 = .ok (.ireturn, 1) := by decide +kernel
theorem dX6_either_24 : decode cX6_either 24 = .ok (.aload_n 0, 1) := by decide +kernel
theorem dX6_either_25 : decode cX6_either 25 = .ok (.iload_n 1, 1) := by decide +kernel
theorem dX6_either_26 : decode cX6_either 26 = .ok (.iload_n 2, 1) := by decide +kernel
theorem dX6_either_27 : decode cX6_either 27 = .ok (.invokevirtual 203, 3) := by decide +kernel
theorem dX6_either_30 : decode cX6_either 30 = .ok (.istore_n 3, 1) := by decide +kernel
theorem dX6_either_31 : decode cX6_either 31 = .ok (.aload_n 0, 1) := by decide +kernel
theorem dX6_either_32 : decode cX6_either 32 = .ok (.getfield 26, 3) := by decide +kernel
theorem dX6_either_35 : decode cX6_either 35 = .ok (.iload_n 1, 1) := by decide +kernel
theorem dX6_either_36 : decode cX6_either 36 = .ok (.invokevirtual 132, 3) := by decide +kernel
theorem dX6_either_39 : decode cX6_either 39 = .ok (.invokestatic 164, 3) := by decide +kernel
theorem dX6_either_42 : decode cX6_either 42 = .ok (.iload_n 3, 1) := by decide +kernel
theorem dX6_either_43 : decode cX6_either 43 = .ok (.if_icmp .eq 18, 3) := by decide +kernel
theorem dX6_either_46 : decode cX6_either 46 = .ok (.aload_n 0, 1) := by decide +kernel
theorem dX6_either_47 : decode cX6_either 47 = .ok (.getfield 26, 3) := by decide +kernel
theorem dX6_either_50 : decode cX6_either 50 = .ok (.iload_n 2, 1) := by decide +kernel
theorem dX6_either_51 : decode cX6_either 51 = .ok (.invokevirtual 132, 3) := by decide +kernel
theorem dX6_either_54 : decode cX6_either 54 = .ok (.invokestatic 164, 3) := by decide +kernel
theorem dX6_either_57 : decode cX6_either 57 = .ok (.iload_n 3, 1) := by decide +kernel
theorem dX6_either_58 : decode cX6_either 58 = .ok (.if_icmp .ne 7, 3) := by decide +kernel
theorem dX6_either_61 : decode cX6_either 61 = .ok (.iconst 1, 1) := by decide +kernel
theorem dX6_either_62 : decode cX6_either 62 = .ok (.goto 4, 3) := by decide +kernel
theorem dX6_either_65 : decode cX6_either 65 = .ok (.iconst 0, 1) := by decide +kernel
theorem dX6_either_66 : decode cX6_either 66 = .ok (.istore 4, 2) := by decide +kernel
theorem dX6_either_68 : decode cX6_either 68 = .ok (.iload 4, 2) := by decide +kernel
theorem dX6_either_70 : decode cX6_either 70 = .ok (.ifCond .eq 7, 3) := by decide +kernel
theorem dX6_either_73 : decode cX6_either 73 = .ok (.iconst 1, 1) := by decide +kernel
theorem dX6_either_74 : decode cX6_either 74 = .ok (.goto 4, 3) := by decide +kernel
theorem dX6_either_77 : decode cX6_either 77 = .ok (.iconst 0, 1) := by decide +kernel
theorem dX6_either_78 : decode cX6_either 78 = .ok (.ireturn, 1) := by decide +kernel
set_option maxRecDepth 20000 in
theorem ggX6_see_X1_hasGlove : GoodIn wsX6_see wsX1_hasGlove := goodIn_r _ [7, 8, 42, 43, 44, 45, 46, 47, 48, 49] (by decide +kernel) (by decide +kernel)
set_option maxRecDepth 20000 in
theorem gX6_see_X1_hasGlove : GoodIn wsX6_see (wsV RX6 123 RX1 yX1_hasGlove wsX1_hasGlove) := goodIn_app (goodIn_of _ (by decide +kernel)) ggX6_see_X1_hasGlove
set_option maxRecDepth 20000 in
theorem ggX6_see_X1_hasPerson : GoodIn wsX6_see wsX1_hasPerson := goodIn_r _ [12, 13, 42, 43, 44, 45, 46, 47, 48, 49] (by decide +kernel) (by decide +kernel)
set_option maxRecDepth 20000 in
theorem gX6_see_X1_hasPerson : GoodIn wsX6_see (wsV RX6 106 RX1 yX1_hasPerson wsX1_hasPerson) := goodIn_app (goodIn_of _ (by decide +kernel)) ggX6_see_X1_hasPerson
set_option maxRecDepth 20000 in
theorem ggX6_see_X6_within : GoodIn wsX6_see wsX6_within := goodIn_r _ [17] (by decide +kernel) (by decide +kernel)
set_option maxRecDepth 20000 in
theorem gX6_see_X6_within : GoodIn wsX6_see (va_wsS RX6 62 yX6_within wsX6_within) := goodIn_app (goodIn_of _ (by decide +kernel)) ggX6_see_X6_within
set_option maxRecDepth 20000 in
theorem ggX6_see_X3_size : GoodIn wsX6_see wsX3_size := goodIn_r _ [22, 23, 50, 51, 52, 53] (by decide +kernel) (by decide +kernel)
set_option maxRecDepth 20000 in
theorem gX6_see_X3_size : GoodIn wsX6_see (wsV RX6 105 RX3 yX3_size wsX3_size) := goodIn_app (goodIn_of _ (by decide +kernel)) ggX6_see_X3_size
set_option maxRecDepth 20000 in
theorem ggX6_see_X3_add : GoodIn wsX6_see wsX3_add := goodIn_r _ [27, 23, 28, 29, 30, 31, 16, 32, 50, 51, 52, 53] (by decide +kernel) (by decide +kernel)
set_option maxRecDepth 20000 in
theorem gX6_see_X3_add : GoodIn wsX6_see (wsV RX6 206 RX3 yX3_add wsX3_add) := goodIn_app (goodIn_of _ (by decide +kernel)) ggX6_see_X3_add
theorem dX6_see_0 : decode cX6_see 0 = .ok (.aload_n 0, 1) := by decide +kernel
theorem dX6_see_1 : decode cX6_see 1 = .ok (.getfield 19, 3) := by decide +kernel
theorem dX6_see_4 : decode cX6_see 4 = .ok (.iload_n 1, 1) := by decide +kernel
theorem dX6_see_5 : decode cX6_see 5 = .ok (.invokevirtual 123, 3) := by decide +kernel
theorem dX6_see_8 : decode cX6_see 8 = .ok (.ifCond .eq 14, 3) := by decide +kernel
theorem dX6_see_11 : decode cX6_see 11 = .ok (.aload_n 0, 1) := by decide +kernel
theorem dX6_see_12 : decode cX6_see 12 = .ok (.getfield 19, 3) := by decide +kernel
theorem dX6_see_15 : decode cX6_see 15 = .ok (.iload_n 2, 1) := by decide +kernel
theorem dX6_see_16 : decode cX6_see 16 = .ok (.invokevirtual 106, 3) := by decide +kernel
theorem dX6_see_19 : decode cX6_see 19 = .ok (.ifCond .ne 5, 3) := by decide +kernel
theorem dX6_see_22 : decode cX6_see 22 = .ok (.iconst (-1), 1) := by decide +kernel
theorem dX6_see_23 : decode cX6_see 23 = .ok (.ireturn, 1) := by decide +kernel
theorem dX6_see_24 : decode cX6_see 24 = .ok (.iload_n 3, 1) := by decide +kernel
theorem dX6_see_25 : decode cX6_see 25 = .ok (.iconst 0, 1) := by decide +kernel
theorem dX6_see_26 : decode cX6_see 26 = .ok (.bipush 7, 2) := by decide +kernel
theorem dX6_see_28 : decode cX6_see 28 = .ok (.invokestatic 62, 3) := by decide +kernel
theorem dX6_see_31 : decode cX6_see 31 = .ok (.ifCond .ne 6, 3) := by decide +kernel
theorem dX6_see_34 : decode cX6_see 34 = .ok (.bipush (-2), 2) := by decide +kernel
theorem dX6_see_36 : decode cX6_see 36 = .ok (.ireturn, 1) := by decide +kernel
theorem dX6_see_37 : decode cX6_see 37 = .ok (.aload_n 0, 1) := by decide +kernel
theorem dX6_see_38 : decode cX6_see 38 = .ok (.getfield 43, 3) := by decide +kernel
theorem dX6_see_41 : decode cX6_see 41 = .ok (.invokevirtual 105, 3) := by decide +kernel
theorem dX6_see_44 : decode cX6_see 44 = .ok (.iconst 4, 1) := by decide +kernel
theorem dX6_see_45 : decode cX6_see 45 = .ok (.if_icmp .lt 6, 3) := by decide +kernel
theorem dX6_see_48 : decode cX6_see 48 = .ok (.bipush (-4), 2) := by decide +kernel
theorem dX6_see_50 : decode cX6_see 50 = .ok (.ireturn, 1) := by decide +kernel
theorem dX6_see_51 : decode cX6_see 51 = .ok (.aload_n 0, 1) := by decide +kernel
theorem dX6_see_52 : decode cX6_see 52 = .ok (.getfield 43, 3) := by decide +kernel
theorem dX6_see_55 : decode cX6_see 55 = .ok (.iload_n 1, 1) := by decide +kernel
theorem dX6_see_56 : decode cX6_see 56 = .ok (.iload_n 2, 1) := by decide +kernel
theorem dX6_see_57 : decode cX6_see 57 = .ok (.iload_n 3, 1) := by decide +kernel
theorem dX6_see_58 : decode cX6_see 58 = .ok (.invokevirtual 206, 3) := by decide +kernel
theorem dX6_see_61 : decode cX6_see 61 = .ok (.aload_n 0, 1) := by decide +kernel
theorem dX6_see_62 : decode cX6_see 62 = .ok (.getfield 43, 3) := by decide +kernel
theorem dX6_see_65 : decode cX6_see 65 = .ok (.invokevirtual 105, 3) := by decide +kernel
theorem dX6_see_68 : decode cX6_see 68 = .ok (.ireturn, 1) := by decide +kernel
set_option maxRecDepth 20000 in
theorem ggX6_unsee_X3_size : GoodIn wsX6_unsee wsX3_size := goodIn_r _ [6, 7, 21, 22, 23, 24] (by decide +kernel) (by decide +kernel)
set_option maxRecDepth 20000 in
theorem gX6_unsee_X3_size : GoodIn wsX6_unsee (wsV RX6 105 RX3 yX3_size wsX3_size) := goodIn_app (goodIn_of _ (by decide +kernel)) ggX6_unsee_X3_size
set_option maxRecDepth 20000 in
theorem ggX6_unsee_X3_clear : GoodIn wsX6_unsee wsX3_clear := goodIn_r _ [11, 7, 21, 22, 23, 24] (by decide +kernel) (by decide +kernel)
set_option maxRecDepth 20000 in
theorem gX6_unsee_X3_clear : GoodIn wsX6_unsee (wsV RX6 209 RX3 yX3_clear wsX3_clear) := goodIn_app (goodIn_of _ (by decide +kernel)) ggX6_unsee_X3_clear
theorem dX6_unsee_0 : decode cX6_unsee 0 = .ok (.aload_n 0, 1) := by decide +kernel
theorem dX6_unsee_1 : decode cX6_unsee 1 = .ok (.getfield 43, 3) := by decide +kernel
theorem dX6_unsee_4 : decode cX6_unsee 4 = .ok (.invokevirtual 105, 3) := by decide +kernel
theorem dX6_unsee_7 : decode cX6_unsee 7 = .ok (.istore_n 1, 1) := by decide +kernel
theorem dX6_unsee_8 : decode cX6_unsee 8 = .ok (.aload_n 0, 1) := by decide +kernel
theorem dX6_unsee_9 : decode cX6_unsee 9 = .ok (.getfield 43, 3) := by decide +kernel
theorem dX6_unsee_12 : decode cX6_unsee 12 = .ok (.invokevirtual 209, 3) := by decide +kernel
theorem dX6_unsee_15 : decode cX6_unsee 15 = .ok (.iload_n 1, 1) := by decide +kernel
theorem dX6_unsee_16 : decode cX6_unsee 16 = .ok (.ireturn, 1) := by decide +kernel
set_option maxRecDepth 20000 in
theorem ggX6_wore_X1_hasGlove : GoodIn wsX6_wore wsX1_hasGlove := goodIn_r _ [9, 10, 122, 123, 124, 125, 126, 127, 128, 129] (by decide +kernel) (by decide +kernel)
set_option maxRecDepth 20000 in
theorem gX6_wore_X1_hasGlove : GoodIn wsX6_wore (wsV RX6 123 RX1 yX1_hasGlove wsX1_hasGlove) := goodIn_app (goodIn_of _ (by decide +kernel)) ggX6_wore_X1_hasGlove
set_option maxRecDepth 20000 in
theorem ggX6_wore_X6_isChoice : GoodIn wsX6_wore wsX6_isChoice := goodIn_r _ [14, 15, 16, 13, 17] (by decide +kernel) (by decide +kernel)
set_option maxRecDepth 20000 in
theorem gX6_wore_X6_isChoice : GoodIn wsX6_wore (va_wsS RX6 180 yX6_isChoice wsX6_isChoice) := goodIn_app (goodIn_of _ (by decide +kernel)) ggX6_wore_X6_isChoice
set_option maxRecDepth 20000 in
theorem ggX6_wore_X2_isWorn : GoodIn wsX6_wore wsX2_isWorn := goodIn_r _ [22, 23, 24, 25, 21, 26, 27, 28, 13, 29, 130, 131, 132, 133] (by decide +kernel) (by decide +kernel)
set_option maxRecDepth 20000 in
theorem gX6_wore_X2_isWorn : GoodIn wsX6_wore (wsV RX6 141 RX2 yX2_isWorn wsX2_isWorn) := goodIn_app (goodIn_of _ (by decide +kernel)) ggX6_wore_X2_isWorn
set_option maxRecDepth 20000 in
theorem ggX6_wore_X4_start : GoodIn wsX6_wore wsX4_start := goodIn_r _ [34, 35, 36, 134, 135] (by decide +kernel) (by decide +kernel)
set_option maxRecDepth 20000 in
theorem gX6_wore_X4_start : GoodIn wsX6_wore (wsV RX6 187 RX4 yX4_start wsX4_start) := goodIn_app (goodIn_of _ (by decide +kernel)) ggX6_wore_X4_start
set_option maxRecDepth 20000 in
theorem ggX6_wore_X2_keptBy : GoodIn wsX6_wore wsX2_keptBy := goodIn_r _ [40, 41, 28, 13, 29, 130, 131, 132, 133] (by decide +kernel) (by decide +kernel)
set_option maxRecDepth 20000 in
theorem gX6_wore_X2_keptBy : GoodIn wsX6_wore (wsV RX6 132 RX2 yX2_keptBy wsX2_keptBy) := goodIn_app (goodIn_of _ (by decide +kernel)) ggX6_wore_X2_keptBy
set_option maxRecDepth 20000 in
theorem ggX6_wore_X6_tallyWearers : GoodIn wsX6_wore wsX6_tallyWearers := goodIn_r _ [44, 45, 46, 47, 48, 49, 50, 51, 28, 13, 29, 52, 53, 54, 55, 56, 57, 58, 59, 8, 60, 61, 62, 63, 64, 65, 66, 67, 68, 33, 69, 35, 36, 70, 71, 72, 73, 74, 75, 76, 77, 78, 79, 80, 81, 82, 83, 84, 85, 86, 87, 88, 89, 90, 91, 92, 93, 94, 95, 96, 97, 98, 99, 100, 101, 102, 103, 104, 105, 106, 107, 108, 42, 43, 136, 137, 138, 139, 122, 123, 124, 125, 126, 127, 128, 129, 134, 135] (by decide +kernel) (by decide +kernel)
set_option maxRecDepth 20000 in
theorem gX6_wore_X6_tallyWearers : GoodIn wsX6_wore (va_wsS RX6 210 yX6_tallyWearers wsX6_tallyWearers) := goodIn_app (goodIn_of _ (by decide +kernel)) ggX6_wore_X6_tallyWearers
set_option maxRecDepth 20000 in
theorem ggX6_wore_X4_told : GoodIn wsX6_wore wsX4_told := goodIn_r _ [112, 35, 36, 134, 135] (by decide +kernel) (by decide +kernel)
set_option maxRecDepth 20000 in
theorem gX6_wore_X4_told : GoodIn wsX6_wore (wsV RX6 193 RX4 yX4_told wsX4_told) := goodIn_app (goodIn_of _ (by decide +kernel)) ggX6_wore_X4_told
theorem dX6_wore_0 : decode cX6_wore 0 = .ok (.aload_n 0, 1) := by decide +kernel
theorem dX6_wore_1 : decode cX6_wore 1 = .ok (.getfield 19, 3) := by decide +kernel
theorem dX6_wore_4 : decode cX6_wore 4 = .ok (.iload_n 1, 1) := by decide +kernel
theorem dX6_wore_5 : decode cX6_wore 5 = .ok (.invokevirtual 123, 3) := by decide +kernel
theorem dX6_wore_8 : decode cX6_wore 8 = .ok (.ifCond .ne 5, 3) := by decide +kernel
theorem dX6_wore_11 : decode cX6_wore 11 = .ok (.iconst (-1), 1) := by decide +kernel
theorem dX6_wore_12 : decode cX6_wore 12 = .ok (.ireturn, 1) := by decide +kernel
theorem dX6_wore_13 : decode cX6_wore 13 = .ok (.iload_n 2, 1) := by decide +kernel
theorem dX6_wore_14 : decode cX6_wore 14 = .ok (.invokestatic 180, 3) := by decide +kernel
theorem dX6_wore_17 : decode cX6_wore 17 = .ok (.ifCond .ne 6, 3) := by decide +kernel
theorem dX6_wore_20 : decode cX6_wore 20 = .ok (.bipush (-2), 2) := by decide +kernel
theorem dX6_wore_22 : decode cX6_wore 22 = .ok (.ireturn, 1) := by decide +kernel
theorem dX6_wore_23 : decode cX6_wore 23 = .ok (.aload_n 0, 1) := by decide +kernel
theorem dX6_wore_24 : decode cX6_wore 24 = .ok (.getfield 26, 3) := by decide +kernel
theorem dX6_wore_27 : decode cX6_wore 27 = .ok (.iload_n 1, 1) := by decide +kernel
theorem dX6_wore_28 : decode cX6_wore 28 = .ok (.invokevirtual 141, 3) := by decide +kernel
theorem dX6_wore_31 : decode cX6_wore 31 = .ok (.ifCond .eq 6, 3) := by decide +kernel
theorem dX6_wore_34 : decode cX6_wore 34 = .ok (.bipush (-3), 2) := by decide +kernel
theorem dX6_wore_36 : decode cX6_wore 36 = .ok (.ireturn, 1) := by decide +kernel
theorem dX6_wore_37 : decode cX6_wore 37 = .ok (.aload_n 0, 1) := by decide +kernel
theorem dX6_wore_38 : decode cX6_wore 38 = .ok (.getfield 50, 3) := by decide +kernel
theorem dX6_wore_41 : decode cX6_wore 41 = .ok (.invokevirtual 187, 3) := by decide +kernel
theorem dX6_wore_44 : decode cX6_wore 44 = .ok (.aload_n 0, 1) := by decide +kernel
theorem dX6_wore_45 : decode cX6_wore 45 = .ok (.getfield 19, 3) := by decide +kernel
theorem dX6_wore_48 : decode cX6_wore 48 = .ok (.aload_n 0, 1) := by decide +kernel
theorem dX6_wore_49 : decode cX6_wore 49 = .ok (.getfield 43, 3) := by decide +kernel
theorem dX6_wore_52 : decode cX6_wore 52 = .ok (.aload_n 0, 1) := by decide +kernel
theorem dX6_wore_53 : decode cX6_wore 53 = .ok (.getfield 50, 3) := by decide +kernel
theorem dX6_wore_56 : decode cX6_wore 56 = .ok (.iload_n 1, 1) := by decide +kernel
theorem dX6_wore_57 : decode cX6_wore 57 = .ok (.aload_n 0, 1) := by decide +kernel
theorem dX6_wore_58 : decode cX6_wore 58 = .ok (.getfield 26, 3) := by decide +kernel
theorem dX6_wore_61 : decode cX6_wore 61 = .ok (.iload_n 1, 1) := by decide +kernel
theorem dX6_wore_62 : decode cX6_wore 62 = .ok (.invokevirtual 132, 3) := by decide +kernel
theorem dX6_wore_65 : decode cX6_wore 65 = .ok (.iconst 0, 1) := by decide +kernel
theorem dX6_wore_66 : decode cX6_wore 66 = .ok (.iconst 0, 1) := by decide +kernel
theorem dX6_wore_67 : decode cX6_wore 67 = .ok (.invokestatic 210, 3) := by decide +kernel
theorem dX6_wore_70 : decode cX6_wore 70 = .ok (.aload_n 0, 1) := by decide +kernel
theorem dX6_wore_71 : decode cX6_wore 71 = .ok (.getfield 50, 3) := by decide +kernel
theorem dX6_wore_74 : decode cX6_wore 74 = .ok (.iload_n 2, 1) := by decide +kernel
theorem dX6_wore_75 : decode cX6_wore 75 = .ok (.invokevirtual 193, 3) := by decide +kernel
theorem dX6_wore_78 : decode cX6_wore 78 = .ok (.ireturn, 1) := by decide +kernel
set_option maxRecDepth 20000 in
theorem ggX6_bids_X1_hasGlove : GoodIn wsX6_bids wsX1_hasGlove := goodIn_r _ [8, 9, 104, 105, 106, 107, 108, 109, 110, 111] (by decide +kernel) (by decide +kernel)
set_option maxRecDepth 20000 in
theorem gX6_bids_X1_hasGlove : GoodIn wsX6_bids (wsV RX6 123 RX1 yX1_hasGlove wsX1_hasGlove) := goodIn_app (goodIn_of _ (by decide +kernel)) ggX6_bids_X1_hasGlove
set_option maxRecDepth 20000 in
theorem ggX6_bids_X1_hasPerson : GoodIn wsX6_bids wsX1_hasPerson := goodIn_r _ [13, 14, 104, 105, 106, 107, 108, 109, 110, 111] (by decide +kernel) (by decide +kernel)
set_option maxRecDepth 20000 in
theorem gX6_bids_X1_hasPerson : GoodIn wsX6_bids (wsV RX6 106 RX1 yX1_hasPerson wsX1_hasPerson) := goodIn_app (goodIn_of _ (by decide +kernel)) ggX6_bids_X1_hasPerson
set_option maxRecDepth 20000 in
theorem ggX6_bids_X6_isChoice : GoodIn wsX6_bids wsX6_isChoice := goodIn_r _ [18, 19, 20, 17, 21] (by decide +kernel) (by decide +kernel)
