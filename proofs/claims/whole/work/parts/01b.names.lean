set_option maxRecDepth 20000 in
theorem ggX0_init_X6_init : GoodIn wsX0_init wsX6_init := goodIn_r _ [15, 16, 2, 3, 17, 18, 19, 20, 21, 22, 23, 24, 31, 32, 33] (by decide +kernel) (by decide +kernel)
set_option maxRecDepth 20000 in
theorem gX0_init_X6_init : GoodIn wsX0_init (wsX6_init) := ggX0_init_X6_init
theorem dX0_init_0 : decode cX0_init 0 = .ok (.aload_n 0, 1) := by decide +kernel
theorem dX0_init_1 : decode cX0_init 1 = .ok (.invokespecial 3, 3) := by decide +kernel
theorem dX0_init_4 : decode cX0_init 4 = .ok (.aload_n 0, 1) := by decide +kernel
theorem dX0_init_5 : decode cX0_init 5 = .ok (.iconst 2, 1) := by decide +kernel
theorem dX0_init_6 : decode cX0_init 6 = .ok (.putfield 9, 3) := by decide +kernel
theorem dX0_init_9 : decode cX0_init 9 = .ok (.aload_n 0, 1) := by decide +kernel
theorem dX0_init_10 : decode cX0_init 10 = .ok (.iconst 1, 1) := by decide +kernel
theorem dX0_init_11 : decode cX0_init 11 = .ok (.putfield 15, 3) := by decide +kernel
theorem dX0_init_14 : decode cX0_init 14 = .ok (.aload_n 0, 1) := by decide +kernel
theorem dX0_init_15 : decode cX0_init 15 = .ok (.new 18, 3) := by decide +kernel
theorem dX0_init_18 : decode cX0_init 18 = .ok (.dup, 1) := by decide +kernel
theorem dX0_init_19 : decode cX0_init 19 = .ok (.iconst 5, 1) := by decide +kernel
theorem dX0_init_20 : decode cX0_init 20 = .ok (.invokespecial 20, 3) := by decide +kernel
theorem dX0_init_23 : decode cX0_init 23 = .ok (.putfield 23, 3) := by decide +kernel
theorem dX0_init_26 : decode cX0_init 26 = .ok (.aload_n 0, 1) := by decide +kernel
theorem dX0_init_27 : decode cX0_init 27 = .ok (.new 18, 3) := by decide +kernel
theorem dX0_init_30 : decode cX0_init 30 = .ok (.dup, 1) := by decide +kernel
theorem dX0_init_31 : decode cX0_init 31 = .ok (.iconst 3, 1) := by decide +kernel
theorem dX0_init_32 : decode cX0_init 32 = .ok (.invokespecial 20, 3) := by decide +kernel
theorem dX0_init_35 : decode cX0_init 35 = .ok (.putfield 27, 3) := by decide +kernel
theorem dX0_init_38 : decode cX0_init 38 = .ok (.aload_n 0, 1) := by decide +kernel
theorem dX0_init_39 : decode cX0_init 39 = .ok (.new 18, 3) := by decide +kernel
theorem dX0_init_42 : decode cX0_init 42 = .ok (.dup, 1) := by decide +kernel
theorem dX0_init_43 : decode cX0_init 43 = .ok (.bipush 8, 2) := by decide +kernel
theorem dX0_init_45 : decode cX0_init 45 = .ok (.invokespecial 20, 3) := by decide +kernel
theorem dX0_init_48 : decode cX0_init 48 = .ok (.putfield 30, 3) := by decide +kernel
theorem dX0_init_51 : decode cX0_init 51 = .ok (.aload_n 0, 1) := by decide +kernel
theorem dX0_init_52 : decode cX0_init 52 = .ok (.new 18, 3) := by decide +kernel
theorem dX0_init_55 : decode cX0_init 55 = .ok (.dup, 1) := by decide +kernel
theorem dX0_init_56 : decode cX0_init 56 = .ok (.bipush 6, 2) := by decide +kernel
theorem dX0_init_58 : decode cX0_init 58 = .ok (.invokespecial 20, 3) := by decide +kernel
theorem dX0_init_61 : decode cX0_init 61 = .ok (.putfield 33, 3) := by decide +kernel
theorem dX0_init_64 : decode cX0_init 64 = .ok (.return_, 1) := by decide +kernel
theorem dX0_makeBare_0 : decode cX0_makeBare 0 = .ok (.aload_n 0, 1) := by decide +kernel
theorem dX0_makeBare_1 : decode cX0_makeBare 1 = .ok (.getfield 23, 3) := by decide +kernel
theorem dX0_makeBare_4 : decode cX0_makeBare 4 = .ok (.iconst 0, 1) := by decide +kernel
theorem dX0_makeBare_5 : decode cX0_makeBare 5 = .ok (.putfield 36, 3) := by decide +kernel
theorem dX0_makeBare_8 : decode cX0_makeBare 8 = .ok (.aload_n 0, 1) := by decide +kernel
theorem dX0_makeBare_9 : decode cX0_makeBare 9 = .ok (.getfield 27, 3) := by decide +kernel
theorem dX0_makeBare_12 : decode cX0_makeBare 12 = .ok (.iconst 0, 1) := by decide +kernel
theorem dX0_makeBare_13 : decode cX0_makeBare 13 = .ok (.putfield 36, 3) := by decide +kernel
theorem dX0_makeBare_16 : decode cX0_makeBare 16 = .ok (.aload_n 0, 1) := by decide +kernel
theorem dX0_makeBare_17 : decode cX0_makeBare 17 = .ok (.getfield 30, 3) := by decide +kernel
theorem dX0_makeBare_20 : decode cX0_makeBare 20 = .ok (.iconst 0, 1) := by decide +kernel
theorem dX0_makeBare_21 : decode cX0_makeBare 21 = .ok (.putfield 36, 3) := by decide +kernel
theorem dX0_makeBare_24 : decode cX0_makeBare 24 = .ok (.aload_n 0, 1) := by decide +kernel
theorem dX0_makeBare_25 : decode cX0_makeBare 25 = .ok (.getfield 33, 3) := by decide +kernel
theorem dX0_makeBare_28 : decode cX0_makeBare 28 = .ok (.iconst 0, 1) := by decide +kernel
theorem dX0_makeBare_29 : decode cX0_makeBare 29 = .ok (.putfield 36, 3) := by decide +kernel
theorem dX0_makeBare_32 : decode cX0_makeBare 32 = .ok (.return_, 1) := by decide +kernel
set_option maxRecDepth 20000 in
theorem ggX0_copyFrom_X6_copyFrom : GoodIn wsX0_copyFrom wsX6_copyFrom := goodIn_r _ [11, 12, 13, 14, 15, 16, 17, 18, 19, 20, 21, 10, 22, 23, 24, 25, 26, 27, 28, 29, 30, 37, 38, 39] (by decide +kernel) (by decide +kernel)
set_option maxRecDepth 20000 in
theorem gX0_copyFrom_X6_copyFrom : GoodIn wsX0_copyFrom (wsV RX0 39 RX6 yX6_copyFrom wsX6_copyFrom) := goodIn_app (goodIn_of _ (by decide +kernel)) ggX0_copyFrom_X6_copyFrom
theorem dX0_copyFrom_0 : decode cX0_copyFrom 0 = .ok (.aload_n 0, 1) := by decide +kernel
theorem dX0_copyFrom_1 : decode cX0_copyFrom 1 = .ok (.aload_n 1, 1) := by decide +kernel
theorem dX0_copyFrom_2 : decode cX0_copyFrom 2 = .ok (.getfield 9, 3) := by decide +kernel
theorem dX0_copyFrom_5 : decode cX0_copyFrom 5 = .ok (.putfield 9, 3) := by decide +kernel
theorem dX0_copyFrom_8 : decode cX0_copyFrom 8 = .ok (.aload_n 0, 1) := by decide +kernel
theorem dX0_copyFrom_9 : decode cX0_copyFrom 9 = .ok (.aload_n 1, 1) := by decide +kernel
theorem dX0_copyFrom_10 : decode cX0_copyFrom 10 = .ok (.getfield 15, 3) := by decide +kernel
theorem dX0_copyFrom_13 : decode cX0_copyFrom 13 = .ok (.putfield 15, 3) := by decide +kernel
theorem dX0_copyFrom_16 : decode cX0_copyFrom 16 = .ok (.aload_n 0, 1) := by decide +kernel
theorem dX0_copyFrom_17 : decode cX0_copyFrom 17 = .ok (.getfield 23, 3) := by decide +kernel
theorem dX0_copyFrom_20 : decode cX0_copyFrom 20 = .ok (.aload_n 1, 1) := by decide +kernel
theorem dX0_copyFrom_21 : decode cX0_copyFrom 21 = .ok (.getfield 23, 3) := by decide +kernel
theorem dX0_copyFrom_24 : decode cX0_copyFrom 24 = .ok (.invokevirtual 39, 3) := by decide +kernel
theorem dX0_copyFrom_27 : decode cX0_copyFrom 27 = .ok (.aload_n 0, 1) := by decide +kernel
theorem dX0_copyFrom_28 : decode cX0_copyFrom 28 = .ok (.getfield 27, 3) := by decide +kernel
theorem dX0_copyFrom_31 : decode cX0_copyFrom 31 = .ok (.aload_n 1, 1) := by decide +kernel
theorem dX0_copyFrom_32 : decode cX0_copyFrom 32 = .ok (.getfield 27, 3) := by decide +kernel
theorem dX0_copyFrom_35 : decode cX0_copyFrom 35 = .ok (.invokevirtual 39, 3) := by decide +kernel
theorem dX0_copyFrom_38 : decode cX0_copyFrom 38 = .ok (.aload_n 0, 1) := by decide +kernel
theorem dX0_copyFrom_39 : decode cX0_copyFrom 39 = .ok (.getfield 30, 3) := by decide +kernel
theorem dX0_copyFrom_42 : decode cX0_copyFrom 42 = .ok (.aload_n 1, 1) := by decide +kernel
theorem dX0_copyFrom_43 : decode cX0_copyFrom 43 = .ok (.getfield 30, 3) := by decide +kernel
theorem dX0_copyFrom_46 : decode cX0_copyFrom 46 = .ok (.invokevirtual 39, 3) := by decide +kernel
theorem dX0_copyFrom_49 : decode cX0_copyFrom 49 = .ok (.aload_n 0, 1) := by decide +kernel
theorem dX0_copyFrom_50 : decode cX0_copyFrom 50 = .ok (.getfield 33, 3) := by decide +kernel
theorem dX0_copyFrom_53 : decode cX0_copyFrom 53 = .ok (.aload_n 1, 1) := by decide +kernel
theorem dX0_copyFrom_54 : decode cX0_copyFrom 54 = .ok (.getfield 33, 3) := by decide +kernel
theorem dX0_copyFrom_57 : decode cX0_copyFrom 57 = .ok (.invokevirtual 39, 3) := by decide +kernel
theorem dX0_copyFrom_60 : decode cX0_copyFrom 60 = .ok (.return_, 1) := by decide +kernel
theorem dX0_hasPlace_0 : decode cX0_hasPlace 0 = .ok (.iload_n 1, 1) := by decide +kernel
theorem dX0_hasPlace_1 : decode cX0_hasPlace 1 = .ok (.ifCond .lt 21, 3) := by decide +kernel
theorem dX0_hasPlace_4 : decode cX0_hasPlace 4 = .ok (.iload_n 1, 1) := by decide +kernel
theorem dX0_hasPlace_5 : decode cX0_hasPlace 5 = .ok (.aload_n 0, 1) := by decide +kernel
theorem dX0_hasPlace_6 : decode cX0_hasPlace 6 = .ok (.getfield 9, 3) := by decide +kernel
theorem dX0_hasPlace_9 : decode cX0_hasPlace 9 = .ok (.if_icmp .gt 13, 3) := by decide +kernel
theorem dX0_hasPlace_12 : decode cX0_hasPlace 12 = .ok (.iload_n 1, 1) := by decide +kernel
theorem dX0_hasPlace_13 : decode cX0_hasPlace 13 = .ok (.bipush 31, 2) := by decide +kernel
theorem dX0_hasPlace_15 : decode cX0_hasPlace 15 = .ok (.if_icmp .ge 7, 3) := by decide +kernel
theorem dX0_hasPlace_18 : decode cX0_hasPlace 18 = .ok (.iconst 1, 1) := by decide +kernel
theorem dX0_hasPlace_19 : decode cX0_hasPlace 19 = .ok (.goto 4, 3) := by decide +kernel
theorem dX0_hasPlace_22 : decode cX0_hasPlace 22 = .ok (.iconst 0, 1) := by decide +kernel
theorem dX0_hasPlace_23 : decode cX0_hasPlace 23 = .ok (.ireturn, 1) := by decide +kernel
set_option maxRecDepth 20000 in
theorem ggX0_isTaken_X6_holdsFirst : GoodIn wsX0_isTaken wsX6_holdsFirst := goodIn_r _ [7, 8, 9, 16, 17, 18] (by decide +kernel) (by decide +kernel)
set_option maxRecDepth 20000 in
theorem gX0_isTaken_X6_holdsFirst : GoodIn wsX0_isTaken (wsV RX0 43 RX6 yX6_holdsFirst wsX6_holdsFirst) := goodIn_app (goodIn_of _ (by decide +kernel)) ggX0_isTaken_X6_holdsFirst
theorem dX0_isTaken_0 : decode cX0_isTaken 0 = .ok (.aload_n 0, 1) := by decide +kernel
theorem dX0_isTaken_1 : decode cX0_isTaken 1 = .ok (.getfield 23, 3) := by decide +kernel
theorem dX0_isTaken_4 : decode cX0_isTaken 4 = .ok (.iload_n 1, 1) := by decide +kernel
theorem dX0_isTaken_5 : decode cX0_isTaken 5 = .ok (.invokevirtual 43, 3) := by decide +kernel
theorem dX0_isTaken_8 : decode cX0_isTaken 8 = .ok (.ifCond .ne 14, 3) := by decide +kernel
theorem dX0_isTaken_11 : decode cX0_isTaken 11 = .ok (.aload_n 0, 1) := by decide +kernel
theorem dX0_isTaken_12 : decode cX0_isTaken 12 = .ok (.getfield 27, 3) := by decide +kernel
theorem dX0_isTaken_15 : decode cX0_isTaken 15 = .ok (.iload_n 1, 1) := by decide +kernel
theorem dX0_isTaken_16 : decode cX0_isTaken 16 = .ok (.invokevirtual 43, 3) := by decide +kernel
theorem dX0_isTaken_19 : decode cX0_isTaken 19 = .ok (.ifCond .eq 7, 3) := by decide +kernel
theorem dX0_isTaken_22 : decode cX0_isTaken 22 = .ok (.iconst 1, 1) := by decide +kernel
theorem dX0_isTaken_23 : decode cX0_isTaken 23 = .ok (.goto 4, 3) := by decide +kernel
theorem dX0_isTaken_26 : decode cX0_isTaken 26 = .ok (.iconst 0, 1) := by decide +kernel
theorem dX0_isTaken_27 : decode cX0_isTaken 27 = .ok (.ireturn, 1) := by decide +kernel
set_option maxRecDepth 20000 in
theorem ggX0_lastHead_X6_greatestSecond : GoodIn wsX0_lastHead wsX6_greatestSecond := goodIn_r _ [8, 9, 10, 11, 12, 13, 14, 15, 16, 7, 17, 18, 19, 20, 21, 22, 23, 30, 31, 32] (by decide +kernel) (by decide +kernel)
set_option maxRecDepth 20000 in
theorem gX0_lastHead_X6_greatestSecond : GoodIn wsX0_lastHead (wsV RX0 47 RX6 yX6_greatestSecond wsX6_greatestSecond) := goodIn_app (goodIn_of _ (by decide +kernel)) ggX0_lastHead_X6_greatestSecond
theorem dX0_lastHead_0 : decode cX0_lastHead 0 = .ok (.aload_n 0, 1) := by decide +kernel
theorem dX0_lastHead_1 : decode cX0_lastHead 1 = .ok (.getfield 33, 3) := by decide +kernel
theorem dX0_lastHead_4 : decode cX0_lastHead 4 = .ok (.getfield 36, 3) := by decide +kernel
theorem dX0_lastHead_7 : decode cX0_lastHead 7 = .ok (.ifCond .ne 7, 3) := by decide +kernel
theorem dX0_lastHead_10 : decode cX0_lastHead 10 = .ok (.iconst 0, 1) := by decide +kernel
theorem dX0_lastHead_11 : decode cX0_lastHead 11 = .ok (.goto 15, 3) := by decide +kernel
theorem dX0_lastHead_14 : decode cX0_lastHead 14 = .ok (.aload_n 0, 1) := by decide +kernel
theorem dX0_lastHead_15 : decode cX0_lastHead 15 = .ok (.getfield 9, 3) := by decide +kernel
theorem dX0_lastHead_18 : decode cX0_lastHead 18 = .ok (.aload_n 0, 1) := by decide +kernel
theorem dX0_lastHead_19 : decode cX0_lastHead 19 = .ok (.getfield 33, 3) := by decide +kernel
theorem dX0_lastHead_22 : decode cX0_lastHead 22 = .ok (.invokevirtual 47, 3) := by decide +kernel
theorem dX0_lastHead_25 : decode cX0_lastHead 25 = .ok (.iadd, 1) := by decide +kernel
theorem dX0_lastHead_26 : decode cX0_lastHead 26 = .ok (.ireturn, 1) := by decide +kernel
set_option maxRecDepth 20000 in
theorem ggX0_signAt_X6_holdsFirst : GoodIn wsX0_signAt wsX6_holdsFirst := goodIn_r _ [8, 9, 10, 22, 23, 24] (by decide +kernel) (by decide +kernel)
set_option maxRecDepth 20000 in
theorem gX0_signAt_X6_holdsFirst : GoodIn wsX0_signAt (wsV RX0 43 RX6 yX6_holdsFirst wsX6_holdsFirst) := goodIn_app (goodIn_of _ (by decide +kernel)) ggX0_signAt_X6_holdsFirst
set_option maxRecDepth 20000 in
theorem ggX0_signAt_X6_holdsSecond : GoodIn wsX0_signAt wsX6_holdsSecond := goodIn_r _ [14, 9, 15, 22, 23, 24] (by decide +kernel) (by decide +kernel)
set_option maxRecDepth 20000 in
theorem gX0_signAt_X6_holdsSecond : GoodIn wsX0_signAt (wsV RX0 51 RX6 yX6_holdsSecond wsX6_holdsSecond) := goodIn_app (goodIn_of _ (by decide +kernel)) ggX0_signAt_X6_holdsSecond
theorem dX0_signAt_0 : decode cX0_signAt 0 = .ok (.aload_n 0, 1) := by decide +kernel
theorem dX0_signAt_1 : decode cX0_signAt 1 = .ok (.getfield 23, 3) := by decide +kernel
theorem dX0_signAt_4 : decode cX0_signAt 4 = .ok (.iload_n 1, 1) := by decide +kernel
theorem dX0_signAt_5 : decode cX0_signAt 5 = .ok (.invokevirtual 43, 3) := by decide +kernel
theorem dX0_signAt_8 : decode cX0_signAt 8 = .ok (.ifCond .eq 6, 3) := by decide +kernel
theorem dX0_signAt_11 : decode cX0_signAt 11 = .ok (.bipush 94, 2) := by decide +kernel
theorem dX0_signAt_13 : decode cX0_signAt 13 = .ok (.ireturn, 1) := by decide +kernel
theorem dX0_signAt_14 : decode cX0_signAt 14 = .ok (.aload_n 0, 1) := by decide +kernel
theorem dX0_signAt_15 : decode cX0_signAt 15 = .ok (.getfield 27, 3) := by decide +kernel
theorem dX0_signAt_18 : decode cX0_signAt 18 = .ok (.iload_n 1, 1) := by decide +kernel
theorem dX0_signAt_19 : decode cX0_signAt 19 = .ok (.invokevirtual 43, 3) := by decide +kernel
theorem dX0_signAt_22 : decode cX0_signAt 22 = .ok (.ifCond .eq 6, 3) := by decide +kernel
theorem dX0_signAt_25 : decode cX0_signAt 25 = .ok (.bipush 111, 2) := by decide +kernel
theorem dX0_signAt_27 : decode cX0_signAt 27 = .ok (.ireturn, 1) := by decide +kernel
theorem dX0_signAt_28 : decode cX0_signAt 28 = .ok (.aload_n 0, 1) := by decide +kernel
theorem dX0_signAt_29 : decode cX0_signAt 29 = .ok (.getfield 30, 3) := by decide +kernel
theorem dX0_signAt_32 : decode cX0_signAt 32 = .ok (.iload_n 1, 1) := by decide +kernel
theorem dX0_signAt_33 : decode cX0_signAt 33 = .ok (.invokevirtual 51, 3) := by decide +kernel
theorem dX0_signAt_36 : decode cX0_signAt 36 = .ok (.ifCond .eq 8, 3) := by decide +kernel
theorem dX0_signAt_39 : decode cX0_signAt 39 = .ok (.bipush 118, 2) := by decide +kernel
theorem dX0_signAt_41 : decode cX0_signAt 41 = .ok (.goto 5, 3) := by decide +kernel
theorem dX0_signAt_44 : decode cX0_signAt 44 = .ok (.bipush 45, 2) := by decide +kernel
theorem dX0_signAt_46 : decode cX0_signAt 46 = .ok (.ireturn, 1) := by decide +kernel
theorem dX1_init_0 : decode cX1_init 0 = .ok (.aload_n 0, 1) := by decide +kernel
theorem dX1_init_1 : decode cX1_init 1 = .ok (.invokespecial 3, 3) := by decide +kernel
theorem dX1_init_4 : decode cX1_init 4 = .ok (.aload_n 0, 1) := by decide +kernel
theorem dX1_init_5 : decode cX1_init 5 = .ok (.bipush 31, 2) := by decide +kernel
theorem dX1_init_7 : decode cX1_init 7 = .ok (.newarray .int, 2) := by decide +kernel
theorem dX1_init_9 : decode cX1_init 9 = .ok (.putfield 9, 3) := by decide +kernel
theorem dX1_init_12 : decode cX1_init 12 = .ok (.aload_n 0, 1) := by decide +kernel
theorem dX1_init_13 : decode cX1_init 13 = .ok (.iconst 5, 1) := by decide +kernel
theorem dX1_init_14 : decode cX1_init 14 = .ok (.newarray .long, 2) := by decide +kernel
theorem dX1_init_16 : decode cX1_init 16 = .ok (.putfield 15, 3) := by decide +kernel
theorem dX1_init_19 : decode cX1_init 19 = .ok (.aload_n 0, 1) := by decide +kernel
theorem dX1_init_20 : decode cX1_init 20 = .ok (.bipush 31, 2) := by decide +kernel
theorem dX1_init_22 : decode cX1_init 22 = .ok (.newarray .long, 2) := by decide +kernel
theorem dX1_init_24 : decode cX1_init 24 = .ok (.putfield 19, 3) := by decide +kernel
theorem dX1_init_27 : decode cX1_init 27 = .ok (.aload_n 0, 1) := by decide +kernel
theorem dX1_init_28 : decode cX1_init 28 = .ok (.bipush 31, 2) := by decide +kernel
theorem dX1_init_30 : decode cX1_init 30 = .ok (.newarray .long, 2) := by decide +kernel
theorem dX1_init_32 : decode cX1_init 32 = .ok (.putfield 22, 3) := by decide +kernel
theorem dX1_init_35 : decode cX1_init 35 = .ok (.aload_n 0, 1) := by decide +kernel
theorem dX1_init_36 : decode cX1_init 36 = .ok (.iconst 0, 1) := by decide +kernel
theorem dX1_init_37 : decode cX1_init 37 = .ok (.putfield 25, 3) := by decide +kernel
theorem dX1_init_40 : decode cX1_init 40 = .ok (.return_, 1) := by decide +kernel
set_option maxRecDepth 20000 in
theorem ggX1_underOne_X1_liftAll : GoodIn wsX1_underOne wsX1_liftAll := goodIn_r _ [5, 6, 7, 8, 61, 62, 63, 64, 65] (by decide +kernel) (by decide +kernel)
set_option maxRecDepth 20000 in
theorem gX1_underOne_X1_liftAll : GoodIn wsX1_underOne (wsV RX1 29 RX1 yX1_liftAll wsX1_liftAll) := goodIn_app (goodIn_of _ (by decide +kernel)) ggX1_underOne_X1_liftAll
set_option maxRecDepth 20000 in
theorem ggX1_underOne_X1_press : GoodIn wsX1_underOne wsX1_press := goodIn_r _ [12, 6, 8, 13, 14, 15, 16, 17, 18, 61, 62, 63, 64, 65, 66, 67, 68, 69, 70, 71] (by decide +kernel) (by decide +kernel)
set_option maxRecDepth 20000 in
theorem gX1_underOne_X1_press : GoodIn wsX1_underOne (wsV RX1 32 RX1 yX1_press wsX1_press) := goodIn_app (goodIn_of _ (by decide +kernel)) ggX1_underOne_X1_press
set_option maxRecDepth 20000 in
theorem ggX1_underOne_X1_balance : GoodIn wsX1_underOne wsX1_balance := goodIn_r _ [22, 6, 23, 24, 25, 26, 4, 27, 7, 28, 29, 30, 31, 32, 33, 34, 35, 36, 37, 38, 39, 40, 41, 42, 43, 44, 45, 46, 47, 48, 49, 50, 51, 52, 53, 54, 55, 56, 57, 58, 59, 60, 61, 62, 63, 64, 65, 72, 73, 74, 75, 76, 66, 67, 68, 69, 70, 71, 77, 78, 79] (by decide +kernel) (by decide +kernel)
set_option maxRecDepth 20000 in
theorem gX1_underOne_X1_balance : GoodIn wsX1_underOne (wsV RX1 36 RX1 yX1_balance wsX1_balance) := goodIn_app (goodIn_of _ (by decide +kernel)) ggX1_underOne_X1_balance
theorem dX1_underOne_0 : decode cX1_underOne 0 = .ok (.aload_n 0, 1) := by decide +kernel
theorem dX1_underOne_1 : decode cX1_underOne 1 = .ok (.invokevirtual 29, 3) := by decide +kernel
theorem dX1_underOne_4 : decode cX1_underOne 4 = .ok (.aload_n 0, 1) := by decide +kernel
theorem dX1_underOne_5 : decode cX1_underOne 5 = .ok (.aload_n 1, 1) := by decide +kernel
theorem dX1_underOne_6 : decode cX1_underOne 6 = .ok (.iconst 1, 1) := by decide +kernel
theorem dX1_underOne_7 : decode cX1_underOne 7 = .ok (.iload_n 3, 1) := by decide +kernel
theorem dX1_underOne_8 : decode cX1_underOne 8 = .ok (.invokevirtual 32, 3) := by decide +kernel
theorem dX1_underOne_11 : decode cX1_underOne 11 = .ok (.aload_n 0, 1) := by decide +kernel
theorem dX1_underOne_12 : decode cX1_underOne 12 = .ok (.aload_n 1, 1) := by decide +kernel
theorem dX1_underOne_13 : decode cX1_underOne 13 = .ok (.aload_n 2, 1) := by decide +kernel
theorem dX1_underOne_14 : decode cX1_underOne 14 = .ok (.invokevirtual 36, 3) := by decide +kernel
theorem dX1_underOne_17 : decode cX1_underOne 17 = .ok (.return_, 1) := by decide +kernel
set_option maxRecDepth 20000 in
theorem ggX1_underAll_X1_liftAll : GoodIn wsX1_underAll wsX1_liftAll := goodIn_r _ [7, 8, 9, 10, 81, 82, 83, 84, 85] (by decide +kernel) (by decide +kernel)
set_option maxRecDepth 20000 in
theorem gX1_underAll_X1_liftAll : GoodIn wsX1_underAll (wsV RX1 29 RX1 yX1_liftAll wsX1_liftAll) := goodIn_app (goodIn_of _ (by decide +kernel)) ggX1_underAll_X1_liftAll
set_option maxRecDepth 20000 in
theorem ggX1_underAll_X6_first : GoodIn wsX1_underAll wsX6_first := goodIn_r _ [15, 16, 17, 18, 19, 14, 20, 21, 22, 78, 79, 80] (by decide +kernel) (by decide +kernel)
set_option maxRecDepth 20000 in
theorem gX1_underAll_X6_first : GoodIn wsX1_underAll (wsV RX1 51 RX6 yX6_first wsX6_first) := goodIn_app (goodIn_of _ (by decide +kernel)) ggX1_underAll_X6_first
set_option maxRecDepth 20000 in
theorem ggX1_underAll_X6_second : GoodIn wsX1_underAll wsX6_second := goodIn_r _ [26, 22, 17, 18, 19, 14, 20, 21, 16, 78, 79, 80] (by decide +kernel) (by decide +kernel)
set_option maxRecDepth 20000 in
theorem gX1_underAll_X6_second : GoodIn wsX1_underAll (wsV RX1 55 RX6 yX6_second wsX6_second) := goodIn_app (goodIn_of _ (by decide +kernel)) ggX1_underAll_X6_second
set_option maxRecDepth 20000 in
theorem ggX1_underAll_X1_press : GoodIn wsX1_underAll wsX1_press := goodIn_r _ [30, 8, 10, 31, 32, 33, 34, 35, 36, 81, 82, 83, 84, 85, 72, 73, 74, 75, 76, 77] (by decide +kernel) (by decide +kernel)
set_option maxRecDepth 20000 in
theorem gX1_underAll_X1_press : GoodIn wsX1_underAll (wsV RX1 32 RX1 yX1_press wsX1_press) := goodIn_app (goodIn_of _ (by decide +kernel)) ggX1_underAll_X1_press
set_option maxRecDepth 20000 in
theorem ggX1_underAll_X1_pressAxles : GoodIn wsX1_underAll wsX1_pressAxles := goodIn_r _ [40, 41, 2, 11, 12, 13, 14, 15, 16, 17, 18, 19, 20, 21, 22, 23, 24, 25, 26, 27, 28, 29, 6, 30, 8, 10, 31, 32, 33, 34, 35, 36, 72, 73, 74, 75, 76, 77, 78, 79, 80, 81, 82, 83, 84, 85] (by decide +kernel) (by decide +kernel)
set_option maxRecDepth 20000 in
theorem gX1_underAll_X1_pressAxles : GoodIn wsX1_underAll (wsV RX1 58 RX1 yX1_pressAxles wsX1_pressAxles) := goodIn_app (goodIn_of _ (by decide +kernel)) ggX1_underAll_X1_pressAxles
set_option maxRecDepth 20000 in
theorem ggX1_underAll_X1_balance : GoodIn wsX1_underAll wsX1_balance := goodIn_r _ [45, 8, 46, 47, 48, 49, 6, 50, 9, 51, 52, 53, 54, 55, 56, 57, 58, 59, 60, 61, 62, 63, 64, 65, 66, 67, 18, 19, 14, 20, 21, 16, 22, 11, 12, 13, 15, 17, 68, 69, 70, 71, 81, 82, 83, 84, 85, 86, 87, 88, 89, 90, 72, 73, 74, 75, 76, 77, 78, 79, 80] (by decide +kernel) (by decide +kernel)
set_option maxRecDepth 20000 in
theorem gX1_underAll_X1_balance : GoodIn wsX1_underAll (wsV RX1 36 RX1 yX1_balance wsX1_balance) := goodIn_app (goodIn_of _ (by decide +kernel)) ggX1_underAll_X1_balance
theorem dX1_underAll_0 : decode cX1_underAll 0 = .ok (.aload_n 0, 1) := by decide +kernel
theorem dX1_underAll_1 : decode cX1_underAll 1 = .ok (.invokevirtual 29, 3) := by decide +kernel
theorem dX1_underAll_4 : decode cX1_underAll 4 = .ok (.iconst 0, 1) := by decide +kernel
theorem dX1_underAll_5 : decode cX1_underAll 5 = .ok (.istore 4, 2) := by decide +kernel
theorem dX1_underAll_7 : decode cX1_underAll 7 = .ok (.iload 4, 2) := by decide +kernel
theorem dX1_underAll_9 : decode cX1_underAll 9 = .ok (.aload_n 1, 1) := by decide +kernel
theorem dX1_underAll_10 : decode cX1_underAll 10 = .ok (.getfield 40, 3) := by decide +kernel
theorem dX1_underAll_13 : decode cX1_underAll 13 = .ok (.getfield 46, 3) := by decide +kernel
theorem dX1_underAll_16 : decode cX1_underAll 16 = .ok (.if_icmp .ge 32, 3) := by decide +kernel
theorem dX1_underAll_19 : decode cX1_underAll 19 = .ok (.aload_n 0, 1) := by decide +kernel
theorem dX1_underAll_20 : decode cX1_underAll 20 = .ok (.aload_n 1, 1) := by decide +kernel
theorem dX1_underAll_21 : decode cX1_underAll 21 = .ok (.aload_n 1, 1) := by decide +kernel
theorem dX1_underAll_22 : decode cX1_underAll 22 = .ok (.getfield 40, 3) := by decide +kernel
theorem dX1_underAll_25 : decode cX1_underAll 25 = .ok (.iload 4, 2) := by decide +kernel
theorem dX1_underAll_27 : decode cX1_underAll 27 = .ok (.invokevirtual 51, 3) := by decide +kernel
theorem dX1_underAll_30 : decode cX1_underAll 30 = .ok (.aload_n 1, 1) := by decide +kernel
theorem dX1_underAll_31 : decode cX1_underAll 31 = .ok (.getfield 40, 3) := by decide +kernel
theorem dX1_underAll_34 : decode cX1_underAll 34 = .ok (.iload 4, 2) := by decide +kernel
theorem dX1_underAll_36 : decode cX1_underAll 36 = .ok (.invokevirtual 55, 3) := by decide +kernel
theorem dX1_underAll_39 : decode cX1_underAll 39 = .ok (.invokevirtual 32, 3) := by decide +kernel
theorem dX1_underAll_42 : decode cX1_underAll 42 = .ok (.iinc 4 1, 3) := by decide +kernel
theorem dX1_underAll_45 : decode cX1_underAll 45 = .ok (.goto (-38), 3) := by decide +kernel
theorem dX1_underAll_48 : decode cX1_underAll 48 = .ok (.iload_n 3, 1) := by decide +kernel
theorem dX1_underAll_49 : decode cX1_underAll 49 = .ok (.iconst (-1), 1) := by decide +kernel
theorem dX1_underAll_50 : decode cX1_underAll 50 = .ok (.if_icmp .eq 9, 3) := by decide +kernel
theorem dX1_underAll_53 : decode cX1_underAll 53 = .ok (.aload_n 0, 1) := by decide +kernel
theorem dX1_underAll_54 : decode cX1_underAll 54 = .ok (.aload_n 1, 1) := by decide +kernel
theorem dX1_underAll_55 : decode cX1_underAll 55 = .ok (.iload_n 3, 1) := by decide +kernel
theorem dX1_underAll_56 : decode cX1_underAll 56 = .ok (.invokevirtual 58, 3) := by decide +kernel
theorem dX1_underAll_59 : decode cX1_underAll 59 = .ok (.aload_n 0, 1) := by decide +kernel
theorem dX1_underAll_60 : decode cX1_underAll 60 = .ok (.aload_n 1, 1) := by decide +kernel
theorem dX1_underAll_61 : decode cX1_underAll 61 = .ok (.aload_n 2, 1) := by decide +kernel
theorem dX1_underAll_62 : decode cX1_underAll 62 = .ok (.invokevirtual 36, 3) := by decide +kernel
theorem dX1_underAll_65 : decode cX1_underAll 65 = .ok (.return_, 1) := by decide +kernel
theorem dX1_reactionOf_0 : decode cX1_reactionOf 0 = .ok (.iload_n 1, 1) := by decide +kernel
theorem dX1_reactionOf_1 : decode cX1_reactionOf 1 = .ok (.ifCond .lt 17, 3) := by decide +kernel
theorem dX1_reactionOf_4 : decode cX1_reactionOf 4 = .ok (.iload_n 1, 1) := by decide +kernel
theorem dX1_reactionOf_5 : decode cX1_reactionOf 5 = .ok (.iconst 5, 1) := by decide +kernel
theorem dX1_reactionOf_6 : decode cX1_reactionOf 6 = .ok (.if_icmp .ge 12, 3) := by decide +kernel
theorem dX1_reactionOf_9 : decode cX1_reactionOf 9 = .ok (.aload_n 0, 1) := by decide +kernel
theorem dX1_reactionOf_10 : decode cX1_reactionOf 10 = .ok (.getfield 15, 3) := by decide +kernel
theorem dX1_reactionOf_13 : decode cX1_reactionOf 13 = .ok (.iload_n 1, 1) := by decide +kernel
theorem dX1_reactionOf_14 : decode cX1_reactionOf 14 = .ok (.laload, 1) := by decide +kernel
theorem dX1_reactionOf_15 : decode cX1_reactionOf 15 = .ok (.goto 4, 3) := by decide +kernel
theorem dX1_reactionOf_18 : decode cX1_reactionOf 18 = .ok (.lconst 0, 1) := by decide +kernel
theorem dX1_reactionOf_19 : decode cX1_reactionOf 19 = .ok (.lreturn, 1) := by decide +kernel
theorem dX1_shearIn_0 : decode cX1_shearIn 0 = .ok (.iload_n 1, 1) := by decide +kernel
theorem dX1_shearIn_1 : decode cX1_shearIn 1 = .ok (.ifCond .lt 18, 3) := by decide +kernel
theorem dX1_shearIn_4 : decode cX1_shearIn 4 = .ok (.iload_n 1, 1) := by decide +kernel
theorem dX1_shearIn_5 : decode cX1_shearIn 5 = .ok (.bipush 31, 2) := by decide +kernel
theorem dX1_shearIn_7 : decode cX1_shearIn 7 = .ok (.if_icmp .ge 12, 3) := by decide +kernel
theorem dX1_shearIn_10 : decode cX1_shearIn 10 = .ok (.aload_n 0, 1) := by decide +kernel
theorem dX1_shearIn_11 : decode cX1_shearIn 11 = .ok (.getfield 19, 3) := by decide +kernel
theorem dX1_shearIn_14 : decode cX1_shearIn 14 = .ok (.iload_n 1, 1) := by decide +kernel
theorem dX1_shearIn_15 : decode cX1_shearIn 15 = .ok (.laload, 1) := by decide +kernel
theorem dX1_shearIn_16 : decode cX1_shearIn 16 = .ok (.goto 4, 3) := by decide +kernel
theorem dX1_shearIn_19 : decode cX1_shearIn 19 = .ok (.lconst 0, 1) := by decide +kernel
theorem dX1_shearIn_20 : decode cX1_shearIn 20 = .ok (.lreturn, 1) := by decide +kernel
theorem dX1_momentAt_0 : decode cX1_momentAt 0 = .ok (.iload_n 1, 1) := by decide +kernel
theorem dX1_momentAt_1 : decode cX1_momentAt 1 = .ok (.ifCond .lt 18, 3) := by decide +kernel
theorem dX1_momentAt_4 : decode cX1_momentAt 4 = .ok (.iload_n 1, 1) := by decide +kernel
theorem dX1_momentAt_5 : decode cX1_momentAt 5 = .ok (.bipush 31, 2) := by decide +kernel
theorem dX1_momentAt_7 : decode cX1_momentAt 7 = .ok (.if_icmp .ge 12, 3) := by decide +kernel
theorem dX1_momentAt_10 : decode cX1_momentAt 10 = .ok (.aload_n 0, 1) := by decide +kernel
theorem dX1_momentAt_11 : decode cX1_momentAt 11 = .ok (.getfield 22, 3) := by decide +kernel
theorem dX1_momentAt_14 : decode cX1_momentAt 14 = .ok (.iload_n 1, 1) := by decide +kernel
theorem dX1_momentAt_15 : decode cX1_momentAt 15 = .ok (.laload, 1) := by decide +kernel
theorem dX1_momentAt_16 : decode cX1_momentAt 16 = .ok (.goto 4, 3) := by decide +kernel
theorem dX1_momentAt_19 : decode cX1_momentAt 19 = .ok (.lconst 0, 1) := by decide +kernel
theorem dX1_momentAt_20 : decode cX1_momentAt 20 = .ok (.lreturn, 1) := by decide +kernel
set_option maxRecDepth 20000 in
theorem ggX1_ofKind_X1_reactionOf : GoodIn wsX1_ofKind wsX1_reactionOf := goodIn_r _ [5, 6, 17, 18, 19, 20, 21] (by decide +kernel) (by decide +kernel)
set_option maxRecDepth 20000 in
theorem gX1_ofKind_X1_reactionOf : GoodIn wsX1_ofKind (wsV RX1 62 RX1 yX1_reactionOf wsX1_reactionOf) := goodIn_app (goodIn_of _ (by decide +kernel)) ggX1_ofKind_X1_reactionOf
set_option maxRecDepth 20000 in
theorem ggX1_ofKind_X1_shearIn : GoodIn wsX1_ofKind wsX1_shearIn := goodIn_r _ [10, 11, 17, 18, 19, 20, 21] (by decide +kernel) (by decide +kernel)
set_option maxRecDepth 20000 in
theorem gX1_ofKind_X1_shearIn : GoodIn wsX1_ofKind (wsV RX1 66 RX1 yX1_shearIn wsX1_shearIn) := goodIn_app (goodIn_of _ (by decide +kernel)) ggX1_ofKind_X1_shearIn
set_option maxRecDepth 20000 in
theorem ggX1_ofKind_X1_momentAt : GoodIn wsX1_ofKind wsX1_momentAt := goodIn_r _ [15, 16, 17, 18, 19, 20, 21] (by decide +kernel) (by decide +kernel)
set_option maxRecDepth 20000 in
theorem gX1_ofKind_X1_momentAt : GoodIn wsX1_ofKind (wsV RX1 69 RX1 yX1_momentAt wsX1_momentAt) := goodIn_app (goodIn_of _ (by decide +kernel)) ggX1_ofKind_X1_momentAt
theorem dX1_ofKind_0 : decode cX1_ofKind 0 = .ok (.iload_n 1, 1) := by decide +kernel
theorem dX1_ofKind_1 : decode cX1_ofKind 1 = .ok (.ifCond .ne 9, 3) := by decide +kernel
theorem dX1_ofKind_4 : decode cX1_ofKind 4 = .ok (.aload_n 0, 1) := by decide +kernel
theorem dX1_ofKind_5 : decode cX1_ofKind 5 = .ok (.iload_n 2, 1) := by decide +kernel
theorem dX1_ofKind_6 : decode cX1_ofKind 6 = .ok (.invokevirtual 62, 3) := by decide +kernel
theorem dX1_ofKind_9 : decode cX1_ofKind 9 = .ok (.lreturn, 1) := by decide +kernel
theorem dX1_ofKind_10 : decode cX1_ofKind 10 = .ok (.iload_n 1, 1) := by decide +kernel
theorem dX1_ofKind_11 : decode cX1_ofKind 11 = .ok (.iconst 1, 1) := by decide +kernel
theorem dX1_ofKind_12 : decode cX1_ofKind 12 = .ok (.if_icmp .ne 11, 3) := by decide +kernel
theorem dX1_ofKind_15 : decode cX1_ofKind 15 = .ok (.aload_n 0, 1) := by decide +kernel
theorem dX1_ofKind_16 : decode cX1_ofKind 16 = .ok (.iload_n 2, 1) := by decide +kernel
theorem dX1_ofKind_17 : decode cX1_ofKind 17 = .ok (.invokevirtual 66, 3) := by decide +kernel
theorem dX1_ofKind_20 : decode cX1_ofKind 20 = .ok (.goto 8, 3) := by decide +kernel
theorem dX1_ofKind_23 : decode cX1_ofKind 23 = .ok (.aload_n 0, 1) := by decide +kernel
theorem dX1_ofKind_24 : decode cX1_ofKind 24 = .ok (.iload_n 2, 1) := by decide +kernel
theorem dX1_ofKind_25 : decode cX1_ofKind 25 = .ok (.invokevirtual 69, 3) := by decide +kernel
theorem dX1_ofKind_28 : decode cX1_ofKind 28 = .ok (.lreturn, 1) := by decide +kernel
theorem dX1_liftedSet_0 : decode cX1_liftedSet 0 = .ok (.iconst 0, 1) := by decide +kernel
theorem dX1_liftedSet_1 : decode cX1_liftedSet 1 = .ok (.istore_n 1, 1) := by decide +kernel
theorem dX1_liftedSet_2 : decode cX1_liftedSet 2 = .ok (.iconst 0, 1) := by decide +kernel
theorem dX1_liftedSet_3 : decode cX1_liftedSet 3 = .ok (.istore_n 2, 1) := by decide +kernel
theorem dX1_liftedSet_4 : decode cX1_liftedSet 4 = .ok (.iload_n 2, 1) := by decide +kernel
theorem dX1_liftedSet_5 : decode cX1_liftedSet 5 = .ok (.iconst 5, 1) := by decide +kernel
theorem dX1_liftedSet_6 : decode cX1_liftedSet 6 = .ok (.if_icmp .ge 26, 3) := by decide +kernel
theorem dX1_liftedSet_9 : decode cX1_liftedSet 9 = .ok (.aload_n 0, 1) := by decide +kernel
theorem dX1_liftedSet_10 : decode cX1_liftedSet 10 = .ok (.getfield 15, 3) := by decide +kernel
theorem dX1_liftedSet_13 : decode cX1_liftedSet 13 = .ok (.iload_n 2, 1) := by decide +kernel
theorem dX1_liftedSet_14 : decode cX1_liftedSet 14 = .ok (.laload, 1) := by decide +kernel
theorem dX1_liftedSet_15 : decode cX1_liftedSet 15 = .ok (.lconst 0, 1) := by decide +kernel
theorem dX1_liftedSet_16 : decode cX1_liftedSet 16 = .ok (.lcmp, 1) := by decide +kernel
theorem dX1_liftedSet_17 : decode cX1_liftedSet 17 = .ok (.ifCond .ge 9, 3) := by decide +kernel
theorem dX1_liftedSet_20 : decode cX1_liftedSet 20 = .ok (.iload_n 1, 1) := by decide +kernel
theorem dX1_liftedSet_21 : decode cX1_liftedSet 21 = .ok (.iconst 1, 1) := by decide +kernel
theorem dX1_liftedSet_22 : decode cX1_liftedSet 22 = .ok (.iload_n 2, 1) := by decide +kernel
theorem dX1_liftedSet_23 : decode cX1_liftedSet 23 = .ok (.ishl, 1) := by decide +kernel
theorem dX1_liftedSet_24 : decode cX1_liftedSet 24 = .ok (.ior, 1) := by decide +kernel
theorem dX1_liftedSet_25 : decode cX1_liftedSet 25 = .ok (.istore_n 1, 1) := by decide +kernel
theorem dX1_liftedSet_26 : decode cX1_liftedSet 26 = .ok (.iinc 2 1, 3) := by decide +kernel
theorem dX1_liftedSet_29 : decode cX1_liftedSet 29 = .ok (.goto (-25), 3) := by decide +kernel
theorem dX1_liftedSet_32 : decode cX1_liftedSet 32 = .ok (.iload_n 1, 1) := by decide +kernel
theorem dX1_liftedSet_33 : decode cX1_liftedSet 33 = .ok (.ireturn, 1) := by decide +kernel
set_option maxRecDepth 20000 in
theorem ggX1_firstReason_X1_liftedSet : GoodIn wsX1_firstReason wsX1_liftedSet := goodIn_r _ [5, 6, 45, 46, 47, 48, 49] (by decide +kernel) (by decide +kernel)
set_option maxRecDepth 20000 in
theorem gX1_firstReason_X1_liftedSet : GoodIn wsX1_firstReason (wsV RX1 72 RX1 yX1_liftedSet wsX1_liftedSet) := goodIn_app (goodIn_of _ (by decide +kernel)) ggX1_firstReason_X1_liftedSet
set_option maxRecDepth 20000 in
theorem ggX1_firstReason_X1_bearsTooMuch : GoodIn wsX1_firstReason wsX1_bearsTooMuch := goodIn_r _ [10, 11, 12, 13, 14, 15, 16, 17, 18, 19, 20, 21, 22, 23, 24, 25, 26, 27, 28, 4, 29, 6, 50, 51, 52, 53, 54, 55, 56, 57, 58, 59, 60, 61, 62, 63, 45, 46, 47, 48, 49] (by decide +kernel) (by decide +kernel)
set_option maxRecDepth 20000 in
theorem gX1_firstReason_X1_bearsTooMuch : GoodIn wsX1_firstReason (wsV RX1 76 RX1 yX1_bearsTooMuch wsX1_bearsTooMuch) := goodIn_app (goodIn_of _ (by decide +kernel)) ggX1_firstReason_X1_bearsTooMuch
set_option maxRecDepth 20000 in
theorem ggX1_firstReason_X1_bendsTooMuch : GoodIn wsX1_firstReason wsX1_bendsTooMuch := goodIn_r _ [33, 13, 34, 35, 36, 37, 38, 39, 40, 41, 42, 4, 43, 44, 59, 60, 61, 62, 63, 50, 51, 52, 53, 54, 55, 45, 46, 47, 48, 49] (by decide +kernel) (by decide +kernel)
set_option maxRecDepth 20000 in
theorem gX1_firstReason_X1_bendsTooMuch : GoodIn wsX1_firstReason (wsV RX1 80 RX1 yX1_bendsTooMuch wsX1_bendsTooMuch) := goodIn_app (goodIn_of _ (by decide +kernel)) ggX1_firstReason_X1_bendsTooMuch
theorem dX1_firstReason_0 : decode cX1_firstReason 0 = .ok (.aload_n 0, 1) := by decide +kernel
theorem dX1_firstReason_1 : decode cX1_firstReason 1 = .ok (.invokevirtual 72, 3) := by decide +kernel
theorem dX1_firstReason_4 : decode cX1_firstReason 4 = .ok (.ifCond .eq 5, 3) := by decide +kernel
theorem dX1_firstReason_7 : decode cX1_firstReason 7 = .ok (.iconst 1, 1) := by decide +kernel
theorem dX1_firstReason_8 : decode cX1_firstReason 8 = .ok (.ireturn, 1) := by decide +kernel
theorem dX1_firstReason_9 : decode cX1_firstReason 9 = .ok (.aload_n 0, 1) := by decide +kernel
theorem dX1_firstReason_10 : decode cX1_firstReason 10 = .ok (.aload_n 1, 1) := by decide +kernel
theorem dX1_firstReason_11 : decode cX1_firstReason 11 = .ok (.aload_n 2, 1) := by decide +kernel
theorem dX1_firstReason_12 : decode cX1_firstReason 12 = .ok (.invokevirtual 76, 3) := by decide +kernel
theorem dX1_firstReason_15 : decode cX1_firstReason 15 = .ok (.ifCond .eq 5, 3) := by decide +kernel
theorem dX1_firstReason_18 : decode cX1_firstReason 18 = .ok (.iconst 2, 1) := by decide +kernel
theorem dX1_firstReason_19 : decode cX1_firstReason 19 = .ok (.ireturn, 1) := by decide +kernel
theorem dX1_firstReason_20 : decode cX1_firstReason 20 = .ok (.aload_n 0, 1) := by decide +kernel
theorem dX1_firstReason_21 : decode cX1_firstReason 21 = .ok (.aload_n 1, 1) := by decide +kernel
theorem dX1_firstReason_22 : decode cX1_firstReason 22 = .ok (.aload_n 2, 1) := by decide +kernel
theorem dX1_firstReason_23 : decode cX1_firstReason 23 = .ok (.invokevirtual 80, 3) := by decide +kernel
theorem dX1_firstReason_26 : decode cX1_firstReason 26 = .ok (.ifCond .eq 7, 3) := by decide +kernel
theorem dX1_firstReason_29 : decode cX1_firstReason 29 = .ok (.iconst 3, 1) := by decide +kernel
theorem dX1_firstReason_30 : decode cX1_firstReason 30 = .ok (.goto 4, 3) := by decide +kernel
theorem dX1_firstReason_33 : decode cX1_firstReason 33 = .ok (.iconst 0, 1) := by decide +kernel
theorem dX1_firstReason_34 : decode cX1_firstReason 34 = .ok (.ireturn, 1) := by decide +kernel
set_option maxRecDepth 20000 in
theorem ggX1_bearsTooMuch_X6_second : GoodIn wsX1_bearsTooMuch wsX6_second := goodIn_r _ [8, 9, 10, 11, 12, 7, 13, 14, 15, 28, 29, 30] (by decide +kernel) (by decide +kernel)
set_option maxRecDepth 20000 in
theorem gX1_bearsTooMuch_X6_second : GoodIn wsX1_bearsTooMuch (wsV RX1 55 RX6 yX6_second wsX6_second) := goodIn_app (goodIn_of _ (by decide +kernel)) ggX1_bearsTooMuch_X6_second
set_option maxRecDepth 20000 in
theorem ggX1_bearsTooMuch_X1_reactionOf : GoodIn wsX1_bearsTooMuch wsX1_reactionOf := goodIn_r _ [20, 21, 36, 37, 38, 39, 40] (by decide +kernel) (by decide +kernel)
set_option maxRecDepth 20000 in
theorem gX1_bearsTooMuch_X1_reactionOf : GoodIn wsX1_bearsTooMuch (wsV RX1 62 RX1 yX1_reactionOf wsX1_reactionOf) := goodIn_app (goodIn_of _ (by decide +kernel)) ggX1_bearsTooMuch_X1_reactionOf
theorem dX1_bearsTooMuch_0 : decode cX1_bearsTooMuch 0 = .ok (.iconst 0, 1) := by decide +kernel
theorem dX1_bearsTooMuch_1 : decode cX1_bearsTooMuch 1 = .ok (.istore_n 3, 1) := by decide +kernel
theorem dX1_bearsTooMuch_2 : decode cX1_bearsTooMuch 2 = .ok (.iload_n 3, 1) := by decide +kernel
theorem dX1_bearsTooMuch_3 : decode cX1_bearsTooMuch 3 = .ok (.aload_n 1, 1) := by decide +kernel
theorem dX1_bearsTooMuch_4 : decode cX1_bearsTooMuch 4 = .ok (.getfield 83, 3) := by decide +kernel
theorem dX1_bearsTooMuch_7 : decode cX1_bearsTooMuch 7 = .ok (.getfield 46, 3) := by decide +kernel
theorem dX1_bearsTooMuch_10 : decode cX1_bearsTooMuch 10 = .ok (.if_icmp .ge 44, 3) := by decide +kernel
theorem dX1_bearsTooMuch_13 : decode cX1_bearsTooMuch 13 = .ok (.aload_n 1, 1) := by decide +kernel
theorem dX1_bearsTooMuch_14 : decode cX1_bearsTooMuch 14 = .ok (.getfield 83, 3) := by decide +kernel
theorem dX1_bearsTooMuch_17 : decode cX1_bearsTooMuch 17 = .ok (.iload_n 3, 1) := by decide +kernel
theorem dX1_bearsTooMuch_18 : decode cX1_bearsTooMuch 18 = .ok (.invokevirtual 55, 3) := by decide +kernel
theorem dX1_bearsTooMuch_21 : decode cX1_bearsTooMuch 21 = .ok (.istore 4, 2) := by decide +kernel
theorem dX1_bearsTooMuch_23 : decode cX1_bearsTooMuch 23 = .ok (.iload 4, 2) := by decide +kernel
theorem dX1_bearsTooMuch_25 : decode cX1_bearsTooMuch 25 = .ok (.iconst (-1), 1) := by decide +kernel
theorem dX1_bearsTooMuch_26 : decode cX1_bearsTooMuch 26 = .ok (.if_icmp .eq 22, 3) := by decide +kernel
theorem dX1_bearsTooMuch_29 : decode cX1_bearsTooMuch 29 = .ok (.aload_n 0, 1) := by decide +kernel
theorem dX1_bearsTooMuch_30 : decode cX1_bearsTooMuch 30 = .ok (.iload_n 3, 1) := by decide +kernel
theorem dX1_bearsTooMuch_31 : decode cX1_bearsTooMuch 31 = .ok (.invokevirtual 62, 3) := by decide +kernel
theorem dX1_bearsTooMuch_34 : decode cX1_bearsTooMuch 34 = .ok (.aload_n 2, 1) := by decide +kernel
theorem dX1_bearsTooMuch_35 : decode cX1_bearsTooMuch 35 = .ok (.getfield 86, 3) := by decide +kernel
theorem dX1_bearsTooMuch_38 : decode cX1_bearsTooMuch 38 = .ok (.iload 4, 2) := by decide +kernel
theorem dX1_bearsTooMuch_40 : decode cX1_bearsTooMuch 40 = .ok (.i2l, 1) := by decide +kernel
theorem dX1_bearsTooMuch_41 : decode cX1_bearsTooMuch 41 = .ok (.lmul, 1) := by decide +kernel
theorem dX1_bearsTooMuch_42 : decode cX1_bearsTooMuch 42 = .ok (.lcmp, 1) := by decide +kernel
theorem dX1_bearsTooMuch_43 : decode cX1_bearsTooMuch 43 = .ok (.ifCond .le 5, 3) := by decide +kernel
theorem dX1_bearsTooMuch_46 : decode cX1_bearsTooMuch 46 = .ok (.iconst 1, 1) := by decide +kernel
theorem dX1_bearsTooMuch_47 : decode cX1_bearsTooMuch 47 = .ok (.ireturn, 1) := by decide +kernel
theorem dX1_bearsTooMuch_48 : decode cX1_bearsTooMuch 48 = .ok (.iinc 3 1, 3) := by decide +kernel
theorem dX1_bearsTooMuch_51 : decode cX1_bearsTooMuch 51 = .ok (.goto (-49), 3) := by decide +kernel
theorem dX1_bearsTooMuch_54 : decode cX1_bearsTooMuch 54 = .ok (.iconst 0, 1) := by decide +kernel
theorem dX1_bearsTooMuch_55 : decode cX1_bearsTooMuch 55 = .ok (.ireturn, 1) := by decide +kernel
set_option maxRecDepth 20000 in
theorem ggX1_bendsTooMuch_X1_momentAt : GoodIn wsX1_bendsTooMuch wsX1_momentAt := goodIn_r _ [12, 13, 25, 26, 27, 28, 29] (by decide +kernel) (by decide +kernel)
set_option maxRecDepth 20000 in
theorem gX1_bendsTooMuch_X1_momentAt : GoodIn wsX1_bendsTooMuch (wsV RX1 69 RX1 yX1_momentAt wsX1_momentAt) := goodIn_app (goodIn_of _ (by decide +kernel)) ggX1_bendsTooMuch_X1_momentAt
theorem dX1_bendsTooMuch_0 : decode cX1_bendsTooMuch 0 = .ok (.aload_n 2, 1) := by decide +kernel
theorem dX1_bendsTooMuch_1 : decode cX1_bendsTooMuch 1 = .ok (.getfield 86, 3) := by decide +kernel
theorem dX1_bendsTooMuch_4 : decode cX1_bendsTooMuch 4 = .ok (.aload_n 1, 1) := by decide +kernel
theorem dX1_bendsTooMuch_5 : decode cX1_bendsTooMuch 5 = .ok (.getfield 92, 3) := by decide +kernel
theorem dX1_bendsTooMuch_8 : decode cX1_bendsTooMuch 8 = .ok (.i2l, 1) := by decide +kernel
theorem dX1_bendsTooMuch_9 : decode cX1_bendsTooMuch 9 = .ok (.lmul, 1) := by decide +kernel
theorem dX1_bendsTooMuch_10 : decode cX1_bendsTooMuch 10 = .ok (.lstore_n 3, 1) := by decide +kernel
theorem dX1_bendsTooMuch_11 : decode cX1_bendsTooMuch 11 = .ok (.iconst 0, 1) := by decide +kernel
theorem dX1_bendsTooMuch_12 : decode cX1_bendsTooMuch 12 = .ok (.istore 5, 2) := by decide +kernel
theorem dX1_bendsTooMuch_14 : decode cX1_bendsTooMuch 14 = .ok (.iload 5, 2) := by decide +kernel
theorem dX1_bendsTooMuch_16 : decode cX1_bendsTooMuch 16 = .ok (.aload_n 1, 1) := by decide +kernel
theorem dX1_bendsTooMuch_17 : decode cX1_bendsTooMuch 17 = .ok (.getfield 95, 3) := by decide +kernel
theorem dX1_bendsTooMuch_20 : decode cX1_bendsTooMuch 20 = .ok (.if_icmp .gt 25, 3) := by decide +kernel
theorem dX1_bendsTooMuch_23 : decode cX1_bendsTooMuch 23 = .ok (.aload_n 0, 1) := by decide +kernel
theorem dX1_bendsTooMuch_24 : decode cX1_bendsTooMuch 24 = .ok (.iload 5, 2) := by decide +kernel
theorem dX1_bendsTooMuch_26 : decode cX1_bendsTooMuch 26 = .ok (.invokevirtual 69, 3) := by decide +kernel
theorem dX1_bendsTooMuch_29 : decode cX1_bendsTooMuch 29 = .ok (.invokestatic 98, 3) := by decide +kernel
theorem dX1_bendsTooMuch_32 : decode cX1_bendsTooMuch 32 = .ok (.lload_n 3, 1) := by decide +kernel
theorem dX1_bendsTooMuch_33 : decode cX1_bendsTooMuch 33 = .ok (.lcmp, 1) := by decide +kernel
theorem dX1_bendsTooMuch_34 : decode cX1_bendsTooMuch 34 = .ok (.ifCond .le 5, 3) := by decide +kernel
theorem dX1_bendsTooMuch_37 : decode cX1_bendsTooMuch 37 = .ok (.iconst 1, 1) := by decide +kernel
theorem dX1_bendsTooMuch_38 : decode cX1_bendsTooMuch 38 = .ok (.ireturn, 1) := by decide +kernel
theorem dX1_bendsTooMuch_39 : decode cX1_bendsTooMuch 39 = .ok (.iinc 5 1, 3) := by decide +kernel
theorem dX1_bendsTooMuch_42 : decode cX1_bendsTooMuch 42 = .ok (.goto (-28), 3) := by decide +kernel
theorem dX1_bendsTooMuch_45 : decode cX1_bendsTooMuch 45 = .ok (.iconst 0, 1) := by decide +kernel
theorem dX1_bendsTooMuch_46 : decode cX1_bendsTooMuch 46 = .ok (.ireturn, 1) := by decide +kernel
theorem dX1_liftAll_0 : decode cX1_liftAll 0 = .ok (.iconst 0, 1) := by decide +kernel
theorem dX1_liftAll_1 : decode cX1_liftAll 1 = .ok (.istore_n 1, 1) := by decide +kernel
theorem dX1_liftAll_2 : decode cX1_liftAll 2 = .ok (.iload_n 1, 1) := by decide +kernel
theorem dX1_liftAll_3 : decode cX1_liftAll 3 = .ok (.bipush 31, 2) := by decide +kernel
theorem dX1_liftAll_5 : decode cX1_liftAll 5 = .ok (.if_icmp .ge 16, 3) := by decide +kernel
theorem dX1_liftAll_8 : decode cX1_liftAll 8 = .ok (.aload_n 0, 1) := by decide +kernel
theorem dX1_liftAll_9 : decode cX1_liftAll 9 = .ok (.getfield 9, 3) := by decide +kernel
theorem dX1_liftAll_12 : decode cX1_liftAll 12 = .ok (.iload_n 1, 1) := by decide +kernel
theorem dX1_liftAll_13 : decode cX1_liftAll 13 = .ok (.iconst 0, 1) := by decide +kernel
theorem dX1_liftAll_14 : decode cX1_liftAll 14 = .ok (.iastore, 1) := by decide +kernel
theorem dX1_liftAll_15 : decode cX1_liftAll 15 = .ok (.iinc 1 1, 3) := by decide +kernel
theorem dX1_liftAll_18 : decode cX1_liftAll 18 = .ok (.goto (-16), 3) := by decide +kernel
theorem dX1_liftAll_21 : decode cX1_liftAll 21 = .ok (.iconst 0, 1) := by decide +kernel
theorem dX1_liftAll_22 : decode cX1_liftAll 22 = .ok (.istore_n 1, 1) := by decide +kernel
theorem dX1_liftAll_23 : decode cX1_liftAll 23 = .ok (.iload_n 1, 1) := by decide +kernel
theorem dX1_liftAll_24 : decode cX1_liftAll 24 = .ok (.iconst 5, 1) := by decide +kernel
theorem dX1_liftAll_25 : decode cX1_liftAll 25 = .ok (.if_icmp .ge 16, 3) := by decide +kernel
theorem dX1_liftAll_28 : decode cX1_liftAll 28 = .ok (.aload_n 0, 1) := by decide +kernel
theorem dX1_liftAll_29 : decode cX1_liftAll 29 = .ok (.getfield 15, 3) := by decide +kernel
theorem dX1_liftAll_32 : decode cX1_liftAll 32 = .ok (.iload_n 1, 1) := by decide +kernel
theorem dX1_liftAll_33 : decode cX1_liftAll 33 = .ok (.lconst 0, 1) := by decide +kernel
theorem dX1_liftAll_34 : decode cX1_liftAll 34 = .ok (.lastore, 1) := by decide +kernel
theorem dX1_liftAll_35 : decode cX1_liftAll 35 = .ok (.iinc 1 1, 3) := by decide +kernel
theorem dX1_liftAll_38 : decode cX1_liftAll 38 = .ok (.goto (-15), 3) := by decide +kernel
theorem dX1_liftAll_41 : decode cX1_liftAll 41 = .ok (.aload_n 0, 1) := by decide +kernel
theorem dX1_liftAll_42 : decode cX1_liftAll 42 = .ok (.iconst 0, 1) := by decide +kernel
theorem dX1_liftAll_43 : decode cX1_liftAll 43 = .ok (.putfield 25, 3) := by decide +kernel
theorem dX1_liftAll_46 : decode cX1_liftAll 46 = .ok (.return_, 1) := by decide +kernel
set_option maxRecDepth 20000 in
theorem ggX1_press_X0_hasPlace : GoodIn wsX1_press wsX0_hasPlace := goodIn_r _ [7, 8, 14, 15, 16, 17, 18, 19] (by decide +kernel) (by decide +kernel)
set_option maxRecDepth 20000 in
theorem gX1_press_X0_hasPlace : GoodIn wsX1_press (wsV RX1 104 RX0 yX0_hasPlace wsX0_hasPlace) := goodIn_app (goodIn_of _ (by decide +kernel)) ggX1_press_X0_hasPlace
theorem dX1_press_0 : decode cX1_press 0 = .ok (.aload_n 1, 1) := by decide +kernel
theorem dX1_press_1 : decode cX1_press 1 = .ok (.iload_n 3, 1) := by decide +kernel
theorem dX1_press_2 : decode cX1_press 2 = .ok (.invokevirtual 104, 3) := by decide +kernel
theorem dX1_press_5 : decode cX1_press 5 = .ok (.ifCond .eq 23, 3) := by decide +kernel
theorem dX1_press_8 : decode cX1_press 8 = .ok (.aload_n 0, 1) := by decide +kernel
theorem dX1_press_9 : decode cX1_press 9 = .ok (.getfield 9, 3) := by decide +kernel
theorem dX1_press_12 : decode cX1_press 12 = .ok (.iload_n 3, 1) := by decide +kernel
theorem dX1_press_13 : decode cX1_press 13 = .ok (.dup2, 1) := by decide +kernel
theorem dX1_press_14 : decode cX1_press 14 = .ok (.iaload, 1) := by decide +kernel
theorem dX1_press_15 : decode cX1_press 15 = .ok (.iload_n 2, 1) := by decide +kernel
theorem dX1_press_16 : decode cX1_press 16 = .ok (.iadd, 1) := by decide +kernel
theorem dX1_press_17 : decode cX1_press 17 = .ok (.iastore, 1) := by decide +kernel
theorem dX1_press_18 : decode cX1_press 18 = .ok (.aload_n 0, 1) := by decide +kernel
theorem dX1_press_19 : decode cX1_press 19 = .ok (.dup, 1) := by decide +kernel
theorem dX1_press_20 : decode cX1_press 20 = .ok (.getfield 25, 3) := by decide +kernel
theorem dX1_press_23 : decode cX1_press 23 = .ok (.iload_n 2, 1) := by decide +kernel
theorem dX1_press_24 : decode cX1_press 24 = .ok (.iadd, 1) := by decide +kernel
theorem dX1_press_25 : decode cX1_press 25 = .ok (.putfield 25, 3) := by decide +kernel
theorem dX1_press_28 : decode cX1_press 28 = .ok (.return_, 1) := by decide +kernel
set_option maxRecDepth 20000 in
theorem ggX1_pressAxles_X6_first : GoodIn wsX1_pressAxles wsX6_first := goodIn_r _ [7, 8, 9, 10, 11, 6, 12, 13, 14, 38, 39, 40] (by decide +kernel) (by decide +kernel)
set_option maxRecDepth 20000 in
theorem gX1_pressAxles_X6_first : GoodIn wsX1_pressAxles (wsV RX1 51 RX6 yX6_first wsX6_first) := goodIn_app (goodIn_of _ (by decide +kernel)) ggX1_pressAxles_X6_first
set_option maxRecDepth 20000 in
theorem ggX1_pressAxles_X6_second : GoodIn wsX1_pressAxles wsX6_second := goodIn_r _ [18, 14, 9, 10, 11, 6, 12, 13, 8, 38, 39, 40] (by decide +kernel) (by decide +kernel)
set_option maxRecDepth 20000 in
theorem gX1_pressAxles_X6_second : GoodIn wsX1_pressAxles (wsV RX1 55 RX6 yX6_second wsX6_second) := goodIn_app (goodIn_of _ (by decide +kernel)) ggX1_pressAxles_X6_second
set_option maxRecDepth 20000 in
theorem ggX1_pressAxles_X1_press : GoodIn wsX1_pressAxles wsX1_press := goodIn_r _ [23, 24, 25, 26, 27, 28, 29, 30, 31, 41, 42, 43, 44, 45, 32, 33, 34, 35, 36, 37] (by decide +kernel) (by decide +kernel)
set_option maxRecDepth 20000 in
theorem gX1_pressAxles_X1_press : GoodIn wsX1_pressAxles (wsV RX1 32 RX1 yX1_press wsX1_press) := goodIn_app (goodIn_of _ (by decide +kernel)) ggX1_pressAxles_X1_press
theorem dX1_pressAxles_0 : decode cX1_pressAxles 0 = .ok (.iconst 0, 1) := by decide +kernel
theorem dX1_pressAxles_1 : decode cX1_pressAxles 1 = .ok (.istore_n 3, 1) := by decide +kernel
theorem dX1_pressAxles_2 : decode cX1_pressAxles 2 = .ok (.iload_n 3, 1) := by decide +kernel
theorem dX1_pressAxles_3 : decode cX1_pressAxles 3 = .ok (.aload_n 1, 1) := by decide +kernel
theorem dX1_pressAxles_4 : decode cX1_pressAxles 4 = .ok (.getfield 108, 3) := by decide +kernel
theorem dX1_pressAxles_7 : decode cX1_pressAxles 7 = .ok (.getfield 46, 3) := by decide +kernel
theorem dX1_pressAxles_10 : decode cX1_pressAxles 10 = .ok (.if_icmp .ge 32, 3) := by decide +kernel
theorem dX1_pressAxles_13 : decode cX1_pressAxles 13 = .ok (.aload_n 0, 1) := by decide +kernel
theorem dX1_pressAxles_14 : decode cX1_pressAxles 14 = .ok (.aload_n 1, 1) := by decide +kernel
theorem dX1_pressAxles_15 : decode cX1_pressAxles 15 = .ok (.aload_n 1, 1) := by decide +kernel
theorem dX1_pressAxles_16 : decode cX1_pressAxles 16 = .ok (.getfield 108, 3) := by decide +kernel
theorem dX1_pressAxles_19 : decode cX1_pressAxles 19 = .ok (.iload_n 3, 1) := by decide +kernel
theorem dX1_pressAxles_20 : decode cX1_pressAxles 20 = .ok (.invokevirtual 51, 3) := by decide +kernel
theorem dX1_pressAxles_23 : decode cX1_pressAxles 23 = .ok (.iload_n 2, 1) := by decide +kernel
theorem dX1_pressAxles_24 : decode cX1_pressAxles 24 = .ok (.aload_n 1, 1) := by decide +kernel
theorem dX1_pressAxles_25 : decode cX1_pressAxles 25 = .ok (.getfield 108, 3) := by decide +kernel
theorem dX1_pressAxles_28 : decode cX1_pressAxles 28 = .ok (.iload_n 3, 1) := by decide +kernel
theorem dX1_pressAxles_29 : decode cX1_pressAxles 29 = .ok (.invokevirtual 55, 3) := by decide +kernel
theorem dX1_pressAxles_32 : decode cX1_pressAxles 32 = .ok (.isub, 1) := by decide +kernel
theorem dX1_pressAxles_33 : decode cX1_pressAxles 33 = .ok (.invokevirtual 32, 3) := by decide +kernel
theorem dX1_pressAxles_36 : decode cX1_pressAxles 36 = .ok (.iinc 3 1, 3) := by decide +kernel
theorem dX1_pressAxles_39 : decode cX1_pressAxles 39 = .ok (.goto (-37), 3) := by decide +kernel
theorem dX1_pressAxles_42 : decode cX1_pressAxles 42 = .ok (.return_, 1) := by decide +kernel
set_option maxRecDepth 20000 in
theorem ggX1_balance_X1_holdUp : GoodIn wsX1_balance wsX1_holdUp := goodIn_r _ [7, 8, 1, 9, 10, 11, 12, 13, 14, 15, 16, 42, 43, 44, 45, 46, 47, 48, 49, 50, 51] (by decide +kernel) (by decide +kernel)
set_option maxRecDepth 20000 in
theorem gX1_balance_X1_holdUp : GoodIn wsX1_balance (wsV RX1 111 RX1 yX1_holdUp wsX1_holdUp) := goodIn_app (goodIn_of _ (by decide +kernel)) ggX1_balance_X1_holdUp
set_option maxRecDepth 20000 in
theorem ggX1_balance_X1_sweep : GoodIn wsX1_balance wsX1_sweep := goodIn_r _ [20, 21, 22, 1, 23, 24, 25, 26, 27, 28, 29, 30, 31, 32, 33, 34, 35, 36, 37, 38, 39, 40, 6, 41, 8, 52, 53, 54, 55, 56, 57, 42, 43, 44, 45, 46, 58, 59, 60] (by decide +kernel) (by decide +kernel)
set_option maxRecDepth 20000 in
theorem gX1_balance_X1_sweep : GoodIn wsX1_balance (wsV RX1 115 RX1 yX1_sweep wsX1_sweep) := goodIn_app (goodIn_of _ (by decide +kernel)) ggX1_balance_X1_sweep
theorem dX1_balance_0 : decode cX1_balance 0 = .ok (.iconst 0, 1) := by decide +kernel
theorem dX1_balance_1 : decode cX1_balance 1 = .ok (.istore_n 3, 1) := by decide +kernel
theorem dX1_balance_2 : decode cX1_balance 2 = .ok (.iload_n 3, 1) := by decide +kernel
theorem dX1_balance_3 : decode cX1_balance 3 = .ok (.bipush 31, 2) := by decide +kernel
theorem dX1_balance_5 : decode cX1_balance 5 = .ok (.if_icmp .ge 24, 3) := by decide +kernel
theorem dX1_balance_8 : decode cX1_balance 8 = .ok (.aload_n 0, 1) := by decide +kernel
theorem dX1_balance_9 : decode cX1_balance 9 = .ok (.getfield 9, 3) := by decide +kernel
theorem dX1_balance_12 : decode cX1_balance 12 = .ok (.iload_n 3, 1) := by decide +kernel
theorem dX1_balance_13 : decode cX1_balance 13 = .ok (.iaload, 1) := by decide +kernel
theorem dX1_balance_14 : decode cX1_balance 14 = .ok (.ifCond .eq 9, 3) := by decide +kernel
theorem dX1_balance_17 : decode cX1_balance 17 = .ok (.aload_n 0, 1) := by decide +kernel
theorem dX1_balance_18 : decode cX1_balance 18 = .ok (.aload_n 2, 1) := by decide +kernel
theorem dX1_balance_19 : decode cX1_balance 19 = .ok (.iload_n 3, 1) := by decide +kernel
theorem dX1_balance_20 : decode cX1_balance 20 = .ok (.invokevirtual 111, 3) := by decide +kernel
theorem dX1_balance_23 : decode cX1_balance 23 = .ok (.iinc 3 1, 3) := by decide +kernel
theorem dX1_balance_26 : decode cX1_balance 26 = .ok (.goto (-24), 3) := by decide +kernel
theorem dX1_balance_29 : decode cX1_balance 29 = .ok (.aload_n 0, 1) := by decide +kernel
theorem dX1_balance_30 : decode cX1_balance 30 = .ok (.aload_n 1, 1) := by decide +kernel
theorem dX1_balance_31 : decode cX1_balance 31 = .ok (.aload_n 2, 1) := by decide +kernel
theorem dX1_balance_32 : decode cX1_balance 32 = .ok (.getfield 86, 3) := by decide +kernel
theorem dX1_balance_35 : decode cX1_balance 35 = .ok (.invokevirtual 115, 3) := by decide +kernel
theorem dX1_balance_38 : decode cX1_balance 38 = .ok (.return_, 1) := by decide +kernel
set_option maxRecDepth 20000 in
theorem ggX1_holdUp_X3_at : GoodIn wsX1_holdUp wsX3_at := goodIn_r _ [7, 8, 9, 10, 16, 17, 18, 19, 20] (by decide +kernel) (by decide +kernel)
set_option maxRecDepth 20000 in
theorem gX1_holdUp_X3_at : GoodIn wsX1_holdUp (wsV RX1 119 RX3 yX3_at wsX3_at) := goodIn_app (goodIn_of _ (by decide +kernel)) ggX1_holdUp_X3_at
theorem dX1_holdUp_0 : decode cX1_holdUp 0 = .ok (.iconst 0, 1) := by decide +kernel
theorem dX1_holdUp_1 : decode cX1_holdUp 1 = .ok (.istore_n 3, 1) := by decide +kernel
theorem dX1_holdUp_2 : decode cX1_holdUp 2 = .ok (.iload_n 3, 1) := by decide +kernel
theorem dX1_holdUp_3 : decode cX1_holdUp 3 = .ok (.iconst 5, 1) := by decide +kernel
theorem dX1_holdUp_4 : decode cX1_holdUp 4 = .ok (.if_icmp .ge 32, 3) := by decide +kernel
theorem dX1_holdUp_7 : decode cX1_holdUp 7 = .ok (.aload_n 0, 1) := by decide +kernel
theorem dX1_holdUp_8 : decode cX1_holdUp 8 = .ok (.getfield 15, 3) := by decide +kernel
theorem dX1_holdUp_11 : decode cX1_holdUp 11 = .ok (.iload_n 3, 1) := by decide +kernel
theorem dX1_holdUp_12 : decode cX1_holdUp 12 = .ok (.dup2, 1) := by decide +kernel
theorem dX1_holdUp_13 : decode cX1_holdUp 13 = .ok (.laload, 1) := by decide +kernel
theorem dX1_holdUp_14 : decode cX1_holdUp 14 = .ok (.aload_n 0, 1) := by decide +kernel
theorem dX1_holdUp_15 : decode cX1_holdUp 15 = .ok (.getfield 9, 3) := by decide +kernel
theorem dX1_holdUp_18 : decode cX1_holdUp 18 = .ok (.iload_n 2, 1) := by decide +kernel
theorem dX1_holdUp_19 : decode cX1_holdUp 19 = .ok (.iaload, 1) := by decide +kernel
theorem dX1_holdUp_20 : decode cX1_holdUp 20 = .ok (.i2l, 1) := by decide +kernel
theorem dX1_holdUp_21 : decode cX1_holdUp 21 = .ok (.aload_n 1, 1) := by decide +kernel
theorem dX1_holdUp_22 : decode cX1_holdUp 22 = .ok (.iload_n 3, 1) := by decide +kernel
theorem dX1_holdUp_23 : decode cX1_holdUp 23 = .ok (.iload_n 2, 1) := by decide +kernel
theorem dX1_holdUp_24 : decode cX1_holdUp 24 = .ok (.invokevirtual 119, 3) := by decide +kernel
theorem dX1_holdUp_27 : decode cX1_holdUp 27 = .ok (.lmul, 1) := by decide +kernel
theorem dX1_holdUp_28 : decode cX1_holdUp 28 = .ok (.ladd, 1) := by decide +kernel
theorem dX1_holdUp_29 : decode cX1_holdUp 29 = .ok (.lastore, 1) := by decide +kernel
theorem dX1_holdUp_30 : decode cX1_holdUp 30 = .ok (.iinc 3 1, 3) := by decide +kernel
theorem dX1_holdUp_33 : decode cX1_holdUp 33 = .ok (.goto (-31), 3) := by decide +kernel
theorem dX1_holdUp_36 : decode cX1_holdUp 36 = .ok (.return_, 1) := by decide +kernel
set_option maxRecDepth 20000 in
theorem ggX1_sweep_X6_has : GoodIn wsX1_sweep wsX6_has := goodIn_r _ [10, 11, 12, 13, 36, 37, 38] (by decide +kernel) (by decide +kernel)
set_option maxRecDepth 20000 in
theorem gX1_sweep_X6_has : GoodIn wsX1_sweep (wsV RX1 123 RX6 yX6_has wsX6_has) := goodIn_app (goodIn_of _ (by decide +kernel)) ggX1_sweep_X6_has
set_option maxRecDepth 20000 in
theorem ggX1_sweep_X6_first : GoodIn wsX1_sweep wsX6_first := goodIn_r _ [17, 12, 18, 7, 8, 9, 10, 11, 13, 36, 37, 38] (by decide +kernel) (by decide +kernel)
set_option maxRecDepth 20000 in
theorem gX1_sweep_X6_first : GoodIn wsX1_sweep (wsV RX1 51 RX6 yX6_first wsX6_first) := goodIn_app (goodIn_of _ (by decide +kernel)) ggX1_sweep_X6_first
set_option maxRecDepth 20000 in
theorem ggX1_sweep_X1_reactionOf : GoodIn wsX1_sweep wsX1_reactionOf := goodIn_r _ [23, 24, 31, 32, 33, 34, 35] (by decide +kernel) (by decide +kernel)
set_option maxRecDepth 20000 in
theorem gX1_sweep_X1_reactionOf : GoodIn wsX1_sweep (wsV RX1 62 RX1 yX1_reactionOf wsX1_reactionOf) := goodIn_app (goodIn_of _ (by decide +kernel)) ggX1_sweep_X1_reactionOf
theorem dX1_sweep_0 : decode cX1_sweep 0 = .ok (.lconst 0, 1) := by decide +kernel
theorem dX1_sweep_1 : decode cX1_sweep 1 = .ok (.lstore 4, 2) := by decide +kernel
theorem dX1_sweep_3 : decode cX1_sweep 3 = .ok (.lconst 0, 1) := by decide +kernel
theorem dX1_sweep_4 : decode cX1_sweep 4 = .ok (.lstore 6, 2) := by decide +kernel
theorem dX1_sweep_6 : decode cX1_sweep 6 = .ok (.iconst 0, 1) := by decide +kernel
theorem dX1_sweep_7 : decode cX1_sweep 7 = .ok (.istore 8, 2) := by decide +kernel
theorem dX1_sweep_9 : decode cX1_sweep 9 = .ok (.iconst 0, 1) := by decide +kernel
theorem dX1_sweep_10 : decode cX1_sweep 10 = .ok (.istore 9, 2) := by decide +kernel
theorem dX1_sweep_12 : decode cX1_sweep 12 = .ok (.iload 9, 2) := by decide +kernel
theorem dX1_sweep_14 : decode cX1_sweep 14 = .ok (.bipush 31, 2) := by decide +kernel
theorem dX1_sweep_16 : decode cX1_sweep 16 = .ok (.if_icmp .ge 98, 3) := by decide +kernel
theorem dX1_sweep_19 : decode cX1_sweep 19 = .ok (.iload 9, 2) := by decide +kernel
theorem dX1_sweep_21 : decode cX1_sweep 21 = .ok (.aload_n 1, 1) := by decide +kernel
theorem dX1_sweep_22 : decode cX1_sweep 22 = .ok (.getfield 95, 3) := by decide +kernel
theorem dX1_sweep_25 : decode cX1_sweep 25 = .ok (.if_icmp .gt 89, 3) := by decide +kernel
theorem dX1_sweep_28 : decode cX1_sweep 28 = .ok (.aload_n 1, 1) := by decide +kernel
theorem dX1_sweep_29 : decode cX1_sweep 29 = .ok (.getfield 83, 3) := by decide +kernel
theorem dX1_sweep_32 : decode cX1_sweep 32 = .ok (.iload 8, 2) := by decide +kernel
theorem dX1_sweep_34 : decode cX1_sweep 34 = .ok (.invokevirtual 123, 3) := by decide +kernel
theorem dX1_sweep_37 : decode cX1_sweep 37 = .ok (.ifCond .eq 31, 3) := by decide +kernel
theorem dX1_sweep_40 : decode cX1_sweep 40 = .ok (.aload_n 1, 1) := by decide +kernel
theorem dX1_sweep_41 : decode cX1_sweep 41 = .ok (.getfield 83, 3) := by decide +kernel
theorem dX1_sweep_44 : decode cX1_sweep 44 = .ok (.iload 8, 2) := by decide +kernel
theorem dX1_sweep_46 : decode cX1_sweep 46 = .ok (.invokevirtual 51, 3) := by decide +kernel
theorem dX1_sweep_49 : decode cX1_sweep 49 = .ok (.iload 9, 2) := by decide +kernel
theorem dX1_sweep_51 : decode cX1_sweep 51 = .ok (.if_icmp .ne 17, 3) := by decide +kernel
theorem dX1_sweep_54 : decode cX1_sweep 54 = .ok (.lload 4, 2) := by decide +kernel
theorem dX1_sweep_56 : decode cX1_sweep 56 = .ok (.aload_n 0, 1) := by decide +kernel
theorem dX1_sweep_57 : decode cX1_sweep 57 = .ok (.iload 8, 2) := by decide +kernel
theorem dX1_sweep_59 : decode cX1_sweep 59 = .ok (.invokevirtual 62, 3) := by decide +kernel
theorem dX1_sweep_62 : decode cX1_sweep 62 = .ok (.ladd, 1) := by decide +kernel
theorem dX1_sweep_63 : decode cX1_sweep 63 = .ok (.lstore 4, 2) := by decide +kernel
theorem dX1_sweep_65 : decode cX1_sweep 65 = .ok (.iinc 8 1, 3) := by decide +kernel
theorem dX1_sweep_68 : decode cX1_sweep 68 = .ok (.lload 4, 2) := by decide +kernel
theorem dX1_sweep_70 : decode cX1_sweep 70 = .ok (.aload_n 0, 1) := by decide +kernel
theorem dX1_sweep_71 : decode cX1_sweep 71 = .ok (.getfield 9, 3) := by decide +kernel
theorem dX1_sweep_74 : decode cX1_sweep 74 = .ok (.iload 9, 2) := by decide +kernel
theorem dX1_sweep_76 : decode cX1_sweep 76 = .ok (.iaload, 1) := by decide +kernel
theorem dX1_sweep_77 : decode cX1_sweep 77 = .ok (.i2l, 1) := by decide +kernel
theorem dX1_sweep_78 : decode cX1_sweep 78 = .ok (.lload_n 2, 1) := by decide +kernel
theorem dX1_sweep_79 : decode cX1_sweep 79 = .ok (.lmul, 1) := by decide +kernel
theorem dX1_sweep_80 : decode cX1_sweep 80 = .ok (.lsub, 1) := by decide +kernel
theorem dX1_sweep_81 : decode cX1_sweep 81 = .ok (.lstore 4, 2) := by decide +kernel
theorem dX1_sweep_83 : decode cX1_sweep 83 = .ok (.aload_n 0, 1) := by decide +kernel
theorem dX1_sweep_84 : decode cX1_sweep 84 = .ok (.getfield 22, 3) := by decide +kernel
theorem dX1_sweep_87 : decode cX1_sweep 87 = .ok (.iload 9, 2) := by decide +kernel
theorem dX1_sweep_89 : decode cX1_sweep 89 = .ok (.lload 6, 2) := by decide +kernel
theorem dX1_sweep_91 : decode cX1_sweep 91 = .ok (.lastore, 1) := by decide +kernel
theorem dX1_sweep_92 : decode cX1_sweep 92 = .ok (.aload_n 0, 1) := by decide +kernel
theorem dX1_sweep_93 : decode cX1_sweep 93 = .ok (.getfield 19, 3) := by decide +kernel
theorem dX1_sweep_96 : decode cX1_sweep 96 = .ok (.iload 9, 2) := by decide +kernel
theorem dX1_sweep_98 : decode cX1_sweep 98 = .ok (.lload 4, 2) := by decide +kernel
theorem dX1_sweep_100 : decode cX1_sweep 100 = .ok (.lastore, 1) := by decide +kernel
theorem dX1_sweep_101 : decode cX1_sweep 101 = .ok (.lload 6, 2) := by decide +kernel
theorem dX1_sweep_103 : decode cX1_sweep 103 = .ok (.lload 4, 2) := by decide +kernel
theorem dX1_sweep_105 : decode cX1_sweep 105 = .ok (.ladd, 1) := by decide +kernel
theorem dX1_sweep_106 : decode cX1_sweep 106 = .ok (.lstore 6, 2) := by decide +kernel
theorem dX1_sweep_108 : decode cX1_sweep 108 = .ok (.iinc 9 1, 3) := by decide +kernel
theorem dX1_sweep_111 : decode cX1_sweep 111 = .ok (.goto (-99), 3) := by decide +kernel
theorem dX1_sweep_114 : decode cX1_sweep 114 = .ok (.return_, 1) := by decide +kernel
set_option maxRecDepth 20000 in
theorem ggX2_init_X0_init : GoodIn wsX2_init wsX0_init := goodIn_r _ [10, 11, 2, 3, 12, 13, 14, 15, 16, 17, 18, 19, 20, 21, 22, 23, 24, 25, 26, 27, 28, 29, 30, 31, 32, 35, 36, 37, 38, 39, 40, 41, 42, 43] (by decide +kernel) (by decide +kernel)
set_option maxRecDepth 20000 in
theorem gX2_init_X0_init_n21 : GoodIn wsX2_init (wsX0_init) := ggX2_init_X0_init
theorem dX2_init_0 : decode cX2_init 0 = .ok (.aload_n 0, 1) := by decide +kernel
theorem dX2_init_1 : decode cX2_init 1 = .ok (.invokespecial 3, 3) := by decide +kernel
theorem dX2_init_4 : decode cX2_init 4 = .ok (.aload_n 0, 1) := by decide +kernel
theorem dX2_init_5 : decode cX2_init 5 = .ok (.bipush 8, 2) := by decide +kernel
theorem dX2_init_7 : decode cX2_init 7 = .ok (.anewarray 9, 3) := by decide +kernel
theorem dX2_init_10 : decode cX2_init 10 = .ok (.putfield 11, 3) := by decide +kernel
theorem dX2_init_13 : decode cX2_init 13 = .ok (.aload_n 0, 1) := by decide +kernel
theorem dX2_init_14 : decode cX2_init 14 = .ok (.iconst 0, 1) := by decide +kernel
theorem dX2_init_15 : decode cX2_init 15 = .ok (.putfield 17, 3) := by decide +kernel
theorem dX2_init_18 : decode cX2_init 18 = .ok (.iconst 0, 1) := by decide +kernel
theorem dX2_init_19 : decode cX2_init 19 = .ok (.istore_n 1, 1) := by decide +kernel
theorem dX2_init_20 : decode cX2_init 20 = .ok (.iload_n 1, 1) := by decide +kernel
theorem dX2_init_21 : decode cX2_init 21 = .ok (.bipush 8, 2) := by decide +kernel
theorem dX2_init_23 : decode cX2_init 23 = .ok (.if_icmp .ge 22, 3) := by decide +kernel
theorem dX2_init_26 : decode cX2_init 26 = .ok (.aload_n 0, 1) := by decide +kernel
theorem dX2_init_27 : decode cX2_init 27 = .ok (.getfield 11, 3) := by decide +kernel
theorem dX2_init_30 : decode cX2_init 30 = .ok (.iload_n 1, 1) := by decide +kernel
theorem dX2_init_31 : decode cX2_init 31 = .ok (.new 9, 3) := by decide +kernel
theorem dX2_init_34 : decode cX2_init 34 = .ok (.dup, 1) := by decide +kernel
theorem dX2_init_35 : decode cX2_init 35 = .ok (.invokespecial 21, 3) := by decide +kernel
theorem dX2_init_38 : decode cX2_init 38 = .ok (.aastore, 1) := by decide +kernel
theorem dX2_init_39 : decode cX2_init 39 = .ok (.iinc 1 1, 3) := by decide +kernel
theorem dX2_init_42 : decode cX2_init 42 = .ok (.goto (-22), 3) := by decide +kernel
theorem dX2_init_45 : decode cX2_init 45 = .ok (.return_, 1) := by decide +kernel
set_option maxRecDepth 20000 in
theorem ggX2_remember_X2_forgetOldest : GoodIn wsX2_remember wsX2_forgetOldest := goodIn_r _ [7, 2, 1, 43, 44] (by decide +kernel) (by decide +kernel)
set_option maxRecDepth 20000 in
theorem gX2_remember_X2_forgetOldest : GoodIn wsX2_remember (wsV RX2 22 RX2 yX2_forgetOldest wsX2_forgetOldest) := goodIn_app (goodIn_of _ (by decide +kernel)) ggX2_remember_X2_forgetOldest
set_option maxRecDepth 20000 in
theorem ggX2_remember_X0_copyFrom : GoodIn wsX2_remember wsX0_copyFrom := goodIn_r _ [12, 13, 14, 15, 16, 17, 18, 19, 20, 21, 22, 23, 24, 25, 26, 27, 28, 29, 30, 31, 32, 33, 34, 35, 36, 37, 38, 39, 40, 41, 42, 45, 46, 47, 48, 49, 50, 51, 52, 53] (by decide +kernel) (by decide +kernel)
set_option maxRecDepth 20000 in
theorem gX2_remember_X0_copyFrom : GoodIn wsX2_remember (wsV RX2 25 RX0 yX0_copyFrom wsX0_copyFrom) := goodIn_app (goodIn_of _ (by decide +kernel)) ggX2_remember_X0_copyFrom
theorem dX2_remember_0 : decode cX2_remember 0 = .ok (.aload_n 0, 1) := by decide +kernel
theorem dX2_remember_1 : decode cX2_remember 1 = .ok (.getfield 17, 3) := by decide +kernel
theorem dX2_remember_4 : decode cX2_remember 4 = .ok (.bipush 8, 2) := by decide +kernel
theorem dX2_remember_6 : decode cX2_remember 6 = .ok (.if_icmp .lt 7, 3) := by decide +kernel
theorem dX2_remember_9 : decode cX2_remember 9 = .ok (.aload_n 0, 1) := by decide +kernel
theorem dX2_remember_10 : decode cX2_remember 10 = .ok (.invokevirtual 22, 3) := by decide +kernel
theorem dX2_remember_13 : decode cX2_remember 13 = .ok (.aload_n 0, 1) := by decide +kernel
theorem dX2_remember_14 : decode cX2_remember 14 = .ok (.getfield 11, 3) := by decide +kernel
theorem dX2_remember_17 : decode cX2_remember 17 = .ok (.aload_n 0, 1) := by decide +kernel
theorem dX2_remember_18 : decode cX2_remember 18 = .ok (.getfield 17, 3) := by decide +kernel
theorem dX2_remember_21 : decode cX2_remember 21 = .ok (.aaload, 1) := by decide +kernel
theorem dX2_remember_22 : decode cX2_remember 22 = .ok (.aload_n 1, 1) := by decide +kernel
theorem dX2_remember_23 : decode cX2_remember 23 = .ok (.invokevirtual 25, 3) := by decide +kernel
theorem dX2_remember_26 : decode cX2_remember 26 = .ok (.aload_n 0, 1) := by decide +kernel
theorem dX2_remember_27 : decode cX2_remember 27 = .ok (.dup, 1) := by decide +kernel
theorem dX2_remember_28 : decode cX2_remember 28 = .ok (.getfield 17, 3) := by decide +kernel
theorem dX2_remember_31 : decode cX2_remember 31 = .ok (.iconst 1, 1) := by decide +kernel
theorem dX2_remember_32 : decode cX2_remember 32 = .ok (.iadd, 1) := by decide +kernel
theorem dX2_remember_33 : decode cX2_remember 33 = .ok (.putfield 17, 3) := by decide +kernel
theorem dX2_remember_36 : decode cX2_remember 36 = .ok (.return_, 1) := by decide +kernel
set_option maxRecDepth 20000 in
theorem ggX2_takeBack_X0_copyFrom : GoodIn wsX2_takeBack wsX0_copyFrom := goodIn_r _ [7, 8, 9, 10, 11, 12, 13, 14, 15, 16, 17, 18, 19, 20, 21, 22, 23, 24, 25, 26, 27, 28, 29, 30, 31, 32, 33, 34, 35, 36, 37, 40, 41, 42, 43, 44, 45, 46, 47, 48] (by decide +kernel) (by decide +kernel)
set_option maxRecDepth 20000 in
theorem gX2_takeBack_X0_copyFrom : GoodIn wsX2_takeBack (wsV RX2 25 RX0 yX0_copyFrom wsX0_copyFrom) := goodIn_app (goodIn_of _ (by decide +kernel)) ggX2_takeBack_X0_copyFrom
theorem dX2_takeBack_0 : decode cX2_takeBack 0 = .ok (.aload_n 0, 1) := by decide +kernel
theorem dX2_takeBack_1 : decode cX2_takeBack 1 = .ok (.getfield 17, 3) := by decide +kernel
theorem dX2_takeBack_4 : decode cX2_takeBack 4 = .ok (.ifCond .le 12, 3) := by decide +kernel
theorem dX2_takeBack_7 : decode cX2_takeBack 7 = .ok (.aload_n 0, 1) := by decide +kernel
theorem dX2_takeBack_8 : decode cX2_takeBack 8 = .ok (.getfield 17, 3) := by decide +kernel
theorem dX2_takeBack_11 : decode cX2_takeBack 11 = .ok (.bipush 8, 2) := by decide +kernel
theorem dX2_takeBack_13 : decode cX2_takeBack 13 = .ok (.if_icmp .le 5, 3) := by decide +kernel
theorem dX2_takeBack_16 : decode cX2_takeBack 16 = .ok (.iconst 0, 1) := by decide +kernel
theorem dX2_takeBack_17 : decode cX2_takeBack 17 = .ok (.ireturn, 1) := by decide +kernel
theorem dX2_takeBack_18 : decode cX2_takeBack 18 = .ok (.aload_n 0, 1) := by decide +kernel
theorem dX2_takeBack_19 : decode cX2_takeBack 19 = .ok (.dup, 1) := by decide +kernel
theorem dX2_takeBack_20 : decode cX2_takeBack 20 = .ok (.getfield 17, 3) := by decide +kernel
theorem dX2_takeBack_23 : decode cX2_takeBack 23 = .ok (.iconst 1, 1) := by decide +kernel
theorem dX2_takeBack_24 : decode cX2_takeBack 24 = .ok (.isub, 1) := by decide +kernel
theorem dX2_takeBack_25 : decode cX2_takeBack 25 = .ok (.putfield 17, 3) := by decide +kernel
theorem dX2_takeBack_28 : decode cX2_takeBack 28 = .ok (.aload_n 1, 1) := by decide +kernel
theorem dX2_takeBack_29 : decode cX2_takeBack 29 = .ok (.aload_n 0, 1) := by decide +kernel
theorem dX2_takeBack_30 : decode cX2_takeBack 30 = .ok (.getfield 11, 3) := by decide +kernel
theorem dX2_takeBack_33 : decode cX2_takeBack 33 = .ok (.aload_n 0, 1) := by decide +kernel
theorem dX2_takeBack_34 : decode cX2_takeBack 34 = .ok (.getfield 17, 3) := by decide +kernel
theorem dX2_takeBack_37 : decode cX2_takeBack 37 = .ok (.aaload, 1) := by decide +kernel
theorem dX2_takeBack_38 : decode cX2_takeBack 38 = .ok (.invokevirtual 25, 3) := by decide +kernel
theorem dX2_takeBack_41 : decode cX2_takeBack 41 = .ok (.iconst 1, 1) := by decide +kernel
theorem dX2_takeBack_42 : decode cX2_takeBack 42 = .ok (.ireturn, 1) := by decide +kernel
theorem dX2_forgetOldest_0 : decode cX2_forgetOldest 0 = .ok (.aload_n 0, 1) := by decide +kernel
theorem dX2_forgetOldest_1 : decode cX2_forgetOldest 1 = .ok (.getfield 11, 3) := by decide +kernel
theorem dX2_forgetOldest_4 : decode cX2_forgetOldest 4 = .ok (.iconst 0, 1) := by decide +kernel
theorem dX2_forgetOldest_5 : decode cX2_forgetOldest 5 = .ok (.aaload, 1) := by decide +kernel
theorem dX2_forgetOldest_6 : decode cX2_forgetOldest 6 = .ok (.astore_n 1, 1) := by decide +kernel
theorem dX2_forgetOldest_7 : decode cX2_forgetOldest 7 = .ok (.iconst 1, 1) := by decide +kernel
theorem dX2_forgetOldest_8 : decode cX2_forgetOldest 8 = .ok (.istore_n 2, 1) := by decide +kernel
theorem dX2_forgetOldest_9 : decode cX2_forgetOldest 9 = .ok (.iload_n 2, 1) := by decide +kernel
theorem dX2_forgetOldest_10 : decode cX2_forgetOldest 10 = .ok (.bipush 8, 2) := by decide +kernel
theorem dX2_forgetOldest_12 : decode cX2_forgetOldest 12 = .ok (.if_icmp .ge 23, 3) := by decide +kernel
theorem dX2_forgetOldest_15 : decode cX2_forgetOldest 15 = .ok (.aload_n 0, 1) := by decide +kernel
theorem dX2_forgetOldest_16 : decode cX2_forgetOldest 16 = .ok (.getfield 11, 3) := by decide +kernel
theorem dX2_forgetOldest_19 : decode cX2_forgetOldest 19 = .ok (.iload_n 2, 1) := by decide +kernel
theorem dX2_forgetOldest_20 : decode cX2_forgetOldest 20 = .ok (.iconst 1, 1) := by decide +kernel
theorem dX2_forgetOldest_21 : decode cX2_forgetOldest 21 = .ok (.isub, 1) := by decide +kernel
theorem dX2_forgetOldest_22 : decode cX2_forgetOldest 22 = .ok (.aload_n 0, 1) := by decide +kernel
theorem dX2_forgetOldest_23 : decode cX2_forgetOldest 23 = .ok (.getfield 11, 3) := by decide +kernel
theorem dX2_forgetOldest_26 : decode cX2_forgetOldest 26 = .ok (.iload_n 2, 1) := by decide +kernel
theorem dX2_forgetOldest_27 : decode cX2_forgetOldest 27 = .ok (.aaload, 1) := by decide +kernel
theorem dX2_forgetOldest_28 : decode cX2_forgetOldest 28 = .ok (.aastore, 1) := by decide +kernel
theorem dX2_forgetOldest_29 : decode cX2_forgetOldest 29 = .ok (.iinc 2 1, 3) := by decide +kernel
theorem dX2_forgetOldest_32 : decode cX2_forgetOldest 32 = .ok (.goto (-23), 3) := by decide +kernel
theorem dX2_forgetOldest_35 : decode cX2_forgetOldest 35 = .ok (.aload_n 0, 1) := by decide +kernel
theorem dX2_forgetOldest_36 : decode cX2_forgetOldest 36 = .ok (.getfield 11, 3) := by decide +kernel
theorem dX2_forgetOldest_39 : decode cX2_forgetOldest 39 = .ok (.bipush 7, 2) := by decide +kernel
theorem dX2_forgetOldest_41 : decode cX2_forgetOldest 41 = .ok (.aload_n 1, 1) := by decide +kernel
theorem dX2_forgetOldest_42 : decode cX2_forgetOldest 42 = .ok (.aastore, 1) := by decide +kernel
theorem dX2_forgetOldest_43 : decode cX2_forgetOldest 43 = .ok (.aload_n 0, 1) := by decide +kernel
theorem dX2_forgetOldest_44 : decode cX2_forgetOldest 44 = .ok (.bipush 7, 2) := by decide +kernel
theorem dX2_forgetOldest_46 : decode cX2_forgetOldest 46 = .ok (.putfield 17, 3) := by decide +kernel
theorem dX2_forgetOldest_49 : decode cX2_forgetOldest 49 = .ok (.return_, 1) := by decide +kernel
theorem dX3_init_0 : decode cX3_init 0 = .ok (.aload_n 0, 1) := by decide +kernel
theorem dX3_init_1 : decode cX3_init 1 = .ok (.invokespecial 3, 3) := by decide +kernel
theorem dX3_init_4 : decode cX3_init 4 = .ok (.aload_n 0, 1) := by decide +kernel
theorem dX3_init_5 : decode cX3_init 5 = .ok (.iconst 5, 1) := by decide +kernel
theorem dX3_init_6 : decode cX3_init 6 = .ok (.bipush 10, 2) := by decide +kernel
theorem dX3_init_8 : decode cX3_init 8 = .ok (.multianewarray 9 2, 4) := by decide +kernel
theorem dX3_init_12 : decode cX3_init 12 = .ok (.putfield 11, 3) := by decide +kernel
theorem dX3_init_15 : decode cX3_init 15 = .ok (.aload_n 0, 1) := by decide +kernel
theorem dX3_init_16 : decode cX3_init 16 = .ok (.iconst 5, 1) := by decide +kernel
theorem dX3_init_17 : decode cX3_init 17 = .ok (.bipush 31, 2) := by decide +kernel
theorem dX3_init_19 : decode cX3_init 19 = .ok (.multianewarray 9 2, 4) := by decide +kernel
theorem dX3_init_23 : decode cX3_init 23 = .ok (.putfield 16, 3) := by decide +kernel
theorem dX3_init_26 : decode cX3_init 26 = .ok (.aload_n 0, 1) := by decide +kernel
theorem dX3_init_27 : decode cX3_init 27 = .ok (.iconst 0, 1) := by decide +kernel
theorem dX3_init_28 : decode cX3_init 28 = .ok (.putfield 19, 3) := by decide +kernel
theorem dX3_init_31 : decode cX3_init 31 = .ok (.aload_n 0, 1) := by decide +kernel
theorem dX3_init_32 : decode cX3_init 32 = .ok (.iconst 0, 1) := by decide +kernel
theorem dX3_init_33 : decode cX3_init 33 = .ok (.putfield 23, 3) := by decide +kernel
theorem dX3_init_36 : decode cX3_init 36 = .ok (.aload_n 0, 1) := by decide +kernel
theorem dX3_init_37 : decode cX3_init 37 = .ok (.lconst 1, 1) := by decide +kernel
theorem dX3_init_38 : decode cX3_init 38 = .ok (.putfield 26, 3) := by decide +kernel
theorem dX3_init_41 : decode cX3_init 41 = .ok (.return_, 1) := by decide +kernel
set_option maxRecDepth 20000 in
theorem ggX3_reckon_X3_setEquations : GoodIn wsX3_reckon wsX3_setEquations := goodIn_r _ [14, 7, 15, 1, 16, 17, 18, 19, 20, 21, 22, 23, 24, 25, 26, 27, 28, 29, 13, 30, 31, 32, 33, 5, 34, 76, 77, 78, 79, 80, 67, 68, 69, 70, 71, 72, 73, 74, 75] (by decide +kernel) (by decide +kernel)
set_option maxRecDepth 20000 in
theorem gX3_reckon_X3_setEquations : GoodIn wsX3_reckon (wsV RX3 48 RX3 yX3_setEquations wsX3_setEquations) := goodIn_app (goodIn_of _ (by decide +kernel)) ggX3_reckon_X3_setEquations
set_option maxRecDepth 20000 in
theorem ggX3_reckon_X3_invert : GoodIn wsX3_reckon wsX3_invert := goodIn_r _ [38, 7, 15, 39, 40, 41, 13, 42, 43, 44, 45, 46, 47, 48, 49, 50, 76, 77, 78, 79, 80] (by decide +kernel) (by decide +kernel)
set_option maxRecDepth 20000 in
theorem gX3_reckon_X3_invert : GoodIn wsX3_reckon (wsV RX3 52 RX3 yX3_invert wsX3_invert) := goodIn_app (goodIn_of _ (by decide +kernel)) ggX3_reckon_X3_invert
set_option maxRecDepth 20000 in
theorem ggX3_reckon_X3_setLines : GoodIn wsX3_reckon wsX3_setLines := goodIn_r _ [54, 9, 7, 15, 55, 28, 29, 13, 30, 31, 32, 33, 5, 34, 16, 17, 18, 19, 20, 21, 22, 23, 24, 25, 26, 27, 76, 77, 78, 79, 80, 67, 68, 69, 70, 71, 72, 73, 74, 75] (by decide +kernel) (by decide +kernel)
set_option maxRecDepth 20000 in
theorem gX3_reckon_X3_setLines : GoodIn wsX3_reckon (wsV RX3 56 RX3 yX3_setLines wsX3_setLines) := goodIn_app (goodIn_of _ (by decide +kernel)) ggX3_reckon_X3_setLines
set_option maxRecDepth 20000 in
theorem ggX3_reckon_X3_shorten : GoodIn wsX3_reckon wsX3_shorten := goodIn_r _ [59, 60, 61, 5, 62, 7, 9, 55, 63, 64, 65, 13, 66, 76, 77, 78, 79, 80] (by decide +kernel) (by decide +kernel)
set_option maxRecDepth 20000 in
theorem gX3_reckon_X3_shorten : GoodIn wsX3_reckon (wsV RX3 59 RX3 yX3_shorten wsX3_shorten) := goodIn_app (goodIn_of _ (by decide +kernel)) ggX3_reckon_X3_shorten
theorem dX3_reckon_0 : decode cX3_reckon 0 = .ok (.aload_n 0, 1) := by decide +kernel
theorem dX3_reckon_1 : decode cX3_reckon 1 = .ok (.aload_n 1, 1) := by decide +kernel
theorem dX3_reckon_2 : decode cX3_reckon 2 = .ok (.getfield 30, 3) := by decide +kernel
theorem dX3_reckon_5 : decode cX3_reckon 5 = .ok (.getfield 36, 3) := by decide +kernel
theorem dX3_reckon_8 : decode cX3_reckon 8 = .ok (.iconst 5, 1) := by decide +kernel
theorem dX3_reckon_9 : decode cX3_reckon 9 = .ok (.invokestatic 39, 3) := by decide +kernel
theorem dX3_reckon_12 : decode cX3_reckon 12 = .ok (.putfield 19, 3) := by decide +kernel
theorem dX3_reckon_15 : decode cX3_reckon 15 = .ok (.aload_n 0, 1) := by decide +kernel
theorem dX3_reckon_16 : decode cX3_reckon 16 = .ok (.aload_n 1, 1) := by decide +kernel
theorem dX3_reckon_17 : decode cX3_reckon 17 = .ok (.getfield 45, 3) := by decide +kernel
theorem dX3_reckon_20 : decode cX3_reckon 20 = .ok (.iconst 1, 1) := by decide +kernel
theorem dX3_reckon_21 : decode cX3_reckon 21 = .ok (.iadd, 1) := by decide +kernel
theorem dX3_reckon_22 : decode cX3_reckon 22 = .ok (.bipush 31, 2) := by decide +kernel
theorem dX3_reckon_24 : decode cX3_reckon 24 = .ok (.invokestatic 39, 3) := by decide +kernel
theorem dX3_reckon_27 : decode cX3_reckon 27 = .ok (.putfield 23, 3) := by decide +kernel
theorem dX3_reckon_30 : decode cX3_reckon 30 = .ok (.aload_n 0, 1) := by decide +kernel
theorem dX3_reckon_31 : decode cX3_reckon 31 = .ok (.aload_n 1, 1) := by decide +kernel
theorem dX3_reckon_32 : decode cX3_reckon 32 = .ok (.invokevirtual 48, 3) := by decide +kernel
theorem dX3_reckon_35 : decode cX3_reckon 35 = .ok (.aload_n 0, 1) := by decide +kernel
theorem dX3_reckon_36 : decode cX3_reckon 36 = .ok (.invokevirtual 52, 3) := by decide +kernel
theorem dX3_reckon_39 : decode cX3_reckon 39 = .ok (.lstore_n 2, 1) := by decide +kernel
theorem dX3_reckon_40 : decode cX3_reckon 40 = .ok (.lload_n 2, 1) := by decide +kernel
theorem dX3_reckon_41 : decode cX3_reckon 41 = .ok (.lconst 0, 1) := by decide +kernel
theorem dX3_reckon_42 : decode cX3_reckon 42 = .ok (.lcmp, 1) := by decide +kernel
theorem dX3_reckon_43 : decode cX3_reckon 43 = .ok (.ifCond .ne 5, 3) := by decide +kernel
theorem dX3_reckon_46 : decode cX3_reckon 46 = .ok (.iconst 0, 1) := by decide +kernel
theorem dX3_reckon_47 : decode cX3_reckon 47 = .ok (.ireturn, 1) := by decide +kernel
theorem dX3_reckon_48 : decode cX3_reckon 48 = .ok (.aload_n 0, 1) := by decide +kernel
theorem dX3_reckon_49 : decode cX3_reckon 49 = .ok (.aload_n 1, 1) := by decide +kernel
theorem dX3_reckon_50 : decode cX3_reckon 50 = .ok (.invokevirtual 56, 3) := by decide +kernel
theorem dX3_reckon_53 : decode cX3_reckon 53 = .ok (.aload_n 0, 1) := by decide +kernel
theorem dX3_reckon_54 : decode cX3_reckon 54 = .ok (.lload_n 2, 1) := by decide +kernel
theorem dX3_reckon_55 : decode cX3_reckon 55 = .ok (.invokevirtual 59, 3) := by decide +kernel
theorem dX3_reckon_58 : decode cX3_reckon 58 = .ok (.iconst 1, 1) := by decide +kernel
theorem dX3_reckon_59 : decode cX3_reckon 59 = .ok (.ireturn, 1) := by decide +kernel
theorem dX3_at_0 : decode cX3_at 0 = .ok (.iload_n 1, 1) := by decide +kernel
theorem dX3_at_1 : decode cX3_at 1 = .ok (.ifCond .lt 27, 3) := by decide +kernel
theorem dX3_at_4 : decode cX3_at 4 = .ok (.iload_n 1, 1) := by decide +kernel
theorem dX3_at_5 : decode cX3_at 5 = .ok (.aload_n 0, 1) := by decide +kernel
theorem dX3_at_6 : decode cX3_at 6 = .ok (.getfield 19, 3) := by decide +kernel
theorem dX3_at_9 : decode cX3_at 9 = .ok (.if_icmp .ge 19, 3) := by decide +kernel
theorem dX3_at_12 : decode cX3_at 12 = .ok (.iload_n 2, 1) := by decide +kernel
theorem dX3_at_13 : decode cX3_at 13 = .ok (.ifCond .lt 15, 3) := by decide +kernel
theorem dX3_at_16 : decode cX3_at 16 = .ok (.iload_n 2, 1) := by decide +kernel
theorem dX3_at_17 : decode cX3_at 17 = .ok (.aload_n 0, 1) := by decide +kernel
theorem dX3_at_18 : decode cX3_at 18 = .ok (.getfield 23, 3) := by decide +kernel
theorem dX3_at_21 : decode cX3_at 21 = .ok (.if_icmp .ge 7, 3) := by decide +kernel
theorem dX3_at_24 : decode cX3_at 24 = .ok (.iconst 1, 1) := by decide +kernel
theorem dX3_at_25 : decode cX3_at 25 = .ok (.goto 4, 3) := by decide +kernel
theorem dX3_at_28 : decode cX3_at 28 = .ok (.iconst 0, 1) := by decide +kernel
theorem dX3_at_29 : decode cX3_at 29 = .ok (.istore_n 3, 1) := by decide +kernel
theorem dX3_at_30 : decode cX3_at 30 = .ok (.iload_n 3, 1) := by decide +kernel
theorem dX3_at_31 : decode cX3_at 31 = .ok (.ifCond .eq 14, 3) := by decide +kernel
theorem dX3_at_34 : decode cX3_at 34 = .ok (.aload_n 0, 1) := by decide +kernel
theorem dX3_at_35 : decode cX3_at 35 = .ok (.getfield 16, 3) := by decide +kernel
theorem dX3_at_38 : decode cX3_at 38 = .ok (.iload_n 1, 1) := by decide +kernel
theorem dX3_at_39 : decode cX3_at 39 = .ok (.aaload, 1) := by decide +kernel
theorem dX3_at_40 : decode cX3_at 40 = .ok (.iload_n 2, 1) := by decide +kernel
theorem dX3_at_41 : decode cX3_at 41 = .ok (.laload, 1) := by decide +kernel
theorem dX3_at_42 : decode cX3_at 42 = .ok (.goto 4, 3) := by decide +kernel
theorem dX3_at_45 : decode cX3_at 45 = .ok (.lconst 0, 1) := by decide +kernel
theorem dX3_at_46 : decode cX3_at 46 = .ok (.lreturn, 1) := by decide +kernel
set_option maxRecDepth 20000 in
theorem ggX3_weighing_X6_first : GoodIn wsX3_weighing wsX6_first := goodIn_r _ [10, 11, 12, 13, 14, 9, 15, 16, 17, 24, 25, 26] (by decide +kernel) (by decide +kernel)
set_option maxRecDepth 20000 in
theorem gX3_weighing_X6_first : GoodIn wsX3_weighing (wsV RX3 66 RX6 yX6_first wsX6_first) := goodIn_app (goodIn_of _ (by decide +kernel)) ggX3_weighing_X6_first
theorem dX3_weighing_0 : decode cX3_weighing 0 = .ok (.iload_n 1, 1) := by decide +kernel
theorem dX3_weighing_1 : decode cX3_weighing 1 = .ok (.ifCond .ne 5, 3) := by decide +kernel
theorem dX3_weighing_4 : decode cX3_weighing 4 = .ok (.iconst 1, 1) := by decide +kernel
theorem dX3_weighing_5 : decode cX3_weighing 5 = .ok (.ireturn, 1) := by decide +kernel
theorem dX3_weighing_6 : decode cX3_weighing 6 = .ok (.iload_n 1, 1) := by decide +kernel
theorem dX3_weighing_7 : decode cX3_weighing 7 = .ok (.iconst 1, 1) := by decide +kernel
theorem dX3_weighing_8 : decode cX3_weighing 8 = .ok (.if_icmp .ne 5, 3) := by decide +kernel
theorem dX3_weighing_11 : decode cX3_weighing 11 = .ok (.iload_n 2, 1) := by decide +kernel
theorem dX3_weighing_12 : decode cX3_weighing 12 = .ok (.ireturn, 1) := by decide +kernel
theorem dX3_weighing_13 : decode cX3_weighing 13 = .ok (.iconst 0, 1) := by decide +kernel
theorem dX3_weighing_14 : decode cX3_weighing 14 = .ok (.aload_n 0, 1) := by decide +kernel
theorem dX3_weighing_15 : decode cX3_weighing 15 = .ok (.getfield 63, 3) := by decide +kernel
theorem dX3_weighing_18 : decode cX3_weighing 18 = .ok (.iload_n 1, 1) := by decide +kernel
theorem dX3_weighing_19 : decode cX3_weighing 19 = .ok (.iconst 2, 1) := by decide +kernel
theorem dX3_weighing_20 : decode cX3_weighing 20 = .ok (.isub, 1) := by decide +kernel
theorem dX3_weighing_21 : decode cX3_weighing 21 = .ok (.invokevirtual 66, 3) := by decide +kernel
theorem dX3_weighing_24 : decode cX3_weighing 24 = .ok (.iload_n 2, 1) := by decide +kernel
theorem dX3_weighing_25 : decode cX3_weighing 25 = .ok (.isub, 1) := by decide +kernel
theorem dX3_weighing_26 : decode cX3_weighing 26 = .ok (.invokestatic 70, 3) := by decide +kernel
theorem dX3_weighing_29 : decode cX3_weighing 29 = .ok (.ireturn, 1) := by decide +kernel
set_option maxRecDepth 20000 in
theorem ggX3_setEquations_X6_first : GoodIn wsX3_setEquations wsX6_first := goodIn_r _ [8, 9, 10, 11, 12, 7, 13, 14, 15, 36, 37, 38] (by decide +kernel) (by decide +kernel)
set_option maxRecDepth 20000 in
theorem gX3_setEquations_X6_first : GoodIn wsX3_setEquations (wsV RX3 66 RX6 yX6_first wsX6_first) := goodIn_app (goodIn_of _ (by decide +kernel)) ggX3_setEquations_X6_first
set_option maxRecDepth 20000 in
theorem ggX3_setEquations_X3_weighing : GoodIn wsX3_setEquations wsX3_weighing := goodIn_r _ [19, 20, 21, 22, 23, 24, 4, 5, 6, 7, 8, 9, 10, 11, 12, 13, 14, 15, 30, 31, 32, 33, 34, 35, 36, 37, 38] (by decide +kernel) (by decide +kernel)
set_option maxRecDepth 20000 in
theorem gX3_setEquations_X3_weighing : GoodIn wsX3_setEquations (va_wsS RX3 73 yX3_weighing wsX3_weighing) := goodIn_app (goodIn_of _ (by decide +kernel)) ggX3_setEquations_X3_weighing
theorem dX3_setEquations_0 : decode cX3_setEquations 0 = .ok (.iconst 0, 1) := by decide +kernel
theorem dX3_setEquations_1 : decode cX3_setEquations 1 = .ok (.istore_n 2, 1) := by decide +kernel
theorem dX3_setEquations_2 : decode cX3_setEquations 2 = .ok (.iload_n 2, 1) := by decide +kernel
theorem dX3_setEquations_3 : decode cX3_setEquations 3 = .ok (.aload_n 0, 1) := by decide +kernel
theorem dX3_setEquations_4 : decode cX3_setEquations 4 = .ok (.getfield 19, 3) := by decide +kernel
theorem dX3_setEquations_7 : decode cX3_setEquations 7 = .ok (.if_icmp .ge 70, 3) := by decide +kernel
theorem dX3_setEquations_10 : decode cX3_setEquations 10 = .ok (.iconst 0, 1) := by decide +kernel
theorem dX3_setEquations_11 : decode cX3_setEquations 11 = .ok (.istore_n 3, 1) := by decide +kernel
theorem dX3_setEquations_12 : decode cX3_setEquations 12 = .ok (.iload_n 3, 1) := by decide +kernel
theorem dX3_setEquations_13 : decode cX3_setEquations 13 = .ok (.aload_n 0, 1) := by decide +kernel
theorem dX3_setEquations_14 : decode cX3_setEquations 14 = .ok (.getfield 19, 3) := by decide +kernel
theorem dX3_setEquations_17 : decode cX3_setEquations 17 = .ok (.if_icmp .ge 54, 3) := by decide +kernel
theorem dX3_setEquations_20 : decode cX3_setEquations 20 = .ok (.aload_n 0, 1) := by decide +kernel
theorem dX3_setEquations_21 : decode cX3_setEquations 21 = .ok (.getfield 11, 3) := by decide +kernel
theorem dX3_setEquations_24 : decode cX3_setEquations 24 = .ok (.iload_n 2, 1) := by decide +kernel
theorem dX3_setEquations_25 : decode cX3_setEquations 25 = .ok (.aaload, 1) := by decide +kernel
theorem dX3_setEquations_26 : decode cX3_setEquations 26 = .ok (.iload_n 3, 1) := by decide +kernel
theorem dX3_setEquations_27 : decode cX3_setEquations 27 = .ok (.aload_n 1, 1) := by decide +kernel
theorem dX3_setEquations_28 : decode cX3_setEquations 28 = .ok (.iload_n 2, 1) := by decide +kernel
theorem dX3_setEquations_29 : decode cX3_setEquations 29 = .ok (.aload_n 1, 1) := by decide +kernel
theorem dX3_setEquations_30 : decode cX3_setEquations 30 = .ok (.getfield 30, 3) := by decide +kernel
theorem dX3_setEquations_33 : decode cX3_setEquations 33 = .ok (.iload_n 3, 1) := by decide +kernel
theorem dX3_setEquations_34 : decode cX3_setEquations 34 = .ok (.invokevirtual 66, 3) := by decide +kernel
theorem dX3_setEquations_37 : decode cX3_setEquations 37 = .ok (.invokestatic 73, 3) := by decide +kernel
theorem dX3_setEquations_40 : decode cX3_setEquations 40 = .ok (.i2l, 1) := by decide +kernel
theorem dX3_setEquations_41 : decode cX3_setEquations 41 = .ok (.lastore, 1) := by decide +kernel
theorem dX3_setEquations_42 : decode cX3_setEquations 42 = .ok (.aload_n 0, 1) := by decide +kernel
theorem dX3_setEquations_43 : decode cX3_setEquations 43 = .ok (.getfield 11, 3) := by decide +kernel
theorem dX3_setEquations_46 : decode cX3_setEquations 46 = .ok (.iload_n 2, 1) := by decide +kernel
theorem dX3_setEquations_47 : decode cX3_setEquations 47 = .ok (.aaload, 1) := by decide +kernel
theorem dX3_setEquations_48 : decode cX3_setEquations 48 = .ok (.aload_n 0, 1) := by decide +kernel
theorem dX3_setEquations_49 : decode cX3_setEquations 49 = .ok (.getfield 19, 3) := by decide +kernel
theorem dX3_setEquations_52 : decode cX3_setEquations 52 = .ok (.iload_n 3, 1) := by decide +kernel
theorem dX3_setEquations_53 : decode cX3_setEquations 53 = .ok (.iadd, 1) := by decide +kernel
theorem dX3_setEquations_54 : decode cX3_setEquations 54 = .ok (.iload_n 2, 1) := by decide +kernel
theorem dX3_setEquations_55 : decode cX3_setEquations 55 = .ok (.iload_n 3, 1) := by decide +kernel
theorem dX3_setEquations_56 : decode cX3_setEquations 56 = .ok (.if_icmp .ne 7, 3) := by decide +kernel
theorem dX3_setEquations_59 : decode cX3_setEquations 59 = .ok (.lconst 1, 1) := by decide +kernel
theorem dX3_setEquations_60 : decode cX3_setEquations 60 = .ok (.goto 4, 3) := by decide +kernel
theorem dX3_setEquations_63 : decode cX3_setEquations 63 = .ok (.lconst 0, 1) := by decide +kernel
theorem dX3_setEquations_64 : decode cX3_setEquations 64 = .ok (.lastore, 1) := by decide +kernel
theorem dX3_setEquations_65 : decode cX3_setEquations 65 = .ok (.iinc 3 1, 3) := by decide +kernel
theorem dX3_setEquations_68 : decode cX3_setEquations 68 = .ok (.goto (-56), 3) := by decide +kernel
theorem dX3_setEquations_71 : decode cX3_setEquations 71 = .ok (.iinc 2 1, 3) := by decide +kernel
theorem dX3_setEquations_74 : decode cX3_setEquations 74 = .ok (.goto (-72), 3) := by decide +kernel
theorem dX3_setEquations_77 : decode cX3_setEquations 77 = .ok (.return_, 1) := by decide +kernel
set_option maxRecDepth 20000 in
theorem ggX3_invert_X3_pivotRow : GoodIn wsX3_invert wsX3_pivotRow := goodIn_r _ [7, 1, 2, 16, 17, 18, 19, 20] (by decide +kernel) (by decide +kernel)
set_option maxRecDepth 20000 in
theorem gX3_invert_X3_pivotRow : GoodIn wsX3_invert (wsV RX3 77 RX3 yX3_pivotRow wsX3_pivotRow) := goodIn_app (goodIn_of _ (by decide +kernel)) ggX3_invert_X3_pivotRow
set_option maxRecDepth 20000 in
theorem ggX3_invert_X3_swapRows : GoodIn wsX3_invert wsX3_swapRows := goodIn_r _ [11, 1, 2, 16, 17, 18, 19, 20] (by decide +kernel) (by decide +kernel)
set_option maxRecDepth 20000 in
theorem gX3_invert_X3_swapRows : GoodIn wsX3_invert (wsV RX3 80 RX3 yX3_swapRows wsX3_swapRows) := goodIn_app (goodIn_of _ (by decide +kernel)) ggX3_invert_X3_swapRows
set_option maxRecDepth 20000 in
theorem ggX3_invert_X3_clearColumn : GoodIn wsX3_invert wsX3_clearColumn := goodIn_r _ [15, 2, 1, 16, 17, 18, 19, 20] (by decide +kernel) (by decide +kernel)
set_option maxRecDepth 20000 in
theorem gX3_invert_X3_clearColumn : GoodIn wsX3_invert (wsV RX3 84 RX3 yX3_clearColumn wsX3_clearColumn) := goodIn_app (goodIn_of _ (by decide +kernel)) ggX3_invert_X3_clearColumn
theorem dX3_invert_0 : decode cX3_invert 0 = .ok (.lconst 1, 1) := by decide +kernel
theorem dX3_invert_1 : decode cX3_invert 1 = .ok (.lstore_n 1, 1) := by decide +kernel
theorem dX3_invert_2 : decode cX3_invert 2 = .ok (.iconst 0, 1) := by decide +kernel
theorem dX3_invert_3 : decode cX3_invert 3 = .ok (.istore_n 3, 1) := by decide +kernel
theorem dX3_invert_4 : decode cX3_invert 4 = .ok (.iload_n 3, 1) := by decide +kernel
theorem dX3_invert_5 : decode cX3_invert 5 = .ok (.aload_n 0, 1) := by decide +kernel
theorem dX3_invert_6 : decode cX3_invert 6 = .ok (.getfield 19, 3) := by decide +kernel
theorem dX3_invert_9 : decode cX3_invert 9 = .ok (.if_icmp .ge 46, 3) := by decide +kernel
theorem dX3_invert_12 : decode cX3_invert 12 = .ok (.aload_n 0, 1) := by decide +kernel
theorem dX3_invert_13 : decode cX3_invert 13 = .ok (.iload_n 3, 1) := by decide +kernel
theorem dX3_invert_14 : decode cX3_invert 14 = .ok (.invokevirtual 77, 3) := by decide +kernel
theorem dX3_invert_17 : decode cX3_invert 17 = .ok (.istore 4, 2) := by decide +kernel
theorem dX3_invert_19 : decode cX3_invert 19 = .ok (.iload 4, 2) := by decide +kernel
theorem dX3_invert_21 : decode cX3_invert 21 = .ok (.iconst (-1), 1) := by decide +kernel
theorem dX3_invert_22 : decode cX3_invert 22 = .ok (.if_icmp .ne 5, 3) := by decide +kernel
theorem dX3_invert_25 : decode cX3_invert 25 = .ok (.lconst 0, 1) := by decide +kernel
theorem dX3_invert_26 : decode cX3_invert 26 = .ok (.lreturn, 1) := by decide +kernel
theorem dX3_invert_27 : decode cX3_invert 27 = .ok (.aload_n 0, 1) := by decide +kernel
theorem dX3_invert_28 : decode cX3_invert 28 = .ok (.iload_n 3, 1) := by decide +kernel
theorem dX3_invert_29 : decode cX3_invert 29 = .ok (.iload 4, 2) := by decide +kernel
theorem dX3_invert_31 : decode cX3_invert 31 = .ok (.invokevirtual 80, 3) := by decide +kernel
theorem dX3_invert_34 : decode cX3_invert 34 = .ok (.aload_n 0, 1) := by decide +kernel
theorem dX3_invert_35 : decode cX3_invert 35 = .ok (.iload_n 3, 1) := by decide +kernel
theorem dX3_invert_36 : decode cX3_invert 36 = .ok (.lload_n 1, 1) := by decide +kernel
theorem dX3_invert_37 : decode cX3_invert 37 = .ok (.invokevirtual 84, 3) := by decide +kernel
theorem dX3_invert_40 : decode cX3_invert 40 = .ok (.aload_n 0, 1) := by decide +kernel
theorem dX3_invert_41 : decode cX3_invert 41 = .ok (.getfield 11, 3) := by decide +kernel
theorem dX3_invert_44 : decode cX3_invert 44 = .ok (.iload_n 3, 1) := by decide +kernel
theorem dX3_invert_45 : decode cX3_invert 45 = .ok (.aaload, 1) := by decide +kernel
theorem dX3_invert_46 : decode cX3_invert 46 = .ok (.iload_n 3, 1) := by decide +kernel
theorem dX3_invert_47 : decode cX3_invert 47 = .ok (.laload, 1) := by decide +kernel
theorem dX3_invert_48 : decode cX3_invert 48 = .ok (.lstore_n 1, 1) := by decide +kernel
theorem dX3_invert_49 : decode cX3_invert 49 = .ok (.iinc 3 1, 3) := by decide +kernel
theorem dX3_invert_52 : decode cX3_invert 52 = .ok (.goto (-48), 3) := by decide +kernel
theorem dX3_invert_55 : decode cX3_invert 55 = .ok (.lload_n 1, 1) := by decide +kernel
theorem dX3_invert_56 : decode cX3_invert 56 = .ok (.lreturn, 1) := by decide +kernel
theorem dX3_pivotRow_0 : decode cX3_pivotRow 0 = .ok (.iload_n 1, 1) := by decide +kernel
theorem dX3_pivotRow_1 : decode cX3_pivotRow 1 = .ok (.istore_n 2, 1) := by decide +kernel
theorem dX3_pivotRow_2 : decode cX3_pivotRow 2 = .ok (.iload_n 2, 1) := by decide +kernel
theorem dX3_pivotRow_3 : decode cX3_pivotRow 3 = .ok (.aload_n 0, 1) := by decide +kernel
theorem dX3_pivotRow_4 : decode cX3_pivotRow 4 = .ok (.getfield 19, 3) := by decide +kernel
theorem dX3_pivotRow_7 : decode cX3_pivotRow 7 = .ok (.if_icmp .ge 24, 3) := by decide +kernel
theorem dX3_pivotRow_10 : decode cX3_pivotRow 10 = .ok (.aload_n 0, 1) := by decide +kernel
theorem dX3_pivotRow_11 : decode cX3_pivotRow 11 = .ok (.getfield 11, 3) := by decide +kernel
theorem dX3_pivotRow_14 : decode cX3_pivotRow 14 = .ok (.iload_n 2, 1) := by decide +kernel
theorem dX3_pivotRow_15 : decode cX3_pivotRow 15 = .ok (.aaload, 1) := by decide +kernel
theorem dX3_pivotRow_16 : decode cX3_pivotRow 16 = .ok (.iload_n 1, 1) := by decide +kernel
theorem dX3_pivotRow_17 : decode cX3_pivotRow 17 = .ok (.laload, 1) := by decide +kernel
theorem dX3_pivotRow_18 : decode cX3_pivotRow 18 = .ok (.lconst 0, 1) := by decide +kernel
theorem dX3_pivotRow_19 : decode cX3_pivotRow 19 = .ok (.lcmp, 1) := by decide +kernel
theorem dX3_pivotRow_20 : decode cX3_pivotRow 20 = .ok (.ifCond .eq 5, 3) := by decide +kernel
theorem dX3_pivotRow_23 : decode cX3_pivotRow 23 = .ok (.iload_n 2, 1) := by decide +kernel
theorem dX3_pivotRow_24 : decode cX3_pivotRow 24 = .ok (.ireturn, 1) := by decide +kernel
theorem dX3_pivotRow_25 : decode cX3_pivotRow 25 = .ok (.iinc 2 1, 3) := by decide +kernel
theorem dX3_pivotRow_28 : decode cX3_pivotRow 28 = .ok (.goto (-26), 3) := by decide +kernel
theorem dX3_pivotRow_31 : decode cX3_pivotRow 31 = .ok (.iconst (-1), 1) := by decide +kernel
theorem dX3_pivotRow_32 : decode cX3_pivotRow 32 = .ok (.ireturn, 1) := by decide +kernel
theorem dX3_swapRows_0 : decode cX3_swapRows 0 = .ok (.iconst 0, 1) := by decide +kernel
theorem dX3_swapRows_1 : decode cX3_swapRows 1 = .ok (.istore_n 3, 1) := by decide +kernel
theorem dX3_swapRows_2 : decode cX3_swapRows 2 = .ok (.iload_n 3, 1) := by decide +kernel
theorem dX3_swapRows_3 : decode cX3_swapRows 3 = .ok (.iconst 2, 1) := by decide +kernel
theorem dX3_swapRows_4 : decode cX3_swapRows 4 = .ok (.aload_n 0, 1) := by decide +kernel
theorem dX3_swapRows_5 : decode cX3_swapRows 5 = .ok (.getfield 19, 3) := by decide +kernel
theorem dX3_swapRows_8 : decode cX3_swapRows 8 = .ok (.imul, 1) := by decide +kernel
theorem dX3_swapRows_9 : decode cX3_swapRows 9 = .ok (.if_icmp .ge 45, 3) := by decide +kernel
theorem dX3_swapRows_12 : decode cX3_swapRows 12 = .ok (.aload_n 0, 1) := by decide +kernel
theorem dX3_swapRows_13 : decode cX3_swapRows 13 = .ok (.getfield 11, 3) := by decide +kernel
theorem dX3_swapRows_16 : decode cX3_swapRows 16 = .ok (.iload_n 1, 1) := by decide +kernel
theorem dX3_swapRows_17 : decode cX3_swapRows 17 = .ok (.aaload, 1) := by decide +kernel
theorem dX3_swapRows_18 : decode cX3_swapRows 18 = .ok (.iload_n 3, 1) := by decide +kernel
theorem dX3_swapRows_19 : decode cX3_swapRows 19 = .ok (.laload, 1) := by decide +kernel
theorem dX3_swapRows_20 : decode cX3_swapRows 20 = .ok (.lstore 4, 2) := by decide +kernel
theorem dX3_swapRows_22 : decode cX3_swapRows 22 = .ok (.aload_n 0, 1) := by decide +kernel
theorem dX3_swapRows_23 : decode cX3_swapRows 23 = .ok (.getfield 11, 3) := by decide +kernel
theorem dX3_swapRows_26 : decode cX3_swapRows 26 = .ok (.iload_n 1, 1) := by decide +kernel
theorem dX3_swapRows_27 : decode cX3_swapRows 27 = .ok (.aaload, 1) := by decide +kernel
theorem dX3_swapRows_28 : decode cX3_swapRows 28 = .ok (.iload_n 3, 1) := by decide +kernel
theorem dX3_swapRows_29 : decode cX3_swapRows 29 = .ok (.aload_n 0, 1) := by decide +kernel
theorem dX3_swapRows_30 : decode cX3_swapRows 30 = .ok (.getfield 11, 3) := by decide +kernel
theorem dX3_swapRows_33 : decode cX3_swapRows 33 = .ok (.iload_n 2, 1) := by decide +kernel
theorem dX3_swapRows_34 : decode cX3_swapRows 34 = .ok (.aaload, 1) := by decide +kernel
theorem dX3_swapRows_35 : decode cX3_swapRows 35 = .ok (.iload_n 3, 1) := by decide +kernel
theorem dX3_swapRows_36 : decode cX3_swapRows 36 = .ok (.laload, 1) := by decide +kernel
theorem dX3_swapRows_37 : decode cX3_swapRows 37 = .ok (.lastore, 1) := by decide +kernel
theorem dX3_swapRows_38 : decode cX3_swapRows 38 = .ok (.aload_n 0, 1) := by decide +kernel
theorem dX3_swapRows_39 : decode cX3_swapRows 39 = .ok (.getfield 11, 3) := by decide +kernel
theorem dX3_swapRows_42 : decode cX3_swapRows 42 = .ok (.iload_n 2, 1) := by decide +kernel
theorem dX3_swapRows_43 : decode cX3_swapRows 43 = .ok (.aaload, 1) := by decide +kernel
theorem dX3_swapRows_44 : decode cX3_swapRows 44 = .ok (.iload_n 3, 1) := by decide +kernel
theorem dX3_swapRows_45 : decode cX3_swapRows 45 = .ok (.lload 4, 2) := by decide +kernel
theorem dX3_swapRows_47 : decode cX3_swapRows 47 = .ok (.lastore, 1) := by decide +kernel
theorem dX3_swapRows_48 : decode cX3_swapRows 48 = .ok (.iinc 3 1, 3) := by decide +kernel
theorem dX3_swapRows_51 : decode cX3_swapRows 51 = .ok (.goto (-49), 3) := by decide +kernel
theorem dX3_swapRows_54 : decode cX3_swapRows 54 = .ok (.return_, 1) := by decide +kernel
theorem dX3_clearColumn_0 : decode cX3_clearColumn 0 = .ok (.lload_n 2, 1) := by decide +kernel
theorem dX3_clearColumn_1 : decode cX3_clearColumn 1 = .ok (.lconst 0, 1) := by decide +kernel
theorem dX3_clearColumn_2 : decode cX3_clearColumn 2 = .ok (.lcmp, 1) := by decide +kernel
theorem dX3_clearColumn_3 : decode cX3_clearColumn 3 = .ok (.ifCond .ne 4, 3) := by decide +kernel
theorem dX3_clearColumn_6 : decode cX3_clearColumn 6 = .ok (.return_, 1) := by decide +kernel
theorem dX3_clearColumn_7 : decode cX3_clearColumn 7 = .ok (.aload_n 0, 1) := by decide +kernel
theorem dX3_clearColumn_8 : decode cX3_clearColumn 8 = .ok (.getfield 11, 3) := by decide +kernel
theorem dX3_clearColumn_11 : decode cX3_clearColumn 11 = .ok (.iload_n 1, 1) := by decide +kernel
theorem dX3_clearColumn_12 : decode cX3_clearColumn 12 = .ok (.aaload, 1) := by decide +kernel
theorem dX3_clearColumn_13 : decode cX3_clearColumn 13 = .ok (.iload_n 1, 1) := by decide +kernel
theorem dX3_clearColumn_14 : decode cX3_clearColumn 14 = .ok (.laload, 1) := by decide +kernel
theorem dX3_clearColumn_15 : decode cX3_clearColumn 15 = .ok (.lstore 4, 2) := by decide +kernel
theorem dX3_clearColumn_17 : decode cX3_clearColumn 17 = .ok (.iconst 0, 1) := by decide +kernel
theorem dX3_clearColumn_18 : decode cX3_clearColumn 18 = .ok (.istore 6, 2) := by decide +kernel
theorem dX3_clearColumn_20 : decode cX3_clearColumn 20 = .ok (.iload 6, 2) := by decide +kernel
theorem dX3_clearColumn_22 : decode cX3_clearColumn 22 = .ok (.aload_n 0, 1) := by decide +kernel
theorem dX3_clearColumn_23 : decode cX3_clearColumn 23 = .ok (.getfield 19, 3) := by decide +kernel
theorem dX3_clearColumn_26 : decode cX3_clearColumn 26 = .ok (.if_icmp .ge 87, 3) := by decide +kernel
theorem dX3_clearColumn_29 : decode cX3_clearColumn 29 = .ok (.iload 6, 2) := by decide +kernel
theorem dX3_clearColumn_31 : decode cX3_clearColumn 31 = .ok (.iload_n 1, 1) := by decide +kernel
theorem dX3_clearColumn_32 : decode cX3_clearColumn 32 = .ok (.if_icmp .ne 6, 3) := by decide +kernel
theorem dX3_clearColumn_35 : decode cX3_clearColumn 35 = .ok (.goto 72, 3) := by decide +kernel
theorem dX3_clearColumn_38 : decode cX3_clearColumn 38 = .ok (.aload_n 0, 1) := by decide +kernel
theorem dX3_clearColumn_39 : decode cX3_clearColumn 39 = .ok (.getfield 11, 3) := by decide +kernel
theorem dX3_clearColumn_42 : decode cX3_clearColumn 42 = .ok (.iload 6, 2) := by decide +kernel
theorem dX3_clearColumn_44 : decode cX3_clearColumn 44 = .ok (.aaload, 1) := by decide +kernel
theorem dX3_clearColumn_45 : decode cX3_clearColumn 45 = .ok (.iload_n 1, 1) := by decide +kernel
theorem dX3_clearColumn_46 : decode cX3_clearColumn 46 = .ok (.laload, 1) := by decide +kernel
theorem dX3_clearColumn_47 : decode cX3_clearColumn 47 = .ok (.lstore 7, 2) := by decide +kernel
theorem dX3_clearColumn_49 : decode cX3_clearColumn 49 = .ok (.iconst 0, 1) := by decide +kernel
theorem dX3_clearColumn_50 : decode cX3_clearColumn 50 = .ok (.istore 9, 2) := by decide +kernel
theorem dX3_clearColumn_52 : decode cX3_clearColumn 52 = .ok (.iload 9, 2) := by decide +kernel
theorem dX3_clearColumn_54 : decode cX3_clearColumn 54 = .ok (.iconst 2, 1) := by decide +kernel
theorem dX3_clearColumn_55 : decode cX3_clearColumn 55 = .ok (.aload_n 0, 1) := by decide +kernel
theorem dX3_clearColumn_56 : decode cX3_clearColumn 56 = .ok (.getfield 19, 3) := by decide +kernel
theorem dX3_clearColumn_59 : decode cX3_clearColumn 59 = .ok (.imul, 1) := by decide +kernel
theorem dX3_clearColumn_60 : decode cX3_clearColumn 60 = .ok (.if_icmp .ge 47, 3) := by decide +kernel
theorem dX3_clearColumn_63 : decode cX3_clearColumn 63 = .ok (.aload_n 0, 1) := by decide +kernel
theorem dX3_clearColumn_64 : decode cX3_clearColumn 64 = .ok (.getfield 11, 3) := by decide +kernel
theorem dX3_clearColumn_67 : decode cX3_clearColumn 67 = .ok (.iload 6, 2) := by decide +kernel
theorem dX3_clearColumn_69 : decode cX3_clearColumn 69 = .ok (.aaload, 1) := by decide +kernel
theorem dX3_clearColumn_70 : decode cX3_clearColumn 70 = .ok (.iload 9, 2) := by decide +kernel
theorem dX3_clearColumn_72 : decode cX3_clearColumn 72 = .ok (.lload 4, 2) := by decide +kernel
theorem dX3_clearColumn_74 : decode cX3_clearColumn 74 = .ok (.aload_n 0, 1) := by decide +kernel
theorem dX3_clearColumn_75 : decode cX3_clearColumn 75 = .ok (.getfield 11, 3) := by decide +kernel
theorem dX3_clearColumn_78 : decode cX3_clearColumn 78 = .ok (.iload 6, 2) := by decide +kernel
theorem dX3_clearColumn_80 : decode cX3_clearColumn 80 = .ok (.aaload, 1) := by decide +kernel
theorem dX3_clearColumn_81 : decode cX3_clearColumn 81 = .ok (.iload 9, 2) := by decide +kernel
theorem dX3_clearColumn_83 : decode cX3_clearColumn 83 = .ok (.laload, 1) := by decide +kernel
theorem dX3_clearColumn_84 : decode cX3_clearColumn 84 = .ok (.lmul, 1) := by decide +kernel
theorem dX3_clearColumn_85 : decode cX3_clearColumn 85 = .ok (.lload 7, 2) := by decide +kernel
theorem dX3_clearColumn_87 : decode cX3_clearColumn 87 = .ok (.aload_n 0, 1) := by decide +kernel
theorem dX3_clearColumn_88 : decode cX3_clearColumn 88 = .ok (.getfield 11, 3) := by decide +kernel
theorem dX3_clearColumn_91 : decode cX3_clearColumn 91 = .ok (.iload_n 1, 1) := by decide +kernel
theorem dX3_clearColumn_92 : decode cX3_clearColumn 92 = .ok (.aaload, 1) := by decide +kernel
theorem dX3_clearColumn_93 : decode cX3_clearColumn 93 = .ok (.iload 9, 2) := by decide +kernel
theorem dX3_clearColumn_95 : decode cX3_clearColumn 95 = .ok (.laload, 1) := by decide +kernel
theorem dX3_clearColumn_96 : decode cX3_clearColumn 96 = .ok (.lmul, 1) := by decide +kernel
theorem dX3_clearColumn_97 : decode cX3_clearColumn 97 = .ok (.lsub, 1) := by decide +kernel
theorem dX3_clearColumn_98 : decode cX3_clearColumn 98 = .ok (.lload_n 2, 1) := by decide +kernel
theorem dX3_clearColumn_99 : decode cX3_clearColumn 99 = .ok (.ldiv, 1) := by decide +kernel
theorem dX3_clearColumn_100 : decode cX3_clearColumn 100 = .ok (.lastore, 1) := by decide +kernel
theorem dX3_clearColumn_101 : decode cX3_clearColumn 101 = .ok (.iinc 9 1, 3) := by decide +kernel
theorem dX3_clearColumn_104 : decode cX3_clearColumn 104 = .ok (.goto (-52), 3) := by decide +kernel
theorem dX3_clearColumn_107 : decode cX3_clearColumn 107 = .ok (.iinc 6 1, 3) := by decide +kernel
theorem dX3_clearColumn_110 : decode cX3_clearColumn 110 = .ok (.goto (-90), 3) := by decide +kernel
theorem dX3_clearColumn_113 : decode cX3_clearColumn 113 = .ok (.return_, 1) := by decide +kernel
set_option maxRecDepth 20000 in
theorem ggX3_setLines_X3_weighing : GoodIn wsX3_setLines wsX3_weighing := goodIn_r _ [8, 9, 10, 11, 12, 13, 14, 15, 16, 17, 18, 19, 20, 21, 22, 23, 24, 25, 31, 32, 33, 34, 35, 36, 37, 38, 39] (by decide +kernel) (by decide +kernel)
set_option maxRecDepth 20000 in
theorem gX3_setLines_X3_weighing : GoodIn wsX3_setLines (va_wsS RX3 73 yX3_weighing wsX3_weighing) := goodIn_app (goodIn_of _ (by decide +kernel)) ggX3_setLines_X3_weighing
theorem dX3_setLines_0 : decode cX3_setLines 0 = .ok (.iconst 0, 1) := by decide +kernel
theorem dX3_setLines_1 : decode cX3_setLines 1 = .ok (.istore_n 2, 1) := by decide +kernel
theorem dX3_setLines_2 : decode cX3_setLines 2 = .ok (.iload_n 2, 1) := by decide +kernel
theorem dX3_setLines_3 : decode cX3_setLines 3 = .ok (.aload_n 0, 1) := by decide +kernel
theorem dX3_setLines_4 : decode cX3_setLines 4 = .ok (.getfield 23, 3) := by decide +kernel
theorem dX3_setLines_7 : decode cX3_setLines 7 = .ok (.if_icmp .ge 84, 3) := by decide +kernel
theorem dX3_setLines_10 : decode cX3_setLines 10 = .ok (.iconst 0, 1) := by decide +kernel
theorem dX3_setLines_11 : decode cX3_setLines 11 = .ok (.istore_n 3, 1) := by decide +kernel
theorem dX3_setLines_12 : decode cX3_setLines 12 = .ok (.iload_n 3, 1) := by decide +kernel
theorem dX3_setLines_13 : decode cX3_setLines 13 = .ok (.aload_n 0, 1) := by decide +kernel
theorem dX3_setLines_14 : decode cX3_setLines 14 = .ok (.getfield 19, 3) := by decide +kernel
theorem dX3_setLines_17 : decode cX3_setLines 17 = .ok (.if_icmp .ge 68, 3) := by decide +kernel
theorem dX3_setLines_20 : decode cX3_setLines 20 = .ok (.lconst 0, 1) := by decide +kernel
theorem dX3_setLines_21 : decode cX3_setLines 21 = .ok (.lstore 4, 2) := by decide +kernel
theorem dX3_setLines_23 : decode cX3_setLines 23 = .ok (.iconst 0, 1) := by decide +kernel
theorem dX3_setLines_24 : decode cX3_setLines 24 = .ok (.istore 6, 2) := by decide +kernel
theorem dX3_setLines_26 : decode cX3_setLines 26 = .ok (.iload 6, 2) := by decide +kernel
theorem dX3_setLines_28 : decode cX3_setLines 28 = .ok (.aload_n 0, 1) := by decide +kernel
theorem dX3_setLines_29 : decode cX3_setLines 29 = .ok (.getfield 19, 3) := by decide +kernel
theorem dX3_setLines_32 : decode cX3_setLines 32 = .ok (.if_icmp .ge 37, 3) := by decide +kernel
theorem dX3_setLines_35 : decode cX3_setLines 35 = .ok (.lload 4, 2) := by decide +kernel
theorem dX3_setLines_37 : decode cX3_setLines 37 = .ok (.aload_n 0, 1) := by decide +kernel
theorem dX3_setLines_38 : decode cX3_setLines 38 = .ok (.getfield 11, 3) := by decide +kernel
theorem dX3_setLines_41 : decode cX3_setLines 41 = .ok (.iload_n 3, 1) := by decide +kernel
theorem dX3_setLines_42 : decode cX3_setLines 42 = .ok (.aaload, 1) := by decide +kernel
theorem dX3_setLines_43 : decode cX3_setLines 43 = .ok (.aload_n 0, 1) := by decide +kernel
theorem dX3_setLines_44 : decode cX3_setLines 44 = .ok (.getfield 19, 3) := by decide +kernel
theorem dX3_setLines_47 : decode cX3_setLines 47 = .ok (.iload 6, 2) := by decide +kernel
theorem dX3_setLines_49 : decode cX3_setLines 49 = .ok (.iadd, 1) := by decide +kernel
theorem dX3_setLines_50 : decode cX3_setLines 50 = .ok (.laload, 1) := by decide +kernel
theorem dX3_setLines_51 : decode cX3_setLines 51 = .ok (.aload_n 1, 1) := by decide +kernel
theorem dX3_setLines_52 : decode cX3_setLines 52 = .ok (.iload 6, 2) := by decide +kernel
theorem dX3_setLines_54 : decode cX3_setLines 54 = .ok (.iload_n 2, 1) := by decide +kernel
theorem dX3_setLines_55 : decode cX3_setLines 55 = .ok (.invokestatic 73, 3) := by decide +kernel
theorem dX3_setLines_58 : decode cX3_setLines 58 = .ok (.i2l, 1) := by decide +kernel
theorem dX3_setLines_59 : decode cX3_setLines 59 = .ok (.lmul, 1) := by decide +kernel
theorem dX3_setLines_60 : decode cX3_setLines 60 = .ok (.ladd, 1) := by decide +kernel
theorem dX3_setLines_61 : decode cX3_setLines 61 = .ok (.lstore 4, 2) := by decide +kernel
theorem dX3_setLines_63 : decode cX3_setLines 63 = .ok (.iinc 6 1, 3) := by decide +kernel
theorem dX3_setLines_66 : decode cX3_setLines 66 = .ok (.goto (-40), 3) := by decide +kernel
theorem dX3_setLines_69 : decode cX3_setLines 69 = .ok (.aload_n 0, 1) := by decide +kernel
theorem dX3_setLines_70 : decode cX3_setLines 70 = .ok (.getfield 16, 3) := by decide +kernel
theorem dX3_setLines_73 : decode cX3_setLines 73 = .ok (.iload_n 3, 1) := by decide +kernel
theorem dX3_setLines_74 : decode cX3_setLines 74 = .ok (.aaload, 1) := by decide +kernel
theorem dX3_setLines_75 : decode cX3_setLines 75 = .ok (.iload_n 2, 1) := by decide +kernel
theorem dX3_setLines_76 : decode cX3_setLines 76 = .ok (.lload 4, 2) := by decide +kernel
theorem dX3_setLines_78 : decode cX3_setLines 78 = .ok (.lastore, 1) := by decide +kernel
theorem dX3_setLines_79 : decode cX3_setLines 79 = .ok (.iinc 3 1, 3) := by decide +kernel
theorem dX3_setLines_82 : decode cX3_setLines 82 = .ok (.goto (-70), 3) := by decide +kernel
theorem dX3_setLines_85 : decode cX3_setLines 85 = .ok (.iinc 2 1, 3) := by decide +kernel
theorem dX3_setLines_88 : decode cX3_setLines 88 = .ok (.goto (-86), 3) := by decide +kernel
theorem dX3_setLines_91 : decode cX3_setLines 91 = .ok (.return_, 1) := by decide +kernel
set_option maxRecDepth 20000 in
theorem ggX3_shorten_X3_commonDivisor : GoodIn wsX3_shorten wsX3_commonDivisor := goodIn_r _ [12] (by decide +kernel) (by decide +kernel)
set_option maxRecDepth 20000 in
theorem gX3_shorten_X3_commonDivisor : GoodIn wsX3_shorten (va_wsS RX3 92 yX3_commonDivisor wsX3_commonDivisor) := goodIn_app (goodIn_of _ (by decide +kernel)) ggX3_shorten_X3_commonDivisor
theorem dX3_shorten_0 : decode cX3_shorten 0 = .ok (.lload_n 1, 1) := by decide +kernel
theorem dX3_shorten_1 : decode cX3_shorten 1 = .ok (.invokestatic 88, 3) := by decide +kernel
theorem dX3_shorten_4 : decode cX3_shorten 4 = .ok (.lstore_n 3, 1) := by decide +kernel
theorem dX3_shorten_5 : decode cX3_shorten 5 = .ok (.iconst 0, 1) := by decide +kernel
theorem dX3_shorten_6 : decode cX3_shorten 6 = .ok (.istore 5, 2) := by decide +kernel
theorem dX3_shorten_8 : decode cX3_shorten 8 = .ok (.iload 5, 2) := by decide +kernel
theorem dX3_shorten_10 : decode cX3_shorten 10 = .ok (.aload_n 0, 1) := by decide +kernel
theorem dX3_shorten_11 : decode cX3_shorten 11 = .ok (.getfield 19, 3) := by decide +kernel
theorem dX3_shorten_14 : decode cX3_shorten 14 = .ok (.if_icmp .ge 45, 3) := by decide +kernel
theorem dX3_shorten_17 : decode cX3_shorten 17 = .ok (.iconst 0, 1) := by decide +kernel
theorem dX3_shorten_18 : decode cX3_shorten 18 = .ok (.istore 6, 2) := by decide +kernel
theorem dX3_shorten_20 : decode cX3_shorten 20 = .ok (.iload 6, 2) := by decide +kernel
theorem dX3_shorten_22 : decode cX3_shorten 22 = .ok (.aload_n 0, 1) := by decide +kernel
theorem dX3_shorten_23 : decode cX3_shorten 23 = .ok (.getfield 23, 3) := by decide +kernel
theorem dX3_shorten_26 : decode cX3_shorten 26 = .ok (.if_icmp .ge 27, 3) := by decide +kernel
theorem dX3_shorten_29 : decode cX3_shorten 29 = .ok (.lload_n 3, 1) := by decide +kernel
theorem dX3_shorten_30 : decode cX3_shorten 30 = .ok (.aload_n 0, 1) := by decide +kernel
theorem dX3_shorten_31 : decode cX3_shorten 31 = .ok (.getfield 16, 3) := by decide +kernel
theorem dX3_shorten_34 : decode cX3_shorten 34 = .ok (.iload 5, 2) := by decide +kernel
theorem dX3_shorten_36 : decode cX3_shorten 36 = .ok (.aaload, 1) := by decide +kernel
theorem dX3_shorten_37 : decode cX3_shorten 37 = .ok (.iload 6, 2) := by decide +kernel
theorem dX3_shorten_39 : decode cX3_shorten 39 = .ok (.laload, 1) := by decide +kernel
theorem dX3_shorten_40 : decode cX3_shorten 40 = .ok (.invokestatic 88, 3) := by decide +kernel
theorem dX3_shorten_43 : decode cX3_shorten 43 = .ok (.invokestatic 92, 3) := by decide +kernel
theorem dX3_shorten_46 : decode cX3_shorten 46 = .ok (.lstore_n 3, 1) := by decide +kernel
theorem dX3_shorten_47 : decode cX3_shorten 47 = .ok (.iinc 6 1, 3) := by decide +kernel
theorem dX3_shorten_50 : decode cX3_shorten 50 = .ok (.goto (-30), 3) := by decide +kernel
theorem dX3_shorten_53 : decode cX3_shorten 53 = .ok (.iinc 5 1, 3) := by decide +kernel
theorem dX3_shorten_56 : decode cX3_shorten 56 = .ok (.goto (-48), 3) := by decide +kernel
theorem dX3_shorten_59 : decode cX3_shorten 59 = .ok (.lload_n 3, 1) := by decide +kernel
theorem dX3_shorten_60 : decode cX3_shorten 60 = .ok (.lconst 0, 1) := by decide +kernel
theorem dX3_shorten_61 : decode cX3_shorten 61 = .ok (.lcmp, 1) := by decide +kernel
theorem dX3_shorten_62 : decode cX3_shorten 62 = .ok (.ifCond .ne 4, 3) := by decide +kernel
theorem dX3_shorten_65 : decode cX3_shorten 65 = .ok (.return_, 1) := by decide +kernel
theorem dX3_shorten_66 : decode cX3_shorten 66 = .ok (.aload_n 0, 1) := by decide +kernel
theorem dX3_shorten_67 : decode cX3_shorten 67 = .ok (.lload_n 1, 1) := by decide +kernel
theorem dX3_shorten_68 : decode cX3_shorten 68 = .ok (.invokestatic 88, 3) := by decide +kernel
theorem dX3_shorten_71 : decode cX3_shorten 71 = .ok (.lload_n 3, 1) := by decide +kernel
theorem dX3_shorten_72 : decode cX3_shorten 72 = .ok (.ldiv, 1) := by decide +kernel
theorem dX3_shorten_73 : decode cX3_shorten 73 = .ok (.putfield 26, 3) := by decide +kernel
theorem dX3_shorten_76 : decode cX3_shorten 76 = .ok (.lload_n 1, 1) := by decide +kernel
theorem dX3_shorten_77 : decode cX3_shorten 77 = .ok (.lconst 0, 1) := by decide +kernel
theorem dX3_shorten_78 : decode cX3_shorten 78 = .ok (.lcmp, 1) := by decide +kernel
theorem dX3_shorten_79 : decode cX3_shorten 79 = .ok (.ifCond .ge 8, 3) := by decide +kernel
theorem dX3_shorten_82 : decode cX3_shorten 82 = .ok (.lload_n 3, 1) := by decide +kernel
theorem dX3_shorten_83 : decode cX3_shorten 83 = .ok (.lneg, 1) := by decide +kernel
theorem dX3_shorten_84 : decode cX3_shorten 84 = .ok (.goto 4, 3) := by decide +kernel
theorem dX3_shorten_87 : decode cX3_shorten 87 = .ok (.lload_n 3, 1) := by decide +kernel
theorem dX3_shorten_88 : decode cX3_shorten 88 = .ok (.lstore 5, 2) := by decide +kernel
theorem dX3_shorten_90 : decode cX3_shorten 90 = .ok (.iconst 0, 1) := by decide +kernel
theorem dX3_shorten_91 : decode cX3_shorten 91 = .ok (.istore 7, 2) := by decide +kernel
theorem dX3_shorten_93 : decode cX3_shorten 93 = .ok (.iload 7, 2) := by decide +kernel
theorem dX3_shorten_95 : decode cX3_shorten 95 = .ok (.aload_n 0, 1) := by decide +kernel
theorem dX3_shorten_96 : decode cX3_shorten 96 = .ok (.getfield 19, 3) := by decide +kernel
theorem dX3_shorten_99 : decode cX3_shorten 99 = .ok (.if_icmp .ge 42, 3) := by decide +kernel
theorem dX3_shorten_102 : decode cX3_shorten 102 = .ok (.iconst 0, 1) := by decide +kernel
theorem dX3_shorten_103 : decode cX3_shorten 103 = .ok (.istore 8, 2) := by decide +kernel
theorem dX3_shorten_105 : decode cX3_shorten 105 = .ok (.iload 8, 2) := by decide +kernel
theorem dX3_shorten_107 : decode cX3_shorten 107 = .ok (.aload_n 0, 1) := by decide +kernel
theorem dX3_shorten_108 : decode cX3_shorten 108 = .ok (.getfield 23, 3) := by decide +kernel
theorem dX3_shorten_111 : decode cX3_shorten 111 = .ok (.if_icmp .ge 24, 3) := by decide +kernel
theorem dX3_shorten_114 : decode cX3_shorten 114 = .ok (.aload_n 0, 1) := by decide +kernel
theorem dX3_shorten_115 : decode cX3_shorten 115 = .ok (.getfield 16, 3) := by decide +kernel
theorem dX3_shorten_118 : decode cX3_shorten 118 = .ok (.iload 7, 2) := by decide +kernel
theorem dX3_shorten_120 : decode cX3_shorten 120 = .ok (.aaload, 1) := by decide +kernel
theorem dX3_shorten_121 : decode cX3_shorten 121 = .ok (.iload 8, 2) := by decide +kernel
theorem dX3_shorten_123 : decode cX3_shorten 123 = .ok (.dup2, 1) := by decide +kernel
theorem dX3_shorten_124 : decode cX3_shorten 124 = .ok (.laload, 1) := by decide +kernel
theorem dX3_shorten_125 : decode cX3_shorten 125 = .ok (.lload 5, 2) := by decide +kernel
theorem dX3_shorten_127 : decode cX3_shorten 127 = .ok (.ldiv, 1) := by decide +kernel
theorem dX3_shorten_128 : decode cX3_shorten 128 = .ok (.lastore, 1) := by decide +kernel
theorem dX3_shorten_129 : decode cX3_shorten 129 = .ok (.iinc 8 1, 3) := by decide +kernel
theorem dX3_shorten_132 : decode cX3_shorten 132 = .ok (.goto (-27), 3) := by decide +kernel
theorem dX3_shorten_135 : decode cX3_shorten 135 = .ok (.iinc 7 1, 3) := by decide +kernel
theorem dX3_shorten_138 : decode cX3_shorten 138 = .ok (.goto (-45), 3) := by decide +kernel
theorem dX3_shorten_141 : decode cX3_shorten 141 = .ok (.return_, 1) := by decide +kernel
theorem dX3_commonDivisor_0 : decode cX3_commonDivisor 0 = .ok (.iconst 0, 1) := by decide +kernel
theorem dX3_commonDivisor_1 : decode cX3_commonDivisor 1 = .ok (.istore 4, 2) := by decide +kernel
theorem dX3_commonDivisor_3 : decode cX3_commonDivisor 3 = .ok (.iload 4, 2) := by decide +kernel
theorem dX3_commonDivisor_5 : decode cX3_commonDivisor 5 = .ok (.bipush 100, 2) := by decide +kernel
theorem dX3_commonDivisor_7 : decode cX3_commonDivisor 7 = .ok (.if_icmp .ge 25, 3) := by decide +kernel
theorem dX3_commonDivisor_10 : decode cX3_commonDivisor 10 = .ok (.lload_n 2, 1) := by decide +kernel
theorem dX3_commonDivisor_11 : decode cX3_commonDivisor 11 = .ok (.lconst 0, 1) := by decide +kernel
theorem dX3_commonDivisor_12 : decode cX3_commonDivisor 12 = .ok (.lcmp, 1) := by decide +kernel
theorem dX3_commonDivisor_13 : decode cX3_commonDivisor 13 = .ok (.ifCond .eq 19, 3) := by decide +kernel
theorem dX3_commonDivisor_16 : decode cX3_commonDivisor 16 = .ok (.lload_n 0, 1) := by decide +kernel
theorem dX3_commonDivisor_17 : decode cX3_commonDivisor 17 = .ok (.lload_n 2, 1) := by decide +kernel
theorem dX3_commonDivisor_18 : decode cX3_commonDivisor 18 = .ok (.lrem, 1) := by decide +kernel
theorem dX3_commonDivisor_19 : decode cX3_commonDivisor 19 = .ok (.lstore 5, 2) := by decide +kernel
theorem dX3_commonDivisor_21 : decode cX3_commonDivisor 21 = .ok (.lload_n 2, 1) := by decide +kernel
theorem dX3_commonDivisor_22 : decode cX3_commonDivisor 22 = .ok (.lstore_n 0, 1) := by decide +kernel
theorem dX3_commonDivisor_23 : decode cX3_commonDivisor 23 = .ok (.lload 5, 2) := by decide +kernel
theorem dX3_commonDivisor_25 : decode cX3_commonDivisor 25 = .ok (.lstore_n 2, 1) := by decide +kernel
theorem dX3_commonDivisor_26 : decode cX3_commonDivisor 26 = .ok (.iinc 4 1, 3) := by decide +kernel
theorem dX3_commonDivisor_29 : decode cX3_commonDivisor 29 = .ok (.goto (-26), 3) := by decide +kernel
theorem dX3_commonDivisor_32 : decode cX3_commonDivisor 32 = .ok (.lload_n 0, 1) := by decide +kernel
theorem dX3_commonDivisor_33 : decode cX3_commonDivisor 33 = .ok (.lreturn, 1) := by decide +kernel
theorem dX4_init_0 : decode cX4_init 0 = .ok (.aload_n 0, 1) := by decide +kernel
theorem dX4_init_1 : decode cX4_init 1 = .ok (.invokespecial 1, 3) := by decide +kernel
theorem dX4_init_4 : decode cX4_init 4 = .ok (.aload_n 0, 1) := by decide +kernel
theorem dX4_init_5 : decode cX4_init 5 = .ok (.lconst 0, 1) := by decide +kernel
theorem dX4_init_6 : decode cX4_init 6 = .ok (.putfield 7, 3) := by decide +kernel
theorem dX4_init_9 : decode cX4_init 9 = .ok (.aload_n 0, 1) := by decide +kernel
theorem dX4_init_10 : decode cX4_init 10 = .ok (.iconst 0, 1) := by decide +kernel
theorem dX4_init_11 : decode cX4_init 11 = .ok (.putfield 13, 3) := by decide +kernel
theorem dX4_init_14 : decode cX4_init 14 = .ok (.return_, 1) := by decide +kernel
set_option maxRecDepth 20000 in
theorem ggX4_find_X0_lastHead : GoodIn wsX4_find wsX0_lastHead := goodIn_r _ [12, 13, 14, 15, 16, 17, 18, 19, 20, 21, 22, 23, 6, 24, 25, 26, 27, 28, 29, 30, 31, 32, 33, 34, 108, 109, 110, 111, 112, 113, 114, 115, 116] (by decide +kernel) (by decide +kernel)
set_option maxRecDepth 20000 in
theorem gX4_find_X0_lastHead : GoodIn wsX4_find (wsV RX4 17 RX0 yX0_lastHead wsX0_lastHead) := goodIn_app (goodIn_of _ (by decide +kernel)) ggX4_find_X0_lastHead
set_option maxRecDepth 20000 in
theorem ggX4_find_X1_underAll : GoodIn wsX4_find wsX1_underAll := goodIn_r _ [39, 40, 41, 42, 43, 44, 38, 45, 46, 47, 48, 49, 50, 51, 19, 52, 34, 30, 31, 32, 33, 21, 29, 53, 26, 27, 28, 54, 55, 56, 57, 58, 59, 60, 11, 61, 15, 62, 63, 64, 65, 66, 67, 68, 69, 70, 71, 72, 73, 74, 75, 76, 77, 78, 79, 80, 81, 82, 83, 84, 85, 86, 87, 88, 89, 90, 91, 92, 93, 94, 95, 96, 108, 109, 110, 111, 112, 113, 114, 115, 116, 117, 118, 119, 120, 121, 122, 123, 124, 125, 126] (by decide +kernel) (by decide +kernel)
set_option maxRecDepth 20000 in
theorem gX4_find_X1_underAll : GoodIn wsX4_find (wsV RX4 23 RX1 yX1_underAll wsX1_underAll) := goodIn_app (goodIn_of _ (by decide +kernel)) ggX4_find_X1_underAll
set_option maxRecDepth 20000 in
theorem ggX4_find_X1_momentAt : GoodIn wsX4_find wsX1_momentAt := goodIn_r _ [100, 90, 117, 118, 119, 120, 121] (by decide +kernel) (by decide +kernel)
set_option maxRecDepth 20000 in
theorem gX4_find_X1_momentAt : GoodIn wsX4_find (wsV RX4 32 RX1 yX1_momentAt wsX1_momentAt) := goodIn_app (goodIn_of _ (by decide +kernel)) ggX4_find_X1_momentAt
set_option maxRecDepth 20000 in
theorem ggX4_find_X4_look : GoodIn wsX4_find wsX4_look := goodIn_r _ [105, 1, 2, 106, 107] (by decide +kernel) (by decide +kernel)
set_option maxRecDepth 20000 in
theorem gX4_find_X4_look : GoodIn wsX4_find (wsV RX4 42 RX4 yX4_look wsX4_look) := goodIn_app (goodIn_of _ (by decide +kernel)) ggX4_find_X4_look
theorem dX4_find_0 : decode cX4_find 0 = .ok (.aload_n 0, 1) := by decide +kernel
theorem dX4_find_1 : decode cX4_find 1 = .ok (.lconst 0, 1) := by decide +kernel
theorem dX4_find_2 : decode cX4_find 2 = .ok (.putfield 7, 3) := by decide +kernel
theorem dX4_find_5 : decode cX4_find 5 = .ok (.aload_n 0, 1) := by decide +kernel
theorem dX4_find_6 : decode cX4_find 6 = .ok (.iconst 0, 1) := by decide +kernel
theorem dX4_find_7 : decode cX4_find 7 = .ok (.putfield 13, 3) := by decide +kernel
theorem dX4_find_10 : decode cX4_find 10 = .ok (.aload_n 1, 1) := by decide +kernel
theorem dX4_find_11 : decode cX4_find 11 = .ok (.invokevirtual 17, 3) := by decide +kernel
theorem dX4_find_14 : decode cX4_find 14 = .ok (.istore 4, 2) := by decide +kernel
theorem dX4_find_16 : decode cX4_find 16 = .ok (.iconst 0, 1) := by decide +kernel
theorem dX4_find_17 : decode cX4_find 17 = .ok (.istore 5, 2) := by decide +kernel
theorem dX4_find_19 : decode cX4_find 19 = .ok (.iload 5, 2) := by decide +kernel
theorem dX4_find_21 : decode cX4_find 21 = .ok (.iload 4, 2) := by decide +kernel
theorem dX4_find_23 : decode cX4_find 23 = .ok (.if_icmp .gt 50, 3) := by decide +kernel
theorem dX4_find_26 : decode cX4_find 26 = .ok (.aload_n 3, 1) := by decide +kernel
theorem dX4_find_27 : decode cX4_find 27 = .ok (.aload_n 1, 1) := by decide +kernel
theorem dX4_find_28 : decode cX4_find 28 = .ok (.aload_n 2, 1) := by decide +kernel
theorem dX4_find_29 : decode cX4_find 29 = .ok (.iload 5, 2) := by decide +kernel
theorem dX4_find_31 : decode cX4_find 31 = .ok (.invokevirtual 23, 3) := by decide +kernel
theorem dX4_find_34 : decode cX4_find 34 = .ok (.iconst 0, 1) := by decide +kernel
theorem dX4_find_35 : decode cX4_find 35 = .ok (.istore 6, 2) := by decide +kernel
theorem dX4_find_37 : decode cX4_find 37 = .ok (.iload 6, 2) := by decide +kernel
theorem dX4_find_39 : decode cX4_find 39 = .ok (.aload_n 1, 1) := by decide +kernel
theorem dX4_find_40 : decode cX4_find 40 = .ok (.getfield 29, 3) := by decide +kernel
theorem dX4_find_43 : decode cX4_find 43 = .ok (.if_icmp .gt 24, 3) := by decide +kernel
theorem dX4_find_46 : decode cX4_find 46 = .ok (.aload_n 0, 1) := by decide +kernel
theorem dX4_find_47 : decode cX4_find 47 = .ok (.aload_n 3, 1) := by decide +kernel
theorem dX4_find_48 : decode cX4_find 48 = .ok (.iload 6, 2) := by decide +kernel
theorem dX4_find_50 : decode cX4_find 50 = .ok (.invokevirtual 32, 3) := by decide +kernel
theorem dX4_find_53 : decode cX4_find 53 = .ok (.invokestatic 36, 3) := by decide +kernel
theorem dX4_find_56 : decode cX4_find 56 = .ok (.iload 6, 2) := by decide +kernel
theorem dX4_find_58 : decode cX4_find 58 = .ok (.invokevirtual 42, 3) := by decide +kernel
theorem dX4_find_61 : decode cX4_find 61 = .ok (.iinc 6 1, 3) := by decide +kernel
theorem dX4_find_64 : decode cX4_find 64 = .ok (.goto (-27), 3) := by decide +kernel
theorem dX4_find_67 : decode cX4_find 67 = .ok (.iinc 5 1, 3) := by decide +kernel
theorem dX4_find_70 : decode cX4_find 70 = .ok (.goto (-51), 3) := by decide +kernel
theorem dX4_find_73 : decode cX4_find 73 = .ok (.return_, 1) := by decide +kernel
theorem dX4_look_0 : decode cX4_look 0 = .ok (.lload_n 1, 1) := by decide +kernel
theorem dX4_look_1 : decode cX4_look 1 = .ok (.aload_n 0, 1) := by decide +kernel
theorem dX4_look_2 : decode cX4_look 2 = .ok (.getfield 7, 3) := by decide +kernel
theorem dX4_look_5 : decode cX4_look 5 = .ok (.lcmp, 1) := by decide +kernel
theorem dX4_look_6 : decode cX4_look 6 = .ok (.ifCond .gt 20, 3) := by decide +kernel
theorem dX4_look_9 : decode cX4_look 9 = .ok (.lload_n 1, 1) := by decide +kernel
theorem dX4_look_10 : decode cX4_look 10 = .ok (.aload_n 0, 1) := by decide +kernel
theorem dX4_look_11 : decode cX4_look 11 = .ok (.getfield 7, 3) := by decide +kernel
theorem dX4_look_14 : decode cX4_look 14 = .ok (.lcmp, 1) := by decide +kernel
theorem dX4_look_15 : decode cX4_look 15 = .ok (.ifCond .ne 21, 3) := by decide +kernel
theorem dX4_look_18 : decode cX4_look 18 = .ok (.iload_n 3, 1) := by decide +kernel
theorem dX4_look_19 : decode cX4_look 19 = .ok (.aload_n 0, 1) := by decide +kernel
theorem dX4_look_20 : decode cX4_look 20 = .ok (.getfield 13, 3) := by decide +kernel
theorem dX4_look_23 : decode cX4_look 23 = .ok (.if_icmp .ge 13, 3) := by decide +kernel
theorem dX4_look_26 : decode cX4_look 26 = .ok (.aload_n 0, 1) := by decide +kernel
theorem dX4_look_27 : decode cX4_look 27 = .ok (.lload_n 1, 1) := by decide +kernel
theorem dX4_look_28 : decode cX4_look 28 = .ok (.putfield 7, 3) := by decide +kernel
theorem dX4_look_31 : decode cX4_look 31 = .ok (.aload_n 0, 1) := by decide +kernel
theorem dX4_look_32 : decode cX4_look 32 = .ok (.iload_n 3, 1) := by decide +kernel
theorem dX4_look_33 : decode cX4_look 33 = .ok (.putfield 13, 3) := by decide +kernel
theorem dX4_look_36 : decode cX4_look 36 = .ok (.return_, 1) := by decide +kernel
set_option maxRecDepth 20000 in
theorem ggX5_init_X7_init : GoodIn wsX5_init wsX7_init := goodIn_r _ [16, 17, 2, 3, 18, 19, 20, 21, 22, 23, 24, 25, 26, 50, 51, 52, 53, 54, 55, 56] (by decide +kernel) (by decide +kernel)
set_option maxRecDepth 20000 in
theorem gX5_init_X7_init_n11 : GoodIn wsX5_init (wsX7_init) := ggX5_init_X7_init
set_option maxRecDepth 20000 in
theorem ggX5_init_X0_init : GoodIn wsX5_init wsX0_init := goodIn_r _ [28, 29, 2, 3, 30, 31, 32, 33, 34, 35, 36, 37, 38, 39, 40, 41, 42, 43, 44, 45, 46, 47, 21, 48, 49, 62, 63, 64, 65, 66, 67, 68, 69, 70] (by decide +kernel) (by decide +kernel)
set_option maxRecDepth 20000 in
theorem gX5_init_X0_init_n20 : GoodIn wsX5_init (wsX0_init) := ggX5_init_X0_init
theorem dX5_init_0 : decode cX5_init 0 = .ok (.aload_n 0, 1) := by decide +kernel
theorem dX5_init_1 : decode cX5_init 1 = .ok (.invokespecial 3, 3) := by decide +kernel
theorem dX5_init_4 : decode cX5_init 4 = .ok (.aload_n 0, 1) := by decide +kernel
theorem dX5_init_5 : decode cX5_init 5 = .ok (.new 9, 3) := by decide +kernel
theorem dX5_init_8 : decode cX5_init 8 = .ok (.dup, 1) := by decide +kernel
theorem dX5_init_9 : decode cX5_init 9 = .ok (.invokespecial 11, 3) := by decide +kernel
theorem dX5_init_12 : decode cX5_init 12 = .ok (.putfield 12, 3) := by decide +kernel
theorem dX5_init_15 : decode cX5_init 15 = .ok (.aload_n 0, 1) := by decide +kernel
theorem dX5_init_16 : decode cX5_init 16 = .ok (.new 18, 3) := by decide +kernel
theorem dX5_init_19 : decode cX5_init 19 = .ok (.dup, 1) := by decide +kernel
theorem dX5_init_20 : decode cX5_init 20 = .ok (.invokespecial 20, 3) := by decide +kernel
theorem dX5_init_23 : decode cX5_init 23 = .ok (.putfield 21, 3) := by decide +kernel
theorem dX5_init_26 : decode cX5_init 26 = .ok (.aload_n 0, 1) := by decide +kernel
theorem dX5_init_27 : decode cX5_init 27 = .ok (.iconst 0, 1) := by decide +kernel
theorem dX5_init_28 : decode cX5_init 28 = .ok (.putfield 25, 3) := by decide +kernel
theorem dX5_init_31 : decode cX5_init 31 = .ok (.aload_n 0, 1) := by decide +kernel
theorem dX5_init_32 : decode cX5_init 32 = .ok (.iconst 0, 1) := by decide +kernel
theorem dX5_init_33 : decode cX5_init 33 = .ok (.putfield 29, 3) := by decide +kernel
theorem dX5_init_36 : decode cX5_init 36 = .ok (.aload_n 0, 1) := by decide +kernel
theorem dX5_init_37 : decode cX5_init 37 = .ok (.iconst (-1), 1) := by decide +kernel
theorem dX5_init_38 : decode cX5_init 38 = .ok (.putfield 32, 3) := by decide +kernel
theorem dX5_init_41 : decode cX5_init 41 = .ok (.return_, 1) := by decide +kernel
set_option maxRecDepth 20000 in
theorem ggX5_readText_X0_makeBare : GoodIn wsX5_readText wsX0_makeBare := goodIn_r _ [11, 12, 13, 14, 15, 16, 222, 223, 224, 225, 226, 227, 228, 229, 230] (by decide +kernel) (by decide +kernel)
set_option maxRecDepth 20000 in
theorem gX5_readText_X0_makeBare : GoodIn wsX5_readText (wsV RX5 35 RX0 yX0_makeBare wsX0_makeBare) := goodIn_app (goodIn_of _ (by decide +kernel)) ggX5_readText_X0_makeBare
set_option maxRecDepth 20000 in
theorem ggX5_readText_X7_split : GoodIn wsX5_readText wsX7_split := goodIn_r _ [21, 22, 23, 24, 25, 26, 20, 27, 28, 29, 30, 31, 32, 33, 34, 35, 36, 37, 38, 39, 40, 41, 42, 43, 44, 45, 46, 47, 48, 49, 50, 51, 52, 215, 216, 217, 218, 219, 220, 221] (by decide +kernel) (by decide +kernel)
set_option maxRecDepth 20000 in
theorem gX5_readText_X7_split : GoodIn wsX5_readText (wsV RX5 38 RX7 yX7_split wsX7_split) := goodIn_app (goodIn_of _ (by decide +kernel)) ggX5_readText_X7_split
set_option maxRecDepth 20000 in
theorem ggX5_readText_X5_readHead : GoodIn wsX5_readText wsX5_readHead := goodIn_r _ [57, 58, 4, 59, 60, 61, 62, 63, 56, 64, 5, 1, 65, 66, 67, 20, 68, 36, 43, 37, 49, 50, 51, 52, 22, 69, 70, 71, 72, 73, 74, 75, 76, 77, 78, 79, 80, 24, 25, 26, 27, 23, 28, 81, 82, 83, 84, 85, 86, 87, 88, 89, 90, 91, 92, 93, 94, 95, 96, 97, 98, 99, 100, 101, 102, 103, 104, 105, 106, 107, 108, 109, 110, 111, 112, 113, 114, 115, 116, 117, 118, 119, 120, 121, 122, 123, 124, 125, 2, 3, 126, 127, 128, 129, 130, 131, 132, 133, 134, 135, 136, 137, 38, 138, 139, 140, 141, 210, 211, 212, 213, 214, 222, 223, 224, 225, 226, 227, 215, 216, 217, 218, 219, 220, 221] (by decide +kernel) (by decide +kernel)
set_option maxRecDepth 20000 in
theorem gX5_readText_X5_readHead : GoodIn wsX5_readText (wsV RX5 41 RX5 yX5_readHead wsX5_readHead) := goodIn_app (goodIn_of _ (by decide +kernel)) ggX5_readText_X5_readHead
set_option maxRecDepth 20000 in
theorem ggX5_readText_X7_kindOf : GoodIn wsX5_readText wsX7_kindOf := goodIn_r _ [133, 22, 36, 215, 216, 217, 218, 219, 220, 221] (by decide +kernel) (by decide +kernel)
set_option maxRecDepth 20000 in
theorem gX5_readText_X7_kindOf : GoodIn wsX5_readText (wsV RX5 48 RX7 yX7_kindOf wsX7_kindOf) := goodIn_app (goodIn_of _ (by decide +kernel)) ggX5_readText_X7_kindOf
set_option maxRecDepth 20000 in
theorem ggX5_readText_X5_readStatement : GoodIn wsX5_readText wsX5_readStatement := goodIn_r _ [145, 5, 1, 4, 146, 59, 147, 65, 66, 67, 20, 68, 36, 43, 37, 49, 50, 51, 52, 22, 69, 70, 71, 72, 73, 74, 75, 76, 77, 78, 79, 80, 24, 25, 26, 27, 23, 28, 81, 82, 83, 84, 85, 86, 87, 88, 89, 90, 91, 92, 93, 94, 95, 96, 97, 98, 99, 100, 101, 102, 103, 104, 105, 106, 107, 108, 109, 110, 111, 112, 113, 114, 115, 116, 117, 148, 149, 150, 56, 151, 152, 153, 154, 155, 156, 157, 158, 159, 160, 161, 162, 163, 164, 165, 118, 119, 120, 121, 122, 123, 124, 125, 2, 3, 166, 167, 168, 169, 126, 127, 128, 129, 130, 131, 132, 133, 134, 135, 136, 137, 38, 170, 171, 172, 10, 173, 12, 14, 174, 175, 176, 177, 178, 179, 180, 181, 182, 183, 184, 185, 186, 187, 188, 189, 190, 138, 139, 140, 141, 191, 192, 193, 194, 195, 196, 197, 198, 199, 61, 62, 63, 64, 200, 201, 202, 203, 210, 211, 212, 213, 214, 222, 223, 224, 225, 226, 227, 215, 216, 217, 218, 219, 220, 221, 228, 229, 230] (by decide +kernel) (by decide +kernel)
set_option maxRecDepth 20000 in
theorem gX5_readText_X5_readStatement : GoodIn wsX5_readText (wsV RX5 52 RX5 yX5_readStatement wsX5_readStatement) := goodIn_app (goodIn_of _ (by decide +kernel)) ggX5_readText_X5_readStatement
set_option maxRecDepth 20000 in
theorem ggX5_readText_X5_checkHinges : GoodIn wsX5_readText wsX5_checkHinges := goodIn_r _ [207, 4, 152, 208, 195, 5, 209, 122, 123, 124, 56, 125, 2, 3, 210, 211, 212, 213, 214, 222, 223, 224, 225, 226, 227, 228, 229, 230, 215, 216, 217, 218, 219, 220, 221] (by decide +kernel) (by decide +kernel)
set_option maxRecDepth 20000 in
theorem gX5_readText_X5_checkHinges : GoodIn wsX5_readText (wsV RX5 55 RX5 yX5_checkHinges wsX5_checkHinges) := goodIn_app (goodIn_of _ (by decide +kernel)) ggX5_readText_X5_checkHinges
theorem dX5_readText_0 : decode cX5_readText 0 = .ok (.aload_n 0, 1) := by decide +kernel
theorem dX5_readText_1 : decode cX5_readText 1 = .ok (.iconst 0, 1) := by decide +kernel
theorem dX5_readText_2 : decode cX5_readText 2 = .ok (.putfield 25, 3) := by decide +kernel
theorem dX5_readText_5 : decode cX5_readText 5 = .ok (.aload_n 0, 1) := by decide +kernel
theorem dX5_readText_6 : decode cX5_readText 6 = .ok (.iconst 0, 1) := by decide +kernel
theorem dX5_readText_7 : decode cX5_readText 7 = .ok (.putfield 29, 3) := by decide +kernel
theorem dX5_readText_10 : decode cX5_readText 10 = .ok (.aload_n 0, 1) := by decide +kernel
theorem dX5_readText_11 : decode cX5_readText 11 = .ok (.iconst (-1), 1) := by decide +kernel
theorem dX5_readText_12 : decode cX5_readText 12 = .ok (.putfield 32, 3) := by decide +kernel
theorem dX5_readText_15 : decode cX5_readText 15 = .ok (.aload_n 0, 1) := by decide +kernel
theorem dX5_readText_16 : decode cX5_readText 16 = .ok (.getfield 21, 3) := by decide +kernel
theorem dX5_readText_19 : decode cX5_readText 19 = .ok (.invokevirtual 35, 3) := by decide +kernel
theorem dX5_readText_22 : decode cX5_readText 22 = .ok (.aload_n 0, 1) := by decide +kernel
theorem dX5_readText_23 : decode cX5_readText 23 = .ok (.getfield 12, 3) := by decide +kernel
theorem dX5_readText_26 : decode cX5_readText 26 = .ok (.invokevirtual 38, 3) := by decide +kernel
theorem dX5_readText_29 : decode cX5_readText 29 = .ok (.aload_n 0, 1) := by decide +kernel
theorem dX5_readText_30 : decode cX5_readText 30 = .ok (.invokevirtual 41, 3) := by decide +kernel
theorem dX5_readText_33 : decode cX5_readText 33 = .ok (.ifCond .ne 5, 3) := by decide +kernel
theorem dX5_readText_36 : decode cX5_readText 36 = .ok (.iconst 0, 1) := by decide +kernel
theorem dX5_readText_37 : decode cX5_readText 37 = .ok (.ireturn, 1) := by decide +kernel
theorem dX5_readText_38 : decode cX5_readText 38 = .ok (.iconst 0, 1) := by decide +kernel
theorem dX5_readText_39 : decode cX5_readText 39 = .ok (.istore_n 1, 1) := by decide +kernel
theorem dX5_readText_40 : decode cX5_readText 40 = .ok (.iload_n 1, 1) := by decide +kernel
theorem dX5_readText_41 : decode cX5_readText 41 = .ok (.aload_n 0, 1) := by decide +kernel
theorem dX5_readText_42 : decode cX5_readText 42 = .ok (.getfield 12, 3) := by decide +kernel
theorem dX5_readText_45 : decode cX5_readText 45 = .ok (.getfield 45, 3) := by decide +kernel
theorem dX5_readText_48 : decode cX5_readText 48 = .ok (.if_icmp .ge 32, 3) := by decide +kernel
theorem dX5_readText_51 : decode cX5_readText 51 = .ok (.aload_n 0, 1) := by decide +kernel
theorem dX5_readText_52 : decode cX5_readText 52 = .ok (.getfield 12, 3) := by decide +kernel
theorem dX5_readText_55 : decode cX5_readText 55 = .ok (.aload_n 0, 1) := by decide +kernel
theorem dX5_readText_56 : decode cX5_readText 56 = .ok (.getfield 25, 3) := by decide +kernel
theorem dX5_readText_59 : decode cX5_readText 59 = .ok (.invokevirtual 48, 3) := by decide +kernel
theorem dX5_readText_62 : decode cX5_readText 62 = .ok (.ifCond .eq 18, 3) := by decide +kernel
theorem dX5_readText_65 : decode cX5_readText 65 = .ok (.aload_n 0, 1) := by decide +kernel
theorem dX5_readText_66 : decode cX5_readText 66 = .ok (.invokevirtual 52, 3) := by decide +kernel
theorem dX5_readText_69 : decode cX5_readText 69 = .ok (.ifCond .ne 5, 3) := by decide +kernel
theorem dX5_readText_72 : decode cX5_readText 72 = .ok (.iconst 0, 1) := by decide +kernel
theorem dX5_readText_73 : decode cX5_readText 73 = .ok (.ireturn, 1) := by decide +kernel
theorem dX5_readText_74 : decode cX5_readText 74 = .ok (.iinc 1 1, 3) := by decide +kernel
theorem dX5_readText_77 : decode cX5_readText 77 = .ok (.goto (-37), 3) := by decide +kernel
theorem dX5_readText_80 : decode cX5_readText 80 = .ok (.aload_n 0, 1) := by decide +kernel
theorem dX5_readText_81 : decode cX5_readText 81 = .ok (.invokevirtual 55, 3) := by decide +kernel
theorem dX5_readText_84 : decode cX5_readText 84 = .ok (.ireturn, 1) := by decide +kernel
set_option maxRecDepth 20000 in
theorem ggX5_readHead_X5_takeWord : GoodIn wsX5_readHead wsX5_takeWord := goodIn_r _ [9, 10, 11, 12, 13, 14, 15, 16, 17, 18, 19, 20, 21, 22, 23, 24, 25, 26, 27, 28, 29, 30, 31, 32, 33, 34, 35, 36, 37, 38, 39, 40, 41, 42, 43, 44, 45, 46, 47, 48, 49, 50, 51, 52, 53, 54, 55, 56, 57, 58, 59, 60, 61, 62, 63, 64, 65, 66, 67, 68, 69, 70, 71, 72, 73, 74, 75, 76, 77, 78, 79, 80, 81, 82, 83, 84, 85, 86, 8, 87, 88, 89, 107, 108, 109, 110, 111, 118, 119, 120, 121, 122, 123, 124] (by decide +kernel) (by decide +kernel)
set_option maxRecDepth 20000 in
theorem gX5_readHead_X5_takeWord : GoodIn wsX5_readHead (wsV RX5 59 RX5 yX5_takeWord wsX5_takeWord) := goodIn_app (goodIn_of _ (by decide +kernel)) ggX5_readHead_X5_takeWord
set_option maxRecDepth 20000 in
theorem ggX5_readHead_X5_takeNumber : GoodIn wsX5_readHead wsX5_takeNumber := goodIn_r _ [93, 10, 11, 94, 95, 96, 15, 97, 24, 17, 80, 81, 82, 83, 19, 41, 84, 85, 86, 8, 87, 88, 89, 98, 99, 100, 101, 102, 107, 108, 109, 110, 111, 118, 119, 120, 121, 122, 123, 124] (by decide +kernel) (by decide +kernel)
set_option maxRecDepth 20000 in
theorem gX5_readHead_X5_takeNumber : GoodIn wsX5_readHead (wsV RX5 63 RX5 yX5_takeNumber wsX5_takeNumber) := goodIn_app (goodIn_of _ (by decide +kernel)) ggX5_readHead_X5_takeNumber
set_option maxRecDepth 20000 in
theorem ggX5_readHead_X5_takeSemicolon : GoodIn wsX5_readHead wsX5_takeSemicolon := goodIn_r _ [106, 10, 11, 94, 95, 96, 15, 97, 24, 17, 80, 81, 82, 83, 19, 41, 84, 85, 86, 8, 87, 88, 89, 107, 108, 109, 110, 111, 118, 119, 120, 121, 122, 123, 124] (by decide +kernel) (by decide +kernel)
set_option maxRecDepth 20000 in
theorem gX5_readHead_X5_takeSemicolon : GoodIn wsX5_readHead (wsV RX5 75 RX5 yX5_takeSemicolon wsX5_takeSemicolon) := goodIn_app (goodIn_of _ (by decide +kernel)) ggX5_readHead_X5_takeSemicolon
theorem dX5_readHead_0 : decode cX5_readHead 0 = .ok (.aload_n 0, 1) := by decide +kernel
theorem dX5_readHead_1 : decode cX5_readHead 1 = .ok (.ldc 58, 2) := by decide +kernel
theorem dX5_readHead_3 : decode cX5_readHead 3 = .ok (.invokevirtual 59, 3) := by decide +kernel
theorem dX5_readHead_6 : decode cX5_readHead 6 = .ok (.ifCond .ne 5, 3) := by decide +kernel
theorem dX5_readHead_9 : decode cX5_readHead 9 = .ok (.iconst 0, 1) := by decide +kernel
theorem dX5_readHead_10 : decode cX5_readHead 10 = .ok (.ireturn, 1) := by decide +kernel
theorem dX5_readHead_11 : decode cX5_readHead 11 = .ok (.aload_n 0, 1) := by decide +kernel
theorem dX5_readHead_12 : decode cX5_readHead 12 = .ok (.iconst 2, 1) := by decide +kernel
theorem dX5_readHead_13 : decode cX5_readHead 13 = .ok (.bipush 30, 2) := by decide +kernel
theorem dX5_readHead_15 : decode cX5_readHead 15 = .ok (.invokevirtual 63, 3) := by decide +kernel
theorem dX5_readHead_18 : decode cX5_readHead 18 = .ok (.istore_n 1, 1) := by decide +kernel
theorem dX5_readHead_19 : decode cX5_readHead 19 = .ok (.iload_n 1, 1) := by decide +kernel
theorem dX5_readHead_20 : decode cX5_readHead 20 = .ok (.iconst (-1), 1) := by decide +kernel
theorem dX5_readHead_21 : decode cX5_readHead 21 = .ok (.if_icmp .eq 12, 3) := by decide +kernel
theorem dX5_readHead_24 : decode cX5_readHead 24 = .ok (.aload_n 0, 1) := by decide +kernel
theorem dX5_readHead_25 : decode cX5_readHead 25 = .ok (.ldc 67, 2) := by decide +kernel
theorem dX5_readHead_27 : decode cX5_readHead 27 = .ok (.invokevirtual 59, 3) := by decide +kernel
theorem dX5_readHead_30 : decode cX5_readHead 30 = .ok (.ifCond .ne 5, 3) := by decide +kernel
theorem dX5_readHead_33 : decode cX5_readHead 33 = .ok (.iconst 0, 1) := by decide +kernel
theorem dX5_readHead_34 : decode cX5_readHead 34 = .ok (.ireturn, 1) := by decide +kernel
theorem dX5_readHead_35 : decode cX5_readHead 35 = .ok (.aload_n 0, 1) := by decide +kernel
theorem dX5_readHead_36 : decode cX5_readHead 36 = .ok (.iconst 1, 1) := by decide +kernel
theorem dX5_readHead_37 : decode cX5_readHead 37 = .ok (.ldc 69, 2) := by decide +kernel
theorem dX5_readHead_39 : decode cX5_readHead 39 = .ok (.invokevirtual 63, 3) := by decide +kernel
theorem dX5_readHead_42 : decode cX5_readHead 42 = .ok (.istore_n 2, 1) := by decide +kernel
theorem dX5_readHead_43 : decode cX5_readHead 43 = .ok (.iload_n 2, 1) := by decide +kernel
theorem dX5_readHead_44 : decode cX5_readHead 44 = .ok (.iconst (-1), 1) := by decide +kernel
theorem dX5_readHead_45 : decode cX5_readHead 45 = .ok (.if_icmp .ne 5, 3) := by decide +kernel
theorem dX5_readHead_48 : decode cX5_readHead 48 = .ok (.iconst 0, 1) := by decide +kernel
theorem dX5_readHead_49 : decode cX5_readHead 49 = .ok (.ireturn, 1) := by decide +kernel
theorem dX5_readHead_50 : decode cX5_readHead 50 = .ok (.aload_n 0, 1) := by decide +kernel
theorem dX5_readHead_51 : decode cX5_readHead 51 = .ok (.getfield 21, 3) := by decide +kernel
theorem dX5_readHead_54 : decode cX5_readHead 54 = .ok (.iload_n 1, 1) := by decide +kernel
theorem dX5_readHead_55 : decode cX5_readHead 55 = .ok (.putfield 70, 3) := by decide +kernel
theorem dX5_readHead_58 : decode cX5_readHead 58 = .ok (.aload_n 0, 1) := by decide +kernel
theorem dX5_readHead_59 : decode cX5_readHead 59 = .ok (.getfield 21, 3) := by decide +kernel
theorem dX5_readHead_62 : decode cX5_readHead 62 = .ok (.iload_n 2, 1) := by decide +kernel
theorem dX5_readHead_63 : decode cX5_readHead 63 = .ok (.putfield 73, 3) := by decide +kernel
theorem dX5_readHead_66 : decode cX5_readHead 66 = .ok (.aload_n 0, 1) := by decide +kernel
theorem dX5_readHead_67 : decode cX5_readHead 67 = .ok (.invokevirtual 75, 3) := by decide +kernel
theorem dX5_readHead_70 : decode cX5_readHead 70 = .ok (.ireturn, 1) := by decide +kernel
set_option maxRecDepth 20000 in
theorem ggX5_readStatement_X7_isWord : GoodIn wsX5_readStatement wsX7_isWord := goodIn_r _ [11, 12, 13, 14, 15, 16, 17, 10, 18, 19, 20, 21, 22, 23, 24, 25, 26, 27, 28, 29, 30, 31, 32, 33, 34, 35, 36, 37, 38, 39, 40, 41, 42, 43, 44, 45, 46, 47, 48, 49, 50, 51, 52, 53, 54, 55, 56, 57, 58, 59, 60, 61, 62, 63, 64, 65, 66, 67, 68, 69, 70, 71, 72, 73, 74, 177, 178, 179, 180, 181, 182, 183] (by decide +kernel) (by decide +kernel)
set_option maxRecDepth 20000 in
theorem gX5_readStatement_X7_isWord : GoodIn wsX5_readStatement (wsV RX5 80 RX7 yX7_isWord wsX7_isWord) := goodIn_app (goodIn_of _ (by decide +kernel)) ggX5_readStatement_X7_isWord
set_option maxRecDepth 20000 in
theorem ggX5_readStatement_X5_readSupport : GoodIn wsX5_readStatement wsX5_readSupport := goodIn_r _ [79, 3, 80, 5, 1, 2, 81, 82, 83, 84, 78, 85, 86, 87, 88, 89, 90, 91, 92, 93, 94, 95, 96, 10, 97, 19, 14, 36, 98, 99, 100, 101, 102, 103, 104, 105, 106, 107, 108, 109, 110, 111, 112, 113, 114, 115, 12, 116, 117, 118, 119, 120, 121, 122, 123, 124, 125, 126, 127, 128, 129, 130, 131, 7, 8, 9, 11, 13, 15, 16, 17, 18, 20, 21, 22, 23, 24, 25, 26, 27, 28, 29, 30, 31, 32, 33, 34, 35, 37, 38, 39, 40, 41, 42, 43, 44, 45, 46, 47, 48, 49, 50, 51, 52, 53, 54, 55, 56, 57, 58, 59, 60, 61, 62, 63, 64, 65, 66, 67, 68, 69, 70, 71, 72, 73, 74, 132, 133, 134, 135, 136, 137, 138, 139, 140, 141, 142, 143, 144, 145, 146, 147, 148, 166, 167, 168, 169, 170, 171, 172, 173, 174, 175, 176, 184, 185, 186, 177, 178, 179, 180, 181, 182, 183] (by decide +kernel) (by decide +kernel)
set_option maxRecDepth 20000 in
theorem gX5_readStatement_X5_readSupport : GoodIn wsX5_readStatement (wsV RX5 84 RX5 yX5_readSupport wsX5_readSupport) := goodIn_app (goodIn_of _ (by decide +kernel)) ggX5_readStatement_X5_readSupport
set_option maxRecDepth 20000 in
theorem ggX5_readStatement_X5_readHinge : GoodIn wsX5_readStatement wsX5_readHinge := goodIn_r _ [152, 3, 153, 5, 82, 83, 84, 78, 85, 1, 2, 86, 87, 88, 89, 90, 91, 92, 93, 94, 95, 96, 10, 97, 19, 14, 36, 98, 99, 100, 101, 102, 103, 104, 105, 106, 107, 108, 109, 110, 111, 112, 113, 114, 115, 12, 116, 117, 118, 119, 120, 121, 122, 123, 124, 125, 126, 127, 128, 129, 130, 131, 132, 133, 134, 135, 136, 137, 138, 139, 140, 141, 142, 143, 144, 145, 146, 147, 148, 166, 167, 168, 169, 170, 171, 172, 173, 174, 175, 176, 184, 185, 186, 177, 178, 179, 180, 181, 182, 183] (by decide +kernel) (by decide +kernel)
set_option maxRecDepth 20000 in
theorem gX5_readStatement_X5_readHinge : GoodIn wsX5_readStatement (wsV RX5 89 RX5 yX5_readHinge wsX5_readHinge) := goodIn_app (goodIn_of _ (by decide +kernel)) ggX5_readStatement_X5_readHinge
set_option maxRecDepth 20000 in
theorem ggX5_readStatement_X5_readWeight : GoodIn wsX5_readStatement wsX5_readWeight := goodIn_r _ [157, 82, 83, 84, 78, 85, 1, 2, 86, 87, 88, 89, 90, 91, 92, 93, 94, 95, 96, 10, 97, 19, 14, 36, 98, 99, 100, 101, 102, 103, 108, 109, 110, 111, 112, 113, 114, 115, 12, 116, 117, 118, 119, 120, 158, 159, 160, 161, 7, 8, 9, 11, 13, 15, 16, 17, 18, 20, 21, 22, 23, 24, 25, 26, 27, 28, 29, 30, 31, 32, 33, 34, 35, 37, 38, 39, 40, 41, 42, 43, 44, 45, 46, 47, 48, 49, 50, 51, 52, 53, 54, 55, 56, 57, 58, 59, 60, 61, 62, 63, 64, 65, 66, 67, 68, 69, 70, 71, 72, 73, 74, 162, 163, 164, 165, 140, 141, 142, 143, 144, 145, 146, 147, 148, 166, 167, 168, 169, 170, 184, 185, 186, 177, 178, 179, 180, 181, 182, 183] (by decide +kernel) (by decide +kernel)
set_option maxRecDepth 20000 in
theorem gX5_readStatement_X5_readWeight : GoodIn wsX5_readStatement (wsV RX5 100 RX5 yX5_readWeight wsX5_readWeight) := goodIn_app (goodIn_of _ (by decide +kernel)) ggX5_readStatement_X5_readWeight
set_option maxRecDepth 20000 in
theorem ggX5_readStatement_X7_startOf : GoodIn wsX5_readStatement wsX7_startOf := goodIn_r _ [97, 19, 14, 36, 177, 178, 179, 180, 181, 182, 183] (by decide +kernel) (by decide +kernel)
set_option maxRecDepth 20000 in
theorem gX5_readStatement_X7_startOf : GoodIn wsX5_readStatement (wsV RX5 111 RX7 yX7_startOf wsX7_startOf) := goodIn_app (goodIn_of _ (by decide +kernel)) ggX5_readStatement_X7_startOf
set_option maxRecDepth 20000 in
theorem ggX5_readStatement_X5_fail : GoodIn wsX5_readStatement wsX5_fail := goodIn_r _ [101, 102, 103, 166, 167, 168, 169, 170] (by decide +kernel) (by decide +kernel)
set_option maxRecDepth 20000 in
theorem gX5_readStatement_X5_fail : GoodIn wsX5_readStatement (wsV RX5 114 RX5 yX5_fail wsX5_fail) := goodIn_app (goodIn_of _ (by decide +kernel)) ggX5_readStatement_X5_fail
theorem dX5_readStatement_0 : decode cX5_readStatement 0 = .ok (.aload_n 0, 1) := by decide +kernel
theorem dX5_readStatement_1 : decode cX5_readStatement 1 = .ok (.getfield 12, 3) := by decide +kernel
theorem dX5_readStatement_4 : decode cX5_readStatement 4 = .ok (.aload_n 0, 1) := by decide +kernel
theorem dX5_readStatement_5 : decode cX5_readStatement 5 = .ok (.getfield 25, 3) := by decide +kernel
theorem dX5_readStatement_8 : decode cX5_readStatement 8 = .ok (.ldc 78, 2) := by decide +kernel
theorem dX5_readStatement_10 : decode cX5_readStatement 10 = .ok (.invokevirtual 80, 3) := by decide +kernel
theorem dX5_readStatement_13 : decode cX5_readStatement 13 = .ok (.ifCond .eq 8, 3) := by decide +kernel
theorem dX5_readStatement_16 : decode cX5_readStatement 16 = .ok (.aload_n 0, 1) := by decide +kernel
theorem dX5_readStatement_17 : decode cX5_readStatement 17 = .ok (.invokevirtual 84, 3) := by decide +kernel
theorem dX5_readStatement_20 : decode cX5_readStatement 20 = .ok (.ireturn, 1) := by decide +kernel
theorem dX5_readStatement_21 : decode cX5_readStatement 21 = .ok (.aload_n 0, 1) := by decide +kernel
theorem dX5_readStatement_22 : decode cX5_readStatement 22 = .ok (.getfield 12, 3) := by decide +kernel
theorem dX5_readStatement_25 : decode cX5_readStatement 25 = .ok (.aload_n 0, 1) := by decide +kernel
theorem dX5_readStatement_26 : decode cX5_readStatement 26 = .ok (.getfield 25, 3) := by decide +kernel
theorem dX5_readStatement_29 : decode cX5_readStatement 29 = .ok (.ldc 87, 2) := by decide +kernel
theorem dX5_readStatement_31 : decode cX5_readStatement 31 = .ok (.invokevirtual 80, 3) := by decide +kernel
theorem dX5_readStatement_34 : decode cX5_readStatement 34 = .ok (.ifCond .eq 8, 3) := by decide +kernel
theorem dX5_readStatement_37 : decode cX5_readStatement 37 = .ok (.aload_n 0, 1) := by decide +kernel
theorem dX5_readStatement_38 : decode cX5_readStatement 38 = .ok (.invokevirtual 89, 3) := by decide +kernel
theorem dX5_readStatement_41 : decode cX5_readStatement 41 = .ok (.ireturn, 1) := by decide +kernel
theorem dX5_readStatement_42 : decode cX5_readStatement 42 = .ok (.aload_n 0, 1) := by decide +kernel
theorem dX5_readStatement_43 : decode cX5_readStatement 43 = .ok (.getfield 12, 3) := by decide +kernel
theorem dX5_readStatement_46 : decode cX5_readStatement 46 = .ok (.aload_n 0, 1) := by decide +kernel
theorem dX5_readStatement_47 : decode cX5_readStatement 47 = .ok (.getfield 25, 3) := by decide +kernel
theorem dX5_readStatement_50 : decode cX5_readStatement 50 = .ok (.ldc 92, 2) := by decide +kernel
theorem dX5_readStatement_52 : decode cX5_readStatement 52 = .ok (.invokevirtual 80, 3) := by decide +kernel
theorem dX5_readStatement_55 : decode cX5_readStatement 55 = .ok (.ifCond .eq 24, 3) := by decide +kernel
theorem dX5_readStatement_58 : decode cX5_readStatement 58 = .ok (.aload_n 0, 1) := by decide +kernel
theorem dX5_readStatement_59 : decode cX5_readStatement 59 = .ok (.aload_n 0, 1) := by decide +kernel
theorem dX5_readStatement_60 : decode cX5_readStatement 60 = .ok (.getfield 21, 3) := by decide +kernel
theorem dX5_readStatement_63 : decode cX5_readStatement 63 = .ok (.getfield 94, 3) := by decide +kernel
theorem dX5_readStatement_66 : decode cX5_readStatement 66 = .ok (.ldc 98, 2) := by decide +kernel
theorem dX5_readStatement_68 : decode cX5_readStatement 68 = .ok (.aload_n 0, 1) := by decide +kernel
theorem dX5_readStatement_69 : decode cX5_readStatement 69 = .ok (.getfield 21, 3) := by decide +kernel
theorem dX5_readStatement_72 : decode cX5_readStatement 72 = .ok (.getfield 70, 3) := by decide +kernel
theorem dX5_readStatement_75 : decode cX5_readStatement 75 = .ok (.invokevirtual 100, 3) := by decide +kernel
theorem dX5_readStatement_78 : decode cX5_readStatement 78 = .ok (.ireturn, 1) := by decide +kernel
theorem dX5_readStatement_79 : decode cX5_readStatement 79 = .ok (.aload_n 0, 1) := by decide +kernel
theorem dX5_readStatement_80 : decode cX5_readStatement 80 = .ok (.getfield 12, 3) := by decide +kernel
theorem dX5_readStatement_83 : decode cX5_readStatement 83 = .ok (.aload_n 0, 1) := by decide +kernel
theorem dX5_readStatement_84 : decode cX5_readStatement 84 = .ok (.getfield 25, 3) := by decide +kernel
theorem dX5_readStatement_87 : decode cX5_readStatement 87 = .ok (.ldc 104, 2) := by decide +kernel
theorem dX5_readStatement_89 : decode cX5_readStatement 89 = .ok (.invokevirtual 80, 3) := by decide +kernel
theorem dX5_readStatement_92 : decode cX5_readStatement 92 = .ok (.ifCond .eq 19, 3) := by decide +kernel
theorem dX5_readStatement_95 : decode cX5_readStatement 95 = .ok (.aload_n 0, 1) := by decide +kernel
theorem dX5_readStatement_96 : decode cX5_readStatement 96 = .ok (.aload_n 0, 1) := by decide +kernel
theorem dX5_readStatement_97 : decode cX5_readStatement 97 = .ok (.getfield 21, 3) := by decide +kernel
theorem dX5_readStatement_100 : decode cX5_readStatement 100 = .ok (.getfield 106, 3) := by decide +kernel
theorem dX5_readStatement_103 : decode cX5_readStatement 103 = .ok (.ldc 109, 2) := by decide +kernel
theorem dX5_readStatement_105 : decode cX5_readStatement 105 = .ok (.bipush 30, 2) := by decide +kernel
theorem dX5_readStatement_107 : decode cX5_readStatement 107 = .ok (.invokevirtual 100, 3) := by decide +kernel
theorem dX5_readStatement_110 : decode cX5_readStatement 110 = .ok (.ireturn, 1) := by decide +kernel
theorem dX5_readStatement_111 : decode cX5_readStatement 111 = .ok (.aload_n 0, 1) := by decide +kernel
theorem dX5_readStatement_112 : decode cX5_readStatement 112 = .ok (.bipush (-2), 2) := by decide +kernel
theorem dX5_readStatement_114 : decode cX5_readStatement 114 = .ok (.aload_n 0, 1) := by decide +kernel
theorem dX5_readStatement_115 : decode cX5_readStatement 115 = .ok (.getfield 12, 3) := by decide +kernel
theorem dX5_readStatement_118 : decode cX5_readStatement 118 = .ok (.aload_n 0, 1) := by decide +kernel
theorem dX5_readStatement_119 : decode cX5_readStatement 119 = .ok (.getfield 25, 3) := by decide +kernel
theorem dX5_readStatement_122 : decode cX5_readStatement 122 = .ok (.invokevirtual 111, 3) := by decide +kernel
theorem dX5_readStatement_125 : decode cX5_readStatement 125 = .ok (.invokevirtual 114, 3) := by decide +kernel
theorem dX5_readStatement_128 : decode cX5_readStatement 128 = .ok (.ireturn, 1) := by decide +kernel
set_option maxRecDepth 20000 in
theorem ggX5_readSupport_X5_takeNameFor : GoodIn wsX5_readSupport wsX5_takeNameFor := goodIn_r _ [11, 4, 5, 12, 13, 14, 15, 16, 17, 18, 19, 20, 21, 22, 23, 24, 25, 26, 27, 28, 29, 30, 10, 31, 32, 33, 143, 144, 145, 146, 147, 154, 155, 156, 157, 158, 159, 160, 161, 162, 163] (by decide +kernel) (by decide +kernel)
set_option maxRecDepth 20000 in
theorem gX5_readSupport_X5_takeNameFor : GoodIn wsX5_readSupport (wsV RX5 121 RX5 yX5_takeNameFor wsX5_takeNameFor) := goodIn_app (goodIn_of _ (by decide +kernel)) ggX5_readSupport_X5_takeNameFor
set_option maxRecDepth 20000 in
theorem ggX5_readSupport_X5_takeFreePlace : GoodIn wsX5_readSupport wsX5_takeFreePlace := goodIn_r _ [37, 4, 5, 1, 20, 21, 22, 23, 24, 25, 26, 27, 38, 39, 40, 10, 41, 42, 43, 44, 45, 46, 28, 29, 30, 31, 32, 33, 47, 48, 49, 50, 51, 52, 53, 54, 55, 56, 57, 58, 59, 60, 61, 15, 62, 17, 18, 143, 144, 145, 146, 147, 157, 158, 159, 160, 161, 162, 163, 148, 149, 150, 151, 152, 153, 154, 155, 156] (by decide +kernel) (by decide +kernel)
set_option maxRecDepth 20000 in
theorem gX5_readSupport_X5_takeFreePlace : GoodIn wsX5_readSupport (wsV RX5 125 RX5 yX5_takeFreePlace wsX5_takeFreePlace) := goodIn_app (goodIn_of _ (by decide +kernel)) ggX5_readSupport_X5_takeFreePlace
set_option maxRecDepth 20000 in
theorem ggX5_readSupport_X7_isWord : GoodIn wsX5_readSupport wsX7_isWord := goodIn_r _ [66, 46, 67, 26, 68, 69, 70, 23, 71, 25, 72, 73, 74, 75, 76, 77, 78, 79, 80, 81, 82, 83, 84, 85, 86, 87, 27, 88, 89, 90, 91, 92, 93, 94, 95, 96, 97, 98, 99, 100, 101, 102, 103, 104, 105, 106, 107, 108, 109, 110, 111, 112, 113, 114, 115, 116, 117, 118, 119, 120, 121, 122, 123, 124, 125, 157, 158, 159, 160, 161, 162, 163] (by decide +kernel) (by decide +kernel)
set_option maxRecDepth 20000 in
theorem gX5_readSupport_X7_isWord : GoodIn wsX5_readSupport (wsV RX5 80 RX7 yX7_isWord wsX7_isWord) := goodIn_app (goodIn_of _ (by decide +kernel)) ggX5_readSupport_X7_isWord
set_option maxRecDepth 20000 in
theorem ggX5_readSupport_X5_takeNumber : GoodIn wsX5_readSupport wsX5_takeNumber := goodIn_r _ [41, 4, 5, 42, 43, 44, 23, 45, 25, 46, 20, 21, 22, 24, 26, 27, 28, 29, 30, 10, 31, 32, 33, 47, 48, 49, 50, 51, 143, 144, 145, 146, 147, 157, 158, 159, 160, 161, 162, 163] (by decide +kernel) (by decide +kernel)
set_option maxRecDepth 20000 in
theorem gX5_readSupport_X5_takeNumber : GoodIn wsX5_readSupport (wsV RX5 63 RX5 yX5_takeNumber wsX5_takeNumber) := goodIn_app (goodIn_of _ (by decide +kernel)) ggX5_readSupport_X5_takeNumber
set_option maxRecDepth 20000 in
theorem ggX5_readSupport_X6_putInOrder : GoodIn wsX5_readSupport wsX6_putInOrder := goodIn_r _ [129, 130, 131, 132, 15, 133, 17, 18, 134, 135, 136, 137, 19, 138, 13, 14, 16, 154, 155, 156] (by decide +kernel) (by decide +kernel)
set_option maxRecDepth 20000 in
theorem gX5_readSupport_X6_putInOrder : GoodIn wsX5_readSupport (wsV RX5 131 RX6 yX6_putInOrder wsX6_putInOrder) := goodIn_app (goodIn_of _ (by decide +kernel)) ggX5_readSupport_X6_putInOrder
set_option maxRecDepth 20000 in
theorem ggX5_readSupport_X5_takeSemicolon : GoodIn wsX5_readSupport wsX5_takeSemicolon := goodIn_r _ [142, 4, 5, 42, 43, 44, 23, 45, 25, 46, 20, 21, 22, 24, 26, 27, 28, 29, 30, 10, 31, 32, 33, 143, 144, 145, 146, 147, 157, 158, 159, 160, 161, 162, 163] (by decide +kernel) (by decide +kernel)
set_option maxRecDepth 20000 in
theorem gX5_readSupport_X5_takeSemicolon : GoodIn wsX5_readSupport (wsV RX5 75 RX5 yX5_takeSemicolon wsX5_takeSemicolon) := goodIn_app (goodIn_of _ (by decide +kernel)) ggX5_readSupport_X5_takeSemicolon
theorem dX5_readSupport_0 : decode cX5_readSupport 0 = .ok (.aload_n 0, 1) := by decide +kernel
theorem dX5_readSupport_1 : decode cX5_readSupport 1 = .ok (.aload_n 0, 1) := by decide +kernel
theorem dX5_readSupport_2 : decode cX5_readSupport 2 = .ok (.getfield 21, 3) := by decide +kernel
theorem dX5_readSupport_5 : decode cX5_readSupport 5 = .ok (.getfield 118, 3) := by decide +kernel
theorem dX5_readSupport_8 : decode cX5_readSupport 8 = .ok (.invokevirtual 121, 3) := by decide +kernel
theorem dX5_readSupport_11 : decode cX5_readSupport 11 = .ok (.ifCond .ne 5, 3) := by decide +kernel
theorem dX5_readSupport_14 : decode cX5_readSupport 14 = .ok (.iconst 0, 1) := by decide +kernel
theorem dX5_readSupport_15 : decode cX5_readSupport 15 = .ok (.ireturn, 1) := by decide +kernel
theorem dX5_readSupport_16 : decode cX5_readSupport 16 = .ok (.aload_n 0, 1) := by decide +kernel
theorem dX5_readSupport_17 : decode cX5_readSupport 17 = .ok (.iconst 0, 1) := by decide +kernel
theorem dX5_readSupport_18 : decode cX5_readSupport 18 = .ok (.aload_n 0, 1) := by decide +kernel
theorem dX5_readSupport_19 : decode cX5_readSupport 19 = .ok (.getfield 21, 3) := by decide +kernel
theorem dX5_readSupport_22 : decode cX5_readSupport 22 = .ok (.getfield 70, 3) := by decide +kernel
theorem dX5_readSupport_25 : decode cX5_readSupport 25 = .ok (.invokevirtual 125, 3) := by decide +kernel
theorem dX5_readSupport_28 : decode cX5_readSupport 28 = .ok (.istore_n 1, 1) := by decide +kernel
theorem dX5_readSupport_29 : decode cX5_readSupport 29 = .ok (.iload_n 1, 1) := by decide +kernel
theorem dX5_readSupport_30 : decode cX5_readSupport 30 = .ok (.iconst (-1), 1) := by decide +kernel
theorem dX5_readSupport_31 : decode cX5_readSupport 31 = .ok (.if_icmp .ne 5, 3) := by decide +kernel
theorem dX5_readSupport_34 : decode cX5_readSupport 34 = .ok (.iconst 0, 1) := by decide +kernel
theorem dX5_readSupport_35 : decode cX5_readSupport 35 = .ok (.ireturn, 1) := by decide +kernel
theorem dX5_readSupport_36 : decode cX5_readSupport 36 = .ok (.iconst (-1), 1) := by decide +kernel
theorem dX5_readSupport_37 : decode cX5_readSupport 37 = .ok (.istore_n 2, 1) := by decide +kernel
theorem dX5_readSupport_38 : decode cX5_readSupport 38 = .ok (.aload_n 0, 1) := by decide +kernel
theorem dX5_readSupport_39 : decode cX5_readSupport 39 = .ok (.getfield 12, 3) := by decide +kernel
theorem dX5_readSupport_42 : decode cX5_readSupport 42 = .ok (.aload_n 0, 1) := by decide +kernel
theorem dX5_readSupport_43 : decode cX5_readSupport 43 = .ok (.getfield 25, 3) := by decide +kernel
theorem dX5_readSupport_46 : decode cX5_readSupport 46 = .ok (.ldc 128, 2) := by decide +kernel
theorem dX5_readSupport_48 : decode cX5_readSupport 48 = .ok (.invokevirtual 80, 3) := by decide +kernel
theorem dX5_readSupport_51 : decode cX5_readSupport 51 = .ok (.ifCond .eq 28, 3) := by decide +kernel
theorem dX5_readSupport_54 : decode cX5_readSupport 54 = .ok (.aload_n 0, 1) := by decide +kernel
theorem dX5_readSupport_55 : decode cX5_readSupport 55 = .ok (.dup, 1) := by decide +kernel
theorem dX5_readSupport_56 : decode cX5_readSupport 56 = .ok (.getfield 25, 3) := by decide +kernel
theorem dX5_readSupport_59 : decode cX5_readSupport 59 = .ok (.iconst 1, 1) := by decide +kernel
theorem dX5_readSupport_60 : decode cX5_readSupport 60 = .ok (.iadd, 1) := by decide +kernel
theorem dX5_readSupport_61 : decode cX5_readSupport 61 = .ok (.putfield 25, 3) := by decide +kernel
theorem dX5_readSupport_64 : decode cX5_readSupport 64 = .ok (.aload_n 0, 1) := by decide +kernel
theorem dX5_readSupport_65 : decode cX5_readSupport 65 = .ok (.iconst 1, 1) := by decide +kernel
theorem dX5_readSupport_66 : decode cX5_readSupport 66 = .ok (.ldc 130, 2) := by decide +kernel
theorem dX5_readSupport_68 : decode cX5_readSupport 68 = .ok (.invokevirtual 63, 3) := by decide +kernel
theorem dX5_readSupport_71 : decode cX5_readSupport 71 = .ok (.istore_n 2, 1) := by decide +kernel
theorem dX5_readSupport_72 : decode cX5_readSupport 72 = .ok (.iload_n 2, 1) := by decide +kernel
theorem dX5_readSupport_73 : decode cX5_readSupport 73 = .ok (.iconst (-1), 1) := by decide +kernel
theorem dX5_readSupport_74 : decode cX5_readSupport 74 = .ok (.if_icmp .ne 5, 3) := by decide +kernel
theorem dX5_readSupport_77 : decode cX5_readSupport 77 = .ok (.iconst 0, 1) := by decide +kernel
theorem dX5_readSupport_78 : decode cX5_readSupport 78 = .ok (.ireturn, 1) := by decide +kernel
theorem dX5_readSupport_79 : decode cX5_readSupport 79 = .ok (.aload_n 0, 1) := by decide +kernel
theorem dX5_readSupport_80 : decode cX5_readSupport 80 = .ok (.getfield 21, 3) := by decide +kernel
theorem dX5_readSupport_83 : decode cX5_readSupport 83 = .ok (.getfield 118, 3) := by decide +kernel
theorem dX5_readSupport_86 : decode cX5_readSupport 86 = .ok (.iload_n 1, 1) := by decide +kernel
theorem dX5_readSupport_87 : decode cX5_readSupport 87 = .ok (.iload_n 2, 1) := by decide +kernel
theorem dX5_readSupport_88 : decode cX5_readSupport 88 = .ok (.invokevirtual 131, 3) := by decide +kernel
theorem dX5_readSupport_91 : decode cX5_readSupport 91 = .ok (.pop, 1) := by decide +kernel
theorem dX5_readSupport_92 : decode cX5_readSupport 92 = .ok (.aload_n 0, 1) := by decide +kernel
theorem dX5_readSupport_93 : decode cX5_readSupport 93 = .ok (.invokevirtual 75, 3) := by decide +kernel
theorem dX5_readSupport_96 : decode cX5_readSupport 96 = .ok (.ireturn, 1) := by decide +kernel
set_option maxRecDepth 20000 in
theorem ggX5_readHinge_X5_takeNameFor : GoodIn wsX5_readHinge wsX5_takeNameFor := goodIn_r _ [8, 9, 10, 11, 12, 13, 14, 15, 16, 17, 18, 19, 20, 21, 22, 23, 24, 25, 26, 27, 28, 29, 7, 30, 31, 32, 79, 80, 81, 82, 83, 90, 91, 92, 93, 94, 95, 96, 97, 98, 99] (by decide +kernel) (by decide +kernel)
set_option maxRecDepth 20000 in
theorem gX5_readHinge_X5_takeNameFor : GoodIn wsX5_readHinge (wsV RX5 121 RX5 yX5_takeNameFor wsX5_takeNameFor) := goodIn_app (goodIn_of _ (by decide +kernel)) ggX5_readHinge_X5_takeNameFor
set_option maxRecDepth 20000 in
theorem ggX5_readHinge_X5_takeFreePlace : GoodIn wsX5_readHinge wsX5_takeFreePlace := goodIn_r _ [36, 9, 10, 1, 19, 20, 21, 22, 23, 24, 25, 26, 37, 38, 39, 7, 40, 41, 42, 43, 44, 45, 27, 28, 29, 30, 31, 32, 46, 47, 48, 49, 50, 51, 52, 53, 54, 55, 56, 57, 58, 59, 60, 14, 61, 16, 17, 79, 80, 81, 82, 83, 93, 94, 95, 96, 97, 98, 99, 84, 85, 86, 87, 88, 89, 90, 91, 92] (by decide +kernel) (by decide +kernel)
set_option maxRecDepth 20000 in
theorem gX5_readHinge_X5_takeFreePlace : GoodIn wsX5_readHinge (wsV RX5 125 RX5 yX5_takeFreePlace wsX5_takeFreePlace) := goodIn_app (goodIn_of _ (by decide +kernel)) ggX5_readHinge_X5_takeFreePlace
set_option maxRecDepth 20000 in
theorem ggX5_readHinge_X6_putInOrder : GoodIn wsX5_readHinge wsX6_putInOrder := goodIn_r _ [65, 66, 67, 68, 14, 69, 16, 17, 70, 71, 72, 73, 18, 74, 12, 13, 15, 90, 91, 92] (by decide +kernel) (by decide +kernel)
set_option maxRecDepth 20000 in
theorem gX5_readHinge_X6_putInOrder : GoodIn wsX5_readHinge (wsV RX5 131 RX6 yX6_putInOrder wsX6_putInOrder) := goodIn_app (goodIn_of _ (by decide +kernel)) ggX5_readHinge_X6_putInOrder
set_option maxRecDepth 20000 in
theorem ggX5_readHinge_X5_takeSemicolon : GoodIn wsX5_readHinge wsX5_takeSemicolon := goodIn_r _ [78, 9, 10, 41, 42, 43, 22, 44, 24, 45, 19, 20, 21, 23, 25, 26, 27, 28, 29, 7, 30, 31, 32, 79, 80, 81, 82, 83, 93, 94, 95, 96, 97, 98, 99] (by decide +kernel) (by decide +kernel)
set_option maxRecDepth 20000 in
theorem gX5_readHinge_X5_takeSemicolon : GoodIn wsX5_readHinge (wsV RX5 75 RX5 yX5_takeSemicolon wsX5_takeSemicolon) := goodIn_app (goodIn_of _ (by decide +kernel)) ggX5_readHinge_X5_takeSemicolon
theorem dX5_readHinge_0 : decode cX5_readHinge 0 = .ok (.aload_n 0, 1) := by decide +kernel
theorem dX5_readHinge_1 : decode cX5_readHinge 1 = .ok (.aload_n 0, 1) := by decide +kernel
theorem dX5_readHinge_2 : decode cX5_readHinge 2 = .ok (.getfield 21, 3) := by decide +kernel
theorem dX5_readHinge_5 : decode cX5_readHinge 5 = .ok (.getfield 136, 3) := by decide +kernel
theorem dX5_readHinge_8 : decode cX5_readHinge 8 = .ok (.invokevirtual 121, 3) := by decide +kernel
theorem dX5_readHinge_11 : decode cX5_readHinge 11 = .ok (.ifCond .ne 5, 3) := by decide +kernel
theorem dX5_readHinge_14 : decode cX5_readHinge 14 = .ok (.iconst 0, 1) := by decide +kernel
theorem dX5_readHinge_15 : decode cX5_readHinge 15 = .ok (.ireturn, 1) := by decide +kernel
theorem dX5_readHinge_16 : decode cX5_readHinge 16 = .ok (.aload_n 0, 1) := by decide +kernel
theorem dX5_readHinge_17 : decode cX5_readHinge 17 = .ok (.iconst 1, 1) := by decide +kernel
theorem dX5_readHinge_18 : decode cX5_readHinge 18 = .ok (.aload_n 0, 1) := by decide +kernel
theorem dX5_readHinge_19 : decode cX5_readHinge 19 = .ok (.getfield 21, 3) := by decide +kernel
theorem dX5_readHinge_22 : decode cX5_readHinge 22 = .ok (.getfield 70, 3) := by decide +kernel
theorem dX5_readHinge_25 : decode cX5_readHinge 25 = .ok (.iconst 1, 1) := by decide +kernel
theorem dX5_readHinge_26 : decode cX5_readHinge 26 = .ok (.isub, 1) := by decide +kernel
theorem dX5_readHinge_27 : decode cX5_readHinge 27 = .ok (.invokevirtual 125, 3) := by decide +kernel
theorem dX5_readHinge_30 : decode cX5_readHinge 30 = .ok (.istore_n 1, 1) := by decide +kernel
theorem dX5_readHinge_31 : decode cX5_readHinge 31 = .ok (.iload_n 1, 1) := by decide +kernel
theorem dX5_readHinge_32 : decode cX5_readHinge 32 = .ok (.iconst (-1), 1) := by decide +kernel
theorem dX5_readHinge_33 : decode cX5_readHinge 33 = .ok (.if_icmp .ne 5, 3) := by decide +kernel
theorem dX5_readHinge_36 : decode cX5_readHinge 36 = .ok (.iconst 0, 1) := by decide +kernel
theorem dX5_readHinge_37 : decode cX5_readHinge 37 = .ok (.ireturn, 1) := by decide +kernel
theorem dX5_readHinge_38 : decode cX5_readHinge 38 = .ok (.aload_n 0, 1) := by decide +kernel
theorem dX5_readHinge_39 : decode cX5_readHinge 39 = .ok (.getfield 21, 3) := by decide +kernel
theorem dX5_readHinge_42 : decode cX5_readHinge 42 = .ok (.getfield 136, 3) := by decide +kernel
theorem dX5_readHinge_45 : decode cX5_readHinge 45 = .ok (.iload_n 1, 1) := by decide +kernel
theorem dX5_readHinge_46 : decode cX5_readHinge 46 = .ok (.iconst 0, 1) := by decide +kernel
theorem dX5_readHinge_47 : decode cX5_readHinge 47 = .ok (.invokevirtual 131, 3) := by decide +kernel
theorem dX5_readHinge_50 : decode cX5_readHinge 50 = .ok (.pop, 1) := by decide +kernel
theorem dX5_readHinge_51 : decode cX5_readHinge 51 = .ok (.aload_n 0, 1) := by decide +kernel
theorem dX5_readHinge_52 : decode cX5_readHinge 52 = .ok (.invokevirtual 75, 3) := by decide +kernel
theorem dX5_readHinge_55 : decode cX5_readHinge 55 = .ok (.ireturn, 1) := by decide +kernel
set_option maxRecDepth 20000 in
theorem ggX5_readWeight_X5_takeNameFor : GoodIn wsX5_readWeight wsX5_takeNameFor := goodIn_r _ [5, 6, 7, 8, 9, 10, 11, 12, 13, 14, 15, 16, 17, 18, 19, 20, 21, 22, 23, 24, 25, 26, 4, 27, 28, 29, 124, 125, 126, 127, 128, 129, 130, 131, 132, 133, 134, 135, 136, 137, 138] (by decide +kernel) (by decide +kernel)
set_option maxRecDepth 20000 in
theorem gX5_readWeight_X5_takeNameFor : GoodIn wsX5_readWeight (wsV RX5 121 RX5 yX5_takeNameFor wsX5_takeNameFor) := goodIn_app (goodIn_of _ (by decide +kernel)) ggX5_readWeight_X5_takeNameFor
set_option maxRecDepth 20000 in
theorem ggX5_readWeight_X5_takeNumber : GoodIn wsX5_readWeight wsX5_takeNumber := goodIn_r _ [33, 6, 7, 34, 35, 36, 19, 37, 21, 38, 16, 17, 18, 20, 22, 23, 24, 25, 26, 4, 27, 28, 29, 39, 40, 41, 42, 43, 124, 125, 126, 127, 128, 132, 133, 134, 135, 136, 137, 138] (by decide +kernel) (by decide +kernel)
set_option maxRecDepth 20000 in
theorem gX5_readWeight_X5_takeNumber : GoodIn wsX5_readWeight (wsV RX5 63 RX5 yX5_takeNumber wsX5_takeNumber) := goodIn_app (goodIn_of _ (by decide +kernel)) ggX5_readWeight_X5_takeNumber
set_option maxRecDepth 20000 in
theorem ggX5_readWeight_X5_takeWord : GoodIn wsX5_readWeight wsX5_takeWord := goodIn_r _ [47, 6, 7, 48, 49, 50, 19, 51, 38, 52, 22, 53, 54, 55, 56, 21, 57, 58, 59, 60, 61, 62, 63, 64, 65, 66, 67, 68, 69, 70, 71, 72, 23, 73, 74, 75, 76, 77, 78, 79, 80, 81, 82, 83, 84, 85, 86, 87, 88, 89, 90, 91, 92, 93, 94, 95, 96, 97, 98, 99, 100, 101, 102, 103, 104, 105, 106, 107, 108, 109, 110, 16, 17, 18, 20, 24, 25, 26, 4, 27, 28, 29, 124, 125, 126, 127, 128, 132, 133, 134, 135, 136, 137, 138] (by decide +kernel) (by decide +kernel)
set_option maxRecDepth 20000 in
theorem gX5_readWeight_X5_takeWord : GoodIn wsX5_readWeight (wsV RX5 59 RX5 yX5_takeWord wsX5_takeWord) := goodIn_app (goodIn_of _ (by decide +kernel)) ggX5_readWeight_X5_takeWord
set_option maxRecDepth 20000 in
theorem ggX5_readWeight_X6_putLast : GoodIn wsX5_readWeight wsX6_putLast := goodIn_r _ [114, 13, 115, 116, 117, 11, 118, 14, 15, 119, 9, 10, 12, 129, 130, 131] (by decide +kernel) (by decide +kernel)
set_option maxRecDepth 20000 in
theorem gX5_readWeight_X6_putLast : GoodIn wsX5_readWeight (wsV RX5 139 RX6 yX6_putLast wsX6_putLast) := goodIn_app (goodIn_of _ (by decide +kernel)) ggX5_readWeight_X6_putLast
set_option maxRecDepth 20000 in
theorem ggX5_readWeight_X5_takeSemicolon : GoodIn wsX5_readWeight wsX5_takeSemicolon := goodIn_r _ [123, 6, 7, 34, 35, 36, 19, 37, 21, 38, 16, 17, 18, 20, 22, 23, 24, 25, 26, 4, 27, 28, 29, 124, 125, 126, 127, 128, 132, 133, 134, 135, 136, 137, 138] (by decide +kernel) (by decide +kernel)
set_option maxRecDepth 20000 in
theorem gX5_readWeight_X5_takeSemicolon : GoodIn wsX5_readWeight (wsV RX5 75 RX5 yX5_takeSemicolon wsX5_takeSemicolon) := goodIn_app (goodIn_of _ (by decide +kernel)) ggX5_readWeight_X5_takeSemicolon
theorem dX5_readWeight_0 : decode cX5_readWeight 0 = .ok (.aload_n 0, 1) := by decide +kernel
theorem dX5_readWeight_1 : decode cX5_readWeight 1 = .ok (.aload_n 1, 1) := by decide +kernel
theorem dX5_readWeight_2 : decode cX5_readWeight 2 = .ok (.invokevirtual 121, 3) := by decide +kernel
theorem dX5_readWeight_5 : decode cX5_readWeight 5 = .ok (.ifCond .ne 5, 3) := by decide +kernel
theorem dX5_readWeight_8 : decode cX5_readWeight 8 = .ok (.iconst 0, 1) := by decide +kernel
theorem dX5_readWeight_9 : decode cX5_readWeight 9 = .ok (.ireturn, 1) := by decide +kernel
theorem dX5_readWeight_10 : decode cX5_readWeight 10 = .ok (.aload_n 0, 1) := by decide +kernel
theorem dX5_readWeight_11 : decode cX5_readWeight 11 = .ok (.iconst 1, 1) := by decide +kernel
theorem dX5_readWeight_12 : decode cX5_readWeight 12 = .ok (.sipush 999, 3) := by decide +kernel
theorem dX5_readWeight_15 : decode cX5_readWeight 15 = .ok (.invokevirtual 63, 3) := by decide +kernel
theorem dX5_readWeight_18 : decode cX5_readWeight 18 = .ok (.istore 4, 2) := by decide +kernel
theorem dX5_readWeight_20 : decode cX5_readWeight 20 = .ok (.iload 4, 2) := by decide +kernel
theorem dX5_readWeight_22 : decode cX5_readWeight 22 = .ok (.iconst (-1), 1) := by decide +kernel
theorem dX5_readWeight_23 : decode cX5_readWeight 23 = .ok (.if_icmp .eq 11, 3) := by decide +kernel
theorem dX5_readWeight_26 : decode cX5_readWeight 26 = .ok (.aload_n 0, 1) := by decide +kernel
theorem dX5_readWeight_27 : decode cX5_readWeight 27 = .ok (.aload_n 2, 1) := by decide +kernel
theorem dX5_readWeight_28 : decode cX5_readWeight 28 = .ok (.invokevirtual 59, 3) := by decide +kernel
theorem dX5_readWeight_31 : decode cX5_readWeight 31 = .ok (.ifCond .ne 5, 3) := by decide +kernel
theorem dX5_readWeight_34 : decode cX5_readWeight 34 = .ok (.iconst 0, 1) := by decide +kernel
theorem dX5_readWeight_35 : decode cX5_readWeight 35 = .ok (.ireturn, 1) := by decide +kernel
theorem dX5_readWeight_36 : decode cX5_readWeight 36 = .ok (.aload_n 0, 1) := by decide +kernel
theorem dX5_readWeight_37 : decode cX5_readWeight 37 = .ok (.iconst 0, 1) := by decide +kernel
theorem dX5_readWeight_38 : decode cX5_readWeight 38 = .ok (.iload_n 3, 1) := by decide +kernel
theorem dX5_readWeight_39 : decode cX5_readWeight 39 = .ok (.invokevirtual 63, 3) := by decide +kernel
theorem dX5_readWeight_42 : decode cX5_readWeight 42 = .ok (.istore 5, 2) := by decide +kernel
theorem dX5_readWeight_44 : decode cX5_readWeight 44 = .ok (.iload 5, 2) := by decide +kernel
theorem dX5_readWeight_46 : decode cX5_readWeight 46 = .ok (.iconst (-1), 1) := by decide +kernel
theorem dX5_readWeight_47 : decode cX5_readWeight 47 = .ok (.if_icmp .ne 5, 3) := by decide +kernel
theorem dX5_readWeight_50 : decode cX5_readWeight 50 = .ok (.iconst 0, 1) := by decide +kernel
theorem dX5_readWeight_51 : decode cX5_readWeight 51 = .ok (.ireturn, 1) := by decide +kernel
theorem dX5_readWeight_52 : decode cX5_readWeight 52 = .ok (.aload_n 1, 1) := by decide +kernel
theorem dX5_readWeight_53 : decode cX5_readWeight 53 = .ok (.iload 4, 2) := by decide +kernel
theorem dX5_readWeight_55 : decode cX5_readWeight 55 = .ok (.iload 5, 2) := by decide +kernel
theorem dX5_readWeight_57 : decode cX5_readWeight 57 = .ok (.invokevirtual 139, 3) := by decide +kernel
theorem dX5_readWeight_60 : decode cX5_readWeight 60 = .ok (.pop, 1) := by decide +kernel
theorem dX5_readWeight_61 : decode cX5_readWeight 61 = .ok (.aload_n 0, 1) := by decide +kernel
theorem dX5_readWeight_62 : decode cX5_readWeight 62 = .ok (.invokevirtual 75, 3) := by decide +kernel
theorem dX5_readWeight_65 : decode cX5_readWeight 65 = .ok (.ireturn, 1) := by decide +kernel
set_option maxRecDepth 20000 in
theorem ggX5_checkHinges_X5_fail : GoodIn wsX5_checkHinges wsX5_fail := goodIn_r _ [11, 12, 13, 14, 15, 16, 17, 18] (by decide +kernel) (by decide +kernel)
set_option maxRecDepth 20000 in
theorem gX5_checkHinges_X5_fail : GoodIn wsX5_checkHinges (wsV RX5 114 RX5 yX5_fail wsX5_fail) := goodIn_app (goodIn_of _ (by decide +kernel)) ggX5_checkHinges_X5_fail
theorem dX5_checkHinges_0 : decode cX5_checkHinges 0 = .ok (.aload_n 0, 1) := by decide +kernel
theorem dX5_checkHinges_1 : decode cX5_checkHinges 1 = .ok (.getfield 21, 3) := by decide +kernel
theorem dX5_checkHinges_4 : decode cX5_checkHinges 4 = .ok (.getfield 118, 3) := by decide +kernel
theorem dX5_checkHinges_7 : decode cX5_checkHinges 7 = .ok (.getfield 142, 3) := by decide +kernel
theorem dX5_checkHinges_10 : decode cX5_checkHinges 10 = .ok (.istore_n 1, 1) := by decide +kernel
theorem dX5_checkHinges_11 : decode cX5_checkHinges 11 = .ok (.iload_n 1, 1) := by decide +kernel
theorem dX5_checkHinges_12 : decode cX5_checkHinges 12 = .ok (.iconst 2, 1) := by decide +kernel
theorem dX5_checkHinges_13 : decode cX5_checkHinges 13 = .ok (.if_icmp .lt 19, 3) := by decide +kernel
theorem dX5_checkHinges_16 : decode cX5_checkHinges 16 = .ok (.aload_n 0, 1) := by decide +kernel
theorem dX5_checkHinges_17 : decode cX5_checkHinges 17 = .ok (.getfield 21, 3) := by decide +kernel
theorem dX5_checkHinges_20 : decode cX5_checkHinges 20 = .ok (.getfield 136, 3) := by decide +kernel
theorem dX5_checkHinges_23 : decode cX5_checkHinges 23 = .ok (.getfield 142, 3) := by decide +kernel
theorem dX5_checkHinges_26 : decode cX5_checkHinges 26 = .ok (.iload_n 1, 1) := by decide +kernel
theorem dX5_checkHinges_27 : decode cX5_checkHinges 27 = .ok (.iconst 2, 1) := by decide +kernel
theorem dX5_checkHinges_28 : decode cX5_checkHinges 28 = .ok (.isub, 1) := by decide +kernel
theorem dX5_checkHinges_29 : decode cX5_checkHinges 29 = .ok (.if_icmp .eq 17, 3) := by decide +kernel
theorem dX5_checkHinges_32 : decode cX5_checkHinges 32 = .ok (.aload_n 0, 1) := by decide +kernel
theorem dX5_checkHinges_33 : decode cX5_checkHinges 33 = .ok (.bipush (-6), 2) := by decide +kernel
theorem dX5_checkHinges_35 : decode cX5_checkHinges 35 = .ok (.aload_n 0, 1) := by decide +kernel
theorem dX5_checkHinges_36 : decode cX5_checkHinges 36 = .ok (.getfield 12, 3) := by decide +kernel
theorem dX5_checkHinges_39 : decode cX5_checkHinges 39 = .ok (.getfield 145, 3) := by decide +kernel
theorem dX5_checkHinges_42 : decode cX5_checkHinges 42 = .ok (.invokevirtual 114, 3) := by decide +kernel
theorem dX5_checkHinges_45 : decode cX5_checkHinges 45 = .ok (.ireturn, 1) := by decide +kernel
theorem dX5_checkHinges_46 : decode cX5_checkHinges 46 = .ok (.iconst 1, 1) := by decide +kernel
theorem dX5_checkHinges_47 : decode cX5_checkHinges 47 = .ok (.ireturn, 1) := by decide +kernel
theorem dX5_fail_0 : decode cX5_fail 0 = .ok (.aload_n 0, 1) := by decide +kernel
theorem dX5_fail_1 : decode cX5_fail 1 = .ok (.iload_n 1, 1) := by decide +kernel
theorem dX5_fail_2 : decode cX5_fail 2 = .ok (.putfield 29, 3) := by decide +kernel
theorem dX5_fail_5 : decode cX5_fail 5 = .ok (.aload_n 0, 1) := by decide +kernel
theorem dX5_fail_6 : decode cX5_fail 6 = .ok (.iload_n 2, 1) := by decide +kernel
theorem dX5_fail_7 : decode cX5_fail 7 = .ok (.putfield 32, 3) := by decide +kernel
theorem dX5_fail_10 : decode cX5_fail 10 = .ok (.iconst 0, 1) := by decide +kernel
theorem dX5_fail_11 : decode cX5_fail 11 = .ok (.ireturn, 1) := by decide +kernel
set_option maxRecDepth 20000 in
theorem ggX5_takeNameFor_X6_isFull : GoodIn wsX5_takeNameFor wsX6_isFull := goodIn_r _ [7, 8, 9, 10, 31, 32, 33] (by decide +kernel) (by decide +kernel)
set_option maxRecDepth 20000 in
theorem gX5_takeNameFor_X6_isFull : GoodIn wsX5_takeNameFor (wsV RX5 146 RX6 yX6_isFull wsX6_isFull) := goodIn_app (goodIn_of _ (by decide +kernel)) ggX5_takeNameFor_X6_isFull
set_option maxRecDepth 20000 in
theorem ggX5_takeNameFor_X7_startOf : GoodIn wsX5_takeNameFor wsX7_startOf := goodIn_r _ [15, 16, 17, 18, 34, 35, 36, 37, 38, 39, 40] (by decide +kernel) (by decide +kernel)
set_option maxRecDepth 20000 in
theorem gX5_takeNameFor_X7_startOf : GoodIn wsX5_takeNameFor (wsV RX5 111 RX7 yX7_startOf wsX7_startOf) := goodIn_app (goodIn_of _ (by decide +kernel)) ggX5_takeNameFor_X7_startOf
set_option maxRecDepth 20000 in
theorem ggX5_takeNameFor_X5_fail : GoodIn wsX5_takeNameFor wsX5_fail := goodIn_r _ [23, 24, 25, 26, 27, 28, 29, 30] (by decide +kernel) (by decide +kernel)
set_option maxRecDepth 20000 in
theorem gX5_takeNameFor_X5_fail : GoodIn wsX5_takeNameFor (wsV RX5 114 RX5 yX5_fail wsX5_fail) := goodIn_app (goodIn_of _ (by decide +kernel)) ggX5_takeNameFor_X5_fail
theorem dX5_takeNameFor_0 : decode cX5_takeNameFor 0 = .ok (.aload_n 1, 1) := by decide +kernel
theorem dX5_takeNameFor_1 : decode cX5_takeNameFor 1 = .ok (.invokevirtual 146, 3) := by decide +kernel
theorem dX5_takeNameFor_4 : decode cX5_takeNameFor 4 = .ok (.ifCond .eq 21, 3) := by decide +kernel
theorem dX5_takeNameFor_7 : decode cX5_takeNameFor 7 = .ok (.aload_n 0, 1) := by decide +kernel
theorem dX5_takeNameFor_8 : decode cX5_takeNameFor 8 = .ok (.bipush (-5), 2) := by decide +kernel
theorem dX5_takeNameFor_10 : decode cX5_takeNameFor 10 = .ok (.aload_n 0, 1) := by decide +kernel
theorem dX5_takeNameFor_11 : decode cX5_takeNameFor 11 = .ok (.getfield 12, 3) := by decide +kernel
theorem dX5_takeNameFor_14 : decode cX5_takeNameFor 14 = .ok (.aload_n 0, 1) := by decide +kernel
theorem dX5_takeNameFor_15 : decode cX5_takeNameFor 15 = .ok (.getfield 25, 3) := by decide +kernel
theorem dX5_takeNameFor_18 : decode cX5_takeNameFor 18 = .ok (.invokevirtual 111, 3) := by decide +kernel
theorem dX5_takeNameFor_21 : decode cX5_takeNameFor 21 = .ok (.invokevirtual 114, 3) := by decide +kernel
theorem dX5_takeNameFor_24 : decode cX5_takeNameFor 24 = .ok (.ireturn, 1) := by decide +kernel
theorem dX5_takeNameFor_25 : decode cX5_takeNameFor 25 = .ok (.aload_n 0, 1) := by decide +kernel
theorem dX5_takeNameFor_26 : decode cX5_takeNameFor 26 = .ok (.dup, 1) := by decide +kernel
theorem dX5_takeNameFor_27 : decode cX5_takeNameFor 27 = .ok (.getfield 25, 3) := by decide +kernel
theorem dX5_takeNameFor_30 : decode cX5_takeNameFor 30 = .ok (.iconst 1, 1) := by decide +kernel
theorem dX5_takeNameFor_31 : decode cX5_takeNameFor 31 = .ok (.iadd, 1) := by decide +kernel
theorem dX5_takeNameFor_32 : decode cX5_takeNameFor 32 = .ok (.putfield 25, 3) := by decide +kernel
theorem dX5_takeNameFor_35 : decode cX5_takeNameFor 35 = .ok (.iconst 1, 1) := by decide +kernel
theorem dX5_takeNameFor_36 : decode cX5_takeNameFor 36 = .ok (.ireturn, 1) := by decide +kernel
set_option maxRecDepth 20000 in
theorem ggX5_takeWord_X7_isWord : GoodIn wsX5_takeWord wsX7_isWord := goodIn_r _ [7, 8, 9, 10, 11, 12, 13, 6, 14, 15, 16, 17, 18, 19, 20, 21, 22, 23, 24, 25, 26, 27, 28, 29, 30, 31, 32, 33, 34, 35, 36, 37, 38, 39, 40, 41, 42, 43, 44, 45, 46, 47, 48, 49, 50, 51, 52, 53, 54, 55, 56, 57, 58, 59, 60, 61, 62, 63, 64, 65, 66, 67, 68, 69, 70, 87, 88, 89, 90, 91, 92, 93] (by decide +kernel) (by decide +kernel)
set_option maxRecDepth 20000 in
theorem gX5_takeWord_X7_isWord : GoodIn wsX5_takeWord (wsV RX5 80 RX7 yX7_isWord wsX7_isWord) := goodIn_app (goodIn_of _ (by decide +kernel)) ggX5_takeWord_X7_isWord
set_option maxRecDepth 20000 in
theorem ggX5_takeWord_X7_startOf : GoodIn wsX5_takeWord wsX7_startOf := goodIn_r _ [74, 15, 10, 32, 87, 88, 89, 90, 91, 92, 93] (by decide +kernel) (by decide +kernel)
set_option maxRecDepth 20000 in
theorem gX5_takeWord_X7_startOf : GoodIn wsX5_takeWord (wsV RX5 111 RX7 yX7_startOf wsX7_startOf) := goodIn_app (goodIn_of _ (by decide +kernel)) ggX5_takeWord_X7_startOf
set_option maxRecDepth 20000 in
theorem ggX5_takeWord_X5_fail : GoodIn wsX5_takeWord wsX5_fail := goodIn_r _ [79, 80, 81, 82, 83, 84, 85, 86] (by decide +kernel) (by decide +kernel)
set_option maxRecDepth 20000 in
theorem gX5_takeWord_X5_fail : GoodIn wsX5_takeWord (wsV RX5 114 RX5 yX5_fail wsX5_fail) := goodIn_app (goodIn_of _ (by decide +kernel)) ggX5_takeWord_X5_fail
theorem dX5_takeWord_0 : decode cX5_takeWord 0 = .ok (.aload_n 0, 1) := by decide +kernel
theorem dX5_takeWord_1 : decode cX5_takeWord 1 = .ok (.getfield 12, 3) := by decide +kernel
theorem dX5_takeWord_4 : decode cX5_takeWord 4 = .ok (.aload_n 0, 1) := by decide +kernel
theorem dX5_takeWord_5 : decode cX5_takeWord 5 = .ok (.getfield 25, 3) := by decide +kernel
theorem dX5_takeWord_8 : decode cX5_takeWord 8 = .ok (.aload_n 1, 1) := by decide +kernel
theorem dX5_takeWord_9 : decode cX5_takeWord 9 = .ok (.invokevirtual 80, 3) := by decide +kernel
theorem dX5_takeWord_12 : decode cX5_takeWord 12 = .ok (.ifCond .ne 21, 3) := by decide +kernel
theorem dX5_takeWord_15 : decode cX5_takeWord 15 = .ok (.aload_n 0, 1) := by decide +kernel
theorem dX5_takeWord_16 : decode cX5_takeWord 16 = .ok (.bipush (-2), 2) := by decide +kernel
theorem dX5_takeWord_18 : decode cX5_takeWord 18 = .ok (.aload_n 0, 1) := by decide +kernel
theorem dX5_takeWord_19 : decode cX5_takeWord 19 = .ok (.getfield 12, 3) := by decide +kernel
theorem dX5_takeWord_22 : decode cX5_takeWord 22 = .ok (.aload_n 0, 1) := by decide +kernel
theorem dX5_takeWord_23 : decode cX5_takeWord 23 = .ok (.getfield 25, 3) := by decide +kernel
theorem dX5_takeWord_26 : decode cX5_takeWord 26 = .ok (.invokevirtual 111, 3) := by decide +kernel
theorem dX5_takeWord_29 : decode cX5_takeWord 29 = .ok (.invokevirtual 114, 3) := by decide +kernel
theorem dX5_takeWord_32 : decode cX5_takeWord 32 = .ok (.ireturn, 1) := by decide +kernel
theorem dX5_takeWord_33 : decode cX5_takeWord 33 = .ok (.aload_n 0, 1) := by decide +kernel
theorem dX5_takeWord_34 : decode cX5_takeWord 34 = .ok (.dup, 1) := by decide +kernel
theorem dX5_takeWord_35 : decode cX5_takeWord 35 = .ok (.getfield 25, 3) := by decide +kernel
theorem dX5_takeWord_38 : decode cX5_takeWord 38 = .ok (.iconst 1, 1) := by decide +kernel
theorem dX5_takeWord_39 : decode cX5_takeWord 39 = .ok (.iadd, 1) := by decide +kernel
theorem dX5_takeWord_40 : decode cX5_takeWord 40 = .ok (.putfield 25, 3) := by decide +kernel
theorem dX5_takeWord_43 : decode cX5_takeWord 43 = .ok (.iconst 1, 1) := by decide +kernel
theorem dX5_takeWord_44 : decode cX5_takeWord 44 = .ok (.ireturn, 1) := by decide +kernel
set_option maxRecDepth 20000 in
theorem ggX5_takeSemicolon_X7_kindOf : GoodIn wsX5_takeSemicolon wsX7_kindOf := goodIn_r _ [7, 8, 9, 28, 29, 30, 31, 32, 33, 34] (by decide +kernel) (by decide +kernel)
set_option maxRecDepth 20000 in
theorem gX5_takeSemicolon_X7_kindOf : GoodIn wsX5_takeSemicolon (wsV RX5 48 RX7 yX7_kindOf wsX7_kindOf) := goodIn_app (goodIn_of _ (by decide +kernel)) ggX5_takeSemicolon_X7_kindOf
set_option maxRecDepth 20000 in
theorem ggX5_takeSemicolon_X7_startOf : GoodIn wsX5_takeSemicolon wsX7_startOf := goodIn_r _ [13, 8, 14, 15, 28, 29, 30, 31, 32, 33, 34] (by decide +kernel) (by decide +kernel)
set_option maxRecDepth 20000 in
theorem gX5_takeSemicolon_X7_startOf : GoodIn wsX5_takeSemicolon (wsV RX5 111 RX7 yX7_startOf wsX7_startOf) := goodIn_app (goodIn_of _ (by decide +kernel)) ggX5_takeSemicolon_X7_startOf
set_option maxRecDepth 20000 in
theorem ggX5_takeSemicolon_X5_fail : GoodIn wsX5_takeSemicolon wsX5_fail := goodIn_r _ [20, 21, 22, 23, 24, 25, 26, 27] (by decide +kernel) (by decide +kernel)
set_option maxRecDepth 20000 in
theorem gX5_takeSemicolon_X5_fail : GoodIn wsX5_takeSemicolon (wsV RX5 114 RX5 yX5_fail wsX5_fail) := goodIn_app (goodIn_of _ (by decide +kernel)) ggX5_takeSemicolon_X5_fail
theorem dX5_takeSemicolon_0 : decode cX5_takeSemicolon 0 = .ok (.aload_n 0, 1) := by decide +kernel
theorem dX5_takeSemicolon_1 : decode cX5_takeSemicolon 1 = .ok (.getfield 12, 3) := by decide +kernel
theorem dX5_takeSemicolon_4 : decode cX5_takeSemicolon 4 = .ok (.aload_n 0, 1) := by decide +kernel
theorem dX5_takeSemicolon_5 : decode cX5_takeSemicolon 5 = .ok (.getfield 25, 3) := by decide +kernel
theorem dX5_takeSemicolon_8 : decode cX5_takeSemicolon 8 = .ok (.invokevirtual 48, 3) := by decide +kernel
theorem dX5_takeSemicolon_11 : decode cX5_takeSemicolon 11 = .ok (.iconst 3, 1) := by decide +kernel
theorem dX5_takeSemicolon_12 : decode cX5_takeSemicolon 12 = .ok (.if_icmp .eq 21, 3) := by decide +kernel
theorem dX5_takeSemicolon_15 : decode cX5_takeSemicolon 15 = .ok (.aload_n 0, 1) := by decide +kernel
theorem dX5_takeSemicolon_16 : decode cX5_takeSemicolon 16 = .ok (.bipush (-2), 2) := by decide +kernel
theorem dX5_takeSemicolon_18 : decode cX5_takeSemicolon 18 = .ok (.aload_n 0, 1) := by decide +kernel
theorem dX5_takeSemicolon_19 : decode cX5_takeSemicolon 19 = .ok (.getfield 12, 3) := by decide +kernel
theorem dX5_takeSemicolon_22 : decode cX5_takeSemicolon 22 = .ok (.aload_n 0, 1) := by decide +kernel
theorem dX5_takeSemicolon_23 : decode cX5_takeSemicolon 23 = .ok (.getfield 25, 3) := by decide +kernel
theorem dX5_takeSemicolon_26 : decode cX5_takeSemicolon 26 = .ok (.invokevirtual 111, 3) := by decide +kernel
theorem dX5_takeSemicolon_29 : decode cX5_takeSemicolon 29 = .ok (.invokevirtual 114, 3) := by decide +kernel
theorem dX5_takeSemicolon_32 : decode cX5_takeSemicolon 32 = .ok (.ireturn, 1) := by decide +kernel
theorem dX5_takeSemicolon_33 : decode cX5_takeSemicolon 33 = .ok (.aload_n 0, 1) := by decide +kernel
theorem dX5_takeSemicolon_34 : decode cX5_takeSemicolon 34 = .ok (.dup, 1) := by decide +kernel
theorem dX5_takeSemicolon_35 : decode cX5_takeSemicolon 35 = .ok (.getfield 25, 3) := by decide +kernel
theorem dX5_takeSemicolon_38 : decode cX5_takeSemicolon 38 = .ok (.iconst 1, 1) := by decide +kernel
theorem dX5_takeSemicolon_39 : decode cX5_takeSemicolon 39 = .ok (.iadd, 1) := by decide +kernel
theorem dX5_takeSemicolon_40 : decode cX5_takeSemicolon 40 = .ok (.putfield 25, 3) := by decide +kernel
theorem dX5_takeSemicolon_43 : decode cX5_takeSemicolon 43 = .ok (.iconst 1, 1) := by decide +kernel
theorem dX5_takeSemicolon_44 : decode cX5_takeSemicolon 44 = .ok (.ireturn, 1) := by decide +kernel
set_option maxRecDepth 20000 in
theorem ggX5_takeNumber_X7_kindOf : GoodIn wsX5_takeNumber wsX7_kindOf := goodIn_r _ [7, 8, 9, 33, 34, 35, 36, 37, 38, 39] (by decide +kernel) (by decide +kernel)
set_option maxRecDepth 20000 in
theorem gX5_takeNumber_X7_kindOf : GoodIn wsX5_takeNumber (wsV RX5 48 RX7 yX7_kindOf wsX7_kindOf) := goodIn_app (goodIn_of _ (by decide +kernel)) ggX5_takeNumber_X7_kindOf
set_option maxRecDepth 20000 in
theorem ggX5_takeNumber_X7_startOf : GoodIn wsX5_takeNumber wsX7_startOf := goodIn_r _ [13, 8, 14, 15, 33, 34, 35, 36, 37, 38, 39] (by decide +kernel) (by decide +kernel)
set_option maxRecDepth 20000 in
theorem gX5_takeNumber_X7_startOf : GoodIn wsX5_takeNumber (wsV RX5 111 RX7 yX7_startOf wsX7_startOf) := goodIn_app (goodIn_of _ (by decide +kernel)) ggX5_takeNumber_X7_startOf
set_option maxRecDepth 20000 in
theorem ggX5_takeNumber_X5_fail : GoodIn wsX5_takeNumber wsX5_fail := goodIn_r _ [20, 21, 22, 28, 29, 30, 31, 32] (by decide +kernel) (by decide +kernel)
set_option maxRecDepth 20000 in
theorem gX5_takeNumber_X5_fail : GoodIn wsX5_takeNumber (wsV RX5 114 RX5 yX5_fail wsX5_fail) := goodIn_app (goodIn_of _ (by decide +kernel)) ggX5_takeNumber_X5_fail
set_option maxRecDepth 20000 in
theorem ggX5_takeNumber_X7_valueOf : GoodIn wsX5_takeNumber wsX7_valueOf := goodIn_r _ [26, 8, 27, 33, 34, 35, 36, 37, 38, 39] (by decide +kernel) (by decide +kernel)
set_option maxRecDepth 20000 in
theorem gX5_takeNumber_X7_valueOf : GoodIn wsX5_takeNumber (wsV RX5 149 RX7 yX7_valueOf wsX7_valueOf) := goodIn_app (goodIn_of _ (by decide +kernel)) ggX5_takeNumber_X7_valueOf
theorem dX5_takeNumber_0 : decode cX5_takeNumber 0 = .ok (.aload_n 0, 1) := by decide +kernel
theorem dX5_takeNumber_1 : decode cX5_takeNumber 1 = .ok (.getfield 12, 3) := by decide +kernel
theorem dX5_takeNumber_4 : decode cX5_takeNumber 4 = .ok (.aload_n 0, 1) := by decide +kernel
theorem dX5_takeNumber_5 : decode cX5_takeNumber 5 = .ok (.getfield 25, 3) := by decide +kernel
theorem dX5_takeNumber_8 : decode cX5_takeNumber 8 = .ok (.invokevirtual 48, 3) := by decide +kernel
theorem dX5_takeNumber_11 : decode cX5_takeNumber 11 = .ok (.iconst 2, 1) := by decide +kernel
theorem dX5_takeNumber_12 : decode cX5_takeNumber 12 = .ok (.if_icmp .eq 23, 3) := by decide +kernel
theorem dX5_takeNumber_15 : decode cX5_takeNumber 15 = .ok (.aload_n 0, 1) := by decide +kernel
theorem dX5_takeNumber_16 : decode cX5_takeNumber 16 = .ok (.bipush (-2), 2) := by decide +kernel
theorem dX5_takeNumber_18 : decode cX5_takeNumber 18 = .ok (.aload_n 0, 1) := by decide +kernel
theorem dX5_takeNumber_19 : decode cX5_takeNumber 19 = .ok (.getfield 12, 3) := by decide +kernel
theorem dX5_takeNumber_22 : decode cX5_takeNumber 22 = .ok (.aload_n 0, 1) := by decide +kernel
theorem dX5_takeNumber_23 : decode cX5_takeNumber 23 = .ok (.getfield 25, 3) := by decide +kernel
theorem dX5_takeNumber_26 : decode cX5_takeNumber 26 = .ok (.invokevirtual 111, 3) := by decide +kernel
theorem dX5_takeNumber_29 : decode cX5_takeNumber 29 = .ok (.invokevirtual 114, 3) := by decide +kernel
theorem dX5_takeNumber_32 : decode cX5_takeNumber 32 = .ok (.pop, 1) := by decide +kernel
theorem dX5_takeNumber_33 : decode cX5_takeNumber 33 = .ok (.iconst (-1), 1) := by decide +kernel
theorem dX5_takeNumber_34 : decode cX5_takeNumber 34 = .ok (.ireturn, 1) := by decide +kernel
theorem dX5_takeNumber_35 : decode cX5_takeNumber 35 = .ok (.aload_n 0, 1) := by decide +kernel
theorem dX5_takeNumber_36 : decode cX5_takeNumber 36 = .ok (.getfield 12, 3) := by decide +kernel
theorem dX5_takeNumber_39 : decode cX5_takeNumber 39 = .ok (.aload_n 0, 1) := by decide +kernel
theorem dX5_takeNumber_40 : decode cX5_takeNumber 40 = .ok (.getfield 25, 3) := by decide +kernel
theorem dX5_takeNumber_43 : decode cX5_takeNumber 43 = .ok (.invokevirtual 149, 3) := by decide +kernel
theorem dX5_takeNumber_46 : decode cX5_takeNumber 46 = .ok (.istore_n 3, 1) := by decide +kernel
theorem dX5_takeNumber_47 : decode cX5_takeNumber 47 = .ok (.iload_n 3, 1) := by decide +kernel
theorem dX5_takeNumber_48 : decode cX5_takeNumber 48 = .ok (.iload_n 1, 1) := by decide +kernel
theorem dX5_takeNumber_49 : decode cX5_takeNumber 49 = .ok (.if_icmp .lt 8, 3) := by decide +kernel
theorem dX5_takeNumber_52 : decode cX5_takeNumber 52 = .ok (.iload_n 3, 1) := by decide +kernel
theorem dX5_takeNumber_53 : decode cX5_takeNumber 53 = .ok (.iload_n 2, 1) := by decide +kernel
theorem dX5_takeNumber_54 : decode cX5_takeNumber 54 = .ok (.if_icmp .le 23, 3) := by decide +kernel
theorem dX5_takeNumber_57 : decode cX5_takeNumber 57 = .ok (.aload_n 0, 1) := by decide +kernel
theorem dX5_takeNumber_58 : decode cX5_takeNumber 58 = .ok (.bipush (-3), 2) := by decide +kernel
theorem dX5_takeNumber_60 : decode cX5_takeNumber 60 = .ok (.aload_n 0, 1) := by decide +kernel
theorem dX5_takeNumber_61 : decode cX5_takeNumber 61 = .ok (.getfield 12, 3) := by decide +kernel
theorem dX5_takeNumber_64 : decode cX5_takeNumber 64 = .ok (.aload_n 0, 1) := by decide +kernel
theorem dX5_takeNumber_65 : decode cX5_takeNumber 65 = .ok (.getfield 25, 3) := by decide +kernel
theorem dX5_takeNumber_68 : decode cX5_takeNumber 68 = .ok (.invokevirtual 111, 3) := by decide +kernel
theorem dX5_takeNumber_71 : decode cX5_takeNumber 71 = .ok (.invokevirtual 114, 3) := by decide +kernel
theorem dX5_takeNumber_74 : decode cX5_takeNumber 74 = .ok (.pop, 1) := by decide +kernel
theorem dX5_takeNumber_75 : decode cX5_takeNumber 75 = .ok (.iconst (-1), 1) := by decide +kernel
theorem dX5_takeNumber_76 : decode cX5_takeNumber 76 = .ok (.ireturn, 1) := by decide +kernel
theorem dX5_takeNumber_77 : decode cX5_takeNumber 77 = .ok (.aload_n 0, 1) := by decide +kernel
theorem dX5_takeNumber_78 : decode cX5_takeNumber 78 = .ok (.dup, 1) := by decide +kernel
theorem dX5_takeNumber_79 : decode cX5_takeNumber 79 = .ok (.getfield 25, 3) := by decide +kernel
theorem dX5_takeNumber_82 : decode cX5_takeNumber 82 = .ok (.iconst 1, 1) := by decide +kernel
theorem dX5_takeNumber_83 : decode cX5_takeNumber 83 = .ok (.iadd, 1) := by decide +kernel
theorem dX5_takeNumber_84 : decode cX5_takeNumber 84 = .ok (.putfield 25, 3) := by decide +kernel
theorem dX5_takeNumber_87 : decode cX5_takeNumber 87 = .ok (.iload_n 3, 1) := by decide +kernel
theorem dX5_takeNumber_88 : decode cX5_takeNumber 88 = .ok (.ireturn, 1) := by decide +kernel
set_option maxRecDepth 20000 in
theorem ggX5_takeFreePlace_X7_startOf : GoodIn wsX5_takeFreePlace wsX7_startOf := goodIn_r _ [8, 9, 10, 11, 52, 53, 54, 55, 56, 57, 58] (by decide +kernel) (by decide +kernel)
set_option maxRecDepth 20000 in
theorem gX5_takeFreePlace_X7_startOf : GoodIn wsX5_takeFreePlace (wsV RX5 111 RX7 yX7_startOf wsX7_startOf) := goodIn_app (goodIn_of _ (by decide +kernel)) ggX5_takeFreePlace_X7_startOf
set_option maxRecDepth 20000 in
theorem ggX5_takeFreePlace_X5_takeNumber : GoodIn wsX5_takeFreePlace wsX5_takeNumber := goodIn_r _ [16, 1, 2, 17, 18, 19, 7, 20, 9, 21, 4, 5, 6, 8, 10, 11, 22, 23, 24, 15, 25, 26, 27, 28, 29, 30, 31, 32, 47, 48, 49, 50, 51, 52, 53, 54, 55, 56, 57, 58] (by decide +kernel) (by decide +kernel)
set_option maxRecDepth 20000 in
theorem gX5_takeFreePlace_X5_takeNumber : GoodIn wsX5_takeFreePlace (wsV RX5 63 RX5 yX5_takeNumber wsX5_takeNumber) := goodIn_app (goodIn_of _ (by decide +kernel)) ggX5_takeFreePlace_X5_takeNumber
set_option maxRecDepth 20000 in
theorem ggX5_takeFreePlace_X0_isTaken : GoodIn wsX5_takeFreePlace wsX0_isTaken := goodIn_r _ [37, 38, 39, 40, 41, 42, 43, 44, 45, 46, 59, 60, 61, 62, 63, 64, 65, 66, 67] (by decide +kernel) (by decide +kernel)
set_option maxRecDepth 20000 in
theorem gX5_takeFreePlace_X0_isTaken : GoodIn wsX5_takeFreePlace (wsV RX5 152 RX0 yX0_isTaken wsX0_isTaken) := goodIn_app (goodIn_of _ (by decide +kernel)) ggX5_takeFreePlace_X0_isTaken
set_option maxRecDepth 20000 in
theorem ggX5_takeFreePlace_X5_fail : GoodIn wsX5_takeFreePlace wsX5_fail := goodIn_r _ [25, 26, 27, 47, 48, 49, 50, 51] (by decide +kernel) (by decide +kernel)
set_option maxRecDepth 20000 in
theorem gX5_takeFreePlace_X5_fail : GoodIn wsX5_takeFreePlace (wsV RX5 114 RX5 yX5_fail wsX5_fail) := goodIn_app (goodIn_of _ (by decide +kernel)) ggX5_takeFreePlace_X5_fail
theorem dX5_takeFreePlace_0 : decode cX5_takeFreePlace 0 = .ok (.aload_n 0, 1) := by decide +kernel
theorem dX5_takeFreePlace_1 : decode cX5_takeFreePlace 1 = .ok (.getfield 12, 3) := by decide +kernel
theorem dX5_takeFreePlace_4 : decode cX5_takeFreePlace 4 = .ok (.aload_n 0, 1) := by decide +kernel
theorem dX5_takeFreePlace_5 : decode cX5_takeFreePlace 5 = .ok (.getfield 25, 3) := by decide +kernel
theorem dX5_takeFreePlace_8 : decode cX5_takeFreePlace 8 = .ok (.invokevirtual 111, 3) := by decide +kernel
theorem dX5_takeFreePlace_11 : decode cX5_takeFreePlace 11 = .ok (.istore_n 3, 1) := by decide +kernel
theorem dX5_takeFreePlace_12 : decode cX5_takeFreePlace 12 = .ok (.aload_n 0, 1) := by decide +kernel
theorem dX5_takeFreePlace_13 : decode cX5_takeFreePlace 13 = .ok (.iload_n 1, 1) := by decide +kernel
theorem dX5_takeFreePlace_14 : decode cX5_takeFreePlace 14 = .ok (.iload_n 2, 1) := by decide +kernel
theorem dX5_takeFreePlace_15 : decode cX5_takeFreePlace 15 = .ok (.invokevirtual 63, 3) := by decide +kernel
theorem dX5_takeFreePlace_18 : decode cX5_takeFreePlace 18 = .ok (.istore 4, 2) := by decide +kernel
theorem dX5_takeFreePlace_20 : decode cX5_takeFreePlace 20 = .ok (.iload 4, 2) := by decide +kernel
theorem dX5_takeFreePlace_22 : decode cX5_takeFreePlace 22 = .ok (.iconst (-1), 1) := by decide +kernel
theorem dX5_takeFreePlace_23 : decode cX5_takeFreePlace 23 = .ok (.if_icmp .eq 25, 3) := by decide +kernel
theorem dX5_takeFreePlace_26 : decode cX5_takeFreePlace 26 = .ok (.aload_n 0, 1) := by decide +kernel
theorem dX5_takeFreePlace_27 : decode cX5_takeFreePlace 27 = .ok (.getfield 21, 3) := by decide +kernel
theorem dX5_takeFreePlace_30 : decode cX5_takeFreePlace 30 = .ok (.iload 4, 2) := by decide +kernel
theorem dX5_takeFreePlace_32 : decode cX5_takeFreePlace 32 = .ok (.invokevirtual 152, 3) := by decide +kernel
theorem dX5_takeFreePlace_35 : decode cX5_takeFreePlace 35 = .ok (.ifCond .eq 13, 3) := by decide +kernel
theorem dX5_takeFreePlace_38 : decode cX5_takeFreePlace 38 = .ok (.aload_n 0, 1) := by decide +kernel
theorem dX5_takeFreePlace_39 : decode cX5_takeFreePlace 39 = .ok (.bipush (-4), 2) := by decide +kernel
theorem dX5_takeFreePlace_41 : decode cX5_takeFreePlace 41 = .ok (.iload_n 3, 1) := by decide +kernel
theorem dX5_takeFreePlace_42 : decode cX5_takeFreePlace 42 = .ok (.invokevirtual 114, 3) := by decide +kernel
theorem dX5_takeFreePlace_45 : decode cX5_takeFreePlace 45 = .ok (.pop, 1) := by decide +kernel
theorem dX5_takeFreePlace_46 : decode cX5_takeFreePlace 46 = .ok (.iconst (-1), 1) := by decide +kernel
theorem dX5_takeFreePlace_47 : decode cX5_takeFreePlace 47 = .ok (.ireturn, 1) := by decide +kernel
theorem dX5_takeFreePlace_48 : decode cX5_takeFreePlace 48 = .ok (.iload 4, 2) := by decide +kernel
theorem dX5_takeFreePlace_50 : decode cX5_takeFreePlace 50 = .ok (.ireturn, 1) := by decide +kernel
theorem dX6_init_0 : decode cX6_init 0 = .ok (.aload_n 0, 1) := by decide +kernel
theorem dX6_init_1 : decode cX6_init 1 = .ok (.invokespecial 3, 3) := by decide +kernel
theorem dX6_init_4 : decode cX6_init 4 = .ok (.aload_n 0, 1) := by decide +kernel
theorem dX6_init_5 : decode cX6_init 5 = .ok (.iconst 0, 1) := by decide +kernel
theorem dX6_init_6 : decode cX6_init 6 = .ok (.putfield 9, 3) := by decide +kernel
theorem dX6_init_9 : decode cX6_init 9 = .ok (.aload_n 0, 1) := by decide +kernel
theorem dX6_init_10 : decode cX6_init 10 = .ok (.iload_n 1, 1) := by decide +kernel
theorem dX6_init_11 : decode cX6_init 11 = .ok (.iconst 0, 1) := by decide +kernel
theorem dX6_init_12 : decode cX6_init 12 = .ok (.invokestatic 15, 3) := by decide +kernel
theorem dX6_init_15 : decode cX6_init 15 = .ok (.newarray .int, 2) := by decide +kernel
theorem dX6_init_17 : decode cX6_init 17 = .ok (.putfield 21, 3) := by decide +kernel
theorem dX6_init_20 : decode cX6_init 20 = .ok (.aload_n 0, 1) := by decide +kernel
theorem dX6_init_21 : decode cX6_init 21 = .ok (.iload_n 1, 1) := by decide +kernel
theorem dX6_init_22 : decode cX6_init 22 = .ok (.iconst 0, 1) := by decide +kernel
theorem dX6_init_23 : decode cX6_init 23 = .ok (.invokestatic 15, 3) := by decide +kernel
theorem dX6_init_26 : decode cX6_init 26 = .ok (.newarray .int, 2) := by decide +kernel
theorem dX6_init_28 : decode cX6_init 28 = .ok (.putfield 25, 3) := by decide +kernel
theorem dX6_init_31 : decode cX6_init 31 = .ok (.return_, 1) := by decide +kernel
theorem dX6_has_0 : decode cX6_has 0 = .ok (.iload_n 1, 1) := by decide +kernel
theorem dX6_has_1 : decode cX6_has 1 = .ok (.ifCond .lt 33, 3) := by decide +kernel
theorem dX6_has_4 : decode cX6_has 4 = .ok (.iload_n 1, 1) := by decide +kernel
theorem dX6_has_5 : decode cX6_has 5 = .ok (.aload_n 0, 1) := by decide +kernel
theorem dX6_has_6 : decode cX6_has 6 = .ok (.getfield 9, 3) := by decide +kernel
theorem dX6_has_9 : decode cX6_has 9 = .ok (.if_icmp .ge 25, 3) := by decide +kernel
theorem dX6_has_12 : decode cX6_has 12 = .ok (.iload_n 1, 1) := by decide +kernel
theorem dX6_has_13 : decode cX6_has 13 = .ok (.aload_n 0, 1) := by decide +kernel
theorem dX6_has_14 : decode cX6_has 14 = .ok (.getfield 21, 3) := by decide +kernel
theorem dX6_has_17 : decode cX6_has 17 = .ok (.arraylength, 1) := by decide +kernel
theorem dX6_has_18 : decode cX6_has 18 = .ok (.if_icmp .ge 16, 3) := by decide +kernel
theorem dX6_has_21 : decode cX6_has 21 = .ok (.iload_n 1, 1) := by decide +kernel
theorem dX6_has_22 : decode cX6_has 22 = .ok (.aload_n 0, 1) := by decide +kernel
theorem dX6_has_23 : decode cX6_has 23 = .ok (.getfield 25, 3) := by decide +kernel
theorem dX6_has_26 : decode cX6_has 26 = .ok (.arraylength, 1) := by decide +kernel
theorem dX6_has_27 : decode cX6_has 27 = .ok (.if_icmp .ge 7, 3) := by decide +kernel
theorem dX6_has_30 : decode cX6_has 30 = .ok (.iconst 1, 1) := by decide +kernel
theorem dX6_has_31 : decode cX6_has 31 = .ok (.goto 4, 3) := by decide +kernel
theorem dX6_has_34 : decode cX6_has 34 = .ok (.iconst 0, 1) := by decide +kernel
theorem dX6_has_35 : decode cX6_has 35 = .ok (.ireturn, 1) := by decide +kernel
theorem dX6_isFull_0 : decode cX6_isFull 0 = .ok (.aload_n 0, 1) := by decide +kernel
theorem dX6_isFull_1 : decode cX6_isFull 1 = .ok (.getfield 9, 3) := by decide +kernel
theorem dX6_isFull_4 : decode cX6_isFull 4 = .ok (.aload_n 0, 1) := by decide +kernel
theorem dX6_isFull_5 : decode cX6_isFull 5 = .ok (.getfield 21, 3) := by decide +kernel
theorem dX6_isFull_8 : decode cX6_isFull 8 = .ok (.arraylength, 1) := by decide +kernel
theorem dX6_isFull_9 : decode cX6_isFull 9 = .ok (.if_icmp .ge 15, 3) := by decide +kernel
theorem dX6_isFull_12 : decode cX6_isFull 12 = .ok (.aload_n 0, 1) := by decide +kernel
theorem dX6_isFull_13 : decode cX6_isFull 13 = .ok (.getfield 9, 3) := by decide +kernel
theorem dX6_isFull_16 : decode cX6_isFull 16 = .ok (.aload_n 0, 1) := by decide +kernel
theorem dX6_isFull_17 : decode cX6_isFull 17 = .ok (.getfield 25, 3) := by decide +kernel
theorem dX6_isFull_20 : decode cX6_isFull 20 = .ok (.arraylength, 1) := by decide +kernel
theorem dX6_isFull_21 : decode cX6_isFull 21 = .ok (.if_icmp .lt 7, 3) := by decide +kernel
theorem dX6_isFull_24 : decode cX6_isFull 24 = .ok (.iconst 1, 1) := by decide +kernel
theorem dX6_isFull_25 : decode cX6_isFull 25 = .ok (.goto 4, 3) := by decide +kernel
theorem dX6_isFull_28 : decode cX6_isFull 28 = .ok (.iconst 0, 1) := by decide +kernel
theorem dX6_isFull_29 : decode cX6_isFull 29 = .ok (.ireturn, 1) := by decide +kernel
set_option maxRecDepth 20000 in
theorem ggX6_first_X6_has : GoodIn wsX6_first wsX6_has := goodIn_r _ [6, 7, 1, 8, 9, 10, 11] (by decide +kernel) (by decide +kernel)
set_option maxRecDepth 20000 in
theorem gX6_first_X6_has : GoodIn wsX6_first (wsV RX6 28 RX6 yX6_has wsX6_has) := goodIn_app (goodIn_of _ (by decide +kernel)) ggX6_first_X6_has
theorem dX6_first_0 : decode cX6_first 0 = .ok (.aload_n 0, 1) := by decide +kernel
theorem dX6_first_1 : decode cX6_first 1 = .ok (.iload_n 1, 1) := by decide +kernel
theorem dX6_first_2 : decode cX6_first 2 = .ok (.invokevirtual 28, 3) := by decide +kernel
theorem dX6_first_5 : decode cX6_first 5 = .ok (.ifCond .eq 12, 3) := by decide +kernel
theorem dX6_first_8 : decode cX6_first 8 = .ok (.aload_n 0, 1) := by decide +kernel
theorem dX6_first_9 : decode cX6_first 9 = .ok (.getfield 21, 3) := by decide +kernel
theorem dX6_first_12 : decode cX6_first 12 = .ok (.iload_n 1, 1) := by decide +kernel
theorem dX6_first_13 : decode cX6_first 13 = .ok (.iaload, 1) := by decide +kernel
theorem dX6_first_14 : decode cX6_first 14 = .ok (.goto 4, 3) := by decide +kernel
theorem dX6_first_17 : decode cX6_first 17 = .ok (.iconst 0, 1) := by decide +kernel
theorem dX6_first_18 : decode cX6_first 18 = .ok (.ireturn, 1) := by decide +kernel
set_option maxRecDepth 20000 in
theorem ggX6_second_X6_has : GoodIn wsX6_second wsX6_has := goodIn_r _ [6, 7, 8, 1, 9, 10, 11] (by decide +kernel) (by decide +kernel)
set_option maxRecDepth 20000 in
theorem gX6_second_X6_has : GoodIn wsX6_second (wsV RX6 28 RX6 yX6_has wsX6_has) := goodIn_app (goodIn_of _ (by decide +kernel)) ggX6_second_X6_has
theorem dX6_second_0 : decode cX6_second 0 = .ok (.aload_n 0, 1) := by decide +kernel
theorem dX6_second_1 : decode cX6_second 1 = .ok (.iload_n 1, 1) := by decide +kernel
theorem dX6_second_2 : decode cX6_second 2 = .ok (.invokevirtual 28, 3) := by decide +kernel
theorem dX6_second_5 : decode cX6_second 5 = .ok (.ifCond .eq 12, 3) := by decide +kernel
theorem dX6_second_8 : decode cX6_second 8 = .ok (.aload_n 0, 1) := by decide +kernel
theorem dX6_second_9 : decode cX6_second 9 = .ok (.getfield 25, 3) := by decide +kernel
theorem dX6_second_12 : decode cX6_second 12 = .ok (.iload_n 1, 1) := by decide +kernel
theorem dX6_second_13 : decode cX6_second 13 = .ok (.iaload, 1) := by decide +kernel
theorem dX6_second_14 : decode cX6_second 14 = .ok (.goto 4, 3) := by decide +kernel
theorem dX6_second_17 : decode cX6_second 17 = .ok (.iconst 0, 1) := by decide +kernel
theorem dX6_second_18 : decode cX6_second 18 = .ok (.ireturn, 1) := by decide +kernel
set_option maxRecDepth 20000 in
theorem ggX6_setSecond_X6_has : GoodIn wsX6_setSecond wsX6_has := goodIn_r _ [6, 7, 8, 1, 9, 10, 11] (by decide +kernel) (by decide +kernel)
set_option maxRecDepth 20000 in
theorem gX6_setSecond_X6_has : GoodIn wsX6_setSecond (wsV RX6 28 RX6 yX6_has wsX6_has) := goodIn_app (goodIn_of _ (by decide +kernel)) ggX6_setSecond_X6_has
theorem dX6_setSecond_0 : decode cX6_setSecond 0 = .ok (.aload_n 0, 1) := by decide +kernel
theorem dX6_setSecond_1 : decode cX6_setSecond 1 = .ok (.iload_n 1, 1) := by decide +kernel
theorem dX6_setSecond_2 : decode cX6_setSecond 2 = .ok (.invokevirtual 28, 3) := by decide +kernel
theorem dX6_setSecond_5 : decode cX6_setSecond 5 = .ok (.ifCond .eq 10, 3) := by decide +kernel
theorem dX6_setSecond_8 : decode cX6_setSecond 8 = .ok (.aload_n 0, 1) := by decide +kernel
theorem dX6_setSecond_9 : decode cX6_setSecond 9 = .ok (.getfield 25, 3) := by decide +kernel
theorem dX6_setSecond_12 : decode cX6_setSecond 12 = .ok (.iload_n 1, 1) := by decide +kernel
theorem dX6_setSecond_13 : decode cX6_setSecond 13 = .ok (.iload_n 2, 1) := by decide +kernel
theorem dX6_setSecond_14 : decode cX6_setSecond 14 = .ok (.iastore, 1) := by decide +kernel
theorem dX6_setSecond_15 : decode cX6_setSecond 15 = .ok (.return_, 1) := by decide +kernel
theorem dX6_holdsFirst_0 : decode cX6_holdsFirst 0 = .ok (.iconst 0, 1) := by decide +kernel
theorem dX6_holdsFirst_1 : decode cX6_holdsFirst 1 = .ok (.istore_n 2, 1) := by decide +kernel
theorem dX6_holdsFirst_2 : decode cX6_holdsFirst 2 = .ok (.iload_n 2, 1) := by decide +kernel
theorem dX6_holdsFirst_3 : decode cX6_holdsFirst 3 = .ok (.aload_n 0, 1) := by decide +kernel
theorem dX6_holdsFirst_4 : decode cX6_holdsFirst 4 = .ok (.getfield 9, 3) := by decide +kernel
theorem dX6_holdsFirst_7 : decode cX6_holdsFirst 7 = .ok (.if_icmp .ge 30, 3) := by decide +kernel
theorem dX6_holdsFirst_10 : decode cX6_holdsFirst 10 = .ok (.iload_n 2, 1) := by decide +kernel
theorem dX6_holdsFirst_11 : decode cX6_holdsFirst 11 = .ok (.aload_n 0, 1) := by decide +kernel
theorem dX6_holdsFirst_12 : decode cX6_holdsFirst 12 = .ok (.getfield 21, 3) := by decide +kernel
theorem dX6_holdsFirst_15 : decode cX6_holdsFirst 15 = .ok (.arraylength, 1) := by decide +kernel
theorem dX6_holdsFirst_16 : decode cX6_holdsFirst 16 = .ok (.if_icmp .ge 21, 3) := by decide +kernel
theorem dX6_holdsFirst_19 : decode cX6_holdsFirst 19 = .ok (.aload_n 0, 1) := by decide +kernel
theorem dX6_holdsFirst_20 : decode cX6_holdsFirst 20 = .ok (.getfield 21, 3) := by decide +kernel
theorem dX6_holdsFirst_23 : decode cX6_holdsFirst 23 = .ok (.iload_n 2, 1) := by decide +kernel
theorem dX6_holdsFirst_24 : decode cX6_holdsFirst 24 = .ok (.iaload, 1) := by decide +kernel
theorem dX6_holdsFirst_25 : decode cX6_holdsFirst 25 = .ok (.iload_n 1, 1) := by decide +kernel
theorem dX6_holdsFirst_26 : decode cX6_holdsFirst 26 = .ok (.if_icmp .ne 5, 3) := by decide +kernel
theorem dX6_holdsFirst_29 : decode cX6_holdsFirst 29 = .ok (.iconst 1, 1) := by decide +kernel
theorem dX6_holdsFirst_30 : decode cX6_holdsFirst 30 = .ok (.ireturn, 1) := by decide +kernel
theorem dX6_holdsFirst_31 : decode cX6_holdsFirst 31 = .ok (.iinc 2 1, 3) := by decide +kernel
theorem dX6_holdsFirst_34 : decode cX6_holdsFirst 34 = .ok (.goto (-32), 3) := by decide +kernel
theorem dX6_holdsFirst_37 : decode cX6_holdsFirst 37 = .ok (.iconst 0, 1) := by decide +kernel
theorem dX6_holdsFirst_38 : decode cX6_holdsFirst 38 = .ok (.ireturn, 1) := by decide +kernel
theorem dX6_holdsSecond_0 : decode cX6_holdsSecond 0 = .ok (.iconst 0, 1) := by decide +kernel
theorem dX6_holdsSecond_1 : decode cX6_holdsSecond 1 = .ok (.istore_n 2, 1) := by decide +kernel
theorem dX6_holdsSecond_2 : decode cX6_holdsSecond 2 = .ok (.iload_n 2, 1) := by decide +kernel
theorem dX6_holdsSecond_3 : decode cX6_holdsSecond 3 = .ok (.aload_n 0, 1) := by decide +kernel
theorem dX6_holdsSecond_4 : decode cX6_holdsSecond 4 = .ok (.getfield 9, 3) := by decide +kernel
theorem dX6_holdsSecond_7 : decode cX6_holdsSecond 7 = .ok (.if_icmp .ge 30, 3) := by decide +kernel
theorem dX6_holdsSecond_10 : decode cX6_holdsSecond 10 = .ok (.iload_n 2, 1) := by decide +kernel
theorem dX6_holdsSecond_11 : decode cX6_holdsSecond 11 = .ok (.aload_n 0, 1) := by decide +kernel
theorem dX6_holdsSecond_12 : decode cX6_holdsSecond 12 = .ok (.getfield 25, 3) := by decide +kernel
theorem dX6_holdsSecond_15 : decode cX6_holdsSecond 15 = .ok (.arraylength, 1) := by decide +kernel
theorem dX6_holdsSecond_16 : decode cX6_holdsSecond 16 = .ok (.if_icmp .ge 21, 3) := by decide +kernel
theorem dX6_holdsSecond_19 : decode cX6_holdsSecond 19 = .ok (.aload_n 0, 1) := by decide +kernel
theorem dX6_holdsSecond_20 : decode cX6_holdsSecond 20 = .ok (.getfield 25, 3) := by decide +kernel
theorem dX6_holdsSecond_23 : decode cX6_holdsSecond 23 = .ok (.iload_n 2, 1) := by decide +kernel
theorem dX6_holdsSecond_24 : decode cX6_holdsSecond 24 = .ok (.iaload, 1) := by decide +kernel
theorem dX6_holdsSecond_25 : decode cX6_holdsSecond 25 = .ok (.iload_n 1, 1) := by decide +kernel
theorem dX6_holdsSecond_26 : decode cX6_holdsSecond 26 = .ok (.if_icmp .ne 5, 3) := by decide +kernel
theorem dX6_holdsSecond_29 : decode cX6_holdsSecond 29 = .ok (.iconst 1, 1) := by decide +kernel
theorem dX6_holdsSecond_30 : decode cX6_holdsSecond 30 = .ok (.ireturn, 1) := by decide +kernel
theorem dX6_holdsSecond_31 : decode cX6_holdsSecond 31 = .ok (.iinc 2 1, 3) := by decide +kernel
theorem dX6_holdsSecond_34 : decode cX6_holdsSecond 34 = .ok (.goto (-32), 3) := by decide +kernel
theorem dX6_holdsSecond_37 : decode cX6_holdsSecond 37 = .ok (.iconst 0, 1) := by decide +kernel
theorem dX6_holdsSecond_38 : decode cX6_holdsSecond 38 = .ok (.ireturn, 1) := by decide +kernel
theorem dX6_countUpTo_0 : decode cX6_countUpTo 0 = .ok (.iconst 0, 1) := by decide +kernel
theorem dX6_countUpTo_1 : decode cX6_countUpTo 1 = .ok (.istore_n 2, 1) := by decide +kernel
theorem dX6_countUpTo_2 : decode cX6_countUpTo 2 = .ok (.iconst 0, 1) := by decide +kernel
theorem dX6_countUpTo_3 : decode cX6_countUpTo 3 = .ok (.istore_n 3, 1) := by decide +kernel
theorem dX6_countUpTo_4 : decode cX6_countUpTo 4 = .ok (.iload_n 3, 1) := by decide +kernel
theorem dX6_countUpTo_5 : decode cX6_countUpTo 5 = .ok (.aload_n 0, 1) := by decide +kernel
theorem dX6_countUpTo_6 : decode cX6_countUpTo 6 = .ok (.getfield 9, 3) := by decide +kernel
theorem dX6_countUpTo_9 : decode cX6_countUpTo 9 = .ok (.if_icmp .ge 31, 3) := by decide +kernel
theorem dX6_countUpTo_12 : decode cX6_countUpTo 12 = .ok (.iload_n 3, 1) := by decide +kernel
theorem dX6_countUpTo_13 : decode cX6_countUpTo 13 = .ok (.aload_n 0, 1) := by decide +kernel
theorem dX6_countUpTo_14 : decode cX6_countUpTo 14 = .ok (.getfield 21, 3) := by decide +kernel
theorem dX6_countUpTo_17 : decode cX6_countUpTo 17 = .ok (.arraylength, 1) := by decide +kernel
theorem dX6_countUpTo_18 : decode cX6_countUpTo 18 = .ok (.if_icmp .ge 22, 3) := by decide +kernel
theorem dX6_countUpTo_21 : decode cX6_countUpTo 21 = .ok (.aload_n 0, 1) := by decide +kernel
theorem dX6_countUpTo_22 : decode cX6_countUpTo 22 = .ok (.getfield 21, 3) := by decide +kernel
theorem dX6_countUpTo_25 : decode cX6_countUpTo 25 = .ok (.iload_n 3, 1) := by decide +kernel
theorem dX6_countUpTo_26 : decode cX6_countUpTo 26 = .ok (.iaload, 1) := by decide +kernel
theorem dX6_countUpTo_27 : decode cX6_countUpTo 27 = .ok (.iload_n 1, 1) := by decide +kernel
theorem dX6_countUpTo_28 : decode cX6_countUpTo 28 = .ok (.if_icmp .gt 6, 3) := by decide +kernel
theorem dX6_countUpTo_31 : decode cX6_countUpTo 31 = .ok (.iinc 2 1, 3) := by decide +kernel
theorem dX6_countUpTo_34 : decode cX6_countUpTo 34 = .ok (.iinc 3 1, 3) := by decide +kernel
theorem dX6_countUpTo_37 : decode cX6_countUpTo 37 = .ok (.goto (-33), 3) := by decide +kernel
theorem dX6_countUpTo_40 : decode cX6_countUpTo 40 = .ok (.iload_n 2, 1) := by decide +kernel
theorem dX6_countUpTo_41 : decode cX6_countUpTo 41 = .ok (.ireturn, 1) := by decide +kernel
set_option maxRecDepth 20000 in
theorem ggX6_sumOfFirsts_X6_first : GoodIn wsX6_sumOfFirsts wsX6_first := goodIn_r _ [6, 7, 8, 9, 10, 5, 11, 1, 12, 13, 14, 15] (by decide +kernel) (by decide +kernel)
set_option maxRecDepth 20000 in
theorem gX6_sumOfFirsts_X6_first : GoodIn wsX6_sumOfFirsts (wsV RX6 32 RX6 yX6_first wsX6_first) := goodIn_app (goodIn_of _ (by decide +kernel)) ggX6_sumOfFirsts_X6_first
theorem dX6_sumOfFirsts_0 : decode cX6_sumOfFirsts 0 = .ok (.iconst 0, 1) := by decide +kernel
theorem dX6_sumOfFirsts_1 : decode cX6_sumOfFirsts 1 = .ok (.istore_n 1, 1) := by decide +kernel
theorem dX6_sumOfFirsts_2 : decode cX6_sumOfFirsts 2 = .ok (.iconst 0, 1) := by decide +kernel
theorem dX6_sumOfFirsts_3 : decode cX6_sumOfFirsts 3 = .ok (.istore_n 2, 1) := by decide +kernel
theorem dX6_sumOfFirsts_4 : decode cX6_sumOfFirsts 4 = .ok (.iload_n 2, 1) := by decide +kernel
theorem dX6_sumOfFirsts_5 : decode cX6_sumOfFirsts 5 = .ok (.aload_n 0, 1) := by decide +kernel
theorem dX6_sumOfFirsts_6 : decode cX6_sumOfFirsts 6 = .ok (.getfield 9, 3) := by decide +kernel
theorem dX6_sumOfFirsts_9 : decode cX6_sumOfFirsts 9 = .ok (.if_icmp .ge 17, 3) := by decide +kernel
theorem dX6_sumOfFirsts_12 : decode cX6_sumOfFirsts 12 = .ok (.iload_n 1, 1) := by decide +kernel
theorem dX6_sumOfFirsts_13 : decode cX6_sumOfFirsts 13 = .ok (.aload_n 0, 1) := by decide +kernel
theorem dX6_sumOfFirsts_14 : decode cX6_sumOfFirsts 14 = .ok (.iload_n 2, 1) := by decide +kernel
theorem dX6_sumOfFirsts_15 : decode cX6_sumOfFirsts 15 = .ok (.invokevirtual 32, 3) := by decide +kernel
theorem dX6_sumOfFirsts_18 : decode cX6_sumOfFirsts 18 = .ok (.iadd, 1) := by decide +kernel
theorem dX6_sumOfFirsts_19 : decode cX6_sumOfFirsts 19 = .ok (.istore_n 1, 1) := by decide +kernel
theorem dX6_sumOfFirsts_20 : decode cX6_sumOfFirsts 20 = .ok (.iinc 2 1, 3) := by decide +kernel
theorem dX6_sumOfFirsts_23 : decode cX6_sumOfFirsts 23 = .ok (.goto (-19), 3) := by decide +kernel
theorem dX6_sumOfFirsts_26 : decode cX6_sumOfFirsts 26 = .ok (.iload_n 1, 1) := by decide +kernel
theorem dX6_sumOfFirsts_27 : decode cX6_sumOfFirsts 27 = .ok (.ireturn, 1) := by decide +kernel
set_option maxRecDepth 20000 in
theorem ggX6_greatestSecond_X6_second : GoodIn wsX6_greatestSecond wsX6_second := goodIn_r _ [10, 11, 12, 13, 14, 9, 15, 1, 16, 17, 18, 19] (by decide +kernel) (by decide +kernel)
set_option maxRecDepth 20000 in
theorem gX6_greatestSecond_X6_second : GoodIn wsX6_greatestSecond (wsV RX6 36 RX6 yX6_second wsX6_second) := goodIn_app (goodIn_of _ (by decide +kernel)) ggX6_greatestSecond_X6_second
theorem dX6_greatestSecond_0 : decode cX6_greatestSecond 0 = .ok (.iconst 0, 1) := by decide +kernel
theorem dX6_greatestSecond_1 : decode cX6_greatestSecond 1 = .ok (.istore_n 1, 1) := by decide +kernel
theorem dX6_greatestSecond_2 : decode cX6_greatestSecond 2 = .ok (.iconst 0, 1) := by decide +kernel
theorem dX6_greatestSecond_3 : decode cX6_greatestSecond 3 = .ok (.istore_n 2, 1) := by decide +kernel
theorem dX6_greatestSecond_4 : decode cX6_greatestSecond 4 = .ok (.iload_n 2, 1) := by decide +kernel
theorem dX6_greatestSecond_5 : decode cX6_greatestSecond 5 = .ok (.aload_n 0, 1) := by decide +kernel
theorem dX6_greatestSecond_6 : decode cX6_greatestSecond 6 = .ok (.getfield 9, 3) := by decide +kernel
theorem dX6_greatestSecond_9 : decode cX6_greatestSecond 9 = .ok (.if_icmp .ge 19, 3) := by decide +kernel
theorem dX6_greatestSecond_12 : decode cX6_greatestSecond 12 = .ok (.iload_n 1, 1) := by decide +kernel
theorem dX6_greatestSecond_13 : decode cX6_greatestSecond 13 = .ok (.aload_n 0, 1) := by decide +kernel
theorem dX6_greatestSecond_14 : decode cX6_greatestSecond 14 = .ok (.iload_n 2, 1) := by decide +kernel
theorem dX6_greatestSecond_15 : decode cX6_greatestSecond 15 = .ok (.invokevirtual 36, 3) := by decide +kernel
theorem dX6_greatestSecond_18 : decode cX6_greatestSecond 18 = .ok (.invokestatic 15, 3) := by decide +kernel
theorem dX6_greatestSecond_21 : decode cX6_greatestSecond 21 = .ok (.istore_n 1, 1) := by decide +kernel
theorem dX6_greatestSecond_22 : decode cX6_greatestSecond 22 = .ok (.iinc 2 1, 3) := by decide +kernel
theorem dX6_greatestSecond_25 : decode cX6_greatestSecond 25 = .ok (.goto (-21), 3) := by decide +kernel
theorem dX6_greatestSecond_28 : decode cX6_greatestSecond 28 = .ok (.iload_n 1, 1) := by decide +kernel
theorem dX6_greatestSecond_29 : decode cX6_greatestSecond 29 = .ok (.ireturn, 1) := by decide +kernel
set_option maxRecDepth 20000 in
theorem ggX6_putLast_X6_putAt : GoodIn wsX6_putLast wsX6_putAt := goodIn_r _ [6, 1, 7, 8, 9, 10, 11, 5, 12, 13, 14, 15] (by decide +kernel) (by decide +kernel)
set_option maxRecDepth 20000 in
theorem gX6_putLast_X6_putAt : GoodIn wsX6_putLast (wsV RX6 39 RX6 yX6_putAt wsX6_putAt) := goodIn_app (goodIn_of _ (by decide +kernel)) ggX6_putLast_X6_putAt
theorem dX6_putLast_0 : decode cX6_putLast 0 = .ok (.aload_n 0, 1) := by decide +kernel
theorem dX6_putLast_1 : decode cX6_putLast 1 = .ok (.aload_n 0, 1) := by decide +kernel
theorem dX6_putLast_2 : decode cX6_putLast 2 = .ok (.getfield 9, 3) := by decide +kernel
theorem dX6_putLast_5 : decode cX6_putLast 5 = .ok (.iload_n 1, 1) := by decide +kernel
theorem dX6_putLast_6 : decode cX6_putLast 6 = .ok (.iload_n 2, 1) := by decide +kernel
theorem dX6_putLast_7 : decode cX6_putLast 7 = .ok (.invokevirtual 39, 3) := by decide +kernel
theorem dX6_putLast_10 : decode cX6_putLast 10 = .ok (.ireturn, 1) := by decide +kernel
set_option maxRecDepth 20000 in
theorem ggX6_putInOrder_X6_countUpTo : GoodIn wsX6_putInOrder wsX6_countUpTo := goodIn_r _ [5, 6, 7, 17, 18, 19] (by decide +kernel) (by decide +kernel)
set_option maxRecDepth 20000 in
theorem gX6_putInOrder_X6_countUpTo : GoodIn wsX6_putInOrder (wsV RX6 43 RX6 yX6_countUpTo wsX6_countUpTo) := goodIn_app (goodIn_of _ (by decide +kernel)) ggX6_putInOrder_X6_countUpTo
set_option maxRecDepth 20000 in
theorem ggX6_putInOrder_X6_putAt : GoodIn wsX6_putInOrder wsX6_putAt := goodIn_r _ [11, 6, 7, 12, 13, 14, 15, 4, 16, 17, 18, 19] (by decide +kernel) (by decide +kernel)
set_option maxRecDepth 20000 in
theorem gX6_putInOrder_X6_putAt : GoodIn wsX6_putInOrder (wsV RX6 39 RX6 yX6_putAt wsX6_putAt) := goodIn_app (goodIn_of _ (by decide +kernel)) ggX6_putInOrder_X6_putAt
theorem dX6_putInOrder_0 : decode cX6_putInOrder 0 = .ok (.aload_n 0, 1) := by decide +kernel
theorem dX6_putInOrder_1 : decode cX6_putInOrder 1 = .ok (.aload_n 0, 1) := by decide +kernel
theorem dX6_putInOrder_2 : decode cX6_putInOrder 2 = .ok (.iload_n 1, 1) := by decide +kernel
theorem dX6_putInOrder_3 : decode cX6_putInOrder 3 = .ok (.invokevirtual 43, 3) := by decide +kernel
theorem dX6_putInOrder_6 : decode cX6_putInOrder 6 = .ok (.iload_n 1, 1) := by decide +kernel
theorem dX6_putInOrder_7 : decode cX6_putInOrder 7 = .ok (.iload_n 2, 1) := by decide +kernel
theorem dX6_putInOrder_8 : decode cX6_putInOrder 8 = .ok (.invokevirtual 39, 3) := by decide +kernel
theorem dX6_putInOrder_11 : decode cX6_putInOrder 11 = .ok (.ireturn, 1) := by decide +kernel
set_option maxRecDepth 20000 in
theorem ggX6_putAt_X6_isFull : GoodIn wsX6_putAt wsX6_isFull := goodIn_r _ [8, 1, 2, 3, 9, 10, 11] (by decide +kernel) (by decide +kernel)
set_option maxRecDepth 20000 in
theorem gX6_putAt_X6_isFull : GoodIn wsX6_putAt (wsV RX6 46 RX6 yX6_isFull wsX6_isFull) := goodIn_app (goodIn_of _ (by decide +kernel)) ggX6_putAt_X6_isFull
theorem dX6_putAt_0 : decode cX6_putAt 0 = .ok (.aload_n 0, 1) := by decide +kernel
theorem dX6_putAt_1 : decode cX6_putAt 1 = .ok (.invokevirtual 46, 3) := by decide +kernel
theorem dX6_putAt_4 : decode cX6_putAt 4 = .ok (.ifCond .ne 15, 3) := by decide +kernel
theorem dX6_putAt_7 : decode cX6_putAt 7 = .ok (.iload_n 1, 1) := by decide +kernel
theorem dX6_putAt_8 : decode cX6_putAt 8 = .ok (.ifCond .lt 11, 3) := by decide +kernel
theorem dX6_putAt_11 : decode cX6_putAt 11 = .ok (.iload_n 1, 1) := by decide +kernel
theorem dX6_putAt_12 : decode cX6_putAt 12 = .ok (.aload_n 0, 1) := by decide +kernel
theorem dX6_putAt_13 : decode cX6_putAt 13 = .ok (.getfield 9, 3) := by decide +kernel
theorem dX6_putAt_16 : decode cX6_putAt 16 = .ok (.if_icmp .le 5, 3) := by decide +kernel
theorem dX6_putAt_19 : decode cX6_putAt 19 = .ok (.iconst (-1), 1) := by decide +kernel
theorem dX6_putAt_20 : decode cX6_putAt 20 = .ok (.ireturn, 1) := by decide +kernel
theorem dX6_putAt_21 : decode cX6_putAt 21 = .ok (.aload_n 0, 1) := by decide +kernel
theorem dX6_putAt_22 : decode cX6_putAt 22 = .ok (.getfield 9, 3) := by decide +kernel
theorem dX6_putAt_25 : decode cX6_putAt 25 = .ok (.istore 4, 2) := by decide +kernel
theorem dX6_putAt_27 : decode cX6_putAt 27 = .ok (.iload 4, 2) := by decide +kernel
theorem dX6_putAt_29 : decode cX6_putAt 29 = .ok (.iload_n 1, 1) := by decide +kernel
theorem dX6_putAt_30 : decode cX6_putAt 30 = .ok (.if_icmp .le 41, 3) := by decide +kernel
theorem dX6_putAt_33 : decode cX6_putAt 33 = .ok (.aload_n 0, 1) := by decide +kernel
theorem dX6_putAt_34 : decode cX6_putAt 34 = .ok (.getfield 21, 3) := by decide +kernel
theorem dX6_putAt_37 : decode cX6_putAt 37 = .ok (.iload 4, 2) := by decide +kernel
theorem dX6_putAt_39 : decode cX6_putAt 39 = .ok (.aload_n 0, 1) := by decide +kernel
theorem dX6_putAt_40 : decode cX6_putAt 40 = .ok (.getfield 21, 3) := by decide +kernel
theorem dX6_putAt_43 : decode cX6_putAt 43 = .ok (.iload 4, 2) := by decide +kernel
theorem dX6_putAt_45 : decode cX6_putAt 45 = .ok (.iconst 1, 1) := by decide +kernel
theorem dX6_putAt_46 : decode cX6_putAt 46 = .ok (.isub, 1) := by decide +kernel
theorem dX6_putAt_47 : decode cX6_putAt 47 = .ok (.iaload, 1) := by decide +kernel
theorem dX6_putAt_48 : decode cX6_putAt 48 = .ok (.iastore, 1) := by decide +kernel
theorem dX6_putAt_49 : decode cX6_putAt 49 = .ok (.aload_n 0, 1) := by decide +kernel
theorem dX6_putAt_50 : decode cX6_putAt 50 = .ok (.getfield 25, 3) := by decide +kernel
theorem dX6_putAt_53 : decode cX6_putAt 53 = .ok (.iload 4, 2) := by decide +kernel
theorem dX6_putAt_55 : decode cX6_putAt 55 = .ok (.aload_n 0, 1) := by decide +kernel
theorem dX6_putAt_56 : decode cX6_putAt 56 = .ok (.getfield 25, 3) := by decide +kernel
theorem dX6_putAt_59 : decode cX6_putAt 59 = .ok (.iload 4, 2) := by decide +kernel
theorem dX6_putAt_61 : decode cX6_putAt 61 = .ok (.iconst 1, 1) := by decide +kernel
theorem dX6_putAt_62 : decode cX6_putAt 62 = .ok (.isub, 1) := by decide +kernel
theorem dX6_putAt_63 : decode cX6_putAt 63 = .ok (.iaload, 1) := by decide +kernel
theorem dX6_putAt_64 : decode cX6_putAt 64 = .ok (.iastore, 1) := by decide +kernel
theorem dX6_putAt_65 : decode cX6_putAt 65 = .ok (.iinc 4 (-1), 3) := by decide +kernel
theorem dX6_putAt_68 : decode cX6_putAt 68 = .ok (.goto (-41), 3) := by decide +kernel
theorem dX6_putAt_71 : decode cX6_putAt 71 = .ok (.aload_n 0, 1) := by decide +kernel
theorem dX6_putAt_72 : decode cX6_putAt 72 = .ok (.getfield 21, 3) := by decide +kernel
theorem dX6_putAt_75 : decode cX6_putAt 75 = .ok (.iload_n 1, 1) := by decide +kernel
theorem dX6_putAt_76 : decode cX6_putAt 76 = .ok (.iload_n 2, 1) := by decide +kernel
theorem dX6_putAt_77 : decode cX6_putAt 77 = .ok (.iastore, 1) := by decide +kernel
theorem dX6_putAt_78 : decode cX6_putAt 78 = .ok (.aload_n 0, 1) := by decide +kernel
theorem dX6_putAt_79 : decode cX6_putAt 79 = .ok (.getfield 25, 3) := by decide +kernel
theorem dX6_putAt_82 : decode cX6_putAt 82 = .ok (.iload_n 1, 1) := by decide +kernel
theorem dX6_putAt_83 : decode cX6_putAt 83 = .ok (.iload_n 3, 1) := by decide +kernel
theorem dX6_putAt_84 : decode cX6_putAt 84 = .ok (.iastore, 1) := by decide +kernel
theorem dX6_putAt_85 : decode cX6_putAt 85 = .ok (.aload_n 0, 1) := by decide +kernel
theorem dX6_putAt_86 : decode cX6_putAt 86 = .ok (.dup, 1) := by decide +kernel
theorem dX6_putAt_87 : decode cX6_putAt 87 = .ok (.getfield 9, 3) := by decide +kernel
theorem dX6_putAt_90 : decode cX6_putAt 90 = .ok (.iconst 1, 1) := by decide +kernel
theorem dX6_putAt_91 : decode cX6_putAt 91 = .ok (.iadd, 1) := by decide +kernel
theorem dX6_putAt_92 : decode cX6_putAt 92 = .ok (.putfield 9, 3) := by decide +kernel
theorem dX6_putAt_95 : decode cX6_putAt 95 = .ok (.iload_n 1, 1) := by decide +kernel
theorem dX6_putAt_96 : decode cX6_putAt 96 = .ok (.ireturn, 1) := by decide +kernel
set_option maxRecDepth 20000 in
theorem ggX6_remove_X6_has : GoodIn wsX6_remove wsX6_has := goodIn_r _ [8, 1, 2, 3, 9, 10, 11] (by decide +kernel) (by decide +kernel)
set_option maxRecDepth 20000 in
theorem gX6_remove_X6_has : GoodIn wsX6_remove (wsV RX6 28 RX6 yX6_has wsX6_has) := goodIn_app (goodIn_of _ (by decide +kernel)) ggX6_remove_X6_has
theorem dX6_remove_0 : decode cX6_remove 0 = .ok (.aload_n 0, 1) := by decide +kernel
theorem dX6_remove_1 : decode cX6_remove 1 = .ok (.iload_n 1, 1) := by decide +kernel
theorem dX6_remove_2 : decode cX6_remove 2 = .ok (.invokevirtual 28, 3) := by decide +kernel
theorem dX6_remove_5 : decode cX6_remove 5 = .ok (.ifCond .ne 4, 3) := by decide +kernel
theorem dX6_remove_8 : decode cX6_remove 8 = .ok (.return_, 1) := by decide +kernel
theorem dX6_remove_9 : decode cX6_remove 9 = .ok (.aload_n 0, 1) := by decide +kernel
theorem dX6_remove_10 : decode cX6_remove 10 = .ok (.dup, 1) := by decide +kernel
theorem dX6_remove_11 : decode cX6_remove 11 = .ok (.getfield 9, 3) := by decide +kernel
theorem dX6_remove_14 : decode cX6_remove 14 = .ok (.iconst 1, 1) := by decide +kernel
theorem dX6_remove_15 : decode cX6_remove 15 = .ok (.isub, 1) := by decide +kernel
theorem dX6_remove_16 : decode cX6_remove 16 = .ok (.putfield 9, 3) := by decide +kernel
theorem dX6_remove_19 : decode cX6_remove 19 = .ok (.iload_n 1, 1) := by decide +kernel
theorem dX6_remove_20 : decode cX6_remove 20 = .ok (.istore_n 2, 1) := by decide +kernel
theorem dX6_remove_21 : decode cX6_remove 21 = .ok (.iload_n 2, 1) := by decide +kernel
theorem dX6_remove_22 : decode cX6_remove 22 = .ok (.aload_n 0, 1) := by decide +kernel
theorem dX6_remove_23 : decode cX6_remove 23 = .ok (.getfield 9, 3) := by decide +kernel
theorem dX6_remove_26 : decode cX6_remove 26 = .ok (.if_icmp .ge 37, 3) := by decide +kernel
theorem dX6_remove_29 : decode cX6_remove 29 = .ok (.aload_n 0, 1) := by decide +kernel
theorem dX6_remove_30 : decode cX6_remove 30 = .ok (.getfield 21, 3) := by decide +kernel
theorem dX6_remove_33 : decode cX6_remove 33 = .ok (.iload_n 2, 1) := by decide +kernel
theorem dX6_remove_34 : decode cX6_remove 34 = .ok (.aload_n 0, 1) := by decide +kernel
theorem dX6_remove_35 : decode cX6_remove 35 = .ok (.getfield 21, 3) := by decide +kernel
theorem dX6_remove_38 : decode cX6_remove 38 = .ok (.iload_n 2, 1) := by decide +kernel
theorem dX6_remove_39 : decode cX6_remove 39 = .ok (.iconst 1, 1) := by decide +kernel
theorem dX6_remove_40 : decode cX6_remove 40 = .ok (.iadd, 1) := by decide +kernel
theorem dX6_remove_41 : decode cX6_remove 41 = .ok (.iaload, 1) := by decide +kernel
theorem dX6_remove_42 : decode cX6_remove 42 = .ok (.iastore, 1) := by decide +kernel
theorem dX6_remove_43 : decode cX6_remove 43 = .ok (.aload_n 0, 1) := by decide +kernel
theorem dX6_remove_44 : decode cX6_remove 44 = .ok (.getfield 25, 3) := by decide +kernel
theorem dX6_remove_47 : decode cX6_remove 47 = .ok (.iload_n 2, 1) := by decide +kernel
theorem dX6_remove_48 : decode cX6_remove 48 = .ok (.aload_n 0, 1) := by decide +kernel
theorem dX6_remove_49 : decode cX6_remove 49 = .ok (.getfield 25, 3) := by decide +kernel
theorem dX6_remove_52 : decode cX6_remove 52 = .ok (.iload_n 2, 1) := by decide +kernel
theorem dX6_remove_53 : decode cX6_remove 53 = .ok (.iconst 1, 1) := by decide +kernel
theorem dX6_remove_54 : decode cX6_remove 54 = .ok (.iadd, 1) := by decide +kernel
theorem dX6_remove_55 : decode cX6_remove 55 = .ok (.iaload, 1) := by decide +kernel
theorem dX6_remove_56 : decode cX6_remove 56 = .ok (.iastore, 1) := by decide +kernel
theorem dX6_remove_57 : decode cX6_remove 57 = .ok (.iinc 2 1, 3) := by decide +kernel
theorem dX6_remove_60 : decode cX6_remove 60 = .ok (.goto (-39), 3) := by decide +kernel
theorem dX6_remove_63 : decode cX6_remove 63 = .ok (.return_, 1) := by decide +kernel
set_option maxRecDepth 20000 in
theorem ggX6_copyFrom_X6_first : GoodIn wsX6_copyFrom wsX6_first := goodIn_r _ [12, 2, 13, 14, 15, 11, 16, 1, 3, 21, 22, 23] (by decide +kernel) (by decide +kernel)
set_option maxRecDepth 20000 in
theorem gX6_copyFrom_X6_first : GoodIn wsX6_copyFrom (wsV RX6 32 RX6 yX6_first wsX6_first) := goodIn_app (goodIn_of _ (by decide +kernel)) ggX6_copyFrom_X6_first
set_option maxRecDepth 20000 in
theorem ggX6_copyFrom_X6_second : GoodIn wsX6_copyFrom wsX6_second := goodIn_r _ [20, 3, 13, 14, 15, 11, 16, 1, 2, 21, 22, 23] (by decide +kernel) (by decide +kernel)
set_option maxRecDepth 20000 in
theorem gX6_copyFrom_X6_second : GoodIn wsX6_copyFrom (wsV RX6 36 RX6 yX6_second wsX6_second) := goodIn_app (goodIn_of _ (by decide +kernel)) ggX6_copyFrom_X6_second
theorem dX6_copyFrom_0 : decode cX6_copyFrom 0 = .ok (.aload_n 0, 1) := by decide +kernel
theorem dX6_copyFrom_1 : decode cX6_copyFrom 1 = .ok (.aload_n 1, 1) := by decide +kernel
theorem dX6_copyFrom_2 : decode cX6_copyFrom 2 = .ok (.getfield 9, 3) := by decide +kernel
theorem dX6_copyFrom_5 : decode cX6_copyFrom 5 = .ok (.aload_n 0, 1) := by decide +kernel
theorem dX6_copyFrom_6 : decode cX6_copyFrom 6 = .ok (.getfield 21, 3) := by decide +kernel
theorem dX6_copyFrom_9 : decode cX6_copyFrom 9 = .ok (.arraylength, 1) := by decide +kernel
theorem dX6_copyFrom_10 : decode cX6_copyFrom 10 = .ok (.aload_n 0, 1) := by decide +kernel
theorem dX6_copyFrom_11 : decode cX6_copyFrom 11 = .ok (.getfield 25, 3) := by decide +kernel
theorem dX6_copyFrom_14 : decode cX6_copyFrom 14 = .ok (.arraylength, 1) := by decide +kernel
theorem dX6_copyFrom_15 : decode cX6_copyFrom 15 = .ok (.invokestatic 50, 3) := by decide +kernel
theorem dX6_copyFrom_18 : decode cX6_copyFrom 18 = .ok (.invokestatic 50, 3) := by decide +kernel
theorem dX6_copyFrom_21 : decode cX6_copyFrom 21 = .ok (.putfield 9, 3) := by decide +kernel
theorem dX6_copyFrom_24 : decode cX6_copyFrom 24 = .ok (.iconst 0, 1) := by decide +kernel
theorem dX6_copyFrom_25 : decode cX6_copyFrom 25 = .ok (.istore_n 2, 1) := by decide +kernel
theorem dX6_copyFrom_26 : decode cX6_copyFrom 26 = .ok (.iload_n 2, 1) := by decide +kernel
theorem dX6_copyFrom_27 : decode cX6_copyFrom 27 = .ok (.aload_n 0, 1) := by decide +kernel
theorem dX6_copyFrom_28 : decode cX6_copyFrom 28 = .ok (.getfield 9, 3) := by decide +kernel
theorem dX6_copyFrom_31 : decode cX6_copyFrom 31 = .ok (.if_icmp .ge 31, 3) := by decide +kernel
theorem dX6_copyFrom_34 : decode cX6_copyFrom 34 = .ok (.aload_n 0, 1) := by decide +kernel
theorem dX6_copyFrom_35 : decode cX6_copyFrom 35 = .ok (.getfield 21, 3) := by decide +kernel
theorem dX6_copyFrom_38 : decode cX6_copyFrom 38 = .ok (.iload_n 2, 1) := by decide +kernel
theorem dX6_copyFrom_39 : decode cX6_copyFrom 39 = .ok (.aload_n 1, 1) := by decide +kernel
theorem dX6_copyFrom_40 : decode cX6_copyFrom 40 = .ok (.iload_n 2, 1) := by decide +kernel
theorem dX6_copyFrom_41 : decode cX6_copyFrom 41 = .ok (.invokevirtual 32, 3) := by decide +kernel
theorem dX6_copyFrom_44 : decode cX6_copyFrom 44 = .ok (.iastore, 1) := by decide +kernel
theorem dX6_copyFrom_45 : decode cX6_copyFrom 45 = .ok (.aload_n 0, 1) := by decide +kernel
theorem dX6_copyFrom_46 : decode cX6_copyFrom 46 = .ok (.getfield 25, 3) := by decide +kernel
theorem dX6_copyFrom_49 : decode cX6_copyFrom 49 = .ok (.iload_n 2, 1) := by decide +kernel
theorem dX6_copyFrom_50 : decode cX6_copyFrom 50 = .ok (.aload_n 1, 1) := by decide +kernel
theorem dX6_copyFrom_51 : decode cX6_copyFrom 51 = .ok (.iload_n 2, 1) := by decide +kernel
theorem dX6_copyFrom_52 : decode cX6_copyFrom 52 = .ok (.invokevirtual 36, 3) := by decide +kernel
theorem dX6_copyFrom_55 : decode cX6_copyFrom 55 = .ok (.iastore, 1) := by decide +kernel
theorem dX6_copyFrom_56 : decode cX6_copyFrom 56 = .ok (.iinc 2 1, 3) := by decide +kernel
theorem dX6_copyFrom_59 : decode cX6_copyFrom 59 = .ok (.goto (-33), 3) := by decide +kernel
theorem dX6_copyFrom_62 : decode cX6_copyFrom 62 = .ok (.return_, 1) := by decide +kernel
theorem dX7_init_0 : decode cX7_init 0 = .ok (.aload_n 0, 1) := by decide +kernel
theorem dX7_init_1 : decode cX7_init 1 = .ok (.invokespecial 3, 3) := by decide +kernel
theorem dX7_init_4 : decode cX7_init 4 = .ok (.aload_n 0, 1) := by decide +kernel
theorem dX7_init_5 : decode cX7_init 5 = .ok (.sipush 500, 3) := by decide +kernel
theorem dX7_init_8 : decode cX7_init 8 = .ok (.newarray .char, 2) := by decide +kernel
theorem dX7_init_10 : decode cX7_init 10 = .ok (.putfield 9, 3) := by decide +kernel
theorem dX7_init_13 : decode cX7_init 13 = .ok (.aload_n 0, 1) := by decide +kernel
theorem dX7_init_14 : decode cX7_init 14 = .ok (.iconst 0, 1) := by decide +kernel
theorem dX7_init_15 : decode cX7_init 15 = .ok (.putfield 15, 3) := by decide +kernel
theorem dX7_init_18 : decode cX7_init 18 = .ok (.aload_n 0, 1) := by decide +kernel
theorem dX7_init_19 : decode cX7_init 19 = .ok (.sipush 500, 3) := by decide +kernel
theorem dX7_init_22 : decode cX7_init 22 = .ok (.newarray .int, 2) := by decide +kernel
theorem dX7_init_24 : decode cX7_init 24 = .ok (.putfield 19, 3) := by decide +kernel
theorem dX7_init_27 : decode cX7_init 27 = .ok (.aload_n 0, 1) := by decide +kernel
theorem dX7_init_28 : decode cX7_init 28 = .ok (.sipush 500, 3) := by decide +kernel
theorem dX7_init_31 : decode cX7_init 31 = .ok (.newarray .int, 2) := by decide +kernel
theorem dX7_init_33 : decode cX7_init 33 = .ok (.putfield 23, 3) := by decide +kernel
theorem dX7_init_36 : decode cX7_init 36 = .ok (.aload_n 0, 1) := by decide +kernel
theorem dX7_init_37 : decode cX7_init 37 = .ok (.sipush 500, 3) := by decide +kernel
theorem dX7_init_40 : decode cX7_init 40 = .ok (.newarray .int, 2) := by decide +kernel
theorem dX7_init_42 : decode cX7_init 42 = .ok (.putfield 26, 3) := by decide +kernel
theorem dX7_init_45 : decode cX7_init 45 = .ok (.aload_n 0, 1) := by decide +kernel
theorem dX7_init_46 : decode cX7_init 46 = .ok (.sipush 500, 3) := by decide +kernel
theorem dX7_init_49 : decode cX7_init 49 = .ok (.newarray .int, 2) := by decide +kernel
theorem dX7_init_51 : decode cX7_init 51 = .ok (.putfield 29, 3) := by decide +kernel
theorem dX7_init_54 : decode cX7_init 54 = .ok (.aload_n 0, 1) := by decide +kernel
theorem dX7_init_55 : decode cX7_init 55 = .ok (.iconst 0, 1) := by decide +kernel
theorem dX7_init_56 : decode cX7_init 56 = .ok (.putfield 32, 3) := by decide +kernel
theorem dX7_init_59 : decode cX7_init 59 = .ok (.return_, 1) := by decide +kernel
theorem dX7_put_0 : decode cX7_put 0 = .ok (.aload_n 0, 1) := by decide +kernel
theorem dX7_put_1 : decode cX7_put 1 = .ok (.getfield 15, 3) := by decide +kernel
theorem dX7_put_4 : decode cX7_put 4 = .ok (.sipush 500, 3) := by decide +kernel
theorem dX7_put_7 : decode cX7_put 7 = .ok (.if_icmp .ge 24, 3) := by decide +kernel
theorem dX7_put_10 : decode cX7_put 10 = .ok (.aload_n 0, 1) := by decide +kernel
theorem dX7_put_11 : decode cX7_put 11 = .ok (.getfield 9, 3) := by decide +kernel
theorem dX7_put_14 : decode cX7_put 14 = .ok (.aload_n 0, 1) := by decide +kernel
theorem dX7_put_15 : decode cX7_put 15 = .ok (.getfield 15, 3) := by decide +kernel
theorem dX7_put_18 : decode cX7_put 18 = .ok (.iload_n 1, 1) := by decide +kernel
theorem dX7_put_19 : decode cX7_put 19 = .ok (.i2c, 1) := by decide +kernel
theorem dX7_put_20 : decode cX7_put 20 = .ok (.castore, 1) := by decide +kernel
theorem dX7_put_21 : decode cX7_put 21 = .ok (.aload_n 0, 1) := by decide +kernel
theorem dX7_put_22 : decode cX7_put 22 = .ok (.dup, 1) := by decide +kernel
theorem dX7_put_23 : decode cX7_put 23 = .ok (.getfield 15, 3) := by decide +kernel
theorem dX7_put_26 : decode cX7_put 26 = .ok (.iconst 1, 1) := by decide +kernel
theorem dX7_put_27 : decode cX7_put 27 = .ok (.iadd, 1) := by decide +kernel
theorem dX7_put_28 : decode cX7_put 28 = .ok (.putfield 15, 3) := by decide +kernel
theorem dX7_put_31 : decode cX7_put 31 = .ok (.return_, 1) := by decide +kernel
theorem dX7_kindOf_0 : decode cX7_kindOf 0 = .ok (.iload_n 1, 1) := by decide +kernel
theorem dX7_kindOf_1 : decode cX7_kindOf 1 = .ok (.ifCond .lt 27, 3) := by decide +kernel
theorem dX7_kindOf_4 : decode cX7_kindOf 4 = .ok (.iload_n 1, 1) := by decide +kernel
theorem dX7_kindOf_5 : decode cX7_kindOf 5 = .ok (.aload_n 0, 1) := by decide +kernel
theorem dX7_kindOf_6 : decode cX7_kindOf 6 = .ok (.getfield 32, 3) := by decide +kernel
theorem dX7_kindOf_9 : decode cX7_kindOf 9 = .ok (.if_icmp .ge 19, 3) := by decide +kernel
theorem dX7_kindOf_12 : decode cX7_kindOf 12 = .ok (.iload_n 1, 1) := by decide +kernel
theorem dX7_kindOf_13 : decode cX7_kindOf 13 = .ok (.sipush 500, 3) := by decide +kernel
theorem dX7_kindOf_16 : decode cX7_kindOf 16 = .ok (.if_icmp .ge 12, 3) := by decide +kernel
theorem dX7_kindOf_19 : decode cX7_kindOf 19 = .ok (.aload_n 0, 1) := by decide +kernel
theorem dX7_kindOf_20 : decode cX7_kindOf 20 = .ok (.getfield 19, 3) := by decide +kernel
theorem dX7_kindOf_23 : decode cX7_kindOf 23 = .ok (.iload_n 1, 1) := by decide +kernel
theorem dX7_kindOf_24 : decode cX7_kindOf 24 = .ok (.iaload, 1) := by decide +kernel
theorem dX7_kindOf_25 : decode cX7_kindOf 25 = .ok (.goto 4, 3) := by decide +kernel
theorem dX7_kindOf_28 : decode cX7_kindOf 28 = .ok (.iconst 0, 1) := by decide +kernel
theorem dX7_kindOf_29 : decode cX7_kindOf 29 = .ok (.ireturn, 1) := by decide +kernel
theorem dX7_startOf_0 : decode cX7_startOf 0 = .ok (.iload_n 1, 1) := by decide +kernel
theorem dX7_startOf_1 : decode cX7_startOf 1 = .ok (.ifCond .lt 27, 3) := by decide +kernel
theorem dX7_startOf_4 : decode cX7_startOf 4 = .ok (.iload_n 1, 1) := by decide +kernel
theorem dX7_startOf_5 : decode cX7_startOf 5 = .ok (.aload_n 0, 1) := by decide +kernel
theorem dX7_startOf_6 : decode cX7_startOf 6 = .ok (.getfield 32, 3) := by decide +kernel
theorem dX7_startOf_9 : decode cX7_startOf 9 = .ok (.if_icmp .ge 19, 3) := by decide +kernel
theorem dX7_startOf_12 : decode cX7_startOf 12 = .ok (.iload_n 1, 1) := by decide +kernel
theorem dX7_startOf_13 : decode cX7_startOf 13 = .ok (.sipush 500, 3) := by decide +kernel
theorem dX7_startOf_16 : decode cX7_startOf 16 = .ok (.if_icmp .ge 12, 3) := by decide +kernel
theorem dX7_startOf_19 : decode cX7_startOf 19 = .ok (.aload_n 0, 1) := by decide +kernel
theorem dX7_startOf_20 : decode cX7_startOf 20 = .ok (.getfield 23, 3) := by decide +kernel
theorem dX7_startOf_23 : decode cX7_startOf 23 = .ok (.iload_n 1, 1) := by decide +kernel
theorem dX7_startOf_24 : decode cX7_startOf 24 = .ok (.iaload, 1) := by decide +kernel
theorem dX7_startOf_25 : decode cX7_startOf 25 = .ok (.goto 7, 3) := by decide +kernel
theorem dX7_startOf_28 : decode cX7_startOf 28 = .ok (.aload_n 0, 1) := by decide +kernel
theorem dX7_startOf_29 : decode cX7_startOf 29 = .ok (.getfield 15, 3) := by decide +kernel
theorem dX7_startOf_32 : decode cX7_startOf 32 = .ok (.ireturn, 1) := by decide +kernel
theorem dX7_valueOf_0 : decode cX7_valueOf 0 = .ok (.iload_n 1, 1) := by decide +kernel
theorem dX7_valueOf_1 : decode cX7_valueOf 1 = .ok (.ifCond .lt 27, 3) := by decide +kernel
theorem dX7_valueOf_4 : decode cX7_valueOf 4 = .ok (.iload_n 1, 1) := by decide +kernel
theorem dX7_valueOf_5 : decode cX7_valueOf 5 = .ok (.aload_n 0, 1) := by decide +kernel
theorem dX7_valueOf_6 : decode cX7_valueOf 6 = .ok (.getfield 32, 3) := by decide +kernel
theorem dX7_valueOf_9 : decode cX7_valueOf 9 = .ok (.if_icmp .ge 19, 3) := by decide +kernel
theorem dX7_valueOf_12 : decode cX7_valueOf 12 = .ok (.iload_n 1, 1) := by decide +kernel
theorem dX7_valueOf_13 : decode cX7_valueOf 13 = .ok (.sipush 500, 3) := by decide +kernel
theorem dX7_valueOf_16 : decode cX7_valueOf 16 = .ok (.if_icmp .ge 12, 3) := by decide +kernel
theorem dX7_valueOf_19 : decode cX7_valueOf 19 = .ok (.aload_n 0, 1) := by decide +kernel
theorem dX7_valueOf_20 : decode cX7_valueOf 20 = .ok (.getfield 29, 3) := by decide +kernel
theorem dX7_valueOf_23 : decode cX7_valueOf 23 = .ok (.iload_n 1, 1) := by decide +kernel
theorem dX7_valueOf_24 : decode cX7_valueOf 24 = .ok (.iaload, 1) := by decide +kernel
theorem dX7_valueOf_25 : decode cX7_valueOf 25 = .ok (.goto 4, 3) := by decide +kernel
theorem dX7_valueOf_28 : decode cX7_valueOf 28 = .ok (.iconst 0, 1) := by decide +kernel
theorem dX7_valueOf_29 : decode cX7_valueOf 29 = .ok (.ireturn, 1) := by decide +kernel
set_option maxRecDepth 20000 in
theorem ggX7_isWord_X7_hasToken : GoodIn wsX7_isWord wsX7_hasToken := goodIn_r _ [8, 9, 65, 66, 67, 68, 69, 70, 71] (by decide +kernel) (by decide +kernel)
set_option maxRecDepth 20000 in
theorem gX7_isWord_X7_hasToken : GoodIn wsX7_isWord (wsV RX7 35 RX7 yX7_hasToken wsX7_hasToken) := goodIn_app (goodIn_of _ (by decide +kernel)) ggX7_isWord_X7_hasToken
set_option maxRecDepth 20000 in
theorem ggX7_isWord_J0_length_8abf5 : GoodIn wsX7_isWord wsJ0_length_8abf5 := goodIn_r _ [14, 15, 16, 17, 18, 13, 19, 20, 21] (by decide +kernel) (by decide +kernel)
set_option maxRecDepth 20000 in
theorem gX7_isWord_J0_length_8abf5 : GoodIn wsX7_isWord (wsV RX7 39 RJ0 yJ0_length_8abf5 wsJ0_length_8abf5) := goodIn_app (goodIn_of _ (by decide +kernel)) ggX7_isWord_J0_length_8abf5
set_option maxRecDepth 20000 in
theorem ggX7_isWord_X7_byteAt : GoodIn wsX7_isWord wsX7_byteAt := goodIn_r _ [25, 26, 27, 65, 66, 67, 68, 69, 70, 71] (by decide +kernel) (by decide +kernel)
set_option maxRecDepth 20000 in
theorem gX7_isWord_X7_byteAt : GoodIn wsX7_isWord (wsV RX7 44 RX7 yX7_byteAt wsX7_byteAt) := goodIn_app (goodIn_of _ (by decide +kernel)) ggX7_isWord_X7_byteAt
set_option maxRecDepth 20000 in
theorem ggX7_isWord_J0_charAt_5068e : GoodIn wsX7_isWord wsJ0_charAt_5068e := goodIn_r _ [31, 15, 32, 33, 34, 13, 35, 20, 21, 36, 37, 38, 39, 40, 41, 42, 43, 44, 45, 46, 47, 48, 49, 50, 51, 52, 53, 54, 55, 56, 57, 58, 59, 60, 61, 62, 63, 64] (by decide +kernel) (by decide +kernel)
set_option maxRecDepth 20000 in
theorem gX7_isWord_J0_charAt_5068e : GoodIn wsX7_isWord (wsV RX7 48 RJ0 yJ0_charAt_5068e wsJ0_charAt_5068e) := goodIn_app (goodIn_of _ (by decide +kernel)) ggX7_isWord_J0_charAt_5068e
theorem dX7_isWord_0 : decode cX7_isWord 0 = .ok (.aload_n 0, 1) := by decide +kernel
theorem dX7_isWord_1 : decode cX7_isWord 1 = .ok (.iload_n 1, 1) := by decide +kernel
theorem dX7_isWord_2 : decode cX7_isWord 2 = .ok (.invokevirtual 35, 3) := by decide +kernel
theorem dX7_isWord_5 : decode cX7_isWord 5 = .ok (.ifCond .eq 33, 3) := by decide +kernel
theorem dX7_isWord_8 : decode cX7_isWord 8 = .ok (.aload_n 0, 1) := by decide +kernel
theorem dX7_isWord_9 : decode cX7_isWord 9 = .ok (.getfield 19, 3) := by decide +kernel
theorem dX7_isWord_12 : decode cX7_isWord 12 = .ok (.iload_n 1, 1) := by decide +kernel
theorem dX7_isWord_13 : decode cX7_isWord 13 = .ok (.iaload, 1) := by decide +kernel
theorem dX7_isWord_14 : decode cX7_isWord 14 = .ok (.iconst 1, 1) := by decide +kernel
theorem dX7_isWord_15 : decode cX7_isWord 15 = .ok (.if_icmp .ne 23, 3) := by decide +kernel
theorem dX7_isWord_18 : decode cX7_isWord 18 = .ok (.aload_n 0, 1) := by decide +kernel
theorem dX7_isWord_19 : decode cX7_isWord 19 = .ok (.getfield 26, 3) := by decide +kernel
theorem dX7_isWord_22 : decode cX7_isWord 22 = .ok (.iload_n 1, 1) := by decide +kernel
theorem dX7_isWord_23 : decode cX7_isWord 23 = .ok (.iaload, 1) := by decide +kernel
theorem dX7_isWord_24 : decode cX7_isWord 24 = .ok (.aload_n 0, 1) := by decide +kernel
theorem dX7_isWord_25 : decode cX7_isWord 25 = .ok (.getfield 23, 3) := by decide +kernel
theorem dX7_isWord_28 : decode cX7_isWord 28 = .ok (.iload_n 1, 1) := by decide +kernel
theorem dX7_isWord_29 : decode cX7_isWord 29 = .ok (.iaload, 1) := by decide +kernel
theorem dX7_isWord_30 : decode cX7_isWord 30 = .ok (.isub, 1) := by decide +kernel
theorem dX7_isWord_31 : decode cX7_isWord 31 = .ok (.aload_n 2, 1) := by decide +kernel
theorem dX7_isWord_32 : decode cX7_isWord 32 = .ok (.invokevirtual 39, 3) := by decide +kernel
theorem dX7_isWord_35 : decode cX7_isWord 35 = .ok (.if_icmp .eq 5, 3) := by decide +kernel
theorem dX7_isWord_38 : decode cX7_isWord 38 = .ok (.iconst 0, 1) := by decide +kernel
theorem dX7_isWord_39 : decode cX7_isWord 39 = .ok (.ireturn, 1) := by decide +kernel
theorem dX7_isWord_40 : decode cX7_isWord 40 = .ok (.iconst 0, 1) := by decide +kernel
theorem dX7_isWord_41 : decode cX7_isWord 41 = .ok (.istore_n 3, 1) := by decide +kernel
theorem dX7_isWord_42 : decode cX7_isWord 42 = .ok (.iload_n 3, 1) := by decide +kernel
theorem dX7_isWord_43 : decode cX7_isWord 43 = .ok (.aload_n 2, 1) := by decide +kernel
theorem dX7_isWord_44 : decode cX7_isWord 44 = .ok (.invokevirtual 39, 3) := by decide +kernel
theorem dX7_isWord_47 : decode cX7_isWord 47 = .ok (.if_icmp .ge 31, 3) := by decide +kernel
theorem dX7_isWord_50 : decode cX7_isWord 50 = .ok (.aload_n 0, 1) := by decide +kernel
theorem dX7_isWord_51 : decode cX7_isWord 51 = .ok (.aload_n 0, 1) := by decide +kernel
theorem dX7_isWord_52 : decode cX7_isWord 52 = .ok (.getfield 23, 3) := by decide +kernel
theorem dX7_isWord_55 : decode cX7_isWord 55 = .ok (.iload_n 1, 1) := by decide +kernel
theorem dX7_isWord_56 : decode cX7_isWord 56 = .ok (.iaload, 1) := by decide +kernel
theorem dX7_isWord_57 : decode cX7_isWord 57 = .ok (.iload_n 3, 1) := by decide +kernel
theorem dX7_isWord_58 : decode cX7_isWord 58 = .ok (.iadd, 1) := by decide +kernel
theorem dX7_isWord_59 : decode cX7_isWord 59 = .ok (.invokevirtual 44, 3) := by decide +kernel
theorem dX7_isWord_62 : decode cX7_isWord 62 = .ok (.aload_n 2, 1) := by decide +kernel
theorem dX7_isWord_63 : decode cX7_isWord 63 = .ok (.iload_n 3, 1) := by decide +kernel
theorem dX7_isWord_64 : decode cX7_isWord 64 = .ok (.invokevirtual 48, 3) := by decide +kernel
theorem dX7_isWord_67 : decode cX7_isWord 67 = .ok (.if_icmp .eq 5, 3) := by decide +kernel
theorem dX7_isWord_70 : decode cX7_isWord 70 = .ok (.iconst 0, 1) := by decide +kernel
theorem dX7_isWord_71 : decode cX7_isWord 71 = .ok (.ireturn, 1) := by decide +kernel
theorem dX7_isWord_72 : decode cX7_isWord 72 = .ok (.iinc 3 1, 3) := by decide +kernel
theorem dX7_isWord_75 : decode cX7_isWord 75 = .ok (.goto (-33), 3) := by decide +kernel
theorem dX7_isWord_78 : decode cX7_isWord 78 = .ok (.iconst 1, 1) := by decide +kernel
theorem dX7_isWord_79 : decode cX7_isWord 79 = .ok (.ireturn, 1) := by decide +kernel
set_option maxRecDepth 20000 in
theorem ggX7_split_X7_byteAt : GoodIn wsX7_split wsX7_byteAt := goodIn_r _ [7, 2, 8, 33, 34, 35, 36, 37, 38, 39] (by decide +kernel) (by decide +kernel)
set_option maxRecDepth 20000 in
theorem gX7_split_X7_byteAt : GoodIn wsX7_split (wsV RX7 44 RX7 yX7_byteAt wsX7_byteAt) := goodIn_app (goodIn_of _ (by decide +kernel)) ggX7_split_X7_byteAt
set_option maxRecDepth 20000 in
theorem ggX7_split_X7_kindOfByte : GoodIn wsX7_split wsX7_kindOfByte := goodIn_r _ [11] (by decide +kernel) (by decide +kernel)
set_option maxRecDepth 20000 in
theorem gX7_split_X7_kindOfByte : GoodIn wsX7_split (va_wsS RX7 52 yX7_kindOfByte wsX7_kindOfByte) := goodIn_app (goodIn_of _ (by decide +kernel)) ggX7_split_X7_kindOfByte
set_option maxRecDepth 20000 in
theorem ggX7_split_X7_startToken : GoodIn wsX7_split wsX7_startToken := goodIn_r _ [15, 1, 16, 17, 18, 33, 34, 35, 36, 37, 38, 39] (by decide +kernel) (by decide +kernel)
set_option maxRecDepth 20000 in
theorem gX7_split_X7_startToken : GoodIn wsX7_split (wsV RX7 55 RX7 yX7_startToken wsX7_startToken) := goodIn_app (goodIn_of _ (by decide +kernel)) ggX7_split_X7_startToken
set_option maxRecDepth 20000 in
theorem ggX7_split_X7_lengthenToken : GoodIn wsX7_split wsX7_lengthenToken := goodIn_r _ [22, 1, 23, 16, 18, 24, 25, 26, 27, 28, 29, 30, 31, 6, 32, 3, 4, 5, 7, 2, 8, 33, 34, 35, 36, 37, 38, 39] (by decide +kernel) (by decide +kernel)
set_option maxRecDepth 20000 in
theorem gX7_split_X7_lengthenToken : GoodIn wsX7_split (wsV RX7 59 RX7 yX7_lengthenToken wsX7_lengthenToken) := goodIn_app (goodIn_of _ (by decide +kernel)) ggX7_split_X7_lengthenToken
theorem dX7_split_0 : decode cX7_split 0 = .ok (.aload_n 0, 1) := by decide +kernel
theorem dX7_split_1 : decode cX7_split 1 = .ok (.iconst 0, 1) := by decide +kernel
theorem dX7_split_2 : decode cX7_split 2 = .ok (.putfield 32, 3) := by decide +kernel
theorem dX7_split_5 : decode cX7_split 5 = .ok (.iconst 5, 1) := by decide +kernel
theorem dX7_split_6 : decode cX7_split 6 = .ok (.istore_n 1, 1) := by decide +kernel
theorem dX7_split_7 : decode cX7_split 7 = .ok (.iconst 0, 1) := by decide +kernel
theorem dX7_split_8 : decode cX7_split 8 = .ok (.istore_n 2, 1) := by decide +kernel
theorem dX7_split_9 : decode cX7_split 9 = .ok (.iload_n 2, 1) := by decide +kernel
theorem dX7_split_10 : decode cX7_split 10 = .ok (.aload_n 0, 1) := by decide +kernel
theorem dX7_split_11 : decode cX7_split 11 = .ok (.getfield 15, 3) := by decide +kernel
theorem dX7_split_14 : decode cX7_split 14 = .ok (.if_icmp .ge 68, 3) := by decide +kernel
theorem dX7_split_17 : decode cX7_split 17 = .ok (.aload_n 0, 1) := by decide +kernel
theorem dX7_split_18 : decode cX7_split 18 = .ok (.iload_n 2, 1) := by decide +kernel
theorem dX7_split_19 : decode cX7_split 19 = .ok (.invokevirtual 44, 3) := by decide +kernel
theorem dX7_split_22 : decode cX7_split 22 = .ok (.invokestatic 52, 3) := by decide +kernel
theorem dX7_split_25 : decode cX7_split 25 = .ok (.istore_n 3, 1) := by decide +kernel
theorem dX7_split_26 : decode cX7_split 26 = .ok (.iload_n 3, 1) := by decide +kernel
theorem dX7_split_27 : decode cX7_split 27 = .ok (.iload_n 1, 1) := by decide +kernel
theorem dX7_split_28 : decode cX7_split 28 = .ok (.if_icmp .ne 17, 3) := by decide +kernel
theorem dX7_split_31 : decode cX7_split 31 = .ok (.iload_n 3, 1) := by decide +kernel
theorem dX7_split_32 : decode cX7_split 32 = .ok (.iconst 1, 1) := by decide +kernel
theorem dX7_split_33 : decode cX7_split 33 = .ok (.if_icmp .eq 8, 3) := by decide +kernel
theorem dX7_split_36 : decode cX7_split 36 = .ok (.iload_n 3, 1) := by decide +kernel
theorem dX7_split_37 : decode cX7_split 37 = .ok (.iconst 2, 1) := by decide +kernel
theorem dX7_split_38 : decode cX7_split 38 = .ok (.if_icmp .ne 7, 3) := by decide +kernel
theorem dX7_split_41 : decode cX7_split 41 = .ok (.iconst 1, 1) := by decide +kernel
theorem dX7_split_42 : decode cX7_split 42 = .ok (.goto 4, 3) := by decide +kernel
theorem dX7_split_45 : decode cX7_split 45 = .ok (.iconst 0, 1) := by decide +kernel
theorem dX7_split_46 : decode cX7_split 46 = .ok (.istore 4, 2) := by decide +kernel
theorem dX7_split_48 : decode cX7_split 48 = .ok (.iload 4, 2) := by decide +kernel
theorem dX7_split_50 : decode cX7_split 50 = .ok (.ifCond .ne 14, 3) := by decide +kernel
theorem dX7_split_53 : decode cX7_split 53 = .ok (.iload_n 3, 1) := by decide +kernel
theorem dX7_split_54 : decode cX7_split 54 = .ok (.iconst 5, 1) := by decide +kernel
theorem dX7_split_55 : decode cX7_split 55 = .ok (.if_icmp .eq 9, 3) := by decide +kernel
theorem dX7_split_58 : decode cX7_split 58 = .ok (.aload_n 0, 1) := by decide +kernel
theorem dX7_split_59 : decode cX7_split 59 = .ok (.iload_n 3, 1) := by decide +kernel
theorem dX7_split_60 : decode cX7_split 60 = .ok (.iload_n 2, 1) := by decide +kernel
theorem dX7_split_61 : decode cX7_split 61 = .ok (.invokevirtual 55, 3) := by decide +kernel
theorem dX7_split_64 : decode cX7_split 64 = .ok (.iload_n 3, 1) := by decide +kernel
theorem dX7_split_65 : decode cX7_split 65 = .ok (.iconst 5, 1) := by decide +kernel
theorem dX7_split_66 : decode cX7_split 66 = .ok (.if_icmp .eq 8, 3) := by decide +kernel
theorem dX7_split_69 : decode cX7_split 69 = .ok (.aload_n 0, 1) := by decide +kernel
theorem dX7_split_70 : decode cX7_split 70 = .ok (.iload_n 2, 1) := by decide +kernel
theorem dX7_split_71 : decode cX7_split 71 = .ok (.invokevirtual 59, 3) := by decide +kernel
theorem dX7_split_74 : decode cX7_split 74 = .ok (.iload_n 3, 1) := by decide +kernel
theorem dX7_split_75 : decode cX7_split 75 = .ok (.istore_n 1, 1) := by decide +kernel
theorem dX7_split_76 : decode cX7_split 76 = .ok (.iinc 2 1, 3) := by decide +kernel
theorem dX7_split_79 : decode cX7_split 79 = .ok (.goto (-70), 3) := by decide +kernel
theorem dX7_split_82 : decode cX7_split 82 = .ok (.return_, 1) := by decide +kernel
theorem dX7_hasToken_0 : decode cX7_hasToken 0 = .ok (.iload_n 1, 1) := by decide +kernel
theorem dX7_hasToken_1 : decode cX7_hasToken 1 = .ok (.ifCond .lt 22, 3) := by decide +kernel
theorem dX7_hasToken_4 : decode cX7_hasToken 4 = .ok (.iload_n 1, 1) := by decide +kernel
theorem dX7_hasToken_5 : decode cX7_hasToken 5 = .ok (.aload_n 0, 1) := by decide +kernel
theorem dX7_hasToken_6 : decode cX7_hasToken 6 = .ok (.getfield 32, 3) := by decide +kernel
theorem dX7_hasToken_9 : decode cX7_hasToken 9 = .ok (.if_icmp .ge 14, 3) := by decide +kernel
theorem dX7_hasToken_12 : decode cX7_hasToken 12 = .ok (.iload_n 1, 1) := by decide +kernel
theorem dX7_hasToken_13 : decode cX7_hasToken 13 = .ok (.sipush 500, 3) := by decide +kernel
theorem dX7_hasToken_16 : decode cX7_hasToken 16 = .ok (.if_icmp .ge 7, 3) := by decide +kernel
theorem dX7_hasToken_19 : decode cX7_hasToken 19 = .ok (.iconst 1, 1) := by decide +kernel
theorem dX7_hasToken_20 : decode cX7_hasToken 20 = .ok (.goto 4, 3) := by decide +kernel
theorem dX7_hasToken_23 : decode cX7_hasToken 23 = .ok (.iconst 0, 1) := by decide +kernel
theorem dX7_hasToken_24 : decode cX7_hasToken 24 = .ok (.ireturn, 1) := by decide +kernel
theorem dX7_byteAt_0 : decode cX7_byteAt 0 = .ok (.iload_n 1, 1) := by decide +kernel
theorem dX7_byteAt_1 : decode cX7_byteAt 1 = .ok (.ifCond .lt 27, 3) := by decide +kernel
theorem dX7_byteAt_4 : decode cX7_byteAt 4 = .ok (.iload_n 1, 1) := by decide +kernel
theorem dX7_byteAt_5 : decode cX7_byteAt 5 = .ok (.aload_n 0, 1) := by decide +kernel
theorem dX7_byteAt_6 : decode cX7_byteAt 6 = .ok (.getfield 15, 3) := by decide +kernel
theorem dX7_byteAt_9 : decode cX7_byteAt 9 = .ok (.if_icmp .ge 19, 3) := by decide +kernel
theorem dX7_byteAt_12 : decode cX7_byteAt 12 = .ok (.iload_n 1, 1) := by decide +kernel
theorem dX7_byteAt_13 : decode cX7_byteAt 13 = .ok (.sipush 500, 3) := by decide +kernel
theorem dX7_byteAt_16 : decode cX7_byteAt 16 = .ok (.if_icmp .ge 12, 3) := by decide +kernel
theorem dX7_byteAt_19 : decode cX7_byteAt 19 = .ok (.aload_n 0, 1) := by decide +kernel
theorem dX7_byteAt_20 : decode cX7_byteAt 20 = .ok (.getfield 9, 3) := by decide +kernel
theorem dX7_byteAt_23 : decode cX7_byteAt 23 = .ok (.iload_n 1, 1) := by decide +kernel
theorem dX7_byteAt_24 : decode cX7_byteAt 24 = .ok (.caload, 1) := by decide +kernel
theorem dX7_byteAt_25 : decode cX7_byteAt 25 = .ok (.goto 4, 3) := by decide +kernel
theorem dX7_byteAt_28 : decode cX7_byteAt 28 = .ok (.iconst 0, 1) := by decide +kernel
theorem dX7_byteAt_29 : decode cX7_byteAt 29 = .ok (.ireturn, 1) := by decide +kernel
theorem dX7_startToken_0 : decode cX7_startToken 0 = .ok (.aload_n 0, 1) := by decide +kernel
theorem dX7_startToken_1 : decode cX7_startToken 1 = .ok (.getfield 32, 3) := by decide +kernel
theorem dX7_startToken_4 : decode cX7_startToken 4 = .ok (.sipush 500, 3) := by decide +kernel
theorem dX7_startToken_7 : decode cX7_startToken 7 = .ok (.if_icmp .ge 43, 3) := by decide +kernel
theorem dX7_startToken_10 : decode cX7_startToken 10 = .ok (.aload_n 0, 1) := by decide +kernel
theorem dX7_startToken_11 : decode cX7_startToken 11 = .ok (.getfield 19, 3) := by decide +kernel
theorem dX7_startToken_14 : decode cX7_startToken 14 = .ok (.aload_n 0, 1) := by decide +kernel
theorem dX7_startToken_15 : decode cX7_startToken 15 = .ok (.getfield 32, 3) := by decide +kernel
theorem dX7_startToken_18 : decode cX7_startToken 18 = .ok (.iload_n 1, 1) := by decide +kernel
theorem dX7_startToken_19 : decode cX7_startToken 19 = .ok (.iastore, 1) := by decide +kernel
theorem dX7_startToken_20 : decode cX7_startToken 20 = .ok (.aload_n 0, 1) := by decide +kernel
theorem dX7_startToken_21 : decode cX7_startToken 21 = .ok (.getfield 23, 3) := by decide +kernel
theorem dX7_startToken_24 : decode cX7_startToken 24 = .ok (.aload_n 0, 1) := by decide +kernel
theorem dX7_startToken_25 : decode cX7_startToken 25 = .ok (.getfield 32, 3) := by decide +kernel
theorem dX7_startToken_28 : decode cX7_startToken 28 = .ok (.iload_n 2, 1) := by decide +kernel
theorem dX7_startToken_29 : decode cX7_startToken 29 = .ok (.iastore, 1) := by decide +kernel
theorem dX7_startToken_30 : decode cX7_startToken 30 = .ok (.aload_n 0, 1) := by decide +kernel
theorem dX7_startToken_31 : decode cX7_startToken 31 = .ok (.getfield 29, 3) := by decide +kernel
theorem dX7_startToken_34 : decode cX7_startToken 34 = .ok (.aload_n 0, 1) := by decide +kernel
theorem dX7_startToken_35 : decode cX7_startToken 35 = .ok (.getfield 32, 3) := by decide +kernel
theorem dX7_startToken_38 : decode cX7_startToken 38 = .ok (.iconst 0, 1) := by decide +kernel
theorem dX7_startToken_39 : decode cX7_startToken 39 = .ok (.iastore, 1) := by decide +kernel
theorem dX7_startToken_40 : decode cX7_startToken 40 = .ok (.aload_n 0, 1) := by decide +kernel
theorem dX7_startToken_41 : decode cX7_startToken 41 = .ok (.dup, 1) := by decide +kernel
theorem dX7_startToken_42 : decode cX7_startToken 42 = .ok (.getfield 32, 3) := by decide +kernel
theorem dX7_startToken_45 : decode cX7_startToken 45 = .ok (.iconst 1, 1) := by decide +kernel
theorem dX7_startToken_46 : decode cX7_startToken 46 = .ok (.iadd, 1) := by decide +kernel
theorem dX7_startToken_47 : decode cX7_startToken 47 = .ok (.putfield 32, 3) := by decide +kernel
theorem dX7_startToken_50 : decode cX7_startToken 50 = .ok (.return_, 1) := by decide +kernel
set_option maxRecDepth 20000 in
theorem ggX7_lengthenToken_X7_hasToken : GoodIn wsX7_lengthenToken wsX7_hasToken := goodIn_r _ [14, 1, 21, 22, 23, 24, 25, 26, 27] (by decide +kernel) (by decide +kernel)
set_option maxRecDepth 20000 in
theorem gX7_lengthenToken_X7_hasToken : GoodIn wsX7_lengthenToken (wsV RX7 35 RX7 yX7_hasToken wsX7_hasToken) := goodIn_app (goodIn_of _ (by decide +kernel)) ggX7_lengthenToken_X7_hasToken
set_option maxRecDepth 20000 in
theorem ggX7_lengthenToken_X7_byteAt : GoodIn wsX7_lengthenToken wsX7_byteAt := goodIn_r _ [18, 19, 20, 21, 22, 23, 24, 25, 26, 27] (by decide +kernel) (by decide +kernel)
set_option maxRecDepth 20000 in
theorem gX7_lengthenToken_X7_byteAt : GoodIn wsX7_lengthenToken (wsV RX7 44 RX7 yX7_byteAt wsX7_byteAt) := goodIn_app (goodIn_of _ (by decide +kernel)) ggX7_lengthenToken_X7_byteAt
theorem dX7_lengthenToken_0 : decode cX7_lengthenToken 0 = .ok (.aload_n 0, 1) := by decide +kernel
theorem dX7_lengthenToken_1 : decode cX7_lengthenToken 1 = .ok (.getfield 32, 3) := by decide +kernel
theorem dX7_lengthenToken_4 : decode cX7_lengthenToken 4 = .ok (.iconst 1, 1) := by decide +kernel
theorem dX7_lengthenToken_5 : decode cX7_lengthenToken 5 = .ok (.isub, 1) := by decide +kernel
theorem dX7_lengthenToken_6 : decode cX7_lengthenToken 6 = .ok (.istore_n 2, 1) := by decide +kernel
theorem dX7_lengthenToken_7 : decode cX7_lengthenToken 7 = .ok (.aload_n 0, 1) := by decide +kernel
theorem dX7_lengthenToken_8 : decode cX7_lengthenToken 8 = .ok (.iload_n 2, 1) := by decide +kernel
theorem dX7_lengthenToken_9 : decode cX7_lengthenToken 9 = .ok (.invokevirtual 35, 3) := by decide +kernel
theorem dX7_lengthenToken_12 : decode cX7_lengthenToken 12 = .ok (.ifCond .ne 4, 3) := by decide +kernel
theorem dX7_lengthenToken_15 : decode cX7_lengthenToken 15 = .ok (.return_, 1) := by decide +kernel
theorem dX7_lengthenToken_16 : decode cX7_lengthenToken 16 = .ok (.aload_n 0, 1) := by decide +kernel
theorem dX7_lengthenToken_17 : decode cX7_lengthenToken 17 = .ok (.getfield 26, 3) := by decide +kernel
theorem dX7_lengthenToken_20 : decode cX7_lengthenToken 20 = .ok (.iload_n 2, 1) := by decide +kernel
theorem dX7_lengthenToken_21 : decode cX7_lengthenToken 21 = .ok (.iload_n 1, 1) := by decide +kernel
theorem dX7_lengthenToken_22 : decode cX7_lengthenToken 22 = .ok (.iconst 1, 1) := by decide +kernel
theorem dX7_lengthenToken_23 : decode cX7_lengthenToken 23 = .ok (.iadd, 1) := by decide +kernel
theorem dX7_lengthenToken_24 : decode cX7_lengthenToken 24 = .ok (.iastore, 1) := by decide +kernel
theorem dX7_lengthenToken_25 : decode cX7_lengthenToken 25 = .ok (.aload_n 0, 1) := by decide +kernel
theorem dX7_lengthenToken_26 : decode cX7_lengthenToken 26 = .ok (.getfield 19, 3) := by decide +kernel
theorem dX7_lengthenToken_29 : decode cX7_lengthenToken 29 = .ok (.iload_n 2, 1) := by decide +kernel
theorem dX7_lengthenToken_30 : decode cX7_lengthenToken 30 = .ok (.iaload, 1) := by decide +kernel
theorem dX7_lengthenToken_31 : decode cX7_lengthenToken 31 = .ok (.iconst 2, 1) := by decide +kernel
theorem dX7_lengthenToken_32 : decode cX7_lengthenToken 32 = .ok (.if_icmp .ne 32, 3) := by decide +kernel
theorem dX7_lengthenToken_35 : decode cX7_lengthenToken 35 = .ok (.aload_n 0, 1) := by decide +kernel
theorem dX7_lengthenToken_36 : decode cX7_lengthenToken 36 = .ok (.getfield 29, 3) := by decide +kernel
theorem dX7_lengthenToken_39 : decode cX7_lengthenToken 39 = .ok (.iload_n 2, 1) := by decide +kernel
theorem dX7_lengthenToken_40 : decode cX7_lengthenToken 40 = .ok (.aload_n 0, 1) := by decide +kernel
theorem dX7_lengthenToken_41 : decode cX7_lengthenToken 41 = .ok (.getfield 29, 3) := by decide +kernel
theorem dX7_lengthenToken_44 : decode cX7_lengthenToken 44 = .ok (.iload_n 2, 1) := by decide +kernel
theorem dX7_lengthenToken_45 : decode cX7_lengthenToken 45 = .ok (.iaload, 1) := by decide +kernel
theorem dX7_lengthenToken_46 : decode cX7_lengthenToken 46 = .ok (.bipush 10, 2) := by decide +kernel
theorem dX7_lengthenToken_48 : decode cX7_lengthenToken 48 = .ok (.imul, 1) := by decide +kernel
theorem dX7_lengthenToken_49 : decode cX7_lengthenToken 49 = .ok (.aload_n 0, 1) := by decide +kernel
theorem dX7_lengthenToken_50 : decode cX7_lengthenToken 50 = .ok (.iload_n 1, 1) := by decide +kernel
theorem dX7_lengthenToken_51 : decode cX7_lengthenToken 51 = .ok (.invokevirtual 44, 3) := by decide +kernel
theorem dX7_lengthenToken_54 : decode cX7_lengthenToken 54 = .ok (.iadd, 1) := by decide +kernel
theorem dX7_lengthenToken_55 : decode cX7_lengthenToken 55 = .ok (.bipush 48, 2) := by decide +kernel
theorem dX7_lengthenToken_57 : decode cX7_lengthenToken 57 = .ok (.isub, 1) := by decide +kernel
theorem dX7_lengthenToken_58 : decode cX7_lengthenToken 58 = .ok (.ldc 63, 2) := by decide +kernel
theorem dX7_lengthenToken_60 : decode cX7_lengthenToken 60 = .ok (.invokestatic 64, 3) := by decide +kernel
theorem dX7_lengthenToken_63 : decode cX7_lengthenToken 63 = .ok (.iastore, 1) := by decide +kernel
theorem dX7_lengthenToken_64 : decode cX7_lengthenToken 64 = .ok (.return_, 1) := by decide +kernel
theorem dX7_kindOfByte_0 : decode cX7_kindOfByte 0 = .ok (.iload_n 0, 1) := by decide +kernel
theorem dX7_kindOfByte_1 : decode cX7_kindOfByte 1 = .ok (.bipush 97, 2) := by decide +kernel
theorem dX7_kindOfByte_3 : decode cX7_kindOfByte 3 = .ok (.if_icmp .lt 11, 3) := by decide +kernel
theorem dX7_kindOfByte_6 : decode cX7_kindOfByte 6 = .ok (.iload_n 0, 1) := by decide +kernel
theorem dX7_kindOfByte_7 : decode cX7_kindOfByte 7 = .ok (.bipush 122, 2) := by decide +kernel
theorem dX7_kindOfByte_9 : decode cX7_kindOfByte 9 = .ok (.if_icmp .gt 5, 3) := by decide +kernel
theorem dX7_kindOfByte_12 : decode cX7_kindOfByte 12 = .ok (.iconst 1, 1) := by decide +kernel
theorem dX7_kindOfByte_13 : decode cX7_kindOfByte 13 = .ok (.ireturn, 1) := by decide +kernel
theorem dX7_kindOfByte_14 : decode cX7_kindOfByte 14 = .ok (.iload_n 0, 1) := by decide +kernel
theorem dX7_kindOfByte_15 : decode cX7_kindOfByte 15 = .ok (.bipush 48, 2) := by decide +kernel
theorem dX7_kindOfByte_17 : decode cX7_kindOfByte 17 = .ok (.if_icmp .lt 11, 3) := by decide +kernel
theorem dX7_kindOfByte_20 : decode cX7_kindOfByte 20 = .ok (.iload_n 0, 1) := by decide +kernel
theorem dX7_kindOfByte_21 : decode cX7_kindOfByte 21 = .ok (.bipush 57, 2) := by decide +kernel
theorem dX7_kindOfByte_23 : decode cX7_kindOfByte 23 = .ok (.if_icmp .gt 5, 3) := by decide +kernel
theorem dX7_kindOfByte_26 : decode cX7_kindOfByte 26 = .ok (.iconst 2, 1) := by decide +kernel
theorem dX7_kindOfByte_27 : decode cX7_kindOfByte 27 = .ok (.ireturn, 1) := by decide +kernel
theorem dX7_kindOfByte_28 : decode cX7_kindOfByte 28 = .ok (.iload_n 0, 1) := by decide +kernel
theorem dX7_kindOfByte_29 : decode cX7_kindOfByte 29 = .ok (.bipush 32, 2) := by decide +kernel
theorem dX7_kindOfByte_31 : decode cX7_kindOfByte 31 = .ok (.if_icmp .ne 5, 3) := by decide +kernel
theorem dX7_kindOfByte_34 : decode cX7_kindOfByte 34 = .ok (.iconst 5, 1) := by decide +kernel
theorem dX7_kindOfByte_35 : decode cX7_kindOfByte 35 = .ok (.ireturn, 1) := by decide +kernel
theorem dX7_kindOfByte_36 : decode cX7_kindOfByte 36 = .ok (.iload_n 0, 1) := by decide +kernel
theorem dX7_kindOfByte_37 : decode cX7_kindOfByte 37 = .ok (.bipush 59, 2) := by decide +kernel
theorem dX7_kindOfByte_39 : decode cX7_kindOfByte 39 = .ok (.if_icmp .ne 7, 3) := by decide +kernel
theorem dX7_kindOfByte_42 : decode cX7_kindOfByte 42 = .ok (.iconst 3, 1) := by decide +kernel
theorem dX7_kindOfByte_43 : decode cX7_kindOfByte 43 = .ok (.goto 4, 3) := by decide +kernel
theorem dX7_kindOfByte_46 : decode cX7_kindOfByte 46 = .ok (.iconst 4, 1) := by decide +kernel
theorem dX7_kindOfByte_47 : decode cX7_kindOfByte 47 = .ok (.ireturn, 1) := by decide +kernel
