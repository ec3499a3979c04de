theorem inJ6 : ∀ w ∈ wsJ60, w ∈ lw_tbl := by decide +kernel
theorem inJ13 : ∀ w ∈ wsJ130, w ∈ lw_tbl := by decide +kernel
theorem inJ9 : ∀ w ∈ wsJ90, w ∈ lw_tbl := by decide +kernel
theorem inJ10 : ∀ w ∈ wsJ100, w ∈ lw_tbl := by decide +kernel
set_option maxRecDepth 20000 in
theorem ggX0_init_X10_init : GoodIn wsX0_init wsX10_init := goodIn_r _ [9, 10, 2, 3, 11, 12, 13, 14, 15, 16] (by decide +kernel) (by decide +kernel)
set_option maxRecDepth 20000 in
theorem gX0_init_X10_init_n11 : GoodIn wsX0_init (wsX10_init) := ggX0_init_X10_init
theorem dX0_init_0 : decode cX0_init 0 = .ok (.aload_n 0, 1) := by decide +kernel
theorem dX0_init_1 : decode cX0_init 1 = .ok (.invokespecial 3, 3) := by decide +kernel
theorem dX0_init_4 : decode cX0_init 4 = .ok (.aload_n 0, 1) := by decide +kernel
theorem dX0_init_5 : decode cX0_init 5 = .ok (.new 9, 3) := by decide +kernel
theorem dX0_init_8 : decode cX0_init 8 = .ok (.dup, 1) := by decide +kernel
theorem dX0_init_9 : decode cX0_init 9 = .ok (.invokespecial 11, 3) := by decide +kernel
theorem dX0_init_12 : decode cX0_init 12 = .ok (.putfield 12, 3) := by decide +kernel
theorem dX0_init_15 : decode cX0_init 15 = .ok (.return_, 1) := by decide +kernel
set_option maxRecDepth 20000 in
theorem ggX0_count_X0_countFrom : GoodIn wsX0_count wsX0_countFrom := goodIn_r _ [8, 9, 1, 3, 2, 10, 11, 12, 13, 14, 15, 16, 17, 18, 19, 20, 21, 22, 23, 24, 25, 26, 27, 28, 29, 30, 31, 32, 33, 34, 35, 36, 37, 38, 39, 40, 41, 42, 43, 44, 45, 46, 47, 48, 49, 50] (by decide +kernel) (by decide +kernel)
set_option maxRecDepth 20000 in
theorem gX0_count_X0_countFrom : GoodIn wsX0_count (wsV RX0 28 RX0 yX0_countFrom wsX0_countFrom) := goodIn_app (goodIn_of _ (by decide +kernel)) ggX0_count_X0_countFrom
theorem dX0_count_0 : decode cX0_count 0 = .ok (.aload_n 0, 1) := by decide +kernel
theorem dX0_count_1 : decode cX0_count 1 = .ok (.iconst 0, 1) := by decide +kernel
theorem dX0_count_2 : decode cX0_count 2 = .ok (.putfield 18, 3) := by decide +kernel
theorem dX0_count_5 : decode cX0_count 5 = .ok (.aload_n 0, 1) := by decide +kernel
theorem dX0_count_6 : decode cX0_count 6 = .ok (.iconst 0, 1) := by decide +kernel
theorem dX0_count_7 : decode cX0_count 7 = .ok (.putfield 22, 3) := by decide +kernel
theorem dX0_count_10 : decode cX0_count 10 = .ok (.aload_n 0, 1) := by decide +kernel
theorem dX0_count_11 : decode cX0_count 11 = .ok (.iconst 0, 1) := by decide +kernel
theorem dX0_count_12 : decode cX0_count 12 = .ok (.putfield 25, 3) := by decide +kernel
theorem dX0_count_15 : decode cX0_count 15 = .ok (.iconst 0, 1) := by decide +kernel
theorem dX0_count_16 : decode cX0_count 16 = .ok (.istore_n 2, 1) := by decide +kernel
theorem dX0_count_17 : decode cX0_count 17 = .ok (.iload_n 2, 1) := by decide +kernel
theorem dX0_count_18 : decode cX0_count 18 = .ok (.bipush 12, 2) := by decide +kernel
theorem dX0_count_20 : decode cX0_count 20 = .ok (.if_icmp .ge 23, 3) := by decide +kernel
theorem dX0_count_23 : decode cX0_count 23 = .ok (.aload_n 0, 1) := by decide +kernel
theorem dX0_count_24 : decode cX0_count 24 = .ok (.iload_n 2, 1) := by decide +kernel
theorem dX0_count_25 : decode cX0_count 25 = .ok (.iconst 0, 1) := by decide +kernel
theorem dX0_count_26 : decode cX0_count 26 = .ok (.iload_n 1, 1) := by decide +kernel
theorem dX0_count_27 : decode cX0_count 27 = .ok (.invokevirtual 28, 3) := by decide +kernel
theorem dX0_count_30 : decode cX0_count 30 = .ok (.aload_n 0, 1) := by decide +kernel
theorem dX0_count_31 : decode cX0_count 31 = .ok (.iload_n 2, 1) := by decide +kernel
theorem dX0_count_32 : decode cX0_count 32 = .ok (.iconst 1, 1) := by decide +kernel
theorem dX0_count_33 : decode cX0_count 33 = .ok (.iload_n 1, 1) := by decide +kernel
theorem dX0_count_34 : decode cX0_count 34 = .ok (.invokevirtual 28, 3) := by decide +kernel
theorem dX0_count_37 : decode cX0_count 37 = .ok (.iinc 2 1, 3) := by decide +kernel
theorem dX0_count_40 : decode cX0_count 40 = .ok (.goto (-23), 3) := by decide +kernel
theorem dX0_count_43 : decode cX0_count 43 = .ok (.return_, 1) := by decide +kernel
set_option maxRecDepth 20000 in
theorem ggX0_countFrom_X10_put : GoodIn wsX0_countFrom wsX10_put := goodIn_r _ [9, 10, 11, 12, 43, 44, 45] (by decide +kernel) (by decide +kernel)
set_option maxRecDepth 20000 in
theorem gX0_countFrom_X10_put : GoodIn wsX0_countFrom (wsV RX0 32 RX10 yX10_put wsX10_put) := goodIn_app (goodIn_of _ (by decide +kernel)) ggX0_countFrom_X10_put
set_option maxRecDepth 20000 in
theorem ggX0_countFrom_X10_blowAnHour : GoodIn wsX0_countFrom wsX10_blowAnHour := goodIn_r _ [16, 12, 10, 17, 18, 19, 8, 20, 11, 21, 22, 23, 24, 25, 26, 27, 28, 43, 44, 45] (by decide +kernel) (by decide +kernel)
set_option maxRecDepth 20000 in
theorem gX0_countFrom_X10_blowAnHour : GoodIn wsX0_countFrom (wsV RX0 35 RX10 yX10_blowAnHour wsX10_blowAnHour) := goodIn_app (goodIn_of _ (by decide +kernel)) ggX0_countFrom_X10_blowAnHour
set_option maxRecDepth 20000 in
theorem ggX0_countFrom_J6_bitCount_0f7a4 : GoodIn wsX0_countFrom wsJ6_bitCount_0f7a4 := goodIn_r _ [32, 33, 34, 35] (by decide +kernel) (by decide +kernel)
set_option maxRecDepth 20000 in
theorem gX0_countFrom_J6_bitCount_0f7a4 : GoodIn wsX0_countFrom (va_wsS RX0 39 yJ6_bitCount_0f7a4 wsJ6_bitCount_0f7a4) := goodIn_app (goodIn_of _ (by decide +kernel)) ggX0_countFrom_J6_bitCount_0f7a4
set_option maxRecDepth 20000 in
theorem ggX0_countFrom_X11_has : GoodIn wsX0_countFrom wsX11_has := goodIn_r _ [38] (by decide +kernel) (by decide +kernel)
set_option maxRecDepth 20000 in
theorem gX0_countFrom_X11_has_n45 : GoodIn wsX0_countFrom (wsX11_has) := ggX0_countFrom_X11_has
theorem dX0_countFrom_0 : decode cX0_countFrom 0 = .ok (.aload_n 0, 1) := by decide +kernel
theorem dX0_countFrom_1 : decode cX0_countFrom 1 = .ok (.getfield 12, 3) := by decide +kernel
theorem dX0_countFrom_4 : decode cX0_countFrom 4 = .ok (.iload_n 1, 1) := by decide +kernel
theorem dX0_countFrom_5 : decode cX0_countFrom 5 = .ok (.iload_n 2, 1) := by decide +kernel
theorem dX0_countFrom_6 : decode cX0_countFrom 6 = .ok (.iconst 1, 1) := by decide +kernel
theorem dX0_countFrom_7 : decode cX0_countFrom 7 = .ok (.invokevirtual 32, 3) := by decide +kernel
theorem dX0_countFrom_10 : decode cX0_countFrom 10 = .ok (.iconst 0, 1) := by decide +kernel
theorem dX0_countFrom_11 : decode cX0_countFrom 11 = .ok (.istore 4, 2) := by decide +kernel
theorem dX0_countFrom_13 : decode cX0_countFrom 13 = .ok (.iconst 1, 1) := by decide +kernel
theorem dX0_countFrom_14 : decode cX0_countFrom 14 = .ok (.istore 5, 2) := by decide +kernel
theorem dX0_countFrom_16 : decode cX0_countFrom 16 = .ok (.iload 5, 2) := by decide +kernel
theorem dX0_countFrom_18 : decode cX0_countFrom 18 = .ok (.bipush 9, 2) := by decide +kernel
theorem dX0_countFrom_20 : decode cX0_countFrom 20 = .ok (.if_icmp .gt 64, 3) := by decide +kernel
theorem dX0_countFrom_23 : decode cX0_countFrom 23 = .ok (.iload 4, 2) := by decide +kernel
theorem dX0_countFrom_25 : decode cX0_countFrom 25 = .ok (.aload_n 0, 1) := by decide +kernel
theorem dX0_countFrom_26 : decode cX0_countFrom 26 = .ok (.getfield 12, 3) := by decide +kernel
theorem dX0_countFrom_29 : decode cX0_countFrom 29 = .ok (.invokevirtual 35, 3) := by decide +kernel
theorem dX0_countFrom_32 : decode cX0_countFrom 32 = .ok (.ior, 1) := by decide +kernel
theorem dX0_countFrom_33 : decode cX0_countFrom 33 = .ok (.istore 4, 2) := by decide +kernel
theorem dX0_countFrom_35 : decode cX0_countFrom 35 = .ok (.aload_n 0, 1) := by decide +kernel
theorem dX0_countFrom_36 : decode cX0_countFrom 36 = .ok (.dup, 1) := by decide +kernel
theorem dX0_countFrom_37 : decode cX0_countFrom 37 = .ok (.getfield 18, 3) := by decide +kernel
theorem dX0_countFrom_40 : decode cX0_countFrom 40 = .ok (.iconst 1, 1) := by decide +kernel
theorem dX0_countFrom_41 : decode cX0_countFrom 41 = .ok (.iadd, 1) := by decide +kernel
theorem dX0_countFrom_42 : decode cX0_countFrom 42 = .ok (.putfield 18, 3) := by decide +kernel
theorem dX0_countFrom_45 : decode cX0_countFrom 45 = .ok (.aload_n 0, 1) := by decide +kernel
theorem dX0_countFrom_46 : decode cX0_countFrom 46 = .ok (.dup, 1) := by decide +kernel
theorem dX0_countFrom_47 : decode cX0_countFrom 47 = .ok (.getfield 25, 3) := by decide +kernel
theorem dX0_countFrom_50 : decode cX0_countFrom 50 = .ok (.iload 4, 2) := by decide +kernel
theorem dX0_countFrom_52 : decode cX0_countFrom 52 = .ok (.invokestatic 39, 3) := by decide +kernel
theorem dX0_countFrom_55 : decode cX0_countFrom 55 = .ok (.iadd, 1) := by decide +kernel
theorem dX0_countFrom_56 : decode cX0_countFrom 56 = .ok (.putfield 25, 3) := by decide +kernel
theorem dX0_countFrom_59 : decode cX0_countFrom 59 = .ok (.iload 4, 2) := by decide +kernel
theorem dX0_countFrom_61 : decode cX0_countFrom 61 = .ok (.iload_n 3, 1) := by decide +kernel
theorem dX0_countFrom_62 : decode cX0_countFrom 62 = .ok (.invokestatic 45, 3) := by decide +kernel
theorem dX0_countFrom_65 : decode cX0_countFrom 65 = .ok (.ifCond .eq 13, 3) := by decide +kernel
theorem dX0_countFrom_68 : decode cX0_countFrom 68 = .ok (.aload_n 0, 1) := by decide +kernel
theorem dX0_countFrom_69 : decode cX0_countFrom 69 = .ok (.dup, 1) := by decide +kernel
theorem dX0_countFrom_70 : decode cX0_countFrom 70 = .ok (.getfield 22, 3) := by decide +kernel
theorem dX0_countFrom_73 : decode cX0_countFrom 73 = .ok (.iconst 1, 1) := by decide +kernel
theorem dX0_countFrom_74 : decode cX0_countFrom 74 = .ok (.iadd, 1) := by decide +kernel
theorem dX0_countFrom_75 : decode cX0_countFrom 75 = .ok (.putfield 22, 3) := by decide +kernel
theorem dX0_countFrom_78 : decode cX0_countFrom 78 = .ok (.iinc 5 1, 3) := by decide +kernel
theorem dX0_countFrom_81 : decode cX0_countFrom 81 = .ok (.goto (-65), 3) := by decide +kernel
theorem dX0_countFrom_84 : decode cX0_countFrom 84 = .ok (.return_, 1) := by decide +kernel
set_option maxRecDepth 20000 in
theorem ggX1_init_X8_init : GoodIn wsX1_init wsX8_init := goodIn_r _ [14, 15, 2, 3, 16, 17, 18, 19, 20, 21, 22, 23, 24, 25, 26, 27, 28, 29, 30, 31, 32, 33, 34, 35, 60, 61, 62, 43, 44, 45, 46, 47, 48, 49, 50, 51, 52] (by decide +kernel) (by decide +kernel)
set_option maxRecDepth 20000 in
theorem gX1_init_X8_init : GoodIn wsX1_init (wsX8_init) := ggX1_init_X8_init
set_option maxRecDepth 20000 in
theorem ggX1_init_X7_init : GoodIn wsX1_init wsX7_init := goodIn_r _ [37, 38, 2, 3, 20, 39, 40, 41, 42, 55, 56, 57, 58, 59] (by decide +kernel) (by decide +kernel)
set_option maxRecDepth 20000 in
theorem gX1_init_X7_init_n18 : GoodIn wsX1_init (wsX7_init) := ggX1_init_X7_init
theorem dX1_init_0 : decode cX1_init 0 = .ok (.aload_n 0, 1) := by decide +kernel
theorem dX1_init_1 : decode cX1_init 1 = .ok (.invokespecial 1, 3) := by decide +kernel
theorem dX1_init_4 : decode cX1_init 4 = .ok (.aload_n 0, 1) := by decide +kernel
theorem dX1_init_5 : decode cX1_init 5 = .ok (.new 7, 3) := by decide +kernel
theorem dX1_init_8 : decode cX1_init 8 = .ok (.dup, 1) := by decide +kernel
theorem dX1_init_9 : decode cX1_init 9 = .ok (.invokespecial 9, 3) := by decide +kernel
theorem dX1_init_12 : decode cX1_init 12 = .ok (.putfield 10, 3) := by decide +kernel
theorem dX1_init_15 : decode cX1_init 15 = .ok (.aload_n 0, 1) := by decide +kernel
theorem dX1_init_16 : decode cX1_init 16 = .ok (.new 16, 3) := by decide +kernel
theorem dX1_init_19 : decode cX1_init 19 = .ok (.dup, 1) := by decide +kernel
theorem dX1_init_20 : decode cX1_init 20 = .ok (.invokespecial 18, 3) := by decide +kernel
theorem dX1_init_23 : decode cX1_init 23 = .ok (.putfield 19, 3) := by decide +kernel
theorem dX1_init_26 : decode cX1_init 26 = .ok (.return_, 1) := by decide +kernel
theorem dX2_init_0 : decode cX2_init 0 = .ok (.aload_n 0, 1) := by decide +kernel
theorem dX2_init_1 : decode cX2_init 1 = .ok (.invokespecial 3, 3) := by decide +kernel
theorem dX2_init_4 : decode cX2_init 4 = .ok (.aload_n 0, 1) := by decide +kernel
theorem dX2_init_5 : decode cX2_init 5 = .ok (.bipush 100, 2) := by decide +kernel
theorem dX2_init_7 : decode cX2_init 7 = .ok (.newarray .int, 2) := by decide +kernel
theorem dX2_init_9 : decode cX2_init 9 = .ok (.putfield 9, 3) := by decide +kernel
theorem dX2_init_12 : decode cX2_init 12 = .ok (.aload_n 0, 1) := by decide +kernel
theorem dX2_init_13 : decode cX2_init 13 = .ok (.iconst 0, 1) := by decide +kernel
theorem dX2_init_14 : decode cX2_init 14 = .ok (.putfield 15, 3) := by decide +kernel
theorem dX2_init_17 : decode cX2_init 17 = .ok (.return_, 1) := by decide +kernel
set_option maxRecDepth 20000 in
theorem ggX2_winningTake_X2_wonAfter : GoodIn wsX2_winningTake wsX2_wonAfter := goodIn_r _ [11, 12, 13, 14, 10, 15, 2, 16, 17, 18, 19, 20] (by decide +kernel) (by decide +kernel)
set_option maxRecDepth 20000 in
theorem gX2_winningTake_X2_wonAfter : GoodIn wsX2_winningTake (wsV RX2 19 RX2 yX2_wonAfter wsX2_wonAfter) := goodIn_app (goodIn_of _ (by decide +kernel)) ggX2_winningTake_X2_wonAfter
set_option maxRecDepth 20000 in
theorem ggX2_winningTake_X2_leastTake : GoodIn wsX2_winningTake wsX2_leastTake := goodIn_r _ [15, 2, 16, 17, 18, 19, 20] (by decide +kernel) (by decide +kernel)
set_option maxRecDepth 20000 in
theorem gX2_winningTake_X2_leastTake : GoodIn wsX2_winningTake (wsV RX2 29 RX2 yX2_leastTake wsX2_leastTake) := goodIn_app (goodIn_of _ (by decide +kernel)) ggX2_winningTake_X2_leastTake
theorem dX2_winningTake_0 : decode cX2_winningTake 0 = .ok (.aload_n 0, 1) := by decide +kernel
theorem dX2_winningTake_1 : decode cX2_winningTake 1 = .ok (.getfield 15, 3) := by decide +kernel
theorem dX2_winningTake_4 : decode cX2_winningTake 4 = .ok (.istore_n 3, 1) := by decide +kernel
theorem dX2_winningTake_5 : decode cX2_winningTake 5 = .ok (.iload_n 3, 1) := by decide +kernel
theorem dX2_winningTake_6 : decode cX2_winningTake 6 = .ok (.iload_n 1, 1) := by decide +kernel
theorem dX2_winningTake_7 : decode cX2_winningTake 7 = .ok (.if_icmp .ge 20, 3) := by decide +kernel
theorem dX2_winningTake_10 : decode cX2_winningTake 10 = .ok (.aload_n 0, 1) := by decide +kernel
theorem dX2_winningTake_11 : decode cX2_winningTake 11 = .ok (.getfield 9, 3) := by decide +kernel
theorem dX2_winningTake_14 : decode cX2_winningTake 14 = .ok (.iload_n 3, 1) := by decide +kernel
theorem dX2_winningTake_15 : decode cX2_winningTake 15 = .ok (.aload_n 0, 1) := by decide +kernel
theorem dX2_winningTake_16 : decode cX2_winningTake 16 = .ok (.iload_n 3, 1) := by decide +kernel
theorem dX2_winningTake_17 : decode cX2_winningTake 17 = .ok (.invokevirtual 19, 3) := by decide +kernel
theorem dX2_winningTake_20 : decode cX2_winningTake 20 = .ok (.iastore, 1) := by decide +kernel
theorem dX2_winningTake_21 : decode cX2_winningTake 21 = .ok (.iinc 3 1, 3) := by decide +kernel
theorem dX2_winningTake_24 : decode cX2_winningTake 24 = .ok (.goto (-19), 3) := by decide +kernel
theorem dX2_winningTake_27 : decode cX2_winningTake 27 = .ok (.aload_n 0, 1) := by decide +kernel
theorem dX2_winningTake_28 : decode cX2_winningTake 28 = .ok (.aload_n 0, 1) := by decide +kernel
theorem dX2_winningTake_29 : decode cX2_winningTake 29 = .ok (.getfield 15, 3) := by decide +kernel
theorem dX2_winningTake_32 : decode cX2_winningTake 32 = .ok (.iload_n 1, 1) := by decide +kernel
theorem dX2_winningTake_33 : decode cX2_winningTake 33 = .ok (.invokestatic 23, 3) := by decide +kernel
theorem dX2_winningTake_36 : decode cX2_winningTake 36 = .ok (.putfield 15, 3) := by decide +kernel
theorem dX2_winningTake_39 : decode cX2_winningTake 39 = .ok (.aload_n 0, 1) := by decide +kernel
theorem dX2_winningTake_40 : decode cX2_winningTake 40 = .ok (.iload_n 1, 1) := by decide +kernel
theorem dX2_winningTake_41 : decode cX2_winningTake 41 = .ok (.iload_n 2, 1) := by decide +kernel
theorem dX2_winningTake_42 : decode cX2_winningTake 42 = .ok (.invokevirtual 29, 3) := by decide +kernel
theorem dX2_winningTake_45 : decode cX2_winningTake 45 = .ok (.ireturn, 1) := by decide +kernel
set_option maxRecDepth 20000 in
theorem ggX2_wonAfter_X2_leastTake : GoodIn wsX2_wonAfter wsX2_leastTake := goodIn_r _ [5, 6, 7, 8, 9, 10, 11] (by decide +kernel) (by decide +kernel)
set_option maxRecDepth 20000 in
theorem gX2_wonAfter_X2_leastTake : GoodIn wsX2_wonAfter (wsV RX2 29 RX2 yX2_leastTake wsX2_leastTake) := goodIn_app (goodIn_of _ (by decide +kernel)) ggX2_wonAfter_X2_leastTake
theorem dX2_wonAfter_0 : decode cX2_wonAfter 0 = .ok (.iconst 0, 1) := by decide +kernel
theorem dX2_wonAfter_1 : decode cX2_wonAfter 1 = .ok (.istore_n 2, 1) := by decide +kernel
theorem dX2_wonAfter_2 : decode cX2_wonAfter 2 = .ok (.iconst 0, 1) := by decide +kernel
theorem dX2_wonAfter_3 : decode cX2_wonAfter 3 = .ok (.istore_n 3, 1) := by decide +kernel
theorem dX2_wonAfter_4 : decode cX2_wonAfter 4 = .ok (.iload_n 3, 1) := by decide +kernel
theorem dX2_wonAfter_5 : decode cX2_wonAfter 5 = .ok (.iconst 4, 1) := by decide +kernel
theorem dX2_wonAfter_6 : decode cX2_wonAfter 6 = .ok (.if_icmp .gt 26, 3) := by decide +kernel
theorem dX2_wonAfter_9 : decode cX2_wonAfter 9 = .ok (.aload_n 0, 1) := by decide +kernel
theorem dX2_wonAfter_10 : decode cX2_wonAfter 10 = .ok (.iload_n 1, 1) := by decide +kernel
theorem dX2_wonAfter_11 : decode cX2_wonAfter 11 = .ok (.iload_n 3, 1) := by decide +kernel
theorem dX2_wonAfter_12 : decode cX2_wonAfter 12 = .ok (.invokevirtual 29, 3) := by decide +kernel
theorem dX2_wonAfter_15 : decode cX2_wonAfter 15 = .ok (.bipush (-6), 2) := by decide +kernel
theorem dX2_wonAfter_17 : decode cX2_wonAfter 17 = .ok (.if_icmp .eq 9, 3) := by decide +kernel
theorem dX2_wonAfter_20 : decode cX2_wonAfter 20 = .ok (.iload_n 2, 1) := by decide +kernel
theorem dX2_wonAfter_21 : decode cX2_wonAfter 21 = .ok (.iconst 1, 1) := by decide +kernel
theorem dX2_wonAfter_22 : decode cX2_wonAfter 22 = .ok (.iload_n 3, 1) := by decide +kernel
theorem dX2_wonAfter_23 : decode cX2_wonAfter 23 = .ok (.ishl, 1) := by decide +kernel
theorem dX2_wonAfter_24 : decode cX2_wonAfter 24 = .ok (.ior, 1) := by decide +kernel
theorem dX2_wonAfter_25 : decode cX2_wonAfter 25 = .ok (.istore_n 2, 1) := by decide +kernel
theorem dX2_wonAfter_26 : decode cX2_wonAfter 26 = .ok (.iinc 3 1, 3) := by decide +kernel
theorem dX2_wonAfter_29 : decode cX2_wonAfter 29 = .ok (.goto (-25), 3) := by decide +kernel
theorem dX2_wonAfter_32 : decode cX2_wonAfter 32 = .ok (.iload_n 2, 1) := by decide +kernel
theorem dX2_wonAfter_33 : decode cX2_wonAfter 33 = .ok (.ireturn, 1) := by decide +kernel
set_option maxRecDepth 20000 in
theorem ggX2_leastTake_X11_has : GoodIn wsX2_leastTake wsX11_has := goodIn_r _ [4] (by decide +kernel) (by decide +kernel)
set_option maxRecDepth 20000 in
theorem gX2_leastTake_X11_has_n32 : GoodIn wsX2_leastTake (wsX11_has) := ggX2_leastTake_X11_has
theorem dX2_leastTake_0 : decode cX2_leastTake 0 = .ok (.iconst 1, 1) := by decide +kernel
theorem dX2_leastTake_1 : decode cX2_leastTake 1 = .ok (.istore_n 3, 1) := by decide +kernel
theorem dX2_leastTake_2 : decode cX2_leastTake 2 = .ok (.iload_n 3, 1) := by decide +kernel
theorem dX2_leastTake_3 : decode cX2_leastTake 3 = .ok (.iconst 4, 1) := by decide +kernel
theorem dX2_leastTake_4 : decode cX2_leastTake 4 = .ok (.if_icmp .gt 36, 3) := by decide +kernel
theorem dX2_leastTake_7 : decode cX2_leastTake 7 = .ok (.iload_n 3, 1) := by decide +kernel
theorem dX2_leastTake_8 : decode cX2_leastTake 8 = .ok (.iload_n 1, 1) := by decide +kernel
theorem dX2_leastTake_9 : decode cX2_leastTake 9 = .ok (.if_icmp .gt 31, 3) := by decide +kernel
theorem dX2_leastTake_12 : decode cX2_leastTake 12 = .ok (.iload_n 3, 1) := by decide +kernel
theorem dX2_leastTake_13 : decode cX2_leastTake 13 = .ok (.iload_n 2, 1) := by decide +kernel
theorem dX2_leastTake_14 : decode cX2_leastTake 14 = .ok (.if_icmp .eq 20, 3) := by decide +kernel
theorem dX2_leastTake_17 : decode cX2_leastTake 17 = .ok (.aload_n 0, 1) := by decide +kernel
theorem dX2_leastTake_18 : decode cX2_leastTake 18 = .ok (.getfield 9, 3) := by decide +kernel
theorem dX2_leastTake_21 : decode cX2_leastTake 21 = .ok (.iload_n 1, 1) := by decide +kernel
theorem dX2_leastTake_22 : decode cX2_leastTake 22 = .ok (.iload_n 3, 1) := by decide +kernel
theorem dX2_leastTake_23 : decode cX2_leastTake 23 = .ok (.isub, 1) := by decide +kernel
theorem dX2_leastTake_24 : decode cX2_leastTake 24 = .ok (.iaload, 1) := by decide +kernel
theorem dX2_leastTake_25 : decode cX2_leastTake 25 = .ok (.iload_n 3, 1) := by decide +kernel
theorem dX2_leastTake_26 : decode cX2_leastTake 26 = .ok (.invokestatic 32, 3) := by decide +kernel
theorem dX2_leastTake_29 : decode cX2_leastTake 29 = .ok (.ifCond .ne 5, 3) := by decide +kernel
theorem dX2_leastTake_32 : decode cX2_leastTake 32 = .ok (.iload_n 3, 1) := by decide +kernel
theorem dX2_leastTake_33 : decode cX2_leastTake 33 = .ok (.ireturn, 1) := by decide +kernel
theorem dX2_leastTake_34 : decode cX2_leastTake 34 = .ok (.iinc 3 1, 3) := by decide +kernel
theorem dX2_leastTake_37 : decode cX2_leastTake 37 = .ok (.goto (-35), 3) := by decide +kernel
theorem dX2_leastTake_40 : decode cX2_leastTake 40 = .ok (.bipush (-6), 2) := by decide +kernel
theorem dX2_leastTake_42 : decode cX2_leastTake 42 = .ok (.ireturn, 1) := by decide +kernel
theorem dX3_init_0 : decode cX3_init 0 = .ok (.aload_n 0, 1) := by decide +kernel
theorem dX3_init_1 : decode cX3_init 1 = .ok (.invokespecial 3, 3) := by decide +kernel
theorem dX3_init_4 : decode cX3_init 4 = .ok (.aload_n 0, 1) := by decide +kernel
theorem dX3_init_5 : decode cX3_init 5 = .ok (.bipush 60, 2) := by decide +kernel
theorem dX3_init_7 : decode cX3_init 7 = .ok (.newarray .int, 2) := by decide +kernel
theorem dX3_init_9 : decode cX3_init 9 = .ok (.putfield 9, 3) := by decide +kernel
theorem dX3_init_12 : decode cX3_init 12 = .ok (.aload_n 0, 1) := by decide +kernel
theorem dX3_init_13 : decode cX3_init 13 = .ok (.iconst 0, 1) := by decide +kernel
theorem dX3_init_14 : decode cX3_init 14 = .ok (.putfield 15, 3) := by decide +kernel
theorem dX3_init_17 : decode cX3_init 17 = .ok (.return_, 1) := by decide +kernel
theorem dX3_write_0 : decode cX3_write 0 = .ok (.aload_n 0, 1) := by decide +kernel
theorem dX3_write_1 : decode cX3_write 1 = .ok (.getfield 15, 3) := by decide +kernel
theorem dX3_write_4 : decode cX3_write 4 = .ok (.bipush 60, 2) := by decide +kernel
theorem dX3_write_6 : decode cX3_write 6 = .ok (.if_icmp .ge 23, 3) := by decide +kernel
theorem dX3_write_9 : decode cX3_write 9 = .ok (.aload_n 0, 1) := by decide +kernel
theorem dX3_write_10 : decode cX3_write 10 = .ok (.getfield 9, 3) := by decide +kernel
theorem dX3_write_13 : decode cX3_write 13 = .ok (.aload_n 0, 1) := by decide +kernel
theorem dX3_write_14 : decode cX3_write 14 = .ok (.getfield 15, 3) := by decide +kernel
theorem dX3_write_17 : decode cX3_write 17 = .ok (.iload_n 1, 1) := by decide +kernel
theorem dX3_write_18 : decode cX3_write 18 = .ok (.iastore, 1) := by decide +kernel
theorem dX3_write_19 : decode cX3_write 19 = .ok (.aload_n 0, 1) := by decide +kernel
theorem dX3_write_20 : decode cX3_write 20 = .ok (.dup, 1) := by decide +kernel
theorem dX3_write_21 : decode cX3_write 21 = .ok (.getfield 15, 3) := by decide +kernel
theorem dX3_write_24 : decode cX3_write 24 = .ok (.iconst 1, 1) := by decide +kernel
theorem dX3_write_25 : decode cX3_write 25 = .ok (.iadd, 1) := by decide +kernel
theorem dX3_write_26 : decode cX3_write 26 = .ok (.putfield 15, 3) := by decide +kernel
theorem dX3_write_29 : decode cX3_write 29 = .ok (.return_, 1) := by decide +kernel
theorem dX3_clear_0 : decode cX3_clear 0 = .ok (.aload_n 0, 1) := by decide +kernel
theorem dX3_clear_1 : decode cX3_clear 1 = .ok (.getfield 15, 3) := by decide +kernel
theorem dX3_clear_4 : decode cX3_clear 4 = .ok (.istore_n 1, 1) := by decide +kernel
theorem dX3_clear_5 : decode cX3_clear 5 = .ok (.aload_n 0, 1) := by decide +kernel
theorem dX3_clear_6 : decode cX3_clear 6 = .ok (.iconst 0, 1) := by decide +kernel
theorem dX3_clear_7 : decode cX3_clear 7 = .ok (.putfield 15, 3) := by decide +kernel
theorem dX3_clear_10 : decode cX3_clear 10 = .ok (.iload_n 1, 1) := by decide +kernel
theorem dX3_clear_11 : decode cX3_clear 11 = .ok (.ireturn, 1) := by decide +kernel
set_option maxRecDepth 20000 in
theorem ggX3_faultyPlace_X3_after : GoodIn wsX3_faultyPlace wsX3_after := goodIn_r _ [6, 7, 8, 5, 9, 10, 11, 12, 13, 14, 15, 16, 17, 18, 19, 20, 21] (by decide +kernel) (by decide +kernel)
set_option maxRecDepth 20000 in
theorem gX3_faultyPlace_X3_after : GoodIn wsX3_faultyPlace (va_wsS RX3 19 yX3_after wsX3_after) := goodIn_app (goodIn_of _ (by decide +kernel)) ggX3_faultyPlace_X3_after
theorem dX3_faultyPlace_0 : decode cX3_faultyPlace 0 = .ok (.iconst 0, 1) := by decide +kernel
theorem dX3_faultyPlace_1 : decode cX3_faultyPlace 1 = .ok (.istore_n 1, 1) := by decide +kernel
theorem dX3_faultyPlace_2 : decode cX3_faultyPlace 2 = .ok (.iconst 0, 1) := by decide +kernel
theorem dX3_faultyPlace_3 : decode cX3_faultyPlace 3 = .ok (.istore_n 2, 1) := by decide +kernel
theorem dX3_faultyPlace_4 : decode cX3_faultyPlace 4 = .ok (.iload_n 2, 1) := by decide +kernel
theorem dX3_faultyPlace_5 : decode cX3_faultyPlace 5 = .ok (.aload_n 0, 1) := by decide +kernel
theorem dX3_faultyPlace_6 : decode cX3_faultyPlace 6 = .ok (.getfield 15, 3) := by decide +kernel
theorem dX3_faultyPlace_9 : decode cX3_faultyPlace 9 = .ok (.if_icmp .ge 27, 3) := by decide +kernel
theorem dX3_faultyPlace_12 : decode cX3_faultyPlace 12 = .ok (.iload_n 1, 1) := by decide +kernel
theorem dX3_faultyPlace_13 : decode cX3_faultyPlace 13 = .ok (.aload_n 0, 1) := by decide +kernel
theorem dX3_faultyPlace_14 : decode cX3_faultyPlace 14 = .ok (.getfield 9, 3) := by decide +kernel
theorem dX3_faultyPlace_17 : decode cX3_faultyPlace 17 = .ok (.iload_n 2, 1) := by decide +kernel
theorem dX3_faultyPlace_18 : decode cX3_faultyPlace 18 = .ok (.iaload, 1) := by decide +kernel
theorem dX3_faultyPlace_19 : decode cX3_faultyPlace 19 = .ok (.invokestatic 19, 3) := by decide +kernel
theorem dX3_faultyPlace_22 : decode cX3_faultyPlace 22 = .ok (.istore_n 1, 1) := by decide +kernel
theorem dX3_faultyPlace_23 : decode cX3_faultyPlace 23 = .ok (.iload_n 1, 1) := by decide +kernel
theorem dX3_faultyPlace_24 : decode cX3_faultyPlace 24 = .ok (.iconst (-1), 1) := by decide +kernel
theorem dX3_faultyPlace_25 : decode cX3_faultyPlace 25 = .ok (.if_icmp .ne 5, 3) := by decide +kernel
theorem dX3_faultyPlace_28 : decode cX3_faultyPlace 28 = .ok (.iload_n 2, 1) := by decide +kernel
theorem dX3_faultyPlace_29 : decode cX3_faultyPlace 29 = .ok (.ireturn, 1) := by decide +kernel
theorem dX3_faultyPlace_30 : decode cX3_faultyPlace 30 = .ok (.iinc 2 1, 3) := by decide +kernel
theorem dX3_faultyPlace_33 : decode cX3_faultyPlace 33 = .ok (.goto (-29), 3) := by decide +kernel
theorem dX3_faultyPlace_36 : decode cX3_faultyPlace 36 = .ok (.iload_n 1, 1) := by decide +kernel
theorem dX3_faultyPlace_37 : decode cX3_faultyPlace 37 = .ok (.ifCond .ne 8, 3) := by decide +kernel
theorem dX3_faultyPlace_40 : decode cX3_faultyPlace 40 = .ok (.bipush (-6), 2) := by decide +kernel
theorem dX3_faultyPlace_42 : decode cX3_faultyPlace 42 = .ok (.goto 7, 3) := by decide +kernel
theorem dX3_faultyPlace_45 : decode cX3_faultyPlace 45 = .ok (.aload_n 0, 1) := by decide +kernel
theorem dX3_faultyPlace_46 : decode cX3_faultyPlace 46 = .ok (.getfield 15, 3) := by decide +kernel
theorem dX3_faultyPlace_49 : decode cX3_faultyPlace 49 = .ok (.ireturn, 1) := by decide +kernel
set_option maxRecDepth 20000 in
theorem ggX3_after_X3_isLetter : GoodIn wsX3_after wsX3_isLetter := goodIn_r _ [4, 5, 6, 7, 8, 9, 10] (by decide +kernel) (by decide +kernel)
set_option maxRecDepth 20000 in
theorem gX3_after_X3_isLetter : GoodIn wsX3_after (va_wsS RX3 23 yX3_isLetter wsX3_isLetter) := goodIn_app (goodIn_of _ (by decide +kernel)) ggX3_after_X3_isLetter
set_option maxRecDepth 20000 in
theorem ggX3_after_X3_deed : GoodIn wsX3_after wsX3_deed := goodIn_r _ [13, 14, 15, 3, 16, 9, 6, 10] (by decide +kernel) (by decide +kernel)
set_option maxRecDepth 20000 in
theorem gX3_after_X3_deed : GoodIn wsX3_after (va_wsS RX3 27 yX3_deed wsX3_deed) := goodIn_app (goodIn_of _ (by decide +kernel)) ggX3_after_X3_deed
theorem dX3_after_0 : decode cX3_after 0 = .ok (.iload_n 0, 1) := by decide +kernel
theorem dX3_after_1 : decode cX3_after 1 = .ok (.lookupswitch 76 #[(0, 27), (1, 54)], 27) := by decide +kernel
theorem dX3_after_28 : decode cX3_after 28 = .ok (.iload_n 1, 1) := by decide +kernel
theorem dX3_after_29 : decode cX3_after 29 = .ok (.bipush 33, 2) := by decide +kernel
theorem dX3_after_31 : decode cX3_after 31 = .ok (.if_icmp .eq 9, 3) := by decide +kernel
theorem dX3_after_34 : decode cX3_after 34 = .ok (.iload_n 1, 1) := by decide +kernel
theorem dX3_after_35 : decode cX3_after 35 = .ok (.bipush 46, 2) := by decide +kernel
theorem dX3_after_37 : decode cX3_after 37 = .ok (.if_icmp .ne 5, 3) := by decide +kernel
theorem dX3_after_40 : decode cX3_after 40 = .ok (.iconst 0, 1) := by decide +kernel
theorem dX3_after_41 : decode cX3_after 41 = .ok (.ireturn, 1) := by decide +kernel
theorem dX3_after_42 : decode cX3_after 42 = .ok (.iload_n 1, 1) := by decide +kernel
theorem dX3_after_43 : decode cX3_after 43 = .ok (.invokestatic 23, 3) := by decide +kernel
theorem dX3_after_46 : decode cX3_after 46 = .ok (.ifCond .eq 7, 3) := by decide +kernel
theorem dX3_after_49 : decode cX3_after 49 = .ok (.iconst 1, 1) := by decide +kernel
theorem dX3_after_50 : decode cX3_after 50 = .ok (.goto 4, 3) := by decide +kernel
theorem dX3_after_53 : decode cX3_after 53 = .ok (.iconst (-1), 1) := by decide +kernel
theorem dX3_after_54 : decode cX3_after 54 = .ok (.ireturn, 1) := by decide +kernel
theorem dX3_after_55 : decode cX3_after 55 = .ok (.iload_n 1, 1) := by decide +kernel
theorem dX3_after_56 : decode cX3_after 56 = .ok (.bipush 38, 2) := by decide +kernel
theorem dX3_after_58 : decode cX3_after 58 = .ok (.if_icmp .ne 5, 3) := by decide +kernel
theorem dX3_after_61 : decode cX3_after 61 = .ok (.iconst 2, 1) := by decide +kernel
theorem dX3_after_62 : decode cX3_after 62 = .ok (.ireturn, 1) := by decide +kernel
theorem dX3_after_63 : decode cX3_after 63 = .ok (.iload_n 1, 1) := by decide +kernel
theorem dX3_after_64 : decode cX3_after 64 = .ok (.invokestatic 27, 3) := by decide +kernel
theorem dX3_after_67 : decode cX3_after 67 = .ok (.iconst (-1), 1) := by decide +kernel
theorem dX3_after_68 : decode cX3_after 68 = .ok (.if_icmp .ne 7, 3) := by decide +kernel
theorem dX3_after_71 : decode cX3_after 71 = .ok (.iconst (-1), 1) := by decide +kernel
theorem dX3_after_72 : decode cX3_after 72 = .ok (.goto 4, 3) := by decide +kernel
theorem dX3_after_75 : decode cX3_after 75 = .ok (.iconst 0, 1) := by decide +kernel
theorem dX3_after_76 : decode cX3_after 76 = .ok (.ireturn, 1) := by decide +kernel
theorem dX3_after_77 : decode cX3_after 77 = .ok (.iload_n 1, 1) := by decide +kernel
theorem dX3_after_78 : decode cX3_after 78 = .ok (.invokestatic 23, 3) := by decide +kernel
theorem dX3_after_81 : decode cX3_after 81 = .ok (.ifCond .eq 7, 3) := by decide +kernel
theorem dX3_after_84 : decode cX3_after 84 = .ok (.iconst 0, 1) := by decide +kernel
theorem dX3_after_85 : decode cX3_after 85 = .ok (.goto 4, 3) := by decide +kernel
theorem dX3_after_88 : decode cX3_after 88 = .ok (.iconst (-1), 1) := by decide +kernel
theorem dX3_after_89 : decode cX3_after 89 = .ok (.ireturn, 1) := by decide +kernel
set_option maxRecDepth 20000 in
theorem ggX3_isLetter_X11_isWalker : GoodIn wsX3_isLetter wsX11_isWalker := goodIn_r _ [3, 4, 5, 2, 6] (by decide +kernel) (by decide +kernel)
set_option maxRecDepth 20000 in
theorem gX3_isLetter_X11_isWalker_n31 : GoodIn wsX3_isLetter (wsX11_isWalker) := ggX3_isLetter_X11_isWalker
theorem dX3_isLetter_0 : decode cX3_isLetter 0 = .ok (.iload_n 0, 1) := by decide +kernel
theorem dX3_isLetter_1 : decode cX3_isLetter 1 = .ok (.bipush 65, 2) := by decide +kernel
theorem dX3_isLetter_3 : decode cX3_isLetter 3 = .ok (.isub, 1) := by decide +kernel
theorem dX3_isLetter_4 : decode cX3_isLetter 4 = .ok (.invokestatic 31, 3) := by decide +kernel
theorem dX3_isLetter_7 : decode cX3_isLetter 7 = .ok (.ireturn, 1) := by decide +kernel
set_option maxRecDepth 20000 in
theorem ggX3_isHour_X11_within : GoodIn wsX3_isHour wsX11_within := goodIn_r _ [3] (by decide +kernel) (by decide +kernel)
set_option maxRecDepth 20000 in
theorem gX3_isHour_X11_within_n34 : GoodIn wsX3_isHour (wsX11_within) := ggX3_isHour_X11_within
theorem dX3_isHour_0 : decode cX3_isHour 0 = .ok (.iload_n 0, 1) := by decide +kernel
theorem dX3_isHour_1 : decode cX3_isHour 1 = .ok (.bipush 48, 2) := by decide +kernel
theorem dX3_isHour_3 : decode cX3_isHour 3 = .ok (.isub, 1) := by decide +kernel
theorem dX3_isHour_4 : decode cX3_isHour 4 = .ok (.iconst 0, 1) := by decide +kernel
theorem dX3_isHour_5 : decode cX3_isHour 5 = .ok (.bipush 7, 2) := by decide +kernel
theorem dX3_isHour_7 : decode cX3_isHour 7 = .ok (.invokestatic 34, 3) := by decide +kernel
theorem dX3_isHour_10 : decode cX3_isHour 10 = .ok (.ireturn, 1) := by decide +kernel
set_option maxRecDepth 20000 in
theorem ggX3_deed_X3_isHour : GoodIn wsX3_deed wsX3_isHour := goodIn_r _ [4, 5, 6, 7] (by decide +kernel) (by decide +kernel)
set_option maxRecDepth 20000 in
theorem gX3_deed_X3_isHour : GoodIn wsX3_deed (va_wsS RX3 38 yX3_isHour wsX3_isHour) := goodIn_app (goodIn_of _ (by decide +kernel)) ggX3_deed_X3_isHour
theorem dX3_deed_0 : decode cX3_deed 0 = .ok (.iload_n 0, 1) := by decide +kernel
theorem dX3_deed_1 : decode cX3_deed 1 = .ok (.invokestatic 38, 3) := by decide +kernel
theorem dX3_deed_4 : decode cX3_deed 4 = .ok (.ifCond .eq 5, 3) := by decide +kernel
theorem dX3_deed_7 : decode cX3_deed 7 = .ok (.iconst 2, 1) := by decide +kernel
theorem dX3_deed_8 : decode cX3_deed 8 = .ok (.ireturn, 1) := by decide +kernel
theorem dX3_deed_9 : decode cX3_deed 9 = .ok (.iload_n 0, 1) := by decide +kernel
theorem dX3_deed_10 : decode cX3_deed 10 = .ok (.lookupswitch 77 #[(60, 68), (62, 66), (94, 72), (102, 70), (103, 70), (115, 70), (124, 74)], 66) := by decide +kernel
theorem dX3_deed_76 : decode cX3_deed 76 = .ok (.iconst 0, 1) := by decide +kernel
theorem dX3_deed_77 : decode cX3_deed 77 = .ok (.ireturn, 1) := by decide +kernel
theorem dX3_deed_78 : decode cX3_deed 78 = .ok (.iconst 1, 1) := by decide +kernel
theorem dX3_deed_79 : decode cX3_deed 79 = .ok (.ireturn, 1) := by decide +kernel
theorem dX3_deed_80 : decode cX3_deed 80 = .ok (.iconst 3, 1) := by decide +kernel
theorem dX3_deed_81 : decode cX3_deed 81 = .ok (.ireturn, 1) := by decide +kernel
theorem dX3_deed_82 : decode cX3_deed 82 = .ok (.iconst 4, 1) := by decide +kernel
theorem dX3_deed_83 : decode cX3_deed 83 = .ok (.ireturn, 1) := by decide +kernel
theorem dX3_deed_84 : decode cX3_deed 84 = .ok (.bipush 6, 2) := by decide +kernel
theorem dX3_deed_86 : decode cX3_deed 86 = .ok (.ireturn, 1) := by decide +kernel
theorem dX3_deed_87 : decode cX3_deed 87 = .ok (.iconst (-1), 1) := by decide +kernel
theorem dX3_deed_88 : decode cX3_deed 88 = .ok (.ireturn, 1) := by decide +kernel
set_option maxRecDepth 20000 in
theorem ggX3_kind_X3_deed : GoodIn wsX3_kind wsX3_deed := goodIn_r _ [4, 5, 6, 3, 7, 8, 9, 10] (by decide +kernel) (by decide +kernel)
set_option maxRecDepth 20000 in
theorem gX3_kind_X3_deed : GoodIn wsX3_kind (va_wsS RX3 27 yX3_deed wsX3_deed) := goodIn_app (goodIn_of _ (by decide +kernel)) ggX3_kind_X3_deed
theorem dX3_kind_0 : decode cX3_kind 0 = .ok (.iload_n 0, 1) := by decide +kernel
theorem dX3_kind_1 : decode cX3_kind 1 = .ok (.ifCond .ne 17, 3) := by decide +kernel
theorem dX3_kind_4 : decode cX3_kind 4 = .ok (.iload_n 1, 1) := by decide +kernel
theorem dX3_kind_5 : decode cX3_kind 5 = .ok (.bipush 33, 2) := by decide +kernel
theorem dX3_kind_7 : decode cX3_kind 7 = .ok (.if_icmp .ne 8, 3) := by decide +kernel
theorem dX3_kind_10 : decode cX3_kind 10 = .ok (.bipush 7, 2) := by decide +kernel
theorem dX3_kind_12 : decode cX3_kind 12 = .ok (.goto 5, 3) := by decide +kernel
theorem dX3_kind_15 : decode cX3_kind 15 = .ok (.bipush 8, 2) := by decide +kernel
theorem dX3_kind_17 : decode cX3_kind 17 = .ok (.ireturn, 1) := by decide +kernel
theorem dX3_kind_18 : decode cX3_kind 18 = .ok (.iload_n 0, 1) := by decide +kernel
theorem dX3_kind_19 : decode cX3_kind 19 = .ok (.iconst 2, 1) := by decide +kernel
theorem dX3_kind_20 : decode cX3_kind 20 = .ok (.if_icmp .ne 7, 3) := by decide +kernel
theorem dX3_kind_23 : decode cX3_kind 23 = .ok (.iconst 5, 1) := by decide +kernel
theorem dX3_kind_24 : decode cX3_kind 24 = .ok (.goto 7, 3) := by decide +kernel
theorem dX3_kind_27 : decode cX3_kind 27 = .ok (.iload_n 1, 1) := by decide +kernel
theorem dX3_kind_28 : decode cX3_kind 28 = .ok (.invokestatic 27, 3) := by decide +kernel
theorem dX3_kind_31 : decode cX3_kind 31 = .ok (.ireturn, 1) := by decide +kernel
set_option maxRecDepth 20000 in
theorem ggX3_object_X3_isHour : GoodIn wsX3_object wsX3_isHour := goodIn_r _ [4, 5, 6, 7] (by decide +kernel) (by decide +kernel)
set_option maxRecDepth 20000 in
theorem gX3_object_X3_isHour : GoodIn wsX3_object (va_wsS RX3 38 yX3_isHour wsX3_isHour) := goodIn_app (goodIn_of _ (by decide +kernel)) ggX3_object_X3_isHour
theorem dX3_object_0 : decode cX3_object 0 = .ok (.iload_n 0, 1) := by decide +kernel
theorem dX3_object_1 : decode cX3_object 1 = .ok (.iconst 2, 1) := by decide +kernel
theorem dX3_object_2 : decode cX3_object 2 = .ok (.if_icmp .ne 8, 3) := by decide +kernel
theorem dX3_object_5 : decode cX3_object 5 = .ok (.iload_n 1, 1) := by decide +kernel
theorem dX3_object_6 : decode cX3_object 6 = .ok (.bipush 65, 2) := by decide +kernel
theorem dX3_object_8 : decode cX3_object 8 = .ok (.isub, 1) := by decide +kernel
theorem dX3_object_9 : decode cX3_object 9 = .ok (.ireturn, 1) := by decide +kernel
theorem dX3_object_10 : decode cX3_object 10 = .ok (.iload_n 1, 1) := by decide +kernel
theorem dX3_object_11 : decode cX3_object 11 = .ok (.invokestatic 38, 3) := by decide +kernel
theorem dX3_object_14 : decode cX3_object 14 = .ok (.ifCond .eq 8, 3) := by decide +kernel
theorem dX3_object_17 : decode cX3_object 17 = .ok (.iload_n 1, 1) := by decide +kernel
theorem dX3_object_18 : decode cX3_object 18 = .ok (.bipush 48, 2) := by decide +kernel
theorem dX3_object_20 : decode cX3_object 20 = .ok (.isub, 1) := by decide +kernel
theorem dX3_object_21 : decode cX3_object 21 = .ok (.ireturn, 1) := by decide +kernel
theorem dX3_object_22 : decode cX3_object 22 = .ok (.iload_n 1, 1) := by decide +kernel
theorem dX3_object_23 : decode cX3_object 23 = .ok (.lookupswitch 29 #[(102, 25), (115, 27)], 25) := by decide +kernel
theorem dX3_object_48 : decode cX3_object 48 = .ok (.iconst 1, 1) := by decide +kernel
theorem dX3_object_49 : decode cX3_object 49 = .ok (.ireturn, 1) := by decide +kernel
theorem dX3_object_50 : decode cX3_object 50 = .ok (.iconst 2, 1) := by decide +kernel
theorem dX3_object_51 : decode cX3_object 51 = .ok (.ireturn, 1) := by decide +kernel
theorem dX3_object_52 : decode cX3_object 52 = .ok (.iconst 0, 1) := by decide +kernel
theorem dX3_object_53 : decode cX3_object 53 = .ok (.ireturn, 1) := by decide +kernel
theorem dX4_init_0 : decode cX4_init 0 = .ok (.aload_n 0, 1) := by decide +kernel
theorem dX4_init_1 : decode cX4_init 1 = .ok (.invokespecial 3, 3) := by decide +kernel
theorem dX4_init_4 : decode cX4_init 4 = .ok (.aload_n 0, 1) := by decide +kernel
theorem dX4_init_5 : decode cX4_init 5 = .ok (.iconst 3, 1) := by decide +kernel
theorem dX4_init_6 : decode cX4_init 6 = .ok (.newarray .int, 2) := by decide +kernel
theorem dX4_init_8 : decode cX4_init 8 = .ok (.putfield 9, 3) := by decide +kernel
theorem dX4_init_11 : decode cX4_init 11 = .ok (.return_, 1) := by decide +kernel
set_option maxRecDepth 20000 in
theorem ggX4_seek_X10_blowAnHour : GoodIn wsX4_seek wsX10_blowAnHour := goodIn_r _ [8, 9, 10, 11, 12, 13, 7, 14, 15, 16, 17, 18, 19, 20, 21, 22, 23, 38, 39, 40] (by decide +kernel) (by decide +kernel)
set_option maxRecDepth 20000 in
theorem gX4_seek_X10_blowAnHour : GoodIn wsX4_seek (wsV RX4 22 RX10 yX10_blowAnHour wsX10_blowAnHour) := goodIn_app (goodIn_of _ (by decide +kernel)) ggX4_seek_X10_blowAnHour
set_option maxRecDepth 20000 in
theorem ggX4_seek_X4_spread : GoodIn wsX4_seek wsX4_spread := goodIn_r _ [27] (by decide +kernel) (by decide +kernel)
set_option maxRecDepth 20000 in
theorem gX4_seek_X4_spread : GoodIn wsX4_seek (va_wsS RX4 28 yX4_spread wsX4_spread) := goodIn_app (goodIn_of _ (by decide +kernel)) ggX4_seek_X4_spread
set_option maxRecDepth 20000 in
theorem ggX4_seek_X4_lookFor : GoodIn wsX4_seek wsX4_lookFor := goodIn_r _ [31, 1, 3, 2, 32, 33, 34, 35, 36, 37] (by decide +kernel) (by decide +kernel)
set_option maxRecDepth 20000 in
theorem gX4_seek_X4_lookFor : GoodIn wsX4_seek (wsV RX4 32 RX4 yX4_lookFor wsX4_lookFor) := goodIn_app (goodIn_of _ (by decide +kernel)) ggX4_seek_X4_lookFor
theorem dX4_seek_0 : decode cX4_seek 0 = .ok (.aload_n 0, 1) := by decide +kernel
theorem dX4_seek_1 : decode cX4_seek 1 = .ok (.iload_n 2, 1) := by decide +kernel
theorem dX4_seek_2 : decode cX4_seek 2 = .ok (.iload_n 3, 1) := by decide +kernel
theorem dX4_seek_3 : decode cX4_seek 3 = .ok (.if_icmp .ne 7, 3) := by decide +kernel
theorem dX4_seek_6 : decode cX4_seek 6 = .ok (.iconst 0, 1) := by decide +kernel
theorem dX4_seek_7 : decode cX4_seek 7 = .ok (.goto 5, 3) := by decide +kernel
theorem dX4_seek_10 : decode cX4_seek 10 = .ok (.bipush (-6), 2) := by decide +kernel
theorem dX4_seek_12 : decode cX4_seek 12 = .ok (.putfield 15, 3) := by decide +kernel
theorem dX4_seek_15 : decode cX4_seek 15 = .ok (.aload_n 0, 1) := by decide +kernel
theorem dX4_seek_16 : decode cX4_seek 16 = .ok (.bipush (-6), 2) := by decide +kernel
theorem dX4_seek_18 : decode cX4_seek 18 = .ok (.putfield 19, 3) := by decide +kernel
theorem dX4_seek_21 : decode cX4_seek 21 = .ok (.aload_n 0, 1) := by decide +kernel
theorem dX4_seek_22 : decode cX4_seek 22 = .ok (.getfield 9, 3) := by decide +kernel
theorem dX4_seek_25 : decode cX4_seek 25 = .ok (.iconst 0, 1) := by decide +kernel
theorem dX4_seek_26 : decode cX4_seek 26 = .ok (.iconst 1, 1) := by decide +kernel
theorem dX4_seek_27 : decode cX4_seek 27 = .ok (.iload_n 2, 1) := by decide +kernel
theorem dX4_seek_28 : decode cX4_seek 28 = .ok (.ishl, 1) := by decide +kernel
theorem dX4_seek_29 : decode cX4_seek 29 = .ok (.iastore, 1) := by decide +kernel
theorem dX4_seek_30 : decode cX4_seek 30 = .ok (.aload_n 0, 1) := by decide +kernel
theorem dX4_seek_31 : decode cX4_seek 31 = .ok (.getfield 9, 3) := by decide +kernel
theorem dX4_seek_34 : decode cX4_seek 34 = .ok (.iconst 1, 1) := by decide +kernel
theorem dX4_seek_35 : decode cX4_seek 35 = .ok (.iconst 1, 1) := by decide +kernel
theorem dX4_seek_36 : decode cX4_seek 36 = .ok (.iload_n 2, 1) := by decide +kernel
theorem dX4_seek_37 : decode cX4_seek 37 = .ok (.iconst 1, 1) := by decide +kernel
theorem dX4_seek_38 : decode cX4_seek 38 = .ok (.iadd, 1) := by decide +kernel
theorem dX4_seek_39 : decode cX4_seek 39 = .ok (.ishl, 1) := by decide +kernel
theorem dX4_seek_40 : decode cX4_seek 40 = .ok (.iastore, 1) := by decide +kernel
theorem dX4_seek_41 : decode cX4_seek 41 = .ok (.aload_n 0, 1) := by decide +kernel
theorem dX4_seek_42 : decode cX4_seek 42 = .ok (.getfield 9, 3) := by decide +kernel
theorem dX4_seek_45 : decode cX4_seek 45 = .ok (.iconst 2, 1) := by decide +kernel
theorem dX4_seek_46 : decode cX4_seek 46 = .ok (.iconst 1, 1) := by decide +kernel
theorem dX4_seek_47 : decode cX4_seek 47 = .ok (.iload_n 2, 1) := by decide +kernel
theorem dX4_seek_48 : decode cX4_seek 48 = .ok (.ishl, 1) := by decide +kernel
theorem dX4_seek_49 : decode cX4_seek 49 = .ok (.iconst 1, 1) := by decide +kernel
theorem dX4_seek_50 : decode cX4_seek 50 = .ok (.ishr, 1) := by decide +kernel
theorem dX4_seek_51 : decode cX4_seek 51 = .ok (.iastore, 1) := by decide +kernel
theorem dX4_seek_52 : decode cX4_seek 52 = .ok (.iconst 1, 1) := by decide +kernel
theorem dX4_seek_53 : decode cX4_seek 53 = .ok (.istore 4, 2) := by decide +kernel
theorem dX4_seek_55 : decode cX4_seek 55 = .ok (.iload 4, 2) := by decide +kernel
theorem dX4_seek_57 : decode cX4_seek 57 = .ok (.sipush 288, 3) := by decide +kernel
theorem dX4_seek_60 : decode cX4_seek 60 = .ok (.if_icmp .gt 92, 3) := by decide +kernel
theorem dX4_seek_63 : decode cX4_seek 63 = .ok (.aload_n 0, 1) := by decide +kernel
theorem dX4_seek_64 : decode cX4_seek 64 = .ok (.getfield 15, 3) := by decide +kernel
theorem dX4_seek_67 : decode cX4_seek 67 = .ok (.bipush (-6), 2) := by decide +kernel
theorem dX4_seek_69 : decode cX4_seek 69 = .ok (.if_icmp .ne 83, 3) := by decide +kernel
theorem dX4_seek_72 : decode cX4_seek 72 = .ok (.sipush 4095, 3) := by decide +kernel
theorem dX4_seek_75 : decode cX4_seek 75 = .ok (.aload_n 1, 1) := by decide +kernel
theorem dX4_seek_76 : decode cX4_seek 76 = .ok (.invokevirtual 22, 3) := by decide +kernel
theorem dX4_seek_79 : decode cX4_seek 79 = .ok (.iconst (-1), 1) := by decide +kernel
theorem dX4_seek_80 : decode cX4_seek 80 = .ok (.ixor, 1) := by decide +kernel
theorem dX4_seek_81 : decode cX4_seek 81 = .ok (.iand, 1) := by decide +kernel
theorem dX4_seek_82 : decode cX4_seek 82 = .ok (.istore 5, 2) := by decide +kernel
theorem dX4_seek_84 : decode cX4_seek 84 = .ok (.iconst 0, 1) := by decide +kernel
theorem dX4_seek_85 : decode cX4_seek 85 = .ok (.istore 6, 2) := by decide +kernel
theorem dX4_seek_87 : decode cX4_seek 87 = .ok (.iload 6, 2) := by decide +kernel
theorem dX4_seek_89 : decode cX4_seek 89 = .ok (.iconst 3, 1) := by decide +kernel
theorem dX4_seek_90 : decode cX4_seek 90 = .ok (.if_icmp .ge 49, 3) := by decide +kernel
theorem dX4_seek_93 : decode cX4_seek 93 = .ok (.iload 4, 2) := by decide +kernel
theorem dX4_seek_95 : decode cX4_seek 95 = .ok (.iconst 1, 1) := by decide +kernel
theorem dX4_seek_96 : decode cX4_seek 96 = .ok (.if_icmp .ne 13, 3) := by decide +kernel
theorem dX4_seek_99 : decode cX4_seek 99 = .ok (.aload_n 0, 1) := by decide +kernel
theorem dX4_seek_100 : decode cX4_seek 100 = .ok (.getfield 9, 3) := by decide +kernel
theorem dX4_seek_103 : decode cX4_seek 103 = .ok (.iload 6, 2) := by decide +kernel
theorem dX4_seek_105 : decode cX4_seek 105 = .ok (.iaload, 1) := by decide +kernel
theorem dX4_seek_106 : decode cX4_seek 106 = .ok (.goto 13, 3) := by decide +kernel
theorem dX4_seek_109 : decode cX4_seek 109 = .ok (.aload_n 0, 1) := by decide +kernel
theorem dX4_seek_110 : decode cX4_seek 110 = .ok (.getfield 9, 3) := by decide +kernel
theorem dX4_seek_113 : decode cX4_seek 113 = .ok (.iload 6, 2) := by decide +kernel
theorem dX4_seek_115 : decode cX4_seek 115 = .ok (.iaload, 1) := by decide +kernel
theorem dX4_seek_116 : decode cX4_seek 116 = .ok (.invokestatic 28, 3) := by decide +kernel
theorem dX4_seek_119 : decode cX4_seek 119 = .ok (.istore 7, 2) := by decide +kernel
theorem dX4_seek_121 : decode cX4_seek 121 = .ok (.aload_n 0, 1) := by decide +kernel
theorem dX4_seek_122 : decode cX4_seek 122 = .ok (.getfield 9, 3) := by decide +kernel
theorem dX4_seek_125 : decode cX4_seek 125 = .ok (.iload 6, 2) := by decide +kernel
theorem dX4_seek_127 : decode cX4_seek 127 = .ok (.iload 7, 2) := by decide +kernel
theorem dX4_seek_129 : decode cX4_seek 129 = .ok (.iload 5, 2) := by decide +kernel
theorem dX4_seek_131 : decode cX4_seek 131 = .ok (.iand, 1) := by decide +kernel
theorem dX4_seek_132 : decode cX4_seek 132 = .ok (.iastore, 1) := by decide +kernel
theorem dX4_seek_133 : decode cX4_seek 133 = .ok (.iinc 6 1, 3) := by decide +kernel
theorem dX4_seek_136 : decode cX4_seek 136 = .ok (.goto (-49), 3) := by decide +kernel
theorem dX4_seek_139 : decode cX4_seek 139 = .ok (.aload_n 0, 1) := by decide +kernel
theorem dX4_seek_140 : decode cX4_seek 140 = .ok (.iload_n 3, 1) := by decide +kernel
theorem dX4_seek_141 : decode cX4_seek 141 = .ok (.iload 4, 2) := by decide +kernel
theorem dX4_seek_143 : decode cX4_seek 143 = .ok (.invokevirtual 32, 3) := by decide +kernel
theorem dX4_seek_146 : decode cX4_seek 146 = .ok (.iinc 4 1, 3) := by decide +kernel
theorem dX4_seek_149 : decode cX4_seek 149 = .ok (.goto (-94), 3) := by decide +kernel
theorem dX4_seek_152 : decode cX4_seek 152 = .ok (.return_, 1) := by decide +kernel
theorem dX4_spread_0 : decode cX4_spread 0 = .ok (.iload_n 0, 1) := by decide +kernel
theorem dX4_spread_1 : decode cX4_spread 1 = .ok (.iload_n 0, 1) := by decide +kernel
theorem dX4_spread_2 : decode cX4_spread 2 = .ok (.iconst 1, 1) := by decide +kernel
theorem dX4_spread_3 : decode cX4_spread 3 = .ok (.ishl, 1) := by decide +kernel
theorem dX4_spread_4 : decode cX4_spread 4 = .ok (.ior, 1) := by decide +kernel
theorem dX4_spread_5 : decode cX4_spread 5 = .ok (.iload_n 0, 1) := by decide +kernel
theorem dX4_spread_6 : decode cX4_spread 6 = .ok (.iconst 1, 1) := by decide +kernel
theorem dX4_spread_7 : decode cX4_spread 7 = .ok (.ishr, 1) := by decide +kernel
theorem dX4_spread_8 : decode cX4_spread 8 = .ok (.ior, 1) := by decide +kernel
theorem dX4_spread_9 : decode cX4_spread 9 = .ok (.ireturn, 1) := by decide +kernel
set_option maxRecDepth 20000 in
theorem ggX4_lookFor_X11_has : GoodIn wsX4_lookFor wsX11_has := goodIn_r _ [6] (by decide +kernel) (by decide +kernel)
set_option maxRecDepth 20000 in
theorem gX4_lookFor_X11_has_n36 : GoodIn wsX4_lookFor (wsX11_has) := ggX4_lookFor_X11_has
theorem dX4_lookFor_0 : decode cX4_lookFor 0 = .ok (.iconst 0, 1) := by decide +kernel
theorem dX4_lookFor_1 : decode cX4_lookFor 1 = .ok (.istore_n 3, 1) := by decide +kernel
theorem dX4_lookFor_2 : decode cX4_lookFor 2 = .ok (.iload_n 3, 1) := by decide +kernel
theorem dX4_lookFor_3 : decode cX4_lookFor 3 = .ok (.iconst 3, 1) := by decide +kernel
theorem dX4_lookFor_4 : decode cX4_lookFor 4 = .ok (.if_icmp .ge 41, 3) := by decide +kernel
theorem dX4_lookFor_7 : decode cX4_lookFor 7 = .ok (.aload_n 0, 1) := by decide +kernel
theorem dX4_lookFor_8 : decode cX4_lookFor 8 = .ok (.getfield 15, 3) := by decide +kernel
theorem dX4_lookFor_11 : decode cX4_lookFor 11 = .ok (.bipush (-6), 2) := by decide +kernel
theorem dX4_lookFor_13 : decode cX4_lookFor 13 = .ok (.if_icmp .ne 32, 3) := by decide +kernel
theorem dX4_lookFor_16 : decode cX4_lookFor 16 = .ok (.aload_n 0, 1) := by decide +kernel
theorem dX4_lookFor_17 : decode cX4_lookFor 17 = .ok (.getfield 9, 3) := by decide +kernel
theorem dX4_lookFor_20 : decode cX4_lookFor 20 = .ok (.iload_n 3, 1) := by decide +kernel
theorem dX4_lookFor_21 : decode cX4_lookFor 21 = .ok (.iaload, 1) := by decide +kernel
theorem dX4_lookFor_22 : decode cX4_lookFor 22 = .ok (.iload_n 1, 1) := by decide +kernel
theorem dX4_lookFor_23 : decode cX4_lookFor 23 = .ok (.invokestatic 36, 3) := by decide +kernel
theorem dX4_lookFor_26 : decode cX4_lookFor 26 = .ok (.ifCond .eq 13, 3) := by decide +kernel
theorem dX4_lookFor_29 : decode cX4_lookFor 29 = .ok (.aload_n 0, 1) := by decide +kernel
theorem dX4_lookFor_30 : decode cX4_lookFor 30 = .ok (.iload_n 2, 1) := by decide +kernel
theorem dX4_lookFor_31 : decode cX4_lookFor 31 = .ok (.putfield 15, 3) := by decide +kernel
theorem dX4_lookFor_34 : decode cX4_lookFor 34 = .ok (.aload_n 0, 1) := by decide +kernel
theorem dX4_lookFor_35 : decode cX4_lookFor 35 = .ok (.iload_n 3, 1) := by decide +kernel
theorem dX4_lookFor_36 : decode cX4_lookFor 36 = .ok (.putfield 19, 3) := by decide +kernel
theorem dX4_lookFor_39 : decode cX4_lookFor 39 = .ok (.iinc 3 1, 3) := by decide +kernel
theorem dX4_lookFor_42 : decode cX4_lookFor 42 = .ok (.goto (-40), 3) := by decide +kernel
theorem dX4_lookFor_45 : decode cX4_lookFor 45 = .ok (.return_, 1) := by decide +kernel
theorem dX5_init_0 : decode cX5_init 0 = .ok (.aload_n 0, 1) := by decide +kernel
theorem dX5_init_1 : decode cX5_init 1 = .ok (.invokespecial 3, 3) := by decide +kernel
theorem dX5_init_4 : decode cX5_init 4 = .ok (.return_, 1) := by decide +kernel
set_option maxRecDepth 20000 in
theorem ggX5_seek_X8_goodsOf : GoodIn wsX5_seek wsX8_goodsOf := goodIn_r _ [9, 10, 24, 25, 26, 27, 28, 29, 30, 31, 32, 33] (by decide +kernel) (by decide +kernel)
set_option maxRecDepth 20000 in
theorem gX5_seek_X8_goodsOf : GoodIn wsX5_seek (wsV RX5 18 RX8 yX8_goodsOf wsX8_goodsOf) := goodIn_app (goodIn_of _ (by decide +kernel)) ggX5_seek_X8_goodsOf
set_option maxRecDepth 20000 in
theorem ggX5_seek_X5_sheetsFor : GoodIn wsX5_seek wsX5_sheetsFor := goodIn_r _ [14] (by decide +kernel) (by decide +kernel)
set_option maxRecDepth 20000 in
theorem gX5_seek_X5_sheetsFor : GoodIn wsX5_seek (va_wsS RX5 31 yX5_sheetsFor wsX5_sheetsFor) := goodIn_app (goodIn_of _ (by decide +kernel)) ggX5_seek_X5_sheetsFor
set_option maxRecDepth 20000 in
theorem ggX5_seek_X5_consider : GoodIn wsX5_seek wsX5_consider := goodIn_r _ [18, 1, 2, 19, 20, 21, 22, 23] (by decide +kernel) (by decide +kernel)
set_option maxRecDepth 20000 in
theorem gX5_seek_X5_consider : GoodIn wsX5_seek (wsV RX5 34 RX5 yX5_consider wsX5_consider) := goodIn_app (goodIn_of _ (by decide +kernel)) ggX5_seek_X5_consider
theorem dX5_seek_0 : decode cX5_seek 0 = .ok (.aload_n 0, 1) := by decide +kernel
theorem dX5_seek_1 : decode cX5_seek 1 = .ok (.bipush (-6), 2) := by decide +kernel
theorem dX5_seek_3 : decode cX5_seek 3 = .ok (.putfield 9, 3) := by decide +kernel
theorem dX5_seek_6 : decode cX5_seek 6 = .ok (.aload_n 0, 1) := by decide +kernel
theorem dX5_seek_7 : decode cX5_seek 7 = .ok (.bipush (-6), 2) := by decide +kernel
theorem dX5_seek_9 : decode cX5_seek 9 = .ok (.putfield 15, 3) := by decide +kernel
theorem dX5_seek_12 : decode cX5_seek 12 = .ok (.iconst 0, 1) := by decide +kernel
theorem dX5_seek_13 : decode cX5_seek 13 = .ok (.istore_n 3, 1) := by decide +kernel
theorem dX5_seek_14 : decode cX5_seek 14 = .ok (.iload_n 3, 1) := by decide +kernel
theorem dX5_seek_15 : decode cX5_seek 15 = .ok (.aload_n 1, 1) := by decide +kernel
theorem dX5_seek_16 : decode cX5_seek 16 = .ok (.iload_n 2, 1) := by decide +kernel
theorem dX5_seek_17 : decode cX5_seek 17 = .ok (.iconst 0, 1) := by decide +kernel
theorem dX5_seek_18 : decode cX5_seek 18 = .ok (.invokevirtual 18, 3) := by decide +kernel
theorem dX5_seek_21 : decode cX5_seek 21 = .ok (.if_icmp .gt 89, 3) := by decide +kernel
theorem dX5_seek_24 : decode cX5_seek 24 = .ok (.iconst 0, 1) := by decide +kernel
theorem dX5_seek_25 : decode cX5_seek 25 = .ok (.istore 4, 2) := by decide +kernel
theorem dX5_seek_27 : decode cX5_seek 27 = .ok (.iload 4, 2) := by decide +kernel
theorem dX5_seek_29 : decode cX5_seek 29 = .ok (.aload_n 1, 1) := by decide +kernel
theorem dX5_seek_30 : decode cX5_seek 30 = .ok (.iload_n 2, 1) := by decide +kernel
theorem dX5_seek_31 : decode cX5_seek 31 = .ok (.iconst 1, 1) := by decide +kernel
theorem dX5_seek_32 : decode cX5_seek 32 = .ok (.invokevirtual 18, 3) := by decide +kernel
theorem dX5_seek_35 : decode cX5_seek 35 = .ok (.if_icmp .gt 69, 3) := by decide +kernel
theorem dX5_seek_38 : decode cX5_seek 38 = .ok (.aload_n 1, 1) := by decide +kernel
theorem dX5_seek_39 : decode cX5_seek 39 = .ok (.getfield 24, 3) := by decide +kernel
theorem dX5_seek_42 : decode cX5_seek 42 = .ok (.iload_n 2, 1) := by decide +kernel
theorem dX5_seek_43 : decode cX5_seek 43 = .ok (.iaload, 1) := by decide +kernel
theorem dX5_seek_44 : decode cX5_seek 44 = .ok (.iload_n 3, 1) := by decide +kernel
theorem dX5_seek_45 : decode cX5_seek 45 = .ok (.aload_n 1, 1) := by decide +kernel
theorem dX5_seek_46 : decode cX5_seek 46 = .ok (.getfield 28, 3) := by decide +kernel
theorem dX5_seek_49 : decode cX5_seek 49 = .ok (.iconst 0, 1) := by decide +kernel
theorem dX5_seek_50 : decode cX5_seek 50 = .ok (.iaload, 1) := by decide +kernel
theorem dX5_seek_51 : decode cX5_seek 51 = .ok (.imul, 1) := by decide +kernel
theorem dX5_seek_52 : decode cX5_seek 52 = .ok (.isub, 1) := by decide +kernel
theorem dX5_seek_53 : decode cX5_seek 53 = .ok (.iload 4, 2) := by decide +kernel
theorem dX5_seek_55 : decode cX5_seek 55 = .ok (.aload_n 1, 1) := by decide +kernel
theorem dX5_seek_56 : decode cX5_seek 56 = .ok (.getfield 28, 3) := by decide +kernel
theorem dX5_seek_59 : decode cX5_seek 59 = .ok (.iconst 1, 1) := by decide +kernel
theorem dX5_seek_60 : decode cX5_seek 60 = .ok (.iaload, 1) := by decide +kernel
theorem dX5_seek_61 : decode cX5_seek 61 = .ok (.imul, 1) := by decide +kernel
theorem dX5_seek_62 : decode cX5_seek 62 = .ok (.isub, 1) := by decide +kernel
theorem dX5_seek_63 : decode cX5_seek 63 = .ok (.istore 5, 2) := by decide +kernel
theorem dX5_seek_65 : decode cX5_seek 65 = .ok (.iload 5, 2) := by decide +kernel
theorem dX5_seek_67 : decode cX5_seek 67 = .ok (.aload_n 1, 1) := by decide +kernel
theorem dX5_seek_68 : decode cX5_seek 68 = .ok (.getfield 28, 3) := by decide +kernel
theorem dX5_seek_71 : decode cX5_seek 71 = .ok (.iconst 2, 1) := by decide +kernel
theorem dX5_seek_72 : decode cX5_seek 72 = .ok (.iaload, 1) := by decide +kernel
theorem dX5_seek_73 : decode cX5_seek 73 = .ok (.invokestatic 31, 3) := by decide +kernel
theorem dX5_seek_76 : decode cX5_seek 76 = .ok (.istore 6, 2) := by decide +kernel
theorem dX5_seek_78 : decode cX5_seek 78 = .ok (.iload 6, 2) := by decide +kernel
theorem dX5_seek_80 : decode cX5_seek 80 = .ok (.aload_n 1, 1) := by decide +kernel
theorem dX5_seek_81 : decode cX5_seek 81 = .ok (.iload_n 2, 1) := by decide +kernel
theorem dX5_seek_82 : decode cX5_seek 82 = .ok (.iconst 2, 1) := by decide +kernel
theorem dX5_seek_83 : decode cX5_seek 83 = .ok (.invokevirtual 18, 3) := by decide +kernel
theorem dX5_seek_86 : decode cX5_seek 86 = .ok (.if_icmp .gt 12, 3) := by decide +kernel
theorem dX5_seek_89 : decode cX5_seek 89 = .ok (.aload_n 0, 1) := by decide +kernel
theorem dX5_seek_90 : decode cX5_seek 90 = .ok (.iload_n 3, 1) := by decide +kernel
theorem dX5_seek_91 : decode cX5_seek 91 = .ok (.iload 4, 2) := by decide +kernel
theorem dX5_seek_93 : decode cX5_seek 93 = .ok (.iload 6, 2) := by decide +kernel
theorem dX5_seek_95 : decode cX5_seek 95 = .ok (.invokevirtual 34, 3) := by decide +kernel
theorem dX5_seek_98 : decode cX5_seek 98 = .ok (.iinc 4 1, 3) := by decide +kernel
theorem dX5_seek_101 : decode cX5_seek 101 = .ok (.goto (-74), 3) := by decide +kernel
theorem dX5_seek_104 : decode cX5_seek 104 = .ok (.iinc 3 1, 3) := by decide +kernel
theorem dX5_seek_107 : decode cX5_seek 107 = .ok (.goto (-93), 3) := by decide +kernel
theorem dX5_seek_110 : decode cX5_seek 110 = .ok (.return_, 1) := by decide +kernel
theorem dX5_sheetsFor_0 : decode cX5_sheetsFor 0 = .ok (.iload_n 0, 1) := by decide +kernel
theorem dX5_sheetsFor_1 : decode cX5_sheetsFor 1 = .ok (.ifCond .gt 5, 3) := by decide +kernel
theorem dX5_sheetsFor_4 : decode cX5_sheetsFor 4 = .ok (.iconst 0, 1) := by decide +kernel
theorem dX5_sheetsFor_5 : decode cX5_sheetsFor 5 = .ok (.ireturn, 1) := by decide +kernel
theorem dX5_sheetsFor_6 : decode cX5_sheetsFor 6 = .ok (.iload_n 1, 1) := by decide +kernel
theorem dX5_sheetsFor_7 : decode cX5_sheetsFor 7 = .ok (.ifCond .gt 8, 3) := by decide +kernel
theorem dX5_sheetsFor_10 : decode cX5_sheetsFor 10 = .ok (.bipush 10, 2) := by decide +kernel
theorem dX5_sheetsFor_12 : decode cX5_sheetsFor 12 = .ok (.goto 10, 3) := by decide +kernel
theorem dX5_sheetsFor_15 : decode cX5_sheetsFor 15 = .ok (.iload_n 0, 1) := by decide +kernel
theorem dX5_sheetsFor_16 : decode cX5_sheetsFor 16 = .ok (.iload_n 1, 1) := by decide +kernel
theorem dX5_sheetsFor_17 : decode cX5_sheetsFor 17 = .ok (.iadd, 1) := by decide +kernel
theorem dX5_sheetsFor_18 : decode cX5_sheetsFor 18 = .ok (.iconst 1, 1) := by decide +kernel
theorem dX5_sheetsFor_19 : decode cX5_sheetsFor 19 = .ok (.isub, 1) := by decide +kernel
theorem dX5_sheetsFor_20 : decode cX5_sheetsFor 20 = .ok (.iload_n 1, 1) := by decide +kernel
theorem dX5_sheetsFor_21 : decode cX5_sheetsFor 21 = .ok (.idiv, 1) := by decide +kernel
theorem dX5_sheetsFor_22 : decode cX5_sheetsFor 22 = .ok (.ireturn, 1) := by decide +kernel
set_option maxRecDepth 20000 in
theorem ggX5_consider_X11_code : GoodIn wsX5_consider wsX11_code := goodIn_r _ [5] (by decide +kernel) (by decide +kernel)
set_option maxRecDepth 20000 in
theorem gX5_consider_X11_code_n38 : GoodIn wsX5_consider (wsX11_code) := ggX5_consider_X11_code
theorem dX5_consider_0 : decode cX5_consider 0 = .ok (.iload_n 1, 1) := by decide +kernel
theorem dX5_consider_1 : decode cX5_consider 1 = .ok (.iload_n 2, 1) := by decide +kernel
theorem dX5_consider_2 : decode cX5_consider 2 = .ok (.iadd, 1) := by decide +kernel
theorem dX5_consider_3 : decode cX5_consider 3 = .ok (.iload_n 3, 1) := by decide +kernel
theorem dX5_consider_4 : decode cX5_consider 4 = .ok (.iadd, 1) := by decide +kernel
theorem dX5_consider_5 : decode cX5_consider 5 = .ok (.istore 4, 2) := by decide +kernel
theorem dX5_consider_7 : decode cX5_consider 7 = .ok (.aload_n 0, 1) := by decide +kernel
theorem dX5_consider_8 : decode cX5_consider 8 = .ok (.getfield 9, 3) := by decide +kernel
theorem dX5_consider_11 : decode cX5_consider 11 = .ok (.bipush (-6), 2) := by decide +kernel
theorem dX5_consider_13 : decode cX5_consider 13 = .ok (.if_icmp .eq 12, 3) := by decide +kernel
theorem dX5_consider_16 : decode cX5_consider 16 = .ok (.iload 4, 2) := by decide +kernel
theorem dX5_consider_18 : decode cX5_consider 18 = .ok (.aload_n 0, 1) := by decide +kernel
theorem dX5_consider_19 : decode cX5_consider 19 = .ok (.getfield 9, 3) := by decide +kernel
theorem dX5_consider_22 : decode cX5_consider 22 = .ok (.if_icmp .ge 19, 3) := by decide +kernel
theorem dX5_consider_25 : decode cX5_consider 25 = .ok (.aload_n 0, 1) := by decide +kernel
theorem dX5_consider_26 : decode cX5_consider 26 = .ok (.iload 4, 2) := by decide +kernel
theorem dX5_consider_28 : decode cX5_consider 28 = .ok (.putfield 9, 3) := by decide +kernel
theorem dX5_consider_31 : decode cX5_consider 31 = .ok (.aload_n 0, 1) := by decide +kernel
theorem dX5_consider_32 : decode cX5_consider 32 = .ok (.iload_n 1, 1) := by decide +kernel
theorem dX5_consider_33 : decode cX5_consider 33 = .ok (.iload_n 2, 1) := by decide +kernel
theorem dX5_consider_34 : decode cX5_consider 34 = .ok (.iload_n 3, 1) := by decide +kernel
theorem dX5_consider_35 : decode cX5_consider 35 = .ok (.invokestatic 38, 3) := by decide +kernel
theorem dX5_consider_38 : decode cX5_consider 38 = .ok (.putfield 15, 3) := by decide +kernel
theorem dX5_consider_41 : decode cX5_consider 41 = .ok (.return_, 1) := by decide +kernel
theorem dX6_init_0 : decode cX6_init 0 = .ok (.aload_n 0, 1) := by decide +kernel
theorem dX6_init_1 : decode cX6_init 1 = .ok (.invokespecial 3, 3) := by decide +kernel
theorem dX6_init_4 : decode cX6_init 4 = .ok (.aload_n 0, 1) := by decide +kernel
theorem dX6_init_5 : decode cX6_init 5 = .ok (.bipush 64, 2) := by decide +kernel
theorem dX6_init_7 : decode cX6_init 7 = .ok (.newarray .boolean, 2) := by decide +kernel
theorem dX6_init_9 : decode cX6_init 9 = .ok (.putfield 11, 3) := by decide +kernel
theorem dX6_init_12 : decode cX6_init 12 = .ok (.return_, 1) := by decide +kernel
set_option maxRecDepth 20000 in
theorem ggX6_most_X8_atPeace : GoodIn wsX6_most wsX8_atPeace := goodIn_r _ [6, 7, 8, 9, 10, 11, 12, 34, 35, 36, 37, 38, 39, 40, 41, 42, 43] (by decide +kernel) (by decide +kernel)
set_option maxRecDepth 20000 in
theorem gX6_most_X8_atPeace : GoodIn wsX6_most (wsV RX6 15 RX8 yX8_atPeace wsX8_atPeace) := goodIn_app (goodIn_of _ (by decide +kernel)) ggX6_most_X8_atPeace
set_option maxRecDepth 20000 in
theorem ggX6_most_X6_withinReach : GoodIn wsX6_most wsX6_withinReach := goodIn_r _ [16, 17, 18, 19, 20, 21, 2, 3, 4, 5, 6, 7, 8, 9, 10, 11, 12, 34, 35, 36, 37, 38, 39, 40, 41, 42, 43] (by decide +kernel) (by decide +kernel)
set_option maxRecDepth 20000 in
theorem gX6_most_X6_withinReach : GoodIn wsX6_most (va_wsS RX6 21 yX6_withinReach wsX6_withinReach) := goodIn_app (goodIn_of _ (by decide +kernel)) ggX6_most_X6_withinReach
set_option maxRecDepth 20000 in
theorem ggX6_most_X6_addHolder : GoodIn wsX6_most wsX6_addHolder := goodIn_r _ [25, 1, 10, 11, 12, 33] (by decide +kernel) (by decide +kernel)
set_option maxRecDepth 20000 in
theorem gX6_most_X6_addHolder : GoodIn wsX6_most (wsV RX6 25 RX6 yX6_addHolder wsX6_addHolder) := goodIn_app (goodIn_of _ (by decide +kernel)) ggX6_most_X6_addHolder
set_option maxRecDepth 20000 in
theorem ggX6_most_J6_bitCount_0f7a4 : GoodIn wsX6_most wsJ6_bitCount_0f7a4 := goodIn_r _ [29, 30, 31, 32] (by decide +kernel) (by decide +kernel)
set_option maxRecDepth 20000 in
theorem gX6_most_J6_bitCount_0f7a4 : GoodIn wsX6_most (va_wsS RX6 29 yJ6_bitCount_0f7a4 wsJ6_bitCount_0f7a4) := goodIn_app (goodIn_of _ (by decide +kernel)) ggX6_most_J6_bitCount_0f7a4
theorem dX6_most_0 : decode cX6_most 0 = .ok (.iconst 0, 1) := by decide +kernel
theorem dX6_most_1 : decode cX6_most 1 = .ok (.istore_n 3, 1) := by decide +kernel
theorem dX6_most_2 : decode cX6_most 2 = .ok (.iload_n 3, 1) := by decide +kernel
theorem dX6_most_3 : decode cX6_most 3 = .ok (.bipush 64, 2) := by decide +kernel
theorem dX6_most_5 : decode cX6_most 5 = .ok (.if_icmp .ge 24, 3) := by decide +kernel
theorem dX6_most_8 : decode cX6_most 8 = .ok (.aload_n 0, 1) := by decide +kernel
theorem dX6_most_9 : decode cX6_most 9 = .ok (.getfield 11, 3) := by decide +kernel
theorem dX6_most_12 : decode cX6_most 12 = .ok (.iload_n 3, 1) := by decide +kernel
theorem dX6_most_13 : decode cX6_most 13 = .ok (.iload_n 3, 1) := by decide +kernel
theorem dX6_most_14 : decode cX6_most 14 = .ok (.ifCond .ne 7, 3) := by decide +kernel
theorem dX6_most_17 : decode cX6_most 17 = .ok (.iconst 1, 1) := by decide +kernel
theorem dX6_most_18 : decode cX6_most 18 = .ok (.goto 4, 3) := by decide +kernel
theorem dX6_most_21 : decode cX6_most 21 = .ok (.iconst 0, 1) := by decide +kernel
theorem dX6_most_22 : decode cX6_most 22 = .ok (.bastore, 1) := by decide +kernel
theorem dX6_most_23 : decode cX6_most 23 = .ok (.iinc 3 1, 3) := by decide +kernel
theorem dX6_most_26 : decode cX6_most 26 = .ok (.goto (-24), 3) := by decide +kernel
theorem dX6_most_29 : decode cX6_most 29 = .ok (.iconst 0, 1) := by decide +kernel
theorem dX6_most_30 : decode cX6_most 30 = .ok (.istore_n 3, 1) := by decide +kernel
theorem dX6_most_31 : decode cX6_most 31 = .ok (.iload_n 3, 1) := by decide +kernel
theorem dX6_most_32 : decode cX6_most 32 = .ok (.bipush 6, 2) := by decide +kernel
theorem dX6_most_34 : decode cX6_most 34 = .ok (.if_icmp .ge 27, 3) := by decide +kernel
theorem dX6_most_37 : decode cX6_most 37 = .ok (.aload_n 1, 1) := by decide +kernel
theorem dX6_most_38 : decode cX6_most 38 = .ok (.iload_n 3, 1) := by decide +kernel
theorem dX6_most_39 : decode cX6_most 39 = .ok (.invokevirtual 15, 3) := by decide +kernel
theorem dX6_most_42 : decode cX6_most 42 = .ok (.ifCond .eq 13, 3) := by decide +kernel
theorem dX6_most_45 : decode cX6_most 45 = .ok (.aload_n 0, 1) := by decide +kernel
theorem dX6_most_46 : decode cX6_most 46 = .ok (.aload_n 1, 1) := by decide +kernel
theorem dX6_most_47 : decode cX6_most 47 = .ok (.iload_n 3, 1) := by decide +kernel
theorem dX6_most_48 : decode cX6_most 48 = .ok (.iload_n 2, 1) := by decide +kernel
theorem dX6_most_49 : decode cX6_most 49 = .ok (.invokestatic 21, 3) := by decide +kernel
theorem dX6_most_52 : decode cX6_most 52 = .ok (.invokevirtual 25, 3) := by decide +kernel
theorem dX6_most_55 : decode cX6_most 55 = .ok (.iinc 3 1, 3) := by decide +kernel
theorem dX6_most_58 : decode cX6_most 58 = .ok (.goto (-27), 3) := by decide +kernel
theorem dX6_most_61 : decode cX6_most 61 = .ok (.iconst 0, 1) := by decide +kernel
theorem dX6_most_62 : decode cX6_most 62 = .ok (.istore_n 3, 1) := by decide +kernel
theorem dX6_most_63 : decode cX6_most 63 = .ok (.iconst 0, 1) := by decide +kernel
theorem dX6_most_64 : decode cX6_most 64 = .ok (.istore 4, 2) := by decide +kernel
theorem dX6_most_66 : decode cX6_most 66 = .ok (.iload 4, 2) := by decide +kernel
theorem dX6_most_68 : decode cX6_most 68 = .ok (.bipush 64, 2) := by decide +kernel
theorem dX6_most_70 : decode cX6_most 70 = .ok (.if_icmp .ge 34, 3) := by decide +kernel
theorem dX6_most_73 : decode cX6_most 73 = .ok (.aload_n 0, 1) := by decide +kernel
theorem dX6_most_74 : decode cX6_most 74 = .ok (.getfield 11, 3) := by decide +kernel
theorem dX6_most_77 : decode cX6_most 77 = .ok (.iload 4, 2) := by decide +kernel
theorem dX6_most_79 : decode cX6_most 79 = .ok (.baload, 1) := by decide +kernel
theorem dX6_most_80 : decode cX6_most 80 = .ok (.ifCond .eq 18, 3) := by decide +kernel
theorem dX6_most_83 : decode cX6_most 83 = .ok (.iload 4, 2) := by decide +kernel
theorem dX6_most_85 : decode cX6_most 85 = .ok (.invokestatic 29, 3) := by decide +kernel
theorem dX6_most_88 : decode cX6_most 88 = .ok (.iload_n 3, 1) := by decide +kernel
theorem dX6_most_89 : decode cX6_most 89 = .ok (.invokestatic 29, 3) := by decide +kernel
theorem dX6_most_92 : decode cX6_most 92 = .ok (.if_icmp .le 6, 3) := by decide +kernel
theorem dX6_most_95 : decode cX6_most 95 = .ok (.iload 4, 2) := by decide +kernel
theorem dX6_most_97 : decode cX6_most 97 = .ok (.istore_n 3, 1) := by decide +kernel
theorem dX6_most_98 : decode cX6_most 98 = .ok (.iinc 4 1, 3) := by decide +kernel
theorem dX6_most_101 : decode cX6_most 101 = .ok (.goto (-35), 3) := by decide +kernel
theorem dX6_most_104 : decode cX6_most 104 = .ok (.iload_n 3, 1) := by decide +kernel
theorem dX6_most_105 : decode cX6_most 105 = .ok (.ireturn, 1) := by decide +kernel
set_option maxRecDepth 20000 in
theorem ggX6_withinReach_X8_atPeace : GoodIn wsX6_withinReach wsX8_atPeace := goodIn_r _ [10, 11, 12, 13, 14, 15, 16, 17, 18, 19, 20, 21, 22, 23, 24, 25, 26] (by decide +kernel) (by decide +kernel)
set_option maxRecDepth 20000 in
theorem gX6_withinReach_X8_atPeace : GoodIn wsX6_withinReach (wsV RX6 15 RX8 yX8_atPeace wsX8_atPeace) := goodIn_app (goodIn_of _ (by decide +kernel)) ggX6_withinReach_X8_atPeace
theorem dX6_withinReach_0 : decode cX6_withinReach 0 = .ok (.iconst 0, 1) := by decide +kernel
theorem dX6_withinReach_1 : decode cX6_withinReach 1 = .ok (.istore_n 3, 1) := by decide +kernel
theorem dX6_withinReach_2 : decode cX6_withinReach 2 = .ok (.iconst 0, 1) := by decide +kernel
theorem dX6_withinReach_3 : decode cX6_withinReach 3 = .ok (.istore 4, 2) := by decide +kernel
theorem dX6_withinReach_5 : decode cX6_withinReach 5 = .ok (.iload 4, 2) := by decide +kernel
theorem dX6_withinReach_7 : decode cX6_withinReach 7 = .ok (.bipush 6, 2) := by decide +kernel
theorem dX6_withinReach_9 : decode cX6_withinReach 9 = .ok (.if_icmp .ge 46, 3) := by decide +kernel
theorem dX6_withinReach_12 : decode cX6_withinReach 12 = .ok (.aload_n 0, 1) := by decide +kernel
theorem dX6_withinReach_13 : decode cX6_withinReach 13 = .ok (.iload 4, 2) := by decide +kernel
theorem dX6_withinReach_15 : decode cX6_withinReach 15 = .ok (.invokevirtual 15, 3) := by decide +kernel
theorem dX6_withinReach_18 : decode cX6_withinReach 18 = .ok (.ifCond .ne 31, 3) := by decide +kernel
theorem dX6_withinReach_21 : decode cX6_withinReach 21 = .ok (.aload_n 0, 1) := by decide +kernel
theorem dX6_withinReach_22 : decode cX6_withinReach 22 = .ok (.getfield 35, 3) := by decide +kernel
theorem dX6_withinReach_25 : decode cX6_withinReach 25 = .ok (.iload 4, 2) := by decide +kernel
theorem dX6_withinReach_27 : decode cX6_withinReach 27 = .ok (.iaload, 1) := by decide +kernel
theorem dX6_withinReach_28 : decode cX6_withinReach 28 = .ok (.aload_n 0, 1) := by decide +kernel
theorem dX6_withinReach_29 : decode cX6_withinReach 29 = .ok (.getfield 35, 3) := by decide +kernel
theorem dX6_withinReach_32 : decode cX6_withinReach 32 = .ok (.iload_n 1, 1) := by decide +kernel
theorem dX6_withinReach_33 : decode cX6_withinReach 33 = .ok (.iaload, 1) := by decide +kernel
theorem dX6_withinReach_34 : decode cX6_withinReach 34 = .ok (.isub, 1) := by decide +kernel
theorem dX6_withinReach_35 : decode cX6_withinReach 35 = .ok (.invokestatic 39, 3) := by decide +kernel
theorem dX6_withinReach_38 : decode cX6_withinReach 38 = .ok (.iload_n 2, 1) := by decide +kernel
theorem dX6_withinReach_39 : decode cX6_withinReach 39 = .ok (.if_icmp .gt 10, 3) := by decide +kernel
theorem dX6_withinReach_42 : decode cX6_withinReach 42 = .ok (.iload_n 3, 1) := by decide +kernel
theorem dX6_withinReach_43 : decode cX6_withinReach 43 = .ok (.iconst 1, 1) := by decide +kernel
theorem dX6_withinReach_44 : decode cX6_withinReach 44 = .ok (.iload 4, 2) := by decide +kernel
theorem dX6_withinReach_46 : decode cX6_withinReach 46 = .ok (.ishl, 1) := by decide +kernel
theorem dX6_withinReach_47 : decode cX6_withinReach 47 = .ok (.ior, 1) := by decide +kernel
theorem dX6_withinReach_48 : decode cX6_withinReach 48 = .ok (.istore_n 3, 1) := by decide +kernel
theorem dX6_withinReach_49 : decode cX6_withinReach 49 = .ok (.iinc 4 1, 3) := by decide +kernel
theorem dX6_withinReach_52 : decode cX6_withinReach 52 = .ok (.goto (-47), 3) := by decide +kernel
theorem dX6_withinReach_55 : decode cX6_withinReach 55 = .ok (.iload_n 3, 1) := by decide +kernel
theorem dX6_withinReach_56 : decode cX6_withinReach 56 = .ok (.ireturn, 1) := by decide +kernel
set_option maxRecDepth 20000 in
theorem ggX6_addHolder_X11_has : GoodIn wsX6_addHolder wsX11_has := goodIn_r _ [4] (by decide +kernel) (by decide +kernel)
set_option maxRecDepth 20000 in
theorem gX6_addHolder_X11_has_n44 : GoodIn wsX6_addHolder (wsX11_has) := ggX6_addHolder_X11_has
theorem dX6_addHolder_0 : decode cX6_addHolder 0 = .ok (.bipush 63, 2) := by decide +kernel
theorem dX6_addHolder_2 : decode cX6_addHolder 2 = .ok (.istore_n 2, 1) := by decide +kernel
theorem dX6_addHolder_3 : decode cX6_addHolder 3 = .ok (.iload_n 2, 1) := by decide +kernel
theorem dX6_addHolder_4 : decode cX6_addHolder 4 = .ok (.ifCond .lt 51, 3) := by decide +kernel
theorem dX6_addHolder_7 : decode cX6_addHolder 7 = .ok (.iconst 0, 1) := by decide +kernel
theorem dX6_addHolder_8 : decode cX6_addHolder 8 = .ok (.istore_n 3, 1) := by decide +kernel
theorem dX6_addHolder_9 : decode cX6_addHolder 9 = .ok (.iload_n 3, 1) := by decide +kernel
theorem dX6_addHolder_10 : decode cX6_addHolder 10 = .ok (.bipush 6, 2) := by decide +kernel
theorem dX6_addHolder_12 : decode cX6_addHolder 12 = .ok (.if_icmp .ge 37, 3) := by decide +kernel
theorem dX6_addHolder_15 : decode cX6_addHolder 15 = .ok (.aload_n 0, 1) := by decide +kernel
theorem dX6_addHolder_16 : decode cX6_addHolder 16 = .ok (.getfield 11, 3) := by decide +kernel
theorem dX6_addHolder_19 : decode cX6_addHolder 19 = .ok (.iload_n 2, 1) := by decide +kernel
theorem dX6_addHolder_20 : decode cX6_addHolder 20 = .ok (.baload, 1) := by decide +kernel
theorem dX6_addHolder_21 : decode cX6_addHolder 21 = .ok (.ifCond .eq 28, 3) := by decide +kernel
theorem dX6_addHolder_24 : decode cX6_addHolder 24 = .ok (.iload_n 1, 1) := by decide +kernel
theorem dX6_addHolder_25 : decode cX6_addHolder 25 = .ok (.iload_n 3, 1) := by decide +kernel
theorem dX6_addHolder_26 : decode cX6_addHolder 26 = .ok (.invokestatic 44, 3) := by decide +kernel
theorem dX6_addHolder_29 : decode cX6_addHolder 29 = .ok (.ifCond .eq 14, 3) := by decide +kernel
theorem dX6_addHolder_32 : decode cX6_addHolder 32 = .ok (.aload_n 0, 1) := by decide +kernel
theorem dX6_addHolder_33 : decode cX6_addHolder 33 = .ok (.getfield 11, 3) := by decide +kernel
theorem dX6_addHolder_36 : decode cX6_addHolder 36 = .ok (.iload_n 2, 1) := by decide +kernel
theorem dX6_addHolder_37 : decode cX6_addHolder 37 = .ok (.iconst 1, 1) := by decide +kernel
theorem dX6_addHolder_38 : decode cX6_addHolder 38 = .ok (.iload_n 3, 1) := by decide +kernel
theorem dX6_addHolder_39 : decode cX6_addHolder 39 = .ok (.ishl, 1) := by decide +kernel
theorem dX6_addHolder_40 : decode cX6_addHolder 40 = .ok (.ior, 1) := by decide +kernel
theorem dX6_addHolder_41 : decode cX6_addHolder 41 = .ok (.iconst 1, 1) := by decide +kernel
theorem dX6_addHolder_42 : decode cX6_addHolder 42 = .ok (.bastore, 1) := by decide +kernel
theorem dX6_addHolder_43 : decode cX6_addHolder 43 = .ok (.iinc 3 1, 3) := by decide +kernel
theorem dX6_addHolder_46 : decode cX6_addHolder 46 = .ok (.goto (-37), 3) := by decide +kernel
theorem dX6_addHolder_49 : decode cX6_addHolder 49 = .ok (.iinc 2 (-1), 3) := by decide +kernel
theorem dX6_addHolder_52 : decode cX6_addHolder 52 = .ok (.goto (-49), 3) := by decide +kernel
theorem dX6_addHolder_55 : decode cX6_addHolder 55 = .ok (.return_, 1) := by decide +kernel
theorem dX7_init_0 : decode cX7_init 0 = .ok (.aload_n 0, 1) := by decide +kernel
theorem dX7_init_1 : decode cX7_init 1 = .ok (.invokespecial 3, 3) := by decide +kernel
theorem dX7_init_4 : decode cX7_init 4 = .ok (.aload_n 0, 1) := by decide +kernel
theorem dX7_init_5 : decode cX7_init 5 = .ok (.bipush 10, 2) := by decide +kernel
theorem dX7_init_7 : decode cX7_init 7 = .ok (.newarray .int, 2) := by decide +kernel
theorem dX7_init_9 : decode cX7_init 9 = .ok (.putfield 9, 3) := by decide +kernel
theorem dX7_init_12 : decode cX7_init 12 = .ok (.aload_n 0, 1) := by decide +kernel
theorem dX7_init_13 : decode cX7_init 13 = .ok (.iconst 0, 1) := by decide +kernel
theorem dX7_init_14 : decode cX7_init 14 = .ok (.putfield 15, 3) := by decide +kernel
theorem dX7_init_17 : decode cX7_init 17 = .ok (.aload_n 0, 1) := by decide +kernel
theorem dX7_init_18 : decode cX7_init 18 = .ok (.ldc2_w 19, 3) := by decide +kernel
theorem dX7_init_21 : decode cX7_init 21 = .ok (.putfield 21, 3) := by decide +kernel
theorem dX7_init_24 : decode cX7_init 24 = .ok (.return_, 1) := by decide +kernel
theorem dX7_clear_0 : decode cX7_clear 0 = .ok (.aload_n 0, 1) := by decide +kernel
theorem dX7_clear_1 : decode cX7_clear 1 = .ok (.iconst 0, 1) := by decide +kernel
theorem dX7_clear_2 : decode cX7_clear 2 = .ok (.putfield 15, 3) := by decide +kernel
theorem dX7_clear_5 : decode cX7_clear 5 = .ok (.aload_n 0, 1) := by decide +kernel
theorem dX7_clear_6 : decode cX7_clear 6 = .ok (.ldc2_w 19, 3) := by decide +kernel
theorem dX7_clear_9 : decode cX7_clear 9 = .ok (.putfield 21, 3) := by decide +kernel
theorem dX7_clear_12 : decode cX7_clear 12 = .ok (.return_, 1) := by decide +kernel
theorem dX7_become_0 : decode cX7_become 0 = .ok (.aload_n 0, 1) := by decide +kernel
theorem dX7_become_1 : decode cX7_become 1 = .ok (.aload_n 1, 1) := by decide +kernel
theorem dX7_become_2 : decode cX7_become 2 = .ok (.getfield 15, 3) := by decide +kernel
theorem dX7_become_5 : decode cX7_become 5 = .ok (.putfield 15, 3) := by decide +kernel
theorem dX7_become_8 : decode cX7_become 8 = .ok (.aload_n 0, 1) := by decide +kernel
theorem dX7_become_9 : decode cX7_become 9 = .ok (.aload_n 1, 1) := by decide +kernel
theorem dX7_become_10 : decode cX7_become 10 = .ok (.getfield 21, 3) := by decide +kernel
theorem dX7_become_13 : decode cX7_become 13 = .ok (.putfield 21, 3) := by decide +kernel
theorem dX7_become_16 : decode cX7_become 16 = .ok (.return_, 1) := by decide +kernel
theorem dX7_fits_0 : decode cX7_fits 0 = .ok (.aload_n 0, 1) := by decide +kernel
theorem dX7_fits_1 : decode cX7_fits 1 = .ok (.getfield 21, 3) := by decide +kernel
theorem dX7_fits_4 : decode cX7_fits 4 = .ok (.iload_n 1, 1) := by decide +kernel
theorem dX7_fits_5 : decode cX7_fits 5 = .ok (.lshr, 1) := by decide +kernel
theorem dX7_fits_6 : decode cX7_fits 6 = .ok (.lconst 1, 1) := by decide +kernel
theorem dX7_fits_7 : decode cX7_fits 7 = .ok (.land, 1) := by decide +kernel
theorem dX7_fits_8 : decode cX7_fits 8 = .ok (.lconst 0, 1) := by decide +kernel
theorem dX7_fits_9 : decode cX7_fits 9 = .ok (.lcmp, 1) := by decide +kernel
theorem dX7_fits_10 : decode cX7_fits 10 = .ok (.ifCond .eq 7, 3) := by decide +kernel
theorem dX7_fits_13 : decode cX7_fits 13 = .ok (.iconst 1, 1) := by decide +kernel
theorem dX7_fits_14 : decode cX7_fits 14 = .ok (.goto 4, 3) := by decide +kernel
theorem dX7_fits_17 : decode cX7_fits 17 = .ok (.iconst 0, 1) := by decide +kernel
theorem dX7_fits_18 : decode cX7_fits 18 = .ok (.ireturn, 1) := by decide +kernel
theorem dX7_worth_0 : decode cX7_worth 0 = .ok (.iload_n 0, 1) := by decide +kernel
theorem dX7_worth_1 : decode cX7_worth 1 = .ok (.iconst 4, 1) := by decide +kernel
theorem dX7_worth_2 : decode cX7_worth 2 = .ok (.ishr, 1) := by decide +kernel
theorem dX7_worth_3 : decode cX7_worth 3 = .ok (.iload_n 1, 1) := by decide +kernel
theorem dX7_worth_4 : decode cX7_worth 4 = .ok (.imul, 1) := by decide +kernel
theorem dX7_worth_5 : decode cX7_worth 5 = .ok (.iload_n 0, 1) := by decide +kernel
theorem dX7_worth_6 : decode cX7_worth 6 = .ok (.iconst 2, 1) := by decide +kernel
theorem dX7_worth_7 : decode cX7_worth 7 = .ok (.ishr, 1) := by decide +kernel
theorem dX7_worth_8 : decode cX7_worth 8 = .ok (.iconst 3, 1) := by decide +kernel
theorem dX7_worth_9 : decode cX7_worth 9 = .ok (.iand, 1) := by decide +kernel
theorem dX7_worth_10 : decode cX7_worth 10 = .ok (.iload_n 2, 1) := by decide +kernel
theorem dX7_worth_11 : decode cX7_worth 11 = .ok (.imul, 1) := by decide +kernel
theorem dX7_worth_12 : decode cX7_worth 12 = .ok (.iadd, 1) := by decide +kernel
theorem dX7_worth_13 : decode cX7_worth 13 = .ok (.iload_n 0, 1) := by decide +kernel
theorem dX7_worth_14 : decode cX7_worth 14 = .ok (.iconst 3, 1) := by decide +kernel
theorem dX7_worth_15 : decode cX7_worth 15 = .ok (.iand, 1) := by decide +kernel
theorem dX7_worth_16 : decode cX7_worth 16 = .ok (.iload_n 3, 1) := by decide +kernel
theorem dX7_worth_17 : decode cX7_worth 17 = .ok (.imul, 1) := by decide +kernel
theorem dX7_worth_18 : decode cX7_worth 18 = .ok (.iadd, 1) := by decide +kernel
theorem dX7_worth_19 : decode cX7_worth 19 = .ok (.ireturn, 1) := by decide +kernel
set_option maxRecDepth 20000 in
theorem ggX7_add_X7_worth : GoodIn wsX7_add wsX7_worth := goodIn_r _ [7] (by decide +kernel) (by decide +kernel)
set_option maxRecDepth 20000 in
theorem gX7_add_X7_worth : GoodIn wsX7_add (va_wsS RX7 25 yX7_worth wsX7_worth) := goodIn_app (goodIn_of _ (by decide +kernel)) ggX7_add_X7_worth
theorem dX7_add_0 : decode cX7_add 0 = .ok (.iconst 0, 1) := by decide +kernel
theorem dX7_add_1 : decode cX7_add 1 = .ok (.istore 6, 2) := by decide +kernel
theorem dX7_add_3 : decode cX7_add 3 = .ok (.iload 6, 2) := by decide +kernel
theorem dX7_add_5 : decode cX7_add 5 = .ok (.bipush 64, 2) := by decide +kernel
theorem dX7_add_7 : decode cX7_add 7 = .ok (.if_icmp .ge 49, 3) := by decide +kernel
theorem dX7_add_10 : decode cX7_add 10 = .ok (.iload 6, 2) := by decide +kernel
theorem dX7_add_12 : decode cX7_add 12 = .ok (.iload_n 2, 1) := by decide +kernel
theorem dX7_add_13 : decode cX7_add 13 = .ok (.iload_n 3, 1) := by decide +kernel
theorem dX7_add_14 : decode cX7_add 14 = .ok (.iload 4, 2) := by decide +kernel
theorem dX7_add_16 : decode cX7_add 16 = .ok (.invokestatic 25, 3) := by decide +kernel
theorem dX7_add_19 : decode cX7_add 19 = .ok (.iload_n 1, 1) := by decide +kernel
theorem dX7_add_20 : decode cX7_add 20 = .ok (.if_icmp .lt 7, 3) := by decide +kernel
theorem dX7_add_23 : decode cX7_add 23 = .ok (.iconst 1, 1) := by decide +kernel
theorem dX7_add_24 : decode cX7_add 24 = .ok (.goto 4, 3) := by decide +kernel
theorem dX7_add_27 : decode cX7_add 27 = .ok (.iconst 0, 1) := by decide +kernel
theorem dX7_add_28 : decode cX7_add 28 = .ok (.iload 5, 2) := by decide +kernel
theorem dX7_add_30 : decode cX7_add 30 = .ok (.if_icmp .eq 20, 3) := by decide +kernel
theorem dX7_add_33 : decode cX7_add 33 = .ok (.aload_n 0, 1) := by decide +kernel
theorem dX7_add_34 : decode cX7_add 34 = .ok (.dup, 1) := by decide +kernel
theorem dX7_add_35 : decode cX7_add 35 = .ok (.getfield 21, 3) := by decide +kernel
theorem dX7_add_38 : decode cX7_add 38 = .ok (.lconst 1, 1) := by decide +kernel
theorem dX7_add_39 : decode cX7_add 39 = .ok (.iload 6, 2) := by decide +kernel
theorem dX7_add_41 : decode cX7_add 41 = .ok (.lshl, 1) := by decide +kernel
theorem dX7_add_42 : decode cX7_add 42 = .ok (.ldc2_w 19, 3) := by decide +kernel
theorem dX7_add_45 : decode cX7_add 45 = .ok (.lxor, 1) := by decide +kernel
theorem dX7_add_46 : decode cX7_add 46 = .ok (.land, 1) := by decide +kernel
theorem dX7_add_47 : decode cX7_add 47 = .ok (.putfield 21, 3) := by decide +kernel
theorem dX7_add_50 : decode cX7_add 50 = .ok (.iinc 6 1, 3) := by decide +kernel
theorem dX7_add_53 : decode cX7_add 53 = .ok (.goto (-50), 3) := by decide +kernel
theorem dX7_add_56 : decode cX7_add 56 = .ok (.aload_n 0, 1) := by decide +kernel
theorem dX7_add_57 : decode cX7_add 57 = .ok (.dup, 1) := by decide +kernel
theorem dX7_add_58 : decode cX7_add 58 = .ok (.getfield 15, 3) := by decide +kernel
theorem dX7_add_61 : decode cX7_add 61 = .ok (.iconst 1, 1) := by decide +kernel
theorem dX7_add_62 : decode cX7_add 62 = .ok (.iadd, 1) := by decide +kernel
theorem dX7_add_63 : decode cX7_add 63 = .ok (.putfield 15, 3) := by decide +kernel
theorem dX7_add_66 : decode cX7_add 66 = .ok (.return_, 1) := by decide +kernel
set_option maxRecDepth 20000 in
theorem ggX7_fittingAt_X7_fits : GoodIn wsX7_fittingAt wsX7_fits := goodIn_r _ [5, 6, 10, 11, 12, 13, 14] (by decide +kernel) (by decide +kernel)
set_option maxRecDepth 20000 in
theorem gX7_fittingAt_X7_fits : GoodIn wsX7_fittingAt (wsV RX7 29 RX7 yX7_fits wsX7_fits) := goodIn_app (goodIn_of _ (by decide +kernel)) ggX7_fittingAt_X7_fits
set_option maxRecDepth 20000 in
theorem ggX7_fittingAt_X11_code : GoodIn wsX7_fittingAt wsX11_code := goodIn_r _ [9] (by decide +kernel) (by decide +kernel)
set_option maxRecDepth 20000 in
theorem gX7_fittingAt_X11_code_n33 : GoodIn wsX7_fittingAt (wsX11_code) := ggX7_fittingAt_X11_code
theorem dX7_fittingAt_0 : decode cX7_fittingAt 0 = .ok (.iconst 0, 1) := by decide +kernel
theorem dX7_fittingAt_1 : decode cX7_fittingAt 1 = .ok (.istore_n 2, 1) := by decide +kernel
theorem dX7_fittingAt_2 : decode cX7_fittingAt 2 = .ok (.iconst 0, 1) := by decide +kernel
theorem dX7_fittingAt_3 : decode cX7_fittingAt 3 = .ok (.istore_n 3, 1) := by decide +kernel
theorem dX7_fittingAt_4 : decode cX7_fittingAt 4 = .ok (.iload_n 3, 1) := by decide +kernel
theorem dX7_fittingAt_5 : decode cX7_fittingAt 5 = .ok (.bipush 64, 2) := by decide +kernel
theorem dX7_fittingAt_7 : decode cX7_fittingAt 7 = .ok (.if_icmp .ge 40, 3) := by decide +kernel
theorem dX7_fittingAt_10 : decode cX7_fittingAt 10 = .ok (.aload_n 0, 1) := by decide +kernel
theorem dX7_fittingAt_11 : decode cX7_fittingAt 11 = .ok (.iload_n 3, 1) := by decide +kernel
theorem dX7_fittingAt_12 : decode cX7_fittingAt 12 = .ok (.invokevirtual 29, 3) := by decide +kernel
theorem dX7_fittingAt_15 : decode cX7_fittingAt 15 = .ok (.ifCond .eq 26, 3) := by decide +kernel
theorem dX7_fittingAt_18 : decode cX7_fittingAt 18 = .ok (.iload_n 2, 1) := by decide +kernel
theorem dX7_fittingAt_19 : decode cX7_fittingAt 19 = .ok (.iload_n 1, 1) := by decide +kernel
theorem dX7_fittingAt_20 : decode cX7_fittingAt 20 = .ok (.if_icmp .ne 18, 3) := by decide +kernel
theorem dX7_fittingAt_23 : decode cX7_fittingAt 23 = .ok (.iload_n 3, 1) := by decide +kernel
theorem dX7_fittingAt_24 : decode cX7_fittingAt 24 = .ok (.iconst 4, 1) := by decide +kernel
theorem dX7_fittingAt_25 : decode cX7_fittingAt 25 = .ok (.ishr, 1) := by decide +kernel
theorem dX7_fittingAt_26 : decode cX7_fittingAt 26 = .ok (.iload_n 3, 1) := by decide +kernel
theorem dX7_fittingAt_27 : decode cX7_fittingAt 27 = .ok (.iconst 2, 1) := by decide +kernel
theorem dX7_fittingAt_28 : decode cX7_fittingAt 28 = .ok (.ishr, 1) := by decide +kernel
theorem dX7_fittingAt_29 : decode cX7_fittingAt 29 = .ok (.iconst 3, 1) := by decide +kernel
theorem dX7_fittingAt_30 : decode cX7_fittingAt 30 = .ok (.iand, 1) := by decide +kernel
theorem dX7_fittingAt_31 : decode cX7_fittingAt 31 = .ok (.iload_n 3, 1) := by decide +kernel
theorem dX7_fittingAt_32 : decode cX7_fittingAt 32 = .ok (.iconst 3, 1) := by decide +kernel
theorem dX7_fittingAt_33 : decode cX7_fittingAt 33 = .ok (.iand, 1) := by decide +kernel
theorem dX7_fittingAt_34 : decode cX7_fittingAt 34 = .ok (.invokestatic 33, 3) := by decide +kernel
theorem dX7_fittingAt_37 : decode cX7_fittingAt 37 = .ok (.ireturn, 1) := by decide +kernel
theorem dX7_fittingAt_38 : decode cX7_fittingAt 38 = .ok (.iinc 2 1, 3) := by decide +kernel
theorem dX7_fittingAt_41 : decode cX7_fittingAt 41 = .ok (.iinc 3 1, 3) := by decide +kernel
theorem dX7_fittingAt_44 : decode cX7_fittingAt 44 = .ok (.goto (-40), 3) := by decide +kernel
theorem dX7_fittingAt_47 : decode cX7_fittingAt 47 = .ok (.bipush (-6), 2) := by decide +kernel
theorem dX7_fittingAt_49 : decode cX7_fittingAt 49 = .ok (.ireturn, 1) := by decide +kernel
set_option maxRecDepth 20000 in
theorem ggX7_seekTrial_X7_tallyWorths : GoodIn wsX7_seekTrial wsX7_tallyWorths := goodIn_r _ [7, 8, 9, 10, 11, 12, 13, 14, 15, 6, 16, 17, 18, 19, 20, 38, 39, 40, 41, 42] (by decide +kernel) (by decide +kernel)
set_option maxRecDepth 20000 in
theorem gX7_seekTrial_X7_tallyWorths : GoodIn wsX7_seekTrial (wsV RX7 43 RX7 yX7_tallyWorths wsX7_tallyWorths) := goodIn_app (goodIn_of _ (by decide +kernel)) ggX7_seekTrial_X7_tallyWorths
set_option maxRecDepth 20000 in
theorem ggX7_seekTrial_X11_code : GoodIn wsX7_seekTrial wsX11_code := goodIn_r _ [23] (by decide +kernel) (by decide +kernel)
set_option maxRecDepth 20000 in
theorem gX7_seekTrial_X11_code_n33 : GoodIn wsX7_seekTrial (wsX11_code) := ggX7_seekTrial_X11_code
set_option maxRecDepth 20000 in
theorem ggX7_seekTrial_X7_considerDebts : GoodIn wsX7_seekTrial wsX7_considerDebts := goodIn_r _ [27, 17, 8, 28, 29, 11, 30, 2, 1, 31, 32, 33, 34, 35, 36, 37, 38, 39, 40, 41, 42] (by decide +kernel) (by decide +kernel)
set_option maxRecDepth 20000 in
theorem gX7_seekTrial_X7_considerDebts : GoodIn wsX7_seekTrial (wsV RX7 47 RX7 yX7_considerDebts wsX7_considerDebts) := goodIn_app (goodIn_of _ (by decide +kernel)) ggX7_seekTrial_X7_considerDebts
theorem dX7_seekTrial_0 : decode cX7_seekTrial 0 = .ok (.aload_n 0, 1) := by decide +kernel
theorem dX7_seekTrial_1 : decode cX7_seekTrial 1 = .ok (.bipush (-6), 2) := by decide +kernel
theorem dX7_seekTrial_3 : decode cX7_seekTrial 3 = .ok (.putfield 37, 3) := by decide +kernel
theorem dX7_seekTrial_6 : decode cX7_seekTrial 6 = .ok (.aload_n 0, 1) := by decide +kernel
theorem dX7_seekTrial_7 : decode cX7_seekTrial 7 = .ok (.bipush 65, 2) := by decide +kernel
theorem dX7_seekTrial_9 : decode cX7_seekTrial 9 = .ok (.putfield 40, 3) := by decide +kernel
theorem dX7_seekTrial_12 : decode cX7_seekTrial 12 = .ok (.iconst 0, 1) := by decide +kernel
theorem dX7_seekTrial_13 : decode cX7_seekTrial 13 = .ok (.istore_n 1, 1) := by decide +kernel
theorem dX7_seekTrial_14 : decode cX7_seekTrial 14 = .ok (.iload_n 1, 1) := by decide +kernel
theorem dX7_seekTrial_15 : decode cX7_seekTrial 15 = .ok (.iconst 3, 1) := by decide +kernel
theorem dX7_seekTrial_16 : decode cX7_seekTrial 16 = .ok (.if_icmp .gt 52, 3) := by decide +kernel
theorem dX7_seekTrial_19 : decode cX7_seekTrial 19 = .ok (.iconst 0, 1) := by decide +kernel
theorem dX7_seekTrial_20 : decode cX7_seekTrial 20 = .ok (.istore_n 2, 1) := by decide +kernel
theorem dX7_seekTrial_21 : decode cX7_seekTrial 21 = .ok (.iload_n 2, 1) := by decide +kernel
theorem dX7_seekTrial_22 : decode cX7_seekTrial 22 = .ok (.iconst 3, 1) := by decide +kernel
theorem dX7_seekTrial_23 : decode cX7_seekTrial 23 = .ok (.if_icmp .gt 39, 3) := by decide +kernel
theorem dX7_seekTrial_26 : decode cX7_seekTrial 26 = .ok (.iconst 0, 1) := by decide +kernel
theorem dX7_seekTrial_27 : decode cX7_seekTrial 27 = .ok (.istore_n 3, 1) := by decide +kernel
theorem dX7_seekTrial_28 : decode cX7_seekTrial 28 = .ok (.iload_n 3, 1) := by decide +kernel
theorem dX7_seekTrial_29 : decode cX7_seekTrial 29 = .ok (.iconst 3, 1) := by decide +kernel
theorem dX7_seekTrial_30 : decode cX7_seekTrial 30 = .ok (.if_icmp .gt 26, 3) := by decide +kernel
theorem dX7_seekTrial_33 : decode cX7_seekTrial 33 = .ok (.aload_n 0, 1) := by decide +kernel
theorem dX7_seekTrial_34 : decode cX7_seekTrial 34 = .ok (.iload_n 1, 1) := by decide +kernel
theorem dX7_seekTrial_35 : decode cX7_seekTrial 35 = .ok (.iload_n 2, 1) := by decide +kernel
theorem dX7_seekTrial_36 : decode cX7_seekTrial 36 = .ok (.iload_n 3, 1) := by decide +kernel
theorem dX7_seekTrial_37 : decode cX7_seekTrial 37 = .ok (.invokevirtual 43, 3) := by decide +kernel
theorem dX7_seekTrial_40 : decode cX7_seekTrial 40 = .ok (.aload_n 0, 1) := by decide +kernel
theorem dX7_seekTrial_41 : decode cX7_seekTrial 41 = .ok (.iload_n 1, 1) := by decide +kernel
theorem dX7_seekTrial_42 : decode cX7_seekTrial 42 = .ok (.iload_n 2, 1) := by decide +kernel
theorem dX7_seekTrial_43 : decode cX7_seekTrial 43 = .ok (.iload_n 3, 1) := by decide +kernel
theorem dX7_seekTrial_44 : decode cX7_seekTrial 44 = .ok (.invokestatic 33, 3) := by decide +kernel
theorem dX7_seekTrial_47 : decode cX7_seekTrial 47 = .ok (.invokevirtual 47, 3) := by decide +kernel
theorem dX7_seekTrial_50 : decode cX7_seekTrial 50 = .ok (.iinc 3 1, 3) := by decide +kernel
theorem dX7_seekTrial_53 : decode cX7_seekTrial 53 = .ok (.goto (-25), 3) := by decide +kernel
theorem dX7_seekTrial_56 : decode cX7_seekTrial 56 = .ok (.iinc 2 1, 3) := by decide +kernel
theorem dX7_seekTrial_59 : decode cX7_seekTrial 59 = .ok (.goto (-38), 3) := by decide +kernel
theorem dX7_seekTrial_62 : decode cX7_seekTrial 62 = .ok (.iinc 1 1, 3) := by decide +kernel
theorem dX7_seekTrial_65 : decode cX7_seekTrial 65 = .ok (.goto (-51), 3) := by decide +kernel
theorem dX7_seekTrial_68 : decode cX7_seekTrial 68 = .ok (.return_, 1) := by decide +kernel
set_option maxRecDepth 20000 in
theorem ggX7_tallyWorths_X7_fits : GoodIn wsX7_tallyWorths wsX7_fits := goodIn_r _ [10, 11, 15, 16, 17, 18, 19] (by decide +kernel) (by decide +kernel)
set_option maxRecDepth 20000 in
theorem gX7_tallyWorths_X7_fits : GoodIn wsX7_tallyWorths (wsV RX7 29 RX7 yX7_fits wsX7_fits) := goodIn_app (goodIn_of _ (by decide +kernel)) ggX7_tallyWorths_X7_fits
set_option maxRecDepth 20000 in
theorem ggX7_tallyWorths_X7_worth : GoodIn wsX7_tallyWorths wsX7_worth := goodIn_r _ [14] (by decide +kernel) (by decide +kernel)
set_option maxRecDepth 20000 in
theorem gX7_tallyWorths_X7_worth : GoodIn wsX7_tallyWorths (va_wsS RX7 25 yX7_worth wsX7_worth) := goodIn_app (goodIn_of _ (by decide +kernel)) ggX7_tallyWorths_X7_worth
theorem dX7_tallyWorths_0 : decode cX7_tallyWorths 0 = .ok (.iconst 0, 1) := by decide +kernel
theorem dX7_tallyWorths_1 : decode cX7_tallyWorths 1 = .ok (.istore 4, 2) := by decide +kernel
theorem dX7_tallyWorths_3 : decode cX7_tallyWorths 3 = .ok (.iload 4, 2) := by decide +kernel
theorem dX7_tallyWorths_5 : decode cX7_tallyWorths 5 = .ok (.bipush 9, 2) := by decide +kernel
theorem dX7_tallyWorths_7 : decode cX7_tallyWorths 7 = .ok (.if_icmp .gt 17, 3) := by decide +kernel
theorem dX7_tallyWorths_10 : decode cX7_tallyWorths 10 = .ok (.aload_n 0, 1) := by decide +kernel
theorem dX7_tallyWorths_11 : decode cX7_tallyWorths 11 = .ok (.getfield 9, 3) := by decide +kernel
theorem dX7_tallyWorths_14 : decode cX7_tallyWorths 14 = .ok (.iload 4, 2) := by decide +kernel
theorem dX7_tallyWorths_16 : decode cX7_tallyWorths 16 = .ok (.iconst 0, 1) := by decide +kernel
theorem dX7_tallyWorths_17 : decode cX7_tallyWorths 17 = .ok (.iastore, 1) := by decide +kernel
theorem dX7_tallyWorths_18 : decode cX7_tallyWorths 18 = .ok (.iinc 4 1, 3) := by decide +kernel
theorem dX7_tallyWorths_21 : decode cX7_tallyWorths 21 = .ok (.goto (-18), 3) := by decide +kernel
theorem dX7_tallyWorths_24 : decode cX7_tallyWorths 24 = .ok (.iconst 0, 1) := by decide +kernel
theorem dX7_tallyWorths_25 : decode cX7_tallyWorths 25 = .ok (.istore 4, 2) := by decide +kernel
theorem dX7_tallyWorths_27 : decode cX7_tallyWorths 27 = .ok (.iload 4, 2) := by decide +kernel
theorem dX7_tallyWorths_29 : decode cX7_tallyWorths 29 = .ok (.bipush 64, 2) := by decide +kernel
theorem dX7_tallyWorths_31 : decode cX7_tallyWorths 31 = .ok (.if_icmp .ge 40, 3) := by decide +kernel
theorem dX7_tallyWorths_34 : decode cX7_tallyWorths 34 = .ok (.aload_n 0, 1) := by decide +kernel
theorem dX7_tallyWorths_35 : decode cX7_tallyWorths 35 = .ok (.iload 4, 2) := by decide +kernel
theorem dX7_tallyWorths_37 : decode cX7_tallyWorths 37 = .ok (.invokevirtual 29, 3) := by decide +kernel
theorem dX7_tallyWorths_40 : decode cX7_tallyWorths 40 = .ok (.ifCond .eq 25, 3) := by decide +kernel
theorem dX7_tallyWorths_43 : decode cX7_tallyWorths 43 = .ok (.aload_n 0, 1) := by decide +kernel
theorem dX7_tallyWorths_44 : decode cX7_tallyWorths 44 = .ok (.getfield 9, 3) := by decide +kernel
theorem dX7_tallyWorths_47 : decode cX7_tallyWorths 47 = .ok (.iload 4, 2) := by decide +kernel
theorem dX7_tallyWorths_49 : decode cX7_tallyWorths 49 = .ok (.iload_n 1, 1) := by decide +kernel
theorem dX7_tallyWorths_50 : decode cX7_tallyWorths 50 = .ok (.iload_n 2, 1) := by decide +kernel
theorem dX7_tallyWorths_51 : decode cX7_tallyWorths 51 = .ok (.iload_n 3, 1) := by decide +kernel
theorem dX7_tallyWorths_52 : decode cX7_tallyWorths 52 = .ok (.invokestatic 25, 3) := by decide +kernel
theorem dX7_tallyWorths_55 : decode cX7_tallyWorths 55 = .ok (.bipush 9, 2) := by decide +kernel
theorem dX7_tallyWorths_57 : decode cX7_tallyWorths 57 = .ok (.invokestatic 51, 3) := by decide +kernel
theorem dX7_tallyWorths_60 : decode cX7_tallyWorths 60 = .ok (.dup2, 1) := by decide +kernel
theorem dX7_tallyWorths_61 : decode cX7_tallyWorths 61 = .ok (.iaload, 1) := by decide +kernel
theorem dX7_tallyWorths_62 : decode cX7_tallyWorths 62 = .ok (.iconst 1, 1) := by decide +kernel
theorem dX7_tallyWorths_63 : decode cX7_tallyWorths 63 = .ok (.iadd, 1) := by decide +kernel
theorem dX7_tallyWorths_64 : decode cX7_tallyWorths 64 = .ok (.iastore, 1) := by decide +kernel
theorem dX7_tallyWorths_65 : decode cX7_tallyWorths 65 = .ok (.iinc 4 1, 3) := by decide +kernel
theorem dX7_tallyWorths_68 : decode cX7_tallyWorths 68 = .ok (.goto (-41), 3) := by decide +kernel
theorem dX7_tallyWorths_71 : decode cX7_tallyWorths 71 = .ok (.return_, 1) := by decide +kernel
set_option maxRecDepth 20000 in
theorem ggX7_considerDebts_J13_bitCount_95d88 : GoodIn wsX7_considerDebts wsJ13_bitCount_95d88 := goodIn_r _ [12, 13, 14, 15] (by decide +kernel) (by decide +kernel)
set_option maxRecDepth 20000 in
theorem gX7_considerDebts_J13_bitCount_95d88 : GoodIn wsX7_considerDebts (va_wsS RX7 57 yJ13_bitCount_95d88 wsJ13_bitCount_95d88) := goodIn_app (goodIn_of _ (by decide +kernel)) ggX7_considerDebts_J13_bitCount_95d88
theorem dX7_considerDebts_0 : decode cX7_considerDebts 0 = .ok (.aload_n 0, 1) := by decide +kernel
theorem dX7_considerDebts_1 : decode cX7_considerDebts 1 = .ok (.getfield 21, 3) := by decide +kernel
theorem dX7_considerDebts_4 : decode cX7_considerDebts 4 = .ok (.invokestatic 57, 3) := by decide +kernel
theorem dX7_considerDebts_7 : decode cX7_considerDebts 7 = .ok (.istore_n 2, 1) := by decide +kernel
theorem dX7_considerDebts_8 : decode cX7_considerDebts 8 = .ok (.iconst 0, 1) := by decide +kernel
theorem dX7_considerDebts_9 : decode cX7_considerDebts 9 = .ok (.istore_n 3, 1) := by decide +kernel
theorem dX7_considerDebts_10 : decode cX7_considerDebts 10 = .ok (.iconst 1, 1) := by decide +kernel
theorem dX7_considerDebts_11 : decode cX7_considerDebts 11 = .ok (.istore 4, 2) := by decide +kernel
theorem dX7_considerDebts_13 : decode cX7_considerDebts 13 = .ok (.iload 4, 2) := by decide +kernel
theorem dX7_considerDebts_15 : decode cX7_considerDebts 15 = .ok (.bipush 9, 2) := by decide +kernel
theorem dX7_considerDebts_17 : decode cX7_considerDebts 17 = .ok (.if_icmp .gt 79, 3) := by decide +kernel
theorem dX7_considerDebts_20 : decode cX7_considerDebts 20 = .ok (.iload_n 3, 1) := by decide +kernel
theorem dX7_considerDebts_21 : decode cX7_considerDebts 21 = .ok (.aload_n 0, 1) := by decide +kernel
theorem dX7_considerDebts_22 : decode cX7_considerDebts 22 = .ok (.getfield 9, 3) := by decide +kernel
theorem dX7_considerDebts_25 : decode cX7_considerDebts 25 = .ok (.iload 4, 2) := by decide +kernel
theorem dX7_considerDebts_27 : decode cX7_considerDebts 27 = .ok (.iconst 1, 1) := by decide +kernel
theorem dX7_considerDebts_28 : decode cX7_considerDebts 28 = .ok (.isub, 1) := by decide +kernel
theorem dX7_considerDebts_29 : decode cX7_considerDebts 29 = .ok (.iaload, 1) := by decide +kernel
theorem dX7_considerDebts_30 : decode cX7_considerDebts 30 = .ok (.iadd, 1) := by decide +kernel
theorem dX7_considerDebts_31 : decode cX7_considerDebts 31 = .ok (.istore_n 3, 1) := by decide +kernel
theorem dX7_considerDebts_32 : decode cX7_considerDebts 32 = .ok (.iload_n 3, 1) := by decide +kernel
theorem dX7_considerDebts_33 : decode cX7_considerDebts 33 = .ok (.iload_n 2, 1) := by decide +kernel
theorem dX7_considerDebts_34 : decode cX7_considerDebts 34 = .ok (.iload_n 3, 1) := by decide +kernel
theorem dX7_considerDebts_35 : decode cX7_considerDebts 35 = .ok (.isub, 1) := by decide +kernel
theorem dX7_considerDebts_36 : decode cX7_considerDebts 36 = .ok (.invokestatic 63, 3) := by decide +kernel
theorem dX7_considerDebts_39 : decode cX7_considerDebts 39 = .ok (.istore 5, 2) := by decide +kernel
theorem dX7_considerDebts_41 : decode cX7_considerDebts 41 = .ok (.sipush 1000, 3) := by decide +kernel
theorem dX7_considerDebts_44 : decode cX7_considerDebts 44 = .ok (.iload 4, 2) := by decide +kernel
theorem dX7_considerDebts_46 : decode cX7_considerDebts 46 = .ok (.imul, 1) := by decide +kernel
theorem dX7_considerDebts_47 : decode cX7_considerDebts 47 = .ok (.iload_n 1, 1) := by decide +kernel
theorem dX7_considerDebts_48 : decode cX7_considerDebts 48 = .ok (.iadd, 1) := by decide +kernel
theorem dX7_considerDebts_49 : decode cX7_considerDebts 49 = .ok (.istore 6, 2) := by decide +kernel
theorem dX7_considerDebts_51 : decode cX7_considerDebts 51 = .ok (.iload 5, 2) := by decide +kernel
theorem dX7_considerDebts_53 : decode cX7_considerDebts 53 = .ok (.aload_n 0, 1) := by decide +kernel
theorem dX7_considerDebts_54 : decode cX7_considerDebts 54 = .ok (.getfield 40, 3) := by decide +kernel
theorem dX7_considerDebts_57 : decode cX7_considerDebts 57 = .ok (.if_icmp .lt 21, 3) := by decide +kernel
theorem dX7_considerDebts_60 : decode cX7_considerDebts 60 = .ok (.iload 5, 2) := by decide +kernel
theorem dX7_considerDebts_62 : decode cX7_considerDebts 62 = .ok (.aload_n 0, 1) := by decide +kernel
theorem dX7_considerDebts_63 : decode cX7_considerDebts 63 = .ok (.getfield 40, 3) := by decide +kernel
theorem dX7_considerDebts_66 : decode cX7_considerDebts 66 = .ok (.if_icmp .ne 24, 3) := by decide +kernel
theorem dX7_considerDebts_69 : decode cX7_considerDebts 69 = .ok (.iload 6, 2) := by decide +kernel
theorem dX7_considerDebts_71 : decode cX7_considerDebts 71 = .ok (.aload_n 0, 1) := by decide +kernel
theorem dX7_considerDebts_72 : decode cX7_considerDebts 72 = .ok (.getfield 37, 3) := by decide +kernel
theorem dX7_considerDebts_75 : decode cX7_considerDebts 75 = .ok (.if_icmp .ge 15, 3) := by decide +kernel
theorem dX7_considerDebts_78 : decode cX7_considerDebts 78 = .ok (.aload_n 0, 1) := by decide +kernel
theorem dX7_considerDebts_79 : decode cX7_considerDebts 79 = .ok (.iload 5, 2) := by decide +kernel
theorem dX7_considerDebts_81 : decode cX7_considerDebts 81 = .ok (.putfield 40, 3) := by decide +kernel
theorem dX7_considerDebts_84 : decode cX7_considerDebts 84 = .ok (.aload_n 0, 1) := by decide +kernel
theorem dX7_considerDebts_85 : decode cX7_considerDebts 85 = .ok (.iload 6, 2) := by decide +kernel
theorem dX7_considerDebts_87 : decode cX7_considerDebts 87 = .ok (.putfield 37, 3) := by decide +kernel
theorem dX7_considerDebts_90 : decode cX7_considerDebts 90 = .ok (.iinc 4 1, 3) := by decide +kernel
theorem dX7_considerDebts_93 : decode cX7_considerDebts 93 = .ok (.goto (-80), 3) := by decide +kernel
theorem dX7_considerDebts_96 : decode cX7_considerDebts 96 = .ok (.return_, 1) := by decide +kernel
set_option maxRecDepth 20000 in
theorem ggX8_init_X10_init : GoodIn wsX8_init wsX10_init := goodIn_r _ [19, 20, 2, 3, 21, 22, 23, 24, 25, 26] (by decide +kernel) (by decide +kernel)
set_option maxRecDepth 20000 in
theorem gX8_init_X10_init_n11 : GoodIn wsX8_init (wsX10_init) := ggX8_init_X10_init
theorem dX8_init_0 : decode cX8_init 0 = .ok (.aload_n 0, 1) := by decide +kernel
theorem dX8_init_1 : decode cX8_init 1 = .ok (.invokespecial 3, 3) := by decide +kernel
theorem dX8_init_4 : decode cX8_init 4 = .ok (.aload_n 0, 1) := by decide +kernel
theorem dX8_init_5 : decode cX8_init 5 = .ok (.new 9, 3) := by decide +kernel
theorem dX8_init_8 : decode cX8_init 8 = .ok (.dup, 1) := by decide +kernel
theorem dX8_init_9 : decode cX8_init 9 = .ok (.invokespecial 11, 3) := by decide +kernel
theorem dX8_init_12 : decode cX8_init 12 = .ok (.putfield 12, 3) := by decide +kernel
theorem dX8_init_15 : decode cX8_init 15 = .ok (.aload_n 0, 1) := by decide +kernel
theorem dX8_init_16 : decode cX8_init 16 = .ok (.bipush 6, 2) := by decide +kernel
theorem dX8_init_18 : decode cX8_init 18 = .ok (.newarray .int, 2) := by decide +kernel
theorem dX8_init_20 : decode cX8_init 20 = .ok (.putfield 18, 3) := by decide +kernel
theorem dX8_init_23 : decode cX8_init 23 = .ok (.aload_n 0, 1) := by decide +kernel
theorem dX8_init_24 : decode cX8_init 24 = .ok (.bipush 6, 2) := by decide +kernel
theorem dX8_init_26 : decode cX8_init 26 = .ok (.newarray .int, 2) := by decide +kernel
theorem dX8_init_28 : decode cX8_init 28 = .ok (.putfield 22, 3) := by decide +kernel
theorem dX8_init_31 : decode cX8_init 31 = .ok (.aload_n 0, 1) := by decide +kernel
theorem dX8_init_32 : decode cX8_init 32 = .ok (.bipush 6, 2) := by decide +kernel
theorem dX8_init_34 : decode cX8_init 34 = .ok (.newarray .int, 2) := by decide +kernel
theorem dX8_init_36 : decode cX8_init 36 = .ok (.putfield 25, 3) := by decide +kernel
theorem dX8_init_39 : decode cX8_init 39 = .ok (.aload_n 0, 1) := by decide +kernel
theorem dX8_init_40 : decode cX8_init 40 = .ok (.bipush 6, 2) := by decide +kernel
theorem dX8_init_42 : decode cX8_init 42 = .ok (.newarray .int, 2) := by decide +kernel
theorem dX8_init_44 : decode cX8_init 44 = .ok (.putfield 28, 3) := by decide +kernel
theorem dX8_init_47 : decode cX8_init 47 = .ok (.aload_n 0, 1) := by decide +kernel
theorem dX8_init_48 : decode cX8_init 48 = .ok (.bipush 6, 2) := by decide +kernel
theorem dX8_init_50 : decode cX8_init 50 = .ok (.newarray .int, 2) := by decide +kernel
theorem dX8_init_52 : decode cX8_init 52 = .ok (.putfield 31, 3) := by decide +kernel
theorem dX8_init_55 : decode cX8_init 55 = .ok (.aload_n 0, 1) := by decide +kernel
theorem dX8_init_56 : decode cX8_init 56 = .ok (.bipush 18, 2) := by decide +kernel
theorem dX8_init_58 : decode cX8_init 58 = .ok (.newarray .int, 2) := by decide +kernel
theorem dX8_init_60 : decode cX8_init 60 = .ok (.putfield 34, 3) := by decide +kernel
theorem dX8_init_63 : decode cX8_init 63 = .ok (.aload_n 0, 1) := by decide +kernel
