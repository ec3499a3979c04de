theorem dX9_tryDrawn_93 : decode cX9_tryDrawn 93 = .ok (.aload_n 0, 1) := by decide +kernel
theorem dX9_tryDrawn_94 : decode cX9_tryDrawn 94 = .ok (.iload_n 1, 1) := by decide +kernel
theorem dX9_tryDrawn_95 : decode cX9_tryDrawn 95 = .ok (.iconst 4, 1) := by decide +kernel
theorem dX9_tryDrawn_96 : decode cX9_tryDrawn 96 = .ok (.iconst 0, 1) := by decide +kernel
theorem dX9_tryDrawn_97 : decode cX9_tryDrawn 97 = .ok (.invokevirtual 63, 3) := by decide +kernel
theorem dX9_tryDrawn_100 : decode cX9_tryDrawn 100 = .ok (.pop, 1) := by decide +kernel
theorem dX9_tryDrawn_101 : decode cX9_tryDrawn 101 = .ok (.goto 63, 3) := by decide +kernel
theorem dX9_tryDrawn_104 : decode cX9_tryDrawn 104 = .ok (.aload_n 0, 1) := by decide +kernel
theorem dX9_tryDrawn_105 : decode cX9_tryDrawn 105 = .ok (.iload_n 1, 1) := by decide +kernel
theorem dX9_tryDrawn_106 : decode cX9_tryDrawn 106 = .ok (.iload_n 3, 1) := by decide +kernel
theorem dX9_tryDrawn_107 : decode cX9_tryDrawn 107 = .ok (.bipush 6, 2) := by decide +kernel
theorem dX9_tryDrawn_109 : decode cX9_tryDrawn 109 = .ok (.idiv, 1) := by decide +kernel
theorem dX9_tryDrawn_110 : decode cX9_tryDrawn 110 = .ok (.iconst 2, 1) := by decide +kernel
theorem dX9_tryDrawn_111 : decode cX9_tryDrawn 111 = .ok (.irem, 1) := by decide +kernel
theorem dX9_tryDrawn_112 : decode cX9_tryDrawn 112 = .ok (.ifCond .ne 7, 3) := by decide +kernel
theorem dX9_tryDrawn_115 : decode cX9_tryDrawn 115 = .ok (.iconst 5, 1) := by decide +kernel
theorem dX9_tryDrawn_116 : decode cX9_tryDrawn 116 = .ok (.goto 5, 3) := by decide +kernel
theorem dX9_tryDrawn_119 : decode cX9_tryDrawn 119 = .ok (.bipush 6, 2) := by decide +kernel
theorem dX9_tryDrawn_121 : decode cX9_tryDrawn 121 = .ok (.iload_n 3, 1) := by decide +kernel
theorem dX9_tryDrawn_122 : decode cX9_tryDrawn 122 = .ok (.bipush 6, 2) := by decide +kernel
theorem dX9_tryDrawn_124 : decode cX9_tryDrawn 124 = .ok (.irem, 1) := by decide +kernel
theorem dX9_tryDrawn_125 : decode cX9_tryDrawn 125 = .ok (.invokevirtual 63, 3) := by decide +kernel
theorem dX9_tryDrawn_128 : decode cX9_tryDrawn 128 = .ok (.pop, 1) := by decide +kernel
theorem dX9_tryDrawn_129 : decode cX9_tryDrawn 129 = .ok (.goto 35, 3) := by decide +kernel
theorem dX9_tryDrawn_132 : decode cX9_tryDrawn 132 = .ok (.aload_n 0, 1) := by decide +kernel
theorem dX9_tryDrawn_133 : decode cX9_tryDrawn 133 = .ok (.iload_n 1, 1) := by decide +kernel
theorem dX9_tryDrawn_134 : decode cX9_tryDrawn 134 = .ok (.iload_n 3, 1) := by decide +kernel
theorem dX9_tryDrawn_135 : decode cX9_tryDrawn 135 = .ok (.iconst 4, 1) := by decide +kernel
theorem dX9_tryDrawn_136 : decode cX9_tryDrawn 136 = .ok (.irem, 1) := by decide +kernel
theorem dX9_tryDrawn_137 : decode cX9_tryDrawn 137 = .ok (.ifCond .ne 8, 3) := by decide +kernel
theorem dX9_tryDrawn_140 : decode cX9_tryDrawn 140 = .ok (.bipush 7, 2) := by decide +kernel
theorem dX9_tryDrawn_142 : decode cX9_tryDrawn 142 = .ok (.goto 5, 3) := by decide +kernel
theorem dX9_tryDrawn_145 : decode cX9_tryDrawn 145 = .ok (.bipush 8, 2) := by decide +kernel
theorem dX9_tryDrawn_147 : decode cX9_tryDrawn 147 = .ok (.iconst 0, 1) := by decide +kernel
theorem dX9_tryDrawn_148 : decode cX9_tryDrawn 148 = .ok (.invokevirtual 63, 3) := by decide +kernel
theorem dX9_tryDrawn_151 : decode cX9_tryDrawn 151 = .ok (.pop, 1) := by decide +kernel
theorem dX9_tryDrawn_152 : decode cX9_tryDrawn 152 = .ok (.goto 12, 3) := by decide +kernel
theorem dX9_tryDrawn_155 : decode cX9_tryDrawn 155 = .ok (.aload_n 0, 1) := by decide +kernel
theorem dX9_tryDrawn_156 : decode cX9_tryDrawn 156 = .ok (.iload_n 1, 1) := by decide +kernel
theorem dX9_tryDrawn_157 : decode cX9_tryDrawn 157 = .ok (.bipush 8, 2) := by decide +kernel
theorem dX9_tryDrawn_159 : decode cX9_tryDrawn 159 = .ok (.iconst 0, 1) := by decide +kernel
theorem dX9_tryDrawn_160 : decode cX9_tryDrawn 160 = .ok (.invokevirtual 63, 3) := by decide +kernel
theorem dX9_tryDrawn_163 : decode cX9_tryDrawn 163 = .ok (.pop, 1) := by decide +kernel
theorem dX9_tryDrawn_164 : decode cX9_tryDrawn 164 = .ok (.return_, 1) := by decide +kernel
theorem dX10_init_0 : decode cX10_init 0 = .ok (.aload_n 0, 1) := by decide +kernel
theorem dX10_init_1 : decode cX10_init 1 = .ok (.invokespecial 3, 3) := by decide +kernel
theorem dX10_init_4 : decode cX10_init 4 = .ok (.aload_n 0, 1) := by decide +kernel
theorem dX10_init_5 : decode cX10_init 5 = .ok (.iconst 0, 1) := by decide +kernel
theorem dX10_init_6 : decode cX10_init 6 = .ok (.putfield 9, 3) := by decide +kernel
theorem dX10_init_9 : decode cX10_init 9 = .ok (.aload_n 0, 1) := by decide +kernel
theorem dX10_init_10 : decode cX10_init 10 = .ok (.iconst 0, 1) := by decide +kernel
theorem dX10_init_11 : decode cX10_init 11 = .ok (.putfield 15, 3) := by decide +kernel
theorem dX10_init_14 : decode cX10_init 14 = .ok (.aload_n 0, 1) := by decide +kernel
theorem dX10_init_15 : decode cX10_init 15 = .ok (.iconst 1, 1) := by decide +kernel
theorem dX10_init_16 : decode cX10_init 16 = .ok (.putfield 18, 3) := by decide +kernel
theorem dX10_init_19 : decode cX10_init 19 = .ok (.return_, 1) := by decide +kernel
theorem dX10_put_0 : decode cX10_put 0 = .ok (.aload_n 0, 1) := by decide +kernel
theorem dX10_put_1 : decode cX10_put 1 = .ok (.iload_n 1, 1) := by decide +kernel
theorem dX10_put_2 : decode cX10_put 2 = .ok (.putfield 9, 3) := by decide +kernel
theorem dX10_put_5 : decode cX10_put 5 = .ok (.aload_n 0, 1) := by decide +kernel
theorem dX10_put_6 : decode cX10_put 6 = .ok (.iload_n 2, 1) := by decide +kernel
theorem dX10_put_7 : decode cX10_put 7 = .ok (.putfield 15, 3) := by decide +kernel
theorem dX10_put_10 : decode cX10_put 10 = .ok (.aload_n 0, 1) := by decide +kernel
theorem dX10_put_11 : decode cX10_put 11 = .ok (.iload_n 3, 1) := by decide +kernel
theorem dX10_put_12 : decode cX10_put 12 = .ok (.putfield 18, 3) := by decide +kernel
theorem dX10_put_15 : decode cX10_put 15 = .ok (.return_, 1) := by decide +kernel
set_option maxRecDepth 20000 in
theorem ggX10_become_X10_put : GoodIn wsX10_become wsX10_put := goodIn_r _ [8, 1, 2, 3, 9, 10, 11] (by decide +kernel) (by decide +kernel)
set_option maxRecDepth 20000 in
theorem gX10_become_X10_put : GoodIn wsX10_become (wsV RX10 21 RX10 yX10_put wsX10_put) := goodIn_app (goodIn_of _ (by decide +kernel)) ggX10_become_X10_put
theorem dX10_become_0 : decode cX10_become 0 = .ok (.aload_n 0, 1) := by decide +kernel
theorem dX10_become_1 : decode cX10_become 1 = .ok (.aload_n 1, 1) := by decide +kernel
theorem dX10_become_2 : decode cX10_become 2 = .ok (.getfield 9, 3) := by decide +kernel
theorem dX10_become_5 : decode cX10_become 5 = .ok (.aload_n 1, 1) := by decide +kernel
theorem dX10_become_6 : decode cX10_become 6 = .ok (.getfield 15, 3) := by decide +kernel
theorem dX10_become_9 : decode cX10_become 9 = .ok (.aload_n 1, 1) := by decide +kernel
theorem dX10_become_10 : decode cX10_become 10 = .ok (.getfield 18, 3) := by decide +kernel
theorem dX10_become_13 : decode cX10_become 13 = .ok (.invokevirtual 21, 3) := by decide +kernel
theorem dX10_become_16 : decode cX10_become 16 = .ok (.return_, 1) := by decide +kernel
theorem dX10_atEnd_0 : decode cX10_atEnd 0 = .ok (.aload_n 0, 1) := by decide +kernel
theorem dX10_atEnd_1 : decode cX10_atEnd 1 = .ok (.getfield 9, 3) := by decide +kernel
theorem dX10_atEnd_4 : decode cX10_atEnd 4 = .ok (.aload_n 0, 1) := by decide +kernel
theorem dX10_atEnd_5 : decode cX10_atEnd 5 = .ok (.getfield 15, 3) := by decide +kernel
theorem dX10_atEnd_8 : decode cX10_atEnd 8 = .ok (.ifCond .ne 8, 3) := by decide +kernel
theorem dX10_atEnd_11 : decode cX10_atEnd 11 = .ok (.bipush 11, 2) := by decide +kernel
theorem dX10_atEnd_13 : decode cX10_atEnd 13 = .ok (.goto 4, 3) := by decide +kernel
theorem dX10_atEnd_16 : decode cX10_atEnd 16 = .ok (.iconst 0, 1) := by decide +kernel
theorem dX10_atEnd_17 : decode cX10_atEnd 17 = .ok (.if_icmp .ne 7, 3) := by decide +kernel
theorem dX10_atEnd_20 : decode cX10_atEnd 20 = .ok (.iconst 1, 1) := by decide +kernel
theorem dX10_atEnd_21 : decode cX10_atEnd 21 = .ok (.goto 4, 3) := by decide +kernel
theorem dX10_atEnd_24 : decode cX10_atEnd 24 = .ok (.iconst 0, 1) := by decide +kernel
theorem dX10_atEnd_25 : decode cX10_atEnd 25 = .ok (.ireturn, 1) := by decide +kernel
theorem dX10_nextCell_0 : decode cX10_nextCell 0 = .ok (.aload_n 0, 1) := by decide +kernel
theorem dX10_nextCell_1 : decode cX10_nextCell 1 = .ok (.getfield 15, 3) := by decide +kernel
theorem dX10_nextCell_4 : decode cX10_nextCell 4 = .ok (.ifCond .ne 12, 3) := by decide +kernel
theorem dX10_nextCell_7 : decode cX10_nextCell 7 = .ok (.aload_n 0, 1) := by decide +kernel
theorem dX10_nextCell_8 : decode cX10_nextCell 8 = .ok (.getfield 9, 3) := by decide +kernel
theorem dX10_nextCell_11 : decode cX10_nextCell 11 = .ok (.iconst 1, 1) := by decide +kernel
theorem dX10_nextCell_12 : decode cX10_nextCell 12 = .ok (.iadd, 1) := by decide +kernel
theorem dX10_nextCell_13 : decode cX10_nextCell 13 = .ok (.goto 9, 3) := by decide +kernel
theorem dX10_nextCell_16 : decode cX10_nextCell 16 = .ok (.aload_n 0, 1) := by decide +kernel
theorem dX10_nextCell_17 : decode cX10_nextCell 17 = .ok (.getfield 9, 3) := by decide +kernel
theorem dX10_nextCell_20 : decode cX10_nextCell 20 = .ok (.iconst 1, 1) := by decide +kernel
theorem dX10_nextCell_21 : decode cX10_nextCell 21 = .ok (.isub, 1) := by decide +kernel
theorem dX10_nextCell_22 : decode cX10_nextCell 22 = .ok (.ireturn, 1) := by decide +kernel
set_option maxRecDepth 20000 in
theorem ggX10_step_X10_atEnd : GoodIn wsX10_step wsX10_atEnd := goodIn_r _ [7, 2, 1, 12, 13, 14] (by decide +kernel) (by decide +kernel)
set_option maxRecDepth 20000 in
theorem gX10_step_X10_atEnd : GoodIn wsX10_step (wsV RX10 25 RX10 yX10_atEnd wsX10_atEnd) := goodIn_app (goodIn_of _ (by decide +kernel)) ggX10_step_X10_atEnd
set_option maxRecDepth 20000 in
theorem ggX10_step_X10_nextCell : GoodIn wsX10_step wsX10_nextCell := goodIn_r _ [11, 1, 2, 12, 13, 14] (by decide +kernel) (by decide +kernel)
set_option maxRecDepth 20000 in
theorem gX10_step_X10_nextCell : GoodIn wsX10_step (wsV RX10 29 RX10 yX10_nextCell wsX10_nextCell) := goodIn_app (goodIn_of _ (by decide +kernel)) ggX10_step_X10_nextCell
theorem dX10_step_0 : decode cX10_step 0 = .ok (.aload_n 0, 1) := by decide +kernel
theorem dX10_step_1 : decode cX10_step 1 = .ok (.invokevirtual 25, 3) := by decide +kernel
theorem dX10_step_4 : decode cX10_step 4 = .ok (.ifCond .eq 19, 3) := by decide +kernel
theorem dX10_step_7 : decode cX10_step 7 = .ok (.aload_n 0, 1) := by decide +kernel
theorem dX10_step_8 : decode cX10_step 8 = .ok (.aload_n 0, 1) := by decide +kernel
theorem dX10_step_9 : decode cX10_step 9 = .ok (.getfield 15, 3) := by decide +kernel
theorem dX10_step_12 : decode cX10_step 12 = .ok (.ifCond .ne 7, 3) := by decide +kernel
theorem dX10_step_15 : decode cX10_step 15 = .ok (.iconst 1, 1) := by decide +kernel
theorem dX10_step_16 : decode cX10_step 16 = .ok (.goto 4, 3) := by decide +kernel
theorem dX10_step_19 : decode cX10_step 19 = .ok (.iconst 0, 1) := by decide +kernel
theorem dX10_step_20 : decode cX10_step 20 = .ok (.putfield 15, 3) := by decide +kernel
theorem dX10_step_23 : decode cX10_step 23 = .ok (.aload_n 0, 1) := by decide +kernel
theorem dX10_step_24 : decode cX10_step 24 = .ok (.aload_n 0, 1) := by decide +kernel
theorem dX10_step_25 : decode cX10_step 25 = .ok (.invokevirtual 29, 3) := by decide +kernel
theorem dX10_step_28 : decode cX10_step 28 = .ok (.putfield 9, 3) := by decide +kernel
theorem dX10_step_31 : decode cX10_step 31 = .ok (.return_, 1) := by decide +kernel
set_option maxRecDepth 20000 in
theorem ggX10_landing_X10_atEnd : GoodIn wsX10_landing wsX10_atEnd := goodIn_r _ [6, 1, 7, 12, 13, 14] (by decide +kernel) (by decide +kernel)
set_option maxRecDepth 20000 in
theorem gX10_landing_X10_atEnd : GoodIn wsX10_landing (wsV RX10 25 RX10 yX10_atEnd wsX10_atEnd) := goodIn_app (goodIn_of _ (by decide +kernel)) ggX10_landing_X10_atEnd
set_option maxRecDepth 20000 in
theorem ggX10_landing_X10_nextCell : GoodIn wsX10_landing wsX10_nextCell := goodIn_r _ [11, 7, 1, 12, 13, 14] (by decide +kernel) (by decide +kernel)
set_option maxRecDepth 20000 in
theorem gX10_landing_X10_nextCell : GoodIn wsX10_landing (wsV RX10 29 RX10 yX10_nextCell wsX10_nextCell) := goodIn_app (goodIn_of _ (by decide +kernel)) ggX10_landing_X10_nextCell
theorem dX10_landing_0 : decode cX10_landing 0 = .ok (.aload_n 0, 1) := by decide +kernel
theorem dX10_landing_1 : decode cX10_landing 1 = .ok (.invokevirtual 25, 3) := by decide +kernel
theorem dX10_landing_4 : decode cX10_landing 4 = .ok (.ifCond .eq 10, 3) := by decide +kernel
theorem dX10_landing_7 : decode cX10_landing 7 = .ok (.aload_n 0, 1) := by decide +kernel
theorem dX10_landing_8 : decode cX10_landing 8 = .ok (.getfield 9, 3) := by decide +kernel
theorem dX10_landing_11 : decode cX10_landing 11 = .ok (.goto 7, 3) := by decide +kernel
theorem dX10_landing_14 : decode cX10_landing 14 = .ok (.aload_n 0, 1) := by decide +kernel
theorem dX10_landing_15 : decode cX10_landing 15 = .ok (.invokevirtual 29, 3) := by decide +kernel
theorem dX10_landing_18 : decode cX10_landing 18 = .ok (.ireturn, 1) := by decide +kernel
set_option maxRecDepth 20000 in
theorem ggX10_blowAnHour_X10_step : GoodIn wsX10_blowAnHour wsX10_step := goodIn_r _ [7, 8, 2, 9, 10, 11, 6, 12, 13, 14, 15, 16, 17, 18, 19] (by decide +kernel) (by decide +kernel)
set_option maxRecDepth 20000 in
theorem gX10_blowAnHour_X10_step : GoodIn wsX10_blowAnHour (wsV RX10 33 RX10 yX10_step wsX10_step) := goodIn_app (goodIn_of _ (by decide +kernel)) ggX10_blowAnHour_X10_step
theorem dX10_blowAnHour_0 : decode cX10_blowAnHour 0 = .ok (.iconst 0, 1) := by decide +kernel
theorem dX10_blowAnHour_1 : decode cX10_blowAnHour 1 = .ok (.istore_n 1, 1) := by decide +kernel
theorem dX10_blowAnHour_2 : decode cX10_blowAnHour 2 = .ok (.iconst 0, 1) := by decide +kernel
theorem dX10_blowAnHour_3 : decode cX10_blowAnHour 3 = .ok (.istore_n 2, 1) := by decide +kernel
theorem dX10_blowAnHour_4 : decode cX10_blowAnHour 4 = .ok (.iload_n 2, 1) := by decide +kernel
theorem dX10_blowAnHour_5 : decode cX10_blowAnHour 5 = .ok (.aload_n 0, 1) := by decide +kernel
theorem dX10_blowAnHour_6 : decode cX10_blowAnHour 6 = .ok (.getfield 18, 3) := by decide +kernel
theorem dX10_blowAnHour_9 : decode cX10_blowAnHour 9 = .ok (.if_icmp .ge 22, 3) := by decide +kernel
theorem dX10_blowAnHour_12 : decode cX10_blowAnHour 12 = .ok (.aload_n 0, 1) := by decide +kernel
theorem dX10_blowAnHour_13 : decode cX10_blowAnHour 13 = .ok (.invokevirtual 33, 3) := by decide +kernel
theorem dX10_blowAnHour_16 : decode cX10_blowAnHour 16 = .ok (.iload_n 1, 1) := by decide +kernel
theorem dX10_blowAnHour_17 : decode cX10_blowAnHour 17 = .ok (.iconst 1, 1) := by decide +kernel
theorem dX10_blowAnHour_18 : decode cX10_blowAnHour 18 = .ok (.aload_n 0, 1) := by decide +kernel
theorem dX10_blowAnHour_19 : decode cX10_blowAnHour 19 = .ok (.getfield 9, 3) := by decide +kernel
theorem dX10_blowAnHour_22 : decode cX10_blowAnHour 22 = .ok (.ishl, 1) := by decide +kernel
theorem dX10_blowAnHour_23 : decode cX10_blowAnHour 23 = .ok (.ior, 1) := by decide +kernel
theorem dX10_blowAnHour_24 : decode cX10_blowAnHour 24 = .ok (.istore_n 1, 1) := by decide +kernel
theorem dX10_blowAnHour_25 : decode cX10_blowAnHour 25 = .ok (.iinc 2 1, 3) := by decide +kernel
theorem dX10_blowAnHour_28 : decode cX10_blowAnHour 28 = .ok (.goto (-24), 3) := by decide +kernel
theorem dX10_blowAnHour_31 : decode cX10_blowAnHour 31 = .ok (.iload_n 1, 1) := by decide +kernel
theorem dX10_blowAnHour_32 : decode cX10_blowAnHour 32 = .ok (.ireturn, 1) := by decide +kernel
set_option maxRecDepth 20000 in
theorem ggX11_init_X8_init : GoodIn wsX11_init wsX8_init := goodIn_r _ [48, 49, 2, 3, 50, 43, 44, 51, 52, 53, 54, 55, 56, 57, 58, 59, 60, 61, 62, 63, 64, 65, 66, 67, 155, 156, 157, 108, 109, 110, 111, 112, 113, 114, 115, 116, 117] (by decide +kernel) (by decide +kernel)
set_option maxRecDepth 20000 in
theorem gX11_init_X8_init : GoodIn wsX11_init (wsX8_init) := ggX11_init_X8_init
set_option maxRecDepth 20000 in
theorem ggX11_init_X3_init : GoodIn wsX11_init wsX3_init := goodIn_r _ [69, 70, 2, 3, 52, 71, 72, 129, 130] (by decide +kernel) (by decide +kernel)
set_option maxRecDepth 20000 in
theorem gX11_init_X3_init_n18 : GoodIn wsX11_init (wsX3_init) := ggX11_init_X3_init
set_option maxRecDepth 20000 in
theorem ggX11_init_X7_init : GoodIn wsX11_init wsX7_init := goodIn_r _ [74, 75, 2, 3, 52, 76, 77, 78, 79, 131, 132, 133, 134, 135] (by decide +kernel) (by decide +kernel)
set_option maxRecDepth 20000 in
theorem gX11_init_X7_init_n25 : GoodIn wsX11_init (wsX7_init) := ggX11_init_X7_init
set_option maxRecDepth 20000 in
theorem ggX11_init_X9_init : GoodIn wsX11_init wsX9_init := goodIn_r _ [81, 82, 2, 3, 83, 5, 6, 84, 85, 47, 48, 49, 50, 43, 44, 51, 52, 53, 54, 55, 56, 57, 58, 59, 60, 61, 62, 63, 64, 65, 66, 67, 108, 109, 110, 111, 112, 113, 114, 115, 116, 117, 136, 137, 138, 139, 140, 141, 142, 155, 156, 157] (by decide +kernel) (by decide +kernel)
set_option maxRecDepth 20000 in
theorem gX11_init_X9_init_n38 : GoodIn wsX11_init (wsX9_init) := ggX11_init_X9_init
set_option maxRecDepth 20000 in
theorem ggX11_init_X4_init : GoodIn wsX11_init wsX4_init := goodIn_r _ [87, 88, 2, 3, 52, 89, 143, 144, 145] (by decide +kernel) (by decide +kernel)
set_option maxRecDepth 20000 in
theorem gX11_init_X4_init_n45 : GoodIn wsX11_init (wsX4_init) := ggX11_init_X4_init
set_option maxRecDepth 20000 in
theorem ggX11_init_X6_init : GoodIn wsX11_init wsX6_init := goodIn_r _ [91, 92, 2, 3, 93, 94, 146] (by decide +kernel) (by decide +kernel)
set_option maxRecDepth 20000 in
theorem gX11_init_X6_init_n52 : GoodIn wsX11_init (wsX6_init) := ggX11_init_X6_init
set_option maxRecDepth 20000 in
theorem ggX11_init_X5_init : GoodIn wsX11_init wsX5_init := goodIn_r _ [96, 97, 2, 3] (by decide +kernel) (by decide +kernel)
set_option maxRecDepth 20000 in
theorem gX11_init_X5_init_n59 : GoodIn wsX11_init (wsX5_init) := ggX11_init_X5_init
set_option maxRecDepth 20000 in
theorem ggX11_init_X2_init : GoodIn wsX11_init wsX2_init := goodIn_r _ [99, 100, 2, 3, 52, 101, 102, 149, 150] (by decide +kernel) (by decide +kernel)
set_option maxRecDepth 20000 in
theorem gX11_init_X2_init_n66 : GoodIn wsX11_init (wsX2_init) := ggX11_init_X2_init
set_option maxRecDepth 20000 in
theorem ggX11_init_X0_init : GoodIn wsX11_init wsX0_init := goodIn_r _ [104, 105, 2, 3, 106, 43, 44, 107, 62, 63, 64, 65, 66, 67, 155, 156, 157, 151, 152, 153, 154] (by decide +kernel) (by decide +kernel)
set_option maxRecDepth 20000 in
theorem gX11_init_X0_init_n73 : GoodIn wsX11_init (wsX0_init) := ggX11_init_X0_init
set_option maxRecDepth 20000 in
theorem ggX11_init_X10_init : GoodIn wsX11_init wsX10_init := goodIn_r _ [63, 64, 2, 3, 65, 66, 67, 155, 156, 157] (by decide +kernel) (by decide +kernel)
set_option maxRecDepth 20000 in
theorem gX11_init_X10_init_n80 : GoodIn wsX11_init (wsX10_init) := ggX11_init_X10_init
theorem dX11_init_0 : decode cX11_init 0 = .ok (.aload_n 0, 1) := by decide +kernel
theorem dX11_init_1 : decode cX11_init 1 = .ok (.invokespecial 3, 3) := by decide +kernel
theorem dX11_init_4 : decode cX11_init 4 = .ok (.aload_n 0, 1) := by decide +kernel
theorem dX11_init_5 : decode cX11_init 5 = .ok (.new 9, 3) := by decide +kernel
theorem dX11_init_8 : decode cX11_init 8 = .ok (.dup, 1) := by decide +kernel
theorem dX11_init_9 : decode cX11_init 9 = .ok (.invokespecial 11, 3) := by decide +kernel
theorem dX11_init_12 : decode cX11_init 12 = .ok (.putfield 12, 3) := by decide +kernel
theorem dX11_init_15 : decode cX11_init 15 = .ok (.aload_n 0, 1) := by decide +kernel
theorem dX11_init_16 : decode cX11_init 16 = .ok (.new 16, 3) := by decide +kernel
theorem dX11_init_19 : decode cX11_init 19 = .ok (.dup, 1) := by decide +kernel
theorem dX11_init_20 : decode cX11_init 20 = .ok (.invokespecial 18, 3) := by decide +kernel
theorem dX11_init_23 : decode cX11_init 23 = .ok (.putfield 19, 3) := by decide +kernel
theorem dX11_init_26 : decode cX11_init 26 = .ok (.aload_n 0, 1) := by decide +kernel
theorem dX11_init_27 : decode cX11_init 27 = .ok (.new 23, 3) := by decide +kernel
theorem dX11_init_30 : decode cX11_init 30 = .ok (.dup, 1) := by decide +kernel
theorem dX11_init_31 : decode cX11_init 31 = .ok (.invokespecial 25, 3) := by decide +kernel
theorem dX11_init_34 : decode cX11_init 34 = .ok (.putfield 26, 3) := by decide +kernel
theorem dX11_init_37 : decode cX11_init 37 = .ok (.aload_n 0, 1) := by decide +kernel
theorem dX11_init_38 : decode cX11_init 38 = .ok (.iconst 2, 1) := by decide +kernel
theorem dX11_init_39 : decode cX11_init 39 = .ok (.anewarray 30, 3) := by decide +kernel
theorem dX11_init_42 : decode cX11_init 42 = .ok (.putfield 32, 3) := by decide +kernel
theorem dX11_init_45 : decode cX11_init 45 = .ok (.aload_n 0, 1) := by decide +kernel
theorem dX11_init_46 : decode cX11_init 46 = .ok (.new 36, 3) := by decide +kernel
theorem dX11_init_49 : decode cX11_init 49 = .ok (.dup, 1) := by decide +kernel
theorem dX11_init_50 : decode cX11_init 50 = .ok (.invokespecial 38, 3) := by decide +kernel
theorem dX11_init_53 : decode cX11_init 53 = .ok (.putfield 39, 3) := by decide +kernel
theorem dX11_init_56 : decode cX11_init 56 = .ok (.aload_n 0, 1) := by decide +kernel
theorem dX11_init_57 : decode cX11_init 57 = .ok (.new 43, 3) := by decide +kernel
theorem dX11_init_60 : decode cX11_init 60 = .ok (.dup, 1) := by decide +kernel
theorem dX11_init_61 : decode cX11_init 61 = .ok (.invokespecial 45, 3) := by decide +kernel
theorem dX11_init_64 : decode cX11_init 64 = .ok (.putfield 46, 3) := by decide +kernel
theorem dX11_init_67 : decode cX11_init 67 = .ok (.aload_n 0, 1) := by decide +kernel
theorem dX11_init_68 : decode cX11_init 68 = .ok (.new 50, 3) := by decide +kernel
theorem dX11_init_71 : decode cX11_init 71 = .ok (.dup, 1) := by decide +kernel
theorem dX11_init_72 : decode cX11_init 72 = .ok (.invokespecial 52, 3) := by decide +kernel
theorem dX11_init_75 : decode cX11_init 75 = .ok (.putfield 53, 3) := by decide +kernel
theorem dX11_init_78 : decode cX11_init 78 = .ok (.aload_n 0, 1) := by decide +kernel
theorem dX11_init_79 : decode cX11_init 79 = .ok (.new 57, 3) := by decide +kernel
theorem dX11_init_82 : decode cX11_init 82 = .ok (.dup, 1) := by decide +kernel
theorem dX11_init_83 : decode cX11_init 83 = .ok (.invokespecial 59, 3) := by decide +kernel
theorem dX11_init_86 : decode cX11_init 86 = .ok (.putfield 60, 3) := by decide +kernel
theorem dX11_init_89 : decode cX11_init 89 = .ok (.aload_n 0, 1) := by decide +kernel
theorem dX11_init_90 : decode cX11_init 90 = .ok (.new 64, 3) := by decide +kernel
theorem dX11_init_93 : decode cX11_init 93 = .ok (.dup, 1) := by decide +kernel
theorem dX11_init_94 : decode cX11_init 94 = .ok (.invokespecial 66, 3) := by decide +kernel
theorem dX11_init_97 : decode cX11_init 97 = .ok (.putfield 67, 3) := by decide +kernel
theorem dX11_init_100 : decode cX11_init 100 = .ok (.aload_n 0, 1) := by decide +kernel
theorem dX11_init_101 : decode cX11_init 101 = .ok (.new 71, 3) := by decide +kernel
theorem dX11_init_104 : decode cX11_init 104 = .ok (.dup, 1) := by decide +kernel
theorem dX11_init_105 : decode cX11_init 105 = .ok (.invokespecial 73, 3) := by decide +kernel
theorem dX11_init_108 : decode cX11_init 108 = .ok (.putfield 74, 3) := by decide +kernel
theorem dX11_init_111 : decode cX11_init 111 = .ok (.aload_n 0, 1) := by decide +kernel
theorem dX11_init_112 : decode cX11_init 112 = .ok (.new 78, 3) := by decide +kernel
theorem dX11_init_115 : decode cX11_init 115 = .ok (.dup, 1) := by decide +kernel
theorem dX11_init_116 : decode cX11_init 116 = .ok (.invokespecial 80, 3) := by decide +kernel
theorem dX11_init_119 : decode cX11_init 119 = .ok (.putfield 81, 3) := by decide +kernel
theorem dX11_init_122 : decode cX11_init 122 = .ok (.return_, 1) := by decide +kernel
set_option maxRecDepth 20000 in
theorem ggX11_walker_X11_isWalker : GoodIn wsX11_walker wsX11_isWalker := goodIn_r _ [7, 8, 9, 6, 10] (by decide +kernel) (by decide +kernel)
set_option maxRecDepth 20000 in
theorem gX11_walker_X11_isWalker : GoodIn wsX11_walker (va_wsS RX11 85 yX11_isWalker wsX11_isWalker) := goodIn_app (goodIn_of _ (by decide +kernel)) ggX11_walker_X11_isWalker
set_option maxRecDepth 20000 in
theorem ggX11_walker_X11_isCell : GoodIn wsX11_walker wsX11_isCell := goodIn_r _ [13, 8, 9, 6, 10] (by decide +kernel) (by decide +kernel)
set_option maxRecDepth 20000 in
theorem gX11_walker_X11_isCell : GoodIn wsX11_walker (va_wsS RX11 89 yX11_isCell wsX11_isCell) := goodIn_app (goodIn_of _ (by decide +kernel)) ggX11_walker_X11_isCell
set_option maxRecDepth 20000 in
theorem ggX11_walker_X11_within : GoodIn wsX11_walker wsX11_within := goodIn_r _ [10] (by decide +kernel) (by decide +kernel)
set_option maxRecDepth 20000 in
theorem gX11_walker_X11_within : GoodIn wsX11_walker (va_wsS RX11 92 yX11_within wsX11_within) := goodIn_app (goodIn_of _ (by decide +kernel)) ggX11_walker_X11_within
set_option maxRecDepth 20000 in
theorem ggX11_walker_X8_place : GoodIn wsX11_walker wsX8_place := goodIn_r _ [18, 19, 20, 21, 22, 23, 35, 36, 37, 38, 39, 40, 41, 42, 43, 44] (by decide +kernel) (by decide +kernel)
set_option maxRecDepth 20000 in
theorem gX11_walker_X8_place : GoodIn wsX11_walker (wsV RX11 103 RX8 yX8_place wsX8_place) := goodIn_app (goodIn_of _ (by decide +kernel)) ggX11_walker_X8_place
theorem dX11_walker_0 : decode cX11_walker 0 = .ok (.iload_n 1, 1) := by decide +kernel
theorem dX11_walker_1 : decode cX11_walker 1 = .ok (.invokestatic 85, 3) := by decide +kernel
theorem dX11_walker_4 : decode cX11_walker 4 = .ok (.ifCond .eq 10, 3) := by decide +kernel
theorem dX11_walker_7 : decode cX11_walker 7 = .ok (.iload_n 2, 1) := by decide +kernel
theorem dX11_walker_8 : decode cX11_walker 8 = .ok (.invokestatic 89, 3) := by decide +kernel
theorem dX11_walker_11 : decode cX11_walker 11 = .ok (.ifCond .ne 5, 3) := by decide +kernel
theorem dX11_walker_14 : decode cX11_walker 14 = .ok (.iconst (-1), 1) := by decide +kernel
theorem dX11_walker_15 : decode cX11_walker 15 = .ok (.ireturn, 1) := by decide +kernel
theorem dX11_walker_16 : decode cX11_walker 16 = .ok (.iload_n 3, 1) := by decide +kernel
theorem dX11_walker_17 : decode cX11_walker 17 = .ok (.iconst 0, 1) := by decide +kernel
theorem dX11_walker_18 : decode cX11_walker 18 = .ok (.sipush 255, 3) := by decide +kernel
theorem dX11_walker_21 : decode cX11_walker 21 = .ok (.invokestatic 92, 3) := by decide +kernel
theorem dX11_walker_24 : decode cX11_walker 24 = .ok (.ifCond .eq 14, 3) := by decide +kernel
theorem dX11_walker_27 : decode cX11_walker 27 = .ok (.iload 4, 2) := by decide +kernel
theorem dX11_walker_29 : decode cX11_walker 29 = .ok (.iconst 0, 1) := by decide +kernel
theorem dX11_walker_30 : decode cX11_walker 30 = .ok (.bipush 9, 2) := by decide +kernel
theorem dX11_walker_32 : decode cX11_walker 32 = .ok (.invokestatic 92, 3) := by decide +kernel
theorem dX11_walker_35 : decode cX11_walker 35 = .ok (.ifCond .ne 6, 3) := by decide +kernel
theorem dX11_walker_38 : decode cX11_walker 38 = .ok (.bipush (-2), 2) := by decide +kernel
theorem dX11_walker_40 : decode cX11_walker 40 = .ok (.ireturn, 1) := by decide +kernel
theorem dX11_walker_41 : decode cX11_walker 41 = .ok (.sipush 1000, 3) := by decide +kernel
theorem dX11_walker_44 : decode cX11_walker 44 = .ok (.aload_n 0, 1) := by decide +kernel
theorem dX11_walker_45 : decode cX11_walker 45 = .ok (.getfield 12, 3) := by decide +kernel
theorem dX11_walker_48 : decode cX11_walker 48 = .ok (.getfield 96, 3) := by decide +kernel
theorem dX11_walker_51 : decode cX11_walker 51 = .ok (.iload_n 1, 1) := by decide +kernel
theorem dX11_walker_52 : decode cX11_walker 52 = .ok (.iaload, 1) := by decide +kernel
theorem dX11_walker_53 : decode cX11_walker 53 = .ok (.imul, 1) := by decide +kernel
theorem dX11_walker_54 : decode cX11_walker 54 = .ok (.aload_n 0, 1) := by decide +kernel
theorem dX11_walker_55 : decode cX11_walker 55 = .ok (.getfield 12, 3) := by decide +kernel
theorem dX11_walker_58 : decode cX11_walker 58 = .ok (.getfield 100, 3) := by decide +kernel
theorem dX11_walker_61 : decode cX11_walker 61 = .ok (.iload_n 1, 1) := by decide +kernel
theorem dX11_walker_62 : decode cX11_walker 62 = .ok (.iaload, 1) := by decide +kernel
theorem dX11_walker_63 : decode cX11_walker 63 = .ok (.iadd, 1) := by decide +kernel
theorem dX11_walker_64 : decode cX11_walker 64 = .ok (.istore 5, 2) := by decide +kernel
theorem dX11_walker_66 : decode cX11_walker 66 = .ok (.aload_n 0, 1) := by decide +kernel
theorem dX11_walker_67 : decode cX11_walker 67 = .ok (.getfield 12, 3) := by decide +kernel
theorem dX11_walker_70 : decode cX11_walker 70 = .ok (.iload_n 1, 1) := by decide +kernel
theorem dX11_walker_71 : decode cX11_walker 71 = .ok (.iload_n 2, 1) := by decide +kernel
theorem dX11_walker_72 : decode cX11_walker 72 = .ok (.iload_n 3, 1) := by decide +kernel
theorem dX11_walker_73 : decode cX11_walker 73 = .ok (.iload 4, 2) := by decide +kernel
theorem dX11_walker_75 : decode cX11_walker 75 = .ok (.invokevirtual 103, 3) := by decide +kernel
theorem dX11_walker_78 : decode cX11_walker 78 = .ok (.iload 5, 2) := by decide +kernel
theorem dX11_walker_80 : decode cX11_walker 80 = .ok (.ireturn, 1) := by decide +kernel
set_option maxRecDepth 20000 in
theorem ggX11_purse_X11_isWalker : GoodIn wsX11_purse wsX11_isWalker := goodIn_r _ [5, 6, 7, 4, 8] (by decide +kernel) (by decide +kernel)
set_option maxRecDepth 20000 in
theorem gX11_purse_X11_isWalker : GoodIn wsX11_purse (va_wsS RX11 85 yX11_isWalker wsX11_isWalker) := goodIn_app (goodIn_of _ (by decide +kernel)) ggX11_purse_X11_isWalker
set_option maxRecDepth 20000 in
theorem ggX11_purse_X11_allWithin : GoodIn wsX11_purse wsX11_allWithin := goodIn_r _ [11, 6, 7, 4, 8] (by decide +kernel) (by decide +kernel)
set_option maxRecDepth 20000 in
theorem gX11_purse_X11_allWithin : GoodIn wsX11_purse (va_wsS RX11 107 yX11_allWithin wsX11_allWithin) := goodIn_app (goodIn_of _ (by decide +kernel)) ggX11_purse_X11_allWithin
set_option maxRecDepth 20000 in
theorem ggX11_purse_X8_purseOf : GoodIn wsX11_purse wsX8_purseOf := goodIn_r _ [16, 17, 18, 19, 15, 20, 21, 22, 4, 23, 39, 40, 41, 42, 43, 44, 45, 46, 47, 48] (by decide +kernel) (by decide +kernel)
set_option maxRecDepth 20000 in
theorem gX11_purse_X8_purseOf : GoodIn wsX11_purse (wsV RX11 111 RX8 yX8_purseOf wsX8_purseOf) := goodIn_app (goodIn_of _ (by decide +kernel)) ggX11_purse_X8_purseOf
set_option maxRecDepth 20000 in
theorem ggX11_purse_X8_fillPurse : GoodIn wsX11_purse wsX8_fillPurse := goodIn_r _ [27, 21, 39, 40, 41, 42, 43, 44, 45, 46, 47, 48] (by decide +kernel) (by decide +kernel)
set_option maxRecDepth 20000 in
theorem gX11_purse_X8_fillPurse : GoodIn wsX11_purse (wsV RX11 115 RX8 yX8_fillPurse wsX8_fillPurse) := goodIn_app (goodIn_of _ (by decide +kernel)) ggX11_purse_X8_fillPurse
theorem dX11_purse_0 : decode cX11_purse 0 = .ok (.iload_n 1, 1) := by decide +kernel
theorem dX11_purse_1 : decode cX11_purse 1 = .ok (.invokestatic 85, 3) := by decide +kernel
theorem dX11_purse_4 : decode cX11_purse 4 = .ok (.ifCond .ne 5, 3) := by decide +kernel
theorem dX11_purse_7 : decode cX11_purse 7 = .ok (.iconst (-1), 1) := by decide +kernel
theorem dX11_purse_8 : decode cX11_purse 8 = .ok (.ireturn, 1) := by decide +kernel
theorem dX11_purse_9 : decode cX11_purse 9 = .ok (.iload_n 2, 1) := by decide +kernel
theorem dX11_purse_10 : decode cX11_purse 10 = .ok (.iload_n 3, 1) := by decide +kernel
theorem dX11_purse_11 : decode cX11_purse 11 = .ok (.iload 4, 2) := by decide +kernel
theorem dX11_purse_13 : decode cX11_purse 13 = .ok (.bipush 9, 2) := by decide +kernel
theorem dX11_purse_15 : decode cX11_purse 15 = .ok (.invokestatic 107, 3) := by decide +kernel
theorem dX11_purse_18 : decode cX11_purse 18 = .ok (.ifCond .ne 6, 3) := by decide +kernel
theorem dX11_purse_21 : decode cX11_purse 21 = .ok (.bipush (-2), 2) := by decide +kernel
theorem dX11_purse_23 : decode cX11_purse 23 = .ok (.ireturn, 1) := by decide +kernel
theorem dX11_purse_24 : decode cX11_purse 24 = .ok (.aload_n 0, 1) := by decide +kernel
theorem dX11_purse_25 : decode cX11_purse 25 = .ok (.getfield 12, 3) := by decide +kernel
theorem dX11_purse_28 : decode cX11_purse 28 = .ok (.iload_n 1, 1) := by decide +kernel
theorem dX11_purse_29 : decode cX11_purse 29 = .ok (.invokevirtual 111, 3) := by decide +kernel
theorem dX11_purse_32 : decode cX11_purse 32 = .ok (.istore 5, 2) := by decide +kernel
theorem dX11_purse_34 : decode cX11_purse 34 = .ok (.aload_n 0, 1) := by decide +kernel
theorem dX11_purse_35 : decode cX11_purse 35 = .ok (.getfield 12, 3) := by decide +kernel
theorem dX11_purse_38 : decode cX11_purse 38 = .ok (.iload_n 1, 1) := by decide +kernel
theorem dX11_purse_39 : decode cX11_purse 39 = .ok (.iload_n 2, 1) := by decide +kernel
theorem dX11_purse_40 : decode cX11_purse 40 = .ok (.iload_n 3, 1) := by decide +kernel
theorem dX11_purse_41 : decode cX11_purse 41 = .ok (.iload 4, 2) := by decide +kernel
theorem dX11_purse_43 : decode cX11_purse 43 = .ok (.invokevirtual 115, 3) := by decide +kernel
theorem dX11_purse_46 : decode cX11_purse 46 = .ok (.iload 5, 2) := by decide +kernel
theorem dX11_purse_48 : decode cX11_purse 48 = .ok (.ireturn, 1) := by decide +kernel
set_option maxRecDepth 20000 in
theorem ggX11_likes_X11_allWithin : GoodIn wsX11_likes wsX11_allWithin := goodIn_r _ [6, 7, 8, 5, 9] (by decide +kernel) (by decide +kernel)
set_option maxRecDepth 20000 in
theorem gX11_likes_X11_allWithin : GoodIn wsX11_likes (va_wsS RX11 107 yX11_allWithin wsX11_allWithin) := goodIn_app (goodIn_of _ (by decide +kernel)) ggX11_likes_X11_allWithin
set_option maxRecDepth 20000 in
theorem ggX11_likes_X11_code : GoodIn wsX11_likes wsX11_code := goodIn_r _ [12] (by decide +kernel) (by decide +kernel)
set_option maxRecDepth 20000 in
theorem gX11_likes_X11_code : GoodIn wsX11_likes (va_wsS RX11 121 yX11_code wsX11_code) := goodIn_app (goodIn_of _ (by decide +kernel)) ggX11_likes_X11_code
theorem dX11_likes_0 : decode cX11_likes 0 = .ok (.iload_n 1, 1) := by decide +kernel
theorem dX11_likes_1 : decode cX11_likes 1 = .ok (.iload_n 2, 1) := by decide +kernel
theorem dX11_likes_2 : decode cX11_likes 2 = .ok (.iload_n 3, 1) := by decide +kernel
theorem dX11_likes_3 : decode cX11_likes 3 = .ok (.iconst 3, 1) := by decide +kernel
theorem dX11_likes_4 : decode cX11_likes 4 = .ok (.invokestatic 107, 3) := by decide +kernel
theorem dX11_likes_7 : decode cX11_likes 7 = .ok (.ifCond .ne 6, 3) := by decide +kernel
theorem dX11_likes_10 : decode cX11_likes 10 = .ok (.bipush (-2), 2) := by decide +kernel
theorem dX11_likes_12 : decode cX11_likes 12 = .ok (.ireturn, 1) := by decide +kernel
theorem dX11_likes_13 : decode cX11_likes 13 = .ok (.aload_n 0, 1) := by decide +kernel
theorem dX11_likes_14 : decode cX11_likes 14 = .ok (.getfield 12, 3) := by decide +kernel
theorem dX11_likes_17 : decode cX11_likes 17 = .ok (.getfield 118, 3) := by decide +kernel
theorem dX11_likes_20 : decode cX11_likes 20 = .ok (.iconst 0, 1) := by decide +kernel
theorem dX11_likes_21 : decode cX11_likes 21 = .ok (.iaload, 1) := by decide +kernel
theorem dX11_likes_22 : decode cX11_likes 22 = .ok (.aload_n 0, 1) := by decide +kernel
theorem dX11_likes_23 : decode cX11_likes 23 = .ok (.getfield 12, 3) := by decide +kernel
theorem dX11_likes_26 : decode cX11_likes 26 = .ok (.getfield 118, 3) := by decide +kernel
theorem dX11_likes_29 : decode cX11_likes 29 = .ok (.iconst 1, 1) := by decide +kernel
theorem dX11_likes_30 : decode cX11_likes 30 = .ok (.iaload, 1) := by decide +kernel
theorem dX11_likes_31 : decode cX11_likes 31 = .ok (.aload_n 0, 1) := by decide +kernel
theorem dX11_likes_32 : decode cX11_likes 32 = .ok (.getfield 12, 3) := by decide +kernel
theorem dX11_likes_35 : decode cX11_likes 35 = .ok (.getfield 118, 3) := by decide +kernel
theorem dX11_likes_38 : decode cX11_likes 38 = .ok (.iconst 2, 1) := by decide +kernel
theorem dX11_likes_39 : decode cX11_likes 39 = .ok (.iaload, 1) := by decide +kernel
theorem dX11_likes_40 : decode cX11_likes 40 = .ok (.invokestatic 121, 3) := by decide +kernel
theorem dX11_likes_43 : decode cX11_likes 43 = .ok (.istore 4, 2) := by decide +kernel
theorem dX11_likes_45 : decode cX11_likes 45 = .ok (.aload_n 0, 1) := by decide +kernel
theorem dX11_likes_46 : decode cX11_likes 46 = .ok (.getfield 12, 3) := by decide +kernel
theorem dX11_likes_49 : decode cX11_likes 49 = .ok (.getfield 118, 3) := by decide +kernel
theorem dX11_likes_52 : decode cX11_likes 52 = .ok (.iconst 0, 1) := by decide +kernel
theorem dX11_likes_53 : decode cX11_likes 53 = .ok (.iload_n 1, 1) := by decide +kernel
theorem dX11_likes_54 : decode cX11_likes 54 = .ok (.iastore, 1) := by decide +kernel
theorem dX11_likes_55 : decode cX11_likes 55 = .ok (.aload_n 0, 1) := by decide +kernel
theorem dX11_likes_56 : decode cX11_likes 56 = .ok (.getfield 12, 3) := by decide +kernel
theorem dX11_likes_59 : decode cX11_likes 59 = .ok (.getfield 118, 3) := by decide +kernel
theorem dX11_likes_62 : decode cX11_likes 62 = .ok (.iconst 1, 1) := by decide +kernel
theorem dX11_likes_63 : decode cX11_likes 63 = .ok (.iload_n 2, 1) := by decide +kernel
theorem dX11_likes_64 : decode cX11_likes 64 = .ok (.iastore, 1) := by decide +kernel
theorem dX11_likes_65 : decode cX11_likes 65 = .ok (.aload_n 0, 1) := by decide +kernel
theorem dX11_likes_66 : decode cX11_likes 66 = .ok (.getfield 12, 3) := by decide +kernel
theorem dX11_likes_69 : decode cX11_likes 69 = .ok (.getfield 118, 3) := by decide +kernel
theorem dX11_likes_72 : decode cX11_likes 72 = .ok (.iconst 2, 1) := by decide +kernel
theorem dX11_likes_73 : decode cX11_likes 73 = .ok (.iload_n 3, 1) := by decide +kernel
theorem dX11_likes_74 : decode cX11_likes 74 = .ok (.iastore, 1) := by decide +kernel
theorem dX11_likes_75 : decode cX11_likes 75 = .ok (.iload 4, 2) := by decide +kernel
theorem dX11_likes_77 : decode cX11_likes 77 = .ok (.ireturn, 1) := by decide +kernel
set_option maxRecDepth 20000 in
theorem ggX11_wind_X11_isCell : GoodIn wsX11_wind wsX11_isCell := goodIn_r _ [9, 10, 11, 8, 12] (by decide +kernel) (by decide +kernel)
set_option maxRecDepth 20000 in
theorem gX11_wind_X11_isCell : GoodIn wsX11_wind (va_wsS RX11 89 yX11_isCell wsX11_isCell) := goodIn_app (goodIn_of _ (by decide +kernel)) ggX11_wind_X11_isCell
set_option maxRecDepth 20000 in
theorem ggX11_wind_X11_within : GoodIn wsX11_wind wsX11_within := goodIn_r _ [12] (by decide +kernel) (by decide +kernel)
set_option maxRecDepth 20000 in
theorem gX11_wind_X11_within : GoodIn wsX11_wind (va_wsS RX11 92 yX11_within wsX11_within) := goodIn_app (goodIn_of _ (by decide +kernel)) ggX11_wind_X11_within
set_option maxRecDepth 20000 in
theorem ggX11_wind_X11_code : GoodIn wsX11_wind wsX11_code := goodIn_r _ [15] (by decide +kernel) (by decide +kernel)
set_option maxRecDepth 20000 in
theorem gX11_wind_X11_code : GoodIn wsX11_wind (va_wsS RX11 121 yX11_code wsX11_code) := goodIn_app (goodIn_of _ (by decide +kernel)) ggX11_wind_X11_code
set_option maxRecDepth 20000 in
theorem ggX11_wind_X10_put : GoodIn wsX11_wind wsX10_put := goodIn_r _ [20, 21, 22, 23, 45, 46, 47] (by decide +kernel) (by decide +kernel)
set_option maxRecDepth 20000 in
theorem gX11_wind_X10_put : GoodIn wsX11_wind (wsV RX11 137 RX10 yX10_put wsX10_put) := goodIn_app (goodIn_of _ (by decide +kernel)) ggX11_wind_X10_put
theorem dX11_wind_0 : decode cX11_wind 0 = .ok (.iload_n 1, 1) := by decide +kernel
theorem dX11_wind_1 : decode cX11_wind 1 = .ok (.invokestatic 89, 3) := by decide +kernel
theorem dX11_wind_4 : decode cX11_wind 4 = .ok (.ifCond .ne 5, 3) := by decide +kernel
theorem dX11_wind_7 : decode cX11_wind 7 = .ok (.iconst (-1), 1) := by decide +kernel
theorem dX11_wind_8 : decode cX11_wind 8 = .ok (.ireturn, 1) := by decide +kernel
theorem dX11_wind_9 : decode cX11_wind 9 = .ok (.iload_n 2, 1) := by decide +kernel
theorem dX11_wind_10 : decode cX11_wind 10 = .ok (.iconst 0, 1) := by decide +kernel
theorem dX11_wind_11 : decode cX11_wind 11 = .ok (.iconst 1, 1) := by decide +kernel
theorem dX11_wind_12 : decode cX11_wind 12 = .ok (.invokestatic 92, 3) := by decide +kernel
theorem dX11_wind_15 : decode cX11_wind 15 = .ok (.ifCond .eq 13, 3) := by decide +kernel
theorem dX11_wind_18 : decode cX11_wind 18 = .ok (.iload_n 3, 1) := by decide +kernel
theorem dX11_wind_19 : decode cX11_wind 19 = .ok (.iconst 1, 1) := by decide +kernel
theorem dX11_wind_20 : decode cX11_wind 20 = .ok (.bipush 9, 2) := by decide +kernel
theorem dX11_wind_22 : decode cX11_wind 22 = .ok (.invokestatic 92, 3) := by decide +kernel
theorem dX11_wind_25 : decode cX11_wind 25 = .ok (.ifCond .ne 6, 3) := by decide +kernel
theorem dX11_wind_28 : decode cX11_wind 28 = .ok (.bipush (-2), 2) := by decide +kernel
theorem dX11_wind_30 : decode cX11_wind 30 = .ok (.ireturn, 1) := by decide +kernel
theorem dX11_wind_31 : decode cX11_wind 31 = .ok (.aload_n 0, 1) := by decide +kernel
theorem dX11_wind_32 : decode cX11_wind 32 = .ok (.getfield 12, 3) := by decide +kernel
theorem dX11_wind_35 : decode cX11_wind 35 = .ok (.getfield 125, 3) := by decide +kernel
theorem dX11_wind_38 : decode cX11_wind 38 = .ok (.getfield 128, 3) := by decide +kernel
theorem dX11_wind_41 : decode cX11_wind 41 = .ok (.aload_n 0, 1) := by decide +kernel
theorem dX11_wind_42 : decode cX11_wind 42 = .ok (.getfield 12, 3) := by decide +kernel
theorem dX11_wind_45 : decode cX11_wind 45 = .ok (.getfield 125, 3) := by decide +kernel
theorem dX11_wind_48 : decode cX11_wind 48 = .ok (.getfield 131, 3) := by decide +kernel
theorem dX11_wind_51 : decode cX11_wind 51 = .ok (.aload_n 0, 1) := by decide +kernel
theorem dX11_wind_52 : decode cX11_wind 52 = .ok (.getfield 12, 3) := by decide +kernel
theorem dX11_wind_55 : decode cX11_wind 55 = .ok (.getfield 125, 3) := by decide +kernel
theorem dX11_wind_58 : decode cX11_wind 58 = .ok (.getfield 134, 3) := by decide +kernel
theorem dX11_wind_61 : decode cX11_wind 61 = .ok (.invokestatic 121, 3) := by decide +kernel
theorem dX11_wind_64 : decode cX11_wind 64 = .ok (.istore 4, 2) := by decide +kernel
theorem dX11_wind_66 : decode cX11_wind 66 = .ok (.aload_n 0, 1) := by decide +kernel
theorem dX11_wind_67 : decode cX11_wind 67 = .ok (.getfield 12, 3) := by decide +kernel
theorem dX11_wind_70 : decode cX11_wind 70 = .ok (.getfield 125, 3) := by decide +kernel
theorem dX11_wind_73 : decode cX11_wind 73 = .ok (.iload_n 1, 1) := by decide +kernel
theorem dX11_wind_74 : decode cX11_wind 74 = .ok (.iload_n 2, 1) := by decide +kernel
theorem dX11_wind_75 : decode cX11_wind 75 = .ok (.iload_n 3, 1) := by decide +kernel
theorem dX11_wind_76 : decode cX11_wind 76 = .ok (.invokevirtual 137, 3) := by decide +kernel
theorem dX11_wind_79 : decode cX11_wind 79 = .ok (.iload 4, 2) := by decide +kernel
theorem dX11_wind_81 : decode cX11_wind 81 = .ok (.ireturn, 1) := by decide +kernel
set_option maxRecDepth 20000 in
theorem ggX11_say_X11_within : GoodIn wsX11_say wsX11_within := goodIn_r _ [6] (by decide +kernel) (by decide +kernel)
set_option maxRecDepth 20000 in
theorem gX11_say_X11_within : GoodIn wsX11_say (va_wsS RX11 92 yX11_within wsX11_within) := goodIn_app (goodIn_of _ (by decide +kernel)) ggX11_say_X11_within
set_option maxRecDepth 20000 in
theorem ggX11_say_X3_write : GoodIn wsX11_say wsX3_write := goodIn_r _ [11, 12, 13, 25, 26] (by decide +kernel) (by decide +kernel)
set_option maxRecDepth 20000 in
theorem gX11_say_X3_write : GoodIn wsX11_say (wsV RX11 144 RX3 yX3_write wsX3_write) := goodIn_app (goodIn_of _ (by decide +kernel)) ggX11_say_X3_write
theorem dX11_say_0 : decode cX11_say 0 = .ok (.iload_n 1, 1) := by decide +kernel
theorem dX11_say_1 : decode cX11_say 1 = .ok (.bipush 33, 2) := by decide +kernel
theorem dX11_say_3 : decode cX11_say 3 = .ok (.bipush 126, 2) := by decide +kernel
theorem dX11_say_5 : decode cX11_say 5 = .ok (.invokestatic 92, 3) := by decide +kernel
theorem dX11_say_8 : decode cX11_say 8 = .ok (.ifCond .ne 6, 3) := by decide +kernel
theorem dX11_say_11 : decode cX11_say 11 = .ok (.bipush (-2), 2) := by decide +kernel
theorem dX11_say_13 : decode cX11_say 13 = .ok (.ireturn, 1) := by decide +kernel
theorem dX11_say_14 : decode cX11_say 14 = .ok (.aload_n 0, 1) := by decide +kernel
theorem dX11_say_15 : decode cX11_say 15 = .ok (.getfield 19, 3) := by decide +kernel
theorem dX11_say_18 : decode cX11_say 18 = .ok (.getfield 141, 3) := by decide +kernel
theorem dX11_say_21 : decode cX11_say 21 = .ok (.bipush 60, 2) := by decide +kernel
theorem dX11_say_23 : decode cX11_say 23 = .ok (.if_icmp .lt 6, 3) := by decide +kernel
theorem dX11_say_26 : decode cX11_say 26 = .ok (.bipush (-4), 2) := by decide +kernel
theorem dX11_say_28 : decode cX11_say 28 = .ok (.ireturn, 1) := by decide +kernel
theorem dX11_say_29 : decode cX11_say 29 = .ok (.aload_n 0, 1) := by decide +kernel
theorem dX11_say_30 : decode cX11_say 30 = .ok (.getfield 19, 3) := by decide +kernel
theorem dX11_say_33 : decode cX11_say 33 = .ok (.iload_n 1, 1) := by decide +kernel
theorem dX11_say_34 : decode cX11_say 34 = .ok (.invokevirtual 144, 3) := by decide +kernel
theorem dX11_say_37 : decode cX11_say 37 = .ok (.aload_n 0, 1) := by decide +kernel
theorem dX11_say_38 : decode cX11_say 38 = .ok (.getfield 19, 3) := by decide +kernel
theorem dX11_say_41 : decode cX11_say 41 = .ok (.getfield 141, 3) := by decide +kernel
theorem dX11_say_44 : decode cX11_say 44 = .ok (.ireturn, 1) := by decide +kernel
set_option maxRecDepth 20000 in
theorem ggX11_wipe_X3_clear : GoodIn wsX11_wipe wsX3_clear := goodIn_r _ [6, 7, 19, 20] (by decide +kernel) (by decide +kernel)
set_option maxRecDepth 20000 in
theorem gX11_wipe_X3_clear : GoodIn wsX11_wipe (wsV RX11 148 RX3 yX3_clear wsX3_clear) := goodIn_app (goodIn_of _ (by decide +kernel)) ggX11_wipe_X3_clear
theorem dX11_wipe_0 : decode cX11_wipe 0 = .ok (.aload_n 0, 1) := by decide +kernel
theorem dX11_wipe_1 : decode cX11_wipe 1 = .ok (.getfield 19, 3) := by decide +kernel
theorem dX11_wipe_4 : decode cX11_wipe 4 = .ok (.invokevirtual 148, 3) := by decide +kernel
theorem dX11_wipe_7 : decode cX11_wipe 7 = .ok (.ireturn, 1) := by decide +kernel
set_option maxRecDepth 20000 in
theorem ggX11_fault_X3_faultyPlace : GoodIn wsX11_fault wsX3_faultyPlace := goodIn_r _ [6, 7, 8, 9, 10, 5, 11, 12, 13, 14, 15, 16, 17, 18, 19, 20, 21, 22, 23, 24, 25, 26, 38, 39] (by decide +kernel) (by decide +kernel)
set_option maxRecDepth 20000 in
theorem gX11_fault_X3_faultyPlace : GoodIn wsX11_fault (wsV RX11 152 RX3 yX3_faultyPlace wsX3_faultyPlace) := goodIn_app (goodIn_of _ (by decide +kernel)) ggX11_fault_X3_faultyPlace
theorem dX11_fault_0 : decode cX11_fault 0 = .ok (.aload_n 0, 1) := by decide +kernel
theorem dX11_fault_1 : decode cX11_fault 1 = .ok (.getfield 19, 3) := by decide +kernel
theorem dX11_fault_4 : decode cX11_fault 4 = .ok (.invokevirtual 152, 3) := by decide +kernel
theorem dX11_fault_7 : decode cX11_fault 7 = .ok (.ireturn, 1) := by decide +kernel
set_option maxRecDepth 20000 in
theorem ggX11_judge_X11_within : GoodIn wsX11_judge wsX11_within := goodIn_r _ [9] (by decide +kernel) (by decide +kernel)
set_option maxRecDepth 20000 in
theorem gX11_judge_X11_within : GoodIn wsX11_judge (va_wsS RX11 92 yX11_within wsX11_within) := goodIn_app (goodIn_of _ (by decide +kernel)) ggX11_judge_X11_within
set_option maxRecDepth 20000 in
theorem ggX11_judge_X3_faultyPlace : GoodIn wsX11_judge wsX3_faultyPlace := goodIn_r _ [14, 15, 16, 17, 18, 13, 19, 20, 21, 22, 23, 8, 24, 6, 7, 9, 25, 26, 27, 28, 29, 30, 223, 224] (by decide +kernel) (by decide +kernel)
set_option maxRecDepth 20000 in
theorem gX11_judge_X3_faultyPlace : GoodIn wsX11_judge (wsV RX11 152 RX3 yX3_faultyPlace wsX3_faultyPlace) := goodIn_app (goodIn_of _ (by decide +kernel)) ggX11_judge_X3_faultyPlace
set_option maxRecDepth 20000 in
theorem ggX11_judge_X9_read : GoodIn wsX11_judge wsX9_read := goodIn_r _ [35, 36, 37, 38, 39, 40, 41, 34, 42, 43, 44, 45, 46, 47, 48, 49, 50, 51, 52, 53, 54, 55, 56, 57, 58, 59, 60, 61, 62, 63, 64, 65, 66, 67, 68, 69, 70, 71, 72, 73, 74, 75, 76, 77, 78, 79, 80, 18, 13, 19, 20, 21, 22, 23, 8, 24, 6, 7, 9, 25, 26, 27, 28, 29, 30, 81, 82, 83, 84, 85, 86, 87, 88, 89, 90, 91, 92, 93, 94, 95, 96, 97, 98, 99, 100, 101, 102, 103, 104, 105, 106, 107, 108, 109, 110, 111, 112, 113, 114, 115, 116, 117, 118, 119, 120, 121, 122, 123, 124, 125, 126, 127, 128, 129, 130, 131, 132, 133, 134, 135, 136, 137, 138, 139, 140, 141, 142, 143, 144, 145, 146, 147, 148, 149, 150, 151, 152, 153, 154, 155, 156, 157, 158, 159, 160, 161, 162, 163, 164, 165, 166, 167, 168, 169, 170, 171, 172, 173, 174, 175, 176, 177, 178, 179, 180, 181, 182, 183, 184, 185, 186, 187, 188, 189, 190, 191, 192, 193, 194, 195, 196, 197, 198, 199, 200, 201, 202, 203, 204, 223, 224, 216, 217, 218, 219, 220, 221, 222, 225, 226, 227, 228, 229, 230, 231, 232, 233, 234, 235, 236, 237] (by decide +kernel) (by decide +kernel)
set_option maxRecDepth 20000 in
theorem gX11_judge_X9_read : GoodIn wsX11_judge (wsV RX11 155 RX9 yX9_read wsX9_read) := goodIn_app (goodIn_of _ (by decide +kernel)) ggX11_judge_X9_read
theorem dX11_judge_0 : decode cX11_judge 0 = .ok (.iload_n 1, 1) := by decide +kernel
theorem dX11_judge_1 : decode cX11_judge 1 = .ok (.iconst 0, 1) := by decide +kernel
theorem dX11_judge_2 : decode cX11_judge 2 = .ok (.iconst 1, 1) := by decide +kernel
theorem dX11_judge_3 : decode cX11_judge 3 = .ok (.invokestatic 92, 3) := by decide +kernel
theorem dX11_judge_6 : decode cX11_judge 6 = .ok (.ifCond .ne 6, 3) := by decide +kernel
theorem dX11_judge_9 : decode cX11_judge 9 = .ok (.bipush (-2), 2) := by decide +kernel
theorem dX11_judge_11 : decode cX11_judge 11 = .ok (.ireturn, 1) := by decide +kernel
theorem dX11_judge_12 : decode cX11_judge 12 = .ok (.aload_n 0, 1) := by decide +kernel
theorem dX11_judge_13 : decode cX11_judge 13 = .ok (.getfield 19, 3) := by decide +kernel
theorem dX11_judge_16 : decode cX11_judge 16 = .ok (.invokevirtual 152, 3) := by decide +kernel
theorem dX11_judge_19 : decode cX11_judge 19 = .ok (.bipush (-6), 2) := by decide +kernel
theorem dX11_judge_21 : decode cX11_judge 21 = .ok (.if_icmp .eq 6, 3) := by decide +kernel
theorem dX11_judge_24 : decode cX11_judge 24 = .ok (.bipush (-5), 2) := by decide +kernel
theorem dX11_judge_26 : decode cX11_judge 26 = .ok (.ireturn, 1) := by decide +kernel
theorem dX11_judge_27 : decode cX11_judge 27 = .ok (.aload_n 0, 1) := by decide +kernel
theorem dX11_judge_28 : decode cX11_judge 28 = .ok (.getfield 39, 3) := by decide +kernel
theorem dX11_judge_31 : decode cX11_judge 31 = .ok (.aload_n 0, 1) := by decide +kernel
theorem dX11_judge_32 : decode cX11_judge 32 = .ok (.getfield 19, 3) := by decide +kernel
theorem dX11_judge_35 : decode cX11_judge 35 = .ok (.aload_n 0, 1) := by decide +kernel
theorem dX11_judge_36 : decode cX11_judge 36 = .ok (.getfield 12, 3) := by decide +kernel
theorem dX11_judge_39 : decode cX11_judge 39 = .ok (.invokevirtual 155, 3) := by decide +kernel
theorem dX11_judge_42 : decode cX11_judge 42 = .ok (.iload_n 1, 1) := by decide +kernel
theorem dX11_judge_43 : decode cX11_judge 43 = .ok (.ifCond .ne 13, 3) := by decide +kernel
theorem dX11_judge_46 : decode cX11_judge 46 = .ok (.aload_n 0, 1) := by decide +kernel
theorem dX11_judge_47 : decode cX11_judge 47 = .ok (.getfield 39, 3) := by decide +kernel
theorem dX11_judge_50 : decode cX11_judge 50 = .ok (.getfield 159, 3) := by decide +kernel
theorem dX11_judge_53 : decode cX11_judge 53 = .ok (.goto 10, 3) := by decide +kernel
theorem dX11_judge_56 : decode cX11_judge 56 = .ok (.aload_n 0, 1) := by decide +kernel
theorem dX11_judge_57 : decode cX11_judge 57 = .ok (.getfield 39, 3) := by decide +kernel
theorem dX11_judge_60 : decode cX11_judge 60 = .ok (.getfield 162, 3) := by decide +kernel
theorem dX11_judge_63 : decode cX11_judge 63 = .ok (.ireturn, 1) := by decide +kernel
set_option maxRecDepth 20000 in
theorem ggX11_done_X11_textCanBe : GoodIn wsX11_done wsX11_textCanBe := goodIn_r _ [10, 4, 2, 1, 11, 12, 13, 14, 15, 16, 17, 18, 19, 20, 21, 22, 23, 24, 25, 9, 26, 27, 28, 29, 30, 31, 32, 33, 34, 35, 36, 37, 38, 39, 40, 41, 42, 43, 44, 45, 46, 47, 48, 49, 50, 51, 52, 53, 54, 55, 56, 57, 58, 59, 60, 61, 62, 63, 64, 65, 66, 67, 68, 69, 70, 71, 72, 73, 74, 75, 76, 77, 78, 79, 80, 81, 82, 83, 84, 85, 86, 87, 88, 89, 90, 91, 92, 93, 94, 95, 96, 97, 98, 99, 100, 101, 102, 103, 104, 105, 106, 107, 108, 109, 110, 111, 112, 113, 114, 115, 116, 117, 118, 119, 120, 121, 122, 123, 124, 125, 126, 127, 128, 129, 130, 131, 132, 133, 134, 135, 136, 137, 138, 139, 140, 141, 142, 143, 144, 145, 146, 147, 148, 149, 150, 151, 152, 153, 154, 155, 156, 157, 158, 159, 160, 161, 162, 163, 164, 165, 166, 167, 168, 169, 170, 171, 172, 173, 174, 175, 176, 177, 178, 179, 180, 181, 182, 183, 184, 185, 186, 187, 188, 189, 190, 191, 192, 193, 194, 195, 196, 197, 198, 199, 200, 201, 202, 203, 204, 205, 206, 207, 208, 209, 215, 216, 217, 218, 219, 220, 221, 222, 223, 224, 225, 226, 227, 228, 229, 230, 231, 232, 233, 234, 235, 236, 237, 238, 239, 240, 241, 242, 243, 244, 245, 246, 247] (by decide +kernel) (by decide +kernel)
set_option maxRecDepth 20000 in
theorem gX11_done_X11_textCanBe : GoodIn wsX11_done (wsV RX11 165 RX11 yX11_textCanBe wsX11_textCanBe) := goodIn_app (goodIn_of _ (by decide +kernel)) ggX11_done_X11_textCanBe
set_option maxRecDepth 20000 in
theorem ggX11_done_X8_become : GoodIn wsX11_done wsX8_become := goodIn_r _ [58, 59, 60, 61, 62, 63, 64, 65, 66, 67, 68, 69, 70, 71, 72, 73, 74, 75, 76, 77, 78, 79, 80, 81, 82, 83, 84, 235, 236, 237, 238, 239, 240, 241, 242, 243, 244, 245, 246, 247] (by decide +kernel) (by decide +kernel)
set_option maxRecDepth 20000 in
theorem gX11_done_X8_become : GoodIn wsX11_done (wsV RX11 170 RX8 yX8_become wsX8_become) := goodIn_app (goodIn_of _ (by decide +kernel)) ggX11_done_X8_become
set_option maxRecDepth 20000 in
theorem ggX11_done_X3_clear : GoodIn wsX11_done wsX3_clear := goodIn_r _ [214, 17, 233, 234] (by decide +kernel) (by decide +kernel)
set_option maxRecDepth 20000 in
theorem gX11_done_X3_clear : GoodIn wsX11_done (wsV RX11 148 RX3 yX3_clear wsX3_clear) := goodIn_app (goodIn_of _ (by decide +kernel)) ggX11_done_X3_clear
theorem dX11_done_0 : decode cX11_done 0 = .ok (.aload_n 0, 1) := by decide +kernel
theorem dX11_done_1 : decode cX11_done 1 = .ok (.invokevirtual 165, 3) := by decide +kernel
theorem dX11_done_4 : decode cX11_done 4 = .ok (.ifCond .ne 6, 3) := by decide +kernel
theorem dX11_done_7 : decode cX11_done 7 = .ok (.bipush (-5), 2) := by decide +kernel
theorem dX11_done_9 : decode cX11_done 9 = .ok (.ireturn, 1) := by decide +kernel
theorem dX11_done_10 : decode cX11_done 10 = .ok (.aload_n 0, 1) := by decide +kernel
theorem dX11_done_11 : decode cX11_done 11 = .ok (.getfield 12, 3) := by decide +kernel
theorem dX11_done_14 : decode cX11_done 14 = .ok (.aload_n 0, 1) := by decide +kernel
theorem dX11_done_15 : decode cX11_done 15 = .ok (.getfield 39, 3) := by decide +kernel
theorem dX11_done_18 : decode cX11_done 18 = .ok (.getfield 169, 3) := by decide +kernel
theorem dX11_done_21 : decode cX11_done 21 = .ok (.invokevirtual 170, 3) := by decide +kernel
theorem dX11_done_24 : decode cX11_done 24 = .ok (.aload_n 0, 1) := by decide +kernel
theorem dX11_done_25 : decode cX11_done 25 = .ok (.getfield 19, 3) := by decide +kernel
theorem dX11_done_28 : decode cX11_done 28 = .ok (.invokevirtual 148, 3) := by decide +kernel
theorem dX11_done_31 : decode cX11_done 31 = .ok (.pop, 1) := by decide +kernel
theorem dX11_done_32 : decode cX11_done 32 = .ok (.aload_n 0, 1) := by decide +kernel
theorem dX11_done_33 : decode cX11_done 33 = .ok (.getfield 39, 3) := by decide +kernel
theorem dX11_done_36 : decode cX11_done 36 = .ok (.getfield 174, 3) := by decide +kernel
theorem dX11_done_39 : decode cX11_done 39 = .ok (.ireturn, 1) := by decide +kernel
set_option maxRecDepth 20000 in
theorem ggX11_behind_X11_isWalker : GoodIn wsX11_behind wsX11_isWalker := goodIn_r _ [6, 7, 8, 5, 9] (by decide +kernel) (by decide +kernel)
set_option maxRecDepth 20000 in
theorem gX11_behind_X11_isWalker : GoodIn wsX11_behind (va_wsS RX11 85 yX11_isWalker wsX11_isWalker) := goodIn_app (goodIn_of _ (by decide +kernel)) ggX11_behind_X11_isWalker
set_option maxRecDepth 20000 in
theorem ggX11_behind_X11_within : GoodIn wsX11_behind wsX11_within := goodIn_r _ [9] (by decide +kernel) (by decide +kernel)
set_option maxRecDepth 20000 in
theorem gX11_behind_X11_within : GoodIn wsX11_behind (va_wsS RX11 92 yX11_within wsX11_within) := goodIn_app (goodIn_of _ (by decide +kernel)) ggX11_behind_X11_within
set_option maxRecDepth 20000 in
theorem ggX11_behind_X11_textCanBe : GoodIn wsX11_behind wsX11_textCanBe := goodIn_r _ [13, 14, 1, 15, 16, 17, 18, 19, 20, 21, 22, 23, 24, 25, 26, 27, 28, 29, 4, 5, 6, 7, 8, 9, 30, 31, 32, 33, 34, 35, 36, 37, 38, 39, 40, 41, 42, 43, 44, 45, 46, 47, 48, 49, 50, 51, 52, 53, 54, 55, 56, 57, 58, 59, 60, 61, 62, 63, 64, 65, 66, 67, 68, 69, 70, 71, 72, 73, 74, 75, 76, 77, 78, 79, 80, 81, 82, 83, 84, 85, 86, 87, 88, 89, 90, 91, 92, 93, 94, 95, 96, 97, 98, 99, 100, 101, 102, 103, 104, 105, 106, 107, 108, 109, 110, 111, 112, 113, 114, 115, 116, 117, 118, 119, 120, 121, 122, 123, 124, 125, 126, 127, 128, 129, 130, 131, 132, 133, 134, 135, 136, 137, 138, 139, 140, 141, 142, 143, 144, 145, 146, 147, 148, 149, 150, 151, 152, 153, 154, 155, 156, 157, 158, 159, 160, 161, 162, 163, 164, 165, 166, 167, 168, 169, 170, 171, 172, 173, 174, 175, 176, 177, 178, 179, 180, 181, 182, 183, 184, 185, 186, 187, 188, 189, 190, 191, 192, 193, 194, 195, 196, 197, 198, 199, 200, 201, 202, 203, 204, 205, 206, 207, 208, 209, 214, 215, 216, 217, 218, 219, 220, 221, 222, 223, 224, 225, 226, 227, 228, 229, 230, 231, 232, 233, 234, 235, 236, 237, 238, 239, 240, 241, 242, 243, 244, 245, 246] (by decide +kernel) (by decide +kernel)
set_option maxRecDepth 20000 in
theorem gX11_behind_X11_textCanBe : GoodIn wsX11_behind (wsV RX11 165 RX11 yX11_textCanBe wsX11_textCanBe) := goodIn_app (goodIn_of _ (by decide +kernel)) ggX11_behind_X11_textCanBe
set_option maxRecDepth 20000 in
theorem ggX11_behind_X8_ofWalker : GoodIn wsX11_behind wsX8_ofWalker := goodIn_r _ [213, 60, 65, 66, 67, 68, 113, 114, 115, 57, 116, 69, 234, 235, 236, 237, 238, 239, 240, 241, 242, 243] (by decide +kernel) (by decide +kernel)
set_option maxRecDepth 20000 in
theorem gX11_behind_X8_ofWalker : GoodIn wsX11_behind (wsV RX11 177 RX8 yX8_ofWalker wsX8_ofWalker) := goodIn_app (goodIn_of _ (by decide +kernel)) ggX11_behind_X8_ofWalker
theorem dX11_behind_0 : decode cX11_behind 0 = .ok (.iload_n 1, 1) := by decide +kernel
theorem dX11_behind_1 : decode cX11_behind 1 = .ok (.invokestatic 85, 3) := by decide +kernel
theorem dX11_behind_4 : decode cX11_behind 4 = .ok (.ifCond .ne 5, 3) := by decide +kernel
theorem dX11_behind_7 : decode cX11_behind 7 = .ok (.iconst (-1), 1) := by decide +kernel
theorem dX11_behind_8 : decode cX11_behind 8 = .ok (.ireturn, 1) := by decide +kernel
theorem dX11_behind_9 : decode cX11_behind 9 = .ok (.iload_n 2, 1) := by decide +kernel
theorem dX11_behind_10 : decode cX11_behind 10 = .ok (.iconst 0, 1) := by decide +kernel
theorem dX11_behind_11 : decode cX11_behind 11 = .ok (.bipush 7, 2) := by decide +kernel
theorem dX11_behind_13 : decode cX11_behind 13 = .ok (.invokestatic 92, 3) := by decide +kernel
theorem dX11_behind_16 : decode cX11_behind 16 = .ok (.ifCond .ne 6, 3) := by decide +kernel
theorem dX11_behind_19 : decode cX11_behind 19 = .ok (.bipush (-2), 2) := by decide +kernel
theorem dX11_behind_21 : decode cX11_behind 21 = .ok (.ireturn, 1) := by decide +kernel
theorem dX11_behind_22 : decode cX11_behind 22 = .ok (.aload_n 0, 1) := by decide +kernel
theorem dX11_behind_23 : decode cX11_behind 23 = .ok (.invokevirtual 165, 3) := by decide +kernel
theorem dX11_behind_26 : decode cX11_behind 26 = .ok (.ifCond .eq 18, 3) := by decide +kernel
theorem dX11_behind_29 : decode cX11_behind 29 = .ok (.aload_n 0, 1) := by decide +kernel
theorem dX11_behind_30 : decode cX11_behind 30 = .ok (.getfield 39, 3) := by decide +kernel
theorem dX11_behind_33 : decode cX11_behind 33 = .ok (.getfield 169, 3) := by decide +kernel
theorem dX11_behind_36 : decode cX11_behind 36 = .ok (.iload_n 1, 1) := by decide +kernel
theorem dX11_behind_37 : decode cX11_behind 37 = .ok (.iload_n 2, 1) := by decide +kernel
theorem dX11_behind_38 : decode cX11_behind 38 = .ok (.invokevirtual 177, 3) := by decide +kernel
theorem dX11_behind_41 : decode cX11_behind 41 = .ok (.goto 5, 3) := by decide +kernel
theorem dX11_behind_44 : decode cX11_behind 44 = .ok (.bipush (-5), 2) := by decide +kernel
theorem dX11_behind_46 : decode cX11_behind 46 = .ok (.ireturn, 1) := by decide +kernel
set_option maxRecDepth 20000 in
theorem ggX11_then_X11_within : GoodIn wsX11_then wsX11_within := goodIn_r _ [9] (by decide +kernel) (by decide +kernel)
set_option maxRecDepth 20000 in
theorem gX11_then_X11_within : GoodIn wsX11_then (va_wsS RX11 92 yX11_within wsX11_within) := goodIn_app (goodIn_of _ (by decide +kernel)) ggX11_then_X11_within
set_option maxRecDepth 20000 in
theorem ggX11_then_X11_textCanBe : GoodIn wsX11_then wsX11_textCanBe := goodIn_r _ [13, 14, 1, 15, 16, 17, 18, 19, 20, 21, 22, 23, 24, 25, 26, 27, 28, 29, 30, 8, 31, 6, 7, 9, 32, 33, 34, 35, 36, 37, 38, 39, 40, 41, 42, 43, 44, 45, 46, 47, 48, 49, 50, 51, 52, 53, 54, 55, 56, 57, 58, 59, 60, 61, 62, 63, 64, 65, 66, 67, 68, 69, 70, 71, 72, 73, 74, 75, 76, 77, 78, 79, 80, 81, 82, 83, 84, 85, 86, 87, 88, 89, 90, 91, 92, 93, 94, 95, 96, 97, 98, 99, 100, 101, 102, 103, 104, 105, 106, 107, 108, 109, 110, 111, 112, 113, 114, 115, 116, 117, 118, 119, 120, 121, 122, 123, 124, 125, 126, 127, 128, 129, 130, 131, 132, 133, 134, 135, 136, 137, 138, 139, 140, 141, 142, 143, 144, 145, 146, 147, 148, 149, 150, 151, 152, 153, 154, 155, 156, 157, 158, 159, 160, 161, 162, 163, 164, 165, 166, 167, 168, 169, 170, 171, 172, 173, 174, 175, 176, 177, 178, 179, 180, 181, 182, 183, 184, 185, 186, 187, 188, 189, 190, 191, 192, 193, 194, 195, 196, 197, 198, 199, 200, 201, 202, 203, 204, 205, 206, 207, 208, 209, 210, 211, 219, 220, 221, 222, 223, 224, 225, 226, 227, 228, 229, 230, 231, 232, 233, 234, 235, 236, 237, 238, 239, 240, 241, 242, 243, 244, 245, 246, 247, 248, 249, 250, 251] (by decide +kernel) (by decide +kernel)
set_option maxRecDepth 20000 in
theorem gX11_then_X11_textCanBe : GoodIn wsX11_then (wsV RX11 165 RX11 yX11_textCanBe wsX11_textCanBe) := goodIn_app (goodIn_of _ (by decide +kernel)) ggX11_then_X11_textCanBe
set_option maxRecDepth 20000 in
theorem ggX11_then_X8_ofAll : GoodIn wsX11_then wsX8_ofAll := goodIn_r _ [215, 61, 216, 217, 102, 73, 74, 218, 153, 154, 59, 155, 69, 156, 157, 158, 159, 67, 68, 160, 8, 161, 239, 240, 241, 242, 243, 244, 245, 246, 247, 248, 249, 250, 251] (by decide +kernel) (by decide +kernel)
set_option maxRecDepth 20000 in
theorem gX11_then_X8_ofAll : GoodIn wsX11_then (wsV RX11 190 RX8 yX8_ofAll wsX8_ofAll) := goodIn_app (goodIn_of _ (by decide +kernel)) ggX11_then_X8_ofAll
theorem dX11_then_0 : decode cX11_then 0 = .ok (.iload_n 1, 1) := by decide +kernel
theorem dX11_then_1 : decode cX11_then 1 = .ok (.iconst 0, 1) := by decide +kernel
theorem dX11_then_2 : decode cX11_then 2 = .ok (.bipush 8, 2) := by decide +kernel
theorem dX11_then_4 : decode cX11_then 4 = .ok (.invokestatic 92, 3) := by decide +kernel
theorem dX11_then_7 : decode cX11_then 7 = .ok (.ifCond .ne 6, 3) := by decide +kernel
theorem dX11_then_10 : decode cX11_then 10 = .ok (.bipush (-2), 2) := by decide +kernel
theorem dX11_then_12 : decode cX11_then 12 = .ok (.ireturn, 1) := by decide +kernel
theorem dX11_then_13 : decode cX11_then 13 = .ok (.aload_n 0, 1) := by decide +kernel
theorem dX11_then_14 : decode cX11_then 14 = .ok (.invokevirtual 165, 3) := by decide +kernel
theorem dX11_then_17 : decode cX11_then 17 = .ok (.ifCond .ne 6, 3) := by decide +kernel
theorem dX11_then_20 : decode cX11_then 20 = .ok (.bipush (-5), 2) := by decide +kernel
theorem dX11_then_22 : decode cX11_then 22 = .ok (.ireturn, 1) := by decide +kernel
theorem dX11_then_23 : decode cX11_then 23 = .ok (.iload_n 1, 1) := by decide +kernel
theorem dX11_then_24 : decode cX11_then 24 = .ok (.tableswitch 52 6 8 #[28, 36, 44], 28) := by decide +kernel
theorem dX11_then_52 : decode cX11_then 52 = .ok (.aload_n 0, 1) := by decide +kernel
theorem dX11_then_53 : decode cX11_then 53 = .ok (.getfield 39, 3) := by decide +kernel
theorem dX11_then_56 : decode cX11_then 56 = .ok (.getfield 181, 3) := by decide +kernel
theorem dX11_then_59 : decode cX11_then 59 = .ok (.ireturn, 1) := by decide +kernel
theorem dX11_then_60 : decode cX11_then 60 = .ok (.aload_n 0, 1) := by decide +kernel
theorem dX11_then_61 : decode cX11_then 61 = .ok (.getfield 39, 3) := by decide +kernel
theorem dX11_then_64 : decode cX11_then 64 = .ok (.getfield 184, 3) := by decide +kernel
theorem dX11_then_67 : decode cX11_then 67 = .ok (.ireturn, 1) := by decide +kernel
theorem dX11_then_68 : decode cX11_then 68 = .ok (.aload_n 0, 1) := by decide +kernel
theorem dX11_then_69 : decode cX11_then 69 = .ok (.getfield 39, 3) := by decide +kernel
theorem dX11_then_72 : decode cX11_then 72 = .ok (.getfield 187, 3) := by decide +kernel
theorem dX11_then_75 : decode cX11_then 75 = .ok (.ireturn, 1) := by decide +kernel
theorem dX11_then_76 : decode cX11_then 76 = .ok (.aload_n 0, 1) := by decide +kernel
theorem dX11_then_77 : decode cX11_then 77 = .ok (.getfield 39, 3) := by decide +kernel
theorem dX11_then_80 : decode cX11_then 80 = .ok (.getfield 169, 3) := by decide +kernel
theorem dX11_then_83 : decode cX11_then 83 = .ok (.iload_n 1, 1) := by decide +kernel
theorem dX11_then_84 : decode cX11_then 84 = .ok (.invokevirtual 190, 3) := by decide +kernel
theorem dX11_then_87 : decode cX11_then 87 = .ok (.ireturn, 1) := by decide +kernel
set_option maxRecDepth 20000 in
theorem ggX11_when_X11_isCell : GoodIn wsX11_when wsX11_isCell := goodIn_r _ [8, 9, 10, 7, 11] (by decide +kernel) (by decide +kernel)
set_option maxRecDepth 20000 in
theorem gX11_when_X11_isCell : GoodIn wsX11_when (va_wsS RX11 89 yX11_isCell wsX11_isCell) := goodIn_app (goodIn_of _ (by decide +kernel)) ggX11_when_X11_isCell
set_option maxRecDepth 20000 in
theorem ggX11_when_X10_become : GoodIn wsX11_when wsX10_become := goodIn_r _ [16, 17, 18, 19, 20, 21, 22, 15, 23, 64, 65, 66] (by decide +kernel) (by decide +kernel)
set_option maxRecDepth 20000 in
theorem gX11_when_X10_become : GoodIn wsX11_when (wsV RX11 193 RX10 yX10_become wsX10_become) := goodIn_app (goodIn_of _ (by decide +kernel)) ggX11_when_X10_become
set_option maxRecDepth 20000 in
theorem ggX11_when_X10_blowAnHour : GoodIn wsX11_when wsX10_blowAnHour := goodIn_r _ [27, 19, 17, 28, 29, 30, 15, 31, 18, 32, 33, 34, 35, 36, 37, 38, 39, 64, 65, 66] (by decide +kernel) (by decide +kernel)
set_option maxRecDepth 20000 in
theorem gX11_when_X10_blowAnHour : GoodIn wsX11_when (wsV RX11 196 RX10 yX10_blowAnHour wsX10_blowAnHour) := goodIn_app (goodIn_of _ (by decide +kernel)) ggX11_when_X10_blowAnHour
set_option maxRecDepth 20000 in
theorem ggX11_when_X11_has : GoodIn wsX11_when wsX11_has := goodIn_r _ [42] (by decide +kernel) (by decide +kernel)
set_option maxRecDepth 20000 in
theorem gX11_when_X11_has : GoodIn wsX11_when (va_wsS RX11 199 yX11_has wsX11_has) := goodIn_app (goodIn_of _ (by decide +kernel)) ggX11_when_X11_has
theorem dX11_when_0 : decode cX11_when 0 = .ok (.iload_n 1, 1) := by decide +kernel
theorem dX11_when_1 : decode cX11_when 1 = .ok (.invokestatic 89, 3) := by decide +kernel
theorem dX11_when_4 : decode cX11_when 4 = .ok (.ifCond .ne 5, 3) := by decide +kernel
theorem dX11_when_7 : decode cX11_when 7 = .ok (.iconst (-1), 1) := by decide +kernel
theorem dX11_when_8 : decode cX11_when 8 = .ok (.ireturn, 1) := by decide +kernel
theorem dX11_when_9 : decode cX11_when 9 = .ok (.aload_n 0, 1) := by decide +kernel
theorem dX11_when_10 : decode cX11_when 10 = .ok (.getfield 81, 3) := by decide +kernel
theorem dX11_when_13 : decode cX11_when 13 = .ok (.aload_n 0, 1) := by decide +kernel
theorem dX11_when_14 : decode cX11_when 14 = .ok (.getfield 12, 3) := by decide +kernel
theorem dX11_when_17 : decode cX11_when 17 = .ok (.getfield 125, 3) := by decide +kernel
theorem dX11_when_20 : decode cX11_when 20 = .ok (.invokevirtual 193, 3) := by decide +kernel
theorem dX11_when_23 : decode cX11_when 23 = .ok (.iconst 0, 1) := by decide +kernel
theorem dX11_when_24 : decode cX11_when 24 = .ok (.istore_n 2, 1) := by decide +kernel
theorem dX11_when_25 : decode cX11_when 25 = .ok (.iconst 1, 1) := by decide +kernel
theorem dX11_when_26 : decode cX11_when 26 = .ok (.istore_n 3, 1) := by decide +kernel
theorem dX11_when_27 : decode cX11_when 27 = .ok (.iload_n 3, 1) := by decide +kernel
theorem dX11_when_28 : decode cX11_when 28 = .ok (.bipush 8, 2) := by decide +kernel
theorem dX11_when_30 : decode cX11_when 30 = .ok (.if_icmp .gt 40, 3) := by decide +kernel
theorem dX11_when_33 : decode cX11_when 33 = .ok (.aload_n 0, 1) := by decide +kernel
theorem dX11_when_34 : decode cX11_when 34 = .ok (.getfield 81, 3) := by decide +kernel
theorem dX11_when_37 : decode cX11_when 37 = .ok (.invokevirtual 196, 3) := by decide +kernel
theorem dX11_when_40 : decode cX11_when 40 = .ok (.iload_n 1, 1) := by decide +kernel
theorem dX11_when_41 : decode cX11_when 41 = .ok (.invokestatic 199, 3) := by decide +kernel
theorem dX11_when_44 : decode cX11_when 44 = .ok (.ifCond .eq 20, 3) := by decide +kernel
theorem dX11_when_47 : decode cX11_when 47 = .ok (.iload_n 2, 1) := by decide +kernel
theorem dX11_when_48 : decode cX11_when 48 = .ok (.iconst 1, 1) := by decide +kernel
theorem dX11_when_49 : decode cX11_when 49 = .ok (.aload_n 0, 1) := by decide +kernel
theorem dX11_when_50 : decode cX11_when 50 = .ok (.getfield 12, 3) := by decide +kernel
theorem dX11_when_53 : decode cX11_when 53 = .ok (.getfield 203, 3) := by decide +kernel
theorem dX11_when_56 : decode cX11_when 56 = .ok (.iload_n 3, 1) := by decide +kernel
theorem dX11_when_57 : decode cX11_when 57 = .ok (.iadd, 1) := by decide +kernel
theorem dX11_when_58 : decode cX11_when 58 = .ok (.bipush 8, 2) := by decide +kernel
theorem dX11_when_60 : decode cX11_when 60 = .ok (.irem, 1) := by decide +kernel
theorem dX11_when_61 : decode cX11_when 61 = .ok (.ishl, 1) := by decide +kernel
theorem dX11_when_62 : decode cX11_when 62 = .ok (.ior, 1) := by decide +kernel
theorem dX11_when_63 : decode cX11_when 63 = .ok (.istore_n 2, 1) := by decide +kernel
theorem dX11_when_64 : decode cX11_when 64 = .ok (.iinc 3 1, 3) := by decide +kernel
theorem dX11_when_67 : decode cX11_when 67 = .ok (.goto (-40), 3) := by decide +kernel
theorem dX11_when_70 : decode cX11_when 70 = .ok (.iload_n 2, 1) := by decide +kernel
theorem dX11_when_71 : decode cX11_when 71 = .ok (.ireturn, 1) := by decide +kernel
set_option maxRecDepth 20000 in
theorem ggX11_pass_X11_isCell : GoodIn wsX11_pass wsX11_isCell := goodIn_r _ [10, 11, 12, 9, 13] (by decide +kernel) (by decide +kernel)
set_option maxRecDepth 20000 in
theorem gX11_pass_X11_isCell : GoodIn wsX11_pass (va_wsS RX11 89 yX11_isCell wsX11_isCell) := goodIn_app (goodIn_of _ (by decide +kernel)) ggX11_pass_X11_isCell
set_option maxRecDepth 20000 in
theorem ggX11_pass_X11_within : GoodIn wsX11_pass wsX11_within := goodIn_r _ [13] (by decide +kernel) (by decide +kernel)
set_option maxRecDepth 20000 in
theorem gX11_pass_X11_within : GoodIn wsX11_pass (va_wsS RX11 92 yX11_within wsX11_within) := goodIn_app (goodIn_of _ (by decide +kernel)) ggX11_pass_X11_within
set_option maxRecDepth 20000 in
theorem ggX11_pass_X10_become : GoodIn wsX11_pass wsX10_become := goodIn_r _ [18, 19, 20, 21, 22, 23, 24, 17, 25, 83, 84, 85] (by decide +kernel) (by decide +kernel)
set_option maxRecDepth 20000 in
theorem gX11_pass_X10_become : GoodIn wsX11_pass (wsV RX11 193 RX10 yX10_become wsX10_become) := goodIn_app (goodIn_of _ (by decide +kernel)) ggX11_pass_X10_become
set_option maxRecDepth 20000 in
theorem ggX11_pass_X4_seek : GoodIn wsX11_pass wsX4_seek := goodIn_r _ [30, 31, 32, 33, 34, 35, 36, 17, 37, 21, 19, 38, 39, 40, 41, 20, 42, 43, 44, 45, 46, 47, 48, 49, 50, 51, 29, 52, 53, 54, 55, 56, 57, 9, 58, 80, 81, 82, 83, 84, 85] (by decide +kernel) (by decide +kernel)
set_option maxRecDepth 20000 in
theorem gX11_pass_X4_seek : GoodIn wsX11_pass (wsV RX11 206 RX4 yX4_seek wsX4_seek) := goodIn_app (goodIn_of _ (by decide +kernel)) ggX11_pass_X4_seek
theorem dX11_pass_0 : decode cX11_pass 0 = .ok (.iload_n 1, 1) := by decide +kernel
theorem dX11_pass_1 : decode cX11_pass 1 = .ok (.invokestatic 89, 3) := by decide +kernel
theorem dX11_pass_4 : decode cX11_pass 4 = .ok (.ifCond .eq 10, 3) := by decide +kernel
theorem dX11_pass_7 : decode cX11_pass 7 = .ok (.iload_n 2, 1) := by decide +kernel
theorem dX11_pass_8 : decode cX11_pass 8 = .ok (.invokestatic 89, 3) := by decide +kernel
theorem dX11_pass_11 : decode cX11_pass 11 = .ok (.ifCond .ne 5, 3) := by decide +kernel
theorem dX11_pass_14 : decode cX11_pass 14 = .ok (.iconst (-1), 1) := by decide +kernel
theorem dX11_pass_15 : decode cX11_pass 15 = .ok (.ireturn, 1) := by decide +kernel
theorem dX11_pass_16 : decode cX11_pass 16 = .ok (.iload_n 3, 1) := by decide +kernel
theorem dX11_pass_17 : decode cX11_pass 17 = .ok (.iconst 0, 1) := by decide +kernel
theorem dX11_pass_18 : decode cX11_pass 18 = .ok (.iconst 1, 1) := by decide +kernel
theorem dX11_pass_19 : decode cX11_pass 19 = .ok (.invokestatic 92, 3) := by decide +kernel
theorem dX11_pass_22 : decode cX11_pass 22 = .ok (.ifCond .ne 6, 3) := by decide +kernel
theorem dX11_pass_25 : decode cX11_pass 25 = .ok (.bipush (-2), 2) := by decide +kernel
theorem dX11_pass_27 : decode cX11_pass 27 = .ok (.ireturn, 1) := by decide +kernel
theorem dX11_pass_28 : decode cX11_pass 28 = .ok (.aload_n 0, 1) := by decide +kernel
theorem dX11_pass_29 : decode cX11_pass 29 = .ok (.getfield 81, 3) := by decide +kernel
theorem dX11_pass_32 : decode cX11_pass 32 = .ok (.aload_n 0, 1) := by decide +kernel
theorem dX11_pass_33 : decode cX11_pass 33 = .ok (.getfield 12, 3) := by decide +kernel
theorem dX11_pass_36 : decode cX11_pass 36 = .ok (.getfield 125, 3) := by decide +kernel
theorem dX11_pass_39 : decode cX11_pass 39 = .ok (.invokevirtual 193, 3) := by decide +kernel
theorem dX11_pass_42 : decode cX11_pass 42 = .ok (.aload_n 0, 1) := by decide +kernel
theorem dX11_pass_43 : decode cX11_pass 43 = .ok (.getfield 46, 3) := by decide +kernel
theorem dX11_pass_46 : decode cX11_pass 46 = .ok (.aload_n 0, 1) := by decide +kernel
theorem dX11_pass_47 : decode cX11_pass 47 = .ok (.getfield 81, 3) := by decide +kernel
theorem dX11_pass_50 : decode cX11_pass 50 = .ok (.iload_n 1, 1) := by decide +kernel
theorem dX11_pass_51 : decode cX11_pass 51 = .ok (.iload_n 2, 1) := by decide +kernel
theorem dX11_pass_52 : decode cX11_pass 52 = .ok (.invokevirtual 206, 3) := by decide +kernel
theorem dX11_pass_55 : decode cX11_pass 55 = .ok (.iload_n 3, 1) := by decide +kernel
theorem dX11_pass_56 : decode cX11_pass 56 = .ok (.ifCond .ne 13, 3) := by decide +kernel
theorem dX11_pass_59 : decode cX11_pass 59 = .ok (.aload_n 0, 1) := by decide +kernel
theorem dX11_pass_60 : decode cX11_pass 60 = .ok (.getfield 46, 3) := by decide +kernel
theorem dX11_pass_63 : decode cX11_pass 63 = .ok (.getfield 210, 3) := by decide +kernel
theorem dX11_pass_66 : decode cX11_pass 66 = .ok (.goto 10, 3) := by decide +kernel
theorem dX11_pass_69 : decode cX11_pass 69 = .ok (.aload_n 0, 1) := by decide +kernel
theorem dX11_pass_70 : decode cX11_pass 70 = .ok (.getfield 46, 3) := by decide +kernel
theorem dX11_pass_73 : decode cX11_pass 73 = .ok (.getfield 213, 3) := by decide +kernel
theorem dX11_pass_76 : decode cX11_pass 76 = .ok (.ireturn, 1) := by decide +kernel
set_option maxRecDepth 20000 in
theorem ggX11_arms_X11_within : GoodIn wsX11_arms wsX11_within := goodIn_r _ [6] (by decide +kernel) (by decide +kernel)
set_option maxRecDepth 20000 in
theorem gX11_arms_X11_within : GoodIn wsX11_arms (va_wsS RX11 92 yX11_within wsX11_within) := goodIn_app (goodIn_of _ (by decide +kernel)) ggX11_arms_X11_within
set_option maxRecDepth 20000 in
theorem ggX11_arms_X6_most : GoodIn wsX11_arms wsX6_most := goodIn_r _ [11, 12, 13, 14, 15, 16, 17, 18, 19, 20, 21, 5, 22, 23, 24, 10, 25, 26, 27, 28, 29, 30, 31, 32, 33, 34, 35, 36, 37, 38, 39, 40, 41, 54, 55, 56, 57, 58, 59, 60, 61, 62, 63, 64] (by decide +kernel) (by decide +kernel)
set_option maxRecDepth 20000 in
theorem gX11_arms_X6_most : GoodIn wsX11_arms (wsV RX11 216 RX6 yX6_most wsX6_most) := goodIn_app (goodIn_of _ (by decide +kernel)) ggX11_arms_X6_most
set_option maxRecDepth 20000 in
theorem ggX11_arms_J6_bitCount_0f7a4 : GoodIn wsX11_arms wsJ6_bitCount_0f7a4 := goodIn_r _ [38, 39, 40, 41] (by decide +kernel) (by decide +kernel)
set_option maxRecDepth 20000 in
theorem gX11_arms_J6_bitCount_0f7a4 : GoodIn wsX11_arms (va_wsS RX11 220 yJ6_bitCount_0f7a4 wsJ6_bitCount_0f7a4) := goodIn_app (goodIn_of _ (by decide +kernel)) ggX11_arms_J6_bitCount_0f7a4
theorem dX11_arms_0 : decode cX11_arms 0 = .ok (.iload_n 1, 1) := by decide +kernel
theorem dX11_arms_1 : decode cX11_arms 1 = .ok (.iconst 0, 1) := by decide +kernel
theorem dX11_arms_2 : decode cX11_arms 2 = .ok (.bipush 11, 2) := by decide +kernel
theorem dX11_arms_4 : decode cX11_arms 4 = .ok (.invokestatic 92, 3) := by decide +kernel
theorem dX11_arms_7 : decode cX11_arms 7 = .ok (.ifCond .eq 12, 3) := by decide +kernel
theorem dX11_arms_10 : decode cX11_arms 10 = .ok (.iload_n 2, 1) := by decide +kernel
theorem dX11_arms_11 : decode cX11_arms 11 = .ok (.iconst 0, 1) := by decide +kernel
theorem dX11_arms_12 : decode cX11_arms 12 = .ok (.iconst 1, 1) := by decide +kernel
theorem dX11_arms_13 : decode cX11_arms 13 = .ok (.invokestatic 92, 3) := by decide +kernel
theorem dX11_arms_16 : decode cX11_arms 16 = .ok (.ifCond .ne 6, 3) := by decide +kernel
theorem dX11_arms_19 : decode cX11_arms 19 = .ok (.bipush (-2), 2) := by decide +kernel
theorem dX11_arms_21 : decode cX11_arms 21 = .ok (.ireturn, 1) := by decide +kernel
theorem dX11_arms_22 : decode cX11_arms 22 = .ok (.aload_n 0, 1) := by decide +kernel
theorem dX11_arms_23 : decode cX11_arms 23 = .ok (.getfield 53, 3) := by decide +kernel
theorem dX11_arms_26 : decode cX11_arms 26 = .ok (.aload_n 0, 1) := by decide +kernel
theorem dX11_arms_27 : decode cX11_arms 27 = .ok (.getfield 12, 3) := by decide +kernel
theorem dX11_arms_30 : decode cX11_arms 30 = .ok (.iload_n 1, 1) := by decide +kernel
theorem dX11_arms_31 : decode cX11_arms 31 = .ok (.invokevirtual 216, 3) := by decide +kernel
theorem dX11_arms_34 : decode cX11_arms 34 = .ok (.istore_n 3, 1) := by decide +kernel
theorem dX11_arms_35 : decode cX11_arms 35 = .ok (.iload_n 2, 1) := by decide +kernel
theorem dX11_arms_36 : decode cX11_arms 36 = .ok (.ifCond .ne 10, 3) := by decide +kernel
theorem dX11_arms_39 : decode cX11_arms 39 = .ok (.iload_n 3, 1) := by decide +kernel
theorem dX11_arms_40 : decode cX11_arms 40 = .ok (.invokestatic 220, 3) := by decide +kernel
theorem dX11_arms_43 : decode cX11_arms 43 = .ok (.goto 4, 3) := by decide +kernel
theorem dX11_arms_46 : decode cX11_arms 46 = .ok (.iload_n 3, 1) := by decide +kernel
theorem dX11_arms_47 : decode cX11_arms 47 = .ok (.ireturn, 1) := by decide +kernel
set_option maxRecDepth 20000 in
theorem ggX11_paid_X11_isWalker : GoodIn wsX11_paid wsX11_isWalker := goodIn_r _ [8, 9, 10, 7, 11] (by decide +kernel) (by decide +kernel)
set_option maxRecDepth 20000 in
theorem gX11_paid_X11_isWalker : GoodIn wsX11_paid (va_wsS RX11 85 yX11_isWalker wsX11_isWalker) := goodIn_app (goodIn_of _ (by decide +kernel)) ggX11_paid_X11_isWalker
set_option maxRecDepth 20000 in
theorem ggX11_paid_X11_within : GoodIn wsX11_paid wsX11_within := goodIn_r _ [11] (by decide +kernel) (by decide +kernel)
set_option maxRecDepth 20000 in
theorem gX11_paid_X11_within : GoodIn wsX11_paid (va_wsS RX11 92 yX11_within wsX11_within) := goodIn_app (goodIn_of _ (by decide +kernel)) ggX11_paid_X11_within
set_option maxRecDepth 20000 in
theorem ggX11_paid_X5_seek : GoodIn wsX11_paid wsX5_seek := goodIn_r _ [16, 17, 18, 19, 20, 21, 22, 23, 24, 25, 26, 27, 28, 15, 29, 30, 31, 32, 33, 34, 7, 35, 47, 48, 49, 50, 51, 52, 53, 54, 55, 56, 57, 58] (by decide +kernel) (by decide +kernel)
set_option maxRecDepth 20000 in
theorem gX11_paid_X5_seek : GoodIn wsX11_paid (wsV RX11 225 RX5 yX5_seek wsX5_seek) := goodIn_app (goodIn_of _ (by decide +kernel)) ggX11_paid_X5_seek
theorem dX11_paid_0 : decode cX11_paid 0 = .ok (.iload_n 1, 1) := by decide +kernel
theorem dX11_paid_1 : decode cX11_paid 1 = .ok (.invokestatic 85, 3) := by decide +kernel
theorem dX11_paid_4 : decode cX11_paid 4 = .ok (.ifCond .ne 5, 3) := by decide +kernel
theorem dX11_paid_7 : decode cX11_paid 7 = .ok (.iconst (-1), 1) := by decide +kernel
theorem dX11_paid_8 : decode cX11_paid 8 = .ok (.ireturn, 1) := by decide +kernel
theorem dX11_paid_9 : decode cX11_paid 9 = .ok (.iload_n 2, 1) := by decide +kernel
theorem dX11_paid_10 : decode cX11_paid 10 = .ok (.iconst 0, 1) := by decide +kernel
theorem dX11_paid_11 : decode cX11_paid 11 = .ok (.iconst 1, 1) := by decide +kernel
theorem dX11_paid_12 : decode cX11_paid 12 = .ok (.invokestatic 92, 3) := by decide +kernel
theorem dX11_paid_15 : decode cX11_paid 15 = .ok (.ifCond .ne 6, 3) := by decide +kernel
theorem dX11_paid_18 : decode cX11_paid 18 = .ok (.bipush (-2), 2) := by decide +kernel
theorem dX11_paid_20 : decode cX11_paid 20 = .ok (.ireturn, 1) := by decide +kernel
theorem dX11_paid_21 : decode cX11_paid 21 = .ok (.aload_n 0, 1) := by decide +kernel
theorem dX11_paid_22 : decode cX11_paid 22 = .ok (.getfield 60, 3) := by decide +kernel
theorem dX11_paid_25 : decode cX11_paid 25 = .ok (.aload_n 0, 1) := by decide +kernel
theorem dX11_paid_26 : decode cX11_paid 26 = .ok (.getfield 12, 3) := by decide +kernel
theorem dX11_paid_29 : decode cX11_paid 29 = .ok (.iload_n 1, 1) := by decide +kernel
theorem dX11_paid_30 : decode cX11_paid 30 = .ok (.invokevirtual 225, 3) := by decide +kernel
theorem dX11_paid_33 : decode cX11_paid 33 = .ok (.iload_n 2, 1) := by decide +kernel
theorem dX11_paid_34 : decode cX11_paid 34 = .ok (.ifCond .ne 13, 3) := by decide +kernel
theorem dX11_paid_37 : decode cX11_paid 37 = .ok (.aload_n 0, 1) := by decide +kernel
theorem dX11_paid_38 : decode cX11_paid 38 = .ok (.getfield 60, 3) := by decide +kernel
theorem dX11_paid_41 : decode cX11_paid 41 = .ok (.getfield 228, 3) := by decide +kernel
theorem dX11_paid_44 : decode cX11_paid 44 = .ok (.goto 10, 3) := by decide +kernel
theorem dX11_paid_47 : decode cX11_paid 47 = .ok (.aload_n 0, 1) := by decide +kernel
theorem dX11_paid_48 : decode cX11_paid 48 = .ok (.getfield 60, 3) := by decide +kernel
theorem dX11_paid_51 : decode cX11_paid 51 = .ok (.getfield 231, 3) := by decide +kernel
theorem dX11_paid_54 : decode cX11_paid 54 = .ok (.ireturn, 1) := by decide +kernel
set_option maxRecDepth 20000 in
theorem ggX11_seen_X11_within : GoodIn wsX11_seen wsX11_within := goodIn_r _ [6] (by decide +kernel) (by decide +kernel)
set_option maxRecDepth 20000 in
theorem gX11_seen_X11_within : GoodIn wsX11_seen (va_wsS RX11 92 yX11_within wsX11_within) := goodIn_app (goodIn_of _ (by decide +kernel)) ggX11_seen_X11_within
set_option maxRecDepth 20000 in
theorem ggX11_seen_X11_allWithin : GoodIn wsX11_seen wsX11_allWithin := goodIn_r _ [9, 3, 4, 5, 6] (by decide +kernel) (by decide +kernel)
set_option maxRecDepth 20000 in
theorem gX11_seen_X11_allWithin : GoodIn wsX11_seen (va_wsS RX11 107 yX11_allWithin wsX11_allWithin) := goodIn_app (goodIn_of _ (by decide +kernel)) ggX11_seen_X11_allWithin
set_option maxRecDepth 20000 in
theorem ggX11_seen_X7_add : GoodIn wsX11_seen wsX7_add := goodIn_r _ [14, 15, 16, 17, 18, 19, 13, 20, 32, 33, 34, 35, 36] (by decide +kernel) (by decide +kernel)
set_option maxRecDepth 20000 in
theorem gX11_seen_X7_add : GoodIn wsX11_seen (wsV RX11 237 RX7 yX7_add wsX7_add) := goodIn_app (goodIn_of _ (by decide +kernel)) ggX11_seen_X7_add
theorem dX11_seen_0 : decode cX11_seen 0 = .ok (.iload_n 1, 1) := by decide +kernel
theorem dX11_seen_1 : decode cX11_seen 1 = .ok (.iconst 1, 1) := by decide +kernel
theorem dX11_seen_2 : decode cX11_seen 2 = .ok (.bipush 9, 2) := by decide +kernel
theorem dX11_seen_4 : decode cX11_seen 4 = .ok (.invokestatic 92, 3) := by decide +kernel
theorem dX11_seen_7 : decode cX11_seen 7 = .ok (.ifCond .eq 14, 3) := by decide +kernel
theorem dX11_seen_10 : decode cX11_seen 10 = .ok (.iload_n 2, 1) := by decide +kernel
theorem dX11_seen_11 : decode cX11_seen 11 = .ok (.iload_n 3, 1) := by decide +kernel
theorem dX11_seen_12 : decode cX11_seen 12 = .ok (.iload 4, 2) := by decide +kernel
theorem dX11_seen_14 : decode cX11_seen 14 = .ok (.iconst 3, 1) := by decide +kernel
theorem dX11_seen_15 : decode cX11_seen 15 = .ok (.invokestatic 107, 3) := by decide +kernel
theorem dX11_seen_18 : decode cX11_seen 18 = .ok (.ifCond .ne 6, 3) := by decide +kernel
theorem dX11_seen_21 : decode cX11_seen 21 = .ok (.bipush (-2), 2) := by decide +kernel
theorem dX11_seen_23 : decode cX11_seen 23 = .ok (.ireturn, 1) := by decide +kernel
theorem dX11_seen_24 : decode cX11_seen 24 = .ok (.aload_n 0, 1) := by decide +kernel
theorem dX11_seen_25 : decode cX11_seen 25 = .ok (.getfield 26, 3) := by decide +kernel
theorem dX11_seen_28 : decode cX11_seen 28 = .ok (.getfield 234, 3) := by decide +kernel
theorem dX11_seen_31 : decode cX11_seen 31 = .ok (.bipush 8, 2) := by decide +kernel
theorem dX11_seen_33 : decode cX11_seen 33 = .ok (.if_icmp .lt 6, 3) := by decide +kernel
theorem dX11_seen_36 : decode cX11_seen 36 = .ok (.bipush (-4), 2) := by decide +kernel
theorem dX11_seen_38 : decode cX11_seen 38 = .ok (.ireturn, 1) := by decide +kernel
theorem dX11_seen_39 : decode cX11_seen 39 = .ok (.aload_n 0, 1) := by decide +kernel
theorem dX11_seen_40 : decode cX11_seen 40 = .ok (.getfield 26, 3) := by decide +kernel
theorem dX11_seen_43 : decode cX11_seen 43 = .ok (.iload_n 1, 1) := by decide +kernel
theorem dX11_seen_44 : decode cX11_seen 44 = .ok (.iload_n 2, 1) := by decide +kernel
theorem dX11_seen_45 : decode cX11_seen 45 = .ok (.iload_n 3, 1) := by decide +kernel
theorem dX11_seen_46 : decode cX11_seen 46 = .ok (.iload 4, 2) := by decide +kernel
theorem dX11_seen_48 : decode cX11_seen 48 = .ok (.iload 5, 2) := by decide +kernel
theorem dX11_seen_50 : decode cX11_seen 50 = .ok (.invokevirtual 237, 3) := by decide +kernel
theorem dX11_seen_53 : decode cX11_seen 53 = .ok (.aload_n 0, 1) := by decide +kernel
theorem dX11_seen_54 : decode cX11_seen 54 = .ok (.getfield 26, 3) := by decide +kernel
theorem dX11_seen_57 : decode cX11_seen 57 = .ok (.getfield 234, 3) := by decide +kernel
theorem dX11_seen_60 : decode cX11_seen 60 = .ok (.ireturn, 1) := by decide +kernel
set_option maxRecDepth 20000 in
theorem ggX11_forget_X7_clear : GoodIn wsX11_forget wsX7_clear := goodIn_r _ [7, 8, 9, 10, 22, 23, 24, 25, 26] (by decide +kernel) (by decide +kernel)
set_option maxRecDepth 20000 in
theorem gX11_forget_X7_clear : GoodIn wsX11_forget (wsV RX11 241 RX7 yX7_clear wsX7_clear) := goodIn_app (goodIn_of _ (by decide +kernel)) ggX11_forget_X7_clear
theorem dX11_forget_0 : decode cX11_forget 0 = .ok (.aload_n 0, 1) := by decide +kernel
theorem dX11_forget_1 : decode cX11_forget 1 = .ok (.getfield 26, 3) := by decide +kernel
theorem dX11_forget_4 : decode cX11_forget 4 = .ok (.getfield 234, 3) := by decide +kernel
theorem dX11_forget_7 : decode cX11_forget 7 = .ok (.istore_n 1, 1) := by decide +kernel
theorem dX11_forget_8 : decode cX11_forget 8 = .ok (.aload_n 0, 1) := by decide +kernel
theorem dX11_forget_9 : decode cX11_forget 9 = .ok (.getfield 26, 3) := by decide +kernel
theorem dX11_forget_12 : decode cX11_forget 12 = .ok (.invokevirtual 241, 3) := by decide +kernel
theorem dX11_forget_15 : decode cX11_forget 15 = .ok (.iload_n 1, 1) := by decide +kernel
theorem dX11_forget_16 : decode cX11_forget 16 = .ok (.ireturn, 1) := by decide +kernel
set_option maxRecDepth 20000 in
theorem ggX11_likings_J13_bitCount_95d88 : GoodIn wsX11_likings wsJ13_bitCount_95d88 := goodIn_r _ [6, 7, 8, 9] (by decide +kernel) (by decide +kernel)
set_option maxRecDepth 20000 in
theorem gX11_likings_J13_bitCount_95d88 : GoodIn wsX11_likings (va_wsS RX11 247 yJ13_bitCount_95d88 wsJ13_bitCount_95d88) := goodIn_app (goodIn_of _ (by decide +kernel)) ggX11_likings_J13_bitCount_95d88
set_option maxRecDepth 20000 in
theorem ggX11_likings_X7_fittingAt : GoodIn wsX11_likings wsX7_fittingAt := goodIn_r _ [14, 15, 16, 17, 13, 18, 19, 20, 21, 22, 34, 35, 36, 37, 38] (by decide +kernel) (by decide +kernel)
set_option maxRecDepth 20000 in
theorem gX11_likings_X7_fittingAt : GoodIn wsX11_likings (wsV RX11 252 RX7 yX7_fittingAt wsX7_fittingAt) := goodIn_app (goodIn_of _ (by decide +kernel)) ggX11_likings_X7_fittingAt
theorem dX11_likings_0 : decode cX11_likings 0 = .ok (.iload_n 1, 1) := by decide +kernel
theorem dX11_likings_1 : decode cX11_likings 1 = .ok (.iconst (-1), 1) := by decide +kernel
theorem dX11_likings_2 : decode cX11_likings 2 = .ok (.if_icmp .ne 16, 3) := by decide +kernel
theorem dX11_likings_5 : decode cX11_likings 5 = .ok (.aload_n 0, 1) := by decide +kernel
theorem dX11_likings_6 : decode cX11_likings 6 = .ok (.getfield 26, 3) := by decide +kernel
theorem dX11_likings_9 : decode cX11_likings 9 = .ok (.getfield 243, 3) := by decide +kernel
theorem dX11_likings_12 : decode cX11_likings 12 = .ok (.invokestatic 247, 3) := by decide +kernel
theorem dX11_likings_15 : decode cX11_likings 15 = .ok (.goto 11, 3) := by decide +kernel
theorem dX11_likings_18 : decode cX11_likings 18 = .ok (.aload_n 0, 1) := by decide +kernel
theorem dX11_likings_19 : decode cX11_likings 19 = .ok (.getfield 26, 3) := by decide +kernel
theorem dX11_likings_22 : decode cX11_likings 22 = .ok (.iload_n 1, 1) := by decide +kernel
theorem dX11_likings_23 : decode cX11_likings 23 = .ok (.invokevirtual 252, 3) := by decide +kernel
theorem dX11_likings_26 : decode cX11_likings 26 = .ok (.ireturn, 1) := by decide +kernel
set_option maxRecDepth 20000 in
theorem ggX11_ask_X11_within : GoodIn wsX11_ask wsX11_within := goodIn_r _ [8] (by decide +kernel) (by decide +kernel)
set_option maxRecDepth 20000 in
theorem gX11_ask_X11_within : GoodIn wsX11_ask (va_wsS RX11 92 yX11_within wsX11_within) := goodIn_app (goodIn_of _ (by decide +kernel)) ggX11_ask_X11_within
set_option maxRecDepth 20000 in
theorem ggX11_ask_X7_seekTrial : GoodIn wsX11_ask wsX7_seekTrial := goodIn_r _ [13, 14, 15, 16, 17, 18, 12, 19, 20, 21, 22, 23, 24, 25, 26, 27, 28, 29, 30, 31, 32, 33, 7, 34, 35, 36, 37, 38, 39, 40, 41, 42, 43, 44, 45, 46, 47, 48, 60, 61, 62, 63, 64] (by decide +kernel) (by decide +kernel)
set_option maxRecDepth 20000 in
theorem gX11_ask_X7_seekTrial : GoodIn wsX11_ask (wsV RX11 255 RX7 yX7_seekTrial wsX7_seekTrial) := goodIn_app (goodIn_of _ (by decide +kernel)) ggX11_ask_X7_seekTrial
theorem dX11_ask_0 : decode cX11_ask 0 = .ok (.iload_n 1, 1) := by decide +kernel
theorem dX11_ask_1 : decode cX11_ask 1 = .ok (.iconst 0, 1) := by decide +kernel
theorem dX11_ask_2 : decode cX11_ask 2 = .ok (.iconst 1, 1) := by decide +kernel
theorem dX11_ask_3 : decode cX11_ask 3 = .ok (.invokestatic 92, 3) := by decide +kernel
theorem dX11_ask_6 : decode cX11_ask 6 = .ok (.ifCond .ne 6, 3) := by decide +kernel
theorem dX11_ask_9 : decode cX11_ask 9 = .ok (.bipush (-2), 2) := by decide +kernel
theorem dX11_ask_11 : decode cX11_ask 11 = .ok (.ireturn, 1) := by decide +kernel
theorem dX11_ask_12 : decode cX11_ask 12 = .ok (.aload_n 0, 1) := by decide +kernel
theorem dX11_ask_13 : decode cX11_ask 13 = .ok (.getfield 26, 3) := by decide +kernel
theorem dX11_ask_16 : decode cX11_ask 16 = .ok (.getfield 243, 3) := by decide +kernel
theorem dX11_ask_19 : decode cX11_ask 19 = .ok (.lconst 0, 1) := by decide +kernel
theorem dX11_ask_20 : decode cX11_ask 20 = .ok (.lcmp, 1) := by decide +kernel
theorem dX11_ask_21 : decode cX11_ask 21 = .ok (.ifCond .ne 6, 3) := by decide +kernel
theorem dX11_ask_24 : decode cX11_ask 24 = .ok (.bipush (-6), 2) := by decide +kernel
theorem dX11_ask_26 : decode cX11_ask 26 = .ok (.ireturn, 1) := by decide +kernel
theorem dX11_ask_27 : decode cX11_ask 27 = .ok (.aload_n 0, 1) := by decide +kernel
theorem dX11_ask_28 : decode cX11_ask 28 = .ok (.getfield 26, 3) := by decide +kernel
theorem dX11_ask_31 : decode cX11_ask 31 = .ok (.invokevirtual 255, 3) := by decide +kernel
theorem dX11_ask_34 : decode cX11_ask 34 = .ok (.iload_n 1, 1) := by decide +kernel
theorem dX11_ask_35 : decode cX11_ask 35 = .ok (.ifCond .ne 13, 3) := by decide +kernel
theorem dX11_ask_38 : decode cX11_ask 38 = .ok (.aload_n 0, 1) := by decide +kernel
theorem dX11_ask_39 : decode cX11_ask 39 = .ok (.getfield 26, 3) := by decide +kernel
theorem dX11_ask_42 : decode cX11_ask 42 = .ok (.getfield 258, 3) := by decide +kernel
theorem dX11_ask_45 : decode cX11_ask 45 = .ok (.goto 10, 3) := by decide +kernel
theorem dX11_ask_48 : decode cX11_ask 48 = .ok (.aload_n 0, 1) := by decide +kernel
theorem dX11_ask_49 : decode cX11_ask 49 = .ok (.getfield 26, 3) := by decide +kernel
theorem dX11_ask_52 : decode cX11_ask 52 = .ok (.getfield 261, 3) := by decide +kernel
theorem dX11_ask_55 : decode cX11_ask 55 = .ok (.ireturn, 1) := by decide +kernel
set_option maxRecDepth 20000 in
theorem ggX11_bowls_X11_within : GoodIn wsX11_bowls wsX11_within := goodIn_r _ [5] (by decide +kernel) (by decide +kernel)
set_option maxRecDepth 20000 in
theorem gX11_bowls_X11_within : GoodIn wsX11_bowls (va_wsS RX11 92 yX11_within wsX11_within) := goodIn_app (goodIn_of _ (by decide +kernel)) ggX11_bowls_X11_within
set_option maxRecDepth 20000 in
theorem ggX11_bowls_X2_winningTake : GoodIn wsX11_bowls wsX2_winningTake := goodIn_r _ [10, 11, 12, 13, 14, 15, 16, 17, 18, 19, 9, 20, 21, 22, 23, 24, 25, 4, 26, 38, 39] (by decide +kernel) (by decide +kernel)
set_option maxRecDepth 20000 in
theorem gX11_bowls_X2_winningTake : GoodIn wsX11_bowls (wsV RX11 264 RX2 yX2_winningTake wsX2_winningTake) := goodIn_app (goodIn_of _ (by decide +kernel)) ggX11_bowls_X2_winningTake
theorem dX11_bowls_0 : decode cX11_bowls 0 = .ok (.iload_n 1, 1) := by decide +kernel
theorem dX11_bowls_1 : decode cX11_bowls 1 = .ok (.iconst 0, 1) := by decide +kernel
theorem dX11_bowls_2 : decode cX11_bowls 2 = .ok (.bipush 99, 2) := by decide +kernel
theorem dX11_bowls_4 : decode cX11_bowls 4 = .ok (.invokestatic 92, 3) := by decide +kernel
theorem dX11_bowls_7 : decode cX11_bowls 7 = .ok (.ifCond .eq 21, 3) := by decide +kernel
theorem dX11_bowls_10 : decode cX11_bowls 10 = .ok (.iload_n 2, 1) := by decide +kernel
theorem dX11_bowls_11 : decode cX11_bowls 11 = .ok (.iconst 0, 1) := by decide +kernel
theorem dX11_bowls_12 : decode cX11_bowls 12 = .ok (.iconst 4, 1) := by decide +kernel
theorem dX11_bowls_13 : decode cX11_bowls 13 = .ok (.invokestatic 92, 3) := by decide +kernel
theorem dX11_bowls_16 : decode cX11_bowls 16 = .ok (.ifCond .eq 12, 3) := by decide +kernel
theorem dX11_bowls_19 : decode cX11_bowls 19 = .ok (.iload_n 3, 1) := by decide +kernel
theorem dX11_bowls_20 : decode cX11_bowls 20 = .ok (.iconst 0, 1) := by decide +kernel
theorem dX11_bowls_21 : decode cX11_bowls 21 = .ok (.iconst 1, 1) := by decide +kernel
theorem dX11_bowls_22 : decode cX11_bowls 22 = .ok (.invokestatic 92, 3) := by decide +kernel
theorem dX11_bowls_25 : decode cX11_bowls 25 = .ok (.ifCond .ne 6, 3) := by decide +kernel
theorem dX11_bowls_28 : decode cX11_bowls 28 = .ok (.bipush (-2), 2) := by decide +kernel
theorem dX11_bowls_30 : decode cX11_bowls 30 = .ok (.ireturn, 1) := by decide +kernel
theorem dX11_bowls_31 : decode cX11_bowls 31 = .ok (.aload_n 0, 1) := by decide +kernel
theorem dX11_bowls_32 : decode cX11_bowls 32 = .ok (.getfield 67, 3) := by decide +kernel
theorem dX11_bowls_35 : decode cX11_bowls 35 = .ok (.iload_n 1, 1) := by decide +kernel
theorem dX11_bowls_36 : decode cX11_bowls 36 = .ok (.iload_n 2, 1) := by decide +kernel
theorem dX11_bowls_37 : decode cX11_bowls 37 = .ok (.invokevirtual 264, 3) := by decide +kernel
theorem dX11_bowls_40 : decode cX11_bowls 40 = .ok (.istore 4, 2) := by decide +kernel
theorem dX11_bowls_42 : decode cX11_bowls 42 = .ok (.iload_n 3, 1) := by decide +kernel
theorem dX11_bowls_43 : decode cX11_bowls 43 = .ok (.ifCond .ne 16, 3) := by decide +kernel
theorem dX11_bowls_46 : decode cX11_bowls 46 = .ok (.iload 4, 2) := by decide +kernel
theorem dX11_bowls_48 : decode cX11_bowls 48 = .ok (.bipush (-6), 2) := by decide +kernel
theorem dX11_bowls_50 : decode cX11_bowls 50 = .ok (.if_icmp .ne 7, 3) := by decide +kernel
theorem dX11_bowls_53 : decode cX11_bowls 53 = .ok (.iconst 0, 1) := by decide +kernel
theorem dX11_bowls_54 : decode cX11_bowls 54 = .ok (.goto 4, 3) := by decide +kernel
theorem dX11_bowls_57 : decode cX11_bowls 57 = .ok (.iconst 1, 1) := by decide +kernel
theorem dX11_bowls_58 : decode cX11_bowls 58 = .ok (.ireturn, 1) := by decide +kernel
theorem dX11_bowls_59 : decode cX11_bowls 59 = .ok (.iload 4, 2) := by decide +kernel
theorem dX11_bowls_61 : decode cX11_bowls 61 = .ok (.ireturn, 1) := by decide +kernel
set_option maxRecDepth 20000 in
theorem ggX11_gale_X11_isCell : GoodIn wsX11_gale wsX11_isCell := goodIn_r _ [10, 11, 12, 9, 13] (by decide +kernel) (by decide +kernel)
set_option maxRecDepth 20000 in
theorem gX11_gale_X11_isCell : GoodIn wsX11_gale (va_wsS RX11 89 yX11_isCell wsX11_isCell) := goodIn_app (goodIn_of _ (by decide +kernel)) ggX11_gale_X11_isCell
set_option maxRecDepth 20000 in
theorem ggX11_gale_X11_within : GoodIn wsX11_gale wsX11_within := goodIn_r _ [13] (by decide +kernel) (by decide +kernel)
set_option maxRecDepth 20000 in
theorem gX11_gale_X11_within : GoodIn wsX11_gale (va_wsS RX11 92 yX11_within wsX11_within) := goodIn_app (goodIn_of _ (by decide +kernel)) ggX11_gale_X11_within
set_option maxRecDepth 20000 in
theorem ggX11_gale_X0_count : GoodIn wsX11_gale wsX0_count := goodIn_r _ [18, 19, 20, 21, 22, 23, 24, 17, 25, 26, 27, 28, 29, 30, 31, 32, 33, 34, 35, 36, 37, 38, 39, 40, 41, 42, 43, 44, 45, 46, 47, 48, 49, 50, 51, 52, 53, 54, 55, 56, 57, 58, 9, 59, 74, 75, 76, 77, 78, 79, 80] (by decide +kernel) (by decide +kernel)
set_option maxRecDepth 20000 in
theorem gX11_gale_X0_count : GoodIn wsX11_gale (wsV RX11 271 RX0 yX0_count wsX0_count) := goodIn_app (goodIn_of _ (by decide +kernel)) ggX11_gale_X0_count
set_option maxRecDepth 20000 in
theorem ggX11_gale_X11_commonDivisor : GoodIn wsX11_gale wsX11_commonDivisor := goodIn_r _ [62] (by decide +kernel) (by decide +kernel)
set_option maxRecDepth 20000 in
theorem gX11_gale_X11_commonDivisor : GoodIn wsX11_gale (va_wsS RX11 282 yX11_commonDivisor wsX11_commonDivisor) := goodIn_app (goodIn_of _ (by decide +kernel)) ggX11_gale_X11_commonDivisor
theorem dX11_gale_0 : decode cX11_gale 0 = .ok (.iload_n 1, 1) := by decide +kernel
theorem dX11_gale_1 : decode cX11_gale 1 = .ok (.invokestatic 89, 3) := by decide +kernel
theorem dX11_gale_4 : decode cX11_gale 4 = .ok (.ifCond .ne 7, 3) := by decide +kernel
theorem dX11_gale_7 : decode cX11_gale 7 = .ok (.ldc2_w 267, 3) := by decide +kernel
theorem dX11_gale_10 : decode cX11_gale 10 = .ok (.lreturn, 1) := by decide +kernel
theorem dX11_gale_11 : decode cX11_gale 11 = .ok (.iload_n 2, 1) := by decide +kernel
theorem dX11_gale_12 : decode cX11_gale 12 = .ok (.iconst 0, 1) := by decide +kernel
theorem dX11_gale_13 : decode cX11_gale 13 = .ok (.iconst 1, 1) := by decide +kernel
theorem dX11_gale_14 : decode cX11_gale 14 = .ok (.invokestatic 92, 3) := by decide +kernel
theorem dX11_gale_17 : decode cX11_gale 17 = .ok (.ifCond .eq 12, 3) := by decide +kernel
theorem dX11_gale_20 : decode cX11_gale 20 = .ok (.iload_n 3, 1) := by decide +kernel
theorem dX11_gale_21 : decode cX11_gale 21 = .ok (.iconst 0, 1) := by decide +kernel
theorem dX11_gale_22 : decode cX11_gale 22 = .ok (.iconst 1, 1) := by decide +kernel
theorem dX11_gale_23 : decode cX11_gale 23 = .ok (.invokestatic 92, 3) := by decide +kernel
theorem dX11_gale_26 : decode cX11_gale 26 = .ok (.ifCond .ne 7, 3) := by decide +kernel
theorem dX11_gale_29 : decode cX11_gale 29 = .ok (.ldc2_w 269, 3) := by decide +kernel
theorem dX11_gale_32 : decode cX11_gale 32 = .ok (.lreturn, 1) := by decide +kernel
theorem dX11_gale_33 : decode cX11_gale 33 = .ok (.aload_n 0, 1) := by decide +kernel
theorem dX11_gale_34 : decode cX11_gale 34 = .ok (.getfield 74, 3) := by decide +kernel
theorem dX11_gale_37 : decode cX11_gale 37 = .ok (.iload_n 1, 1) := by decide +kernel
theorem dX11_gale_38 : decode cX11_gale 38 = .ok (.invokevirtual 271, 3) := by decide +kernel
theorem dX11_gale_41 : decode cX11_gale 41 = .ok (.iload_n 2, 1) := by decide +kernel
theorem dX11_gale_42 : decode cX11_gale 42 = .ok (.ifCond .ne 13, 3) := by decide +kernel
theorem dX11_gale_45 : decode cX11_gale 45 = .ok (.aload_n 0, 1) := by decide +kernel
theorem dX11_gale_46 : decode cX11_gale 46 = .ok (.getfield 74, 3) := by decide +kernel
theorem dX11_gale_49 : decode cX11_gale 49 = .ok (.getfield 273, 3) := by decide +kernel
theorem dX11_gale_52 : decode cX11_gale 52 = .ok (.goto 10, 3) := by decide +kernel
theorem dX11_gale_55 : decode cX11_gale 55 = .ok (.aload_n 0, 1) := by decide +kernel
theorem dX11_gale_56 : decode cX11_gale 56 = .ok (.getfield 74, 3) := by decide +kernel
theorem dX11_gale_59 : decode cX11_gale 59 = .ok (.getfield 276, 3) := by decide +kernel
theorem dX11_gale_62 : decode cX11_gale 62 = .ok (.istore 4, 2) := by decide +kernel
theorem dX11_gale_64 : decode cX11_gale 64 = .ok (.iload 4, 2) := by decide +kernel
theorem dX11_gale_66 : decode cX11_gale 66 = .ok (.aload_n 0, 1) := by decide +kernel
theorem dX11_gale_67 : decode cX11_gale 67 = .ok (.getfield 74, 3) := by decide +kernel
theorem dX11_gale_70 : decode cX11_gale 70 = .ok (.getfield 279, 3) := by decide +kernel
theorem dX11_gale_73 : decode cX11_gale 73 = .ok (.invokestatic 282, 3) := by decide +kernel
theorem dX11_gale_76 : decode cX11_gale 76 = .ok (.istore 5, 2) := by decide +kernel
theorem dX11_gale_78 : decode cX11_gale 78 = .ok (.iload_n 3, 1) := by decide +kernel
theorem dX11_gale_79 : decode cX11_gale 79 = .ok (.ifCond .ne 8, 3) := by decide +kernel
theorem dX11_gale_82 : decode cX11_gale 82 = .ok (.iload 4, 2) := by decide +kernel
theorem dX11_gale_84 : decode cX11_gale 84 = .ok (.goto 10, 3) := by decide +kernel
theorem dX11_gale_87 : decode cX11_gale 87 = .ok (.aload_n 0, 1) := by decide +kernel
theorem dX11_gale_88 : decode cX11_gale 88 = .ok (.getfield 74, 3) := by decide +kernel
theorem dX11_gale_91 : decode cX11_gale 91 = .ok (.getfield 279, 3) := by decide +kernel
theorem dX11_gale_94 : decode cX11_gale 94 = .ok (.istore 6, 2) := by decide +kernel
theorem dX11_gale_96 : decode cX11_gale 96 = .ok (.iload 5, 2) := by decide +kernel
theorem dX11_gale_98 : decode cX11_gale 98 = .ok (.ifCond .le 12, 3) := by decide +kernel
theorem dX11_gale_101 : decode cX11_gale 101 = .ok (.iload 6, 2) := by decide +kernel
theorem dX11_gale_103 : decode cX11_gale 103 = .ok (.iload 5, 2) := by decide +kernel
theorem dX11_gale_105 : decode cX11_gale 105 = .ok (.idiv, 1) := by decide +kernel
theorem dX11_gale_106 : decode cX11_gale 106 = .ok (.i2l, 1) := by decide +kernel
theorem dX11_gale_107 : decode cX11_gale 107 = .ok (.goto 6, 3) := by decide +kernel
theorem dX11_gale_110 : decode cX11_gale 110 = .ok (.iload 6, 2) := by decide +kernel
theorem dX11_gale_112 : decode cX11_gale 112 = .ok (.i2l, 1) := by decide +kernel
theorem dX11_gale_113 : decode cX11_gale 113 = .ok (.lreturn, 1) := by decide +kernel
set_option maxRecDepth 20000 in
theorem ggX11_year_X11_within : GoodIn wsX11_year wsX11_within := goodIn_r _ [8] (by decide +kernel) (by decide +kernel)
set_option maxRecDepth 20000 in
theorem gX11_year_X11_within : GoodIn wsX11_year (va_wsS RX11 92 yX11_within wsX11_within) := goodIn_app (goodIn_of _ (by decide +kernel)) ggX11_year_X11_within
set_option maxRecDepth 20000 in
theorem ggX11_year_X9_draw : GoodIn wsX11_year wsX9_draw := goodIn_r _ [13, 14, 15, 16, 17, 12, 18, 19, 20, 21, 22, 23, 24, 25, 26, 27, 28, 29, 30, 31, 32, 33, 34, 35, 36, 37, 38, 39, 40, 41, 42, 43, 44, 45, 46, 47, 48, 49, 50, 51, 52, 53, 54, 55, 56, 57, 58, 59, 60, 61, 62, 63, 64, 65, 66, 67, 68, 69, 70, 71, 72, 73, 74, 75, 76, 77, 78, 79, 80, 81, 82, 83, 84, 85, 86, 87, 88, 89, 90, 91, 92, 93, 94, 95, 96, 97, 98, 99, 100, 101, 102, 103, 104, 105, 106, 107, 108, 109, 110, 111, 112, 113, 114, 115, 116, 117, 118, 119, 120, 121, 122, 123, 124, 125, 126, 127, 7, 128, 129, 130, 131, 132, 133, 134, 135, 136, 137, 138, 139, 140, 141, 142, 143, 144, 145, 146, 147, 148, 149, 150, 151, 152, 153, 154, 155, 156, 157, 158, 159, 160, 161, 162, 163, 164, 165, 166, 167, 168, 169, 170, 171, 172, 173, 174, 191, 192, 193, 194, 195, 196, 197, 198, 199, 200, 201, 202, 203, 204, 205, 206, 207, 208, 209, 210] (by decide +kernel) (by decide +kernel)
set_option maxRecDepth 20000 in
theorem gX11_year_X9_draw : GoodIn wsX11_year (wsV RX11 285 RX9 yX9_draw wsX9_draw) := goodIn_app (goodIn_of _ (by decide +kernel)) ggX11_year_X9_draw
set_option maxRecDepth 20000 in
theorem ggX11_year_X8_bareHeads : GoodIn wsX11_year wsX8_bareHeads := goodIn_r _ [132, 40, 198, 199, 200, 201, 202, 203, 204, 205, 206, 207] (by decide +kernel) (by decide +kernel)
set_option maxRecDepth 20000 in
theorem gX11_year_X8_bareHeads : GoodIn wsX11_year (wsV RX11 289 RX8 yX8_bareHeads wsX8_bareHeads) := goodIn_app (goodIn_of _ (by decide +kernel)) ggX11_year_X8_bareHeads
set_option maxRecDepth 20000 in
theorem ggX11_year_X8_owedByAll : GoodIn wsX11_year wsX8_owedByAll := goodIn_r _ [179, 38, 198, 199, 200, 201, 202, 203, 204, 205, 206, 207] (by decide +kernel) (by decide +kernel)
set_option maxRecDepth 20000 in
theorem gX11_year_X8_owedByAll : GoodIn wsX11_year (wsV RX11 292 RX8 yX8_owedByAll wsX8_owedByAll) := goodIn_app (goodIn_of _ (by decide +kernel)) ggX11_year_X8_owedByAll
theorem dX11_year_0 : decode cX11_year 0 = .ok (.iload_n 1, 1) := by decide +kernel
theorem dX11_year_1 : decode cX11_year 1 = .ok (.iconst 0, 1) := by decide +kernel
theorem dX11_year_2 : decode cX11_year 2 = .ok (.sipush 9999, 3) := by decide +kernel
theorem dX11_year_5 : decode cX11_year 5 = .ok (.invokestatic 92, 3) := by decide +kernel
theorem dX11_year_8 : decode cX11_year 8 = .ok (.ifCond .eq 22, 3) := by decide +kernel
theorem dX11_year_11 : decode cX11_year 11 = .ok (.iload_n 2, 1) := by decide +kernel
theorem dX11_year_12 : decode cX11_year 12 = .ok (.iconst 1, 1) := by decide +kernel
theorem dX11_year_13 : decode cX11_year 13 = .ok (.bipush 99, 2) := by decide +kernel
theorem dX11_year_15 : decode cX11_year 15 = .ok (.invokestatic 92, 3) := by decide +kernel
theorem dX11_year_18 : decode cX11_year 18 = .ok (.ifCond .eq 12, 3) := by decide +kernel
theorem dX11_year_21 : decode cX11_year 21 = .ok (.iload_n 3, 1) := by decide +kernel
theorem dX11_year_22 : decode cX11_year 22 = .ok (.iconst 0, 1) := by decide +kernel
theorem dX11_year_23 : decode cX11_year 23 = .ok (.iconst 2, 1) := by decide +kernel
theorem dX11_year_24 : decode cX11_year 24 = .ok (.invokestatic 92, 3) := by decide +kernel
theorem dX11_year_27 : decode cX11_year 27 = .ok (.ifCond .ne 6, 3) := by decide +kernel
theorem dX11_year_30 : decode cX11_year 30 = .ok (.bipush (-2), 2) := by decide +kernel
theorem dX11_year_32 : decode cX11_year 32 = .ok (.ireturn, 1) := by decide +kernel
theorem dX11_year_33 : decode cX11_year 33 = .ok (.aload_n 0, 1) := by decide +kernel
theorem dX11_year_34 : decode cX11_year 34 = .ok (.getfield 39, 3) := by decide +kernel
theorem dX11_year_37 : decode cX11_year 37 = .ok (.iload_n 1, 1) := by decide +kernel
theorem dX11_year_38 : decode cX11_year 38 = .ok (.iload_n 2, 1) := by decide +kernel
theorem dX11_year_39 : decode cX11_year 39 = .ok (.aload_n 0, 1) := by decide +kernel
theorem dX11_year_40 : decode cX11_year 40 = .ok (.getfield 12, 3) := by decide +kernel
theorem dX11_year_43 : decode cX11_year 43 = .ok (.invokevirtual 285, 3) := by decide +kernel
theorem dX11_year_46 : decode cX11_year 46 = .ok (.iload_n 3, 1) := by decide +kernel
theorem dX11_year_47 : decode cX11_year 47 = .ok (.lookupswitch 47 #[(0, 25), (1, 36)], 25) := by decide +kernel
theorem dX11_year_72 : decode cX11_year 72 = .ok (.aload_n 0, 1) := by decide +kernel
theorem dX11_year_73 : decode cX11_year 73 = .ok (.getfield 39, 3) := by decide +kernel
theorem dX11_year_76 : decode cX11_year 76 = .ok (.getfield 169, 3) := by decide +kernel
theorem dX11_year_79 : decode cX11_year 79 = .ok (.invokevirtual 289, 3) := by decide +kernel
theorem dX11_year_82 : decode cX11_year 82 = .ok (.ireturn, 1) := by decide +kernel
theorem dX11_year_83 : decode cX11_year 83 = .ok (.aload_n 0, 1) := by decide +kernel
theorem dX11_year_84 : decode cX11_year 84 = .ok (.getfield 39, 3) := by decide +kernel
theorem dX11_year_87 : decode cX11_year 87 = .ok (.getfield 169, 3) := by decide +kernel
theorem dX11_year_90 : decode cX11_year 90 = .ok (.invokevirtual 292, 3) := by decide +kernel
theorem dX11_year_93 : decode cX11_year 93 = .ok (.ireturn, 1) := by decide +kernel
theorem dX11_year_94 : decode cX11_year 94 = .ok (.aload_n 0, 1) := by decide +kernel
theorem dX11_year_95 : decode cX11_year 95 = .ok (.getfield 39, 3) := by decide +kernel
theorem dX11_year_98 : decode cX11_year 98 = .ok (.getfield 181, 3) := by decide +kernel
theorem dX11_year_101 : decode cX11_year 101 = .ok (.ireturn, 1) := by decide +kernel
set_option maxRecDepth 20000 in
theorem ggX11_image_X11_within : GoodIn wsX11_image wsX11_within := goodIn_r _ [12] (by decide +kernel) (by decide +kernel)
set_option maxRecDepth 20000 in
theorem gX11_image_X11_within : GoodIn wsX11_image (va_wsS RX11 92 yX11_within wsX11_within) := goodIn_app (goodIn_of _ (by decide +kernel)) ggX11_image_X11_within
set_option maxRecDepth 20000 in
theorem ggX11_image_X1_init : GoodIn wsX11_image wsX1_init := goodIn_r _ [14, 15, 16, 17, 18, 19, 20, 21, 22, 23, 24, 25, 26, 27, 28, 29, 30, 31, 32, 33, 34, 35, 36, 37, 38, 39, 40, 41, 42, 43, 44, 45, 46, 47, 48, 49, 50, 51, 52, 53, 54, 55, 56, 90, 91, 92, 93, 94, 95, 96, 97, 98, 99, 88, 89, 100, 101, 102, 103, 104, 105, 106, 107] (by decide +kernel) (by decide +kernel)
set_option maxRecDepth 20000 in
theorem gX11_image_X1_init_n295 : GoodIn wsX11_image (wsX1_init) := ggX11_image_X1_init
set_option maxRecDepth 20000 in
theorem ggX11_image_X8_become : GoodIn wsX11_image wsX8_become := goodIn_r _ [60, 33, 35, 61, 62, 63, 64, 36, 37, 38, 39, 40, 41, 42, 43, 65, 66, 67, 32, 68, 47, 48, 49, 69, 70, 71, 72, 90, 91, 92, 93, 94, 95, 96, 97, 98, 99, 105, 106, 107] (by decide +kernel) (by decide +kernel)
set_option maxRecDepth 20000 in
theorem gX11_image_X8_become : GoodIn wsX11_image (wsV RX11 170 RX8 yX8_become wsX8_become) := goodIn_app (goodIn_of _ (by decide +kernel)) ggX11_image_X8_become
set_option maxRecDepth 20000 in
theorem ggX11_image_X7_become : GoodIn wsX11_image wsX7_become := goodIn_r _ [76, 54, 56, 100, 101, 102, 103, 104] (by decide +kernel) (by decide +kernel)
set_option maxRecDepth 20000 in
theorem gX11_image_X7_become : GoodIn wsX11_image (wsV RX11 298 RX7 yX7_become wsX7_become) := goodIn_app (goodIn_of _ (by decide +kernel)) ggX11_image_X7_become
theorem dX11_image_0 : decode cX11_image 0 = .ok (.iload_n 1, 1) := by decide +kernel
theorem dX11_image_1 : decode cX11_image 1 = .ok (.iconst 0, 1) := by decide +kernel
theorem dX11_image_2 : decode cX11_image 2 = .ok (.iconst 1, 1) := by decide +kernel
theorem dX11_image_3 : decode cX11_image 3 = .ok (.invokestatic 92, 3) := by decide +kernel
theorem dX11_image_6 : decode cX11_image 6 = .ok (.ifCond .ne 6, 3) := by decide +kernel
theorem dX11_image_9 : decode cX11_image 9 = .ok (.bipush (-2), 2) := by decide +kernel
theorem dX11_image_11 : decode cX11_image 11 = .ok (.ireturn, 1) := by decide +kernel
theorem dX11_image_12 : decode cX11_image 12 = .ok (.aload_n 0, 1) := by decide +kernel
theorem dX11_image_13 : decode cX11_image 13 = .ok (.getfield 32, 3) := by decide +kernel
theorem dX11_image_16 : decode cX11_image 16 = .ok (.iload_n 1, 1) := by decide +kernel
theorem dX11_image_17 : decode cX11_image 17 = .ok (.aaload, 1) := by decide +kernel
theorem dX11_image_18 : decode cX11_image 18 = .ok (.ifnonnull 16, 3) := by decide +kernel
theorem dX11_image_21 : decode cX11_image 21 = .ok (.aload_n 0, 1) := by decide +kernel
theorem dX11_image_22 : decode cX11_image 22 = .ok (.getfield 32, 3) := by decide +kernel
theorem dX11_image_25 : decode cX11_image 25 = .ok (.iload_n 1, 1) := by decide +kernel
theorem dX11_image_26 : decode cX11_image 26 = .ok (.new 30, 3) := by decide +kernel
theorem dX11_image_29 : decode cX11_image 29 = .ok (.dup, 1) := by decide +kernel
theorem dX11_image_30 : decode cX11_image 30 = .ok (.invokespecial 295, 3) := by decide +kernel
theorem dX11_image_33 : decode cX11_image 33 = .ok (.aastore, 1) := by decide +kernel
theorem dX11_image_34 : decode cX11_image 34 = .ok (.aload_n 0, 1) := by decide +kernel
theorem dX11_image_35 : decode cX11_image 35 = .ok (.getfield 32, 3) := by decide +kernel
theorem dX11_image_38 : decode cX11_image 38 = .ok (.iload_n 1, 1) := by decide +kernel
theorem dX11_image_39 : decode cX11_image 39 = .ok (.aaload, 1) := by decide +kernel
theorem dX11_image_40 : decode cX11_image 40 = .ok (.getfield 296, 3) := by decide +kernel
theorem dX11_image_43 : decode cX11_image 43 = .ok (.aload_n 0, 1) := by decide +kernel
theorem dX11_image_44 : decode cX11_image 44 = .ok (.getfield 12, 3) := by decide +kernel
theorem dX11_image_47 : decode cX11_image 47 = .ok (.invokevirtual 170, 3) := by decide +kernel
theorem dX11_image_50 : decode cX11_image 50 = .ok (.aload_n 0, 1) := by decide +kernel
theorem dX11_image_51 : decode cX11_image 51 = .ok (.getfield 32, 3) := by decide +kernel
theorem dX11_image_54 : decode cX11_image 54 = .ok (.iload_n 1, 1) := by decide +kernel
theorem dX11_image_55 : decode cX11_image 55 = .ok (.aaload, 1) := by decide +kernel
theorem dX11_image_56 : decode cX11_image 56 = .ok (.getfield 297, 3) := by decide +kernel
theorem dX11_image_59 : decode cX11_image 59 = .ok (.aload_n 0, 1) := by decide +kernel
theorem dX11_image_60 : decode cX11_image 60 = .ok (.getfield 26, 3) := by decide +kernel
theorem dX11_image_63 : decode cX11_image 63 = .ok (.invokevirtual 298, 3) := by decide +kernel
theorem dX11_image_66 : decode cX11_image 66 = .ok (.iconst 1, 1) := by decide +kernel
theorem dX11_image_67 : decode cX11_image 67 = .ok (.ireturn, 1) := by decide +kernel
set_option maxRecDepth 20000 in
theorem ggX11_restore_X11_within : GoodIn wsX11_restore wsX11_within := goodIn_r _ [9] (by decide +kernel) (by decide +kernel)
set_option maxRecDepth 20000 in
theorem gX11_restore_X11_within : GoodIn wsX11_restore (va_wsS RX11 92 yX11_within wsX11_within) := goodIn_app (goodIn_of _ (by decide +kernel)) ggX11_restore_X11_within
set_option maxRecDepth 20000 in
theorem ggX11_restore_X8_become : GoodIn wsX11_restore wsX8_become := goodIn_r _ [14, 15, 16, 17, 18, 19, 20, 21, 22, 23, 24, 25, 26, 27, 28, 29, 30, 31, 32, 33, 34, 35, 36, 37, 38, 39, 40, 61, 62, 63, 64, 65, 66, 67, 68, 69, 70, 71, 72, 73] (by decide +kernel) (by decide +kernel)
set_option maxRecDepth 20000 in
theorem gX11_restore_X8_become : GoodIn wsX11_restore (wsV RX11 170 RX8 yX8_become wsX8_become) := goodIn_app (goodIn_of _ (by decide +kernel)) ggX11_restore_X8_become
set_option maxRecDepth 20000 in
theorem ggX11_restore_X7_become : GoodIn wsX11_restore wsX7_become := goodIn_r _ [45, 46, 47, 74, 75, 76, 77, 78] (by decide +kernel) (by decide +kernel)
set_option maxRecDepth 20000 in
theorem gX11_restore_X7_become : GoodIn wsX11_restore (wsV RX11 298 RX7 yX7_become wsX7_become) := goodIn_app (goodIn_of _ (by decide +kernel)) ggX11_restore_X7_become
theorem dX11_restore_0 : decode cX11_restore 0 = .ok (.iload_n 1, 1) := by decide +kernel
theorem dX11_restore_1 : decode cX11_restore 1 = .ok (.iconst 0, 1) := by decide +kernel
theorem dX11_restore_2 : decode cX11_restore 2 = .ok (.iconst 1, 1) := by decide +kernel
theorem dX11_restore_3 : decode cX11_restore 3 = .ok (.invokestatic 92, 3) := by decide +kernel
theorem dX11_restore_6 : decode cX11_restore 6 = .ok (.ifCond .ne 6, 3) := by decide +kernel
theorem dX11_restore_9 : decode cX11_restore 9 = .ok (.bipush (-2), 2) := by decide +kernel
theorem dX11_restore_11 : decode cX11_restore 11 = .ok (.ireturn, 1) := by decide +kernel
theorem dX11_restore_12 : decode cX11_restore 12 = .ok (.aload_n 0, 1) := by decide +kernel
theorem dX11_restore_13 : decode cX11_restore 13 = .ok (.getfield 32, 3) := by decide +kernel
theorem dX11_restore_16 : decode cX11_restore 16 = .ok (.iload_n 1, 1) := by decide +kernel
theorem dX11_restore_17 : decode cX11_restore 17 = .ok (.aaload, 1) := by decide +kernel
theorem dX11_restore_18 : decode cX11_restore 18 = .ok (.ifnonnull 6, 3) := by decide +kernel
theorem dX11_restore_21 : decode cX11_restore 21 = .ok (.bipush (-3), 2) := by decide +kernel
theorem dX11_restore_23 : decode cX11_restore 23 = .ok (.ireturn, 1) := by decide +kernel
theorem dX11_restore_24 : decode cX11_restore 24 = .ok (.aload_n 0, 1) := by decide +kernel
theorem dX11_restore_25 : decode cX11_restore 25 = .ok (.getfield 12, 3) := by decide +kernel
theorem dX11_restore_28 : decode cX11_restore 28 = .ok (.aload_n 0, 1) := by decide +kernel
theorem dX11_restore_29 : decode cX11_restore 29 = .ok (.getfield 32, 3) := by decide +kernel
theorem dX11_restore_32 : decode cX11_restore 32 = .ok (.iload_n 1, 1) := by decide +kernel
theorem dX11_restore_33 : decode cX11_restore 33 = .ok (.aaload, 1) := by decide +kernel
theorem dX11_restore_34 : decode cX11_restore 34 = .ok (.getfield 296, 3) := by decide +kernel
theorem dX11_restore_37 : decode cX11_restore 37 = .ok (.invokevirtual 170, 3) := by decide +kernel
theorem dX11_restore_40 : decode cX11_restore 40 = .ok (.aload_n 0, 1) := by decide +kernel
theorem dX11_restore_41 : decode cX11_restore 41 = .ok (.getfield 26, 3) := by decide +kernel
theorem dX11_restore_44 : decode cX11_restore 44 = .ok (.aload_n 0, 1) := by decide +kernel
theorem dX11_restore_45 : decode cX11_restore 45 = .ok (.getfield 32, 3) := by decide +kernel
theorem dX11_restore_48 : decode cX11_restore 48 = .ok (.iload_n 1, 1) := by decide +kernel
theorem dX11_restore_49 : decode cX11_restore 49 = .ok (.aaload, 1) := by decide +kernel
theorem dX11_restore_50 : decode cX11_restore 50 = .ok (.getfield 297, 3) := by decide +kernel
theorem dX11_restore_53 : decode cX11_restore 53 = .ok (.invokevirtual 298, 3) := by decide +kernel
theorem dX11_restore_56 : decode cX11_restore 56 = .ok (.iconst 1, 1) := by decide +kernel
theorem dX11_restore_57 : decode cX11_restore 57 = .ok (.ireturn, 1) := by decide +kernel
set_option maxRecDepth 20000 in
theorem ggX11_told_X11_toldOfWalker : GoodIn wsX11_told wsX11_toldOfWalker := goodIn_r _ [10, 1, 11, 12, 9, 13, 14, 15, 16, 17, 18, 19, 20, 21, 22, 23, 24, 25, 26, 27, 28, 29, 30, 31, 32, 33, 34, 35, 36, 37, 62, 63, 64, 65, 66, 67, 68, 69, 70, 71, 72, 80, 81, 82, 83, 84, 85, 86, 87, 88, 89] (by decide +kernel) (by decide +kernel)
set_option maxRecDepth 20000 in
theorem gX11_told_X11_toldOfWalker : GoodIn wsX11_told (wsV RX11 301 RX11 yX11_toldOfWalker wsX11_toldOfWalker) := goodIn_app (goodIn_of _ (by decide +kernel)) ggX11_told_X11_toldOfWalker
set_option maxRecDepth 20000 in
theorem ggX11_told_X11_within : GoodIn wsX11_told wsX11_within := goodIn_r _ [16] (by decide +kernel) (by decide +kernel)
set_option maxRecDepth 20000 in
theorem gX11_told_X11_within : GoodIn wsX11_told (va_wsS RX11 92 yX11_within wsX11_within) := goodIn_app (goodIn_of _ (by decide +kernel)) ggX11_told_X11_within
set_option maxRecDepth 20000 in
theorem ggX11_told_X8_ofAll : GoodIn wsX11_told wsX8_ofAll := goodIn_r _ [41, 42, 43, 44, 45, 46, 47, 48, 49, 50, 20, 51, 36, 52, 53, 54, 55, 34, 35, 56, 9, 57, 80, 81, 82, 83, 84, 85, 86, 87, 88, 89, 90, 91, 92] (by decide +kernel) (by decide +kernel)
set_option maxRecDepth 20000 in
theorem gX11_told_X8_ofAll : GoodIn wsX11_told (wsV RX11 190 RX8 yX8_ofAll wsX8_ofAll) := goodIn_app (goodIn_of _ (by decide +kernel)) ggX11_told_X8_ofAll
set_option maxRecDepth 20000 in
theorem ggX11_told_X8_bareHeads : GoodIn wsX11_told wsX8_bareHeads := goodIn_r _ [61, 37, 80, 81, 82, 83, 84, 85, 86, 87, 88, 89] (by decide +kernel) (by decide +kernel)
set_option maxRecDepth 20000 in
theorem gX11_told_X8_bareHeads : GoodIn wsX11_told (wsV RX11 289 RX8 yX8_bareHeads wsX8_bareHeads) := goodIn_app (goodIn_of _ (by decide +kernel)) ggX11_told_X8_bareHeads
theorem dX11_told_0 : decode cX11_told 0 = .ok (.iload_n 1, 1) := by decide +kernel
theorem dX11_told_1 : decode cX11_told 1 = .ok (.bipush 10, 2) := by decide +kernel
theorem dX11_told_3 : decode cX11_told 3 = .ok (.if_icmp .lt 16, 3) := by decide +kernel
theorem dX11_told_6 : decode cX11_told 6 = .ok (.aload_n 0, 1) := by decide +kernel
theorem dX11_told_7 : decode cX11_told 7 = .ok (.iload_n 1, 1) := by decide +kernel
theorem dX11_told_8 : decode cX11_told 8 = .ok (.bipush 10, 2) := by decide +kernel
theorem dX11_told_10 : decode cX11_told 10 = .ok (.idiv, 1) := by decide +kernel
theorem dX11_told_11 : decode cX11_told 11 = .ok (.iload_n 1, 1) := by decide +kernel
theorem dX11_told_12 : decode cX11_told 12 = .ok (.bipush 10, 2) := by decide +kernel
theorem dX11_told_14 : decode cX11_told 14 = .ok (.irem, 1) := by decide +kernel
