theorem dX8_init_64 : decode cX8_init 64 = .ok (.iconst 3, 1) := by decide +kernel
theorem dX8_init_65 : decode cX8_init 65 = .ok (.newarray .int, 2) := by decide +kernel
theorem dX8_init_67 : decode cX8_init 67 = .ok (.putfield 37, 3) := by decide +kernel
theorem dX8_init_70 : decode cX8_init 70 = .ok (.aload_n 0, 1) := by decide +kernel
theorem dX8_init_71 : decode cX8_init 71 = .ok (.iconst 0, 1) := by decide +kernel
theorem dX8_init_72 : decode cX8_init 72 = .ok (.putfield 40, 3) := by decide +kernel
theorem dX8_init_75 : decode cX8_init 75 = .ok (.aload_n 0, 1) := by decide +kernel
theorem dX8_init_76 : decode cX8_init 76 = .ok (.iconst 0, 1) := by decide +kernel
theorem dX8_init_77 : decode cX8_init 77 = .ok (.putfield 44, 3) := by decide +kernel
theorem dX8_init_80 : decode cX8_init 80 = .ok (.iconst 0, 1) := by decide +kernel
theorem dX8_init_81 : decode cX8_init 81 = .ok (.istore_n 1, 1) := by decide +kernel
theorem dX8_init_82 : decode cX8_init 82 = .ok (.iload_n 1, 1) := by decide +kernel
theorem dX8_init_83 : decode cX8_init 83 = .ok (.bipush 6, 2) := by decide +kernel
theorem dX8_init_85 : decode cX8_init 85 = .ok (.if_icmp .ge 32, 3) := by decide +kernel
theorem dX8_init_88 : decode cX8_init 88 = .ok (.aload_n 0, 1) := by decide +kernel
theorem dX8_init_89 : decode cX8_init 89 = .ok (.getfield 18, 3) := by decide +kernel
theorem dX8_init_92 : decode cX8_init 92 = .ok (.iload_n 1, 1) := by decide +kernel
theorem dX8_init_93 : decode cX8_init 93 = .ok (.iload_n 1, 1) := by decide +kernel
theorem dX8_init_94 : decode cX8_init 94 = .ok (.iastore, 1) := by decide +kernel
theorem dX8_init_95 : decode cX8_init 95 = .ok (.aload_n 0, 1) := by decide +kernel
theorem dX8_init_96 : decode cX8_init 96 = .ok (.getfield 28, 3) := by decide +kernel
theorem dX8_init_99 : decode cX8_init 99 = .ok (.iload_n 1, 1) := by decide +kernel
theorem dX8_init_100 : decode cX8_init 100 = .ok (.bipush (-6), 2) := by decide +kernel
theorem dX8_init_102 : decode cX8_init 102 = .ok (.iastore, 1) := by decide +kernel
theorem dX8_init_103 : decode cX8_init 103 = .ok (.aload_n 0, 1) := by decide +kernel
theorem dX8_init_104 : decode cX8_init 104 = .ok (.getfield 31, 3) := by decide +kernel
theorem dX8_init_107 : decode cX8_init 107 = .ok (.iload_n 1, 1) := by decide +kernel
theorem dX8_init_108 : decode cX8_init 108 = .ok (.bipush (-6), 2) := by decide +kernel
theorem dX8_init_110 : decode cX8_init 110 = .ok (.iastore, 1) := by decide +kernel
theorem dX8_init_111 : decode cX8_init 111 = .ok (.iinc 1 1, 3) := by decide +kernel
theorem dX8_init_114 : decode cX8_init 114 = .ok (.goto (-32), 3) := by decide +kernel
theorem dX8_init_117 : decode cX8_init 117 = .ok (.iconst 0, 1) := by decide +kernel
theorem dX8_init_118 : decode cX8_init 118 = .ok (.istore_n 1, 1) := by decide +kernel
theorem dX8_init_119 : decode cX8_init 119 = .ok (.iload_n 1, 1) := by decide +kernel
theorem dX8_init_120 : decode cX8_init 120 = .ok (.bipush 18, 2) := by decide +kernel
theorem dX8_init_122 : decode cX8_init 122 = .ok (.if_icmp .ge 16, 3) := by decide +kernel
theorem dX8_init_125 : decode cX8_init 125 = .ok (.aload_n 0, 1) := by decide +kernel
theorem dX8_init_126 : decode cX8_init 126 = .ok (.getfield 34, 3) := by decide +kernel
theorem dX8_init_129 : decode cX8_init 129 = .ok (.iload_n 1, 1) := by decide +kernel
theorem dX8_init_130 : decode cX8_init 130 = .ok (.iconst 2, 1) := by decide +kernel
theorem dX8_init_131 : decode cX8_init 131 = .ok (.iastore, 1) := by decide +kernel
theorem dX8_init_132 : decode cX8_init 132 = .ok (.iinc 1 1, 3) := by decide +kernel
theorem dX8_init_135 : decode cX8_init 135 = .ok (.goto (-16), 3) := by decide +kernel
theorem dX8_init_138 : decode cX8_init 138 = .ok (.iconst 0, 1) := by decide +kernel
theorem dX8_init_139 : decode cX8_init 139 = .ok (.istore_n 1, 1) := by decide +kernel
theorem dX8_init_140 : decode cX8_init 140 = .ok (.iload_n 1, 1) := by decide +kernel
theorem dX8_init_141 : decode cX8_init 141 = .ok (.iconst 3, 1) := by decide +kernel
theorem dX8_init_142 : decode cX8_init 142 = .ok (.if_icmp .ge 16, 3) := by decide +kernel
theorem dX8_init_145 : decode cX8_init 145 = .ok (.aload_n 0, 1) := by decide +kernel
theorem dX8_init_146 : decode cX8_init 146 = .ok (.getfield 37, 3) := by decide +kernel
theorem dX8_init_149 : decode cX8_init 149 = .ok (.iload_n 1, 1) := by decide +kernel
theorem dX8_init_150 : decode cX8_init 150 = .ok (.iconst 1, 1) := by decide +kernel
theorem dX8_init_151 : decode cX8_init 151 = .ok (.iastore, 1) := by decide +kernel
theorem dX8_init_152 : decode cX8_init 152 = .ok (.iinc 1 1, 3) := by decide +kernel
theorem dX8_init_155 : decode cX8_init 155 = .ok (.goto (-15), 3) := by decide +kernel
theorem dX8_init_158 : decode cX8_init 158 = .ok (.return_, 1) := by decide +kernel
set_option maxRecDepth 20000 in
theorem ggX8_become_X10_become : GoodIn wsX8_become wsX10_become := goodIn_r _ [19, 20, 21, 22, 23, 24, 25, 18, 26, 37, 38, 39] (by decide +kernel) (by decide +kernel)
set_option maxRecDepth 20000 in
theorem gX8_become_X10_become : GoodIn wsX8_become (wsV RX8 47 RX10 yX10_become wsX10_become) := goodIn_app (goodIn_of _ (by decide +kernel)) ggX8_become_X10_become
theorem dX8_become_0 : decode cX8_become 0 = .ok (.aload_n 0, 1) := by decide +kernel
theorem dX8_become_1 : decode cX8_become 1 = .ok (.getfield 12, 3) := by decide +kernel
theorem dX8_become_4 : decode cX8_become 4 = .ok (.aload_n 1, 1) := by decide +kernel
theorem dX8_become_5 : decode cX8_become 5 = .ok (.getfield 12, 3) := by decide +kernel
theorem dX8_become_8 : decode cX8_become 8 = .ok (.invokevirtual 47, 3) := by decide +kernel
theorem dX8_become_11 : decode cX8_become 11 = .ok (.aload_n 1, 1) := by decide +kernel
theorem dX8_become_12 : decode cX8_become 12 = .ok (.getfield 18, 3) := by decide +kernel
theorem dX8_become_15 : decode cX8_become 15 = .ok (.iconst 0, 1) := by decide +kernel
theorem dX8_become_16 : decode cX8_become 16 = .ok (.aload_n 0, 1) := by decide +kernel
theorem dX8_become_17 : decode cX8_become 17 = .ok (.getfield 18, 3) := by decide +kernel
theorem dX8_become_20 : decode cX8_become 20 = .ok (.iconst 0, 1) := by decide +kernel
theorem dX8_become_21 : decode cX8_become 21 = .ok (.bipush 6, 2) := by decide +kernel
theorem dX8_become_23 : decode cX8_become 23 = .ok (.invokestatic 51, 3) := by decide +kernel
theorem dX8_become_26 : decode cX8_become 26 = .ok (.aload_n 1, 1) := by decide +kernel
theorem dX8_become_27 : decode cX8_become 27 = .ok (.getfield 22, 3) := by decide +kernel
theorem dX8_become_30 : decode cX8_become 30 = .ok (.iconst 0, 1) := by decide +kernel
theorem dX8_become_31 : decode cX8_become 31 = .ok (.aload_n 0, 1) := by decide +kernel
theorem dX8_become_32 : decode cX8_become 32 = .ok (.getfield 22, 3) := by decide +kernel
theorem dX8_become_35 : decode cX8_become 35 = .ok (.iconst 0, 1) := by decide +kernel
theorem dX8_become_36 : decode cX8_become 36 = .ok (.bipush 6, 2) := by decide +kernel
theorem dX8_become_38 : decode cX8_become 38 = .ok (.invokestatic 51, 3) := by decide +kernel
theorem dX8_become_41 : decode cX8_become 41 = .ok (.aload_n 1, 1) := by decide +kernel
theorem dX8_become_42 : decode cX8_become 42 = .ok (.getfield 25, 3) := by decide +kernel
theorem dX8_become_45 : decode cX8_become 45 = .ok (.iconst 0, 1) := by decide +kernel
theorem dX8_become_46 : decode cX8_become 46 = .ok (.aload_n 0, 1) := by decide +kernel
theorem dX8_become_47 : decode cX8_become 47 = .ok (.getfield 25, 3) := by decide +kernel
theorem dX8_become_50 : decode cX8_become 50 = .ok (.iconst 0, 1) := by decide +kernel
theorem dX8_become_51 : decode cX8_become 51 = .ok (.bipush 6, 2) := by decide +kernel
theorem dX8_become_53 : decode cX8_become 53 = .ok (.invokestatic 51, 3) := by decide +kernel
theorem dX8_become_56 : decode cX8_become 56 = .ok (.aload_n 1, 1) := by decide +kernel
theorem dX8_become_57 : decode cX8_become 57 = .ok (.getfield 28, 3) := by decide +kernel
theorem dX8_become_60 : decode cX8_become 60 = .ok (.iconst 0, 1) := by decide +kernel
theorem dX8_become_61 : decode cX8_become 61 = .ok (.aload_n 0, 1) := by decide +kernel
theorem dX8_become_62 : decode cX8_become 62 = .ok (.getfield 28, 3) := by decide +kernel
theorem dX8_become_65 : decode cX8_become 65 = .ok (.iconst 0, 1) := by decide +kernel
theorem dX8_become_66 : decode cX8_become 66 = .ok (.bipush 6, 2) := by decide +kernel
theorem dX8_become_68 : decode cX8_become 68 = .ok (.invokestatic 51, 3) := by decide +kernel
theorem dX8_become_71 : decode cX8_become 71 = .ok (.aload_n 1, 1) := by decide +kernel
theorem dX8_become_72 : decode cX8_become 72 = .ok (.getfield 31, 3) := by decide +kernel
theorem dX8_become_75 : decode cX8_become 75 = .ok (.iconst 0, 1) := by decide +kernel
theorem dX8_become_76 : decode cX8_become 76 = .ok (.aload_n 0, 1) := by decide +kernel
theorem dX8_become_77 : decode cX8_become 77 = .ok (.getfield 31, 3) := by decide +kernel
theorem dX8_become_80 : decode cX8_become 80 = .ok (.iconst 0, 1) := by decide +kernel
theorem dX8_become_81 : decode cX8_become 81 = .ok (.bipush 6, 2) := by decide +kernel
theorem dX8_become_83 : decode cX8_become 83 = .ok (.invokestatic 51, 3) := by decide +kernel
theorem dX8_become_86 : decode cX8_become 86 = .ok (.aload_n 1, 1) := by decide +kernel
theorem dX8_become_87 : decode cX8_become 87 = .ok (.getfield 34, 3) := by decide +kernel
theorem dX8_become_90 : decode cX8_become 90 = .ok (.iconst 0, 1) := by decide +kernel
theorem dX8_become_91 : decode cX8_become 91 = .ok (.aload_n 0, 1) := by decide +kernel
theorem dX8_become_92 : decode cX8_become 92 = .ok (.getfield 34, 3) := by decide +kernel
theorem dX8_become_95 : decode cX8_become 95 = .ok (.iconst 0, 1) := by decide +kernel
theorem dX8_become_96 : decode cX8_become 96 = .ok (.bipush 18, 2) := by decide +kernel
theorem dX8_become_98 : decode cX8_become 98 = .ok (.invokestatic 51, 3) := by decide +kernel
theorem dX8_become_101 : decode cX8_become 101 = .ok (.aload_n 1, 1) := by decide +kernel
theorem dX8_become_102 : decode cX8_become 102 = .ok (.getfield 37, 3) := by decide +kernel
theorem dX8_become_105 : decode cX8_become 105 = .ok (.iconst 0, 1) := by decide +kernel
theorem dX8_become_106 : decode cX8_become 106 = .ok (.aload_n 0, 1) := by decide +kernel
theorem dX8_become_107 : decode cX8_become 107 = .ok (.getfield 37, 3) := by decide +kernel
theorem dX8_become_110 : decode cX8_become 110 = .ok (.iconst 0, 1) := by decide +kernel
theorem dX8_become_111 : decode cX8_become 111 = .ok (.iconst 3, 1) := by decide +kernel
theorem dX8_become_112 : decode cX8_become 112 = .ok (.invokestatic 51, 3) := by decide +kernel
theorem dX8_become_115 : decode cX8_become 115 = .ok (.aload_n 0, 1) := by decide +kernel
theorem dX8_become_116 : decode cX8_become 116 = .ok (.aload_n 1, 1) := by decide +kernel
theorem dX8_become_117 : decode cX8_become 117 = .ok (.getfield 40, 3) := by decide +kernel
theorem dX8_become_120 : decode cX8_become 120 = .ok (.putfield 40, 3) := by decide +kernel
theorem dX8_become_123 : decode cX8_become 123 = .ok (.aload_n 0, 1) := by decide +kernel
theorem dX8_become_124 : decode cX8_become 124 = .ok (.aload_n 1, 1) := by decide +kernel
theorem dX8_become_125 : decode cX8_become 125 = .ok (.getfield 44, 3) := by decide +kernel
theorem dX8_become_128 : decode cX8_become 128 = .ok (.putfield 44, 3) := by decide +kernel
theorem dX8_become_131 : decode cX8_become 131 = .ok (.return_, 1) := by decide +kernel
theorem dX8_place_0 : decode cX8_place 0 = .ok (.aload_n 0, 1) := by decide +kernel
theorem dX8_place_1 : decode cX8_place 1 = .ok (.getfield 18, 3) := by decide +kernel
theorem dX8_place_4 : decode cX8_place 4 = .ok (.iload_n 1, 1) := by decide +kernel
theorem dX8_place_5 : decode cX8_place 5 = .ok (.iload_n 2, 1) := by decide +kernel
theorem dX8_place_6 : decode cX8_place 6 = .ok (.iastore, 1) := by decide +kernel
theorem dX8_place_7 : decode cX8_place 7 = .ok (.aload_n 0, 1) := by decide +kernel
theorem dX8_place_8 : decode cX8_place 8 = .ok (.getfield 22, 3) := by decide +kernel
theorem dX8_place_11 : decode cX8_place 11 = .ok (.iload_n 1, 1) := by decide +kernel
theorem dX8_place_12 : decode cX8_place 12 = .ok (.iload_n 3, 1) := by decide +kernel
theorem dX8_place_13 : decode cX8_place 13 = .ok (.iastore, 1) := by decide +kernel
theorem dX8_place_14 : decode cX8_place 14 = .ok (.aload_n 0, 1) := by decide +kernel
theorem dX8_place_15 : decode cX8_place 15 = .ok (.getfield 25, 3) := by decide +kernel
theorem dX8_place_18 : decode cX8_place 18 = .ok (.iload_n 1, 1) := by decide +kernel
theorem dX8_place_19 : decode cX8_place 19 = .ok (.iload 4, 2) := by decide +kernel
theorem dX8_place_21 : decode cX8_place 21 = .ok (.iastore, 1) := by decide +kernel
theorem dX8_place_22 : decode cX8_place 22 = .ok (.aload_n 0, 1) := by decide +kernel
theorem dX8_place_23 : decode cX8_place 23 = .ok (.getfield 31, 3) := by decide +kernel
theorem dX8_place_26 : decode cX8_place 26 = .ok (.iload_n 1, 1) := by decide +kernel
theorem dX8_place_27 : decode cX8_place 27 = .ok (.bipush (-6), 2) := by decide +kernel
theorem dX8_place_29 : decode cX8_place 29 = .ok (.iastore, 1) := by decide +kernel
theorem dX8_place_30 : decode cX8_place 30 = .ok (.aload_n 0, 1) := by decide +kernel
theorem dX8_place_31 : decode cX8_place 31 = .ok (.getfield 28, 3) := by decide +kernel
theorem dX8_place_34 : decode cX8_place 34 = .ok (.iload_n 1, 1) := by decide +kernel
theorem dX8_place_35 : decode cX8_place 35 = .ok (.bipush (-6), 2) := by decide +kernel
theorem dX8_place_37 : decode cX8_place 37 = .ok (.iastore, 1) := by decide +kernel
theorem dX8_place_38 : decode cX8_place 38 = .ok (.iconst 0, 1) := by decide +kernel
theorem dX8_place_39 : decode cX8_place 39 = .ok (.istore 5, 2) := by decide +kernel
theorem dX8_place_41 : decode cX8_place 41 = .ok (.iload 5, 2) := by decide +kernel
theorem dX8_place_43 : decode cX8_place 43 = .ok (.bipush 6, 2) := by decide +kernel
theorem dX8_place_45 : decode cX8_place 45 = .ok (.if_icmp .ge 29, 3) := by decide +kernel
theorem dX8_place_48 : decode cX8_place 48 = .ok (.aload_n 0, 1) := by decide +kernel
theorem dX8_place_49 : decode cX8_place 49 = .ok (.getfield 28, 3) := by decide +kernel
theorem dX8_place_52 : decode cX8_place 52 = .ok (.iload 5, 2) := by decide +kernel
theorem dX8_place_54 : decode cX8_place 54 = .ok (.iaload, 1) := by decide +kernel
theorem dX8_place_55 : decode cX8_place 55 = .ok (.iload_n 1, 1) := by decide +kernel
theorem dX8_place_56 : decode cX8_place 56 = .ok (.if_icmp .ne 12, 3) := by decide +kernel
theorem dX8_place_59 : decode cX8_place 59 = .ok (.aload_n 0, 1) := by decide +kernel
theorem dX8_place_60 : decode cX8_place 60 = .ok (.getfield 28, 3) := by decide +kernel
theorem dX8_place_63 : decode cX8_place 63 = .ok (.iload 5, 2) := by decide +kernel
theorem dX8_place_65 : decode cX8_place 65 = .ok (.bipush (-6), 2) := by decide +kernel
theorem dX8_place_67 : decode cX8_place 67 = .ok (.iastore, 1) := by decide +kernel
theorem dX8_place_68 : decode cX8_place 68 = .ok (.iinc 5 1, 3) := by decide +kernel
theorem dX8_place_71 : decode cX8_place 71 = .ok (.goto (-30), 3) := by decide +kernel
theorem dX8_place_74 : decode cX8_place 74 = .ok (.return_, 1) := by decide +kernel
theorem dX8_goodsOf_0 : decode cX8_goodsOf 0 = .ok (.aload_n 0, 1) := by decide +kernel
theorem dX8_goodsOf_1 : decode cX8_goodsOf 1 = .ok (.getfield 34, 3) := by decide +kernel
theorem dX8_goodsOf_4 : decode cX8_goodsOf 4 = .ok (.iload_n 1, 1) := by decide +kernel
theorem dX8_goodsOf_5 : decode cX8_goodsOf 5 = .ok (.iconst 3, 1) := by decide +kernel
theorem dX8_goodsOf_6 : decode cX8_goodsOf 6 = .ok (.imul, 1) := by decide +kernel
theorem dX8_goodsOf_7 : decode cX8_goodsOf 7 = .ok (.iload_n 2, 1) := by decide +kernel
theorem dX8_goodsOf_8 : decode cX8_goodsOf 8 = .ok (.iadd, 1) := by decide +kernel
theorem dX8_goodsOf_9 : decode cX8_goodsOf 9 = .ok (.iaload, 1) := by decide +kernel
theorem dX8_goodsOf_10 : decode cX8_goodsOf 10 = .ok (.ireturn, 1) := by decide +kernel
theorem dX8_fillPurse_0 : decode cX8_fillPurse 0 = .ok (.aload_n 0, 1) := by decide +kernel
theorem dX8_fillPurse_1 : decode cX8_fillPurse 1 = .ok (.getfield 34, 3) := by decide +kernel
theorem dX8_fillPurse_4 : decode cX8_fillPurse 4 = .ok (.iload_n 1, 1) := by decide +kernel
theorem dX8_fillPurse_5 : decode cX8_fillPurse 5 = .ok (.iconst 3, 1) := by decide +kernel
theorem dX8_fillPurse_6 : decode cX8_fillPurse 6 = .ok (.imul, 1) := by decide +kernel
theorem dX8_fillPurse_7 : decode cX8_fillPurse 7 = .ok (.iload_n 2, 1) := by decide +kernel
theorem dX8_fillPurse_8 : decode cX8_fillPurse 8 = .ok (.iastore, 1) := by decide +kernel
theorem dX8_fillPurse_9 : decode cX8_fillPurse 9 = .ok (.aload_n 0, 1) := by decide +kernel
theorem dX8_fillPurse_10 : decode cX8_fillPurse 10 = .ok (.getfield 34, 3) := by decide +kernel
theorem dX8_fillPurse_13 : decode cX8_fillPurse 13 = .ok (.iload_n 1, 1) := by decide +kernel
theorem dX8_fillPurse_14 : decode cX8_fillPurse 14 = .ok (.iconst 3, 1) := by decide +kernel
theorem dX8_fillPurse_15 : decode cX8_fillPurse 15 = .ok (.imul, 1) := by decide +kernel
theorem dX8_fillPurse_16 : decode cX8_fillPurse 16 = .ok (.iconst 1, 1) := by decide +kernel
theorem dX8_fillPurse_17 : decode cX8_fillPurse 17 = .ok (.iadd, 1) := by decide +kernel
theorem dX8_fillPurse_18 : decode cX8_fillPurse 18 = .ok (.iload_n 3, 1) := by decide +kernel
theorem dX8_fillPurse_19 : decode cX8_fillPurse 19 = .ok (.iastore, 1) := by decide +kernel
theorem dX8_fillPurse_20 : decode cX8_fillPurse 20 = .ok (.aload_n 0, 1) := by decide +kernel
theorem dX8_fillPurse_21 : decode cX8_fillPurse 21 = .ok (.getfield 34, 3) := by decide +kernel
theorem dX8_fillPurse_24 : decode cX8_fillPurse 24 = .ok (.iload_n 1, 1) := by decide +kernel
theorem dX8_fillPurse_25 : decode cX8_fillPurse 25 = .ok (.iconst 3, 1) := by decide +kernel
theorem dX8_fillPurse_26 : decode cX8_fillPurse 26 = .ok (.imul, 1) := by decide +kernel
theorem dX8_fillPurse_27 : decode cX8_fillPurse 27 = .ok (.iconst 2, 1) := by decide +kernel
theorem dX8_fillPurse_28 : decode cX8_fillPurse 28 = .ok (.iadd, 1) := by decide +kernel
theorem dX8_fillPurse_29 : decode cX8_fillPurse 29 = .ok (.iload 4, 2) := by decide +kernel
theorem dX8_fillPurse_31 : decode cX8_fillPurse 31 = .ok (.iastore, 1) := by decide +kernel
theorem dX8_fillPurse_32 : decode cX8_fillPurse 32 = .ok (.return_, 1) := by decide +kernel
set_option maxRecDepth 20000 in
theorem ggX8_purseOf_X8_goodsOf : GoodIn wsX8_purseOf wsX8_goodsOf := goodIn_r _ [5, 6, 10, 11, 12, 13, 14, 15, 16, 17, 18, 19] (by decide +kernel) (by decide +kernel)
set_option maxRecDepth 20000 in
theorem gX8_purseOf_X8_goodsOf : GoodIn wsX8_purseOf (wsV RX8 57 RX8 yX8_goodsOf wsX8_goodsOf) := goodIn_app (goodIn_of _ (by decide +kernel)) ggX8_purseOf_X8_goodsOf
set_option maxRecDepth 20000 in
theorem ggX8_purseOf_X11_code : GoodIn wsX8_purseOf wsX11_code := goodIn_r _ [9] (by decide +kernel) (by decide +kernel)
set_option maxRecDepth 20000 in
theorem gX8_purseOf_X11_code_n61 : GoodIn wsX8_purseOf (wsX11_code) := ggX8_purseOf_X11_code
theorem dX8_purseOf_0 : decode cX8_purseOf 0 = .ok (.aload_n 0, 1) := by decide +kernel
theorem dX8_purseOf_1 : decode cX8_purseOf 1 = .ok (.iload_n 1, 1) := by decide +kernel
theorem dX8_purseOf_2 : decode cX8_purseOf 2 = .ok (.iconst 0, 1) := by decide +kernel
theorem dX8_purseOf_3 : decode cX8_purseOf 3 = .ok (.invokevirtual 57, 3) := by decide +kernel
theorem dX8_purseOf_6 : decode cX8_purseOf 6 = .ok (.aload_n 0, 1) := by decide +kernel
theorem dX8_purseOf_7 : decode cX8_purseOf 7 = .ok (.iload_n 1, 1) := by decide +kernel
theorem dX8_purseOf_8 : decode cX8_purseOf 8 = .ok (.iconst 1, 1) := by decide +kernel
theorem dX8_purseOf_9 : decode cX8_purseOf 9 = .ok (.invokevirtual 57, 3) := by decide +kernel
theorem dX8_purseOf_12 : decode cX8_purseOf 12 = .ok (.aload_n 0, 1) := by decide +kernel
theorem dX8_purseOf_13 : decode cX8_purseOf 13 = .ok (.iload_n 1, 1) := by decide +kernel
theorem dX8_purseOf_14 : decode cX8_purseOf 14 = .ok (.iconst 2, 1) := by decide +kernel
theorem dX8_purseOf_15 : decode cX8_purseOf 15 = .ok (.invokevirtual 57, 3) := by decide +kernel
theorem dX8_purseOf_18 : decode cX8_purseOf 18 = .ok (.invokestatic 61, 3) := by decide +kernel
theorem dX8_purseOf_21 : decode cX8_purseOf 21 = .ok (.ireturn, 1) := by decide +kernel
set_option maxRecDepth 20000 in
theorem ggX8_ofWalker_X8_goodsOf : GoodIn wsX8_ofWalker wsX8_goodsOf := goodIn_r _ [10, 11, 12, 13, 14, 15, 16, 17, 18, 19, 20, 21] (by decide +kernel) (by decide +kernel)
set_option maxRecDepth 20000 in
theorem gX8_ofWalker_X8_goodsOf : GoodIn wsX8_ofWalker (wsV RX8 57 RX8 yX8_goodsOf wsX8_goodsOf) := goodIn_app (goodIn_of _ (by decide +kernel)) ggX8_ofWalker_X8_goodsOf
theorem dX8_ofWalker_0 : decode cX8_ofWalker 0 = .ok (.iload_n 2, 1) := by decide +kernel
theorem dX8_ofWalker_1 : decode cX8_ofWalker 1 = .ok (.tableswitch 92 0 6 #[43, 50, 57, 64, 71, 78, 85], 43) := by decide +kernel
theorem dX8_ofWalker_44 : decode cX8_ofWalker 44 = .ok (.aload_n 0, 1) := by decide +kernel
theorem dX8_ofWalker_45 : decode cX8_ofWalker 45 = .ok (.getfield 18, 3) := by decide +kernel
theorem dX8_ofWalker_48 : decode cX8_ofWalker 48 = .ok (.iload_n 1, 1) := by decide +kernel
theorem dX8_ofWalker_49 : decode cX8_ofWalker 49 = .ok (.iaload, 1) := by decide +kernel
theorem dX8_ofWalker_50 : decode cX8_ofWalker 50 = .ok (.ireturn, 1) := by decide +kernel
theorem dX8_ofWalker_51 : decode cX8_ofWalker 51 = .ok (.aload_n 0, 1) := by decide +kernel
theorem dX8_ofWalker_52 : decode cX8_ofWalker 52 = .ok (.getfield 22, 3) := by decide +kernel
theorem dX8_ofWalker_55 : decode cX8_ofWalker 55 = .ok (.iload_n 1, 1) := by decide +kernel
theorem dX8_ofWalker_56 : decode cX8_ofWalker 56 = .ok (.iaload, 1) := by decide +kernel
theorem dX8_ofWalker_57 : decode cX8_ofWalker 57 = .ok (.ireturn, 1) := by decide +kernel
theorem dX8_ofWalker_58 : decode cX8_ofWalker 58 = .ok (.aload_n 0, 1) := by decide +kernel
theorem dX8_ofWalker_59 : decode cX8_ofWalker 59 = .ok (.getfield 25, 3) := by decide +kernel
theorem dX8_ofWalker_62 : decode cX8_ofWalker 62 = .ok (.iload_n 1, 1) := by decide +kernel
theorem dX8_ofWalker_63 : decode cX8_ofWalker 63 = .ok (.iaload, 1) := by decide +kernel
theorem dX8_ofWalker_64 : decode cX8_ofWalker 64 = .ok (.ireturn, 1) := by decide +kernel
theorem dX8_ofWalker_65 : decode cX8_ofWalker 65 = .ok (.aload_n 0, 1) := by decide +kernel
theorem dX8_ofWalker_66 : decode cX8_ofWalker 66 = .ok (.getfield 28, 3) := by decide +kernel
theorem dX8_ofWalker_69 : decode cX8_ofWalker 69 = .ok (.iload_n 1, 1) := by decide +kernel
theorem dX8_ofWalker_70 : decode cX8_ofWalker 70 = .ok (.iaload, 1) := by decide +kernel
theorem dX8_ofWalker_71 : decode cX8_ofWalker 71 = .ok (.ireturn, 1) := by decide +kernel
theorem dX8_ofWalker_72 : decode cX8_ofWalker 72 = .ok (.aload_n 0, 1) := by decide +kernel
theorem dX8_ofWalker_73 : decode cX8_ofWalker 73 = .ok (.getfield 31, 3) := by decide +kernel
theorem dX8_ofWalker_76 : decode cX8_ofWalker 76 = .ok (.iload_n 1, 1) := by decide +kernel
theorem dX8_ofWalker_77 : decode cX8_ofWalker 77 = .ok (.iaload, 1) := by decide +kernel
theorem dX8_ofWalker_78 : decode cX8_ofWalker 78 = .ok (.ireturn, 1) := by decide +kernel
theorem dX8_ofWalker_79 : decode cX8_ofWalker 79 = .ok (.aload_n 0, 1) := by decide +kernel
theorem dX8_ofWalker_80 : decode cX8_ofWalker 80 = .ok (.iload_n 1, 1) := by decide +kernel
theorem dX8_ofWalker_81 : decode cX8_ofWalker 81 = .ok (.iconst 0, 1) := by decide +kernel
theorem dX8_ofWalker_82 : decode cX8_ofWalker 82 = .ok (.invokevirtual 57, 3) := by decide +kernel
theorem dX8_ofWalker_85 : decode cX8_ofWalker 85 = .ok (.ireturn, 1) := by decide +kernel
theorem dX8_ofWalker_86 : decode cX8_ofWalker 86 = .ok (.aload_n 0, 1) := by decide +kernel
theorem dX8_ofWalker_87 : decode cX8_ofWalker 87 = .ok (.iload_n 1, 1) := by decide +kernel
theorem dX8_ofWalker_88 : decode cX8_ofWalker 88 = .ok (.iconst 1, 1) := by decide +kernel
theorem dX8_ofWalker_89 : decode cX8_ofWalker 89 = .ok (.invokevirtual 57, 3) := by decide +kernel
theorem dX8_ofWalker_92 : decode cX8_ofWalker 92 = .ok (.ireturn, 1) := by decide +kernel
theorem dX8_ofWalker_93 : decode cX8_ofWalker 93 = .ok (.aload_n 0, 1) := by decide +kernel
theorem dX8_ofWalker_94 : decode cX8_ofWalker 94 = .ok (.iload_n 1, 1) := by decide +kernel
theorem dX8_ofWalker_95 : decode cX8_ofWalker 95 = .ok (.iconst 2, 1) := by decide +kernel
theorem dX8_ofWalker_96 : decode cX8_ofWalker 96 = .ok (.invokevirtual 57, 3) := by decide +kernel
theorem dX8_ofWalker_99 : decode cX8_ofWalker 99 = .ok (.ireturn, 1) := by decide +kernel
set_option maxRecDepth 20000 in
theorem ggX8_ofAll_X8_hushed : GoodIn wsX8_ofAll wsX8_hushed := goodIn_r _ [11, 12, 13, 14, 15, 10, 16, 17, 5, 18, 19, 20, 21, 22, 23, 24, 25, 26, 27, 28, 29, 30, 31] (by decide +kernel) (by decide +kernel)
set_option maxRecDepth 20000 in
theorem gX8_ofAll_X8_hushed : GoodIn wsX8_ofAll (wsV RX8 73 RX8 yX8_hushed wsX8_hushed) := goodIn_app (goodIn_of _ (by decide +kernel)) ggX8_ofAll_X8_hushed
theorem dX8_ofAll_0 : decode cX8_ofAll 0 = .ok (.iload_n 1, 1) := by decide +kernel
theorem dX8_ofAll_1 : decode cX8_ofAll 1 = .ok (.tableswitch 69 0 4 #[35, 43, 51, 59, 64], 35) := by decide +kernel
theorem dX8_ofAll_36 : decode cX8_ofAll 36 = .ok (.aload_n 0, 1) := by decide +kernel
theorem dX8_ofAll_37 : decode cX8_ofAll 37 = .ok (.getfield 12, 3) := by decide +kernel
theorem dX8_ofAll_40 : decode cX8_ofAll 40 = .ok (.getfield 65, 3) := by decide +kernel
theorem dX8_ofAll_43 : decode cX8_ofAll 43 = .ok (.ireturn, 1) := by decide +kernel
theorem dX8_ofAll_44 : decode cX8_ofAll 44 = .ok (.aload_n 0, 1) := by decide +kernel
theorem dX8_ofAll_45 : decode cX8_ofAll 45 = .ok (.getfield 12, 3) := by decide +kernel
theorem dX8_ofAll_48 : decode cX8_ofAll 48 = .ok (.getfield 67, 3) := by decide +kernel
theorem dX8_ofAll_51 : decode cX8_ofAll 51 = .ok (.ireturn, 1) := by decide +kernel
theorem dX8_ofAll_52 : decode cX8_ofAll 52 = .ok (.aload_n 0, 1) := by decide +kernel
theorem dX8_ofAll_53 : decode cX8_ofAll 53 = .ok (.getfield 12, 3) := by decide +kernel
theorem dX8_ofAll_56 : decode cX8_ofAll 56 = .ok (.getfield 70, 3) := by decide +kernel
theorem dX8_ofAll_59 : decode cX8_ofAll 59 = .ok (.ireturn, 1) := by decide +kernel
theorem dX8_ofAll_60 : decode cX8_ofAll 60 = .ok (.aload_n 0, 1) := by decide +kernel
theorem dX8_ofAll_61 : decode cX8_ofAll 61 = .ok (.getfield 40, 3) := by decide +kernel
theorem dX8_ofAll_64 : decode cX8_ofAll 64 = .ok (.ireturn, 1) := by decide +kernel
theorem dX8_ofAll_65 : decode cX8_ofAll 65 = .ok (.aload_n 0, 1) := by decide +kernel
theorem dX8_ofAll_66 : decode cX8_ofAll 66 = .ok (.getfield 44, 3) := by decide +kernel
theorem dX8_ofAll_69 : decode cX8_ofAll 69 = .ok (.ireturn, 1) := by decide +kernel
theorem dX8_ofAll_70 : decode cX8_ofAll 70 = .ok (.aload_n 0, 1) := by decide +kernel
theorem dX8_ofAll_71 : decode cX8_ofAll 71 = .ok (.invokevirtual 73, 3) := by decide +kernel
theorem dX8_ofAll_74 : decode cX8_ofAll 74 = .ok (.ireturn, 1) := by decide +kernel
set_option maxRecDepth 20000 in
theorem ggX8_atPeace_X11_has : GoodIn wsX8_atPeace wsX11_has := goodIn_r _ [6] (by decide +kernel) (by decide +kernel)
set_option maxRecDepth 20000 in
theorem gX8_atPeace_X11_has_n77 : GoodIn wsX8_atPeace (wsX11_has) := ggX8_atPeace_X11_has
theorem dX8_atPeace_0 : decode cX8_atPeace 0 = .ok (.aload_n 0, 1) := by decide +kernel
theorem dX8_atPeace_1 : decode cX8_atPeace 1 = .ok (.getfield 22, 3) := by decide +kernel
theorem dX8_atPeace_4 : decode cX8_atPeace 4 = .ok (.iload_n 1, 1) := by decide +kernel
theorem dX8_atPeace_5 : decode cX8_atPeace 5 = .ok (.iaload, 1) := by decide +kernel
theorem dX8_atPeace_6 : decode cX8_atPeace 6 = .ok (.aload_n 0, 1) := by decide +kernel
theorem dX8_atPeace_7 : decode cX8_atPeace 7 = .ok (.getfield 40, 3) := by decide +kernel
theorem dX8_atPeace_10 : decode cX8_atPeace 10 = .ok (.invokestatic 77, 3) := by decide +kernel
theorem dX8_atPeace_13 : decode cX8_atPeace 13 = .ok (.ifCond .eq 17, 3) := by decide +kernel
theorem dX8_atPeace_16 : decode cX8_atPeace 16 = .ok (.aload_n 0, 1) := by decide +kernel
theorem dX8_atPeace_17 : decode cX8_atPeace 17 = .ok (.getfield 25, 3) := by decide +kernel
theorem dX8_atPeace_20 : decode cX8_atPeace 20 = .ok (.iload_n 1, 1) := by decide +kernel
theorem dX8_atPeace_21 : decode cX8_atPeace 21 = .ok (.iaload, 1) := by decide +kernel
theorem dX8_atPeace_22 : decode cX8_atPeace 22 = .ok (.iconst 4, 1) := by decide +kernel
theorem dX8_atPeace_23 : decode cX8_atPeace 23 = .ok (.if_icmp .ge 7, 3) := by decide +kernel
theorem dX8_atPeace_26 : decode cX8_atPeace 26 = .ok (.iconst 1, 1) := by decide +kernel
theorem dX8_atPeace_27 : decode cX8_atPeace 27 = .ok (.goto 4, 3) := by decide +kernel
theorem dX8_atPeace_30 : decode cX8_atPeace 30 = .ok (.iconst 0, 1) := by decide +kernel
theorem dX8_atPeace_31 : decode cX8_atPeace 31 = .ok (.ireturn, 1) := by decide +kernel
set_option maxRecDepth 20000 in
theorem ggX8_hushed_X8_atPeace : GoodIn wsX8_hushed wsX8_atPeace := goodIn_r _ [6, 7, 8, 9, 10, 11, 12, 13, 14, 15, 16, 17, 18, 19, 20, 21, 22] (by decide +kernel) (by decide +kernel)
set_option maxRecDepth 20000 in
theorem gX8_hushed_X8_atPeace : GoodIn wsX8_hushed (wsV RX8 81 RX8 yX8_atPeace wsX8_atPeace) := goodIn_app (goodIn_of _ (by decide +kernel)) ggX8_hushed_X8_atPeace
theorem dX8_hushed_0 : decode cX8_hushed 0 = .ok (.iconst 0, 1) := by decide +kernel
theorem dX8_hushed_1 : decode cX8_hushed 1 = .ok (.istore_n 1, 1) := by decide +kernel
theorem dX8_hushed_2 : decode cX8_hushed 2 = .ok (.iconst 0, 1) := by decide +kernel
theorem dX8_hushed_3 : decode cX8_hushed 3 = .ok (.istore_n 2, 1) := by decide +kernel
theorem dX8_hushed_4 : decode cX8_hushed 4 = .ok (.iload_n 2, 1) := by decide +kernel
theorem dX8_hushed_5 : decode cX8_hushed 5 = .ok (.bipush 6, 2) := by decide +kernel
theorem dX8_hushed_7 : decode cX8_hushed 7 = .ok (.if_icmp .ge 45, 3) := by decide +kernel
theorem dX8_hushed_10 : decode cX8_hushed 10 = .ok (.aload_n 0, 1) := by decide +kernel
theorem dX8_hushed_11 : decode cX8_hushed 11 = .ok (.iload_n 2, 1) := by decide +kernel
theorem dX8_hushed_12 : decode cX8_hushed 12 = .ok (.invokevirtual 81, 3) := by decide +kernel
theorem dX8_hushed_15 : decode cX8_hushed 15 = .ok (.ifCond .eq 31, 3) := by decide +kernel
theorem dX8_hushed_18 : decode cX8_hushed 18 = .ok (.iload_n 1, 1) := by decide +kernel
theorem dX8_hushed_19 : decode cX8_hushed 19 = .ok (.iconst 1, 1) := by decide +kernel
theorem dX8_hushed_20 : decode cX8_hushed 20 = .ok (.iload_n 2, 1) := by decide +kernel
theorem dX8_hushed_21 : decode cX8_hushed 21 = .ok (.ishl, 1) := by decide +kernel
theorem dX8_hushed_22 : decode cX8_hushed 22 = .ok (.ior, 1) := by decide +kernel
theorem dX8_hushed_23 : decode cX8_hushed 23 = .ok (.istore_n 1, 1) := by decide +kernel
theorem dX8_hushed_24 : decode cX8_hushed 24 = .ok (.aload_n 0, 1) := by decide +kernel
theorem dX8_hushed_25 : decode cX8_hushed 25 = .ok (.getfield 28, 3) := by decide +kernel
theorem dX8_hushed_28 : decode cX8_hushed 28 = .ok (.iload_n 2, 1) := by decide +kernel
theorem dX8_hushed_29 : decode cX8_hushed 29 = .ok (.iaload, 1) := by decide +kernel
theorem dX8_hushed_30 : decode cX8_hushed 30 = .ok (.bipush (-6), 2) := by decide +kernel
theorem dX8_hushed_32 : decode cX8_hushed 32 = .ok (.if_icmp .eq 14, 3) := by decide +kernel
theorem dX8_hushed_35 : decode cX8_hushed 35 = .ok (.iload_n 1, 1) := by decide +kernel
theorem dX8_hushed_36 : decode cX8_hushed 36 = .ok (.iconst 1, 1) := by decide +kernel
theorem dX8_hushed_37 : decode cX8_hushed 37 = .ok (.aload_n 0, 1) := by decide +kernel
theorem dX8_hushed_38 : decode cX8_hushed 38 = .ok (.getfield 28, 3) := by decide +kernel
theorem dX8_hushed_41 : decode cX8_hushed 41 = .ok (.iload_n 2, 1) := by decide +kernel
theorem dX8_hushed_42 : decode cX8_hushed 42 = .ok (.iaload, 1) := by decide +kernel
theorem dX8_hushed_43 : decode cX8_hushed 43 = .ok (.ishl, 1) := by decide +kernel
theorem dX8_hushed_44 : decode cX8_hushed 44 = .ok (.ior, 1) := by decide +kernel
theorem dX8_hushed_45 : decode cX8_hushed 45 = .ok (.istore_n 1, 1) := by decide +kernel
theorem dX8_hushed_46 : decode cX8_hushed 46 = .ok (.iinc 2 1, 3) := by decide +kernel
theorem dX8_hushed_49 : decode cX8_hushed 49 = .ok (.goto (-45), 3) := by decide +kernel
theorem dX8_hushed_52 : decode cX8_hushed 52 = .ok (.iload_n 1, 1) := by decide +kernel
theorem dX8_hushed_53 : decode cX8_hushed 53 = .ok (.ireturn, 1) := by decide +kernel
theorem dX8_bareHeads_0 : decode cX8_bareHeads 0 = .ok (.iconst 0, 1) := by decide +kernel
theorem dX8_bareHeads_1 : decode cX8_bareHeads 1 = .ok (.istore_n 1, 1) := by decide +kernel
theorem dX8_bareHeads_2 : decode cX8_bareHeads 2 = .ok (.iconst 0, 1) := by decide +kernel
theorem dX8_bareHeads_3 : decode cX8_bareHeads 3 = .ok (.istore_n 2, 1) := by decide +kernel
theorem dX8_bareHeads_4 : decode cX8_bareHeads 4 = .ok (.iload_n 2, 1) := by decide +kernel
theorem dX8_bareHeads_5 : decode cX8_bareHeads 5 = .ok (.bipush 6, 2) := by decide +kernel
theorem dX8_bareHeads_7 : decode cX8_bareHeads 7 = .ok (.if_icmp .ge 26, 3) := by decide +kernel
theorem dX8_bareHeads_10 : decode cX8_bareHeads 10 = .ok (.aload_n 0, 1) := by decide +kernel
theorem dX8_bareHeads_11 : decode cX8_bareHeads 11 = .ok (.getfield 31, 3) := by decide +kernel
theorem dX8_bareHeads_14 : decode cX8_bareHeads 14 = .ok (.iload_n 2, 1) := by decide +kernel
theorem dX8_bareHeads_15 : decode cX8_bareHeads 15 = .ok (.iaload, 1) := by decide +kernel
theorem dX8_bareHeads_16 : decode cX8_bareHeads 16 = .ok (.bipush (-6), 2) := by decide +kernel
theorem dX8_bareHeads_18 : decode cX8_bareHeads 18 = .ok (.if_icmp .eq 9, 3) := by decide +kernel
theorem dX8_bareHeads_21 : decode cX8_bareHeads 21 = .ok (.iload_n 1, 1) := by decide +kernel
theorem dX8_bareHeads_22 : decode cX8_bareHeads 22 = .ok (.iconst 1, 1) := by decide +kernel
theorem dX8_bareHeads_23 : decode cX8_bareHeads 23 = .ok (.iload_n 2, 1) := by decide +kernel
theorem dX8_bareHeads_24 : decode cX8_bareHeads 24 = .ok (.ishl, 1) := by decide +kernel
theorem dX8_bareHeads_25 : decode cX8_bareHeads 25 = .ok (.ior, 1) := by decide +kernel
theorem dX8_bareHeads_26 : decode cX8_bareHeads 26 = .ok (.istore_n 1, 1) := by decide +kernel
theorem dX8_bareHeads_27 : decode cX8_bareHeads 27 = .ok (.iinc 2 1, 3) := by decide +kernel
theorem dX8_bareHeads_30 : decode cX8_bareHeads 30 = .ok (.goto (-26), 3) := by decide +kernel
theorem dX8_bareHeads_33 : decode cX8_bareHeads 33 = .ok (.iload_n 1, 1) := by decide +kernel
theorem dX8_bareHeads_34 : decode cX8_bareHeads 34 = .ok (.ireturn, 1) := by decide +kernel
theorem dX8_owedByAll_0 : decode cX8_owedByAll 0 = .ok (.iconst 0, 1) := by decide +kernel
theorem dX8_owedByAll_1 : decode cX8_owedByAll 1 = .ok (.istore_n 1, 1) := by decide +kernel
theorem dX8_owedByAll_2 : decode cX8_owedByAll 2 = .ok (.iconst 0, 1) := by decide +kernel
theorem dX8_owedByAll_3 : decode cX8_owedByAll 3 = .ok (.istore_n 2, 1) := by decide +kernel
theorem dX8_owedByAll_4 : decode cX8_owedByAll 4 = .ok (.iload_n 2, 1) := by decide +kernel
theorem dX8_owedByAll_5 : decode cX8_owedByAll 5 = .ok (.bipush 6, 2) := by decide +kernel
theorem dX8_owedByAll_7 : decode cX8_owedByAll 7 = .ok (.if_icmp .ge 18, 3) := by decide +kernel
theorem dX8_owedByAll_10 : decode cX8_owedByAll 10 = .ok (.iload_n 1, 1) := by decide +kernel
theorem dX8_owedByAll_11 : decode cX8_owedByAll 11 = .ok (.aload_n 0, 1) := by decide +kernel
theorem dX8_owedByAll_12 : decode cX8_owedByAll 12 = .ok (.getfield 25, 3) := by decide +kernel
theorem dX8_owedByAll_15 : decode cX8_owedByAll 15 = .ok (.iload_n 2, 1) := by decide +kernel
theorem dX8_owedByAll_16 : decode cX8_owedByAll 16 = .ok (.iaload, 1) := by decide +kernel
theorem dX8_owedByAll_17 : decode cX8_owedByAll 17 = .ok (.iadd, 1) := by decide +kernel
theorem dX8_owedByAll_18 : decode cX8_owedByAll 18 = .ok (.istore_n 1, 1) := by decide +kernel
theorem dX8_owedByAll_19 : decode cX8_owedByAll 19 = .ok (.iinc 2 1, 3) := by decide +kernel
theorem dX8_owedByAll_22 : decode cX8_owedByAll 22 = .ok (.goto (-18), 3) := by decide +kernel
theorem dX8_owedByAll_25 : decode cX8_owedByAll 25 = .ok (.iload_n 1, 1) := by decide +kernel
theorem dX8_owedByAll_26 : decode cX8_owedByAll 26 = .ok (.ireturn, 1) := by decide +kernel
theorem dX8_isHeld_0 : decode cX8_isHeld 0 = .ok (.iconst 0, 1) := by decide +kernel
theorem dX8_isHeld_1 : decode cX8_isHeld 1 = .ok (.istore_n 2, 1) := by decide +kernel
theorem dX8_isHeld_2 : decode cX8_isHeld 2 = .ok (.iload_n 2, 1) := by decide +kernel
theorem dX8_isHeld_3 : decode cX8_isHeld 3 = .ok (.bipush 6, 2) := by decide +kernel
theorem dX8_isHeld_5 : decode cX8_isHeld 5 = .ok (.if_icmp .ge 21, 3) := by decide +kernel
theorem dX8_isHeld_8 : decode cX8_isHeld 8 = .ok (.aload_n 0, 1) := by decide +kernel
theorem dX8_isHeld_9 : decode cX8_isHeld 9 = .ok (.getfield 28, 3) := by decide +kernel
theorem dX8_isHeld_12 : decode cX8_isHeld 12 = .ok (.iload_n 2, 1) := by decide +kernel
theorem dX8_isHeld_13 : decode cX8_isHeld 13 = .ok (.iaload, 1) := by decide +kernel
theorem dX8_isHeld_14 : decode cX8_isHeld 14 = .ok (.iload_n 1, 1) := by decide +kernel
theorem dX8_isHeld_15 : decode cX8_isHeld 15 = .ok (.if_icmp .ne 5, 3) := by decide +kernel
theorem dX8_isHeld_18 : decode cX8_isHeld 18 = .ok (.iconst 1, 1) := by decide +kernel
theorem dX8_isHeld_19 : decode cX8_isHeld 19 = .ok (.ireturn, 1) := by decide +kernel
theorem dX8_isHeld_20 : decode cX8_isHeld 20 = .ok (.iinc 2 1, 3) := by decide +kernel
theorem dX8_isHeld_23 : decode cX8_isHeld 23 = .ok (.goto (-21), 3) := by decide +kernel
theorem dX8_isHeld_26 : decode cX8_isHeld 26 = .ok (.iconst 0, 1) := by decide +kernel
theorem dX8_isHeld_27 : decode cX8_isHeld 27 = .ok (.ireturn, 1) := by decide +kernel
set_option maxRecDepth 20000 in
theorem ggX8_obstacle_X8_obstacleToGo : GoodIn wsX8_obstacle wsX8_obstacleToGo := goodIn_r _ [11, 12, 13, 14, 15, 10, 16, 2, 35, 36, 37, 38, 39, 40, 41, 42, 43, 44] (by decide +kernel) (by decide +kernel)
set_option maxRecDepth 20000 in
theorem gX8_obstacle_X8_obstacleToGo : GoodIn wsX8_obstacle (wsV RX8 85 RX8 yX8_obstacleToGo wsX8_obstacleToGo) := goodIn_app (goodIn_of _ (by decide +kernel)) ggX8_obstacle_X8_obstacleToGo
set_option maxRecDepth 20000 in
theorem ggX8_obstacle_X8_obstacleToPay : GoodIn wsX8_obstacle wsX8_obstacleToPay := goodIn_r _ [20, 1, 21, 22, 23, 10, 24, 25, 35, 36, 37, 38, 39, 40, 41, 42, 43, 44] (by decide +kernel) (by decide +kernel)
set_option maxRecDepth 20000 in
theorem gX8_obstacle_X8_obstacleToPay : GoodIn wsX8_obstacle (wsV RX8 88 RX8 yX8_obstacleToPay wsX8_obstacleToPay) := goodIn_app (goodIn_of _ (by decide +kernel)) ggX8_obstacle_X8_obstacleToPay
set_option maxRecDepth 20000 in
theorem ggX8_obstacle_X8_obstacleToPutOn : GoodIn wsX8_obstacle wsX8_obstacleToPutOn := goodIn_r _ [29, 30, 12, 13, 14, 15, 10, 16, 2, 35, 36, 37, 38, 39, 40, 41, 42, 43, 44] (by decide +kernel) (by decide +kernel)
set_option maxRecDepth 20000 in
theorem gX8_obstacle_X8_obstacleToPutOn : GoodIn wsX8_obstacle (wsV RX8 91 RX8 yX8_obstacleToPutOn wsX8_obstacleToPutOn) := goodIn_app (goodIn_of _ (by decide +kernel)) ggX8_obstacle_X8_obstacleToPutOn
set_option maxRecDepth 20000 in
theorem ggX8_obstacle_X8_obstacleToHold : GoodIn wsX8_obstacle wsX8_obstacleToHold := goodIn_r _ [34, 12, 2, 13, 14, 15, 10, 16, 35, 36, 37, 38, 39, 40, 41, 42, 43, 44] (by decide +kernel) (by decide +kernel)
set_option maxRecDepth 20000 in
theorem gX8_obstacle_X8_obstacleToHold : GoodIn wsX8_obstacle (wsV RX8 95 RX8 yX8_obstacleToHold wsX8_obstacleToHold) := goodIn_app (goodIn_of _ (by decide +kernel)) ggX8_obstacle_X8_obstacleToHold
theorem dX8_obstacle_0 : decode cX8_obstacle 0 = .ok (.iload_n 2, 1) := by decide +kernel
theorem dX8_obstacle_1 : decode cX8_obstacle 1 = .ok (.tableswitch 135 0 7 #[47, 55, 62, 78, 85, 91, 98, 116], 47) := by decide +kernel
theorem dX8_obstacle_48 : decode cX8_obstacle 48 = .ok (.aload_n 0, 1) := by decide +kernel
theorem dX8_obstacle_49 : decode cX8_obstacle 49 = .ok (.iload_n 1, 1) := by decide +kernel
theorem dX8_obstacle_50 : decode cX8_obstacle 50 = .ok (.bipush 11, 2) := by decide +kernel
theorem dX8_obstacle_52 : decode cX8_obstacle 52 = .ok (.invokevirtual 85, 3) := by decide +kernel
theorem dX8_obstacle_55 : decode cX8_obstacle 55 = .ok (.ireturn, 1) := by decide +kernel
theorem dX8_obstacle_56 : decode cX8_obstacle 56 = .ok (.aload_n 0, 1) := by decide +kernel
theorem dX8_obstacle_57 : decode cX8_obstacle 57 = .ok (.iload_n 1, 1) := by decide +kernel
theorem dX8_obstacle_58 : decode cX8_obstacle 58 = .ok (.iconst 0, 1) := by decide +kernel
theorem dX8_obstacle_59 : decode cX8_obstacle 59 = .ok (.invokevirtual 85, 3) := by decide +kernel
theorem dX8_obstacle_62 : decode cX8_obstacle 62 = .ok (.ireturn, 1) := by decide +kernel
theorem dX8_obstacle_63 : decode cX8_obstacle 63 = .ok (.aload_n 0, 1) := by decide +kernel
theorem dX8_obstacle_64 : decode cX8_obstacle 64 = .ok (.getfield 25, 3) := by decide +kernel
theorem dX8_obstacle_67 : decode cX8_obstacle 67 = .ok (.iload_n 1, 1) := by decide +kernel
theorem dX8_obstacle_68 : decode cX8_obstacle 68 = .ok (.iaload, 1) := by decide +kernel
theorem dX8_obstacle_69 : decode cX8_obstacle 69 = .ok (.iconst 4, 1) := by decide +kernel
theorem dX8_obstacle_70 : decode cX8_obstacle 70 = .ok (.if_icmp .lt 7, 3) := by decide +kernel
theorem dX8_obstacle_73 : decode cX8_obstacle 73 = .ok (.iconst 3, 1) := by decide +kernel
theorem dX8_obstacle_74 : decode cX8_obstacle 74 = .ok (.goto 4, 3) := by decide +kernel
theorem dX8_obstacle_77 : decode cX8_obstacle 77 = .ok (.iconst 0, 1) := by decide +kernel
theorem dX8_obstacle_78 : decode cX8_obstacle 78 = .ok (.ireturn, 1) := by decide +kernel
theorem dX8_obstacle_79 : decode cX8_obstacle 79 = .ok (.aload_n 0, 1) := by decide +kernel
theorem dX8_obstacle_80 : decode cX8_obstacle 80 = .ok (.iload_n 1, 1) := by decide +kernel
theorem dX8_obstacle_81 : decode cX8_obstacle 81 = .ok (.iload_n 3, 1) := by decide +kernel
theorem dX8_obstacle_82 : decode cX8_obstacle 82 = .ok (.invokevirtual 88, 3) := by decide +kernel
theorem dX8_obstacle_85 : decode cX8_obstacle 85 = .ok (.ireturn, 1) := by decide +kernel
theorem dX8_obstacle_86 : decode cX8_obstacle 86 = .ok (.aload_n 0, 1) := by decide +kernel
theorem dX8_obstacle_87 : decode cX8_obstacle 87 = .ok (.iload_n 1, 1) := by decide +kernel
theorem dX8_obstacle_88 : decode cX8_obstacle 88 = .ok (.invokevirtual 91, 3) := by decide +kernel
theorem dX8_obstacle_91 : decode cX8_obstacle 91 = .ok (.ireturn, 1) := by decide +kernel
theorem dX8_obstacle_92 : decode cX8_obstacle 92 = .ok (.aload_n 0, 1) := by decide +kernel
theorem dX8_obstacle_93 : decode cX8_obstacle 93 = .ok (.iload_n 1, 1) := by decide +kernel
theorem dX8_obstacle_94 : decode cX8_obstacle 94 = .ok (.iload_n 3, 1) := by decide +kernel
theorem dX8_obstacle_95 : decode cX8_obstacle 95 = .ok (.invokevirtual 95, 3) := by decide +kernel
theorem dX8_obstacle_98 : decode cX8_obstacle 98 = .ok (.ireturn, 1) := by decide +kernel
theorem dX8_obstacle_99 : decode cX8_obstacle 99 = .ok (.aload_n 0, 1) := by decide +kernel
theorem dX8_obstacle_100 : decode cX8_obstacle 100 = .ok (.getfield 28, 3) := by decide +kernel
theorem dX8_obstacle_103 : decode cX8_obstacle 103 = .ok (.iload_n 1, 1) := by decide +kernel
theorem dX8_obstacle_104 : decode cX8_obstacle 104 = .ok (.iaload, 1) := by decide +kernel
theorem dX8_obstacle_105 : decode cX8_obstacle 105 = .ok (.bipush (-6), 2) := by decide +kernel
theorem dX8_obstacle_107 : decode cX8_obstacle 107 = .ok (.if_icmp .ne 8, 3) := by decide +kernel
theorem dX8_obstacle_110 : decode cX8_obstacle 110 = .ok (.bipush 8, 2) := by decide +kernel
theorem dX8_obstacle_112 : decode cX8_obstacle 112 = .ok (.goto 4, 3) := by decide +kernel
theorem dX8_obstacle_115 : decode cX8_obstacle 115 = .ok (.iconst 0, 1) := by decide +kernel
theorem dX8_obstacle_116 : decode cX8_obstacle 116 = .ok (.ireturn, 1) := by decide +kernel
theorem dX8_obstacle_117 : decode cX8_obstacle 117 = .ok (.aload_n 0, 1) := by decide +kernel
theorem dX8_obstacle_118 : decode cX8_obstacle 118 = .ok (.getfield 12, 3) := by decide +kernel
theorem dX8_obstacle_121 : decode cX8_obstacle 121 = .ok (.getfield 70, 3) := by decide +kernel
theorem dX8_obstacle_124 : decode cX8_obstacle 124 = .ok (.bipush 9, 2) := by decide +kernel
theorem dX8_obstacle_126 : decode cX8_obstacle 126 = .ok (.if_icmp .lt 8, 3) := by decide +kernel
theorem dX8_obstacle_129 : decode cX8_obstacle 129 = .ok (.bipush 9, 2) := by decide +kernel
theorem dX8_obstacle_131 : decode cX8_obstacle 131 = .ok (.goto 4, 3) := by decide +kernel
theorem dX8_obstacle_134 : decode cX8_obstacle 134 = .ok (.iconst 0, 1) := by decide +kernel
theorem dX8_obstacle_135 : decode cX8_obstacle 135 = .ok (.ireturn, 1) := by decide +kernel
theorem dX8_obstacle_136 : decode cX8_obstacle 136 = .ok (.aload_n 0, 1) := by decide +kernel
theorem dX8_obstacle_137 : decode cX8_obstacle 137 = .ok (.getfield 40, 3) := by decide +kernel
theorem dX8_obstacle_140 : decode cX8_obstacle 140 = .ok (.bipush 7, 2) := by decide +kernel
theorem dX8_obstacle_142 : decode cX8_obstacle 142 = .ok (.if_icmp .ne 17, 3) := by decide +kernel
theorem dX8_obstacle_145 : decode cX8_obstacle 145 = .ok (.aload_n 0, 1) := by decide +kernel
theorem dX8_obstacle_146 : decode cX8_obstacle 146 = .ok (.getfield 44, 3) := by decide +kernel
theorem dX8_obstacle_149 : decode cX8_obstacle 149 = .ok (.bipush 99, 2) := by decide +kernel
theorem dX8_obstacle_151 : decode cX8_obstacle 151 = .ok (.if_icmp .lt 8, 3) := by decide +kernel
theorem dX8_obstacle_154 : decode cX8_obstacle 154 = .ok (.bipush 9, 2) := by decide +kernel
theorem dX8_obstacle_156 : decode cX8_obstacle 156 = .ok (.goto 4, 3) := by decide +kernel
theorem dX8_obstacle_159 : decode cX8_obstacle 159 = .ok (.iconst 0, 1) := by decide +kernel
theorem dX8_obstacle_160 : decode cX8_obstacle 160 = .ok (.ireturn, 1) := by decide +kernel
set_option maxRecDepth 20000 in
theorem ggX8_obstacleToGo_X8_isHeld : GoodIn wsX8_obstacleToGo wsX8_isHeld := goodIn_r _ [6, 7, 8, 9, 10, 11, 12, 13, 14, 15, 16, 17] (by decide +kernel) (by decide +kernel)
set_option maxRecDepth 20000 in
theorem gX8_obstacleToGo_X8_isHeld : GoodIn wsX8_obstacleToGo (wsV RX8 98 RX8 yX8_isHeld wsX8_isHeld) := goodIn_app (goodIn_of _ (by decide +kernel)) ggX8_obstacleToGo_X8_isHeld
theorem dX8_obstacleToGo_0 : decode cX8_obstacleToGo 0 = .ok (.aload_n 0, 1) := by decide +kernel
theorem dX8_obstacleToGo_1 : decode cX8_obstacleToGo 1 = .ok (.iload_n 1, 1) := by decide +kernel
theorem dX8_obstacleToGo_2 : decode cX8_obstacleToGo 2 = .ok (.invokevirtual 98, 3) := by decide +kernel
theorem dX8_obstacleToGo_5 : decode cX8_obstacleToGo 5 = .ok (.ifCond .eq 5, 3) := by decide +kernel
theorem dX8_obstacleToGo_8 : decode cX8_obstacleToGo 8 = .ok (.iconst 1, 1) := by decide +kernel
theorem dX8_obstacleToGo_9 : decode cX8_obstacleToGo 9 = .ok (.ireturn, 1) := by decide +kernel
theorem dX8_obstacleToGo_10 : decode cX8_obstacleToGo 10 = .ok (.aload_n 0, 1) := by decide +kernel
theorem dX8_obstacleToGo_11 : decode cX8_obstacleToGo 11 = .ok (.getfield 18, 3) := by decide +kernel
theorem dX8_obstacleToGo_14 : decode cX8_obstacleToGo 14 = .ok (.iload_n 1, 1) := by decide +kernel
theorem dX8_obstacleToGo_15 : decode cX8_obstacleToGo 15 = .ok (.iaload, 1) := by decide +kernel
theorem dX8_obstacleToGo_16 : decode cX8_obstacleToGo 16 = .ok (.iload_n 2, 1) := by decide +kernel
theorem dX8_obstacleToGo_17 : decode cX8_obstacleToGo 17 = .ok (.if_icmp .ne 7, 3) := by decide +kernel
theorem dX8_obstacleToGo_20 : decode cX8_obstacleToGo 20 = .ok (.iconst 2, 1) := by decide +kernel
theorem dX8_obstacleToGo_21 : decode cX8_obstacleToGo 21 = .ok (.goto 4, 3) := by decide +kernel
theorem dX8_obstacleToGo_24 : decode cX8_obstacleToGo 24 = .ok (.iconst 0, 1) := by decide +kernel
theorem dX8_obstacleToGo_25 : decode cX8_obstacleToGo 25 = .ok (.ireturn, 1) := by decide +kernel
set_option maxRecDepth 20000 in
theorem ggX8_obstacleToPay_X8_goodsOf : GoodIn wsX8_obstacleToPay wsX8_goodsOf := goodIn_r _ [6, 7, 8, 9, 10, 11, 12, 13, 14, 15, 16, 17] (by decide +kernel) (by decide +kernel)
set_option maxRecDepth 20000 in
theorem gX8_obstacleToPay_X8_goodsOf : GoodIn wsX8_obstacleToPay (wsV RX8 57 RX8 yX8_goodsOf wsX8_goodsOf) := goodIn_app (goodIn_of _ (by decide +kernel)) ggX8_obstacleToPay_X8_goodsOf
theorem dX8_obstacleToPay_0 : decode cX8_obstacleToPay 0 = .ok (.aload_n 0, 1) := by decide +kernel
theorem dX8_obstacleToPay_1 : decode cX8_obstacleToPay 1 = .ok (.iload_n 1, 1) := by decide +kernel
theorem dX8_obstacleToPay_2 : decode cX8_obstacleToPay 2 = .ok (.iload_n 2, 1) := by decide +kernel
theorem dX8_obstacleToPay_3 : decode cX8_obstacleToPay 3 = .ok (.invokevirtual 57, 3) := by decide +kernel
theorem dX8_obstacleToPay_6 : decode cX8_obstacleToPay 6 = .ok (.ifCond .ne 5, 3) := by decide +kernel
theorem dX8_obstacleToPay_9 : decode cX8_obstacleToPay 9 = .ok (.iconst 4, 1) := by decide +kernel
theorem dX8_obstacleToPay_10 : decode cX8_obstacleToPay 10 = .ok (.ireturn, 1) := by decide +kernel
theorem dX8_obstacleToPay_11 : decode cX8_obstacleToPay 11 = .ok (.aload_n 0, 1) := by decide +kernel
theorem dX8_obstacleToPay_12 : decode cX8_obstacleToPay 12 = .ok (.getfield 25, 3) := by decide +kernel
theorem dX8_obstacleToPay_15 : decode cX8_obstacleToPay 15 = .ok (.iload_n 1, 1) := by decide +kernel
theorem dX8_obstacleToPay_16 : decode cX8_obstacleToPay 16 = .ok (.iaload, 1) := by decide +kernel
theorem dX8_obstacleToPay_17 : decode cX8_obstacleToPay 17 = .ok (.ifCond .ne 7, 3) := by decide +kernel
theorem dX8_obstacleToPay_20 : decode cX8_obstacleToPay 20 = .ok (.iconst 5, 1) := by decide +kernel
theorem dX8_obstacleToPay_21 : decode cX8_obstacleToPay 21 = .ok (.goto 4, 3) := by decide +kernel
theorem dX8_obstacleToPay_24 : decode cX8_obstacleToPay 24 = .ok (.iconst 0, 1) := by decide +kernel
theorem dX8_obstacleToPay_25 : decode cX8_obstacleToPay 25 = .ok (.ireturn, 1) := by decide +kernel
set_option maxRecDepth 20000 in
theorem ggX8_obstacleToPutOn_X8_isHeld : GoodIn wsX8_obstacleToPutOn wsX8_isHeld := goodIn_r _ [7, 8, 9, 10, 11, 12, 13, 14, 15, 16, 17, 18] (by decide +kernel) (by decide +kernel)
set_option maxRecDepth 20000 in
theorem gX8_obstacleToPutOn_X8_isHeld : GoodIn wsX8_obstacleToPutOn (wsV RX8 98 RX8 yX8_isHeld wsX8_isHeld) := goodIn_app (goodIn_of _ (by decide +kernel)) ggX8_obstacleToPutOn_X8_isHeld
theorem dX8_obstacleToPutOn_0 : decode cX8_obstacleToPutOn 0 = .ok (.aload_n 0, 1) := by decide +kernel
theorem dX8_obstacleToPutOn_1 : decode cX8_obstacleToPutOn 1 = .ok (.iload_n 1, 1) := by decide +kernel
theorem dX8_obstacleToPutOn_2 : decode cX8_obstacleToPutOn 2 = .ok (.invokevirtual 98, 3) := by decide +kernel
theorem dX8_obstacleToPutOn_5 : decode cX8_obstacleToPutOn 5 = .ok (.ifCond .eq 5, 3) := by decide +kernel
theorem dX8_obstacleToPutOn_8 : decode cX8_obstacleToPutOn 8 = .ok (.iconst 1, 1) := by decide +kernel
theorem dX8_obstacleToPutOn_9 : decode cX8_obstacleToPutOn 9 = .ok (.ireturn, 1) := by decide +kernel
theorem dX8_obstacleToPutOn_10 : decode cX8_obstacleToPutOn 10 = .ok (.aload_n 0, 1) := by decide +kernel
theorem dX8_obstacleToPutOn_11 : decode cX8_obstacleToPutOn 11 = .ok (.getfield 31, 3) := by decide +kernel
theorem dX8_obstacleToPutOn_14 : decode cX8_obstacleToPutOn 14 = .ok (.iload_n 1, 1) := by decide +kernel
theorem dX8_obstacleToPutOn_15 : decode cX8_obstacleToPutOn 15 = .ok (.iaload, 1) := by decide +kernel
theorem dX8_obstacleToPutOn_16 : decode cX8_obstacleToPutOn 16 = .ok (.aload_n 0, 1) := by decide +kernel
theorem dX8_obstacleToPutOn_17 : decode cX8_obstacleToPutOn 17 = .ok (.getfield 18, 3) := by decide +kernel
theorem dX8_obstacleToPutOn_20 : decode cX8_obstacleToPutOn 20 = .ok (.iload_n 1, 1) := by decide +kernel
theorem dX8_obstacleToPutOn_21 : decode cX8_obstacleToPutOn 21 = .ok (.iaload, 1) := by decide +kernel
theorem dX8_obstacleToPutOn_22 : decode cX8_obstacleToPutOn 22 = .ok (.if_icmp .eq 8, 3) := by decide +kernel
theorem dX8_obstacleToPutOn_25 : decode cX8_obstacleToPutOn 25 = .ok (.bipush 6, 2) := by decide +kernel
theorem dX8_obstacleToPutOn_27 : decode cX8_obstacleToPutOn 27 = .ok (.goto 4, 3) := by decide +kernel
theorem dX8_obstacleToPutOn_30 : decode cX8_obstacleToPutOn 30 = .ok (.iconst 0, 1) := by decide +kernel
theorem dX8_obstacleToPutOn_31 : decode cX8_obstacleToPutOn 31 = .ok (.ireturn, 1) := by decide +kernel
set_option maxRecDepth 20000 in
theorem ggX8_obstacleToHold_X8_isHeld : GoodIn wsX8_obstacleToHold wsX8_isHeld := goodIn_r _ [7, 2, 8, 9, 10, 11, 12, 13, 14, 15, 16, 17] (by decide +kernel) (by decide +kernel)
set_option maxRecDepth 20000 in
theorem gX8_obstacleToHold_X8_isHeld : GoodIn wsX8_obstacleToHold (wsV RX8 98 RX8 yX8_isHeld wsX8_isHeld) := goodIn_app (goodIn_of _ (by decide +kernel)) ggX8_obstacleToHold_X8_isHeld
theorem dX8_obstacleToHold_0 : decode cX8_obstacleToHold 0 = .ok (.aload_n 0, 1) := by decide +kernel
theorem dX8_obstacleToHold_1 : decode cX8_obstacleToHold 1 = .ok (.iload_n 1, 1) := by decide +kernel
theorem dX8_obstacleToHold_2 : decode cX8_obstacleToHold 2 = .ok (.invokevirtual 98, 3) := by decide +kernel
theorem dX8_obstacleToHold_5 : decode cX8_obstacleToHold 5 = .ok (.ifCond .eq 5, 3) := by decide +kernel
theorem dX8_obstacleToHold_8 : decode cX8_obstacleToHold 8 = .ok (.iconst 1, 1) := by decide +kernel
theorem dX8_obstacleToHold_9 : decode cX8_obstacleToHold 9 = .ok (.ireturn, 1) := by decide +kernel
theorem dX8_obstacleToHold_10 : decode cX8_obstacleToHold 10 = .ok (.iload_n 1, 1) := by decide +kernel
theorem dX8_obstacleToHold_11 : decode cX8_obstacleToHold 11 = .ok (.iload_n 2, 1) := by decide +kernel
theorem dX8_obstacleToHold_12 : decode cX8_obstacleToHold 12 = .ok (.if_icmp .eq 22, 3) := by decide +kernel
theorem dX8_obstacleToHold_15 : decode cX8_obstacleToHold 15 = .ok (.aload_n 0, 1) := by decide +kernel
theorem dX8_obstacleToHold_16 : decode cX8_obstacleToHold 16 = .ok (.getfield 18, 3) := by decide +kernel
theorem dX8_obstacleToHold_19 : decode cX8_obstacleToHold 19 = .ok (.iload_n 1, 1) := by decide +kernel
theorem dX8_obstacleToHold_20 : decode cX8_obstacleToHold 20 = .ok (.iaload, 1) := by decide +kernel
theorem dX8_obstacleToHold_21 : decode cX8_obstacleToHold 21 = .ok (.aload_n 0, 1) := by decide +kernel
theorem dX8_obstacleToHold_22 : decode cX8_obstacleToHold 22 = .ok (.getfield 18, 3) := by decide +kernel
theorem dX8_obstacleToHold_25 : decode cX8_obstacleToHold 25 = .ok (.iload_n 2, 1) := by decide +kernel
theorem dX8_obstacleToHold_26 : decode cX8_obstacleToHold 26 = .ok (.iaload, 1) := by decide +kernel
theorem dX8_obstacleToHold_27 : decode cX8_obstacleToHold 27 = .ok (.if_icmp .ne 7, 3) := by decide +kernel
theorem dX8_obstacleToHold_30 : decode cX8_obstacleToHold 30 = .ok (.iconst 1, 1) := by decide +kernel
theorem dX8_obstacleToHold_31 : decode cX8_obstacleToHold 31 = .ok (.goto 4, 3) := by decide +kernel
theorem dX8_obstacleToHold_34 : decode cX8_obstacleToHold 34 = .ok (.iconst 0, 1) := by decide +kernel
theorem dX8_obstacleToHold_35 : decode cX8_obstacleToHold 35 = .ok (.istore_n 3, 1) := by decide +kernel
theorem dX8_obstacleToHold_36 : decode cX8_obstacleToHold 36 = .ok (.aload_n 0, 1) := by decide +kernel
theorem dX8_obstacleToHold_37 : decode cX8_obstacleToHold 37 = .ok (.getfield 28, 3) := by decide +kernel
theorem dX8_obstacleToHold_40 : decode cX8_obstacleToHold 40 = .ok (.iload_n 1, 1) := by decide +kernel
theorem dX8_obstacleToHold_41 : decode cX8_obstacleToHold 41 = .ok (.iaload, 1) := by decide +kernel
theorem dX8_obstacleToHold_42 : decode cX8_obstacleToHold 42 = .ok (.bipush (-6), 2) := by decide +kernel
theorem dX8_obstacleToHold_44 : decode cX8_obstacleToHold 44 = .ok (.if_icmp .ne 26, 3) := by decide +kernel
theorem dX8_obstacleToHold_47 : decode cX8_obstacleToHold 47 = .ok (.aload_n 0, 1) := by decide +kernel
theorem dX8_obstacleToHold_48 : decode cX8_obstacleToHold 48 = .ok (.getfield 28, 3) := by decide +kernel
theorem dX8_obstacleToHold_51 : decode cX8_obstacleToHold 51 = .ok (.iload_n 2, 1) := by decide +kernel
theorem dX8_obstacleToHold_52 : decode cX8_obstacleToHold 52 = .ok (.iaload, 1) := by decide +kernel
theorem dX8_obstacleToHold_53 : decode cX8_obstacleToHold 53 = .ok (.bipush (-6), 2) := by decide +kernel
theorem dX8_obstacleToHold_55 : decode cX8_obstacleToHold 55 = .ok (.if_icmp .ne 15, 3) := by decide +kernel
theorem dX8_obstacleToHold_58 : decode cX8_obstacleToHold 58 = .ok (.aload_n 0, 1) := by decide +kernel
theorem dX8_obstacleToHold_59 : decode cX8_obstacleToHold 59 = .ok (.iload_n 2, 1) := by decide +kernel
theorem dX8_obstacleToHold_60 : decode cX8_obstacleToHold 60 = .ok (.invokevirtual 98, 3) := by decide +kernel
theorem dX8_obstacleToHold_63 : decode cX8_obstacleToHold 63 = .ok (.ifCond .ne 7, 3) := by decide +kernel
theorem dX8_obstacleToHold_66 : decode cX8_obstacleToHold 66 = .ok (.iconst 1, 1) := by decide +kernel
theorem dX8_obstacleToHold_67 : decode cX8_obstacleToHold 67 = .ok (.goto 4, 3) := by decide +kernel
theorem dX8_obstacleToHold_70 : decode cX8_obstacleToHold 70 = .ok (.iconst 0, 1) := by decide +kernel
theorem dX8_obstacleToHold_71 : decode cX8_obstacleToHold 71 = .ok (.istore 4, 2) := by decide +kernel
theorem dX8_obstacleToHold_73 : decode cX8_obstacleToHold 73 = .ok (.iload_n 3, 1) := by decide +kernel
theorem dX8_obstacleToHold_74 : decode cX8_obstacleToHold 74 = .ok (.ifCond .eq 12, 3) := by decide +kernel
theorem dX8_obstacleToHold_77 : decode cX8_obstacleToHold 77 = .ok (.iload 4, 2) := by decide +kernel
theorem dX8_obstacleToHold_79 : decode cX8_obstacleToHold 79 = .ok (.ifCond .eq 7, 3) := by decide +kernel
theorem dX8_obstacleToHold_82 : decode cX8_obstacleToHold 82 = .ok (.iconst 0, 1) := by decide +kernel
theorem dX8_obstacleToHold_83 : decode cX8_obstacleToHold 83 = .ok (.goto 5, 3) := by decide +kernel
theorem dX8_obstacleToHold_86 : decode cX8_obstacleToHold 86 = .ok (.bipush 7, 2) := by decide +kernel
theorem dX8_obstacleToHold_88 : decode cX8_obstacleToHold 88 = .ok (.ireturn, 1) := by decide +kernel
set_option maxRecDepth 20000 in
theorem ggX8_perform_X8_move : GoodIn wsX8_perform wsX8_move := goodIn_r _ [10, 11, 3, 23, 24, 25, 26, 27, 28, 29, 30, 31, 32] (by decide +kernel) (by decide +kernel)
set_option maxRecDepth 20000 in
theorem gX8_perform_X8_move : GoodIn wsX8_perform (wsV RX8 101 RX8 yX8_move wsX8_move) := goodIn_app (goodIn_of _ (by decide +kernel)) ggX8_perform_X8_move
set_option maxRecDepth 20000 in
theorem ggX8_perform_X8_pay : GoodIn wsX8_perform wsX8_pay := goodIn_r _ [15, 16, 17, 18, 19, 20, 21, 22, 23, 24, 25, 26, 27, 28, 29, 30, 31, 32] (by decide +kernel) (by decide +kernel)
set_option maxRecDepth 20000 in
theorem gX8_perform_X8_pay : GoodIn wsX8_perform (wsV RX8 105 RX8 yX8_pay wsX8_pay) := goodIn_app (goodIn_of _ (by decide +kernel)) ggX8_perform_X8_pay
theorem dX8_perform_0 : decode cX8_perform 0 = .ok (.iload_n 2, 1) := by decide +kernel
theorem dX8_perform_1 : decode cX8_perform 1 = .ok (.tableswitch 137 0 7 #[47, 56, 65, 80, 89, 100, 110, 121], 47) := by decide +kernel
theorem dX8_perform_48 : decode cX8_perform 48 = .ok (.aload_n 0, 1) := by decide +kernel
theorem dX8_perform_49 : decode cX8_perform 49 = .ok (.iload_n 1, 1) := by decide +kernel
theorem dX8_perform_50 : decode cX8_perform 50 = .ok (.iconst 1, 1) := by decide +kernel
theorem dX8_perform_51 : decode cX8_perform 51 = .ok (.invokevirtual 101, 3) := by decide +kernel
theorem dX8_perform_54 : decode cX8_perform 54 = .ok (.goto 84, 3) := by decide +kernel
theorem dX8_perform_57 : decode cX8_perform 57 = .ok (.aload_n 0, 1) := by decide +kernel
theorem dX8_perform_58 : decode cX8_perform 58 = .ok (.iload_n 1, 1) := by decide +kernel
theorem dX8_perform_59 : decode cX8_perform 59 = .ok (.iconst (-1), 1) := by decide +kernel
theorem dX8_perform_60 : decode cX8_perform 60 = .ok (.invokevirtual 101, 3) := by decide +kernel
theorem dX8_perform_63 : decode cX8_perform 63 = .ok (.goto 75, 3) := by decide +kernel
theorem dX8_perform_66 : decode cX8_perform 66 = .ok (.aload_n 0, 1) := by decide +kernel
theorem dX8_perform_67 : decode cX8_perform 67 = .ok (.getfield 22, 3) := by decide +kernel
theorem dX8_perform_70 : decode cX8_perform 70 = .ok (.iload_n 1, 1) := by decide +kernel
theorem dX8_perform_71 : decode cX8_perform 71 = .ok (.dup2, 1) := by decide +kernel
theorem dX8_perform_72 : decode cX8_perform 72 = .ok (.iaload, 1) := by decide +kernel
theorem dX8_perform_73 : decode cX8_perform 73 = .ok (.iconst 1, 1) := by decide +kernel
theorem dX8_perform_74 : decode cX8_perform 74 = .ok (.iload_n 3, 1) := by decide +kernel
theorem dX8_perform_75 : decode cX8_perform 75 = .ok (.ishl, 1) := by decide +kernel
theorem dX8_perform_76 : decode cX8_perform 76 = .ok (.ixor, 1) := by decide +kernel
theorem dX8_perform_77 : decode cX8_perform 77 = .ok (.iastore, 1) := by decide +kernel
theorem dX8_perform_78 : decode cX8_perform 78 = .ok (.goto 60, 3) := by decide +kernel
theorem dX8_perform_81 : decode cX8_perform 81 = .ok (.aload_n 0, 1) := by decide +kernel
theorem dX8_perform_82 : decode cX8_perform 82 = .ok (.iload_n 1, 1) := by decide +kernel
theorem dX8_perform_83 : decode cX8_perform 83 = .ok (.iload_n 3, 1) := by decide +kernel
theorem dX8_perform_84 : decode cX8_perform 84 = .ok (.invokevirtual 105, 3) := by decide +kernel
theorem dX8_perform_87 : decode cX8_perform 87 = .ok (.goto 51, 3) := by decide +kernel
theorem dX8_perform_90 : decode cX8_perform 90 = .ok (.aload_n 0, 1) := by decide +kernel
theorem dX8_perform_91 : decode cX8_perform 91 = .ok (.getfield 31, 3) := by decide +kernel
theorem dX8_perform_94 : decode cX8_perform 94 = .ok (.iload_n 1, 1) := by decide +kernel
theorem dX8_perform_95 : decode cX8_perform 95 = .ok (.bipush (-6), 2) := by decide +kernel
theorem dX8_perform_97 : decode cX8_perform 97 = .ok (.iastore, 1) := by decide +kernel
theorem dX8_perform_98 : decode cX8_perform 98 = .ok (.goto 40, 3) := by decide +kernel
theorem dX8_perform_101 : decode cX8_perform 101 = .ok (.aload_n 0, 1) := by decide +kernel
theorem dX8_perform_102 : decode cX8_perform 102 = .ok (.getfield 28, 3) := by decide +kernel
theorem dX8_perform_105 : decode cX8_perform 105 = .ok (.iload_n 1, 1) := by decide +kernel
theorem dX8_perform_106 : decode cX8_perform 106 = .ok (.iload_n 3, 1) := by decide +kernel
theorem dX8_perform_107 : decode cX8_perform 107 = .ok (.iastore, 1) := by decide +kernel
theorem dX8_perform_108 : decode cX8_perform 108 = .ok (.goto 30, 3) := by decide +kernel
theorem dX8_perform_111 : decode cX8_perform 111 = .ok (.aload_n 0, 1) := by decide +kernel
theorem dX8_perform_112 : decode cX8_perform 112 = .ok (.getfield 28, 3) := by decide +kernel
theorem dX8_perform_115 : decode cX8_perform 115 = .ok (.iload_n 1, 1) := by decide +kernel
theorem dX8_perform_116 : decode cX8_perform 116 = .ok (.bipush (-6), 2) := by decide +kernel
theorem dX8_perform_118 : decode cX8_perform 118 = .ok (.iastore, 1) := by decide +kernel
theorem dX8_perform_119 : decode cX8_perform 119 = .ok (.goto 19, 3) := by decide +kernel
theorem dX8_perform_122 : decode cX8_perform 122 = .ok (.aload_n 0, 1) := by decide +kernel
theorem dX8_perform_123 : decode cX8_perform 123 = .ok (.getfield 12, 3) := by decide +kernel
theorem dX8_perform_126 : decode cX8_perform 126 = .ok (.dup, 1) := by decide +kernel
theorem dX8_perform_127 : decode cX8_perform 127 = .ok (.getfield 70, 3) := by decide +kernel
theorem dX8_perform_130 : decode cX8_perform 130 = .ok (.iconst 1, 1) := by decide +kernel
theorem dX8_perform_131 : decode cX8_perform 131 = .ok (.iadd, 1) := by decide +kernel
theorem dX8_perform_132 : decode cX8_perform 132 = .ok (.putfield 70, 3) := by decide +kernel
theorem dX8_perform_135 : decode cX8_perform 135 = .ok (.goto 3, 3) := by decide +kernel
theorem dX8_perform_138 : decode cX8_perform 138 = .ok (.return_, 1) := by decide +kernel
theorem dX8_move_0 : decode cX8_move 0 = .ok (.aload_n 0, 1) := by decide +kernel
theorem dX8_move_1 : decode cX8_move 1 = .ok (.getfield 18, 3) := by decide +kernel
theorem dX8_move_4 : decode cX8_move 4 = .ok (.iload_n 1, 1) := by decide +kernel
theorem dX8_move_5 : decode cX8_move 5 = .ok (.dup2, 1) := by decide +kernel
theorem dX8_move_6 : decode cX8_move 6 = .ok (.iaload, 1) := by decide +kernel
theorem dX8_move_7 : decode cX8_move 7 = .ok (.iload_n 2, 1) := by decide +kernel
theorem dX8_move_8 : decode cX8_move 8 = .ok (.iadd, 1) := by decide +kernel
theorem dX8_move_9 : decode cX8_move 9 = .ok (.iastore, 1) := by decide +kernel
theorem dX8_move_10 : decode cX8_move 10 = .ok (.aload_n 0, 1) := by decide +kernel
theorem dX8_move_11 : decode cX8_move 11 = .ok (.getfield 28, 3) := by decide +kernel
theorem dX8_move_14 : decode cX8_move 14 = .ok (.iload_n 1, 1) := by decide +kernel
theorem dX8_move_15 : decode cX8_move 15 = .ok (.iaload, 1) := by decide +kernel
theorem dX8_move_16 : decode cX8_move 16 = .ok (.bipush (-6), 2) := by decide +kernel
theorem dX8_move_18 : decode cX8_move 18 = .ok (.if_icmp .eq 18, 3) := by decide +kernel
theorem dX8_move_21 : decode cX8_move 21 = .ok (.aload_n 0, 1) := by decide +kernel
theorem dX8_move_22 : decode cX8_move 22 = .ok (.getfield 18, 3) := by decide +kernel
theorem dX8_move_25 : decode cX8_move 25 = .ok (.aload_n 0, 1) := by decide +kernel
theorem dX8_move_26 : decode cX8_move 26 = .ok (.getfield 28, 3) := by decide +kernel
theorem dX8_move_29 : decode cX8_move 29 = .ok (.iload_n 1, 1) := by decide +kernel
theorem dX8_move_30 : decode cX8_move 30 = .ok (.iaload, 1) := by decide +kernel
theorem dX8_move_31 : decode cX8_move 31 = .ok (.dup2, 1) := by decide +kernel
theorem dX8_move_32 : decode cX8_move 32 = .ok (.iaload, 1) := by decide +kernel
theorem dX8_move_33 : decode cX8_move 33 = .ok (.iload_n 2, 1) := by decide +kernel
theorem dX8_move_34 : decode cX8_move 34 = .ok (.iadd, 1) := by decide +kernel
theorem dX8_move_35 : decode cX8_move 35 = .ok (.iastore, 1) := by decide +kernel
theorem dX8_move_36 : decode cX8_move 36 = .ok (.return_, 1) := by decide +kernel
theorem dX8_pay_0 : decode cX8_pay 0 = .ok (.aload_n 0, 1) := by decide +kernel
theorem dX8_pay_1 : decode cX8_pay 1 = .ok (.getfield 34, 3) := by decide +kernel
theorem dX8_pay_4 : decode cX8_pay 4 = .ok (.iload_n 1, 1) := by decide +kernel
theorem dX8_pay_5 : decode cX8_pay 5 = .ok (.iconst 3, 1) := by decide +kernel
theorem dX8_pay_6 : decode cX8_pay 6 = .ok (.imul, 1) := by decide +kernel
theorem dX8_pay_7 : decode cX8_pay 7 = .ok (.iload_n 2, 1) := by decide +kernel
theorem dX8_pay_8 : decode cX8_pay 8 = .ok (.iadd, 1) := by decide +kernel
theorem dX8_pay_9 : decode cX8_pay 9 = .ok (.dup2, 1) := by decide +kernel
theorem dX8_pay_10 : decode cX8_pay 10 = .ok (.iaload, 1) := by decide +kernel
theorem dX8_pay_11 : decode cX8_pay 11 = .ok (.iconst 1, 1) := by decide +kernel
theorem dX8_pay_12 : decode cX8_pay 12 = .ok (.isub, 1) := by decide +kernel
theorem dX8_pay_13 : decode cX8_pay 13 = .ok (.iastore, 1) := by decide +kernel
theorem dX8_pay_14 : decode cX8_pay 14 = .ok (.aload_n 0, 1) := by decide +kernel
theorem dX8_pay_15 : decode cX8_pay 15 = .ok (.getfield 25, 3) := by decide +kernel
theorem dX8_pay_18 : decode cX8_pay 18 = .ok (.iload_n 1, 1) := by decide +kernel
theorem dX8_pay_19 : decode cX8_pay 19 = .ok (.iconst 0, 1) := by decide +kernel
theorem dX8_pay_20 : decode cX8_pay 20 = .ok (.aload_n 0, 1) := by decide +kernel
theorem dX8_pay_21 : decode cX8_pay 21 = .ok (.getfield 25, 3) := by decide +kernel
theorem dX8_pay_24 : decode cX8_pay 24 = .ok (.iload_n 1, 1) := by decide +kernel
theorem dX8_pay_25 : decode cX8_pay 25 = .ok (.iaload, 1) := by decide +kernel
theorem dX8_pay_26 : decode cX8_pay 26 = .ok (.aload_n 0, 1) := by decide +kernel
theorem dX8_pay_27 : decode cX8_pay 27 = .ok (.getfield 37, 3) := by decide +kernel
theorem dX8_pay_30 : decode cX8_pay 30 = .ok (.iload_n 2, 1) := by decide +kernel
theorem dX8_pay_31 : decode cX8_pay 31 = .ok (.iaload, 1) := by decide +kernel
theorem dX8_pay_32 : decode cX8_pay 32 = .ok (.isub, 1) := by decide +kernel
theorem dX8_pay_33 : decode cX8_pay 33 = .ok (.invokestatic 108, 3) := by decide +kernel
theorem dX8_pay_36 : decode cX8_pay 36 = .ok (.iastore, 1) := by decide +kernel
theorem dX8_pay_37 : decode cX8_pay 37 = .ok (.return_, 1) := by decide +kernel
set_option maxRecDepth 20000 in
theorem ggX8_passTime_X8_chargeAll : GoodIn wsX8_passTime wsX8_chargeAll := goodIn_r _ [7, 8, 9, 10, 11, 12, 13, 14, 15, 16, 17, 18, 19, 20, 21, 22, 23, 24, 25, 26, 27, 28, 29, 30] (by decide +kernel) (by decide +kernel)
set_option maxRecDepth 20000 in
theorem gX8_passTime_X8_chargeAll : GoodIn wsX8_passTime (wsV RX8 113 RX8 yX8_chargeAll wsX8_chargeAll) := goodIn_app (goodIn_of _ (by decide +kernel)) ggX8_passTime_X8_chargeAll
theorem dX8_passTime_0 : decode cX8_passTime 0 = .ok (.aload_n 0, 1) := by decide +kernel
theorem dX8_passTime_1 : decode cX8_passTime 1 = .ok (.dup, 1) := by decide +kernel
theorem dX8_passTime_2 : decode cX8_passTime 2 = .ok (.getfield 40, 3) := by decide +kernel
theorem dX8_passTime_5 : decode cX8_passTime 5 = .ok (.iconst 1, 1) := by decide +kernel
theorem dX8_passTime_6 : decode cX8_passTime 6 = .ok (.iadd, 1) := by decide +kernel
theorem dX8_passTime_7 : decode cX8_passTime 7 = .ok (.putfield 40, 3) := by decide +kernel
theorem dX8_passTime_10 : decode cX8_passTime 10 = .ok (.aload_n 0, 1) := by decide +kernel
theorem dX8_passTime_11 : decode cX8_passTime 11 = .ok (.getfield 40, 3) := by decide +kernel
theorem dX8_passTime_14 : decode cX8_passTime 14 = .ok (.bipush 8, 2) := by decide +kernel
theorem dX8_passTime_16 : decode cX8_passTime 16 = .ok (.if_icmp .ne 22, 3) := by decide +kernel
theorem dX8_passTime_19 : decode cX8_passTime 19 = .ok (.aload_n 0, 1) := by decide +kernel
theorem dX8_passTime_20 : decode cX8_passTime 20 = .ok (.iconst 0, 1) := by decide +kernel
theorem dX8_passTime_21 : decode cX8_passTime 21 = .ok (.putfield 40, 3) := by decide +kernel
theorem dX8_passTime_24 : decode cX8_passTime 24 = .ok (.aload_n 0, 1) := by decide +kernel
theorem dX8_passTime_25 : decode cX8_passTime 25 = .ok (.dup, 1) := by decide +kernel
theorem dX8_passTime_26 : decode cX8_passTime 26 = .ok (.getfield 44, 3) := by decide +kernel
theorem dX8_passTime_29 : decode cX8_passTime 29 = .ok (.iconst 1, 1) := by decide +kernel
theorem dX8_passTime_30 : decode cX8_passTime 30 = .ok (.iadd, 1) := by decide +kernel
theorem dX8_passTime_31 : decode cX8_passTime 31 = .ok (.putfield 44, 3) := by decide +kernel
theorem dX8_passTime_34 : decode cX8_passTime 34 = .ok (.aload_n 0, 1) := by decide +kernel
theorem dX8_passTime_35 : decode cX8_passTime 35 = .ok (.invokevirtual 113, 3) := by decide +kernel
theorem dX8_passTime_38 : decode cX8_passTime 38 = .ok (.return_, 1) := by decide +kernel
set_option maxRecDepth 20000 in
theorem ggX8_chargeAll_J6_bitCount_0f7a4 : GoodIn wsX8_chargeAll wsJ6_bitCount_0f7a4 := goodIn_r _ [10, 11, 12, 13] (by decide +kernel) (by decide +kernel)
set_option maxRecDepth 20000 in
theorem gX8_chargeAll_J6_bitCount_0f7a4 : GoodIn wsX8_chargeAll (va_wsS RX8 116 yJ6_bitCount_0f7a4 wsJ6_bitCount_0f7a4) := goodIn_app (goodIn_of _ (by decide +kernel)) ggX8_chargeAll_J6_bitCount_0f7a4
theorem dX8_chargeAll_0 : decode cX8_chargeAll 0 = .ok (.iconst 0, 1) := by decide +kernel
theorem dX8_chargeAll_1 : decode cX8_chargeAll 1 = .ok (.istore_n 1, 1) := by decide +kernel
theorem dX8_chargeAll_2 : decode cX8_chargeAll 2 = .ok (.iload_n 1, 1) := by decide +kernel
theorem dX8_chargeAll_3 : decode cX8_chargeAll 3 = .ok (.bipush 6, 2) := by decide +kernel
theorem dX8_chargeAll_5 : decode cX8_chargeAll 5 = .ok (.if_icmp .ge 40, 3) := by decide +kernel
theorem dX8_chargeAll_8 : decode cX8_chargeAll 8 = .ok (.aload_n 0, 1) := by decide +kernel
theorem dX8_chargeAll_9 : decode cX8_chargeAll 9 = .ok (.getfield 25, 3) := by decide +kernel
theorem dX8_chargeAll_12 : decode cX8_chargeAll 12 = .ok (.iload_n 1, 1) := by decide +kernel
theorem dX8_chargeAll_13 : decode cX8_chargeAll 13 = .ok (.iaload, 1) := by decide +kernel
theorem dX8_chargeAll_14 : decode cX8_chargeAll 14 = .ok (.aload_n 0, 1) := by decide +kernel
theorem dX8_chargeAll_15 : decode cX8_chargeAll 15 = .ok (.getfield 22, 3) := by decide +kernel
theorem dX8_chargeAll_18 : decode cX8_chargeAll 18 = .ok (.iload_n 1, 1) := by decide +kernel
theorem dX8_chargeAll_19 : decode cX8_chargeAll 19 = .ok (.iaload, 1) := by decide +kernel
theorem dX8_chargeAll_20 : decode cX8_chargeAll 20 = .ok (.invokestatic 116, 3) := by decide +kernel
theorem dX8_chargeAll_23 : decode cX8_chargeAll 23 = .ok (.iconst 2, 1) := by decide +kernel
theorem dX8_chargeAll_24 : decode cX8_chargeAll 24 = .ok (.idiv, 1) := by decide +kernel
theorem dX8_chargeAll_25 : decode cX8_chargeAll 25 = .ok (.iadd, 1) := by decide +kernel
theorem dX8_chargeAll_26 : decode cX8_chargeAll 26 = .ok (.istore_n 2, 1) := by decide +kernel
theorem dX8_chargeAll_27 : decode cX8_chargeAll 27 = .ok (.aload_n 0, 1) := by decide +kernel
theorem dX8_chargeAll_28 : decode cX8_chargeAll 28 = .ok (.getfield 25, 3) := by decide +kernel
theorem dX8_chargeAll_31 : decode cX8_chargeAll 31 = .ok (.iload_n 1, 1) := by decide +kernel
theorem dX8_chargeAll_32 : decode cX8_chargeAll 32 = .ok (.iload_n 2, 1) := by decide +kernel
theorem dX8_chargeAll_33 : decode cX8_chargeAll 33 = .ok (.bipush 9, 2) := by decide +kernel
theorem dX8_chargeAll_35 : decode cX8_chargeAll 35 = .ok (.invokestatic 121, 3) := by decide +kernel
theorem dX8_chargeAll_38 : decode cX8_chargeAll 38 = .ok (.iastore, 1) := by decide +kernel
theorem dX8_chargeAll_39 : decode cX8_chargeAll 39 = .ok (.iinc 1 1, 3) := by decide +kernel
theorem dX8_chargeAll_42 : decode cX8_chargeAll 42 = .ok (.goto (-40), 3) := by decide +kernel
theorem dX8_chargeAll_45 : decode cX8_chargeAll 45 = .ok (.return_, 1) := by decide +kernel
set_option maxRecDepth 20000 in
theorem ggX9_init_X8_init : GoodIn wsX9_init wsX8_init := goodIn_r _ [10, 11, 2, 3, 12, 13, 14, 15, 16, 17, 18, 19, 20, 21, 22, 23, 24, 25, 26, 27, 28, 29, 30, 31, 49, 50, 51, 32, 33, 34, 35, 36, 37, 38, 39, 40, 41] (by decide +kernel) (by decide +kernel)
set_option maxRecDepth 20000 in
theorem gX9_init_X8_init : GoodIn wsX9_init (wsX8_init) := ggX9_init_X8_init
theorem dX9_init_0 : decode cX9_init 0 = .ok (.aload_n 0, 1) := by decide +kernel
theorem dX9_init_1 : decode cX9_init 1 = .ok (.invokespecial 3, 3) := by decide +kernel
theorem dX9_init_4 : decode cX9_init 4 = .ok (.aload_n 0, 1) := by decide +kernel
theorem dX9_init_5 : decode cX9_init 5 = .ok (.new 9, 3) := by decide +kernel
theorem dX9_init_8 : decode cX9_init 8 = .ok (.dup, 1) := by decide +kernel
theorem dX9_init_9 : decode cX9_init 9 = .ok (.invokespecial 11, 3) := by decide +kernel
theorem dX9_init_12 : decode cX9_init 12 = .ok (.putfield 12, 3) := by decide +kernel
theorem dX9_init_15 : decode cX9_init 15 = .ok (.return_, 1) := by decide +kernel
set_option maxRecDepth 20000 in
theorem ggX9_begin_X8_become : GoodIn wsX9_begin wsX8_become := goodIn_r _ [12, 13, 14, 15, 16, 17, 18, 19, 20, 21, 22, 23, 24, 25, 26, 27, 28, 29, 30, 31, 32, 33, 34, 35, 36, 37, 38, 46, 47, 48, 49, 50, 51, 52, 53, 54, 55, 56, 57, 58] (by decide +kernel) (by decide +kernel)
set_option maxRecDepth 20000 in
theorem gX9_begin_X8_become : GoodIn wsX9_begin (wsV RX9 18 RX8 yX8_become wsX8_become) := goodIn_app (goodIn_of _ (by decide +kernel)) ggX9_begin_X8_become
theorem dX9_begin_0 : decode cX9_begin 0 = .ok (.aload_n 0, 1) := by decide +kernel
theorem dX9_begin_1 : decode cX9_begin 1 = .ok (.getfield 12, 3) := by decide +kernel
theorem dX9_begin_4 : decode cX9_begin 4 = .ok (.aload_n 1, 1) := by decide +kernel
theorem dX9_begin_5 : decode cX9_begin 5 = .ok (.invokevirtual 18, 3) := by decide +kernel
theorem dX9_begin_8 : decode cX9_begin 8 = .ok (.aload_n 0, 1) := by decide +kernel
theorem dX9_begin_9 : decode cX9_begin 9 = .ok (.iconst 0, 1) := by decide +kernel
theorem dX9_begin_10 : decode cX9_begin 10 = .ok (.putfield 22, 3) := by decide +kernel
theorem dX9_begin_13 : decode cX9_begin 13 = .ok (.aload_n 0, 1) := by decide +kernel
theorem dX9_begin_14 : decode cX9_begin 14 = .ok (.bipush (-6), 2) := by decide +kernel
theorem dX9_begin_16 : decode cX9_begin 16 = .ok (.putfield 26, 3) := by decide +kernel
theorem dX9_begin_19 : decode cX9_begin 19 = .ok (.aload_n 0, 1) := by decide +kernel
theorem dX9_begin_20 : decode cX9_begin 20 = .ok (.bipush (-6), 2) := by decide +kernel
theorem dX9_begin_22 : decode cX9_begin 22 = .ok (.putfield 29, 3) := by decide +kernel
theorem dX9_begin_25 : decode cX9_begin 25 = .ok (.aload_n 0, 1) := by decide +kernel
theorem dX9_begin_26 : decode cX9_begin 26 = .ok (.iconst 0, 1) := by decide +kernel
theorem dX9_begin_27 : decode cX9_begin 27 = .ok (.putfield 32, 3) := by decide +kernel
theorem dX9_begin_30 : decode cX9_begin 30 = .ok (.aload_n 0, 1) := by decide +kernel
theorem dX9_begin_31 : decode cX9_begin 31 = .ok (.bipush (-6), 2) := by decide +kernel
theorem dX9_begin_33 : decode cX9_begin 33 = .ok (.putfield 35, 3) := by decide +kernel
theorem dX9_begin_36 : decode cX9_begin 36 = .ok (.aload_n 0, 1) := by decide +kernel
theorem dX9_begin_37 : decode cX9_begin 37 = .ok (.bipush (-6), 2) := by decide +kernel
theorem dX9_begin_39 : decode cX9_begin 39 = .ok (.putfield 38, 3) := by decide +kernel
theorem dX9_begin_42 : decode cX9_begin 42 = .ok (.return_, 1) := by decide +kernel
set_option maxRecDepth 20000 in
theorem ggX9_read_X9_begin : GoodIn wsX9_read wsX9_begin := goodIn_r _ [8, 9, 10, 2, 11, 12, 13, 14, 15, 16, 17, 18, 19, 20, 21, 22, 23, 24, 25, 26, 27, 28, 29, 30, 31, 32, 33, 34, 35, 36, 37, 38, 39, 40, 41, 42, 43, 44, 45, 191, 192, 193, 194, 195, 196, 197, 198, 199, 200, 201, 202, 203, 204, 205, 206, 207, 208, 209, 210] (by decide +kernel) (by decide +kernel)
set_option maxRecDepth 20000 in
theorem gX9_read_X9_begin : GoodIn wsX9_read (wsV RX9 41 RX9 yX9_begin wsX9_begin) := goodIn_app (goodIn_of _ (by decide +kernel)) ggX9_read_X9_begin
set_option maxRecDepth 20000 in
theorem ggX9_read_X3_after : GoodIn wsX9_read wsX3_after := goodIn_r _ [49, 50, 51, 48, 52, 53, 54, 55, 56, 57, 58, 59, 60, 61, 62, 63, 64] (by decide +kernel) (by decide +kernel)
set_option maxRecDepth 20000 in
theorem gX9_read_X3_after : GoodIn wsX9_read (va_wsS RX9 53 yX3_after wsX3_after) := goodIn_app (goodIn_of _ (by decide +kernel)) ggX9_read_X3_after
set_option maxRecDepth 20000 in
theorem ggX9_read_X3_kind : GoodIn wsX9_read wsX3_kind := goodIn_r _ [67, 59, 60, 48, 61, 62, 63, 64, 57, 54, 58] (by decide +kernel) (by decide +kernel)
set_option maxRecDepth 20000 in
theorem gX9_read_X3_kind : GoodIn wsX9_read (va_wsS RX9 57 yX3_kind wsX3_kind) := goodIn_app (goodIn_of _ (by decide +kernel)) ggX9_read_X3_kind
set_option maxRecDepth 20000 in
theorem ggX9_read_X3_object : GoodIn wsX9_read wsX3_object := goodIn_r _ [70, 62, 63, 48, 64, 57, 54, 58] (by decide +kernel) (by decide +kernel)
set_option maxRecDepth 20000 in
theorem gX9_read_X3_object : GoodIn wsX9_read (va_wsS RX9 60 yX3_object wsX3_object) := goodIn_app (goodIn_of _ (by decide +kernel)) ggX9_read_X3_object
set_option maxRecDepth 20000 in
theorem ggX9_read_X9_tryAct : GoodIn wsX9_read wsX9_tryAct := goodIn_r _ [74, 9, 75, 76, 77, 18, 78, 27, 28, 20, 79, 32, 33, 80, 81, 82, 83, 21, 84, 85, 86, 87, 88, 89, 90, 91, 92, 93, 94, 95, 30, 96, 97, 98, 99, 29, 100, 101, 102, 103, 104, 105, 106, 7, 107, 108, 109, 110, 111, 112, 113, 114, 115, 116, 117, 26, 118, 119, 120, 121, 122, 123, 124, 125, 126, 127, 128, 129, 130, 131, 132, 133, 134, 135, 136, 137, 54, 138, 139, 140, 141, 142, 143, 144, 145, 37, 146, 40, 39, 147, 148, 149, 150, 151, 152, 153, 154, 155, 156, 157, 158, 159, 160, 161, 162, 163, 164, 165, 166, 167, 168, 169, 12, 14, 10, 13, 170, 171, 172, 173, 174, 175, 176, 177, 178, 179, 180, 181, 31, 182, 183, 184, 191, 192, 193, 194, 195, 196, 197, 198, 199, 200, 201, 202, 203, 204, 205, 206, 207, 208, 209, 210] (by decide +kernel) (by decide +kernel)
set_option maxRecDepth 20000 in
theorem gX9_read_X9_tryAct : GoodIn wsX9_read (wsV RX9 63 RX9 yX9_tryAct wsX9_tryAct) := goodIn_app (goodIn_of _ (by decide +kernel)) ggX9_read_X9_tryAct
set_option maxRecDepth 20000 in
theorem ggX9_read_X9_note : GoodIn wsX9_read wsX9_note := goodIn_r _ [188, 10, 2, 11, 191, 192, 193, 194, 195, 196, 197] (by decide +kernel) (by decide +kernel)
set_option maxRecDepth 20000 in
theorem gX9_read_X9_note : GoodIn wsX9_read (wsV RX9 67 RX9 yX9_note wsX9_note) := goodIn_app (goodIn_of _ (by decide +kernel)) ggX9_read_X9_note
theorem dX9_read_0 : decode cX9_read 0 = .ok (.aload_n 0, 1) := by decide +kernel
theorem dX9_read_1 : decode cX9_read 1 = .ok (.aload_n 2, 1) := by decide +kernel
theorem dX9_read_2 : decode cX9_read 2 = .ok (.invokevirtual 41, 3) := by decide +kernel
theorem dX9_read_5 : decode cX9_read 5 = .ok (.iconst 0, 1) := by decide +kernel
theorem dX9_read_6 : decode cX9_read 6 = .ok (.istore_n 3, 1) := by decide +kernel
theorem dX9_read_7 : decode cX9_read 7 = .ok (.iconst 0, 1) := by decide +kernel
theorem dX9_read_8 : decode cX9_read 8 = .ok (.istore 4, 2) := by decide +kernel
theorem dX9_read_10 : decode cX9_read 10 = .ok (.iconst 0, 1) := by decide +kernel
theorem dX9_read_11 : decode cX9_read 11 = .ok (.istore 5, 2) := by decide +kernel
theorem dX9_read_13 : decode cX9_read 13 = .ok (.iload 5, 2) := by decide +kernel
theorem dX9_read_15 : decode cX9_read 15 = .ok (.aload_n 1, 1) := by decide +kernel
theorem dX9_read_16 : decode cX9_read 16 = .ok (.getfield 44, 3) := by decide +kernel
theorem dX9_read_19 : decode cX9_read 19 = .ok (.if_icmp .ge 81, 3) := by decide +kernel
theorem dX9_read_22 : decode cX9_read 22 = .ok (.aload_n 0, 1) := by decide +kernel
theorem dX9_read_23 : decode cX9_read 23 = .ok (.getfield 26, 3) := by decide +kernel
theorem dX9_read_26 : decode cX9_read 26 = .ok (.bipush (-6), 2) := by decide +kernel
theorem dX9_read_28 : decode cX9_read 28 = .ok (.if_icmp .ne 72, 3) := by decide +kernel
theorem dX9_read_31 : decode cX9_read 31 = .ok (.aload_n 1, 1) := by decide +kernel
theorem dX9_read_32 : decode cX9_read 32 = .ok (.getfield 49, 3) := by decide +kernel
theorem dX9_read_35 : decode cX9_read 35 = .ok (.iload 5, 2) := by decide +kernel
theorem dX9_read_37 : decode cX9_read 37 = .ok (.iaload, 1) := by decide +kernel
theorem dX9_read_38 : decode cX9_read 38 = .ok (.istore 6, 2) := by decide +kernel
theorem dX9_read_40 : decode cX9_read 40 = .ok (.iload_n 3, 1) := by decide +kernel
theorem dX9_read_41 : decode cX9_read 41 = .ok (.iload 6, 2) := by decide +kernel
theorem dX9_read_43 : decode cX9_read 43 = .ok (.invokestatic 53, 3) := by decide +kernel
theorem dX9_read_46 : decode cX9_read 46 = .ok (.istore 7, 2) := by decide +kernel
theorem dX9_read_48 : decode cX9_read 48 = .ok (.iload 7, 2) := by decide +kernel
theorem dX9_read_50 : decode cX9_read 50 = .ok (.iconst 1, 1) := by decide +kernel
theorem dX9_read_51 : decode cX9_read 51 = .ok (.if_icmp .ne 13, 3) := by decide +kernel
theorem dX9_read_54 : decode cX9_read 54 = .ok (.iload 6, 2) := by decide +kernel
theorem dX9_read_56 : decode cX9_read 56 = .ok (.bipush 65, 2) := by decide +kernel
theorem dX9_read_58 : decode cX9_read 58 = .ok (.isub, 1) := by decide +kernel
theorem dX9_read_59 : decode cX9_read 59 = .ok (.istore 4, 2) := by decide +kernel
theorem dX9_read_61 : decode cX9_read 61 = .ok (.goto 30, 3) := by decide +kernel
theorem dX9_read_64 : decode cX9_read 64 = .ok (.iload 7, 2) := by decide +kernel
theorem dX9_read_66 : decode cX9_read 66 = .ok (.ifCond .ne 25, 3) := by decide +kernel
theorem dX9_read_69 : decode cX9_read 69 = .ok (.aload_n 0, 1) := by decide +kernel
theorem dX9_read_70 : decode cX9_read 70 = .ok (.aload_n 0, 1) := by decide +kernel
theorem dX9_read_71 : decode cX9_read 71 = .ok (.iload 4, 2) := by decide +kernel
theorem dX9_read_73 : decode cX9_read 73 = .ok (.iload_n 3, 1) := by decide +kernel
theorem dX9_read_74 : decode cX9_read 74 = .ok (.iload 6, 2) := by decide +kernel
theorem dX9_read_76 : decode cX9_read 76 = .ok (.invokestatic 57, 3) := by decide +kernel
theorem dX9_read_79 : decode cX9_read 79 = .ok (.iload_n 3, 1) := by decide +kernel
theorem dX9_read_80 : decode cX9_read 80 = .ok (.iload 6, 2) := by decide +kernel
theorem dX9_read_82 : decode cX9_read 82 = .ok (.invokestatic 60, 3) := by decide +kernel
theorem dX9_read_85 : decode cX9_read 85 = .ok (.invokevirtual 63, 3) := by decide +kernel
theorem dX9_read_88 : decode cX9_read 88 = .ok (.invokevirtual 67, 3) := by decide +kernel
theorem dX9_read_91 : decode cX9_read 91 = .ok (.iload 7, 2) := by decide +kernel
theorem dX9_read_93 : decode cX9_read 93 = .ok (.istore_n 3, 1) := by decide +kernel
theorem dX9_read_94 : decode cX9_read 94 = .ok (.iinc 5 1, 3) := by decide +kernel
theorem dX9_read_97 : decode cX9_read 97 = .ok (.goto (-84), 3) := by decide +kernel
theorem dX9_read_100 : decode cX9_read 100 = .ok (.return_, 1) := by decide +kernel
theorem dX9_note_0 : decode cX9_note 0 = .ok (.iload_n 1, 1) := by decide +kernel
theorem dX9_note_1 : decode cX9_note 1 = .ok (.ifCond .ne 16, 3) := by decide +kernel
theorem dX9_note_4 : decode cX9_note 4 = .ok (.aload_n 0, 1) := by decide +kernel
theorem dX9_note_5 : decode cX9_note 5 = .ok (.dup, 1) := by decide +kernel
theorem dX9_note_6 : decode cX9_note 6 = .ok (.getfield 22, 3) := by decide +kernel
theorem dX9_note_9 : decode cX9_note 9 = .ok (.iconst 1, 1) := by decide +kernel
theorem dX9_note_10 : decode cX9_note 10 = .ok (.iadd, 1) := by decide +kernel
theorem dX9_note_11 : decode cX9_note 11 = .ok (.putfield 22, 3) := by decide +kernel
theorem dX9_note_14 : decode cX9_note 14 = .ok (.goto 16, 3) := by decide +kernel
theorem dX9_note_17 : decode cX9_note 17 = .ok (.aload_n 0, 1) := by decide +kernel
theorem dX9_note_18 : decode cX9_note 18 = .ok (.aload_n 0, 1) := by decide +kernel
theorem dX9_note_19 : decode cX9_note 19 = .ok (.getfield 22, 3) := by decide +kernel
theorem dX9_note_22 : decode cX9_note 22 = .ok (.putfield 26, 3) := by decide +kernel
theorem dX9_note_25 : decode cX9_note 25 = .ok (.aload_n 0, 1) := by decide +kernel
theorem dX9_note_26 : decode cX9_note 26 = .ok (.iload_n 1, 1) := by decide +kernel
theorem dX9_note_27 : decode cX9_note 27 = .ok (.putfield 29, 3) := by decide +kernel
theorem dX9_note_30 : decode cX9_note 30 = .ok (.return_, 1) := by decide +kernel
set_option maxRecDepth 20000 in
theorem ggX9_tryAct_X8_obstacle : GoodIn wsX9_tryAct wsX8_obstacle := goodIn_r _ [6, 7, 8, 9, 10, 11, 12, 13, 14, 15, 5, 16, 17, 18, 19, 20, 21, 22, 23, 24, 25, 26, 27, 28, 29, 30, 31, 32, 33, 34, 35, 36, 37, 38, 39, 139, 140, 141, 142, 143, 144, 145, 146, 147, 148, 149, 150, 151] (by decide +kernel) (by decide +kernel)
set_option maxRecDepth 20000 in
theorem gX9_tryAct_X8_obstacle : GoodIn wsX9_tryAct (wsV RX9 71 RX8 yX8_obstacle wsX8_obstacle) := goodIn_app (goodIn_of _ (by decide +kernel)) ggX9_tryAct_X8_obstacle
set_option maxRecDepth 20000 in
theorem ggX9_tryAct_X9_passAnHour : GoodIn wsX9_tryAct wsX9_passAnHour := goodIn_r _ [44, 1, 45, 46, 47, 48, 49, 5, 50, 11, 12, 51, 52, 53, 54, 7, 55, 56, 57, 58, 59, 60, 61, 62, 63, 64, 65, 66, 67, 68, 69, 70, 8, 71, 72, 73, 74, 75, 76, 77, 78, 79, 80, 81, 35, 82, 83, 84, 85, 86, 87, 88, 89, 90, 91, 92, 93, 94, 95, 96, 97, 98, 99, 43, 100, 101, 102, 103, 104, 105, 106, 107, 108, 109, 110, 111, 112, 113, 114, 115, 132, 133, 134, 135, 136, 137, 138, 139, 140, 141, 142, 143, 144, 145, 146, 147, 148, 149, 150, 151] (by decide +kernel) (by decide +kernel)
set_option maxRecDepth 20000 in
theorem gX9_tryAct_X9_passAnHour : GoodIn wsX9_tryAct (wsV RX9 74 RX9 yX9_passAnHour wsX9_passAnHour) := goodIn_app (goodIn_of _ (by decide +kernel)) ggX9_tryAct_X9_passAnHour
set_option maxRecDepth 20000 in
theorem ggX9_tryAct_X8_perform : GoodIn wsX9_tryAct wsX8_perform := goodIn_r _ [119, 55, 35, 8, 9, 10, 120, 121, 122, 5, 123, 17, 124, 125, 126, 127, 30, 7, 128, 129, 130, 58, 131, 139, 140, 141, 142, 143, 144, 145, 146, 147, 148, 149, 150, 151] (by decide +kernel) (by decide +kernel)
set_option maxRecDepth 20000 in
theorem gX9_tryAct_X8_perform : GoodIn wsX9_tryAct (wsV RX9 77 RX8 yX8_perform wsX8_perform) := goodIn_app (goodIn_of _ (by decide +kernel)) ggX9_tryAct_X8_perform
theorem dX9_tryAct_0 : decode cX9_tryAct 0 = .ok (.aload_n 0, 1) := by decide +kernel
theorem dX9_tryAct_1 : decode cX9_tryAct 1 = .ok (.getfield 12, 3) := by decide +kernel
theorem dX9_tryAct_4 : decode cX9_tryAct 4 = .ok (.iload_n 1, 1) := by decide +kernel
theorem dX9_tryAct_5 : decode cX9_tryAct 5 = .ok (.iload_n 2, 1) := by decide +kernel
theorem dX9_tryAct_6 : decode cX9_tryAct 6 = .ok (.iload_n 3, 1) := by decide +kernel
theorem dX9_tryAct_7 : decode cX9_tryAct 7 = .ok (.invokevirtual 71, 3) := by decide +kernel
theorem dX9_tryAct_10 : decode cX9_tryAct 10 = .ok (.istore 4, 2) := by decide +kernel
theorem dX9_tryAct_12 : decode cX9_tryAct 12 = .ok (.iload 4, 2) := by decide +kernel
theorem dX9_tryAct_14 : decode cX9_tryAct 14 = .ok (.ifCond .eq 6, 3) := by decide +kernel
theorem dX9_tryAct_17 : decode cX9_tryAct 17 = .ok (.iload 4, 2) := by decide +kernel
theorem dX9_tryAct_19 : decode cX9_tryAct 19 = .ok (.ireturn, 1) := by decide +kernel
theorem dX9_tryAct_20 : decode cX9_tryAct 20 = .ok (.iload_n 2, 1) := by decide +kernel
theorem dX9_tryAct_21 : decode cX9_tryAct 21 = .ok (.bipush 8, 2) := by decide +kernel
theorem dX9_tryAct_23 : decode cX9_tryAct 23 = .ok (.if_icmp .ne 10, 3) := by decide +kernel
theorem dX9_tryAct_26 : decode cX9_tryAct 26 = .ok (.aload_n 0, 1) := by decide +kernel
theorem dX9_tryAct_27 : decode cX9_tryAct 27 = .ok (.invokevirtual 74, 3) := by decide +kernel
theorem dX9_tryAct_30 : decode cX9_tryAct 30 = .ok (.goto 13, 3) := by decide +kernel
theorem dX9_tryAct_33 : decode cX9_tryAct 33 = .ok (.aload_n 0, 1) := by decide +kernel
theorem dX9_tryAct_34 : decode cX9_tryAct 34 = .ok (.getfield 12, 3) := by decide +kernel
theorem dX9_tryAct_37 : decode cX9_tryAct 37 = .ok (.iload_n 1, 1) := by decide +kernel
theorem dX9_tryAct_38 : decode cX9_tryAct 38 = .ok (.iload_n 2, 1) := by decide +kernel
theorem dX9_tryAct_39 : decode cX9_tryAct 39 = .ok (.iload_n 3, 1) := by decide +kernel
theorem dX9_tryAct_40 : decode cX9_tryAct 40 = .ok (.invokevirtual 77, 3) := by decide +kernel
theorem dX9_tryAct_43 : decode cX9_tryAct 43 = .ok (.iconst 0, 1) := by decide +kernel
theorem dX9_tryAct_44 : decode cX9_tryAct 44 = .ok (.ireturn, 1) := by decide +kernel
set_option maxRecDepth 20000 in
theorem ggX9_passAnHour_X8_passTime : GoodIn wsX9_passAnHour wsX8_passTime := goodIn_r _ [8, 9, 10, 11, 12, 13, 7, 14, 15, 16, 17, 18, 19, 20, 21, 22, 23, 24, 25, 26, 27, 87, 88, 89, 90, 91, 92, 93, 94, 95, 96] (by decide +kernel) (by decide +kernel)
set_option maxRecDepth 20000 in
theorem gX9_passAnHour_X8_passTime : GoodIn wsX9_passAnHour (wsV RX9 81 RX8 yX8_passTime wsX8_passTime) := goodIn_app (goodIn_of _ (by decide +kernel)) ggX9_passAnHour_X8_passTime
set_option maxRecDepth 20000 in
theorem ggX9_passAnHour_X8_hushed : GoodIn wsX9_passAnHour wsX8_hushed := goodIn_r _ [31, 32, 33, 34, 35, 7, 36, 16, 9, 15, 37, 38, 39, 87, 88, 89, 90, 91, 92, 93, 94, 95, 96] (by decide +kernel) (by decide +kernel)
set_option maxRecDepth 20000 in
theorem gX9_passAnHour_X8_hushed : GoodIn wsX9_passAnHour (wsV RX9 84 RX8 yX8_hushed wsX8_hushed) := goodIn_app (goodIn_of _ (by decide +kernel)) ggX9_passAnHour_X8_hushed
set_option maxRecDepth 20000 in
theorem ggX9_passAnHour_X8_bareHeads : GoodIn wsX9_passAnHour wsX8_bareHeads := goodIn_r _ [43, 44, 87, 88, 89, 90, 91, 92, 93, 94, 95, 96] (by decide +kernel) (by decide +kernel)
set_option maxRecDepth 20000 in
theorem gX9_passAnHour_X8_bareHeads : GoodIn wsX9_passAnHour (wsV RX9 88 RX8 yX8_bareHeads wsX8_bareHeads) := goodIn_app (goodIn_of _ (by decide +kernel)) ggX9_passAnHour_X8_bareHeads
set_option maxRecDepth 20000 in
theorem ggX9_passAnHour_X10_step : GoodIn wsX9_passAnHour wsX10_step := goodIn_r _ [49, 50, 51, 52, 53, 54, 48, 55, 56, 57, 58, 59, 97, 98, 99] (by decide +kernel) (by decide +kernel)
set_option maxRecDepth 20000 in
theorem gX9_passAnHour_X10_step : GoodIn wsX9_passAnHour (wsV RX9 100 RX10 yX10_step wsX10_step) := goodIn_app (goodIn_of _ (by decide +kernel)) ggX9_passAnHour_X10_step
set_option maxRecDepth 20000 in
theorem ggX9_passAnHour_X9_blowOn : GoodIn wsX9_passAnHour wsX9_blowOn := goodIn_r _ [64, 1, 65, 2, 66, 67, 37, 38, 39, 68, 69, 70, 48, 71, 51, 52, 53, 54, 55, 50, 56, 57, 58, 59, 72, 73, 74, 63, 75, 76, 77, 78, 79, 80, 81, 82, 83, 84, 85, 86, 87, 88, 89, 90, 91, 92, 93, 94, 95, 96, 97, 98, 99] (by decide +kernel) (by decide +kernel)
set_option maxRecDepth 20000 in
theorem gX9_passAnHour_X9_blowOn : GoodIn wsX9_passAnHour (wsV RX9 103 RX9 yX9_blowOn wsX9_blowOn) := goodIn_app (goodIn_of _ (by decide +kernel)) ggX9_passAnHour_X9_blowOn
theorem dX9_passAnHour_0 : decode cX9_passAnHour 0 = .ok (.aload_n 0, 1) := by decide +kernel
theorem dX9_passAnHour_1 : decode cX9_passAnHour 1 = .ok (.getfield 12, 3) := by decide +kernel
theorem dX9_passAnHour_4 : decode cX9_passAnHour 4 = .ok (.invokevirtual 81, 3) := by decide +kernel
theorem dX9_passAnHour_7 : decode cX9_passAnHour 7 = .ok (.bipush 63, 2) := by decide +kernel
theorem dX9_passAnHour_9 : decode cX9_passAnHour 9 = .ok (.aload_n 0, 1) := by decide +kernel
theorem dX9_passAnHour_10 : decode cX9_passAnHour 10 = .ok (.getfield 12, 3) := by decide +kernel
theorem dX9_passAnHour_13 : decode cX9_passAnHour 13 = .ok (.invokevirtual 84, 3) := by decide +kernel
theorem dX9_passAnHour_16 : decode cX9_passAnHour 16 = .ok (.aload_n 0, 1) := by decide +kernel
theorem dX9_passAnHour_17 : decode cX9_passAnHour 17 = .ok (.getfield 12, 3) := by decide +kernel
theorem dX9_passAnHour_20 : decode cX9_passAnHour 20 = .ok (.invokevirtual 88, 3) := by decide +kernel
theorem dX9_passAnHour_23 : decode cX9_passAnHour 23 = .ok (.ior, 1) := by decide +kernel
theorem dX9_passAnHour_24 : decode cX9_passAnHour 24 = .ok (.iconst (-1), 1) := by decide +kernel
theorem dX9_passAnHour_25 : decode cX9_passAnHour 25 = .ok (.ixor, 1) := by decide +kernel
theorem dX9_passAnHour_26 : decode cX9_passAnHour 26 = .ok (.iand, 1) := by decide +kernel
theorem dX9_passAnHour_27 : decode cX9_passAnHour 27 = .ok (.istore_n 1, 1) := by decide +kernel
theorem dX9_passAnHour_28 : decode cX9_passAnHour 28 = .ok (.iconst 0, 1) := by decide +kernel
theorem dX9_passAnHour_29 : decode cX9_passAnHour 29 = .ok (.istore_n 2, 1) := by decide +kernel
theorem dX9_passAnHour_30 : decode cX9_passAnHour 30 = .ok (.iload_n 2, 1) := by decide +kernel
theorem dX9_passAnHour_31 : decode cX9_passAnHour 31 = .ok (.aload_n 0, 1) := by decide +kernel
theorem dX9_passAnHour_32 : decode cX9_passAnHour 32 = .ok (.getfield 12, 3) := by decide +kernel
theorem dX9_passAnHour_35 : decode cX9_passAnHour 35 = .ok (.getfield 91, 3) := by decide +kernel
theorem dX9_passAnHour_38 : decode cX9_passAnHour 38 = .ok (.getfield 95, 3) := by decide +kernel
theorem dX9_passAnHour_41 : decode cX9_passAnHour 41 = .ok (.if_icmp .ge 29, 3) := by decide +kernel
theorem dX9_passAnHour_44 : decode cX9_passAnHour 44 = .ok (.aload_n 0, 1) := by decide +kernel
theorem dX9_passAnHour_45 : decode cX9_passAnHour 45 = .ok (.getfield 12, 3) := by decide +kernel
theorem dX9_passAnHour_48 : decode cX9_passAnHour 48 = .ok (.getfield 91, 3) := by decide +kernel
theorem dX9_passAnHour_51 : decode cX9_passAnHour 51 = .ok (.invokevirtual 100, 3) := by decide +kernel
theorem dX9_passAnHour_54 : decode cX9_passAnHour 54 = .ok (.iload_n 1, 1) := by decide +kernel
theorem dX9_passAnHour_55 : decode cX9_passAnHour 55 = .ok (.ifCond .eq 9, 3) := by decide +kernel
theorem dX9_passAnHour_58 : decode cX9_passAnHour 58 = .ok (.aload_n 0, 1) := by decide +kernel
theorem dX9_passAnHour_59 : decode cX9_passAnHour 59 = .ok (.iload_n 1, 1) := by decide +kernel
theorem dX9_passAnHour_60 : decode cX9_passAnHour 60 = .ok (.invokevirtual 103, 3) := by decide +kernel
theorem dX9_passAnHour_63 : decode cX9_passAnHour 63 = .ok (.istore_n 1, 1) := by decide +kernel
theorem dX9_passAnHour_64 : decode cX9_passAnHour 64 = .ok (.iinc 2 1, 3) := by decide +kernel
theorem dX9_passAnHour_67 : decode cX9_passAnHour 67 = .ok (.goto (-37), 3) := by decide +kernel
theorem dX9_passAnHour_70 : decode cX9_passAnHour 70 = .ok (.return_, 1) := by decide +kernel
set_option maxRecDepth 20000 in
theorem ggX9_blowOn_X11_has : GoodIn wsX9_blowOn wsX11_has := goodIn_r _ [8] (by decide +kernel) (by decide +kernel)
set_option maxRecDepth 20000 in
theorem gX9_blowOn_X11_has_n107 : GoodIn wsX9_blowOn (wsX11_has) := ggX9_blowOn_X11_has
set_option maxRecDepth 20000 in
theorem ggX9_blowOn_X10_landing : GoodIn wsX9_blowOn wsX10_landing := goodIn_r _ [13, 14, 15, 16, 17, 12, 18, 19, 20, 21, 22, 23, 50, 51, 52] (by decide +kernel) (by decide +kernel)
set_option maxRecDepth 20000 in
theorem gX9_blowOn_X10_landing : GoodIn wsX9_blowOn (wsV RX9 119 RX10 yX10_landing wsX10_landing) := goodIn_app (goodIn_of _ (by decide +kernel)) ggX9_blowOn_X10_landing
set_option maxRecDepth 20000 in
theorem ggX9_blowOn_X9_noteLoss : GoodIn wsX9_blowOn wsX9_noteLoss := goodIn_r _ [28, 29, 30, 31, 32, 33, 34, 35, 36, 37, 38, 39] (by decide +kernel) (by decide +kernel)
set_option maxRecDepth 20000 in
theorem gX9_blowOn_X9_noteLoss : GoodIn wsX9_blowOn (wsV RX9 122 RX9 yX9_noteLoss wsX9_noteLoss) := goodIn_app (goodIn_of _ (by decide +kernel)) ggX9_blowOn_X9_noteLoss
theorem dX9_blowOn_0 : decode cX9_blowOn 0 = .ok (.iload_n 1, 1) := by decide +kernel
theorem dX9_blowOn_1 : decode cX9_blowOn 1 = .ok (.istore_n 2, 1) := by decide +kernel
theorem dX9_blowOn_2 : decode cX9_blowOn 2 = .ok (.iconst 0, 1) := by decide +kernel
theorem dX9_blowOn_3 : decode cX9_blowOn 3 = .ok (.istore_n 3, 1) := by decide +kernel
theorem dX9_blowOn_4 : decode cX9_blowOn 4 = .ok (.iload_n 3, 1) := by decide +kernel
theorem dX9_blowOn_5 : decode cX9_blowOn 5 = .ok (.bipush 6, 2) := by decide +kernel
theorem dX9_blowOn_7 : decode cX9_blowOn 7 = .ok (.if_icmp .ge 71, 3) := by decide +kernel
theorem dX9_blowOn_10 : decode cX9_blowOn 10 = .ok (.iload_n 1, 1) := by decide +kernel
theorem dX9_blowOn_11 : decode cX9_blowOn 11 = .ok (.iload_n 3, 1) := by decide +kernel
theorem dX9_blowOn_12 : decode cX9_blowOn 12 = .ok (.invokestatic 107, 3) := by decide +kernel
theorem dX9_blowOn_15 : decode cX9_blowOn 15 = .ok (.ifCond .eq 57, 3) := by decide +kernel
theorem dX9_blowOn_18 : decode cX9_blowOn 18 = .ok (.aload_n 0, 1) := by decide +kernel
theorem dX9_blowOn_19 : decode cX9_blowOn 19 = .ok (.getfield 12, 3) := by decide +kernel
theorem dX9_blowOn_22 : decode cX9_blowOn 22 = .ok (.getfield 111, 3) := by decide +kernel
theorem dX9_blowOn_25 : decode cX9_blowOn 25 = .ok (.iload_n 3, 1) := by decide +kernel
theorem dX9_blowOn_26 : decode cX9_blowOn 26 = .ok (.iaload, 1) := by decide +kernel
theorem dX9_blowOn_27 : decode cX9_blowOn 27 = .ok (.aload_n 0, 1) := by decide +kernel
theorem dX9_blowOn_28 : decode cX9_blowOn 28 = .ok (.getfield 12, 3) := by decide +kernel
theorem dX9_blowOn_31 : decode cX9_blowOn 31 = .ok (.getfield 91, 3) := by decide +kernel
theorem dX9_blowOn_34 : decode cX9_blowOn 34 = .ok (.getfield 114, 3) := by decide +kernel
theorem dX9_blowOn_37 : decode cX9_blowOn 37 = .ok (.if_icmp .ne 35, 3) := by decide +kernel
theorem dX9_blowOn_40 : decode cX9_blowOn 40 = .ok (.aload_n 0, 1) := by decide +kernel
theorem dX9_blowOn_41 : decode cX9_blowOn 41 = .ok (.getfield 12, 3) := by decide +kernel
theorem dX9_blowOn_44 : decode cX9_blowOn 44 = .ok (.getfield 116, 3) := by decide +kernel
theorem dX9_blowOn_47 : decode cX9_blowOn 47 = .ok (.iload_n 3, 1) := by decide +kernel
theorem dX9_blowOn_48 : decode cX9_blowOn 48 = .ok (.aload_n 0, 1) := by decide +kernel
theorem dX9_blowOn_49 : decode cX9_blowOn 49 = .ok (.getfield 12, 3) := by decide +kernel
theorem dX9_blowOn_52 : decode cX9_blowOn 52 = .ok (.getfield 91, 3) := by decide +kernel
theorem dX9_blowOn_55 : decode cX9_blowOn 55 = .ok (.invokevirtual 119, 3) := by decide +kernel
theorem dX9_blowOn_58 : decode cX9_blowOn 58 = .ok (.iastore, 1) := by decide +kernel
theorem dX9_blowOn_59 : decode cX9_blowOn 59 = .ok (.iload_n 2, 1) := by decide +kernel
theorem dX9_blowOn_60 : decode cX9_blowOn 60 = .ok (.iconst 1, 1) := by decide +kernel
theorem dX9_blowOn_61 : decode cX9_blowOn 61 = .ok (.iload_n 3, 1) := by decide +kernel
theorem dX9_blowOn_62 : decode cX9_blowOn 62 = .ok (.ishl, 1) := by decide +kernel
theorem dX9_blowOn_63 : decode cX9_blowOn 63 = .ok (.iconst (-1), 1) := by decide +kernel
theorem dX9_blowOn_64 : decode cX9_blowOn 64 = .ok (.ixor, 1) := by decide +kernel
theorem dX9_blowOn_65 : decode cX9_blowOn 65 = .ok (.iand, 1) := by decide +kernel
theorem dX9_blowOn_66 : decode cX9_blowOn 66 = .ok (.istore_n 2, 1) := by decide +kernel
theorem dX9_blowOn_67 : decode cX9_blowOn 67 = .ok (.aload_n 0, 1) := by decide +kernel
theorem dX9_blowOn_68 : decode cX9_blowOn 68 = .ok (.iload_n 3, 1) := by decide +kernel
theorem dX9_blowOn_69 : decode cX9_blowOn 69 = .ok (.invokevirtual 122, 3) := by decide +kernel
theorem dX9_blowOn_72 : decode cX9_blowOn 72 = .ok (.iinc 3 1, 3) := by decide +kernel
theorem dX9_blowOn_75 : decode cX9_blowOn 75 = .ok (.goto (-71), 3) := by decide +kernel
theorem dX9_blowOn_78 : decode cX9_blowOn 78 = .ok (.iload_n 2, 1) := by decide +kernel
theorem dX9_blowOn_79 : decode cX9_blowOn 79 = .ok (.ireturn, 1) := by decide +kernel
theorem dX9_noteLoss_0 : decode cX9_noteLoss 0 = .ok (.aload_n 0, 1) := by decide +kernel
theorem dX9_noteLoss_1 : decode cX9_noteLoss 1 = .ok (.dup, 1) := by decide +kernel
theorem dX9_noteLoss_2 : decode cX9_noteLoss 2 = .ok (.getfield 32, 3) := by decide +kernel
theorem dX9_noteLoss_5 : decode cX9_noteLoss 5 = .ok (.iconst 1, 1) := by decide +kernel
theorem dX9_noteLoss_6 : decode cX9_noteLoss 6 = .ok (.iadd, 1) := by decide +kernel
theorem dX9_noteLoss_7 : decode cX9_noteLoss 7 = .ok (.putfield 32, 3) := by decide +kernel
theorem dX9_noteLoss_10 : decode cX9_noteLoss 10 = .ok (.aload_n 0, 1) := by decide +kernel
theorem dX9_noteLoss_11 : decode cX9_noteLoss 11 = .ok (.getfield 38, 3) := by decide +kernel
theorem dX9_noteLoss_14 : decode cX9_noteLoss 14 = .ok (.bipush (-6), 2) := by decide +kernel
theorem dX9_noteLoss_16 : decode cX9_noteLoss 16 = .ok (.if_icmp .ne 16, 3) := by decide +kernel
theorem dX9_noteLoss_19 : decode cX9_noteLoss 19 = .ok (.aload_n 0, 1) := by decide +kernel
theorem dX9_noteLoss_20 : decode cX9_noteLoss 20 = .ok (.aload_n 0, 1) := by decide +kernel
theorem dX9_noteLoss_21 : decode cX9_noteLoss 21 = .ok (.getfield 22, 3) := by decide +kernel
theorem dX9_noteLoss_24 : decode cX9_noteLoss 24 = .ok (.putfield 35, 3) := by decide +kernel
theorem dX9_noteLoss_27 : decode cX9_noteLoss 27 = .ok (.aload_n 0, 1) := by decide +kernel
theorem dX9_noteLoss_28 : decode cX9_noteLoss 28 = .ok (.iload_n 1, 1) := by decide +kernel
theorem dX9_noteLoss_29 : decode cX9_noteLoss 29 = .ok (.putfield 38, 3) := by decide +kernel
theorem dX9_noteLoss_32 : decode cX9_noteLoss 32 = .ok (.return_, 1) := by decide +kernel
set_option maxRecDepth 20000 in
theorem ggX9_draw_X9_begin : GoodIn wsX9_draw wsX9_begin := goodIn_r _ [6, 7, 8, 9, 10, 11, 12, 13, 14, 15, 16, 17, 18, 19, 20, 21, 22, 23, 24, 25, 26, 27, 28, 29, 30, 31, 32, 33, 34, 35, 36, 37, 38, 39, 40, 41, 42, 43, 44, 164, 165, 166, 167, 168, 169, 170, 171, 172, 173, 174, 175, 176, 177, 178, 179, 180, 181, 182, 183] (by decide +kernel) (by decide +kernel)
set_option maxRecDepth 20000 in
theorem gX9_draw_X9_begin : GoodIn wsX9_draw (wsV RX9 41 RX9 yX9_begin wsX9_begin) := goodIn_app (goodIn_of _ (by decide +kernel)) ggX9_draw_X9_begin
set_option maxRecDepth 20000 in
theorem ggX9_draw_X9_tryDrawn : GoodIn wsX9_draw wsX9_tryDrawn := goodIn_r _ [48, 49, 50, 51, 5, 52, 7, 53, 54, 55, 17, 56, 26, 27, 19, 57, 31, 32, 58, 59, 60, 61, 20, 62, 63, 64, 65, 66, 67, 68, 69, 70, 71, 72, 73, 29, 74, 75, 76, 77, 28, 78, 79, 80, 81, 82, 83, 84, 85, 86, 87, 88, 89, 90, 91, 92, 93, 94, 95, 25, 96, 97, 98, 99, 100, 101, 102, 103, 104, 105, 106, 107, 108, 109, 110, 111, 112, 113, 114, 115, 116, 117, 118, 119, 120, 121, 122, 123, 124, 36, 125, 39, 38, 126, 127, 128, 129, 130, 131, 132, 133, 134, 135, 136, 137, 138, 139, 140, 141, 142, 143, 144, 145, 146, 147, 148, 11, 13, 8, 12, 149, 150, 151, 152, 153, 154, 155, 156, 157, 158, 159, 160, 30, 161, 162, 163, 164, 165, 166, 167, 168, 169, 170, 171, 172, 173, 174, 175, 176, 177, 178, 179, 180, 181, 182, 183] (by decide +kernel) (by decide +kernel)
set_option maxRecDepth 20000 in
theorem gX9_draw_X9_tryDrawn : GoodIn wsX9_draw (wsV RX9 126 RX9 yX9_tryDrawn wsX9_tryDrawn) := goodIn_app (goodIn_of _ (by decide +kernel)) ggX9_draw_X9_tryDrawn
theorem dX9_draw_0 : decode cX9_draw 0 = .ok (.aload_n 0, 1) := by decide +kernel
theorem dX9_draw_1 : decode cX9_draw 1 = .ok (.aload_n 3, 1) := by decide +kernel
theorem dX9_draw_2 : decode cX9_draw 2 = .ok (.invokevirtual 41, 3) := by decide +kernel
theorem dX9_draw_5 : decode cX9_draw 5 = .ok (.iload_n 1, 1) := by decide +kernel
theorem dX9_draw_6 : decode cX9_draw 6 = .ok (.istore 4, 2) := by decide +kernel
theorem dX9_draw_8 : decode cX9_draw 8 = .ok (.iconst 0, 1) := by decide +kernel
theorem dX9_draw_9 : decode cX9_draw 9 = .ok (.istore 5, 2) := by decide +kernel
theorem dX9_draw_11 : decode cX9_draw 11 = .ok (.iload 5, 2) := by decide +kernel
theorem dX9_draw_13 : decode cX9_draw 13 = .ok (.iload_n 2, 1) := by decide +kernel
theorem dX9_draw_14 : decode cX9_draw 14 = .ok (.if_icmp .ge 44, 3) := by decide +kernel
theorem dX9_draw_17 : decode cX9_draw 17 = .ok (.bipush 75, 2) := by decide +kernel
theorem dX9_draw_19 : decode cX9_draw 19 = .ok (.iload 4, 2) := by decide +kernel
theorem dX9_draw_21 : decode cX9_draw 21 = .ok (.imul, 1) := by decide +kernel
theorem dX9_draw_22 : decode cX9_draw 22 = .ok (.bipush 74, 2) := by decide +kernel
theorem dX9_draw_24 : decode cX9_draw 24 = .ok (.iadd, 1) := by decide +kernel
theorem dX9_draw_25 : decode cX9_draw 25 = .ok (.ldc 125, 2) := by decide +kernel
theorem dX9_draw_27 : decode cX9_draw 27 = .ok (.irem, 1) := by decide +kernel
theorem dX9_draw_28 : decode cX9_draw 28 = .ok (.istore 4, 2) := by decide +kernel
theorem dX9_draw_30 : decode cX9_draw 30 = .ok (.aload_n 0, 1) := by decide +kernel
theorem dX9_draw_31 : decode cX9_draw 31 = .ok (.iload 4, 2) := by decide +kernel
theorem dX9_draw_33 : decode cX9_draw 33 = .ok (.bipush 6, 2) := by decide +kernel
theorem dX9_draw_35 : decode cX9_draw 35 = .ok (.irem, 1) := by decide +kernel
theorem dX9_draw_36 : decode cX9_draw 36 = .ok (.iload 4, 2) := by decide +kernel
theorem dX9_draw_38 : decode cX9_draw 38 = .ok (.bipush 6, 2) := by decide +kernel
theorem dX9_draw_40 : decode cX9_draw 40 = .ok (.idiv, 1) := by decide +kernel
theorem dX9_draw_41 : decode cX9_draw 41 = .ok (.bipush 8, 2) := by decide +kernel
theorem dX9_draw_43 : decode cX9_draw 43 = .ok (.irem, 1) := by decide +kernel
theorem dX9_draw_44 : decode cX9_draw 44 = .ok (.iload 4, 2) := by decide +kernel
theorem dX9_draw_46 : decode cX9_draw 46 = .ok (.bipush 48, 2) := by decide +kernel
theorem dX9_draw_48 : decode cX9_draw 48 = .ok (.idiv, 1) := by decide +kernel
theorem dX9_draw_49 : decode cX9_draw 49 = .ok (.invokevirtual 126, 3) := by decide +kernel
theorem dX9_draw_52 : decode cX9_draw 52 = .ok (.iinc 5 1, 3) := by decide +kernel
theorem dX9_draw_55 : decode cX9_draw 55 = .ok (.goto (-44), 3) := by decide +kernel
theorem dX9_draw_58 : decode cX9_draw 58 = .ok (.return_, 1) := by decide +kernel
set_option maxRecDepth 20000 in
theorem ggX9_tryDrawn_X9_tryAct : GoodIn wsX9_tryDrawn wsX9_tryAct := goodIn_r _ [5, 6, 7, 8, 9, 10, 11, 12, 13, 14, 15, 16, 17, 18, 19, 20, 21, 22, 23, 24, 25, 26, 27, 28, 29, 30, 31, 32, 33, 34, 35, 36, 37, 38, 39, 40, 41, 42, 43, 44, 45, 46, 47, 4, 48, 49, 50, 51, 52, 53, 54, 55, 56, 57, 58, 59, 60, 61, 62, 63, 64, 65, 66, 67, 68, 69, 70, 71, 72, 73, 74, 75, 76, 77, 78, 79, 80, 81, 82, 83, 84, 85, 86, 87, 88, 89, 90, 91, 92, 93, 94, 95, 96, 97, 98, 99, 100, 101, 102, 103, 104, 105, 106, 107, 108, 109, 110, 111, 112, 113, 114, 115, 116, 117, 118, 119, 120, 121, 122, 123, 124, 125, 126, 127, 128, 129, 130, 131, 132, 133, 134, 135, 136, 137, 138, 139, 140, 141, 142, 143, 144, 145, 146, 147, 148, 149, 150, 151, 152, 153, 154, 155] (by decide +kernel) (by decide +kernel)
set_option maxRecDepth 20000 in
theorem gX9_tryDrawn_X9_tryAct : GoodIn wsX9_tryDrawn (wsV RX9 63 RX9 yX9_tryAct wsX9_tryAct) := goodIn_app (goodIn_of _ (by decide +kernel)) ggX9_tryDrawn_X9_tryAct
theorem dX9_tryDrawn_0 : decode cX9_tryDrawn 0 = .ok (.iload_n 2, 1) := by decide +kernel
theorem dX9_tryDrawn_1 : decode cX9_tryDrawn 1 = .ok (.tableswitch 154 0 6 #[43, 54, 65, 79, 92, 103, 131], 43) := by decide +kernel
theorem dX9_tryDrawn_44 : decode cX9_tryDrawn 44 = .ok (.aload_n 0, 1) := by decide +kernel
theorem dX9_tryDrawn_45 : decode cX9_tryDrawn 45 = .ok (.iload_n 1, 1) := by decide +kernel
theorem dX9_tryDrawn_46 : decode cX9_tryDrawn 46 = .ok (.iconst 0, 1) := by decide +kernel
theorem dX9_tryDrawn_47 : decode cX9_tryDrawn 47 = .ok (.iconst 0, 1) := by decide +kernel
theorem dX9_tryDrawn_48 : decode cX9_tryDrawn 48 = .ok (.invokevirtual 63, 3) := by decide +kernel
theorem dX9_tryDrawn_51 : decode cX9_tryDrawn 51 = .ok (.pop, 1) := by decide +kernel
theorem dX9_tryDrawn_52 : decode cX9_tryDrawn 52 = .ok (.goto 112, 3) := by decide +kernel
theorem dX9_tryDrawn_55 : decode cX9_tryDrawn 55 = .ok (.aload_n 0, 1) := by decide +kernel
theorem dX9_tryDrawn_56 : decode cX9_tryDrawn 56 = .ok (.iload_n 1, 1) := by decide +kernel
theorem dX9_tryDrawn_57 : decode cX9_tryDrawn 57 = .ok (.iconst 1, 1) := by decide +kernel
theorem dX9_tryDrawn_58 : decode cX9_tryDrawn 58 = .ok (.iconst 0, 1) := by decide +kernel
theorem dX9_tryDrawn_59 : decode cX9_tryDrawn 59 = .ok (.invokevirtual 63, 3) := by decide +kernel
theorem dX9_tryDrawn_62 : decode cX9_tryDrawn 62 = .ok (.pop, 1) := by decide +kernel
theorem dX9_tryDrawn_63 : decode cX9_tryDrawn 63 = .ok (.goto 101, 3) := by decide +kernel
theorem dX9_tryDrawn_66 : decode cX9_tryDrawn 66 = .ok (.aload_n 0, 1) := by decide +kernel
theorem dX9_tryDrawn_67 : decode cX9_tryDrawn 67 = .ok (.iload_n 1, 1) := by decide +kernel
theorem dX9_tryDrawn_68 : decode cX9_tryDrawn 68 = .ok (.iconst 2, 1) := by decide +kernel
theorem dX9_tryDrawn_69 : decode cX9_tryDrawn 69 = .ok (.iload_n 3, 1) := by decide +kernel
theorem dX9_tryDrawn_70 : decode cX9_tryDrawn 70 = .ok (.bipush 8, 2) := by decide +kernel
theorem dX9_tryDrawn_72 : decode cX9_tryDrawn 72 = .ok (.irem, 1) := by decide +kernel
theorem dX9_tryDrawn_73 : decode cX9_tryDrawn 73 = .ok (.invokevirtual 63, 3) := by decide +kernel
theorem dX9_tryDrawn_76 : decode cX9_tryDrawn 76 = .ok (.pop, 1) := by decide +kernel
theorem dX9_tryDrawn_77 : decode cX9_tryDrawn 77 = .ok (.goto 87, 3) := by decide +kernel
theorem dX9_tryDrawn_80 : decode cX9_tryDrawn 80 = .ok (.aload_n 0, 1) := by decide +kernel
theorem dX9_tryDrawn_81 : decode cX9_tryDrawn 81 = .ok (.iload_n 1, 1) := by decide +kernel
theorem dX9_tryDrawn_82 : decode cX9_tryDrawn 82 = .ok (.iconst 3, 1) := by decide +kernel
theorem dX9_tryDrawn_83 : decode cX9_tryDrawn 83 = .ok (.iload_n 3, 1) := by decide +kernel
theorem dX9_tryDrawn_84 : decode cX9_tryDrawn 84 = .ok (.iconst 3, 1) := by decide +kernel
theorem dX9_tryDrawn_85 : decode cX9_tryDrawn 85 = .ok (.irem, 1) := by decide +kernel
theorem dX9_tryDrawn_86 : decode cX9_tryDrawn 86 = .ok (.invokevirtual 63, 3) := by decide +kernel
theorem dX9_tryDrawn_89 : decode cX9_tryDrawn 89 = .ok (.pop, 1) := by decide +kernel
theorem dX9_tryDrawn_90 : decode cX9_tryDrawn 90 = .ok (.goto 74, 3) := by decide +kernel
