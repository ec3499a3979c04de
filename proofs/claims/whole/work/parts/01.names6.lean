theorem dX12_paid_190 : decode cX12_paid 190 = .ok (.iload 8, 2) := by decide +kernel
theorem dX12_paid_192 : decode cX12_paid 192 = .ok (.iadd, 1) := by decide +kernel
theorem dX12_paid_193 : decode cX12_paid 193 = .ok (.istore_n 3, 1) := by decide +kernel
theorem dX12_paid_194 : decode cX12_paid 194 = .ok (.iload 5, 2) := by decide +kernel
theorem dX12_paid_196 : decode cX12_paid 196 = .ok (.istore 4, 2) := by decide +kernel
theorem dX12_paid_198 : decode cX12_paid 198 = .ok (.iinc 5 1, 3) := by decide +kernel
theorem dX12_paid_201 : decode cX12_paid 201 = .ok (.goto (-170), 3) := by decide +kernel
theorem dX12_paid_204 : decode cX12_paid 204 = .ok (.iload 4, 2) := by decide +kernel
theorem dX12_paid_206 : decode cX12_paid 206 = .ok (.ifCond .lt 8, 3) := by decide +kernel
theorem dX12_paid_209 : decode cX12_paid 209 = .ok (.iload_n 2, 1) := by decide +kernel
theorem dX12_paid_210 : decode cX12_paid 210 = .ok (.iconst 1, 1) := by decide +kernel
theorem dX12_paid_211 : decode cX12_paid 211 = .ok (.if_icmp .ne 8, 3) := by decide +kernel
theorem dX12_paid_214 : decode cX12_paid 214 = .ok (.iload 4, 2) := by decide +kernel
theorem dX12_paid_216 : decode cX12_paid 216 = .ok (.goto 4, 3) := by decide +kernel
theorem dX12_paid_219 : decode cX12_paid 219 = .ok (.iload_n 3, 1) := by decide +kernel
theorem dX12_paid_220 : decode cX12_paid 220 = .ok (.ireturn, 1) := by decide +kernel
set_option maxRecDepth 20000 in
theorem ggX12_seen_X12_in : GoodIn wsX12_seen wsX12_in := goodIn_r _ [6] (by decide +kernel) (by decide +kernel)
set_option maxRecDepth 20000 in
theorem gX12_seen_X12_in : GoodIn wsX12_seen (va_wsS RX12 38 yX12_in wsX12_in) := goodIn_app (goodIn_of _ (by decide +kernel)) ggX12_seen_X12_in
theorem dX12_seen_0 : decode cX12_seen 0 = .ok (.iload_n 1, 1) := by decide +kernel
theorem dX12_seen_1 : decode cX12_seen 1 = .ok (.iconst 1, 1) := by decide +kernel
theorem dX12_seen_2 : decode cX12_seen 2 = .ok (.bipush 9, 2) := by decide +kernel
theorem dX12_seen_4 : decode cX12_seen 4 = .ok (.invokestatic 38, 3) := by decide +kernel
theorem dX12_seen_7 : decode cX12_seen 7 = .ok (.ifCond .eq 31, 3) := by decide +kernel
theorem dX12_seen_10 : decode cX12_seen 10 = .ok (.iload_n 2, 1) := by decide +kernel
theorem dX12_seen_11 : decode cX12_seen 11 = .ok (.iconst 0, 1) := by decide +kernel
theorem dX12_seen_12 : decode cX12_seen 12 = .ok (.iconst 3, 1) := by decide +kernel
theorem dX12_seen_13 : decode cX12_seen 13 = .ok (.invokestatic 38, 3) := by decide +kernel
theorem dX12_seen_16 : decode cX12_seen 16 = .ok (.ifCond .eq 22, 3) := by decide +kernel
theorem dX12_seen_19 : decode cX12_seen 19 = .ok (.iload_n 3, 1) := by decide +kernel
theorem dX12_seen_20 : decode cX12_seen 20 = .ok (.iconst 0, 1) := by decide +kernel
theorem dX12_seen_21 : decode cX12_seen 21 = .ok (.iconst 3, 1) := by decide +kernel
theorem dX12_seen_22 : decode cX12_seen 22 = .ok (.invokestatic 38, 3) := by decide +kernel
theorem dX12_seen_25 : decode cX12_seen 25 = .ok (.ifCond .eq 13, 3) := by decide +kernel
theorem dX12_seen_28 : decode cX12_seen 28 = .ok (.iload 4, 2) := by decide +kernel
theorem dX12_seen_30 : decode cX12_seen 30 = .ok (.iconst 0, 1) := by decide +kernel
theorem dX12_seen_31 : decode cX12_seen 31 = .ok (.iconst 3, 1) := by decide +kernel
theorem dX12_seen_32 : decode cX12_seen 32 = .ok (.invokestatic 38, 3) := by decide +kernel
theorem dX12_seen_35 : decode cX12_seen 35 = .ok (.ifCond .ne 6, 3) := by decide +kernel
theorem dX12_seen_38 : decode cX12_seen 38 = .ok (.bipush (-2), 2) := by decide +kernel
theorem dX12_seen_40 : decode cX12_seen 40 = .ok (.ireturn, 1) := by decide +kernel
theorem dX12_seen_41 : decode cX12_seen 41 = .ok (.aload_n 0, 1) := by decide +kernel
theorem dX12_seen_42 : decode cX12_seen 42 = .ok (.getfield 148, 3) := by decide +kernel
theorem dX12_seen_45 : decode cX12_seen 45 = .ok (.bipush 8, 2) := by decide +kernel
theorem dX12_seen_47 : decode cX12_seen 47 = .ok (.if_icmp .ne 6, 3) := by decide +kernel
theorem dX12_seen_50 : decode cX12_seen 50 = .ok (.bipush (-4), 2) := by decide +kernel
theorem dX12_seen_52 : decode cX12_seen 52 = .ok (.ireturn, 1) := by decide +kernel
theorem dX12_seen_53 : decode cX12_seen 53 = .ok (.aload_n 0, 1) := by decide +kernel
theorem dX12_seen_54 : decode cX12_seen 54 = .ok (.getfield 16, 3) := by decide +kernel
theorem dX12_seen_57 : decode cX12_seen 57 = .ok (.iconst 2, 1) := by decide +kernel
theorem dX12_seen_58 : decode cX12_seen 58 = .ok (.aload_n 0, 1) := by decide +kernel
theorem dX12_seen_59 : decode cX12_seen 59 = .ok (.getfield 148, 3) := by decide +kernel
theorem dX12_seen_62 : decode cX12_seen 62 = .ok (.imul, 1) := by decide +kernel
theorem dX12_seen_63 : decode cX12_seen 63 = .ok (.sipush 1000, 3) := by decide +kernel
theorem dX12_seen_66 : decode cX12_seen 66 = .ok (.iload_n 1, 1) := by decide +kernel
theorem dX12_seen_67 : decode cX12_seen 67 = .ok (.imul, 1) := by decide +kernel
theorem dX12_seen_68 : decode cX12_seen 68 = .ok (.bipush 100, 2) := by decide +kernel
theorem dX12_seen_70 : decode cX12_seen 70 = .ok (.iload_n 2, 1) := by decide +kernel
theorem dX12_seen_71 : decode cX12_seen 71 = .ok (.imul, 1) := by decide +kernel
theorem dX12_seen_72 : decode cX12_seen 72 = .ok (.iadd, 1) := by decide +kernel
theorem dX12_seen_73 : decode cX12_seen 73 = .ok (.bipush 10, 2) := by decide +kernel
theorem dX12_seen_75 : decode cX12_seen 75 = .ok (.iload_n 3, 1) := by decide +kernel
theorem dX12_seen_76 : decode cX12_seen 76 = .ok (.imul, 1) := by decide +kernel
theorem dX12_seen_77 : decode cX12_seen 77 = .ok (.iadd, 1) := by decide +kernel
theorem dX12_seen_78 : decode cX12_seen 78 = .ok (.iload 4, 2) := by decide +kernel
theorem dX12_seen_80 : decode cX12_seen 80 = .ok (.iadd, 1) := by decide +kernel
theorem dX12_seen_81 : decode cX12_seen 81 = .ok (.iastore, 1) := by decide +kernel
theorem dX12_seen_82 : decode cX12_seen 82 = .ok (.aload_n 0, 1) := by decide +kernel
theorem dX12_seen_83 : decode cX12_seen 83 = .ok (.getfield 16, 3) := by decide +kernel
theorem dX12_seen_86 : decode cX12_seen 86 = .ok (.iconst 2, 1) := by decide +kernel
theorem dX12_seen_87 : decode cX12_seen 87 = .ok (.aload_n 0, 1) := by decide +kernel
theorem dX12_seen_88 : decode cX12_seen 88 = .ok (.getfield 148, 3) := by decide +kernel
theorem dX12_seen_91 : decode cX12_seen 91 = .ok (.imul, 1) := by decide +kernel
theorem dX12_seen_92 : decode cX12_seen 92 = .ok (.iconst 1, 1) := by decide +kernel
theorem dX12_seen_93 : decode cX12_seen 93 = .ok (.iadd, 1) := by decide +kernel
theorem dX12_seen_94 : decode cX12_seen 94 = .ok (.iload 5, 2) := by decide +kernel
theorem dX12_seen_96 : decode cX12_seen 96 = .ok (.ifCond .eq 7, 3) := by decide +kernel
theorem dX12_seen_99 : decode cX12_seen 99 = .ok (.iconst 1, 1) := by decide +kernel
theorem dX12_seen_100 : decode cX12_seen 100 = .ok (.goto 4, 3) := by decide +kernel
theorem dX12_seen_103 : decode cX12_seen 103 = .ok (.iconst 0, 1) := by decide +kernel
theorem dX12_seen_104 : decode cX12_seen 104 = .ok (.iastore, 1) := by decide +kernel
theorem dX12_seen_105 : decode cX12_seen 105 = .ok (.aload_n 0, 1) := by decide +kernel
theorem dX12_seen_106 : decode cX12_seen 106 = .ok (.dup, 1) := by decide +kernel
theorem dX12_seen_107 : decode cX12_seen 107 = .ok (.getfield 148, 3) := by decide +kernel
theorem dX12_seen_110 : decode cX12_seen 110 = .ok (.iconst 1, 1) := by decide +kernel
theorem dX12_seen_111 : decode cX12_seen 111 = .ok (.iadd, 1) := by decide +kernel
theorem dX12_seen_112 : decode cX12_seen 112 = .ok (.putfield 148, 3) := by decide +kernel
theorem dX12_seen_115 : decode cX12_seen 115 = .ok (.aload_n 0, 1) := by decide +kernel
theorem dX12_seen_116 : decode cX12_seen 116 = .ok (.getfield 148, 3) := by decide +kernel
theorem dX12_seen_119 : decode cX12_seen 119 = .ok (.ireturn, 1) := by decide +kernel
theorem dX12_forget_0 : decode cX12_forget 0 = .ok (.aload_n 0, 1) := by decide +kernel
theorem dX12_forget_1 : decode cX12_forget 1 = .ok (.getfield 148, 3) := by decide +kernel
theorem dX12_forget_4 : decode cX12_forget 4 = .ok (.istore_n 1, 1) := by decide +kernel
theorem dX12_forget_5 : decode cX12_forget 5 = .ok (.aload_n 0, 1) := by decide +kernel
theorem dX12_forget_6 : decode cX12_forget 6 = .ok (.iconst 0, 1) := by decide +kernel
theorem dX12_forget_7 : decode cX12_forget 7 = .ok (.putfield 148, 3) := by decide +kernel
theorem dX12_forget_10 : decode cX12_forget 10 = .ok (.iload_n 1, 1) := by decide +kernel
theorem dX12_forget_11 : decode cX12_forget 11 = .ok (.ireturn, 1) := by decide +kernel
theorem dX12_isEnough_0 : decode cX12_isEnough 0 = .ok (.iload_n 0, 1) := by decide +kernel
theorem dX12_isEnough_1 : decode cX12_isEnough 1 = .ok (.bipush 100, 2) := by decide +kernel
theorem dX12_isEnough_3 : decode cX12_isEnough 3 = .ok (.idiv, 1) := by decide +kernel
theorem dX12_isEnough_4 : decode cX12_isEnough 4 = .ok (.iload_n 1, 1) := by decide +kernel
theorem dX12_isEnough_5 : decode cX12_isEnough 5 = .ok (.bipush 100, 2) := by decide +kernel
theorem dX12_isEnough_7 : decode cX12_isEnough 7 = .ok (.idiv, 1) := by decide +kernel
theorem dX12_isEnough_8 : decode cX12_isEnough 8 = .ok (.bipush 10, 2) := by decide +kernel
theorem dX12_isEnough_10 : decode cX12_isEnough 10 = .ok (.irem, 1) := by decide +kernel
theorem dX12_isEnough_11 : decode cX12_isEnough 11 = .ok (.imul, 1) := by decide +kernel
theorem dX12_isEnough_12 : decode cX12_isEnough 12 = .ok (.iload_n 0, 1) := by decide +kernel
theorem dX12_isEnough_13 : decode cX12_isEnough 13 = .ok (.bipush 10, 2) := by decide +kernel
theorem dX12_isEnough_15 : decode cX12_isEnough 15 = .ok (.idiv, 1) := by decide +kernel
theorem dX12_isEnough_16 : decode cX12_isEnough 16 = .ok (.bipush 10, 2) := by decide +kernel
theorem dX12_isEnough_18 : decode cX12_isEnough 18 = .ok (.irem, 1) := by decide +kernel
theorem dX12_isEnough_19 : decode cX12_isEnough 19 = .ok (.iload_n 1, 1) := by decide +kernel
theorem dX12_isEnough_20 : decode cX12_isEnough 20 = .ok (.bipush 10, 2) := by decide +kernel
theorem dX12_isEnough_22 : decode cX12_isEnough 22 = .ok (.idiv, 1) := by decide +kernel
theorem dX12_isEnough_23 : decode cX12_isEnough 23 = .ok (.bipush 10, 2) := by decide +kernel
theorem dX12_isEnough_25 : decode cX12_isEnough 25 = .ok (.irem, 1) := by decide +kernel
theorem dX12_isEnough_26 : decode cX12_isEnough 26 = .ok (.imul, 1) := by decide +kernel
theorem dX12_isEnough_27 : decode cX12_isEnough 27 = .ok (.iadd, 1) := by decide +kernel
theorem dX12_isEnough_28 : decode cX12_isEnough 28 = .ok (.iload_n 0, 1) := by decide +kernel
theorem dX12_isEnough_29 : decode cX12_isEnough 29 = .ok (.bipush 10, 2) := by decide +kernel
theorem dX12_isEnough_31 : decode cX12_isEnough 31 = .ok (.irem, 1) := by decide +kernel
theorem dX12_isEnough_32 : decode cX12_isEnough 32 = .ok (.iload_n 1, 1) := by decide +kernel
theorem dX12_isEnough_33 : decode cX12_isEnough 33 = .ok (.bipush 10, 2) := by decide +kernel
theorem dX12_isEnough_35 : decode cX12_isEnough 35 = .ok (.irem, 1) := by decide +kernel
theorem dX12_isEnough_36 : decode cX12_isEnough 36 = .ok (.imul, 1) := by decide +kernel
theorem dX12_isEnough_37 : decode cX12_isEnough 37 = .ok (.iadd, 1) := by decide +kernel
theorem dX12_isEnough_38 : decode cX12_isEnough 38 = .ok (.istore_n 2, 1) := by decide +kernel
theorem dX12_isEnough_39 : decode cX12_isEnough 39 = .ok (.iload_n 2, 1) := by decide +kernel
theorem dX12_isEnough_40 : decode cX12_isEnough 40 = .ok (.iload_n 1, 1) := by decide +kernel
theorem dX12_isEnough_41 : decode cX12_isEnough 41 = .ok (.sipush 1000, 3) := by decide +kernel
theorem dX12_isEnough_44 : decode cX12_isEnough 44 = .ok (.idiv, 1) := by decide +kernel
theorem dX12_isEnough_45 : decode cX12_isEnough 45 = .ok (.if_icmp .lt 7, 3) := by decide +kernel
theorem dX12_isEnough_48 : decode cX12_isEnough 48 = .ok (.iconst 1, 1) := by decide +kernel
theorem dX12_isEnough_49 : decode cX12_isEnough 49 = .ok (.goto 4, 3) := by decide +kernel
theorem dX12_isEnough_52 : decode cX12_isEnough 52 = .ok (.iconst 0, 1) := by decide +kernel
theorem dX12_isEnough_53 : decode cX12_isEnough 53 = .ok (.ireturn, 1) := by decide +kernel
set_option maxRecDepth 20000 in
theorem ggX12_isFit_X12_isEnough : GoodIn wsX12_isFit wsX12_isEnough := goodIn_r _ [6] (by decide +kernel) (by decide +kernel)
set_option maxRecDepth 20000 in
theorem gX12_isFit_X12_isEnough : GoodIn wsX12_isFit (va_wsS RX12 151 yX12_isEnough wsX12_isEnough) := goodIn_app (goodIn_of _ (by decide +kernel)) ggX12_isFit_X12_isEnough
theorem dX12_isFit_0 : decode cX12_isFit 0 = .ok (.iload_n 1, 1) := by decide +kernel
theorem dX12_isFit_1 : decode cX12_isFit 1 = .ok (.bipush 100, 2) := by decide +kernel
theorem dX12_isFit_3 : decode cX12_isFit 3 = .ok (.idiv, 1) := by decide +kernel
theorem dX12_isFit_4 : decode cX12_isFit 4 = .ok (.iconst 4, 1) := by decide +kernel
theorem dX12_isFit_5 : decode cX12_isFit 5 = .ok (.if_icmp .ge 26, 3) := by decide +kernel
theorem dX12_isFit_8 : decode cX12_isFit 8 = .ok (.iload_n 1, 1) := by decide +kernel
theorem dX12_isFit_9 : decode cX12_isFit 9 = .ok (.bipush 10, 2) := by decide +kernel
theorem dX12_isFit_11 : decode cX12_isFit 11 = .ok (.idiv, 1) := by decide +kernel
theorem dX12_isFit_12 : decode cX12_isFit 12 = .ok (.bipush 10, 2) := by decide +kernel
theorem dX12_isFit_14 : decode cX12_isFit 14 = .ok (.irem, 1) := by decide +kernel
theorem dX12_isFit_15 : decode cX12_isFit 15 = .ok (.iconst 4, 1) := by decide +kernel
theorem dX12_isFit_16 : decode cX12_isFit 16 = .ok (.if_icmp .ge 15, 3) := by decide +kernel
theorem dX12_isFit_19 : decode cX12_isFit 19 = .ok (.iload_n 1, 1) := by decide +kernel
theorem dX12_isFit_20 : decode cX12_isFit 20 = .ok (.bipush 10, 2) := by decide +kernel
theorem dX12_isFit_22 : decode cX12_isFit 22 = .ok (.irem, 1) := by decide +kernel
theorem dX12_isFit_23 : decode cX12_isFit 23 = .ok (.iconst 4, 1) := by decide +kernel
theorem dX12_isFit_24 : decode cX12_isFit 24 = .ok (.if_icmp .ge 7, 3) := by decide +kernel
theorem dX12_isFit_27 : decode cX12_isFit 27 = .ok (.iconst 1, 1) := by decide +kernel
theorem dX12_isFit_28 : decode cX12_isFit 28 = .ok (.goto 4, 3) := by decide +kernel
theorem dX12_isFit_31 : decode cX12_isFit 31 = .ok (.iconst 0, 1) := by decide +kernel
theorem dX12_isFit_32 : decode cX12_isFit 32 = .ok (.istore_n 2, 1) := by decide +kernel
theorem dX12_isFit_33 : decode cX12_isFit 33 = .ok (.iconst 0, 1) := by decide +kernel
theorem dX12_isFit_34 : decode cX12_isFit 34 = .ok (.istore_n 3, 1) := by decide +kernel
theorem dX12_isFit_35 : decode cX12_isFit 35 = .ok (.iload_n 3, 1) := by decide +kernel
theorem dX12_isFit_36 : decode cX12_isFit 36 = .ok (.aload_n 0, 1) := by decide +kernel
theorem dX12_isFit_37 : decode cX12_isFit 37 = .ok (.getfield 148, 3) := by decide +kernel
theorem dX12_isFit_40 : decode cX12_isFit 40 = .ok (.if_icmp .ge 53, 3) := by decide +kernel
theorem dX12_isFit_43 : decode cX12_isFit 43 = .ok (.iload_n 2, 1) := by decide +kernel
theorem dX12_isFit_44 : decode cX12_isFit 44 = .ok (.ifCond .eq 49, 3) := by decide +kernel
theorem dX12_isFit_47 : decode cX12_isFit 47 = .ok (.iload_n 1, 1) := by decide +kernel
theorem dX12_isFit_48 : decode cX12_isFit 48 = .ok (.aload_n 0, 1) := by decide +kernel
theorem dX12_isFit_49 : decode cX12_isFit 49 = .ok (.getfield 16, 3) := by decide +kernel
theorem dX12_isFit_52 : decode cX12_isFit 52 = .ok (.iconst 2, 1) := by decide +kernel
theorem dX12_isFit_53 : decode cX12_isFit 53 = .ok (.iload_n 3, 1) := by decide +kernel
theorem dX12_isFit_54 : decode cX12_isFit 54 = .ok (.imul, 1) := by decide +kernel
theorem dX12_isFit_55 : decode cX12_isFit 55 = .ok (.iaload, 1) := by decide +kernel
theorem dX12_isFit_56 : decode cX12_isFit 56 = .ok (.invokestatic 151, 3) := by decide +kernel
theorem dX12_isFit_59 : decode cX12_isFit 59 = .ok (.aload_n 0, 1) := by decide +kernel
theorem dX12_isFit_60 : decode cX12_isFit 60 = .ok (.getfield 16, 3) := by decide +kernel
theorem dX12_isFit_63 : decode cX12_isFit 63 = .ok (.iconst 2, 1) := by decide +kernel
theorem dX12_isFit_64 : decode cX12_isFit 64 = .ok (.iload_n 3, 1) := by decide +kernel
theorem dX12_isFit_65 : decode cX12_isFit 65 = .ok (.imul, 1) := by decide +kernel
theorem dX12_isFit_66 : decode cX12_isFit 66 = .ok (.iconst 1, 1) := by decide +kernel
theorem dX12_isFit_67 : decode cX12_isFit 67 = .ok (.iadd, 1) := by decide +kernel
theorem dX12_isFit_68 : decode cX12_isFit 68 = .ok (.iaload, 1) := by decide +kernel
theorem dX12_isFit_69 : decode cX12_isFit 69 = .ok (.iconst 1, 1) := by decide +kernel
theorem dX12_isFit_70 : decode cX12_isFit 70 = .ok (.if_icmp .ne 7, 3) := by decide +kernel
theorem dX12_isFit_73 : decode cX12_isFit 73 = .ok (.iconst 1, 1) := by decide +kernel
theorem dX12_isFit_74 : decode cX12_isFit 74 = .ok (.goto 4, 3) := by decide +kernel
theorem dX12_isFit_77 : decode cX12_isFit 77 = .ok (.iconst 0, 1) := by decide +kernel
theorem dX12_isFit_78 : decode cX12_isFit 78 = .ok (.if_icmp .ne 7, 3) := by decide +kernel
theorem dX12_isFit_81 : decode cX12_isFit 81 = .ok (.iconst 1, 1) := by decide +kernel
theorem dX12_isFit_82 : decode cX12_isFit 82 = .ok (.goto 4, 3) := by decide +kernel
theorem dX12_isFit_85 : decode cX12_isFit 85 = .ok (.iconst 0, 1) := by decide +kernel
theorem dX12_isFit_86 : decode cX12_isFit 86 = .ok (.istore_n 2, 1) := by decide +kernel
theorem dX12_isFit_87 : decode cX12_isFit 87 = .ok (.iinc 3 1, 3) := by decide +kernel
theorem dX12_isFit_90 : decode cX12_isFit 90 = .ok (.goto (-55), 3) := by decide +kernel
theorem dX12_isFit_93 : decode cX12_isFit 93 = .ok (.iload_n 2, 1) := by decide +kernel
theorem dX12_isFit_94 : decode cX12_isFit 94 = .ok (.ireturn, 1) := by decide +kernel
set_option maxRecDepth 20000 in
theorem ggX12_likings_X12_isFit : GoodIn wsX12_likings wsX12_isFit := goodIn_r _ [5, 6, 7, 8, 9, 4, 10, 11, 12, 13, 14, 15, 16, 17, 18, 19, 20, 21, 22, 23, 24, 25, 26, 27] (by decide +kernel) (by decide +kernel)
set_option maxRecDepth 20000 in
theorem gX12_likings_X12_isFit : GoodIn wsX12_likings (wsV RX12 154 RX12 yX12_isFit wsX12_isFit) := goodIn_app (goodIn_of _ (by decide +kernel)) ggX12_likings_X12_isFit
theorem dX12_likings_0 : decode cX12_likings 0 = .ok (.iconst 0, 1) := by decide +kernel
theorem dX12_likings_1 : decode cX12_likings 1 = .ok (.istore_n 2, 1) := by decide +kernel
theorem dX12_likings_2 : decode cX12_likings 2 = .ok (.iconst 0, 1) := by decide +kernel
theorem dX12_likings_3 : decode cX12_likings 3 = .ok (.istore_n 3, 1) := by decide +kernel
theorem dX12_likings_4 : decode cX12_likings 4 = .ok (.iload_n 3, 1) := by decide +kernel
theorem dX12_likings_5 : decode cX12_likings 5 = .ok (.sipush 334, 3) := by decide +kernel
theorem dX12_likings_8 : decode cX12_likings 8 = .ok (.if_icmp .ge 27, 3) := by decide +kernel
theorem dX12_likings_11 : decode cX12_likings 11 = .ok (.aload_n 0, 1) := by decide +kernel
theorem dX12_likings_12 : decode cX12_likings 12 = .ok (.iload_n 3, 1) := by decide +kernel
theorem dX12_likings_13 : decode cX12_likings 13 = .ok (.invokevirtual 154, 3) := by decide +kernel
theorem dX12_likings_16 : decode cX12_likings 16 = .ok (.ifCond .eq 13, 3) := by decide +kernel
theorem dX12_likings_19 : decode cX12_likings 19 = .ok (.iload_n 2, 1) := by decide +kernel
theorem dX12_likings_20 : decode cX12_likings 20 = .ok (.iload_n 1, 1) := by decide +kernel
theorem dX12_likings_21 : decode cX12_likings 21 = .ok (.if_icmp .ne 5, 3) := by decide +kernel
theorem dX12_likings_24 : decode cX12_likings 24 = .ok (.iload_n 3, 1) := by decide +kernel
theorem dX12_likings_25 : decode cX12_likings 25 = .ok (.ireturn, 1) := by decide +kernel
theorem dX12_likings_26 : decode cX12_likings 26 = .ok (.iinc 2 1, 3) := by decide +kernel
theorem dX12_likings_29 : decode cX12_likings 29 = .ok (.iinc 3 1, 3) := by decide +kernel
theorem dX12_likings_32 : decode cX12_likings 32 = .ok (.goto (-28), 3) := by decide +kernel
theorem dX12_likings_35 : decode cX12_likings 35 = .ok (.iload_n 1, 1) := by decide +kernel
theorem dX12_likings_36 : decode cX12_likings 36 = .ok (.iconst (-1), 1) := by decide +kernel
theorem dX12_likings_37 : decode cX12_likings 37 = .ok (.if_icmp .ne 7, 3) := by decide +kernel
theorem dX12_likings_40 : decode cX12_likings 40 = .ok (.iload_n 2, 1) := by decide +kernel
theorem dX12_likings_41 : decode cX12_likings 41 = .ok (.goto 5, 3) := by decide +kernel
theorem dX12_likings_44 : decode cX12_likings 44 = .ok (.bipush (-6), 2) := by decide +kernel
theorem dX12_likings_46 : decode cX12_likings 46 = .ok (.ireturn, 1) := by decide +kernel
set_option maxRecDepth 20000 in
theorem ggX12_ask_X12_in : GoodIn wsX12_ask wsX12_in := goodIn_r _ [6] (by decide +kernel) (by decide +kernel)
set_option maxRecDepth 20000 in
theorem gX12_ask_X12_in : GoodIn wsX12_ask (va_wsS RX12 38 yX12_in wsX12_in) := goodIn_app (goodIn_of _ (by decide +kernel)) ggX12_ask_X12_in
set_option maxRecDepth 20000 in
theorem ggX12_ask_X12_isFit : GoodIn wsX12_ask wsX12_isFit := goodIn_r _ [10, 11, 12, 13, 14, 5, 15, 16, 17, 18, 19, 20, 21, 22, 23, 24, 25, 26, 27, 28, 29, 30, 31, 32] (by decide +kernel) (by decide +kernel)
set_option maxRecDepth 20000 in
theorem gX12_ask_X12_isFit : GoodIn wsX12_ask (wsV RX12 154 RX12 yX12_isFit wsX12_isFit) := goodIn_app (goodIn_of _ (by decide +kernel)) ggX12_ask_X12_isFit
set_option maxRecDepth 20000 in
theorem ggX12_ask_X12_isEnough : GoodIn wsX12_ask wsX12_isEnough := goodIn_r _ [15] (by decide +kernel) (by decide +kernel)
set_option maxRecDepth 20000 in
theorem gX12_ask_X12_isEnough : GoodIn wsX12_ask (va_wsS RX12 151 yX12_isEnough wsX12_isEnough) := goodIn_app (goodIn_of _ (by decide +kernel)) ggX12_ask_X12_isEnough
theorem dX12_ask_0 : decode cX12_ask 0 = .ok (.iload_n 1, 1) := by decide +kernel
theorem dX12_ask_1 : decode cX12_ask 1 = .ok (.iconst 0, 1) := by decide +kernel
theorem dX12_ask_2 : decode cX12_ask 2 = .ok (.iconst 1, 1) := by decide +kernel
theorem dX12_ask_3 : decode cX12_ask 3 = .ok (.invokestatic 38, 3) := by decide +kernel
theorem dX12_ask_6 : decode cX12_ask 6 = .ok (.ifCond .ne 6, 3) := by decide +kernel
theorem dX12_ask_9 : decode cX12_ask 9 = .ok (.bipush (-2), 2) := by decide +kernel
theorem dX12_ask_11 : decode cX12_ask 11 = .ok (.ireturn, 1) := by decide +kernel
theorem dX12_ask_12 : decode cX12_ask 12 = .ok (.iconst 0, 1) := by decide +kernel
theorem dX12_ask_13 : decode cX12_ask 13 = .ok (.istore_n 2, 1) := by decide +kernel
theorem dX12_ask_14 : decode cX12_ask 14 = .ok (.iconst 0, 1) := by decide +kernel
theorem dX12_ask_15 : decode cX12_ask 15 = .ok (.istore_n 3, 1) := by decide +kernel
theorem dX12_ask_16 : decode cX12_ask 16 = .ok (.iload_n 3, 1) := by decide +kernel
theorem dX12_ask_17 : decode cX12_ask 17 = .ok (.sipush 334, 3) := by decide +kernel
theorem dX12_ask_20 : decode cX12_ask 20 = .ok (.if_icmp .ge 27, 3) := by decide +kernel
theorem dX12_ask_23 : decode cX12_ask 23 = .ok (.aload_n 0, 1) := by decide +kernel
theorem dX12_ask_24 : decode cX12_ask 24 = .ok (.iload_n 3, 1) := by decide +kernel
theorem dX12_ask_25 : decode cX12_ask 25 = .ok (.invokevirtual 154, 3) := by decide +kernel
theorem dX12_ask_28 : decode cX12_ask 28 = .ok (.ifCond .eq 13, 3) := by decide +kernel
theorem dX12_ask_31 : decode cX12_ask 31 = .ok (.aload_n 0, 1) := by decide +kernel
theorem dX12_ask_32 : decode cX12_ask 32 = .ok (.getfield 26, 3) := by decide +kernel
theorem dX12_ask_35 : decode cX12_ask 35 = .ok (.iload_n 2, 1) := by decide +kernel
theorem dX12_ask_36 : decode cX12_ask 36 = .ok (.iload_n 3, 1) := by decide +kernel
theorem dX12_ask_37 : decode cX12_ask 37 = .ok (.iastore, 1) := by decide +kernel
theorem dX12_ask_38 : decode cX12_ask 38 = .ok (.iinc 2 1, 3) := by decide +kernel
theorem dX12_ask_41 : decode cX12_ask 41 = .ok (.iinc 3 1, 3) := by decide +kernel
theorem dX12_ask_44 : decode cX12_ask 44 = .ok (.goto (-28), 3) := by decide +kernel
theorem dX12_ask_47 : decode cX12_ask 47 = .ok (.bipush (-6), 2) := by decide +kernel
theorem dX12_ask_49 : decode cX12_ask 49 = .ok (.istore_n 3, 1) := by decide +kernel
theorem dX12_ask_50 : decode cX12_ask 50 = .ok (.ldc 144, 2) := by decide +kernel
theorem dX12_ask_52 : decode cX12_ask 52 = .ok (.istore 4, 2) := by decide +kernel
theorem dX12_ask_54 : decode cX12_ask 54 = .ok (.sipush 1000, 3) := by decide +kernel
theorem dX12_ask_57 : decode cX12_ask 57 = .ok (.istore 5, 2) := by decide +kernel
theorem dX12_ask_59 : decode cX12_ask 59 = .ok (.iload 5, 2) := by decide +kernel
theorem dX12_ask_61 : decode cX12_ask 61 = .ok (.sipush 9334, 3) := by decide +kernel
theorem dX12_ask_64 : decode cX12_ask 64 = .ok (.if_icmp .ge 166, 3) := by decide +kernel
theorem dX12_ask_67 : decode cX12_ask 67 = .ok (.iload_n 2, 1) := by decide +kernel
theorem dX12_ask_68 : decode cX12_ask 68 = .ok (.ifCond .le 162, 3) := by decide +kernel
theorem dX12_ask_71 : decode cX12_ask 71 = .ok (.iload 5, 2) := by decide +kernel
theorem dX12_ask_73 : decode cX12_ask 73 = .ok (.bipush 100, 2) := by decide +kernel
theorem dX12_ask_75 : decode cX12_ask 75 = .ok (.idiv, 1) := by decide +kernel
theorem dX12_ask_76 : decode cX12_ask 76 = .ok (.bipush 10, 2) := by decide +kernel
theorem dX12_ask_78 : decode cX12_ask 78 = .ok (.irem, 1) := by decide +kernel
theorem dX12_ask_79 : decode cX12_ask 79 = .ok (.iconst 4, 1) := by decide +kernel
theorem dX12_ask_80 : decode cX12_ask 80 = .ok (.if_icmp .ge 28, 3) := by decide +kernel
theorem dX12_ask_83 : decode cX12_ask 83 = .ok (.iload 5, 2) := by decide +kernel
theorem dX12_ask_85 : decode cX12_ask 85 = .ok (.bipush 10, 2) := by decide +kernel
theorem dX12_ask_87 : decode cX12_ask 87 = .ok (.idiv, 1) := by decide +kernel
theorem dX12_ask_88 : decode cX12_ask 88 = .ok (.bipush 10, 2) := by decide +kernel
theorem dX12_ask_90 : decode cX12_ask 90 = .ok (.irem, 1) := by decide +kernel
theorem dX12_ask_91 : decode cX12_ask 91 = .ok (.iconst 4, 1) := by decide +kernel
theorem dX12_ask_92 : decode cX12_ask 92 = .ok (.if_icmp .ge 16, 3) := by decide +kernel
theorem dX12_ask_95 : decode cX12_ask 95 = .ok (.iload 5, 2) := by decide +kernel
theorem dX12_ask_97 : decode cX12_ask 97 = .ok (.bipush 10, 2) := by decide +kernel
theorem dX12_ask_99 : decode cX12_ask 99 = .ok (.irem, 1) := by decide +kernel
theorem dX12_ask_100 : decode cX12_ask 100 = .ok (.iconst 4, 1) := by decide +kernel
theorem dX12_ask_101 : decode cX12_ask 101 = .ok (.if_icmp .ge 7, 3) := by decide +kernel
theorem dX12_ask_104 : decode cX12_ask 104 = .ok (.iconst 1, 1) := by decide +kernel
theorem dX12_ask_105 : decode cX12_ask 105 = .ok (.goto 4, 3) := by decide +kernel
theorem dX12_ask_108 : decode cX12_ask 108 = .ok (.iconst 0, 1) := by decide +kernel
theorem dX12_ask_109 : decode cX12_ask 109 = .ok (.istore 6, 2) := by decide +kernel
theorem dX12_ask_111 : decode cX12_ask 111 = .ok (.iconst 0, 1) := by decide +kernel
theorem dX12_ask_112 : decode cX12_ask 112 = .ok (.istore 7, 2) := by decide +kernel
theorem dX12_ask_114 : decode cX12_ask 114 = .ok (.iconst 0, 1) := by decide +kernel
theorem dX12_ask_115 : decode cX12_ask 115 = .ok (.istore 8, 2) := by decide +kernel
theorem dX12_ask_117 : decode cX12_ask 117 = .ok (.iload 8, 2) := by decide +kernel
theorem dX12_ask_119 : decode cX12_ask 119 = .ok (.iload_n 2, 1) := by decide +kernel
theorem dX12_ask_120 : decode cX12_ask 120 = .ok (.if_icmp .ge 39, 3) := by decide +kernel
theorem dX12_ask_123 : decode cX12_ask 123 = .ok (.iload 6, 2) := by decide +kernel
theorem dX12_ask_125 : decode cX12_ask 125 = .ok (.ifCond .eq 34, 3) := by decide +kernel
theorem dX12_ask_128 : decode cX12_ask 128 = .ok (.iload 7, 2) := by decide +kernel
theorem dX12_ask_130 : decode cX12_ask 130 = .ok (.aload_n 0, 1) := by decide +kernel
theorem dX12_ask_131 : decode cX12_ask 131 = .ok (.getfield 26, 3) := by decide +kernel
theorem dX12_ask_134 : decode cX12_ask 134 = .ok (.iload 8, 2) := by decide +kernel
theorem dX12_ask_136 : decode cX12_ask 136 = .ok (.iaload, 1) := by decide +kernel
theorem dX12_ask_137 : decode cX12_ask 137 = .ok (.iload 5, 2) := by decide +kernel
theorem dX12_ask_139 : decode cX12_ask 139 = .ok (.invokestatic 151, 3) := by decide +kernel
theorem dX12_ask_142 : decode cX12_ask 142 = .ok (.ifCond .eq 7, 3) := by decide +kernel
theorem dX12_ask_145 : decode cX12_ask 145 = .ok (.iconst 1, 1) := by decide +kernel
theorem dX12_ask_146 : decode cX12_ask 146 = .ok (.goto 4, 3) := by decide +kernel
theorem dX12_ask_149 : decode cX12_ask 149 = .ok (.iconst 0, 1) := by decide +kernel
theorem dX12_ask_150 : decode cX12_ask 150 = .ok (.iadd, 1) := by decide +kernel
theorem dX12_ask_151 : decode cX12_ask 151 = .ok (.istore 7, 2) := by decide +kernel
theorem dX12_ask_153 : decode cX12_ask 153 = .ok (.iinc 8 1, 3) := by decide +kernel
theorem dX12_ask_156 : decode cX12_ask 156 = .ok (.goto (-39), 3) := by decide +kernel
theorem dX12_ask_159 : decode cX12_ask 159 = .ok (.iload 7, 2) := by decide +kernel
theorem dX12_ask_161 : decode cX12_ask 161 = .ok (.iload_n 2, 1) := by decide +kernel
theorem dX12_ask_162 : decode cX12_ask 162 = .ok (.iload 7, 2) := by decide +kernel
theorem dX12_ask_164 : decode cX12_ask 164 = .ok (.isub, 1) := by decide +kernel
theorem dX12_ask_165 : decode cX12_ask 165 = .ok (.if_icmp .le 8, 3) := by decide +kernel
theorem dX12_ask_168 : decode cX12_ask 168 = .ok (.iload 7, 2) := by decide +kernel
theorem dX12_ask_170 : decode cX12_ask 170 = .ok (.goto 7, 3) := by decide +kernel
theorem dX12_ask_173 : decode cX12_ask 173 = .ok (.iload_n 2, 1) := by decide +kernel
theorem dX12_ask_174 : decode cX12_ask 174 = .ok (.iload 7, 2) := by decide +kernel
theorem dX12_ask_176 : decode cX12_ask 176 = .ok (.isub, 1) := by decide +kernel
theorem dX12_ask_177 : decode cX12_ask 177 = .ok (.istore 8, 2) := by decide +kernel
theorem dX12_ask_179 : decode cX12_ask 179 = .ok (.iload 6, 2) := by decide +kernel
theorem dX12_ask_181 : decode cX12_ask 181 = .ok (.ifCond .eq 14, 3) := by decide +kernel
theorem dX12_ask_184 : decode cX12_ask 184 = .ok (.iload 8, 2) := by decide +kernel
theorem dX12_ask_186 : decode cX12_ask 186 = .ok (.iload 4, 2) := by decide +kernel
theorem dX12_ask_188 : decode cX12_ask 188 = .ok (.if_icmp .ge 7, 3) := by decide +kernel
theorem dX12_ask_191 : decode cX12_ask 191 = .ok (.iconst 1, 1) := by decide +kernel
theorem dX12_ask_192 : decode cX12_ask 192 = .ok (.goto 4, 3) := by decide +kernel
theorem dX12_ask_195 : decode cX12_ask 195 = .ok (.iconst 0, 1) := by decide +kernel
theorem dX12_ask_196 : decode cX12_ask 196 = .ok (.istore 9, 2) := by decide +kernel
theorem dX12_ask_198 : decode cX12_ask 198 = .ok (.iload 9, 2) := by decide +kernel
theorem dX12_ask_200 : decode cX12_ask 200 = .ok (.ifCond .eq 8, 3) := by decide +kernel
theorem dX12_ask_203 : decode cX12_ask 203 = .ok (.iload 5, 2) := by decide +kernel
theorem dX12_ask_205 : decode cX12_ask 205 = .ok (.goto 4, 3) := by decide +kernel
theorem dX12_ask_208 : decode cX12_ask 208 = .ok (.iload_n 3, 1) := by decide +kernel
theorem dX12_ask_209 : decode cX12_ask 209 = .ok (.istore_n 3, 1) := by decide +kernel
theorem dX12_ask_210 : decode cX12_ask 210 = .ok (.iload 9, 2) := by decide +kernel
theorem dX12_ask_212 : decode cX12_ask 212 = .ok (.ifCond .eq 8, 3) := by decide +kernel
theorem dX12_ask_215 : decode cX12_ask 215 = .ok (.iload 8, 2) := by decide +kernel
theorem dX12_ask_217 : decode cX12_ask 217 = .ok (.goto 5, 3) := by decide +kernel
theorem dX12_ask_220 : decode cX12_ask 220 = .ok (.iload 4, 2) := by decide +kernel
theorem dX12_ask_222 : decode cX12_ask 222 = .ok (.istore 4, 2) := by decide +kernel
theorem dX12_ask_224 : decode cX12_ask 224 = .ok (.iinc 5 1, 3) := by decide +kernel
theorem dX12_ask_227 : decode cX12_ask 227 = .ok (.goto (-168), 3) := by decide +kernel
theorem dX12_ask_230 : decode cX12_ask 230 = .ok (.iload_n 3, 1) := by decide +kernel
theorem dX12_ask_231 : decode cX12_ask 231 = .ok (.ifCond .lt 7, 3) := by decide +kernel
theorem dX12_ask_234 : decode cX12_ask 234 = .ok (.iload_n 1, 1) := by decide +kernel
theorem dX12_ask_235 : decode cX12_ask 235 = .ok (.ifCond .ne 7, 3) := by decide +kernel
theorem dX12_ask_238 : decode cX12_ask 238 = .ok (.iload_n 3, 1) := by decide +kernel
theorem dX12_ask_239 : decode cX12_ask 239 = .ok (.goto 5, 3) := by decide +kernel
theorem dX12_ask_242 : decode cX12_ask 242 = .ok (.iload 4, 2) := by decide +kernel
theorem dX12_ask_244 : decode cX12_ask 244 = .ok (.ireturn, 1) := by decide +kernel
theorem dX12_firstOf_0 : decode cX12_firstOf 0 = .ok (.iconst 1, 1) := by decide +kernel
theorem dX12_firstOf_1 : decode cX12_firstOf 1 = .ok (.istore_n 3, 1) := by decide +kernel
theorem dX12_firstOf_2 : decode cX12_firstOf 2 = .ok (.iload_n 3, 1) := by decide +kernel
theorem dX12_firstOf_3 : decode cX12_firstOf 3 = .ok (.iconst 5, 1) := by decide +kernel
theorem dX12_firstOf_4 : decode cX12_firstOf 4 = .ok (.if_icmp .ge 36, 3) := by decide +kernel
theorem dX12_firstOf_7 : decode cX12_firstOf 7 = .ok (.iload_n 3, 1) := by decide +kernel
theorem dX12_firstOf_8 : decode cX12_firstOf 8 = .ok (.iload_n 1, 1) := by decide +kernel
theorem dX12_firstOf_9 : decode cX12_firstOf 9 = .ok (.if_icmp .gt 31, 3) := by decide +kernel
theorem dX12_firstOf_12 : decode cX12_firstOf 12 = .ok (.iload_n 3, 1) := by decide +kernel
theorem dX12_firstOf_13 : decode cX12_firstOf 13 = .ok (.iload_n 2, 1) := by decide +kernel
theorem dX12_firstOf_14 : decode cX12_firstOf 14 = .ok (.if_icmp .eq 20, 3) := by decide +kernel
theorem dX12_firstOf_17 : decode cX12_firstOf 17 = .ok (.aload_n 0, 1) := by decide +kernel
theorem dX12_firstOf_18 : decode cX12_firstOf 18 = .ok (.getfield 29, 3) := by decide +kernel
theorem dX12_firstOf_21 : decode cX12_firstOf 21 = .ok (.iconst 5, 1) := by decide +kernel
theorem dX12_firstOf_22 : decode cX12_firstOf 22 = .ok (.iload_n 1, 1) := by decide +kernel
theorem dX12_firstOf_23 : decode cX12_firstOf 23 = .ok (.iload_n 3, 1) := by decide +kernel
theorem dX12_firstOf_24 : decode cX12_firstOf 24 = .ok (.isub, 1) := by decide +kernel
theorem dX12_firstOf_25 : decode cX12_firstOf 25 = .ok (.imul, 1) := by decide +kernel
theorem dX12_firstOf_26 : decode cX12_firstOf 26 = .ok (.iload_n 3, 1) := by decide +kernel
theorem dX12_firstOf_27 : decode cX12_firstOf 27 = .ok (.iadd, 1) := by decide +kernel
theorem dX12_firstOf_28 : decode cX12_firstOf 28 = .ok (.baload, 1) := by decide +kernel
theorem dX12_firstOf_29 : decode cX12_firstOf 29 = .ok (.ifCond .ne 5, 3) := by decide +kernel
theorem dX12_firstOf_32 : decode cX12_firstOf 32 = .ok (.iload_n 3, 1) := by decide +kernel
theorem dX12_firstOf_33 : decode cX12_firstOf 33 = .ok (.ireturn, 1) := by decide +kernel
theorem dX12_firstOf_34 : decode cX12_firstOf 34 = .ok (.iinc 3 1, 3) := by decide +kernel
theorem dX12_firstOf_37 : decode cX12_firstOf 37 = .ok (.goto (-35), 3) := by decide +kernel
theorem dX12_firstOf_40 : decode cX12_firstOf 40 = .ok (.bipush (-6), 2) := by decide +kernel
theorem dX12_firstOf_42 : decode cX12_firstOf 42 = .ok (.ireturn, 1) := by decide +kernel
set_option maxRecDepth 20000 in
theorem ggX12_bowls_X12_in : GoodIn wsX12_bowls wsX12_in := goodIn_r _ [5] (by decide +kernel) (by decide +kernel)
set_option maxRecDepth 20000 in
theorem gX12_bowls_X12_in : GoodIn wsX12_bowls (va_wsS RX12 38 yX12_in wsX12_in) := goodIn_app (goodIn_of _ (by decide +kernel)) ggX12_bowls_X12_in
set_option maxRecDepth 20000 in
theorem ggX12_bowls_X12_firstOf : GoodIn wsX12_bowls wsX12_firstOf := goodIn_r _ [9, 1, 10, 11, 12, 13, 14, 15, 16, 17, 18, 19, 20, 21, 22, 23, 24, 25, 26] (by decide +kernel) (by decide +kernel)
set_option maxRecDepth 20000 in
theorem gX12_bowls_X12_firstOf : GoodIn wsX12_bowls (wsV RX12 157 RX12 yX12_firstOf wsX12_firstOf) := goodIn_app (goodIn_of _ (by decide +kernel)) ggX12_bowls_X12_firstOf
theorem dX12_bowls_0 : decode cX12_bowls 0 = .ok (.iload_n 1, 1) := by decide +kernel
theorem dX12_bowls_1 : decode cX12_bowls 1 = .ok (.iconst 0, 1) := by decide +kernel
theorem dX12_bowls_2 : decode cX12_bowls 2 = .ok (.bipush 99, 2) := by decide +kernel
theorem dX12_bowls_4 : decode cX12_bowls 4 = .ok (.invokestatic 38, 3) := by decide +kernel
theorem dX12_bowls_7 : decode cX12_bowls 7 = .ok (.ifCond .eq 21, 3) := by decide +kernel
theorem dX12_bowls_10 : decode cX12_bowls 10 = .ok (.iload_n 2, 1) := by decide +kernel
theorem dX12_bowls_11 : decode cX12_bowls 11 = .ok (.iconst 0, 1) := by decide +kernel
theorem dX12_bowls_12 : decode cX12_bowls 12 = .ok (.iconst 4, 1) := by decide +kernel
theorem dX12_bowls_13 : decode cX12_bowls 13 = .ok (.invokestatic 38, 3) := by decide +kernel
theorem dX12_bowls_16 : decode cX12_bowls 16 = .ok (.ifCond .eq 12, 3) := by decide +kernel
theorem dX12_bowls_19 : decode cX12_bowls 19 = .ok (.iload_n 3, 1) := by decide +kernel
theorem dX12_bowls_20 : decode cX12_bowls 20 = .ok (.iconst 0, 1) := by decide +kernel
theorem dX12_bowls_21 : decode cX12_bowls 21 = .ok (.iconst 1, 1) := by decide +kernel
theorem dX12_bowls_22 : decode cX12_bowls 22 = .ok (.invokestatic 38, 3) := by decide +kernel
theorem dX12_bowls_25 : decode cX12_bowls 25 = .ok (.ifCond .ne 6, 3) := by decide +kernel
theorem dX12_bowls_28 : decode cX12_bowls 28 = .ok (.bipush (-2), 2) := by decide +kernel
theorem dX12_bowls_30 : decode cX12_bowls 30 = .ok (.ireturn, 1) := by decide +kernel
theorem dX12_bowls_31 : decode cX12_bowls 31 = .ok (.iconst 0, 1) := by decide +kernel
theorem dX12_bowls_32 : decode cX12_bowls 32 = .ok (.istore 4, 2) := by decide +kernel
theorem dX12_bowls_34 : decode cX12_bowls 34 = .ok (.iload 4, 2) := by decide +kernel
theorem dX12_bowls_36 : decode cX12_bowls 36 = .ok (.iload_n 1, 1) := by decide +kernel
theorem dX12_bowls_37 : decode cX12_bowls 37 = .ok (.if_icmp .ge 52, 3) := by decide +kernel
theorem dX12_bowls_40 : decode cX12_bowls 40 = .ok (.iconst 0, 1) := by decide +kernel
theorem dX12_bowls_41 : decode cX12_bowls 41 = .ok (.istore 5, 2) := by decide +kernel
theorem dX12_bowls_43 : decode cX12_bowls 43 = .ok (.iload 5, 2) := by decide +kernel
theorem dX12_bowls_45 : decode cX12_bowls 45 = .ok (.iconst 5, 1) := by decide +kernel
theorem dX12_bowls_46 : decode cX12_bowls 46 = .ok (.if_icmp .ge 37, 3) := by decide +kernel
theorem dX12_bowls_49 : decode cX12_bowls 49 = .ok (.aload_n 0, 1) := by decide +kernel
theorem dX12_bowls_50 : decode cX12_bowls 50 = .ok (.getfield 29, 3) := by decide +kernel
theorem dX12_bowls_53 : decode cX12_bowls 53 = .ok (.iconst 5, 1) := by decide +kernel
theorem dX12_bowls_54 : decode cX12_bowls 54 = .ok (.iload 4, 2) := by decide +kernel
theorem dX12_bowls_56 : decode cX12_bowls 56 = .ok (.imul, 1) := by decide +kernel
theorem dX12_bowls_57 : decode cX12_bowls 57 = .ok (.iload 5, 2) := by decide +kernel
theorem dX12_bowls_59 : decode cX12_bowls 59 = .ok (.iadd, 1) := by decide +kernel
theorem dX12_bowls_60 : decode cX12_bowls 60 = .ok (.aload_n 0, 1) := by decide +kernel
theorem dX12_bowls_61 : decode cX12_bowls 61 = .ok (.iload 4, 2) := by decide +kernel
theorem dX12_bowls_63 : decode cX12_bowls 63 = .ok (.iload 5, 2) := by decide +kernel
theorem dX12_bowls_65 : decode cX12_bowls 65 = .ok (.invokevirtual 157, 3) := by decide +kernel
theorem dX12_bowls_68 : decode cX12_bowls 68 = .ok (.ifCond .lt 7, 3) := by decide +kernel
theorem dX12_bowls_71 : decode cX12_bowls 71 = .ok (.iconst 1, 1) := by decide +kernel
theorem dX12_bowls_72 : decode cX12_bowls 72 = .ok (.goto 4, 3) := by decide +kernel
theorem dX12_bowls_75 : decode cX12_bowls 75 = .ok (.iconst 0, 1) := by decide +kernel
theorem dX12_bowls_76 : decode cX12_bowls 76 = .ok (.bastore, 1) := by decide +kernel
theorem dX12_bowls_77 : decode cX12_bowls 77 = .ok (.iinc 5 1, 3) := by decide +kernel
theorem dX12_bowls_80 : decode cX12_bowls 80 = .ok (.goto (-37), 3) := by decide +kernel
theorem dX12_bowls_83 : decode cX12_bowls 83 = .ok (.iinc 4 1, 3) := by decide +kernel
theorem dX12_bowls_86 : decode cX12_bowls 86 = .ok (.goto (-52), 3) := by decide +kernel
theorem dX12_bowls_89 : decode cX12_bowls 89 = .ok (.aload_n 0, 1) := by decide +kernel
theorem dX12_bowls_90 : decode cX12_bowls 90 = .ok (.iload_n 1, 1) := by decide +kernel
theorem dX12_bowls_91 : decode cX12_bowls 91 = .ok (.iload_n 2, 1) := by decide +kernel
theorem dX12_bowls_92 : decode cX12_bowls 92 = .ok (.invokevirtual 157, 3) := by decide +kernel
theorem dX12_bowls_95 : decode cX12_bowls 95 = .ok (.istore 4, 2) := by decide +kernel
theorem dX12_bowls_97 : decode cX12_bowls 97 = .ok (.iload_n 3, 1) := by decide +kernel
theorem dX12_bowls_98 : decode cX12_bowls 98 = .ok (.iconst 1, 1) := by decide +kernel
theorem dX12_bowls_99 : decode cX12_bowls 99 = .ok (.if_icmp .ne 8, 3) := by decide +kernel
theorem dX12_bowls_102 : decode cX12_bowls 102 = .ok (.iload 4, 2) := by decide +kernel
theorem dX12_bowls_104 : decode cX12_bowls 104 = .ok (.goto 13, 3) := by decide +kernel
theorem dX12_bowls_107 : decode cX12_bowls 107 = .ok (.iload 4, 2) := by decide +kernel
theorem dX12_bowls_109 : decode cX12_bowls 109 = .ok (.ifCond .ge 7, 3) := by decide +kernel
theorem dX12_bowls_112 : decode cX12_bowls 112 = .ok (.iconst 0, 1) := by decide +kernel
theorem dX12_bowls_113 : decode cX12_bowls 113 = .ok (.goto 4, 3) := by decide +kernel
theorem dX12_bowls_116 : decode cX12_bowls 116 = .ok (.iconst 1, 1) := by decide +kernel
theorem dX12_bowls_117 : decode cX12_bowls 117 = .ok (.ireturn, 1) := by decide +kernel
set_option maxRecDepth 20000 in
theorem ggX12_gale_X12_isCell : GoodIn wsX12_gale wsX12_isCell := goodIn_r _ [8, 9, 10, 7, 11] (by decide +kernel) (by decide +kernel)
set_option maxRecDepth 20000 in
theorem gX12_gale_X12_isCell : GoodIn wsX12_gale (va_wsS RX12 70 yX12_isCell wsX12_isCell) := goodIn_app (goodIn_of _ (by decide +kernel)) ggX12_gale_X12_isCell
set_option maxRecDepth 20000 in
theorem ggX12_gale_X12_in : GoodIn wsX12_gale wsX12_in := goodIn_r _ [11] (by decide +kernel) (by decide +kernel)
set_option maxRecDepth 20000 in
theorem gX12_gale_X12_in : GoodIn wsX12_gale (va_wsS RX12 38 yX12_in wsX12_in) := goodIn_app (goodIn_of _ (by decide +kernel)) ggX12_gale_X12_in
set_option maxRecDepth 20000 in
theorem ggX12_gale_X12_blowHour : GoodIn wsX12_gale wsX12_blowHour := goodIn_r _ [15, 3, 16, 17, 18, 7, 19, 5, 6, 8, 9, 10, 11, 26, 27, 28, 29, 30, 31, 32, 33, 34, 35, 36, 37, 38, 39, 40, 41, 42] (by decide +kernel) (by decide +kernel)
set_option maxRecDepth 20000 in
theorem gX12_gale_X12_blowHour : GoodIn wsX12_gale (wsV RX12 141 RX12 yX12_blowHour wsX12_blowHour) := goodIn_app (goodIn_of _ (by decide +kernel)) ggX12_gale_X12_blowHour
set_option maxRecDepth 20000 in
theorem ggX12_gale_X12_bits : GoodIn wsX12_gale wsX12_bits := goodIn_r _ [22] (by decide +kernel) (by decide +kernel)
set_option maxRecDepth 20000 in
theorem gX12_gale_X12_bits : GoodIn wsX12_gale (va_wsS RX12 84 yX12_bits wsX12_bits) := goodIn_app (goodIn_of _ (by decide +kernel)) ggX12_gale_X12_bits
set_option maxRecDepth 20000 in
theorem ggX12_gale_X12_has : GoodIn wsX12_gale wsX12_has := goodIn_r _ [25] (by decide +kernel) (by decide +kernel)
set_option maxRecDepth 20000 in
theorem gX12_gale_X12_has : GoodIn wsX12_gale (va_wsS RX12 55 yX12_has wsX12_has) := goodIn_app (goodIn_of _ (by decide +kernel)) ggX12_gale_X12_has
theorem dX12_gale_0 : decode cX12_gale 0 = .ok (.iload_n 1, 1) := by decide +kernel
theorem dX12_gale_1 : decode cX12_gale 1 = .ok (.invokestatic 70, 3) := by decide +kernel
theorem dX12_gale_4 : decode cX12_gale 4 = .ok (.ifCond .ne 7, 3) := by decide +kernel
theorem dX12_gale_7 : decode cX12_gale 7 = .ok (.ldc2_w 160, 3) := by decide +kernel
theorem dX12_gale_10 : decode cX12_gale 10 = .ok (.lreturn, 1) := by decide +kernel
theorem dX12_gale_11 : decode cX12_gale 11 = .ok (.iload_n 2, 1) := by decide +kernel
theorem dX12_gale_12 : decode cX12_gale 12 = .ok (.iconst 0, 1) := by decide +kernel
theorem dX12_gale_13 : decode cX12_gale 13 = .ok (.iconst 1, 1) := by decide +kernel
theorem dX12_gale_14 : decode cX12_gale 14 = .ok (.invokestatic 38, 3) := by decide +kernel
theorem dX12_gale_17 : decode cX12_gale 17 = .ok (.ifCond .eq 12, 3) := by decide +kernel
theorem dX12_gale_20 : decode cX12_gale 20 = .ok (.iload_n 3, 1) := by decide +kernel
theorem dX12_gale_21 : decode cX12_gale 21 = .ok (.iconst 0, 1) := by decide +kernel
theorem dX12_gale_22 : decode cX12_gale 22 = .ok (.iconst 1, 1) := by decide +kernel
theorem dX12_gale_23 : decode cX12_gale 23 = .ok (.invokestatic 38, 3) := by decide +kernel
theorem dX12_gale_26 : decode cX12_gale 26 = .ok (.ifCond .ne 7, 3) := by decide +kernel
theorem dX12_gale_29 : decode cX12_gale 29 = .ok (.ldc2_w 162, 3) := by decide +kernel
theorem dX12_gale_32 : decode cX12_gale 32 = .ok (.lreturn, 1) := by decide +kernel
theorem dX12_gale_33 : decode cX12_gale 33 = .ok (.lconst 0, 1) := by decide +kernel
theorem dX12_gale_34 : decode cX12_gale 34 = .ok (.lstore 4, 2) := by decide +kernel
theorem dX12_gale_36 : decode cX12_gale 36 = .ok (.iconst 0, 1) := by decide +kernel
theorem dX12_gale_37 : decode cX12_gale 37 = .ok (.istore 6, 2) := by decide +kernel
theorem dX12_gale_39 : decode cX12_gale 39 = .ok (.iload 6, 2) := by decide +kernel
theorem dX12_gale_41 : decode cX12_gale 41 = .ok (.sipush 216, 3) := by decide +kernel
theorem dX12_gale_44 : decode cX12_gale 44 = .ok (.if_icmp .ge 88, 3) := by decide +kernel
theorem dX12_gale_47 : decode cX12_gale 47 = .ok (.aload_n 0, 1) := by decide +kernel
theorem dX12_gale_48 : decode cX12_gale 48 = .ok (.getfield 13, 3) := by decide +kernel
theorem dX12_gale_51 : decode cX12_gale 51 = .ok (.bipush 48, 2) := by decide +kernel
theorem dX12_gale_53 : decode cX12_gale 53 = .ok (.iload 6, 2) := by decide +kernel
theorem dX12_gale_55 : decode cX12_gale 55 = .ok (.bipush 18, 2) := by decide +kernel
theorem dX12_gale_57 : decode cX12_gale 57 = .ok (.idiv, 1) := by decide +kernel
theorem dX12_gale_58 : decode cX12_gale 58 = .ok (.iastore, 1) := by decide +kernel
theorem dX12_gale_59 : decode cX12_gale 59 = .ok (.aload_n 0, 1) := by decide +kernel
theorem dX12_gale_60 : decode cX12_gale 60 = .ok (.getfield 13, 3) := by decide +kernel
theorem dX12_gale_63 : decode cX12_gale 63 = .ok (.bipush 49, 2) := by decide +kernel
theorem dX12_gale_65 : decode cX12_gale 65 = .ok (.iload 6, 2) := by decide +kernel
theorem dX12_gale_67 : decode cX12_gale 67 = .ok (.bipush 9, 2) := by decide +kernel
theorem dX12_gale_69 : decode cX12_gale 69 = .ok (.idiv, 1) := by decide +kernel
theorem dX12_gale_70 : decode cX12_gale 70 = .ok (.iconst 2, 1) := by decide +kernel
theorem dX12_gale_71 : decode cX12_gale 71 = .ok (.irem, 1) := by decide +kernel
theorem dX12_gale_72 : decode cX12_gale 72 = .ok (.iastore, 1) := by decide +kernel
theorem dX12_gale_73 : decode cX12_gale 73 = .ok (.aload_n 0, 1) := by decide +kernel
theorem dX12_gale_74 : decode cX12_gale 74 = .ok (.getfield 13, 3) := by decide +kernel
theorem dX12_gale_77 : decode cX12_gale 77 = .ok (.bipush 50, 2) := by decide +kernel
theorem dX12_gale_79 : decode cX12_gale 79 = .ok (.iconst 1, 1) := by decide +kernel
theorem dX12_gale_80 : decode cX12_gale 80 = .ok (.iload 6, 2) := by decide +kernel
theorem dX12_gale_82 : decode cX12_gale 82 = .ok (.bipush 9, 2) := by decide +kernel
theorem dX12_gale_84 : decode cX12_gale 84 = .ok (.irem, 1) := by decide +kernel
theorem dX12_gale_85 : decode cX12_gale 85 = .ok (.iadd, 1) := by decide +kernel
theorem dX12_gale_86 : decode cX12_gale 86 = .ok (.iastore, 1) := by decide +kernel
theorem dX12_gale_87 : decode cX12_gale 87 = .ok (.aload_n 0, 1) := by decide +kernel
theorem dX12_gale_88 : decode cX12_gale 88 = .ok (.invokevirtual 141, 3) := by decide +kernel
theorem dX12_gale_91 : decode cX12_gale 91 = .ok (.istore 7, 2) := by decide +kernel
theorem dX12_gale_93 : decode cX12_gale 93 = .ok (.lload 4, 2) := by decide +kernel
theorem dX12_gale_95 : decode cX12_gale 95 = .ok (.iload_n 2, 1) := by decide +kernel
theorem dX12_gale_96 : decode cX12_gale 96 = .ok (.iconst 1, 1) := by decide +kernel
theorem dX12_gale_97 : decode cX12_gale 97 = .ok (.if_icmp .ne 12, 3) := by decide +kernel
theorem dX12_gale_100 : decode cX12_gale 100 = .ok (.iload 7, 2) := by decide +kernel
theorem dX12_gale_102 : decode cX12_gale 102 = .ok (.invokestatic 84, 3) := by decide +kernel
theorem dX12_gale_105 : decode cX12_gale 105 = .ok (.i2l, 1) := by decide +kernel
theorem dX12_gale_106 : decode cX12_gale 106 = .ok (.goto 17, 3) := by decide +kernel
theorem dX12_gale_109 : decode cX12_gale 109 = .ok (.iload 7, 2) := by decide +kernel
theorem dX12_gale_111 : decode cX12_gale 111 = .ok (.iload_n 1, 1) := by decide +kernel
theorem dX12_gale_112 : decode cX12_gale 112 = .ok (.invokestatic 55, 3) := by decide +kernel
theorem dX12_gale_115 : decode cX12_gale 115 = .ok (.ifCond .eq 7, 3) := by decide +kernel
theorem dX12_gale_118 : decode cX12_gale 118 = .ok (.lconst 1, 1) := by decide +kernel
theorem dX12_gale_119 : decode cX12_gale 119 = .ok (.goto 4, 3) := by decide +kernel
theorem dX12_gale_122 : decode cX12_gale 122 = .ok (.lconst 0, 1) := by decide +kernel
theorem dX12_gale_123 : decode cX12_gale 123 = .ok (.ladd, 1) := by decide +kernel
theorem dX12_gale_124 : decode cX12_gale 124 = .ok (.lstore 4, 2) := by decide +kernel
theorem dX12_gale_126 : decode cX12_gale 126 = .ok (.iinc 6 1, 3) := by decide +kernel
theorem dX12_gale_129 : decode cX12_gale 129 = .ok (.goto (-90), 3) := by decide +kernel
theorem dX12_gale_132 : decode cX12_gale 132 = .ok (.lload 4, 2) := by decide +kernel
theorem dX12_gale_134 : decode cX12_gale 134 = .ok (.lstore 6, 2) := by decide +kernel
theorem dX12_gale_136 : decode cX12_gale 136 = .ok (.ldc2_w 164, 3) := by decide +kernel
theorem dX12_gale_139 : decode cX12_gale 139 = .ok (.lstore 8, 2) := by decide +kernel
theorem dX12_gale_141 : decode cX12_gale 141 = .ok (.lload 8, 2) := by decide +kernel
theorem dX12_gale_143 : decode cX12_gale 143 = .ok (.lconst 0, 1) := by decide +kernel
theorem dX12_gale_144 : decode cX12_gale 144 = .ok (.lcmp, 1) := by decide +kernel
theorem dX12_gale_145 : decode cX12_gale 145 = .ok (.ifCond .eq 21, 3) := by decide +kernel
theorem dX12_gale_148 : decode cX12_gale 148 = .ok (.lload 6, 2) := by decide +kernel
theorem dX12_gale_150 : decode cX12_gale 150 = .ok (.lload 8, 2) := by decide +kernel
theorem dX12_gale_152 : decode cX12_gale 152 = .ok (.lrem, 1) := by decide +kernel
theorem dX12_gale_153 : decode cX12_gale 153 = .ok (.lstore 10, 2) := by decide +kernel
theorem dX12_gale_155 : decode cX12_gale 155 = .ok (.lload 8, 2) := by decide +kernel
theorem dX12_gale_157 : decode cX12_gale 157 = .ok (.lstore 6, 2) := by decide +kernel
theorem dX12_gale_159 : decode cX12_gale 159 = .ok (.lload 10, 2) := by decide +kernel
theorem dX12_gale_161 : decode cX12_gale 161 = .ok (.lstore 8, 2) := by decide +kernel
theorem dX12_gale_163 : decode cX12_gale 163 = .ok (.goto (-22), 3) := by decide +kernel
theorem dX12_gale_166 : decode cX12_gale 166 = .ok (.iload_n 3, 1) := by decide +kernel
theorem dX12_gale_167 : decode cX12_gale 167 = .ok (.ifCond .ne 11, 3) := by decide +kernel
theorem dX12_gale_170 : decode cX12_gale 170 = .ok (.lload 4, 2) := by decide +kernel
theorem dX12_gale_172 : decode cX12_gale 172 = .ok (.lload 6, 2) := by decide +kernel
theorem dX12_gale_174 : decode cX12_gale 174 = .ok (.ldiv, 1) := by decide +kernel
theorem dX12_gale_175 : decode cX12_gale 175 = .ok (.goto 9, 3) := by decide +kernel
theorem dX12_gale_178 : decode cX12_gale 178 = .ok (.ldc2_w 164, 3) := by decide +kernel
theorem dX12_gale_181 : decode cX12_gale 181 = .ok (.lload 6, 2) := by decide +kernel
theorem dX12_gale_183 : decode cX12_gale 183 = .ok (.ldiv, 1) := by decide +kernel
theorem dX12_gale_184 : decode cX12_gale 184 = .ok (.lreturn, 1) := by decide +kernel
set_option maxRecDepth 20000 in
theorem ggX12_year_X12_in : GoodIn wsX12_year wsX12_in := goodIn_r _ [8] (by decide +kernel) (by decide +kernel)
set_option maxRecDepth 20000 in
theorem gX12_year_X12_in : GoodIn wsX12_year (va_wsS RX12 38 yX12_in wsX12_in) := goodIn_app (goodIn_of _ (by decide +kernel)) ggX12_year_X12_in
set_option maxRecDepth 20000 in
theorem ggX12_year_X12_asNow : GoodIn wsX12_year wsX12_asNow := goodIn_r _ [12, 3, 13, 4, 14, 15, 16, 82, 83, 84, 85, 86, 87, 88, 89, 90, 91, 92, 93, 94, 95, 96, 97, 98] (by decide +kernel) (by decide +kernel)
set_option maxRecDepth 20000 in
theorem gX12_year_X12_asNow : GoodIn wsX12_year (wsV RX12 114 RX12 yX12_asNow wsX12_asNow) := goodIn_app (goodIn_of _ (by decide +kernel)) ggX12_year_X12_asNow
set_option maxRecDepth 20000 in
theorem ggX12_year_X12_walk : GoodIn wsX12_year wsX12_walk := goodIn_r _ [20, 3, 21, 22, 23, 7, 24, 25, 26, 27, 5, 6, 8, 82, 83, 84, 85, 86, 87, 88, 89, 90, 91, 92, 93, 94, 95, 96, 97, 98] (by decide +kernel) (by decide +kernel)
set_option maxRecDepth 20000 in
theorem gX12_year_X12_walk : GoodIn wsX12_year (wsV RX12 96 RX12 yX12_walk wsX12_walk) := goodIn_app (goodIn_of _ (by decide +kernel)) ggX12_year_X12_walk
set_option maxRecDepth 20000 in
theorem ggX12_year_X12_state : GoodIn wsX12_year wsX12_state := goodIn_r _ [31, 3, 82, 83, 84, 85, 86, 87, 88, 89, 90, 91, 92, 93, 94, 95, 96, 97, 98] (by decide +kernel) (by decide +kernel)
set_option maxRecDepth 20000 in
theorem gX12_year_X12_state : GoodIn wsX12_year (wsV RX12 111 RX12 yX12_state wsX12_state) := goodIn_app (goodIn_of _ (by decide +kernel)) ggX12_year_X12_state
set_option maxRecDepth 20000 in
theorem ggX12_year_X12_pay : GoodIn wsX12_year wsX12_pay := goodIn_r _ [35, 3, 82, 83, 84, 85, 86, 87, 88, 89, 90, 91, 92, 93, 94, 95, 96, 97, 98] (by decide +kernel) (by decide +kernel)
set_option maxRecDepth 20000 in
theorem gX12_year_X12_pay : GoodIn wsX12_year (wsV RX12 99 RX12 yX12_pay wsX12_pay) := goodIn_app (goodIn_of _ (by decide +kernel)) ggX12_year_X12_pay
set_option maxRecDepth 20000 in
theorem ggX12_year_X12_putOn : GoodIn wsX12_year wsX12_putOn := goodIn_r _ [39, 3, 21, 22, 23, 7, 24, 82, 83, 84, 85, 86, 87, 88, 89, 90, 91, 92, 93, 94, 95, 96, 97, 98] (by decide +kernel) (by decide +kernel)
set_option maxRecDepth 20000 in
theorem gX12_year_X12_putOn : GoodIn wsX12_year (wsV RX12 102 RX12 yX12_putOn wsX12_putOn) := goodIn_app (goodIn_of _ (by decide +kernel)) ggX12_year_X12_putOn
set_option maxRecDepth 20000 in
theorem ggX12_year_X12_hold : GoodIn wsX12_year wsX12_hold := goodIn_r _ [43, 3, 21, 22, 23, 7, 24, 82, 83, 84, 85, 86, 87, 88, 89, 90, 91, 92, 93, 94, 95, 96, 97, 98] (by decide +kernel) (by decide +kernel)
set_option maxRecDepth 20000 in
theorem gX12_year_X12_hold : GoodIn wsX12_year (wsV RX12 105 RX12 yX12_hold wsX12_hold) := goodIn_app (goodIn_of _ (by decide +kernel)) ggX12_year_X12_hold
set_option maxRecDepth 20000 in
theorem ggX12_year_X12_letGo : GoodIn wsX12_year wsX12_letGo := goodIn_r _ [47, 3, 82, 83, 84, 85, 86, 87, 88, 89, 90, 91, 92, 93, 94, 95, 96, 97, 98] (by decide +kernel) (by decide +kernel)
set_option maxRecDepth 20000 in
theorem gX12_year_X12_letGo : GoodIn wsX12_year (wsV RX12 108 RX12 yX12_letGo wsX12_letGo) := goodIn_app (goodIn_of _ (by decide +kernel)) ggX12_year_X12_letGo
set_option maxRecDepth 20000 in
theorem ggX12_year_X12_gust : GoodIn wsX12_year wsX12_gust := goodIn_r _ [51, 3, 82, 83, 84, 85, 86, 87, 88, 89, 90, 91, 92, 93, 94, 95, 96, 97, 98] (by decide +kernel) (by decide +kernel)
set_option maxRecDepth 20000 in
theorem gX12_year_X12_gust : GoodIn wsX12_year (wsV RX12 120 RX12 yX12_gust wsX12_gust) := goodIn_app (goodIn_of _ (by decide +kernel)) ggX12_year_X12_gust
set_option maxRecDepth 20000 in
theorem ggX12_year_X12_endHour : GoodIn wsX12_year wsX12_endHour := goodIn_r _ [55, 3, 4, 16, 56, 57, 58, 7, 59, 60, 61, 62, 63, 64, 65, 66, 25, 26, 27, 5, 6, 8, 67, 68, 69, 70, 71, 72, 73, 74, 75, 76, 77, 21, 22, 23, 24, 82, 83, 84, 85, 86, 87, 88, 89, 90, 91, 92, 93, 94, 95, 96, 97, 98] (by decide +kernel) (by decide +kernel)
set_option maxRecDepth 20000 in
theorem gX12_year_X12_endHour : GoodIn wsX12_year (wsV RX12 123 RX12 yX12_endHour wsX12_endHour) := goodIn_app (goodIn_of _ (by decide +kernel)) ggX12_year_X12_endHour
set_option maxRecDepth 20000 in
theorem ggX12_year_X12_offOnes : GoodIn wsX12_year wsX12_offOnes := goodIn_r _ [81, 3, 82, 83, 84, 85, 86, 87, 88, 89, 90, 91, 92, 93, 94, 95, 96, 97, 98] (by decide +kernel) (by decide +kernel)
set_option maxRecDepth 20000 in
theorem gX12_year_X12_offOnes : GoodIn wsX12_year (wsV RX12 167 RX12 yX12_offOnes wsX12_offOnes) := goodIn_app (goodIn_of _ (by decide +kernel)) ggX12_year_X12_offOnes
theorem dX12_year_0 : decode cX12_year 0 = .ok (.iload_n 1, 1) := by decide +kernel
theorem dX12_year_1 : decode cX12_year 1 = .ok (.iconst 0, 1) := by decide +kernel
theorem dX12_year_2 : decode cX12_year 2 = .ok (.sipush 9999, 3) := by decide +kernel
theorem dX12_year_5 : decode cX12_year 5 = .ok (.invokestatic 38, 3) := by decide +kernel
theorem dX12_year_8 : decode cX12_year 8 = .ok (.ifCond .eq 22, 3) := by decide +kernel
theorem dX12_year_11 : decode cX12_year 11 = .ok (.iload_n 2, 1) := by decide +kernel
theorem dX12_year_12 : decode cX12_year 12 = .ok (.iconst 1, 1) := by decide +kernel
theorem dX12_year_13 : decode cX12_year 13 = .ok (.bipush 99, 2) := by decide +kernel
theorem dX12_year_15 : decode cX12_year 15 = .ok (.invokestatic 38, 3) := by decide +kernel
theorem dX12_year_18 : decode cX12_year 18 = .ok (.ifCond .eq 12, 3) := by decide +kernel
theorem dX12_year_21 : decode cX12_year 21 = .ok (.iload_n 3, 1) := by decide +kernel
theorem dX12_year_22 : decode cX12_year 22 = .ok (.iconst 0, 1) := by decide +kernel
theorem dX12_year_23 : decode cX12_year 23 = .ok (.iconst 2, 1) := by decide +kernel
theorem dX12_year_24 : decode cX12_year 24 = .ok (.invokestatic 38, 3) := by decide +kernel
theorem dX12_year_27 : decode cX12_year 27 = .ok (.ifCond .ne 6, 3) := by decide +kernel
theorem dX12_year_30 : decode cX12_year 30 = .ok (.bipush (-2), 2) := by decide +kernel
theorem dX12_year_32 : decode cX12_year 32 = .ok (.ireturn, 1) := by decide +kernel
theorem dX12_year_33 : decode cX12_year 33 = .ok (.aload_n 0, 1) := by decide +kernel
theorem dX12_year_34 : decode cX12_year 34 = .ok (.invokevirtual 114, 3) := by decide +kernel
theorem dX12_year_37 : decode cX12_year 37 = .ok (.iload_n 1, 1) := by decide +kernel
theorem dX12_year_38 : decode cX12_year 38 = .ok (.istore 4, 2) := by decide +kernel
theorem dX12_year_40 : decode cX12_year 40 = .ok (.iconst 0, 1) := by decide +kernel
theorem dX12_year_41 : decode cX12_year 41 = .ok (.istore 5, 2) := by decide +kernel
theorem dX12_year_43 : decode cX12_year 43 = .ok (.iload 5, 2) := by decide +kernel
theorem dX12_year_45 : decode cX12_year 45 = .ok (.iload_n 2, 1) := by decide +kernel
theorem dX12_year_46 : decode cX12_year 46 = .ok (.if_icmp .ge 234, 3) := by decide +kernel
theorem dX12_year_49 : decode cX12_year 49 = .ok (.bipush 75, 2) := by decide +kernel
theorem dX12_year_51 : decode cX12_year 51 = .ok (.iload 4, 2) := by decide +kernel
theorem dX12_year_53 : decode cX12_year 53 = .ok (.imul, 1) := by decide +kernel
theorem dX12_year_54 : decode cX12_year 54 = .ok (.bipush 74, 2) := by decide +kernel
theorem dX12_year_56 : decode cX12_year 56 = .ok (.iadd, 1) := by decide +kernel
theorem dX12_year_57 : decode cX12_year 57 = .ok (.ldc 166, 2) := by decide +kernel
theorem dX12_year_59 : decode cX12_year 59 = .ok (.irem, 1) := by decide +kernel
theorem dX12_year_60 : decode cX12_year 60 = .ok (.istore 4, 2) := by decide +kernel
theorem dX12_year_62 : decode cX12_year 62 = .ok (.iload 4, 2) := by decide +kernel
theorem dX12_year_64 : decode cX12_year 64 = .ok (.bipush 6, 2) := by decide +kernel
theorem dX12_year_66 : decode cX12_year 66 = .ok (.irem, 1) := by decide +kernel
theorem dX12_year_67 : decode cX12_year 67 = .ok (.istore 6, 2) := by decide +kernel
theorem dX12_year_69 : decode cX12_year 69 = .ok (.iload 4, 2) := by decide +kernel
theorem dX12_year_71 : decode cX12_year 71 = .ok (.bipush 48, 2) := by decide +kernel
theorem dX12_year_73 : decode cX12_year 73 = .ok (.idiv, 1) := by decide +kernel
theorem dX12_year_74 : decode cX12_year 74 = .ok (.istore 7, 2) := by decide +kernel
theorem dX12_year_76 : decode cX12_year 76 = .ok (.iload 4, 2) := by decide +kernel
theorem dX12_year_78 : decode cX12_year 78 = .ok (.bipush 6, 2) := by decide +kernel
theorem dX12_year_80 : decode cX12_year 80 = .ok (.idiv, 1) := by decide +kernel
theorem dX12_year_81 : decode cX12_year 81 = .ok (.bipush 8, 2) := by decide +kernel
theorem dX12_year_83 : decode cX12_year 83 = .ok (.irem, 1) := by decide +kernel
theorem dX12_year_84 : decode cX12_year 84 = .ok (.tableswitch 182 0 6 #[44, 58, 72, 90, 107, 120, 157], 44) := by decide +kernel
theorem dX12_year_128 : decode cX12_year 128 = .ok (.aload_n 0, 1) := by decide +kernel
theorem dX12_year_129 : decode cX12_year 129 = .ok (.aload_n 0, 1) := by decide +kernel
theorem dX12_year_130 : decode cX12_year 130 = .ok (.iload 6, 2) := by decide +kernel
theorem dX12_year_132 : decode cX12_year 132 = .ok (.iconst 1, 1) := by decide +kernel
theorem dX12_year_133 : decode cX12_year 133 = .ok (.invokevirtual 96, 3) := by decide +kernel
theorem dX12_year_136 : decode cX12_year 136 = .ok (.putfield 129, 3) := by decide +kernel
theorem dX12_year_139 : decode cX12_year 139 = .ok (.goto 135, 3) := by decide +kernel
theorem dX12_year_142 : decode cX12_year 142 = .ok (.aload_n 0, 1) := by decide +kernel
theorem dX12_year_143 : decode cX12_year 143 = .ok (.aload_n 0, 1) := by decide +kernel
theorem dX12_year_144 : decode cX12_year 144 = .ok (.iload 6, 2) := by decide +kernel
theorem dX12_year_146 : decode cX12_year 146 = .ok (.iconst (-1), 1) := by decide +kernel
theorem dX12_year_147 : decode cX12_year 147 = .ok (.invokevirtual 96, 3) := by decide +kernel
theorem dX12_year_150 : decode cX12_year 150 = .ok (.putfield 129, 3) := by decide +kernel
theorem dX12_year_153 : decode cX12_year 153 = .ok (.goto 121, 3) := by decide +kernel
theorem dX12_year_156 : decode cX12_year 156 = .ok (.aload_n 0, 1) := by decide +kernel
theorem dX12_year_157 : decode cX12_year 157 = .ok (.aload_n 0, 1) := by decide +kernel
theorem dX12_year_158 : decode cX12_year 158 = .ok (.iload 6, 2) := by decide +kernel
theorem dX12_year_160 : decode cX12_year 160 = .ok (.iload 7, 2) := by decide +kernel
theorem dX12_year_162 : decode cX12_year 162 = .ok (.bipush 8, 2) := by decide +kernel
theorem dX12_year_164 : decode cX12_year 164 = .ok (.irem, 1) := by decide +kernel
theorem dX12_year_165 : decode cX12_year 165 = .ok (.invokevirtual 111, 3) := by decide +kernel
theorem dX12_year_168 : decode cX12_year 168 = .ok (.putfield 129, 3) := by decide +kernel
theorem dX12_year_171 : decode cX12_year 171 = .ok (.goto 103, 3) := by decide +kernel
theorem dX12_year_174 : decode cX12_year 174 = .ok (.aload_n 0, 1) := by decide +kernel
theorem dX12_year_175 : decode cX12_year 175 = .ok (.aload_n 0, 1) := by decide +kernel
theorem dX12_year_176 : decode cX12_year 176 = .ok (.iload 6, 2) := by decide +kernel
theorem dX12_year_178 : decode cX12_year 178 = .ok (.iload 7, 2) := by decide +kernel
theorem dX12_year_180 : decode cX12_year 180 = .ok (.iconst 3, 1) := by decide +kernel
theorem dX12_year_181 : decode cX12_year 181 = .ok (.irem, 1) := by decide +kernel
theorem dX12_year_182 : decode cX12_year 182 = .ok (.invokevirtual 99, 3) := by decide +kernel
theorem dX12_year_185 : decode cX12_year 185 = .ok (.putfield 129, 3) := by decide +kernel
theorem dX12_year_188 : decode cX12_year 188 = .ok (.goto 86, 3) := by decide +kernel
theorem dX12_year_191 : decode cX12_year 191 = .ok (.aload_n 0, 1) := by decide +kernel
theorem dX12_year_192 : decode cX12_year 192 = .ok (.aload_n 0, 1) := by decide +kernel
theorem dX12_year_193 : decode cX12_year 193 = .ok (.iload 6, 2) := by decide +kernel
theorem dX12_year_195 : decode cX12_year 195 = .ok (.invokevirtual 102, 3) := by decide +kernel
theorem dX12_year_198 : decode cX12_year 198 = .ok (.putfield 129, 3) := by decide +kernel
theorem dX12_year_201 : decode cX12_year 201 = .ok (.goto 73, 3) := by decide +kernel
theorem dX12_year_204 : decode cX12_year 204 = .ok (.aload_n 0, 1) := by decide +kernel
theorem dX12_year_205 : decode cX12_year 205 = .ok (.iload 7, 2) := by decide +kernel
theorem dX12_year_207 : decode cX12_year 207 = .ok (.bipush 6, 2) := by decide +kernel
theorem dX12_year_209 : decode cX12_year 209 = .ok (.idiv, 1) := by decide +kernel
theorem dX12_year_210 : decode cX12_year 210 = .ok (.iconst 2, 1) := by decide +kernel
theorem dX12_year_211 : decode cX12_year 211 = .ok (.irem, 1) := by decide +kernel
theorem dX12_year_212 : decode cX12_year 212 = .ok (.ifCond .ne 17, 3) := by decide +kernel
theorem dX12_year_215 : decode cX12_year 215 = .ok (.aload_n 0, 1) := by decide +kernel
theorem dX12_year_216 : decode cX12_year 216 = .ok (.iload 6, 2) := by decide +kernel
theorem dX12_year_218 : decode cX12_year 218 = .ok (.iload 7, 2) := by decide +kernel
theorem dX12_year_220 : decode cX12_year 220 = .ok (.bipush 6, 2) := by decide +kernel
theorem dX12_year_222 : decode cX12_year 222 = .ok (.irem, 1) := by decide +kernel
theorem dX12_year_223 : decode cX12_year 223 = .ok (.invokevirtual 105, 3) := by decide +kernel
theorem dX12_year_226 : decode cX12_year 226 = .ok (.goto 9, 3) := by decide +kernel
theorem dX12_year_229 : decode cX12_year 229 = .ok (.aload_n 0, 1) := by decide +kernel
theorem dX12_year_230 : decode cX12_year 230 = .ok (.iload 6, 2) := by decide +kernel
theorem dX12_year_232 : decode cX12_year 232 = .ok (.invokevirtual 108, 3) := by decide +kernel
theorem dX12_year_235 : decode cX12_year 235 = .ok (.putfield 129, 3) := by decide +kernel
theorem dX12_year_238 : decode cX12_year 238 = .ok (.goto 36, 3) := by decide +kernel
theorem dX12_year_241 : decode cX12_year 241 = .ok (.aload_n 0, 1) := by decide +kernel
theorem dX12_year_242 : decode cX12_year 242 = .ok (.iload 7, 2) := by decide +kernel
theorem dX12_year_244 : decode cX12_year 244 = .ok (.iconst 4, 1) := by decide +kernel
theorem dX12_year_245 : decode cX12_year 245 = .ok (.irem, 1) := by decide +kernel
theorem dX12_year_246 : decode cX12_year 246 = .ok (.ifCond .ne 10, 3) := by decide +kernel
theorem dX12_year_249 : decode cX12_year 249 = .ok (.aload_n 0, 1) := by decide +kernel
theorem dX12_year_250 : decode cX12_year 250 = .ok (.invokevirtual 120, 3) := by decide +kernel
theorem dX12_year_253 : decode cX12_year 253 = .ok (.goto 7, 3) := by decide +kernel
theorem dX12_year_256 : decode cX12_year 256 = .ok (.aload_n 0, 1) := by decide +kernel
theorem dX12_year_257 : decode cX12_year 257 = .ok (.invokevirtual 123, 3) := by decide +kernel
theorem dX12_year_260 : decode cX12_year 260 = .ok (.putfield 129, 3) := by decide +kernel
theorem dX12_year_263 : decode cX12_year 263 = .ok (.goto 11, 3) := by decide +kernel
theorem dX12_year_266 : decode cX12_year 266 = .ok (.aload_n 0, 1) := by decide +kernel
theorem dX12_year_267 : decode cX12_year 267 = .ok (.aload_n 0, 1) := by decide +kernel
theorem dX12_year_268 : decode cX12_year 268 = .ok (.invokevirtual 123, 3) := by decide +kernel
theorem dX12_year_271 : decode cX12_year 271 = .ok (.putfield 129, 3) := by decide +kernel
theorem dX12_year_274 : decode cX12_year 274 = .ok (.iinc 5 1, 3) := by decide +kernel
theorem dX12_year_277 : decode cX12_year 277 = .ok (.goto (-234), 3) := by decide +kernel
theorem dX12_year_280 : decode cX12_year 280 = .ok (.iconst 0, 1) := by decide +kernel
theorem dX12_year_281 : decode cX12_year 281 = .ok (.istore 5, 2) := by decide +kernel
theorem dX12_year_283 : decode cX12_year 283 = .ok (.iconst 0, 1) := by decide +kernel
theorem dX12_year_284 : decode cX12_year 284 = .ok (.istore 6, 2) := by decide +kernel
theorem dX12_year_286 : decode cX12_year 286 = .ok (.iload 6, 2) := by decide +kernel
theorem dX12_year_288 : decode cX12_year 288 = .ok (.bipush 6, 2) := by decide +kernel
theorem dX12_year_290 : decode cX12_year 290 = .ok (.if_icmp .ge 24, 3) := by decide +kernel
theorem dX12_year_293 : decode cX12_year 293 = .ok (.iload 5, 2) := by decide +kernel
theorem dX12_year_295 : decode cX12_year 295 = .ok (.aload_n 0, 1) := by decide +kernel
theorem dX12_year_296 : decode cX12_year 296 = .ok (.getfield 13, 3) := by decide +kernel
theorem dX12_year_299 : decode cX12_year 299 = .ok (.bipush 12, 2) := by decide +kernel
theorem dX12_year_301 : decode cX12_year 301 = .ok (.iload 6, 2) := by decide +kernel
theorem dX12_year_303 : decode cX12_year 303 = .ok (.iadd, 1) := by decide +kernel
theorem dX12_year_304 : decode cX12_year 304 = .ok (.iaload, 1) := by decide +kernel
theorem dX12_year_305 : decode cX12_year 305 = .ok (.iadd, 1) := by decide +kernel
theorem dX12_year_306 : decode cX12_year 306 = .ok (.istore 5, 2) := by decide +kernel
theorem dX12_year_308 : decode cX12_year 308 = .ok (.iinc 6 1, 3) := by decide +kernel
theorem dX12_year_311 : decode cX12_year 311 = .ok (.goto (-25), 3) := by decide +kernel
theorem dX12_year_314 : decode cX12_year 314 = .ok (.iload_n 3, 1) := by decide +kernel
theorem dX12_year_315 : decode cX12_year 315 = .ok (.ifCond .ne 10, 3) := by decide +kernel
theorem dX12_year_318 : decode cX12_year 318 = .ok (.aload_n 0, 1) := by decide +kernel
theorem dX12_year_319 : decode cX12_year 319 = .ok (.invokevirtual 167, 3) := by decide +kernel
theorem dX12_year_322 : decode cX12_year 322 = .ok (.goto 17, 3) := by decide +kernel
theorem dX12_year_325 : decode cX12_year 325 = .ok (.iload_n 3, 1) := by decide +kernel
theorem dX12_year_326 : decode cX12_year 326 = .ok (.iconst 1, 1) := by decide +kernel
theorem dX12_year_327 : decode cX12_year 327 = .ok (.if_icmp .ne 8, 3) := by decide +kernel
theorem dX12_year_330 : decode cX12_year 330 = .ok (.iload 5, 2) := by decide +kernel
theorem dX12_year_332 : decode cX12_year 332 = .ok (.goto 7, 3) := by decide +kernel
theorem dX12_year_335 : decode cX12_year 335 = .ok (.aload_n 0, 1) := by decide +kernel
theorem dX12_year_336 : decode cX12_year 336 = .ok (.getfield 42, 3) := by decide +kernel
theorem dX12_year_339 : decode cX12_year 339 = .ok (.ireturn, 1) := by decide +kernel
theorem dX12_offOnes_0 : decode cX12_offOnes 0 = .ok (.iconst 0, 1) := by decide +kernel
theorem dX12_offOnes_1 : decode cX12_offOnes 1 = .ok (.istore_n 1, 1) := by decide +kernel
theorem dX12_offOnes_2 : decode cX12_offOnes 2 = .ok (.iconst 0, 1) := by decide +kernel
theorem dX12_offOnes_3 : decode cX12_offOnes 3 = .ok (.istore_n 2, 1) := by decide +kernel
theorem dX12_offOnes_4 : decode cX12_offOnes 4 = .ok (.iload_n 2, 1) := by decide +kernel
theorem dX12_offOnes_5 : decode cX12_offOnes 5 = .ok (.bipush 6, 2) := by decide +kernel
theorem dX12_offOnes_7 : decode cX12_offOnes 7 = .ok (.if_icmp .ge 31, 3) := by decide +kernel
theorem dX12_offOnes_10 : decode cX12_offOnes 10 = .ok (.iload_n 1, 1) := by decide +kernel
theorem dX12_offOnes_11 : decode cX12_offOnes 11 = .ok (.aload_n 0, 1) := by decide +kernel
theorem dX12_offOnes_12 : decode cX12_offOnes 12 = .ok (.getfield 13, 3) := by decide +kernel
theorem dX12_offOnes_15 : decode cX12_offOnes 15 = .ok (.bipush 24, 2) := by decide +kernel
theorem dX12_offOnes_17 : decode cX12_offOnes 17 = .ok (.iload_n 2, 1) := by decide +kernel
theorem dX12_offOnes_18 : decode cX12_offOnes 18 = .ok (.iadd, 1) := by decide +kernel
theorem dX12_offOnes_19 : decode cX12_offOnes 19 = .ok (.iaload, 1) := by decide +kernel
theorem dX12_offOnes_20 : decode cX12_offOnes 20 = .ok (.ifCond .lt 9, 3) := by decide +kernel
theorem dX12_offOnes_23 : decode cX12_offOnes 23 = .ok (.iconst 1, 1) := by decide +kernel
theorem dX12_offOnes_24 : decode cX12_offOnes 24 = .ok (.iload_n 2, 1) := by decide +kernel
theorem dX12_offOnes_25 : decode cX12_offOnes 25 = .ok (.ishl, 1) := by decide +kernel
theorem dX12_offOnes_26 : decode cX12_offOnes 26 = .ok (.goto 4, 3) := by decide +kernel
theorem dX12_offOnes_29 : decode cX12_offOnes 29 = .ok (.iconst 0, 1) := by decide +kernel
theorem dX12_offOnes_30 : decode cX12_offOnes 30 = .ok (.ior, 1) := by decide +kernel
theorem dX12_offOnes_31 : decode cX12_offOnes 31 = .ok (.istore_n 1, 1) := by decide +kernel
theorem dX12_offOnes_32 : decode cX12_offOnes 32 = .ok (.iinc 2 1, 3) := by decide +kernel
theorem dX12_offOnes_35 : decode cX12_offOnes 35 = .ok (.goto (-31), 3) := by decide +kernel
theorem dX12_offOnes_38 : decode cX12_offOnes 38 = .ok (.iload_n 1, 1) := by decide +kernel
theorem dX12_offOnes_39 : decode cX12_offOnes 39 = .ok (.ireturn, 1) := by decide +kernel
set_option maxRecDepth 20000 in
theorem ggX12_image_X12_in : GoodIn wsX12_image wsX12_in := goodIn_r _ [9] (by decide +kernel) (by decide +kernel)
set_option maxRecDepth 20000 in
theorem gX12_image_X12_in : GoodIn wsX12_image (va_wsS RX12 38 yX12_in wsX12_in) := goodIn_app (goodIn_of _ (by decide +kernel)) ggX12_image_X12_in
theorem dX12_image_0 : decode cX12_image 0 = .ok (.iload_n 1, 1) := by decide +kernel
theorem dX12_image_1 : decode cX12_image 1 = .ok (.iconst 0, 1) := by decide +kernel
theorem dX12_image_2 : decode cX12_image 2 = .ok (.iconst 1, 1) := by decide +kernel
theorem dX12_image_3 : decode cX12_image 3 = .ok (.invokestatic 38, 3) := by decide +kernel
theorem dX12_image_6 : decode cX12_image 6 = .ok (.ifCond .ne 6, 3) := by decide +kernel
theorem dX12_image_9 : decode cX12_image 9 = .ok (.bipush (-2), 2) := by decide +kernel
theorem dX12_image_11 : decode cX12_image 11 = .ok (.ireturn, 1) := by decide +kernel
theorem dX12_image_12 : decode cX12_image 12 = .ok (.bipush 100, 2) := by decide +kernel
theorem dX12_image_14 : decode cX12_image 14 = .ok (.iload_n 1, 1) := by decide +kernel
theorem dX12_image_15 : decode cX12_image 15 = .ok (.imul, 1) := by decide +kernel
theorem dX12_image_16 : decode cX12_image 16 = .ok (.istore_n 2, 1) := by decide +kernel
theorem dX12_image_17 : decode cX12_image 17 = .ok (.iconst 0, 1) := by decide +kernel
theorem dX12_image_18 : decode cX12_image 18 = .ok (.istore_n 3, 1) := by decide +kernel
theorem dX12_image_19 : decode cX12_image 19 = .ok (.iload_n 3, 1) := by decide +kernel
theorem dX12_image_20 : decode cX12_image 20 = .ok (.bipush 56, 2) := by decide +kernel
theorem dX12_image_22 : decode cX12_image 22 = .ok (.if_icmp .ge 23, 3) := by decide +kernel
theorem dX12_image_25 : decode cX12_image 25 = .ok (.aload_n 0, 1) := by decide +kernel
theorem dX12_image_26 : decode cX12_image 26 = .ok (.getfield 32, 3) := by decide +kernel
theorem dX12_image_29 : decode cX12_image 29 = .ok (.iload_n 2, 1) := by decide +kernel
theorem dX12_image_30 : decode cX12_image 30 = .ok (.iload_n 3, 1) := by decide +kernel
theorem dX12_image_31 : decode cX12_image 31 = .ok (.iadd, 1) := by decide +kernel
theorem dX12_image_32 : decode cX12_image 32 = .ok (.aload_n 0, 1) := by decide +kernel
theorem dX12_image_33 : decode cX12_image 33 = .ok (.getfield 7, 3) := by decide +kernel
theorem dX12_image_36 : decode cX12_image 36 = .ok (.iload_n 3, 1) := by decide +kernel
theorem dX12_image_37 : decode cX12_image 37 = .ok (.iaload, 1) := by decide +kernel
theorem dX12_image_38 : decode cX12_image 38 = .ok (.iastore, 1) := by decide +kernel
theorem dX12_image_39 : decode cX12_image 39 = .ok (.iinc 3 1, 3) := by decide +kernel
theorem dX12_image_42 : decode cX12_image 42 = .ok (.goto (-23), 3) := by decide +kernel
theorem dX12_image_45 : decode cX12_image 45 = .ok (.iconst 0, 1) := by decide +kernel
theorem dX12_image_46 : decode cX12_image 46 = .ok (.istore_n 3, 1) := by decide +kernel
theorem dX12_image_47 : decode cX12_image 47 = .ok (.iload_n 3, 1) := by decide +kernel
theorem dX12_image_48 : decode cX12_image 48 = .ok (.bipush 40, 2) := by decide +kernel
theorem dX12_image_50 : decode cX12_image 50 = .ok (.if_icmp .ge 26, 3) := by decide +kernel
theorem dX12_image_53 : decode cX12_image 53 = .ok (.aload_n 0, 1) := by decide +kernel
theorem dX12_image_54 : decode cX12_image 54 = .ok (.getfield 32, 3) := by decide +kernel
theorem dX12_image_57 : decode cX12_image 57 = .ok (.iload_n 2, 1) := by decide +kernel
theorem dX12_image_58 : decode cX12_image 58 = .ok (.bipush 56, 2) := by decide +kernel
theorem dX12_image_60 : decode cX12_image 60 = .ok (.iadd, 1) := by decide +kernel
theorem dX12_image_61 : decode cX12_image 61 = .ok (.iload_n 3, 1) := by decide +kernel
theorem dX12_image_62 : decode cX12_image 62 = .ok (.iadd, 1) := by decide +kernel
theorem dX12_image_63 : decode cX12_image 63 = .ok (.aload_n 0, 1) := by decide +kernel
theorem dX12_image_64 : decode cX12_image 64 = .ok (.getfield 16, 3) := by decide +kernel
theorem dX12_image_67 : decode cX12_image 67 = .ok (.iload_n 3, 1) := by decide +kernel
theorem dX12_image_68 : decode cX12_image 68 = .ok (.iaload, 1) := by decide +kernel
theorem dX12_image_69 : decode cX12_image 69 = .ok (.iastore, 1) := by decide +kernel
theorem dX12_image_70 : decode cX12_image 70 = .ok (.iinc 3 1, 3) := by decide +kernel
theorem dX12_image_73 : decode cX12_image 73 = .ok (.goto (-26), 3) := by decide +kernel
theorem dX12_image_76 : decode cX12_image 76 = .ok (.aload_n 0, 1) := by decide +kernel
theorem dX12_image_77 : decode cX12_image 77 = .ok (.getfield 32, 3) := by decide +kernel
theorem dX12_image_80 : decode cX12_image 80 = .ok (.iload_n 2, 1) := by decide +kernel
theorem dX12_image_81 : decode cX12_image 81 = .ok (.bipush 98, 2) := by decide +kernel
theorem dX12_image_83 : decode cX12_image 83 = .ok (.iadd, 1) := by decide +kernel
theorem dX12_image_84 : decode cX12_image 84 = .ok (.aload_n 0, 1) := by decide +kernel
theorem dX12_image_85 : decode cX12_image 85 = .ok (.getfield 148, 3) := by decide +kernel
theorem dX12_image_88 : decode cX12_image 88 = .ok (.iastore, 1) := by decide +kernel
theorem dX12_image_89 : decode cX12_image 89 = .ok (.aload_n 0, 1) := by decide +kernel
theorem dX12_image_90 : decode cX12_image 90 = .ok (.getfield 35, 3) := by decide +kernel
theorem dX12_image_93 : decode cX12_image 93 = .ok (.iload_n 1, 1) := by decide +kernel
theorem dX12_image_94 : decode cX12_image 94 = .ok (.iconst 1, 1) := by decide +kernel
theorem dX12_image_95 : decode cX12_image 95 = .ok (.bastore, 1) := by decide +kernel
theorem dX12_image_96 : decode cX12_image 96 = .ok (.iconst 1, 1) := by decide +kernel
theorem dX12_image_97 : decode cX12_image 97 = .ok (.ireturn, 1) := by decide +kernel
set_option maxRecDepth 20000 in
theorem ggX12_restore_X12_in : GoodIn wsX12_restore wsX12_in := goodIn_r _ [9] (by decide +kernel) (by decide +kernel)
set_option maxRecDepth 20000 in
theorem gX12_restore_X12_in : GoodIn wsX12_restore (va_wsS RX12 38 yX12_in wsX12_in) := goodIn_app (goodIn_of _ (by decide +kernel)) ggX12_restore_X12_in
theorem dX12_restore_0 : decode cX12_restore 0 = .ok (.iload_n 1, 1) := by decide +kernel
theorem dX12_restore_1 : decode cX12_restore 1 = .ok (.iconst 0, 1) := by decide +kernel
theorem dX12_restore_2 : decode cX12_restore 2 = .ok (.iconst 1, 1) := by decide +kernel
theorem dX12_restore_3 : decode cX12_restore 3 = .ok (.invokestatic 38, 3) := by decide +kernel
theorem dX12_restore_6 : decode cX12_restore 6 = .ok (.ifCond .ne 6, 3) := by decide +kernel
theorem dX12_restore_9 : decode cX12_restore 9 = .ok (.bipush (-2), 2) := by decide +kernel
theorem dX12_restore_11 : decode cX12_restore 11 = .ok (.ireturn, 1) := by decide +kernel
theorem dX12_restore_12 : decode cX12_restore 12 = .ok (.aload_n 0, 1) := by decide +kernel
theorem dX12_restore_13 : decode cX12_restore 13 = .ok (.getfield 35, 3) := by decide +kernel
theorem dX12_restore_16 : decode cX12_restore 16 = .ok (.iload_n 1, 1) := by decide +kernel
theorem dX12_restore_17 : decode cX12_restore 17 = .ok (.baload, 1) := by decide +kernel
theorem dX12_restore_18 : decode cX12_restore 18 = .ok (.ifCond .ne 6, 3) := by decide +kernel
theorem dX12_restore_21 : decode cX12_restore 21 = .ok (.bipush (-3), 2) := by decide +kernel
theorem dX12_restore_23 : decode cX12_restore 23 = .ok (.ireturn, 1) := by decide +kernel
theorem dX12_restore_24 : decode cX12_restore 24 = .ok (.bipush 100, 2) := by decide +kernel
theorem dX12_restore_26 : decode cX12_restore 26 = .ok (.iload_n 1, 1) := by decide +kernel
theorem dX12_restore_27 : decode cX12_restore 27 = .ok (.imul, 1) := by decide +kernel
theorem dX12_restore_28 : decode cX12_restore 28 = .ok (.istore_n 2, 1) := by decide +kernel
theorem dX12_restore_29 : decode cX12_restore 29 = .ok (.iconst 0, 1) := by decide +kernel
theorem dX12_restore_30 : decode cX12_restore 30 = .ok (.istore_n 3, 1) := by decide +kernel
theorem dX12_restore_31 : decode cX12_restore 31 = .ok (.iload_n 3, 1) := by decide +kernel
theorem dX12_restore_32 : decode cX12_restore 32 = .ok (.bipush 56, 2) := by decide +kernel
theorem dX12_restore_34 : decode cX12_restore 34 = .ok (.if_icmp .ge 23, 3) := by decide +kernel
theorem dX12_restore_37 : decode cX12_restore 37 = .ok (.aload_n 0, 1) := by decide +kernel
theorem dX12_restore_38 : decode cX12_restore 38 = .ok (.getfield 7, 3) := by decide +kernel
theorem dX12_restore_41 : decode cX12_restore 41 = .ok (.iload_n 3, 1) := by decide +kernel
theorem dX12_restore_42 : decode cX12_restore 42 = .ok (.aload_n 0, 1) := by decide +kernel
theorem dX12_restore_43 : decode cX12_restore 43 = .ok (.getfield 32, 3) := by decide +kernel
theorem dX12_restore_46 : decode cX12_restore 46 = .ok (.iload_n 2, 1) := by decide +kernel
theorem dX12_restore_47 : decode cX12_restore 47 = .ok (.iload_n 3, 1) := by decide +kernel
theorem dX12_restore_48 : decode cX12_restore 48 = .ok (.iadd, 1) := by decide +kernel
theorem dX12_restore_49 : decode cX12_restore 49 = .ok (.iaload, 1) := by decide +kernel
theorem dX12_restore_50 : decode cX12_restore 50 = .ok (.iastore, 1) := by decide +kernel
theorem dX12_restore_51 : decode cX12_restore 51 = .ok (.iinc 3 1, 3) := by decide +kernel
theorem dX12_restore_54 : decode cX12_restore 54 = .ok (.goto (-23), 3) := by decide +kernel
theorem dX12_restore_57 : decode cX12_restore 57 = .ok (.iconst 0, 1) := by decide +kernel
theorem dX12_restore_58 : decode cX12_restore 58 = .ok (.istore_n 3, 1) := by decide +kernel
theorem dX12_restore_59 : decode cX12_restore 59 = .ok (.iload_n 3, 1) := by decide +kernel
theorem dX12_restore_60 : decode cX12_restore 60 = .ok (.bipush 40, 2) := by decide +kernel
theorem dX12_restore_62 : decode cX12_restore 62 = .ok (.if_icmp .ge 26, 3) := by decide +kernel
theorem dX12_restore_65 : decode cX12_restore 65 = .ok (.aload_n 0, 1) := by decide +kernel
theorem dX12_restore_66 : decode cX12_restore 66 = .ok (.getfield 16, 3) := by decide +kernel
theorem dX12_restore_69 : decode cX12_restore 69 = .ok (.iload_n 3, 1) := by decide +kernel
theorem dX12_restore_70 : decode cX12_restore 70 = .ok (.aload_n 0, 1) := by decide +kernel
theorem dX12_restore_71 : decode cX12_restore 71 = .ok (.getfield 32, 3) := by decide +kernel
theorem dX12_restore_74 : decode cX12_restore 74 = .ok (.iload_n 2, 1) := by decide +kernel
theorem dX12_restore_75 : decode cX12_restore 75 = .ok (.bipush 56, 2) := by decide +kernel
theorem dX12_restore_77 : decode cX12_restore 77 = .ok (.iadd, 1) := by decide +kernel
theorem dX12_restore_78 : decode cX12_restore 78 = .ok (.iload_n 3, 1) := by decide +kernel
theorem dX12_restore_79 : decode cX12_restore 79 = .ok (.iadd, 1) := by decide +kernel
theorem dX12_restore_80 : decode cX12_restore 80 = .ok (.iaload, 1) := by decide +kernel
theorem dX12_restore_81 : decode cX12_restore 81 = .ok (.iastore, 1) := by decide +kernel
theorem dX12_restore_82 : decode cX12_restore 82 = .ok (.iinc 3 1, 3) := by decide +kernel
theorem dX12_restore_85 : decode cX12_restore 85 = .ok (.goto (-26), 3) := by decide +kernel
theorem dX12_restore_88 : decode cX12_restore 88 = .ok (.aload_n 0, 1) := by decide +kernel
theorem dX12_restore_89 : decode cX12_restore 89 = .ok (.aload_n 0, 1) := by decide +kernel
theorem dX12_restore_90 : decode cX12_restore 90 = .ok (.getfield 32, 3) := by decide +kernel
theorem dX12_restore_93 : decode cX12_restore 93 = .ok (.iload_n 2, 1) := by decide +kernel
theorem dX12_restore_94 : decode cX12_restore 94 = .ok (.bipush 98, 2) := by decide +kernel
theorem dX12_restore_96 : decode cX12_restore 96 = .ok (.iadd, 1) := by decide +kernel
theorem dX12_restore_97 : decode cX12_restore 97 = .ok (.iaload, 1) := by decide +kernel
theorem dX12_restore_98 : decode cX12_restore 98 = .ok (.putfield 148, 3) := by decide +kernel
theorem dX12_restore_101 : decode cX12_restore 101 = .ok (.iconst 1, 1) := by decide +kernel
theorem dX12_restore_102 : decode cX12_restore 102 = .ok (.ireturn, 1) := by decide +kernel
set_option maxRecDepth 20000 in
theorem ggX12_told_X12_asNow : GoodIn wsX12_told wsX12_asNow := goodIn_r _ [8, 9, 1, 10, 11, 12, 13, 43, 44, 45, 46, 47, 48, 49, 50, 51, 52, 53, 54, 55, 56, 57, 58, 59] (by decide +kernel) (by decide +kernel)
set_option maxRecDepth 20000 in
theorem gX12_told_X12_asNow : GoodIn wsX12_told (wsV RX12 114 RX12 yX12_asNow wsX12_asNow) := goodIn_app (goodIn_of _ (by decide +kernel)) ggX12_told_X12_asNow
set_option maxRecDepth 20000 in
theorem ggX12_told_X12_isWalker : GoodIn wsX12_told wsX12_isWalker := goodIn_r _ [16, 17, 18, 7, 19] (by decide +kernel) (by decide +kernel)
set_option maxRecDepth 20000 in
theorem gX12_told_X12_isWalker : GoodIn wsX12_told (va_wsS RX12 67 yX12_isWalker wsX12_isWalker) := goodIn_app (goodIn_of _ (by decide +kernel)) ggX12_told_X12_isWalker
set_option maxRecDepth 20000 in
theorem ggX12_told_X12_hushedOnes : GoodIn wsX12_told wsX12_hushedOnes := goodIn_r _ [23, 24, 25, 26, 7, 27, 28, 29, 30, 31, 9, 32, 33, 34, 35, 36, 37, 38, 43, 44, 45, 46, 47, 48, 49, 50, 51, 52, 53, 54, 55, 56, 57, 58, 59] (by decide +kernel) (by decide +kernel)
set_option maxRecDepth 20000 in
theorem gX12_told_X12_hushedOnes : GoodIn wsX12_told (wsV RX12 138 RX12 yX12_hushedOnes wsX12_hushedOnes) := goodIn_app (goodIn_of _ (by decide +kernel)) ggX12_told_X12_hushedOnes
set_option maxRecDepth 20000 in
theorem ggX12_told_X12_offOnes : GoodIn wsX12_told wsX12_offOnes := goodIn_r _ [42, 9, 43, 44, 45, 46, 47, 48, 49, 50, 51, 52, 53, 54, 55, 56, 57, 58, 59] (by decide +kernel) (by decide +kernel)
set_option maxRecDepth 20000 in
theorem gX12_told_X12_offOnes : GoodIn wsX12_told (wsV RX12 167 RX12 yX12_offOnes wsX12_offOnes) := goodIn_app (goodIn_of _ (by decide +kernel)) ggX12_told_X12_offOnes
theorem dX12_told_0 : decode cX12_told 0 = .ok (.aload_n 0, 1) := by decide +kernel
theorem dX12_told_1 : decode cX12_told 1 = .ok (.invokevirtual 114, 3) := by decide +kernel
theorem dX12_told_4 : decode cX12_told 4 = .ok (.iload_n 1, 1) := by decide +kernel
theorem dX12_told_5 : decode cX12_told 5 = .ok (.bipush 10, 2) := by decide +kernel
theorem dX12_told_7 : decode cX12_told 7 = .ok (.if_icmp .lt 85, 3) := by decide +kernel
theorem dX12_told_10 : decode cX12_told 10 = .ok (.iload_n 1, 1) := by decide +kernel
theorem dX12_told_11 : decode cX12_told 11 = .ok (.bipush 10, 2) := by decide +kernel
theorem dX12_told_13 : decode cX12_told 13 = .ok (.irem, 1) := by decide +kernel
theorem dX12_told_14 : decode cX12_told 14 = .ok (.istore_n 2, 1) := by decide +kernel
theorem dX12_told_15 : decode cX12_told 15 = .ok (.iload_n 2, 1) := by decide +kernel
theorem dX12_told_16 : decode cX12_told 16 = .ok (.invokestatic 67, 3) := by decide +kernel
theorem dX12_told_19 : decode cX12_told 19 = .ok (.ifCond .eq 9, 3) := by decide +kernel
theorem dX12_told_22 : decode cX12_told 22 = .ok (.iload_n 1, 1) := by decide +kernel
theorem dX12_told_23 : decode cX12_told 23 = .ok (.bipush 69, 2) := by decide +kernel
theorem dX12_told_25 : decode cX12_told 25 = .ok (.if_icmp .le 6, 3) := by decide +kernel
theorem dX12_told_28 : decode cX12_told 28 = .ok (.bipush (-2), 2) := by decide +kernel
theorem dX12_told_30 : decode cX12_told 30 = .ok (.ireturn, 1) := by decide +kernel
theorem dX12_told_31 : decode cX12_told 31 = .ok (.iload_n 1, 1) := by decide +kernel
theorem dX12_told_32 : decode cX12_told 32 = .ok (.bipush 60, 2) := by decide +kernel
theorem dX12_told_34 : decode cX12_told 34 = .ok (.if_icmp .lt 41, 3) := by decide +kernel
theorem dX12_told_37 : decode cX12_told 37 = .ok (.bipush 100, 2) := by decide +kernel
theorem dX12_told_39 : decode cX12_told 39 = .ok (.aload_n 0, 1) := by decide +kernel
theorem dX12_told_40 : decode cX12_told 40 = .ok (.getfield 7, 3) := by decide +kernel
theorem dX12_told_43 : decode cX12_told 43 = .ok (.bipush 30, 2) := by decide +kernel
theorem dX12_told_45 : decode cX12_told 45 = .ok (.iload_n 2, 1) := by decide +kernel
theorem dX12_told_46 : decode cX12_told 46 = .ok (.iadd, 1) := by decide +kernel
theorem dX12_told_47 : decode cX12_told 47 = .ok (.iaload, 1) := by decide +kernel
theorem dX12_told_48 : decode cX12_told 48 = .ok (.imul, 1) := by decide +kernel
theorem dX12_told_49 : decode cX12_told 49 = .ok (.bipush 10, 2) := by decide +kernel
theorem dX12_told_51 : decode cX12_told 51 = .ok (.aload_n 0, 1) := by decide +kernel
theorem dX12_told_52 : decode cX12_told 52 = .ok (.getfield 7, 3) := by decide +kernel
theorem dX12_told_55 : decode cX12_told 55 = .ok (.bipush 36, 2) := by decide +kernel
theorem dX12_told_57 : decode cX12_told 57 = .ok (.iload_n 2, 1) := by decide +kernel
theorem dX12_told_58 : decode cX12_told 58 = .ok (.iadd, 1) := by decide +kernel
theorem dX12_told_59 : decode cX12_told 59 = .ok (.iaload, 1) := by decide +kernel
theorem dX12_told_60 : decode cX12_told 60 = .ok (.imul, 1) := by decide +kernel
theorem dX12_told_61 : decode cX12_told 61 = .ok (.iadd, 1) := by decide +kernel
theorem dX12_told_62 : decode cX12_told 62 = .ok (.aload_n 0, 1) := by decide +kernel
theorem dX12_told_63 : decode cX12_told 63 = .ok (.getfield 7, 3) := by decide +kernel
theorem dX12_told_66 : decode cX12_told 66 = .ok (.bipush 42, 2) := by decide +kernel
theorem dX12_told_68 : decode cX12_told 68 = .ok (.iload_n 2, 1) := by decide +kernel
theorem dX12_told_69 : decode cX12_told 69 = .ok (.iadd, 1) := by decide +kernel
theorem dX12_told_70 : decode cX12_told 70 = .ok (.iaload, 1) := by decide +kernel
theorem dX12_told_71 : decode cX12_told 71 = .ok (.iadd, 1) := by decide +kernel
theorem dX12_told_72 : decode cX12_told 72 = .ok (.goto 19, 3) := by decide +kernel
theorem dX12_told_75 : decode cX12_told 75 = .ok (.aload_n 0, 1) := by decide +kernel
theorem dX12_told_76 : decode cX12_told 76 = .ok (.getfield 7, 3) := by decide +kernel
theorem dX12_told_79 : decode cX12_told 79 = .ok (.bipush 6, 2) := by decide +kernel
theorem dX12_told_81 : decode cX12_told 81 = .ok (.iload_n 1, 1) := by decide +kernel
theorem dX12_told_82 : decode cX12_told 82 = .ok (.bipush 10, 2) := by decide +kernel
theorem dX12_told_84 : decode cX12_told 84 = .ok (.idiv, 1) := by decide +kernel
theorem dX12_told_85 : decode cX12_told 85 = .ok (.iconst 1, 1) := by decide +kernel
theorem dX12_told_86 : decode cX12_told 86 = .ok (.isub, 1) := by decide +kernel
theorem dX12_told_87 : decode cX12_told 87 = .ok (.imul, 1) := by decide +kernel
theorem dX12_told_88 : decode cX12_told 88 = .ok (.iload_n 2, 1) := by decide +kernel
theorem dX12_told_89 : decode cX12_told 89 = .ok (.iadd, 1) := by decide +kernel
theorem dX12_told_90 : decode cX12_told 90 = .ok (.iaload, 1) := by decide +kernel
theorem dX12_told_91 : decode cX12_told 91 = .ok (.ireturn, 1) := by decide +kernel
theorem dX12_told_92 : decode cX12_told 92 = .ok (.iload_n 1, 1) := by decide +kernel
theorem dX12_told_93 : decode cX12_told 93 = .ok (.tableswitch 72 0 7 #[47, 52, 52, 52, 52, 52, 62, 67], 47) := by decide +kernel
theorem dX12_told_140 : decode cX12_told 140 = .ok (.aload_n 0, 1) := by decide +kernel
theorem dX12_told_141 : decode cX12_told 141 = .ok (.getfield 73, 3) := by decide +kernel
theorem dX12_told_144 : decode cX12_told 144 = .ok (.ireturn, 1) := by decide +kernel
theorem dX12_told_145 : decode cX12_told 145 = .ok (.aload_n 0, 1) := by decide +kernel
theorem dX12_told_146 : decode cX12_told 146 = .ok (.getfield 7, 3) := by decide +kernel
theorem dX12_told_149 : decode cX12_told 149 = .ok (.bipush 47, 2) := by decide +kernel
theorem dX12_told_151 : decode cX12_told 151 = .ok (.iload_n 1, 1) := by decide +kernel
theorem dX12_told_152 : decode cX12_told 152 = .ok (.iadd, 1) := by decide +kernel
theorem dX12_told_153 : decode cX12_told 153 = .ok (.iaload, 1) := by decide +kernel
theorem dX12_told_154 : decode cX12_told 154 = .ok (.ireturn, 1) := by decide +kernel
theorem dX12_told_155 : decode cX12_told 155 = .ok (.aload_n 0, 1) := by decide +kernel
theorem dX12_told_156 : decode cX12_told 156 = .ok (.invokevirtual 138, 3) := by decide +kernel
theorem dX12_told_159 : decode cX12_told 159 = .ok (.ireturn, 1) := by decide +kernel
theorem dX12_told_160 : decode cX12_told 160 = .ok (.aload_n 0, 1) := by decide +kernel
theorem dX12_told_161 : decode cX12_told 161 = .ok (.invokevirtual 167, 3) := by decide +kernel
theorem dX12_told_164 : decode cX12_told 164 = .ok (.ireturn, 1) := by decide +kernel
theorem dX12_told_165 : decode cX12_told 165 = .ok (.iload_n 1, 1) := by decide +kernel
theorem dX12_told_166 : decode cX12_told 166 = .ok (.bipush 8, 2) := by decide +kernel
theorem dX12_told_168 : decode cX12_told 168 = .ok (.if_icmp .ne 10, 3) := by decide +kernel
theorem dX12_told_171 : decode cX12_told 171 = .ok (.aload_n 0, 1) := by decide +kernel
theorem dX12_told_172 : decode cX12_told 172 = .ok (.getfield 148, 3) := by decide +kernel
theorem dX12_told_175 : decode cX12_told 175 = .ok (.goto 5, 3) := by decide +kernel
theorem dX12_told_178 : decode cX12_told 178 = .ok (.bipush (-2), 2) := by decide +kernel
theorem dX12_told_180 : decode cX12_told 180 = .ok (.ireturn, 1) := by decide +kernel
theorem dJ6_bitCount_0f7a4_0 : decode cJ6_bitCount_0f7a4 0 = .ok (.iload_n 0, 1) := by decide +kernel
theorem dJ6_bitCount_0f7a4_1 : decode cJ6_bitCount_0f7a4 1 = .ok (.iload_n 0, 1) := by decide +kernel
theorem dJ6_bitCount_0f7a4_2 : decode cJ6_bitCount_0f7a4 2 = .ok (.iconst 1, 1) := by decide +kernel
theorem dJ6_bitCount_0f7a4_3 : decode cJ6_bitCount_0f7a4 3 = .ok (.iushr, 1) := by decide +kernel
theorem dJ6_bitCount_0f7a4_4 : decode cJ6_bitCount_0f7a4 4 = .ok (.ldc_w 265, 3) := by decide +kernel
theorem dJ6_bitCount_0f7a4_7 : decode cJ6_bitCount_0f7a4 7 = .ok (.iand, 1) := by decide +kernel
theorem dJ6_bitCount_0f7a4_8 : decode cJ6_bitCount_0f7a4 8 = .ok (.isub, 1) := by decide +kernel
theorem dJ6_bitCount_0f7a4_9 : decode cJ6_bitCount_0f7a4 9 = .ok (.istore_n 0, 1) := by decide +kernel
theorem dJ6_bitCount_0f7a4_10 : decode cJ6_bitCount_0f7a4 10 = .ok (.iload_n 0, 1) := by decide +kernel
theorem dJ6_bitCount_0f7a4_11 : decode cJ6_bitCount_0f7a4 11 = .ok (.ldc_w 266, 3) := by decide +kernel
theorem dJ6_bitCount_0f7a4_14 : decode cJ6_bitCount_0f7a4 14 = .ok (.iand, 1) := by decide +kernel
theorem dJ6_bitCount_0f7a4_15 : decode cJ6_bitCount_0f7a4 15 = .ok (.iload_n 0, 1) := by decide +kernel
theorem dJ6_bitCount_0f7a4_16 : decode cJ6_bitCount_0f7a4 16 = .ok (.iconst 2, 1) := by decide +kernel
theorem dJ6_bitCount_0f7a4_17 : decode cJ6_bitCount_0f7a4 17 = .ok (.iushr, 1) := by decide +kernel
theorem dJ6_bitCount_0f7a4_18 : decode cJ6_bitCount_0f7a4 18 = .ok (.ldc_w 266, 3) := by decide +kernel
theorem dJ6_bitCount_0f7a4_21 : decode cJ6_bitCount_0f7a4 21 = .ok (.iand, 1) := by decide +kernel
theorem dJ6_bitCount_0f7a4_22 : decode cJ6_bitCount_0f7a4 22 = .ok (.iadd, 1) := by decide +kernel
theorem dJ6_bitCount_0f7a4_23 : decode cJ6_bitCount_0f7a4 23 = .ok (.istore_n 0, 1) := by decide +kernel
theorem dJ6_bitCount_0f7a4_24 : decode cJ6_bitCount_0f7a4 24 = .ok (.iload_n 0, 1) := by decide +kernel
theorem dJ6_bitCount_0f7a4_25 : decode cJ6_bitCount_0f7a4 25 = .ok (.iload_n 0, 1) := by decide +kernel
theorem dJ6_bitCount_0f7a4_26 : decode cJ6_bitCount_0f7a4 26 = .ok (.iconst 4, 1) := by decide +kernel
theorem dJ6_bitCount_0f7a4_27 : decode cJ6_bitCount_0f7a4 27 = .ok (.iushr, 1) := by decide +kernel
theorem dJ6_bitCount_0f7a4_28 : decode cJ6_bitCount_0f7a4 28 = .ok (.iadd, 1) := by decide +kernel
theorem dJ6_bitCount_0f7a4_29 : decode cJ6_bitCount_0f7a4 29 = .ok (.ldc_w 267, 3) := by decide +kernel
theorem dJ6_bitCount_0f7a4_32 : decode cJ6_bitCount_0f7a4 32 = .ok (.iand, 1) := by decide +kernel
theorem dJ6_bitCount_0f7a4_33 : decode cJ6_bitCount_0f7a4 33 = .ok (.istore_n 0, 1) := by decide +kernel
theorem dJ6_bitCount_0f7a4_34 : decode cJ6_bitCount_0f7a4 34 = .ok (.iload_n 0, 1) := by decide +kernel
theorem dJ6_bitCount_0f7a4_35 : decode cJ6_bitCount_0f7a4 35 = .ok (.iload_n 0, 1) := by decide +kernel
theorem dJ6_bitCount_0f7a4_36 : decode cJ6_bitCount_0f7a4 36 = .ok (.bipush 8, 2) := by decide +kernel
theorem dJ6_bitCount_0f7a4_38 : decode cJ6_bitCount_0f7a4 38 = .ok (.iushr, 1) := by decide +kernel
theorem dJ6_bitCount_0f7a4_39 : decode cJ6_bitCount_0f7a4 39 = .ok (.iadd, 1) := by decide +kernel
theorem dJ6_bitCount_0f7a4_40 : decode cJ6_bitCount_0f7a4 40 = .ok (.istore_n 0, 1) := by decide +kernel
theorem dJ6_bitCount_0f7a4_41 : decode cJ6_bitCount_0f7a4 41 = .ok (.iload_n 0, 1) := by decide +kernel
theorem dJ6_bitCount_0f7a4_42 : decode cJ6_bitCount_0f7a4 42 = .ok (.iload_n 0, 1) := by decide +kernel
theorem dJ6_bitCount_0f7a4_43 : decode cJ6_bitCount_0f7a4 43 = .ok (.bipush 16, 2) := by decide +kernel
theorem dJ6_bitCount_0f7a4_45 : decode cJ6_bitCount_0f7a4 45 = .ok (.iushr, 1) := by decide +kernel
theorem dJ6_bitCount_0f7a4_46 : decode cJ6_bitCount_0f7a4 46 = .ok (.iadd, 1) := by decide +kernel
theorem dJ6_bitCount_0f7a4_47 : decode cJ6_bitCount_0f7a4 47 = .ok (.istore_n 0, 1) := by decide +kernel
theorem dJ6_bitCount_0f7a4_48 : decode cJ6_bitCount_0f7a4 48 = .ok (.iload_n 0, 1) := by decide +kernel
theorem dJ6_bitCount_0f7a4_49 : decode cJ6_bitCount_0f7a4 49 = .ok (.bipush 63, 2) := by decide +kernel
theorem dJ6_bitCount_0f7a4_51 : decode cJ6_bitCount_0f7a4 51 = .ok (.iand, 1) := by decide +kernel
theorem dJ6_bitCount_0f7a4_52 : decode cJ6_bitCount_0f7a4 52 = .ok (.ireturn, 1) := by decide +kernel
theorem dJ13_bitCount_95d88_0 : decode cJ13_bitCount_95d88 0 = .ok (.lload_n 0, 1) := by decide +kernel
theorem dJ13_bitCount_95d88_1 : decode cJ13_bitCount_95d88 1 = .ok (.lload_n 0, 1) := by decide +kernel
theorem dJ13_bitCount_95d88_2 : decode cJ13_bitCount_95d88 2 = .ok (.iconst 1, 1) := by decide +kernel
theorem dJ13_bitCount_95d88_3 : decode cJ13_bitCount_95d88 3 = .ok (.lushr, 1) := by decide +kernel
theorem dJ13_bitCount_95d88_4 : decode cJ13_bitCount_95d88 4 = .ok (.ldc2_w 314, 3) := by decide +kernel
theorem dJ13_bitCount_95d88_7 : decode cJ13_bitCount_95d88 7 = .ok (.land, 1) := by decide +kernel
theorem dJ13_bitCount_95d88_8 : decode cJ13_bitCount_95d88 8 = .ok (.lsub, 1) := by decide +kernel
theorem dJ13_bitCount_95d88_9 : decode cJ13_bitCount_95d88 9 = .ok (.lstore_n 0, 1) := by decide +kernel
theorem dJ13_bitCount_95d88_10 : decode cJ13_bitCount_95d88 10 = .ok (.lload_n 0, 1) := by decide +kernel
theorem dJ13_bitCount_95d88_11 : decode cJ13_bitCount_95d88 11 = .ok (.ldc2_w 316, 3) := by decide +kernel
theorem dJ13_bitCount_95d88_14 : decode cJ13_bitCount_95d88 14 = .ok (.land, 1) := by decide +kernel
theorem dJ13_bitCount_95d88_15 : decode cJ13_bitCount_95d88 15 = .ok (.lload_n 0, 1) := by decide +kernel
theorem dJ13_bitCount_95d88_16 : decode cJ13_bitCount_95d88 16 = .ok (.iconst 2, 1) := by decide +kernel
theorem dJ13_bitCount_95d88_17 : decode cJ13_bitCount_95d88 17 = .ok (.lushr, 1) := by decide +kernel
theorem dJ13_bitCount_95d88_18 : decode cJ13_bitCount_95d88 18 = .ok (.ldc2_w 316, 3) := by decide +kernel
theorem dJ13_bitCount_95d88_21 : decode cJ13_bitCount_95d88 21 = .ok (.land, 1) := by decide +kernel
theorem dJ13_bitCount_95d88_22 : decode cJ13_bitCount_95d88 22 = .ok (.ladd, 1) := by decide +kernel
theorem dJ13_bitCount_95d88_23 : decode cJ13_bitCount_95d88 23 = .ok (.lstore_n 0, 1) := by decide +kernel
theorem dJ13_bitCount_95d88_24 : decode cJ13_bitCount_95d88 24 = .ok (.lload_n 0, 1) := by decide +kernel
theorem dJ13_bitCount_95d88_25 : decode cJ13_bitCount_95d88 25 = .ok (.lload_n 0, 1) := by decide +kernel
theorem dJ13_bitCount_95d88_26 : decode cJ13_bitCount_95d88 26 = .ok (.iconst 4, 1) := by decide +kernel
theorem dJ13_bitCount_95d88_27 : decode cJ13_bitCount_95d88 27 = .ok (.lushr, 1) := by decide +kernel
theorem dJ13_bitCount_95d88_28 : decode cJ13_bitCount_95d88 28 = .ok (.ladd, 1) := by decide +kernel
theorem dJ13_bitCount_95d88_29 : decode cJ13_bitCount_95d88 29 = .ok (.ldc2_w 318, 3) := by decide +kernel
theorem dJ13_bitCount_95d88_32 : decode cJ13_bitCount_95d88 32 = .ok (.land, 1) := by decide +kernel
theorem dJ13_bitCount_95d88_33 : decode cJ13_bitCount_95d88 33 = .ok (.lstore_n 0, 1) := by decide +kernel
theorem dJ13_bitCount_95d88_34 : decode cJ13_bitCount_95d88 34 = .ok (.lload_n 0, 1) := by decide +kernel
theorem dJ13_bitCount_95d88_35 : decode cJ13_bitCount_95d88 35 = .ok (.lload_n 0, 1) := by decide +kernel
theorem dJ13_bitCount_95d88_36 : decode cJ13_bitCount_95d88 36 = .ok (.bipush 8, 2) := by decide +kernel
theorem dJ13_bitCount_95d88_38 : decode cJ13_bitCount_95d88 38 = .ok (.lushr, 1) := by decide +kernel
theorem dJ13_bitCount_95d88_39 : decode cJ13_bitCount_95d88 39 = .ok (.ladd, 1) := by decide +kernel
theorem dJ13_bitCount_95d88_40 : decode cJ13_bitCount_95d88 40 = .ok (.lstore_n 0, 1) := by decide +kernel
theorem dJ13_bitCount_95d88_41 : decode cJ13_bitCount_95d88 41 = .ok (.lload_n 0, 1) := by decide +kernel
theorem dJ13_bitCount_95d88_42 : decode cJ13_bitCount_95d88 42 = .ok (.lload_n 0, 1) := by decide +kernel
theorem dJ13_bitCount_95d88_43 : decode cJ13_bitCount_95d88 43 = .ok (.bipush 16, 2) := by decide +kernel
theorem dJ13_bitCount_95d88_45 : decode cJ13_bitCount_95d88 45 = .ok (.lushr, 1) := by decide +kernel
theorem dJ13_bitCount_95d88_46 : decode cJ13_bitCount_95d88 46 = .ok (.ladd, 1) := by decide +kernel
theorem dJ13_bitCount_95d88_47 : decode cJ13_bitCount_95d88 47 = .ok (.lstore_n 0, 1) := by decide +kernel
theorem dJ13_bitCount_95d88_48 : decode cJ13_bitCount_95d88 48 = .ok (.lload_n 0, 1) := by decide +kernel
theorem dJ13_bitCount_95d88_49 : decode cJ13_bitCount_95d88 49 = .ok (.lload_n 0, 1) := by decide +kernel
theorem dJ13_bitCount_95d88_50 : decode cJ13_bitCount_95d88 50 = .ok (.bipush 32, 2) := by decide +kernel
theorem dJ13_bitCount_95d88_52 : decode cJ13_bitCount_95d88 52 = .ok (.lushr, 1) := by decide +kernel
theorem dJ13_bitCount_95d88_53 : decode cJ13_bitCount_95d88 53 = .ok (.ladd, 1) := by decide +kernel
theorem dJ13_bitCount_95d88_54 : decode cJ13_bitCount_95d88 54 = .ok (.lstore_n 0, 1) := by decide +kernel
theorem dJ13_bitCount_95d88_55 : decode cJ13_bitCount_95d88 55 = .ok (.lload_n 0, 1) := by decide +kernel
theorem dJ13_bitCount_95d88_56 : decode cJ13_bitCount_95d88 56 = .ok (.l2i, 1) := by decide +kernel
theorem dJ13_bitCount_95d88_57 : decode cJ13_bitCount_95d88 57 = .ok (.bipush 127, 2) := by decide +kernel
theorem dJ13_bitCount_95d88_59 : decode cJ13_bitCount_95d88 59 = .ok (.iand, 1) := by decide +kernel
theorem dJ13_bitCount_95d88_60 : decode cJ13_bitCount_95d88 60 = .ok (.ireturn, 1) := by decide +kernel
theorem dJ9_abs_0f7a4_0 : decode cJ9_abs_0f7a4 0 = .ok (.iload_n 0, 1) := by decide +kernel
theorem dJ9_abs_0f7a4_1 : decode cJ9_abs_0f7a4 1 = .ok (.ifCond .ge 8, 3) := by decide +kernel
theorem dJ9_abs_0f7a4_4 : decode cJ9_abs_0f7a4 4 = .ok (.iload_n 0, 1) := by decide +kernel
theorem dJ9_abs_0f7a4_5 : decode cJ9_abs_0f7a4 5 = .ok (.ineg, 1) := by decide +kernel
theorem dJ9_abs_0f7a4_6 : decode cJ9_abs_0f7a4 6 = .ok (.goto 4, 3) := by decide +kernel
theorem dJ9_abs_0f7a4_9 : decode cJ9_abs_0f7a4 9 = .ok (.iload_n 0, 1) := by decide +kernel
theorem dJ9_abs_0f7a4_10 : decode cJ9_abs_0f7a4 10 = .ok (.ireturn, 1) := by decide +kernel
theorem dJ9_max_7cf53_0 : decode cJ9_max_7cf53 0 = .ok (.iload_n 0, 1) := by decide +kernel
theorem dJ9_max_7cf53_1 : decode cJ9_max_7cf53 1 = .ok (.iload_n 1, 1) := by decide +kernel
theorem dJ9_max_7cf53_2 : decode cJ9_max_7cf53 2 = .ok (.if_icmp .lt 7, 3) := by decide +kernel
theorem dJ9_max_7cf53_5 : decode cJ9_max_7cf53 5 = .ok (.iload_n 0, 1) := by decide +kernel
theorem dJ9_max_7cf53_6 : decode cJ9_max_7cf53 6 = .ok (.goto 4, 3) := by decide +kernel
theorem dJ9_max_7cf53_9 : decode cJ9_max_7cf53 9 = .ok (.iload_n 1, 1) := by decide +kernel
theorem dJ9_max_7cf53_10 : decode cJ9_max_7cf53 10 = .ok (.ireturn, 1) := by decide +kernel
theorem dJ9_min_7cf53_0 : decode cJ9_min_7cf53 0 = .ok (.iload_n 0, 1) := by decide +kernel
theorem dJ9_min_7cf53_1 : decode cJ9_min_7cf53 1 = .ok (.iload_n 1, 1) := by decide +kernel
theorem dJ9_min_7cf53_2 : decode cJ9_min_7cf53 2 = .ok (.if_icmp .gt 7, 3) := by decide +kernel
theorem dJ9_min_7cf53_5 : decode cJ9_min_7cf53 5 = .ok (.iload_n 0, 1) := by decide +kernel
theorem dJ9_min_7cf53_6 : decode cJ9_min_7cf53 6 = .ok (.goto 4, 3) := by decide +kernel
theorem dJ9_min_7cf53_9 : decode cJ9_min_7cf53 9 = .ok (.iload_n 1, 1) := by decide +kernel
theorem dJ9_min_7cf53_10 : decode cJ9_min_7cf53 10 = .ok (.ireturn, 1) := by decide +kernel
abbrev vwCl : List vw_C := [(RX0, TX0, 4), (RX1, TX1, 2), (RX2, TX2, 2), (RX3, TX3, 2), (RX4, TX4, 3), (RX5, TX5, 2), (RX6, TX6, 1), (RX7, TX7, 5), (RX8, TX8, 10), (RX9, TX9, 7), (RX10, TX10, 3), (RX11, TX11, 11), (RX12, TX12, 17)]
