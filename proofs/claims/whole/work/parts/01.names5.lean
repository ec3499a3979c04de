theorem dX12_gust_19 : decode cX12_gust 19 = .ok (.bipush 50, 2) := by decide +kernel
theorem dX12_gust_21 : decode cX12_gust 21 = .ok (.dup2, 1) := by decide +kernel
theorem dX12_gust_22 : decode cX12_gust 22 = .ok (.iaload, 1) := by decide +kernel
theorem dX12_gust_23 : decode cX12_gust 23 = .ok (.iconst 1, 1) := by decide +kernel
theorem dX12_gust_24 : decode cX12_gust 24 = .ok (.iadd, 1) := by decide +kernel
theorem dX12_gust_25 : decode cX12_gust 25 = .ok (.iastore, 1) := by decide +kernel
theorem dX12_gust_26 : decode cX12_gust 26 = .ok (.iconst 0, 1) := by decide +kernel
theorem dX12_gust_27 : decode cX12_gust 27 = .ok (.ireturn, 1) := by decide +kernel
set_option maxRecDepth 20000 in
theorem ggX12_blowOn_X12_isCell : GoodIn wsX12_blowOn wsX12_isCell := goodIn_r _ [5, 6, 7, 4, 8] (by decide +kernel) (by decide +kernel)
set_option maxRecDepth 20000 in
theorem gX12_blowOn_X12_isCell : GoodIn wsX12_blowOn (va_wsS RX12 70 yX12_isCell wsX12_isCell) := goodIn_app (goodIn_of _ (by decide +kernel)) ggX12_blowOn_X12_isCell
theorem dX12_blowOn_0 : decode cX12_blowOn 0 = .ok (.aload_n 0, 1) := by decide +kernel
theorem dX12_blowOn_1 : decode cX12_blowOn 1 = .ok (.getfield 13, 3) := by decide +kernel
theorem dX12_blowOn_4 : decode cX12_blowOn 4 = .ok (.bipush 49, 2) := by decide +kernel
theorem dX12_blowOn_6 : decode cX12_blowOn 6 = .ok (.iaload, 1) := by decide +kernel
theorem dX12_blowOn_7 : decode cX12_blowOn 7 = .ok (.ifCond .ne 15, 3) := by decide +kernel
theorem dX12_blowOn_10 : decode cX12_blowOn 10 = .ok (.aload_n 0, 1) := by decide +kernel
theorem dX12_blowOn_11 : decode cX12_blowOn 11 = .ok (.getfield 13, 3) := by decide +kernel
theorem dX12_blowOn_14 : decode cX12_blowOn 14 = .ok (.bipush 48, 2) := by decide +kernel
theorem dX12_blowOn_16 : decode cX12_blowOn 16 = .ok (.iaload, 1) := by decide +kernel
theorem dX12_blowOn_17 : decode cX12_blowOn 17 = .ok (.iconst 1, 1) := by decide +kernel
theorem dX12_blowOn_18 : decode cX12_blowOn 18 = .ok (.iadd, 1) := by decide +kernel
theorem dX12_blowOn_19 : decode cX12_blowOn 19 = .ok (.goto 12, 3) := by decide +kernel
theorem dX12_blowOn_22 : decode cX12_blowOn 22 = .ok (.aload_n 0, 1) := by decide +kernel
theorem dX12_blowOn_23 : decode cX12_blowOn 23 = .ok (.getfield 13, 3) := by decide +kernel
theorem dX12_blowOn_26 : decode cX12_blowOn 26 = .ok (.bipush 48, 2) := by decide +kernel
theorem dX12_blowOn_28 : decode cX12_blowOn 28 = .ok (.iaload, 1) := by decide +kernel
theorem dX12_blowOn_29 : decode cX12_blowOn 29 = .ok (.iconst 1, 1) := by decide +kernel
theorem dX12_blowOn_30 : decode cX12_blowOn 30 = .ok (.isub, 1) := by decide +kernel
theorem dX12_blowOn_31 : decode cX12_blowOn 31 = .ok (.istore_n 1, 1) := by decide +kernel
theorem dX12_blowOn_32 : decode cX12_blowOn 32 = .ok (.iload_n 1, 1) := by decide +kernel
theorem dX12_blowOn_33 : decode cX12_blowOn 33 = .ok (.invokestatic 70, 3) := by decide +kernel
theorem dX12_blowOn_36 : decode cX12_blowOn 36 = .ok (.ifCond .ne 51, 3) := by decide +kernel
theorem dX12_blowOn_39 : decode cX12_blowOn 39 = .ok (.aload_n 0, 1) := by decide +kernel
theorem dX12_blowOn_40 : decode cX12_blowOn 40 = .ok (.getfield 13, 3) := by decide +kernel
theorem dX12_blowOn_43 : decode cX12_blowOn 43 = .ok (.bipush 49, 2) := by decide +kernel
theorem dX12_blowOn_45 : decode cX12_blowOn 45 = .ok (.iconst 1, 1) := by decide +kernel
theorem dX12_blowOn_46 : decode cX12_blowOn 46 = .ok (.aload_n 0, 1) := by decide +kernel
theorem dX12_blowOn_47 : decode cX12_blowOn 47 = .ok (.getfield 13, 3) := by decide +kernel
theorem dX12_blowOn_50 : decode cX12_blowOn 50 = .ok (.bipush 49, 2) := by decide +kernel
theorem dX12_blowOn_52 : decode cX12_blowOn 52 = .ok (.iaload, 1) := by decide +kernel
theorem dX12_blowOn_53 : decode cX12_blowOn 53 = .ok (.isub, 1) := by decide +kernel
theorem dX12_blowOn_54 : decode cX12_blowOn 54 = .ok (.iastore, 1) := by decide +kernel
theorem dX12_blowOn_55 : decode cX12_blowOn 55 = .ok (.aload_n 0, 1) := by decide +kernel
theorem dX12_blowOn_56 : decode cX12_blowOn 56 = .ok (.getfield 13, 3) := by decide +kernel
theorem dX12_blowOn_59 : decode cX12_blowOn 59 = .ok (.bipush 49, 2) := by decide +kernel
theorem dX12_blowOn_61 : decode cX12_blowOn 61 = .ok (.iaload, 1) := by decide +kernel
theorem dX12_blowOn_62 : decode cX12_blowOn 62 = .ok (.ifCond .ne 15, 3) := by decide +kernel
theorem dX12_blowOn_65 : decode cX12_blowOn 65 = .ok (.aload_n 0, 1) := by decide +kernel
theorem dX12_blowOn_66 : decode cX12_blowOn 66 = .ok (.getfield 13, 3) := by decide +kernel
theorem dX12_blowOn_69 : decode cX12_blowOn 69 = .ok (.bipush 48, 2) := by decide +kernel
theorem dX12_blowOn_71 : decode cX12_blowOn 71 = .ok (.iaload, 1) := by decide +kernel
theorem dX12_blowOn_72 : decode cX12_blowOn 72 = .ok (.iconst 1, 1) := by decide +kernel
theorem dX12_blowOn_73 : decode cX12_blowOn 73 = .ok (.iadd, 1) := by decide +kernel
theorem dX12_blowOn_74 : decode cX12_blowOn 74 = .ok (.goto 12, 3) := by decide +kernel
theorem dX12_blowOn_77 : decode cX12_blowOn 77 = .ok (.aload_n 0, 1) := by decide +kernel
theorem dX12_blowOn_78 : decode cX12_blowOn 78 = .ok (.getfield 13, 3) := by decide +kernel
theorem dX12_blowOn_81 : decode cX12_blowOn 81 = .ok (.bipush 48, 2) := by decide +kernel
theorem dX12_blowOn_83 : decode cX12_blowOn 83 = .ok (.iaload, 1) := by decide +kernel
theorem dX12_blowOn_84 : decode cX12_blowOn 84 = .ok (.iconst 1, 1) := by decide +kernel
theorem dX12_blowOn_85 : decode cX12_blowOn 85 = .ok (.isub, 1) := by decide +kernel
theorem dX12_blowOn_86 : decode cX12_blowOn 86 = .ok (.istore_n 1, 1) := by decide +kernel
theorem dX12_blowOn_87 : decode cX12_blowOn 87 = .ok (.aload_n 0, 1) := by decide +kernel
theorem dX12_blowOn_88 : decode cX12_blowOn 88 = .ok (.getfield 13, 3) := by decide +kernel
theorem dX12_blowOn_91 : decode cX12_blowOn 91 = .ok (.bipush 48, 2) := by decide +kernel
theorem dX12_blowOn_93 : decode cX12_blowOn 93 = .ok (.iload_n 1, 1) := by decide +kernel
theorem dX12_blowOn_94 : decode cX12_blowOn 94 = .ok (.iastore, 1) := by decide +kernel
theorem dX12_blowOn_95 : decode cX12_blowOn 95 = .ok (.return_, 1) := by decide +kernel
set_option maxRecDepth 20000 in
theorem ggX12_passHour_X12_bits : GoodIn wsX12_passHour wsX12_bits := goodIn_r _ [5] (by decide +kernel) (by decide +kernel)
set_option maxRecDepth 20000 in
theorem gX12_passHour_X12_bits : GoodIn wsX12_passHour (va_wsS RX12 84 yX12_bits wsX12_bits) := goodIn_app (goodIn_of _ (by decide +kernel)) ggX12_passHour_X12_bits
theorem dX12_passHour_0 : decode cX12_passHour 0 = .ok (.aload_n 0, 1) := by decide +kernel
theorem dX12_passHour_1 : decode cX12_passHour 1 = .ok (.getfield 13, 3) := by decide +kernel
theorem dX12_passHour_4 : decode cX12_passHour 4 = .ok (.bipush 51, 2) := by decide +kernel
theorem dX12_passHour_6 : decode cX12_passHour 6 = .ok (.dup2, 1) := by decide +kernel
theorem dX12_passHour_7 : decode cX12_passHour 7 = .ok (.iaload, 1) := by decide +kernel
theorem dX12_passHour_8 : decode cX12_passHour 8 = .ok (.iconst 1, 1) := by decide +kernel
theorem dX12_passHour_9 : decode cX12_passHour 9 = .ok (.iadd, 1) := by decide +kernel
theorem dX12_passHour_10 : decode cX12_passHour 10 = .ok (.iastore, 1) := by decide +kernel
theorem dX12_passHour_11 : decode cX12_passHour 11 = .ok (.aload_n 0, 1) := by decide +kernel
theorem dX12_passHour_12 : decode cX12_passHour 12 = .ok (.getfield 13, 3) := by decide +kernel
theorem dX12_passHour_15 : decode cX12_passHour 15 = .ok (.bipush 51, 2) := by decide +kernel
theorem dX12_passHour_17 : decode cX12_passHour 17 = .ok (.iaload, 1) := by decide +kernel
theorem dX12_passHour_18 : decode cX12_passHour 18 = .ok (.bipush 8, 2) := by decide +kernel
theorem dX12_passHour_20 : decode cX12_passHour 20 = .ok (.if_icmp .ne 82, 3) := by decide +kernel
theorem dX12_passHour_23 : decode cX12_passHour 23 = .ok (.aload_n 0, 1) := by decide +kernel
theorem dX12_passHour_24 : decode cX12_passHour 24 = .ok (.getfield 13, 3) := by decide +kernel
theorem dX12_passHour_27 : decode cX12_passHour 27 = .ok (.bipush 51, 2) := by decide +kernel
theorem dX12_passHour_29 : decode cX12_passHour 29 = .ok (.iconst 0, 1) := by decide +kernel
theorem dX12_passHour_30 : decode cX12_passHour 30 = .ok (.iastore, 1) := by decide +kernel
theorem dX12_passHour_31 : decode cX12_passHour 31 = .ok (.aload_n 0, 1) := by decide +kernel
theorem dX12_passHour_32 : decode cX12_passHour 32 = .ok (.getfield 13, 3) := by decide +kernel
theorem dX12_passHour_35 : decode cX12_passHour 35 = .ok (.bipush 52, 2) := by decide +kernel
theorem dX12_passHour_37 : decode cX12_passHour 37 = .ok (.dup2, 1) := by decide +kernel
theorem dX12_passHour_38 : decode cX12_passHour 38 = .ok (.iaload, 1) := by decide +kernel
theorem dX12_passHour_39 : decode cX12_passHour 39 = .ok (.iconst 1, 1) := by decide +kernel
theorem dX12_passHour_40 : decode cX12_passHour 40 = .ok (.iadd, 1) := by decide +kernel
theorem dX12_passHour_41 : decode cX12_passHour 41 = .ok (.iastore, 1) := by decide +kernel
theorem dX12_passHour_42 : decode cX12_passHour 42 = .ok (.iconst 0, 1) := by decide +kernel
theorem dX12_passHour_43 : decode cX12_passHour 43 = .ok (.istore_n 1, 1) := by decide +kernel
theorem dX12_passHour_44 : decode cX12_passHour 44 = .ok (.iload_n 1, 1) := by decide +kernel
theorem dX12_passHour_45 : decode cX12_passHour 45 = .ok (.bipush 6, 2) := by decide +kernel
theorem dX12_passHour_47 : decode cX12_passHour 47 = .ok (.if_icmp .ge 55, 3) := by decide +kernel
theorem dX12_passHour_50 : decode cX12_passHour 50 = .ok (.aload_n 0, 1) := by decide +kernel
theorem dX12_passHour_51 : decode cX12_passHour 51 = .ok (.getfield 13, 3) := by decide +kernel
theorem dX12_passHour_54 : decode cX12_passHour 54 = .ok (.bipush 12, 2) := by decide +kernel
theorem dX12_passHour_56 : decode cX12_passHour 56 = .ok (.iload_n 1, 1) := by decide +kernel
theorem dX12_passHour_57 : decode cX12_passHour 57 = .ok (.iadd, 1) := by decide +kernel
theorem dX12_passHour_58 : decode cX12_passHour 58 = .ok (.iaload, 1) := by decide +kernel
theorem dX12_passHour_59 : decode cX12_passHour 59 = .ok (.aload_n 0, 1) := by decide +kernel
theorem dX12_passHour_60 : decode cX12_passHour 60 = .ok (.getfield 13, 3) := by decide +kernel
theorem dX12_passHour_63 : decode cX12_passHour 63 = .ok (.bipush 6, 2) := by decide +kernel
theorem dX12_passHour_65 : decode cX12_passHour 65 = .ok (.iload_n 1, 1) := by decide +kernel
theorem dX12_passHour_66 : decode cX12_passHour 66 = .ok (.iadd, 1) := by decide +kernel
theorem dX12_passHour_67 : decode cX12_passHour 67 = .ok (.iaload, 1) := by decide +kernel
theorem dX12_passHour_68 : decode cX12_passHour 68 = .ok (.invokestatic 84, 3) := by decide +kernel
theorem dX12_passHour_71 : decode cX12_passHour 71 = .ok (.iconst 2, 1) := by decide +kernel
theorem dX12_passHour_72 : decode cX12_passHour 72 = .ok (.idiv, 1) := by decide +kernel
theorem dX12_passHour_73 : decode cX12_passHour 73 = .ok (.iadd, 1) := by decide +kernel
theorem dX12_passHour_74 : decode cX12_passHour 74 = .ok (.istore_n 2, 1) := by decide +kernel
theorem dX12_passHour_75 : decode cX12_passHour 75 = .ok (.aload_n 0, 1) := by decide +kernel
theorem dX12_passHour_76 : decode cX12_passHour 76 = .ok (.getfield 13, 3) := by decide +kernel
theorem dX12_passHour_79 : decode cX12_passHour 79 = .ok (.bipush 12, 2) := by decide +kernel
theorem dX12_passHour_81 : decode cX12_passHour 81 = .ok (.iload_n 1, 1) := by decide +kernel
theorem dX12_passHour_82 : decode cX12_passHour 82 = .ok (.iadd, 1) := by decide +kernel
theorem dX12_passHour_83 : decode cX12_passHour 83 = .ok (.iload_n 2, 1) := by decide +kernel
theorem dX12_passHour_84 : decode cX12_passHour 84 = .ok (.bipush 9, 2) := by decide +kernel
theorem dX12_passHour_86 : decode cX12_passHour 86 = .ok (.if_icmp .le 8, 3) := by decide +kernel
theorem dX12_passHour_89 : decode cX12_passHour 89 = .ok (.bipush 9, 2) := by decide +kernel
theorem dX12_passHour_91 : decode cX12_passHour 91 = .ok (.goto 4, 3) := by decide +kernel
theorem dX12_passHour_94 : decode cX12_passHour 94 = .ok (.iload_n 2, 1) := by decide +kernel
theorem dX12_passHour_95 : decode cX12_passHour 95 = .ok (.iastore, 1) := by decide +kernel
theorem dX12_passHour_96 : decode cX12_passHour 96 = .ok (.iinc 1 1, 3) := by decide +kernel
theorem dX12_passHour_99 : decode cX12_passHour 99 = .ok (.goto (-55), 3) := by decide +kernel
theorem dX12_passHour_102 : decode cX12_passHour 102 = .ok (.return_, 1) := by decide +kernel
set_option maxRecDepth 20000 in
theorem ggX12_endHour_X12_passHour : GoodIn wsX12_endHour wsX12_passHour := goodIn_r _ [8, 1, 9, 10, 7, 11, 37, 38, 39, 40, 41, 42, 43, 44, 45, 46, 47, 48, 49, 50, 51, 52, 53] (by decide +kernel) (by decide +kernel)
set_option maxRecDepth 20000 in
theorem gX12_endHour_X12_passHour : GoodIn wsX12_endHour (wsV RX12 87 RX12 yX12_passHour wsX12_passHour) := goodIn_app (goodIn_of _ (by decide +kernel)) ggX12_endHour_X12_passHour
set_option maxRecDepth 20000 in
theorem ggX12_endHour_X12_blowOn : GoodIn wsX12_endHour wsX12_blowOn := goodIn_r _ [15, 1, 16, 17, 7, 18, 19, 20, 21, 37, 38, 39, 40, 41, 42, 43, 44, 45, 46, 47, 48, 49, 50, 51, 52, 53] (by decide +kernel) (by decide +kernel)
set_option maxRecDepth 20000 in
theorem gX12_endHour_X12_blowOn : GoodIn wsX12_endHour (wsV RX12 90 RX12 yX12_blowOn wsX12_blowOn) := goodIn_app (goodIn_of _ (by decide +kernel)) ggX12_endHour_X12_blowOn
set_option maxRecDepth 20000 in
theorem ggX12_endHour_X12_isHushed : GoodIn wsX12_endHour wsX12_isHushed := goodIn_r _ [25, 26, 27, 28, 7, 29, 1, 30, 31, 32, 33, 34, 35, 36, 37, 38, 39, 40, 41, 42, 43, 44, 45, 46, 47, 48, 49, 50, 51, 52, 53] (by decide +kernel) (by decide +kernel)
set_option maxRecDepth 20000 in
theorem gX12_endHour_X12_isHushed : GoodIn wsX12_endHour (wsV RX12 93 RX12 yX12_isHushed wsX12_isHushed) := goodIn_app (goodIn_of _ (by decide +kernel)) ggX12_endHour_X12_isHushed
set_option maxRecDepth 20000 in
theorem ggX12_endHour_X12_isCell : GoodIn wsX12_endHour wsX12_isCell := goodIn_r _ [18, 19, 20, 7, 21] (by decide +kernel) (by decide +kernel)
set_option maxRecDepth 20000 in
theorem gX12_endHour_X12_isCell : GoodIn wsX12_endHour (va_wsS RX12 70 yX12_isCell wsX12_isCell) := goodIn_app (goodIn_of _ (by decide +kernel)) ggX12_endHour_X12_isCell
theorem dX12_endHour_0 : decode cX12_endHour 0 = .ok (.aload_n 0, 1) := by decide +kernel
theorem dX12_endHour_1 : decode cX12_endHour 1 = .ok (.getfield 13, 3) := by decide +kernel
theorem dX12_endHour_4 : decode cX12_endHour 4 = .ok (.bipush 51, 2) := by decide +kernel
theorem dX12_endHour_6 : decode cX12_endHour 6 = .ok (.iaload, 1) := by decide +kernel
theorem dX12_endHour_7 : decode cX12_endHour 7 = .ok (.bipush 7, 2) := by decide +kernel
theorem dX12_endHour_9 : decode cX12_endHour 9 = .ok (.if_icmp .ne 18, 3) := by decide +kernel
theorem dX12_endHour_12 : decode cX12_endHour 12 = .ok (.aload_n 0, 1) := by decide +kernel
theorem dX12_endHour_13 : decode cX12_endHour 13 = .ok (.getfield 13, 3) := by decide +kernel
theorem dX12_endHour_16 : decode cX12_endHour 16 = .ok (.bipush 52, 2) := by decide +kernel
theorem dX12_endHour_18 : decode cX12_endHour 18 = .ok (.iaload, 1) := by decide +kernel
theorem dX12_endHour_19 : decode cX12_endHour 19 = .ok (.bipush 99, 2) := by decide +kernel
theorem dX12_endHour_21 : decode cX12_endHour 21 = .ok (.if_icmp .ne 6, 3) := by decide +kernel
theorem dX12_endHour_24 : decode cX12_endHour 24 = .ok (.bipush 9, 2) := by decide +kernel
theorem dX12_endHour_26 : decode cX12_endHour 26 = .ok (.ireturn, 1) := by decide +kernel
theorem dX12_endHour_27 : decode cX12_endHour 27 = .ok (.aload_n 0, 1) := by decide +kernel
theorem dX12_endHour_28 : decode cX12_endHour 28 = .ok (.invokevirtual 87, 3) := by decide +kernel
theorem dX12_endHour_31 : decode cX12_endHour 31 = .ok (.iconst 0, 1) := by decide +kernel
theorem dX12_endHour_32 : decode cX12_endHour 32 = .ok (.istore_n 1, 1) := by decide +kernel
theorem dX12_endHour_33 : decode cX12_endHour 33 = .ok (.iload_n 1, 1) := by decide +kernel
theorem dX12_endHour_34 : decode cX12_endHour 34 = .ok (.aload_n 0, 1) := by decide +kernel
theorem dX12_endHour_35 : decode cX12_endHour 35 = .ok (.getfield 13, 3) := by decide +kernel
theorem dX12_endHour_38 : decode cX12_endHour 38 = .ok (.bipush 50, 2) := by decide +kernel
theorem dX12_endHour_40 : decode cX12_endHour 40 = .ok (.iaload, 1) := by decide +kernel
theorem dX12_endHour_41 : decode cX12_endHour 41 = .ok (.if_icmp .ge 151, 3) := by decide +kernel
theorem dX12_endHour_44 : decode cX12_endHour 44 = .ok (.aload_n 0, 1) := by decide +kernel
theorem dX12_endHour_45 : decode cX12_endHour 45 = .ok (.invokevirtual 90, 3) := by decide +kernel
theorem dX12_endHour_48 : decode cX12_endHour 48 = .ok (.aload_n 0, 1) := by decide +kernel
theorem dX12_endHour_49 : decode cX12_endHour 49 = .ok (.getfield 13, 3) := by decide +kernel
theorem dX12_endHour_52 : decode cX12_endHour 52 = .ok (.bipush 49, 2) := by decide +kernel
theorem dX12_endHour_54 : decode cX12_endHour 54 = .ok (.iaload, 1) := by decide +kernel
theorem dX12_endHour_55 : decode cX12_endHour 55 = .ok (.ifCond .ne 15, 3) := by decide +kernel
theorem dX12_endHour_58 : decode cX12_endHour 58 = .ok (.aload_n 0, 1) := by decide +kernel
theorem dX12_endHour_59 : decode cX12_endHour 59 = .ok (.getfield 13, 3) := by decide +kernel
theorem dX12_endHour_62 : decode cX12_endHour 62 = .ok (.bipush 48, 2) := by decide +kernel
theorem dX12_endHour_64 : decode cX12_endHour 64 = .ok (.iaload, 1) := by decide +kernel
theorem dX12_endHour_65 : decode cX12_endHour 65 = .ok (.iconst 1, 1) := by decide +kernel
theorem dX12_endHour_66 : decode cX12_endHour 66 = .ok (.iadd, 1) := by decide +kernel
theorem dX12_endHour_67 : decode cX12_endHour 67 = .ok (.goto 12, 3) := by decide +kernel
theorem dX12_endHour_70 : decode cX12_endHour 70 = .ok (.aload_n 0, 1) := by decide +kernel
theorem dX12_endHour_71 : decode cX12_endHour 71 = .ok (.getfield 13, 3) := by decide +kernel
theorem dX12_endHour_74 : decode cX12_endHour 74 = .ok (.bipush 48, 2) := by decide +kernel
theorem dX12_endHour_76 : decode cX12_endHour 76 = .ok (.iaload, 1) := by decide +kernel
theorem dX12_endHour_77 : decode cX12_endHour 77 = .ok (.iconst 1, 1) := by decide +kernel
theorem dX12_endHour_78 : decode cX12_endHour 78 = .ok (.isub, 1) := by decide +kernel
theorem dX12_endHour_79 : decode cX12_endHour 79 = .ok (.istore_n 2, 1) := by decide +kernel
theorem dX12_endHour_80 : decode cX12_endHour 80 = .ok (.iconst 0, 1) := by decide +kernel
theorem dX12_endHour_81 : decode cX12_endHour 81 = .ok (.istore_n 3, 1) := by decide +kernel
theorem dX12_endHour_82 : decode cX12_endHour 82 = .ok (.iload_n 3, 1) := by decide +kernel
theorem dX12_endHour_83 : decode cX12_endHour 83 = .ok (.bipush 6, 2) := by decide +kernel
theorem dX12_endHour_85 : decode cX12_endHour 85 = .ok (.if_icmp .ge 101, 3) := by decide +kernel
theorem dX12_endHour_88 : decode cX12_endHour 88 = .ok (.aload_n 0, 1) := by decide +kernel
theorem dX12_endHour_89 : decode cX12_endHour 89 = .ok (.getfield 13, 3) := by decide +kernel
theorem dX12_endHour_92 : decode cX12_endHour 92 = .ok (.iload_n 3, 1) := by decide +kernel
theorem dX12_endHour_93 : decode cX12_endHour 93 = .ok (.iaload, 1) := by decide +kernel
theorem dX12_endHour_94 : decode cX12_endHour 94 = .ok (.aload_n 0, 1) := by decide +kernel
theorem dX12_endHour_95 : decode cX12_endHour 95 = .ok (.getfield 13, 3) := by decide +kernel
theorem dX12_endHour_98 : decode cX12_endHour 98 = .ok (.bipush 48, 2) := by decide +kernel
theorem dX12_endHour_100 : decode cX12_endHour 100 = .ok (.iaload, 1) := by decide +kernel
theorem dX12_endHour_101 : decode cX12_endHour 101 = .ok (.if_icmp .ne 79, 3) := by decide +kernel
theorem dX12_endHour_104 : decode cX12_endHour 104 = .ok (.aload_n 0, 1) := by decide +kernel
theorem dX12_endHour_105 : decode cX12_endHour 105 = .ok (.getfield 13, 3) := by decide +kernel
theorem dX12_endHour_108 : decode cX12_endHour 108 = .ok (.bipush 24, 2) := by decide +kernel
theorem dX12_endHour_110 : decode cX12_endHour 110 = .ok (.iload_n 3, 1) := by decide +kernel
theorem dX12_endHour_111 : decode cX12_endHour 111 = .ok (.iadd, 1) := by decide +kernel
theorem dX12_endHour_112 : decode cX12_endHour 112 = .ok (.iaload, 1) := by decide +kernel
theorem dX12_endHour_113 : decode cX12_endHour 113 = .ok (.ifCond .ge 67, 3) := by decide +kernel
theorem dX12_endHour_116 : decode cX12_endHour 116 = .ok (.aload_n 0, 1) := by decide +kernel
theorem dX12_endHour_117 : decode cX12_endHour 117 = .ok (.iload_n 3, 1) := by decide +kernel
theorem dX12_endHour_118 : decode cX12_endHour 118 = .ok (.invokevirtual 93, 3) := by decide +kernel
theorem dX12_endHour_121 : decode cX12_endHour 121 = .ok (.ifCond .ne 59, 3) := by decide +kernel
theorem dX12_endHour_124 : decode cX12_endHour 124 = .ok (.aload_n 0, 1) := by decide +kernel
theorem dX12_endHour_125 : decode cX12_endHour 125 = .ok (.getfield 13, 3) := by decide +kernel
theorem dX12_endHour_128 : decode cX12_endHour 128 = .ok (.bipush 24, 2) := by decide +kernel
theorem dX12_endHour_130 : decode cX12_endHour 130 = .ok (.iload_n 3, 1) := by decide +kernel
theorem dX12_endHour_131 : decode cX12_endHour 131 = .ok (.iadd, 1) := by decide +kernel
theorem dX12_endHour_132 : decode cX12_endHour 132 = .ok (.iload_n 2, 1) := by decide +kernel
theorem dX12_endHour_133 : decode cX12_endHour 133 = .ok (.invokestatic 70, 3) := by decide +kernel
theorem dX12_endHour_136 : decode cX12_endHour 136 = .ok (.ifCond .eq 7, 3) := by decide +kernel
theorem dX12_endHour_139 : decode cX12_endHour 139 = .ok (.iload_n 2, 1) := by decide +kernel
theorem dX12_endHour_140 : decode cX12_endHour 140 = .ok (.goto 10, 3) := by decide +kernel
theorem dX12_endHour_143 : decode cX12_endHour 143 = .ok (.aload_n 0, 1) := by decide +kernel
theorem dX12_endHour_144 : decode cX12_endHour 144 = .ok (.getfield 13, 3) := by decide +kernel
theorem dX12_endHour_147 : decode cX12_endHour 147 = .ok (.bipush 48, 2) := by decide +kernel
theorem dX12_endHour_149 : decode cX12_endHour 149 = .ok (.iaload, 1) := by decide +kernel
theorem dX12_endHour_150 : decode cX12_endHour 150 = .ok (.iastore, 1) := by decide +kernel
theorem dX12_endHour_151 : decode cX12_endHour 151 = .ok (.aload_n 0, 1) := by decide +kernel
theorem dX12_endHour_152 : decode cX12_endHour 152 = .ok (.dup, 1) := by decide +kernel
theorem dX12_endHour_153 : decode cX12_endHour 153 = .ok (.getfield 42, 3) := by decide +kernel
theorem dX12_endHour_156 : decode cX12_endHour 156 = .ok (.iconst 1, 1) := by decide +kernel
theorem dX12_endHour_157 : decode cX12_endHour 157 = .ok (.iadd, 1) := by decide +kernel
theorem dX12_endHour_158 : decode cX12_endHour 158 = .ok (.putfield 42, 3) := by decide +kernel
theorem dX12_endHour_161 : decode cX12_endHour 161 = .ok (.aload_n 0, 1) := by decide +kernel
theorem dX12_endHour_162 : decode cX12_endHour 162 = .ok (.aload_n 0, 1) := by decide +kernel
theorem dX12_endHour_163 : decode cX12_endHour 163 = .ok (.getfield 52, 3) := by decide +kernel
theorem dX12_endHour_166 : decode cX12_endHour 166 = .ok (.ifCond .ge 7, 3) := by decide +kernel
theorem dX12_endHour_169 : decode cX12_endHour 169 = .ok (.iload_n 3, 1) := by decide +kernel
theorem dX12_endHour_170 : decode cX12_endHour 170 = .ok (.goto 7, 3) := by decide +kernel
theorem dX12_endHour_173 : decode cX12_endHour 173 = .ok (.aload_n 0, 1) := by decide +kernel
theorem dX12_endHour_174 : decode cX12_endHour 174 = .ok (.getfield 52, 3) := by decide +kernel
theorem dX12_endHour_177 : decode cX12_endHour 177 = .ok (.putfield 52, 3) := by decide +kernel
theorem dX12_endHour_180 : decode cX12_endHour 180 = .ok (.iinc 3 1, 3) := by decide +kernel
theorem dX12_endHour_183 : decode cX12_endHour 183 = .ok (.goto (-101), 3) := by decide +kernel
theorem dX12_endHour_186 : decode cX12_endHour 186 = .ok (.iinc 1 1, 3) := by decide +kernel
theorem dX12_endHour_189 : decode cX12_endHour 189 = .ok (.goto (-156), 3) := by decide +kernel
theorem dX12_endHour_192 : decode cX12_endHour 192 = .ok (.iconst 0, 1) := by decide +kernel
theorem dX12_endHour_193 : decode cX12_endHour 193 = .ok (.ireturn, 1) := by decide +kernel
set_option maxRecDepth 20000 in
theorem ggX12_oneAct_X12_walk : GoodIn wsX12_oneAct wsX12_walk := goodIn_r _ [6, 7, 8, 9, 10, 5, 11, 12, 13, 14, 15, 16, 17, 38, 39, 40, 41, 42, 43, 44, 45, 46, 47, 48, 49, 50, 51, 52, 53, 54] (by decide +kernel) (by decide +kernel)
set_option maxRecDepth 20000 in
theorem gX12_oneAct_X12_walk : GoodIn wsX12_oneAct (wsV RX12 96 RX12 yX12_walk wsX12_walk) := goodIn_app (goodIn_of _ (by decide +kernel)) ggX12_oneAct_X12_walk
set_option maxRecDepth 20000 in
theorem ggX12_oneAct_X12_pay : GoodIn wsX12_oneAct wsX12_pay := goodIn_r _ [21, 7, 38, 39, 40, 41, 42, 43, 44, 45, 46, 47, 48, 49, 50, 51, 52, 53, 54] (by decide +kernel) (by decide +kernel)
set_option maxRecDepth 20000 in
theorem gX12_oneAct_X12_pay : GoodIn wsX12_oneAct (wsV RX12 99 RX12 yX12_pay wsX12_pay) := goodIn_app (goodIn_of _ (by decide +kernel)) ggX12_oneAct_X12_pay
set_option maxRecDepth 20000 in
theorem ggX12_oneAct_X12_putOn : GoodIn wsX12_oneAct wsX12_putOn := goodIn_r _ [25, 7, 8, 9, 10, 5, 11, 38, 39, 40, 41, 42, 43, 44, 45, 46, 47, 48, 49, 50, 51, 52, 53, 54] (by decide +kernel) (by decide +kernel)
set_option maxRecDepth 20000 in
theorem gX12_oneAct_X12_putOn : GoodIn wsX12_oneAct (wsV RX12 102 RX12 yX12_putOn wsX12_putOn) := goodIn_app (goodIn_of _ (by decide +kernel)) ggX12_oneAct_X12_putOn
set_option maxRecDepth 20000 in
theorem ggX12_oneAct_X12_hold : GoodIn wsX12_oneAct wsX12_hold := goodIn_r _ [29, 7, 8, 9, 10, 5, 11, 38, 39, 40, 41, 42, 43, 44, 45, 46, 47, 48, 49, 50, 51, 52, 53, 54] (by decide +kernel) (by decide +kernel)
set_option maxRecDepth 20000 in
theorem gX12_oneAct_X12_hold : GoodIn wsX12_oneAct (wsV RX12 105 RX12 yX12_hold wsX12_hold) := goodIn_app (goodIn_of _ (by decide +kernel)) ggX12_oneAct_X12_hold
set_option maxRecDepth 20000 in
theorem ggX12_oneAct_X12_letGo : GoodIn wsX12_oneAct wsX12_letGo := goodIn_r _ [33, 7, 38, 39, 40, 41, 42, 43, 44, 45, 46, 47, 48, 49, 50, 51, 52, 53, 54] (by decide +kernel) (by decide +kernel)
set_option maxRecDepth 20000 in
theorem gX12_oneAct_X12_letGo : GoodIn wsX12_oneAct (wsV RX12 108 RX12 yX12_letGo wsX12_letGo) := goodIn_app (goodIn_of _ (by decide +kernel)) ggX12_oneAct_X12_letGo
set_option maxRecDepth 20000 in
theorem ggX12_oneAct_X12_state : GoodIn wsX12_oneAct wsX12_state := goodIn_r _ [37, 7, 38, 39, 40, 41, 42, 43, 44, 45, 46, 47, 48, 49, 50, 51, 52, 53, 54] (by decide +kernel) (by decide +kernel)
set_option maxRecDepth 20000 in
theorem gX12_oneAct_X12_state : GoodIn wsX12_oneAct (wsV RX12 111 RX12 yX12_state wsX12_state) := goodIn_app (goodIn_of _ (by decide +kernel)) ggX12_oneAct_X12_state
theorem dX12_oneAct_0 : decode cX12_oneAct 0 = .ok (.aload_n 0, 1) := by decide +kernel
theorem dX12_oneAct_1 : decode cX12_oneAct 1 = .ok (.getfield 19, 3) := by decide +kernel
theorem dX12_oneAct_4 : decode cX12_oneAct 4 = .ok (.iload_n 1, 1) := by decide +kernel
theorem dX12_oneAct_5 : decode cX12_oneAct 5 = .ok (.iaload, 1) := by decide +kernel
theorem dX12_oneAct_6 : decode cX12_oneAct 6 = .ok (.bipush 65, 2) := by decide +kernel
theorem dX12_oneAct_8 : decode cX12_oneAct 8 = .ok (.isub, 1) := by decide +kernel
theorem dX12_oneAct_9 : decode cX12_oneAct 9 = .ok (.istore_n 2, 1) := by decide +kernel
theorem dX12_oneAct_10 : decode cX12_oneAct 10 = .ok (.aload_n 0, 1) := by decide +kernel
theorem dX12_oneAct_11 : decode cX12_oneAct 11 = .ok (.getfield 19, 3) := by decide +kernel
theorem dX12_oneAct_14 : decode cX12_oneAct 14 = .ok (.iload_n 1, 1) := by decide +kernel
theorem dX12_oneAct_15 : decode cX12_oneAct 15 = .ok (.iconst 1, 1) := by decide +kernel
theorem dX12_oneAct_16 : decode cX12_oneAct 16 = .ok (.iadd, 1) := by decide +kernel
theorem dX12_oneAct_17 : decode cX12_oneAct 17 = .ok (.iaload, 1) := by decide +kernel
theorem dX12_oneAct_18 : decode cX12_oneAct 18 = .ok (.istore_n 3, 1) := by decide +kernel
theorem dX12_oneAct_19 : decode cX12_oneAct 19 = .ok (.iload_n 3, 1) := by decide +kernel
theorem dX12_oneAct_20 : decode cX12_oneAct 20 = .ok (.lookupswitch 140 #[(38, 117), (60, 83), (62, 76), (94, 111), (102, 97), (103, 90), (115, 104), (124, 134)], 76) := by decide +kernel
theorem dX12_oneAct_96 : decode cX12_oneAct 96 = .ok (.aload_n 0, 1) := by decide +kernel
theorem dX12_oneAct_97 : decode cX12_oneAct 97 = .ok (.iload_n 2, 1) := by decide +kernel
theorem dX12_oneAct_98 : decode cX12_oneAct 98 = .ok (.iconst 1, 1) := by decide +kernel
theorem dX12_oneAct_99 : decode cX12_oneAct 99 = .ok (.invokevirtual 96, 3) := by decide +kernel
theorem dX12_oneAct_102 : decode cX12_oneAct 102 = .ok (.ireturn, 1) := by decide +kernel
theorem dX12_oneAct_103 : decode cX12_oneAct 103 = .ok (.aload_n 0, 1) := by decide +kernel
theorem dX12_oneAct_104 : decode cX12_oneAct 104 = .ok (.iload_n 2, 1) := by decide +kernel
theorem dX12_oneAct_105 : decode cX12_oneAct 105 = .ok (.iconst (-1), 1) := by decide +kernel
theorem dX12_oneAct_106 : decode cX12_oneAct 106 = .ok (.invokevirtual 96, 3) := by decide +kernel
theorem dX12_oneAct_109 : decode cX12_oneAct 109 = .ok (.ireturn, 1) := by decide +kernel
theorem dX12_oneAct_110 : decode cX12_oneAct 110 = .ok (.aload_n 0, 1) := by decide +kernel
theorem dX12_oneAct_111 : decode cX12_oneAct 111 = .ok (.iload_n 2, 1) := by decide +kernel
theorem dX12_oneAct_112 : decode cX12_oneAct 112 = .ok (.iconst 0, 1) := by decide +kernel
theorem dX12_oneAct_113 : decode cX12_oneAct 113 = .ok (.invokevirtual 99, 3) := by decide +kernel
theorem dX12_oneAct_116 : decode cX12_oneAct 116 = .ok (.ireturn, 1) := by decide +kernel
theorem dX12_oneAct_117 : decode cX12_oneAct 117 = .ok (.aload_n 0, 1) := by decide +kernel
theorem dX12_oneAct_118 : decode cX12_oneAct 118 = .ok (.iload_n 2, 1) := by decide +kernel
theorem dX12_oneAct_119 : decode cX12_oneAct 119 = .ok (.iconst 1, 1) := by decide +kernel
theorem dX12_oneAct_120 : decode cX12_oneAct 120 = .ok (.invokevirtual 99, 3) := by decide +kernel
theorem dX12_oneAct_123 : decode cX12_oneAct 123 = .ok (.ireturn, 1) := by decide +kernel
theorem dX12_oneAct_124 : decode cX12_oneAct 124 = .ok (.aload_n 0, 1) := by decide +kernel
theorem dX12_oneAct_125 : decode cX12_oneAct 125 = .ok (.iload_n 2, 1) := by decide +kernel
theorem dX12_oneAct_126 : decode cX12_oneAct 126 = .ok (.iconst 2, 1) := by decide +kernel
theorem dX12_oneAct_127 : decode cX12_oneAct 127 = .ok (.invokevirtual 99, 3) := by decide +kernel
theorem dX12_oneAct_130 : decode cX12_oneAct 130 = .ok (.ireturn, 1) := by decide +kernel
theorem dX12_oneAct_131 : decode cX12_oneAct 131 = .ok (.aload_n 0, 1) := by decide +kernel
theorem dX12_oneAct_132 : decode cX12_oneAct 132 = .ok (.iload_n 2, 1) := by decide +kernel
theorem dX12_oneAct_133 : decode cX12_oneAct 133 = .ok (.invokevirtual 102, 3) := by decide +kernel
theorem dX12_oneAct_136 : decode cX12_oneAct 136 = .ok (.ireturn, 1) := by decide +kernel
theorem dX12_oneAct_137 : decode cX12_oneAct 137 = .ok (.aload_n 0, 1) := by decide +kernel
theorem dX12_oneAct_138 : decode cX12_oneAct 138 = .ok (.iload_n 2, 1) := by decide +kernel
theorem dX12_oneAct_139 : decode cX12_oneAct 139 = .ok (.aload_n 0, 1) := by decide +kernel
theorem dX12_oneAct_140 : decode cX12_oneAct 140 = .ok (.getfield 19, 3) := by decide +kernel
theorem dX12_oneAct_143 : decode cX12_oneAct 143 = .ok (.iload_n 1, 1) := by decide +kernel
theorem dX12_oneAct_144 : decode cX12_oneAct 144 = .ok (.iconst 2, 1) := by decide +kernel
theorem dX12_oneAct_145 : decode cX12_oneAct 145 = .ok (.iadd, 1) := by decide +kernel
theorem dX12_oneAct_146 : decode cX12_oneAct 146 = .ok (.iaload, 1) := by decide +kernel
theorem dX12_oneAct_147 : decode cX12_oneAct 147 = .ok (.bipush 65, 2) := by decide +kernel
theorem dX12_oneAct_149 : decode cX12_oneAct 149 = .ok (.isub, 1) := by decide +kernel
theorem dX12_oneAct_150 : decode cX12_oneAct 150 = .ok (.invokevirtual 105, 3) := by decide +kernel
theorem dX12_oneAct_153 : decode cX12_oneAct 153 = .ok (.ireturn, 1) := by decide +kernel
theorem dX12_oneAct_154 : decode cX12_oneAct 154 = .ok (.aload_n 0, 1) := by decide +kernel
theorem dX12_oneAct_155 : decode cX12_oneAct 155 = .ok (.iload_n 2, 1) := by decide +kernel
theorem dX12_oneAct_156 : decode cX12_oneAct 156 = .ok (.invokevirtual 108, 3) := by decide +kernel
theorem dX12_oneAct_159 : decode cX12_oneAct 159 = .ok (.ireturn, 1) := by decide +kernel
theorem dX12_oneAct_160 : decode cX12_oneAct 160 = .ok (.aload_n 0, 1) := by decide +kernel
theorem dX12_oneAct_161 : decode cX12_oneAct 161 = .ok (.iload_n 2, 1) := by decide +kernel
theorem dX12_oneAct_162 : decode cX12_oneAct 162 = .ok (.iload_n 3, 1) := by decide +kernel
theorem dX12_oneAct_163 : decode cX12_oneAct 163 = .ok (.bipush 48, 2) := by decide +kernel
theorem dX12_oneAct_165 : decode cX12_oneAct 165 = .ok (.isub, 1) := by decide +kernel
theorem dX12_oneAct_166 : decode cX12_oneAct 166 = .ok (.invokevirtual 111, 3) := by decide +kernel
theorem dX12_oneAct_169 : decode cX12_oneAct 169 = .ok (.ireturn, 1) := by decide +kernel
set_option maxRecDepth 20000 in
theorem ggX12_goDays_X12_asNow : GoodIn wsX12_goDays wsX12_asNow := goodIn_r _ [12, 13, 14, 15, 6, 7, 3, 84, 85, 86, 87, 88, 89, 90, 91, 92, 93, 94, 95, 96, 97, 98, 99, 100] (by decide +kernel) (by decide +kernel)
set_option maxRecDepth 20000 in
theorem gX12_goDays_X12_asNow : GoodIn wsX12_goDays (wsV RX12 114 RX12 yX12_asNow wsX12_asNow) := goodIn_app (goodIn_of _ (by decide +kernel)) ggX12_goDays_X12_asNow
set_option maxRecDepth 20000 in
theorem ggX12_goDays_X12_gust : GoodIn wsX12_goDays wsX12_gust := goodIn_r _ [19, 13, 84, 85, 86, 87, 88, 89, 90, 91, 92, 93, 94, 95, 96, 97, 98, 99, 100] (by decide +kernel) (by decide +kernel)
set_option maxRecDepth 20000 in
theorem gX12_goDays_X12_gust : GoodIn wsX12_goDays (wsV RX12 120 RX12 yX12_gust wsX12_gust) := goodIn_app (goodIn_of _ (by decide +kernel)) ggX12_goDays_X12_gust
set_option maxRecDepth 20000 in
theorem ggX12_goDays_X12_endHour : GoodIn wsX12_goDays wsX12_endHour := goodIn_r _ [23, 13, 15, 3, 24, 25, 26, 11, 27, 28, 29, 30, 31, 32, 33, 34, 35, 36, 37, 38, 39, 40, 41, 42, 43, 44, 45, 46, 47, 48, 49, 50, 51, 52, 53, 54, 55, 84, 85, 86, 87, 88, 89, 90, 91, 92, 93, 94, 95, 96, 97, 98, 99, 100] (by decide +kernel) (by decide +kernel)
set_option maxRecDepth 20000 in
theorem gX12_goDays_X12_endHour : GoodIn wsX12_goDays (wsV RX12 123 RX12 yX12_endHour wsX12_endHour) := goodIn_app (goodIn_of _ (by decide +kernel)) ggX12_goDays_X12_endHour
set_option maxRecDepth 20000 in
theorem ggX12_goDays_X12_oneAct : GoodIn wsX12_goDays wsX12_oneAct := goodIn_r _ [59, 4, 60, 61, 62, 11, 63, 13, 52, 53, 54, 55, 35, 36, 37, 38, 39, 40, 64, 65, 66, 67, 68, 69, 70, 71, 72, 73, 74, 75, 76, 77, 78, 79, 80, 81, 82, 83, 84, 85, 86, 87, 88, 89, 90, 91, 92, 93, 94, 95, 96, 97, 98, 99, 100] (by decide +kernel) (by decide +kernel)
set_option maxRecDepth 20000 in
theorem gX12_goDays_X12_oneAct : GoodIn wsX12_goDays (wsV RX12 126 RX12 yX12_oneAct wsX12_oneAct) := goodIn_app (goodIn_of _ (by decide +kernel)) ggX12_goDays_X12_oneAct
theorem dX12_goDays_0 : decode cX12_goDays 0 = .ok (.aload_n 0, 1) := by decide +kernel
theorem dX12_goDays_1 : decode cX12_goDays 1 = .ok (.invokevirtual 114, 3) := by decide +kernel
theorem dX12_goDays_4 : decode cX12_goDays 4 = .ok (.aload_n 0, 1) := by decide +kernel
theorem dX12_goDays_5 : decode cX12_goDays 5 = .ok (.iconst 0, 1) := by decide +kernel
theorem dX12_goDays_6 : decode cX12_goDays 6 = .ok (.putfield 117, 3) := by decide +kernel
theorem dX12_goDays_9 : decode cX12_goDays 9 = .ok (.iconst 0, 1) := by decide +kernel
theorem dX12_goDays_10 : decode cX12_goDays 10 = .ok (.istore_n 1, 1) := by decide +kernel
theorem dX12_goDays_11 : decode cX12_goDays 11 = .ok (.iload_n 1, 1) := by decide +kernel
theorem dX12_goDays_12 : decode cX12_goDays 12 = .ok (.aload_n 0, 1) := by decide +kernel
theorem dX12_goDays_13 : decode cX12_goDays 13 = .ok (.getfield 73, 3) := by decide +kernel
theorem dX12_goDays_16 : decode cX12_goDays 16 = .ok (.if_icmp .ge 159, 3) := by decide +kernel
theorem dX12_goDays_19 : decode cX12_goDays 19 = .ok (.aload_n 0, 1) := by decide +kernel
theorem dX12_goDays_20 : decode cX12_goDays 20 = .ok (.bipush (-6), 2) := by decide +kernel
theorem dX12_goDays_22 : decode cX12_goDays 22 = .ok (.putfield 52, 3) := by decide +kernel
theorem dX12_goDays_25 : decode cX12_goDays 25 = .ok (.aload_n 0, 1) := by decide +kernel
theorem dX12_goDays_26 : decode cX12_goDays 26 = .ok (.getfield 19, 3) := by decide +kernel
theorem dX12_goDays_29 : decode cX12_goDays 29 = .ok (.iload_n 1, 1) := by decide +kernel
theorem dX12_goDays_30 : decode cX12_goDays 30 = .ok (.iaload, 1) := by decide +kernel
theorem dX12_goDays_31 : decode cX12_goDays 31 = .ok (.bipush 33, 2) := by decide +kernel
theorem dX12_goDays_33 : decode cX12_goDays 33 = .ok (.if_icmp .eq 14, 3) := by decide +kernel
theorem dX12_goDays_36 : decode cX12_goDays 36 = .ok (.aload_n 0, 1) := by decide +kernel
theorem dX12_goDays_37 : decode cX12_goDays 37 = .ok (.getfield 19, 3) := by decide +kernel
theorem dX12_goDays_40 : decode cX12_goDays 40 = .ok (.iload_n 1, 1) := by decide +kernel
theorem dX12_goDays_41 : decode cX12_goDays 41 = .ok (.iaload, 1) := by decide +kernel
theorem dX12_goDays_42 : decode cX12_goDays 42 = .ok (.bipush 46, 2) := by decide +kernel
theorem dX12_goDays_44 : decode cX12_goDays 44 = .ok (.if_icmp .ne 7, 3) := by decide +kernel
theorem dX12_goDays_47 : decode cX12_goDays 47 = .ok (.iconst 1, 1) := by decide +kernel
theorem dX12_goDays_48 : decode cX12_goDays 48 = .ok (.goto 4, 3) := by decide +kernel
theorem dX12_goDays_51 : decode cX12_goDays 51 = .ok (.iconst 0, 1) := by decide +kernel
theorem dX12_goDays_52 : decode cX12_goDays 52 = .ok (.istore_n 2, 1) := by decide +kernel
theorem dX12_goDays_53 : decode cX12_goDays 53 = .ok (.aload_n 0, 1) := by decide +kernel
theorem dX12_goDays_54 : decode cX12_goDays 54 = .ok (.aload_n 0, 1) := by decide +kernel
theorem dX12_goDays_55 : decode cX12_goDays 55 = .ok (.getfield 19, 3) := by decide +kernel
theorem dX12_goDays_58 : decode cX12_goDays 58 = .ok (.iload_n 1, 1) := by decide +kernel
theorem dX12_goDays_59 : decode cX12_goDays 59 = .ok (.iaload, 1) := by decide +kernel
theorem dX12_goDays_60 : decode cX12_goDays 60 = .ok (.bipush 33, 2) := by decide +kernel
theorem dX12_goDays_62 : decode cX12_goDays 62 = .ok (.if_icmp .ne 10, 3) := by decide +kernel
theorem dX12_goDays_65 : decode cX12_goDays 65 = .ok (.aload_n 0, 1) := by decide +kernel
theorem dX12_goDays_66 : decode cX12_goDays 66 = .ok (.invokevirtual 120, 3) := by decide +kernel
theorem dX12_goDays_69 : decode cX12_goDays 69 = .ok (.goto 19, 3) := by decide +kernel
theorem dX12_goDays_72 : decode cX12_goDays 72 = .ok (.iload_n 2, 1) := by decide +kernel
theorem dX12_goDays_73 : decode cX12_goDays 73 = .ok (.ifCond .eq 10, 3) := by decide +kernel
theorem dX12_goDays_76 : decode cX12_goDays 76 = .ok (.aload_n 0, 1) := by decide +kernel
theorem dX12_goDays_77 : decode cX12_goDays 77 = .ok (.invokevirtual 123, 3) := by decide +kernel
theorem dX12_goDays_80 : decode cX12_goDays 80 = .ok (.goto 8, 3) := by decide +kernel
theorem dX12_goDays_83 : decode cX12_goDays 83 = .ok (.aload_n 0, 1) := by decide +kernel
theorem dX12_goDays_84 : decode cX12_goDays 84 = .ok (.iload_n 1, 1) := by decide +kernel
theorem dX12_goDays_85 : decode cX12_goDays 85 = .ok (.invokevirtual 126, 3) := by decide +kernel
theorem dX12_goDays_88 : decode cX12_goDays 88 = .ok (.putfield 129, 3) := by decide +kernel
theorem dX12_goDays_91 : decode cX12_goDays 91 = .ok (.iload_n 1, 1) := by decide +kernel
theorem dX12_goDays_92 : decode cX12_goDays 92 = .ok (.iload_n 2, 1) := by decide +kernel
theorem dX12_goDays_93 : decode cX12_goDays 93 = .ok (.ifCond .eq 7, 3) := by decide +kernel
theorem dX12_goDays_96 : decode cX12_goDays 96 = .ok (.iconst 1, 1) := by decide +kernel
theorem dX12_goDays_97 : decode cX12_goDays 97 = .ok (.goto 21, 3) := by decide +kernel
theorem dX12_goDays_100 : decode cX12_goDays 100 = .ok (.aload_n 0, 1) := by decide +kernel
theorem dX12_goDays_101 : decode cX12_goDays 101 = .ok (.getfield 19, 3) := by decide +kernel
theorem dX12_goDays_104 : decode cX12_goDays 104 = .ok (.iload_n 1, 1) := by decide +kernel
theorem dX12_goDays_105 : decode cX12_goDays 105 = .ok (.iconst 1, 1) := by decide +kernel
theorem dX12_goDays_106 : decode cX12_goDays 106 = .ok (.iadd, 1) := by decide +kernel
theorem dX12_goDays_107 : decode cX12_goDays 107 = .ok (.iaload, 1) := by decide +kernel
theorem dX12_goDays_108 : decode cX12_goDays 108 = .ok (.bipush 38, 2) := by decide +kernel
theorem dX12_goDays_110 : decode cX12_goDays 110 = .ok (.if_icmp .ne 7, 3) := by decide +kernel
theorem dX12_goDays_113 : decode cX12_goDays 113 = .ok (.iconst 3, 1) := by decide +kernel
theorem dX12_goDays_114 : decode cX12_goDays 114 = .ok (.goto 4, 3) := by decide +kernel
theorem dX12_goDays_117 : decode cX12_goDays 117 = .ok (.iconst 2, 1) := by decide +kernel
theorem dX12_goDays_118 : decode cX12_goDays 118 = .ok (.iadd, 1) := by decide +kernel
theorem dX12_goDays_119 : decode cX12_goDays 119 = .ok (.istore_n 1, 1) := by decide +kernel
theorem dX12_goDays_120 : decode cX12_goDays 120 = .ok (.aload_n 0, 1) := by decide +kernel
theorem dX12_goDays_121 : decode cX12_goDays 121 = .ok (.getfield 129, 3) := by decide +kernel
theorem dX12_goDays_124 : decode cX12_goDays 124 = .ok (.ifCond .le 8, 3) := by decide +kernel
theorem dX12_goDays_127 : decode cX12_goDays 127 = .ok (.aload_n 0, 1) := by decide +kernel
theorem dX12_goDays_128 : decode cX12_goDays 128 = .ok (.getfield 117, 3) := by decide +kernel
theorem dX12_goDays_131 : decode cX12_goDays 131 = .ok (.ireturn, 1) := by decide +kernel
theorem dX12_goDays_132 : decode cX12_goDays 132 = .ok (.aload_n 0, 1) := by decide +kernel
theorem dX12_goDays_133 : decode cX12_goDays 133 = .ok (.getfield 52, 3) := by decide +kernel
theorem dX12_goDays_136 : decode cX12_goDays 136 = .ok (.ifCond .lt 26, 3) := by decide +kernel
theorem dX12_goDays_139 : decode cX12_goDays 139 = .ok (.aload_n 0, 1) := by decide +kernel
theorem dX12_goDays_140 : decode cX12_goDays 140 = .ok (.getfield 46, 3) := by decide +kernel
theorem dX12_goDays_143 : decode cX12_goDays 143 = .ok (.ifCond .ge 19, 3) := by decide +kernel
theorem dX12_goDays_146 : decode cX12_goDays 146 = .ok (.aload_n 0, 1) := by decide +kernel
theorem dX12_goDays_147 : decode cX12_goDays 147 = .ok (.aload_n 0, 1) := by decide +kernel
theorem dX12_goDays_148 : decode cX12_goDays 148 = .ok (.getfield 117, 3) := by decide +kernel
theorem dX12_goDays_151 : decode cX12_goDays 151 = .ok (.putfield 46, 3) := by decide +kernel
theorem dX12_goDays_154 : decode cX12_goDays 154 = .ok (.aload_n 0, 1) := by decide +kernel
theorem dX12_goDays_155 : decode cX12_goDays 155 = .ok (.aload_n 0, 1) := by decide +kernel
theorem dX12_goDays_156 : decode cX12_goDays 156 = .ok (.getfield 52, 3) := by decide +kernel
theorem dX12_goDays_159 : decode cX12_goDays 159 = .ok (.putfield 49, 3) := by decide +kernel
theorem dX12_goDays_162 : decode cX12_goDays 162 = .ok (.aload_n 0, 1) := by decide +kernel
theorem dX12_goDays_163 : decode cX12_goDays 163 = .ok (.dup, 1) := by decide +kernel
theorem dX12_goDays_164 : decode cX12_goDays 164 = .ok (.getfield 117, 3) := by decide +kernel
theorem dX12_goDays_167 : decode cX12_goDays 167 = .ok (.iconst 1, 1) := by decide +kernel
theorem dX12_goDays_168 : decode cX12_goDays 168 = .ok (.iadd, 1) := by decide +kernel
theorem dX12_goDays_169 : decode cX12_goDays 169 = .ok (.putfield 117, 3) := by decide +kernel
theorem dX12_goDays_172 : decode cX12_goDays 172 = .ok (.goto (-161), 3) := by decide +kernel
theorem dX12_goDays_175 : decode cX12_goDays 175 = .ok (.bipush (-6), 2) := by decide +kernel
theorem dX12_goDays_177 : decode cX12_goDays 177 = .ok (.ireturn, 1) := by decide +kernel
set_option maxRecDepth 20000 in
theorem ggX12_judge_X12_in : GoodIn wsX12_judge wsX12_in := goodIn_r _ [5] (by decide +kernel) (by decide +kernel)
set_option maxRecDepth 20000 in
theorem gX12_judge_X12_in : GoodIn wsX12_judge (va_wsS RX12 38 yX12_in wsX12_in) := goodIn_app (goodIn_of _ (by decide +kernel)) ggX12_judge_X12_in
set_option maxRecDepth 20000 in
theorem ggX12_judge_X12_faultOf : GoodIn wsX12_judge wsX12_faultOf := goodIn_r _ [9, 10, 11, 12, 13, 4, 14, 2, 3, 5, 95, 96, 97, 98, 99, 100, 101, 102, 103, 104, 105, 106, 107, 108, 109, 110, 111] (by decide +kernel) (by decide +kernel)
set_option maxRecDepth 20000 in
theorem gX12_judge_X12_faultOf : GoodIn wsX12_judge (wsV RX12 80 RX12 yX12_faultOf wsX12_faultOf) := goodIn_app (goodIn_of _ (by decide +kernel)) ggX12_judge_X12_faultOf
set_option maxRecDepth 20000 in
theorem ggX12_judge_X12_goDays : GoodIn wsX12_judge wsX12_goDays := goodIn_r _ [18, 19, 10, 20, 11, 1, 21, 22, 23, 24, 25, 4, 26, 27, 28, 29, 30, 31, 32, 33, 34, 35, 36, 37, 38, 39, 40, 41, 42, 43, 44, 45, 46, 47, 48, 49, 50, 51, 2, 3, 5, 52, 53, 54, 55, 56, 57, 58, 59, 60, 61, 62, 63, 64, 65, 66, 67, 68, 69, 70, 71, 72, 73, 74, 75, 76, 77, 78, 79, 80, 81, 82, 83, 84, 85, 86, 87, 88, 89, 90, 91, 92, 93, 94, 95, 96, 97, 98, 99, 100, 101, 102, 103, 104, 105, 106, 107, 108, 109, 110, 111] (by decide +kernel) (by decide +kernel)
set_option maxRecDepth 20000 in
theorem gX12_judge_X12_goDays : GoodIn wsX12_judge (wsV RX12 132 RX12 yX12_goDays wsX12_goDays) := goodIn_app (goodIn_of _ (by decide +kernel)) ggX12_judge_X12_goDays
theorem dX12_judge_0 : decode cX12_judge 0 = .ok (.iload_n 1, 1) := by decide +kernel
theorem dX12_judge_1 : decode cX12_judge 1 = .ok (.iconst 0, 1) := by decide +kernel
theorem dX12_judge_2 : decode cX12_judge 2 = .ok (.iconst 1, 1) := by decide +kernel
theorem dX12_judge_3 : decode cX12_judge 3 = .ok (.invokestatic 38, 3) := by decide +kernel
theorem dX12_judge_6 : decode cX12_judge 6 = .ok (.ifCond .ne 6, 3) := by decide +kernel
theorem dX12_judge_9 : decode cX12_judge 9 = .ok (.bipush (-2), 2) := by decide +kernel
theorem dX12_judge_11 : decode cX12_judge 11 = .ok (.ireturn, 1) := by decide +kernel
theorem dX12_judge_12 : decode cX12_judge 12 = .ok (.aload_n 0, 1) := by decide +kernel
theorem dX12_judge_13 : decode cX12_judge 13 = .ok (.invokevirtual 80, 3) := by decide +kernel
theorem dX12_judge_16 : decode cX12_judge 16 = .ok (.ifCond .lt 6, 3) := by decide +kernel
theorem dX12_judge_19 : decode cX12_judge 19 = .ok (.bipush (-5), 2) := by decide +kernel
theorem dX12_judge_21 : decode cX12_judge 21 = .ok (.ireturn, 1) := by decide +kernel
theorem dX12_judge_22 : decode cX12_judge 22 = .ok (.aload_n 0, 1) := by decide +kernel
theorem dX12_judge_23 : decode cX12_judge 23 = .ok (.invokevirtual 132, 3) := by decide +kernel
theorem dX12_judge_26 : decode cX12_judge 26 = .ok (.istore_n 2, 1) := by decide +kernel
theorem dX12_judge_27 : decode cX12_judge 27 = .ok (.iload_n 2, 1) := by decide +kernel
theorem dX12_judge_28 : decode cX12_judge 28 = .ok (.ifCond .lt 7, 3) := by decide +kernel
theorem dX12_judge_31 : decode cX12_judge 31 = .ok (.iload_n 1, 1) := by decide +kernel
theorem dX12_judge_32 : decode cX12_judge 32 = .ok (.ifCond .ne 7, 3) := by decide +kernel
theorem dX12_judge_35 : decode cX12_judge 35 = .ok (.iload_n 2, 1) := by decide +kernel
theorem dX12_judge_36 : decode cX12_judge 36 = .ok (.goto 7, 3) := by decide +kernel
theorem dX12_judge_39 : decode cX12_judge 39 = .ok (.aload_n 0, 1) := by decide +kernel
theorem dX12_judge_40 : decode cX12_judge 40 = .ok (.getfield 129, 3) := by decide +kernel
theorem dX12_judge_43 : decode cX12_judge 43 = .ok (.ireturn, 1) := by decide +kernel
set_option maxRecDepth 20000 in
theorem ggX12_barOfDays_X12_faultOf : GoodIn wsX12_barOfDays wsX12_faultOf := goodIn_r _ [5, 6, 7, 8, 9, 4, 10, 11, 12, 13, 95, 96, 97, 98, 99, 100, 101, 102, 103, 104, 105, 106, 107, 108, 109, 110, 111] (by decide +kernel) (by decide +kernel)
set_option maxRecDepth 20000 in
theorem gX12_barOfDays_X12_faultOf : GoodIn wsX12_barOfDays (wsV RX12 80 RX12 yX12_faultOf wsX12_faultOf) := goodIn_app (goodIn_of _ (by decide +kernel)) ggX12_barOfDays_X12_faultOf
set_option maxRecDepth 20000 in
theorem ggX12_barOfDays_X12_goDays : GoodIn wsX12_barOfDays wsX12_goDays := goodIn_r _ [17, 18, 6, 19, 7, 20, 21, 22, 23, 24, 25, 4, 26, 27, 28, 29, 30, 31, 32, 33, 34, 35, 36, 37, 38, 39, 40, 41, 42, 43, 44, 45, 46, 47, 48, 49, 50, 51, 11, 12, 13, 52, 53, 54, 55, 56, 57, 58, 59, 60, 61, 62, 63, 64, 65, 66, 67, 68, 69, 70, 71, 72, 73, 74, 75, 76, 77, 78, 79, 80, 81, 82, 83, 84, 85, 86, 87, 88, 89, 90, 91, 92, 93, 94, 95, 96, 97, 98, 99, 100, 101, 102, 103, 104, 105, 106, 107, 108, 109, 110, 111] (by decide +kernel) (by decide +kernel)
set_option maxRecDepth 20000 in
theorem gX12_barOfDays_X12_goDays : GoodIn wsX12_barOfDays (wsV RX12 132 RX12 yX12_goDays wsX12_goDays) := goodIn_app (goodIn_of _ (by decide +kernel)) ggX12_barOfDays_X12_goDays
theorem dX12_barOfDays_0 : decode cX12_barOfDays 0 = .ok (.aload_n 0, 1) := by decide +kernel
theorem dX12_barOfDays_1 : decode cX12_barOfDays 1 = .ok (.invokevirtual 80, 3) := by decide +kernel
theorem dX12_barOfDays_4 : decode cX12_barOfDays 4 = .ok (.ifCond .ge 10, 3) := by decide +kernel
theorem dX12_barOfDays_7 : decode cX12_barOfDays 7 = .ok (.aload_n 0, 1) := by decide +kernel
theorem dX12_barOfDays_8 : decode cX12_barOfDays 8 = .ok (.invokevirtual 132, 3) := by decide +kernel
theorem dX12_barOfDays_11 : decode cX12_barOfDays 11 = .ok (.ifCond .lt 8, 3) := by decide +kernel
theorem dX12_barOfDays_14 : decode cX12_barOfDays 14 = .ok (.bipush (-5), 2) := by decide +kernel
theorem dX12_barOfDays_16 : decode cX12_barOfDays 16 = .ok (.goto 4, 3) := by decide +kernel
theorem dX12_barOfDays_19 : decode cX12_barOfDays 19 = .ok (.iconst 0, 1) := by decide +kernel
theorem dX12_barOfDays_20 : decode cX12_barOfDays 20 = .ok (.ireturn, 1) := by decide +kernel
set_option maxRecDepth 20000 in
theorem ggX12_done_X12_barOfDays : GoodIn wsX12_done wsX12_barOfDays := goodIn_r _ [9, 10, 11, 12, 8, 13, 3, 14, 15, 16, 17, 18, 19, 20, 21, 22, 23, 24, 4, 25, 26, 27, 28, 29, 30, 31, 32, 2, 1, 33, 34, 35, 36, 37, 38, 39, 40, 41, 42, 43, 44, 45, 46, 47, 48, 49, 50, 51, 52, 53, 54, 55, 56, 57, 58, 59, 60, 61, 62, 63, 64, 65, 66, 67, 68, 69, 70, 71, 72, 73, 74, 75, 76, 77, 78, 79, 80, 81, 82, 83, 84, 85, 86, 87, 88, 89, 90, 91, 92, 93, 94, 95, 96, 97, 98, 99, 100, 101, 102, 103, 104, 105, 106, 107, 108, 109, 110, 111, 112, 113, 114, 115] (by decide +kernel) (by decide +kernel)
set_option maxRecDepth 20000 in
theorem gX12_done_X12_barOfDays : GoodIn wsX12_done (wsV RX12 135 RX12 yX12_barOfDays wsX12_barOfDays) := goodIn_app (goodIn_of _ (by decide +kernel)) ggX12_done_X12_barOfDays
theorem dX12_done_0 : decode cX12_done 0 = .ok (.aload_n 0, 1) := by decide +kernel
theorem dX12_done_1 : decode cX12_done 1 = .ok (.invokevirtual 135, 3) := by decide +kernel
theorem dX12_done_4 : decode cX12_done 4 = .ok (.ifCond .ge 6, 3) := by decide +kernel
theorem dX12_done_7 : decode cX12_done 7 = .ok (.bipush (-5), 2) := by decide +kernel
theorem dX12_done_9 : decode cX12_done 9 = .ok (.ireturn, 1) := by decide +kernel
theorem dX12_done_10 : decode cX12_done 10 = .ok (.iconst 0, 1) := by decide +kernel
theorem dX12_done_11 : decode cX12_done 11 = .ok (.istore_n 1, 1) := by decide +kernel
theorem dX12_done_12 : decode cX12_done 12 = .ok (.iload_n 1, 1) := by decide +kernel
theorem dX12_done_13 : decode cX12_done 13 = .ok (.bipush 56, 2) := by decide +kernel
theorem dX12_done_15 : decode cX12_done 15 = .ok (.if_icmp .ge 21, 3) := by decide +kernel
theorem dX12_done_18 : decode cX12_done 18 = .ok (.aload_n 0, 1) := by decide +kernel
theorem dX12_done_19 : decode cX12_done 19 = .ok (.getfield 7, 3) := by decide +kernel
theorem dX12_done_22 : decode cX12_done 22 = .ok (.iload_n 1, 1) := by decide +kernel
theorem dX12_done_23 : decode cX12_done 23 = .ok (.aload_n 0, 1) := by decide +kernel
theorem dX12_done_24 : decode cX12_done 24 = .ok (.getfield 13, 3) := by decide +kernel
theorem dX12_done_27 : decode cX12_done 27 = .ok (.iload_n 1, 1) := by decide +kernel
theorem dX12_done_28 : decode cX12_done 28 = .ok (.iaload, 1) := by decide +kernel
theorem dX12_done_29 : decode cX12_done 29 = .ok (.iastore, 1) := by decide +kernel
theorem dX12_done_30 : decode cX12_done 30 = .ok (.iinc 1 1, 3) := by decide +kernel
theorem dX12_done_33 : decode cX12_done 33 = .ok (.goto (-21), 3) := by decide +kernel
theorem dX12_done_36 : decode cX12_done 36 = .ok (.aload_n 0, 1) := by decide +kernel
theorem dX12_done_37 : decode cX12_done 37 = .ok (.iconst 0, 1) := by decide +kernel
theorem dX12_done_38 : decode cX12_done 38 = .ok (.putfield 73, 3) := by decide +kernel
theorem dX12_done_41 : decode cX12_done 41 = .ok (.aload_n 0, 1) := by decide +kernel
theorem dX12_done_42 : decode cX12_done 42 = .ok (.getfield 117, 3) := by decide +kernel
theorem dX12_done_45 : decode cX12_done 45 = .ok (.ireturn, 1) := by decide +kernel
set_option maxRecDepth 20000 in
theorem ggX12_behind_X12_isWalker : GoodIn wsX12_behind wsX12_isWalker := goodIn_r _ [5, 6, 7, 4, 8] (by decide +kernel) (by decide +kernel)
set_option maxRecDepth 20000 in
theorem gX12_behind_X12_isWalker : GoodIn wsX12_behind (va_wsS RX12 67 yX12_isWalker wsX12_isWalker) := goodIn_app (goodIn_of _ (by decide +kernel)) ggX12_behind_X12_isWalker
set_option maxRecDepth 20000 in
theorem ggX12_behind_X12_in : GoodIn wsX12_behind wsX12_in := goodIn_r _ [8] (by decide +kernel) (by decide +kernel)
set_option maxRecDepth 20000 in
theorem gX12_behind_X12_in : GoodIn wsX12_behind (va_wsS RX12 38 yX12_in wsX12_in) := goodIn_app (goodIn_of _ (by decide +kernel)) ggX12_behind_X12_in
set_option maxRecDepth 20000 in
theorem ggX12_behind_X12_barOfDays : GoodIn wsX12_behind wsX12_barOfDays := goodIn_r _ [12, 13, 14, 15, 4, 16, 17, 18, 19, 20, 21, 6, 7, 8, 22, 23, 24, 25, 26, 27, 28, 29, 30, 31, 32, 33, 34, 1, 35, 36, 37, 38, 39, 40, 41, 42, 43, 44, 45, 46, 47, 48, 49, 50, 51, 52, 53, 54, 55, 56, 57, 58, 59, 60, 61, 62, 63, 64, 65, 66, 67, 68, 69, 70, 71, 72, 73, 74, 75, 76, 77, 78, 79, 80, 81, 82, 83, 84, 85, 86, 87, 88, 89, 90, 91, 92, 93, 94, 95, 96, 97, 98, 99, 100, 101, 102, 103, 104, 105, 106, 107, 108, 109, 110, 111, 112, 113, 114, 115, 116, 117, 118] (by decide +kernel) (by decide +kernel)
set_option maxRecDepth 20000 in
theorem gX12_behind_X12_barOfDays : GoodIn wsX12_behind (wsV RX12 135 RX12 yX12_barOfDays wsX12_barOfDays) := goodIn_app (goodIn_of _ (by decide +kernel)) ggX12_behind_X12_barOfDays
theorem dX12_behind_0 : decode cX12_behind 0 = .ok (.iload_n 1, 1) := by decide +kernel
theorem dX12_behind_1 : decode cX12_behind 1 = .ok (.invokestatic 67, 3) := by decide +kernel
theorem dX12_behind_4 : decode cX12_behind 4 = .ok (.ifCond .ne 5, 3) := by decide +kernel
theorem dX12_behind_7 : decode cX12_behind 7 = .ok (.iconst (-1), 1) := by decide +kernel
theorem dX12_behind_8 : decode cX12_behind 8 = .ok (.ireturn, 1) := by decide +kernel
theorem dX12_behind_9 : decode cX12_behind 9 = .ok (.iload_n 2, 1) := by decide +kernel
theorem dX12_behind_10 : decode cX12_behind 10 = .ok (.iconst 0, 1) := by decide +kernel
theorem dX12_behind_11 : decode cX12_behind 11 = .ok (.bipush 7, 2) := by decide +kernel
theorem dX12_behind_13 : decode cX12_behind 13 = .ok (.invokestatic 38, 3) := by decide +kernel
theorem dX12_behind_16 : decode cX12_behind 16 = .ok (.ifCond .ne 6, 3) := by decide +kernel
theorem dX12_behind_19 : decode cX12_behind 19 = .ok (.bipush (-2), 2) := by decide +kernel
theorem dX12_behind_21 : decode cX12_behind 21 = .ok (.ireturn, 1) := by decide +kernel
theorem dX12_behind_22 : decode cX12_behind 22 = .ok (.aload_n 0, 1) := by decide +kernel
theorem dX12_behind_23 : decode cX12_behind 23 = .ok (.invokevirtual 135, 3) := by decide +kernel
theorem dX12_behind_26 : decode cX12_behind 26 = .ok (.ifCond .ge 8, 3) := by decide +kernel
theorem dX12_behind_29 : decode cX12_behind 29 = .ok (.bipush (-5), 2) := by decide +kernel
theorem dX12_behind_31 : decode cX12_behind 31 = .ok (.goto 14, 3) := by decide +kernel
theorem dX12_behind_34 : decode cX12_behind 34 = .ok (.aload_n 0, 1) := by decide +kernel
theorem dX12_behind_35 : decode cX12_behind 35 = .ok (.getfield 13, 3) := by decide +kernel
theorem dX12_behind_38 : decode cX12_behind 38 = .ok (.bipush 6, 2) := by decide +kernel
theorem dX12_behind_40 : decode cX12_behind 40 = .ok (.iload_n 2, 1) := by decide +kernel
theorem dX12_behind_41 : decode cX12_behind 41 = .ok (.imul, 1) := by decide +kernel
theorem dX12_behind_42 : decode cX12_behind 42 = .ok (.iload_n 1, 1) := by decide +kernel
theorem dX12_behind_43 : decode cX12_behind 43 = .ok (.iadd, 1) := by decide +kernel
theorem dX12_behind_44 : decode cX12_behind 44 = .ok (.iaload, 1) := by decide +kernel
theorem dX12_behind_45 : decode cX12_behind 45 = .ok (.ireturn, 1) := by decide +kernel
set_option maxRecDepth 20000 in
theorem ggX12_hushedOnes_X12_isHushed : GoodIn wsX12_hushedOnes wsX12_isHushed := goodIn_r _ [5, 6, 7, 8, 4, 9, 10, 11, 12, 13, 14, 15, 16, 17, 18, 19, 20, 21, 22, 23, 24, 25, 26, 27, 28, 29, 30, 31, 32, 33, 34] (by decide +kernel) (by decide +kernel)
set_option maxRecDepth 20000 in
theorem gX12_hushedOnes_X12_isHushed : GoodIn wsX12_hushedOnes (wsV RX12 93 RX12 yX12_isHushed wsX12_isHushed) := goodIn_app (goodIn_of _ (by decide +kernel)) ggX12_hushedOnes_X12_isHushed
theorem dX12_hushedOnes_0 : decode cX12_hushedOnes 0 = .ok (.iconst 0, 1) := by decide +kernel
theorem dX12_hushedOnes_1 : decode cX12_hushedOnes 1 = .ok (.istore_n 1, 1) := by decide +kernel
theorem dX12_hushedOnes_2 : decode cX12_hushedOnes 2 = .ok (.iconst 0, 1) := by decide +kernel
theorem dX12_hushedOnes_3 : decode cX12_hushedOnes 3 = .ok (.istore_n 2, 1) := by decide +kernel
theorem dX12_hushedOnes_4 : decode cX12_hushedOnes 4 = .ok (.iload_n 2, 1) := by decide +kernel
theorem dX12_hushedOnes_5 : decode cX12_hushedOnes 5 = .ok (.bipush 6, 2) := by decide +kernel
theorem dX12_hushedOnes_7 : decode cX12_hushedOnes 7 = .ok (.if_icmp .ge 27, 3) := by decide +kernel
theorem dX12_hushedOnes_10 : decode cX12_hushedOnes 10 = .ok (.iload_n 1, 1) := by decide +kernel
theorem dX12_hushedOnes_11 : decode cX12_hushedOnes 11 = .ok (.aload_n 0, 1) := by decide +kernel
theorem dX12_hushedOnes_12 : decode cX12_hushedOnes 12 = .ok (.iload_n 2, 1) := by decide +kernel
theorem dX12_hushedOnes_13 : decode cX12_hushedOnes 13 = .ok (.invokevirtual 93, 3) := by decide +kernel
theorem dX12_hushedOnes_16 : decode cX12_hushedOnes 16 = .ok (.ifCond .eq 9, 3) := by decide +kernel
theorem dX12_hushedOnes_19 : decode cX12_hushedOnes 19 = .ok (.iconst 1, 1) := by decide +kernel
theorem dX12_hushedOnes_20 : decode cX12_hushedOnes 20 = .ok (.iload_n 2, 1) := by decide +kernel
theorem dX12_hushedOnes_21 : decode cX12_hushedOnes 21 = .ok (.ishl, 1) := by decide +kernel
theorem dX12_hushedOnes_22 : decode cX12_hushedOnes 22 = .ok (.goto 4, 3) := by decide +kernel
theorem dX12_hushedOnes_25 : decode cX12_hushedOnes 25 = .ok (.iconst 0, 1) := by decide +kernel
theorem dX12_hushedOnes_26 : decode cX12_hushedOnes 26 = .ok (.ior, 1) := by decide +kernel
theorem dX12_hushedOnes_27 : decode cX12_hushedOnes 27 = .ok (.istore_n 1, 1) := by decide +kernel
theorem dX12_hushedOnes_28 : decode cX12_hushedOnes 28 = .ok (.iinc 2 1, 3) := by decide +kernel
theorem dX12_hushedOnes_31 : decode cX12_hushedOnes 31 = .ok (.goto (-27), 3) := by decide +kernel
theorem dX12_hushedOnes_34 : decode cX12_hushedOnes 34 = .ok (.iload_n 1, 1) := by decide +kernel
theorem dX12_hushedOnes_35 : decode cX12_hushedOnes 35 = .ok (.ireturn, 1) := by decide +kernel
set_option maxRecDepth 20000 in
theorem ggX12_then_X12_in : GoodIn wsX12_then wsX12_in := goodIn_r _ [8] (by decide +kernel) (by decide +kernel)
set_option maxRecDepth 20000 in
theorem gX12_then_X12_in : GoodIn wsX12_then (va_wsS RX12 38 yX12_in wsX12_in) := goodIn_app (goodIn_of _ (by decide +kernel)) ggX12_then_X12_in
set_option maxRecDepth 20000 in
theorem ggX12_then_X12_barOfDays : GoodIn wsX12_then wsX12_barOfDays := goodIn_r _ [12, 13, 14, 15, 7, 16, 17, 18, 19, 20, 21, 5, 6, 8, 22, 23, 24, 25, 26, 27, 28, 3, 4, 29, 30, 31, 32, 1, 33, 2, 34, 35, 36, 37, 38, 39, 40, 41, 42, 43, 44, 45, 46, 47, 48, 49, 50, 51, 52, 53, 54, 55, 56, 57, 58, 59, 60, 61, 62, 63, 64, 65, 66, 67, 68, 69, 70, 71, 72, 73, 74, 75, 76, 77, 78, 79, 80, 81, 82, 83, 84, 85, 86, 87, 88, 89, 90, 91, 92, 93, 94, 95, 96, 97, 98, 103, 104, 105, 106, 107, 108, 109, 110, 111, 112, 113, 114, 115, 116, 117, 118, 119] (by decide +kernel) (by decide +kernel)
set_option maxRecDepth 20000 in
theorem gX12_then_X12_barOfDays : GoodIn wsX12_then (wsV RX12 135 RX12 yX12_barOfDays wsX12_barOfDays) := goodIn_app (goodIn_of _ (by decide +kernel)) ggX12_then_X12_barOfDays
set_option maxRecDepth 20000 in
theorem ggX12_then_X12_hushedOnes : GoodIn wsX12_then wsX12_hushedOnes := goodIn_r _ [102, 56, 57, 58, 7, 59, 60, 61, 62, 63, 1, 64, 65, 66, 67, 68, 69, 70, 103, 104, 105, 106, 107, 108, 109, 110, 111, 112, 113, 114, 115, 116, 117, 118, 119] (by decide +kernel) (by decide +kernel)
set_option maxRecDepth 20000 in
theorem gX12_then_X12_hushedOnes : GoodIn wsX12_then (wsV RX12 138 RX12 yX12_hushedOnes wsX12_hushedOnes) := goodIn_app (goodIn_of _ (by decide +kernel)) ggX12_then_X12_hushedOnes
theorem dX12_then_0 : decode cX12_then 0 = .ok (.iload_n 1, 1) := by decide +kernel
theorem dX12_then_1 : decode cX12_then 1 = .ok (.iconst 0, 1) := by decide +kernel
theorem dX12_then_2 : decode cX12_then 2 = .ok (.bipush 8, 2) := by decide +kernel
theorem dX12_then_4 : decode cX12_then 4 = .ok (.invokestatic 38, 3) := by decide +kernel
theorem dX12_then_7 : decode cX12_then 7 = .ok (.ifCond .ne 6, 3) := by decide +kernel
theorem dX12_then_10 : decode cX12_then 10 = .ok (.bipush (-2), 2) := by decide +kernel
theorem dX12_then_12 : decode cX12_then 12 = .ok (.ireturn, 1) := by decide +kernel
theorem dX12_then_13 : decode cX12_then 13 = .ok (.aload_n 0, 1) := by decide +kernel
theorem dX12_then_14 : decode cX12_then 14 = .ok (.invokevirtual 135, 3) := by decide +kernel
theorem dX12_then_17 : decode cX12_then 17 = .ok (.ifCond .ge 6, 3) := by decide +kernel
theorem dX12_then_20 : decode cX12_then 20 = .ok (.bipush (-5), 2) := by decide +kernel
theorem dX12_then_22 : decode cX12_then 22 = .ok (.ireturn, 1) := by decide +kernel
theorem dX12_then_23 : decode cX12_then 23 = .ok (.iload_n 1, 1) := by decide +kernel
theorem dX12_then_24 : decode cX12_then 24 = .ok (.iconst 5, 1) := by decide +kernel
theorem dX12_then_25 : decode cX12_then 25 = .ok (.if_icmp .ge 13, 3) := by decide +kernel
theorem dX12_then_28 : decode cX12_then 28 = .ok (.aload_n 0, 1) := by decide +kernel
theorem dX12_then_29 : decode cX12_then 29 = .ok (.getfield 13, 3) := by decide +kernel
theorem dX12_then_32 : decode cX12_then 32 = .ok (.bipush 48, 2) := by decide +kernel
theorem dX12_then_34 : decode cX12_then 34 = .ok (.iload_n 1, 1) := by decide +kernel
theorem dX12_then_35 : decode cX12_then 35 = .ok (.iadd, 1) := by decide +kernel
theorem dX12_then_36 : decode cX12_then 36 = .ok (.iaload, 1) := by decide +kernel
theorem dX12_then_37 : decode cX12_then 37 = .ok (.ireturn, 1) := by decide +kernel
theorem dX12_then_38 : decode cX12_then 38 = .ok (.iload_n 1, 1) := by decide +kernel
theorem dX12_then_39 : decode cX12_then 39 = .ok (.iconst 5, 1) := by decide +kernel
theorem dX12_then_40 : decode cX12_then 40 = .ok (.if_icmp .ne 10, 3) := by decide +kernel
theorem dX12_then_43 : decode cX12_then 43 = .ok (.aload_n 0, 1) := by decide +kernel
theorem dX12_then_44 : decode cX12_then 44 = .ok (.invokevirtual 138, 3) := by decide +kernel
theorem dX12_then_47 : decode cX12_then 47 = .ok (.goto 33, 3) := by decide +kernel
theorem dX12_then_50 : decode cX12_then 50 = .ok (.iload_n 1, 1) := by decide +kernel
theorem dX12_then_51 : decode cX12_then 51 = .ok (.bipush 6, 2) := by decide +kernel
theorem dX12_then_53 : decode cX12_then 53 = .ok (.if_icmp .ne 10, 3) := by decide +kernel
theorem dX12_then_56 : decode cX12_then 56 = .ok (.aload_n 0, 1) := by decide +kernel
theorem dX12_then_57 : decode cX12_then 57 = .ok (.getfield 42, 3) := by decide +kernel
theorem dX12_then_60 : decode cX12_then 60 = .ok (.goto 20, 3) := by decide +kernel
theorem dX12_then_63 : decode cX12_then 63 = .ok (.iload_n 1, 1) := by decide +kernel
theorem dX12_then_64 : decode cX12_then 64 = .ok (.bipush 7, 2) := by decide +kernel
theorem dX12_then_66 : decode cX12_then 66 = .ok (.if_icmp .ne 10, 3) := by decide +kernel
theorem dX12_then_69 : decode cX12_then 69 = .ok (.aload_n 0, 1) := by decide +kernel
theorem dX12_then_70 : decode cX12_then 70 = .ok (.getfield 46, 3) := by decide +kernel
theorem dX12_then_73 : decode cX12_then 73 = .ok (.goto 7, 3) := by decide +kernel
theorem dX12_then_76 : decode cX12_then 76 = .ok (.aload_n 0, 1) := by decide +kernel
theorem dX12_then_77 : decode cX12_then 77 = .ok (.getfield 49, 3) := by decide +kernel
theorem dX12_then_80 : decode cX12_then 80 = .ok (.ireturn, 1) := by decide +kernel
set_option maxRecDepth 20000 in
theorem ggX12_blowHour_X12_blowOn : GoodIn wsX12_blowHour wsX12_blowOn := goodIn_r _ [6, 1, 7, 8, 5, 9, 10, 11, 12, 13, 14, 15, 16, 17, 18, 19, 20, 21, 22, 23, 24, 25, 26, 27, 28, 29] (by decide +kernel) (by decide +kernel)
set_option maxRecDepth 20000 in
theorem gX12_blowHour_X12_blowOn : GoodIn wsX12_blowHour (wsV RX12 90 RX12 yX12_blowOn wsX12_blowOn) := goodIn_app (goodIn_of _ (by decide +kernel)) ggX12_blowHour_X12_blowOn
theorem dX12_blowHour_0 : decode cX12_blowHour 0 = .ok (.iconst 0, 1) := by decide +kernel
theorem dX12_blowHour_1 : decode cX12_blowHour 1 = .ok (.istore_n 1, 1) := by decide +kernel
theorem dX12_blowHour_2 : decode cX12_blowHour 2 = .ok (.iconst 0, 1) := by decide +kernel
theorem dX12_blowHour_3 : decode cX12_blowHour 3 = .ok (.istore_n 2, 1) := by decide +kernel
theorem dX12_blowHour_4 : decode cX12_blowHour 4 = .ok (.iload_n 2, 1) := by decide +kernel
theorem dX12_blowHour_5 : decode cX12_blowHour 5 = .ok (.aload_n 0, 1) := by decide +kernel
theorem dX12_blowHour_6 : decode cX12_blowHour 6 = .ok (.getfield 13, 3) := by decide +kernel
theorem dX12_blowHour_9 : decode cX12_blowHour 9 = .ok (.bipush 50, 2) := by decide +kernel
theorem dX12_blowHour_11 : decode cX12_blowHour 11 = .ok (.iaload, 1) := by decide +kernel
theorem dX12_blowHour_12 : decode cX12_blowHour 12 = .ok (.if_icmp .ge 25, 3) := by decide +kernel
theorem dX12_blowHour_15 : decode cX12_blowHour 15 = .ok (.aload_n 0, 1) := by decide +kernel
theorem dX12_blowHour_16 : decode cX12_blowHour 16 = .ok (.invokevirtual 90, 3) := by decide +kernel
theorem dX12_blowHour_19 : decode cX12_blowHour 19 = .ok (.iload_n 1, 1) := by decide +kernel
theorem dX12_blowHour_20 : decode cX12_blowHour 20 = .ok (.iconst 1, 1) := by decide +kernel
theorem dX12_blowHour_21 : decode cX12_blowHour 21 = .ok (.aload_n 0, 1) := by decide +kernel
theorem dX12_blowHour_22 : decode cX12_blowHour 22 = .ok (.getfield 13, 3) := by decide +kernel
theorem dX12_blowHour_25 : decode cX12_blowHour 25 = .ok (.bipush 48, 2) := by decide +kernel
theorem dX12_blowHour_27 : decode cX12_blowHour 27 = .ok (.iaload, 1) := by decide +kernel
theorem dX12_blowHour_28 : decode cX12_blowHour 28 = .ok (.ishl, 1) := by decide +kernel
theorem dX12_blowHour_29 : decode cX12_blowHour 29 = .ok (.ior, 1) := by decide +kernel
theorem dX12_blowHour_30 : decode cX12_blowHour 30 = .ok (.istore_n 1, 1) := by decide +kernel
theorem dX12_blowHour_31 : decode cX12_blowHour 31 = .ok (.iinc 2 1, 3) := by decide +kernel
theorem dX12_blowHour_34 : decode cX12_blowHour 34 = .ok (.goto (-30), 3) := by decide +kernel
theorem dX12_blowHour_37 : decode cX12_blowHour 37 = .ok (.iload_n 1, 1) := by decide +kernel
theorem dX12_blowHour_38 : decode cX12_blowHour 38 = .ok (.ireturn, 1) := by decide +kernel
set_option maxRecDepth 20000 in
theorem ggX12_when_X12_isCell : GoodIn wsX12_when wsX12_isCell := goodIn_r _ [5, 6, 7, 4, 8] (by decide +kernel) (by decide +kernel)
set_option maxRecDepth 20000 in
theorem gX12_when_X12_isCell : GoodIn wsX12_when (va_wsS RX12 70 yX12_isCell wsX12_isCell) := goodIn_app (goodIn_of _ (by decide +kernel)) ggX12_when_X12_isCell
set_option maxRecDepth 20000 in
theorem ggX12_when_X12_asNow : GoodIn wsX12_when wsX12_asNow := goodIn_r _ [12, 13, 1, 14, 15, 16, 17, 29, 30, 31, 32, 33, 34, 35, 36, 37, 38, 39, 40, 41, 42, 43, 44, 45] (by decide +kernel) (by decide +kernel)
set_option maxRecDepth 20000 in
theorem gX12_when_X12_asNow : GoodIn wsX12_when (wsV RX12 114 RX12 yX12_asNow wsX12_asNow) := goodIn_app (goodIn_of _ (by decide +kernel)) ggX12_when_X12_asNow
set_option maxRecDepth 20000 in
theorem ggX12_when_X12_blowHour : GoodIn wsX12_when wsX12_blowHour := goodIn_r _ [21, 13, 22, 23, 24, 4, 25, 2, 3, 5, 6, 7, 8, 29, 30, 31, 32, 33, 34, 35, 36, 37, 38, 39, 40, 41, 42, 43, 44, 45] (by decide +kernel) (by decide +kernel)
set_option maxRecDepth 20000 in
theorem gX12_when_X12_blowHour : GoodIn wsX12_when (wsV RX12 141 RX12 yX12_blowHour wsX12_blowHour) := goodIn_app (goodIn_of _ (by decide +kernel)) ggX12_when_X12_blowHour
set_option maxRecDepth 20000 in
theorem ggX12_when_X12_has : GoodIn wsX12_when wsX12_has := goodIn_r _ [28] (by decide +kernel) (by decide +kernel)
set_option maxRecDepth 20000 in
theorem gX12_when_X12_has : GoodIn wsX12_when (va_wsS RX12 55 yX12_has wsX12_has) := goodIn_app (goodIn_of _ (by decide +kernel)) ggX12_when_X12_has
theorem dX12_when_0 : decode cX12_when 0 = .ok (.iload_n 1, 1) := by decide +kernel
theorem dX12_when_1 : decode cX12_when 1 = .ok (.invokestatic 70, 3) := by decide +kernel
theorem dX12_when_4 : decode cX12_when 4 = .ok (.ifCond .ne 5, 3) := by decide +kernel
theorem dX12_when_7 : decode cX12_when 7 = .ok (.iconst (-1), 1) := by decide +kernel
theorem dX12_when_8 : decode cX12_when 8 = .ok (.ireturn, 1) := by decide +kernel
theorem dX12_when_9 : decode cX12_when 9 = .ok (.aload_n 0, 1) := by decide +kernel
theorem dX12_when_10 : decode cX12_when 10 = .ok (.invokevirtual 114, 3) := by decide +kernel
theorem dX12_when_13 : decode cX12_when 13 = .ok (.iconst 0, 1) := by decide +kernel
theorem dX12_when_14 : decode cX12_when 14 = .ok (.istore_n 2, 1) := by decide +kernel
theorem dX12_when_15 : decode cX12_when 15 = .ok (.iconst 1, 1) := by decide +kernel
theorem dX12_when_16 : decode cX12_when 16 = .ok (.istore_n 3, 1) := by decide +kernel
theorem dX12_when_17 : decode cX12_when 17 = .ok (.iload_n 3, 1) := by decide +kernel
theorem dX12_when_18 : decode cX12_when 18 = .ok (.bipush 9, 2) := by decide +kernel
theorem dX12_when_20 : decode cX12_when 20 = .ok (.if_icmp .ge 41, 3) := by decide +kernel
theorem dX12_when_23 : decode cX12_when 23 = .ok (.iload_n 2, 1) := by decide +kernel
theorem dX12_when_24 : decode cX12_when 24 = .ok (.aload_n 0, 1) := by decide +kernel
theorem dX12_when_25 : decode cX12_when 25 = .ok (.invokevirtual 141, 3) := by decide +kernel
theorem dX12_when_28 : decode cX12_when 28 = .ok (.iload_n 1, 1) := by decide +kernel
theorem dX12_when_29 : decode cX12_when 29 = .ok (.invokestatic 55, 3) := by decide +kernel
theorem dX12_when_32 : decode cX12_when 32 = .ok (.ifCond .eq 20, 3) := by decide +kernel
theorem dX12_when_35 : decode cX12_when 35 = .ok (.iconst 1, 1) := by decide +kernel
theorem dX12_when_36 : decode cX12_when 36 = .ok (.aload_n 0, 1) := by decide +kernel
theorem dX12_when_37 : decode cX12_when 37 = .ok (.getfield 7, 3) := by decide +kernel
theorem dX12_when_40 : decode cX12_when 40 = .ok (.bipush 51, 2) := by decide +kernel
theorem dX12_when_42 : decode cX12_when 42 = .ok (.iaload, 1) := by decide +kernel
theorem dX12_when_43 : decode cX12_when 43 = .ok (.iload_n 3, 1) := by decide +kernel
theorem dX12_when_44 : decode cX12_when 44 = .ok (.iadd, 1) := by decide +kernel
theorem dX12_when_45 : decode cX12_when 45 = .ok (.bipush 8, 2) := by decide +kernel
theorem dX12_when_47 : decode cX12_when 47 = .ok (.irem, 1) := by decide +kernel
theorem dX12_when_48 : decode cX12_when 48 = .ok (.ishl, 1) := by decide +kernel
theorem dX12_when_49 : decode cX12_when 49 = .ok (.goto 4, 3) := by decide +kernel
theorem dX12_when_52 : decode cX12_when 52 = .ok (.iconst 0, 1) := by decide +kernel
theorem dX12_when_53 : decode cX12_when 53 = .ok (.ior, 1) := by decide +kernel
theorem dX12_when_54 : decode cX12_when 54 = .ok (.istore_n 2, 1) := by decide +kernel
theorem dX12_when_55 : decode cX12_when 55 = .ok (.iinc 3 1, 3) := by decide +kernel
theorem dX12_when_58 : decode cX12_when 58 = .ok (.goto (-41), 3) := by decide +kernel
theorem dX12_when_61 : decode cX12_when 61 = .ok (.iload_n 2, 1) := by decide +kernel
theorem dX12_when_62 : decode cX12_when 62 = .ok (.ireturn, 1) := by decide +kernel
set_option maxRecDepth 20000 in
theorem ggX12_hoursTo_X12_has : GoodIn wsX12_hoursTo wsX12_has := goodIn_r _ [5] (by decide +kernel) (by decide +kernel)
set_option maxRecDepth 20000 in
theorem gX12_hoursTo_X12_has : GoodIn wsX12_hoursTo (va_wsS RX12 55 yX12_has wsX12_has) := goodIn_app (goodIn_of _ (by decide +kernel)) ggX12_hoursTo_X12_has
set_option maxRecDepth 20000 in
theorem ggX12_hoursTo_X12_blowHour : GoodIn wsX12_hoursTo wsX12_blowHour := goodIn_r _ [9, 10, 11, 12, 13, 4, 14, 15, 16, 17, 18, 19, 20, 21, 22, 23, 24, 25, 26, 27, 28, 29, 30, 31, 32, 33, 34, 35, 36, 37] (by decide +kernel) (by decide +kernel)
set_option maxRecDepth 20000 in
theorem gX12_hoursTo_X12_blowHour : GoodIn wsX12_hoursTo (wsV RX12 141 RX12 yX12_blowHour wsX12_blowHour) := goodIn_app (goodIn_of _ (by decide +kernel)) ggX12_hoursTo_X12_blowHour
theorem dX12_hoursTo_0 : decode cX12_hoursTo 0 = .ok (.iconst 1, 1) := by decide +kernel
theorem dX12_hoursTo_1 : decode cX12_hoursTo 1 = .ok (.iload_n 1, 1) := by decide +kernel
theorem dX12_hoursTo_2 : decode cX12_hoursTo 2 = .ok (.ishl, 1) := by decide +kernel
theorem dX12_hoursTo_3 : decode cX12_hoursTo 3 = .ok (.istore_n 3, 1) := by decide +kernel
theorem dX12_hoursTo_4 : decode cX12_hoursTo 4 = .ok (.iconst 0, 1) := by decide +kernel
theorem dX12_hoursTo_5 : decode cX12_hoursTo 5 = .ok (.istore 4, 2) := by decide +kernel
theorem dX12_hoursTo_7 : decode cX12_hoursTo 7 = .ok (.iload 4, 2) := by decide +kernel
theorem dX12_hoursTo_9 : decode cX12_hoursTo 9 = .ok (.sipush 600, 3) := by decide +kernel
theorem dX12_hoursTo_12 : decode cX12_hoursTo 12 = .ok (.if_icmp .ge 45, 3) := by decide +kernel
theorem dX12_hoursTo_15 : decode cX12_hoursTo 15 = .ok (.iload_n 3, 1) := by decide +kernel
theorem dX12_hoursTo_16 : decode cX12_hoursTo 16 = .ok (.iload_n 2, 1) := by decide +kernel
theorem dX12_hoursTo_17 : decode cX12_hoursTo 17 = .ok (.invokestatic 55, 3) := by decide +kernel
theorem dX12_hoursTo_20 : decode cX12_hoursTo 20 = .ok (.ifCond .eq 6, 3) := by decide +kernel
theorem dX12_hoursTo_23 : decode cX12_hoursTo 23 = .ok (.iload 4, 2) := by decide +kernel
theorem dX12_hoursTo_25 : decode cX12_hoursTo 25 = .ok (.ireturn, 1) := by decide +kernel
theorem dX12_hoursTo_26 : decode cX12_hoursTo 26 = .ok (.iload_n 3, 1) := by decide +kernel
theorem dX12_hoursTo_27 : decode cX12_hoursTo 27 = .ok (.iload_n 3, 1) := by decide +kernel
theorem dX12_hoursTo_28 : decode cX12_hoursTo 28 = .ok (.iconst 1, 1) := by decide +kernel
theorem dX12_hoursTo_29 : decode cX12_hoursTo 29 = .ok (.ishl, 1) := by decide +kernel
theorem dX12_hoursTo_30 : decode cX12_hoursTo 30 = .ok (.ior, 1) := by decide +kernel
theorem dX12_hoursTo_31 : decode cX12_hoursTo 31 = .ok (.iload_n 3, 1) := by decide +kernel
theorem dX12_hoursTo_32 : decode cX12_hoursTo 32 = .ok (.iconst 1, 1) := by decide +kernel
theorem dX12_hoursTo_33 : decode cX12_hoursTo 33 = .ok (.ishr, 1) := by decide +kernel
theorem dX12_hoursTo_34 : decode cX12_hoursTo 34 = .ok (.ior, 1) := by decide +kernel
theorem dX12_hoursTo_35 : decode cX12_hoursTo 35 = .ok (.sipush 4095, 3) := by decide +kernel
theorem dX12_hoursTo_38 : decode cX12_hoursTo 38 = .ok (.iand, 1) := by decide +kernel
theorem dX12_hoursTo_39 : decode cX12_hoursTo 39 = .ok (.istore 5, 2) := by decide +kernel
theorem dX12_hoursTo_41 : decode cX12_hoursTo 41 = .ok (.iload 5, 2) := by decide +kernel
theorem dX12_hoursTo_43 : decode cX12_hoursTo 43 = .ok (.aload_n 0, 1) := by decide +kernel
theorem dX12_hoursTo_44 : decode cX12_hoursTo 44 = .ok (.invokevirtual 141, 3) := by decide +kernel
theorem dX12_hoursTo_47 : decode cX12_hoursTo 47 = .ok (.iconst (-1), 1) := by decide +kernel
theorem dX12_hoursTo_48 : decode cX12_hoursTo 48 = .ok (.ixor, 1) := by decide +kernel
theorem dX12_hoursTo_49 : decode cX12_hoursTo 49 = .ok (.iand, 1) := by decide +kernel
theorem dX12_hoursTo_50 : decode cX12_hoursTo 50 = .ok (.istore_n 3, 1) := by decide +kernel
theorem dX12_hoursTo_51 : decode cX12_hoursTo 51 = .ok (.iinc 4 1, 3) := by decide +kernel
theorem dX12_hoursTo_54 : decode cX12_hoursTo 54 = .ok (.goto (-47), 3) := by decide +kernel
theorem dX12_hoursTo_57 : decode cX12_hoursTo 57 = .ok (.ldc 144, 2) := by decide +kernel
theorem dX12_hoursTo_59 : decode cX12_hoursTo 59 = .ok (.ireturn, 1) := by decide +kernel
set_option maxRecDepth 20000 in
theorem ggX12_pass_X12_isCell : GoodIn wsX12_pass wsX12_isCell := goodIn_r _ [5, 6, 7, 4, 8] (by decide +kernel) (by decide +kernel)
set_option maxRecDepth 20000 in
theorem gX12_pass_X12_isCell : GoodIn wsX12_pass (va_wsS RX12 70 yX12_isCell wsX12_isCell) := goodIn_app (goodIn_of _ (by decide +kernel)) ggX12_pass_X12_isCell
set_option maxRecDepth 20000 in
theorem ggX12_pass_X12_in : GoodIn wsX12_pass wsX12_in := goodIn_r _ [8] (by decide +kernel) (by decide +kernel)
set_option maxRecDepth 20000 in
theorem gX12_pass_X12_in : GoodIn wsX12_pass (va_wsS RX12 38 yX12_in wsX12_in) := goodIn_app (goodIn_of _ (by decide +kernel)) ggX12_pass_X12_in
set_option maxRecDepth 20000 in
theorem ggX12_pass_X12_asNow : GoodIn wsX12_pass wsX12_asNow := goodIn_r _ [12, 13, 14, 15, 16, 17, 18, 34, 35, 36, 37, 38, 39, 40, 41, 42, 43, 44, 45, 46, 47, 48, 49, 50] (by decide +kernel) (by decide +kernel)
set_option maxRecDepth 20000 in
theorem gX12_pass_X12_asNow : GoodIn wsX12_pass (wsV RX12 114 RX12 yX12_asNow wsX12_asNow) := goodIn_app (goodIn_of _ (by decide +kernel)) ggX12_pass_X12_asNow
set_option maxRecDepth 20000 in
theorem ggX12_pass_X12_hoursTo : GoodIn wsX12_pass wsX12_hoursTo := goodIn_r _ [22, 1, 23, 24, 4, 25, 26, 27, 28, 29, 13, 30, 31, 32, 33, 2, 3, 5, 6, 7, 8, 34, 35, 36, 37, 38, 39, 40, 41, 42, 43, 44, 45, 46, 47, 48, 49, 50] (by decide +kernel) (by decide +kernel)
set_option maxRecDepth 20000 in
theorem gX12_pass_X12_hoursTo : GoodIn wsX12_pass (wsV RX12 145 RX12 yX12_hoursTo wsX12_hoursTo) := goodIn_app (goodIn_of _ (by decide +kernel)) ggX12_pass_X12_hoursTo
set_option maxRecDepth 20000 in
theorem ggX12_pass_X12_blowHour : GoodIn wsX12_pass wsX12_blowHour := goodIn_r _ [29, 13, 30, 31, 32, 4, 33, 2, 3, 5, 6, 7, 8, 34, 35, 36, 37, 38, 39, 40, 41, 42, 43, 44, 45, 46, 47, 48, 49, 50] (by decide +kernel) (by decide +kernel)
set_option maxRecDepth 20000 in
theorem gX12_pass_X12_blowHour : GoodIn wsX12_pass (wsV RX12 141 RX12 yX12_blowHour wsX12_blowHour) := goodIn_app (goodIn_of _ (by decide +kernel)) ggX12_pass_X12_blowHour
set_option maxRecDepth 20000 in
theorem ggX12_pass_X12_has : GoodIn wsX12_pass wsX12_has := goodIn_r _ [25] (by decide +kernel) (by decide +kernel)
set_option maxRecDepth 20000 in
theorem gX12_pass_X12_has : GoodIn wsX12_pass (va_wsS RX12 55 yX12_has wsX12_has) := goodIn_app (goodIn_of _ (by decide +kernel)) ggX12_pass_X12_has
theorem dX12_pass_0 : decode cX12_pass 0 = .ok (.iload_n 1, 1) := by decide +kernel
theorem dX12_pass_1 : decode cX12_pass 1 = .ok (.invokestatic 70, 3) := by decide +kernel
theorem dX12_pass_4 : decode cX12_pass 4 = .ok (.ifCond .eq 10, 3) := by decide +kernel
theorem dX12_pass_7 : decode cX12_pass 7 = .ok (.iload_n 2, 1) := by decide +kernel
theorem dX12_pass_8 : decode cX12_pass 8 = .ok (.invokestatic 70, 3) := by decide +kernel
theorem dX12_pass_11 : decode cX12_pass 11 = .ok (.ifCond .ne 5, 3) := by decide +kernel
theorem dX12_pass_14 : decode cX12_pass 14 = .ok (.iconst (-1), 1) := by decide +kernel
theorem dX12_pass_15 : decode cX12_pass 15 = .ok (.ireturn, 1) := by decide +kernel
theorem dX12_pass_16 : decode cX12_pass 16 = .ok (.iload_n 3, 1) := by decide +kernel
theorem dX12_pass_17 : decode cX12_pass 17 = .ok (.iconst 0, 1) := by decide +kernel
theorem dX12_pass_18 : decode cX12_pass 18 = .ok (.iconst 1, 1) := by decide +kernel
theorem dX12_pass_19 : decode cX12_pass 19 = .ok (.invokestatic 38, 3) := by decide +kernel
theorem dX12_pass_22 : decode cX12_pass 22 = .ok (.ifCond .ne 6, 3) := by decide +kernel
theorem dX12_pass_25 : decode cX12_pass 25 = .ok (.bipush (-2), 2) := by decide +kernel
theorem dX12_pass_27 : decode cX12_pass 27 = .ok (.ireturn, 1) := by decide +kernel
theorem dX12_pass_28 : decode cX12_pass 28 = .ok (.aload_n 0, 1) := by decide +kernel
theorem dX12_pass_29 : decode cX12_pass 29 = .ok (.invokevirtual 114, 3) := by decide +kernel
theorem dX12_pass_32 : decode cX12_pass 32 = .ok (.aload_n 0, 1) := by decide +kernel
theorem dX12_pass_33 : decode cX12_pass 33 = .ok (.iload_n 1, 1) := by decide +kernel
theorem dX12_pass_34 : decode cX12_pass 34 = .ok (.iload_n 2, 1) := by decide +kernel
theorem dX12_pass_35 : decode cX12_pass 35 = .ok (.invokevirtual 145, 3) := by decide +kernel
theorem dX12_pass_38 : decode cX12_pass 38 = .ok (.istore 4, 2) := by decide +kernel
theorem dX12_pass_40 : decode cX12_pass 40 = .ok (.iload 4, 2) := by decide +kernel
theorem dX12_pass_42 : decode cX12_pass 42 = .ok (.ldc 144, 2) := by decide +kernel
theorem dX12_pass_44 : decode cX12_pass 44 = .ok (.if_icmp .eq 13, 3) := by decide +kernel
theorem dX12_pass_47 : decode cX12_pass 47 = .ok (.iload_n 3, 1) := by decide +kernel
theorem dX12_pass_48 : decode cX12_pass 48 = .ok (.iconst 1, 1) := by decide +kernel
theorem dX12_pass_49 : decode cX12_pass 49 = .ok (.if_icmp .ne 11, 3) := by decide +kernel
theorem dX12_pass_52 : decode cX12_pass 52 = .ok (.iload 4, 2) := by decide +kernel
theorem dX12_pass_54 : decode cX12_pass 54 = .ok (.ifCond .ne 6, 3) := by decide +kernel
theorem dX12_pass_57 : decode cX12_pass 57 = .ok (.bipush (-6), 2) := by decide +kernel
theorem dX12_pass_59 : decode cX12_pass 59 = .ok (.ireturn, 1) := by decide +kernel
theorem dX12_pass_60 : decode cX12_pass 60 = .ok (.iload_n 3, 1) := by decide +kernel
theorem dX12_pass_61 : decode cX12_pass 61 = .ok (.ifCond .ne 6, 3) := by decide +kernel
theorem dX12_pass_64 : decode cX12_pass 64 = .ok (.iload 4, 2) := by decide +kernel
theorem dX12_pass_66 : decode cX12_pass 66 = .ok (.ireturn, 1) := by decide +kernel
theorem dX12_pass_67 : decode cX12_pass 67 = .ok (.iconst 0, 1) := by decide +kernel
theorem dX12_pass_68 : decode cX12_pass 68 = .ok (.istore 5, 2) := by decide +kernel
theorem dX12_pass_70 : decode cX12_pass 70 = .ok (.iload 5, 2) := by decide +kernel
theorem dX12_pass_72 : decode cX12_pass 72 = .ok (.iconst 3, 1) := by decide +kernel
theorem dX12_pass_73 : decode cX12_pass 73 = .ok (.if_icmp .ge 88, 3) := by decide +kernel
theorem dX12_pass_76 : decode cX12_pass 76 = .ok (.iload 5, 2) := by decide +kernel
theorem dX12_pass_78 : decode cX12_pass 78 = .ok (.ifCond .ne 7, 3) := by decide +kernel
theorem dX12_pass_81 : decode cX12_pass 81 = .ok (.iload_n 1, 1) := by decide +kernel
theorem dX12_pass_82 : decode cX12_pass 82 = .ok (.goto 18, 3) := by decide +kernel
theorem dX12_pass_85 : decode cX12_pass 85 = .ok (.iload 5, 2) := by decide +kernel
theorem dX12_pass_87 : decode cX12_pass 87 = .ok (.iconst 1, 1) := by decide +kernel
theorem dX12_pass_88 : decode cX12_pass 88 = .ok (.if_icmp .ne 9, 3) := by decide +kernel
theorem dX12_pass_91 : decode cX12_pass 91 = .ok (.iload_n 1, 1) := by decide +kernel
theorem dX12_pass_92 : decode cX12_pass 92 = .ok (.iconst 1, 1) := by decide +kernel
theorem dX12_pass_93 : decode cX12_pass 93 = .ok (.iadd, 1) := by decide +kernel
theorem dX12_pass_94 : decode cX12_pass 94 = .ok (.goto 6, 3) := by decide +kernel
theorem dX12_pass_97 : decode cX12_pass 97 = .ok (.iload_n 1, 1) := by decide +kernel
theorem dX12_pass_98 : decode cX12_pass 98 = .ok (.iconst 1, 1) := by decide +kernel
theorem dX12_pass_99 : decode cX12_pass 99 = .ok (.isub, 1) := by decide +kernel
theorem dX12_pass_100 : decode cX12_pass 100 = .ok (.istore 6, 2) := by decide +kernel
theorem dX12_pass_102 : decode cX12_pass 102 = .ok (.aload_n 0, 1) := by decide +kernel
theorem dX12_pass_103 : decode cX12_pass 103 = .ok (.invokevirtual 114, 3) := by decide +kernel
theorem dX12_pass_106 : decode cX12_pass 106 = .ok (.iload 6, 2) := by decide +kernel
theorem dX12_pass_108 : decode cX12_pass 108 = .ok (.invokestatic 70, 3) := by decide +kernel
theorem dX12_pass_111 : decode cX12_pass 111 = .ok (.ifCond .eq 19, 3) := by decide +kernel
theorem dX12_pass_114 : decode cX12_pass 114 = .ok (.aload_n 0, 1) := by decide +kernel
theorem dX12_pass_115 : decode cX12_pass 115 = .ok (.invokevirtual 141, 3) := by decide +kernel
theorem dX12_pass_118 : decode cX12_pass 118 = .ok (.iload 6, 2) := by decide +kernel
theorem dX12_pass_120 : decode cX12_pass 120 = .ok (.invokestatic 55, 3) := by decide +kernel
theorem dX12_pass_123 : decode cX12_pass 123 = .ok (.ifCond .ne 7, 3) := by decide +kernel
theorem dX12_pass_126 : decode cX12_pass 126 = .ok (.iconst 1, 1) := by decide +kernel
theorem dX12_pass_127 : decode cX12_pass 127 = .ok (.goto 4, 3) := by decide +kernel
theorem dX12_pass_130 : decode cX12_pass 130 = .ok (.iconst 0, 1) := by decide +kernel
theorem dX12_pass_131 : decode cX12_pass 131 = .ok (.istore 7, 2) := by decide +kernel
theorem dX12_pass_133 : decode cX12_pass 133 = .ok (.iload 7, 2) := by decide +kernel
theorem dX12_pass_135 : decode cX12_pass 135 = .ok (.ifCond .eq 20, 3) := by decide +kernel
theorem dX12_pass_138 : decode cX12_pass 138 = .ok (.aload_n 0, 1) := by decide +kernel
theorem dX12_pass_139 : decode cX12_pass 139 = .ok (.iload 6, 2) := by decide +kernel
theorem dX12_pass_141 : decode cX12_pass 141 = .ok (.iload_n 2, 1) := by decide +kernel
theorem dX12_pass_142 : decode cX12_pass 142 = .ok (.invokevirtual 145, 3) := by decide +kernel
theorem dX12_pass_145 : decode cX12_pass 145 = .ok (.iload 4, 2) := by decide +kernel
theorem dX12_pass_147 : decode cX12_pass 147 = .ok (.iconst 1, 1) := by decide +kernel
theorem dX12_pass_148 : decode cX12_pass 148 = .ok (.isub, 1) := by decide +kernel
theorem dX12_pass_149 : decode cX12_pass 149 = .ok (.if_icmp .ne 6, 3) := by decide +kernel
theorem dX12_pass_152 : decode cX12_pass 152 = .ok (.iload 5, 2) := by decide +kernel
theorem dX12_pass_154 : decode cX12_pass 154 = .ok (.ireturn, 1) := by decide +kernel
theorem dX12_pass_155 : decode cX12_pass 155 = .ok (.iinc 5 1, 3) := by decide +kernel
theorem dX12_pass_158 : decode cX12_pass 158 = .ok (.goto (-88), 3) := by decide +kernel
theorem dX12_pass_161 : decode cX12_pass 161 = .ok (.bipush (-6), 2) := by decide +kernel
theorem dX12_pass_163 : decode cX12_pass 163 = .ok (.ireturn, 1) := by decide +kernel
set_option maxRecDepth 20000 in
theorem ggX12_arms_X12_in : GoodIn wsX12_arms wsX12_in := goodIn_r _ [6] (by decide +kernel) (by decide +kernel)
set_option maxRecDepth 20000 in
theorem gX12_arms_X12_in : GoodIn wsX12_arms (va_wsS RX12 38 yX12_in wsX12_in) := goodIn_app (goodIn_of _ (by decide +kernel)) ggX12_arms_X12_in
set_option maxRecDepth 20000 in
theorem ggX12_arms_X12_asNow : GoodIn wsX12_arms wsX12_asNow := goodIn_r _ [10, 2, 11, 12, 13, 14, 15, 26, 27, 28, 29, 30, 31, 32, 33, 34, 35, 36, 37, 38, 39, 40, 41, 42] (by decide +kernel) (by decide +kernel)
set_option maxRecDepth 20000 in
theorem gX12_arms_X12_asNow : GoodIn wsX12_arms (wsV RX12 114 RX12 yX12_asNow wsX12_asNow) := goodIn_app (goodIn_of _ (by decide +kernel)) ggX12_arms_X12_asNow
set_option maxRecDepth 20000 in
theorem ggX12_arms_X12_atPeace : GoodIn wsX12_arms wsX12_atPeace := goodIn_r _ [19, 2, 20, 21, 5, 22, 26, 27, 28, 29, 30, 31, 32, 33, 34, 35, 36, 37, 38, 39, 40, 41, 42] (by decide +kernel) (by decide +kernel)
set_option maxRecDepth 20000 in
theorem gX12_arms_X12_atPeace : GoodIn wsX12_arms (wsV RX12 59 RX12 yX12_atPeace wsX12_atPeace) := goodIn_app (goodIn_of _ (by decide +kernel)) ggX12_arms_X12_atPeace
set_option maxRecDepth 20000 in
theorem ggX12_arms_X12_has : GoodIn wsX12_arms wsX12_has := goodIn_r _ [22] (by decide +kernel) (by decide +kernel)
set_option maxRecDepth 20000 in
theorem gX12_arms_X12_has : GoodIn wsX12_arms (va_wsS RX12 55 yX12_has wsX12_has) := goodIn_app (goodIn_of _ (by decide +kernel)) ggX12_arms_X12_has
set_option maxRecDepth 20000 in
theorem ggX12_arms_X12_bits : GoodIn wsX12_arms wsX12_bits := goodIn_r _ [25] (by decide +kernel) (by decide +kernel)
set_option maxRecDepth 20000 in
theorem gX12_arms_X12_bits : GoodIn wsX12_arms (va_wsS RX12 84 yX12_bits wsX12_bits) := goodIn_app (goodIn_of _ (by decide +kernel)) ggX12_arms_X12_bits
theorem dX12_arms_0 : decode cX12_arms 0 = .ok (.iload_n 1, 1) := by decide +kernel
theorem dX12_arms_1 : decode cX12_arms 1 = .ok (.iconst 0, 1) := by decide +kernel
theorem dX12_arms_2 : decode cX12_arms 2 = .ok (.bipush 11, 2) := by decide +kernel
theorem dX12_arms_4 : decode cX12_arms 4 = .ok (.invokestatic 38, 3) := by decide +kernel
theorem dX12_arms_7 : decode cX12_arms 7 = .ok (.ifCond .eq 12, 3) := by decide +kernel
theorem dX12_arms_10 : decode cX12_arms 10 = .ok (.iload_n 2, 1) := by decide +kernel
theorem dX12_arms_11 : decode cX12_arms 11 = .ok (.iconst 0, 1) := by decide +kernel
theorem dX12_arms_12 : decode cX12_arms 12 = .ok (.iconst 1, 1) := by decide +kernel
theorem dX12_arms_13 : decode cX12_arms 13 = .ok (.invokestatic 38, 3) := by decide +kernel
theorem dX12_arms_16 : decode cX12_arms 16 = .ok (.ifCond .ne 6, 3) := by decide +kernel
theorem dX12_arms_19 : decode cX12_arms 19 = .ok (.bipush (-2), 2) := by decide +kernel
theorem dX12_arms_21 : decode cX12_arms 21 = .ok (.ireturn, 1) := by decide +kernel
theorem dX12_arms_22 : decode cX12_arms 22 = .ok (.aload_n 0, 1) := by decide +kernel
theorem dX12_arms_23 : decode cX12_arms 23 = .ok (.invokevirtual 114, 3) := by decide +kernel
theorem dX12_arms_26 : decode cX12_arms 26 = .ok (.iconst 0, 1) := by decide +kernel
theorem dX12_arms_27 : decode cX12_arms 27 = .ok (.istore_n 3, 1) := by decide +kernel
theorem dX12_arms_28 : decode cX12_arms 28 = .ok (.iload_n 3, 1) := by decide +kernel
theorem dX12_arms_29 : decode cX12_arms 29 = .ok (.bipush 64, 2) := by decide +kernel
theorem dX12_arms_31 : decode cX12_arms 31 = .ok (.if_icmp .ge 24, 3) := by decide +kernel
theorem dX12_arms_34 : decode cX12_arms 34 = .ok (.aload_n 0, 1) := by decide +kernel
theorem dX12_arms_35 : decode cX12_arms 35 = .ok (.getfield 22, 3) := by decide +kernel
theorem dX12_arms_38 : decode cX12_arms 38 = .ok (.iload_n 3, 1) := by decide +kernel
theorem dX12_arms_39 : decode cX12_arms 39 = .ok (.iload_n 3, 1) := by decide +kernel
theorem dX12_arms_40 : decode cX12_arms 40 = .ok (.ifCond .ne 7, 3) := by decide +kernel
theorem dX12_arms_43 : decode cX12_arms 43 = .ok (.iconst 1, 1) := by decide +kernel
theorem dX12_arms_44 : decode cX12_arms 44 = .ok (.goto 4, 3) := by decide +kernel
theorem dX12_arms_47 : decode cX12_arms 47 = .ok (.iconst 0, 1) := by decide +kernel
theorem dX12_arms_48 : decode cX12_arms 48 = .ok (.bastore, 1) := by decide +kernel
theorem dX12_arms_49 : decode cX12_arms 49 = .ok (.iinc 3 1, 3) := by decide +kernel
theorem dX12_arms_52 : decode cX12_arms 52 = .ok (.goto (-24), 3) := by decide +kernel
theorem dX12_arms_55 : decode cX12_arms 55 = .ok (.iconst 0, 1) := by decide +kernel
theorem dX12_arms_56 : decode cX12_arms 56 = .ok (.istore_n 3, 1) := by decide +kernel
theorem dX12_arms_57 : decode cX12_arms 57 = .ok (.iload_n 3, 1) := by decide +kernel
theorem dX12_arms_58 : decode cX12_arms 58 = .ok (.bipush 6, 2) := by decide +kernel
theorem dX12_arms_60 : decode cX12_arms 60 = .ok (.if_icmp .ge 173, 3) := by decide +kernel
theorem dX12_arms_63 : decode cX12_arms 63 = .ok (.bipush 63, 2) := by decide +kernel
theorem dX12_arms_65 : decode cX12_arms 65 = .ok (.istore 4, 2) := by decide +kernel
theorem dX12_arms_67 : decode cX12_arms 67 = .ok (.iload 4, 2) := by decide +kernel
theorem dX12_arms_69 : decode cX12_arms 69 = .ok (.ifCond .le 158, 3) := by decide +kernel
theorem dX12_arms_72 : decode cX12_arms 72 = .ok (.aload_n 0, 1) := by decide +kernel
theorem dX12_arms_73 : decode cX12_arms 73 = .ok (.iload_n 3, 1) := by decide +kernel
theorem dX12_arms_74 : decode cX12_arms 74 = .ok (.invokevirtual 59, 3) := by decide +kernel
theorem dX12_arms_77 : decode cX12_arms 77 = .ok (.ifCond .eq 150, 3) := by decide +kernel
theorem dX12_arms_80 : decode cX12_arms 80 = .ok (.iconst 0, 1) := by decide +kernel
theorem dX12_arms_81 : decode cX12_arms 81 = .ok (.istore 5, 2) := by decide +kernel
theorem dX12_arms_83 : decode cX12_arms 83 = .ok (.iload 5, 2) := by decide +kernel
theorem dX12_arms_85 : decode cX12_arms 85 = .ok (.bipush 6, 2) := by decide +kernel
theorem dX12_arms_87 : decode cX12_arms 87 = .ok (.if_icmp .ge 134, 3) := by decide +kernel
theorem dX12_arms_90 : decode cX12_arms 90 = .ok (.aload_n 0, 1) := by decide +kernel
theorem dX12_arms_91 : decode cX12_arms 91 = .ok (.getfield 13, 3) := by decide +kernel
theorem dX12_arms_94 : decode cX12_arms 94 = .ok (.iload 5, 2) := by decide +kernel
theorem dX12_arms_96 : decode cX12_arms 96 = .ok (.iaload, 1) := by decide +kernel
theorem dX12_arms_97 : decode cX12_arms 97 = .ok (.aload_n 0, 1) := by decide +kernel
theorem dX12_arms_98 : decode cX12_arms 98 = .ok (.getfield 13, 3) := by decide +kernel
theorem dX12_arms_101 : decode cX12_arms 101 = .ok (.iload_n 3, 1) := by decide +kernel
theorem dX12_arms_102 : decode cX12_arms 102 = .ok (.iaload, 1) := by decide +kernel
theorem dX12_arms_103 : decode cX12_arms 103 = .ok (.if_icmp .le 20, 3) := by decide +kernel
theorem dX12_arms_106 : decode cX12_arms 106 = .ok (.aload_n 0, 1) := by decide +kernel
theorem dX12_arms_107 : decode cX12_arms 107 = .ok (.getfield 13, 3) := by decide +kernel
theorem dX12_arms_110 : decode cX12_arms 110 = .ok (.iload 5, 2) := by decide +kernel
theorem dX12_arms_112 : decode cX12_arms 112 = .ok (.iaload, 1) := by decide +kernel
theorem dX12_arms_113 : decode cX12_arms 113 = .ok (.aload_n 0, 1) := by decide +kernel
theorem dX12_arms_114 : decode cX12_arms 114 = .ok (.getfield 13, 3) := by decide +kernel
theorem dX12_arms_117 : decode cX12_arms 117 = .ok (.iload_n 3, 1) := by decide +kernel
theorem dX12_arms_118 : decode cX12_arms 118 = .ok (.iaload, 1) := by decide +kernel
theorem dX12_arms_119 : decode cX12_arms 119 = .ok (.isub, 1) := by decide +kernel
theorem dX12_arms_120 : decode cX12_arms 120 = .ok (.goto 17, 3) := by decide +kernel
theorem dX12_arms_123 : decode cX12_arms 123 = .ok (.aload_n 0, 1) := by decide +kernel
theorem dX12_arms_124 : decode cX12_arms 124 = .ok (.getfield 13, 3) := by decide +kernel
theorem dX12_arms_127 : decode cX12_arms 127 = .ok (.iload_n 3, 1) := by decide +kernel
theorem dX12_arms_128 : decode cX12_arms 128 = .ok (.iaload, 1) := by decide +kernel
theorem dX12_arms_129 : decode cX12_arms 129 = .ok (.aload_n 0, 1) := by decide +kernel
theorem dX12_arms_130 : decode cX12_arms 130 = .ok (.getfield 13, 3) := by decide +kernel
theorem dX12_arms_133 : decode cX12_arms 133 = .ok (.iload 5, 2) := by decide +kernel
theorem dX12_arms_135 : decode cX12_arms 135 = .ok (.iaload, 1) := by decide +kernel
theorem dX12_arms_136 : decode cX12_arms 136 = .ok (.isub, 1) := by decide +kernel
theorem dX12_arms_137 : decode cX12_arms 137 = .ok (.istore 6, 2) := by decide +kernel
theorem dX12_arms_139 : decode cX12_arms 139 = .ok (.iload 4, 2) := by decide +kernel
theorem dX12_arms_141 : decode cX12_arms 141 = .ok (.iload 5, 2) := by decide +kernel
theorem dX12_arms_143 : decode cX12_arms 143 = .ok (.invokestatic 55, 3) := by decide +kernel
theorem dX12_arms_146 : decode cX12_arms 146 = .ok (.ifCond .eq 39, 3) := by decide +kernel
theorem dX12_arms_149 : decode cX12_arms 149 = .ok (.aload_n 0, 1) := by decide +kernel
theorem dX12_arms_150 : decode cX12_arms 150 = .ok (.iload 5, 2) := by decide +kernel
theorem dX12_arms_152 : decode cX12_arms 152 = .ok (.invokevirtual 59, 3) := by decide +kernel
theorem dX12_arms_155 : decode cX12_arms 155 = .ok (.ifCond .ne 30, 3) := by decide +kernel
theorem dX12_arms_158 : decode cX12_arms 158 = .ok (.iload 6, 2) := by decide +kernel
theorem dX12_arms_160 : decode cX12_arms 160 = .ok (.iload_n 1, 1) := by decide +kernel
theorem dX12_arms_161 : decode cX12_arms 161 = .ok (.if_icmp .gt 24, 3) := by decide +kernel
theorem dX12_arms_164 : decode cX12_arms 164 = .ok (.aload_n 0, 1) := by decide +kernel
theorem dX12_arms_165 : decode cX12_arms 165 = .ok (.getfield 22, 3) := by decide +kernel
theorem dX12_arms_168 : decode cX12_arms 168 = .ok (.iload 4, 2) := by decide +kernel
theorem dX12_arms_170 : decode cX12_arms 170 = .ok (.iconst 1, 1) := by decide +kernel
theorem dX12_arms_171 : decode cX12_arms 171 = .ok (.iload 5, 2) := by decide +kernel
theorem dX12_arms_173 : decode cX12_arms 173 = .ok (.ishl, 1) := by decide +kernel
theorem dX12_arms_174 : decode cX12_arms 174 = .ok (.iconst (-1), 1) := by decide +kernel
theorem dX12_arms_175 : decode cX12_arms 175 = .ok (.ixor, 1) := by decide +kernel
theorem dX12_arms_176 : decode cX12_arms 176 = .ok (.iand, 1) := by decide +kernel
theorem dX12_arms_177 : decode cX12_arms 177 = .ok (.baload, 1) := by decide +kernel
theorem dX12_arms_178 : decode cX12_arms 178 = .ok (.ifCond .eq 7, 3) := by decide +kernel
theorem dX12_arms_181 : decode cX12_arms 181 = .ok (.iconst 1, 1) := by decide +kernel
theorem dX12_arms_182 : decode cX12_arms 182 = .ok (.goto 4, 3) := by decide +kernel
theorem dX12_arms_185 : decode cX12_arms 185 = .ok (.iconst 0, 1) := by decide +kernel
theorem dX12_arms_186 : decode cX12_arms 186 = .ok (.istore 7, 2) := by decide +kernel
theorem dX12_arms_188 : decode cX12_arms 188 = .ok (.aload_n 0, 1) := by decide +kernel
theorem dX12_arms_189 : decode cX12_arms 189 = .ok (.getfield 22, 3) := by decide +kernel
theorem dX12_arms_192 : decode cX12_arms 192 = .ok (.iload 4, 2) := by decide +kernel
theorem dX12_arms_194 : decode cX12_arms 194 = .ok (.aload_n 0, 1) := by decide +kernel
theorem dX12_arms_195 : decode cX12_arms 195 = .ok (.getfield 22, 3) := by decide +kernel
theorem dX12_arms_198 : decode cX12_arms 198 = .ok (.iload 4, 2) := by decide +kernel
theorem dX12_arms_200 : decode cX12_arms 200 = .ok (.baload, 1) := by decide +kernel
theorem dX12_arms_201 : decode cX12_arms 201 = .ok (.ifCond .ne 8, 3) := by decide +kernel
theorem dX12_arms_204 : decode cX12_arms 204 = .ok (.iload 7, 2) := by decide +kernel
theorem dX12_arms_206 : decode cX12_arms 206 = .ok (.ifCond .eq 7, 3) := by decide +kernel
theorem dX12_arms_209 : decode cX12_arms 209 = .ok (.iconst 1, 1) := by decide +kernel
theorem dX12_arms_210 : decode cX12_arms 210 = .ok (.goto 4, 3) := by decide +kernel
theorem dX12_arms_213 : decode cX12_arms 213 = .ok (.iconst 0, 1) := by decide +kernel
theorem dX12_arms_214 : decode cX12_arms 214 = .ok (.bastore, 1) := by decide +kernel
theorem dX12_arms_215 : decode cX12_arms 215 = .ok (.iinc 5 1, 3) := by decide +kernel
theorem dX12_arms_218 : decode cX12_arms 218 = .ok (.goto (-135), 3) := by decide +kernel
theorem dX12_arms_221 : decode cX12_arms 221 = .ok (.iinc 4 (-1), 3) := by decide +kernel
theorem dX12_arms_224 : decode cX12_arms 224 = .ok (.goto (-157), 3) := by decide +kernel
theorem dX12_arms_227 : decode cX12_arms 227 = .ok (.iinc 3 1, 3) := by decide +kernel
theorem dX12_arms_230 : decode cX12_arms 230 = .ok (.goto (-173), 3) := by decide +kernel
theorem dX12_arms_233 : decode cX12_arms 233 = .ok (.iconst 0, 1) := by decide +kernel
theorem dX12_arms_234 : decode cX12_arms 234 = .ok (.istore_n 3, 1) := by decide +kernel
theorem dX12_arms_235 : decode cX12_arms 235 = .ok (.iconst 1, 1) := by decide +kernel
theorem dX12_arms_236 : decode cX12_arms 236 = .ok (.istore 4, 2) := by decide +kernel
theorem dX12_arms_238 : decode cX12_arms 238 = .ok (.iload 4, 2) := by decide +kernel
theorem dX12_arms_240 : decode cX12_arms 240 = .ok (.bipush 64, 2) := by decide +kernel
theorem dX12_arms_242 : decode cX12_arms 242 = .ok (.if_icmp .ge 38, 3) := by decide +kernel
theorem dX12_arms_245 : decode cX12_arms 245 = .ok (.aload_n 0, 1) := by decide +kernel
theorem dX12_arms_246 : decode cX12_arms 246 = .ok (.getfield 22, 3) := by decide +kernel
theorem dX12_arms_249 : decode cX12_arms 249 = .ok (.iload 4, 2) := by decide +kernel
theorem dX12_arms_251 : decode cX12_arms 251 = .ok (.baload, 1) := by decide +kernel
theorem dX12_arms_252 : decode cX12_arms 252 = .ok (.ifCond .eq 20, 3) := by decide +kernel
theorem dX12_arms_255 : decode cX12_arms 255 = .ok (.iload 4, 2) := by decide +kernel
theorem dX12_arms_257 : decode cX12_arms 257 = .ok (.invokestatic 84, 3) := by decide +kernel
theorem dX12_arms_260 : decode cX12_arms 260 = .ok (.iload_n 3, 1) := by decide +kernel
theorem dX12_arms_261 : decode cX12_arms 261 = .ok (.invokestatic 84, 3) := by decide +kernel
theorem dX12_arms_264 : decode cX12_arms 264 = .ok (.if_icmp .le 8, 3) := by decide +kernel
theorem dX12_arms_267 : decode cX12_arms 267 = .ok (.iload 4, 2) := by decide +kernel
theorem dX12_arms_269 : decode cX12_arms 269 = .ok (.goto 4, 3) := by decide +kernel
theorem dX12_arms_272 : decode cX12_arms 272 = .ok (.iload_n 3, 1) := by decide +kernel
theorem dX12_arms_273 : decode cX12_arms 273 = .ok (.istore_n 3, 1) := by decide +kernel
theorem dX12_arms_274 : decode cX12_arms 274 = .ok (.iinc 4 1, 3) := by decide +kernel
theorem dX12_arms_277 : decode cX12_arms 277 = .ok (.goto (-39), 3) := by decide +kernel
theorem dX12_arms_280 : decode cX12_arms 280 = .ok (.iload_n 2, 1) := by decide +kernel
theorem dX12_arms_281 : decode cX12_arms 281 = .ok (.ifCond .ne 10, 3) := by decide +kernel
theorem dX12_arms_284 : decode cX12_arms 284 = .ok (.iload_n 3, 1) := by decide +kernel
theorem dX12_arms_285 : decode cX12_arms 285 = .ok (.invokestatic 84, 3) := by decide +kernel
theorem dX12_arms_288 : decode cX12_arms 288 = .ok (.goto 4, 3) := by decide +kernel
theorem dX12_arms_291 : decode cX12_arms 291 = .ok (.iload_n 3, 1) := by decide +kernel
theorem dX12_arms_292 : decode cX12_arms 292 = .ok (.ireturn, 1) := by decide +kernel
set_option maxRecDepth 20000 in
theorem ggX12_paid_X12_isWalker : GoodIn wsX12_paid wsX12_isWalker := goodIn_r _ [6, 7, 8, 5, 9] (by decide +kernel) (by decide +kernel)
set_option maxRecDepth 20000 in
theorem gX12_paid_X12_isWalker : GoodIn wsX12_paid (va_wsS RX12 67 yX12_isWalker wsX12_isWalker) := goodIn_app (goodIn_of _ (by decide +kernel)) ggX12_paid_X12_isWalker
set_option maxRecDepth 20000 in
theorem ggX12_paid_X12_in : GoodIn wsX12_paid wsX12_in := goodIn_r _ [9] (by decide +kernel) (by decide +kernel)
set_option maxRecDepth 20000 in
theorem gX12_paid_X12_in : GoodIn wsX12_paid (va_wsS RX12 38 yX12_in wsX12_in) := goodIn_app (goodIn_of _ (by decide +kernel)) ggX12_paid_X12_in
theorem dX12_paid_0 : decode cX12_paid 0 = .ok (.iload_n 1, 1) := by decide +kernel
theorem dX12_paid_1 : decode cX12_paid 1 = .ok (.invokestatic 67, 3) := by decide +kernel
theorem dX12_paid_4 : decode cX12_paid 4 = .ok (.ifCond .ne 5, 3) := by decide +kernel
theorem dX12_paid_7 : decode cX12_paid 7 = .ok (.iconst (-1), 1) := by decide +kernel
theorem dX12_paid_8 : decode cX12_paid 8 = .ok (.ireturn, 1) := by decide +kernel
theorem dX12_paid_9 : decode cX12_paid 9 = .ok (.iload_n 2, 1) := by decide +kernel
theorem dX12_paid_10 : decode cX12_paid 10 = .ok (.iconst 0, 1) := by decide +kernel
theorem dX12_paid_11 : decode cX12_paid 11 = .ok (.iconst 1, 1) := by decide +kernel
theorem dX12_paid_12 : decode cX12_paid 12 = .ok (.invokestatic 38, 3) := by decide +kernel
theorem dX12_paid_15 : decode cX12_paid 15 = .ok (.ifCond .ne 6, 3) := by decide +kernel
theorem dX12_paid_18 : decode cX12_paid 18 = .ok (.bipush (-2), 2) := by decide +kernel
theorem dX12_paid_20 : decode cX12_paid 20 = .ok (.ireturn, 1) := by decide +kernel
theorem dX12_paid_21 : decode cX12_paid 21 = .ok (.ldc 144, 2) := by decide +kernel
theorem dX12_paid_23 : decode cX12_paid 23 = .ok (.istore_n 3, 1) := by decide +kernel
theorem dX12_paid_24 : decode cX12_paid 24 = .ok (.bipush (-6), 2) := by decide +kernel
theorem dX12_paid_26 : decode cX12_paid 26 = .ok (.istore 4, 2) := by decide +kernel
theorem dX12_paid_28 : decode cX12_paid 28 = .ok (.iconst 0, 1) := by decide +kernel
theorem dX12_paid_29 : decode cX12_paid 29 = .ok (.istore 5, 2) := by decide +kernel
theorem dX12_paid_31 : decode cX12_paid 31 = .ok (.iload 5, 2) := by decide +kernel
theorem dX12_paid_33 : decode cX12_paid 33 = .ok (.sipush 1000, 3) := by decide +kernel
theorem dX12_paid_36 : decode cX12_paid 36 = .ok (.if_icmp .ge 168, 3) := by decide +kernel
theorem dX12_paid_39 : decode cX12_paid 39 = .ok (.iload 5, 2) := by decide +kernel
theorem dX12_paid_41 : decode cX12_paid 41 = .ok (.bipush 100, 2) := by decide +kernel
theorem dX12_paid_43 : decode cX12_paid 43 = .ok (.idiv, 1) := by decide +kernel
theorem dX12_paid_44 : decode cX12_paid 44 = .ok (.istore 6, 2) := by decide +kernel
theorem dX12_paid_46 : decode cX12_paid 46 = .ok (.iload 5, 2) := by decide +kernel
theorem dX12_paid_48 : decode cX12_paid 48 = .ok (.bipush 10, 2) := by decide +kernel
theorem dX12_paid_50 : decode cX12_paid 50 = .ok (.idiv, 1) := by decide +kernel
theorem dX12_paid_51 : decode cX12_paid 51 = .ok (.bipush 10, 2) := by decide +kernel
theorem dX12_paid_53 : decode cX12_paid 53 = .ok (.irem, 1) := by decide +kernel
theorem dX12_paid_54 : decode cX12_paid 54 = .ok (.istore 7, 2) := by decide +kernel
theorem dX12_paid_56 : decode cX12_paid 56 = .ok (.iload 5, 2) := by decide +kernel
theorem dX12_paid_58 : decode cX12_paid 58 = .ok (.bipush 10, 2) := by decide +kernel
theorem dX12_paid_60 : decode cX12_paid 60 = .ok (.irem, 1) := by decide +kernel
theorem dX12_paid_61 : decode cX12_paid 61 = .ok (.istore 8, 2) := by decide +kernel
theorem dX12_paid_63 : decode cX12_paid 63 = .ok (.iload 6, 2) := by decide +kernel
theorem dX12_paid_65 : decode cX12_paid 65 = .ok (.aload_n 0, 1) := by decide +kernel
theorem dX12_paid_66 : decode cX12_paid 66 = .ok (.getfield 7, 3) := by decide +kernel
theorem dX12_paid_69 : decode cX12_paid 69 = .ok (.bipush 30, 2) := by decide +kernel
theorem dX12_paid_71 : decode cX12_paid 71 = .ok (.iload_n 1, 1) := by decide +kernel
theorem dX12_paid_72 : decode cX12_paid 72 = .ok (.iadd, 1) := by decide +kernel
theorem dX12_paid_73 : decode cX12_paid 73 = .ok (.iaload, 1) := by decide +kernel
theorem dX12_paid_74 : decode cX12_paid 74 = .ok (.if_icmp .gt 35, 3) := by decide +kernel
theorem dX12_paid_77 : decode cX12_paid 77 = .ok (.iload 7, 2) := by decide +kernel
theorem dX12_paid_79 : decode cX12_paid 79 = .ok (.aload_n 0, 1) := by decide +kernel
theorem dX12_paid_80 : decode cX12_paid 80 = .ok (.getfield 7, 3) := by decide +kernel
theorem dX12_paid_83 : decode cX12_paid 83 = .ok (.bipush 36, 2) := by decide +kernel
theorem dX12_paid_85 : decode cX12_paid 85 = .ok (.iload_n 1, 1) := by decide +kernel
theorem dX12_paid_86 : decode cX12_paid 86 = .ok (.iadd, 1) := by decide +kernel
theorem dX12_paid_87 : decode cX12_paid 87 = .ok (.iaload, 1) := by decide +kernel
theorem dX12_paid_88 : decode cX12_paid 88 = .ok (.if_icmp .gt 21, 3) := by decide +kernel
theorem dX12_paid_91 : decode cX12_paid 91 = .ok (.iload 8, 2) := by decide +kernel
theorem dX12_paid_93 : decode cX12_paid 93 = .ok (.aload_n 0, 1) := by decide +kernel
theorem dX12_paid_94 : decode cX12_paid 94 = .ok (.getfield 7, 3) := by decide +kernel
theorem dX12_paid_97 : decode cX12_paid 97 = .ok (.bipush 42, 2) := by decide +kernel
theorem dX12_paid_99 : decode cX12_paid 99 = .ok (.iload_n 1, 1) := by decide +kernel
theorem dX12_paid_100 : decode cX12_paid 100 = .ok (.iadd, 1) := by decide +kernel
theorem dX12_paid_101 : decode cX12_paid 101 = .ok (.iaload, 1) := by decide +kernel
theorem dX12_paid_102 : decode cX12_paid 102 = .ok (.if_icmp .gt 7, 3) := by decide +kernel
theorem dX12_paid_105 : decode cX12_paid 105 = .ok (.iconst 1, 1) := by decide +kernel
theorem dX12_paid_106 : decode cX12_paid 106 = .ok (.goto 4, 3) := by decide +kernel
theorem dX12_paid_109 : decode cX12_paid 109 = .ok (.iconst 0, 1) := by decide +kernel
theorem dX12_paid_110 : decode cX12_paid 110 = .ok (.istore 9, 2) := by decide +kernel
theorem dX12_paid_112 : decode cX12_paid 112 = .ok (.iload 6, 2) := by decide +kernel
theorem dX12_paid_114 : decode cX12_paid 114 = .ok (.aload_n 0, 1) := by decide +kernel
theorem dX12_paid_115 : decode cX12_paid 115 = .ok (.getfield 7, 3) := by decide +kernel
theorem dX12_paid_118 : decode cX12_paid 118 = .ok (.bipush 53, 2) := by decide +kernel
theorem dX12_paid_120 : decode cX12_paid 120 = .ok (.iaload, 1) := by decide +kernel
theorem dX12_paid_121 : decode cX12_paid 121 = .ok (.imul, 1) := by decide +kernel
theorem dX12_paid_122 : decode cX12_paid 122 = .ok (.iload 7, 2) := by decide +kernel
theorem dX12_paid_124 : decode cX12_paid 124 = .ok (.aload_n 0, 1) := by decide +kernel
theorem dX12_paid_125 : decode cX12_paid 125 = .ok (.getfield 7, 3) := by decide +kernel
theorem dX12_paid_128 : decode cX12_paid 128 = .ok (.bipush 54, 2) := by decide +kernel
theorem dX12_paid_130 : decode cX12_paid 130 = .ok (.iaload, 1) := by decide +kernel
theorem dX12_paid_131 : decode cX12_paid 131 = .ok (.imul, 1) := by decide +kernel
theorem dX12_paid_132 : decode cX12_paid 132 = .ok (.iadd, 1) := by decide +kernel
theorem dX12_paid_133 : decode cX12_paid 133 = .ok (.iload 8, 2) := by decide +kernel
theorem dX12_paid_135 : decode cX12_paid 135 = .ok (.aload_n 0, 1) := by decide +kernel
theorem dX12_paid_136 : decode cX12_paid 136 = .ok (.getfield 7, 3) := by decide +kernel
theorem dX12_paid_139 : decode cX12_paid 139 = .ok (.bipush 55, 2) := by decide +kernel
theorem dX12_paid_141 : decode cX12_paid 141 = .ok (.iaload, 1) := by decide +kernel
theorem dX12_paid_142 : decode cX12_paid 142 = .ok (.imul, 1) := by decide +kernel
theorem dX12_paid_143 : decode cX12_paid 143 = .ok (.iadd, 1) := by decide +kernel
theorem dX12_paid_144 : decode cX12_paid 144 = .ok (.aload_n 0, 1) := by decide +kernel
theorem dX12_paid_145 : decode cX12_paid 145 = .ok (.getfield 7, 3) := by decide +kernel
theorem dX12_paid_148 : decode cX12_paid 148 = .ok (.bipush 12, 2) := by decide +kernel
theorem dX12_paid_150 : decode cX12_paid 150 = .ok (.iload_n 1, 1) := by decide +kernel
theorem dX12_paid_151 : decode cX12_paid 151 = .ok (.iadd, 1) := by decide +kernel
theorem dX12_paid_152 : decode cX12_paid 152 = .ok (.iaload, 1) := by decide +kernel
theorem dX12_paid_153 : decode cX12_paid 153 = .ok (.if_icmp .lt 7, 3) := by decide +kernel
theorem dX12_paid_156 : decode cX12_paid 156 = .ok (.iconst 1, 1) := by decide +kernel
theorem dX12_paid_157 : decode cX12_paid 157 = .ok (.goto 4, 3) := by decide +kernel
theorem dX12_paid_160 : decode cX12_paid 160 = .ok (.iconst 0, 1) := by decide +kernel
theorem dX12_paid_161 : decode cX12_paid 161 = .ok (.istore 10, 2) := by decide +kernel
theorem dX12_paid_163 : decode cX12_paid 163 = .ok (.iload 9, 2) := by decide +kernel
theorem dX12_paid_165 : decode cX12_paid 165 = .ok (.ifCond .eq 33, 3) := by decide +kernel
theorem dX12_paid_168 : decode cX12_paid 168 = .ok (.iload 10, 2) := by decide +kernel
theorem dX12_paid_170 : decode cX12_paid 170 = .ok (.ifCond .eq 28, 3) := by decide +kernel
theorem dX12_paid_173 : decode cX12_paid 173 = .ok (.iload 6, 2) := by decide +kernel
theorem dX12_paid_175 : decode cX12_paid 175 = .ok (.iload 7, 2) := by decide +kernel
theorem dX12_paid_177 : decode cX12_paid 177 = .ok (.iadd, 1) := by decide +kernel
theorem dX12_paid_178 : decode cX12_paid 178 = .ok (.iload 8, 2) := by decide +kernel
theorem dX12_paid_180 : decode cX12_paid 180 = .ok (.iadd, 1) := by decide +kernel
theorem dX12_paid_181 : decode cX12_paid 181 = .ok (.iload_n 3, 1) := by decide +kernel
theorem dX12_paid_182 : decode cX12_paid 182 = .ok (.if_icmp .ge 16, 3) := by decide +kernel
theorem dX12_paid_185 : decode cX12_paid 185 = .ok (.iload 6, 2) := by decide +kernel
theorem dX12_paid_187 : decode cX12_paid 187 = .ok (.iload 7, 2) := by decide +kernel
theorem dX12_paid_189 : decode cX12_paid 189 = .ok (.iadd, 1) := by decide +kernel
