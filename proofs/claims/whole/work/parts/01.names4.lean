theorem dX11_told_15 : decode cX11_told 15 = .ok (.invokevirtual 301, 3) := by decide +kernel
theorem dX11_told_18 : decode cX11_told 18 = .ok (.ireturn, 1) := by decide +kernel
theorem dX11_told_19 : decode cX11_told 19 = .ok (.iload_n 1, 1) := by decide +kernel
theorem dX11_told_20 : decode cX11_told 20 = .ok (.iconst 1, 1) := by decide +kernel
theorem dX11_told_21 : decode cX11_told 21 = .ok (.bipush 6, 2) := by decide +kernel
theorem dX11_told_23 : decode cX11_told 23 = .ok (.invokestatic 92, 3) := by decide +kernel
theorem dX11_told_26 : decode cX11_told 26 = .ok (.ifCond .eq 14, 3) := by decide +kernel
theorem dX11_told_29 : decode cX11_told 29 = .ok (.aload_n 0, 1) := by decide +kernel
theorem dX11_told_30 : decode cX11_told 30 = .ok (.getfield 12, 3) := by decide +kernel
theorem dX11_told_33 : decode cX11_told 33 = .ok (.iload_n 1, 1) := by decide +kernel
theorem dX11_told_34 : decode cX11_told 34 = .ok (.iconst 1, 1) := by decide +kernel
theorem dX11_told_35 : decode cX11_told 35 = .ok (.isub, 1) := by decide +kernel
theorem dX11_told_36 : decode cX11_told 36 = .ok (.invokevirtual 190, 3) := by decide +kernel
theorem dX11_told_39 : decode cX11_told 39 = .ok (.ireturn, 1) := by decide +kernel
theorem dX11_told_40 : decode cX11_told 40 = .ok (.iload_n 1, 1) := by decide +kernel
theorem dX11_told_41 : decode cX11_told 41 = .ok (.lookupswitch 59 #[(0, 35), (7, 43), (8, 51)], 35) := by decide +kernel
theorem dX11_told_76 : decode cX11_told 76 = .ok (.aload_n 0, 1) := by decide +kernel
theorem dX11_told_77 : decode cX11_told 77 = .ok (.getfield 19, 3) := by decide +kernel
theorem dX11_told_80 : decode cX11_told 80 = .ok (.getfield 141, 3) := by decide +kernel
theorem dX11_told_83 : decode cX11_told 83 = .ok (.ireturn, 1) := by decide +kernel
theorem dX11_told_84 : decode cX11_told 84 = .ok (.aload_n 0, 1) := by decide +kernel
theorem dX11_told_85 : decode cX11_told 85 = .ok (.getfield 12, 3) := by decide +kernel
theorem dX11_told_88 : decode cX11_told 88 = .ok (.invokevirtual 289, 3) := by decide +kernel
theorem dX11_told_91 : decode cX11_told 91 = .ok (.ireturn, 1) := by decide +kernel
theorem dX11_told_92 : decode cX11_told 92 = .ok (.aload_n 0, 1) := by decide +kernel
theorem dX11_told_93 : decode cX11_told 93 = .ok (.getfield 26, 3) := by decide +kernel
theorem dX11_told_96 : decode cX11_told 96 = .ok (.getfield 234, 3) := by decide +kernel
theorem dX11_told_99 : decode cX11_told 99 = .ok (.ireturn, 1) := by decide +kernel
theorem dX11_told_100 : decode cX11_told 100 = .ok (.bipush (-2), 2) := by decide +kernel
theorem dX11_told_102 : decode cX11_told 102 = .ok (.ireturn, 1) := by decide +kernel
set_option maxRecDepth 20000 in
theorem ggX11_toldOfWalker_X11_isWalker : GoodIn wsX11_toldOfWalker wsX11_isWalker := goodIn_r _ [5, 6, 7, 4, 8] (by decide +kernel) (by decide +kernel)
set_option maxRecDepth 20000 in
theorem gX11_toldOfWalker_X11_isWalker : GoodIn wsX11_toldOfWalker (va_wsS RX11 85 yX11_isWalker wsX11_isWalker) := goodIn_app (goodIn_of _ (by decide +kernel)) ggX11_toldOfWalker_X11_isWalker
set_option maxRecDepth 20000 in
theorem ggX11_toldOfWalker_X11_within : GoodIn wsX11_toldOfWalker wsX11_within := goodIn_r _ [8] (by decide +kernel) (by decide +kernel)
set_option maxRecDepth 20000 in
theorem gX11_toldOfWalker_X11_within : GoodIn wsX11_toldOfWalker (va_wsS RX11 92 yX11_within wsX11_within) := goodIn_app (goodIn_of _ (by decide +kernel)) ggX11_toldOfWalker_X11_within
set_option maxRecDepth 20000 in
theorem ggX11_toldOfWalker_X8_purseOf : GoodIn wsX11_toldOfWalker wsX8_purseOf := goodIn_r _ [13, 14, 15, 16, 12, 17, 18, 19, 4, 20, 41, 42, 43, 44, 45, 46, 47, 48, 49, 50] (by decide +kernel) (by decide +kernel)
set_option maxRecDepth 20000 in
theorem gX11_toldOfWalker_X8_purseOf : GoodIn wsX11_toldOfWalker (wsV RX11 111 RX8 yX8_purseOf wsX8_purseOf) := goodIn_app (goodIn_of _ (by decide +kernel)) ggX11_toldOfWalker_X8_purseOf
set_option maxRecDepth 20000 in
theorem ggX11_toldOfWalker_X8_ofWalker : GoodIn wsX11_toldOfWalker wsX8_ofWalker := goodIn_r _ [24, 25, 26, 27, 28, 29, 14, 15, 16, 12, 17, 18, 41, 42, 43, 44, 45, 46, 47, 48, 49, 50] (by decide +kernel) (by decide +kernel)
set_option maxRecDepth 20000 in
theorem gX11_toldOfWalker_X8_ofWalker : GoodIn wsX11_toldOfWalker (wsV RX11 177 RX8 yX8_ofWalker wsX8_ofWalker) := goodIn_app (goodIn_of _ (by decide +kernel)) ggX11_toldOfWalker_X8_ofWalker
theorem dX11_toldOfWalker_0 : decode cX11_toldOfWalker 0 = .ok (.iload_n 2, 1) := by decide +kernel
theorem dX11_toldOfWalker_1 : decode cX11_toldOfWalker 1 = .ok (.invokestatic 85, 3) := by decide +kernel
theorem dX11_toldOfWalker_4 : decode cX11_toldOfWalker 4 = .ok (.ifCond .eq 13, 3) := by decide +kernel
theorem dX11_toldOfWalker_7 : decode cX11_toldOfWalker 7 = .ok (.iload_n 1, 1) := by decide +kernel
theorem dX11_toldOfWalker_8 : decode cX11_toldOfWalker 8 = .ok (.iconst 1, 1) := by decide +kernel
theorem dX11_toldOfWalker_9 : decode cX11_toldOfWalker 9 = .ok (.bipush 6, 2) := by decide +kernel
theorem dX11_toldOfWalker_11 : decode cX11_toldOfWalker 11 = .ok (.invokestatic 92, 3) := by decide +kernel
theorem dX11_toldOfWalker_14 : decode cX11_toldOfWalker 14 = .ok (.ifCond .ne 6, 3) := by decide +kernel
theorem dX11_toldOfWalker_17 : decode cX11_toldOfWalker 17 = .ok (.bipush (-2), 2) := by decide +kernel
theorem dX11_toldOfWalker_19 : decode cX11_toldOfWalker 19 = .ok (.ireturn, 1) := by decide +kernel
theorem dX11_toldOfWalker_20 : decode cX11_toldOfWalker 20 = .ok (.iload_n 1, 1) := by decide +kernel
theorem dX11_toldOfWalker_21 : decode cX11_toldOfWalker 21 = .ok (.bipush 6, 2) := by decide +kernel
theorem dX11_toldOfWalker_23 : decode cX11_toldOfWalker 23 = .ok (.if_icmp .ne 14, 3) := by decide +kernel
theorem dX11_toldOfWalker_26 : decode cX11_toldOfWalker 26 = .ok (.aload_n 0, 1) := by decide +kernel
theorem dX11_toldOfWalker_27 : decode cX11_toldOfWalker 27 = .ok (.getfield 12, 3) := by decide +kernel
theorem dX11_toldOfWalker_30 : decode cX11_toldOfWalker 30 = .ok (.iload_n 2, 1) := by decide +kernel
theorem dX11_toldOfWalker_31 : decode cX11_toldOfWalker 31 = .ok (.invokevirtual 111, 3) := by decide +kernel
theorem dX11_toldOfWalker_34 : decode cX11_toldOfWalker 34 = .ok (.goto 14, 3) := by decide +kernel
theorem dX11_toldOfWalker_37 : decode cX11_toldOfWalker 37 = .ok (.aload_n 0, 1) := by decide +kernel
theorem dX11_toldOfWalker_38 : decode cX11_toldOfWalker 38 = .ok (.getfield 12, 3) := by decide +kernel
theorem dX11_toldOfWalker_41 : decode cX11_toldOfWalker 41 = .ok (.iload_n 2, 1) := by decide +kernel
theorem dX11_toldOfWalker_42 : decode cX11_toldOfWalker 42 = .ok (.iload_n 1, 1) := by decide +kernel
theorem dX11_toldOfWalker_43 : decode cX11_toldOfWalker 43 = .ok (.iconst 1, 1) := by decide +kernel
theorem dX11_toldOfWalker_44 : decode cX11_toldOfWalker 44 = .ok (.isub, 1) := by decide +kernel
theorem dX11_toldOfWalker_45 : decode cX11_toldOfWalker 45 = .ok (.invokevirtual 177, 3) := by decide +kernel
theorem dX11_toldOfWalker_48 : decode cX11_toldOfWalker 48 = .ok (.ireturn, 1) := by decide +kernel
set_option maxRecDepth 20000 in
theorem ggX11_textCanBe_X3_faultyPlace : GoodIn wsX11_textCanBe wsX3_faultyPlace := goodIn_r _ [9, 10, 11, 12, 13, 8, 14, 15, 16, 17, 18, 19, 20, 21, 22, 23, 24, 25, 26, 27, 28, 29, 222, 223] (by decide +kernel) (by decide +kernel)
set_option maxRecDepth 20000 in
theorem gX11_textCanBe_X3_faultyPlace : GoodIn wsX11_textCanBe (wsV RX11 152 RX3 yX3_faultyPlace wsX3_faultyPlace) := goodIn_app (goodIn_of _ (by decide +kernel)) ggX11_textCanBe_X3_faultyPlace
set_option maxRecDepth 20000 in
theorem ggX11_textCanBe_X9_read : GoodIn wsX11_textCanBe wsX9_read := goodIn_r _ [34, 35, 36, 37, 38, 39, 40, 33, 41, 42, 43, 44, 45, 46, 47, 48, 49, 50, 51, 52, 53, 54, 55, 56, 57, 58, 59, 60, 61, 62, 63, 64, 65, 66, 67, 68, 69, 70, 71, 72, 73, 74, 75, 76, 77, 78, 79, 13, 8, 14, 15, 16, 17, 18, 19, 20, 21, 22, 23, 24, 25, 26, 27, 28, 29, 80, 81, 82, 83, 84, 85, 86, 87, 88, 89, 90, 91, 92, 93, 94, 95, 96, 97, 98, 99, 100, 101, 102, 103, 104, 105, 106, 107, 108, 109, 110, 111, 112, 113, 114, 115, 116, 117, 118, 119, 120, 121, 122, 123, 124, 125, 126, 127, 128, 129, 130, 131, 132, 133, 134, 135, 136, 137, 138, 139, 140, 141, 142, 143, 144, 145, 146, 147, 148, 149, 150, 151, 152, 153, 154, 155, 156, 157, 158, 159, 160, 161, 162, 163, 164, 165, 166, 167, 168, 169, 170, 171, 172, 173, 174, 175, 176, 177, 178, 179, 180, 181, 182, 183, 184, 185, 186, 187, 188, 189, 190, 191, 192, 193, 194, 195, 196, 197, 198, 199, 200, 201, 202, 203, 222, 223, 215, 216, 217, 218, 219, 220, 221, 224, 225, 226, 227, 228, 229, 230, 231, 232, 233, 234, 235, 236] (by decide +kernel) (by decide +kernel)
set_option maxRecDepth 20000 in
theorem gX11_textCanBe_X9_read : GoodIn wsX11_textCanBe (wsV RX11 155 RX9 yX9_read wsX9_read) := goodIn_app (goodIn_of _ (by decide +kernel)) ggX11_textCanBe_X9_read
theorem dX11_textCanBe_0 : decode cX11_textCanBe 0 = .ok (.aload_n 0, 1) := by decide +kernel
theorem dX11_textCanBe_1 : decode cX11_textCanBe 1 = .ok (.getfield 19, 3) := by decide +kernel
theorem dX11_textCanBe_4 : decode cX11_textCanBe 4 = .ok (.invokevirtual 152, 3) := by decide +kernel
theorem dX11_textCanBe_7 : decode cX11_textCanBe 7 = .ok (.bipush (-6), 2) := by decide +kernel
theorem dX11_textCanBe_9 : decode cX11_textCanBe 9 = .ok (.if_icmp .eq 5, 3) := by decide +kernel
theorem dX11_textCanBe_12 : decode cX11_textCanBe 12 = .ok (.iconst 0, 1) := by decide +kernel
theorem dX11_textCanBe_13 : decode cX11_textCanBe 13 = .ok (.ireturn, 1) := by decide +kernel
theorem dX11_textCanBe_14 : decode cX11_textCanBe 14 = .ok (.aload_n 0, 1) := by decide +kernel
theorem dX11_textCanBe_15 : decode cX11_textCanBe 15 = .ok (.getfield 39, 3) := by decide +kernel
theorem dX11_textCanBe_18 : decode cX11_textCanBe 18 = .ok (.aload_n 0, 1) := by decide +kernel
theorem dX11_textCanBe_19 : decode cX11_textCanBe 19 = .ok (.getfield 19, 3) := by decide +kernel
theorem dX11_textCanBe_22 : decode cX11_textCanBe 22 = .ok (.aload_n 0, 1) := by decide +kernel
theorem dX11_textCanBe_23 : decode cX11_textCanBe 23 = .ok (.getfield 12, 3) := by decide +kernel
theorem dX11_textCanBe_26 : decode cX11_textCanBe 26 = .ok (.invokevirtual 155, 3) := by decide +kernel
theorem dX11_textCanBe_29 : decode cX11_textCanBe 29 = .ok (.aload_n 0, 1) := by decide +kernel
theorem dX11_textCanBe_30 : decode cX11_textCanBe 30 = .ok (.getfield 39, 3) := by decide +kernel
theorem dX11_textCanBe_33 : decode cX11_textCanBe 33 = .ok (.getfield 159, 3) := by decide +kernel
theorem dX11_textCanBe_36 : decode cX11_textCanBe 36 = .ok (.bipush (-6), 2) := by decide +kernel
theorem dX11_textCanBe_38 : decode cX11_textCanBe 38 = .ok (.if_icmp .ne 7, 3) := by decide +kernel
theorem dX11_textCanBe_41 : decode cX11_textCanBe 41 = .ok (.iconst 1, 1) := by decide +kernel
theorem dX11_textCanBe_42 : decode cX11_textCanBe 42 = .ok (.goto 4, 3) := by decide +kernel
theorem dX11_textCanBe_45 : decode cX11_textCanBe 45 = .ok (.iconst 0, 1) := by decide +kernel
theorem dX11_textCanBe_46 : decode cX11_textCanBe 46 = .ok (.ireturn, 1) := by decide +kernel
theorem dX11_within_0 : decode cX11_within 0 = .ok (.iload_n 0, 1) := by decide +kernel
theorem dX11_within_1 : decode cX11_within 1 = .ok (.iload_n 1, 1) := by decide +kernel
theorem dX11_within_2 : decode cX11_within 2 = .ok (.if_icmp .lt 12, 3) := by decide +kernel
theorem dX11_within_5 : decode cX11_within 5 = .ok (.iload_n 0, 1) := by decide +kernel
theorem dX11_within_6 : decode cX11_within 6 = .ok (.iload_n 2, 1) := by decide +kernel
theorem dX11_within_7 : decode cX11_within 7 = .ok (.if_icmp .gt 7, 3) := by decide +kernel
theorem dX11_within_10 : decode cX11_within 10 = .ok (.iconst 1, 1) := by decide +kernel
theorem dX11_within_11 : decode cX11_within 11 = .ok (.goto 4, 3) := by decide +kernel
theorem dX11_within_14 : decode cX11_within 14 = .ok (.iconst 0, 1) := by decide +kernel
theorem dX11_within_15 : decode cX11_within 15 = .ok (.ireturn, 1) := by decide +kernel
set_option maxRecDepth 20000 in
theorem ggX11_allWithin_X11_within : GoodIn wsX11_allWithin wsX11_within := goodIn_r _ [4] (by decide +kernel) (by decide +kernel)
set_option maxRecDepth 20000 in
theorem gX11_allWithin_X11_within : GoodIn wsX11_allWithin (va_wsS RX11 92 yX11_within wsX11_within) := goodIn_app (goodIn_of _ (by decide +kernel)) ggX11_allWithin_X11_within
theorem dX11_allWithin_0 : decode cX11_allWithin 0 = .ok (.iload_n 0, 1) := by decide +kernel
theorem dX11_allWithin_1 : decode cX11_allWithin 1 = .ok (.iconst 0, 1) := by decide +kernel
theorem dX11_allWithin_2 : decode cX11_allWithin 2 = .ok (.iload_n 3, 1) := by decide +kernel
theorem dX11_allWithin_3 : decode cX11_allWithin 3 = .ok (.invokestatic 92, 3) := by decide +kernel
theorem dX11_allWithin_6 : decode cX11_allWithin 6 = .ok (.ifCond .eq 25, 3) := by decide +kernel
theorem dX11_allWithin_9 : decode cX11_allWithin 9 = .ok (.iload_n 1, 1) := by decide +kernel
theorem dX11_allWithin_10 : decode cX11_allWithin 10 = .ok (.iconst 0, 1) := by decide +kernel
theorem dX11_allWithin_11 : decode cX11_allWithin 11 = .ok (.iload_n 3, 1) := by decide +kernel
theorem dX11_allWithin_12 : decode cX11_allWithin 12 = .ok (.invokestatic 92, 3) := by decide +kernel
theorem dX11_allWithin_15 : decode cX11_allWithin 15 = .ok (.ifCond .eq 16, 3) := by decide +kernel
theorem dX11_allWithin_18 : decode cX11_allWithin 18 = .ok (.iload_n 2, 1) := by decide +kernel
theorem dX11_allWithin_19 : decode cX11_allWithin 19 = .ok (.iconst 0, 1) := by decide +kernel
theorem dX11_allWithin_20 : decode cX11_allWithin 20 = .ok (.iload_n 3, 1) := by decide +kernel
theorem dX11_allWithin_21 : decode cX11_allWithin 21 = .ok (.invokestatic 92, 3) := by decide +kernel
theorem dX11_allWithin_24 : decode cX11_allWithin 24 = .ok (.ifCond .eq 7, 3) := by decide +kernel
theorem dX11_allWithin_27 : decode cX11_allWithin 27 = .ok (.iconst 1, 1) := by decide +kernel
theorem dX11_allWithin_28 : decode cX11_allWithin 28 = .ok (.goto 4, 3) := by decide +kernel
theorem dX11_allWithin_31 : decode cX11_allWithin 31 = .ok (.iconst 0, 1) := by decide +kernel
theorem dX11_allWithin_32 : decode cX11_allWithin 32 = .ok (.ireturn, 1) := by decide +kernel
set_option maxRecDepth 20000 in
theorem ggX11_isWalker_X11_within : GoodIn wsX11_isWalker wsX11_within := goodIn_r _ [4] (by decide +kernel) (by decide +kernel)
set_option maxRecDepth 20000 in
theorem gX11_isWalker_X11_within : GoodIn wsX11_isWalker (va_wsS RX11 92 yX11_within wsX11_within) := goodIn_app (goodIn_of _ (by decide +kernel)) ggX11_isWalker_X11_within
theorem dX11_isWalker_0 : decode cX11_isWalker 0 = .ok (.iload_n 0, 1) := by decide +kernel
theorem dX11_isWalker_1 : decode cX11_isWalker 1 = .ok (.iconst 0, 1) := by decide +kernel
theorem dX11_isWalker_2 : decode cX11_isWalker 2 = .ok (.iconst 5, 1) := by decide +kernel
theorem dX11_isWalker_3 : decode cX11_isWalker 3 = .ok (.invokestatic 92, 3) := by decide +kernel
theorem dX11_isWalker_6 : decode cX11_isWalker 6 = .ok (.ireturn, 1) := by decide +kernel
set_option maxRecDepth 20000 in
theorem ggX11_isCell_X11_within : GoodIn wsX11_isCell wsX11_within := goodIn_r _ [4] (by decide +kernel) (by decide +kernel)
set_option maxRecDepth 20000 in
theorem gX11_isCell_X11_within : GoodIn wsX11_isCell (va_wsS RX11 92 yX11_within wsX11_within) := goodIn_app (goodIn_of _ (by decide +kernel)) ggX11_isCell_X11_within
theorem dX11_isCell_0 : decode cX11_isCell 0 = .ok (.iload_n 0, 1) := by decide +kernel
theorem dX11_isCell_1 : decode cX11_isCell 1 = .ok (.iconst 0, 1) := by decide +kernel
theorem dX11_isCell_2 : decode cX11_isCell 2 = .ok (.bipush 11, 2) := by decide +kernel
theorem dX11_isCell_4 : decode cX11_isCell 4 = .ok (.invokestatic 92, 3) := by decide +kernel
theorem dX11_isCell_7 : decode cX11_isCell 7 = .ok (.ireturn, 1) := by decide +kernel
theorem dX11_has_0 : decode cX11_has 0 = .ok (.iload_n 0, 1) := by decide +kernel
theorem dX11_has_1 : decode cX11_has 1 = .ok (.iload_n 1, 1) := by decide +kernel
theorem dX11_has_2 : decode cX11_has 2 = .ok (.ishr, 1) := by decide +kernel
theorem dX11_has_3 : decode cX11_has 3 = .ok (.iconst 1, 1) := by decide +kernel
theorem dX11_has_4 : decode cX11_has 4 = .ok (.iand, 1) := by decide +kernel
theorem dX11_has_5 : decode cX11_has 5 = .ok (.ifCond .eq 7, 3) := by decide +kernel
theorem dX11_has_8 : decode cX11_has 8 = .ok (.iconst 1, 1) := by decide +kernel
theorem dX11_has_9 : decode cX11_has 9 = .ok (.goto 4, 3) := by decide +kernel
theorem dX11_has_12 : decode cX11_has 12 = .ok (.iconst 0, 1) := by decide +kernel
theorem dX11_has_13 : decode cX11_has 13 = .ok (.ireturn, 1) := by decide +kernel
theorem dX11_code_0 : decode cX11_code 0 = .ok (.bipush 100, 2) := by decide +kernel
theorem dX11_code_2 : decode cX11_code 2 = .ok (.iload_n 0, 1) := by decide +kernel
theorem dX11_code_3 : decode cX11_code 3 = .ok (.imul, 1) := by decide +kernel
theorem dX11_code_4 : decode cX11_code 4 = .ok (.bipush 10, 2) := by decide +kernel
theorem dX11_code_6 : decode cX11_code 6 = .ok (.iload_n 1, 1) := by decide +kernel
theorem dX11_code_7 : decode cX11_code 7 = .ok (.imul, 1) := by decide +kernel
theorem dX11_code_8 : decode cX11_code 8 = .ok (.iadd, 1) := by decide +kernel
theorem dX11_code_9 : decode cX11_code 9 = .ok (.iload_n 2, 1) := by decide +kernel
theorem dX11_code_10 : decode cX11_code 10 = .ok (.iadd, 1) := by decide +kernel
theorem dX11_code_11 : decode cX11_code 11 = .ok (.ireturn, 1) := by decide +kernel
theorem dX11_commonDivisor_0 : decode cX11_commonDivisor 0 = .ok (.iload_n 0, 1) := by decide +kernel
theorem dX11_commonDivisor_1 : decode cX11_commonDivisor 1 = .ok (.istore_n 2, 1) := by decide +kernel
theorem dX11_commonDivisor_2 : decode cX11_commonDivisor 2 = .ok (.iload_n 1, 1) := by decide +kernel
theorem dX11_commonDivisor_3 : decode cX11_commonDivisor 3 = .ok (.istore_n 3, 1) := by decide +kernel
theorem dX11_commonDivisor_4 : decode cX11_commonDivisor 4 = .ok (.iconst 0, 1) := by decide +kernel
theorem dX11_commonDivisor_5 : decode cX11_commonDivisor 5 = .ok (.istore 4, 2) := by decide +kernel
theorem dX11_commonDivisor_7 : decode cX11_commonDivisor 7 = .ok (.iload 4, 2) := by decide +kernel
theorem dX11_commonDivisor_9 : decode cX11_commonDivisor 9 = .ok (.bipush 64, 2) := by decide +kernel
theorem dX11_commonDivisor_11 : decode cX11_commonDivisor 11 = .ok (.if_icmp .ge 23, 3) := by decide +kernel
theorem dX11_commonDivisor_14 : decode cX11_commonDivisor 14 = .ok (.iload_n 3, 1) := by decide +kernel
theorem dX11_commonDivisor_15 : decode cX11_commonDivisor 15 = .ok (.ifCond .eq 19, 3) := by decide +kernel
theorem dX11_commonDivisor_18 : decode cX11_commonDivisor 18 = .ok (.iload_n 2, 1) := by decide +kernel
theorem dX11_commonDivisor_19 : decode cX11_commonDivisor 19 = .ok (.iload_n 3, 1) := by decide +kernel
theorem dX11_commonDivisor_20 : decode cX11_commonDivisor 20 = .ok (.irem, 1) := by decide +kernel
theorem dX11_commonDivisor_21 : decode cX11_commonDivisor 21 = .ok (.istore 5, 2) := by decide +kernel
theorem dX11_commonDivisor_23 : decode cX11_commonDivisor 23 = .ok (.iload_n 3, 1) := by decide +kernel
theorem dX11_commonDivisor_24 : decode cX11_commonDivisor 24 = .ok (.istore_n 2, 1) := by decide +kernel
theorem dX11_commonDivisor_25 : decode cX11_commonDivisor 25 = .ok (.iload 5, 2) := by decide +kernel
theorem dX11_commonDivisor_27 : decode cX11_commonDivisor 27 = .ok (.istore_n 3, 1) := by decide +kernel
theorem dX11_commonDivisor_28 : decode cX11_commonDivisor 28 = .ok (.iinc 4 1, 3) := by decide +kernel
theorem dX11_commonDivisor_31 : decode cX11_commonDivisor 31 = .ok (.goto (-24), 3) := by decide +kernel
theorem dX11_commonDivisor_34 : decode cX11_commonDivisor 34 = .ok (.iload_n 2, 1) := by decide +kernel
theorem dX11_commonDivisor_35 : decode cX11_commonDivisor 35 = .ok (.ireturn, 1) := by decide +kernel
theorem dX12_init_0 : decode cX12_init 0 = .ok (.aload_n 0, 1) := by decide +kernel
theorem dX12_init_1 : decode cX12_init 1 = .ok (.invokespecial 1, 3) := by decide +kernel
theorem dX12_init_4 : decode cX12_init 4 = .ok (.aload_n 0, 1) := by decide +kernel
theorem dX12_init_5 : decode cX12_init 5 = .ok (.bipush 56, 2) := by decide +kernel
theorem dX12_init_7 : decode cX12_init 7 = .ok (.newarray .int, 2) := by decide +kernel
theorem dX12_init_9 : decode cX12_init 9 = .ok (.putfield 7, 3) := by decide +kernel
theorem dX12_init_12 : decode cX12_init 12 = .ok (.aload_n 0, 1) := by decide +kernel
theorem dX12_init_13 : decode cX12_init 13 = .ok (.bipush 56, 2) := by decide +kernel
theorem dX12_init_15 : decode cX12_init 15 = .ok (.newarray .int, 2) := by decide +kernel
theorem dX12_init_17 : decode cX12_init 17 = .ok (.putfield 13, 3) := by decide +kernel
theorem dX12_init_20 : decode cX12_init 20 = .ok (.aload_n 0, 1) := by decide +kernel
theorem dX12_init_21 : decode cX12_init 21 = .ok (.bipush 40, 2) := by decide +kernel
theorem dX12_init_23 : decode cX12_init 23 = .ok (.newarray .int, 2) := by decide +kernel
theorem dX12_init_25 : decode cX12_init 25 = .ok (.putfield 16, 3) := by decide +kernel
theorem dX12_init_28 : decode cX12_init 28 = .ok (.aload_n 0, 1) := by decide +kernel
theorem dX12_init_29 : decode cX12_init 29 = .ok (.bipush 60, 2) := by decide +kernel
theorem dX12_init_31 : decode cX12_init 31 = .ok (.newarray .int, 2) := by decide +kernel
theorem dX12_init_33 : decode cX12_init 33 = .ok (.putfield 19, 3) := by decide +kernel
theorem dX12_init_36 : decode cX12_init 36 = .ok (.aload_n 0, 1) := by decide +kernel
theorem dX12_init_37 : decode cX12_init 37 = .ok (.bipush 64, 2) := by decide +kernel
theorem dX12_init_39 : decode cX12_init 39 = .ok (.newarray .boolean, 2) := by decide +kernel
theorem dX12_init_41 : decode cX12_init 41 = .ok (.putfield 22, 3) := by decide +kernel
theorem dX12_init_44 : decode cX12_init 44 = .ok (.aload_n 0, 1) := by decide +kernel
theorem dX12_init_45 : decode cX12_init 45 = .ok (.bipush 64, 2) := by decide +kernel
theorem dX12_init_47 : decode cX12_init 47 = .ok (.newarray .int, 2) := by decide +kernel
theorem dX12_init_49 : decode cX12_init 49 = .ok (.putfield 26, 3) := by decide +kernel
theorem dX12_init_52 : decode cX12_init 52 = .ok (.aload_n 0, 1) := by decide +kernel
theorem dX12_init_53 : decode cX12_init 53 = .ok (.sipush 500, 3) := by decide +kernel
theorem dX12_init_56 : decode cX12_init 56 = .ok (.newarray .boolean, 2) := by decide +kernel
theorem dX12_init_58 : decode cX12_init 58 = .ok (.putfield 29, 3) := by decide +kernel
theorem dX12_init_61 : decode cX12_init 61 = .ok (.aload_n 0, 1) := by decide +kernel
theorem dX12_init_62 : decode cX12_init 62 = .ok (.sipush 200, 3) := by decide +kernel
theorem dX12_init_65 : decode cX12_init 65 = .ok (.newarray .int, 2) := by decide +kernel
theorem dX12_init_67 : decode cX12_init 67 = .ok (.putfield 32, 3) := by decide +kernel
theorem dX12_init_70 : decode cX12_init 70 = .ok (.aload_n 0, 1) := by decide +kernel
theorem dX12_init_71 : decode cX12_init 71 = .ok (.iconst 2, 1) := by decide +kernel
theorem dX12_init_72 : decode cX12_init 72 = .ok (.newarray .boolean, 2) := by decide +kernel
theorem dX12_init_74 : decode cX12_init 74 = .ok (.putfield 35, 3) := by decide +kernel
theorem dX12_init_77 : decode cX12_init 77 = .ok (.iconst 0, 1) := by decide +kernel
theorem dX12_init_78 : decode cX12_init 78 = .ok (.istore_n 1, 1) := by decide +kernel
theorem dX12_init_79 : decode cX12_init 79 = .ok (.iload_n 1, 1) := by decide +kernel
theorem dX12_init_80 : decode cX12_init 80 = .ok (.bipush 6, 2) := by decide +kernel
theorem dX12_init_82 : decode cX12_init 82 = .ok (.if_icmp .ge 68, 3) := by decide +kernel
theorem dX12_init_85 : decode cX12_init 85 = .ok (.aload_n 0, 1) := by decide +kernel
theorem dX12_init_86 : decode cX12_init 86 = .ok (.getfield 7, 3) := by decide +kernel
theorem dX12_init_89 : decode cX12_init 89 = .ok (.iload_n 1, 1) := by decide +kernel
theorem dX12_init_90 : decode cX12_init 90 = .ok (.iload_n 1, 1) := by decide +kernel
theorem dX12_init_91 : decode cX12_init 91 = .ok (.iastore, 1) := by decide +kernel
theorem dX12_init_92 : decode cX12_init 92 = .ok (.aload_n 0, 1) := by decide +kernel
theorem dX12_init_93 : decode cX12_init 93 = .ok (.getfield 7, 3) := by decide +kernel
theorem dX12_init_96 : decode cX12_init 96 = .ok (.bipush 18, 2) := by decide +kernel
theorem dX12_init_98 : decode cX12_init 98 = .ok (.iload_n 1, 1) := by decide +kernel
theorem dX12_init_99 : decode cX12_init 99 = .ok (.iadd, 1) := by decide +kernel
theorem dX12_init_100 : decode cX12_init 100 = .ok (.bipush (-6), 2) := by decide +kernel
theorem dX12_init_102 : decode cX12_init 102 = .ok (.iastore, 1) := by decide +kernel
theorem dX12_init_103 : decode cX12_init 103 = .ok (.aload_n 0, 1) := by decide +kernel
theorem dX12_init_104 : decode cX12_init 104 = .ok (.getfield 7, 3) := by decide +kernel
theorem dX12_init_107 : decode cX12_init 107 = .ok (.bipush 24, 2) := by decide +kernel
theorem dX12_init_109 : decode cX12_init 109 = .ok (.iload_n 1, 1) := by decide +kernel
theorem dX12_init_110 : decode cX12_init 110 = .ok (.iadd, 1) := by decide +kernel
theorem dX12_init_111 : decode cX12_init 111 = .ok (.bipush (-6), 2) := by decide +kernel
theorem dX12_init_113 : decode cX12_init 113 = .ok (.iastore, 1) := by decide +kernel
theorem dX12_init_114 : decode cX12_init 114 = .ok (.aload_n 0, 1) := by decide +kernel
theorem dX12_init_115 : decode cX12_init 115 = .ok (.getfield 7, 3) := by decide +kernel
theorem dX12_init_118 : decode cX12_init 118 = .ok (.bipush 30, 2) := by decide +kernel
theorem dX12_init_120 : decode cX12_init 120 = .ok (.iload_n 1, 1) := by decide +kernel
theorem dX12_init_121 : decode cX12_init 121 = .ok (.iadd, 1) := by decide +kernel
theorem dX12_init_122 : decode cX12_init 122 = .ok (.iconst 2, 1) := by decide +kernel
theorem dX12_init_123 : decode cX12_init 123 = .ok (.iastore, 1) := by decide +kernel
theorem dX12_init_124 : decode cX12_init 124 = .ok (.aload_n 0, 1) := by decide +kernel
theorem dX12_init_125 : decode cX12_init 125 = .ok (.getfield 7, 3) := by decide +kernel
theorem dX12_init_128 : decode cX12_init 128 = .ok (.bipush 36, 2) := by decide +kernel
theorem dX12_init_130 : decode cX12_init 130 = .ok (.iload_n 1, 1) := by decide +kernel
theorem dX12_init_131 : decode cX12_init 131 = .ok (.iadd, 1) := by decide +kernel
theorem dX12_init_132 : decode cX12_init 132 = .ok (.iconst 2, 1) := by decide +kernel
theorem dX12_init_133 : decode cX12_init 133 = .ok (.iastore, 1) := by decide +kernel
theorem dX12_init_134 : decode cX12_init 134 = .ok (.aload_n 0, 1) := by decide +kernel
theorem dX12_init_135 : decode cX12_init 135 = .ok (.getfield 7, 3) := by decide +kernel
theorem dX12_init_138 : decode cX12_init 138 = .ok (.bipush 42, 2) := by decide +kernel
theorem dX12_init_140 : decode cX12_init 140 = .ok (.iload_n 1, 1) := by decide +kernel
theorem dX12_init_141 : decode cX12_init 141 = .ok (.iadd, 1) := by decide +kernel
theorem dX12_init_142 : decode cX12_init 142 = .ok (.iconst 2, 1) := by decide +kernel
theorem dX12_init_143 : decode cX12_init 143 = .ok (.iastore, 1) := by decide +kernel
theorem dX12_init_144 : decode cX12_init 144 = .ok (.iinc 1 1, 3) := by decide +kernel
theorem dX12_init_147 : decode cX12_init 147 = .ok (.goto (-68), 3) := by decide +kernel
theorem dX12_init_150 : decode cX12_init 150 = .ok (.aload_n 0, 1) := by decide +kernel
theorem dX12_init_151 : decode cX12_init 151 = .ok (.getfield 7, 3) := by decide +kernel
theorem dX12_init_154 : decode cX12_init 154 = .ok (.bipush 50, 2) := by decide +kernel
theorem dX12_init_156 : decode cX12_init 156 = .ok (.iconst 1, 1) := by decide +kernel
theorem dX12_init_157 : decode cX12_init 157 = .ok (.iastore, 1) := by decide +kernel
theorem dX12_init_158 : decode cX12_init 158 = .ok (.aload_n 0, 1) := by decide +kernel
theorem dX12_init_159 : decode cX12_init 159 = .ok (.getfield 7, 3) := by decide +kernel
theorem dX12_init_162 : decode cX12_init 162 = .ok (.bipush 53, 2) := by decide +kernel
theorem dX12_init_164 : decode cX12_init 164 = .ok (.iconst 1, 1) := by decide +kernel
theorem dX12_init_165 : decode cX12_init 165 = .ok (.iastore, 1) := by decide +kernel
theorem dX12_init_166 : decode cX12_init 166 = .ok (.aload_n 0, 1) := by decide +kernel
theorem dX12_init_167 : decode cX12_init 167 = .ok (.getfield 7, 3) := by decide +kernel
theorem dX12_init_170 : decode cX12_init 170 = .ok (.bipush 54, 2) := by decide +kernel
theorem dX12_init_172 : decode cX12_init 172 = .ok (.iconst 1, 1) := by decide +kernel
theorem dX12_init_173 : decode cX12_init 173 = .ok (.iastore, 1) := by decide +kernel
theorem dX12_init_174 : decode cX12_init 174 = .ok (.aload_n 0, 1) := by decide +kernel
theorem dX12_init_175 : decode cX12_init 175 = .ok (.getfield 7, 3) := by decide +kernel
theorem dX12_init_178 : decode cX12_init 178 = .ok (.bipush 55, 2) := by decide +kernel
theorem dX12_init_180 : decode cX12_init 180 = .ok (.iconst 1, 1) := by decide +kernel
theorem dX12_init_181 : decode cX12_init 181 = .ok (.iastore, 1) := by decide +kernel
theorem dX12_init_182 : decode cX12_init 182 = .ok (.return_, 1) := by decide +kernel
theorem dX12_in_0 : decode cX12_in 0 = .ok (.iload_n 0, 1) := by decide +kernel
theorem dX12_in_1 : decode cX12_in 1 = .ok (.iload_n 1, 1) := by decide +kernel
theorem dX12_in_2 : decode cX12_in 2 = .ok (.if_icmp .lt 12, 3) := by decide +kernel
theorem dX12_in_5 : decode cX12_in 5 = .ok (.iload_n 0, 1) := by decide +kernel
theorem dX12_in_6 : decode cX12_in 6 = .ok (.iload_n 2, 1) := by decide +kernel
theorem dX12_in_7 : decode cX12_in 7 = .ok (.if_icmp .gt 7, 3) := by decide +kernel
theorem dX12_in_10 : decode cX12_in 10 = .ok (.iconst 1, 1) := by decide +kernel
theorem dX12_in_11 : decode cX12_in 11 = .ok (.goto 4, 3) := by decide +kernel
theorem dX12_in_14 : decode cX12_in 14 = .ok (.iconst 0, 1) := by decide +kernel
theorem dX12_in_15 : decode cX12_in 15 = .ok (.ireturn, 1) := by decide +kernel
theorem dX12_has_0 : decode cX12_has 0 = .ok (.iload_n 0, 1) := by decide +kernel
theorem dX12_has_1 : decode cX12_has 1 = .ok (.iload_n 1, 1) := by decide +kernel
theorem dX12_has_2 : decode cX12_has 2 = .ok (.ishr, 1) := by decide +kernel
theorem dX12_has_3 : decode cX12_has 3 = .ok (.iconst 1, 1) := by decide +kernel
theorem dX12_has_4 : decode cX12_has 4 = .ok (.iand, 1) := by decide +kernel
theorem dX12_has_5 : decode cX12_has 5 = .ok (.iconst 1, 1) := by decide +kernel
theorem dX12_has_6 : decode cX12_has 6 = .ok (.if_icmp .ne 7, 3) := by decide +kernel
theorem dX12_has_9 : decode cX12_has 9 = .ok (.iconst 1, 1) := by decide +kernel
theorem dX12_has_10 : decode cX12_has 10 = .ok (.goto 4, 3) := by decide +kernel
theorem dX12_has_13 : decode cX12_has 13 = .ok (.iconst 0, 1) := by decide +kernel
theorem dX12_has_14 : decode cX12_has 14 = .ok (.ireturn, 1) := by decide +kernel
theorem dX12_bits_0 : decode cX12_bits 0 = .ok (.iconst 0, 1) := by decide +kernel
theorem dX12_bits_1 : decode cX12_bits 1 = .ok (.istore_n 1, 1) := by decide +kernel
theorem dX12_bits_2 : decode cX12_bits 2 = .ok (.iconst 0, 1) := by decide +kernel
theorem dX12_bits_3 : decode cX12_bits 3 = .ok (.istore_n 2, 1) := by decide +kernel
theorem dX12_bits_4 : decode cX12_bits 4 = .ok (.iload_n 2, 1) := by decide +kernel
theorem dX12_bits_5 : decode cX12_bits 5 = .ok (.bipush 12, 2) := by decide +kernel
theorem dX12_bits_7 : decode cX12_bits 7 = .ok (.if_icmp .ge 17, 3) := by decide +kernel
theorem dX12_bits_10 : decode cX12_bits 10 = .ok (.iload_n 1, 1) := by decide +kernel
theorem dX12_bits_11 : decode cX12_bits 11 = .ok (.iload_n 0, 1) := by decide +kernel
theorem dX12_bits_12 : decode cX12_bits 12 = .ok (.iload_n 2, 1) := by decide +kernel
theorem dX12_bits_13 : decode cX12_bits 13 = .ok (.ishr, 1) := by decide +kernel
theorem dX12_bits_14 : decode cX12_bits 14 = .ok (.iconst 1, 1) := by decide +kernel
theorem dX12_bits_15 : decode cX12_bits 15 = .ok (.iand, 1) := by decide +kernel
theorem dX12_bits_16 : decode cX12_bits 16 = .ok (.iadd, 1) := by decide +kernel
theorem dX12_bits_17 : decode cX12_bits 17 = .ok (.istore_n 1, 1) := by decide +kernel
theorem dX12_bits_18 : decode cX12_bits 18 = .ok (.iinc 2 1, 3) := by decide +kernel
theorem dX12_bits_21 : decode cX12_bits 21 = .ok (.goto (-17), 3) := by decide +kernel
theorem dX12_bits_24 : decode cX12_bits 24 = .ok (.iload_n 1, 1) := by decide +kernel
theorem dX12_bits_25 : decode cX12_bits 25 = .ok (.ireturn, 1) := by decide +kernel
set_option maxRecDepth 20000 in
theorem ggX12_isWalker_X12_in : GoodIn wsX12_isWalker wsX12_in := goodIn_r _ [4] (by decide +kernel) (by decide +kernel)
set_option maxRecDepth 20000 in
theorem gX12_isWalker_X12_in : GoodIn wsX12_isWalker (va_wsS RX12 38 yX12_in wsX12_in) := goodIn_app (goodIn_of _ (by decide +kernel)) ggX12_isWalker_X12_in
theorem dX12_isWalker_0 : decode cX12_isWalker 0 = .ok (.iload_n 0, 1) := by decide +kernel
theorem dX12_isWalker_1 : decode cX12_isWalker 1 = .ok (.iconst 0, 1) := by decide +kernel
theorem dX12_isWalker_2 : decode cX12_isWalker 2 = .ok (.iconst 5, 1) := by decide +kernel
theorem dX12_isWalker_3 : decode cX12_isWalker 3 = .ok (.invokestatic 38, 3) := by decide +kernel
theorem dX12_isWalker_6 : decode cX12_isWalker 6 = .ok (.ireturn, 1) := by decide +kernel
set_option maxRecDepth 20000 in
theorem ggX12_isCell_X12_in : GoodIn wsX12_isCell wsX12_in := goodIn_r _ [4] (by decide +kernel) (by decide +kernel)
set_option maxRecDepth 20000 in
theorem gX12_isCell_X12_in : GoodIn wsX12_isCell (va_wsS RX12 38 yX12_in wsX12_in) := goodIn_app (goodIn_of _ (by decide +kernel)) ggX12_isCell_X12_in
theorem dX12_isCell_0 : decode cX12_isCell 0 = .ok (.iload_n 0, 1) := by decide +kernel
theorem dX12_isCell_1 : decode cX12_isCell 1 = .ok (.iconst 0, 1) := by decide +kernel
theorem dX12_isCell_2 : decode cX12_isCell 2 = .ok (.bipush 11, 2) := by decide +kernel
theorem dX12_isCell_4 : decode cX12_isCell 4 = .ok (.invokestatic 38, 3) := by decide +kernel
theorem dX12_isCell_7 : decode cX12_isCell 7 = .ok (.ireturn, 1) := by decide +kernel
theorem dX12_asNow_0 : decode cX12_asNow 0 = .ok (.iconst 0, 1) := by decide +kernel
theorem dX12_asNow_1 : decode cX12_asNow 1 = .ok (.istore_n 1, 1) := by decide +kernel
theorem dX12_asNow_2 : decode cX12_asNow 2 = .ok (.iload_n 1, 1) := by decide +kernel
theorem dX12_asNow_3 : decode cX12_asNow 3 = .ok (.bipush 56, 2) := by decide +kernel
theorem dX12_asNow_5 : decode cX12_asNow 5 = .ok (.if_icmp .ge 21, 3) := by decide +kernel
theorem dX12_asNow_8 : decode cX12_asNow 8 = .ok (.aload_n 0, 1) := by decide +kernel
theorem dX12_asNow_9 : decode cX12_asNow 9 = .ok (.getfield 13, 3) := by decide +kernel
theorem dX12_asNow_12 : decode cX12_asNow 12 = .ok (.iload_n 1, 1) := by decide +kernel
theorem dX12_asNow_13 : decode cX12_asNow 13 = .ok (.aload_n 0, 1) := by decide +kernel
theorem dX12_asNow_14 : decode cX12_asNow 14 = .ok (.getfield 7, 3) := by decide +kernel
theorem dX12_asNow_17 : decode cX12_asNow 17 = .ok (.iload_n 1, 1) := by decide +kernel
theorem dX12_asNow_18 : decode cX12_asNow 18 = .ok (.iaload, 1) := by decide +kernel
theorem dX12_asNow_19 : decode cX12_asNow 19 = .ok (.iastore, 1) := by decide +kernel
theorem dX12_asNow_20 : decode cX12_asNow 20 = .ok (.iinc 1 1, 3) := by decide +kernel
theorem dX12_asNow_23 : decode cX12_asNow 23 = .ok (.goto (-21), 3) := by decide +kernel
theorem dX12_asNow_26 : decode cX12_asNow 26 = .ok (.aload_n 0, 1) := by decide +kernel
theorem dX12_asNow_27 : decode cX12_asNow 27 = .ok (.iconst 0, 1) := by decide +kernel
theorem dX12_asNow_28 : decode cX12_asNow 28 = .ok (.putfield 42, 3) := by decide +kernel
theorem dX12_asNow_31 : decode cX12_asNow 31 = .ok (.aload_n 0, 1) := by decide +kernel
theorem dX12_asNow_32 : decode cX12_asNow 32 = .ok (.bipush (-6), 2) := by decide +kernel
theorem dX12_asNow_34 : decode cX12_asNow 34 = .ok (.putfield 46, 3) := by decide +kernel
theorem dX12_asNow_37 : decode cX12_asNow 37 = .ok (.aload_n 0, 1) := by decide +kernel
theorem dX12_asNow_38 : decode cX12_asNow 38 = .ok (.bipush (-6), 2) := by decide +kernel
theorem dX12_asNow_40 : decode cX12_asNow 40 = .ok (.putfield 49, 3) := by decide +kernel
theorem dX12_asNow_43 : decode cX12_asNow 43 = .ok (.aload_n 0, 1) := by decide +kernel
theorem dX12_asNow_44 : decode cX12_asNow 44 = .ok (.bipush (-6), 2) := by decide +kernel
theorem dX12_asNow_46 : decode cX12_asNow 46 = .ok (.putfield 52, 3) := by decide +kernel
theorem dX12_asNow_49 : decode cX12_asNow 49 = .ok (.return_, 1) := by decide +kernel
theorem dX12_holder_0 : decode cX12_holder 0 = .ok (.iconst 0, 1) := by decide +kernel
theorem dX12_holder_1 : decode cX12_holder 1 = .ok (.istore_n 2, 1) := by decide +kernel
theorem dX12_holder_2 : decode cX12_holder 2 = .ok (.iload_n 2, 1) := by decide +kernel
theorem dX12_holder_3 : decode cX12_holder 3 = .ok (.bipush 6, 2) := by decide +kernel
theorem dX12_holder_5 : decode cX12_holder 5 = .ok (.if_icmp .ge 24, 3) := by decide +kernel
theorem dX12_holder_8 : decode cX12_holder 8 = .ok (.aload_n 0, 1) := by decide +kernel
theorem dX12_holder_9 : decode cX12_holder 9 = .ok (.getfield 13, 3) := by decide +kernel
theorem dX12_holder_12 : decode cX12_holder 12 = .ok (.bipush 18, 2) := by decide +kernel
theorem dX12_holder_14 : decode cX12_holder 14 = .ok (.iload_n 2, 1) := by decide +kernel
theorem dX12_holder_15 : decode cX12_holder 15 = .ok (.iadd, 1) := by decide +kernel
theorem dX12_holder_16 : decode cX12_holder 16 = .ok (.iaload, 1) := by decide +kernel
theorem dX12_holder_17 : decode cX12_holder 17 = .ok (.iload_n 1, 1) := by decide +kernel
theorem dX12_holder_18 : decode cX12_holder 18 = .ok (.if_icmp .ne 5, 3) := by decide +kernel
theorem dX12_holder_21 : decode cX12_holder 21 = .ok (.iload_n 2, 1) := by decide +kernel
theorem dX12_holder_22 : decode cX12_holder 22 = .ok (.ireturn, 1) := by decide +kernel
theorem dX12_holder_23 : decode cX12_holder 23 = .ok (.iinc 2 1, 3) := by decide +kernel
theorem dX12_holder_26 : decode cX12_holder 26 = .ok (.goto (-24), 3) := by decide +kernel
theorem dX12_holder_29 : decode cX12_holder 29 = .ok (.bipush (-6), 2) := by decide +kernel
theorem dX12_holder_31 : decode cX12_holder 31 = .ok (.ireturn, 1) := by decide +kernel
set_option maxRecDepth 20000 in
theorem ggX12_atPeace_X12_has : GoodIn wsX12_atPeace wsX12_has := goodIn_r _ [5] (by decide +kernel) (by decide +kernel)
set_option maxRecDepth 20000 in
theorem gX12_atPeace_X12_has : GoodIn wsX12_atPeace (va_wsS RX12 55 yX12_has wsX12_has) := goodIn_app (goodIn_of _ (by decide +kernel)) ggX12_atPeace_X12_has
theorem dX12_atPeace_0 : decode cX12_atPeace 0 = .ok (.aload_n 0, 1) := by decide +kernel
theorem dX12_atPeace_1 : decode cX12_atPeace 1 = .ok (.getfield 13, 3) := by decide +kernel
theorem dX12_atPeace_4 : decode cX12_atPeace 4 = .ok (.bipush 6, 2) := by decide +kernel
theorem dX12_atPeace_6 : decode cX12_atPeace 6 = .ok (.iload_n 1, 1) := by decide +kernel
theorem dX12_atPeace_7 : decode cX12_atPeace 7 = .ok (.iadd, 1) := by decide +kernel
theorem dX12_atPeace_8 : decode cX12_atPeace 8 = .ok (.iaload, 1) := by decide +kernel
theorem dX12_atPeace_9 : decode cX12_atPeace 9 = .ok (.aload_n 0, 1) := by decide +kernel
theorem dX12_atPeace_10 : decode cX12_atPeace 10 = .ok (.getfield 13, 3) := by decide +kernel
theorem dX12_atPeace_13 : decode cX12_atPeace 13 = .ok (.bipush 51, 2) := by decide +kernel
theorem dX12_atPeace_15 : decode cX12_atPeace 15 = .ok (.iaload, 1) := by decide +kernel
theorem dX12_atPeace_16 : decode cX12_atPeace 16 = .ok (.invokestatic 55, 3) := by decide +kernel
theorem dX12_atPeace_19 : decode cX12_atPeace 19 = .ok (.ifCond .eq 20, 3) := by decide +kernel
theorem dX12_atPeace_22 : decode cX12_atPeace 22 = .ok (.aload_n 0, 1) := by decide +kernel
theorem dX12_atPeace_23 : decode cX12_atPeace 23 = .ok (.getfield 13, 3) := by decide +kernel
theorem dX12_atPeace_26 : decode cX12_atPeace 26 = .ok (.bipush 12, 2) := by decide +kernel
theorem dX12_atPeace_28 : decode cX12_atPeace 28 = .ok (.iload_n 1, 1) := by decide +kernel
theorem dX12_atPeace_29 : decode cX12_atPeace 29 = .ok (.iadd, 1) := by decide +kernel
theorem dX12_atPeace_30 : decode cX12_atPeace 30 = .ok (.iaload, 1) := by decide +kernel
theorem dX12_atPeace_31 : decode cX12_atPeace 31 = .ok (.iconst 4, 1) := by decide +kernel
theorem dX12_atPeace_32 : decode cX12_atPeace 32 = .ok (.if_icmp .ge 7, 3) := by decide +kernel
theorem dX12_atPeace_35 : decode cX12_atPeace 35 = .ok (.iconst 1, 1) := by decide +kernel
theorem dX12_atPeace_36 : decode cX12_atPeace 36 = .ok (.goto 4, 3) := by decide +kernel
theorem dX12_atPeace_39 : decode cX12_atPeace 39 = .ok (.iconst 0, 1) := by decide +kernel
theorem dX12_atPeace_40 : decode cX12_atPeace 40 = .ok (.ireturn, 1) := by decide +kernel
set_option maxRecDepth 20000 in
theorem ggX12_isHushed_X12_atPeace : GoodIn wsX12_isHushed wsX12_atPeace := goodIn_r _ [5, 6, 7, 8, 4, 9, 14, 15, 16, 17, 18, 19, 20, 21, 22, 23, 24, 25, 26, 27, 28, 29, 30] (by decide +kernel) (by decide +kernel)
set_option maxRecDepth 20000 in
theorem gX12_isHushed_X12_atPeace : GoodIn wsX12_isHushed (wsV RX12 59 RX12 yX12_atPeace wsX12_atPeace) := goodIn_app (goodIn_of _ (by decide +kernel)) ggX12_isHushed_X12_atPeace
set_option maxRecDepth 20000 in
theorem ggX12_isHushed_X12_holder : GoodIn wsX12_isHushed wsX12_holder := goodIn_r _ [13, 6, 14, 15, 16, 17, 18, 19, 20, 21, 22, 23, 24, 25, 26, 27, 28, 29, 30] (by decide +kernel) (by decide +kernel)
set_option maxRecDepth 20000 in
theorem gX12_isHushed_X12_holder : GoodIn wsX12_isHushed (wsV RX12 63 RX12 yX12_holder wsX12_holder) := goodIn_app (goodIn_of _ (by decide +kernel)) ggX12_isHushed_X12_holder
theorem dX12_isHushed_0 : decode cX12_isHushed 0 = .ok (.aload_n 0, 1) := by decide +kernel
theorem dX12_isHushed_1 : decode cX12_isHushed 1 = .ok (.iload_n 1, 1) := by decide +kernel
theorem dX12_isHushed_2 : decode cX12_isHushed 2 = .ok (.invokevirtual 59, 3) := by decide +kernel
theorem dX12_isHushed_5 : decode cX12_isHushed 5 = .ok (.ifCond .ne 23, 3) := by decide +kernel
theorem dX12_isHushed_8 : decode cX12_isHushed 8 = .ok (.aload_n 0, 1) := by decide +kernel
theorem dX12_isHushed_9 : decode cX12_isHushed 9 = .ok (.iload_n 1, 1) := by decide +kernel
theorem dX12_isHushed_10 : decode cX12_isHushed 10 = .ok (.invokevirtual 63, 3) := by decide +kernel
theorem dX12_isHushed_13 : decode cX12_isHushed 13 = .ok (.ifCond .lt 19, 3) := by decide +kernel
theorem dX12_isHushed_16 : decode cX12_isHushed 16 = .ok (.aload_n 0, 1) := by decide +kernel
theorem dX12_isHushed_17 : decode cX12_isHushed 17 = .ok (.aload_n 0, 1) := by decide +kernel
theorem dX12_isHushed_18 : decode cX12_isHushed 18 = .ok (.iload_n 1, 1) := by decide +kernel
theorem dX12_isHushed_19 : decode cX12_isHushed 19 = .ok (.invokevirtual 63, 3) := by decide +kernel
theorem dX12_isHushed_22 : decode cX12_isHushed 22 = .ok (.invokevirtual 59, 3) := by decide +kernel
theorem dX12_isHushed_25 : decode cX12_isHushed 25 = .ok (.ifCond .eq 7, 3) := by decide +kernel
theorem dX12_isHushed_28 : decode cX12_isHushed 28 = .ok (.iconst 1, 1) := by decide +kernel
theorem dX12_isHushed_29 : decode cX12_isHushed 29 = .ok (.goto 4, 3) := by decide +kernel
theorem dX12_isHushed_32 : decode cX12_isHushed 32 = .ok (.iconst 0, 1) := by decide +kernel
theorem dX12_isHushed_33 : decode cX12_isHushed 33 = .ok (.ireturn, 1) := by decide +kernel
set_option maxRecDepth 20000 in
theorem ggX12_walker_X12_isWalker : GoodIn wsX12_walker wsX12_isWalker := goodIn_r _ [5, 6, 7, 4, 8] (by decide +kernel) (by decide +kernel)
set_option maxRecDepth 20000 in
theorem gX12_walker_X12_isWalker : GoodIn wsX12_walker (va_wsS RX12 67 yX12_isWalker wsX12_isWalker) := goodIn_app (goodIn_of _ (by decide +kernel)) ggX12_walker_X12_isWalker
set_option maxRecDepth 20000 in
theorem ggX12_walker_X12_isCell : GoodIn wsX12_walker wsX12_isCell := goodIn_r _ [11, 6, 7, 4, 8] (by decide +kernel) (by decide +kernel)
set_option maxRecDepth 20000 in
theorem gX12_walker_X12_isCell : GoodIn wsX12_walker (va_wsS RX12 70 yX12_isCell wsX12_isCell) := goodIn_app (goodIn_of _ (by decide +kernel)) ggX12_walker_X12_isCell
set_option maxRecDepth 20000 in
theorem ggX12_walker_X12_in : GoodIn wsX12_walker wsX12_in := goodIn_r _ [8] (by decide +kernel) (by decide +kernel)
set_option maxRecDepth 20000 in
theorem gX12_walker_X12_in : GoodIn wsX12_walker (va_wsS RX12 38 yX12_in wsX12_in) := goodIn_app (goodIn_of _ (by decide +kernel)) ggX12_walker_X12_in
theorem dX12_walker_0 : decode cX12_walker 0 = .ok (.iload_n 1, 1) := by decide +kernel
theorem dX12_walker_1 : decode cX12_walker 1 = .ok (.invokestatic 67, 3) := by decide +kernel
theorem dX12_walker_4 : decode cX12_walker 4 = .ok (.ifCond .eq 10, 3) := by decide +kernel
theorem dX12_walker_7 : decode cX12_walker 7 = .ok (.iload_n 2, 1) := by decide +kernel
theorem dX12_walker_8 : decode cX12_walker 8 = .ok (.invokestatic 70, 3) := by decide +kernel
theorem dX12_walker_11 : decode cX12_walker 11 = .ok (.ifCond .ne 5, 3) := by decide +kernel
theorem dX12_walker_14 : decode cX12_walker 14 = .ok (.iconst (-1), 1) := by decide +kernel
theorem dX12_walker_15 : decode cX12_walker 15 = .ok (.ireturn, 1) := by decide +kernel
theorem dX12_walker_16 : decode cX12_walker 16 = .ok (.iload_n 3, 1) := by decide +kernel
theorem dX12_walker_17 : decode cX12_walker 17 = .ok (.iconst 0, 1) := by decide +kernel
theorem dX12_walker_18 : decode cX12_walker 18 = .ok (.sipush 255, 3) := by decide +kernel
theorem dX12_walker_21 : decode cX12_walker 21 = .ok (.invokestatic 38, 3) := by decide +kernel
theorem dX12_walker_24 : decode cX12_walker 24 = .ok (.ifCond .eq 14, 3) := by decide +kernel
theorem dX12_walker_27 : decode cX12_walker 27 = .ok (.iload 4, 2) := by decide +kernel
theorem dX12_walker_29 : decode cX12_walker 29 = .ok (.iconst 0, 1) := by decide +kernel
theorem dX12_walker_30 : decode cX12_walker 30 = .ok (.bipush 9, 2) := by decide +kernel
theorem dX12_walker_32 : decode cX12_walker 32 = .ok (.invokestatic 38, 3) := by decide +kernel
theorem dX12_walker_35 : decode cX12_walker 35 = .ok (.ifCond .ne 6, 3) := by decide +kernel
theorem dX12_walker_38 : decode cX12_walker 38 = .ok (.bipush (-2), 2) := by decide +kernel
theorem dX12_walker_40 : decode cX12_walker 40 = .ok (.ireturn, 1) := by decide +kernel
theorem dX12_walker_41 : decode cX12_walker 41 = .ok (.sipush 1000, 3) := by decide +kernel
theorem dX12_walker_44 : decode cX12_walker 44 = .ok (.aload_n 0, 1) := by decide +kernel
theorem dX12_walker_45 : decode cX12_walker 45 = .ok (.getfield 7, 3) := by decide +kernel
theorem dX12_walker_48 : decode cX12_walker 48 = .ok (.iload_n 1, 1) := by decide +kernel
theorem dX12_walker_49 : decode cX12_walker 49 = .ok (.iaload, 1) := by decide +kernel
theorem dX12_walker_50 : decode cX12_walker 50 = .ok (.imul, 1) := by decide +kernel
theorem dX12_walker_51 : decode cX12_walker 51 = .ok (.aload_n 0, 1) := by decide +kernel
theorem dX12_walker_52 : decode cX12_walker 52 = .ok (.getfield 7, 3) := by decide +kernel
theorem dX12_walker_55 : decode cX12_walker 55 = .ok (.bipush 12, 2) := by decide +kernel
theorem dX12_walker_57 : decode cX12_walker 57 = .ok (.iload_n 1, 1) := by decide +kernel
theorem dX12_walker_58 : decode cX12_walker 58 = .ok (.iadd, 1) := by decide +kernel
theorem dX12_walker_59 : decode cX12_walker 59 = .ok (.iaload, 1) := by decide +kernel
theorem dX12_walker_60 : decode cX12_walker 60 = .ok (.iadd, 1) := by decide +kernel
theorem dX12_walker_61 : decode cX12_walker 61 = .ok (.istore 5, 2) := by decide +kernel
theorem dX12_walker_63 : decode cX12_walker 63 = .ok (.aload_n 0, 1) := by decide +kernel
theorem dX12_walker_64 : decode cX12_walker 64 = .ok (.getfield 7, 3) := by decide +kernel
theorem dX12_walker_67 : decode cX12_walker 67 = .ok (.iload_n 1, 1) := by decide +kernel
theorem dX12_walker_68 : decode cX12_walker 68 = .ok (.iload_n 2, 1) := by decide +kernel
theorem dX12_walker_69 : decode cX12_walker 69 = .ok (.iastore, 1) := by decide +kernel
theorem dX12_walker_70 : decode cX12_walker 70 = .ok (.aload_n 0, 1) := by decide +kernel
theorem dX12_walker_71 : decode cX12_walker 71 = .ok (.getfield 7, 3) := by decide +kernel
theorem dX12_walker_74 : decode cX12_walker 74 = .ok (.bipush 6, 2) := by decide +kernel
theorem dX12_walker_76 : decode cX12_walker 76 = .ok (.iload_n 1, 1) := by decide +kernel
theorem dX12_walker_77 : decode cX12_walker 77 = .ok (.iadd, 1) := by decide +kernel
theorem dX12_walker_78 : decode cX12_walker 78 = .ok (.iload_n 3, 1) := by decide +kernel
theorem dX12_walker_79 : decode cX12_walker 79 = .ok (.iastore, 1) := by decide +kernel
theorem dX12_walker_80 : decode cX12_walker 80 = .ok (.aload_n 0, 1) := by decide +kernel
theorem dX12_walker_81 : decode cX12_walker 81 = .ok (.getfield 7, 3) := by decide +kernel
theorem dX12_walker_84 : decode cX12_walker 84 = .ok (.bipush 12, 2) := by decide +kernel
theorem dX12_walker_86 : decode cX12_walker 86 = .ok (.iload_n 1, 1) := by decide +kernel
theorem dX12_walker_87 : decode cX12_walker 87 = .ok (.iadd, 1) := by decide +kernel
theorem dX12_walker_88 : decode cX12_walker 88 = .ok (.iload 4, 2) := by decide +kernel
theorem dX12_walker_90 : decode cX12_walker 90 = .ok (.iastore, 1) := by decide +kernel
theorem dX12_walker_91 : decode cX12_walker 91 = .ok (.iconst 0, 1) := by decide +kernel
theorem dX12_walker_92 : decode cX12_walker 92 = .ok (.istore 6, 2) := by decide +kernel
theorem dX12_walker_94 : decode cX12_walker 94 = .ok (.iload 6, 2) := by decide +kernel
theorem dX12_walker_96 : decode cX12_walker 96 = .ok (.bipush 6, 2) := by decide +kernel
theorem dX12_walker_98 : decode cX12_walker 98 = .ok (.if_icmp .ge 54, 3) := by decide +kernel
theorem dX12_walker_101 : decode cX12_walker 101 = .ok (.aload_n 0, 1) := by decide +kernel
theorem dX12_walker_102 : decode cX12_walker 102 = .ok (.getfield 7, 3) := by decide +kernel
theorem dX12_walker_105 : decode cX12_walker 105 = .ok (.bipush 18, 2) := by decide +kernel
theorem dX12_walker_107 : decode cX12_walker 107 = .ok (.iload 6, 2) := by decide +kernel
theorem dX12_walker_109 : decode cX12_walker 109 = .ok (.iadd, 1) := by decide +kernel
theorem dX12_walker_110 : decode cX12_walker 110 = .ok (.iload 6, 2) := by decide +kernel
theorem dX12_walker_112 : decode cX12_walker 112 = .ok (.iload_n 1, 1) := by decide +kernel
theorem dX12_walker_113 : decode cX12_walker 113 = .ok (.if_icmp .eq 17, 3) := by decide +kernel
theorem dX12_walker_116 : decode cX12_walker 116 = .ok (.aload_n 0, 1) := by decide +kernel
theorem dX12_walker_117 : decode cX12_walker 117 = .ok (.getfield 7, 3) := by decide +kernel
theorem dX12_walker_120 : decode cX12_walker 120 = .ok (.bipush 18, 2) := by decide +kernel
theorem dX12_walker_122 : decode cX12_walker 122 = .ok (.iload 6, 2) := by decide +kernel
theorem dX12_walker_124 : decode cX12_walker 124 = .ok (.iadd, 1) := by decide +kernel
theorem dX12_walker_125 : decode cX12_walker 125 = .ok (.iaload, 1) := by decide +kernel
theorem dX12_walker_126 : decode cX12_walker 126 = .ok (.iload_n 1, 1) := by decide +kernel
theorem dX12_walker_127 : decode cX12_walker 127 = .ok (.if_icmp .ne 8, 3) := by decide +kernel
theorem dX12_walker_130 : decode cX12_walker 130 = .ok (.bipush (-6), 2) := by decide +kernel
theorem dX12_walker_132 : decode cX12_walker 132 = .ok (.goto 13, 3) := by decide +kernel
theorem dX12_walker_135 : decode cX12_walker 135 = .ok (.aload_n 0, 1) := by decide +kernel
theorem dX12_walker_136 : decode cX12_walker 136 = .ok (.getfield 7, 3) := by decide +kernel
theorem dX12_walker_139 : decode cX12_walker 139 = .ok (.bipush 18, 2) := by decide +kernel
theorem dX12_walker_141 : decode cX12_walker 141 = .ok (.iload 6, 2) := by decide +kernel
theorem dX12_walker_143 : decode cX12_walker 143 = .ok (.iadd, 1) := by decide +kernel
theorem dX12_walker_144 : decode cX12_walker 144 = .ok (.iaload, 1) := by decide +kernel
theorem dX12_walker_145 : decode cX12_walker 145 = .ok (.iastore, 1) := by decide +kernel
theorem dX12_walker_146 : decode cX12_walker 146 = .ok (.iinc 6 1, 3) := by decide +kernel
theorem dX12_walker_149 : decode cX12_walker 149 = .ok (.goto (-55), 3) := by decide +kernel
theorem dX12_walker_152 : decode cX12_walker 152 = .ok (.aload_n 0, 1) := by decide +kernel
theorem dX12_walker_153 : decode cX12_walker 153 = .ok (.getfield 7, 3) := by decide +kernel
theorem dX12_walker_156 : decode cX12_walker 156 = .ok (.bipush 24, 2) := by decide +kernel
theorem dX12_walker_158 : decode cX12_walker 158 = .ok (.iload_n 1, 1) := by decide +kernel
theorem dX12_walker_159 : decode cX12_walker 159 = .ok (.iadd, 1) := by decide +kernel
theorem dX12_walker_160 : decode cX12_walker 160 = .ok (.bipush (-6), 2) := by decide +kernel
theorem dX12_walker_162 : decode cX12_walker 162 = .ok (.iastore, 1) := by decide +kernel
theorem dX12_walker_163 : decode cX12_walker 163 = .ok (.iload 5, 2) := by decide +kernel
theorem dX12_walker_165 : decode cX12_walker 165 = .ok (.ireturn, 1) := by decide +kernel
set_option maxRecDepth 20000 in
theorem ggX12_purse_X12_isWalker : GoodIn wsX12_purse wsX12_isWalker := goodIn_r _ [5, 6, 7, 4, 8] (by decide +kernel) (by decide +kernel)
set_option maxRecDepth 20000 in
theorem gX12_purse_X12_isWalker : GoodIn wsX12_purse (va_wsS RX12 67 yX12_isWalker wsX12_isWalker) := goodIn_app (goodIn_of _ (by decide +kernel)) ggX12_purse_X12_isWalker
set_option maxRecDepth 20000 in
theorem ggX12_purse_X12_in : GoodIn wsX12_purse wsX12_in := goodIn_r _ [8] (by decide +kernel) (by decide +kernel)
set_option maxRecDepth 20000 in
theorem gX12_purse_X12_in : GoodIn wsX12_purse (va_wsS RX12 38 yX12_in wsX12_in) := goodIn_app (goodIn_of _ (by decide +kernel)) ggX12_purse_X12_in
theorem dX12_purse_0 : decode cX12_purse 0 = .ok (.iload_n 1, 1) := by decide +kernel
theorem dX12_purse_1 : decode cX12_purse 1 = .ok (.invokestatic 67, 3) := by decide +kernel
theorem dX12_purse_4 : decode cX12_purse 4 = .ok (.ifCond .ne 5, 3) := by decide +kernel
theorem dX12_purse_7 : decode cX12_purse 7 = .ok (.iconst (-1), 1) := by decide +kernel
theorem dX12_purse_8 : decode cX12_purse 8 = .ok (.ireturn, 1) := by decide +kernel
theorem dX12_purse_9 : decode cX12_purse 9 = .ok (.iload_n 2, 1) := by decide +kernel
theorem dX12_purse_10 : decode cX12_purse 10 = .ok (.iconst 0, 1) := by decide +kernel
theorem dX12_purse_11 : decode cX12_purse 11 = .ok (.bipush 9, 2) := by decide +kernel
theorem dX12_purse_13 : decode cX12_purse 13 = .ok (.invokestatic 38, 3) := by decide +kernel
theorem dX12_purse_16 : decode cX12_purse 16 = .ok (.ifCond .eq 24, 3) := by decide +kernel
theorem dX12_purse_19 : decode cX12_purse 19 = .ok (.iload_n 3, 1) := by decide +kernel
theorem dX12_purse_20 : decode cX12_purse 20 = .ok (.iconst 0, 1) := by decide +kernel
theorem dX12_purse_21 : decode cX12_purse 21 = .ok (.bipush 9, 2) := by decide +kernel
theorem dX12_purse_23 : decode cX12_purse 23 = .ok (.invokestatic 38, 3) := by decide +kernel
theorem dX12_purse_26 : decode cX12_purse 26 = .ok (.ifCond .eq 14, 3) := by decide +kernel
theorem dX12_purse_29 : decode cX12_purse 29 = .ok (.iload 4, 2) := by decide +kernel
theorem dX12_purse_31 : decode cX12_purse 31 = .ok (.iconst 0, 1) := by decide +kernel
theorem dX12_purse_32 : decode cX12_purse 32 = .ok (.bipush 9, 2) := by decide +kernel
theorem dX12_purse_34 : decode cX12_purse 34 = .ok (.invokestatic 38, 3) := by decide +kernel
theorem dX12_purse_37 : decode cX12_purse 37 = .ok (.ifCond .ne 6, 3) := by decide +kernel
theorem dX12_purse_40 : decode cX12_purse 40 = .ok (.bipush (-2), 2) := by decide +kernel
theorem dX12_purse_42 : decode cX12_purse 42 = .ok (.ireturn, 1) := by decide +kernel
theorem dX12_purse_43 : decode cX12_purse 43 = .ok (.bipush 100, 2) := by decide +kernel
theorem dX12_purse_45 : decode cX12_purse 45 = .ok (.aload_n 0, 1) := by decide +kernel
theorem dX12_purse_46 : decode cX12_purse 46 = .ok (.getfield 7, 3) := by decide +kernel
theorem dX12_purse_49 : decode cX12_purse 49 = .ok (.bipush 30, 2) := by decide +kernel
theorem dX12_purse_51 : decode cX12_purse 51 = .ok (.iload_n 1, 1) := by decide +kernel
theorem dX12_purse_52 : decode cX12_purse 52 = .ok (.iadd, 1) := by decide +kernel
theorem dX12_purse_53 : decode cX12_purse 53 = .ok (.iaload, 1) := by decide +kernel
theorem dX12_purse_54 : decode cX12_purse 54 = .ok (.imul, 1) := by decide +kernel
theorem dX12_purse_55 : decode cX12_purse 55 = .ok (.bipush 10, 2) := by decide +kernel
theorem dX12_purse_57 : decode cX12_purse 57 = .ok (.aload_n 0, 1) := by decide +kernel
theorem dX12_purse_58 : decode cX12_purse 58 = .ok (.getfield 7, 3) := by decide +kernel
theorem dX12_purse_61 : decode cX12_purse 61 = .ok (.bipush 36, 2) := by decide +kernel
theorem dX12_purse_63 : decode cX12_purse 63 = .ok (.iload_n 1, 1) := by decide +kernel
theorem dX12_purse_64 : decode cX12_purse 64 = .ok (.iadd, 1) := by decide +kernel
theorem dX12_purse_65 : decode cX12_purse 65 = .ok (.iaload, 1) := by decide +kernel
theorem dX12_purse_66 : decode cX12_purse 66 = .ok (.imul, 1) := by decide +kernel
theorem dX12_purse_67 : decode cX12_purse 67 = .ok (.iadd, 1) := by decide +kernel
theorem dX12_purse_68 : decode cX12_purse 68 = .ok (.aload_n 0, 1) := by decide +kernel
theorem dX12_purse_69 : decode cX12_purse 69 = .ok (.getfield 7, 3) := by decide +kernel
theorem dX12_purse_72 : decode cX12_purse 72 = .ok (.bipush 42, 2) := by decide +kernel
theorem dX12_purse_74 : decode cX12_purse 74 = .ok (.iload_n 1, 1) := by decide +kernel
theorem dX12_purse_75 : decode cX12_purse 75 = .ok (.iadd, 1) := by decide +kernel
theorem dX12_purse_76 : decode cX12_purse 76 = .ok (.iaload, 1) := by decide +kernel
theorem dX12_purse_77 : decode cX12_purse 77 = .ok (.iadd, 1) := by decide +kernel
theorem dX12_purse_78 : decode cX12_purse 78 = .ok (.istore 5, 2) := by decide +kernel
theorem dX12_purse_80 : decode cX12_purse 80 = .ok (.aload_n 0, 1) := by decide +kernel
theorem dX12_purse_81 : decode cX12_purse 81 = .ok (.getfield 7, 3) := by decide +kernel
theorem dX12_purse_84 : decode cX12_purse 84 = .ok (.bipush 30, 2) := by decide +kernel
theorem dX12_purse_86 : decode cX12_purse 86 = .ok (.iload_n 1, 1) := by decide +kernel
theorem dX12_purse_87 : decode cX12_purse 87 = .ok (.iadd, 1) := by decide +kernel
theorem dX12_purse_88 : decode cX12_purse 88 = .ok (.iload_n 2, 1) := by decide +kernel
theorem dX12_purse_89 : decode cX12_purse 89 = .ok (.iastore, 1) := by decide +kernel
theorem dX12_purse_90 : decode cX12_purse 90 = .ok (.aload_n 0, 1) := by decide +kernel
theorem dX12_purse_91 : decode cX12_purse 91 = .ok (.getfield 7, 3) := by decide +kernel
theorem dX12_purse_94 : decode cX12_purse 94 = .ok (.bipush 36, 2) := by decide +kernel
theorem dX12_purse_96 : decode cX12_purse 96 = .ok (.iload_n 1, 1) := by decide +kernel
theorem dX12_purse_97 : decode cX12_purse 97 = .ok (.iadd, 1) := by decide +kernel
theorem dX12_purse_98 : decode cX12_purse 98 = .ok (.iload_n 3, 1) := by decide +kernel
theorem dX12_purse_99 : decode cX12_purse 99 = .ok (.iastore, 1) := by decide +kernel
theorem dX12_purse_100 : decode cX12_purse 100 = .ok (.aload_n 0, 1) := by decide +kernel
theorem dX12_purse_101 : decode cX12_purse 101 = .ok (.getfield 7, 3) := by decide +kernel
theorem dX12_purse_104 : decode cX12_purse 104 = .ok (.bipush 42, 2) := by decide +kernel
theorem dX12_purse_106 : decode cX12_purse 106 = .ok (.iload_n 1, 1) := by decide +kernel
theorem dX12_purse_107 : decode cX12_purse 107 = .ok (.iadd, 1) := by decide +kernel
theorem dX12_purse_108 : decode cX12_purse 108 = .ok (.iload 4, 2) := by decide +kernel
theorem dX12_purse_110 : decode cX12_purse 110 = .ok (.iastore, 1) := by decide +kernel
theorem dX12_purse_111 : decode cX12_purse 111 = .ok (.iload 5, 2) := by decide +kernel
theorem dX12_purse_113 : decode cX12_purse 113 = .ok (.ireturn, 1) := by decide +kernel
set_option maxRecDepth 20000 in
theorem ggX12_likes_X12_in : GoodIn wsX12_likes wsX12_in := goodIn_r _ [5] (by decide +kernel) (by decide +kernel)
set_option maxRecDepth 20000 in
theorem gX12_likes_X12_in : GoodIn wsX12_likes (va_wsS RX12 38 yX12_in wsX12_in) := goodIn_app (goodIn_of _ (by decide +kernel)) ggX12_likes_X12_in
theorem dX12_likes_0 : decode cX12_likes 0 = .ok (.iload_n 1, 1) := by decide +kernel
theorem dX12_likes_1 : decode cX12_likes 1 = .ok (.iconst 0, 1) := by decide +kernel
theorem dX12_likes_2 : decode cX12_likes 2 = .ok (.iconst 3, 1) := by decide +kernel
theorem dX12_likes_3 : decode cX12_likes 3 = .ok (.invokestatic 38, 3) := by decide +kernel
theorem dX12_likes_6 : decode cX12_likes 6 = .ok (.ifCond .eq 21, 3) := by decide +kernel
theorem dX12_likes_9 : decode cX12_likes 9 = .ok (.iload_n 2, 1) := by decide +kernel
theorem dX12_likes_10 : decode cX12_likes 10 = .ok (.iconst 0, 1) := by decide +kernel
theorem dX12_likes_11 : decode cX12_likes 11 = .ok (.iconst 3, 1) := by decide +kernel
theorem dX12_likes_12 : decode cX12_likes 12 = .ok (.invokestatic 38, 3) := by decide +kernel
theorem dX12_likes_15 : decode cX12_likes 15 = .ok (.ifCond .eq 12, 3) := by decide +kernel
theorem dX12_likes_18 : decode cX12_likes 18 = .ok (.iload_n 3, 1) := by decide +kernel
theorem dX12_likes_19 : decode cX12_likes 19 = .ok (.iconst 0, 1) := by decide +kernel
theorem dX12_likes_20 : decode cX12_likes 20 = .ok (.iconst 3, 1) := by decide +kernel
theorem dX12_likes_21 : decode cX12_likes 21 = .ok (.invokestatic 38, 3) := by decide +kernel
theorem dX12_likes_24 : decode cX12_likes 24 = .ok (.ifCond .ne 6, 3) := by decide +kernel
theorem dX12_likes_27 : decode cX12_likes 27 = .ok (.bipush (-2), 2) := by decide +kernel
theorem dX12_likes_29 : decode cX12_likes 29 = .ok (.ireturn, 1) := by decide +kernel
theorem dX12_likes_30 : decode cX12_likes 30 = .ok (.bipush 100, 2) := by decide +kernel
theorem dX12_likes_32 : decode cX12_likes 32 = .ok (.aload_n 0, 1) := by decide +kernel
theorem dX12_likes_33 : decode cX12_likes 33 = .ok (.getfield 7, 3) := by decide +kernel
theorem dX12_likes_36 : decode cX12_likes 36 = .ok (.bipush 53, 2) := by decide +kernel
theorem dX12_likes_38 : decode cX12_likes 38 = .ok (.iaload, 1) := by decide +kernel
theorem dX12_likes_39 : decode cX12_likes 39 = .ok (.imul, 1) := by decide +kernel
theorem dX12_likes_40 : decode cX12_likes 40 = .ok (.bipush 10, 2) := by decide +kernel
theorem dX12_likes_42 : decode cX12_likes 42 = .ok (.aload_n 0, 1) := by decide +kernel
theorem dX12_likes_43 : decode cX12_likes 43 = .ok (.getfield 7, 3) := by decide +kernel
theorem dX12_likes_46 : decode cX12_likes 46 = .ok (.bipush 54, 2) := by decide +kernel
theorem dX12_likes_48 : decode cX12_likes 48 = .ok (.iaload, 1) := by decide +kernel
theorem dX12_likes_49 : decode cX12_likes 49 = .ok (.imul, 1) := by decide +kernel
theorem dX12_likes_50 : decode cX12_likes 50 = .ok (.iadd, 1) := by decide +kernel
theorem dX12_likes_51 : decode cX12_likes 51 = .ok (.aload_n 0, 1) := by decide +kernel
theorem dX12_likes_52 : decode cX12_likes 52 = .ok (.getfield 7, 3) := by decide +kernel
theorem dX12_likes_55 : decode cX12_likes 55 = .ok (.bipush 55, 2) := by decide +kernel
theorem dX12_likes_57 : decode cX12_likes 57 = .ok (.iaload, 1) := by decide +kernel
theorem dX12_likes_58 : decode cX12_likes 58 = .ok (.iadd, 1) := by decide +kernel
theorem dX12_likes_59 : decode cX12_likes 59 = .ok (.istore 4, 2) := by decide +kernel
theorem dX12_likes_61 : decode cX12_likes 61 = .ok (.aload_n 0, 1) := by decide +kernel
theorem dX12_likes_62 : decode cX12_likes 62 = .ok (.getfield 7, 3) := by decide +kernel
theorem dX12_likes_65 : decode cX12_likes 65 = .ok (.bipush 53, 2) := by decide +kernel
theorem dX12_likes_67 : decode cX12_likes 67 = .ok (.iload_n 1, 1) := by decide +kernel
theorem dX12_likes_68 : decode cX12_likes 68 = .ok (.iastore, 1) := by decide +kernel
theorem dX12_likes_69 : decode cX12_likes 69 = .ok (.aload_n 0, 1) := by decide +kernel
theorem dX12_likes_70 : decode cX12_likes 70 = .ok (.getfield 7, 3) := by decide +kernel
theorem dX12_likes_73 : decode cX12_likes 73 = .ok (.bipush 54, 2) := by decide +kernel
theorem dX12_likes_75 : decode cX12_likes 75 = .ok (.iload_n 2, 1) := by decide +kernel
theorem dX12_likes_76 : decode cX12_likes 76 = .ok (.iastore, 1) := by decide +kernel
theorem dX12_likes_77 : decode cX12_likes 77 = .ok (.aload_n 0, 1) := by decide +kernel
theorem dX12_likes_78 : decode cX12_likes 78 = .ok (.getfield 7, 3) := by decide +kernel
theorem dX12_likes_81 : decode cX12_likes 81 = .ok (.bipush 55, 2) := by decide +kernel
theorem dX12_likes_83 : decode cX12_likes 83 = .ok (.iload_n 3, 1) := by decide +kernel
theorem dX12_likes_84 : decode cX12_likes 84 = .ok (.iastore, 1) := by decide +kernel
theorem dX12_likes_85 : decode cX12_likes 85 = .ok (.iload 4, 2) := by decide +kernel
theorem dX12_likes_87 : decode cX12_likes 87 = .ok (.ireturn, 1) := by decide +kernel
set_option maxRecDepth 20000 in
theorem ggX12_wind_X12_isCell : GoodIn wsX12_wind wsX12_isCell := goodIn_r _ [5, 6, 7, 4, 8] (by decide +kernel) (by decide +kernel)
set_option maxRecDepth 20000 in
theorem gX12_wind_X12_isCell : GoodIn wsX12_wind (va_wsS RX12 70 yX12_isCell wsX12_isCell) := goodIn_app (goodIn_of _ (by decide +kernel)) ggX12_wind_X12_isCell
set_option maxRecDepth 20000 in
theorem ggX12_wind_X12_in : GoodIn wsX12_wind wsX12_in := goodIn_r _ [8] (by decide +kernel) (by decide +kernel)
set_option maxRecDepth 20000 in
theorem gX12_wind_X12_in : GoodIn wsX12_wind (va_wsS RX12 38 yX12_in wsX12_in) := goodIn_app (goodIn_of _ (by decide +kernel)) ggX12_wind_X12_in
theorem dX12_wind_0 : decode cX12_wind 0 = .ok (.iload_n 1, 1) := by decide +kernel
theorem dX12_wind_1 : decode cX12_wind 1 = .ok (.invokestatic 70, 3) := by decide +kernel
theorem dX12_wind_4 : decode cX12_wind 4 = .ok (.ifCond .ne 5, 3) := by decide +kernel
theorem dX12_wind_7 : decode cX12_wind 7 = .ok (.iconst (-1), 1) := by decide +kernel
theorem dX12_wind_8 : decode cX12_wind 8 = .ok (.ireturn, 1) := by decide +kernel
theorem dX12_wind_9 : decode cX12_wind 9 = .ok (.iload_n 2, 1) := by decide +kernel
theorem dX12_wind_10 : decode cX12_wind 10 = .ok (.iconst 0, 1) := by decide +kernel
theorem dX12_wind_11 : decode cX12_wind 11 = .ok (.iconst 1, 1) := by decide +kernel
theorem dX12_wind_12 : decode cX12_wind 12 = .ok (.invokestatic 38, 3) := by decide +kernel
theorem dX12_wind_15 : decode cX12_wind 15 = .ok (.ifCond .eq 13, 3) := by decide +kernel
theorem dX12_wind_18 : decode cX12_wind 18 = .ok (.iload_n 3, 1) := by decide +kernel
theorem dX12_wind_19 : decode cX12_wind 19 = .ok (.iconst 1, 1) := by decide +kernel
theorem dX12_wind_20 : decode cX12_wind 20 = .ok (.bipush 9, 2) := by decide +kernel
theorem dX12_wind_22 : decode cX12_wind 22 = .ok (.invokestatic 38, 3) := by decide +kernel
theorem dX12_wind_25 : decode cX12_wind 25 = .ok (.ifCond .ne 6, 3) := by decide +kernel
theorem dX12_wind_28 : decode cX12_wind 28 = .ok (.bipush (-2), 2) := by decide +kernel
theorem dX12_wind_30 : decode cX12_wind 30 = .ok (.ireturn, 1) := by decide +kernel
theorem dX12_wind_31 : decode cX12_wind 31 = .ok (.bipush 100, 2) := by decide +kernel
theorem dX12_wind_33 : decode cX12_wind 33 = .ok (.aload_n 0, 1) := by decide +kernel
theorem dX12_wind_34 : decode cX12_wind 34 = .ok (.getfield 7, 3) := by decide +kernel
theorem dX12_wind_37 : decode cX12_wind 37 = .ok (.bipush 48, 2) := by decide +kernel
theorem dX12_wind_39 : decode cX12_wind 39 = .ok (.iaload, 1) := by decide +kernel
theorem dX12_wind_40 : decode cX12_wind 40 = .ok (.imul, 1) := by decide +kernel
theorem dX12_wind_41 : decode cX12_wind 41 = .ok (.bipush 10, 2) := by decide +kernel
theorem dX12_wind_43 : decode cX12_wind 43 = .ok (.aload_n 0, 1) := by decide +kernel
theorem dX12_wind_44 : decode cX12_wind 44 = .ok (.getfield 7, 3) := by decide +kernel
theorem dX12_wind_47 : decode cX12_wind 47 = .ok (.bipush 49, 2) := by decide +kernel
theorem dX12_wind_49 : decode cX12_wind 49 = .ok (.iaload, 1) := by decide +kernel
theorem dX12_wind_50 : decode cX12_wind 50 = .ok (.imul, 1) := by decide +kernel
theorem dX12_wind_51 : decode cX12_wind 51 = .ok (.iadd, 1) := by decide +kernel
theorem dX12_wind_52 : decode cX12_wind 52 = .ok (.aload_n 0, 1) := by decide +kernel
theorem dX12_wind_53 : decode cX12_wind 53 = .ok (.getfield 7, 3) := by decide +kernel
theorem dX12_wind_56 : decode cX12_wind 56 = .ok (.bipush 50, 2) := by decide +kernel
theorem dX12_wind_58 : decode cX12_wind 58 = .ok (.iaload, 1) := by decide +kernel
theorem dX12_wind_59 : decode cX12_wind 59 = .ok (.iadd, 1) := by decide +kernel
theorem dX12_wind_60 : decode cX12_wind 60 = .ok (.istore 4, 2) := by decide +kernel
theorem dX12_wind_62 : decode cX12_wind 62 = .ok (.aload_n 0, 1) := by decide +kernel
theorem dX12_wind_63 : decode cX12_wind 63 = .ok (.getfield 7, 3) := by decide +kernel
theorem dX12_wind_66 : decode cX12_wind 66 = .ok (.bipush 48, 2) := by decide +kernel
theorem dX12_wind_68 : decode cX12_wind 68 = .ok (.iload_n 1, 1) := by decide +kernel
theorem dX12_wind_69 : decode cX12_wind 69 = .ok (.iastore, 1) := by decide +kernel
theorem dX12_wind_70 : decode cX12_wind 70 = .ok (.aload_n 0, 1) := by decide +kernel
theorem dX12_wind_71 : decode cX12_wind 71 = .ok (.getfield 7, 3) := by decide +kernel
theorem dX12_wind_74 : decode cX12_wind 74 = .ok (.bipush 49, 2) := by decide +kernel
theorem dX12_wind_76 : decode cX12_wind 76 = .ok (.iload_n 2, 1) := by decide +kernel
theorem dX12_wind_77 : decode cX12_wind 77 = .ok (.iastore, 1) := by decide +kernel
theorem dX12_wind_78 : decode cX12_wind 78 = .ok (.aload_n 0, 1) := by decide +kernel
theorem dX12_wind_79 : decode cX12_wind 79 = .ok (.getfield 7, 3) := by decide +kernel
theorem dX12_wind_82 : decode cX12_wind 82 = .ok (.bipush 50, 2) := by decide +kernel
theorem dX12_wind_84 : decode cX12_wind 84 = .ok (.iload_n 3, 1) := by decide +kernel
theorem dX12_wind_85 : decode cX12_wind 85 = .ok (.iastore, 1) := by decide +kernel
theorem dX12_wind_86 : decode cX12_wind 86 = .ok (.iload 4, 2) := by decide +kernel
theorem dX12_wind_88 : decode cX12_wind 88 = .ok (.ireturn, 1) := by decide +kernel
set_option maxRecDepth 20000 in
theorem ggX12_say_X12_in : GoodIn wsX12_say wsX12_in := goodIn_r _ [6] (by decide +kernel) (by decide +kernel)
set_option maxRecDepth 20000 in
theorem gX12_say_X12_in : GoodIn wsX12_say (va_wsS RX12 38 yX12_in wsX12_in) := goodIn_app (goodIn_of _ (by decide +kernel)) ggX12_say_X12_in
theorem dX12_say_0 : decode cX12_say 0 = .ok (.iload_n 1, 1) := by decide +kernel
theorem dX12_say_1 : decode cX12_say 1 = .ok (.bipush 33, 2) := by decide +kernel
theorem dX12_say_3 : decode cX12_say 3 = .ok (.bipush 126, 2) := by decide +kernel
theorem dX12_say_5 : decode cX12_say 5 = .ok (.invokestatic 38, 3) := by decide +kernel
theorem dX12_say_8 : decode cX12_say 8 = .ok (.ifCond .ne 6, 3) := by decide +kernel
theorem dX12_say_11 : decode cX12_say 11 = .ok (.bipush (-2), 2) := by decide +kernel
theorem dX12_say_13 : decode cX12_say 13 = .ok (.ireturn, 1) := by decide +kernel
theorem dX12_say_14 : decode cX12_say 14 = .ok (.aload_n 0, 1) := by decide +kernel
theorem dX12_say_15 : decode cX12_say 15 = .ok (.getfield 73, 3) := by decide +kernel
theorem dX12_say_18 : decode cX12_say 18 = .ok (.bipush 60, 2) := by decide +kernel
theorem dX12_say_20 : decode cX12_say 20 = .ok (.if_icmp .ne 6, 3) := by decide +kernel
theorem dX12_say_23 : decode cX12_say 23 = .ok (.bipush (-4), 2) := by decide +kernel
theorem dX12_say_25 : decode cX12_say 25 = .ok (.ireturn, 1) := by decide +kernel
theorem dX12_say_26 : decode cX12_say 26 = .ok (.aload_n 0, 1) := by decide +kernel
theorem dX12_say_27 : decode cX12_say 27 = .ok (.getfield 19, 3) := by decide +kernel
theorem dX12_say_30 : decode cX12_say 30 = .ok (.aload_n 0, 1) := by decide +kernel
theorem dX12_say_31 : decode cX12_say 31 = .ok (.getfield 73, 3) := by decide +kernel
theorem dX12_say_34 : decode cX12_say 34 = .ok (.iload_n 1, 1) := by decide +kernel
theorem dX12_say_35 : decode cX12_say 35 = .ok (.iastore, 1) := by decide +kernel
theorem dX12_say_36 : decode cX12_say 36 = .ok (.aload_n 0, 1) := by decide +kernel
theorem dX12_say_37 : decode cX12_say 37 = .ok (.dup, 1) := by decide +kernel
theorem dX12_say_38 : decode cX12_say 38 = .ok (.getfield 73, 3) := by decide +kernel
theorem dX12_say_41 : decode cX12_say 41 = .ok (.iconst 1, 1) := by decide +kernel
theorem dX12_say_42 : decode cX12_say 42 = .ok (.iadd, 1) := by decide +kernel
theorem dX12_say_43 : decode cX12_say 43 = .ok (.putfield 73, 3) := by decide +kernel
theorem dX12_say_46 : decode cX12_say 46 = .ok (.aload_n 0, 1) := by decide +kernel
theorem dX12_say_47 : decode cX12_say 47 = .ok (.getfield 73, 3) := by decide +kernel
theorem dX12_say_50 : decode cX12_say 50 = .ok (.ireturn, 1) := by decide +kernel
theorem dX12_wipe_0 : decode cX12_wipe 0 = .ok (.aload_n 0, 1) := by decide +kernel
theorem dX12_wipe_1 : decode cX12_wipe 1 = .ok (.getfield 73, 3) := by decide +kernel
theorem dX12_wipe_4 : decode cX12_wipe 4 = .ok (.istore_n 1, 1) := by decide +kernel
theorem dX12_wipe_5 : decode cX12_wipe 5 = .ok (.aload_n 0, 1) := by decide +kernel
theorem dX12_wipe_6 : decode cX12_wipe 6 = .ok (.iconst 0, 1) := by decide +kernel
theorem dX12_wipe_7 : decode cX12_wipe 7 = .ok (.putfield 73, 3) := by decide +kernel
theorem dX12_wipe_10 : decode cX12_wipe 10 = .ok (.iload_n 1, 1) := by decide +kernel
theorem dX12_wipe_11 : decode cX12_wipe 11 = .ok (.ireturn, 1) := by decide +kernel
set_option maxRecDepth 20000 in
theorem ggX12_step_X12_in : GoodIn wsX12_step wsX12_in := goodIn_r _ [4] (by decide +kernel) (by decide +kernel)
set_option maxRecDepth 20000 in
theorem gX12_step_X12_in : GoodIn wsX12_step (va_wsS RX12 38 yX12_in wsX12_in) := goodIn_app (goodIn_of _ (by decide +kernel)) ggX12_step_X12_in
theorem dX12_step_0 : decode cX12_step 0 = .ok (.iload_n 1, 1) := by decide +kernel
theorem dX12_step_1 : decode cX12_step 1 = .ok (.bipush 65, 2) := by decide +kernel
theorem dX12_step_3 : decode cX12_step 3 = .ok (.bipush 70, 2) := by decide +kernel
theorem dX12_step_5 : decode cX12_step 5 = .ok (.invokestatic 38, 3) := by decide +kernel
theorem dX12_step_8 : decode cX12_step 8 = .ok (.istore_n 2, 1) := by decide +kernel
theorem dX12_step_9 : decode cX12_step 9 = .ok (.iload_n 0, 1) := by decide +kernel
theorem dX12_step_10 : decode cX12_step 10 = .ok (.lookupswitch 123 #[(0, 26), (1, 53)], 26) := by decide +kernel
theorem dX12_step_36 : decode cX12_step 36 = .ok (.iload_n 2, 1) := by decide +kernel
theorem dX12_step_37 : decode cX12_step 37 = .ok (.ifCond .eq 7, 3) := by decide +kernel
theorem dX12_step_40 : decode cX12_step 40 = .ok (.iconst 1, 1) := by decide +kernel
theorem dX12_step_41 : decode cX12_step 41 = .ok (.goto 21, 3) := by decide +kernel
theorem dX12_step_44 : decode cX12_step 44 = .ok (.iload_n 1, 1) := by decide +kernel
theorem dX12_step_45 : decode cX12_step 45 = .ok (.bipush 33, 2) := by decide +kernel
theorem dX12_step_47 : decode cX12_step 47 = .ok (.if_icmp .eq 9, 3) := by decide +kernel
theorem dX12_step_50 : decode cX12_step 50 = .ok (.iload_n 1, 1) := by decide +kernel
theorem dX12_step_51 : decode cX12_step 51 = .ok (.bipush 46, 2) := by decide +kernel
theorem dX12_step_53 : decode cX12_step 53 = .ok (.if_icmp .ne 7, 3) := by decide +kernel
theorem dX12_step_56 : decode cX12_step 56 = .ok (.iconst 0, 1) := by decide +kernel
theorem dX12_step_57 : decode cX12_step 57 = .ok (.goto 5, 3) := by decide +kernel
theorem dX12_step_60 : decode cX12_step 60 = .ok (.bipush (-6), 2) := by decide +kernel
theorem dX12_step_62 : decode cX12_step 62 = .ok (.ireturn, 1) := by decide +kernel
theorem dX12_step_63 : decode cX12_step 63 = .ok (.iload_n 1, 1) := by decide +kernel
theorem dX12_step_64 : decode cX12_step 64 = .ok (.bipush 62, 2) := by decide +kernel
theorem dX12_step_66 : decode cX12_step 66 = .ok (.if_icmp .eq 50, 3) := by decide +kernel
theorem dX12_step_69 : decode cX12_step 69 = .ok (.iload_n 1, 1) := by decide +kernel
theorem dX12_step_70 : decode cX12_step 70 = .ok (.bipush 60, 2) := by decide +kernel
theorem dX12_step_72 : decode cX12_step 72 = .ok (.if_icmp .eq 44, 3) := by decide +kernel
theorem dX12_step_75 : decode cX12_step 75 = .ok (.iload_n 1, 1) := by decide +kernel
theorem dX12_step_76 : decode cX12_step 76 = .ok (.bipush 48, 2) := by decide +kernel
theorem dX12_step_78 : decode cX12_step 78 = .ok (.bipush 55, 2) := by decide +kernel
theorem dX12_step_80 : decode cX12_step 80 = .ok (.invokestatic 38, 3) := by decide +kernel
theorem dX12_step_83 : decode cX12_step 83 = .ok (.ifCond .ne 33, 3) := by decide +kernel
theorem dX12_step_86 : decode cX12_step 86 = .ok (.iload_n 1, 1) := by decide +kernel
theorem dX12_step_87 : decode cX12_step 87 = .ok (.bipush 103, 2) := by decide +kernel
theorem dX12_step_89 : decode cX12_step 89 = .ok (.if_icmp .eq 27, 3) := by decide +kernel
theorem dX12_step_92 : decode cX12_step 92 = .ok (.iload_n 1, 1) := by decide +kernel
theorem dX12_step_93 : decode cX12_step 93 = .ok (.bipush 102, 2) := by decide +kernel
theorem dX12_step_95 : decode cX12_step 95 = .ok (.if_icmp .eq 21, 3) := by decide +kernel
theorem dX12_step_98 : decode cX12_step 98 = .ok (.iload_n 1, 1) := by decide +kernel
theorem dX12_step_99 : decode cX12_step 99 = .ok (.bipush 115, 2) := by decide +kernel
theorem dX12_step_101 : decode cX12_step 101 = .ok (.if_icmp .eq 15, 3) := by decide +kernel
theorem dX12_step_104 : decode cX12_step 104 = .ok (.iload_n 1, 1) := by decide +kernel
theorem dX12_step_105 : decode cX12_step 105 = .ok (.bipush 94, 2) := by decide +kernel
theorem dX12_step_107 : decode cX12_step 107 = .ok (.if_icmp .eq 9, 3) := by decide +kernel
theorem dX12_step_110 : decode cX12_step 110 = .ok (.iload_n 1, 1) := by decide +kernel
theorem dX12_step_111 : decode cX12_step 111 = .ok (.bipush 124, 2) := by decide +kernel
theorem dX12_step_113 : decode cX12_step 113 = .ok (.if_icmp .ne 7, 3) := by decide +kernel
theorem dX12_step_116 : decode cX12_step 116 = .ok (.iconst 0, 1) := by decide +kernel
theorem dX12_step_117 : decode cX12_step 117 = .ok (.goto 15, 3) := by decide +kernel
theorem dX12_step_120 : decode cX12_step 120 = .ok (.iload_n 1, 1) := by decide +kernel
theorem dX12_step_121 : decode cX12_step 121 = .ok (.bipush 38, 2) := by decide +kernel
theorem dX12_step_123 : decode cX12_step 123 = .ok (.if_icmp .ne 7, 3) := by decide +kernel
theorem dX12_step_126 : decode cX12_step 126 = .ok (.iconst 2, 1) := by decide +kernel
theorem dX12_step_127 : decode cX12_step 127 = .ok (.goto 5, 3) := by decide +kernel
theorem dX12_step_130 : decode cX12_step 130 = .ok (.bipush (-6), 2) := by decide +kernel
theorem dX12_step_132 : decode cX12_step 132 = .ok (.ireturn, 1) := by decide +kernel
theorem dX12_step_133 : decode cX12_step 133 = .ok (.iload_n 2, 1) := by decide +kernel
theorem dX12_step_134 : decode cX12_step 134 = .ok (.ifCond .eq 7, 3) := by decide +kernel
theorem dX12_step_137 : decode cX12_step 137 = .ok (.iconst 0, 1) := by decide +kernel
theorem dX12_step_138 : decode cX12_step 138 = .ok (.goto 5, 3) := by decide +kernel
theorem dX12_step_141 : decode cX12_step 141 = .ok (.bipush (-6), 2) := by decide +kernel
theorem dX12_step_143 : decode cX12_step 143 = .ok (.ireturn, 1) := by decide +kernel
set_option maxRecDepth 20000 in
theorem ggX12_faultOf_X12_step : GoodIn wsX12_faultOf wsX12_step := goodIn_r _ [6, 7, 8, 5, 9] (by decide +kernel) (by decide +kernel)
set_option maxRecDepth 20000 in
theorem gX12_faultOf_X12_step : GoodIn wsX12_faultOf (va_wsS RX12 76 yX12_step wsX12_step) := goodIn_app (goodIn_of _ (by decide +kernel)) ggX12_faultOf_X12_step
theorem dX12_faultOf_0 : decode cX12_faultOf 0 = .ok (.iconst 0, 1) := by decide +kernel
theorem dX12_faultOf_1 : decode cX12_faultOf 1 = .ok (.istore_n 1, 1) := by decide +kernel
theorem dX12_faultOf_2 : decode cX12_faultOf 2 = .ok (.iconst 0, 1) := by decide +kernel
theorem dX12_faultOf_3 : decode cX12_faultOf 3 = .ok (.istore_n 2, 1) := by decide +kernel
theorem dX12_faultOf_4 : decode cX12_faultOf 4 = .ok (.iload_n 2, 1) := by decide +kernel
theorem dX12_faultOf_5 : decode cX12_faultOf 5 = .ok (.aload_n 0, 1) := by decide +kernel
theorem dX12_faultOf_6 : decode cX12_faultOf 6 = .ok (.getfield 73, 3) := by decide +kernel
theorem dX12_faultOf_9 : decode cX12_faultOf 9 = .ok (.if_icmp .ge 26, 3) := by decide +kernel
theorem dX12_faultOf_12 : decode cX12_faultOf 12 = .ok (.iload_n 1, 1) := by decide +kernel
theorem dX12_faultOf_13 : decode cX12_faultOf 13 = .ok (.aload_n 0, 1) := by decide +kernel
theorem dX12_faultOf_14 : decode cX12_faultOf 14 = .ok (.getfield 19, 3) := by decide +kernel
theorem dX12_faultOf_17 : decode cX12_faultOf 17 = .ok (.iload_n 2, 1) := by decide +kernel
theorem dX12_faultOf_18 : decode cX12_faultOf 18 = .ok (.iaload, 1) := by decide +kernel
theorem dX12_faultOf_19 : decode cX12_faultOf 19 = .ok (.invokestatic 76, 3) := by decide +kernel
theorem dX12_faultOf_22 : decode cX12_faultOf 22 = .ok (.istore_n 1, 1) := by decide +kernel
theorem dX12_faultOf_23 : decode cX12_faultOf 23 = .ok (.iload_n 1, 1) := by decide +kernel
theorem dX12_faultOf_24 : decode cX12_faultOf 24 = .ok (.ifCond .ge 5, 3) := by decide +kernel
theorem dX12_faultOf_27 : decode cX12_faultOf 27 = .ok (.iload_n 2, 1) := by decide +kernel
theorem dX12_faultOf_28 : decode cX12_faultOf 28 = .ok (.ireturn, 1) := by decide +kernel
theorem dX12_faultOf_29 : decode cX12_faultOf 29 = .ok (.iinc 2 1, 3) := by decide +kernel
theorem dX12_faultOf_32 : decode cX12_faultOf 32 = .ok (.goto (-28), 3) := by decide +kernel
theorem dX12_faultOf_35 : decode cX12_faultOf 35 = .ok (.iload_n 1, 1) := by decide +kernel
theorem dX12_faultOf_36 : decode cX12_faultOf 36 = .ok (.ifCond .ne 8, 3) := by decide +kernel
theorem dX12_faultOf_39 : decode cX12_faultOf 39 = .ok (.bipush (-6), 2) := by decide +kernel
theorem dX12_faultOf_41 : decode cX12_faultOf 41 = .ok (.goto 7, 3) := by decide +kernel
theorem dX12_faultOf_44 : decode cX12_faultOf 44 = .ok (.aload_n 0, 1) := by decide +kernel
theorem dX12_faultOf_45 : decode cX12_faultOf 45 = .ok (.getfield 73, 3) := by decide +kernel
theorem dX12_faultOf_48 : decode cX12_faultOf 48 = .ok (.ireturn, 1) := by decide +kernel
set_option maxRecDepth 20000 in
theorem ggX12_fault_X12_faultOf : GoodIn wsX12_fault wsX12_faultOf := goodIn_r _ [5, 6, 7, 8, 9, 4, 10, 11, 12, 13, 14, 15, 16, 17, 18, 19, 20, 21, 22, 23, 24, 25, 26, 27, 28, 29, 30] (by decide +kernel) (by decide +kernel)
set_option maxRecDepth 20000 in
theorem gX12_fault_X12_faultOf : GoodIn wsX12_fault (wsV RX12 80 RX12 yX12_faultOf wsX12_faultOf) := goodIn_app (goodIn_of _ (by decide +kernel)) ggX12_fault_X12_faultOf
theorem dX12_fault_0 : decode cX12_fault 0 = .ok (.aload_n 0, 1) := by decide +kernel
theorem dX12_fault_1 : decode cX12_fault 1 = .ok (.invokevirtual 80, 3) := by decide +kernel
theorem dX12_fault_4 : decode cX12_fault 4 = .ok (.ireturn, 1) := by decide +kernel
set_option maxRecDepth 20000 in
theorem ggX12_walk_X12_holder : GoodIn wsX12_walk wsX12_holder := goodIn_r _ [6, 1, 13, 14, 15, 16, 17, 18, 19, 20, 21, 22, 23, 24, 25, 26, 27, 28, 29] (by decide +kernel) (by decide +kernel)
set_option maxRecDepth 20000 in
theorem gX12_walk_X12_holder : GoodIn wsX12_walk (wsV RX12 63 RX12 yX12_holder wsX12_holder) := goodIn_app (goodIn_of _ (by decide +kernel)) ggX12_walk_X12_holder
set_option maxRecDepth 20000 in
theorem ggX12_walk_X12_isCell : GoodIn wsX12_walk wsX12_isCell := goodIn_r _ [9, 10, 11, 5, 12] (by decide +kernel) (by decide +kernel)
set_option maxRecDepth 20000 in
theorem gX12_walk_X12_isCell : GoodIn wsX12_walk (va_wsS RX12 70 yX12_isCell wsX12_isCell) := goodIn_app (goodIn_of _ (by decide +kernel)) ggX12_walk_X12_isCell
theorem dX12_walk_0 : decode cX12_walk 0 = .ok (.aload_n 0, 1) := by decide +kernel
theorem dX12_walk_1 : decode cX12_walk 1 = .ok (.iload_n 1, 1) := by decide +kernel
theorem dX12_walk_2 : decode cX12_walk 2 = .ok (.invokevirtual 63, 3) := by decide +kernel
theorem dX12_walk_5 : decode cX12_walk 5 = .ok (.ifCond .lt 5, 3) := by decide +kernel
theorem dX12_walk_8 : decode cX12_walk 8 = .ok (.iconst 1, 1) := by decide +kernel
theorem dX12_walk_9 : decode cX12_walk 9 = .ok (.ireturn, 1) := by decide +kernel
theorem dX12_walk_10 : decode cX12_walk 10 = .ok (.aload_n 0, 1) := by decide +kernel
theorem dX12_walk_11 : decode cX12_walk 11 = .ok (.getfield 13, 3) := by decide +kernel
theorem dX12_walk_14 : decode cX12_walk 14 = .ok (.iload_n 1, 1) := by decide +kernel
theorem dX12_walk_15 : decode cX12_walk 15 = .ok (.iaload, 1) := by decide +kernel
theorem dX12_walk_16 : decode cX12_walk 16 = .ok (.iload_n 2, 1) := by decide +kernel
theorem dX12_walk_17 : decode cX12_walk 17 = .ok (.iadd, 1) := by decide +kernel
theorem dX12_walk_18 : decode cX12_walk 18 = .ok (.invokestatic 70, 3) := by decide +kernel
theorem dX12_walk_21 : decode cX12_walk 21 = .ok (.ifCond .ne 5, 3) := by decide +kernel
theorem dX12_walk_24 : decode cX12_walk 24 = .ok (.iconst 2, 1) := by decide +kernel
theorem dX12_walk_25 : decode cX12_walk 25 = .ok (.ireturn, 1) := by decide +kernel
theorem dX12_walk_26 : decode cX12_walk 26 = .ok (.aload_n 0, 1) := by decide +kernel
theorem dX12_walk_27 : decode cX12_walk 27 = .ok (.getfield 13, 3) := by decide +kernel
theorem dX12_walk_30 : decode cX12_walk 30 = .ok (.iload_n 1, 1) := by decide +kernel
theorem dX12_walk_31 : decode cX12_walk 31 = .ok (.dup2, 1) := by decide +kernel
theorem dX12_walk_32 : decode cX12_walk 32 = .ok (.iaload, 1) := by decide +kernel
theorem dX12_walk_33 : decode cX12_walk 33 = .ok (.iload_n 2, 1) := by decide +kernel
theorem dX12_walk_34 : decode cX12_walk 34 = .ok (.iadd, 1) := by decide +kernel
theorem dX12_walk_35 : decode cX12_walk 35 = .ok (.iastore, 1) := by decide +kernel
theorem dX12_walk_36 : decode cX12_walk 36 = .ok (.aload_n 0, 1) := by decide +kernel
theorem dX12_walk_37 : decode cX12_walk 37 = .ok (.getfield 13, 3) := by decide +kernel
theorem dX12_walk_40 : decode cX12_walk 40 = .ok (.bipush 18, 2) := by decide +kernel
theorem dX12_walk_42 : decode cX12_walk 42 = .ok (.iload_n 1, 1) := by decide +kernel
theorem dX12_walk_43 : decode cX12_walk 43 = .ok (.iadd, 1) := by decide +kernel
theorem dX12_walk_44 : decode cX12_walk 44 = .ok (.iaload, 1) := by decide +kernel
theorem dX12_walk_45 : decode cX12_walk 45 = .ok (.ifCond .lt 23, 3) := by decide +kernel
theorem dX12_walk_48 : decode cX12_walk 48 = .ok (.aload_n 0, 1) := by decide +kernel
theorem dX12_walk_49 : decode cX12_walk 49 = .ok (.getfield 13, 3) := by decide +kernel
theorem dX12_walk_52 : decode cX12_walk 52 = .ok (.aload_n 0, 1) := by decide +kernel
theorem dX12_walk_53 : decode cX12_walk 53 = .ok (.getfield 13, 3) := by decide +kernel
theorem dX12_walk_56 : decode cX12_walk 56 = .ok (.bipush 18, 2) := by decide +kernel
theorem dX12_walk_58 : decode cX12_walk 58 = .ok (.iload_n 1, 1) := by decide +kernel
theorem dX12_walk_59 : decode cX12_walk 59 = .ok (.iadd, 1) := by decide +kernel
theorem dX12_walk_60 : decode cX12_walk 60 = .ok (.iaload, 1) := by decide +kernel
theorem dX12_walk_61 : decode cX12_walk 61 = .ok (.aload_n 0, 1) := by decide +kernel
theorem dX12_walk_62 : decode cX12_walk 62 = .ok (.getfield 13, 3) := by decide +kernel
theorem dX12_walk_65 : decode cX12_walk 65 = .ok (.iload_n 1, 1) := by decide +kernel
theorem dX12_walk_66 : decode cX12_walk 66 = .ok (.iaload, 1) := by decide +kernel
theorem dX12_walk_67 : decode cX12_walk 67 = .ok (.iastore, 1) := by decide +kernel
theorem dX12_walk_68 : decode cX12_walk 68 = .ok (.iconst 0, 1) := by decide +kernel
theorem dX12_walk_69 : decode cX12_walk 69 = .ok (.ireturn, 1) := by decide +kernel
theorem dX12_state_0 : decode cX12_state 0 = .ok (.aload_n 0, 1) := by decide +kernel
theorem dX12_state_1 : decode cX12_state 1 = .ok (.getfield 13, 3) := by decide +kernel
theorem dX12_state_4 : decode cX12_state 4 = .ok (.bipush 12, 2) := by decide +kernel
theorem dX12_state_6 : decode cX12_state 6 = .ok (.iload_n 1, 1) := by decide +kernel
theorem dX12_state_7 : decode cX12_state 7 = .ok (.iadd, 1) := by decide +kernel
theorem dX12_state_8 : decode cX12_state 8 = .ok (.iaload, 1) := by decide +kernel
theorem dX12_state_9 : decode cX12_state 9 = .ok (.iconst 4, 1) := by decide +kernel
theorem dX12_state_10 : decode cX12_state 10 = .ok (.if_icmp .lt 5, 3) := by decide +kernel
theorem dX12_state_13 : decode cX12_state 13 = .ok (.iconst 3, 1) := by decide +kernel
theorem dX12_state_14 : decode cX12_state 14 = .ok (.ireturn, 1) := by decide +kernel
theorem dX12_state_15 : decode cX12_state 15 = .ok (.aload_n 0, 1) := by decide +kernel
theorem dX12_state_16 : decode cX12_state 16 = .ok (.getfield 13, 3) := by decide +kernel
theorem dX12_state_19 : decode cX12_state 19 = .ok (.bipush 6, 2) := by decide +kernel
theorem dX12_state_21 : decode cX12_state 21 = .ok (.iload_n 1, 1) := by decide +kernel
theorem dX12_state_22 : decode cX12_state 22 = .ok (.iadd, 1) := by decide +kernel
theorem dX12_state_23 : decode cX12_state 23 = .ok (.dup2, 1) := by decide +kernel
theorem dX12_state_24 : decode cX12_state 24 = .ok (.iaload, 1) := by decide +kernel
theorem dX12_state_25 : decode cX12_state 25 = .ok (.iconst 1, 1) := by decide +kernel
theorem dX12_state_26 : decode cX12_state 26 = .ok (.iload_n 2, 1) := by decide +kernel
theorem dX12_state_27 : decode cX12_state 27 = .ok (.ishl, 1) := by decide +kernel
theorem dX12_state_28 : decode cX12_state 28 = .ok (.ixor, 1) := by decide +kernel
theorem dX12_state_29 : decode cX12_state 29 = .ok (.iastore, 1) := by decide +kernel
theorem dX12_state_30 : decode cX12_state 30 = .ok (.iconst 0, 1) := by decide +kernel
theorem dX12_state_31 : decode cX12_state 31 = .ok (.ireturn, 1) := by decide +kernel
theorem dX12_pay_0 : decode cX12_pay 0 = .ok (.bipush 30, 2) := by decide +kernel
theorem dX12_pay_2 : decode cX12_pay 2 = .ok (.bipush 6, 2) := by decide +kernel
theorem dX12_pay_4 : decode cX12_pay 4 = .ok (.iload_n 2, 1) := by decide +kernel
theorem dX12_pay_5 : decode cX12_pay 5 = .ok (.imul, 1) := by decide +kernel
theorem dX12_pay_6 : decode cX12_pay 6 = .ok (.iadd, 1) := by decide +kernel
theorem dX12_pay_7 : decode cX12_pay 7 = .ok (.iload_n 1, 1) := by decide +kernel
theorem dX12_pay_8 : decode cX12_pay 8 = .ok (.iadd, 1) := by decide +kernel
theorem dX12_pay_9 : decode cX12_pay 9 = .ok (.istore_n 3, 1) := by decide +kernel
theorem dX12_pay_10 : decode cX12_pay 10 = .ok (.aload_n 0, 1) := by decide +kernel
theorem dX12_pay_11 : decode cX12_pay 11 = .ok (.getfield 13, 3) := by decide +kernel
theorem dX12_pay_14 : decode cX12_pay 14 = .ok (.iload_n 3, 1) := by decide +kernel
theorem dX12_pay_15 : decode cX12_pay 15 = .ok (.iaload, 1) := by decide +kernel
theorem dX12_pay_16 : decode cX12_pay 16 = .ok (.ifCond .ne 5, 3) := by decide +kernel
theorem dX12_pay_19 : decode cX12_pay 19 = .ok (.iconst 4, 1) := by decide +kernel
theorem dX12_pay_20 : decode cX12_pay 20 = .ok (.ireturn, 1) := by decide +kernel
theorem dX12_pay_21 : decode cX12_pay 21 = .ok (.aload_n 0, 1) := by decide +kernel
theorem dX12_pay_22 : decode cX12_pay 22 = .ok (.getfield 13, 3) := by decide +kernel
theorem dX12_pay_25 : decode cX12_pay 25 = .ok (.bipush 12, 2) := by decide +kernel
theorem dX12_pay_27 : decode cX12_pay 27 = .ok (.iload_n 1, 1) := by decide +kernel
theorem dX12_pay_28 : decode cX12_pay 28 = .ok (.iadd, 1) := by decide +kernel
theorem dX12_pay_29 : decode cX12_pay 29 = .ok (.iaload, 1) := by decide +kernel
theorem dX12_pay_30 : decode cX12_pay 30 = .ok (.ifCond .ne 5, 3) := by decide +kernel
theorem dX12_pay_33 : decode cX12_pay 33 = .ok (.iconst 5, 1) := by decide +kernel
theorem dX12_pay_34 : decode cX12_pay 34 = .ok (.ireturn, 1) := by decide +kernel
theorem dX12_pay_35 : decode cX12_pay 35 = .ok (.aload_n 0, 1) := by decide +kernel
theorem dX12_pay_36 : decode cX12_pay 36 = .ok (.getfield 13, 3) := by decide +kernel
theorem dX12_pay_39 : decode cX12_pay 39 = .ok (.iload_n 3, 1) := by decide +kernel
theorem dX12_pay_40 : decode cX12_pay 40 = .ok (.dup2, 1) := by decide +kernel
theorem dX12_pay_41 : decode cX12_pay 41 = .ok (.iaload, 1) := by decide +kernel
theorem dX12_pay_42 : decode cX12_pay 42 = .ok (.iconst 1, 1) := by decide +kernel
theorem dX12_pay_43 : decode cX12_pay 43 = .ok (.isub, 1) := by decide +kernel
theorem dX12_pay_44 : decode cX12_pay 44 = .ok (.iastore, 1) := by decide +kernel
theorem dX12_pay_45 : decode cX12_pay 45 = .ok (.aload_n 0, 1) := by decide +kernel
theorem dX12_pay_46 : decode cX12_pay 46 = .ok (.getfield 13, 3) := by decide +kernel
theorem dX12_pay_49 : decode cX12_pay 49 = .ok (.bipush 12, 2) := by decide +kernel
theorem dX12_pay_51 : decode cX12_pay 51 = .ok (.iload_n 1, 1) := by decide +kernel
theorem dX12_pay_52 : decode cX12_pay 52 = .ok (.iadd, 1) := by decide +kernel
theorem dX12_pay_53 : decode cX12_pay 53 = .ok (.iaload, 1) := by decide +kernel
theorem dX12_pay_54 : decode cX12_pay 54 = .ok (.aload_n 0, 1) := by decide +kernel
theorem dX12_pay_55 : decode cX12_pay 55 = .ok (.getfield 13, 3) := by decide +kernel
theorem dX12_pay_58 : decode cX12_pay 58 = .ok (.bipush 53, 2) := by decide +kernel
theorem dX12_pay_60 : decode cX12_pay 60 = .ok (.iload_n 2, 1) := by decide +kernel
theorem dX12_pay_61 : decode cX12_pay 61 = .ok (.iadd, 1) := by decide +kernel
theorem dX12_pay_62 : decode cX12_pay 62 = .ok (.iaload, 1) := by decide +kernel
theorem dX12_pay_63 : decode cX12_pay 63 = .ok (.isub, 1) := by decide +kernel
theorem dX12_pay_64 : decode cX12_pay 64 = .ok (.istore 4, 2) := by decide +kernel
theorem dX12_pay_66 : decode cX12_pay 66 = .ok (.aload_n 0, 1) := by decide +kernel
theorem dX12_pay_67 : decode cX12_pay 67 = .ok (.getfield 13, 3) := by decide +kernel
theorem dX12_pay_70 : decode cX12_pay 70 = .ok (.bipush 12, 2) := by decide +kernel
theorem dX12_pay_72 : decode cX12_pay 72 = .ok (.iload_n 1, 1) := by decide +kernel
theorem dX12_pay_73 : decode cX12_pay 73 = .ok (.iadd, 1) := by decide +kernel
theorem dX12_pay_74 : decode cX12_pay 74 = .ok (.iload 4, 2) := by decide +kernel
theorem dX12_pay_76 : decode cX12_pay 76 = .ok (.ifCond .ge 7, 3) := by decide +kernel
theorem dX12_pay_79 : decode cX12_pay 79 = .ok (.iconst 0, 1) := by decide +kernel
theorem dX12_pay_80 : decode cX12_pay 80 = .ok (.goto 5, 3) := by decide +kernel
theorem dX12_pay_83 : decode cX12_pay 83 = .ok (.iload 4, 2) := by decide +kernel
theorem dX12_pay_85 : decode cX12_pay 85 = .ok (.iastore, 1) := by decide +kernel
theorem dX12_pay_86 : decode cX12_pay 86 = .ok (.iconst 0, 1) := by decide +kernel
theorem dX12_pay_87 : decode cX12_pay 87 = .ok (.ireturn, 1) := by decide +kernel
set_option maxRecDepth 20000 in
theorem ggX12_putOn_X12_holder : GoodIn wsX12_putOn wsX12_holder := goodIn_r _ [6, 1, 7, 8, 9, 10, 11, 12, 13, 14, 15, 16, 17, 18, 19, 20, 21, 22, 23] (by decide +kernel) (by decide +kernel)
set_option maxRecDepth 20000 in
theorem gX12_putOn_X12_holder : GoodIn wsX12_putOn (wsV RX12 63 RX12 yX12_holder wsX12_holder) := goodIn_app (goodIn_of _ (by decide +kernel)) ggX12_putOn_X12_holder
theorem dX12_putOn_0 : decode cX12_putOn 0 = .ok (.aload_n 0, 1) := by decide +kernel
theorem dX12_putOn_1 : decode cX12_putOn 1 = .ok (.iload_n 1, 1) := by decide +kernel
theorem dX12_putOn_2 : decode cX12_putOn 2 = .ok (.invokevirtual 63, 3) := by decide +kernel
theorem dX12_putOn_5 : decode cX12_putOn 5 = .ok (.ifCond .lt 5, 3) := by decide +kernel
theorem dX12_putOn_8 : decode cX12_putOn 8 = .ok (.iconst 1, 1) := by decide +kernel
theorem dX12_putOn_9 : decode cX12_putOn 9 = .ok (.ireturn, 1) := by decide +kernel
theorem dX12_putOn_10 : decode cX12_putOn 10 = .ok (.aload_n 0, 1) := by decide +kernel
theorem dX12_putOn_11 : decode cX12_putOn 11 = .ok (.getfield 13, 3) := by decide +kernel
theorem dX12_putOn_14 : decode cX12_putOn 14 = .ok (.bipush 24, 2) := by decide +kernel
theorem dX12_putOn_16 : decode cX12_putOn 16 = .ok (.iload_n 1, 1) := by decide +kernel
theorem dX12_putOn_17 : decode cX12_putOn 17 = .ok (.iadd, 1) := by decide +kernel
theorem dX12_putOn_18 : decode cX12_putOn 18 = .ok (.iaload, 1) := by decide +kernel
theorem dX12_putOn_19 : decode cX12_putOn 19 = .ok (.aload_n 0, 1) := by decide +kernel
theorem dX12_putOn_20 : decode cX12_putOn 20 = .ok (.getfield 13, 3) := by decide +kernel
theorem dX12_putOn_23 : decode cX12_putOn 23 = .ok (.iload_n 1, 1) := by decide +kernel
theorem dX12_putOn_24 : decode cX12_putOn 24 = .ok (.iaload, 1) := by decide +kernel
theorem dX12_putOn_25 : decode cX12_putOn 25 = .ok (.if_icmp .eq 6, 3) := by decide +kernel
theorem dX12_putOn_28 : decode cX12_putOn 28 = .ok (.bipush 6, 2) := by decide +kernel
theorem dX12_putOn_30 : decode cX12_putOn 30 = .ok (.ireturn, 1) := by decide +kernel
theorem dX12_putOn_31 : decode cX12_putOn 31 = .ok (.aload_n 0, 1) := by decide +kernel
theorem dX12_putOn_32 : decode cX12_putOn 32 = .ok (.getfield 13, 3) := by decide +kernel
theorem dX12_putOn_35 : decode cX12_putOn 35 = .ok (.bipush 24, 2) := by decide +kernel
theorem dX12_putOn_37 : decode cX12_putOn 37 = .ok (.iload_n 1, 1) := by decide +kernel
theorem dX12_putOn_38 : decode cX12_putOn 38 = .ok (.iadd, 1) := by decide +kernel
theorem dX12_putOn_39 : decode cX12_putOn 39 = .ok (.bipush (-6), 2) := by decide +kernel
theorem dX12_putOn_41 : decode cX12_putOn 41 = .ok (.iastore, 1) := by decide +kernel
theorem dX12_putOn_42 : decode cX12_putOn 42 = .ok (.iconst 0, 1) := by decide +kernel
theorem dX12_putOn_43 : decode cX12_putOn 43 = .ok (.ireturn, 1) := by decide +kernel
set_option maxRecDepth 20000 in
theorem ggX12_hold_X12_holder : GoodIn wsX12_hold wsX12_holder := goodIn_r _ [6, 1, 7, 8, 9, 10, 11, 12, 13, 14, 15, 16, 17, 18, 19, 20, 21, 22, 23] (by decide +kernel) (by decide +kernel)
set_option maxRecDepth 20000 in
theorem gX12_hold_X12_holder : GoodIn wsX12_hold (wsV RX12 63 RX12 yX12_holder wsX12_holder) := goodIn_app (goodIn_of _ (by decide +kernel)) ggX12_hold_X12_holder
theorem dX12_hold_0 : decode cX12_hold 0 = .ok (.aload_n 0, 1) := by decide +kernel
theorem dX12_hold_1 : decode cX12_hold 1 = .ok (.iload_n 1, 1) := by decide +kernel
theorem dX12_hold_2 : decode cX12_hold 2 = .ok (.invokevirtual 63, 3) := by decide +kernel
theorem dX12_hold_5 : decode cX12_hold 5 = .ok (.ifCond .lt 5, 3) := by decide +kernel
theorem dX12_hold_8 : decode cX12_hold 8 = .ok (.iconst 1, 1) := by decide +kernel
theorem dX12_hold_9 : decode cX12_hold 9 = .ok (.ireturn, 1) := by decide +kernel
theorem dX12_hold_10 : decode cX12_hold 10 = .ok (.iload_n 1, 1) := by decide +kernel
theorem dX12_hold_11 : decode cX12_hold 11 = .ok (.iload_n 2, 1) := by decide +kernel
theorem dX12_hold_12 : decode cX12_hold 12 = .ok (.if_icmp .eq 50, 3) := by decide +kernel
theorem dX12_hold_15 : decode cX12_hold 15 = .ok (.aload_n 0, 1) := by decide +kernel
theorem dX12_hold_16 : decode cX12_hold 16 = .ok (.getfield 13, 3) := by decide +kernel
theorem dX12_hold_19 : decode cX12_hold 19 = .ok (.iload_n 1, 1) := by decide +kernel
theorem dX12_hold_20 : decode cX12_hold 20 = .ok (.iaload, 1) := by decide +kernel
theorem dX12_hold_21 : decode cX12_hold 21 = .ok (.aload_n 0, 1) := by decide +kernel
theorem dX12_hold_22 : decode cX12_hold 22 = .ok (.getfield 13, 3) := by decide +kernel
theorem dX12_hold_25 : decode cX12_hold 25 = .ok (.iload_n 2, 1) := by decide +kernel
theorem dX12_hold_26 : decode cX12_hold 26 = .ok (.iaload, 1) := by decide +kernel
theorem dX12_hold_27 : decode cX12_hold 27 = .ok (.if_icmp .ne 35, 3) := by decide +kernel
theorem dX12_hold_30 : decode cX12_hold 30 = .ok (.aload_n 0, 1) := by decide +kernel
theorem dX12_hold_31 : decode cX12_hold 31 = .ok (.getfield 13, 3) := by decide +kernel
theorem dX12_hold_34 : decode cX12_hold 34 = .ok (.bipush 18, 2) := by decide +kernel
theorem dX12_hold_36 : decode cX12_hold 36 = .ok (.iload_n 1, 1) := by decide +kernel
theorem dX12_hold_37 : decode cX12_hold 37 = .ok (.iadd, 1) := by decide +kernel
theorem dX12_hold_38 : decode cX12_hold 38 = .ok (.iaload, 1) := by decide +kernel
theorem dX12_hold_39 : decode cX12_hold 39 = .ok (.ifCond .ge 23, 3) := by decide +kernel
theorem dX12_hold_42 : decode cX12_hold 42 = .ok (.aload_n 0, 1) := by decide +kernel
theorem dX12_hold_43 : decode cX12_hold 43 = .ok (.iload_n 2, 1) := by decide +kernel
theorem dX12_hold_44 : decode cX12_hold 44 = .ok (.invokevirtual 63, 3) := by decide +kernel
theorem dX12_hold_47 : decode cX12_hold 47 = .ok (.ifCond .ge 15, 3) := by decide +kernel
theorem dX12_hold_50 : decode cX12_hold 50 = .ok (.aload_n 0, 1) := by decide +kernel
theorem dX12_hold_51 : decode cX12_hold 51 = .ok (.getfield 13, 3) := by decide +kernel
theorem dX12_hold_54 : decode cX12_hold 54 = .ok (.bipush 18, 2) := by decide +kernel
theorem dX12_hold_56 : decode cX12_hold 56 = .ok (.iload_n 2, 1) := by decide +kernel
theorem dX12_hold_57 : decode cX12_hold 57 = .ok (.iadd, 1) := by decide +kernel
theorem dX12_hold_58 : decode cX12_hold 58 = .ok (.iaload, 1) := by decide +kernel
theorem dX12_hold_59 : decode cX12_hold 59 = .ok (.ifCond .lt 6, 3) := by decide +kernel
theorem dX12_hold_62 : decode cX12_hold 62 = .ok (.bipush 7, 2) := by decide +kernel
theorem dX12_hold_64 : decode cX12_hold 64 = .ok (.ireturn, 1) := by decide +kernel
theorem dX12_hold_65 : decode cX12_hold 65 = .ok (.aload_n 0, 1) := by decide +kernel
theorem dX12_hold_66 : decode cX12_hold 66 = .ok (.getfield 13, 3) := by decide +kernel
theorem dX12_hold_69 : decode cX12_hold 69 = .ok (.bipush 18, 2) := by decide +kernel
theorem dX12_hold_71 : decode cX12_hold 71 = .ok (.iload_n 1, 1) := by decide +kernel
theorem dX12_hold_72 : decode cX12_hold 72 = .ok (.iadd, 1) := by decide +kernel
theorem dX12_hold_73 : decode cX12_hold 73 = .ok (.iload_n 2, 1) := by decide +kernel
theorem dX12_hold_74 : decode cX12_hold 74 = .ok (.iastore, 1) := by decide +kernel
theorem dX12_hold_75 : decode cX12_hold 75 = .ok (.iconst 0, 1) := by decide +kernel
theorem dX12_hold_76 : decode cX12_hold 76 = .ok (.ireturn, 1) := by decide +kernel
theorem dX12_letGo_0 : decode cX12_letGo 0 = .ok (.aload_n 0, 1) := by decide +kernel
theorem dX12_letGo_1 : decode cX12_letGo 1 = .ok (.getfield 13, 3) := by decide +kernel
theorem dX12_letGo_4 : decode cX12_letGo 4 = .ok (.bipush 18, 2) := by decide +kernel
theorem dX12_letGo_6 : decode cX12_letGo 6 = .ok (.iload_n 1, 1) := by decide +kernel
theorem dX12_letGo_7 : decode cX12_letGo 7 = .ok (.iadd, 1) := by decide +kernel
theorem dX12_letGo_8 : decode cX12_letGo 8 = .ok (.iaload, 1) := by decide +kernel
theorem dX12_letGo_9 : decode cX12_letGo 9 = .ok (.ifCond .ge 6, 3) := by decide +kernel
theorem dX12_letGo_12 : decode cX12_letGo 12 = .ok (.bipush 8, 2) := by decide +kernel
theorem dX12_letGo_14 : decode cX12_letGo 14 = .ok (.ireturn, 1) := by decide +kernel
theorem dX12_letGo_15 : decode cX12_letGo 15 = .ok (.aload_n 0, 1) := by decide +kernel
theorem dX12_letGo_16 : decode cX12_letGo 16 = .ok (.getfield 13, 3) := by decide +kernel
theorem dX12_letGo_19 : decode cX12_letGo 19 = .ok (.bipush 18, 2) := by decide +kernel
theorem dX12_letGo_21 : decode cX12_letGo 21 = .ok (.iload_n 1, 1) := by decide +kernel
theorem dX12_letGo_22 : decode cX12_letGo 22 = .ok (.iadd, 1) := by decide +kernel
theorem dX12_letGo_23 : decode cX12_letGo 23 = .ok (.bipush (-6), 2) := by decide +kernel
theorem dX12_letGo_25 : decode cX12_letGo 25 = .ok (.iastore, 1) := by decide +kernel
theorem dX12_letGo_26 : decode cX12_letGo 26 = .ok (.iconst 0, 1) := by decide +kernel
theorem dX12_letGo_27 : decode cX12_letGo 27 = .ok (.ireturn, 1) := by decide +kernel
theorem dX12_gust_0 : decode cX12_gust 0 = .ok (.aload_n 0, 1) := by decide +kernel
theorem dX12_gust_1 : decode cX12_gust 1 = .ok (.getfield 13, 3) := by decide +kernel
theorem dX12_gust_4 : decode cX12_gust 4 = .ok (.bipush 50, 2) := by decide +kernel
theorem dX12_gust_6 : decode cX12_gust 6 = .ok (.iaload, 1) := by decide +kernel
theorem dX12_gust_7 : decode cX12_gust 7 = .ok (.bipush 9, 2) := by decide +kernel
theorem dX12_gust_9 : decode cX12_gust 9 = .ok (.if_icmp .ne 6, 3) := by decide +kernel
theorem dX12_gust_12 : decode cX12_gust 12 = .ok (.bipush 9, 2) := by decide +kernel
theorem dX12_gust_14 : decode cX12_gust 14 = .ok (.ireturn, 1) := by decide +kernel
theorem dX12_gust_15 : decode cX12_gust 15 = .ok (.aload_n 0, 1) := by decide +kernel
theorem dX12_gust_16 : decode cX12_gust 16 = .ok (.getfield 13, 3) := by decide +kernel
