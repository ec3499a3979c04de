theorem mem_at {big : List Cond} (ws : List Cond) (ps : List Nat) (hp : ws = ps.filterMap (fun i => big[i]?)) : ∀ w ∈ ws, w ∈ big := by
  intro w hw
  rw [hp] at hw
  obtain ⟨i, -, hi⟩ := List.mem_filterMap.mp hw
  exact List.mem_of_getElem? hi
set_option maxRecDepth 20000 in
theorem inl_r1 : ∀ w ∈ wsL_law_r1, w ∈ lw_tbl := mem_at _ [44, 45, 27, 798, 799, 38, 46, 47, 48, 49, 50, 51, 52, 53, 28, 290, 125, 126, 30, 291, 141, 142, 31, 292] (by decide +kernel)
set_option maxRecDepth 20000 in
theorem inl_r2 : ∀ w ∈ wsL_law_r2, w ∈ lw_tbl := mem_at _ [168, 293, 170, 171, 32, 294, 207, 208, 33, 295, 225, 226, 34, 296, 236, 237, 35, 297, 251, 252, 36, 298, 264, 265] (by decide +kernel)
set_option maxRecDepth 20000 in
theorem inl_r3 : ∀ w ∈ wsL_law_r3, w ∈ lw_tbl := mem_at _ [37, 299, 288, 59, 29, 300, 54, 55, 56, 57, 58, 82, 124, 85, 89, 90, 93, 94, 96, 97, 100, 102, 61, 62] (by decide +kernel)
set_option maxRecDepth 20000 in
theorem inl_r4 : ∀ w ∈ wsL_law_r4, w ∈ lw_tbl := mem_at _ [63, 64, 68, 71, 128, 129, 130, 131, 133, 144, 145, 146, 148, 149, 147, 151, 173, 174, 175, 176, 178, 177, 210, 211] (by decide +kernel)
set_option maxRecDepth 20000 in
theorem inl_r5 : ∀ w ∈ wsL_law_r5, w ∈ lw_tbl := mem_at _ [212, 213, 228, 229, 230, 235, 231, 239, 240, 241, 254, 255, 256, 257, 258, 267, 268, 269, 270, 272, 800, 801, 802, 803] (by decide +kernel)
set_option maxRecDepth 20000 in
theorem inl_r6 : ∀ w ∈ wsL_law_r6, w ∈ lw_tbl := mem_at _ [804, 805, 807, 809, 816, 817, 818, 819, 820, 324, 325, 326, 327, 86, 92, 328, 329, 330, 331, 332, 333, 334, 335, 336] (by decide +kernel)
set_option maxRecDepth 20000 in
theorem inl_r7 : ∀ w ∈ wsL_law_r7, w ∈ lw_tbl := mem_at _ [337, 338, 339, 340, 856, 857, 858, 859, 860, 861, 862, 863, 864, 865, 866, 867, 868, 341, 342, 343, 344, 345, 346, 347] (by decide +kernel)
set_option maxRecDepth 20000 in
theorem inl_r8 : ∀ w ∈ wsL_law_r8, w ∈ lw_tbl := mem_at _ [348, 349, 350, 351, 352, 353, 354, 355, 357, 358, 359, 360, 361, 362, 869, 870, 871, 872, 363, 364, 365, 366, 99, 367] (by decide +kernel)
set_option maxRecDepth 20000 in
theorem inl_r9 : ∀ w ∈ wsL_law_r9, w ∈ lw_tbl := mem_at _ [873, 874, 875, 876, 368, 369, 370, 371, 83, 65, 69, 72, 372, 373, 374, 375, 877, 878, 879, 880, 376, 377, 378, 379] (by decide +kernel)
set_option maxRecDepth 20000 in
theorem inl_r10 : ∀ w ∈ wsL_law_r10, w ∈ lw_tbl := mem_at _ [135, 380, 381, 382, 383, 881, 882, 883, 884, 808, 384, 385, 386, 387, 388, 389, 390, 391, 885, 886, 887, 888, 392, 393] (by decide +kernel)
set_option maxRecDepth 20000 in
theorem inl_r11 : ∀ w ∈ wsL_law_r11, w ∈ lw_tbl := mem_at _ [394, 395, 396, 397, 398, 399, 400, 401, 402, 403, 404, 405, 407, 408, 409, 410, 411, 412, 889, 890, 891, 892, 893, 895] (by decide +kernel)
set_option maxRecDepth 20000 in
theorem inl_r12 : ∀ w ∈ wsL_law_r12, w ∈ lw_tbl := mem_at _ [2, 896, 897, 898, 899, 414, 415, 416, 417, 183, 185, 418, 419, 420, 421, 134, 182, 132, 422, 423, 424, 425, 180, 184] (by decide +kernel)
set_option maxRecDepth 20000 in
theorem inl_r13 : ∀ w ∈ wsL_law_r13, w ∈ lw_tbl := mem_at _ [186, 188, 190, 426, 427, 428, 429, 435, 437, 436, 39, 430, 431, 432, 433, 434, 438, 439, 440, 441, 442, 443, 444, 445] (by decide +kernel)
set_option maxRecDepth 20000 in
theorem inl_r14 : ∀ w ∈ wsL_law_r14, w ∈ lw_tbl := mem_at _ [446, 447, 448, 449, 450, 451, 452, 74, 453, 454, 455, 456, 457, 458, 459, 460, 461, 462, 463, 464, 465, 466, 467, 468] (by decide +kernel)
set_option maxRecDepth 20000 in
theorem inl_r15 : ∀ w ∈ wsL_law_r15, w ∈ lw_tbl := mem_at _ [469, 470, 471, 472, 473, 474, 475, 476, 84, 73, 477, 478, 479, 480, 481, 482, 483, 484, 491, 492, 41, 493, 485, 486] (by decide +kernel)
set_option maxRecDepth 20000 in
theorem inl_r16 : ∀ w ∈ wsL_law_r16, w ∈ lw_tbl := mem_at _ [40, 487, 488, 489, 490, 494, 495, 496, 497, 498, 499, 500, 501, 503, 504, 505, 506, 507, 508, 509, 510, 511, 512, 513] (by decide +kernel)
set_option maxRecDepth 20000 in
theorem inl_r17 : ∀ w ∈ wsL_law_r17, w ∈ lw_tbl := mem_at _ [514, 515, 516, 517, 518, 519, 520, 521, 522, 523, 524, 88, 66, 95, 526, 527, 528, 529, 530, 531, 532, 533, 534, 535] (by decide +kernel)
set_option maxRecDepth 20000 in
theorem inl_r18 : ∀ w ∈ wsL_law_r18, w ∈ lw_tbl := mem_at _ [536, 537, 538, 539, 540, 541, 542, 543, 544, 545, 546, 547, 548, 549, 550, 551, 552, 900, 901, 902, 903, 814, 904, 906] (by decide +kernel)
set_option maxRecDepth 20000 in
theorem inl_r19 : ∀ w ∈ wsL_law_r19, w ∈ lw_tbl := mem_at _ [3, 907, 815, 813, 811, 812, 908, 910, 4, 911, 810, 912, 914, 5, 915, 916, 918, 6, 919, 920, 922, 7, 923, 924] (by decide +kernel)
set_option maxRecDepth 20000 in
theorem inl_r20 : ∀ w ∈ wsL_law_r20, w ∈ lw_tbl := mem_at _ [925, 926, 927, 929, 8, 930, 931, 933, 9, 934, 935, 937, 10, 938, 939, 940, 941, 942, 944, 11, 945, 946, 948, 12] (by decide +kernel)
set_option maxRecDepth 20000 in
theorem inl_r21 : ∀ w ∈ wsL_law_r21, w ∈ lw_tbl := mem_at _ [949, 950, 952, 13, 953, 954, 956, 14, 957, 958, 960, 15, 961, 962, 964, 16, 965, 966, 968, 17, 969, 970, 972, 18] (by decide +kernel)
set_option maxRecDepth 20000 in
theorem inl_r22 : ∀ w ∈ wsL_law_r22, w ∈ lw_tbl := mem_at _ [973, 553, 554, 555, 556, 179, 181, 557, 559, 0, 560, 561, 974, 975, 976, 977, 978, 980, 19, 981, 562, 563, 564, 565] (by decide +kernel)
set_option maxRecDepth 20000 in
theorem inl_r23 : ∀ w ∈ wsL_law_r23, w ∈ lw_tbl := mem_at _ [566, 567, 568, 569, 982, 983, 984, 985, 570, 571, 572, 573, 187, 189, 191, 574, 575, 576, 577, 67, 70, 578, 986, 987] (by decide +kernel)
set_option maxRecDepth 20000 in
theorem inl_r24 : ∀ w ∈ wsL_law_r24, w ∈ lw_tbl := mem_at _ [988, 989, 990, 992, 20, 993, 579, 580, 581, 582, 101, 583, 584, 585, 586, 587, 588, 589, 994, 995, 996, 997, 998, 1000] (by decide +kernel)
set_option maxRecDepth 20000 in
theorem inl_r25 : ∀ w ∈ wsL_law_r25, w ∈ lw_tbl := mem_at _ [21, 1001, 590, 591, 592, 593, 215, 217, 594, 595, 596, 597, 214, 216, 598, 599, 600, 601, 602, 603, 604, 605, 1002, 1003] (by decide +kernel)
set_option maxRecDepth 20000 in
theorem inl_r26 : ∀ w ∈ wsL_law_r26, w ∈ lw_tbl := mem_at _ [1004, 1005, 1010, 1006, 1008, 22, 1009, 607, 608, 609, 610, 611, 612, 613, 614, 615, 616, 617, 618, 87, 619, 620, 621, 622] (by decide +kernel)
set_option maxRecDepth 20000 in
theorem inl_r27 : ∀ w ∈ wsL_law_r27, w ∈ lw_tbl := mem_at _ [623, 624, 625, 627, 628, 1011, 1012, 1013, 1014, 629, 630, 631, 632, 243, 245, 633, 634, 635, 636, 242, 244, 91, 98, 637] (by decide +kernel)
set_option maxRecDepth 20000 in
theorem inl_r28 : ∀ w ∈ wsL_law_r28, w ∈ lw_tbl := mem_at _ [638, 639, 640, 641, 642, 643, 644, 1015, 1016, 1017, 1018, 646, 647, 648, 649, 150, 650, 651, 652, 653, 654, 655, 656, 1019] (by decide +kernel)
set_option maxRecDepth 20000 in
theorem inl_r29 : ∀ w ∈ wsL_law_r29, w ∈ lw_tbl := mem_at _ [1020, 1021, 1022, 806, 657, 658, 659, 660, 661, 662, 663, 664, 1023, 1024, 1025, 1026, 665, 666, 667, 668, 152, 669, 670, 42] (by decide +kernel)
set_option maxRecDepth 20000 in
theorem inl_r30 : ∀ w ∈ wsL_law_r30, w ∈ lw_tbl := mem_at _ [671, 672, 673, 674, 675, 676, 677, 678, 679, 680, 681, 682, 1027, 1028, 1029, 1030, 1031, 1033, 23, 1034, 1035, 1036, 1037, 684] (by decide +kernel)
set_option maxRecDepth 20000 in
theorem inl_r31 : ∀ w ∈ wsL_law_r31, w ∈ lw_tbl := mem_at _ [685, 686, 687, 154, 156, 688, 689, 690, 691, 153, 155, 692, 693, 694, 695, 696, 697, 698, 699, 700, 702, 701, 1038, 1039] (by decide +kernel)
set_option maxRecDepth 20000 in
theorem inl_r32 : ∀ w ∈ wsL_law_r32, w ∈ lw_tbl := mem_at _ [1040, 1041, 703, 704, 705, 706, 707, 708, 709, 710, 720, 711, 712, 713, 714, 715, 716, 717, 718, 1042, 1043, 1044, 1045, 1046] (by decide +kernel)
set_option maxRecDepth 20000 in
theorem inl_r33 : ∀ w ∈ wsL_law_r33, w ∈ lw_tbl := mem_at _ [1048, 24, 1049, 721, 722, 723, 724, 725, 726, 276, 278, 274, 727, 728, 729, 730, 273, 275, 277, 731, 732, 733, 734, 735] (by decide +kernel)
set_option maxRecDepth 20000 in
theorem inl_r34 : ∀ w ∈ wsL_law_r34, w ∈ lw_tbl := mem_at _ [736, 737, 739, 740, 741, 1050, 1051, 1052, 1053, 1054, 1055, 1056, 742, 743, 744, 745, 746, 747, 748, 749, 750, 751, 752, 753] (by decide +kernel)
set_option maxRecDepth 20000 in
theorem inl_r35 : ∀ w ∈ wsL_law_r35, w ∈ lw_tbl := mem_at _ [754, 755, 756, 757, 758, 759, 1057, 1058, 1059, 1060, 1061, 1062, 1064, 25, 1065, 760, 761, 762, 763, 764, 43, 774, 776, 766] (by decide +kernel)
set_option maxRecDepth 20000 in
theorem inl_r36 : ∀ w ∈ wsL_law_r36, w ∈ lw_tbl := mem_at _ [767, 768, 769, 773, 771, 775, 770, 782, 783, 784, 785, 1066, 1067, 1068, 1069, 786, 787, 788, 789, 1070, 1071, 1072, 1073, 790] (by decide +kernel)
set_option maxRecDepth 20000 in
theorem inl_r37 : ∀ w ∈ wsL_law_r37, w ∈ lw_tbl := mem_at _ [791, 792, 793, 794, 796, 1, 797, 1074, 1075, 1076, 1077] (by decide +kernel)
set_option maxRecDepth 20000 in
theorem inX0 : ∀ w ∈ wsX00, w ∈ lw_tbl := mem_at _ [279, 281, 283, 285] (by decide +kernel)
set_option maxRecDepth 20000 in
theorem inX1 : ∀ w ∈ wsX10, w ∈ lw_tbl := mem_at _ [777, 779] (by decide +kernel)
set_option maxRecDepth 20000 in
theorem inX2 : ∀ w ∈ wsX20, w ∈ lw_tbl := mem_at _ [259, 261] (by decide +kernel)
set_option maxRecDepth 20000 in
theorem inX3 : ∀ w ∈ wsX30, w ∈ lw_tbl := mem_at _ [136, 138] (by decide +kernel)
set_option maxRecDepth 20000 in
theorem inX4 : ∀ w ∈ wsX40, w ∈ lw_tbl := mem_at _ [218, 220, 222] (by decide +kernel)
set_option maxRecDepth 20000 in
theorem inX5 : ∀ w ∈ wsX50, w ∈ lw_tbl := mem_at _ [246, 248] (by decide +kernel)
set_option maxRecDepth 20000 in
theorem inX6 : ∀ w ∈ wsX60, w ∈ lw_tbl := mem_at _ [232] (by decide +kernel)
set_option maxRecDepth 20000 in
theorem inX7 : ∀ w ∈ wsX70, w ∈ lw_tbl := mem_at _ [157, 159, 161, 163, 165] (by decide +kernel)
set_option maxRecDepth 20000 in
theorem inX8 : ∀ w ∈ wsX80, w ∈ lw_tbl := mem_at _ [103, 105, 107, 109, 111, 113, 115, 117, 119, 121] (by decide +kernel)
set_option maxRecDepth 20000 in
theorem inX9 : ∀ w ∈ wsX90, w ∈ lw_tbl := mem_at _ [192, 194, 196, 198, 200, 202, 204] (by decide +kernel)
set_option maxRecDepth 20000 in
theorem inX10 : ∀ w ∈ wsX100, w ∈ lw_tbl := mem_at _ [75, 77, 79] (by decide +kernel)
set_option maxRecDepth 20000 in
theorem inX11 : ∀ w ∈ wsX110, w ∈ lw_tbl := mem_at _ [301, 303, 305, 307, 309, 311, 313, 315, 317, 319, 321] (by decide +kernel)
set_option maxRecDepth 20000 in
theorem inX12 : ∀ w ∈ wsX120, w ∈ lw_tbl := mem_at _ [821, 823, 825, 827, 829, 831, 833, 835, 837, 839, 841, 843, 845, 847, 849, 851, 853] (by decide +kernel)
set_option maxRecDepth 20000 in
theorem in_nest : ∀ w ∈ zNest.map (fun q => Cond.methodLinkNest q.1 q.2.1 q.2.2 "ToupeeWind"), w ∈ lw_tbl := mem_at _ [60, 127, 143, 172, 209, 227, 238, 253, 266, 271, 289, 356, 406, 413, 502, 525, 606, 626, 645, 683, 719, 738, 765, 772] (by decide +kernel)
set_option maxRecDepth 20000 in
theorem in_ai : Cond.arrayClass .int ∈ lw_tbl := List.mem_of_getElem? (i := 124) (by decide +kernel)
set_option maxRecDepth 20000 in
theorem in_az : Cond.arrayClass .boolean ∈ lw_tbl := List.mem_of_getElem? (i := 235) (by decide +kernel)
set_option maxRecDepth 20000 in
theorem in_aq : Cond.arrayOver (.object "ToupeeWind$Image") ∈ lw_tbl := List.mem_of_getElem? (i := 169) (by decide +kernel)
set_option maxRecDepth 20000 in
theorem in_i0 : Cond.instantiable RX0 4 ∈ lw_tbl := List.mem_of_getElem? (i := 265) (by decide +kernel)
set_option maxRecDepth 20000 in
theorem in_i1 : Cond.instantiable RX1 2 ∈ lw_tbl := List.mem_of_getElem? (i := 764) (by decide +kernel)
set_option maxRecDepth 20000 in
theorem in_i2 : Cond.instantiable RX2 2 ∈ lw_tbl := List.mem_of_getElem? (i := 252) (by decide +kernel)
set_option maxRecDepth 20000 in
theorem in_i3 : Cond.instantiable RX3 2 ∈ lw_tbl := List.mem_of_getElem? (i := 126) (by decide +kernel)
set_option maxRecDepth 20000 in
theorem in_i4 : Cond.instantiable RX4 3 ∈ lw_tbl := List.mem_of_getElem? (i := 208) (by decide +kernel)
set_option maxRecDepth 20000 in
theorem in_i5 : Cond.instantiable RX5 2 ∈ lw_tbl := List.mem_of_getElem? (i := 237) (by decide +kernel)
set_option maxRecDepth 20000 in
theorem in_i6 : Cond.instantiable RX6 1 ∈ lw_tbl := List.mem_of_getElem? (i := 226) (by decide +kernel)
set_option maxRecDepth 20000 in
theorem in_i7 : Cond.instantiable RX7 5 ∈ lw_tbl := List.mem_of_getElem? (i := 142) (by decide +kernel)
set_option maxRecDepth 20000 in
theorem in_i8 : Cond.instantiable RX8 10 ∈ lw_tbl := List.mem_of_getElem? (i := 53) (by decide +kernel)
set_option maxRecDepth 20000 in
theorem in_i9 : Cond.instantiable RX9 7 ∈ lw_tbl := List.mem_of_getElem? (i := 171) (by decide +kernel)
set_option maxRecDepth 20000 in
theorem in_i10 : Cond.instantiable RX10 3 ∈ lw_tbl := List.mem_of_getElem? (i := 59) (by decide +kernel)
set_option maxRecDepth 20000 in
theorem in_i11 : Cond.instantiable RX11 11 ∈ lw_tbl := List.mem_of_getElem? (i := 45) (by decide +kernel)
set_option maxRecDepth 20000 in
theorem in_i12 : Cond.instantiable RX12 17 ∈ lw_tbl := List.mem_of_getElem? (i := 799) (by decide +kernel)
theorem wsL_law_in : ∀ w ∈ wsL_law, w ∈ lw_tbl := by
  unfold wsL_law
  repeat rw [List.forall_mem_append]
  exact ⟨⟨⟨⟨⟨⟨⟨⟨⟨⟨⟨⟨⟨⟨⟨inl_r1, ⟨inl_r2, ⟨inl_r3, ⟨inl_r4, ⟨inl_r5, ⟨inl_r6, ⟨inl_r7, ⟨inl_r8, ⟨inl_r9, ⟨inl_r10, ⟨inl_r11, ⟨inl_r12, ⟨inl_r13, ⟨inl_r14, ⟨inl_r15, ⟨inl_r16, ⟨inl_r17, ⟨inl_r18, ⟨inl_r19, ⟨inl_r20, ⟨inl_r21, ⟨inl_r22, ⟨inl_r23, ⟨inl_r24, ⟨inl_r25, ⟨inl_r26, ⟨inl_r27, ⟨inl_r28, ⟨inl_r29, ⟨inl_r30, ⟨inl_r31, ⟨inl_r32, ⟨inl_r33, ⟨inl_r34, ⟨inl_r35, ⟨inl_r36, inl_r37⟩⟩⟩⟩⟩⟩⟩⟩⟩⟩⟩⟩⟩⟩⟩⟩⟩⟩⟩⟩⟩⟩⟩⟩⟩⟩⟩⟩⟩⟩⟩⟩⟩⟩⟩⟩, inX11⟩, inX12⟩, inX8⟩, inX3⟩, inX7⟩, inX9⟩, inX4⟩, inX6⟩, inX5⟩, inX2⟩, inX0⟩, inX10⟩, inX1⟩, fun _ h => absurd h List.not_mem_nil⟩
