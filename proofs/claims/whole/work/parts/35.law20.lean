set_option maxRecDepth 20000 in
theorem ggL_law_X11_told : GoodIn wsL_law wsX11_told := goodIn_r _ [866, 15, 19, 216, 23, 663, 867, 868, 869, 2, 870, 135, 136, 137, 138, 139, 140, 168, 169, 170, 14, 171, 172, 173, 174, 175, 66, 176, 177, 528, 529, 530, 531, 61, 62, 63, 64, 65, 543, 544, 545, 546, 59, 547, 548, 319, 68, 69, 549, 366, 367, 368, 369, 370, 371, 372, 373, 374, 817, 376, 377, 378, 875, 876, 877, 878, 879, 880, 881, 882, 883, 884, 885, 913, 914, 915, 916, 917, 918, 919, 903, 904, 905, 906, 907, 908, 909, 910, 911, 912, 939, 940, 941] (by decide +kernel) (by decide +kernel)
set_option maxRecDepth 20000 in
theorem gL_law_X11_told : GoodIn wsL_law (wsV RL 116 RX11 yX11_told wsX11_told) := goodIn_app (goodIn_of _ (by decide +kernel)) ggL_law_X11_told
set_option maxRecDepth 20000 in
theorem ggL_law_X12_told : GoodIn wsL_law wsX12_told := goodIn_r _ [874, 120, 225, 675, 438, 439, 440, 5, 441, 121, 442, 436, 437, 435, 152, 153, 154, 155, 156, 157, 554, 555, 556, 557, 462, 463, 464, 465, 466, 467, 468, 469, 470, 471, 472, 473, 474, 475, 476, 827, 828, 829, 830, 886, 887, 888, 889, 890, 891, 892, 893, 894, 895, 896, 897, 898, 899, 900, 901, 902] (by decide +kernel) (by decide +kernel)
set_option maxRecDepth 20000 in
theorem gL_law_X12_told : GoodIn wsL_law (wsV RL 119 RX12 yX12_told wsX12_told) := goodIn_app (goodIn_of _ (by decide +kernel)) ggL_law_X12_told
