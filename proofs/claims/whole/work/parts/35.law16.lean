set_option maxRecDepth 20000 in
theorem ggL_law_X11_gale : GoodIn wsL_law wsX11_gale := goodIn_r _ [774, 775, 776, 49, 777, 778, 779, 141, 142, 2, 143, 138, 139, 140, 780, 781, 782, 48, 783, 784, 785, 786, 787, 788, 789, 790, 115, 791, 205, 206, 52, 207, 73, 74, 75, 792, 565, 566, 567, 568, 380, 381, 382, 383, 384, 385, 386, 387, 388, 389, 390, 793, 359, 360, 361, 362, 363, 364, 373, 374, 794, 795, 796, 875, 876, 877, 878, 879, 880, 881, 882, 883, 884, 885, 935, 936, 937, 938, 939, 940, 941] (by decide +kernel) (by decide +kernel)
set_option maxRecDepth 20000 in
theorem gL_law_X11_gale : GoodIn wsL_law (wsV RL 99 RX11 yX11_gale wsX11_gale) := goodIn_app (goodIn_of _ (by decide +kernel)) ggL_law_X11_gale
set_option maxRecDepth 20000 in
theorem ggL_law_X12_gale : GoodIn wsL_law wsX12_gale := goodIn_r _ [800, 801, 802, 121, 803, 158, 159, 5, 160, 155, 156, 157, 574, 575, 576, 577, 458, 459, 460, 461, 455, 456, 457, 470, 471, 472, 886, 887, 888, 889, 890, 891, 892, 893, 894, 895, 896, 897, 898, 899, 900, 901, 902] (by decide +kernel) (by decide +kernel)
set_option maxRecDepth 20000 in
theorem gL_law_X12_gale : GoodIn wsL_law (wsV RL 103 RX12 yX12_gale wsX12_gale) := goodIn_app (goodIn_of _ (by decide +kernel)) ggL_law_X12_gale
