set_option maxRecDepth 20000 in
theorem ggL_law_X11_paid : GoodIn wsL_law wsX11_paid := goodIn_r _ [636, 41, 15, 637, 638, 135, 136, 2, 137, 138, 139, 140, 639, 640, 641, 40, 642, 643, 644, 645, 646, 647, 173, 174, 14, 175, 66, 648, 649, 650, 651, 652, 653, 654, 176, 177, 875, 876, 877, 878, 879, 880, 881, 882, 883, 884, 885, 931, 932, 903, 904, 905, 906, 907, 908, 909, 910, 911, 912] (by decide +kernel) (by decide +kernel)
set_option maxRecDepth 20000 in
theorem gL_law_X11_paid : GoodIn wsL_law (wsV RL 74 RX11 yX11_paid wsX11_paid) := goodIn_app (goodIn_of _ (by decide +kernel)) ggL_law_X11_paid
set_option maxRecDepth 20000 in
theorem ggL_law_X12_paid : GoodIn wsL_law wsX12_paid := goodIn_r _ [658, 602, 120, 152, 153, 5, 154, 155, 156, 157, 886, 887, 888, 889, 890, 891, 892, 893, 894, 895, 896, 897, 898, 899, 900, 901, 902] (by decide +kernel) (by decide +kernel)
set_option maxRecDepth 20000 in
theorem gL_law_X12_paid : GoodIn wsL_law (wsV RL 77 RX12 yX12_paid wsX12_paid) := goodIn_app (goodIn_of _ (by decide +kernel)) ggL_law_X12_paid
