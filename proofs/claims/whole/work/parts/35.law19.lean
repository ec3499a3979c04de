set_option maxRecDepth 20000 in
theorem ggL_law_X11_restore : GoodIn wsL_law wsX11_restore := goodIn_r _ [858, 25, 15, 837, 23, 838, 138, 139, 2, 140, 515, 292, 293, 14, 294, 59, 61, 295, 296, 297, 298, 62, 63, 64, 65, 66, 67, 68, 69, 299, 300, 301, 52, 302, 73, 74, 75, 303, 205, 206, 207, 847, 848, 849, 22, 850, 85, 87, 875, 876, 877, 878, 879, 880, 881, 882, 883, 884, 885, 942, 943, 903, 904, 905, 906, 907, 908, 909, 910, 911, 912, 939, 940, 941, 915, 916, 917, 918, 919] (by decide +kernel) (by decide +kernel)
set_option maxRecDepth 20000 in
theorem gL_law_X11_restore : GoodIn wsL_law (wsV RL 112 RX11 yX11_restore wsX11_restore) := goodIn_app (goodIn_of _ (by decide +kernel)) ggL_law_X11_restore
set_option maxRecDepth 20000 in
theorem ggL_law_X12_restore : GoodIn wsL_law wsX12_restore := goodIn_r _ [862, 128, 120, 127, 122, 675, 155, 156, 5, 157, 886, 887, 888, 889, 890, 891, 892, 893, 894, 895, 896, 897, 898, 899, 900, 901, 902] (by decide +kernel) (by decide +kernel)
set_option maxRecDepth 20000 in
theorem gL_law_X12_restore : GoodIn wsL_law (wsV RL 115 RX12 yX12_restore wsX12_restore) := goodIn_app (goodIn_of _ (by decide +kernel)) ggL_law_X12_restore
