set_option maxRecDepth 20000 in
theorem ggL_law_X11_arms : GoodIn wsL_law wsX11_arms := goodIn_r _ [610, 37, 15, 138, 139, 2, 140, 611, 612, 613, 36, 614, 102, 615, 370, 371, 14, 372, 62, 68, 63, 373, 374, 616, 617, 618, 619, 620, 621, 356, 622, 623, 624, 625, 626, 627, 359, 360, 361, 362, 363, 364, 628, 875, 876, 877, 878, 879, 880, 881, 882, 883, 884, 885, 930, 903, 904, 905, 906, 907, 908, 909, 910, 911, 912] (by decide +kernel) (by decide +kernel)
set_option maxRecDepth 20000 in
theorem gL_law_X11_arms : GoodIn wsL_law (wsV RL 70 RX11 yX11_arms wsX11_arms) := goodIn_app (goodIn_of _ (by decide +kernel)) ggL_law_X11_arms
set_option maxRecDepth 20000 in
theorem ggL_law_X12_arms : GoodIn wsL_law wsX12_arms := goodIn_r _ [632, 124, 121, 155, 156, 5, 157, 438, 439, 440, 441, 120, 442, 436, 437, 435, 466, 467, 468, 469, 470, 471, 472, 455, 456, 457, 886, 887, 888, 889, 890, 891, 892, 893, 894, 895, 896, 897, 898, 899, 900, 901, 902] (by decide +kernel) (by decide +kernel)
set_option maxRecDepth 20000 in
theorem gL_law_X12_arms : GoodIn wsL_law (wsV RL 73 RX12 yX12_arms wsX12_arms) := goodIn_app (goodIn_of _ (by decide +kernel)) ggL_law_X12_arms
