set_option maxRecDepth 20000 in
theorem ggL_law_X11_when : GoodIn wsL_law wsX11_when := goodIn_r _ [561, 53, 15, 200, 562, 141, 142, 2, 143, 138, 139, 140, 563, 300, 301, 52, 302, 73, 74, 75, 303, 205, 206, 207, 564, 565, 566, 567, 568, 380, 381, 382, 383, 384, 385, 386, 387, 388, 389, 390, 569, 373, 374, 875, 876, 877, 878, 879, 880, 881, 882, 883, 884, 885, 903, 904, 905, 906, 907, 908, 909, 910, 911, 912, 939, 940, 941] (by decide +kernel) (by decide +kernel)
set_option maxRecDepth 20000 in
theorem gL_law_X11_when : GoodIn wsL_law (wsV RL 62 RX11 yX11_when wsX11_when) := goodIn_app (goodIn_of _ (by decide +kernel)) ggL_law_X11_when
set_option maxRecDepth 20000 in
theorem ggL_law_X12_when : GoodIn wsL_law wsX12_when := goodIn_r _ [573, 120, 158, 159, 5, 160, 155, 156, 157, 438, 439, 440, 441, 121, 442, 436, 437, 435, 574, 575, 576, 577, 458, 459, 460, 461, 470, 471, 472, 886, 887, 888, 889, 890, 891, 892, 893, 894, 895, 896, 897, 898, 899, 900, 901, 902] (by decide +kernel) (by decide +kernel)
set_option maxRecDepth 20000 in
theorem gL_law_X12_when : GoodIn wsL_law (wsV RL 65 RX12 yX12_when wsX12_when) := goodIn_app (goodIn_of _ (by decide +kernel)) ggL_law_X12_when
