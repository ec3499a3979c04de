set_option maxRecDepth 20000 in
theorem ggL_law_X11_pass : GoodIn wsL_law wsX11_pass := goodIn_r _ [581, 53, 15, 200, 33, 582, 583, 141, 142, 2, 143, 138, 139, 140, 563, 300, 301, 52, 302, 73, 74, 75, 303, 205, 206, 207, 584, 585, 586, 32, 587, 588, 589, 97, 590, 565, 566, 567, 568, 380, 381, 382, 383, 384, 385, 386, 387, 388, 389, 390, 591, 592, 593, 594, 595, 596, 597, 373, 374, 875, 876, 877, 878, 879, 880, 881, 882, 883, 884, 885, 903, 904, 905, 906, 907, 908, 909, 910, 911, 912, 927, 928, 929, 939, 940, 941] (by decide +kernel) (by decide +kernel)
set_option maxRecDepth 20000 in
theorem gL_law_X11_pass : GoodIn wsL_law (wsV RL 66 RX11 yX11_pass wsX11_pass) := goodIn_app (goodIn_of _ (by decide +kernel)) ggL_law_X11_pass
set_option maxRecDepth 20000 in
theorem ggL_law_X12_pass : GoodIn wsL_law wsX12_pass := goodIn_r _ [601, 602, 158, 159, 5, 160, 155, 156, 157, 438, 439, 440, 441, 121, 120, 442, 436, 437, 435, 603, 604, 605, 606, 470, 471, 472, 574, 575, 576, 577, 458, 459, 460, 461, 886, 887, 888, 889, 890, 891, 892, 893, 894, 895, 896, 897, 898, 899, 900, 901, 902] (by decide +kernel) (by decide +kernel)
set_option maxRecDepth 20000 in
theorem gL_law_X12_pass : GoodIn wsL_law (wsV RL 69 RX12 yX12_pass wsX12_pass) := goodIn_app (goodIn_of _ (by decide +kernel)) ggL_law_X12_pass
