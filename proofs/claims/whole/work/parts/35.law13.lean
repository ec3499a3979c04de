set_option maxRecDepth 20000 in
theorem ggL_law_X11_likings : GoodIn wsL_law wsX11_likings := goodIn_r _ [691, 23, 692, 693, 694, 695, 696, 697, 698, 699, 700, 701, 702, 22, 703, 704, 705, 706, 707, 87, 176, 2, 177, 875, 876, 877, 878, 879, 880, 881, 882, 883, 884, 885, 915, 916, 917, 918, 919] (by decide +kernel) (by decide +kernel)
set_option maxRecDepth 20000 in
theorem gL_law_X11_likings : GoodIn wsL_law (wsV RL 87 RX11 yX11_likings wsX11_likings) := goodIn_app (goodIn_of _ (by decide +kernel)) ggL_law_X11_likings
set_option maxRecDepth 20000 in
theorem ggL_law_X12_likings : GoodIn wsL_law wsX12_likings := goodIn_r _ [711, 712, 713, 714, 5, 715, 675, 122, 716, 717, 718, 886, 887, 888, 889, 890, 891, 892, 893, 894, 895, 896, 897, 898, 899, 900, 901, 902] (by decide +kernel) (by decide +kernel)
set_option maxRecDepth 20000 in
theorem gL_law_X12_likings : GoodIn wsL_law (wsV RL 90 RX12 yX12_likings wsX12_likings) := goodIn_app (goodIn_of _ (by decide +kernel)) ggL_law_X12_likings
