set_option maxRecDepth 20000 in
theorem ggL_law_X11_bowls : GoodIn wsL_law wsX11_bowls := goodIn_r _ [749, 45, 138, 139, 2, 140, 750, 751, 752, 44, 753, 110, 109, 754, 419, 356, 420, 755, 756, 757, 758, 759, 760, 761, 762, 373, 374, 875, 876, 877, 878, 879, 880, 881, 882, 883, 884, 885, 933, 934] (by decide +kernel) (by decide +kernel)
set_option maxRecDepth 20000 in
theorem gL_law_X11_bowls : GoodIn wsL_law (wsV RL 95 RX11 yX11_bowls wsX11_bowls) := goodIn_app (goodIn_of _ (by decide +kernel)) ggL_law_X11_bowls
set_option maxRecDepth 20000 in
theorem ggL_law_X12_bowls : GoodIn wsL_law wsX12_bowls := goodIn_r _ [766, 126, 155, 156, 5, 157, 767, 768, 769, 770, 886, 887, 888, 889, 890, 891, 892, 893, 894, 895, 896, 897, 898, 899, 900, 901, 902] (by decide +kernel) (by decide +kernel)
set_option maxRecDepth 20000 in
theorem gL_law_X12_bowls : GoodIn wsL_law (wsV RL 98 RX12 yX12_bowls wsX12_bowls) := goodIn_app (goodIn_of _ (by decide +kernel)) ggL_law_X12_bowls
