set_option maxRecDepth 20000 in
theorem ggL_law_X11_forget : GoodIn wsL_law wsX11_forget := goodIn_r _ [679, 23, 663, 680, 681, 682, 22, 683, 85, 86, 87, 875, 876, 877, 878, 879, 880, 881, 882, 883, 884, 885, 915, 916, 917, 918, 919] (by decide +kernel) (by decide +kernel)
set_option maxRecDepth 20000 in
theorem gL_law_X11_forget : GoodIn wsL_law (wsV RL 83 RX11 yX11_forget wsX11_forget) := goodIn_app (goodIn_of _ (by decide +kernel)) ggL_law_X11_forget
set_option maxRecDepth 20000 in
theorem ggL_law_X12_forget : GoodIn wsL_law wsX12_forget := goodIn_r _ [687, 675, 886, 887, 888, 889, 890, 891, 892, 893, 894, 895, 896, 897, 898, 899, 900, 901, 902] (by decide +kernel) (by decide +kernel)
set_option maxRecDepth 20000 in
theorem gL_law_X12_forget : GoodIn wsL_law (wsV RL 86 RX12 yX12_forget wsX12_forget) := goodIn_app (goodIn_of _ (by decide +kernel)) ggL_law_X12_forget
