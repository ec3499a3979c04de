set_option maxRecDepth 20000 in
theorem ggL_law_X11_ask : GoodIn wsL_law wsX11_ask := goodIn_r _ [722, 23, 692, 723, 724, 138, 139, 2, 140, 725, 726, 727, 22, 728, 729, 730, 731, 732, 733, 734, 84, 735, 355, 356, 357, 704, 705, 706, 707, 87, 668, 669, 670, 176, 177, 736, 737, 738, 739, 740, 419, 420, 741, 694, 695, 696, 697, 698, 699, 875, 876, 877, 878, 879, 880, 881, 882, 883, 884, 885, 915, 916, 917, 918, 919] (by decide +kernel) (by decide +kernel)
set_option maxRecDepth 20000 in
theorem gL_law_X11_ask : GoodIn wsL_law (wsV RL 91 RX11 yX11_ask wsX11_ask) := goodIn_app (goodIn_of _ (by decide +kernel)) ggL_law_X11_ask
set_option maxRecDepth 20000 in
theorem ggL_law_X12_ask : GoodIn wsL_law wsX12_ask := goodIn_r _ [745, 125, 602, 155, 156, 5, 157, 712, 713, 714, 715, 675, 122, 716, 717, 718, 886, 887, 888, 889, 890, 891, 892, 893, 894, 895, 896, 897, 898, 899, 900, 901, 902] (by decide +kernel) (by decide +kernel)
set_option maxRecDepth 20000 in
theorem gL_law_X12_ask : GoodIn wsL_law (wsV RL 94 RX12 yX12_ask wsX12_ask) := goodIn_app (goodIn_of _ (by decide +kernel)) ggL_law_X12_ask
