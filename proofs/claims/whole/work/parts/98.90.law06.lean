set_option maxRecDepth 20000 in
theorem ggL_law_X11_every : GoodIn wsL_law wsX11_every := goodIn_r _ [827, 19, 809, 810, 41, 828, 176, 177, 178, 2, 179, 45, 829, 830, 831, 40, 832, 833, 143, 834, 835, 142, 836, 837, 838, 839, 840, 606, 607, 608, 841, 842, 843, 948, 949, 950, 951, 952, 953, 954, 955, 956, 957, 958, 959, 997, 998, 999, 1039, 1040, 1041, 1026, 1027] (by decide +kernel) (by decide +kernel)
set_option maxRecDepth 20000 in
theorem gL_law_X11_every : GoodIn wsL_law (wsV RL 109 RX11 yX11_every wsX11_every) := goodIn_app (goodIn_of _ (by decide +kernel)) ggL_law_X11_every
set_option maxRecDepth 20000 in
theorem ggL_law_X12_every : GoodIn wsL_law wsX12_every := goodIn_r _ [847, 823, 170, 157, 158, 189, 190, 191, 5, 192, 148, 848, 849, 850, 851, 388, 960, 961, 962, 963, 964, 965, 966, 967, 968, 969, 970, 971, 972, 973, 974, 975, 976, 977, 978, 979, 980, 981, 982, 983, 984, 985, 986, 987, 988, 989, 990, 991, 992, 993, 994] (by decide +kernel) (by decide +kernel)
set_option maxRecDepth 20000 in
theorem gL_law_X12_every : GoodIn wsL_law (wsV RL 112 RX12 yX12_every wsX12_every) := goodIn_app (goodIn_of _ (by decide +kernel)) ggL_law_X12_every
set_option maxRecDepth 20000 in
theorem ggL_law_X11_stones : GoodIn wsL_law wsX11_stones := goodIn_r _ [855, 19, 443, 445, 444, 856, 857, 858, 2, 859, 44, 197, 426, 860, 606, 607, 608, 427, 368, 369, 58, 370, 76, 948, 949, 950, 951, 952, 953, 954, 955, 956, 957, 958, 959, 997, 998, 999, 1037, 1038, 1028, 1029, 1030, 1031, 1032, 1033, 1034, 1035, 1036] (by decide +kernel) (by decide +kernel)
set_option maxRecDepth 20000 in
theorem gL_law_X11_stones : GoodIn wsL_law (wsV RL 113 RX11 yX11_stones wsX11_stones) := goodIn_app (goodIn_of _ (by decide +kernel)) ggL_law_X11_stones
set_option maxRecDepth 20000 in
theorem ggL_law_X12_stones : GoodIn wsL_law wsX12_stones := goodIn_r _ [864, 388, 470, 156, 152, 960, 961, 962, 963, 964, 965, 966, 967, 968, 969, 970, 971, 972, 973, 974, 975, 976, 977, 978, 979, 980, 981, 982, 983, 984, 985, 986, 987, 988, 989, 990, 991, 992, 993, 994] (by decide +kernel) (by decide +kernel)
set_option maxRecDepth 20000 in
theorem gL_law_X12_stones : GoodIn wsL_law (wsV RL 116 RX12 yX12_stones wsX12_stones) := goodIn_app (goodIn_of _ (by decide +kernel)) ggL_law_X12_stones
set_option maxRecDepth 20000 in
theorem ggL_law_X11_made : GoodIn wsL_law wsX11_made := goodIn_r _ [868, 43, 19, 197, 717, 176, 177, 178, 2, 179, 45, 869, 615, 616, 617, 870, 619, 620, 856, 857, 858, 859, 44, 426, 860, 606, 607, 608, 427, 368, 369, 58, 370, 76, 871, 638, 639, 948, 949, 950, 951, 952, 953, 954, 955, 956, 957, 958, 959, 997, 998, 999, 1028, 1029, 1030, 1031, 1032, 1033, 1034, 1035, 1036] (by decide +kernel) (by decide +kernel)
set_option maxRecDepth 20000 in
theorem gL_law_X11_made : GoodIn wsL_law (wsV RL 117 RX11 yX11_made wsX11_made) := goodIn_app (goodIn_of _ (by decide +kernel)) ggL_law_X11_made
set_option maxRecDepth 20000 in
theorem ggL_law_X12_made : GoodIn wsL_law wsX12_made := goodIn_r _ [875, 388, 166, 152, 189, 190, 191, 5, 192, 148, 648, 649, 650, 651, 652, 653, 654, 655, 960, 961, 962, 963, 964, 965, 966, 967, 968, 969, 970, 971, 972, 973, 974, 975, 976, 977, 978, 979, 980, 981, 982, 983, 984, 985, 986, 987, 988, 989, 990, 991, 992, 993, 994] (by decide +kernel) (by decide +kernel)
set_option maxRecDepth 20000 in
theorem gL_law_X12_made : GoodIn wsL_law (wsV RL 120 RX12 yX12_made wsX12_made) := goodIn_app (goodIn_of _ (by decide +kernel)) ggL_law_X12_made
set_option maxRecDepth 20000 in
theorem ggL_law_X11_towers : GoodIn wsL_law wsX11_towers := goodIn_r _ [879, 19, 197, 717, 880, 881, 43, 882, 176, 177, 178, 2, 179, 45, 547, 548, 549, 562, 563, 564, 58, 565, 459, 460, 461, 462, 72, 73, 463, 464, 465, 367, 368, 369, 370, 76, 948, 949, 950, 951, 952, 953, 954, 955, 956, 957, 958, 959, 997, 998, 999, 1028, 1029, 1030, 1031, 1032, 1033, 1034, 1035, 1036] (by decide +kernel) (by decide +kernel)
set_option maxRecDepth 20000 in
theorem gL_law_X11_towers : GoodIn wsL_law (wsV RL 121 RX11 yX11_towers wsX11_towers) := goodIn_app (goodIn_of _ (by decide +kernel)) ggL_law_X11_towers
set_option maxRecDepth 20000 in
theorem ggL_law_X12_towers : GoodIn wsL_law wsX12_towers := goodIn_r _ [886, 388, 887, 888, 166, 889, 189, 190, 191, 5, 192, 148, 555, 556, 557, 570, 571, 572, 573, 475, 476, 477, 478, 149, 150, 960, 961, 962, 963, 964, 965, 966, 967, 968, 969, 970, 971, 972, 973, 974, 975, 976, 977, 978, 979, 980, 981, 982, 983, 984, 985, 986, 987, 988, 989, 990, 991, 992, 993, 994] (by decide +kernel) (by decide +kernel)
set_option maxRecDepth 20000 in
theorem gL_law_X12_towers : GoodIn wsL_law (wsV RL 124 RX12 yX12_towers wsX12_towers) := goodIn_app (goodIn_of _ (by decide +kernel)) ggL_law_X12_towers
set_option maxRecDepth 20000 in
theorem ggL_law_X11_image : GoodIn wsL_law wsX11_image := goodIn_r _ [893, 20, 19, 21, 197, 717, 894, 895, 896, 18, 897, 59, 63, 67, 898, 344, 345, 58, 346, 72, 347, 348, 349, 350, 73, 74, 75, 76, 77, 78, 79, 80, 899, 900, 901, 62, 902, 85, 903, 86, 904, 905, 906, 66, 907, 91, 908, 92, 93, 948, 949, 950, 951, 952, 953, 954, 955, 956, 957, 958, 959, 997, 998, 999, 1028, 1029, 1030, 1031, 1032, 1033, 1034, 1035, 1036, 1037, 1038, 1039, 1040, 1041] (by decide +kernel) (by decide +kernel)
set_option maxRecDepth 20000 in
theorem gL_law_X11_image : GoodIn wsL_law (wsV RL 125 RX11 yX11_image wsX11_image) := goodIn_app (goodIn_of _ (by decide +kernel)) ggL_law_X11_image
set_option maxRecDepth 20000 in
theorem ggL_law_X12_image : GoodIn wsL_law wsX12_image := goodIn_r _ [912, 913, 388, 914, 915, 916, 5, 917, 918, 919, 389, 470, 823, 149, 150, 151, 152, 153, 154, 155, 156, 157, 158, 920, 921, 922, 923, 159, 924, 925, 926, 927, 960, 961, 962, 963, 964, 965, 966, 967, 968, 969, 970, 971, 972, 973, 974, 975, 976, 977, 978, 979, 980, 981, 982, 983, 984, 985, 986, 987, 988, 989, 990, 991, 992, 993, 994] (by decide +kernel) (by decide +kernel)
set_option maxRecDepth 20000 in
theorem gL_law_X12_image : GoodIn wsL_law (wsV RL 128 RX12 yX12_image wsX12_image) := goodIn_app (goodIn_of _ (by decide +kernel)) ggL_law_X12_image
set_option maxRecDepth 20000 in
theorem ggL_law_X11_on : GoodIn wsL_law wsX11_on := goodIn_r _ [931, 21, 19, 20, 197, 717, 176, 177, 178, 2, 179, 45, 894, 895, 896, 18, 897, 59, 63, 67, 898, 344, 345, 58, 346, 72, 347, 348, 349, 350, 73, 74, 75, 76, 77, 78, 79, 80, 899, 900, 901, 62, 902, 85, 903, 86, 904, 905, 906, 66, 907, 91, 908, 92, 93, 371, 372, 373, 374, 27, 375, 33, 376, 37, 377, 948, 949, 950, 951, 952, 953, 954, 955, 956, 957, 958, 959, 997, 998, 999, 1028, 1029, 1030, 1031, 1032, 1033, 1034, 1035, 1036, 1037, 1038, 1039, 1040, 1041, 1006, 1007, 1008, 1009, 1010, 1011, 1012, 1013, 1014, 1015, 1016, 1017, 1018, 1019, 1020, 1021, 1022, 1023, 1024, 1025] (by decide +kernel) (by decide +kernel)
set_option maxRecDepth 20000 in
theorem gL_law_X11_on : GoodIn wsL_law (wsV RL 129 RX11 yX11_on wsX11_on) := goodIn_app (goodIn_of _ (by decide +kernel)) ggL_law_X11_on
set_option maxRecDepth 20000 in
theorem ggL_law_X12_on : GoodIn wsL_law wsX12_on := goodIn_r _ [935, 913, 388, 189, 190, 191, 5, 192, 148, 914, 915, 916, 917, 918, 919, 389, 470, 823, 149, 150, 151, 152, 153, 154, 155, 156, 157, 158, 920, 921, 922, 923, 159, 924, 925, 926, 927, 960, 961, 962, 963, 964, 965, 966, 967, 968, 969, 970, 971, 972, 973, 974, 975, 976, 977, 978, 979, 980, 981, 982, 983, 984, 985, 986, 987, 988, 989, 990, 991, 992, 993, 994] (by decide +kernel) (by decide +kernel)
set_option maxRecDepth 20000 in
theorem gL_law_X12_on : GoodIn wsL_law (wsV RL 132 RX12 yX12_on wsX12_on) := goodIn_app (goodIn_of _ (by decide +kernel)) ggL_law_X12_on
