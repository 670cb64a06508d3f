set_option maxRecDepth 20000 in
theorem ggL_law_X11_put : GoodIn wsL_law wsX11_put := goodIn_r _ [498, 19, 443, 445, 37, 377, 499, 500, 501, 62, 502, 86, 483, 484, 485, 2, 486, 197, 427, 368, 369, 58, 370, 76, 176, 177, 178, 179, 45, 503, 504, 505, 506, 85, 948, 949, 950, 951, 952, 953, 954, 955, 956, 957, 958, 959, 997, 998, 999, 1037, 1038, 1017, 1018, 1019, 1020, 1021, 1022, 1023, 1024, 1025, 1028, 1029, 1030, 1031, 1032, 1033, 1034, 1035, 1036] (by decide +kernel) (by decide +kernel)
set_option maxRecDepth 20000 in
theorem gL_law_X11_put : GoodIn wsL_law (wsV RL 36 RX11 yX11_put wsX11_put) := goodIn_app (goodIn_of _ (by decide +kernel)) ggL_law_X11_put
set_option maxRecDepth 20000 in
theorem ggL_law_X12_put : GoodIn wsL_law wsX12_put := goodIn_r _ [510, 388, 156, 511, 512, 513, 5, 514, 470, 189, 190, 191, 192, 148, 515, 516, 517, 960, 961, 962, 963, 964, 965, 966, 967, 968, 969, 970, 971, 972, 973, 974, 975, 976, 977, 978, 979, 980, 981, 982, 983, 984, 985, 986, 987, 988, 989, 990, 991, 992, 993, 994] (by decide +kernel) (by decide +kernel)
set_option maxRecDepth 20000 in
theorem gL_law_X12_put : GoodIn wsL_law (wsV RL 39 RX12 yX12_put wsX12_put) := goodIn_app (goodIn_of _ (by decide +kernel)) ggL_law_X12_put
set_option maxRecDepth 20000 in
theorem ggL_law_X11_turn : GoodIn wsL_law wsX11_turn := goodIn_r _ [521, 19, 443, 444, 43, 445, 522, 348, 349, 350, 37, 377, 176, 177, 178, 2, 179, 45, 948, 949, 950, 951, 952, 953, 954, 955, 956, 957, 958, 959, 997, 998, 999, 1037, 1038, 1017, 1018, 1019, 1020, 1021, 1022, 1023, 1024, 1025] (by decide +kernel) (by decide +kernel)
set_option maxRecDepth 20000 in
theorem gL_law_X11_turn : GoodIn wsL_law (wsV RL 40 RX11 yX11_turn wsX11_turn) := goodIn_app (goodIn_of _ (by decide +kernel)) ggL_law_X11_turn
set_option maxRecDepth 20000 in
theorem ggL_law_X12_turn : GoodIn wsL_law wsX12_turn := goodIn_r _ [526, 470, 165, 156, 189, 190, 191, 5, 192, 148, 960, 961, 962, 963, 964, 965, 966, 967, 968, 969, 970, 971, 972, 973, 974, 975, 976, 977, 978, 979, 980, 981, 982, 983, 984, 985, 986, 987, 988, 989, 990, 991, 992, 993, 994] (by decide +kernel) (by decide +kernel)
set_option maxRecDepth 20000 in
theorem gL_law_X12_turn : GoodIn wsL_law (wsV RL 43 RX12 yX12_turn wsX12_turn) := goodIn_app (goodIn_of _ (by decide +kernel)) ggL_law_X12_turn
set_option maxRecDepth 20000 in
theorem ggL_law_X11_bare : GoodIn wsL_law wsX11_bare := goodIn_r _ [530, 19, 443, 444, 37, 377, 948, 949, 950, 951, 952, 953, 954, 955, 956, 957, 958, 959, 997, 998, 999, 1037, 1038, 1017, 1018, 1019, 1020, 1021, 1022, 1023, 1024, 1025] (by decide +kernel) (by decide +kernel)
set_option maxRecDepth 20000 in
theorem gL_law_X11_bare : GoodIn wsL_law (wsV RL 44 RX11 yX11_bare wsX11_bare) := goodIn_app (goodIn_of _ (by decide +kernel)) ggL_law_X11_bare
set_option maxRecDepth 20000 in
theorem ggL_law_X12_bare : GoodIn wsL_law wsX12_bare := goodIn_r _ [534, 470, 960, 961, 962, 963, 964, 965, 966, 967, 968, 969, 970, 971, 972, 973, 974, 975, 976, 977, 978, 979, 980, 981, 982, 983, 984, 985, 986, 987, 988, 989, 990, 991, 992, 993, 994] (by decide +kernel) (by decide +kernel)
set_option maxRecDepth 20000 in
theorem gL_law_X12_bare : GoodIn wsL_law (wsV RL 47 RX12 yX12_bare wsX12_bare) := goodIn_app (goodIn_of _ (by decide +kernel)) ggL_law_X12_bare
set_option maxRecDepth 20000 in
theorem ggL_law_X11_at : GoodIn wsL_law wsX11_at := goodIn_r _ [538, 19, 443, 499, 500, 501, 62, 502, 86, 503, 504, 505, 506, 85, 176, 177, 178, 2, 179, 45, 948, 949, 950, 951, 952, 953, 954, 955, 956, 957, 958, 959, 997, 998, 999, 1037, 1038] (by decide +kernel) (by decide +kernel)
set_option maxRecDepth 20000 in
theorem gL_law_X11_at : GoodIn wsL_law (wsV RL 48 RX11 yX11_at wsX11_at) := goodIn_app (goodIn_of _ (by decide +kernel)) ggL_law_X11_at
set_option maxRecDepth 20000 in
theorem ggL_law_X12_at : GoodIn wsL_law wsX12_at := goodIn_r _ [542, 156, 511, 512, 513, 5, 514, 470, 189, 190, 191, 192, 148, 515, 516, 517, 960, 961, 962, 963, 964, 965, 966, 967, 968, 969, 970, 971, 972, 973, 974, 975, 976, 977, 978, 979, 980, 981, 982, 983, 984, 985, 986, 987, 988, 989, 990, 991, 992, 993, 994] (by decide +kernel) (by decide +kernel)
set_option maxRecDepth 20000 in
theorem gL_law_X12_at : GoodIn wsL_law (wsV RL 51 RX12 yX12_at wsX12_at) := goodIn_app (goodIn_of _ (by decide +kernel)) ggL_law_X12_at
set_option maxRecDepth 20000 in
theorem ggL_law_X11_reads : GoodIn wsL_law wsX11_reads := goodIn_r _ [546, 19, 443, 197, 445, 444, 499, 500, 501, 62, 502, 86, 176, 177, 178, 2, 179, 45, 547, 548, 549, 550, 460, 461, 58, 462, 72, 73, 463, 464, 465, 367, 368, 369, 370, 76, 948, 949, 950, 951, 952, 953, 954, 955, 956, 957, 958, 959, 997, 998, 999, 1037, 1038, 1028, 1029, 1030, 1031, 1032, 1033, 1034, 1035, 1036] (by decide +kernel) (by decide +kernel)
set_option maxRecDepth 20000 in
theorem gL_law_X11_reads : GoodIn wsL_law (wsV RL 52 RX11 yX11_reads wsX11_reads) := goodIn_app (goodIn_of _ (by decide +kernel)) ggL_law_X11_reads
set_option maxRecDepth 20000 in
theorem ggL_law_X12_reads_ : GoodIn wsL_law wsX12_reads_ := goodIn_r _ [554, 156, 470, 511, 512, 513, 5, 514, 189, 190, 191, 192, 148, 555, 556, 557, 475, 476, 477, 478, 149, 150, 960, 961, 962, 963, 964, 965, 966, 967, 968, 969, 970, 971, 972, 973, 974, 975, 976, 977, 978, 979, 980, 981, 982, 983, 984, 985, 986, 987, 988, 989, 990, 991, 992, 993, 994] (by decide +kernel) (by decide +kernel)
set_option maxRecDepth 20000 in
theorem gL_law_X12_reads_ : GoodIn wsL_law (wsV RL 55 RX12 yX12_reads_ wsX12_reads_) := goodIn_app (goodIn_of _ (by decide +kernel)) ggL_law_X12_reads_
set_option maxRecDepth 20000 in
theorem ggL_law_X11_same : GoodIn wsL_law wsX11_same := goodIn_r _ [561, 19, 197, 443, 445, 444, 547, 548, 2, 549, 176, 177, 178, 179, 45, 562, 563, 564, 58, 565, 459, 460, 461, 462, 72, 73, 463, 464, 465, 367, 368, 369, 370, 76, 948, 949, 950, 951, 952, 953, 954, 955, 956, 957, 958, 959, 997, 998, 999, 1037, 1038, 1028, 1029, 1030, 1031, 1032, 1033, 1034, 1035, 1036] (by decide +kernel) (by decide +kernel)
set_option maxRecDepth 20000 in
theorem gL_law_X11_same : GoodIn wsL_law (wsV RL 56 RX11 yX11_same wsX11_same) := goodIn_app (goodIn_of _ (by decide +kernel)) ggL_law_X11_same
set_option maxRecDepth 20000 in
theorem ggL_law_X12_same : GoodIn wsL_law wsX12_same := goodIn_r _ [569, 156, 470, 555, 556, 5, 557, 189, 190, 191, 192, 148, 570, 571, 572, 573, 475, 476, 477, 478, 149, 150, 960, 961, 962, 963, 964, 965, 966, 967, 968, 969, 970, 971, 972, 973, 974, 975, 976, 977, 978, 979, 980, 981, 982, 983, 984, 985, 986, 987, 988, 989, 990, 991, 992, 993, 994] (by decide +kernel) (by decide +kernel)
set_option maxRecDepth 20000 in
theorem gL_law_X12_same : GoodIn wsL_law (wsV RL 59 RX12 yX12_same wsX12_same) := goodIn_app (goodIn_of _ (by decide +kernel)) ggL_law_X12_same
