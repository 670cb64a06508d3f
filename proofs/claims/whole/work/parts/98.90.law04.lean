set_option maxRecDepth 20000 in
theorem ggL_law_X11_says : GoodIn wsL_law wsX11_says := goodIn_r _ [577, 19, 443, 444, 197, 445, 547, 548, 2, 549, 176, 177, 178, 179, 45, 550, 460, 461, 58, 462, 72, 73, 463, 464, 465, 367, 368, 369, 370, 76, 948, 949, 950, 951, 952, 953, 954, 955, 956, 957, 958, 959, 997, 998, 999, 1037, 1038, 1028, 1029, 1030, 1031, 1032, 1033, 1034, 1035, 1036] (by decide +kernel) (by decide +kernel)
set_option maxRecDepth 20000 in
theorem gL_law_X11_says : GoodIn wsL_law (wsV RL 60 RX11 yX11_says wsX11_says) := goodIn_app (goodIn_of _ (by decide +kernel)) ggL_law_X11_says
set_option maxRecDepth 20000 in
theorem ggL_law_X12_says : GoodIn wsL_law wsX12_says := goodIn_r _ [581, 470, 156, 555, 556, 5, 557, 189, 190, 191, 192, 148, 475, 476, 477, 478, 149, 150, 960, 961, 962, 963, 964, 965, 966, 967, 968, 969, 970, 971, 972, 973, 974, 975, 976, 977, 978, 979, 980, 981, 982, 983, 984, 985, 986, 987, 988, 989, 990, 991, 992, 993, 994] (by decide +kernel) (by decide +kernel)
set_option maxRecDepth 20000 in
theorem gL_law_X12_says : GoodIn wsL_law (wsV RL 63 RX12 yX12_says wsX12_says) := goodIn_app (goodIn_of _ (by decide +kernel)) ggL_law_X12_says
set_option maxRecDepth 20000 in
theorem ggL_law_X11_judge : GoodIn wsL_law wsX11_judge := goodIn_r _ [585, 19, 443, 444, 197, 445, 176, 177, 178, 2, 179, 45, 586, 587, 588, 58, 589, 80, 79, 590, 455, 456, 457, 77, 458, 451, 452, 453, 78, 459, 460, 461, 462, 72, 73, 463, 464, 465, 367, 368, 369, 370, 76, 948, 949, 950, 951, 952, 953, 954, 955, 956, 957, 958, 959, 997, 998, 999, 1037, 1038, 1028, 1029, 1030, 1031, 1032, 1033, 1034, 1035, 1036] (by decide +kernel) (by decide +kernel)
set_option maxRecDepth 20000 in
theorem gL_law_X11_judge : GoodIn wsL_law (wsV RL 64 RX11 yX11_judge wsX11_judge) := goodIn_app (goodIn_of _ (by decide +kernel)) ggL_law_X11_judge
set_option maxRecDepth 20000 in
theorem ggL_law_X12_judge : GoodIn wsL_law wsX12_judge := goodIn_r _ [594, 470, 389, 156, 155, 189, 190, 191, 5, 192, 148, 471, 472, 473, 474, 154, 153, 475, 476, 477, 478, 149, 150, 960, 961, 962, 963, 964, 965, 966, 967, 968, 969, 970, 971, 972, 973, 974, 975, 976, 977, 978, 979, 980, 981, 982, 983, 984, 985, 986, 987, 988, 989, 990, 991, 992, 993, 994] (by decide +kernel) (by decide +kernel)
set_option maxRecDepth 20000 in
theorem gL_law_X12_judge : GoodIn wsL_law (wsV RL 67 RX12 yX12_judge wsX12_judge) := goodIn_app (goodIn_of _ (by decide +kernel)) ggL_law_X12_judge
set_option maxRecDepth 20000 in
theorem ggL_law_X11_shortest : GoodIn wsL_law wsX11_shortest := goodIn_r _ [598, 27, 19, 197, 599, 600, 176, 177, 178, 2, 179, 45, 547, 548, 549, 601, 602, 603, 29, 604, 111, 112, 114, 116, 115, 605, 606, 607, 608, 609, 610, 611, 612, 117, 613, 110, 614, 615, 616, 617, 618, 619, 620, 621, 622, 623, 624, 625, 626, 627, 563, 564, 58, 565, 459, 460, 461, 462, 72, 73, 463, 464, 465, 367, 368, 369, 370, 76, 628, 629, 630, 631, 113, 632, 348, 349, 350, 633, 634, 635, 636, 637, 638, 639, 948, 949, 950, 951, 952, 953, 954, 955, 956, 957, 958, 959, 997, 998, 999, 1006, 1007, 1008, 1009, 1010, 1011, 1012, 1013, 1028, 1029, 1030, 1031, 1032, 1033, 1034, 1035, 1036] (by decide +kernel) (by decide +kernel)
set_option maxRecDepth 20000 in
theorem gL_law_X11_shortest : GoodIn wsL_law (wsV RL 68 RX11 yX11_shortest wsX11_shortest) := goodIn_app (goodIn_of _ (by decide +kernel)) ggL_law_X11_shortest
set_option maxRecDepth 20000 in
theorem ggL_law_X12_shortest : GoodIn wsL_law wsX12_shortest := goodIn_r _ [643, 166, 189, 190, 191, 5, 192, 148, 555, 556, 557, 644, 645, 646, 647, 388, 648, 649, 650, 651, 570, 571, 572, 573, 475, 476, 477, 478, 149, 150, 652, 653, 654, 655, 960, 961, 962, 963, 964, 965, 966, 967, 968, 969, 970, 971, 972, 973, 974, 975, 976, 977, 978, 979, 980, 981, 982, 983, 984, 985, 986, 987, 988, 989, 990, 991, 992, 993, 994] (by decide +kernel) (by decide +kernel)
set_option maxRecDepth 20000 in
theorem gL_law_X12_shortest : GoodIn wsL_law (wsV RL 72 RX12 yX12_shortest wsX12_shortest) := goodIn_app (goodIn_of _ (by decide +kernel)) ggL_law_X12_shortest
set_option maxRecDepth 20000 in
theorem ggL_law_X11_each : GoodIn wsL_law wsX11_each := goodIn_r _ [659, 33, 19, 197, 660, 661, 176, 177, 178, 2, 179, 45, 662, 663, 664, 32, 665, 122, 123, 666, 667, 668, 669, 124, 670, 671, 615, 616, 617, 672, 619, 620, 673, 587, 588, 58, 589, 80, 79, 590, 455, 456, 457, 77, 458, 451, 452, 453, 78, 459, 460, 461, 462, 72, 73, 463, 464, 465, 367, 368, 369, 370, 76, 674, 638, 639, 948, 949, 950, 951, 952, 953, 954, 955, 956, 957, 958, 959, 997, 998, 999, 1014, 1015, 1016, 1028, 1029, 1030, 1031, 1032, 1033, 1034, 1035, 1036] (by decide +kernel) (by decide +kernel)
set_option maxRecDepth 20000 in
theorem gL_law_X11_each : GoodIn wsL_law (wsV RL 73 RX11 yX11_each wsX11_each) := goodIn_app (goodIn_of _ (by decide +kernel)) ggL_law_X11_each
set_option maxRecDepth 20000 in
theorem ggL_law_X12_each : GoodIn wsL_law wsX12_each := goodIn_r _ [678, 166, 189, 190, 191, 5, 192, 148, 679, 680, 681, 682, 388, 648, 649, 650, 651, 683, 684, 685, 686, 389, 155, 471, 472, 473, 474, 154, 153, 475, 476, 477, 478, 149, 150, 652, 653, 654, 655, 960, 961, 962, 963, 964, 965, 966, 967, 968, 969, 970, 971, 972, 973, 974, 975, 976, 977, 978, 979, 980, 981, 982, 983, 984, 985, 986, 987, 988, 989, 990, 991, 992, 993, 994] (by decide +kernel) (by decide +kernel)
set_option maxRecDepth 20000 in
theorem gL_law_X12_each : GoodIn wsL_law (wsV RL 76 RX12 yX12_each wsX12_each) := goodIn_app (goodIn_of _ (by decide +kernel)) ggL_law_X12_each
set_option maxRecDepth 20000 in
theorem ggL_law_X11_rings : GoodIn wsL_law wsX11_rings := goodIn_r _ [690, 27, 19, 197, 691, 176, 177, 178, 2, 179, 45, 547, 548, 549, 601, 602, 603, 29, 604, 111, 112, 114, 116, 115, 605, 606, 607, 608, 609, 610, 611, 612, 117, 613, 110, 614, 615, 616, 617, 618, 619, 620, 621, 622, 623, 624, 625, 626, 627, 563, 564, 58, 565, 459, 460, 461, 462, 72, 73, 463, 464, 465, 367, 368, 369, 370, 76, 628, 629, 630, 631, 113, 632, 348, 349, 350, 633, 634, 635, 636, 637, 638, 639, 948, 949, 950, 951, 952, 953, 954, 955, 956, 957, 958, 959, 997, 998, 999, 1006, 1007, 1008, 1009, 1010, 1011, 1012, 1013, 1028, 1029, 1030, 1031, 1032, 1033, 1034, 1035, 1036] (by decide +kernel) (by decide +kernel)
set_option maxRecDepth 20000 in
theorem gL_law_X11_rings : GoodIn wsL_law (wsV RL 77 RX11 yX11_rings wsX11_rings) := goodIn_app (goodIn_of _ (by decide +kernel)) ggL_law_X11_rings
set_option maxRecDepth 20000 in
theorem ggL_law_X12_rings : GoodIn wsL_law wsX12_rings := goodIn_r _ [695, 388, 166, 189, 190, 191, 5, 192, 148, 555, 556, 557, 648, 649, 650, 651, 696, 697, 698, 699, 570, 571, 572, 573, 475, 476, 477, 478, 149, 150, 652, 653, 654, 655, 960, 961, 962, 963, 964, 965, 966, 967, 968, 969, 970, 971, 972, 973, 974, 975, 976, 977, 978, 979, 980, 981, 982, 983, 984, 985, 986, 987, 988, 989, 990, 991, 992, 993, 994] (by decide +kernel) (by decide +kernel)
set_option maxRecDepth 20000 in
theorem gL_law_X12_rings : GoodIn wsL_law (wsV RL 80 RX12 yX12_rings wsX12_rings) := goodIn_app (goodIn_of _ (by decide +kernel)) ggL_law_X12_rings
set_option maxRecDepth 20000 in
theorem ggL_law_X11_sayable : GoodIn wsL_law wsX11_sayable := goodIn_r _ [703, 27, 19, 197, 704, 547, 548, 2, 549, 176, 177, 178, 179, 45, 601, 602, 603, 29, 604, 111, 112, 114, 116, 115, 605, 606, 607, 608, 609, 610, 611, 612, 117, 613, 110, 614, 615, 616, 617, 618, 619, 620, 621, 622, 623, 624, 625, 626, 627, 563, 564, 58, 565, 459, 460, 461, 462, 72, 73, 463, 464, 465, 367, 368, 369, 370, 76, 628, 629, 630, 631, 113, 632, 348, 349, 350, 633, 634, 635, 636, 637, 638, 639, 948, 949, 950, 951, 952, 953, 954, 955, 956, 957, 958, 959, 997, 998, 999, 1006, 1007, 1008, 1009, 1010, 1011, 1012, 1013, 1028, 1029, 1030, 1031, 1032, 1033, 1034, 1035, 1036] (by decide +kernel) (by decide +kernel)
set_option maxRecDepth 20000 in
theorem gL_law_X11_sayable : GoodIn wsL_law (wsV RL 81 RX11 yX11_sayable wsX11_sayable) := goodIn_app (goodIn_of _ (by decide +kernel)) ggL_law_X11_sayable
set_option maxRecDepth 20000 in
theorem ggL_law_X12_sayable : GoodIn wsL_law wsX12_sayable := goodIn_r _ [708, 555, 556, 5, 557, 189, 190, 191, 192, 148, 709, 710, 711, 712, 388, 166, 648, 649, 650, 651, 570, 571, 572, 573, 475, 476, 477, 478, 149, 150, 652, 653, 654, 655, 960, 961, 962, 963, 964, 965, 966, 967, 968, 969, 970, 971, 972, 973, 974, 975, 976, 977, 978, 979, 980, 981, 982, 983, 984, 985, 986, 987, 988, 989, 990, 991, 992, 993, 994] (by decide +kernel) (by decide +kernel)
set_option maxRecDepth 20000 in
theorem gL_law_X12_sayable : GoodIn wsL_law (wsV RL 84 RX12 yX12_sayable wsX12_sayable) := goodIn_app (goodIn_of _ (by decide +kernel)) ggL_law_X12_sayable
