set_option maxRecDepth 20000 in
theorem ggL_law_X11_needed : GoodIn wsL_law wsX11_needed := goodIn_r _ [716, 27, 19, 197, 717, 718, 704, 601, 602, 603, 29, 604, 111, 112, 114, 116, 115, 605, 606, 607, 608, 609, 610, 611, 612, 117, 613, 110, 614, 615, 616, 617, 618, 619, 620, 621, 622, 623, 624, 625, 626, 627, 563, 564, 58, 565, 459, 460, 461, 462, 72, 73, 463, 464, 465, 367, 368, 369, 370, 76, 628, 629, 630, 631, 113, 632, 348, 349, 350, 633, 634, 635, 636, 637, 638, 639, 948, 949, 950, 951, 952, 953, 954, 955, 956, 957, 958, 959, 997, 998, 999, 1028, 1029, 1030, 1031, 1032, 1033, 1034, 1035, 1036, 1006, 1007, 1008, 1009, 1010, 1011, 1012, 1013] (by decide +kernel) (by decide +kernel)
set_option maxRecDepth 20000 in
theorem gL_law_X11_needed : GoodIn wsL_law (wsV RL 85 RX11 yX11_needed wsX11_needed) := goodIn_app (goodIn_of _ (by decide +kernel)) ggL_law_X11_needed
set_option maxRecDepth 20000 in
theorem ggL_law_X12_needed : GoodIn wsL_law wsX12_needed := goodIn_r _ [722, 388, 709, 710, 711, 5, 712, 166, 648, 649, 650, 651, 570, 571, 572, 573, 475, 476, 477, 478, 149, 150, 652, 653, 654, 655, 960, 961, 962, 963, 964, 965, 966, 967, 968, 969, 970, 971, 972, 973, 974, 975, 976, 977, 978, 979, 980, 981, 982, 983, 984, 985, 986, 987, 988, 989, 990, 991, 992, 993, 994] (by decide +kernel) (by decide +kernel)
set_option maxRecDepth 20000 in
theorem gL_law_X12_needed : GoodIn wsL_law (wsV RL 88 RX12 yX12_needed wsX12_needed) := goodIn_app (goodIn_of _ (by decide +kernel)) ggL_law_X12_needed
set_option maxRecDepth 20000 in
theorem ggL_law_X11_worn : GoodIn wsL_law wsX11_worn := goodIn_r _ [726, 37, 19, 197, 443, 727, 728, 176, 177, 178, 2, 179, 45, 729, 730, 731, 732, 733, 734, 735, 62, 736, 86, 85, 737, 738, 739, 36, 740, 129, 131, 132, 134, 137, 130, 741, 135, 136, 742, 743, 606, 607, 608, 744, 745, 746, 747, 748, 749, 615, 616, 617, 750, 619, 620, 751, 587, 588, 58, 589, 80, 79, 590, 455, 456, 457, 77, 458, 451, 452, 453, 78, 459, 460, 461, 462, 72, 73, 463, 464, 465, 367, 368, 369, 370, 76, 752, 753, 754, 755, 756, 133, 757, 348, 349, 350, 758, 638, 639, 948, 949, 950, 951, 952, 953, 954, 955, 956, 957, 958, 959, 997, 998, 999, 1017, 1018, 1019, 1020, 1021, 1022, 1023, 1024, 1025, 1037, 1038, 1028, 1029, 1030, 1031, 1032, 1033, 1034, 1035, 1036] (by decide +kernel) (by decide +kernel)
set_option maxRecDepth 20000 in
theorem gL_law_X11_worn : GoodIn wsL_law (wsV RL 89 RX11 yX11_worn wsX11_worn) := goodIn_app (goodIn_of _ (by decide +kernel)) ggL_law_X11_worn
set_option maxRecDepth 20000 in
theorem ggL_law_X12_worn : GoodIn wsL_law wsX12_worn := goodIn_r _ [762, 763, 764, 189, 190, 191, 5, 192, 148, 765, 766, 767, 768, 470, 156, 769, 770, 771, 772, 168, 388, 167, 166, 151, 169, 648, 649, 650, 651, 683, 684, 685, 686, 389, 155, 471, 472, 473, 474, 154, 153, 475, 476, 477, 478, 149, 150, 652, 653, 654, 655, 960, 961, 962, 963, 964, 965, 966, 967, 968, 969, 970, 971, 972, 973, 974, 975, 976, 977, 978, 979, 980, 981, 982, 983, 984, 985, 986, 987, 988, 989, 990, 991, 992, 993, 994] (by decide +kernel) (by decide +kernel)
set_option maxRecDepth 20000 in
theorem gL_law_X12_worn : GoodIn wsL_law (wsV RL 92 RX12 yX12_worn wsX12_worn) := goodIn_app (goodIn_of _ (by decide +kernel)) ggL_law_X12_worn
set_option maxRecDepth 20000 in
theorem ggL_law_X11_likeliest : GoodIn wsL_law wsX11_likeliest := goodIn_r _ [776, 37, 19, 197, 443, 727, 777, 778, 176, 177, 178, 2, 179, 45, 729, 730, 731, 732, 733, 734, 735, 62, 736, 86, 85, 737, 738, 739, 36, 740, 129, 131, 132, 134, 137, 130, 741, 135, 136, 742, 743, 606, 607, 608, 744, 745, 746, 747, 748, 749, 615, 616, 617, 750, 619, 620, 751, 587, 588, 58, 589, 80, 79, 590, 455, 456, 457, 77, 458, 451, 452, 453, 78, 459, 460, 461, 462, 72, 73, 463, 464, 465, 367, 368, 369, 370, 76, 752, 753, 754, 755, 756, 133, 757, 348, 349, 350, 758, 638, 639, 948, 949, 950, 951, 952, 953, 954, 955, 956, 957, 958, 959, 997, 998, 999, 1017, 1018, 1019, 1020, 1021, 1022, 1023, 1024, 1025, 1037, 1038, 1028, 1029, 1030, 1031, 1032, 1033, 1034, 1035, 1036] (by decide +kernel) (by decide +kernel)
set_option maxRecDepth 20000 in
theorem gL_law_X11_likeliest : GoodIn wsL_law (wsV RL 93 RX11 yX11_likeliest wsX11_likeliest) := goodIn_app (goodIn_of _ (by decide +kernel)) ggL_law_X11_likeliest
set_option maxRecDepth 20000 in
theorem ggL_law_X12_likeliest : GoodIn wsL_law wsX12_likeliest := goodIn_r _ [782, 763, 169, 189, 190, 191, 5, 192, 148, 765, 766, 767, 768, 470, 156, 769, 770, 771, 772, 764, 168, 388, 167, 166, 151, 648, 649, 650, 651, 683, 684, 685, 686, 389, 155, 471, 472, 473, 474, 154, 153, 475, 476, 477, 478, 149, 150, 652, 653, 654, 655, 960, 961, 962, 963, 964, 965, 966, 967, 968, 969, 970, 971, 972, 973, 974, 975, 976, 977, 978, 979, 980, 981, 982, 983, 984, 985, 986, 987, 988, 989, 990, 991, 992, 993, 994] (by decide +kernel) (by decide +kernel)
set_option maxRecDepth 20000 in
theorem gL_law_X12_likeliest : GoodIn wsL_law (wsV RL 96 RX12 yX12_likeliest wsX12_likeliest) := goodIn_app (goodIn_of _ (by decide +kernel)) ggL_law_X12_likeliest
set_option maxRecDepth 20000 in
theorem ggL_law_X11_sure : GoodIn wsL_law wsX11_sure := goodIn_r _ [786, 19, 443, 37, 197, 787, 499, 500, 501, 62, 502, 86, 176, 177, 178, 2, 179, 45, 729, 730, 731, 732, 733, 734, 735, 736, 85, 737, 738, 739, 36, 740, 129, 131, 132, 134, 137, 130, 741, 135, 136, 742, 743, 606, 607, 608, 744, 745, 746, 747, 748, 749, 615, 616, 617, 750, 619, 620, 751, 587, 588, 58, 589, 80, 79, 590, 455, 456, 457, 77, 458, 451, 452, 453, 78, 459, 460, 461, 462, 72, 73, 463, 464, 465, 367, 368, 369, 370, 76, 752, 753, 754, 755, 756, 133, 757, 348, 349, 350, 758, 638, 639, 948, 949, 950, 951, 952, 953, 954, 955, 956, 957, 958, 959, 997, 998, 999, 1017, 1018, 1019, 1020, 1021, 1022, 1023, 1024, 1025, 1037, 1038, 1028, 1029, 1030, 1031, 1032, 1033, 1034, 1035, 1036] (by decide +kernel) (by decide +kernel)
set_option maxRecDepth 20000 in
theorem gL_law_X11_sure : GoodIn wsL_law (wsV RL 97 RX11 yX11_sure wsX11_sure) := goodIn_app (goodIn_of _ (by decide +kernel)) ggL_law_X11_sure
set_option maxRecDepth 20000 in
theorem ggL_law_X12_sure : GoodIn wsL_law wsX12_sure := goodIn_r _ [791, 168, 511, 512, 513, 5, 514, 470, 189, 190, 191, 192, 148, 765, 766, 767, 768, 156, 769, 770, 771, 772, 763, 764, 388, 167, 166, 151, 169, 648, 649, 650, 651, 683, 684, 685, 686, 389, 155, 471, 472, 473, 474, 154, 153, 475, 476, 477, 478, 149, 150, 652, 653, 654, 655, 960, 961, 962, 963, 964, 965, 966, 967, 968, 969, 970, 971, 972, 973, 974, 975, 976, 977, 978, 979, 980, 981, 982, 983, 984, 985, 986, 987, 988, 989, 990, 991, 992, 993, 994] (by decide +kernel) (by decide +kernel)
set_option maxRecDepth 20000 in
theorem gL_law_X12_sure : GoodIn wsL_law (wsV RL 100 RX12 yX12_sure wsX12_sure) := goodIn_app (goodIn_of _ (by decide +kernel)) ggL_law_X12_sure
set_option maxRecDepth 20000 in
theorem ggL_law_X11_safe : GoodIn wsL_law wsX11_safe := goodIn_r _ [795, 19, 197, 443, 444, 445, 43, 522, 348, 349, 350, 427, 368, 369, 58, 370, 76, 176, 177, 178, 2, 179, 45, 796, 797, 798, 799, 800, 454, 455, 456, 457, 77, 458, 451, 452, 453, 78, 459, 460, 461, 462, 72, 73, 463, 464, 465, 367, 948, 949, 950, 951, 952, 953, 954, 955, 956, 957, 958, 959, 997, 998, 999, 1037, 1038, 1028, 1029, 1030, 1031, 1032, 1033, 1034, 1035, 1036] (by decide +kernel) (by decide +kernel)
set_option maxRecDepth 20000 in
theorem gL_law_X11_safe : GoodIn wsL_law (wsV RL 101 RX11 yX11_safe wsX11_safe) := goodIn_app (goodIn_of _ (by decide +kernel)) ggL_law_X11_safe
set_option maxRecDepth 20000 in
theorem ggL_law_X12_safe : GoodIn wsL_law wsX12_safe := goodIn_r _ [804, 470, 165, 156, 389, 432, 433, 434, 5, 435, 388, 189, 190, 191, 192, 148, 471, 472, 473, 474, 154, 153, 475, 476, 477, 478, 149, 150, 960, 961, 962, 963, 964, 965, 966, 967, 968, 969, 970, 971, 972, 973, 974, 975, 976, 977, 978, 979, 980, 981, 982, 983, 984, 985, 986, 987, 988, 989, 990, 991, 992, 993, 994] (by decide +kernel) (by decide +kernel)
set_option maxRecDepth 20000 in
theorem gL_law_X12_safe : GoodIn wsL_law (wsV RL 104 RX12 yX12_safe wsX12_safe) := goodIn_app (goodIn_of _ (by decide +kernel)) ggL_law_X12_safe
set_option maxRecDepth 20000 in
theorem ggL_law_X11_pair : GoodIn wsL_law wsX11_pair := goodIn_r _ [808, 19, 197, 809, 810, 427, 368, 369, 58, 370, 76, 176, 177, 178, 2, 179, 45, 811, 812, 813, 66, 814, 93, 91, 92, 815, 816, 817, 818, 948, 949, 950, 951, 952, 953, 954, 955, 956, 957, 958, 959, 997, 998, 999, 1039, 1040, 1041, 1028, 1029, 1030, 1031, 1032, 1033, 1034, 1035, 1036] (by decide +kernel) (by decide +kernel)
set_option maxRecDepth 20000 in
theorem gL_law_X11_pair : GoodIn wsL_law (wsV RL 105 RX11 yX11_pair wsX11_pair) := goodIn_app (goodIn_of _ (by decide +kernel)) ggL_law_X11_pair
set_option maxRecDepth 20000 in
theorem ggL_law_X12_pair : GoodIn wsL_law wsX12_pair := goodIn_r _ [822, 823, 157, 158, 432, 433, 434, 5, 435, 388, 189, 190, 191, 192, 148, 960, 961, 962, 963, 964, 965, 966, 967, 968, 969, 970, 971, 972, 973, 974, 975, 976, 977, 978, 979, 980, 981, 982, 983, 984, 985, 986, 987, 988, 989, 990, 991, 992, 993, 994] (by decide +kernel) (by decide +kernel)
set_option maxRecDepth 20000 in
theorem gL_law_X12_pair : GoodIn wsL_law (wsV RL 108 RX12 yX12_pair wsX12_pair) := goodIn_app (goodIn_of _ (by decide +kernel)) ggL_law_X12_pair
