set_option maxRecDepth 20000 in
theorem ggL_law_X11_init : GoodIn wsL_law wsX11_init := goodIn_r _ [8, 9, 10, 11, 12, 13, 14, 15, 16, 17, 18, 19, 20, 21, 22, 23, 24, 25, 26, 27, 28, 29, 30, 31, 32, 33, 34, 35, 36, 37, 38, 39, 40, 41, 42, 43, 44, 45, 46, 47, 48, 49, 50, 51, 52, 53, 54, 55, 56, 57, 58, 59, 60, 61, 62, 63, 64, 65, 66, 67, 68, 69, 70, 71, 72, 73, 74, 75, 76, 77, 78, 79, 80, 81, 82, 83, 84, 85, 86, 87, 88, 89, 90, 91, 92, 93, 94, 95, 96, 97, 98, 99, 100, 101, 102, 103, 104, 105, 106, 107, 108, 109, 110, 111, 112, 113, 114, 115, 116, 117, 118, 119, 120, 121, 122, 123, 124, 125, 126, 127, 128, 129, 130, 131, 132, 133, 134, 135, 136, 137, 138, 139, 140, 141, 142, 143, 995, 996, 948, 949, 950, 951, 952, 953, 954, 955, 956, 957, 958, 959, 997, 998, 999, 1000, 1001, 1002, 1003, 1004, 1005, 1006, 1007, 1008, 1009, 1010, 1011, 1012, 1013, 1014, 1015, 1016, 1017, 1018, 1019, 1020, 1021, 1022, 1023, 1024, 1025, 1026, 1027, 1028, 1029, 1030, 1031, 1032, 1033, 1034, 1035, 1036, 1037, 1038, 1039, 1040, 1041] (by decide +kernel) (by decide +kernel)
set_option maxRecDepth 20000 in
theorem gL_law_X11_init : GoodIn wsL_law (wsX11_init) := ggL_law_X11_init
set_option maxRecDepth 20000 in
theorem ggL_law_X12_init : GoodIn wsL_law wsX12_init := goodIn_r _ [146, 147, 10, 11, 42, 148, 149, 150, 151, 152, 153, 154, 155, 156, 157, 158, 159, 160, 161, 162, 163, 164, 165, 166, 167, 168, 169, 170, 960, 961, 962, 963, 964, 965, 966, 967, 968, 969, 970, 971, 972, 973, 974, 975, 976, 977, 978, 979, 980, 981, 982, 983, 984, 985, 986, 987, 988, 989, 990, 991, 992, 993, 994] (by decide +kernel) (by decide +kernel)
set_option maxRecDepth 20000 in
theorem gL_law_X12_init : GoodIn wsL_law (wsX12_init) := ggL_law_X12_init
set_option maxRecDepth 20000 in
theorem ggL_law_X11_letter : GoodIn wsL_law wsX11_letter := goodIn_r _ [174, 15, 175, 176, 177, 178, 2, 179, 45, 180, 181, 182, 14, 183, 51, 50, 948, 949, 950, 951, 952, 953, 954, 955, 956, 957, 958, 959, 995, 996] (by decide +kernel) (by decide +kernel)
set_option maxRecDepth 20000 in
theorem gL_law_X11_letter : GoodIn wsL_law (wsV RL 13 RX11 yX11_letter wsX11_letter) := goodIn_app (goodIn_of _ (by decide +kernel)) ggL_law_X11_letter
set_option maxRecDepth 20000 in
theorem ggL_law_X12_letter : GoodIn wsL_law wsX12_letter := goodIn_r _ [187, 188, 160, 189, 190, 191, 5, 192, 148, 960, 961, 962, 963, 964, 965, 966, 967, 968, 969, 970, 971, 972, 973, 974, 975, 976, 977, 978, 979, 980, 981, 982, 983, 984, 985, 986, 987, 988, 989, 990, 991, 992, 993, 994] (by decide +kernel) (by decide +kernel)
set_option maxRecDepth 20000 in
theorem gL_law_X12_letter : GoodIn wsL_law (wsV RL 17 RX12 yX12_letter wsX12_letter) := goodIn_app (goodIn_of _ (by decide +kernel)) ggL_law_X12_letter
set_option maxRecDepth 20000 in
theorem ggL_law_X11_tongue : GoodIn wsL_law wsX11_tongue := goodIn_r _ [196, 25, 15, 19, 197, 175, 198, 199, 200, 24, 201, 104, 99, 202, 203, 204, 205, 206, 207, 208, 209, 210, 103, 101, 211, 212, 213, 14, 214, 51, 50, 215, 216, 217, 218, 219, 220, 221, 222, 223, 224, 225, 226, 227, 228, 229, 230, 231, 232, 233, 234, 235, 236, 237, 238, 239, 240, 241, 242, 243, 244, 245, 246, 247, 248, 249, 250, 251, 252, 253, 254, 255, 256, 257, 258, 259, 260, 261, 262, 263, 264, 265, 266, 267, 268, 269, 270, 271, 272, 273, 274, 102, 275, 276, 277, 278, 100, 279, 280, 281, 282, 283, 284, 285, 286, 287, 288, 289, 290, 291, 292, 293, 294, 295, 296, 297, 298, 299, 300, 301, 302, 303, 304, 305, 306, 307, 308, 309, 310, 311, 312, 313, 314, 315, 316, 317, 318, 319, 320, 321, 322, 323, 324, 325, 326, 327, 328, 329, 330, 331, 332, 333, 334, 335, 336, 337, 338, 339, 340, 341, 342, 343, 344, 345, 58, 346, 72, 347, 348, 349, 350, 73, 74, 75, 76, 77, 78, 79, 80, 351, 352, 353, 354, 355, 356, 357, 358, 359, 360, 361, 362, 363, 364, 365, 366, 367, 368, 369, 370, 371, 372, 373, 2, 374, 27, 375, 33, 376, 37, 377, 948, 949, 950, 951, 952, 953, 954, 955, 956, 957, 958, 959, 997, 998, 999, 995, 996, 1000, 1001, 1002, 1003, 1004, 1005, 1028, 1029, 1030, 1031, 1032, 1033, 1034, 1035, 1036, 1006, 1007, 1008, 1009, 1010, 1011, 1012, 1013, 1014, 1015, 1016, 1017, 1018, 1019, 1020, 1021, 1022, 1023, 1024, 1025] (by decide +kernel) (by decide +kernel)
set_option maxRecDepth 20000 in
theorem gL_law_X11_tongue : GoodIn wsL_law (wsV RL 18 RX11 yX11_tongue wsX11_tongue) := goodIn_app (goodIn_of _ (by decide +kernel)) ggL_law_X11_tongue
set_option maxRecDepth 20000 in
theorem ggL_law_X12_tongue : GoodIn wsL_law wsX12_tongue := goodIn_r _ [381, 188, 382, 383, 384, 5, 385, 386, 387, 388, 389, 390, 391, 392, 393, 394, 162, 164, 163, 395, 396, 397, 398, 399, 400, 401, 402, 160, 403, 404, 405, 406, 407, 408, 409, 410, 411, 412, 413, 414, 415, 416, 417, 418, 149, 150, 151, 152, 153, 154, 155, 960, 961, 962, 963, 964, 965, 966, 967, 968, 969, 970, 971, 972, 973, 974, 975, 976, 977, 978, 979, 980, 981, 982, 983, 984, 985, 986, 987, 988, 989, 990, 991, 992, 993, 994] (by decide +kernel) (by decide +kernel)
set_option maxRecDepth 20000 in
theorem gL_law_X12_tongue : GoodIn wsL_law (wsV RL 22 RX12 yX12_tongue wsX12_tongue) := goodIn_app (goodIn_of _ (by decide +kernel)) ggL_law_X12_tongue
set_option maxRecDepth 20000 in
theorem ggL_law_X11_word : GoodIn wsL_law wsX11_word := goodIn_r _ [422, 19, 197, 423, 424, 425, 426, 427, 368, 369, 58, 370, 76, 176, 177, 178, 2, 179, 45, 948, 949, 950, 951, 952, 953, 954, 955, 956, 957, 958, 959, 997, 998, 999, 1028, 1029, 1030, 1031, 1032, 1033, 1034, 1035, 1036] (by decide +kernel) (by decide +kernel)
set_option maxRecDepth 20000 in
theorem gL_law_X11_word : GoodIn wsL_law (wsV RL 23 RX11 yX11_word wsX11_word) := goodIn_app (goodIn_of _ (by decide +kernel)) ggL_law_X11_word
set_option maxRecDepth 20000 in
theorem ggL_law_X12_word : GoodIn wsL_law wsX12_word := goodIn_r _ [431, 149, 150, 151, 152, 432, 433, 434, 5, 435, 388, 189, 190, 191, 192, 148, 960, 961, 962, 963, 964, 965, 966, 967, 968, 969, 970, 971, 972, 973, 974, 975, 976, 977, 978, 979, 980, 981, 982, 983, 984, 985, 986, 987, 988, 989, 990, 991, 992, 993, 994] (by decide +kernel) (by decide +kernel)
set_option maxRecDepth 20000 in
theorem gL_law_X12_word : GoodIn wsL_law (wsV RL 27 RX12 yX12_word wsX12_word) := goodIn_app (goodIn_of _ (by decide +kernel)) ggL_law_X12_word
set_option maxRecDepth 20000 in
theorem ggL_law_X11_road : GoodIn wsL_law wsX11_road := goodIn_r _ [439, 19, 197, 440, 441, 442, 443, 444, 445, 446, 447, 448, 58, 449, 80, 176, 177, 178, 2, 179, 45, 450, 451, 452, 453, 78, 454, 455, 456, 457, 77, 458, 459, 460, 461, 462, 72, 73, 463, 464, 465, 367, 368, 369, 370, 76, 948, 949, 950, 951, 952, 953, 954, 955, 956, 957, 958, 959, 997, 998, 999, 1028, 1029, 1030, 1031, 1032, 1033, 1034, 1035, 1036, 1037, 1038] (by decide +kernel) (by decide +kernel)
set_option maxRecDepth 20000 in
theorem gL_law_X11_road : GoodIn wsL_law (wsV RL 28 RX11 yX11_road wsX11_road) := goodIn_app (goodIn_of _ (by decide +kernel)) ggL_law_X11_road
set_option maxRecDepth 20000 in
theorem ggL_law_X12_road : GoodIn wsL_law wsX12_road := goodIn_r _ [469, 389, 153, 154, 155, 470, 156, 189, 190, 191, 5, 192, 148, 471, 472, 473, 474, 475, 476, 477, 478, 149, 150, 960, 961, 962, 963, 964, 965, 966, 967, 968, 969, 970, 971, 972, 973, 974, 975, 976, 977, 978, 979, 980, 981, 982, 983, 984, 985, 986, 987, 988, 989, 990, 991, 992, 993, 994] (by decide +kernel) (by decide +kernel)
set_option maxRecDepth 20000 in
theorem gL_law_X12_road : GoodIn wsL_law (wsV RL 31 RX12 yX12_road wsX12_road) := goodIn_app (goodIn_of _ (by decide +kernel)) ggL_law_X12_road
set_option maxRecDepth 20000 in
theorem ggL_law_X11_stone : GoodIn wsL_law wsX11_stone := goodIn_r _ [482, 19, 443, 444, 37, 377, 483, 484, 485, 2, 486, 197, 427, 368, 369, 58, 370, 76, 176, 177, 178, 179, 45, 487, 488, 489, 62, 490, 86, 85, 948, 949, 950, 951, 952, 953, 954, 955, 956, 957, 958, 959, 997, 998, 999, 1037, 1038, 1017, 1018, 1019, 1020, 1021, 1022, 1023, 1024, 1025, 1028, 1029, 1030, 1031, 1032, 1033, 1034, 1035, 1036] (by decide +kernel) (by decide +kernel)
set_option maxRecDepth 20000 in
theorem gL_law_X11_stone : GoodIn wsL_law (wsV RL 32 RX11 yX11_stone wsX11_stone) := goodIn_app (goodIn_of _ (by decide +kernel)) ggL_law_X11_stone
set_option maxRecDepth 20000 in
theorem ggL_law_X12_stone : GoodIn wsL_law wsX12_stone := goodIn_r _ [494, 388, 470, 156, 189, 190, 191, 5, 192, 148, 960, 961, 962, 963, 964, 965, 966, 967, 968, 969, 970, 971, 972, 973, 974, 975, 976, 977, 978, 979, 980, 981, 982, 983, 984, 985, 986, 987, 988, 989, 990, 991, 992, 993, 994] (by decide +kernel) (by decide +kernel)
set_option maxRecDepth 20000 in
theorem gL_law_X12_stone : GoodIn wsL_law (wsV RL 35 RX12 yX12_stone wsX12_stone) := goodIn_app (goodIn_of _ (by decide +kernel)) ggL_law_X12_stone
