theorem dX9_init_20 : decode cX9_init 20 = .ok (.invokespecial 18, 3) := by decide +kernel
theorem dX9_init_23 : decode cX9_init 23 = .ok (.putfield 19, 3) := by decide +kernel
theorem dX9_init_26 : decode cX9_init 26 = .ok (.aload_n 0, 1) := by decide +kernel
theorem dX9_init_27 : decode cX9_init 27 = .ok (.new 23, 3) := by decide +kernel
theorem dX9_init_30 : decode cX9_init 30 = .ok (.dup, 1) := by decide +kernel
theorem dX9_init_31 : decode cX9_init 31 = .ok (.invokespecial 25, 3) := by decide +kernel
theorem dX9_init_34 : decode cX9_init 34 = .ok (.putfield 26, 3) := by decide +kernel
theorem dX9_init_37 : decode cX9_init 37 = .ok (.return_, 1) := by decide +kernel
set_option maxRecDepth 20000 in
theorem ggX9_copyFrom_X8_copyFrom : GoodIn wsX9_copyFrom wsX8_copyFrom := goodIn_r _ [8, 9, 10, 11, 12, 13, 14, 15, 16, 17, 18, 19, 20, 21, 42, 43, 44, 45, 46, 47, 48, 49, 50] (by decide +kernel) (by decide +kernel)
set_option maxRecDepth 20000 in
theorem gX9_copyFrom_X8_copyFrom : GoodIn wsX9_copyFrom (wsV RX9 30 RX8 yX8_copyFrom wsX8_copyFrom) := goodIn_app (goodIn_of _ (by decide +kernel)) ggX9_copyFrom_X8_copyFrom
set_option maxRecDepth 20000 in
theorem ggX9_copyFrom_X4_copyFrom : GoodIn wsX9_copyFrom wsX4_copyFrom := goodIn_r _ [26, 27, 28, 11, 12, 13, 29, 51, 52] (by decide +kernel) (by decide +kernel)
set_option maxRecDepth 20000 in
theorem gX9_copyFrom_X4_copyFrom : GoodIn wsX9_copyFrom (wsV RX9 34 RX4 yX4_copyFrom wsX4_copyFrom) := goodIn_app (goodIn_of _ (by decide +kernel)) ggX9_copyFrom_X4_copyFrom
set_option maxRecDepth 20000 in
theorem ggX9_copyFrom_X3_copyFrom : GoodIn wsX9_copyFrom wsX3_copyFrom := goodIn_r _ [34, 35, 36, 11, 12, 13, 37, 38, 53, 54, 55] (by decide +kernel) (by decide +kernel)
set_option maxRecDepth 20000 in
theorem gX9_copyFrom_X3_copyFrom : GoodIn wsX9_copyFrom (wsV RX9 37 RX3 yX3_copyFrom wsX3_copyFrom) := goodIn_app (goodIn_of _ (by decide +kernel)) ggX9_copyFrom_X3_copyFrom
theorem dX9_copyFrom_0 : decode cX9_copyFrom 0 = .ok (.aload_n 0, 1) := by decide +kernel
theorem dX9_copyFrom_1 : decode cX9_copyFrom 1 = .ok (.getfield 10, 3) := by decide +kernel
theorem dX9_copyFrom_4 : decode cX9_copyFrom 4 = .ok (.aload_n 1, 1) := by decide +kernel
theorem dX9_copyFrom_5 : decode cX9_copyFrom 5 = .ok (.getfield 10, 3) := by decide +kernel
theorem dX9_copyFrom_8 : decode cX9_copyFrom 8 = .ok (.invokevirtual 30, 3) := by decide +kernel
theorem dX9_copyFrom_11 : decode cX9_copyFrom 11 = .ok (.aload_n 0, 1) := by decide +kernel
theorem dX9_copyFrom_12 : decode cX9_copyFrom 12 = .ok (.getfield 19, 3) := by decide +kernel
theorem dX9_copyFrom_15 : decode cX9_copyFrom 15 = .ok (.aload_n 1, 1) := by decide +kernel
theorem dX9_copyFrom_16 : decode cX9_copyFrom 16 = .ok (.getfield 19, 3) := by decide +kernel
theorem dX9_copyFrom_19 : decode cX9_copyFrom 19 = .ok (.invokevirtual 34, 3) := by decide +kernel
theorem dX9_copyFrom_22 : decode cX9_copyFrom 22 = .ok (.aload_n 0, 1) := by decide +kernel
theorem dX9_copyFrom_23 : decode cX9_copyFrom 23 = .ok (.getfield 26, 3) := by decide +kernel
theorem dX9_copyFrom_26 : decode cX9_copyFrom 26 = .ok (.aload_n 1, 1) := by decide +kernel
theorem dX9_copyFrom_27 : decode cX9_copyFrom 27 = .ok (.getfield 26, 3) := by decide +kernel
theorem dX9_copyFrom_30 : decode cX9_copyFrom 30 = .ok (.invokevirtual 37, 3) := by decide +kernel
theorem dX9_copyFrom_33 : decode cX9_copyFrom 33 = .ok (.return_, 1) := by decide +kernel
theorem dX10_init_0 : decode cX10_init 0 = .ok (.aload_n 0, 1) := by decide +kernel
theorem dX10_init_1 : decode cX10_init 1 = .ok (.invokespecial 3, 3) := by decide +kernel
theorem dX10_init_4 : decode cX10_init 4 = .ok (.aload_n 0, 1) := by decide +kernel
theorem dX10_init_5 : decode cX10_init 5 = .ok (.iconst 0, 1) := by decide +kernel
theorem dX10_init_6 : decode cX10_init 6 = .ok (.putfield 9, 3) := by decide +kernel
theorem dX10_init_9 : decode cX10_init 9 = .ok (.aload_n 0, 1) := by decide +kernel
theorem dX10_init_10 : decode cX10_init 10 = .ok (.iconst 0, 1) := by decide +kernel
theorem dX10_init_11 : decode cX10_init 11 = .ok (.putfield 15, 3) := by decide +kernel
theorem dX10_init_14 : decode cX10_init 14 = .ok (.aload_n 0, 1) := by decide +kernel
theorem dX10_init_15 : decode cX10_init 15 = .ok (.iconst 0, 1) := by decide +kernel
theorem dX10_init_16 : decode cX10_init 16 = .ok (.putfield 19, 3) := by decide +kernel
theorem dX10_init_19 : decode cX10_init 19 = .ok (.aload_n 0, 1) := by decide +kernel
theorem dX10_init_20 : decode cX10_init 20 = .ok (.bipush (-9), 2) := by decide +kernel
theorem dX10_init_22 : decode cX10_init 22 = .ok (.putfield 22, 3) := by decide +kernel
theorem dX10_init_25 : decode cX10_init 25 = .ok (.aload_n 0, 1) := by decide +kernel
theorem dX10_init_26 : decode cX10_init 26 = .ok (.iconst 4, 1) := by decide +kernel
theorem dX10_init_27 : decode cX10_init 27 = .ok (.newarray .int, 2) := by decide +kernel
theorem dX10_init_29 : decode cX10_init 29 = .ok (.putfield 25, 3) := by decide +kernel
theorem dX10_init_32 : decode cX10_init 32 = .ok (.aload_n 0, 1) := by decide +kernel
theorem dX10_init_33 : decode cX10_init 33 = .ok (.bipush 12, 2) := by decide +kernel
theorem dX10_init_35 : decode cX10_init 35 = .ok (.newarray .int, 2) := by decide +kernel
theorem dX10_init_37 : decode cX10_init 37 = .ok (.putfield 29, 3) := by decide +kernel
theorem dX10_init_40 : decode cX10_init 40 = .ok (.aload_n 0, 1) := by decide +kernel
theorem dX10_init_41 : decode cX10_init 41 = .ok (.bipush 12, 2) := by decide +kernel
theorem dX10_init_43 : decode cX10_init 43 = .ok (.newarray .int, 2) := by decide +kernel
theorem dX10_init_45 : decode cX10_init 45 = .ok (.putfield 32, 3) := by decide +kernel
theorem dX10_init_48 : decode cX10_init 48 = .ok (.aload_n 0, 1) := by decide +kernel
theorem dX10_init_49 : decode cX10_init 49 = .ok (.iconst 4, 1) := by decide +kernel
theorem dX10_init_50 : decode cX10_init 50 = .ok (.newarray .int, 2) := by decide +kernel
theorem dX10_init_52 : decode cX10_init 52 = .ok (.putfield 35, 3) := by decide +kernel
theorem dX10_init_55 : decode cX10_init 55 = .ok (.aload_n 0, 1) := by decide +kernel
theorem dX10_init_56 : decode cX10_init 56 = .ok (.iconst 4, 1) := by decide +kernel
theorem dX10_init_57 : decode cX10_init 57 = .ok (.newarray .int, 2) := by decide +kernel
theorem dX10_init_59 : decode cX10_init 59 = .ok (.putfield 38, 3) := by decide +kernel
theorem dX10_init_62 : decode cX10_init 62 = .ok (.return_, 1) := by decide +kernel
set_option maxRecDepth 20000 in
theorem ggX10_seek_J7_fill_53178 : GoodIn wsX10_seek wsJ7_fill_53178 := goodIn_r _ [14] (by decide +kernel) (by decide +kernel)
set_option maxRecDepth 20000 in
theorem gX10_seek_J7_fill_53178 : GoodIn wsX10_seek (va_wsS RX10 41 yJ7_fill_53178 wsJ7_fill_53178) := goodIn_app (goodIn_of _ (by decide +kernel)) ggX10_seek_J7_fill_53178
set_option maxRecDepth 20000 in
theorem ggX10_seek_X10_findHoles : GoodIn wsX10_seek wsX10_findHoles := goodIn_r _ [19, 6, 10, 8, 20, 9, 72, 73, 74, 75, 76, 77, 78, 79, 80, 90, 91] (by decide +kernel) (by decide +kernel)
set_option maxRecDepth 20000 in
theorem gX10_seek_X10_findHoles : GoodIn wsX10_seek (wsV RX10 46 RX10 yX10_findHoles wsX10_findHoles) := goodIn_app (goodIn_of _ (by decide +kernel)) ggX10_seek_X10_findHoles
set_option maxRecDepth 20000 in
theorem ggX10_seek_X5_begin : GoodIn wsX10_seek wsX5_begin := goodIn_r _ [24] (by decide +kernel) (by decide +kernel)
set_option maxRecDepth 20000 in
theorem gX10_seek_X5_begin : GoodIn wsX10_seek (va_wsS RX10 50 yX5_begin wsX5_begin) := goodIn_app (goodIn_of _ (by decide +kernel)) ggX10_seek_X5_begin
set_option maxRecDepth 20000 in
theorem ggX10_seek_X5_howMany : GoodIn wsX10_seek wsX5_howMany := goodIn_r _ [27] (by decide +kernel) (by decide +kernel)
set_option maxRecDepth 20000 in
theorem gX10_seek_X5_howMany : GoodIn wsX10_seek (va_wsS RX10 60 yX5_howMany wsX5_howMany) := goodIn_app (goodIn_of _ (by decide +kernel)) ggX10_seek_X5_howMany
set_option maxRecDepth 20000 in
theorem ggX10_seek_X8_firstAgainst : GoodIn wsX10_seek wsX8_firstAgainst := goodIn_r _ [32, 33, 34, 35, 36, 37, 31, 38, 39, 40, 41, 42, 43, 44, 45, 46, 47, 48, 49, 50, 51, 52, 53, 54, 55, 56, 57, 58, 81, 82, 83, 84, 85, 86, 87, 88, 89] (by decide +kernel) (by decide +kernel)
set_option maxRecDepth 20000 in
theorem gX10_seek_X8_firstAgainst : GoodIn wsX10_seek (wsV RX10 69 RX8 yX8_firstAgainst wsX8_firstAgainst) := goodIn_app (goodIn_of _ (by decide +kernel)) ggX10_seek_X8_firstAgainst
set_option maxRecDepth 20000 in
theorem ggX10_seek_X10_note : GoodIn wsX10_seek wsX10_note := goodIn_r _ [62, 2, 4, 8, 6, 63, 5, 3, 64, 65, 66, 67, 68, 72, 73, 74, 75, 76, 77, 78, 79, 80, 81, 82, 83, 84, 85, 86, 87, 88, 89] (by decide +kernel) (by decide +kernel)
set_option maxRecDepth 20000 in
theorem gX10_seek_X10_note : GoodIn wsX10_seek (wsV RX10 73 RX10 yX10_note wsX10_note) := goodIn_app (goodIn_of _ (by decide +kernel)) ggX10_seek_X10_note
set_option maxRecDepth 20000 in
theorem ggX10_seek_X5_step : GoodIn wsX10_seek wsX5_step := goodIn_r _ [71] (by decide +kernel) (by decide +kernel)
set_option maxRecDepth 20000 in
theorem gX10_seek_X5_step : GoodIn wsX10_seek (va_wsS RX10 77 yX5_step wsX5_step) := goodIn_app (goodIn_of _ (by decide +kernel)) ggX10_seek_X5_step
theorem dX10_seek_0 : decode cX10_seek 0 = .ok (.aload_n 0, 1) := by decide +kernel
theorem dX10_seek_1 : decode cX10_seek 1 = .ok (.getfield 9, 3) := by decide +kernel
theorem dX10_seek_4 : decode cX10_seek 4 = .ok (.ifCond .eq 4, 3) := by decide +kernel
theorem dX10_seek_7 : decode cX10_seek 7 = .ok (.return_, 1) := by decide +kernel
theorem dX10_seek_8 : decode cX10_seek 8 = .ok (.aload_n 0, 1) := by decide +kernel
theorem dX10_seek_9 : decode cX10_seek 9 = .ok (.iconst 0, 1) := by decide +kernel
theorem dX10_seek_10 : decode cX10_seek 10 = .ok (.putfield 19, 3) := by decide +kernel
theorem dX10_seek_13 : decode cX10_seek 13 = .ok (.aload_n 0, 1) := by decide +kernel
theorem dX10_seek_14 : decode cX10_seek 14 = .ok (.bipush (-9), 2) := by decide +kernel
theorem dX10_seek_16 : decode cX10_seek 16 = .ok (.putfield 22, 3) := by decide +kernel
theorem dX10_seek_19 : decode cX10_seek 19 = .ok (.aload_n 0, 1) := by decide +kernel
theorem dX10_seek_20 : decode cX10_seek 20 = .ok (.getfield 29, 3) := by decide +kernel
theorem dX10_seek_23 : decode cX10_seek 23 = .ok (.iconst 0, 1) := by decide +kernel
theorem dX10_seek_24 : decode cX10_seek 24 = .ok (.invokestatic 41, 3) := by decide +kernel
theorem dX10_seek_27 : decode cX10_seek 27 = .ok (.aload_n 0, 1) := by decide +kernel
theorem dX10_seek_28 : decode cX10_seek 28 = .ok (.aload_n 2, 1) := by decide +kernel
theorem dX10_seek_29 : decode cX10_seek 29 = .ok (.invokevirtual 46, 3) := by decide +kernel
theorem dX10_seek_32 : decode cX10_seek 32 = .ok (.aload_n 0, 1) := by decide +kernel
theorem dX10_seek_33 : decode cX10_seek 33 = .ok (.getfield 38, 3) := by decide +kernel
theorem dX10_seek_36 : decode cX10_seek 36 = .ok (.aload_n 0, 1) := by decide +kernel
theorem dX10_seek_37 : decode cX10_seek 37 = .ok (.getfield 15, 3) := by decide +kernel
theorem dX10_seek_40 : decode cX10_seek 40 = .ok (.invokestatic 50, 3) := by decide +kernel
theorem dX10_seek_43 : decode cX10_seek 43 = .ok (.aload_n 1, 1) := by decide +kernel
theorem dX10_seek_44 : decode cX10_seek 44 = .ok (.getfield 55, 3) := by decide +kernel
theorem dX10_seek_47 : decode cX10_seek 47 = .ok (.aload_n 0, 1) := by decide +kernel
theorem dX10_seek_48 : decode cX10_seek 48 = .ok (.getfield 15, 3) := by decide +kernel
theorem dX10_seek_51 : decode cX10_seek 51 = .ok (.invokestatic 60, 3) := by decide +kernel
theorem dX10_seek_54 : decode cX10_seek 54 = .ok (.istore_n 3, 1) := by decide +kernel
theorem dX10_seek_55 : decode cX10_seek 55 = .ok (.iload_n 3, 1) := by decide +kernel
theorem dX10_seek_56 : decode cX10_seek 56 = .ok (.ifCond .le 87, 3) := by decide +kernel
theorem dX10_seek_59 : decode cX10_seek 59 = .ok (.iconst 0, 1) := by decide +kernel
theorem dX10_seek_60 : decode cX10_seek 60 = .ok (.istore 4, 2) := by decide +kernel
theorem dX10_seek_62 : decode cX10_seek 62 = .ok (.iload 4, 2) := by decide +kernel
theorem dX10_seek_64 : decode cX10_seek 64 = .ok (.aload_n 0, 1) := by decide +kernel
theorem dX10_seek_65 : decode cX10_seek 65 = .ok (.getfield 15, 3) := by decide +kernel
theorem dX10_seek_68 : decode cX10_seek 68 = .ok (.if_icmp .ge 28, 3) := by decide +kernel
theorem dX10_seek_71 : decode cX10_seek 71 = .ok (.aload_n 0, 1) := by decide +kernel
theorem dX10_seek_72 : decode cX10_seek 72 = .ok (.getfield 32, 3) := by decide +kernel
theorem dX10_seek_75 : decode cX10_seek 75 = .ok (.aload_n 0, 1) := by decide +kernel
theorem dX10_seek_76 : decode cX10_seek 76 = .ok (.getfield 35, 3) := by decide +kernel
theorem dX10_seek_79 : decode cX10_seek 79 = .ok (.iload 4, 2) := by decide +kernel
theorem dX10_seek_81 : decode cX10_seek 81 = .ok (.iaload, 1) := by decide +kernel
theorem dX10_seek_82 : decode cX10_seek 82 = .ok (.aload_n 0, 1) := by decide +kernel
theorem dX10_seek_83 : decode cX10_seek 83 = .ok (.getfield 38, 3) := by decide +kernel
theorem dX10_seek_86 : decode cX10_seek 86 = .ok (.iload 4, 2) := by decide +kernel
theorem dX10_seek_88 : decode cX10_seek 88 = .ok (.iaload, 1) := by decide +kernel
theorem dX10_seek_89 : decode cX10_seek 89 = .ok (.iastore, 1) := by decide +kernel
theorem dX10_seek_90 : decode cX10_seek 90 = .ok (.iinc 4 1, 3) := by decide +kernel
theorem dX10_seek_93 : decode cX10_seek 93 = .ok (.goto (-31), 3) := by decide +kernel
theorem dX10_seek_96 : decode cX10_seek 96 = .ok (.aload_n 1, 1) := by decide +kernel
theorem dX10_seek_97 : decode cX10_seek 97 = .ok (.aload_n 0, 1) := by decide +kernel
theorem dX10_seek_98 : decode cX10_seek 98 = .ok (.getfield 32, 3) := by decide +kernel
theorem dX10_seek_101 : decode cX10_seek 101 = .ok (.aload_n 2, 1) := by decide +kernel
theorem dX10_seek_102 : decode cX10_seek 102 = .ok (.getfield 64, 3) := by decide +kernel
theorem dX10_seek_105 : decode cX10_seek 105 = .ok (.invokevirtual 69, 3) := by decide +kernel
theorem dX10_seek_108 : decode cX10_seek 108 = .ok (.bipush (-9), 2) := by decide +kernel
theorem dX10_seek_110 : decode cX10_seek 110 = .ok (.if_icmp .ne 12, 3) := by decide +kernel
theorem dX10_seek_113 : decode cX10_seek 113 = .ok (.aload_n 0, 1) := by decide +kernel
theorem dX10_seek_114 : decode cX10_seek 114 = .ok (.aload_n 1, 1) := by decide +kernel
theorem dX10_seek_115 : decode cX10_seek 115 = .ok (.aload_n 2, 1) := by decide +kernel
theorem dX10_seek_116 : decode cX10_seek 116 = .ok (.getfield 64, 3) := by decide +kernel
theorem dX10_seek_119 : decode cX10_seek 119 = .ok (.invokevirtual 73, 3) := by decide +kernel
theorem dX10_seek_122 : decode cX10_seek 122 = .ok (.aload_n 0, 1) := by decide +kernel
theorem dX10_seek_123 : decode cX10_seek 123 = .ok (.getfield 38, 3) := by decide +kernel
theorem dX10_seek_126 : decode cX10_seek 126 = .ok (.aload_n 0, 1) := by decide +kernel
theorem dX10_seek_127 : decode cX10_seek 127 = .ok (.getfield 15, 3) := by decide +kernel
theorem dX10_seek_130 : decode cX10_seek 130 = .ok (.aload_n 1, 1) := by decide +kernel
theorem dX10_seek_131 : decode cX10_seek 131 = .ok (.getfield 55, 3) := by decide +kernel
theorem dX10_seek_134 : decode cX10_seek 134 = .ok (.invokestatic 77, 3) := by decide +kernel
theorem dX10_seek_137 : decode cX10_seek 137 = .ok (.iinc 3 (-1), 3) := by decide +kernel
theorem dX10_seek_140 : decode cX10_seek 140 = .ok (.goto (-85), 3) := by decide +kernel
theorem dX10_seek_143 : decode cX10_seek 143 = .ok (.aload_n 0, 1) := by decide +kernel
theorem dX10_seek_144 : decode cX10_seek 144 = .ok (.iconst 1, 1) := by decide +kernel
theorem dX10_seek_145 : decode cX10_seek 145 = .ok (.putfield 9, 3) := by decide +kernel
theorem dX10_seek_148 : decode cX10_seek 148 = .ok (.return_, 1) := by decide +kernel
theorem dX10_findHoles_0 : decode cX10_findHoles 0 = .ok (.aload_n 0, 1) := by decide +kernel
theorem dX10_findHoles_1 : decode cX10_findHoles 1 = .ok (.iconst 0, 1) := by decide +kernel
theorem dX10_findHoles_2 : decode cX10_findHoles 2 = .ok (.putfield 15, 3) := by decide +kernel
theorem dX10_findHoles_5 : decode cX10_findHoles 5 = .ok (.iconst 0, 1) := by decide +kernel
theorem dX10_findHoles_6 : decode cX10_findHoles 6 = .ok (.istore_n 2, 1) := by decide +kernel
theorem dX10_findHoles_7 : decode cX10_findHoles 7 = .ok (.iload_n 2, 1) := by decide +kernel
theorem dX10_findHoles_8 : decode cX10_findHoles 8 = .ok (.aload_n 1, 1) := by decide +kernel
theorem dX10_findHoles_9 : decode cX10_findHoles 9 = .ok (.getfield 64, 3) := by decide +kernel
theorem dX10_findHoles_12 : decode cX10_findHoles 12 = .ok (.if_icmp .ge 59, 3) := by decide +kernel
theorem dX10_findHoles_15 : decode cX10_findHoles 15 = .ok (.aload_n 0, 1) := by decide +kernel
theorem dX10_findHoles_16 : decode cX10_findHoles 16 = .ok (.getfield 32, 3) := by decide +kernel
theorem dX10_findHoles_19 : decode cX10_findHoles 19 = .ok (.iload_n 2, 1) := by decide +kernel
theorem dX10_findHoles_20 : decode cX10_findHoles 20 = .ok (.aload_n 1, 1) := by decide +kernel
theorem dX10_findHoles_21 : decode cX10_findHoles 21 = .ok (.getfield 81, 3) := by decide +kernel
theorem dX10_findHoles_24 : decode cX10_findHoles 24 = .ok (.iload_n 2, 1) := by decide +kernel
theorem dX10_findHoles_25 : decode cX10_findHoles 25 = .ok (.iaload, 1) := by decide +kernel
theorem dX10_findHoles_26 : decode cX10_findHoles 26 = .ok (.iastore, 1) := by decide +kernel
theorem dX10_findHoles_27 : decode cX10_findHoles 27 = .ok (.aload_n 1, 1) := by decide +kernel
theorem dX10_findHoles_28 : decode cX10_findHoles 28 = .ok (.getfield 81, 3) := by decide +kernel
theorem dX10_findHoles_31 : decode cX10_findHoles 31 = .ok (.iload_n 2, 1) := by decide +kernel
theorem dX10_findHoles_32 : decode cX10_findHoles 32 = .ok (.iaload, 1) := by decide +kernel
theorem dX10_findHoles_33 : decode cX10_findHoles 33 = .ok (.iconst (-1), 1) := by decide +kernel
theorem dX10_findHoles_34 : decode cX10_findHoles 34 = .ok (.if_icmp .ne 31, 3) := by decide +kernel
theorem dX10_findHoles_37 : decode cX10_findHoles 37 = .ok (.aload_n 0, 1) := by decide +kernel
theorem dX10_findHoles_38 : decode cX10_findHoles 38 = .ok (.getfield 15, 3) := by decide +kernel
theorem dX10_findHoles_41 : decode cX10_findHoles 41 = .ok (.iconst 4, 1) := by decide +kernel
theorem dX10_findHoles_42 : decode cX10_findHoles 42 = .ok (.if_icmp .ge 23, 3) := by decide +kernel
theorem dX10_findHoles_45 : decode cX10_findHoles 45 = .ok (.aload_n 0, 1) := by decide +kernel
theorem dX10_findHoles_46 : decode cX10_findHoles 46 = .ok (.getfield 35, 3) := by decide +kernel
theorem dX10_findHoles_49 : decode cX10_findHoles 49 = .ok (.aload_n 0, 1) := by decide +kernel
theorem dX10_findHoles_50 : decode cX10_findHoles 50 = .ok (.getfield 15, 3) := by decide +kernel
theorem dX10_findHoles_53 : decode cX10_findHoles 53 = .ok (.iload_n 2, 1) := by decide +kernel
theorem dX10_findHoles_54 : decode cX10_findHoles 54 = .ok (.iastore, 1) := by decide +kernel
theorem dX10_findHoles_55 : decode cX10_findHoles 55 = .ok (.aload_n 0, 1) := by decide +kernel
theorem dX10_findHoles_56 : decode cX10_findHoles 56 = .ok (.dup, 1) := by decide +kernel
theorem dX10_findHoles_57 : decode cX10_findHoles 57 = .ok (.getfield 15, 3) := by decide +kernel
theorem dX10_findHoles_60 : decode cX10_findHoles 60 = .ok (.iconst 1, 1) := by decide +kernel
theorem dX10_findHoles_61 : decode cX10_findHoles 61 = .ok (.iadd, 1) := by decide +kernel
theorem dX10_findHoles_62 : decode cX10_findHoles 62 = .ok (.putfield 15, 3) := by decide +kernel
theorem dX10_findHoles_65 : decode cX10_findHoles 65 = .ok (.iinc 2 1, 3) := by decide +kernel
theorem dX10_findHoles_68 : decode cX10_findHoles 68 = .ok (.goto (-61), 3) := by decide +kernel
theorem dX10_findHoles_71 : decode cX10_findHoles 71 = .ok (.return_, 1) := by decide +kernel
theorem dX10_note_0 : decode cX10_note 0 = .ok (.aload_n 0, 1) := by decide +kernel
theorem dX10_note_1 : decode cX10_note 1 = .ok (.dup, 1) := by decide +kernel
theorem dX10_note_2 : decode cX10_note 2 = .ok (.getfield 19, 3) := by decide +kernel
theorem dX10_note_5 : decode cX10_note 5 = .ok (.iconst 1, 1) := by decide +kernel
theorem dX10_note_6 : decode cX10_note 6 = .ok (.iadd, 1) := by decide +kernel
theorem dX10_note_7 : decode cX10_note 7 = .ok (.putfield 19, 3) := by decide +kernel
theorem dX10_note_10 : decode cX10_note 10 = .ok (.iconst 0, 1) := by decide +kernel
theorem dX10_note_11 : decode cX10_note 11 = .ok (.istore_n 3, 1) := by decide +kernel
theorem dX10_note_12 : decode cX10_note 12 = .ok (.iload_n 3, 1) := by decide +kernel
theorem dX10_note_13 : decode cX10_note 13 = .ok (.iload_n 2, 1) := by decide +kernel
theorem dX10_note_14 : decode cX10_note 14 = .ok (.if_icmp .ge 26, 3) := by decide +kernel
theorem dX10_note_17 : decode cX10_note 17 = .ok (.aload_n 0, 1) := by decide +kernel
theorem dX10_note_18 : decode cX10_note 18 = .ok (.getfield 29, 3) := by decide +kernel
theorem dX10_note_21 : decode cX10_note 21 = .ok (.iload_n 3, 1) := by decide +kernel
theorem dX10_note_22 : decode cX10_note 22 = .ok (.dup2, 1) := by decide +kernel
theorem dX10_note_23 : decode cX10_note 23 = .ok (.iaload, 1) := by decide +kernel
theorem dX10_note_24 : decode cX10_note 24 = .ok (.iconst 1, 1) := by decide +kernel
theorem dX10_note_25 : decode cX10_note 25 = .ok (.aload_n 0, 1) := by decide +kernel
theorem dX10_note_26 : decode cX10_note 26 = .ok (.getfield 32, 3) := by decide +kernel
theorem dX10_note_29 : decode cX10_note 29 = .ok (.iload_n 3, 1) := by decide +kernel
theorem dX10_note_30 : decode cX10_note 30 = .ok (.iaload, 1) := by decide +kernel
theorem dX10_note_31 : decode cX10_note 31 = .ok (.ishl, 1) := by decide +kernel
theorem dX10_note_32 : decode cX10_note 32 = .ok (.ior, 1) := by decide +kernel
theorem dX10_note_33 : decode cX10_note 33 = .ok (.iastore, 1) := by decide +kernel
theorem dX10_note_34 : decode cX10_note 34 = .ok (.iinc 3 1, 3) := by decide +kernel
theorem dX10_note_37 : decode cX10_note 37 = .ok (.goto (-25), 3) := by decide +kernel
theorem dX10_note_40 : decode cX10_note 40 = .ok (.iconst 1, 1) := by decide +kernel
theorem dX10_note_41 : decode cX10_note 41 = .ok (.istore_n 3, 1) := by decide +kernel
theorem dX10_note_42 : decode cX10_note 42 = .ok (.iconst 0, 1) := by decide +kernel
theorem dX10_note_43 : decode cX10_note 43 = .ok (.istore 4, 2) := by decide +kernel
theorem dX10_note_45 : decode cX10_note 45 = .ok (.iload 4, 2) := by decide +kernel
theorem dX10_note_47 : decode cX10_note 47 = .ok (.aload_n 0, 1) := by decide +kernel
theorem dX10_note_48 : decode cX10_note 48 = .ok (.getfield 15, 3) := by decide +kernel
theorem dX10_note_51 : decode cX10_note 51 = .ok (.if_icmp .ge 24, 3) := by decide +kernel
theorem dX10_note_54 : decode cX10_note 54 = .ok (.iload_n 3, 1) := by decide +kernel
theorem dX10_note_55 : decode cX10_note 55 = .ok (.aload_n 1, 1) := by decide +kernel
theorem dX10_note_56 : decode cX10_note 56 = .ok (.getfield 84, 3) := by decide +kernel
theorem dX10_note_59 : decode cX10_note 59 = .ok (.aload_n 0, 1) := by decide +kernel
theorem dX10_note_60 : decode cX10_note 60 = .ok (.getfield 38, 3) := by decide +kernel
theorem dX10_note_63 : decode cX10_note 63 = .ok (.iload 4, 2) := by decide +kernel
theorem dX10_note_65 : decode cX10_note 65 = .ok (.iaload, 1) := by decide +kernel
theorem dX10_note_66 : decode cX10_note 66 = .ok (.iaload, 1) := by decide +kernel
theorem dX10_note_67 : decode cX10_note 67 = .ok (.imul, 1) := by decide +kernel
theorem dX10_note_68 : decode cX10_note 68 = .ok (.istore_n 3, 1) := by decide +kernel
theorem dX10_note_69 : decode cX10_note 69 = .ok (.iinc 4 1, 3) := by decide +kernel
theorem dX10_note_72 : decode cX10_note 72 = .ok (.goto (-27), 3) := by decide +kernel
theorem dX10_note_75 : decode cX10_note 75 = .ok (.iload_n 3, 1) := by decide +kernel
theorem dX10_note_76 : decode cX10_note 76 = .ok (.aload_n 0, 1) := by decide +kernel
theorem dX10_note_77 : decode cX10_note 77 = .ok (.getfield 22, 3) := by decide +kernel
theorem dX10_note_80 : decode cX10_note 80 = .ok (.if_icmp .le 25, 3) := by decide +kernel
theorem dX10_note_83 : decode cX10_note 83 = .ok (.aload_n 0, 1) := by decide +kernel
theorem dX10_note_84 : decode cX10_note 84 = .ok (.iload_n 3, 1) := by decide +kernel
theorem dX10_note_85 : decode cX10_note 85 = .ok (.putfield 22, 3) := by decide +kernel
theorem dX10_note_88 : decode cX10_note 88 = .ok (.aload_n 0, 1) := by decide +kernel
theorem dX10_note_89 : decode cX10_note 89 = .ok (.getfield 38, 3) := by decide +kernel
theorem dX10_note_92 : decode cX10_note 92 = .ok (.iconst 0, 1) := by decide +kernel
theorem dX10_note_93 : decode cX10_note 93 = .ok (.aload_n 0, 1) := by decide +kernel
theorem dX10_note_94 : decode cX10_note 94 = .ok (.getfield 25, 3) := by decide +kernel
theorem dX10_note_97 : decode cX10_note 97 = .ok (.iconst 0, 1) := by decide +kernel
theorem dX10_note_98 : decode cX10_note 98 = .ok (.aload_n 0, 1) := by decide +kernel
theorem dX10_note_99 : decode cX10_note 99 = .ok (.getfield 15, 3) := by decide +kernel
theorem dX10_note_102 : decode cX10_note 102 = .ok (.invokestatic 87, 3) := by decide +kernel
theorem dX10_note_105 : decode cX10_note 105 = .ok (.return_, 1) := by decide +kernel
set_option maxRecDepth 20000 in
theorem ggX11_init_X2_init : GoodIn wsX11_init wsX2_init := goodIn_r _ [40, 41, 2, 3, 34, 42, 43, 136, 137] (by decide +kernel) (by decide +kernel)
set_option maxRecDepth 20000 in
theorem gX11_init_X2_init : GoodIn wsX11_init (wsX2_init) := ggX11_init_X2_init
set_option maxRecDepth 20000 in
theorem ggX11_init_X9_init : GoodIn wsX11_init wsX9_init := goodIn_r _ [46, 47, 2, 3, 48, 49, 50, 51, 52, 53, 54, 55, 56, 57, 58, 59, 60, 61, 62, 63, 34, 64, 65, 66, 67, 68, 69, 70, 71, 72, 73, 74, 75, 76, 77, 78, 79, 80, 81, 82, 83, 84, 85, 181, 182, 183, 184, 185, 186, 187, 188, 189, 150, 151, 152, 190, 191, 192, 193, 194] (by decide +kernel) (by decide +kernel)
set_option maxRecDepth 20000 in
theorem gX11_init_X9_init : GoodIn wsX11_init (wsX9_init) := ggX11_init_X9_init
set_option maxRecDepth 20000 in
theorem ggX11_init_X7_init : GoodIn wsX11_init wsX7_init := goodIn_r _ [88, 89, 2, 3, 90, 49, 50, 91, 34, 92, 93, 94, 95, 96, 97, 61, 62, 63, 64, 65, 66, 67, 68, 69, 70, 71, 72, 181, 182, 183, 184, 185, 186, 187, 188, 189, 153, 154, 155, 156, 157, 158] (by decide +kernel) (by decide +kernel)
set_option maxRecDepth 20000 in
theorem gX11_init_X7_init : GoodIn wsX11_init (wsX7_init) := ggX11_init_X7_init
set_option maxRecDepth 20000 in
theorem ggX11_init_X6_init : GoodIn wsX11_init wsX6_init := goodIn_r _ [100, 101, 2, 3, 102, 103, 34, 104, 105, 106, 107, 108, 109, 159, 160, 161, 162, 163, 164, 165, 166] (by decide +kernel) (by decide +kernel)
set_option maxRecDepth 20000 in
theorem gX11_init_X6_init : GoodIn wsX11_init (wsX6_init) := ggX11_init_X6_init
set_option maxRecDepth 20000 in
theorem ggX11_init_X1_init : GoodIn wsX11_init wsX1_init := goodIn_r _ [112, 113, 2, 3, 114, 115, 34, 116, 167, 168, 169] (by decide +kernel) (by decide +kernel)
set_option maxRecDepth 20000 in
theorem gX11_init_X1_init : GoodIn wsX11_init (wsX1_init) := ggX11_init_X1_init
set_option maxRecDepth 20000 in
theorem ggX11_init_X10_init : GoodIn wsX11_init wsX10_init := goodIn_r _ [119, 120, 2, 3, 121, 122, 123, 124, 34, 125, 126, 127, 128, 129, 170, 171, 172, 173, 174, 175, 176, 177, 178] (by decide +kernel) (by decide +kernel)
set_option maxRecDepth 20000 in
theorem gX11_init_X10_init : GoodIn wsX11_init (wsX10_init) := ggX11_init_X10_init
set_option maxRecDepth 20000 in
theorem ggX11_init_X0_init : GoodIn wsX11_init wsX0_init := goodIn_r _ [132, 133, 2, 3, 34, 134, 135, 179, 180] (by decide +kernel) (by decide +kernel)
set_option maxRecDepth 20000 in
theorem gX11_init_X0_init : GoodIn wsX11_init (wsX0_init) := ggX11_init_X0_init
theorem dX11_init_0 : decode cX11_init 0 = .ok (.aload_n 0, 1) := by decide +kernel
theorem dX11_init_1 : decode cX11_init 1 = .ok (.invokespecial 1, 3) := by decide +kernel
theorem dX11_init_4 : decode cX11_init 4 = .ok (.aload_n 0, 1) := by decide +kernel
theorem dX11_init_5 : decode cX11_init 5 = .ok (.new 7, 3) := by decide +kernel
theorem dX11_init_8 : decode cX11_init 8 = .ok (.dup, 1) := by decide +kernel
theorem dX11_init_9 : decode cX11_init 9 = .ok (.invokespecial 9, 3) := by decide +kernel
theorem dX11_init_12 : decode cX11_init 12 = .ok (.putfield 10, 3) := by decide +kernel
theorem dX11_init_15 : decode cX11_init 15 = .ok (.aload_n 0, 1) := by decide +kernel
theorem dX11_init_16 : decode cX11_init 16 = .ok (.new 16, 3) := by decide +kernel
theorem dX11_init_19 : decode cX11_init 19 = .ok (.dup, 1) := by decide +kernel
theorem dX11_init_20 : decode cX11_init 20 = .ok (.invokespecial 18, 3) := by decide +kernel
theorem dX11_init_23 : decode cX11_init 23 = .ok (.putfield 19, 3) := by decide +kernel
theorem dX11_init_26 : decode cX11_init 26 = .ok (.aload_n 0, 1) := by decide +kernel
theorem dX11_init_27 : decode cX11_init 27 = .ok (.new 16, 3) := by decide +kernel
theorem dX11_init_30 : decode cX11_init 30 = .ok (.dup, 1) := by decide +kernel
theorem dX11_init_31 : decode cX11_init 31 = .ok (.invokespecial 18, 3) := by decide +kernel
theorem dX11_init_34 : decode cX11_init 34 = .ok (.putfield 23, 3) := by decide +kernel
theorem dX11_init_37 : decode cX11_init 37 = .ok (.aload_n 0, 1) := by decide +kernel
theorem dX11_init_38 : decode cX11_init 38 = .ok (.iconst 0, 1) := by decide +kernel
theorem dX11_init_39 : decode cX11_init 39 = .ok (.putfield 26, 3) := by decide +kernel
theorem dX11_init_42 : decode cX11_init 42 = .ok (.aload_n 0, 1) := by decide +kernel
theorem dX11_init_43 : decode cX11_init 43 = .ok (.new 30, 3) := by decide +kernel
theorem dX11_init_46 : decode cX11_init 46 = .ok (.dup, 1) := by decide +kernel
theorem dX11_init_47 : decode cX11_init 47 = .ok (.invokespecial 32, 3) := by decide +kernel
theorem dX11_init_50 : decode cX11_init 50 = .ok (.putfield 33, 3) := by decide +kernel
theorem dX11_init_53 : decode cX11_init 53 = .ok (.aload_n 0, 1) := by decide +kernel
theorem dX11_init_54 : decode cX11_init 54 = .ok (.iconst 5, 1) := by decide +kernel
theorem dX11_init_55 : decode cX11_init 55 = .ok (.anewarray 37, 3) := by decide +kernel
theorem dX11_init_58 : decode cX11_init 58 = .ok (.putfield 39, 3) := by decide +kernel
theorem dX11_init_61 : decode cX11_init 61 = .ok (.iconst 0, 1) := by decide +kernel
theorem dX11_init_62 : decode cX11_init 62 = .ok (.istore_n 1, 1) := by decide +kernel
theorem dX11_init_63 : decode cX11_init 63 = .ok (.iload_n 1, 1) := by decide +kernel
theorem dX11_init_64 : decode cX11_init 64 = .ok (.iconst 5, 1) := by decide +kernel
theorem dX11_init_65 : decode cX11_init 65 = .ok (.if_icmp .ge 23, 3) := by decide +kernel
theorem dX11_init_68 : decode cX11_init 68 = .ok (.aload_n 0, 1) := by decide +kernel
theorem dX11_init_69 : decode cX11_init 69 = .ok (.getfield 39, 3) := by decide +kernel
theorem dX11_init_72 : decode cX11_init 72 = .ok (.iload_n 1, 1) := by decide +kernel
theorem dX11_init_73 : decode cX11_init 73 = .ok (.new 37, 3) := by decide +kernel
theorem dX11_init_76 : decode cX11_init 76 = .ok (.dup, 1) := by decide +kernel
theorem dX11_init_77 : decode cX11_init 77 = .ok (.iload_n 1, 1) := by decide +kernel
theorem dX11_init_78 : decode cX11_init 78 = .ok (.invokespecial 43, 3) := by decide +kernel
theorem dX11_init_81 : decode cX11_init 81 = .ok (.aastore, 1) := by decide +kernel
theorem dX11_init_82 : decode cX11_init 82 = .ok (.iinc 1 1, 3) := by decide +kernel
theorem dX11_init_85 : decode cX11_init 85 = .ok (.goto (-22), 3) := by decide +kernel
theorem dX11_init_88 : decode cX11_init 88 = .ok (.aload_n 0, 1) := by decide +kernel
theorem dX11_init_89 : decode cX11_init 89 = .ok (.new 46, 3) := by decide +kernel
theorem dX11_init_92 : decode cX11_init 92 = .ok (.dup, 1) := by decide +kernel
theorem dX11_init_93 : decode cX11_init 93 = .ok (.invokespecial 48, 3) := by decide +kernel
theorem dX11_init_96 : decode cX11_init 96 = .ok (.putfield 49, 3) := by decide +kernel
theorem dX11_init_99 : decode cX11_init 99 = .ok (.aload_n 0, 1) := by decide +kernel
theorem dX11_init_100 : decode cX11_init 100 = .ok (.new 53, 3) := by decide +kernel
theorem dX11_init_103 : decode cX11_init 103 = .ok (.dup, 1) := by decide +kernel
theorem dX11_init_104 : decode cX11_init 104 = .ok (.invokespecial 55, 3) := by decide +kernel
theorem dX11_init_107 : decode cX11_init 107 = .ok (.putfield 56, 3) := by decide +kernel
theorem dX11_init_110 : decode cX11_init 110 = .ok (.aload_n 0, 1) := by decide +kernel
theorem dX11_init_111 : decode cX11_init 111 = .ok (.new 60, 3) := by decide +kernel
theorem dX11_init_114 : decode cX11_init 114 = .ok (.dup, 1) := by decide +kernel
theorem dX11_init_115 : decode cX11_init 115 = .ok (.invokespecial 62, 3) := by decide +kernel
theorem dX11_init_118 : decode cX11_init 118 = .ok (.putfield 63, 3) := by decide +kernel
theorem dX11_init_121 : decode cX11_init 121 = .ok (.aload_n 0, 1) := by decide +kernel
theorem dX11_init_122 : decode cX11_init 122 = .ok (.bipush 12, 2) := by decide +kernel
theorem dX11_init_124 : decode cX11_init 124 = .ok (.newarray .int, 2) := by decide +kernel
theorem dX11_init_126 : decode cX11_init 126 = .ok (.putfield 67, 3) := by decide +kernel
theorem dX11_init_129 : decode cX11_init 129 = .ok (.aload_n 0, 1) := by decide +kernel
theorem dX11_init_130 : decode cX11_init 130 = .ok (.bipush 6, 2) := by decide +kernel
theorem dX11_init_132 : decode cX11_init 132 = .ok (.newarray .int, 2) := by decide +kernel
theorem dX11_init_134 : decode cX11_init 134 = .ok (.putfield 71, 3) := by decide +kernel
theorem dX11_init_137 : decode cX11_init 137 = .ok (.aload_n 0, 1) := by decide +kernel
theorem dX11_init_138 : decode cX11_init 138 = .ok (.bipush 7, 2) := by decide +kernel
theorem dX11_init_140 : decode cX11_init 140 = .ok (.newarray .int, 2) := by decide +kernel
theorem dX11_init_142 : decode cX11_init 142 = .ok (.putfield 74, 3) := by decide +kernel
theorem dX11_init_145 : decode cX11_init 145 = .ok (.return_, 1) := by decide +kernel
set_option maxRecDepth 20000 in
theorem ggX11_letter_X11_refuse : GoodIn wsX11_letter wsX11_refuse := goodIn_r _ [7, 8, 16, 17, 18, 19, 20, 21, 22, 23, 24, 25, 26, 27] (by decide +kernel) (by decide +kernel)
set_option maxRecDepth 20000 in
theorem gX11_letter_X11_refuse : GoodIn wsX11_letter (wsV RX11 77 RX11 yX11_refuse wsX11_refuse) := goodIn_app (goodIn_of _ (by decide +kernel)) ggX11_letter_X11_refuse
set_option maxRecDepth 20000 in
theorem ggX11_letter_X2_add : GoodIn wsX11_letter wsX2_add := goodIn_r _ [13, 14, 15, 28, 29] (by decide +kernel) (by decide +kernel)
set_option maxRecDepth 20000 in
theorem gX11_letter_X2_add : GoodIn wsX11_letter (wsV RX11 85 RX2 yX2_add wsX2_add) := goodIn_app (goodIn_of _ (by decide +kernel)) ggX11_letter_X2_add
theorem dX11_letter_0 : decode cX11_letter 0 = .ok (.iload_n 1, 1) := by decide +kernel
theorem dX11_letter_1 : decode cX11_letter 1 = .ok (.ifCond .ge 10, 3) := by decide +kernel
theorem dX11_letter_4 : decode cX11_letter 4 = .ok (.aload_n 0, 1) := by decide +kernel
theorem dX11_letter_5 : decode cX11_letter 5 = .ok (.bipush (-4), 2) := by decide +kernel
theorem dX11_letter_7 : decode cX11_letter 7 = .ok (.invokevirtual 77, 3) := by decide +kernel
theorem dX11_letter_10 : decode cX11_letter 10 = .ok (.ireturn, 1) := by decide +kernel
theorem dX11_letter_11 : decode cX11_letter 11 = .ok (.iload_n 1, 1) := by decide +kernel
theorem dX11_letter_12 : decode cX11_letter 12 = .ok (.sipush 255, 3) := by decide +kernel
theorem dX11_letter_15 : decode cX11_letter 15 = .ok (.if_icmp .gt 15, 3) := by decide +kernel
theorem dX11_letter_18 : decode cX11_letter 18 = .ok (.aload_n 0, 1) := by decide +kernel
theorem dX11_letter_19 : decode cX11_letter 19 = .ok (.getfield 10, 3) := by decide +kernel
theorem dX11_letter_22 : decode cX11_letter 22 = .ok (.getfield 81, 3) := by decide +kernel
theorem dX11_letter_25 : decode cX11_letter 25 = .ok (.bipush 64, 2) := by decide +kernel
theorem dX11_letter_27 : decode cX11_letter 27 = .ok (.if_icmp .lt 10, 3) := by decide +kernel
theorem dX11_letter_30 : decode cX11_letter 30 = .ok (.aload_n 0, 1) := by decide +kernel
theorem dX11_letter_31 : decode cX11_letter 31 = .ok (.bipush (-6), 2) := by decide +kernel
theorem dX11_letter_33 : decode cX11_letter 33 = .ok (.invokevirtual 77, 3) := by decide +kernel
theorem dX11_letter_36 : decode cX11_letter 36 = .ok (.ireturn, 1) := by decide +kernel
theorem dX11_letter_37 : decode cX11_letter 37 = .ok (.aload_n 0, 1) := by decide +kernel
theorem dX11_letter_38 : decode cX11_letter 38 = .ok (.getfield 10, 3) := by decide +kernel
theorem dX11_letter_41 : decode cX11_letter 41 = .ok (.iload_n 1, 1) := by decide +kernel
theorem dX11_letter_42 : decode cX11_letter 42 = .ok (.invokevirtual 85, 3) := by decide +kernel
theorem dX11_letter_45 : decode cX11_letter 45 = .ok (.ireturn, 1) := by decide +kernel
set_option maxRecDepth 20000 in
theorem ggX11_tongue_X7_tell : GoodIn wsX11_tongue wsX7_tell := goodIn_r _ [10, 11, 12, 13, 14, 15, 16, 9, 17, 18, 19, 20, 21, 22, 23, 24, 25, 26, 27, 28, 29, 30, 31, 32, 33, 34, 35, 36, 37, 38, 39, 40, 41, 42, 43, 44, 45, 46, 47, 48, 49, 50, 51, 52, 53, 54, 55, 56, 57, 58, 59, 60, 61, 62, 63, 64, 65, 66, 67, 68, 69, 70, 71, 72, 73, 74, 75, 76, 77, 78, 79, 80, 81, 82, 83, 84, 85, 86, 87, 88, 89, 90, 91, 92, 93, 94, 95, 96, 97, 98, 99, 100, 101, 102, 103, 104, 105, 106, 107, 108, 109, 110, 111, 112, 113, 114, 115, 116, 117, 118, 119, 120, 121, 122, 123, 124, 125, 126, 127, 128, 129, 130, 131, 132, 133, 134, 135, 136, 137, 138, 139, 140, 141, 142, 143, 144, 145, 146, 147, 148, 149, 150, 151, 152, 153, 154, 155, 156, 157, 158, 159, 160, 161, 162, 163, 164, 165, 166, 167, 168, 169, 170, 171, 172, 173, 174, 175, 176, 177, 178, 179, 180, 181, 182, 183, 184, 185, 186, 187, 188, 189, 190, 191, 192, 193, 194, 195, 196, 197, 198, 227, 228, 229, 230, 231, 232, 225, 226, 233, 234, 235, 236, 237, 238, 239, 240, 241] (by decide +kernel) (by decide +kernel)
set_option maxRecDepth 20000 in
theorem gX11_tongue_X7_tell : GoodIn wsX11_tongue (wsV RX11 92 RX7 yX7_tell wsX7_tell) := goodIn_app (goodIn_of _ (by decide +kernel)) ggX11_tongue_X7_tell
set_option maxRecDepth 20000 in
theorem ggX11_tongue_X11_forgetTongue : GoodIn wsX11_tongue wsX11_forgetTongue := goodIn_r _ [203, 204, 205, 206, 207, 208, 209, 210, 211, 212, 213, 214, 215, 216, 217, 218, 219, 220, 221, 242, 243, 244, 245, 246, 247, 248, 249, 250, 251, 252, 253, 254, 255, 256, 257, 258, 259, 260, 261] (by decide +kernel) (by decide +kernel)
set_option maxRecDepth 20000 in
theorem gX11_tongue_X11_forgetTongue : GoodIn wsX11_tongue (wsV RX11 96 RX11 yX11_forgetTongue wsX11_forgetTongue) := goodIn_app (goodIn_of _ (by decide +kernel)) ggX11_tongue_X11_forgetTongue
theorem dX11_tongue_0 : decode cX11_tongue 0 = .ok (.aload_n 0, 1) := by decide +kernel
theorem dX11_tongue_1 : decode cX11_tongue 1 = .ok (.getfield 33, 3) := by decide +kernel
theorem dX11_tongue_4 : decode cX11_tongue 4 = .ok (.aload_n 0, 1) := by decide +kernel
theorem dX11_tongue_5 : decode cX11_tongue 5 = .ok (.getfield 10, 3) := by decide +kernel
theorem dX11_tongue_8 : decode cX11_tongue 8 = .ok (.aload_n 0, 1) := by decide +kernel
theorem dX11_tongue_9 : decode cX11_tongue 9 = .ok (.getfield 19, 3) := by decide +kernel
theorem dX11_tongue_12 : decode cX11_tongue 12 = .ok (.getfield 88, 3) := by decide +kernel
theorem dX11_tongue_15 : decode cX11_tongue 15 = .ok (.invokevirtual 92, 3) := by decide +kernel
theorem dX11_tongue_18 : decode cX11_tongue 18 = .ok (.istore_n 1, 1) := by decide +kernel
theorem dX11_tongue_19 : decode cX11_tongue 19 = .ok (.aload_n 0, 1) := by decide +kernel
theorem dX11_tongue_20 : decode cX11_tongue 20 = .ok (.getfield 10, 3) := by decide +kernel
theorem dX11_tongue_23 : decode cX11_tongue 23 = .ok (.iconst 0, 1) := by decide +kernel
theorem dX11_tongue_24 : decode cX11_tongue 24 = .ok (.putfield 81, 3) := by decide +kernel
theorem dX11_tongue_27 : decode cX11_tongue 27 = .ok (.iload_n 1, 1) := by decide +kernel
theorem dX11_tongue_28 : decode cX11_tongue 28 = .ok (.ifCond .le 7, 3) := by decide +kernel
theorem dX11_tongue_31 : decode cX11_tongue 31 = .ok (.aload_n 0, 1) := by decide +kernel
theorem dX11_tongue_32 : decode cX11_tongue 32 = .ok (.invokevirtual 96, 3) := by decide +kernel
theorem dX11_tongue_35 : decode cX11_tongue 35 = .ok (.iload_n 1, 1) := by decide +kernel
theorem dX11_tongue_36 : decode cX11_tongue 36 = .ok (.ireturn, 1) := by decide +kernel
set_option maxRecDepth 20000 in
theorem ggX11_word_X8_hasWord : GoodIn wsX11_word wsX8_hasWord := goodIn_r _ [11, 12, 34, 35, 36, 37, 38, 39, 40, 41, 42] (by decide +kernel) (by decide +kernel)
set_option maxRecDepth 20000 in
theorem gX11_word_X8_hasWord : GoodIn wsX11_word (wsV RX11 99 RX8 yX8_hasWord wsX8_hasWord) := goodIn_app (goodIn_of _ (by decide +kernel)) ggX11_word_X8_hasWord
set_option maxRecDepth 20000 in
theorem ggX11_word_X11_refuse : GoodIn wsX11_word wsX11_refuse := goodIn_r _ [17, 18, 19, 20, 21, 22, 23, 24, 25, 26, 27, 28, 29, 30] (by decide +kernel) (by decide +kernel)
set_option maxRecDepth 20000 in
theorem gX11_word_X11_refuse : GoodIn wsX11_word (wsV RX11 77 RX11 yX11_refuse wsX11_refuse) := goodIn_app (goodIn_of _ (by decide +kernel)) ggX11_word_X11_refuse
theorem dX11_word_0 : decode cX11_word 0 = .ok (.aload_n 0, 1) := by decide +kernel
theorem dX11_word_1 : decode cX11_word 1 = .ok (.getfield 19, 3) := by decide +kernel
theorem dX11_word_4 : decode cX11_word 4 = .ok (.getfield 88, 3) := by decide +kernel
theorem dX11_word_7 : decode cX11_word 7 = .ok (.astore_n 3, 1) := by decide +kernel
theorem dX11_word_8 : decode cX11_word 8 = .ok (.aload_n 3, 1) := by decide +kernel
theorem dX11_word_9 : decode cX11_word 9 = .ok (.iload_n 1, 1) := by decide +kernel
theorem dX11_word_10 : decode cX11_word 10 = .ok (.invokevirtual 99, 3) := by decide +kernel
theorem dX11_word_13 : decode cX11_word 13 = .ok (.ifCond .ne 9, 3) := by decide +kernel
theorem dX11_word_16 : decode cX11_word 16 = .ok (.aload_n 0, 1) := by decide +kernel
theorem dX11_word_17 : decode cX11_word 17 = .ok (.iconst (-1), 1) := by decide +kernel
theorem dX11_word_18 : decode cX11_word 18 = .ok (.invokevirtual 77, 3) := by decide +kernel
theorem dX11_word_21 : decode cX11_word 21 = .ok (.ireturn, 1) := by decide +kernel
theorem dX11_word_22 : decode cX11_word 22 = .ok (.iload_n 2, 1) := by decide +kernel
theorem dX11_word_23 : decode cX11_word 23 = .ok (.tableswitch 57 0 3 #[29, 36, 43, 50], 29) := by decide +kernel
theorem dX11_word_52 : decode cX11_word 52 = .ok (.aload_n 3, 1) := by decide +kernel
theorem dX11_word_53 : decode cX11_word 53 = .ok (.getfield 105, 3) := by decide +kernel
theorem dX11_word_56 : decode cX11_word 56 = .ok (.iload_n 1, 1) := by decide +kernel
theorem dX11_word_57 : decode cX11_word 57 = .ok (.iaload, 1) := by decide +kernel
theorem dX11_word_58 : decode cX11_word 58 = .ok (.ireturn, 1) := by decide +kernel
theorem dX11_word_59 : decode cX11_word 59 = .ok (.aload_n 3, 1) := by decide +kernel
theorem dX11_word_60 : decode cX11_word 60 = .ok (.getfield 108, 3) := by decide +kernel
theorem dX11_word_63 : decode cX11_word 63 = .ok (.iload_n 1, 1) := by decide +kernel
theorem dX11_word_64 : decode cX11_word 64 = .ok (.iaload, 1) := by decide +kernel
theorem dX11_word_65 : decode cX11_word 65 = .ok (.ireturn, 1) := by decide +kernel
theorem dX11_word_66 : decode cX11_word 66 = .ok (.aload_n 3, 1) := by decide +kernel
theorem dX11_word_67 : decode cX11_word 67 = .ok (.getfield 111, 3) := by decide +kernel
theorem dX11_word_70 : decode cX11_word 70 = .ok (.iload_n 1, 1) := by decide +kernel
theorem dX11_word_71 : decode cX11_word 71 = .ok (.iaload, 1) := by decide +kernel
theorem dX11_word_72 : decode cX11_word 72 = .ok (.ireturn, 1) := by decide +kernel
theorem dX11_word_73 : decode cX11_word 73 = .ok (.aload_n 3, 1) := by decide +kernel
theorem dX11_word_74 : decode cX11_word 74 = .ok (.getfield 114, 3) := by decide +kernel
theorem dX11_word_77 : decode cX11_word 77 = .ok (.iload_n 1, 1) := by decide +kernel
theorem dX11_word_78 : decode cX11_word 78 = .ok (.iaload, 1) := by decide +kernel
theorem dX11_word_79 : decode cX11_word 79 = .ok (.ireturn, 1) := by decide +kernel
theorem dX11_word_80 : decode cX11_word 80 = .ok (.aload_n 0, 1) := by decide +kernel
theorem dX11_word_81 : decode cX11_word 81 = .ok (.bipush (-2), 2) := by decide +kernel
theorem dX11_word_83 : decode cX11_word 83 = .ok (.invokevirtual 77, 3) := by decide +kernel
theorem dX11_word_86 : decode cX11_word 86 = .ok (.ireturn, 1) := by decide +kernel
set_option maxRecDepth 20000 in
theorem ggX11_road_X8_hasRoad : GoodIn wsX11_road wsX8_hasRoad := goodIn_r _ [13, 14, 61, 62, 63, 64, 65, 66, 67, 68, 69] (by decide +kernel) (by decide +kernel)
set_option maxRecDepth 20000 in
theorem gX11_road_X8_hasRoad : GoodIn wsX11_road (wsV RX11 117 RX8 yX8_hasRoad wsX8_hasRoad) := goodIn_app (goodIn_of _ (by decide +kernel)) ggX11_road_X8_hasRoad
set_option maxRecDepth 20000 in
theorem ggX11_road_X11_refuse : GoodIn wsX11_road wsX11_refuse := goodIn_r _ [19, 20, 46, 47, 48, 49, 50, 51, 52, 53, 54, 55, 56, 57] (by decide +kernel) (by decide +kernel)
set_option maxRecDepth 20000 in
theorem gX11_road_X11_refuse : GoodIn wsX11_road (wsV RX11 77 RX11 yX11_refuse wsX11_refuse) := goodIn_app (goodIn_of _ (by decide +kernel)) ggX11_road_X11_refuse
set_option maxRecDepth 20000 in
theorem ggX11_road_X8_beginOf : GoodIn wsX11_road wsX8_beginOf := goodIn_r _ [24, 25, 61, 62, 63, 64, 65, 66, 67, 68, 69] (by decide +kernel) (by decide +kernel)
set_option maxRecDepth 20000 in
theorem gX11_road_X8_beginOf : GoodIn wsX11_road (wsV RX11 138 RX8 yX8_beginOf wsX8_beginOf) := goodIn_app (goodIn_of _ (by decide +kernel)) ggX11_road_X8_beginOf
set_option maxRecDepth 20000 in
theorem ggX11_road_X8_readByRoad : GoodIn wsX11_road wsX8_readByRoad := goodIn_r _ [29, 30, 31, 22, 23, 12, 24, 25, 32, 33, 34, 35, 36, 37, 38, 39, 40, 41, 42, 43, 44, 45, 61, 62, 63, 64, 65, 66, 67, 68, 69] (by decide +kernel) (by decide +kernel)
set_option maxRecDepth 20000 in
theorem gX11_road_X8_readByRoad : GoodIn wsX11_road (wsV RX11 145 RX8 yX8_readByRoad wsX8_readByRoad) := goodIn_app (goodIn_of _ (by decide +kernel)) ggX11_road_X8_readByRoad
theorem dX11_road_0 : decode cX11_road 0 = .ok (.aload_n 0, 1) := by decide +kernel
theorem dX11_road_1 : decode cX11_road 1 = .ok (.getfield 19, 3) := by decide +kernel
theorem dX11_road_4 : decode cX11_road 4 = .ok (.getfield 88, 3) := by decide +kernel
theorem dX11_road_7 : decode cX11_road 7 = .ok (.astore_n 3, 1) := by decide +kernel
theorem dX11_road_8 : decode cX11_road 8 = .ok (.aload_n 3, 1) := by decide +kernel
theorem dX11_road_9 : decode cX11_road 9 = .ok (.iload_n 1, 1) := by decide +kernel
theorem dX11_road_10 : decode cX11_road 10 = .ok (.invokevirtual 117, 3) := by decide +kernel
theorem dX11_road_13 : decode cX11_road 13 = .ok (.ifCond .ne 9, 3) := by decide +kernel
theorem dX11_road_16 : decode cX11_road 16 = .ok (.aload_n 0, 1) := by decide +kernel
theorem dX11_road_17 : decode cX11_road 17 = .ok (.iconst (-1), 1) := by decide +kernel
theorem dX11_road_18 : decode cX11_road 18 = .ok (.invokevirtual 77, 3) := by decide +kernel
theorem dX11_road_21 : decode cX11_road 21 = .ok (.ireturn, 1) := by decide +kernel
theorem dX11_road_22 : decode cX11_road 22 = .ok (.iload_n 2, 1) := by decide +kernel
theorem dX11_road_23 : decode cX11_road 23 = .ok (.tableswitch 114 0 4 #[33, 40, 47, 54, 88], 33) := by decide +kernel
theorem dX11_road_56 : decode cX11_road 56 = .ok (.aload_n 3, 1) := by decide +kernel
theorem dX11_road_57 : decode cX11_road 57 = .ok (.getfield 120, 3) := by decide +kernel
theorem dX11_road_60 : decode cX11_road 60 = .ok (.iload_n 1, 1) := by decide +kernel
theorem dX11_road_61 : decode cX11_road 61 = .ok (.iaload, 1) := by decide +kernel
theorem dX11_road_62 : decode cX11_road 62 = .ok (.ireturn, 1) := by decide +kernel
theorem dX11_road_63 : decode cX11_road 63 = .ok (.aload_n 3, 1) := by decide +kernel
theorem dX11_road_64 : decode cX11_road 64 = .ok (.getfield 123, 3) := by decide +kernel
theorem dX11_road_67 : decode cX11_road 67 = .ok (.iload_n 1, 1) := by decide +kernel
theorem dX11_road_68 : decode cX11_road 68 = .ok (.iaload, 1) := by decide +kernel
theorem dX11_road_69 : decode cX11_road 69 = .ok (.ireturn, 1) := by decide +kernel
theorem dX11_road_70 : decode cX11_road 70 = .ok (.aload_n 3, 1) := by decide +kernel
theorem dX11_road_71 : decode cX11_road 71 = .ok (.getfield 126, 3) := by decide +kernel
theorem dX11_road_74 : decode cX11_road 74 = .ok (.iload_n 1, 1) := by decide +kernel
theorem dX11_road_75 : decode cX11_road 75 = .ok (.iaload, 1) := by decide +kernel
theorem dX11_road_76 : decode cX11_road 76 = .ok (.ireturn, 1) := by decide +kernel
theorem dX11_road_77 : decode cX11_road 77 = .ok (.aload_n 0, 1) := by decide +kernel
theorem dX11_road_78 : decode cX11_road 78 = .ok (.getfield 19, 3) := by decide +kernel
theorem dX11_road_81 : decode cX11_road 81 = .ok (.getfield 129, 3) := by decide +kernel
theorem dX11_road_84 : decode cX11_road 84 = .ok (.getfield 133, 3) := by decide +kernel
theorem dX11_road_87 : decode cX11_road 87 = .ok (.ifCond .ne 8, 3) := by decide +kernel
theorem dX11_road_90 : decode cX11_road 90 = .ok (.bipush (-9), 2) := by decide +kernel
theorem dX11_road_92 : decode cX11_road 92 = .ok (.goto 18, 3) := by decide +kernel
theorem dX11_road_95 : decode cX11_road 95 = .ok (.aload_n 3, 1) := by decide +kernel
theorem dX11_road_96 : decode cX11_road 96 = .ok (.iload_n 1, 1) := by decide +kernel
theorem dX11_road_97 : decode cX11_road 97 = .ok (.aload_n 0, 1) := by decide +kernel
theorem dX11_road_98 : decode cX11_road 98 = .ok (.getfield 19, 3) := by decide +kernel
theorem dX11_road_101 : decode cX11_road 101 = .ok (.getfield 129, 3) := by decide +kernel
theorem dX11_road_104 : decode cX11_road 104 = .ok (.getfield 133, 3) := by decide +kernel
theorem dX11_road_107 : decode cX11_road 107 = .ok (.invokevirtual 138, 3) := by decide +kernel
theorem dX11_road_110 : decode cX11_road 110 = .ok (.ireturn, 1) := by decide +kernel
theorem dX11_road_111 : decode cX11_road 111 = .ok (.aload_n 3, 1) := by decide +kernel
theorem dX11_road_112 : decode cX11_road 112 = .ok (.iload_n 1, 1) := by decide +kernel
theorem dX11_road_113 : decode cX11_road 113 = .ok (.aload_n 0, 1) := by decide +kernel
theorem dX11_road_114 : decode cX11_road 114 = .ok (.getfield 19, 3) := by decide +kernel
theorem dX11_road_117 : decode cX11_road 117 = .ok (.getfield 129, 3) := by decide +kernel
theorem dX11_road_120 : decode cX11_road 120 = .ok (.getfield 142, 3) := by decide +kernel
theorem dX11_road_123 : decode cX11_road 123 = .ok (.aload_n 0, 1) := by decide +kernel
theorem dX11_road_124 : decode cX11_road 124 = .ok (.getfield 19, 3) := by decide +kernel
theorem dX11_road_127 : decode cX11_road 127 = .ok (.getfield 129, 3) := by decide +kernel
theorem dX11_road_130 : decode cX11_road 130 = .ok (.getfield 133, 3) := by decide +kernel
theorem dX11_road_133 : decode cX11_road 133 = .ok (.invokevirtual 145, 3) := by decide +kernel
theorem dX11_road_136 : decode cX11_road 136 = .ok (.ireturn, 1) := by decide +kernel
theorem dX11_road_137 : decode cX11_road 137 = .ok (.aload_n 0, 1) := by decide +kernel
theorem dX11_road_138 : decode cX11_road 138 = .ok (.bipush (-2), 2) := by decide +kernel
theorem dX11_road_140 : decode cX11_road 140 = .ok (.invokevirtual 77, 3) := by decide +kernel
theorem dX11_road_143 : decode cX11_road 143 = .ok (.ireturn, 1) := by decide +kernel
set_option maxRecDepth 20000 in
theorem ggX11_stone_X11_isWordOrBlank : GoodIn wsX11_stone wsX11_isWordOrBlank := goodIn_r _ [10, 1, 11, 12, 13, 14, 15, 16, 17, 30, 31, 32, 33, 34, 35, 36, 37, 38, 39, 40, 41, 42, 43, 44, 56, 57, 58, 59, 60, 61, 62, 63, 64] (by decide +kernel) (by decide +kernel)
set_option maxRecDepth 20000 in
theorem gX11_stone_X11_isWordOrBlank : GoodIn wsX11_stone (wsV RX11 149 RX11 yX11_isWordOrBlank wsX11_isWordOrBlank) := goodIn_app (goodIn_of _ (by decide +kernel)) ggX11_stone_X11_isWordOrBlank
set_option maxRecDepth 20000 in
theorem ggX11_stone_X11_refuse : GoodIn wsX11_stone wsX11_refuse := goodIn_r _ [21, 22, 30, 31, 32, 33, 34, 35, 36, 37, 38, 39, 40, 41] (by decide +kernel) (by decide +kernel)
set_option maxRecDepth 20000 in
theorem gX11_stone_X11_refuse : GoodIn wsX11_stone (wsV RX11 77 RX11 yX11_refuse wsX11_refuse) := goodIn_app (goodIn_of _ (by decide +kernel)) ggX11_stone_X11_refuse
set_option maxRecDepth 20000 in
theorem ggX11_stone_X4_add : GoodIn wsX11_stone wsX4_add := goodIn_r _ [27, 28, 29, 45, 46] (by decide +kernel) (by decide +kernel)
set_option maxRecDepth 20000 in
theorem gX11_stone_X4_add : GoodIn wsX11_stone (wsV RX11 155 RX4 yX4_add wsX4_add) := goodIn_app (goodIn_of _ (by decide +kernel)) ggX11_stone_X4_add
theorem dX11_stone_0 : decode cX11_stone 0 = .ok (.aload_n 0, 1) := by decide +kernel
theorem dX11_stone_1 : decode cX11_stone 1 = .ok (.iload_n 1, 1) := by decide +kernel
theorem dX11_stone_2 : decode cX11_stone 2 = .ok (.invokevirtual 149, 3) := by decide +kernel
theorem dX11_stone_5 : decode cX11_stone 5 = .ok (.ifCond .ne 9, 3) := by decide +kernel
theorem dX11_stone_8 : decode cX11_stone 8 = .ok (.aload_n 0, 1) := by decide +kernel
theorem dX11_stone_9 : decode cX11_stone 9 = .ok (.iconst (-1), 1) := by decide +kernel
theorem dX11_stone_10 : decode cX11_stone 10 = .ok (.invokevirtual 77, 3) := by decide +kernel
theorem dX11_stone_13 : decode cX11_stone 13 = .ok (.ireturn, 1) := by decide +kernel
theorem dX11_stone_14 : decode cX11_stone 14 = .ok (.aload_n 0, 1) := by decide +kernel
theorem dX11_stone_15 : decode cX11_stone 15 = .ok (.getfield 19, 3) := by decide +kernel
theorem dX11_stone_18 : decode cX11_stone 18 = .ok (.getfield 129, 3) := by decide +kernel
theorem dX11_stone_21 : decode cX11_stone 21 = .ok (.getfield 133, 3) := by decide +kernel
theorem dX11_stone_24 : decode cX11_stone 24 = .ok (.bipush 12, 2) := by decide +kernel
theorem dX11_stone_26 : decode cX11_stone 26 = .ok (.if_icmp .lt 10, 3) := by decide +kernel
theorem dX11_stone_29 : decode cX11_stone 29 = .ok (.aload_n 0, 1) := by decide +kernel
theorem dX11_stone_30 : decode cX11_stone 30 = .ok (.bipush (-6), 2) := by decide +kernel
theorem dX11_stone_32 : decode cX11_stone 32 = .ok (.invokevirtual 77, 3) := by decide +kernel
theorem dX11_stone_35 : decode cX11_stone 35 = .ok (.ireturn, 1) := by decide +kernel
theorem dX11_stone_36 : decode cX11_stone 36 = .ok (.aload_n 0, 1) := by decide +kernel
theorem dX11_stone_37 : decode cX11_stone 37 = .ok (.getfield 56, 3) := by decide +kernel
theorem dX11_stone_40 : decode cX11_stone 40 = .ok (.iconst 0, 1) := by decide +kernel
theorem dX11_stone_41 : decode cX11_stone 41 = .ok (.putfield 152, 3) := by decide +kernel
theorem dX11_stone_44 : decode cX11_stone 44 = .ok (.aload_n 0, 1) := by decide +kernel
theorem dX11_stone_45 : decode cX11_stone 45 = .ok (.getfield 19, 3) := by decide +kernel
theorem dX11_stone_48 : decode cX11_stone 48 = .ok (.getfield 129, 3) := by decide +kernel
theorem dX11_stone_51 : decode cX11_stone 51 = .ok (.iload_n 1, 1) := by decide +kernel
theorem dX11_stone_52 : decode cX11_stone 52 = .ok (.invokevirtual 155, 3) := by decide +kernel
theorem dX11_stone_55 : decode cX11_stone 55 = .ok (.ireturn, 1) := by decide +kernel
set_option maxRecDepth 20000 in
theorem ggX11_put_X4_hasPlace : GoodIn wsX11_put wsX4_hasPlace := goodIn_r _ [10, 11, 49, 50] (by decide +kernel) (by decide +kernel)
set_option maxRecDepth 20000 in
theorem gX11_put_X4_hasPlace : GoodIn wsX11_put (wsV RX11 156 RX4 yX4_hasPlace wsX4_hasPlace) := goodIn_app (goodIn_of _ (by decide +kernel)) ggX11_put_X4_hasPlace
set_option maxRecDepth 20000 in
theorem ggX11_put_X11_isWordOrBlank : GoodIn wsX11_put wsX11_isWordOrBlank := goodIn_r _ [16, 1, 17, 18, 19, 20, 21, 22, 23, 34, 35, 36, 37, 38, 39, 40, 41, 42, 43, 44, 45, 46, 47, 48, 60, 61, 62, 63, 64, 65, 66, 67, 68] (by decide +kernel) (by decide +kernel)
set_option maxRecDepth 20000 in
theorem gX11_put_X11_isWordOrBlank : GoodIn wsX11_put (wsV RX11 149 RX11 yX11_isWordOrBlank wsX11_isWordOrBlank) := goodIn_app (goodIn_of _ (by decide +kernel)) ggX11_put_X11_isWordOrBlank
set_option maxRecDepth 20000 in
theorem ggX11_put_X11_refuse : GoodIn wsX11_put wsX11_refuse := goodIn_r _ [27, 28, 34, 35, 36, 37, 38, 39, 40, 41, 42, 43, 44, 45] (by decide +kernel) (by decide +kernel)
set_option maxRecDepth 20000 in
theorem gX11_put_X11_refuse : GoodIn wsX11_put (wsV RX11 77 RX11 yX11_refuse wsX11_refuse) := goodIn_app (goodIn_of _ (by decide +kernel)) ggX11_put_X11_refuse
set_option maxRecDepth 20000 in
theorem ggX11_put_X4_toldAt : GoodIn wsX11_put wsX4_toldAt := goodIn_r _ [32, 33, 49, 50] (by decide +kernel) (by decide +kernel)
set_option maxRecDepth 20000 in
theorem gX11_put_X4_toldAt : GoodIn wsX11_put (wsV RX11 159 RX4 yX4_toldAt wsX4_toldAt) := goodIn_app (goodIn_of _ (by decide +kernel)) ggX11_put_X4_toldAt
theorem dX11_put_0 : decode cX11_put 0 = .ok (.aload_n 0, 1) := by decide +kernel
theorem dX11_put_1 : decode cX11_put 1 = .ok (.getfield 19, 3) := by decide +kernel
theorem dX11_put_4 : decode cX11_put 4 = .ok (.getfield 129, 3) := by decide +kernel
theorem dX11_put_7 : decode cX11_put 7 = .ok (.iload_n 1, 1) := by decide +kernel
theorem dX11_put_8 : decode cX11_put 8 = .ok (.invokevirtual 156, 3) := by decide +kernel
theorem dX11_put_11 : decode cX11_put 11 = .ok (.ifCond .eq 11, 3) := by decide +kernel
theorem dX11_put_14 : decode cX11_put 14 = .ok (.aload_n 0, 1) := by decide +kernel
theorem dX11_put_15 : decode cX11_put 15 = .ok (.iload_n 2, 1) := by decide +kernel
theorem dX11_put_16 : decode cX11_put 16 = .ok (.invokevirtual 149, 3) := by decide +kernel
theorem dX11_put_19 : decode cX11_put 19 = .ok (.ifCond .ne 9, 3) := by decide +kernel
theorem dX11_put_22 : decode cX11_put 22 = .ok (.aload_n 0, 1) := by decide +kernel
theorem dX11_put_23 : decode cX11_put 23 = .ok (.iconst (-1), 1) := by decide +kernel
theorem dX11_put_24 : decode cX11_put 24 = .ok (.invokevirtual 77, 3) := by decide +kernel
theorem dX11_put_27 : decode cX11_put 27 = .ok (.ireturn, 1) := by decide +kernel
theorem dX11_put_28 : decode cX11_put 28 = .ok (.aload_n 0, 1) := by decide +kernel
theorem dX11_put_29 : decode cX11_put 29 = .ok (.getfield 19, 3) := by decide +kernel
theorem dX11_put_32 : decode cX11_put 32 = .ok (.getfield 129, 3) := by decide +kernel
theorem dX11_put_35 : decode cX11_put 35 = .ok (.iload_n 1, 1) := by decide +kernel
theorem dX11_put_36 : decode cX11_put 36 = .ok (.invokevirtual 159, 3) := by decide +kernel
theorem dX11_put_39 : decode cX11_put 39 = .ok (.istore_n 3, 1) := by decide +kernel
theorem dX11_put_40 : decode cX11_put 40 = .ok (.aload_n 0, 1) := by decide +kernel
theorem dX11_put_41 : decode cX11_put 41 = .ok (.getfield 19, 3) := by decide +kernel
theorem dX11_put_44 : decode cX11_put 44 = .ok (.getfield 129, 3) := by decide +kernel
theorem dX11_put_47 : decode cX11_put 47 = .ok (.getfield 142, 3) := by decide +kernel
theorem dX11_put_50 : decode cX11_put 50 = .ok (.iload_n 1, 1) := by decide +kernel
theorem dX11_put_51 : decode cX11_put 51 = .ok (.iload_n 2, 1) := by decide +kernel
theorem dX11_put_52 : decode cX11_put 52 = .ok (.iastore, 1) := by decide +kernel
theorem dX11_put_53 : decode cX11_put 53 = .ok (.aload_n 0, 1) := by decide +kernel
theorem dX11_put_54 : decode cX11_put 54 = .ok (.getfield 56, 3) := by decide +kernel
theorem dX11_put_57 : decode cX11_put 57 = .ok (.iconst 0, 1) := by decide +kernel
theorem dX11_put_58 : decode cX11_put 58 = .ok (.putfield 152, 3) := by decide +kernel
theorem dX11_put_61 : decode cX11_put 61 = .ok (.iload_n 3, 1) := by decide +kernel
theorem dX11_put_62 : decode cX11_put 62 = .ok (.ireturn, 1) := by decide +kernel
set_option maxRecDepth 20000 in
theorem ggX11_turn_X11_refuse : GoodIn wsX11_turn wsX11_refuse := goodIn_r _ [16, 17, 18, 19, 20, 21, 22, 23, 24, 25, 26, 27, 28, 29] (by decide +kernel) (by decide +kernel)
set_option maxRecDepth 20000 in
theorem gX11_turn_X11_refuse : GoodIn wsX11_turn (wsV RX11 77 RX11 yX11_refuse wsX11_refuse) := goodIn_app (goodIn_of _ (by decide +kernel)) ggX11_turn_X11_refuse
theorem dX11_turn_0 : decode cX11_turn 0 = .ok (.iload_n 1, 1) := by decide +kernel
theorem dX11_turn_1 : decode cX11_turn 1 = .ok (.ifCond .ge 10, 3) := by decide +kernel
theorem dX11_turn_4 : decode cX11_turn 4 = .ok (.aload_n 0, 1) := by decide +kernel
theorem dX11_turn_5 : decode cX11_turn 5 = .ok (.bipush (-4), 2) := by decide +kernel
theorem dX11_turn_7 : decode cX11_turn 7 = .ok (.invokevirtual 77, 3) := by decide +kernel
theorem dX11_turn_10 : decode cX11_turn 10 = .ok (.ireturn, 1) := by decide +kernel
theorem dX11_turn_11 : decode cX11_turn 11 = .ok (.iload_n 1, 1) := by decide +kernel
theorem dX11_turn_12 : decode cX11_turn 12 = .ok (.bipush 12, 2) := by decide +kernel
theorem dX11_turn_14 : decode cX11_turn 14 = .ok (.if_icmp .lt 10, 3) := by decide +kernel
theorem dX11_turn_17 : decode cX11_turn 17 = .ok (.aload_n 0, 1) := by decide +kernel
theorem dX11_turn_18 : decode cX11_turn 18 = .ok (.bipush (-6), 2) := by decide +kernel
theorem dX11_turn_20 : decode cX11_turn 20 = .ok (.invokevirtual 77, 3) := by decide +kernel
theorem dX11_turn_23 : decode cX11_turn 23 = .ok (.ireturn, 1) := by decide +kernel
theorem dX11_turn_24 : decode cX11_turn 24 = .ok (.aload_n 0, 1) := by decide +kernel
theorem dX11_turn_25 : decode cX11_turn 25 = .ok (.getfield 19, 3) := by decide +kernel
theorem dX11_turn_28 : decode cX11_turn 28 = .ok (.getfield 129, 3) := by decide +kernel
theorem dX11_turn_31 : decode cX11_turn 31 = .ok (.astore_n 2, 1) := by decide +kernel
theorem dX11_turn_32 : decode cX11_turn 32 = .ok (.aload_n 2, 1) := by decide +kernel
theorem dX11_turn_33 : decode cX11_turn 33 = .ok (.getfield 133, 3) := by decide +kernel
theorem dX11_turn_36 : decode cX11_turn 36 = .ok (.iconst 1, 1) := by decide +kernel
theorem dX11_turn_37 : decode cX11_turn 37 = .ok (.if_icmp .ge 10, 3) := by decide +kernel
theorem dX11_turn_40 : decode cX11_turn 40 = .ok (.aload_n 0, 1) := by decide +kernel
theorem dX11_turn_41 : decode cX11_turn 41 = .ok (.bipush (-3), 2) := by decide +kernel
theorem dX11_turn_43 : decode cX11_turn 43 = .ok (.invokevirtual 77, 3) := by decide +kernel
theorem dX11_turn_46 : decode cX11_turn 46 = .ok (.ireturn, 1) := by decide +kernel
theorem dX11_turn_47 : decode cX11_turn 47 = .ok (.iconst 0, 1) := by decide +kernel
theorem dX11_turn_48 : decode cX11_turn 48 = .ok (.istore_n 3, 1) := by decide +kernel
theorem dX11_turn_49 : decode cX11_turn 49 = .ok (.iload_n 3, 1) := by decide +kernel
theorem dX11_turn_50 : decode cX11_turn 50 = .ok (.aload_n 2, 1) := by decide +kernel
theorem dX11_turn_51 : decode cX11_turn 51 = .ok (.getfield 133, 3) := by decide +kernel
theorem dX11_turn_54 : decode cX11_turn 54 = .ok (.if_icmp .ge 28, 3) := by decide +kernel
theorem dX11_turn_57 : decode cX11_turn 57 = .ok (.aload_n 0, 1) := by decide +kernel
theorem dX11_turn_58 : decode cX11_turn 58 = .ok (.getfield 67, 3) := by decide +kernel
theorem dX11_turn_61 : decode cX11_turn 61 = .ok (.iload_n 3, 1) := by decide +kernel
theorem dX11_turn_62 : decode cX11_turn 62 = .ok (.aload_n 2, 1) := by decide +kernel
theorem dX11_turn_63 : decode cX11_turn 63 = .ok (.getfield 142, 3) := by decide +kernel
theorem dX11_turn_66 : decode cX11_turn 66 = .ok (.iload_n 3, 1) := by decide +kernel
theorem dX11_turn_67 : decode cX11_turn 67 = .ok (.iload_n 1, 1) := by decide +kernel
theorem dX11_turn_68 : decode cX11_turn 68 = .ok (.iadd, 1) := by decide +kernel
theorem dX11_turn_69 : decode cX11_turn 69 = .ok (.aload_n 2, 1) := by decide +kernel
theorem dX11_turn_70 : decode cX11_turn 70 = .ok (.getfield 133, 3) := by decide +kernel
theorem dX11_turn_73 : decode cX11_turn 73 = .ok (.irem, 1) := by decide +kernel
theorem dX11_turn_74 : decode cX11_turn 74 = .ok (.iaload, 1) := by decide +kernel
theorem dX11_turn_75 : decode cX11_turn 75 = .ok (.iastore, 1) := by decide +kernel
theorem dX11_turn_76 : decode cX11_turn 76 = .ok (.iinc 3 1, 3) := by decide +kernel
theorem dX11_turn_79 : decode cX11_turn 79 = .ok (.goto (-30), 3) := by decide +kernel
theorem dX11_turn_82 : decode cX11_turn 82 = .ok (.aload_n 0, 1) := by decide +kernel
theorem dX11_turn_83 : decode cX11_turn 83 = .ok (.getfield 67, 3) := by decide +kernel
theorem dX11_turn_86 : decode cX11_turn 86 = .ok (.iconst 0, 1) := by decide +kernel
theorem dX11_turn_87 : decode cX11_turn 87 = .ok (.aload_n 2, 1) := by decide +kernel
theorem dX11_turn_88 : decode cX11_turn 88 = .ok (.getfield 142, 3) := by decide +kernel
theorem dX11_turn_91 : decode cX11_turn 91 = .ok (.iconst 0, 1) := by decide +kernel
theorem dX11_turn_92 : decode cX11_turn 92 = .ok (.aload_n 2, 1) := by decide +kernel
theorem dX11_turn_93 : decode cX11_turn 93 = .ok (.getfield 133, 3) := by decide +kernel
theorem dX11_turn_96 : decode cX11_turn 96 = .ok (.invokestatic 162, 3) := by decide +kernel
theorem dX11_turn_99 : decode cX11_turn 99 = .ok (.aload_n 0, 1) := by decide +kernel
theorem dX11_turn_100 : decode cX11_turn 100 = .ok (.getfield 56, 3) := by decide +kernel
theorem dX11_turn_103 : decode cX11_turn 103 = .ok (.iconst 0, 1) := by decide +kernel
theorem dX11_turn_104 : decode cX11_turn 104 = .ok (.putfield 152, 3) := by decide +kernel
theorem dX11_turn_107 : decode cX11_turn 107 = .ok (.aload_n 2, 1) := by decide +kernel
theorem dX11_turn_108 : decode cX11_turn 108 = .ok (.getfield 133, 3) := by decide +kernel
theorem dX11_turn_111 : decode cX11_turn 111 = .ok (.ireturn, 1) := by decide +kernel
theorem dX11_bare_0 : decode cX11_bare 0 = .ok (.aload_n 0, 1) := by decide +kernel
theorem dX11_bare_1 : decode cX11_bare 1 = .ok (.getfield 19, 3) := by decide +kernel
theorem dX11_bare_4 : decode cX11_bare 4 = .ok (.getfield 129, 3) := by decide +kernel
theorem dX11_bare_7 : decode cX11_bare 7 = .ok (.getfield 133, 3) := by decide +kernel
theorem dX11_bare_10 : decode cX11_bare 10 = .ok (.istore_n 1, 1) := by decide +kernel
theorem dX11_bare_11 : decode cX11_bare 11 = .ok (.aload_n 0, 1) := by decide +kernel
theorem dX11_bare_12 : decode cX11_bare 12 = .ok (.getfield 19, 3) := by decide +kernel
theorem dX11_bare_15 : decode cX11_bare 15 = .ok (.getfield 129, 3) := by decide +kernel
theorem dX11_bare_18 : decode cX11_bare 18 = .ok (.iconst 0, 1) := by decide +kernel
theorem dX11_bare_19 : decode cX11_bare 19 = .ok (.putfield 133, 3) := by decide +kernel
theorem dX11_bare_22 : decode cX11_bare 22 = .ok (.aload_n 0, 1) := by decide +kernel
theorem dX11_bare_23 : decode cX11_bare 23 = .ok (.getfield 56, 3) := by decide +kernel
theorem dX11_bare_26 : decode cX11_bare 26 = .ok (.iconst 0, 1) := by decide +kernel
theorem dX11_bare_27 : decode cX11_bare 27 = .ok (.putfield 152, 3) := by decide +kernel
theorem dX11_bare_30 : decode cX11_bare 30 = .ok (.iload_n 1, 1) := by decide +kernel
theorem dX11_bare_31 : decode cX11_bare 31 = .ok (.ireturn, 1) := by decide +kernel
set_option maxRecDepth 20000 in
theorem ggX11_at_X4_hasPlace : GoodIn wsX11_at wsX4_hasPlace := goodIn_r _ [7, 8, 35, 36] (by decide +kernel) (by decide +kernel)
set_option maxRecDepth 20000 in
theorem gX11_at_X4_hasPlace : GoodIn wsX11_at (wsV RX11 156 RX4 yX4_hasPlace wsX4_hasPlace) := goodIn_app (goodIn_of _ (by decide +kernel)) ggX11_at_X4_hasPlace
set_option maxRecDepth 20000 in
theorem ggX11_at_X4_toldAt : GoodIn wsX11_at wsX4_toldAt := goodIn_r _ [12, 13, 35, 36] (by decide +kernel) (by decide +kernel)
set_option maxRecDepth 20000 in
theorem gX11_at_X4_toldAt : GoodIn wsX11_at (wsV RX11 159 RX4 yX4_toldAt wsX4_toldAt) := goodIn_app (goodIn_of _ (by decide +kernel)) ggX11_at_X4_toldAt
set_option maxRecDepth 20000 in
theorem ggX11_at_X11_refuse : GoodIn wsX11_at wsX11_refuse := goodIn_r _ [18, 19, 20, 21, 22, 23, 24, 25, 26, 27, 28, 29, 30, 31] (by decide +kernel) (by decide +kernel)
set_option maxRecDepth 20000 in
theorem gX11_at_X11_refuse : GoodIn wsX11_at (wsV RX11 77 RX11 yX11_refuse wsX11_refuse) := goodIn_app (goodIn_of _ (by decide +kernel)) ggX11_at_X11_refuse
theorem dX11_at_0 : decode cX11_at 0 = .ok (.aload_n 0, 1) := by decide +kernel
theorem dX11_at_1 : decode cX11_at 1 = .ok (.getfield 19, 3) := by decide +kernel
theorem dX11_at_4 : decode cX11_at 4 = .ok (.getfield 129, 3) := by decide +kernel
theorem dX11_at_7 : decode cX11_at 7 = .ok (.iload_n 1, 1) := by decide +kernel
theorem dX11_at_8 : decode cX11_at 8 = .ok (.invokevirtual 156, 3) := by decide +kernel
theorem dX11_at_11 : decode cX11_at 11 = .ok (.ifCond .eq 17, 3) := by decide +kernel
theorem dX11_at_14 : decode cX11_at 14 = .ok (.aload_n 0, 1) := by decide +kernel
theorem dX11_at_15 : decode cX11_at 15 = .ok (.getfield 19, 3) := by decide +kernel
theorem dX11_at_18 : decode cX11_at 18 = .ok (.getfield 129, 3) := by decide +kernel
theorem dX11_at_21 : decode cX11_at 21 = .ok (.iload_n 1, 1) := by decide +kernel
theorem dX11_at_22 : decode cX11_at 22 = .ok (.invokevirtual 159, 3) := by decide +kernel
theorem dX11_at_25 : decode cX11_at 25 = .ok (.goto 8, 3) := by decide +kernel
theorem dX11_at_28 : decode cX11_at 28 = .ok (.aload_n 0, 1) := by decide +kernel
theorem dX11_at_29 : decode cX11_at 29 = .ok (.iconst (-1), 1) := by decide +kernel
theorem dX11_at_30 : decode cX11_at 30 = .ok (.invokevirtual 77, 3) := by decide +kernel
theorem dX11_at_33 : decode cX11_at 33 = .ok (.ireturn, 1) := by decide +kernel
set_option maxRecDepth 20000 in
theorem ggX11_reads_X4_hasPlace : GoodIn wsX11_reads wsX4_hasPlace := goodIn_r _ [10, 11, 51, 52] (by decide +kernel) (by decide +kernel)
set_option maxRecDepth 20000 in
theorem gX11_reads_X4_hasPlace : GoodIn wsX11_reads (wsV RX11 156 RX4 yX4_hasPlace wsX4_hasPlace) := goodIn_app (goodIn_of _ (by decide +kernel)) ggX11_reads_X4_hasPlace
set_option maxRecDepth 20000 in
theorem ggX11_reads_X11_refuse : GoodIn wsX11_reads wsX11_refuse := goodIn_r _ [16, 17, 36, 37, 38, 39, 40, 41, 42, 43, 44, 45, 46, 47] (by decide +kernel) (by decide +kernel)
set_option maxRecDepth 20000 in
theorem gX11_reads_X11_refuse : GoodIn wsX11_reads (wsV RX11 77 RX11 yX11_refuse wsX11_refuse) := goodIn_app (goodIn_of _ (by decide +kernel)) ggX11_reads_X11_refuse
set_option maxRecDepth 20000 in
theorem ggX11_reads_X11_isReader : GoodIn wsX11_reads wsX11_isReader := goodIn_r _ [20] (by decide +kernel) (by decide +kernel)
set_option maxRecDepth 20000 in
theorem gX11_reads_X11_isReader : GoodIn wsX11_reads (va_wsS RX11 168 yX11_isReader wsX11_isReader) := goodIn_app (goodIn_of _ (by decide +kernel)) ggX11_reads_X11_isReader
set_option maxRecDepth 20000 in
theorem ggX11_reads_X8_meaning : GoodIn wsX11_reads wsX8_meaning := goodIn_r _ [25, 26, 27, 28, 29, 24, 30, 31, 32, 33, 34, 35, 53, 54, 55, 56, 57, 58, 59, 60, 61] (by decide +kernel) (by decide +kernel)
set_option maxRecDepth 20000 in
theorem gX11_reads_X8_meaning : GoodIn wsX11_reads (wsV RX11 171 RX8 yX8_meaning wsX8_meaning) := goodIn_app (goodIn_of _ (by decide +kernel)) ggX11_reads_X8_meaning
theorem dX11_reads_0 : decode cX11_reads 0 = .ok (.aload_n 0, 1) := by decide +kernel
theorem dX11_reads_1 : decode cX11_reads 1 = .ok (.getfield 19, 3) := by decide +kernel
theorem dX11_reads_4 : decode cX11_reads 4 = .ok (.getfield 129, 3) := by decide +kernel
theorem dX11_reads_7 : decode cX11_reads 7 = .ok (.iload_n 1, 1) := by decide +kernel
theorem dX11_reads_8 : decode cX11_reads 8 = .ok (.invokevirtual 156, 3) := by decide +kernel
theorem dX11_reads_11 : decode cX11_reads 11 = .ok (.ifCond .ne 9, 3) := by decide +kernel
theorem dX11_reads_14 : decode cX11_reads 14 = .ok (.aload_n 0, 1) := by decide +kernel
theorem dX11_reads_15 : decode cX11_reads 15 = .ok (.iconst (-1), 1) := by decide +kernel
theorem dX11_reads_16 : decode cX11_reads 16 = .ok (.invokevirtual 77, 3) := by decide +kernel
theorem dX11_reads_19 : decode cX11_reads 19 = .ok (.ireturn, 1) := by decide +kernel
theorem dX11_reads_20 : decode cX11_reads 20 = .ok (.iload_n 2, 1) := by decide +kernel
theorem dX11_reads_21 : decode cX11_reads 21 = .ok (.invokestatic 168, 3) := by decide +kernel
theorem dX11_reads_24 : decode cX11_reads 24 = .ok (.ifCond .ne 10, 3) := by decide +kernel
theorem dX11_reads_27 : decode cX11_reads 27 = .ok (.aload_n 0, 1) := by decide +kernel
theorem dX11_reads_28 : decode cX11_reads 28 = .ok (.bipush (-2), 2) := by decide +kernel
theorem dX11_reads_30 : decode cX11_reads 30 = .ok (.invokevirtual 77, 3) := by decide +kernel
theorem dX11_reads_33 : decode cX11_reads 33 = .ok (.ireturn, 1) := by decide +kernel
theorem dX11_reads_34 : decode cX11_reads 34 = .ok (.aload_n 0, 1) := by decide +kernel
theorem dX11_reads_35 : decode cX11_reads 35 = .ok (.getfield 19, 3) := by decide +kernel
theorem dX11_reads_38 : decode cX11_reads 38 = .ok (.getfield 88, 3) := by decide +kernel
theorem dX11_reads_41 : decode cX11_reads 41 = .ok (.aload_n 0, 1) := by decide +kernel
theorem dX11_reads_42 : decode cX11_reads 42 = .ok (.getfield 19, 3) := by decide +kernel
theorem dX11_reads_45 : decode cX11_reads 45 = .ok (.getfield 129, 3) := by decide +kernel
theorem dX11_reads_48 : decode cX11_reads 48 = .ok (.getfield 142, 3) := by decide +kernel
theorem dX11_reads_51 : decode cX11_reads 51 = .ok (.aload_n 0, 1) := by decide +kernel
theorem dX11_reads_52 : decode cX11_reads 52 = .ok (.getfield 19, 3) := by decide +kernel
theorem dX11_reads_55 : decode cX11_reads 55 = .ok (.getfield 129, 3) := by decide +kernel
theorem dX11_reads_58 : decode cX11_reads 58 = .ok (.getfield 133, 3) := by decide +kernel
theorem dX11_reads_61 : decode cX11_reads 61 = .ok (.iload_n 1, 1) := by decide +kernel
theorem dX11_reads_62 : decode cX11_reads 62 = .ok (.iload_n 2, 1) := by decide +kernel
theorem dX11_reads_63 : decode cX11_reads 63 = .ok (.invokevirtual 171, 3) := by decide +kernel
theorem dX11_reads_66 : decode cX11_reads 66 = .ok (.ireturn, 1) := by decide +kernel
set_option maxRecDepth 20000 in
theorem ggX11_same_X11_isReader : GoodIn wsX11_same wsX11_isReader := goodIn_r _ [9] (by decide +kernel) (by decide +kernel)
set_option maxRecDepth 20000 in
theorem gX11_same_X11_isReader : GoodIn wsX11_same (va_wsS RX11 168 yX11_isReader wsX11_isReader) := goodIn_app (goodIn_of _ (by decide +kernel)) ggX11_same_X11_isReader
set_option maxRecDepth 20000 in
theorem ggX11_same_X11_refuse : GoodIn wsX11_same wsX11_refuse := goodIn_r _ [13, 14, 34, 35, 36, 37, 38, 39, 40, 41, 42, 43, 44, 45] (by decide +kernel) (by decide +kernel)
set_option maxRecDepth 20000 in
theorem gX11_same_X11_refuse : GoodIn wsX11_same (wsV RX11 77 RX11 yX11_refuse wsX11_refuse) := goodIn_app (goodIn_of _ (by decide +kernel)) ggX11_same_X11_refuse
set_option maxRecDepth 20000 in
theorem ggX11_same_X8_oneMeaning : GoodIn wsX11_same wsX8_oneMeaning := goodIn_r _ [19, 20, 21, 22, 18, 23, 24, 25, 26, 27, 28, 29, 30, 31, 32, 33, 51, 52, 53, 54, 55, 56, 57, 58, 59] (by decide +kernel) (by decide +kernel)
set_option maxRecDepth 20000 in
theorem gX11_same_X8_oneMeaning : GoodIn wsX11_same (wsV RX11 175 RX8 yX8_oneMeaning wsX8_oneMeaning) := goodIn_app (goodIn_of _ (by decide +kernel)) ggX11_same_X8_oneMeaning
theorem dX11_same_0 : decode cX11_same 0 = .ok (.iload_n 1, 1) := by decide +kernel
theorem dX11_same_1 : decode cX11_same 1 = .ok (.invokestatic 168, 3) := by decide +kernel
theorem dX11_same_4 : decode cX11_same 4 = .ok (.ifCond .ne 10, 3) := by decide +kernel
theorem dX11_same_7 : decode cX11_same 7 = .ok (.aload_n 0, 1) := by decide +kernel
theorem dX11_same_8 : decode cX11_same 8 = .ok (.bipush (-2), 2) := by decide +kernel
theorem dX11_same_10 : decode cX11_same 10 = .ok (.invokevirtual 77, 3) := by decide +kernel
theorem dX11_same_13 : decode cX11_same 13 = .ok (.ireturn, 1) := by decide +kernel
theorem dX11_same_14 : decode cX11_same 14 = .ok (.aload_n 0, 1) := by decide +kernel
theorem dX11_same_15 : decode cX11_same 15 = .ok (.getfield 19, 3) := by decide +kernel
theorem dX11_same_18 : decode cX11_same 18 = .ok (.getfield 88, 3) := by decide +kernel
theorem dX11_same_21 : decode cX11_same 21 = .ok (.aload_n 0, 1) := by decide +kernel
theorem dX11_same_22 : decode cX11_same 22 = .ok (.getfield 19, 3) := by decide +kernel
theorem dX11_same_25 : decode cX11_same 25 = .ok (.getfield 129, 3) := by decide +kernel
theorem dX11_same_28 : decode cX11_same 28 = .ok (.getfield 142, 3) := by decide +kernel
theorem dX11_same_31 : decode cX11_same 31 = .ok (.aload_n 0, 1) := by decide +kernel
theorem dX11_same_32 : decode cX11_same 32 = .ok (.getfield 19, 3) := by decide +kernel
theorem dX11_same_35 : decode cX11_same 35 = .ok (.getfield 129, 3) := by decide +kernel
theorem dX11_same_38 : decode cX11_same 38 = .ok (.getfield 133, 3) := by decide +kernel
theorem dX11_same_41 : decode cX11_same 41 = .ok (.iload_n 1, 1) := by decide +kernel
theorem dX11_same_42 : decode cX11_same 42 = .ok (.invokevirtual 175, 3) := by decide +kernel
theorem dX11_same_45 : decode cX11_same 45 = .ok (.bipush 16, 2) := by decide +kernel
theorem dX11_same_47 : decode cX11_same 47 = .ok (.if_icmp .ne 7, 3) := by decide +kernel
theorem dX11_same_50 : decode cX11_same 50 = .ok (.iconst 0, 1) := by decide +kernel
theorem dX11_same_51 : decode cX11_same 51 = .ok (.goto 4, 3) := by decide +kernel
theorem dX11_same_54 : decode cX11_same 54 = .ok (.iconst 1, 1) := by decide +kernel
theorem dX11_same_55 : decode cX11_same 55 = .ok (.ireturn, 1) := by decide +kernel
set_option maxRecDepth 20000 in
theorem ggX11_says_X11_isReader : GoodIn wsX11_says wsX11_isReader := goodIn_r _ [9] (by decide +kernel) (by decide +kernel)
set_option maxRecDepth 20000 in
theorem gX11_says_X11_isReader : GoodIn wsX11_says (va_wsS RX11 168 yX11_isReader wsX11_isReader) := goodIn_app (goodIn_of _ (by decide +kernel)) ggX11_says_X11_isReader
set_option maxRecDepth 20000 in
theorem ggX11_says_X11_refuse : GoodIn wsX11_says wsX11_refuse := goodIn_r _ [13, 14, 30, 31, 32, 33, 34, 35, 36, 37, 38, 39, 40, 41] (by decide +kernel) (by decide +kernel)
set_option maxRecDepth 20000 in
theorem gX11_says_X11_refuse : GoodIn wsX11_says (wsV RX11 77 RX11 yX11_refuse wsX11_refuse) := goodIn_app (goodIn_of _ (by decide +kernel)) ggX11_says_X11_refuse
set_option maxRecDepth 20000 in
theorem ggX11_says_X8_meaning : GoodIn wsX11_says wsX8_meaning := goodIn_r _ [19, 20, 21, 22, 23, 18, 24, 25, 26, 27, 28, 29, 47, 48, 49, 50, 51, 52, 53, 54, 55] (by decide +kernel) (by decide +kernel)
set_option maxRecDepth 20000 in
theorem gX11_says_X8_meaning : GoodIn wsX11_says (wsV RX11 171 RX8 yX8_meaning wsX8_meaning) := goodIn_app (goodIn_of _ (by decide +kernel)) ggX11_says_X8_meaning
theorem dX11_says_0 : decode cX11_says 0 = .ok (.iload_n 1, 1) := by decide +kernel
theorem dX11_says_1 : decode cX11_says 1 = .ok (.invokestatic 168, 3) := by decide +kernel
theorem dX11_says_4 : decode cX11_says 4 = .ok (.ifCond .ne 10, 3) := by decide +kernel
theorem dX11_says_7 : decode cX11_says 7 = .ok (.aload_n 0, 1) := by decide +kernel
theorem dX11_says_8 : decode cX11_says 8 = .ok (.bipush (-2), 2) := by decide +kernel
theorem dX11_says_10 : decode cX11_says 10 = .ok (.invokevirtual 77, 3) := by decide +kernel
theorem dX11_says_13 : decode cX11_says 13 = .ok (.ireturn, 1) := by decide +kernel
theorem dX11_says_14 : decode cX11_says 14 = .ok (.iconst 0, 1) := by decide +kernel
theorem dX11_says_15 : decode cX11_says 15 = .ok (.istore_n 2, 1) := by decide +kernel
theorem dX11_says_16 : decode cX11_says 16 = .ok (.iconst 0, 1) := by decide +kernel
theorem dX11_says_17 : decode cX11_says 17 = .ok (.istore_n 3, 1) := by decide +kernel
theorem dX11_says_18 : decode cX11_says 18 = .ok (.iload_n 3, 1) := by decide +kernel
theorem dX11_says_19 : decode cX11_says 19 = .ok (.aload_n 0, 1) := by decide +kernel
theorem dX11_says_20 : decode cX11_says 20 = .ok (.getfield 19, 3) := by decide +kernel
theorem dX11_says_23 : decode cX11_says 23 = .ok (.getfield 129, 3) := by decide +kernel
theorem dX11_says_26 : decode cX11_says 26 = .ok (.getfield 133, 3) := by decide +kernel
theorem dX11_says_29 : decode cX11_says 29 = .ok (.if_icmp .ge 46, 3) := by decide +kernel
theorem dX11_says_32 : decode cX11_says 32 = .ok (.iload_n 2, 1) := by decide +kernel
theorem dX11_says_33 : decode cX11_says 33 = .ok (.iconst 1, 1) := by decide +kernel
theorem dX11_says_34 : decode cX11_says 34 = .ok (.aload_n 0, 1) := by decide +kernel
theorem dX11_says_35 : decode cX11_says 35 = .ok (.getfield 19, 3) := by decide +kernel
theorem dX11_says_38 : decode cX11_says 38 = .ok (.getfield 88, 3) := by decide +kernel
theorem dX11_says_41 : decode cX11_says 41 = .ok (.aload_n 0, 1) := by decide +kernel
theorem dX11_says_42 : decode cX11_says 42 = .ok (.getfield 19, 3) := by decide +kernel
theorem dX11_says_45 : decode cX11_says 45 = .ok (.getfield 129, 3) := by decide +kernel
theorem dX11_says_48 : decode cX11_says 48 = .ok (.getfield 142, 3) := by decide +kernel
theorem dX11_says_51 : decode cX11_says 51 = .ok (.aload_n 0, 1) := by decide +kernel
theorem dX11_says_52 : decode cX11_says 52 = .ok (.getfield 19, 3) := by decide +kernel
theorem dX11_says_55 : decode cX11_says 55 = .ok (.getfield 129, 3) := by decide +kernel
theorem dX11_says_58 : decode cX11_says 58 = .ok (.getfield 133, 3) := by decide +kernel
theorem dX11_says_61 : decode cX11_says 61 = .ok (.iload_n 3, 1) := by decide +kernel
theorem dX11_says_62 : decode cX11_says 62 = .ok (.iload_n 1, 1) := by decide +kernel
theorem dX11_says_63 : decode cX11_says 63 = .ok (.invokevirtual 171, 3) := by decide +kernel
theorem dX11_says_66 : decode cX11_says 66 = .ok (.ishl, 1) := by decide +kernel
theorem dX11_says_67 : decode cX11_says 67 = .ok (.ior, 1) := by decide +kernel
theorem dX11_says_68 : decode cX11_says 68 = .ok (.istore_n 2, 1) := by decide +kernel
theorem dX11_says_69 : decode cX11_says 69 = .ok (.iinc 3 1, 3) := by decide +kernel
theorem dX11_says_72 : decode cX11_says 72 = .ok (.goto (-54), 3) := by decide +kernel
theorem dX11_says_75 : decode cX11_says 75 = .ok (.iload_n 2, 1) := by decide +kernel
theorem dX11_says_76 : decode cX11_says 76 = .ok (.ireturn, 1) := by decide +kernel
set_option maxRecDepth 20000 in
theorem ggX11_judge_X11_refuse : GoodIn wsX11_judge wsX11_refuse := goodIn_r _ [10, 11, 43, 44, 45, 46, 47, 48, 49, 50, 51, 52, 53, 54] (by decide +kernel) (by decide +kernel)
set_option maxRecDepth 20000 in
theorem gX11_judge_X11_refuse : GoodIn wsX11_judge (wsV RX11 77 RX11 yX11_refuse wsX11_refuse) := goodIn_app (goodIn_of _ (by decide +kernel)) ggX11_judge_X11_refuse
set_option maxRecDepth 20000 in
theorem ggX11_judge_X8_firstAgainst : GoodIn wsX11_judge wsX8_firstAgainst := goodIn_r _ [16, 17, 18, 19, 20, 21, 15, 22, 23, 24, 25, 26, 27, 28, 29, 30, 31, 32, 33, 34, 35, 36, 37, 38, 39, 40, 41, 42, 60, 61, 62, 63, 64, 65, 66, 67, 68] (by decide +kernel) (by decide +kernel)
set_option maxRecDepth 20000 in
theorem gX11_judge_X8_firstAgainst : GoodIn wsX11_judge (wsV RX11 179 RX8 yX8_firstAgainst wsX8_firstAgainst) := goodIn_app (goodIn_of _ (by decide +kernel)) ggX11_judge_X8_firstAgainst
theorem dX11_judge_0 : decode cX11_judge 0 = .ok (.aload_n 0, 1) := by decide +kernel
theorem dX11_judge_1 : decode cX11_judge 1 = .ok (.getfield 19, 3) := by decide +kernel
theorem dX11_judge_4 : decode cX11_judge 4 = .ok (.getfield 129, 3) := by decide +kernel
theorem dX11_judge_7 : decode cX11_judge 7 = .ok (.getfield 133, 3) := by decide +kernel
theorem dX11_judge_10 : decode cX11_judge 10 = .ok (.ifCond .ne 10, 3) := by decide +kernel
theorem dX11_judge_13 : decode cX11_judge 13 = .ok (.aload_n 0, 1) := by decide +kernel
theorem dX11_judge_14 : decode cX11_judge 14 = .ok (.bipush (-3), 2) := by decide +kernel
theorem dX11_judge_16 : decode cX11_judge 16 = .ok (.invokevirtual 77, 3) := by decide +kernel
theorem dX11_judge_19 : decode cX11_judge 19 = .ok (.ireturn, 1) := by decide +kernel
theorem dX11_judge_20 : decode cX11_judge 20 = .ok (.aload_n 0, 1) := by decide +kernel
theorem dX11_judge_21 : decode cX11_judge 21 = .ok (.getfield 19, 3) := by decide +kernel
theorem dX11_judge_24 : decode cX11_judge 24 = .ok (.getfield 88, 3) := by decide +kernel
theorem dX11_judge_27 : decode cX11_judge 27 = .ok (.aload_n 0, 1) := by decide +kernel
theorem dX11_judge_28 : decode cX11_judge 28 = .ok (.getfield 19, 3) := by decide +kernel
theorem dX11_judge_31 : decode cX11_judge 31 = .ok (.getfield 129, 3) := by decide +kernel
theorem dX11_judge_34 : decode cX11_judge 34 = .ok (.getfield 142, 3) := by decide +kernel
theorem dX11_judge_37 : decode cX11_judge 37 = .ok (.aload_n 0, 1) := by decide +kernel
theorem dX11_judge_38 : decode cX11_judge 38 = .ok (.getfield 19, 3) := by decide +kernel
theorem dX11_judge_41 : decode cX11_judge 41 = .ok (.getfield 129, 3) := by decide +kernel
theorem dX11_judge_44 : decode cX11_judge 44 = .ok (.getfield 133, 3) := by decide +kernel
theorem dX11_judge_47 : decode cX11_judge 47 = .ok (.invokevirtual 179, 3) := by decide +kernel
theorem dX11_judge_50 : decode cX11_judge 50 = .ok (.ireturn, 1) := by decide +kernel
set_option maxRecDepth 20000 in
theorem ggX11_shortest_X11_refuse : GoodIn wsX11_shortest wsX11_refuse := goodIn_r _ [10, 11, 84, 85, 86, 87, 88, 89, 90, 91, 92, 93, 94, 95] (by decide +kernel) (by decide +kernel)
set_option maxRecDepth 20000 in
theorem gX11_shortest_X11_refuse : GoodIn wsX11_shortest (wsV RX11 77 RX11 yX11_refuse wsX11_refuse) := goodIn_app (goodIn_of _ (by decide +kernel)) ggX11_shortest_X11_refuse
set_option maxRecDepth 20000 in
theorem ggX11_shortest_X11_isReader : GoodIn wsX11_shortest wsX11_isReader := goodIn_r _ [14] (by decide +kernel) (by decide +kernel)
set_option maxRecDepth 20000 in
theorem gX11_shortest_X11_isReader : GoodIn wsX11_shortest (va_wsS RX11 168 yX11_isReader wsX11_isReader) := goodIn_app (goodIn_of _ (by decide +kernel)) ggX11_shortest_X11_isReader
set_option maxRecDepth 20000 in
theorem ggX11_shortest_X6_look : GoodIn wsX11_shortest wsX6_look := goodIn_r _ [19, 20, 21, 22, 23, 24, 25, 26, 27, 28, 29, 30, 31, 18, 32, 33, 34, 35, 36, 37, 38, 39, 40, 41, 42, 43, 44, 45, 46, 47, 48, 49, 50, 51, 52, 53, 54, 55, 56, 57, 58, 59, 60, 61, 62, 63, 64, 65, 66, 67, 68, 69, 70, 71, 72, 73, 74, 75, 76, 77, 78, 79, 80, 81, 82, 83, 99, 100, 101, 102, 103, 104, 105, 106, 107, 108, 109, 110, 111, 112, 113, 114, 115] (by decide +kernel) (by decide +kernel)
set_option maxRecDepth 20000 in
theorem gX11_shortest_X6_look : GoodIn wsX11_shortest (wsV RX11 183 RX6 yX6_look wsX6_look) := goodIn_app (goodIn_of _ (by decide +kernel)) ggX11_shortest_X6_look
theorem dX11_shortest_0 : decode cX11_shortest 0 = .ok (.iload_n 1, 1) := by decide +kernel
theorem dX11_shortest_1 : decode cX11_shortest 1 = .ok (.ifCond .lt 9, 3) := by decide +kernel
theorem dX11_shortest_4 : decode cX11_shortest 4 = .ok (.iload_n 1, 1) := by decide +kernel
theorem dX11_shortest_5 : decode cX11_shortest 5 = .ok (.bipush 16, 2) := by decide +kernel
theorem dX11_shortest_7 : decode cX11_shortest 7 = .ok (.if_icmp .lt 9, 3) := by decide +kernel
theorem dX11_shortest_10 : decode cX11_shortest 10 = .ok (.aload_n 0, 1) := by decide +kernel
theorem dX11_shortest_11 : decode cX11_shortest 11 = .ok (.iconst (-1), 1) := by decide +kernel
theorem dX11_shortest_12 : decode cX11_shortest 12 = .ok (.invokevirtual 77, 3) := by decide +kernel
theorem dX11_shortest_15 : decode cX11_shortest 15 = .ok (.ireturn, 1) := by decide +kernel
theorem dX11_shortest_16 : decode cX11_shortest 16 = .ok (.iload_n 2, 1) := by decide +kernel
theorem dX11_shortest_17 : decode cX11_shortest 17 = .ok (.invokestatic 168, 3) := by decide +kernel
theorem dX11_shortest_20 : decode cX11_shortest 20 = .ok (.ifCond .ne 10, 3) := by decide +kernel
theorem dX11_shortest_23 : decode cX11_shortest 23 = .ok (.aload_n 0, 1) := by decide +kernel
theorem dX11_shortest_24 : decode cX11_shortest 24 = .ok (.bipush (-2), 2) := by decide +kernel
theorem dX11_shortest_26 : decode cX11_shortest 26 = .ok (.invokevirtual 77, 3) := by decide +kernel
theorem dX11_shortest_29 : decode cX11_shortest 29 = .ok (.ireturn, 1) := by decide +kernel
theorem dX11_shortest_30 : decode cX11_shortest 30 = .ok (.iload_n 3, 1) := by decide +kernel
theorem dX11_shortest_31 : decode cX11_shortest 31 = .ok (.iconst (-1), 1) := by decide +kernel
theorem dX11_shortest_32 : decode cX11_shortest 32 = .ok (.if_icmp .ge 10, 3) := by decide +kernel
theorem dX11_shortest_35 : decode cX11_shortest 35 = .ok (.aload_n 0, 1) := by decide +kernel
theorem dX11_shortest_36 : decode cX11_shortest 36 = .ok (.bipush (-4), 2) := by decide +kernel
theorem dX11_shortest_38 : decode cX11_shortest 38 = .ok (.invokevirtual 77, 3) := by decide +kernel
theorem dX11_shortest_41 : decode cX11_shortest 41 = .ok (.ireturn, 1) := by decide +kernel
theorem dX11_shortest_42 : decode cX11_shortest 42 = .ok (.aload_n 0, 1) := by decide +kernel
theorem dX11_shortest_43 : decode cX11_shortest 43 = .ok (.getfield 39, 3) := by decide +kernel
theorem dX11_shortest_46 : decode cX11_shortest 46 = .ok (.iload_n 2, 1) := by decide +kernel
theorem dX11_shortest_47 : decode cX11_shortest 47 = .ok (.aaload, 1) := by decide +kernel
theorem dX11_shortest_48 : decode cX11_shortest 48 = .ok (.astore 4, 2) := by decide +kernel
theorem dX11_shortest_50 : decode cX11_shortest 50 = .ok (.aload 4, 2) := by decide +kernel
theorem dX11_shortest_52 : decode cX11_shortest 52 = .ok (.aload_n 0, 1) := by decide +kernel
theorem dX11_shortest_53 : decode cX11_shortest 53 = .ok (.getfield 19, 3) := by decide +kernel
theorem dX11_shortest_56 : decode cX11_shortest 56 = .ok (.getfield 88, 3) := by decide +kernel
theorem dX11_shortest_59 : decode cX11_shortest 59 = .ok (.invokevirtual 183, 3) := by decide +kernel
theorem dX11_shortest_62 : decode cX11_shortest 62 = .ok (.aload 4, 2) := by decide +kernel
theorem dX11_shortest_64 : decode cX11_shortest 64 = .ok (.getfield 187, 3) := by decide +kernel
theorem dX11_shortest_67 : decode cX11_shortest 67 = .ok (.iload_n 1, 1) := by decide +kernel
theorem dX11_shortest_68 : decode cX11_shortest 68 = .ok (.iaload, 1) := by decide +kernel
theorem dX11_shortest_69 : decode cX11_shortest 69 = .ok (.istore 5, 2) := by decide +kernel
theorem dX11_shortest_71 : decode cX11_shortest 71 = .ok (.iload_n 3, 1) := by decide +kernel
theorem dX11_shortest_72 : decode cX11_shortest 72 = .ok (.iconst (-1), 1) := by decide +kernel
theorem dX11_shortest_73 : decode cX11_shortest 73 = .ok (.if_icmp .ne 16, 3) := by decide +kernel
theorem dX11_shortest_76 : decode cX11_shortest 76 = .ok (.iload 5, 2) := by decide +kernel
theorem dX11_shortest_78 : decode cX11_shortest 78 = .ok (.ifCond .ne 8, 3) := by decide +kernel
theorem dX11_shortest_81 : decode cX11_shortest 81 = .ok (.bipush (-9), 2) := by decide +kernel
theorem dX11_shortest_83 : decode cX11_shortest 83 = .ok (.goto 5, 3) := by decide +kernel
theorem dX11_shortest_86 : decode cX11_shortest 86 = .ok (.iload 5, 2) := by decide +kernel
theorem dX11_shortest_88 : decode cX11_shortest 88 = .ok (.ireturn, 1) := by decide +kernel
theorem dX11_shortest_89 : decode cX11_shortest 89 = .ok (.iload_n 3, 1) := by decide +kernel
theorem dX11_shortest_90 : decode cX11_shortest 90 = .ok (.iload 5, 2) := by decide +kernel
theorem dX11_shortest_92 : decode cX11_shortest 92 = .ok (.if_icmp .ge 17, 3) := by decide +kernel
theorem dX11_shortest_95 : decode cX11_shortest 95 = .ok (.aload 4, 2) := by decide +kernel
theorem dX11_shortest_97 : decode cX11_shortest 97 = .ok (.getfield 190, 3) := by decide +kernel
theorem dX11_shortest_100 : decode cX11_shortest 100 = .ok (.iload_n 1, 1) := by decide +kernel
theorem dX11_shortest_101 : decode cX11_shortest 101 = .ok (.iconst 5, 1) := by decide +kernel
theorem dX11_shortest_102 : decode cX11_shortest 102 = .ok (.imul, 1) := by decide +kernel
theorem dX11_shortest_103 : decode cX11_shortest 103 = .ok (.iload_n 3, 1) := by decide +kernel
theorem dX11_shortest_104 : decode cX11_shortest 104 = .ok (.iadd, 1) := by decide +kernel
theorem dX11_shortest_105 : decode cX11_shortest 105 = .ok (.iaload, 1) := by decide +kernel
theorem dX11_shortest_106 : decode cX11_shortest 106 = .ok (.goto 5, 3) := by decide +kernel
theorem dX11_shortest_109 : decode cX11_shortest 109 = .ok (.bipush (-9), 2) := by decide +kernel
theorem dX11_shortest_111 : decode cX11_shortest 111 = .ok (.ireturn, 1) := by decide +kernel
set_option maxRecDepth 20000 in
theorem ggX11_each_X11_refuse : GoodIn wsX11_each wsX11_refuse := goodIn_r _ [10, 11, 66, 67, 68, 69, 70, 71, 72, 73, 74, 75, 76, 77] (by decide +kernel) (by decide +kernel)
set_option maxRecDepth 20000 in
theorem gX11_each_X11_refuse : GoodIn wsX11_each (wsV RX11 77 RX11 yX11_refuse wsX11_refuse) := goodIn_app (goodIn_of _ (by decide +kernel)) ggX11_each_X11_refuse
set_option maxRecDepth 20000 in
theorem ggX11_each_X1_seek : GoodIn wsX11_each wsX1_seek := goodIn_r _ [16, 17, 18, 19, 20, 21, 15, 22, 23, 24, 25, 26, 27, 28, 29, 30, 31, 32, 33, 34, 35, 36, 37, 38, 39, 40, 41, 42, 43, 44, 45, 46, 47, 48, 49, 50, 51, 52, 53, 54, 55, 56, 57, 58, 59, 60, 61, 62, 63, 64, 65, 81, 82, 83, 84, 85, 86, 87, 88, 89, 90, 91, 92] (by decide +kernel) (by decide +kernel)
set_option maxRecDepth 20000 in
theorem gX11_each_X1_seek : GoodIn wsX11_each (wsV RX11 193 RX1 yX1_seek wsX1_seek) := goodIn_app (goodIn_of _ (by decide +kernel)) ggX11_each_X1_seek
theorem dX11_each_0 : decode cX11_each 0 = .ok (.iload_n 1, 1) := by decide +kernel
theorem dX11_each_1 : decode cX11_each 1 = .ok (.iconst (-1), 1) := by decide +kernel
theorem dX11_each_2 : decode cX11_each 2 = .ok (.if_icmp .ge 10, 3) := by decide +kernel
theorem dX11_each_5 : decode cX11_each 5 = .ok (.aload_n 0, 1) := by decide +kernel
theorem dX11_each_6 : decode cX11_each 6 = .ok (.bipush (-4), 2) := by decide +kernel
theorem dX11_each_8 : decode cX11_each 8 = .ok (.invokevirtual 77, 3) := by decide +kernel
theorem dX11_each_11 : decode cX11_each 11 = .ok (.ireturn, 1) := by decide +kernel
theorem dX11_each_12 : decode cX11_each 12 = .ok (.aload_n 0, 1) := by decide +kernel
theorem dX11_each_13 : decode cX11_each 13 = .ok (.getfield 49, 3) := by decide +kernel
theorem dX11_each_16 : decode cX11_each 16 = .ok (.aload_n 0, 1) := by decide +kernel
theorem dX11_each_17 : decode cX11_each 17 = .ok (.getfield 19, 3) := by decide +kernel
theorem dX11_each_20 : decode cX11_each 20 = .ok (.getfield 88, 3) := by decide +kernel
theorem dX11_each_23 : decode cX11_each 23 = .ok (.invokevirtual 193, 3) := by decide +kernel
theorem dX11_each_26 : decode cX11_each 26 = .ok (.iload_n 1, 1) := by decide +kernel
theorem dX11_each_27 : decode cX11_each 27 = .ok (.iconst (-1), 1) := by decide +kernel
theorem dX11_each_28 : decode cX11_each 28 = .ok (.if_icmp .ne 26, 3) := by decide +kernel
theorem dX11_each_31 : decode cX11_each 31 = .ok (.aload_n 0, 1) := by decide +kernel
theorem dX11_each_32 : decode cX11_each 32 = .ok (.getfield 49, 3) := by decide +kernel
theorem dX11_each_35 : decode cX11_each 35 = .ok (.getfield 196, 3) := by decide +kernel
theorem dX11_each_38 : decode cX11_each 38 = .ok (.ifCond .ne 8, 3) := by decide +kernel
theorem dX11_each_41 : decode cX11_each 41 = .ok (.bipush (-9), 2) := by decide +kernel
theorem dX11_each_43 : decode cX11_each 43 = .ok (.goto 10, 3) := by decide +kernel
theorem dX11_each_46 : decode cX11_each 46 = .ok (.aload_n 0, 1) := by decide +kernel
theorem dX11_each_47 : decode cX11_each 47 = .ok (.getfield 49, 3) := by decide +kernel
theorem dX11_each_50 : decode cX11_each 50 = .ok (.getfield 196, 3) := by decide +kernel
theorem dX11_each_53 : decode cX11_each 53 = .ok (.ireturn, 1) := by decide +kernel
theorem dX11_each_54 : decode cX11_each 54 = .ok (.iload_n 1, 1) := by decide +kernel
theorem dX11_each_55 : decode cX11_each 55 = .ok (.aload_n 0, 1) := by decide +kernel
theorem dX11_each_56 : decode cX11_each 56 = .ok (.getfield 49, 3) := by decide +kernel
theorem dX11_each_59 : decode cX11_each 59 = .ok (.getfield 196, 3) := by decide +kernel
theorem dX11_each_62 : decode cX11_each 62 = .ok (.if_icmp .ge 15, 3) := by decide +kernel
theorem dX11_each_65 : decode cX11_each 65 = .ok (.aload_n 0, 1) := by decide +kernel
theorem dX11_each_66 : decode cX11_each 66 = .ok (.getfield 49, 3) := by decide +kernel
theorem dX11_each_69 : decode cX11_each 69 = .ok (.getfield 197, 3) := by decide +kernel
theorem dX11_each_72 : decode cX11_each 72 = .ok (.iload_n 1, 1) := by decide +kernel
theorem dX11_each_73 : decode cX11_each 73 = .ok (.iaload, 1) := by decide +kernel
theorem dX11_each_74 : decode cX11_each 74 = .ok (.goto 5, 3) := by decide +kernel
theorem dX11_each_77 : decode cX11_each 77 = .ok (.bipush (-9), 2) := by decide +kernel
theorem dX11_each_79 : decode cX11_each 79 = .ok (.ireturn, 1) := by decide +kernel
set_option maxRecDepth 20000 in
theorem ggX11_rings_X11_refuse : GoodIn wsX11_rings wsX11_refuse := goodIn_r _ [9, 10, 83, 84, 85, 86, 87, 88, 89, 90, 91, 92, 93, 94] (by decide +kernel) (by decide +kernel)
set_option maxRecDepth 20000 in
theorem gX11_rings_X11_refuse : GoodIn wsX11_rings (wsV RX11 77 RX11 yX11_refuse wsX11_refuse) := goodIn_app (goodIn_of _ (by decide +kernel)) ggX11_rings_X11_refuse
set_option maxRecDepth 20000 in
theorem ggX11_rings_X11_isReader : GoodIn wsX11_rings wsX11_isReader := goodIn_r _ [13] (by decide +kernel) (by decide +kernel)
set_option maxRecDepth 20000 in
theorem gX11_rings_X11_isReader : GoodIn wsX11_rings (va_wsS RX11 168 yX11_isReader wsX11_isReader) := goodIn_app (goodIn_of _ (by decide +kernel)) ggX11_rings_X11_isReader
set_option maxRecDepth 20000 in
theorem ggX11_rings_X6_look : GoodIn wsX11_rings wsX6_look := goodIn_r _ [18, 19, 20, 21, 22, 23, 24, 25, 26, 27, 28, 29, 30, 17, 31, 32, 33, 34, 35, 36, 37, 38, 39, 40, 41, 42, 43, 44, 45, 46, 47, 48, 49, 50, 51, 52, 53, 54, 55, 56, 57, 58, 59, 60, 61, 62, 63, 64, 65, 66, 67, 68, 69, 70, 71, 72, 73, 74, 75, 76, 77, 78, 79, 80, 81, 82, 98, 99, 100, 101, 102, 103, 104, 105, 106, 107, 108, 109, 110, 111, 112, 113, 114] (by decide +kernel) (by decide +kernel)
set_option maxRecDepth 20000 in
theorem gX11_rings_X6_look : GoodIn wsX11_rings (wsV RX11 183 RX6 yX6_look wsX6_look) := goodIn_app (goodIn_of _ (by decide +kernel)) ggX11_rings_X6_look
theorem dX11_rings_0 : decode cX11_rings 0 = .ok (.iload_n 1, 1) := by decide +kernel
theorem dX11_rings_1 : decode cX11_rings 1 = .ok (.iconst 1, 1) := by decide +kernel
theorem dX11_rings_2 : decode cX11_rings 2 = .ok (.if_icmp .ge 10, 3) := by decide +kernel
theorem dX11_rings_5 : decode cX11_rings 5 = .ok (.aload_n 0, 1) := by decide +kernel
theorem dX11_rings_6 : decode cX11_rings 6 = .ok (.bipush (-4), 2) := by decide +kernel
theorem dX11_rings_8 : decode cX11_rings 8 = .ok (.invokevirtual 77, 3) := by decide +kernel
theorem dX11_rings_11 : decode cX11_rings 11 = .ok (.ireturn, 1) := by decide +kernel
theorem dX11_rings_12 : decode cX11_rings 12 = .ok (.iload_n 1, 1) := by decide +kernel
theorem dX11_rings_13 : decode cX11_rings 13 = .ok (.iconst 5, 1) := by decide +kernel
theorem dX11_rings_14 : decode cX11_rings 14 = .ok (.if_icmp .le 10, 3) := by decide +kernel
theorem dX11_rings_17 : decode cX11_rings 17 = .ok (.aload_n 0, 1) := by decide +kernel
theorem dX11_rings_18 : decode cX11_rings 18 = .ok (.bipush (-6), 2) := by decide +kernel
theorem dX11_rings_20 : decode cX11_rings 20 = .ok (.invokevirtual 77, 3) := by decide +kernel
theorem dX11_rings_23 : decode cX11_rings 23 = .ok (.ireturn, 1) := by decide +kernel
theorem dX11_rings_24 : decode cX11_rings 24 = .ok (.iload_n 2, 1) := by decide +kernel
theorem dX11_rings_25 : decode cX11_rings 25 = .ok (.invokestatic 168, 3) := by decide +kernel
theorem dX11_rings_28 : decode cX11_rings 28 = .ok (.ifCond .ne 10, 3) := by decide +kernel
theorem dX11_rings_31 : decode cX11_rings 31 = .ok (.aload_n 0, 1) := by decide +kernel
theorem dX11_rings_32 : decode cX11_rings 32 = .ok (.bipush (-2), 2) := by decide +kernel
theorem dX11_rings_34 : decode cX11_rings 34 = .ok (.invokevirtual 77, 3) := by decide +kernel
theorem dX11_rings_37 : decode cX11_rings 37 = .ok (.ireturn, 1) := by decide +kernel
theorem dX11_rings_38 : decode cX11_rings 38 = .ok (.aload_n 0, 1) := by decide +kernel
theorem dX11_rings_39 : decode cX11_rings 39 = .ok (.getfield 39, 3) := by decide +kernel
theorem dX11_rings_42 : decode cX11_rings 42 = .ok (.iload_n 2, 1) := by decide +kernel
theorem dX11_rings_43 : decode cX11_rings 43 = .ok (.aaload, 1) := by decide +kernel
theorem dX11_rings_44 : decode cX11_rings 44 = .ok (.aload_n 0, 1) := by decide +kernel
theorem dX11_rings_45 : decode cX11_rings 45 = .ok (.getfield 19, 3) := by decide +kernel
theorem dX11_rings_48 : decode cX11_rings 48 = .ok (.getfield 88, 3) := by decide +kernel
theorem dX11_rings_51 : decode cX11_rings 51 = .ok (.invokevirtual 183, 3) := by decide +kernel
theorem dX11_rings_54 : decode cX11_rings 54 = .ok (.aload_n 0, 1) := by decide +kernel
theorem dX11_rings_55 : decode cX11_rings 55 = .ok (.getfield 39, 3) := by decide +kernel
theorem dX11_rings_58 : decode cX11_rings 58 = .ok (.iload_n 2, 1) := by decide +kernel
theorem dX11_rings_59 : decode cX11_rings 59 = .ok (.aaload, 1) := by decide +kernel
theorem dX11_rings_60 : decode cX11_rings 60 = .ok (.getfield 199, 3) := by decide +kernel
theorem dX11_rings_63 : decode cX11_rings 63 = .ok (.iload_n 1, 1) := by decide +kernel
theorem dX11_rings_64 : decode cX11_rings 64 = .ok (.iaload, 1) := by decide +kernel
theorem dX11_rings_65 : decode cX11_rings 65 = .ok (.ireturn, 1) := by decide +kernel
set_option maxRecDepth 20000 in
theorem ggX11_sayable_X11_isReader : GoodIn wsX11_sayable wsX11_isReader := goodIn_r _ [8] (by decide +kernel) (by decide +kernel)
set_option maxRecDepth 20000 in
theorem gX11_sayable_X11_isReader : GoodIn wsX11_sayable (va_wsS RX11 168 yX11_isReader wsX11_isReader) := goodIn_app (goodIn_of _ (by decide +kernel)) ggX11_sayable_X11_isReader
set_option maxRecDepth 20000 in
theorem ggX11_sayable_X11_refuse : GoodIn wsX11_sayable wsX11_refuse := goodIn_r _ [12, 13, 83, 84, 85, 86, 87, 88, 89, 90, 91, 92, 93, 94] (by decide +kernel) (by decide +kernel)
set_option maxRecDepth 20000 in
theorem gX11_sayable_X11_refuse : GoodIn wsX11_sayable (wsV RX11 77 RX11 yX11_refuse wsX11_refuse) := goodIn_app (goodIn_of _ (by decide +kernel)) ggX11_sayable_X11_refuse
set_option maxRecDepth 20000 in
theorem ggX11_sayable_X6_look : GoodIn wsX11_sayable wsX6_look := goodIn_r _ [18, 19, 20, 21, 22, 23, 24, 25, 26, 27, 28, 29, 30, 17, 31, 32, 33, 34, 35, 36, 37, 38, 39, 40, 41, 42, 43, 44, 45, 46, 47, 48, 49, 50, 51, 52, 53, 54, 55, 56, 57, 58, 59, 60, 61, 62, 63, 64, 65, 66, 67, 68, 69, 70, 71, 72, 73, 74, 75, 76, 77, 78, 79, 80, 81, 82, 98, 99, 100, 101, 102, 103, 104, 105, 106, 107, 108, 109, 110, 111, 112, 113, 114] (by decide +kernel) (by decide +kernel)
set_option maxRecDepth 20000 in
theorem gX11_sayable_X6_look : GoodIn wsX11_sayable (wsV RX11 183 RX6 yX6_look wsX6_look) := goodIn_app (goodIn_of _ (by decide +kernel)) ggX11_sayable_X6_look
theorem dX11_sayable_0 : decode cX11_sayable 0 = .ok (.iload_n 1, 1) := by decide +kernel
theorem dX11_sayable_1 : decode cX11_sayable 1 = .ok (.invokestatic 168, 3) := by decide +kernel
theorem dX11_sayable_4 : decode cX11_sayable 4 = .ok (.ifCond .ne 10, 3) := by decide +kernel
theorem dX11_sayable_7 : decode cX11_sayable 7 = .ok (.aload_n 0, 1) := by decide +kernel
theorem dX11_sayable_8 : decode cX11_sayable 8 = .ok (.bipush (-2), 2) := by decide +kernel
theorem dX11_sayable_10 : decode cX11_sayable 10 = .ok (.invokevirtual 77, 3) := by decide +kernel
theorem dX11_sayable_13 : decode cX11_sayable 13 = .ok (.ireturn, 1) := by decide +kernel
theorem dX11_sayable_14 : decode cX11_sayable 14 = .ok (.aload_n 0, 1) := by decide +kernel
theorem dX11_sayable_15 : decode cX11_sayable 15 = .ok (.getfield 39, 3) := by decide +kernel
theorem dX11_sayable_18 : decode cX11_sayable 18 = .ok (.iload_n 1, 1) := by decide +kernel
theorem dX11_sayable_19 : decode cX11_sayable 19 = .ok (.aaload, 1) := by decide +kernel
theorem dX11_sayable_20 : decode cX11_sayable 20 = .ok (.aload_n 0, 1) := by decide +kernel
theorem dX11_sayable_21 : decode cX11_sayable 21 = .ok (.getfield 19, 3) := by decide +kernel
theorem dX11_sayable_24 : decode cX11_sayable 24 = .ok (.getfield 88, 3) := by decide +kernel
theorem dX11_sayable_27 : decode cX11_sayable 27 = .ok (.invokevirtual 183, 3) := by decide +kernel
theorem dX11_sayable_30 : decode cX11_sayable 30 = .ok (.aload_n 0, 1) := by decide +kernel
theorem dX11_sayable_31 : decode cX11_sayable 31 = .ok (.getfield 39, 3) := by decide +kernel
theorem dX11_sayable_34 : decode cX11_sayable 34 = .ok (.iload_n 1, 1) := by decide +kernel
theorem dX11_sayable_35 : decode cX11_sayable 35 = .ok (.aaload, 1) := by decide +kernel
theorem dX11_sayable_36 : decode cX11_sayable 36 = .ok (.getfield 202, 3) := by decide +kernel
theorem dX11_sayable_39 : decode cX11_sayable 39 = .ok (.ireturn, 1) := by decide +kernel
set_option maxRecDepth 20000 in
theorem ggX11_needed_X6_look : GoodIn wsX11_needed wsX6_look := goodIn_r _ [11, 12, 13, 14, 15, 16, 17, 18, 19, 20, 21, 22, 23, 10, 24, 25, 26, 27, 28, 29, 30, 31, 32, 33, 34, 35, 36, 37, 38, 39, 40, 41, 42, 43, 44, 45, 46, 47, 48, 49, 50, 51, 52, 53, 54, 55, 56, 57, 58, 59, 60, 61, 62, 63, 64, 65, 66, 67, 68, 69, 70, 71, 72, 73, 74, 75, 100, 101, 102, 103, 104, 105, 106, 107, 91, 92, 93, 94, 95, 96, 97, 98, 99] (by decide +kernel) (by decide +kernel)
set_option maxRecDepth 20000 in
theorem gX11_needed_X6_look : GoodIn wsX11_needed (wsV RX11 183 RX6 yX6_look wsX6_look) := goodIn_app (goodIn_of _ (by decide +kernel)) ggX11_needed_X6_look
theorem dX11_needed_0 : decode cX11_needed 0 = .ok (.aload_n 0, 1) := by decide +kernel
theorem dX11_needed_1 : decode cX11_needed 1 = .ok (.getfield 39, 3) := by decide +kernel
theorem dX11_needed_4 : decode cX11_needed 4 = .ok (.iconst 0, 1) := by decide +kernel
theorem dX11_needed_5 : decode cX11_needed 5 = .ok (.aaload, 1) := by decide +kernel
theorem dX11_needed_6 : decode cX11_needed 6 = .ok (.astore_n 1, 1) := by decide +kernel
theorem dX11_needed_7 : decode cX11_needed 7 = .ok (.aload_n 1, 1) := by decide +kernel
theorem dX11_needed_8 : decode cX11_needed 8 = .ok (.aload_n 0, 1) := by decide +kernel
theorem dX11_needed_9 : decode cX11_needed 9 = .ok (.getfield 19, 3) := by decide +kernel
theorem dX11_needed_12 : decode cX11_needed 12 = .ok (.getfield 88, 3) := by decide +kernel
theorem dX11_needed_15 : decode cX11_needed 15 = .ok (.invokevirtual 183, 3) := by decide +kernel
theorem dX11_needed_18 : decode cX11_needed 18 = .ok (.iconst 0, 1) := by decide +kernel
theorem dX11_needed_19 : decode cX11_needed 19 = .ok (.istore_n 2, 1) := by decide +kernel
theorem dX11_needed_20 : decode cX11_needed 20 = .ok (.iconst 0, 1) := by decide +kernel
theorem dX11_needed_21 : decode cX11_needed 21 = .ok (.istore_n 3, 1) := by decide +kernel
theorem dX11_needed_22 : decode cX11_needed 22 = .ok (.iload_n 3, 1) := by decide +kernel
theorem dX11_needed_23 : decode cX11_needed 23 = .ok (.aload_n 0, 1) := by decide +kernel
theorem dX11_needed_24 : decode cX11_needed 24 = .ok (.getfield 19, 3) := by decide +kernel
theorem dX11_needed_27 : decode cX11_needed 27 = .ok (.getfield 88, 3) := by decide +kernel
theorem dX11_needed_30 : decode cX11_needed 30 = .ok (.getfield 205, 3) := by decide +kernel
theorem dX11_needed_33 : decode cX11_needed 33 = .ok (.if_icmp .ge 28, 3) := by decide +kernel
theorem dX11_needed_36 : decode cX11_needed 36 = .ok (.aload_n 1, 1) := by decide +kernel
theorem dX11_needed_37 : decode cX11_needed 37 = .ok (.getfield 208, 3) := by decide +kernel
theorem dX11_needed_40 : decode cX11_needed 40 = .ok (.iload_n 3, 1) := by decide +kernel
theorem dX11_needed_41 : decode cX11_needed 41 = .ok (.iaload, 1) := by decide +kernel
theorem dX11_needed_42 : decode cX11_needed 42 = .ok (.aload_n 1, 1) := by decide +kernel
theorem dX11_needed_43 : decode cX11_needed 43 = .ok (.getfield 202, 3) := by decide +kernel
theorem dX11_needed_46 : decode cX11_needed 46 = .ok (.if_icmp .eq 9, 3) := by decide +kernel
theorem dX11_needed_49 : decode cX11_needed 49 = .ok (.iload_n 2, 1) := by decide +kernel
theorem dX11_needed_50 : decode cX11_needed 50 = .ok (.iconst 1, 1) := by decide +kernel
theorem dX11_needed_51 : decode cX11_needed 51 = .ok (.iload_n 3, 1) := by decide +kernel
theorem dX11_needed_52 : decode cX11_needed 52 = .ok (.ishl, 1) := by decide +kernel
theorem dX11_needed_53 : decode cX11_needed 53 = .ok (.ior, 1) := by decide +kernel
theorem dX11_needed_54 : decode cX11_needed 54 = .ok (.istore_n 2, 1) := by decide +kernel
theorem dX11_needed_55 : decode cX11_needed 55 = .ok (.iinc 3 1, 3) := by decide +kernel
theorem dX11_needed_58 : decode cX11_needed 58 = .ok (.goto (-36), 3) := by decide +kernel
theorem dX11_needed_61 : decode cX11_needed 61 = .ok (.iload_n 2, 1) := by decide +kernel
theorem dX11_needed_62 : decode cX11_needed 62 = .ok (.ireturn, 1) := by decide +kernel
set_option maxRecDepth 20000 in
theorem ggX11_worn_X11_refuse : GoodIn wsX11_worn wsX11_refuse := goodIn_r _ [11, 12, 99, 100, 101, 102, 103, 104, 105, 106, 107, 108, 109, 110] (by decide +kernel) (by decide +kernel)
set_option maxRecDepth 20000 in
theorem gX11_worn_X11_refuse : GoodIn wsX11_worn (wsV RX11 77 RX11 yX11_refuse wsX11_refuse) := goodIn_app (goodIn_of _ (by decide +kernel)) ggX11_worn_X11_refuse
set_option maxRecDepth 20000 in
theorem ggX11_worn_X11_isWorn : GoodIn wsX11_worn wsX11_isWorn := goodIn_r _ [16, 2, 4, 17, 18, 19, 20, 21, 22, 23, 99, 100, 101, 102, 103, 104, 105, 106, 107, 108, 109, 110, 111, 112, 113, 123, 124] (by decide +kernel) (by decide +kernel)
set_option maxRecDepth 20000 in
theorem gX11_worn_X11_isWorn : GoodIn wsX11_worn (wsV RX11 211 RX11 yX11_isWorn wsX11_isWorn) := goodIn_app (goodIn_of _ (by decide +kernel)) ggX11_worn_X11_isWorn
set_option maxRecDepth 20000 in
theorem ggX11_worn_X10_seek : GoodIn wsX11_worn wsX10_seek := goodIn_r _ [28, 29, 30, 31, 32, 33, 34, 35, 36, 37, 38, 39, 40, 41, 42, 43, 44, 45, 27, 46, 47, 48, 49, 50, 51, 52, 53, 54, 55, 56, 57, 58, 59, 60, 61, 62, 63, 64, 65, 66, 67, 68, 69, 70, 71, 72, 73, 74, 75, 76, 77, 78, 79, 80, 81, 82, 83, 84, 85, 86, 87, 88, 89, 90, 91, 92, 93, 94, 95, 96, 97, 98, 114, 115, 116, 117, 118, 119, 120, 121, 122, 125, 126, 127, 128, 129, 130, 131, 132, 133, 123, 124] (by decide +kernel) (by decide +kernel)
set_option maxRecDepth 20000 in
theorem gX11_worn_X10_seek : GoodIn wsX11_worn (wsV RX11 215 RX10 yX10_seek wsX10_seek) := goodIn_app (goodIn_of _ (by decide +kernel)) ggX11_worn_X10_seek
theorem dX11_worn_0 : decode cX11_worn 0 = .ok (.iload_n 1, 1) := by decide +kernel
theorem dX11_worn_1 : decode cX11_worn 1 = .ok (.ifCond .eq 15, 3) := by decide +kernel
theorem dX11_worn_4 : decode cX11_worn 4 = .ok (.iload_n 1, 1) := by decide +kernel
theorem dX11_worn_5 : decode cX11_worn 5 = .ok (.iconst 1, 1) := by decide +kernel
theorem dX11_worn_6 : decode cX11_worn 6 = .ok (.if_icmp .eq 10, 3) := by decide +kernel
theorem dX11_worn_9 : decode cX11_worn 9 = .ok (.aload_n 0, 1) := by decide +kernel
theorem dX11_worn_10 : decode cX11_worn 10 = .ok (.bipush (-2), 2) := by decide +kernel
theorem dX11_worn_12 : decode cX11_worn 12 = .ok (.invokevirtual 77, 3) := by decide +kernel
theorem dX11_worn_15 : decode cX11_worn 15 = .ok (.ireturn, 1) := by decide +kernel
theorem dX11_worn_16 : decode cX11_worn 16 = .ok (.aload_n 0, 1) := by decide +kernel
theorem dX11_worn_17 : decode cX11_worn 17 = .ok (.invokevirtual 211, 3) := by decide +kernel
theorem dX11_worn_20 : decode cX11_worn 20 = .ok (.ifCond .ne 10, 3) := by decide +kernel
theorem dX11_worn_23 : decode cX11_worn 23 = .ok (.aload_n 0, 1) := by decide +kernel
theorem dX11_worn_24 : decode cX11_worn 24 = .ok (.bipush (-3), 2) := by decide +kernel
theorem dX11_worn_26 : decode cX11_worn 26 = .ok (.invokevirtual 77, 3) := by decide +kernel
theorem dX11_worn_29 : decode cX11_worn 29 = .ok (.ireturn, 1) := by decide +kernel
theorem dX11_worn_30 : decode cX11_worn 30 = .ok (.aload_n 0, 1) := by decide +kernel
theorem dX11_worn_31 : decode cX11_worn 31 = .ok (.getfield 56, 3) := by decide +kernel
theorem dX11_worn_34 : decode cX11_worn 34 = .ok (.aload_n 0, 1) := by decide +kernel
theorem dX11_worn_35 : decode cX11_worn 35 = .ok (.getfield 19, 3) := by decide +kernel
theorem dX11_worn_38 : decode cX11_worn 38 = .ok (.getfield 88, 3) := by decide +kernel
theorem dX11_worn_41 : decode cX11_worn 41 = .ok (.aload_n 0, 1) := by decide +kernel
theorem dX11_worn_42 : decode cX11_worn 42 = .ok (.getfield 19, 3) := by decide +kernel
theorem dX11_worn_45 : decode cX11_worn 45 = .ok (.getfield 129, 3) := by decide +kernel
theorem dX11_worn_48 : decode cX11_worn 48 = .ok (.invokevirtual 215, 3) := by decide +kernel
theorem dX11_worn_51 : decode cX11_worn 51 = .ok (.iload_n 1, 1) := by decide +kernel
theorem dX11_worn_52 : decode cX11_worn 52 = .ok (.ifCond .ne 13, 3) := by decide +kernel
theorem dX11_worn_55 : decode cX11_worn 55 = .ok (.aload_n 0, 1) := by decide +kernel
theorem dX11_worn_56 : decode cX11_worn 56 = .ok (.getfield 56, 3) := by decide +kernel
theorem dX11_worn_59 : decode cX11_worn 59 = .ok (.getfield 218, 3) := by decide +kernel
theorem dX11_worn_62 : decode cX11_worn 62 = .ok (.goto 10, 3) := by decide +kernel
theorem dX11_worn_65 : decode cX11_worn 65 = .ok (.aload_n 0, 1) := by decide +kernel
theorem dX11_worn_66 : decode cX11_worn 66 = .ok (.getfield 56, 3) := by decide +kernel
theorem dX11_worn_69 : decode cX11_worn 69 = .ok (.getfield 219, 3) := by decide +kernel
theorem dX11_worn_72 : decode cX11_worn 72 = .ok (.ireturn, 1) := by decide +kernel
set_option maxRecDepth 20000 in
theorem ggX11_likeliest_X11_refuse : GoodIn wsX11_likeliest wsX11_refuse := goodIn_r _ [12, 13, 100, 101, 102, 103, 104, 105, 106, 107, 108, 109, 110, 111] (by decide +kernel) (by decide +kernel)
set_option maxRecDepth 20000 in
theorem gX11_likeliest_X11_refuse : GoodIn wsX11_likeliest (wsV RX11 77 RX11 yX11_refuse wsX11_refuse) := goodIn_app (goodIn_of _ (by decide +kernel)) ggX11_likeliest_X11_refuse
set_option maxRecDepth 20000 in
theorem ggX11_likeliest_X11_isWorn : GoodIn wsX11_likeliest wsX11_isWorn := goodIn_r _ [17, 2, 4, 18, 19, 20, 21, 22, 23, 24, 100, 101, 102, 103, 104, 105, 106, 107, 108, 109, 110, 111, 112, 113, 114, 124, 125] (by decide +kernel) (by decide +kernel)
set_option maxRecDepth 20000 in
theorem gX11_likeliest_X11_isWorn : GoodIn wsX11_likeliest (wsV RX11 211 RX11 yX11_isWorn wsX11_isWorn) := goodIn_app (goodIn_of _ (by decide +kernel)) ggX11_likeliest_X11_isWorn
set_option maxRecDepth 20000 in
theorem ggX11_likeliest_X10_seek : GoodIn wsX11_likeliest wsX10_seek := goodIn_r _ [29, 30, 31, 32, 33, 34, 35, 36, 37, 38, 39, 40, 41, 42, 43, 44, 45, 46, 28, 47, 48, 49, 50, 51, 52, 53, 54, 55, 56, 57, 58, 59, 60, 61, 62, 63, 64, 65, 66, 67, 68, 69, 70, 71, 72, 73, 74, 75, 76, 77, 78, 79, 80, 81, 82, 83, 84, 85, 86, 87, 88, 89, 90, 91, 92, 93, 94, 95, 96, 97, 98, 99, 115, 116, 117, 118, 119, 120, 121, 122, 123, 126, 127, 128, 129, 130, 131, 132, 133, 134, 124, 125] (by decide +kernel) (by decide +kernel)
set_option maxRecDepth 20000 in
theorem gX11_likeliest_X10_seek : GoodIn wsX11_likeliest (wsV RX11 215 RX10 yX10_seek wsX10_seek) := goodIn_app (goodIn_of _ (by decide +kernel)) ggX11_likeliest_X10_seek
theorem dX11_likeliest_0 : decode cX11_likeliest 0 = .ok (.iload_n 1, 1) := by decide +kernel
theorem dX11_likeliest_1 : decode cX11_likeliest 1 = .ok (.ifCond .ge 10, 3) := by decide +kernel
theorem dX11_likeliest_4 : decode cX11_likeliest 4 = .ok (.aload_n 0, 1) := by decide +kernel
theorem dX11_likeliest_5 : decode cX11_likeliest 5 = .ok (.bipush (-4), 2) := by decide +kernel
theorem dX11_likeliest_7 : decode cX11_likeliest 7 = .ok (.invokevirtual 77, 3) := by decide +kernel
theorem dX11_likeliest_10 : decode cX11_likeliest 10 = .ok (.ireturn, 1) := by decide +kernel
theorem dX11_likeliest_11 : decode cX11_likeliest 11 = .ok (.aload_n 0, 1) := by decide +kernel
theorem dX11_likeliest_12 : decode cX11_likeliest 12 = .ok (.invokevirtual 211, 3) := by decide +kernel
theorem dX11_likeliest_15 : decode cX11_likeliest 15 = .ok (.ifCond .ne 10, 3) := by decide +kernel
theorem dX11_likeliest_18 : decode cX11_likeliest 18 = .ok (.aload_n 0, 1) := by decide +kernel
theorem dX11_likeliest_19 : decode cX11_likeliest 19 = .ok (.bipush (-3), 2) := by decide +kernel
theorem dX11_likeliest_21 : decode cX11_likeliest 21 = .ok (.invokevirtual 77, 3) := by decide +kernel
theorem dX11_likeliest_24 : decode cX11_likeliest 24 = .ok (.ireturn, 1) := by decide +kernel
theorem dX11_likeliest_25 : decode cX11_likeliest 25 = .ok (.aload_n 0, 1) := by decide +kernel
theorem dX11_likeliest_26 : decode cX11_likeliest 26 = .ok (.getfield 56, 3) := by decide +kernel
theorem dX11_likeliest_29 : decode cX11_likeliest 29 = .ok (.aload_n 0, 1) := by decide +kernel
theorem dX11_likeliest_30 : decode cX11_likeliest 30 = .ok (.getfield 19, 3) := by decide +kernel
theorem dX11_likeliest_33 : decode cX11_likeliest 33 = .ok (.getfield 88, 3) := by decide +kernel
theorem dX11_likeliest_36 : decode cX11_likeliest 36 = .ok (.aload_n 0, 1) := by decide +kernel
theorem dX11_likeliest_37 : decode cX11_likeliest 37 = .ok (.getfield 19, 3) := by decide +kernel
theorem dX11_likeliest_40 : decode cX11_likeliest 40 = .ok (.getfield 129, 3) := by decide +kernel
theorem dX11_likeliest_43 : decode cX11_likeliest 43 = .ok (.invokevirtual 215, 3) := by decide +kernel
theorem dX11_likeliest_46 : decode cX11_likeliest 46 = .ok (.aload_n 0, 1) := by decide +kernel
theorem dX11_likeliest_47 : decode cX11_likeliest 47 = .ok (.getfield 56, 3) := by decide +kernel
theorem dX11_likeliest_50 : decode cX11_likeliest 50 = .ok (.getfield 218, 3) := by decide +kernel
theorem dX11_likeliest_53 : decode cX11_likeliest 53 = .ok (.ifCond .le 26, 3) := by decide +kernel
theorem dX11_likeliest_56 : decode cX11_likeliest 56 = .ok (.iload_n 1, 1) := by decide +kernel
theorem dX11_likeliest_57 : decode cX11_likeliest 57 = .ok (.aload_n 0, 1) := by decide +kernel
theorem dX11_likeliest_58 : decode cX11_likeliest 58 = .ok (.getfield 56, 3) := by decide +kernel
theorem dX11_likeliest_61 : decode cX11_likeliest 61 = .ok (.getfield 222, 3) := by decide +kernel
theorem dX11_likeliest_64 : decode cX11_likeliest 64 = .ok (.if_icmp .ge 15, 3) := by decide +kernel
theorem dX11_likeliest_67 : decode cX11_likeliest 67 = .ok (.aload_n 0, 1) := by decide +kernel
theorem dX11_likeliest_68 : decode cX11_likeliest 68 = .ok (.getfield 56, 3) := by decide +kernel
theorem dX11_likeliest_71 : decode cX11_likeliest 71 = .ok (.getfield 225, 3) := by decide +kernel
theorem dX11_likeliest_74 : decode cX11_likeliest 74 = .ok (.iload_n 1, 1) := by decide +kernel
theorem dX11_likeliest_75 : decode cX11_likeliest 75 = .ok (.iaload, 1) := by decide +kernel
theorem dX11_likeliest_76 : decode cX11_likeliest 76 = .ok (.goto 5, 3) := by decide +kernel
theorem dX11_likeliest_79 : decode cX11_likeliest 79 = .ok (.bipush (-9), 2) := by decide +kernel
theorem dX11_likeliest_81 : decode cX11_likeliest 81 = .ok (.ireturn, 1) := by decide +kernel
set_option maxRecDepth 20000 in
theorem ggX11_sure_X4_hasPlace : GoodIn wsX11_sure wsX4_hasPlace := goodIn_r _ [10, 11, 126, 127] (by decide +kernel) (by decide +kernel)
set_option maxRecDepth 20000 in
theorem gX11_sure_X4_hasPlace : GoodIn wsX11_sure (wsV RX11 156 RX4 yX4_hasPlace wsX4_hasPlace) := goodIn_app (goodIn_of _ (by decide +kernel)) ggX11_sure_X4_hasPlace
set_option maxRecDepth 20000 in
theorem ggX11_sure_X11_refuse : GoodIn wsX11_sure wsX11_refuse := goodIn_r _ [16, 17, 102, 103, 104, 105, 106, 107, 108, 109, 110, 111, 112, 113] (by decide +kernel) (by decide +kernel)
set_option maxRecDepth 20000 in
theorem gX11_sure_X11_refuse : GoodIn wsX11_sure (wsV RX11 77 RX11 yX11_refuse wsX11_refuse) := goodIn_app (goodIn_of _ (by decide +kernel)) ggX11_sure_X11_refuse
set_option maxRecDepth 20000 in
theorem ggX11_sure_X11_isWorn : GoodIn wsX11_sure wsX11_isWorn := goodIn_r _ [21, 1, 2, 22, 23, 24, 9, 25, 11, 26, 102, 103, 104, 105, 106, 107, 108, 109, 110, 111, 112, 113, 114, 115, 116, 126, 127] (by decide +kernel) (by decide +kernel)
set_option maxRecDepth 20000 in
theorem gX11_sure_X11_isWorn : GoodIn wsX11_sure (wsV RX11 211 RX11 yX11_isWorn wsX11_isWorn) := goodIn_app (goodIn_of _ (by decide +kernel)) ggX11_sure_X11_isWorn
set_option maxRecDepth 20000 in
theorem ggX11_sure_X10_seek : GoodIn wsX11_sure wsX10_seek := goodIn_r _ [31, 32, 33, 34, 35, 36, 37, 38, 39, 40, 41, 42, 43, 44, 45, 46, 47, 48, 30, 49, 50, 51, 52, 53, 54, 55, 56, 57, 58, 59, 60, 61, 62, 63, 64, 65, 66, 67, 68, 69, 70, 71, 72, 73, 74, 75, 76, 77, 78, 79, 80, 81, 82, 83, 84, 85, 86, 87, 88, 89, 90, 91, 92, 93, 94, 95, 96, 97, 98, 99, 100, 101, 117, 118, 119, 120, 121, 122, 123, 124, 125, 128, 129, 130, 131, 132, 133, 134, 135, 136, 126, 127] (by decide +kernel) (by decide +kernel)
set_option maxRecDepth 20000 in
theorem gX11_sure_X10_seek : GoodIn wsX11_sure (wsV RX11 215 RX10 yX10_seek wsX10_seek) := goodIn_app (goodIn_of _ (by decide +kernel)) ggX11_sure_X10_seek
theorem dX11_sure_0 : decode cX11_sure 0 = .ok (.aload_n 0, 1) := by decide +kernel
theorem dX11_sure_1 : decode cX11_sure 1 = .ok (.getfield 19, 3) := by decide +kernel
theorem dX11_sure_4 : decode cX11_sure 4 = .ok (.getfield 129, 3) := by decide +kernel
theorem dX11_sure_7 : decode cX11_sure 7 = .ok (.iload_n 1, 1) := by decide +kernel
theorem dX11_sure_8 : decode cX11_sure 8 = .ok (.invokevirtual 156, 3) := by decide +kernel
theorem dX11_sure_11 : decode cX11_sure 11 = .ok (.ifCond .ne 9, 3) := by decide +kernel
theorem dX11_sure_14 : decode cX11_sure 14 = .ok (.aload_n 0, 1) := by decide +kernel
theorem dX11_sure_15 : decode cX11_sure 15 = .ok (.iconst (-1), 1) := by decide +kernel
theorem dX11_sure_16 : decode cX11_sure 16 = .ok (.invokevirtual 77, 3) := by decide +kernel
theorem dX11_sure_19 : decode cX11_sure 19 = .ok (.ireturn, 1) := by decide +kernel
theorem dX11_sure_20 : decode cX11_sure 20 = .ok (.aload_n 0, 1) := by decide +kernel
theorem dX11_sure_21 : decode cX11_sure 21 = .ok (.invokevirtual 211, 3) := by decide +kernel
theorem dX11_sure_24 : decode cX11_sure 24 = .ok (.ifCond .ne 10, 3) := by decide +kernel
theorem dX11_sure_27 : decode cX11_sure 27 = .ok (.aload_n 0, 1) := by decide +kernel
theorem dX11_sure_28 : decode cX11_sure 28 = .ok (.bipush (-3), 2) := by decide +kernel
theorem dX11_sure_30 : decode cX11_sure 30 = .ok (.invokevirtual 77, 3) := by decide +kernel
theorem dX11_sure_33 : decode cX11_sure 33 = .ok (.ireturn, 1) := by decide +kernel
theorem dX11_sure_34 : decode cX11_sure 34 = .ok (.aload_n 0, 1) := by decide +kernel
theorem dX11_sure_35 : decode cX11_sure 35 = .ok (.getfield 56, 3) := by decide +kernel
theorem dX11_sure_38 : decode cX11_sure 38 = .ok (.aload_n 0, 1) := by decide +kernel
theorem dX11_sure_39 : decode cX11_sure 39 = .ok (.getfield 19, 3) := by decide +kernel
theorem dX11_sure_42 : decode cX11_sure 42 = .ok (.getfield 88, 3) := by decide +kernel
theorem dX11_sure_45 : decode cX11_sure 45 = .ok (.aload_n 0, 1) := by decide +kernel
theorem dX11_sure_46 : decode cX11_sure 46 = .ok (.getfield 19, 3) := by decide +kernel
theorem dX11_sure_49 : decode cX11_sure 49 = .ok (.getfield 129, 3) := by decide +kernel
theorem dX11_sure_52 : decode cX11_sure 52 = .ok (.invokevirtual 215, 3) := by decide +kernel
theorem dX11_sure_55 : decode cX11_sure 55 = .ok (.aload_n 0, 1) := by decide +kernel
theorem dX11_sure_56 : decode cX11_sure 56 = .ok (.getfield 56, 3) := by decide +kernel
theorem dX11_sure_59 : decode cX11_sure 59 = .ok (.getfield 228, 3) := by decide +kernel
theorem dX11_sure_62 : decode cX11_sure 62 = .ok (.iload_n 1, 1) := by decide +kernel
theorem dX11_sure_63 : decode cX11_sure 63 = .ok (.iaload, 1) := by decide +kernel
theorem dX11_sure_64 : decode cX11_sure 64 = .ok (.ireturn, 1) := by decide +kernel
set_option maxRecDepth 20000 in
theorem ggX11_safe_X8_hasWord : GoodIn wsX11_safe wsX8_hasWord := goodIn_r _ [15, 16, 65, 66, 67, 68, 69, 70, 71, 72, 73] (by decide +kernel) (by decide +kernel)
set_option maxRecDepth 20000 in
theorem gX11_safe_X8_hasWord : GoodIn wsX11_safe (wsV RX11 99 RX8 yX8_hasWord wsX8_hasWord) := goodIn_app (goodIn_of _ (by decide +kernel)) ggX11_safe_X8_hasWord
set_option maxRecDepth 20000 in
theorem ggX11_safe_X11_refuse : GoodIn wsX11_safe wsX11_refuse := goodIn_r _ [21, 22, 48, 49, 50, 51, 52, 53, 54, 55, 56, 57, 58, 59] (by decide +kernel) (by decide +kernel)
set_option maxRecDepth 20000 in
theorem gX11_safe_X11_refuse : GoodIn wsX11_safe (wsV RX11 77 RX11 yX11_refuse wsX11_refuse) := goodIn_app (goodIn_of _ (by decide +kernel)) ggX11_safe_X11_refuse
set_option maxRecDepth 20000 in
theorem ggX11_safe_X11_roadsReadAsNow : GoodIn wsX11_safe wsX11_roadsReadAsNow := goodIn_r _ [26, 1, 2, 27, 3, 5, 4, 28, 29, 30, 14, 31, 32, 33, 34, 35, 36, 37, 38, 39, 40, 41, 42, 43, 44, 45, 46, 47, 12, 13, 15, 16, 48, 49, 50, 51, 52, 53, 54, 55, 56, 57, 58, 59, 60, 61, 62, 65, 66, 67, 68, 69, 70, 71, 72, 73, 63, 64] (by decide +kernel) (by decide +kernel)
set_option maxRecDepth 20000 in
theorem gX11_safe_X11_roadsReadAsNow : GoodIn wsX11_safe (wsV RX11 231 RX11 yX11_roadsReadAsNow wsX11_roadsReadAsNow) := goodIn_app (goodIn_of _ (by decide +kernel)) ggX11_safe_X11_roadsReadAsNow
theorem dX11_safe_0 : decode cX11_safe 0 = .ok (.aload_n 0, 1) := by decide +kernel
theorem dX11_safe_1 : decode cX11_safe 1 = .ok (.getfield 19, 3) := by decide +kernel
theorem dX11_safe_4 : decode cX11_safe 4 = .ok (.getfield 88, 3) := by decide +kernel
theorem dX11_safe_7 : decode cX11_safe 7 = .ok (.iload_n 1, 1) := by decide +kernel
theorem dX11_safe_8 : decode cX11_safe 8 = .ok (.invokevirtual 99, 3) := by decide +kernel
theorem dX11_safe_11 : decode cX11_safe 11 = .ok (.ifCond .ne 9, 3) := by decide +kernel
theorem dX11_safe_14 : decode cX11_safe 14 = .ok (.aload_n 0, 1) := by decide +kernel
theorem dX11_safe_15 : decode cX11_safe 15 = .ok (.iconst (-1), 1) := by decide +kernel
theorem dX11_safe_16 : decode cX11_safe 16 = .ok (.invokevirtual 77, 3) := by decide +kernel
theorem dX11_safe_19 : decode cX11_safe 19 = .ok (.ireturn, 1) := by decide +kernel
theorem dX11_safe_20 : decode cX11_safe 20 = .ok (.aload_n 0, 1) := by decide +kernel
theorem dX11_safe_21 : decode cX11_safe 21 = .ok (.getfield 19, 3) := by decide +kernel
theorem dX11_safe_24 : decode cX11_safe 24 = .ok (.getfield 129, 3) := by decide +kernel
theorem dX11_safe_27 : decode cX11_safe 27 = .ok (.getfield 133, 3) := by decide +kernel
theorem dX11_safe_30 : decode cX11_safe 30 = .ok (.istore_n 2, 1) := by decide +kernel
theorem dX11_safe_31 : decode cX11_safe 31 = .ok (.iload_n 2, 1) := by decide +kernel
theorem dX11_safe_32 : decode cX11_safe 32 = .ok (.bipush 12, 2) := by decide +kernel
theorem dX11_safe_34 : decode cX11_safe 34 = .ok (.if_icmp .lt 10, 3) := by decide +kernel
theorem dX11_safe_37 : decode cX11_safe 37 = .ok (.aload_n 0, 1) := by decide +kernel
theorem dX11_safe_38 : decode cX11_safe 38 = .ok (.bipush (-6), 2) := by decide +kernel
theorem dX11_safe_40 : decode cX11_safe 40 = .ok (.invokevirtual 77, 3) := by decide +kernel
theorem dX11_safe_43 : decode cX11_safe 43 = .ok (.ireturn, 1) := by decide +kernel
theorem dX11_safe_44 : decode cX11_safe 44 = .ok (.iload_n 2, 1) := by decide +kernel
theorem dX11_safe_45 : decode cX11_safe 45 = .ok (.ifCond .ne 10, 3) := by decide +kernel
theorem dX11_safe_48 : decode cX11_safe 48 = .ok (.aload_n 0, 1) := by decide +kernel
theorem dX11_safe_49 : decode cX11_safe 49 = .ok (.bipush (-3), 2) := by decide +kernel
theorem dX11_safe_51 : decode cX11_safe 51 = .ok (.invokevirtual 77, 3) := by decide +kernel
theorem dX11_safe_54 : decode cX11_safe 54 = .ok (.ireturn, 1) := by decide +kernel
theorem dX11_safe_55 : decode cX11_safe 55 = .ok (.iconst 0, 1) := by decide +kernel
theorem dX11_safe_56 : decode cX11_safe 56 = .ok (.istore_n 3, 1) := by decide +kernel
theorem dX11_safe_57 : decode cX11_safe 57 = .ok (.iconst 0, 1) := by decide +kernel
theorem dX11_safe_58 : decode cX11_safe 58 = .ok (.istore 4, 2) := by decide +kernel
theorem dX11_safe_60 : decode cX11_safe 60 = .ok (.iload 4, 2) := by decide +kernel
theorem dX11_safe_62 : decode cX11_safe 62 = .ok (.iload_n 2, 1) := by decide +kernel
theorem dX11_safe_63 : decode cX11_safe 63 = .ok (.if_icmp .gt 86, 3) := by decide +kernel
theorem dX11_safe_66 : decode cX11_safe 66 = .ok (.aload_n 0, 1) := by decide +kernel
theorem dX11_safe_67 : decode cX11_safe 67 = .ok (.getfield 19, 3) := by decide +kernel
theorem dX11_safe_70 : decode cX11_safe 70 = .ok (.getfield 129, 3) := by decide +kernel
theorem dX11_safe_73 : decode cX11_safe 73 = .ok (.getfield 142, 3) := by decide +kernel
theorem dX11_safe_76 : decode cX11_safe 76 = .ok (.iconst 0, 1) := by decide +kernel
theorem dX11_safe_77 : decode cX11_safe 77 = .ok (.aload_n 0, 1) := by decide +kernel
theorem dX11_safe_78 : decode cX11_safe 78 = .ok (.getfield 67, 3) := by decide +kernel
theorem dX11_safe_81 : decode cX11_safe 81 = .ok (.iconst 0, 1) := by decide +kernel
theorem dX11_safe_82 : decode cX11_safe 82 = .ok (.iload 4, 2) := by decide +kernel
theorem dX11_safe_84 : decode cX11_safe 84 = .ok (.invokestatic 162, 3) := by decide +kernel
theorem dX11_safe_87 : decode cX11_safe 87 = .ok (.aload_n 0, 1) := by decide +kernel
theorem dX11_safe_88 : decode cX11_safe 88 = .ok (.getfield 67, 3) := by decide +kernel
theorem dX11_safe_91 : decode cX11_safe 91 = .ok (.iload 4, 2) := by decide +kernel
theorem dX11_safe_93 : decode cX11_safe 93 = .ok (.iload_n 1, 1) := by decide +kernel
theorem dX11_safe_94 : decode cX11_safe 94 = .ok (.iastore, 1) := by decide +kernel
theorem dX11_safe_95 : decode cX11_safe 95 = .ok (.aload_n 0, 1) := by decide +kernel
theorem dX11_safe_96 : decode cX11_safe 96 = .ok (.getfield 19, 3) := by decide +kernel
theorem dX11_safe_99 : decode cX11_safe 99 = .ok (.getfield 129, 3) := by decide +kernel
theorem dX11_safe_102 : decode cX11_safe 102 = .ok (.getfield 142, 3) := by decide +kernel
theorem dX11_safe_105 : decode cX11_safe 105 = .ok (.iload 4, 2) := by decide +kernel
theorem dX11_safe_107 : decode cX11_safe 107 = .ok (.aload_n 0, 1) := by decide +kernel
theorem dX11_safe_108 : decode cX11_safe 108 = .ok (.getfield 67, 3) := by decide +kernel
theorem dX11_safe_111 : decode cX11_safe 111 = .ok (.iload 4, 2) := by decide +kernel
theorem dX11_safe_113 : decode cX11_safe 113 = .ok (.iconst 1, 1) := by decide +kernel
theorem dX11_safe_114 : decode cX11_safe 114 = .ok (.iadd, 1) := by decide +kernel
theorem dX11_safe_115 : decode cX11_safe 115 = .ok (.iload_n 2, 1) := by decide +kernel
theorem dX11_safe_116 : decode cX11_safe 116 = .ok (.iload 4, 2) := by decide +kernel
theorem dX11_safe_118 : decode cX11_safe 118 = .ok (.isub, 1) := by decide +kernel
theorem dX11_safe_119 : decode cX11_safe 119 = .ok (.invokestatic 162, 3) := by decide +kernel
theorem dX11_safe_122 : decode cX11_safe 122 = .ok (.aload_n 0, 1) := by decide +kernel
theorem dX11_safe_123 : decode cX11_safe 123 = .ok (.aload_n 0, 1) := by decide +kernel
theorem dX11_safe_124 : decode cX11_safe 124 = .ok (.getfield 67, 3) := by decide +kernel
theorem dX11_safe_127 : decode cX11_safe 127 = .ok (.iload_n 2, 1) := by decide +kernel
theorem dX11_safe_128 : decode cX11_safe 128 = .ok (.iconst 1, 1) := by decide +kernel
theorem dX11_safe_129 : decode cX11_safe 129 = .ok (.iadd, 1) := by decide +kernel
theorem dX11_safe_130 : decode cX11_safe 130 = .ok (.invokevirtual 231, 3) := by decide +kernel
theorem dX11_safe_133 : decode cX11_safe 133 = .ok (.ifCond .eq 10, 3) := by decide +kernel
theorem dX11_safe_136 : decode cX11_safe 136 = .ok (.iload_n 3, 1) := by decide +kernel
theorem dX11_safe_137 : decode cX11_safe 137 = .ok (.iconst 1, 1) := by decide +kernel
theorem dX11_safe_138 : decode cX11_safe 138 = .ok (.iload 4, 2) := by decide +kernel
theorem dX11_safe_140 : decode cX11_safe 140 = .ok (.ishl, 1) := by decide +kernel
theorem dX11_safe_141 : decode cX11_safe 141 = .ok (.ior, 1) := by decide +kernel
theorem dX11_safe_142 : decode cX11_safe 142 = .ok (.istore_n 3, 1) := by decide +kernel
theorem dX11_safe_143 : decode cX11_safe 143 = .ok (.iinc 4 1, 3) := by decide +kernel
theorem dX11_safe_146 : decode cX11_safe 146 = .ok (.goto (-86), 3) := by decide +kernel
theorem dX11_safe_149 : decode cX11_safe 149 = .ok (.iload_n 3, 1) := by decide +kernel
theorem dX11_safe_150 : decode cX11_safe 150 = .ok (.ireturn, 1) := by decide +kernel
set_option maxRecDepth 20000 in
theorem ggX11_pair_X8_hasWord : GoodIn wsX11_pair wsX8_hasWord := goodIn_r _ [9, 10, 47, 48, 49, 50, 51, 52, 53, 54, 55] (by decide +kernel) (by decide +kernel)
set_option maxRecDepth 20000 in
theorem gX11_pair_X8_hasWord : GoodIn wsX11_pair (wsV RX11 99 RX8 yX8_hasWord wsX8_hasWord) := goodIn_app (goodIn_of _ (by decide +kernel)) ggX11_pair_X8_hasWord
set_option maxRecDepth 20000 in
theorem ggX11_pair_X11_refuse : GoodIn wsX11_pair wsX11_refuse := goodIn_r _ [15, 16, 29, 30, 31, 32, 33, 34, 35, 36, 37, 38, 39, 40] (by decide +kernel) (by decide +kernel)
set_option maxRecDepth 20000 in
theorem gX11_pair_X11_refuse : GoodIn wsX11_pair (wsV RX11 77 RX11 yX11_refuse wsX11_refuse) := goodIn_app (goodIn_of _ (by decide +kernel)) ggX11_pair_X11_refuse
set_option maxRecDepth 20000 in
theorem ggX11_pair_X3_has : GoodIn wsX11_pair wsX3_has := goodIn_r _ [21, 22, 23, 24, 44, 45, 46] (by decide +kernel) (by decide +kernel)
set_option maxRecDepth 20000 in
theorem gX11_pair_X3_has : GoodIn wsX11_pair (wsV RX11 239 RX3 yX3_has wsX3_has) := goodIn_app (goodIn_of _ (by decide +kernel)) ggX11_pair_X3_has
set_option maxRecDepth 20000 in
theorem ggX11_pair_X3_add : GoodIn wsX11_pair wsX3_add := goodIn_r _ [28, 22, 23, 24, 44, 45, 46] (by decide +kernel) (by decide +kernel)
set_option maxRecDepth 20000 in
theorem gX11_pair_X3_add : GoodIn wsX11_pair (wsV RX11 245 RX3 yX3_add wsX3_add) := goodIn_app (goodIn_of _ (by decide +kernel)) ggX11_pair_X3_add
theorem dX11_pair_0 : decode cX11_pair 0 = .ok (.aload_n 0, 1) := by decide +kernel
theorem dX11_pair_1 : decode cX11_pair 1 = .ok (.getfield 19, 3) := by decide +kernel
theorem dX11_pair_4 : decode cX11_pair 4 = .ok (.getfield 88, 3) := by decide +kernel
theorem dX11_pair_7 : decode cX11_pair 7 = .ok (.iload_n 1, 1) := by decide +kernel
theorem dX11_pair_8 : decode cX11_pair 8 = .ok (.invokevirtual 99, 3) := by decide +kernel
theorem dX11_pair_11 : decode cX11_pair 11 = .ok (.ifCond .eq 17, 3) := by decide +kernel
theorem dX11_pair_14 : decode cX11_pair 14 = .ok (.aload_n 0, 1) := by decide +kernel
theorem dX11_pair_15 : decode cX11_pair 15 = .ok (.getfield 19, 3) := by decide +kernel
theorem dX11_pair_18 : decode cX11_pair 18 = .ok (.getfield 88, 3) := by decide +kernel
theorem dX11_pair_21 : decode cX11_pair 21 = .ok (.iload_n 2, 1) := by decide +kernel
theorem dX11_pair_22 : decode cX11_pair 22 = .ok (.invokevirtual 99, 3) := by decide +kernel
theorem dX11_pair_25 : decode cX11_pair 25 = .ok (.ifCond .ne 9, 3) := by decide +kernel
theorem dX11_pair_28 : decode cX11_pair 28 = .ok (.aload_n 0, 1) := by decide +kernel
theorem dX11_pair_29 : decode cX11_pair 29 = .ok (.iconst (-1), 1) := by decide +kernel
theorem dX11_pair_30 : decode cX11_pair 30 = .ok (.invokevirtual 77, 3) := by decide +kernel
theorem dX11_pair_33 : decode cX11_pair 33 = .ok (.ireturn, 1) := by decide +kernel
theorem dX11_pair_34 : decode cX11_pair 34 = .ok (.aload_n 0, 1) := by decide +kernel
theorem dX11_pair_35 : decode cX11_pair 35 = .ok (.getfield 19, 3) := by decide +kernel
theorem dX11_pair_38 : decode cX11_pair 38 = .ok (.getfield 235, 3) := by decide +kernel
theorem dX11_pair_41 : decode cX11_pair 41 = .ok (.iload_n 1, 1) := by decide +kernel
theorem dX11_pair_42 : decode cX11_pair 42 = .ok (.iload_n 2, 1) := by decide +kernel
theorem dX11_pair_43 : decode cX11_pair 43 = .ok (.invokevirtual 239, 3) := by decide +kernel
theorem dX11_pair_46 : decode cX11_pair 46 = .ok (.ifCond .eq 10, 3) := by decide +kernel
theorem dX11_pair_49 : decode cX11_pair 49 = .ok (.aload_n 0, 1) := by decide +kernel
theorem dX11_pair_50 : decode cX11_pair 50 = .ok (.bipush (-3), 2) := by decide +kernel
theorem dX11_pair_52 : decode cX11_pair 52 = .ok (.invokevirtual 77, 3) := by decide +kernel
theorem dX11_pair_55 : decode cX11_pair 55 = .ok (.ireturn, 1) := by decide +kernel
theorem dX11_pair_56 : decode cX11_pair 56 = .ok (.aload_n 0, 1) := by decide +kernel
theorem dX11_pair_57 : decode cX11_pair 57 = .ok (.getfield 19, 3) := by decide +kernel
theorem dX11_pair_60 : decode cX11_pair 60 = .ok (.getfield 235, 3) := by decide +kernel
theorem dX11_pair_63 : decode cX11_pair 63 = .ok (.getfield 244, 3) := by decide +kernel
theorem dX11_pair_66 : decode cX11_pair 66 = .ok (.bipush 12, 2) := by decide +kernel
theorem dX11_pair_68 : decode cX11_pair 68 = .ok (.if_icmp .lt 10, 3) := by decide +kernel
theorem dX11_pair_71 : decode cX11_pair 71 = .ok (.aload_n 0, 1) := by decide +kernel
theorem dX11_pair_72 : decode cX11_pair 72 = .ok (.bipush (-6), 2) := by decide +kernel
theorem dX11_pair_74 : decode cX11_pair 74 = .ok (.invokevirtual 77, 3) := by decide +kernel
theorem dX11_pair_77 : decode cX11_pair 77 = .ok (.ireturn, 1) := by decide +kernel
theorem dX11_pair_78 : decode cX11_pair 78 = .ok (.aload_n 0, 1) := by decide +kernel
theorem dX11_pair_79 : decode cX11_pair 79 = .ok (.getfield 19, 3) := by decide +kernel
theorem dX11_pair_82 : decode cX11_pair 82 = .ok (.getfield 235, 3) := by decide +kernel
theorem dX11_pair_85 : decode cX11_pair 85 = .ok (.iload_n 1, 1) := by decide +kernel
theorem dX11_pair_86 : decode cX11_pair 86 = .ok (.iload_n 2, 1) := by decide +kernel
theorem dX11_pair_87 : decode cX11_pair 87 = .ok (.invokevirtual 245, 3) := by decide +kernel
theorem dX11_pair_90 : decode cX11_pair 90 = .ok (.ireturn, 1) := by decide +kernel
set_option maxRecDepth 20000 in
theorem ggX11_every_X11_refuse : GoodIn wsX11_every wsX11_refuse := goodIn_r _ [10, 11, 33, 34, 35, 36, 37, 38, 39, 40, 41, 42, 43, 44] (by decide +kernel) (by decide +kernel)
set_option maxRecDepth 20000 in
theorem gX11_every_X11_refuse : GoodIn wsX11_every (wsV RX11 77 RX11 yX11_refuse wsX11_refuse) := goodIn_app (goodIn_of _ (by decide +kernel)) ggX11_every_X11_refuse
set_option maxRecDepth 20000 in
theorem ggX11_every_X0_close : GoodIn wsX11_every wsX0_close := goodIn_r _ [16, 17, 18, 19, 20, 21, 22, 23, 24, 15, 25, 26, 27, 28, 29, 30, 31, 32, 48, 49, 50, 51, 52] (by decide +kernel) (by decide +kernel)
set_option maxRecDepth 20000 in
theorem gX11_every_X0_close : GoodIn wsX11_every (wsV RX11 247 RX0 yX0_close wsX0_close) := goodIn_app (goodIn_of _ (by decide +kernel)) ggX11_every_X0_close
theorem dX11_every_0 : decode cX11_every 0 = .ok (.iload_n 1, 1) := by decide +kernel
theorem dX11_every_1 : decode cX11_every 1 = .ok (.iconst (-1), 1) := by decide +kernel
theorem dX11_every_2 : decode cX11_every 2 = .ok (.if_icmp .ge 10, 3) := by decide +kernel
theorem dX11_every_5 : decode cX11_every 5 = .ok (.aload_n 0, 1) := by decide +kernel
theorem dX11_every_6 : decode cX11_every 6 = .ok (.bipush (-4), 2) := by decide +kernel
theorem dX11_every_8 : decode cX11_every 8 = .ok (.invokevirtual 77, 3) := by decide +kernel
theorem dX11_every_11 : decode cX11_every 11 = .ok (.ireturn, 1) := by decide +kernel
theorem dX11_every_12 : decode cX11_every 12 = .ok (.aload_n 0, 1) := by decide +kernel
theorem dX11_every_13 : decode cX11_every 13 = .ok (.getfield 19, 3) := by decide +kernel
theorem dX11_every_16 : decode cX11_every 16 = .ok (.getfield 235, 3) := by decide +kernel
theorem dX11_every_19 : decode cX11_every 19 = .ok (.getfield 244, 3) := by decide +kernel
theorem dX11_every_22 : decode cX11_every 22 = .ok (.ifCond .ne 10, 3) := by decide +kernel
theorem dX11_every_25 : decode cX11_every 25 = .ok (.aload_n 0, 1) := by decide +kernel
theorem dX11_every_26 : decode cX11_every 26 = .ok (.bipush (-3), 2) := by decide +kernel
theorem dX11_every_28 : decode cX11_every 28 = .ok (.invokevirtual 77, 3) := by decide +kernel
theorem dX11_every_31 : decode cX11_every 31 = .ok (.ireturn, 1) := by decide +kernel
theorem dX11_every_32 : decode cX11_every 32 = .ok (.aload_n 0, 1) := by decide +kernel
theorem dX11_every_33 : decode cX11_every 33 = .ok (.getfield 63, 3) := by decide +kernel
theorem dX11_every_36 : decode cX11_every 36 = .ok (.aload_n 0, 1) := by decide +kernel
theorem dX11_every_37 : decode cX11_every 37 = .ok (.getfield 19, 3) := by decide +kernel
theorem dX11_every_40 : decode cX11_every 40 = .ok (.getfield 235, 3) := by decide +kernel
theorem dX11_every_43 : decode cX11_every 43 = .ok (.invokevirtual 247, 3) := by decide +kernel
theorem dX11_every_46 : decode cX11_every 46 = .ok (.ifCond .eq 16, 3) := by decide +kernel
theorem dX11_every_49 : decode cX11_every 49 = .ok (.aload_n 0, 1) := by decide +kernel
theorem dX11_every_50 : decode cX11_every 50 = .ok (.getfield 19, 3) := by decide +kernel
theorem dX11_every_53 : decode cX11_every 53 = .ok (.getfield 235, 3) := by decide +kernel
theorem dX11_every_56 : decode cX11_every 56 = .ok (.getfield 244, 3) := by decide +kernel
theorem dX11_every_59 : decode cX11_every 59 = .ok (.goto 4, 3) := by decide +kernel
theorem dX11_every_62 : decode cX11_every 62 = .ok (.iconst 0, 1) := by decide +kernel
theorem dX11_every_63 : decode cX11_every 63 = .ok (.istore_n 2, 1) := by decide +kernel
theorem dX11_every_64 : decode cX11_every 64 = .ok (.iload_n 1, 1) := by decide +kernel
theorem dX11_every_65 : decode cX11_every 65 = .ok (.iconst (-1), 1) := by decide +kernel
theorem dX11_every_66 : decode cX11_every 66 = .ok (.if_icmp .ne 5, 3) := by decide +kernel
theorem dX11_every_69 : decode cX11_every 69 = .ok (.iload_n 2, 1) := by decide +kernel
theorem dX11_every_70 : decode cX11_every 70 = .ok (.ireturn, 1) := by decide +kernel
theorem dX11_every_71 : decode cX11_every 71 = .ok (.iload_n 1, 1) := by decide +kernel
theorem dX11_every_72 : decode cX11_every 72 = .ok (.iload_n 2, 1) := by decide +kernel
theorem dX11_every_73 : decode cX11_every 73 = .ok (.if_icmp .ge 15, 3) := by decide +kernel
theorem dX11_every_76 : decode cX11_every 76 = .ok (.aload_n 0, 1) := by decide +kernel
theorem dX11_every_77 : decode cX11_every 77 = .ok (.getfield 63, 3) := by decide +kernel
theorem dX11_every_80 : decode cX11_every 80 = .ok (.getfield 251, 3) := by decide +kernel
theorem dX11_every_83 : decode cX11_every 83 = .ok (.iload_n 1, 1) := by decide +kernel
theorem dX11_every_84 : decode cX11_every 84 = .ok (.iaload, 1) := by decide +kernel
theorem dX11_every_85 : decode cX11_every 85 = .ok (.goto 5, 3) := by decide +kernel
theorem dX11_every_88 : decode cX11_every 88 = .ok (.bipush (-9), 2) := by decide +kernel
theorem dX11_every_90 : decode cX11_every 90 = .ok (.ireturn, 1) := by decide +kernel
set_option maxRecDepth 20000 in
theorem ggX11_stones_X11_lacking : GoodIn wsX11_stones wsX11_lacking := goodIn_r _ [9, 10, 1, 11, 12, 13, 14, 15, 16, 17, 18, 19, 20, 21, 22, 23, 24, 25, 26, 27, 28, 29, 30, 31, 32, 33, 34, 35, 36, 37, 40, 41, 42, 43, 44, 45, 46, 47, 48] (by decide +kernel) (by decide +kernel)
set_option maxRecDepth 20000 in
theorem gX11_stones_X11_lacking : GoodIn wsX11_stones (wsV RX11 252 RX11 yX11_lacking wsX11_lacking) := goodIn_app (goodIn_of _ (by decide +kernel)) ggX11_stones_X11_lacking
theorem dX11_stones_0 : decode cX11_stones 0 = .ok (.aload_n 0, 1) := by decide +kernel
theorem dX11_stones_1 : decode cX11_stones 1 = .ok (.aload_n 0, 1) := by decide +kernel
theorem dX11_stones_2 : decode cX11_stones 2 = .ok (.getfield 19, 3) := by decide +kernel
theorem dX11_stones_5 : decode cX11_stones 5 = .ok (.getfield 129, 3) := by decide +kernel
theorem dX11_stones_8 : decode cX11_stones 8 = .ok (.getfield 142, 3) := by decide +kernel
theorem dX11_stones_11 : decode cX11_stones 11 = .ok (.aload_n 0, 1) := by decide +kernel
theorem dX11_stones_12 : decode cX11_stones 12 = .ok (.getfield 19, 3) := by decide +kernel
theorem dX11_stones_15 : decode cX11_stones 15 = .ok (.getfield 129, 3) := by decide +kernel
theorem dX11_stones_18 : decode cX11_stones 18 = .ok (.getfield 133, 3) := by decide +kernel
theorem dX11_stones_21 : decode cX11_stones 21 = .ok (.invokevirtual 252, 3) := by decide +kernel
theorem dX11_stones_24 : decode cX11_stones 24 = .ok (.ireturn, 1) := by decide +kernel
set_option maxRecDepth 20000 in
theorem ggX11_made_X11_refuse : GoodIn wsX11_made wsX11_refuse := goodIn_r _ [9, 10, 37, 38, 39, 40, 41, 42, 43, 44, 45, 46, 47, 48] (by decide +kernel) (by decide +kernel)
set_option maxRecDepth 20000 in
theorem gX11_made_X11_refuse : GoodIn wsX11_made (wsV RX11 77 RX11 yX11_refuse wsX11_refuse) := goodIn_app (goodIn_of _ (by decide +kernel)) ggX11_made_X11_refuse
set_option maxRecDepth 20000 in
theorem ggX11_made_X5_begin : GoodIn wsX11_made wsX5_begin := goodIn_r _ [14] (by decide +kernel) (by decide +kernel)
set_option maxRecDepth 20000 in
theorem gX11_made_X5_begin : GoodIn wsX11_made (va_wsS RX11 255 yX5_begin wsX5_begin) := goodIn_app (goodIn_of _ (by decide +kernel)) ggX11_made_X5_begin
set_option maxRecDepth 20000 in
theorem ggX11_made_X5_howMany : GoodIn wsX11_made wsX5_howMany := goodIn_r _ [17] (by decide +kernel) (by decide +kernel)
set_option maxRecDepth 20000 in
theorem gX11_made_X5_howMany : GoodIn wsX11_made (va_wsS RX11 261 yX5_howMany wsX5_howMany) := goodIn_app (goodIn_of _ (by decide +kernel)) ggX11_made_X5_howMany
set_option maxRecDepth 20000 in
theorem ggX11_made_X11_lacking : GoodIn wsX11_made wsX11_lacking := goodIn_r _ [21, 22, 2, 3, 23, 24, 25, 26, 27, 28, 29, 30, 31, 32, 33, 37, 38, 39, 40, 41, 42, 43, 44, 45, 46, 47, 48, 49, 50, 51, 52, 53, 54, 55, 56, 57, 58, 59, 60] (by decide +kernel) (by decide +kernel)
set_option maxRecDepth 20000 in
theorem gX11_made_X11_lacking : GoodIn wsX11_made (wsV RX11 252 RX11 yX11_lacking wsX11_lacking) := goodIn_app (goodIn_of _ (by decide +kernel)) ggX11_made_X11_lacking
set_option maxRecDepth 20000 in
theorem ggX11_made_X5_step : GoodIn wsX11_made wsX5_step := goodIn_r _ [36] (by decide +kernel) (by decide +kernel)
set_option maxRecDepth 20000 in
theorem gX11_made_X5_step : GoodIn wsX11_made (va_wsS RX11 264 yX5_step wsX5_step) := goodIn_app (goodIn_of _ (by decide +kernel)) ggX11_made_X5_step
theorem dX11_made_0 : decode cX11_made 0 = .ok (.iload_n 1, 1) := by decide +kernel
theorem dX11_made_1 : decode cX11_made 1 = .ok (.iconst 1, 1) := by decide +kernel
theorem dX11_made_2 : decode cX11_made 2 = .ok (.if_icmp .ge 10, 3) := by decide +kernel
theorem dX11_made_5 : decode cX11_made 5 = .ok (.aload_n 0, 1) := by decide +kernel
theorem dX11_made_6 : decode cX11_made 6 = .ok (.bipush (-4), 2) := by decide +kernel
theorem dX11_made_8 : decode cX11_made 8 = .ok (.invokevirtual 77, 3) := by decide +kernel
theorem dX11_made_11 : decode cX11_made 11 = .ok (.ireturn, 1) := by decide +kernel
theorem dX11_made_12 : decode cX11_made 12 = .ok (.iload_n 1, 1) := by decide +kernel
theorem dX11_made_13 : decode cX11_made 13 = .ok (.iconst 4, 1) := by decide +kernel
theorem dX11_made_14 : decode cX11_made 14 = .ok (.if_icmp .le 10, 3) := by decide +kernel
theorem dX11_made_17 : decode cX11_made 17 = .ok (.aload_n 0, 1) := by decide +kernel
theorem dX11_made_18 : decode cX11_made 18 = .ok (.bipush (-6), 2) := by decide +kernel
theorem dX11_made_20 : decode cX11_made 20 = .ok (.invokevirtual 77, 3) := by decide +kernel
theorem dX11_made_23 : decode cX11_made 23 = .ok (.ireturn, 1) := by decide +kernel
theorem dX11_made_24 : decode cX11_made 24 = .ok (.iconst 0, 1) := by decide +kernel
theorem dX11_made_25 : decode cX11_made 25 = .ok (.istore_n 2, 1) := by decide +kernel
theorem dX11_made_26 : decode cX11_made 26 = .ok (.aload_n 0, 1) := by decide +kernel
theorem dX11_made_27 : decode cX11_made 27 = .ok (.getfield 67, 3) := by decide +kernel
theorem dX11_made_30 : decode cX11_made 30 = .ok (.iload_n 1, 1) := by decide +kernel
theorem dX11_made_31 : decode cX11_made 31 = .ok (.invokestatic 255, 3) := by decide +kernel
theorem dX11_made_34 : decode cX11_made 34 = .ok (.aload_n 0, 1) := by decide +kernel
theorem dX11_made_35 : decode cX11_made 35 = .ok (.getfield 19, 3) := by decide +kernel
theorem dX11_made_38 : decode cX11_made 38 = .ok (.getfield 88, 3) := by decide +kernel
theorem dX11_made_41 : decode cX11_made 41 = .ok (.getfield 205, 3) := by decide +kernel
theorem dX11_made_44 : decode cX11_made 44 = .ok (.iload_n 1, 1) := by decide +kernel
theorem dX11_made_45 : decode cX11_made 45 = .ok (.invokestatic 261, 3) := by decide +kernel
theorem dX11_made_48 : decode cX11_made 48 = .ok (.istore_n 3, 1) := by decide +kernel
theorem dX11_made_49 : decode cX11_made 49 = .ok (.iload_n 3, 1) := by decide +kernel
theorem dX11_made_50 : decode cX11_made 50 = .ok (.ifCond .le 42, 3) := by decide +kernel
theorem dX11_made_53 : decode cX11_made 53 = .ok (.aload_n 0, 1) := by decide +kernel
theorem dX11_made_54 : decode cX11_made 54 = .ok (.aload_n 0, 1) := by decide +kernel
theorem dX11_made_55 : decode cX11_made 55 = .ok (.getfield 67, 3) := by decide +kernel
theorem dX11_made_58 : decode cX11_made 58 = .ok (.iload_n 1, 1) := by decide +kernel
theorem dX11_made_59 : decode cX11_made 59 = .ok (.invokevirtual 252, 3) := by decide +kernel
theorem dX11_made_62 : decode cX11_made 62 = .ok (.ifCond .ne 6, 3) := by decide +kernel
theorem dX11_made_65 : decode cX11_made 65 = .ok (.iinc 2 1, 3) := by decide +kernel
theorem dX11_made_68 : decode cX11_made 68 = .ok (.aload_n 0, 1) := by decide +kernel
theorem dX11_made_69 : decode cX11_made 69 = .ok (.getfield 67, 3) := by decide +kernel
theorem dX11_made_72 : decode cX11_made 72 = .ok (.iload_n 1, 1) := by decide +kernel
theorem dX11_made_73 : decode cX11_made 73 = .ok (.aload_n 0, 1) := by decide +kernel
theorem dX11_made_74 : decode cX11_made 74 = .ok (.getfield 19, 3) := by decide +kernel
theorem dX11_made_77 : decode cX11_made 77 = .ok (.getfield 88, 3) := by decide +kernel
theorem dX11_made_80 : decode cX11_made 80 = .ok (.getfield 205, 3) := by decide +kernel
theorem dX11_made_83 : decode cX11_made 83 = .ok (.invokestatic 264, 3) := by decide +kernel
theorem dX11_made_86 : decode cX11_made 86 = .ok (.iinc 3 (-1), 3) := by decide +kernel
theorem dX11_made_89 : decode cX11_made 89 = .ok (.goto (-40), 3) := by decide +kernel
theorem dX11_made_92 : decode cX11_made 92 = .ok (.iload_n 2, 1) := by decide +kernel
theorem dX11_made_93 : decode cX11_made 93 = .ok (.ireturn, 1) := by decide +kernel
set_option maxRecDepth 20000 in
theorem ggX11_towers_X11_refuse : GoodIn wsX11_towers wsX11_refuse := goodIn_r _ [12, 13, 36, 37, 38, 39, 40, 41, 42, 43, 44, 45, 46, 47] (by decide +kernel) (by decide +kernel)
set_option maxRecDepth 20000 in
theorem gX11_towers_X11_refuse : GoodIn wsX11_towers (wsV RX11 77 RX11 yX11_refuse wsX11_refuse) := goodIn_app (goodIn_of _ (by decide +kernel)) ggX11_towers_X11_refuse
set_option maxRecDepth 20000 in
theorem ggX11_towers_X11_isReader : GoodIn wsX11_towers wsX11_isReader := goodIn_r _ [16] (by decide +kernel) (by decide +kernel)
set_option maxRecDepth 20000 in
theorem gX11_towers_X11_isReader : GoodIn wsX11_towers (va_wsS RX11 168 yX11_isReader wsX11_isReader) := goodIn_app (goodIn_of _ (by decide +kernel)) ggX11_towers_X11_isReader
set_option maxRecDepth 20000 in
theorem ggX11_towers_X8_oneMeaning : GoodIn wsX11_towers wsX8_oneMeaning := goodIn_r _ [21, 22, 23, 24, 20, 25, 26, 27, 28, 29, 30, 31, 32, 33, 34, 35, 51, 52, 53, 54, 55, 56, 57, 58, 59] (by decide +kernel) (by decide +kernel)
set_option maxRecDepth 20000 in
theorem gX11_towers_X8_oneMeaning : GoodIn wsX11_towers (wsV RX11 175 RX8 yX8_oneMeaning wsX8_oneMeaning) := goodIn_app (goodIn_of _ (by decide +kernel)) ggX11_towers_X8_oneMeaning
theorem dX11_towers_0 : decode cX11_towers 0 = .ok (.iload_n 1, 1) := by decide +kernel
theorem dX11_towers_1 : decode cX11_towers 1 = .ok (.iconst 1, 1) := by decide +kernel
theorem dX11_towers_2 : decode cX11_towers 2 = .ok (.if_icmp .ge 10, 3) := by decide +kernel
theorem dX11_towers_5 : decode cX11_towers 5 = .ok (.aload_n 0, 1) := by decide +kernel
theorem dX11_towers_6 : decode cX11_towers 6 = .ok (.bipush (-4), 2) := by decide +kernel
theorem dX11_towers_8 : decode cX11_towers 8 = .ok (.invokevirtual 77, 3) := by decide +kernel
theorem dX11_towers_11 : decode cX11_towers 11 = .ok (.ireturn, 1) := by decide +kernel
theorem dX11_towers_12 : decode cX11_towers 12 = .ok (.iload_n 1, 1) := by decide +kernel
theorem dX11_towers_13 : decode cX11_towers 13 = .ok (.bipush 30, 2) := by decide +kernel
theorem dX11_towers_15 : decode cX11_towers 15 = .ok (.if_icmp .le 10, 3) := by decide +kernel
theorem dX11_towers_18 : decode cX11_towers 18 = .ok (.aload_n 0, 1) := by decide +kernel
theorem dX11_towers_19 : decode cX11_towers 19 = .ok (.bipush (-6), 2) := by decide +kernel
theorem dX11_towers_21 : decode cX11_towers 21 = .ok (.invokevirtual 77, 3) := by decide +kernel
theorem dX11_towers_24 : decode cX11_towers 24 = .ok (.ireturn, 1) := by decide +kernel
theorem dX11_towers_25 : decode cX11_towers 25 = .ok (.iload_n 2, 1) := by decide +kernel
theorem dX11_towers_26 : decode cX11_towers 26 = .ok (.invokestatic 168, 3) := by decide +kernel
theorem dX11_towers_29 : decode cX11_towers 29 = .ok (.ifCond .ne 10, 3) := by decide +kernel
theorem dX11_towers_32 : decode cX11_towers 32 = .ok (.aload_n 0, 1) := by decide +kernel
theorem dX11_towers_33 : decode cX11_towers 33 = .ok (.bipush (-2), 2) := by decide +kernel
theorem dX11_towers_35 : decode cX11_towers 35 = .ok (.invokevirtual 77, 3) := by decide +kernel
theorem dX11_towers_38 : decode cX11_towers 38 = .ok (.ireturn, 1) := by decide +kernel
theorem dX11_towers_39 : decode cX11_towers 39 = .ok (.aload_n 0, 1) := by decide +kernel
theorem dX11_towers_40 : decode cX11_towers 40 = .ok (.getfield 19, 3) := by decide +kernel
theorem dX11_towers_43 : decode cX11_towers 43 = .ok (.getfield 88, 3) := by decide +kernel
theorem dX11_towers_46 : decode cX11_towers 46 = .ok (.getfield 205, 3) := by decide +kernel
theorem dX11_towers_49 : decode cX11_towers 49 = .ok (.istore 4, 2) := by decide +kernel
theorem dX11_towers_51 : decode cX11_towers 51 = .ok (.iload 4, 2) := by decide +kernel
theorem dX11_towers_53 : decode cX11_towers 53 = .ok (.iconst 1, 1) := by decide +kernel
theorem dX11_towers_54 : decode cX11_towers 54 = .ok (.if_icmp .ge 10, 3) := by decide +kernel
theorem dX11_towers_57 : decode cX11_towers 57 = .ok (.aload_n 0, 1) := by decide +kernel
theorem dX11_towers_58 : decode cX11_towers 58 = .ok (.bipush (-3), 2) := by decide +kernel
theorem dX11_towers_60 : decode cX11_towers 60 = .ok (.invokevirtual 77, 3) := by decide +kernel
theorem dX11_towers_63 : decode cX11_towers 63 = .ok (.ireturn, 1) := by decide +kernel
theorem dX11_towers_64 : decode cX11_towers 64 = .ok (.iconst 0, 1) := by decide +kernel
theorem dX11_towers_65 : decode cX11_towers 65 = .ok (.istore 5, 2) := by decide +kernel
theorem dX11_towers_67 : decode cX11_towers 67 = .ok (.iload_n 3, 1) := by decide +kernel
theorem dX11_towers_68 : decode cX11_towers 68 = .ok (.istore 6, 2) := by decide +kernel
theorem dX11_towers_70 : decode cX11_towers 70 = .ok (.iconst 0, 1) := by decide +kernel
theorem dX11_towers_71 : decode cX11_towers 71 = .ok (.istore 7, 2) := by decide +kernel
theorem dX11_towers_73 : decode cX11_towers 73 = .ok (.iload 7, 2) := by decide +kernel
theorem dX11_towers_75 : decode cX11_towers 75 = .ok (.iload_n 1, 1) := by decide +kernel
theorem dX11_towers_76 : decode cX11_towers 76 = .ok (.if_icmp .ge 82, 3) := by decide +kernel
theorem dX11_towers_79 : decode cX11_towers 79 = .ok (.iconst 0, 1) := by decide +kernel
theorem dX11_towers_80 : decode cX11_towers 80 = .ok (.istore 8, 2) := by decide +kernel
theorem dX11_towers_82 : decode cX11_towers 82 = .ok (.iload 8, 2) := by decide +kernel
theorem dX11_towers_84 : decode cX11_towers 84 = .ok (.bipush 6, 2) := by decide +kernel
theorem dX11_towers_86 : decode cX11_towers 86 = .ok (.if_icmp .ge 41, 3) := by decide +kernel
theorem dX11_towers_89 : decode cX11_towers 89 = .ok (.iload 6, 2) := by decide +kernel
theorem dX11_towers_91 : decode cX11_towers 91 = .ok (.ldc_w 268, 3) := by decide +kernel
theorem dX11_towers_94 : decode cX11_towers 94 = .ok (.imul, 1) := by decide +kernel
theorem dX11_towers_95 : decode cX11_towers 95 = .ok (.ldc_w 269, 3) := by decide +kernel
theorem dX11_towers_98 : decode cX11_towers 98 = .ok (.iadd, 1) := by decide +kernel
theorem dX11_towers_99 : decode cX11_towers 99 = .ok (.istore 6, 2) := by decide +kernel
theorem dX11_towers_101 : decode cX11_towers 101 = .ok (.aload_n 0, 1) := by decide +kernel
theorem dX11_towers_102 : decode cX11_towers 102 = .ok (.getfield 67, 3) := by decide +kernel
theorem dX11_towers_105 : decode cX11_towers 105 = .ok (.iload 8, 2) := by decide +kernel
theorem dX11_towers_107 : decode cX11_towers 107 = .ok (.iload 6, 2) := by decide +kernel
theorem dX11_towers_109 : decode cX11_towers 109 = .ok (.ldc_w 270, 3) := by decide +kernel
theorem dX11_towers_112 : decode cX11_towers 112 = .ok (.iand, 1) := by decide +kernel
theorem dX11_towers_113 : decode cX11_towers 113 = .ok (.sipush 256, 3) := by decide +kernel
theorem dX11_towers_116 : decode cX11_towers 116 = .ok (.idiv, 1) := by decide +kernel
theorem dX11_towers_117 : decode cX11_towers 117 = .ok (.iload 4, 2) := by decide +kernel
theorem dX11_towers_119 : decode cX11_towers 119 = .ok (.irem, 1) := by decide +kernel
theorem dX11_towers_120 : decode cX11_towers 120 = .ok (.iastore, 1) := by decide +kernel
theorem dX11_towers_121 : decode cX11_towers 121 = .ok (.iinc 8 1, 3) := by decide +kernel
theorem dX11_towers_124 : decode cX11_towers 124 = .ok (.goto (-42), 3) := by decide +kernel
theorem dX11_towers_127 : decode cX11_towers 127 = .ok (.aload_n 0, 1) := by decide +kernel
theorem dX11_towers_128 : decode cX11_towers 128 = .ok (.getfield 19, 3) := by decide +kernel
theorem dX11_towers_131 : decode cX11_towers 131 = .ok (.getfield 88, 3) := by decide +kernel
theorem dX11_towers_134 : decode cX11_towers 134 = .ok (.aload_n 0, 1) := by decide +kernel
theorem dX11_towers_135 : decode cX11_towers 135 = .ok (.getfield 67, 3) := by decide +kernel
theorem dX11_towers_138 : decode cX11_towers 138 = .ok (.bipush 6, 2) := by decide +kernel
theorem dX11_towers_140 : decode cX11_towers 140 = .ok (.iload_n 2, 1) := by decide +kernel
theorem dX11_towers_141 : decode cX11_towers 141 = .ok (.invokevirtual 175, 3) := by decide +kernel
theorem dX11_towers_144 : decode cX11_towers 144 = .ok (.bipush 16, 2) := by decide +kernel
theorem dX11_towers_146 : decode cX11_towers 146 = .ok (.if_icmp .eq 6, 3) := by decide +kernel
theorem dX11_towers_149 : decode cX11_towers 149 = .ok (.iinc 5 1, 3) := by decide +kernel
theorem dX11_towers_152 : decode cX11_towers 152 = .ok (.iinc 7 1, 3) := by decide +kernel
theorem dX11_towers_155 : decode cX11_towers 155 = .ok (.goto (-82), 3) := by decide +kernel
theorem dX11_towers_158 : decode cX11_towers 158 = .ok (.iload 5, 2) := by decide +kernel
theorem dX11_towers_160 : decode cX11_towers 160 = .ok (.ireturn, 1) := by decide +kernel
set_option maxRecDepth 20000 in
theorem ggX11_image_X9_copyFrom : GoodIn wsX11_image wsX9_copyFrom := goodIn_r _ [10, 11, 12, 13, 14, 15, 16, 17, 18, 19, 20, 21, 22, 23, 24, 25, 26, 27, 28, 29, 30, 31, 32, 33, 34, 35, 36, 37, 38, 39, 40, 41, 42, 43, 44, 45, 46, 47, 48, 61, 62, 63, 64, 65, 66, 67, 68, 69, 70, 71, 72, 73, 74, 75, 76, 77] (by decide +kernel) (by decide +kernel)
set_option maxRecDepth 20000 in
theorem gX11_image_X9_copyFrom : GoodIn wsX11_image (wsV RX11 271 RX9 yX9_copyFrom wsX9_copyFrom) := goodIn_app (goodIn_of _ (by decide +kernel)) ggX11_image_X9_copyFrom
theorem dX11_image_0 : decode cX11_image 0 = .ok (.aload_n 0, 1) := by decide +kernel
theorem dX11_image_1 : decode cX11_image 1 = .ok (.getfield 23, 3) := by decide +kernel
theorem dX11_image_4 : decode cX11_image 4 = .ok (.aload_n 0, 1) := by decide +kernel
theorem dX11_image_5 : decode cX11_image 5 = .ok (.getfield 19, 3) := by decide +kernel
theorem dX11_image_8 : decode cX11_image 8 = .ok (.invokevirtual 271, 3) := by decide +kernel
theorem dX11_image_11 : decode cX11_image 11 = .ok (.aload_n 0, 1) := by decide +kernel
theorem dX11_image_12 : decode cX11_image 12 = .ok (.iconst 1, 1) := by decide +kernel
theorem dX11_image_13 : decode cX11_image 13 = .ok (.putfield 26, 3) := by decide +kernel
theorem dX11_image_16 : decode cX11_image 16 = .ok (.aload_n 0, 1) := by decide +kernel
theorem dX11_image_17 : decode cX11_image 17 = .ok (.getfield 19, 3) := by decide +kernel
theorem dX11_image_20 : decode cX11_image 20 = .ok (.getfield 88, 3) := by decide +kernel
theorem dX11_image_23 : decode cX11_image 23 = .ok (.getfield 205, 3) := by decide +kernel
theorem dX11_image_26 : decode cX11_image 26 = .ok (.ireturn, 1) := by decide +kernel
set_option maxRecDepth 20000 in
theorem ggX11_on_X11_refuse : GoodIn wsX11_on wsX11_refuse := goodIn_r _ [10, 11, 65, 66, 67, 68, 69, 70, 71, 72, 73, 74, 75, 76] (by decide +kernel) (by decide +kernel)
set_option maxRecDepth 20000 in
theorem gX11_on_X11_refuse : GoodIn wsX11_on (wsV RX11 77 RX11 yX11_refuse wsX11_refuse) := goodIn_app (goodIn_of _ (by decide +kernel)) ggX11_on_X11_refuse
set_option maxRecDepth 20000 in
theorem ggX11_on_X9_copyFrom : GoodIn wsX11_on wsX9_copyFrom := goodIn_r _ [16, 17, 18, 19, 20, 21, 22, 23, 24, 25, 26, 27, 28, 29, 30, 31, 32, 33, 34, 35, 36, 37, 38, 39, 40, 41, 42, 43, 44, 45, 46, 47, 48, 49, 50, 51, 52, 53, 54, 77, 78, 79, 80, 81, 82, 83, 84, 85, 86, 87, 88, 89, 90, 91, 92, 93] (by decide +kernel) (by decide +kernel)
set_option maxRecDepth 20000 in
theorem gX11_on_X9_copyFrom : GoodIn wsX11_on (wsV RX11 271 RX9 yX9_copyFrom wsX9_copyFrom) := goodIn_app (goodIn_of _ (by decide +kernel)) ggX11_on_X9_copyFrom
set_option maxRecDepth 20000 in
theorem ggX11_on_X11_forgetTongue : GoodIn wsX11_on wsX11_forgetTongue := goodIn_r _ [58, 59, 60, 61, 62, 63, 64, 65, 66, 67, 68, 69, 70, 71, 72, 73, 74, 75, 76, 94, 95, 96, 97, 98, 99, 100, 101, 102, 103, 104, 105, 106, 107, 108, 109, 110, 111, 112, 113] (by decide +kernel) (by decide +kernel)
set_option maxRecDepth 20000 in
theorem gX11_on_X11_forgetTongue : GoodIn wsX11_on (wsV RX11 96 RX11 yX11_forgetTongue wsX11_forgetTongue) := goodIn_app (goodIn_of _ (by decide +kernel)) ggX11_on_X11_forgetTongue
theorem dX11_on_0 : decode cX11_on 0 = .ok (.aload_n 0, 1) := by decide +kernel
theorem dX11_on_1 : decode cX11_on 1 = .ok (.getfield 26, 3) := by decide +kernel
theorem dX11_on_4 : decode cX11_on 4 = .ok (.ifCond .ne 10, 3) := by decide +kernel
theorem dX11_on_7 : decode cX11_on 7 = .ok (.aload_n 0, 1) := by decide +kernel
theorem dX11_on_8 : decode cX11_on 8 = .ok (.bipush (-3), 2) := by decide +kernel
theorem dX11_on_10 : decode cX11_on 10 = .ok (.invokevirtual 77, 3) := by decide +kernel
theorem dX11_on_13 : decode cX11_on 13 = .ok (.ireturn, 1) := by decide +kernel
theorem dX11_on_14 : decode cX11_on 14 = .ok (.aload_n 0, 1) := by decide +kernel
theorem dX11_on_15 : decode cX11_on 15 = .ok (.getfield 19, 3) := by decide +kernel
theorem dX11_on_18 : decode cX11_on 18 = .ok (.aload_n 0, 1) := by decide +kernel
theorem dX11_on_19 : decode cX11_on 19 = .ok (.getfield 23, 3) := by decide +kernel
theorem dX11_on_22 : decode cX11_on 22 = .ok (.invokevirtual 271, 3) := by decide +kernel
theorem dX11_on_25 : decode cX11_on 25 = .ok (.aload_n 0, 1) := by decide +kernel
theorem dX11_on_26 : decode cX11_on 26 = .ok (.invokevirtual 96, 3) := by decide +kernel
theorem dX11_on_29 : decode cX11_on 29 = .ok (.aload_n 0, 1) := by decide +kernel
theorem dX11_on_30 : decode cX11_on 30 = .ok (.getfield 19, 3) := by decide +kernel
theorem dX11_on_33 : decode cX11_on 33 = .ok (.getfield 88, 3) := by decide +kernel
theorem dX11_on_36 : decode cX11_on 36 = .ok (.getfield 205, 3) := by decide +kernel
theorem dX11_on_39 : decode cX11_on 39 = .ok (.ireturn, 1) := by decide +kernel
set_option maxRecDepth 20000 in
theorem ggX11_count_X4_blanks : GoodIn wsX11_count wsX4_blanks := goodIn_r _ [16, 17, 18, 50, 51] (by decide +kernel) (by decide +kernel)
set_option maxRecDepth 20000 in
theorem gX11_count_X4_blanks : GoodIn wsX11_count (wsV RX11 278 RX4 yX4_blanks wsX4_blanks) := goodIn_app (goodIn_of _ (by decide +kernel)) ggX11_count_X4_blanks
set_option maxRecDepth 20000 in
theorem ggX11_count_X8_allStock : GoodIn wsX11_count wsX8_allStock := goodIn_r _ [23, 24, 25, 41, 42, 43, 44, 45, 46, 47, 48, 49] (by decide +kernel) (by decide +kernel)
set_option maxRecDepth 20000 in
theorem gX11_count_X8_allStock : GoodIn wsX11_count (wsV RX11 281 RX8 yX8_allStock wsX8_allStock) := goodIn_app (goodIn_of _ (by decide +kernel)) ggX11_count_X8_allStock
theorem dX11_count_0 : decode cX11_count 0 = .ok (.iload_n 1, 1) := by decide +kernel
theorem dX11_count_1 : decode cX11_count 1 = .ok (.tableswitch 117 0 6 #[43, 54, 65, 76, 87, 98, 106], 43) := by decide +kernel
theorem dX11_count_44 : decode cX11_count 44 = .ok (.aload_n 0, 1) := by decide +kernel
theorem dX11_count_45 : decode cX11_count 45 = .ok (.getfield 19, 3) := by decide +kernel
theorem dX11_count_48 : decode cX11_count 48 = .ok (.getfield 88, 3) := by decide +kernel
theorem dX11_count_51 : decode cX11_count 51 = .ok (.getfield 205, 3) := by decide +kernel
theorem dX11_count_54 : decode cX11_count 54 = .ok (.ireturn, 1) := by decide +kernel
theorem dX11_count_55 : decode cX11_count 55 = .ok (.aload_n 0, 1) := by decide +kernel
theorem dX11_count_56 : decode cX11_count 56 = .ok (.getfield 19, 3) := by decide +kernel
theorem dX11_count_59 : decode cX11_count 59 = .ok (.getfield 88, 3) := by decide +kernel
theorem dX11_count_62 : decode cX11_count 62 = .ok (.getfield 275, 3) := by decide +kernel
theorem dX11_count_65 : decode cX11_count 65 = .ok (.ireturn, 1) := by decide +kernel
theorem dX11_count_66 : decode cX11_count 66 = .ok (.aload_n 0, 1) := by decide +kernel
theorem dX11_count_67 : decode cX11_count 67 = .ok (.getfield 19, 3) := by decide +kernel
theorem dX11_count_70 : decode cX11_count 70 = .ok (.getfield 129, 3) := by decide +kernel
theorem dX11_count_73 : decode cX11_count 73 = .ok (.getfield 133, 3) := by decide +kernel
theorem dX11_count_76 : decode cX11_count 76 = .ok (.ireturn, 1) := by decide +kernel
theorem dX11_count_77 : decode cX11_count 77 = .ok (.aload_n 0, 1) := by decide +kernel
theorem dX11_count_78 : decode cX11_count 78 = .ok (.getfield 19, 3) := by decide +kernel
theorem dX11_count_81 : decode cX11_count 81 = .ok (.getfield 129, 3) := by decide +kernel
theorem dX11_count_84 : decode cX11_count 84 = .ok (.invokevirtual 278, 3) := by decide +kernel
theorem dX11_count_87 : decode cX11_count 87 = .ok (.ireturn, 1) := by decide +kernel
theorem dX11_count_88 : decode cX11_count 88 = .ok (.aload_n 0, 1) := by decide +kernel
theorem dX11_count_89 : decode cX11_count 89 = .ok (.getfield 19, 3) := by decide +kernel
theorem dX11_count_92 : decode cX11_count 92 = .ok (.getfield 235, 3) := by decide +kernel
theorem dX11_count_95 : decode cX11_count 95 = .ok (.getfield 244, 3) := by decide +kernel
theorem dX11_count_98 : decode cX11_count 98 = .ok (.ireturn, 1) := by decide +kernel
theorem dX11_count_99 : decode cX11_count 99 = .ok (.aload_n 0, 1) := by decide +kernel
theorem dX11_count_100 : decode cX11_count 100 = .ok (.getfield 10, 3) := by decide +kernel
theorem dX11_count_103 : decode cX11_count 103 = .ok (.getfield 81, 3) := by decide +kernel
theorem dX11_count_106 : decode cX11_count 106 = .ok (.ireturn, 1) := by decide +kernel
theorem dX11_count_107 : decode cX11_count 107 = .ok (.aload_n 0, 1) := by decide +kernel
theorem dX11_count_108 : decode cX11_count 108 = .ok (.getfield 19, 3) := by decide +kernel
theorem dX11_count_111 : decode cX11_count 111 = .ok (.getfield 88, 3) := by decide +kernel
theorem dX11_count_114 : decode cX11_count 114 = .ok (.invokevirtual 281, 3) := by decide +kernel
theorem dX11_count_117 : decode cX11_count 117 = .ok (.ireturn, 1) := by decide +kernel
theorem dX11_count_118 : decode cX11_count 118 = .ok (.iload_n 1, 1) := by decide +kernel
theorem dX11_count_119 : decode cX11_count 119 = .ok (.bipush 11, 2) := by decide +kernel
theorem dX11_count_121 : decode cX11_count 121 = .ok (.if_icmp .lt 21, 3) := by decide +kernel
theorem dX11_count_124 : decode cX11_count 124 = .ok (.iload_n 1, 1) := by decide +kernel
theorem dX11_count_125 : decode cX11_count 125 = .ok (.bipush 16, 2) := by decide +kernel
theorem dX11_count_127 : decode cX11_count 127 = .ok (.if_icmp .gt 15, 3) := by decide +kernel
theorem dX11_count_130 : decode cX11_count 130 = .ok (.aload_n 0, 1) := by decide +kernel
theorem dX11_count_131 : decode cX11_count 131 = .ok (.getfield 74, 3) := by decide +kernel
theorem dX11_count_134 : decode cX11_count 134 = .ok (.iload_n 1, 1) := by decide +kernel
theorem dX11_count_135 : decode cX11_count 135 = .ok (.bipush 10, 2) := by decide +kernel
theorem dX11_count_137 : decode cX11_count 137 = .ok (.isub, 1) := by decide +kernel
theorem dX11_count_138 : decode cX11_count 138 = .ok (.iaload, 1) := by decide +kernel
theorem dX11_count_139 : decode cX11_count 139 = .ok (.goto 5, 3) := by decide +kernel
theorem dX11_count_142 : decode cX11_count 142 = .ok (.bipush (-9), 2) := by decide +kernel
theorem dX11_count_144 : decode cX11_count 144 = .ok (.ireturn, 1) := by decide +kernel
theorem dX11_refuse_0 : decode cX11_refuse 0 = .ok (.iload_n 1, 1) := by decide +kernel
theorem dX11_refuse_1 : decode cX11_refuse 1 = .ok (.ineg, 1) := by decide +kernel
theorem dX11_refuse_2 : decode cX11_refuse 2 = .ok (.istore_n 2, 1) := by decide +kernel
theorem dX11_refuse_3 : decode cX11_refuse 3 = .ok (.iload_n 2, 1) := by decide +kernel
theorem dX11_refuse_4 : decode cX11_refuse 4 = .ok (.ifCond .le 22, 3) := by decide +kernel
theorem dX11_refuse_7 : decode cX11_refuse 7 = .ok (.iload_n 2, 1) := by decide +kernel
theorem dX11_refuse_8 : decode cX11_refuse 8 = .ok (.aload_n 0, 1) := by decide +kernel
theorem dX11_refuse_9 : decode cX11_refuse 9 = .ok (.getfield 74, 3) := by decide +kernel
theorem dX11_refuse_12 : decode cX11_refuse 12 = .ok (.arraylength, 1) := by decide +kernel
theorem dX11_refuse_13 : decode cX11_refuse 13 = .ok (.if_icmp .ge 13, 3) := by decide +kernel
theorem dX11_refuse_16 : decode cX11_refuse 16 = .ok (.aload_n 0, 1) := by decide +kernel
theorem dX11_refuse_17 : decode cX11_refuse 17 = .ok (.getfield 74, 3) := by decide +kernel
theorem dX11_refuse_20 : decode cX11_refuse 20 = .ok (.iload_n 2, 1) := by decide +kernel
theorem dX11_refuse_21 : decode cX11_refuse 21 = .ok (.dup2, 1) := by decide +kernel
theorem dX11_refuse_22 : decode cX11_refuse 22 = .ok (.iaload, 1) := by decide +kernel
theorem dX11_refuse_23 : decode cX11_refuse 23 = .ok (.iconst 1, 1) := by decide +kernel
theorem dX11_refuse_24 : decode cX11_refuse 24 = .ok (.iadd, 1) := by decide +kernel
theorem dX11_refuse_25 : decode cX11_refuse 25 = .ok (.iastore, 1) := by decide +kernel
theorem dX11_refuse_26 : decode cX11_refuse 26 = .ok (.iload_n 1, 1) := by decide +kernel
theorem dX11_refuse_27 : decode cX11_refuse 27 = .ok (.ireturn, 1) := by decide +kernel
theorem dX11_forgetTongue_0 : decode cX11_forgetTongue 0 = .ok (.iconst 0, 1) := by decide +kernel
theorem dX11_forgetTongue_1 : decode cX11_forgetTongue 1 = .ok (.istore_n 1, 1) := by decide +kernel
theorem dX11_forgetTongue_2 : decode cX11_forgetTongue 2 = .ok (.iload_n 1, 1) := by decide +kernel
theorem dX11_forgetTongue_3 : decode cX11_forgetTongue 3 = .ok (.iconst 5, 1) := by decide +kernel
theorem dX11_forgetTongue_4 : decode cX11_forgetTongue 4 = .ok (.if_icmp .ge 19, 3) := by decide +kernel
theorem dX11_forgetTongue_7 : decode cX11_forgetTongue 7 = .ok (.aload_n 0, 1) := by decide +kernel
theorem dX11_forgetTongue_8 : decode cX11_forgetTongue 8 = .ok (.getfield 39, 3) := by decide +kernel
theorem dX11_forgetTongue_11 : decode cX11_forgetTongue 11 = .ok (.iload_n 1, 1) := by decide +kernel
theorem dX11_forgetTongue_12 : decode cX11_forgetTongue 12 = .ok (.aaload, 1) := by decide +kernel
theorem dX11_forgetTongue_13 : decode cX11_forgetTongue 13 = .ok (.iconst 0, 1) := by decide +kernel
theorem dX11_forgetTongue_14 : decode cX11_forgetTongue 14 = .ok (.putfield 284, 3) := by decide +kernel
theorem dX11_forgetTongue_17 : decode cX11_forgetTongue 17 = .ok (.iinc 1 1, 3) := by decide +kernel
theorem dX11_forgetTongue_20 : decode cX11_forgetTongue 20 = .ok (.goto (-18), 3) := by decide +kernel
theorem dX11_forgetTongue_23 : decode cX11_forgetTongue 23 = .ok (.aload_n 0, 1) := by decide +kernel
theorem dX11_forgetTongue_24 : decode cX11_forgetTongue 24 = .ok (.getfield 49, 3) := by decide +kernel
theorem dX11_forgetTongue_27 : decode cX11_forgetTongue 27 = .ok (.iconst 0, 1) := by decide +kernel
theorem dX11_forgetTongue_28 : decode cX11_forgetTongue 28 = .ok (.putfield 285, 3) := by decide +kernel
theorem dX11_forgetTongue_31 : decode cX11_forgetTongue 31 = .ok (.aload_n 0, 1) := by decide +kernel
theorem dX11_forgetTongue_32 : decode cX11_forgetTongue 32 = .ok (.getfield 56, 3) := by decide +kernel
theorem dX11_forgetTongue_35 : decode cX11_forgetTongue 35 = .ok (.iconst 0, 1) := by decide +kernel
theorem dX11_forgetTongue_36 : decode cX11_forgetTongue 36 = .ok (.putfield 152, 3) := by decide +kernel
theorem dX11_forgetTongue_39 : decode cX11_forgetTongue 39 = .ok (.return_, 1) := by decide +kernel
set_option maxRecDepth 20000 in
theorem ggX11_isWordOrBlank_X8_hasWord : GoodIn wsX11_isWordOrBlank wsX8_hasWord := goodIn_r _ [7, 8, 24, 25, 26, 27, 28, 29, 30, 31, 32] (by decide +kernel) (by decide +kernel)
set_option maxRecDepth 20000 in
theorem gX11_isWordOrBlank_X8_hasWord : GoodIn wsX11_isWordOrBlank (wsV RX11 99 RX8 yX8_hasWord wsX8_hasWord) := goodIn_app (goodIn_of _ (by decide +kernel)) ggX11_isWordOrBlank_X8_hasWord
theorem dX11_isWordOrBlank_0 : decode cX11_isWordOrBlank 0 = .ok (.iload_n 1, 1) := by decide +kernel
theorem dX11_isWordOrBlank_1 : decode cX11_isWordOrBlank 1 = .ok (.iconst (-1), 1) := by decide +kernel
theorem dX11_isWordOrBlank_2 : decode cX11_isWordOrBlank 2 = .ok (.if_icmp .eq 17, 3) := by decide +kernel
theorem dX11_isWordOrBlank_5 : decode cX11_isWordOrBlank 5 = .ok (.aload_n 0, 1) := by decide +kernel
theorem dX11_isWordOrBlank_6 : decode cX11_isWordOrBlank 6 = .ok (.getfield 19, 3) := by decide +kernel
theorem dX11_isWordOrBlank_9 : decode cX11_isWordOrBlank 9 = .ok (.getfield 88, 3) := by decide +kernel
theorem dX11_isWordOrBlank_12 : decode cX11_isWordOrBlank 12 = .ok (.iload_n 1, 1) := by decide +kernel
theorem dX11_isWordOrBlank_13 : decode cX11_isWordOrBlank 13 = .ok (.invokevirtual 99, 3) := by decide +kernel
theorem dX11_isWordOrBlank_16 : decode cX11_isWordOrBlank 16 = .ok (.ifCond .eq 7, 3) := by decide +kernel
theorem dX11_isWordOrBlank_19 : decode cX11_isWordOrBlank 19 = .ok (.iconst 1, 1) := by decide +kernel
theorem dX11_isWordOrBlank_20 : decode cX11_isWordOrBlank 20 = .ok (.goto 4, 3) := by decide +kernel
theorem dX11_isWordOrBlank_23 : decode cX11_isWordOrBlank 23 = .ok (.iconst 0, 1) := by decide +kernel
theorem dX11_isWordOrBlank_24 : decode cX11_isWordOrBlank 24 = .ok (.ireturn, 1) := by decide +kernel
theorem dX11_isReader_0 : decode cX11_isReader 0 = .ok (.iload_n 0, 1) := by decide +kernel
theorem dX11_isReader_1 : decode cX11_isReader 1 = .ok (.ifCond .lt 12, 3) := by decide +kernel
theorem dX11_isReader_4 : decode cX11_isReader 4 = .ok (.iload_n 0, 1) := by decide +kernel
theorem dX11_isReader_5 : decode cX11_isReader 5 = .ok (.iconst 5, 1) := by decide +kernel
theorem dX11_isReader_6 : decode cX11_isReader 6 = .ok (.if_icmp .ge 7, 3) := by decide +kernel
theorem dX11_isReader_9 : decode cX11_isReader 9 = .ok (.iconst 1, 1) := by decide +kernel
theorem dX11_isReader_10 : decode cX11_isReader 10 = .ok (.goto 4, 3) := by decide +kernel
theorem dX11_isReader_13 : decode cX11_isReader 13 = .ok (.iconst 0, 1) := by decide +kernel
theorem dX11_isReader_14 : decode cX11_isReader 14 = .ok (.ireturn, 1) := by decide +kernel
set_option maxRecDepth 20000 in
theorem ggX11_isWorn_X4_blanks : GoodIn wsX11_isWorn wsX4_blanks := goodIn_r _ [7, 8, 9, 25, 26] (by decide +kernel) (by decide +kernel)
set_option maxRecDepth 20000 in
theorem gX11_isWorn_X4_blanks : GoodIn wsX11_isWorn (wsV RX11 278 RX4 yX4_blanks wsX4_blanks) := goodIn_app (goodIn_of _ (by decide +kernel)) ggX11_isWorn_X4_blanks
theorem dX11_isWorn_0 : decode cX11_isWorn 0 = .ok (.aload_n 0, 1) := by decide +kernel
theorem dX11_isWorn_1 : decode cX11_isWorn 1 = .ok (.getfield 19, 3) := by decide +kernel
theorem dX11_isWorn_4 : decode cX11_isWorn 4 = .ok (.getfield 129, 3) := by decide +kernel
theorem dX11_isWorn_7 : decode cX11_isWorn 7 = .ok (.invokevirtual 278, 3) := by decide +kernel
theorem dX11_isWorn_10 : decode cX11_isWorn 10 = .ok (.istore_n 1, 1) := by decide +kernel
theorem dX11_isWorn_11 : decode cX11_isWorn 11 = .ok (.iload_n 1, 1) := by decide +kernel
theorem dX11_isWorn_12 : decode cX11_isWorn 12 = .ok (.iconst 1, 1) := by decide +kernel
theorem dX11_isWorn_13 : decode cX11_isWorn 13 = .ok (.if_icmp .lt 12, 3) := by decide +kernel
theorem dX11_isWorn_16 : decode cX11_isWorn 16 = .ok (.iload_n 1, 1) := by decide +kernel
theorem dX11_isWorn_17 : decode cX11_isWorn 17 = .ok (.iconst 4, 1) := by decide +kernel
theorem dX11_isWorn_18 : decode cX11_isWorn 18 = .ok (.if_icmp .gt 7, 3) := by decide +kernel
theorem dX11_isWorn_21 : decode cX11_isWorn 21 = .ok (.iconst 1, 1) := by decide +kernel
theorem dX11_isWorn_22 : decode cX11_isWorn 22 = .ok (.goto 4, 3) := by decide +kernel
theorem dX11_isWorn_25 : decode cX11_isWorn 25 = .ok (.iconst 0, 1) := by decide +kernel
theorem dX11_isWorn_26 : decode cX11_isWorn 26 = .ok (.ireturn, 1) := by decide +kernel
set_option maxRecDepth 20000 in
theorem ggX11_roadsReadAsNow_X8_readByRoad : GoodIn wsX11_roadsReadAsNow wsX8_readByRoad := goodIn_r _ [11, 12, 13, 14, 15, 10, 16, 17, 18, 19, 20, 21, 22, 23, 24, 25, 26, 27, 28, 29, 30, 31, 47, 48, 49, 50, 51, 52, 53, 54, 55] (by decide +kernel) (by decide +kernel)
set_option maxRecDepth 20000 in
theorem gX11_roadsReadAsNow_X8_readByRoad : GoodIn wsX11_roadsReadAsNow (wsV RX11 145 RX8 yX8_readByRoad wsX8_readByRoad) := goodIn_app (goodIn_of _ (by decide +kernel)) ggX11_roadsReadAsNow_X8_readByRoad
theorem dX11_roadsReadAsNow_0 : decode cX11_roadsReadAsNow 0 = .ok (.iconst 0, 1) := by decide +kernel
