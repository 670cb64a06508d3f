theorem dX12_shortest_4 : decode cX12_shortest 4 = .ok (.iload_n 1, 1) := by decide +kernel
theorem dX12_shortest_5 : decode cX12_shortest 5 = .ok (.bipush 15, 2) := by decide +kernel
theorem dX12_shortest_7 : decode cX12_shortest 7 = .ok (.if_icmp .le 9, 3) := by decide +kernel
theorem dX12_shortest_10 : decode cX12_shortest 10 = .ok (.aload_n 0, 1) := by decide +kernel
theorem dX12_shortest_11 : decode cX12_shortest 11 = .ok (.iconst (-1), 1) := by decide +kernel
theorem dX12_shortest_12 : decode cX12_shortest 12 = .ok (.invokevirtual 111, 3) := by decide +kernel
theorem dX12_shortest_15 : decode cX12_shortest 15 = .ok (.ireturn, 1) := by decide +kernel
theorem dX12_shortest_16 : decode cX12_shortest 16 = .ok (.iload_n 2, 1) := by decide +kernel
theorem dX12_shortest_17 : decode cX12_shortest 17 = .ok (.invokestatic 173, 3) := by decide +kernel
theorem dX12_shortest_20 : decode cX12_shortest 20 = .ok (.ifCond .eq 10, 3) := by decide +kernel
theorem dX12_shortest_23 : decode cX12_shortest 23 = .ok (.aload_n 0, 1) := by decide +kernel
theorem dX12_shortest_24 : decode cX12_shortest 24 = .ok (.bipush (-2), 2) := by decide +kernel
theorem dX12_shortest_26 : decode cX12_shortest 26 = .ok (.invokevirtual 111, 3) := by decide +kernel
theorem dX12_shortest_29 : decode cX12_shortest 29 = .ok (.ireturn, 1) := by decide +kernel
theorem dX12_shortest_30 : decode cX12_shortest 30 = .ok (.iload_n 3, 1) := by decide +kernel
theorem dX12_shortest_31 : decode cX12_shortest 31 = .ok (.iconst (-1), 1) := by decide +kernel
theorem dX12_shortest_32 : decode cX12_shortest 32 = .ok (.if_icmp .ge 10, 3) := by decide +kernel
theorem dX12_shortest_35 : decode cX12_shortest 35 = .ok (.aload_n 0, 1) := by decide +kernel
theorem dX12_shortest_36 : decode cX12_shortest 36 = .ok (.bipush (-4), 2) := by decide +kernel
theorem dX12_shortest_38 : decode cX12_shortest 38 = .ok (.invokevirtual 111, 3) := by decide +kernel
theorem dX12_shortest_41 : decode cX12_shortest 41 = .ok (.ireturn, 1) := by decide +kernel
theorem dX12_shortest_42 : decode cX12_shortest 42 = .ok (.aload_n 0, 1) := by decide +kernel
theorem dX12_shortest_43 : decode cX12_shortest 43 = .ok (.iload_n 1, 1) := by decide +kernel
theorem dX12_shortest_44 : decode cX12_shortest 44 = .ok (.iload_n 2, 1) := by decide +kernel
theorem dX12_shortest_45 : decode cX12_shortest 45 = .ok (.invokevirtual 190, 3) := by decide +kernel
theorem dX12_shortest_48 : decode cX12_shortest 48 = .ok (.istore 4, 2) := by decide +kernel
theorem dX12_shortest_50 : decode cX12_shortest 50 = .ok (.iload_n 3, 1) := by decide +kernel
theorem dX12_shortest_51 : decode cX12_shortest 51 = .ok (.ifCond .ge 8, 3) := by decide +kernel
theorem dX12_shortest_54 : decode cX12_shortest 54 = .ok (.iload 4, 2) := by decide +kernel
theorem dX12_shortest_56 : decode cX12_shortest 56 = .ok (.goto 20, 3) := by decide +kernel
theorem dX12_shortest_59 : decode cX12_shortest 59 = .ok (.iload_n 3, 1) := by decide +kernel
theorem dX12_shortest_60 : decode cX12_shortest 60 = .ok (.iload 4, 2) := by decide +kernel
theorem dX12_shortest_62 : decode cX12_shortest 62 = .ok (.if_icmp .ge 12, 3) := by decide +kernel
theorem dX12_shortest_65 : decode cX12_shortest 65 = .ok (.aload_n 0, 1) := by decide +kernel
theorem dX12_shortest_66 : decode cX12_shortest 66 = .ok (.getfield 62, 3) := by decide +kernel
theorem dX12_shortest_69 : decode cX12_shortest 69 = .ok (.iload_n 3, 1) := by decide +kernel
theorem dX12_shortest_70 : decode cX12_shortest 70 = .ok (.iaload, 1) := by decide +kernel
theorem dX12_shortest_71 : decode cX12_shortest 71 = .ok (.goto 5, 3) := by decide +kernel
theorem dX12_shortest_74 : decode cX12_shortest 74 = .ok (.bipush (-9), 2) := by decide +kernel
theorem dX12_shortest_76 : decode cX12_shortest 76 = .ok (.ireturn, 1) := by decide +kernel
set_option maxRecDepth 20000 in
theorem ggX12_each_X12_no : GoodIn wsX12_each wsX12_no := goodIn_r _ [6, 7, 39, 40, 41, 42, 43, 44, 45, 46, 47, 48, 49, 50, 51, 52, 53, 54, 55, 56, 57, 58, 59, 60, 61, 62, 63, 64, 65, 66, 67, 68, 69, 70, 71, 72, 73] (by decide +kernel) (by decide +kernel)
set_option maxRecDepth 20000 in
theorem gX12_each_X12_no : GoodIn wsX12_each (wsV RX12 111 RX12 yX12_no wsX12_no) := goodIn_app (goodIn_of _ (by decide +kernel)) ggX12_each_X12_no
set_option maxRecDepth 20000 in
theorem ggX12_each_X12_leastEach : GoodIn wsX12_each wsX12_leastEach := goodIn_r _ [11, 12, 1, 13, 14, 15, 5, 16, 17, 18, 19, 20, 21, 22, 23, 24, 25, 26, 27, 28, 29, 30, 31, 32, 33, 34, 35, 36, 37, 38, 39, 40, 41, 42, 43, 44, 45, 46, 47, 48, 49, 50, 51, 52, 53, 54, 55, 56, 57, 58, 59, 60, 61, 62, 63, 64, 65, 66, 67, 68, 69, 70, 71, 72, 73] (by decide +kernel) (by decide +kernel)
set_option maxRecDepth 20000 in
theorem gX12_each_X12_leastEach : GoodIn wsX12_each (wsV RX12 194 RX12 yX12_leastEach wsX12_leastEach) := goodIn_app (goodIn_of _ (by decide +kernel)) ggX12_each_X12_leastEach
theorem dX12_each_0 : decode cX12_each 0 = .ok (.iload_n 1, 1) := by decide +kernel
theorem dX12_each_1 : decode cX12_each 1 = .ok (.iconst (-1), 1) := by decide +kernel
theorem dX12_each_2 : decode cX12_each 2 = .ok (.if_icmp .ge 10, 3) := by decide +kernel
theorem dX12_each_5 : decode cX12_each 5 = .ok (.aload_n 0, 1) := by decide +kernel
theorem dX12_each_6 : decode cX12_each 6 = .ok (.bipush (-4), 2) := by decide +kernel
theorem dX12_each_8 : decode cX12_each 8 = .ok (.invokevirtual 111, 3) := by decide +kernel
theorem dX12_each_11 : decode cX12_each 11 = .ok (.ireturn, 1) := by decide +kernel
theorem dX12_each_12 : decode cX12_each 12 = .ok (.aload_n 0, 1) := by decide +kernel
theorem dX12_each_13 : decode cX12_each 13 = .ok (.invokevirtual 194, 3) := by decide +kernel
theorem dX12_each_16 : decode cX12_each 16 = .ok (.istore_n 2, 1) := by decide +kernel
theorem dX12_each_17 : decode cX12_each 17 = .ok (.iload_n 1, 1) := by decide +kernel
theorem dX12_each_18 : decode cX12_each 18 = .ok (.ifCond .ge 7, 3) := by decide +kernel
theorem dX12_each_21 : decode cX12_each 21 = .ok (.iload_n 2, 1) := by decide +kernel
theorem dX12_each_22 : decode cX12_each 22 = .ok (.goto 19, 3) := by decide +kernel
theorem dX12_each_25 : decode cX12_each 25 = .ok (.iload_n 1, 1) := by decide +kernel
theorem dX12_each_26 : decode cX12_each 26 = .ok (.iload_n 2, 1) := by decide +kernel
theorem dX12_each_27 : decode cX12_each 27 = .ok (.if_icmp .ge 12, 3) := by decide +kernel
theorem dX12_each_30 : decode cX12_each 30 = .ok (.aload_n 0, 1) := by decide +kernel
theorem dX12_each_31 : decode cX12_each 31 = .ok (.getfield 62, 3) := by decide +kernel
theorem dX12_each_34 : decode cX12_each 34 = .ok (.iload_n 1, 1) := by decide +kernel
theorem dX12_each_35 : decode cX12_each 35 = .ok (.iaload, 1) := by decide +kernel
theorem dX12_each_36 : decode cX12_each 36 = .ok (.goto 5, 3) := by decide +kernel
theorem dX12_each_39 : decode cX12_each 39 = .ok (.bipush (-9), 2) := by decide +kernel
theorem dX12_each_41 : decode cX12_each 41 = .ok (.ireturn, 1) := by decide +kernel
theorem dX12_isFirstTurned_0 : decode cX12_isFirstTurned 0 = .ok (.iconst 1, 1) := by decide +kernel
theorem dX12_isFirstTurned_1 : decode cX12_isFirstTurned 1 = .ok (.istore_n 2, 1) := by decide +kernel
theorem dX12_isFirstTurned_2 : decode cX12_isFirstTurned 2 = .ok (.iload_n 2, 1) := by decide +kernel
theorem dX12_isFirstTurned_3 : decode cX12_isFirstTurned 3 = .ok (.iload_n 1, 1) := by decide +kernel
theorem dX12_isFirstTurned_4 : decode cX12_isFirstTurned 4 = .ok (.if_icmp .ge 67, 3) := by decide +kernel
theorem dX12_isFirstTurned_7 : decode cX12_isFirstTurned 7 = .ok (.iconst 0, 1) := by decide +kernel
theorem dX12_isFirstTurned_8 : decode cX12_isFirstTurned 8 = .ok (.istore_n 3, 1) := by decide +kernel
theorem dX12_isFirstTurned_9 : decode cX12_isFirstTurned 9 = .ok (.iload_n 3, 1) := by decide +kernel
theorem dX12_isFirstTurned_10 : decode cX12_isFirstTurned 10 = .ok (.iload_n 1, 1) := by decide +kernel
theorem dX12_isFirstTurned_11 : decode cX12_isFirstTurned 11 = .ok (.if_icmp .ge 28, 3) := by decide +kernel
theorem dX12_isFirstTurned_14 : decode cX12_isFirstTurned 14 = .ok (.aload_n 0, 1) := by decide +kernel
theorem dX12_isFirstTurned_15 : decode cX12_isFirstTurned 15 = .ok (.getfield 62, 3) := by decide +kernel
theorem dX12_isFirstTurned_18 : decode cX12_isFirstTurned 18 = .ok (.iload_n 3, 1) := by decide +kernel
theorem dX12_isFirstTurned_19 : decode cX12_isFirstTurned 19 = .ok (.iload_n 2, 1) := by decide +kernel
theorem dX12_isFirstTurned_20 : decode cX12_isFirstTurned 20 = .ok (.iadd, 1) := by decide +kernel
theorem dX12_isFirstTurned_21 : decode cX12_isFirstTurned 21 = .ok (.iload_n 1, 1) := by decide +kernel
theorem dX12_isFirstTurned_22 : decode cX12_isFirstTurned 22 = .ok (.irem, 1) := by decide +kernel
theorem dX12_isFirstTurned_23 : decode cX12_isFirstTurned 23 = .ok (.iaload, 1) := by decide +kernel
theorem dX12_isFirstTurned_24 : decode cX12_isFirstTurned 24 = .ok (.aload_n 0, 1) := by decide +kernel
theorem dX12_isFirstTurned_25 : decode cX12_isFirstTurned 25 = .ok (.getfield 62, 3) := by decide +kernel
theorem dX12_isFirstTurned_28 : decode cX12_isFirstTurned 28 = .ok (.iload_n 3, 1) := by decide +kernel
theorem dX12_isFirstTurned_29 : decode cX12_isFirstTurned 29 = .ok (.iaload, 1) := by decide +kernel
theorem dX12_isFirstTurned_30 : decode cX12_isFirstTurned 30 = .ok (.if_icmp .ne 9, 3) := by decide +kernel
theorem dX12_isFirstTurned_33 : decode cX12_isFirstTurned 33 = .ok (.iinc 3 1, 3) := by decide +kernel
theorem dX12_isFirstTurned_36 : decode cX12_isFirstTurned 36 = .ok (.goto (-27), 3) := by decide +kernel
theorem dX12_isFirstTurned_39 : decode cX12_isFirstTurned 39 = .ok (.iload_n 3, 1) := by decide +kernel
theorem dX12_isFirstTurned_40 : decode cX12_isFirstTurned 40 = .ok (.iload_n 1, 1) := by decide +kernel
theorem dX12_isFirstTurned_41 : decode cX12_isFirstTurned 41 = .ok (.if_icmp .ge 24, 3) := by decide +kernel
theorem dX12_isFirstTurned_44 : decode cX12_isFirstTurned 44 = .ok (.aload_n 0, 1) := by decide +kernel
theorem dX12_isFirstTurned_45 : decode cX12_isFirstTurned 45 = .ok (.getfield 62, 3) := by decide +kernel
theorem dX12_isFirstTurned_48 : decode cX12_isFirstTurned 48 = .ok (.iload_n 3, 1) := by decide +kernel
theorem dX12_isFirstTurned_49 : decode cX12_isFirstTurned 49 = .ok (.iload_n 2, 1) := by decide +kernel
theorem dX12_isFirstTurned_50 : decode cX12_isFirstTurned 50 = .ok (.iadd, 1) := by decide +kernel
theorem dX12_isFirstTurned_51 : decode cX12_isFirstTurned 51 = .ok (.iload_n 1, 1) := by decide +kernel
theorem dX12_isFirstTurned_52 : decode cX12_isFirstTurned 52 = .ok (.irem, 1) := by decide +kernel
theorem dX12_isFirstTurned_53 : decode cX12_isFirstTurned 53 = .ok (.iaload, 1) := by decide +kernel
theorem dX12_isFirstTurned_54 : decode cX12_isFirstTurned 54 = .ok (.aload_n 0, 1) := by decide +kernel
theorem dX12_isFirstTurned_55 : decode cX12_isFirstTurned 55 = .ok (.getfield 62, 3) := by decide +kernel
theorem dX12_isFirstTurned_58 : decode cX12_isFirstTurned 58 = .ok (.iload_n 3, 1) := by decide +kernel
theorem dX12_isFirstTurned_59 : decode cX12_isFirstTurned 59 = .ok (.iaload, 1) := by decide +kernel
theorem dX12_isFirstTurned_60 : decode cX12_isFirstTurned 60 = .ok (.if_icmp .ge 5, 3) := by decide +kernel
theorem dX12_isFirstTurned_63 : decode cX12_isFirstTurned 63 = .ok (.iconst 0, 1) := by decide +kernel
theorem dX12_isFirstTurned_64 : decode cX12_isFirstTurned 64 = .ok (.ireturn, 1) := by decide +kernel
theorem dX12_isFirstTurned_65 : decode cX12_isFirstTurned 65 = .ok (.iinc 2 1, 3) := by decide +kernel
theorem dX12_isFirstTurned_68 : decode cX12_isFirstTurned 68 = .ok (.goto (-66), 3) := by decide +kernel
theorem dX12_isFirstTurned_71 : decode cX12_isFirstTurned 71 = .ok (.iconst 1, 1) := by decide +kernel
theorem dX12_isFirstTurned_72 : decode cX12_isFirstTurned 72 = .ok (.ireturn, 1) := by decide +kernel
set_option maxRecDepth 20000 in
theorem ggX12_rings_X12_no : GoodIn wsX12_rings wsX12_no := goodIn_r _ [7, 8, 34, 35, 36, 37, 38, 39, 40, 41, 42, 43, 44, 45, 46, 47, 48, 49, 50, 51, 52, 53, 54, 55, 56, 57, 58, 59, 60, 61, 62, 63, 64, 65, 66, 67, 68] (by decide +kernel) (by decide +kernel)
set_option maxRecDepth 20000 in
theorem gX12_rings_X12_no : GoodIn wsX12_rings (wsV RX12 111 RX12 yX12_no wsX12_no) := goodIn_app (goodIn_of _ (by decide +kernel)) ggX12_rings_X12_no
set_option maxRecDepth 20000 in
theorem ggX12_rings_X12_isNoKind : GoodIn wsX12_rings wsX12_isNoKind := goodIn_r _ [11] (by decide +kernel) (by decide +kernel)
set_option maxRecDepth 20000 in
theorem gX12_rings_X12_isNoKind : GoodIn wsX12_rings (va_wsS RX12 173 yX12_isNoKind wsX12_isNoKind) := goodIn_app (goodIn_of _ (by decide +kernel)) ggX12_rings_X12_isNoKind
set_option maxRecDepth 20000 in
theorem ggX12_rings_X12_begin : GoodIn wsX12_rings wsX12_begin := goodIn_r _ [15, 2, 34, 35, 36, 37, 38, 39, 40, 41, 42, 43, 44, 45, 46, 47, 48, 49, 50, 51, 52, 53, 54, 55, 56, 57, 58, 59, 60, 61, 62, 63, 64, 65, 66, 67, 68] (by decide +kernel) (by decide +kernel)
set_option maxRecDepth 20000 in
theorem gX12_rings_X12_begin : GoodIn wsX12_rings (wsV RX12 179 RX12 yX12_begin wsX12_begin) := goodIn_app (goodIn_of _ (by decide +kernel)) ggX12_rings_X12_begin
set_option maxRecDepth 20000 in
theorem ggX12_rings_X12_isFirstTurned : GoodIn wsX12_rings wsX12_isFirstTurned := goodIn_r _ [19, 2, 34, 35, 36, 37, 38, 39, 40, 41, 42, 43, 44, 45, 46, 47, 48, 49, 50, 51, 52, 53, 54, 55, 56, 57, 58, 59, 60, 61, 62, 63, 64, 65, 66, 67, 68] (by decide +kernel) (by decide +kernel)
set_option maxRecDepth 20000 in
theorem gX12_rings_X12_isFirstTurned : GoodIn wsX12_rings (wsV RX12 197 RX12 yX12_isFirstTurned wsX12_isFirstTurned) := goodIn_app (goodIn_of _ (by decide +kernel)) ggX12_rings_X12_isFirstTurned
set_option maxRecDepth 20000 in
theorem ggX12_rings_X12_meansAll : GoodIn wsX12_rings wsX12_meansAll := goodIn_r _ [23, 24, 25, 26, 6, 27, 28, 29, 34, 35, 36, 37, 38, 39, 40, 41, 42, 43, 44, 45, 46, 47, 48, 49, 50, 51, 52, 53, 54, 55, 56, 57, 58, 59, 60, 61, 62, 63, 64, 65, 66, 67, 68] (by decide +kernel) (by decide +kernel)
set_option maxRecDepth 20000 in
theorem gX12_rings_X12_meansAll : GoodIn wsX12_rings (wsV RX12 176 RX12 yX12_meansAll wsX12_meansAll) := goodIn_app (goodIn_of _ (by decide +kernel)) ggX12_rings_X12_meansAll
set_option maxRecDepth 20000 in
theorem ggX12_rings_X12_isNext : GoodIn wsX12_rings wsX12_isNext := goodIn_r _ [33, 2, 1, 34, 35, 36, 37, 38, 39, 40, 41, 42, 43, 44, 45, 46, 47, 48, 49, 50, 51, 52, 53, 54, 55, 56, 57, 58, 59, 60, 61, 62, 63, 64, 65, 66, 67, 68] (by decide +kernel) (by decide +kernel)
set_option maxRecDepth 20000 in
theorem gX12_rings_X12_isNext : GoodIn wsX12_rings (wsV RX12 183 RX12 yX12_isNext wsX12_isNext) := goodIn_app (goodIn_of _ (by decide +kernel)) ggX12_rings_X12_isNext
theorem dX12_rings_0 : decode cX12_rings 0 = .ok (.iload_n 1, 1) := by decide +kernel
theorem dX12_rings_1 : decode cX12_rings 1 = .ok (.iconst 1, 1) := by decide +kernel
theorem dX12_rings_2 : decode cX12_rings 2 = .ok (.if_icmp .ge 10, 3) := by decide +kernel
theorem dX12_rings_5 : decode cX12_rings 5 = .ok (.aload_n 0, 1) := by decide +kernel
theorem dX12_rings_6 : decode cX12_rings 6 = .ok (.bipush (-4), 2) := by decide +kernel
theorem dX12_rings_8 : decode cX12_rings 8 = .ok (.invokevirtual 111, 3) := by decide +kernel
theorem dX12_rings_11 : decode cX12_rings 11 = .ok (.ireturn, 1) := by decide +kernel
theorem dX12_rings_12 : decode cX12_rings 12 = .ok (.iload_n 1, 1) := by decide +kernel
theorem dX12_rings_13 : decode cX12_rings 13 = .ok (.iconst 5, 1) := by decide +kernel
theorem dX12_rings_14 : decode cX12_rings 14 = .ok (.if_icmp .le 10, 3) := by decide +kernel
theorem dX12_rings_17 : decode cX12_rings 17 = .ok (.aload_n 0, 1) := by decide +kernel
theorem dX12_rings_18 : decode cX12_rings 18 = .ok (.bipush (-6), 2) := by decide +kernel
theorem dX12_rings_20 : decode cX12_rings 20 = .ok (.invokevirtual 111, 3) := by decide +kernel
theorem dX12_rings_23 : decode cX12_rings 23 = .ok (.ireturn, 1) := by decide +kernel
theorem dX12_rings_24 : decode cX12_rings 24 = .ok (.iload_n 2, 1) := by decide +kernel
theorem dX12_rings_25 : decode cX12_rings 25 = .ok (.invokestatic 173, 3) := by decide +kernel
theorem dX12_rings_28 : decode cX12_rings 28 = .ok (.ifCond .eq 10, 3) := by decide +kernel
theorem dX12_rings_31 : decode cX12_rings 31 = .ok (.aload_n 0, 1) := by decide +kernel
theorem dX12_rings_32 : decode cX12_rings 32 = .ok (.bipush (-2), 2) := by decide +kernel
theorem dX12_rings_34 : decode cX12_rings 34 = .ok (.invokevirtual 111, 3) := by decide +kernel
theorem dX12_rings_37 : decode cX12_rings 37 = .ok (.ireturn, 1) := by decide +kernel
theorem dX12_rings_38 : decode cX12_rings 38 = .ok (.iconst 0, 1) := by decide +kernel
theorem dX12_rings_39 : decode cX12_rings 39 = .ok (.istore_n 3, 1) := by decide +kernel
theorem dX12_rings_40 : decode cX12_rings 40 = .ok (.aload_n 0, 1) := by decide +kernel
theorem dX12_rings_41 : decode cX12_rings 41 = .ok (.getfield 85, 3) := by decide +kernel
theorem dX12_rings_44 : decode cX12_rings 44 = .ok (.ifCond .le 47, 3) := by decide +kernel
theorem dX12_rings_47 : decode cX12_rings 47 = .ok (.aload_n 0, 1) := by decide +kernel
theorem dX12_rings_48 : decode cX12_rings 48 = .ok (.iload_n 1, 1) := by decide +kernel
theorem dX12_rings_49 : decode cX12_rings 49 = .ok (.invokevirtual 179, 3) := by decide +kernel
theorem dX12_rings_52 : decode cX12_rings 52 = .ok (.iload_n 3, 1) := by decide +kernel
theorem dX12_rings_53 : decode cX12_rings 53 = .ok (.aload_n 0, 1) := by decide +kernel
theorem dX12_rings_54 : decode cX12_rings 54 = .ok (.iload_n 1, 1) := by decide +kernel
theorem dX12_rings_55 : decode cX12_rings 55 = .ok (.invokevirtual 197, 3) := by decide +kernel
theorem dX12_rings_58 : decode cX12_rings 58 = .ok (.ifCond .eq 22, 3) := by decide +kernel
theorem dX12_rings_61 : decode cX12_rings 61 = .ok (.aload_n 0, 1) := by decide +kernel
theorem dX12_rings_62 : decode cX12_rings 62 = .ok (.aload_n 0, 1) := by decide +kernel
theorem dX12_rings_63 : decode cX12_rings 63 = .ok (.getfield 62, 3) := by decide +kernel
theorem dX12_rings_66 : decode cX12_rings 66 = .ok (.iload_n 1, 1) := by decide +kernel
theorem dX12_rings_67 : decode cX12_rings 67 = .ok (.iload_n 2, 1) := by decide +kernel
theorem dX12_rings_68 : decode cX12_rings 68 = .ok (.invokevirtual 176, 3) := by decide +kernel
theorem dX12_rings_71 : decode cX12_rings 71 = .ok (.bipush 16, 2) := by decide +kernel
theorem dX12_rings_73 : decode cX12_rings 73 = .ok (.if_icmp .eq 7, 3) := by decide +kernel
theorem dX12_rings_76 : decode cX12_rings 76 = .ok (.iconst 1, 1) := by decide +kernel
theorem dX12_rings_77 : decode cX12_rings 77 = .ok (.goto 4, 3) := by decide +kernel
theorem dX12_rings_80 : decode cX12_rings 80 = .ok (.iconst 0, 1) := by decide +kernel
theorem dX12_rings_81 : decode cX12_rings 81 = .ok (.iadd, 1) := by decide +kernel
theorem dX12_rings_82 : decode cX12_rings 82 = .ok (.istore_n 3, 1) := by decide +kernel
theorem dX12_rings_83 : decode cX12_rings 83 = .ok (.aload_n 0, 1) := by decide +kernel
theorem dX12_rings_84 : decode cX12_rings 84 = .ok (.iload_n 1, 1) := by decide +kernel
theorem dX12_rings_85 : decode cX12_rings 85 = .ok (.invokevirtual 183, 3) := by decide +kernel
theorem dX12_rings_88 : decode cX12_rings 88 = .ok (.ifCond .ne (-36), 3) := by decide +kernel
theorem dX12_rings_91 : decode cX12_rings 91 = .ok (.iload_n 3, 1) := by decide +kernel
theorem dX12_rings_92 : decode cX12_rings 92 = .ok (.ireturn, 1) := by decide +kernel
set_option maxRecDepth 20000 in
theorem ggX12_sets_X12_begin : GoodIn wsX12_sets wsX12_begin := goodIn_r _ [7, 2, 22, 23, 24, 25, 26, 27, 28, 29, 30, 31, 32, 33, 34, 35, 36, 37, 38, 39, 40, 41, 42, 43, 44, 45, 46, 47, 48, 49, 50, 51, 52, 53, 54, 55, 56] (by decide +kernel) (by decide +kernel)
set_option maxRecDepth 20000 in
theorem gX12_sets_X12_begin : GoodIn wsX12_sets (wsV RX12 179 RX12 yX12_begin wsX12_begin) := goodIn_app (goodIn_of _ (by decide +kernel)) ggX12_sets_X12_begin
set_option maxRecDepth 20000 in
theorem ggX12_sets_X12_meansAll : GoodIn wsX12_sets wsX12_meansAll := goodIn_r _ [11, 12, 13, 14, 6, 15, 16, 17, 22, 23, 24, 25, 26, 27, 28, 29, 30, 31, 32, 33, 34, 35, 36, 37, 38, 39, 40, 41, 42, 43, 44, 45, 46, 47, 48, 49, 50, 51, 52, 53, 54, 55, 56] (by decide +kernel) (by decide +kernel)
set_option maxRecDepth 20000 in
theorem gX12_sets_X12_meansAll : GoodIn wsX12_sets (wsV RX12 176 RX12 yX12_meansAll wsX12_meansAll) := goodIn_app (goodIn_of _ (by decide +kernel)) ggX12_sets_X12_meansAll
set_option maxRecDepth 20000 in
theorem ggX12_sets_X12_isNext : GoodIn wsX12_sets wsX12_isNext := goodIn_r _ [21, 2, 1, 22, 23, 24, 25, 26, 27, 28, 29, 30, 31, 32, 33, 34, 35, 36, 37, 38, 39, 40, 41, 42, 43, 44, 45, 46, 47, 48, 49, 50, 51, 52, 53, 54, 55, 56] (by decide +kernel) (by decide +kernel)
set_option maxRecDepth 20000 in
theorem gX12_sets_X12_isNext : GoodIn wsX12_sets (wsV RX12 183 RX12 yX12_isNext wsX12_isNext) := goodIn_app (goodIn_of _ (by decide +kernel)) ggX12_sets_X12_isNext
theorem dX12_sets_0 : decode cX12_sets 0 = .ok (.iconst 0, 1) := by decide +kernel
theorem dX12_sets_1 : decode cX12_sets 1 = .ok (.istore_n 3, 1) := by decide +kernel
theorem dX12_sets_2 : decode cX12_sets 2 = .ok (.iconst 1, 1) := by decide +kernel
theorem dX12_sets_3 : decode cX12_sets 3 = .ok (.istore 4, 2) := by decide +kernel
theorem dX12_sets_5 : decode cX12_sets 5 = .ok (.iload 4, 2) := by decide +kernel
theorem dX12_sets_7 : decode cX12_sets 7 = .ok (.iconst 5, 1) := by decide +kernel
theorem dX12_sets_8 : decode cX12_sets 8 = .ok (.if_icmp .ge 114, 3) := by decide +kernel
theorem dX12_sets_11 : decode cX12_sets 11 = .ok (.aload_n 0, 1) := by decide +kernel
theorem dX12_sets_12 : decode cX12_sets 12 = .ok (.getfield 85, 3) := by decide +kernel
theorem dX12_sets_15 : decode cX12_sets 15 = .ok (.ifCond .le 107, 3) := by decide +kernel
theorem dX12_sets_18 : decode cX12_sets 18 = .ok (.aload_n 0, 1) := by decide +kernel
theorem dX12_sets_19 : decode cX12_sets 19 = .ok (.iload 4, 2) := by decide +kernel
theorem dX12_sets_21 : decode cX12_sets 21 = .ok (.invokevirtual 179, 3) := by decide +kernel
theorem dX12_sets_24 : decode cX12_sets 24 = .ok (.iconst 1, 1) := by decide +kernel
theorem dX12_sets_25 : decode cX12_sets 25 = .ok (.istore 5, 2) := by decide +kernel
theorem dX12_sets_27 : decode cX12_sets 27 = .ok (.iconst 0, 1) := by decide +kernel
theorem dX12_sets_28 : decode cX12_sets 28 = .ok (.istore 6, 2) := by decide +kernel
theorem dX12_sets_30 : decode cX12_sets 30 = .ok (.iload 6, 2) := by decide +kernel
theorem dX12_sets_32 : decode cX12_sets 32 = .ok (.iload 4, 2) := by decide +kernel
theorem dX12_sets_34 : decode cX12_sets 34 = .ok (.if_icmp .ge 32, 3) := by decide +kernel
theorem dX12_sets_37 : decode cX12_sets 37 = .ok (.iload 5, 2) := by decide +kernel
theorem dX12_sets_39 : decode cX12_sets 39 = .ok (.ifCond .eq 18, 3) := by decide +kernel
theorem dX12_sets_42 : decode cX12_sets 42 = .ok (.aload_n 0, 1) := by decide +kernel
theorem dX12_sets_43 : decode cX12_sets 43 = .ok (.getfield 62, 3) := by decide +kernel
theorem dX12_sets_46 : decode cX12_sets 46 = .ok (.iload 6, 2) := by decide +kernel
theorem dX12_sets_48 : decode cX12_sets 48 = .ok (.iaload, 1) := by decide +kernel
theorem dX12_sets_49 : decode cX12_sets 49 = .ok (.iload_n 2, 1) := by decide +kernel
theorem dX12_sets_50 : decode cX12_sets 50 = .ok (.if_icmp .eq 7, 3) := by decide +kernel
theorem dX12_sets_53 : decode cX12_sets 53 = .ok (.iconst 1, 1) := by decide +kernel
theorem dX12_sets_54 : decode cX12_sets 54 = .ok (.goto 4, 3) := by decide +kernel
theorem dX12_sets_57 : decode cX12_sets 57 = .ok (.iconst 0, 1) := by decide +kernel
theorem dX12_sets_58 : decode cX12_sets 58 = .ok (.istore 5, 2) := by decide +kernel
theorem dX12_sets_60 : decode cX12_sets 60 = .ok (.iinc 6 1, 3) := by decide +kernel
theorem dX12_sets_63 : decode cX12_sets 63 = .ok (.goto (-33), 3) := by decide +kernel
theorem dX12_sets_66 : decode cX12_sets 66 = .ok (.iload 5, 2) := by decide +kernel
theorem dX12_sets_68 : decode cX12_sets 68 = .ok (.ifCond .eq 17, 3) := by decide +kernel
theorem dX12_sets_71 : decode cX12_sets 71 = .ok (.aload_n 0, 1) := by decide +kernel
theorem dX12_sets_72 : decode cX12_sets 72 = .ok (.aload_n 0, 1) := by decide +kernel
theorem dX12_sets_73 : decode cX12_sets 73 = .ok (.getfield 62, 3) := by decide +kernel
theorem dX12_sets_76 : decode cX12_sets 76 = .ok (.iload 4, 2) := by decide +kernel
theorem dX12_sets_78 : decode cX12_sets 78 = .ok (.iload_n 1, 1) := by decide +kernel
theorem dX12_sets_79 : decode cX12_sets 79 = .ok (.invokevirtual 176, 3) := by decide +kernel
theorem dX12_sets_82 : decode cX12_sets 82 = .ok (.goto 5, 3) := by decide +kernel
theorem dX12_sets_85 : decode cX12_sets 85 = .ok (.bipush 16, 2) := by decide +kernel
theorem dX12_sets_87 : decode cX12_sets 87 = .ok (.istore 6, 2) := by decide +kernel
theorem dX12_sets_89 : decode cX12_sets 89 = .ok (.iload_n 3, 1) := by decide +kernel
theorem dX12_sets_90 : decode cX12_sets 90 = .ok (.iload 6, 2) := by decide +kernel
theorem dX12_sets_92 : decode cX12_sets 92 = .ok (.bipush 16, 2) := by decide +kernel
theorem dX12_sets_94 : decode cX12_sets 94 = .ok (.if_icmp .ne 7, 3) := by decide +kernel
theorem dX12_sets_97 : decode cX12_sets 97 = .ok (.iconst 0, 1) := by decide +kernel
theorem dX12_sets_98 : decode cX12_sets 98 = .ok (.goto 7, 3) := by decide +kernel
theorem dX12_sets_101 : decode cX12_sets 101 = .ok (.iconst 1, 1) := by decide +kernel
theorem dX12_sets_102 : decode cX12_sets 102 = .ok (.iload 6, 2) := by decide +kernel
theorem dX12_sets_104 : decode cX12_sets 104 = .ok (.ishl, 1) := by decide +kernel
theorem dX12_sets_105 : decode cX12_sets 105 = .ok (.ior, 1) := by decide +kernel
theorem dX12_sets_106 : decode cX12_sets 106 = .ok (.istore_n 3, 1) := by decide +kernel
theorem dX12_sets_107 : decode cX12_sets 107 = .ok (.aload_n 0, 1) := by decide +kernel
theorem dX12_sets_108 : decode cX12_sets 108 = .ok (.iload 4, 2) := by decide +kernel
theorem dX12_sets_110 : decode cX12_sets 110 = .ok (.invokevirtual 183, 3) := by decide +kernel
theorem dX12_sets_113 : decode cX12_sets 113 = .ok (.ifCond .ne (-89), 3) := by decide +kernel
theorem dX12_sets_116 : decode cX12_sets 116 = .ok (.iinc 4 1, 3) := by decide +kernel
theorem dX12_sets_119 : decode cX12_sets 119 = .ok (.goto (-114), 3) := by decide +kernel
theorem dX12_sets_122 : decode cX12_sets 122 = .ok (.iload_n 3, 1) := by decide +kernel
theorem dX12_sets_123 : decode cX12_sets 123 = .ok (.ireturn, 1) := by decide +kernel
set_option maxRecDepth 20000 in
theorem ggX12_sayable_X12_isNoKind : GoodIn wsX12_sayable wsX12_isNoKind := goodIn_r _ [4] (by decide +kernel) (by decide +kernel)
set_option maxRecDepth 20000 in
theorem gX12_sayable_X12_isNoKind : GoodIn wsX12_sayable (va_wsS RX12 173 yX12_isNoKind wsX12_isNoKind) := goodIn_app (goodIn_of _ (by decide +kernel)) ggX12_sayable_X12_isNoKind
set_option maxRecDepth 20000 in
theorem ggX12_sayable_X12_no : GoodIn wsX12_sayable wsX12_no := goodIn_r _ [8, 9, 34, 35, 36, 37, 38, 39, 40, 41, 42, 43, 44, 45, 46, 47, 48, 49, 50, 51, 52, 53, 54, 55, 56, 57, 58, 59, 60, 61, 62, 63, 64, 65, 66, 67, 68] (by decide +kernel) (by decide +kernel)
set_option maxRecDepth 20000 in
theorem gX12_sayable_X12_no : GoodIn wsX12_sayable (wsV RX12 111 RX12 yX12_no wsX12_no) := goodIn_app (goodIn_of _ (by decide +kernel)) ggX12_sayable_X12_no
set_option maxRecDepth 20000 in
theorem ggX12_sayable_X12_sets : GoodIn wsX12_sayable wsX12_sets := goodIn_r _ [13, 14, 15, 16, 17, 18, 3, 19, 20, 21, 22, 23, 24, 25, 26, 27, 28, 29, 30, 31, 32, 33, 34, 35, 36, 37, 38, 39, 40, 41, 42, 43, 44, 45, 46, 47, 48, 49, 50, 51, 52, 53, 54, 55, 56, 57, 58, 59, 60, 61, 62, 63, 64, 65, 66, 67, 68] (by decide +kernel) (by decide +kernel)
set_option maxRecDepth 20000 in
theorem gX12_sayable_X12_sets : GoodIn wsX12_sayable (wsV RX12 200 RX12 yX12_sets wsX12_sets) := goodIn_app (goodIn_of _ (by decide +kernel)) ggX12_sayable_X12_sets
theorem dX12_sayable_0 : decode cX12_sayable 0 = .ok (.iload_n 1, 1) := by decide +kernel
theorem dX12_sayable_1 : decode cX12_sayable 1 = .ok (.invokestatic 173, 3) := by decide +kernel
theorem dX12_sayable_4 : decode cX12_sayable 4 = .ok (.ifCond .eq 12, 3) := by decide +kernel
theorem dX12_sayable_7 : decode cX12_sayable 7 = .ok (.aload_n 0, 1) := by decide +kernel
theorem dX12_sayable_8 : decode cX12_sayable 8 = .ok (.bipush (-2), 2) := by decide +kernel
theorem dX12_sayable_10 : decode cX12_sayable 10 = .ok (.invokevirtual 111, 3) := by decide +kernel
theorem dX12_sayable_13 : decode cX12_sayable 13 = .ok (.goto 9, 3) := by decide +kernel
theorem dX12_sayable_16 : decode cX12_sayable 16 = .ok (.aload_n 0, 1) := by decide +kernel
theorem dX12_sayable_17 : decode cX12_sayable 17 = .ok (.iload_n 1, 1) := by decide +kernel
theorem dX12_sayable_18 : decode cX12_sayable 18 = .ok (.iconst (-1), 1) := by decide +kernel
theorem dX12_sayable_19 : decode cX12_sayable 19 = .ok (.invokevirtual 200, 3) := by decide +kernel
theorem dX12_sayable_22 : decode cX12_sayable 22 = .ok (.ireturn, 1) := by decide +kernel
set_option maxRecDepth 20000 in
theorem ggX12_needed_X12_sets : GoodIn wsX12_needed wsX12_sets := goodIn_r _ [6, 1, 7, 8, 9, 10, 5, 11, 12, 13, 14, 15, 16, 17, 18, 19, 20, 21, 22, 23, 24, 25, 26, 27, 28, 29, 30, 31, 32, 33, 34, 35, 36, 37, 38, 39, 40, 41, 42, 43, 44, 45, 46, 47, 48, 49, 50, 51, 52, 53, 54, 55, 56, 57, 58, 59, 60] (by decide +kernel) (by decide +kernel)
set_option maxRecDepth 20000 in
theorem gX12_needed_X12_sets : GoodIn wsX12_needed (wsV RX12 200 RX12 yX12_sets wsX12_sets) := goodIn_app (goodIn_of _ (by decide +kernel)) ggX12_needed_X12_sets
theorem dX12_needed_0 : decode cX12_needed 0 = .ok (.aload_n 0, 1) := by decide +kernel
theorem dX12_needed_1 : decode cX12_needed 1 = .ok (.iconst 0, 1) := by decide +kernel
theorem dX12_needed_2 : decode cX12_needed 2 = .ok (.iconst (-1), 1) := by decide +kernel
theorem dX12_needed_3 : decode cX12_needed 3 = .ok (.invokevirtual 200, 3) := by decide +kernel
theorem dX12_needed_6 : decode cX12_needed 6 = .ok (.istore_n 1, 1) := by decide +kernel
theorem dX12_needed_7 : decode cX12_needed 7 = .ok (.iconst 0, 1) := by decide +kernel
theorem dX12_needed_8 : decode cX12_needed 8 = .ok (.istore_n 2, 1) := by decide +kernel
theorem dX12_needed_9 : decode cX12_needed 9 = .ok (.iconst 0, 1) := by decide +kernel
theorem dX12_needed_10 : decode cX12_needed 10 = .ok (.istore_n 3, 1) := by decide +kernel
theorem dX12_needed_11 : decode cX12_needed 11 = .ok (.iload_n 3, 1) := by decide +kernel
theorem dX12_needed_12 : decode cX12_needed 12 = .ok (.aload_n 0, 1) := by decide +kernel
theorem dX12_needed_13 : decode cX12_needed 13 = .ok (.getfield 85, 3) := by decide +kernel
theorem dX12_needed_16 : decode cX12_needed 16 = .ok (.if_icmp .ge 29, 3) := by decide +kernel
theorem dX12_needed_19 : decode cX12_needed 19 = .ok (.iload_n 2, 1) := by decide +kernel
theorem dX12_needed_20 : decode cX12_needed 20 = .ok (.aload_n 0, 1) := by decide +kernel
theorem dX12_needed_21 : decode cX12_needed 21 = .ok (.iconst 0, 1) := by decide +kernel
theorem dX12_needed_22 : decode cX12_needed 22 = .ok (.iload_n 3, 1) := by decide +kernel
theorem dX12_needed_23 : decode cX12_needed 23 = .ok (.invokevirtual 200, 3) := by decide +kernel
theorem dX12_needed_26 : decode cX12_needed 26 = .ok (.iload_n 1, 1) := by decide +kernel
theorem dX12_needed_27 : decode cX12_needed 27 = .ok (.if_icmp .ne 7, 3) := by decide +kernel
theorem dX12_needed_30 : decode cX12_needed 30 = .ok (.iconst 0, 1) := by decide +kernel
theorem dX12_needed_31 : decode cX12_needed 31 = .ok (.goto 6, 3) := by decide +kernel
theorem dX12_needed_34 : decode cX12_needed 34 = .ok (.iconst 1, 1) := by decide +kernel
theorem dX12_needed_35 : decode cX12_needed 35 = .ok (.iload_n 3, 1) := by decide +kernel
theorem dX12_needed_36 : decode cX12_needed 36 = .ok (.ishl, 1) := by decide +kernel
theorem dX12_needed_37 : decode cX12_needed 37 = .ok (.ior, 1) := by decide +kernel
theorem dX12_needed_38 : decode cX12_needed 38 = .ok (.istore_n 2, 1) := by decide +kernel
theorem dX12_needed_39 : decode cX12_needed 39 = .ok (.iinc 3 1, 3) := by decide +kernel
theorem dX12_needed_42 : decode cX12_needed 42 = .ok (.goto (-31), 3) := by decide +kernel
theorem dX12_needed_45 : decode cX12_needed 45 = .ok (.iload_n 2, 1) := by decide +kernel
theorem dX12_needed_46 : decode cX12_needed 46 = .ok (.ireturn, 1) := by decide +kernel
theorem dX12_blanks_0 : decode cX12_blanks 0 = .ok (.iconst 0, 1) := by decide +kernel
theorem dX12_blanks_1 : decode cX12_blanks 1 = .ok (.istore_n 1, 1) := by decide +kernel
theorem dX12_blanks_2 : decode cX12_blanks 2 = .ok (.iconst 0, 1) := by decide +kernel
theorem dX12_blanks_3 : decode cX12_blanks 3 = .ok (.istore_n 2, 1) := by decide +kernel
theorem dX12_blanks_4 : decode cX12_blanks 4 = .ok (.iload_n 2, 1) := by decide +kernel
theorem dX12_blanks_5 : decode cX12_blanks 5 = .ok (.aload_n 0, 1) := by decide +kernel
theorem dX12_blanks_6 : decode cX12_blanks 6 = .ok (.getfield 95, 3) := by decide +kernel
theorem dX12_blanks_9 : decode cX12_blanks 9 = .ok (.if_icmp .ge 27, 3) := by decide +kernel
theorem dX12_blanks_12 : decode cX12_blanks 12 = .ok (.iload_n 1, 1) := by decide +kernel
theorem dX12_blanks_13 : decode cX12_blanks 13 = .ok (.aload_n 0, 1) := by decide +kernel
theorem dX12_blanks_14 : decode cX12_blanks 14 = .ok (.getfield 34, 3) := by decide +kernel
theorem dX12_blanks_17 : decode cX12_blanks 17 = .ok (.iload_n 2, 1) := by decide +kernel
theorem dX12_blanks_18 : decode cX12_blanks 18 = .ok (.iaload, 1) := by decide +kernel
theorem dX12_blanks_19 : decode cX12_blanks 19 = .ok (.iconst (-1), 1) := by decide +kernel
theorem dX12_blanks_20 : decode cX12_blanks 20 = .ok (.if_icmp .ne 7, 3) := by decide +kernel
theorem dX12_blanks_23 : decode cX12_blanks 23 = .ok (.iconst 1, 1) := by decide +kernel
theorem dX12_blanks_24 : decode cX12_blanks 24 = .ok (.goto 4, 3) := by decide +kernel
theorem dX12_blanks_27 : decode cX12_blanks 27 = .ok (.iconst 0, 1) := by decide +kernel
theorem dX12_blanks_28 : decode cX12_blanks 28 = .ok (.iadd, 1) := by decide +kernel
theorem dX12_blanks_29 : decode cX12_blanks 29 = .ok (.istore_n 1, 1) := by decide +kernel
theorem dX12_blanks_30 : decode cX12_blanks 30 = .ok (.iinc 2 1, 3) := by decide +kernel
theorem dX12_blanks_33 : decode cX12_blanks 33 = .ok (.goto (-29), 3) := by decide +kernel
theorem dX12_blanks_36 : decode cX12_blanks 36 = .ok (.iload_n 1, 1) := by decide +kernel
theorem dX12_blanks_37 : decode cX12_blanks 37 = .ok (.ireturn, 1) := by decide +kernel
set_option maxRecDepth 20000 in
theorem ggX12_fill_X12_begin : GoodIn wsX12_fill wsX12_begin := goodIn_r _ [15, 8, 38, 39, 40, 41, 42, 43, 44, 45, 46, 47, 48, 49, 50, 51, 52, 53, 54, 55, 56, 57, 58, 59, 60, 61, 62, 63, 64, 65, 66, 67, 68, 69, 70, 71, 72] (by decide +kernel) (by decide +kernel)
set_option maxRecDepth 20000 in
theorem gX12_fill_X12_begin : GoodIn wsX12_fill (wsV RX12 179 RX12 yX12_begin wsX12_begin) := goodIn_app (goodIn_of _ (by decide +kernel)) ggX12_fill_X12_begin
set_option maxRecDepth 20000 in
theorem ggX12_fill_X12_areWished : GoodIn wsX12_fill wsX12_areWished := goodIn_r _ [19, 20, 21, 22, 23, 24, 14, 25, 26, 27, 28, 29, 30, 31, 32, 33, 38, 39, 40, 41, 42, 43, 44, 45, 46, 47, 48, 49, 50, 51, 52, 53, 54, 55, 56, 57, 58, 59, 60, 61, 62, 63, 64, 65, 66, 67, 68, 69, 70, 71, 72] (by decide +kernel) (by decide +kernel)
set_option maxRecDepth 20000 in
theorem gX12_fill_X12_areWished : GoodIn wsX12_fill (wsV RX12 186 RX12 yX12_areWished wsX12_areWished) := goodIn_app (goodIn_of _ (by decide +kernel)) ggX12_fill_X12_areWished
set_option maxRecDepth 20000 in
theorem ggX12_fill_X12_isNext : GoodIn wsX12_fill wsX12_isNext := goodIn_r _ [37, 8, 4, 38, 39, 40, 41, 42, 43, 44, 45, 46, 47, 48, 49, 50, 51, 52, 53, 54, 55, 56, 57, 58, 59, 60, 61, 62, 63, 64, 65, 66, 67, 68, 69, 70, 71, 72] (by decide +kernel) (by decide +kernel)
set_option maxRecDepth 20000 in
theorem gX12_fill_X12_isNext : GoodIn wsX12_fill (wsV RX12 183 RX12 yX12_isNext wsX12_isNext) := goodIn_app (goodIn_of _ (by decide +kernel)) ggX12_fill_X12_isNext
theorem dX12_fill_0 : decode cX12_fill 0 = .ok (.aload_n 0, 1) := by decide +kernel
theorem dX12_fill_1 : decode cX12_fill 1 = .ok (.iconst 0, 1) := by decide +kernel
theorem dX12_fill_2 : decode cX12_fill 2 = .ok (.putfield 203, 3) := by decide +kernel
theorem dX12_fill_5 : decode cX12_fill 5 = .ok (.aload_n 0, 1) := by decide +kernel
theorem dX12_fill_6 : decode cX12_fill 6 = .ok (.bipush (-9), 2) := by decide +kernel
theorem dX12_fill_8 : decode cX12_fill 8 = .ok (.putfield 206, 3) := by decide +kernel
theorem dX12_fill_11 : decode cX12_fill 11 = .ok (.iconst 0, 1) := by decide +kernel
theorem dX12_fill_12 : decode cX12_fill 12 = .ok (.istore_n 2, 1) := by decide +kernel
theorem dX12_fill_13 : decode cX12_fill 13 = .ok (.iload_n 2, 1) := by decide +kernel
theorem dX12_fill_14 : decode cX12_fill 14 = .ok (.bipush 12, 2) := by decide +kernel
theorem dX12_fill_16 : decode cX12_fill 16 = .ok (.if_icmp .ge 16, 3) := by decide +kernel
theorem dX12_fill_19 : decode cX12_fill 19 = .ok (.aload_n 0, 1) := by decide +kernel
theorem dX12_fill_20 : decode cX12_fill 20 = .ok (.getfield 68, 3) := by decide +kernel
theorem dX12_fill_23 : decode cX12_fill 23 = .ok (.iload_n 2, 1) := by decide +kernel
theorem dX12_fill_24 : decode cX12_fill 24 = .ok (.iconst 0, 1) := by decide +kernel
theorem dX12_fill_25 : decode cX12_fill 25 = .ok (.iastore, 1) := by decide +kernel
theorem dX12_fill_26 : decode cX12_fill 26 = .ok (.iinc 2 1, 3) := by decide +kernel
theorem dX12_fill_29 : decode cX12_fill 29 = .ok (.goto (-16), 3) := by decide +kernel
theorem dX12_fill_32 : decode cX12_fill 32 = .ok (.aload_n 0, 1) := by decide +kernel
theorem dX12_fill_33 : decode cX12_fill 33 = .ok (.getfield 85, 3) := by decide +kernel
theorem dX12_fill_36 : decode cX12_fill 36 = .ok (.ifCond .ne 4, 3) := by decide +kernel
theorem dX12_fill_39 : decode cX12_fill 39 = .ok (.return_, 1) := by decide +kernel
theorem dX12_fill_40 : decode cX12_fill 40 = .ok (.aload_n 0, 1) := by decide +kernel
theorem dX12_fill_41 : decode cX12_fill 41 = .ok (.iload_n 1, 1) := by decide +kernel
theorem dX12_fill_42 : decode cX12_fill 42 = .ok (.invokevirtual 179, 3) := by decide +kernel
theorem dX12_fill_45 : decode cX12_fill 45 = .ok (.iconst 0, 1) := by decide +kernel
theorem dX12_fill_46 : decode cX12_fill 46 = .ok (.istore_n 2, 1) := by decide +kernel
theorem dX12_fill_47 : decode cX12_fill 47 = .ok (.iconst 1, 1) := by decide +kernel
theorem dX12_fill_48 : decode cX12_fill 48 = .ok (.istore_n 3, 1) := by decide +kernel
theorem dX12_fill_49 : decode cX12_fill 49 = .ok (.iconst 0, 1) := by decide +kernel
theorem dX12_fill_50 : decode cX12_fill 50 = .ok (.istore 4, 2) := by decide +kernel
theorem dX12_fill_52 : decode cX12_fill 52 = .ok (.iload 4, 2) := by decide +kernel
theorem dX12_fill_54 : decode cX12_fill 54 = .ok (.aload_n 0, 1) := by decide +kernel
theorem dX12_fill_55 : decode cX12_fill 55 = .ok (.getfield 95, 3) := by decide +kernel
theorem dX12_fill_58 : decode cX12_fill 58 = .ok (.if_icmp .ge 64, 3) := by decide +kernel
theorem dX12_fill_61 : decode cX12_fill 61 = .ok (.aload_n 0, 1) := by decide +kernel
theorem dX12_fill_62 : decode cX12_fill 62 = .ok (.getfield 65, 3) := by decide +kernel
theorem dX12_fill_65 : decode cX12_fill 65 = .ok (.iload 4, 2) := by decide +kernel
theorem dX12_fill_67 : decode cX12_fill 67 = .ok (.aload_n 0, 1) := by decide +kernel
theorem dX12_fill_68 : decode cX12_fill 68 = .ok (.getfield 34, 3) := by decide +kernel
theorem dX12_fill_71 : decode cX12_fill 71 = .ok (.iload 4, 2) := by decide +kernel
theorem dX12_fill_73 : decode cX12_fill 73 = .ok (.iaload, 1) := by decide +kernel
theorem dX12_fill_74 : decode cX12_fill 74 = .ok (.iastore, 1) := by decide +kernel
theorem dX12_fill_75 : decode cX12_fill 75 = .ok (.aload_n 0, 1) := by decide +kernel
theorem dX12_fill_76 : decode cX12_fill 76 = .ok (.getfield 34, 3) := by decide +kernel
theorem dX12_fill_79 : decode cX12_fill 79 = .ok (.iload 4, 2) := by decide +kernel
theorem dX12_fill_81 : decode cX12_fill 81 = .ok (.iaload, 1) := by decide +kernel
theorem dX12_fill_82 : decode cX12_fill 82 = .ok (.iconst (-1), 1) := by decide +kernel
theorem dX12_fill_83 : decode cX12_fill 83 = .ok (.if_icmp .ne 33, 3) := by decide +kernel
theorem dX12_fill_86 : decode cX12_fill 86 = .ok (.aload_n 0, 1) := by decide +kernel
theorem dX12_fill_87 : decode cX12_fill 87 = .ok (.getfield 65, 3) := by decide +kernel
theorem dX12_fill_90 : decode cX12_fill 90 = .ok (.iload 4, 2) := by decide +kernel
theorem dX12_fill_92 : decode cX12_fill 92 = .ok (.aload_n 0, 1) := by decide +kernel
theorem dX12_fill_93 : decode cX12_fill 93 = .ok (.getfield 62, 3) := by decide +kernel
theorem dX12_fill_96 : decode cX12_fill 96 = .ok (.iload_n 2, 1) := by decide +kernel
theorem dX12_fill_97 : decode cX12_fill 97 = .ok (.iaload, 1) := by decide +kernel
theorem dX12_fill_98 : decode cX12_fill 98 = .ok (.iastore, 1) := by decide +kernel
theorem dX12_fill_99 : decode cX12_fill 99 = .ok (.iload_n 3, 1) := by decide +kernel
theorem dX12_fill_100 : decode cX12_fill 100 = .ok (.aload_n 0, 1) := by decide +kernel
theorem dX12_fill_101 : decode cX12_fill 101 = .ok (.getfield 19, 3) := by decide +kernel
theorem dX12_fill_104 : decode cX12_fill 104 = .ok (.aload_n 0, 1) := by decide +kernel
theorem dX12_fill_105 : decode cX12_fill 105 = .ok (.getfield 62, 3) := by decide +kernel
theorem dX12_fill_108 : decode cX12_fill 108 = .ok (.iload_n 2, 1) := by decide +kernel
theorem dX12_fill_109 : decode cX12_fill 109 = .ok (.iaload, 1) := by decide +kernel
theorem dX12_fill_110 : decode cX12_fill 110 = .ok (.iaload, 1) := by decide +kernel
theorem dX12_fill_111 : decode cX12_fill 111 = .ok (.imul, 1) := by decide +kernel
theorem dX12_fill_112 : decode cX12_fill 112 = .ok (.istore_n 3, 1) := by decide +kernel
theorem dX12_fill_113 : decode cX12_fill 113 = .ok (.iinc 2 1, 3) := by decide +kernel
theorem dX12_fill_116 : decode cX12_fill 116 = .ok (.iinc 4 1, 3) := by decide +kernel
theorem dX12_fill_119 : decode cX12_fill 119 = .ok (.goto (-67), 3) := by decide +kernel
theorem dX12_fill_122 : decode cX12_fill 122 = .ok (.aload_n 0, 1) := by decide +kernel
theorem dX12_fill_123 : decode cX12_fill 123 = .ok (.aload_n 0, 1) := by decide +kernel
theorem dX12_fill_124 : decode cX12_fill 124 = .ok (.getfield 65, 3) := by decide +kernel
theorem dX12_fill_127 : decode cX12_fill 127 = .ok (.aload_n 0, 1) := by decide +kernel
theorem dX12_fill_128 : decode cX12_fill 128 = .ok (.getfield 95, 3) := by decide +kernel
theorem dX12_fill_131 : decode cX12_fill 131 = .ok (.invokevirtual 186, 3) := by decide +kernel
theorem dX12_fill_134 : decode cX12_fill 134 = .ok (.ifCond .eq 92, 3) := by decide +kernel
theorem dX12_fill_137 : decode cX12_fill 137 = .ok (.aload_n 0, 1) := by decide +kernel
theorem dX12_fill_138 : decode cX12_fill 138 = .ok (.dup, 1) := by decide +kernel
theorem dX12_fill_139 : decode cX12_fill 139 = .ok (.getfield 203, 3) := by decide +kernel
theorem dX12_fill_142 : decode cX12_fill 142 = .ok (.iconst 1, 1) := by decide +kernel
theorem dX12_fill_143 : decode cX12_fill 143 = .ok (.iadd, 1) := by decide +kernel
theorem dX12_fill_144 : decode cX12_fill 144 = .ok (.putfield 203, 3) := by decide +kernel
theorem dX12_fill_147 : decode cX12_fill 147 = .ok (.iconst 0, 1) := by decide +kernel
theorem dX12_fill_148 : decode cX12_fill 148 = .ok (.istore 4, 2) := by decide +kernel
theorem dX12_fill_150 : decode cX12_fill 150 = .ok (.iload 4, 2) := by decide +kernel
theorem dX12_fill_152 : decode cX12_fill 152 = .ok (.aload_n 0, 1) := by decide +kernel
theorem dX12_fill_153 : decode cX12_fill 153 = .ok (.getfield 95, 3) := by decide +kernel
theorem dX12_fill_156 : decode cX12_fill 156 = .ok (.if_icmp .ge 28, 3) := by decide +kernel
theorem dX12_fill_159 : decode cX12_fill 159 = .ok (.aload_n 0, 1) := by decide +kernel
theorem dX12_fill_160 : decode cX12_fill 160 = .ok (.getfield 68, 3) := by decide +kernel
theorem dX12_fill_163 : decode cX12_fill 163 = .ok (.iload 4, 2) := by decide +kernel
theorem dX12_fill_165 : decode cX12_fill 165 = .ok (.dup2, 1) := by decide +kernel
theorem dX12_fill_166 : decode cX12_fill 166 = .ok (.iaload, 1) := by decide +kernel
theorem dX12_fill_167 : decode cX12_fill 167 = .ok (.iconst 1, 1) := by decide +kernel
theorem dX12_fill_168 : decode cX12_fill 168 = .ok (.aload_n 0, 1) := by decide +kernel
theorem dX12_fill_169 : decode cX12_fill 169 = .ok (.getfield 65, 3) := by decide +kernel
theorem dX12_fill_172 : decode cX12_fill 172 = .ok (.iload 4, 2) := by decide +kernel
theorem dX12_fill_174 : decode cX12_fill 174 = .ok (.iaload, 1) := by decide +kernel
theorem dX12_fill_175 : decode cX12_fill 175 = .ok (.ishl, 1) := by decide +kernel
theorem dX12_fill_176 : decode cX12_fill 176 = .ok (.ior, 1) := by decide +kernel
theorem dX12_fill_177 : decode cX12_fill 177 = .ok (.iastore, 1) := by decide +kernel
theorem dX12_fill_178 : decode cX12_fill 178 = .ok (.iinc 4 1, 3) := by decide +kernel
theorem dX12_fill_181 : decode cX12_fill 181 = .ok (.goto (-31), 3) := by decide +kernel
theorem dX12_fill_184 : decode cX12_fill 184 = .ok (.iload_n 3, 1) := by decide +kernel
theorem dX12_fill_185 : decode cX12_fill 185 = .ok (.aload_n 0, 1) := by decide +kernel
theorem dX12_fill_186 : decode cX12_fill 186 = .ok (.getfield 206, 3) := by decide +kernel
theorem dX12_fill_189 : decode cX12_fill 189 = .ok (.if_icmp .le 37, 3) := by decide +kernel
theorem dX12_fill_192 : decode cX12_fill 192 = .ok (.aload_n 0, 1) := by decide +kernel
theorem dX12_fill_193 : decode cX12_fill 193 = .ok (.iload_n 3, 1) := by decide +kernel
theorem dX12_fill_194 : decode cX12_fill 194 = .ok (.putfield 206, 3) := by decide +kernel
theorem dX12_fill_197 : decode cX12_fill 197 = .ok (.iconst 0, 1) := by decide +kernel
theorem dX12_fill_198 : decode cX12_fill 198 = .ok (.istore 4, 2) := by decide +kernel
theorem dX12_fill_200 : decode cX12_fill 200 = .ok (.iload 4, 2) := by decide +kernel
theorem dX12_fill_202 : decode cX12_fill 202 = .ok (.iload_n 1, 1) := by decide +kernel
theorem dX12_fill_203 : decode cX12_fill 203 = .ok (.if_icmp .ge 23, 3) := by decide +kernel
theorem dX12_fill_206 : decode cX12_fill 206 = .ok (.aload_n 0, 1) := by decide +kernel
theorem dX12_fill_207 : decode cX12_fill 207 = .ok (.getfield 71, 3) := by decide +kernel
theorem dX12_fill_210 : decode cX12_fill 210 = .ok (.iload 4, 2) := by decide +kernel
theorem dX12_fill_212 : decode cX12_fill 212 = .ok (.aload_n 0, 1) := by decide +kernel
theorem dX12_fill_213 : decode cX12_fill 213 = .ok (.getfield 62, 3) := by decide +kernel
theorem dX12_fill_216 : decode cX12_fill 216 = .ok (.iload 4, 2) := by decide +kernel
theorem dX12_fill_218 : decode cX12_fill 218 = .ok (.iaload, 1) := by decide +kernel
theorem dX12_fill_219 : decode cX12_fill 219 = .ok (.iastore, 1) := by decide +kernel
theorem dX12_fill_220 : decode cX12_fill 220 = .ok (.iinc 4 1, 3) := by decide +kernel
theorem dX12_fill_223 : decode cX12_fill 223 = .ok (.goto (-23), 3) := by decide +kernel
theorem dX12_fill_226 : decode cX12_fill 226 = .ok (.aload_n 0, 1) := by decide +kernel
theorem dX12_fill_227 : decode cX12_fill 227 = .ok (.iload_n 1, 1) := by decide +kernel
theorem dX12_fill_228 : decode cX12_fill 228 = .ok (.invokevirtual 183, 3) := by decide +kernel
theorem dX12_fill_231 : decode cX12_fill 231 = .ok (.ifCond .ne (-186), 3) := by decide +kernel
theorem dX12_fill_234 : decode cX12_fill 234 = .ok (.return_, 1) := by decide +kernel
set_option maxRecDepth 20000 in
theorem ggX12_worn_X12_no : GoodIn wsX12_worn wsX12_no := goodIn_r _ [7, 8, 51, 52, 53, 54, 55, 56, 57, 58, 59, 60, 61, 62, 63, 64, 65, 66, 67, 68, 69, 70, 71, 72, 73, 74, 75, 76, 77, 78, 79, 80, 81, 82, 83, 84, 85] (by decide +kernel) (by decide +kernel)
set_option maxRecDepth 20000 in
theorem gX12_worn_X12_no : GoodIn wsX12_worn (wsV RX12 111 RX12 yX12_no wsX12_no) := goodIn_app (goodIn_of _ (by decide +kernel)) ggX12_worn_X12_no
set_option maxRecDepth 20000 in
theorem ggX12_worn_X12_blanks : GoodIn wsX12_worn wsX12_blanks := goodIn_r _ [12, 13, 14, 51, 52, 53, 54, 55, 56, 57, 58, 59, 60, 61, 62, 63, 64, 65, 66, 67, 68, 69, 70, 71, 72, 73, 74, 75, 76, 77, 78, 79, 80, 81, 82, 83, 84, 85] (by decide +kernel) (by decide +kernel)
set_option maxRecDepth 20000 in
theorem gX12_worn_X12_blanks : GoodIn wsX12_worn (wsV RX12 209 RX12 yX12_blanks wsX12_blanks) := goodIn_app (goodIn_of _ (by decide +kernel)) ggX12_worn_X12_blanks
set_option maxRecDepth 20000 in
theorem ggX12_worn_X12_fill : GoodIn wsX12_worn wsX12_fill := goodIn_r _ [18, 1, 2, 19, 20, 13, 21, 14, 22, 23, 24, 25, 26, 27, 6, 28, 29, 30, 31, 32, 33, 34, 35, 36, 37, 38, 39, 40, 41, 42, 43, 44, 45, 46, 47, 48, 49, 50, 51, 52, 53, 54, 55, 56, 57, 58, 59, 60, 61, 62, 63, 64, 65, 66, 67, 68, 69, 70, 71, 72, 73, 74, 75, 76, 77, 78, 79, 80, 81, 82, 83, 84, 85] (by decide +kernel) (by decide +kernel)
set_option maxRecDepth 20000 in
theorem gX12_worn_X12_fill : GoodIn wsX12_worn (wsV RX12 212 RX12 yX12_fill wsX12_fill) := goodIn_app (goodIn_of _ (by decide +kernel)) ggX12_worn_X12_fill
theorem dX12_worn_0 : decode cX12_worn 0 = .ok (.iload_n 1, 1) := by decide +kernel
theorem dX12_worn_1 : decode cX12_worn 1 = .ok (.ifCond .lt 8, 3) := by decide +kernel
theorem dX12_worn_4 : decode cX12_worn 4 = .ok (.iload_n 1, 1) := by decide +kernel
theorem dX12_worn_5 : decode cX12_worn 5 = .ok (.iconst 1, 1) := by decide +kernel
theorem dX12_worn_6 : decode cX12_worn 6 = .ok (.if_icmp .le 10, 3) := by decide +kernel
theorem dX12_worn_9 : decode cX12_worn 9 = .ok (.aload_n 0, 1) := by decide +kernel
theorem dX12_worn_10 : decode cX12_worn 10 = .ok (.bipush (-2), 2) := by decide +kernel
theorem dX12_worn_12 : decode cX12_worn 12 = .ok (.invokevirtual 111, 3) := by decide +kernel
theorem dX12_worn_15 : decode cX12_worn 15 = .ok (.ireturn, 1) := by decide +kernel
theorem dX12_worn_16 : decode cX12_worn 16 = .ok (.aload_n 0, 1) := by decide +kernel
theorem dX12_worn_17 : decode cX12_worn 17 = .ok (.invokevirtual 209, 3) := by decide +kernel
theorem dX12_worn_20 : decode cX12_worn 20 = .ok (.istore_n 2, 1) := by decide +kernel
theorem dX12_worn_21 : decode cX12_worn 21 = .ok (.iload_n 2, 1) := by decide +kernel
theorem dX12_worn_22 : decode cX12_worn 22 = .ok (.iconst 1, 1) := by decide +kernel
theorem dX12_worn_23 : decode cX12_worn 23 = .ok (.if_icmp .lt 8, 3) := by decide +kernel
theorem dX12_worn_26 : decode cX12_worn 26 = .ok (.iload_n 2, 1) := by decide +kernel
theorem dX12_worn_27 : decode cX12_worn 27 = .ok (.iconst 4, 1) := by decide +kernel
theorem dX12_worn_28 : decode cX12_worn 28 = .ok (.if_icmp .le 10, 3) := by decide +kernel
theorem dX12_worn_31 : decode cX12_worn 31 = .ok (.aload_n 0, 1) := by decide +kernel
theorem dX12_worn_32 : decode cX12_worn 32 = .ok (.bipush (-3), 2) := by decide +kernel
theorem dX12_worn_34 : decode cX12_worn 34 = .ok (.invokevirtual 111, 3) := by decide +kernel
theorem dX12_worn_37 : decode cX12_worn 37 = .ok (.ireturn, 1) := by decide +kernel
theorem dX12_worn_38 : decode cX12_worn 38 = .ok (.aload_n 0, 1) := by decide +kernel
theorem dX12_worn_39 : decode cX12_worn 39 = .ok (.iload_n 2, 1) := by decide +kernel
theorem dX12_worn_40 : decode cX12_worn 40 = .ok (.invokevirtual 212, 3) := by decide +kernel
theorem dX12_worn_43 : decode cX12_worn 43 = .ok (.iload_n 1, 1) := by decide +kernel
theorem dX12_worn_44 : decode cX12_worn 44 = .ok (.ifCond .ne 10, 3) := by decide +kernel
theorem dX12_worn_47 : decode cX12_worn 47 = .ok (.aload_n 0, 1) := by decide +kernel
theorem dX12_worn_48 : decode cX12_worn 48 = .ok (.getfield 203, 3) := by decide +kernel
theorem dX12_worn_51 : decode cX12_worn 51 = .ok (.goto 7, 3) := by decide +kernel
theorem dX12_worn_54 : decode cX12_worn 54 = .ok (.aload_n 0, 1) := by decide +kernel
theorem dX12_worn_55 : decode cX12_worn 55 = .ok (.getfield 206, 3) := by decide +kernel
theorem dX12_worn_58 : decode cX12_worn 58 = .ok (.ireturn, 1) := by decide +kernel
set_option maxRecDepth 20000 in
theorem ggX12_likeliest_X12_no : GoodIn wsX12_likeliest wsX12_no := goodIn_r _ [7, 8, 51, 52, 53, 54, 55, 56, 57, 58, 59, 60, 61, 62, 63, 64, 65, 66, 67, 68, 69, 70, 71, 72, 73, 74, 75, 76, 77, 78, 79, 80, 81, 82, 83, 84, 85] (by decide +kernel) (by decide +kernel)
set_option maxRecDepth 20000 in
theorem gX12_likeliest_X12_no : GoodIn wsX12_likeliest (wsV RX12 111 RX12 yX12_no wsX12_no) := goodIn_app (goodIn_of _ (by decide +kernel)) ggX12_likeliest_X12_no
set_option maxRecDepth 20000 in
theorem ggX12_likeliest_X12_blanks : GoodIn wsX12_likeliest wsX12_blanks := goodIn_r _ [12, 13, 14, 51, 52, 53, 54, 55, 56, 57, 58, 59, 60, 61, 62, 63, 64, 65, 66, 67, 68, 69, 70, 71, 72, 73, 74, 75, 76, 77, 78, 79, 80, 81, 82, 83, 84, 85] (by decide +kernel) (by decide +kernel)
set_option maxRecDepth 20000 in
theorem gX12_likeliest_X12_blanks : GoodIn wsX12_likeliest (wsV RX12 209 RX12 yX12_blanks wsX12_blanks) := goodIn_app (goodIn_of _ (by decide +kernel)) ggX12_likeliest_X12_blanks
set_option maxRecDepth 20000 in
theorem ggX12_likeliest_X12_fill : GoodIn wsX12_likeliest wsX12_fill := goodIn_r _ [18, 1, 19, 20, 21, 13, 22, 14, 23, 24, 2, 25, 26, 27, 6, 28, 29, 30, 31, 32, 33, 34, 35, 36, 37, 38, 39, 40, 41, 42, 43, 44, 45, 46, 47, 48, 49, 50, 51, 52, 53, 54, 55, 56, 57, 58, 59, 60, 61, 62, 63, 64, 65, 66, 67, 68, 69, 70, 71, 72, 73, 74, 75, 76, 77, 78, 79, 80, 81, 82, 83, 84, 85] (by decide +kernel) (by decide +kernel)
set_option maxRecDepth 20000 in
theorem gX12_likeliest_X12_fill : GoodIn wsX12_likeliest (wsV RX12 212 RX12 yX12_fill wsX12_fill) := goodIn_app (goodIn_of _ (by decide +kernel)) ggX12_likeliest_X12_fill
theorem dX12_likeliest_0 : decode cX12_likeliest 0 = .ok (.iload_n 1, 1) := by decide +kernel
theorem dX12_likeliest_1 : decode cX12_likeliest 1 = .ok (.ifCond .ge 10, 3) := by decide +kernel
theorem dX12_likeliest_4 : decode cX12_likeliest 4 = .ok (.aload_n 0, 1) := by decide +kernel
theorem dX12_likeliest_5 : decode cX12_likeliest 5 = .ok (.bipush (-4), 2) := by decide +kernel
theorem dX12_likeliest_7 : decode cX12_likeliest 7 = .ok (.invokevirtual 111, 3) := by decide +kernel
theorem dX12_likeliest_10 : decode cX12_likeliest 10 = .ok (.ireturn, 1) := by decide +kernel
theorem dX12_likeliest_11 : decode cX12_likeliest 11 = .ok (.aload_n 0, 1) := by decide +kernel
theorem dX12_likeliest_12 : decode cX12_likeliest 12 = .ok (.invokevirtual 209, 3) := by decide +kernel
theorem dX12_likeliest_15 : decode cX12_likeliest 15 = .ok (.istore_n 2, 1) := by decide +kernel
theorem dX12_likeliest_16 : decode cX12_likeliest 16 = .ok (.iload_n 2, 1) := by decide +kernel
theorem dX12_likeliest_17 : decode cX12_likeliest 17 = .ok (.iconst 1, 1) := by decide +kernel
theorem dX12_likeliest_18 : decode cX12_likeliest 18 = .ok (.if_icmp .lt 8, 3) := by decide +kernel
theorem dX12_likeliest_21 : decode cX12_likeliest 21 = .ok (.iload_n 2, 1) := by decide +kernel
theorem dX12_likeliest_22 : decode cX12_likeliest 22 = .ok (.iconst 4, 1) := by decide +kernel
theorem dX12_likeliest_23 : decode cX12_likeliest 23 = .ok (.if_icmp .le 10, 3) := by decide +kernel
theorem dX12_likeliest_26 : decode cX12_likeliest 26 = .ok (.aload_n 0, 1) := by decide +kernel
theorem dX12_likeliest_27 : decode cX12_likeliest 27 = .ok (.bipush (-3), 2) := by decide +kernel
theorem dX12_likeliest_29 : decode cX12_likeliest 29 = .ok (.invokevirtual 111, 3) := by decide +kernel
theorem dX12_likeliest_32 : decode cX12_likeliest 32 = .ok (.ireturn, 1) := by decide +kernel
theorem dX12_likeliest_33 : decode cX12_likeliest 33 = .ok (.aload_n 0, 1) := by decide +kernel
theorem dX12_likeliest_34 : decode cX12_likeliest 34 = .ok (.iload_n 2, 1) := by decide +kernel
theorem dX12_likeliest_35 : decode cX12_likeliest 35 = .ok (.invokevirtual 212, 3) := by decide +kernel
theorem dX12_likeliest_38 : decode cX12_likeliest 38 = .ok (.aload_n 0, 1) := by decide +kernel
theorem dX12_likeliest_39 : decode cX12_likeliest 39 = .ok (.getfield 203, 3) := by decide +kernel
theorem dX12_likeliest_42 : decode cX12_likeliest 42 = .ok (.ifCond .le 17, 3) := by decide +kernel
theorem dX12_likeliest_45 : decode cX12_likeliest 45 = .ok (.iload_n 1, 1) := by decide +kernel
theorem dX12_likeliest_46 : decode cX12_likeliest 46 = .ok (.iload_n 2, 1) := by decide +kernel
theorem dX12_likeliest_47 : decode cX12_likeliest 47 = .ok (.if_icmp .ge 12, 3) := by decide +kernel
theorem dX12_likeliest_50 : decode cX12_likeliest 50 = .ok (.aload_n 0, 1) := by decide +kernel
theorem dX12_likeliest_51 : decode cX12_likeliest 51 = .ok (.getfield 71, 3) := by decide +kernel
theorem dX12_likeliest_54 : decode cX12_likeliest 54 = .ok (.iload_n 1, 1) := by decide +kernel
theorem dX12_likeliest_55 : decode cX12_likeliest 55 = .ok (.iaload, 1) := by decide +kernel
theorem dX12_likeliest_56 : decode cX12_likeliest 56 = .ok (.goto 5, 3) := by decide +kernel
theorem dX12_likeliest_59 : decode cX12_likeliest 59 = .ok (.bipush (-9), 2) := by decide +kernel
theorem dX12_likeliest_61 : decode cX12_likeliest 61 = .ok (.ireturn, 1) := by decide +kernel
set_option maxRecDepth 20000 in
theorem ggX12_sure_X12_isNoPlace : GoodIn wsX12_sure wsX12_isNoPlace := goodIn_r _ [6, 7, 55, 56, 57, 58, 59, 60, 61, 62, 63, 64, 65, 66, 67, 68, 69, 70, 71, 72, 73, 74, 75, 76, 77, 78, 79, 80, 81, 82, 83, 84, 85, 86, 87, 88, 89] (by decide +kernel) (by decide +kernel)
set_option maxRecDepth 20000 in
theorem gX12_sure_X12_isNoPlace : GoodIn wsX12_sure (wsV RX12 167 RX12 yX12_isNoPlace wsX12_isNoPlace) := goodIn_app (goodIn_of _ (by decide +kernel)) ggX12_sure_X12_isNoPlace
set_option maxRecDepth 20000 in
theorem ggX12_sure_X12_no : GoodIn wsX12_sure wsX12_no := goodIn_r _ [11, 12, 55, 56, 57, 58, 59, 60, 61, 62, 63, 64, 65, 66, 67, 68, 69, 70, 71, 72, 73, 74, 75, 76, 77, 78, 79, 80, 81, 82, 83, 84, 85, 86, 87, 88, 89] (by decide +kernel) (by decide +kernel)
set_option maxRecDepth 20000 in
theorem gX12_sure_X12_no : GoodIn wsX12_sure (wsV RX12 111 RX12 yX12_no wsX12_no) := goodIn_app (goodIn_of _ (by decide +kernel)) ggX12_sure_X12_no
set_option maxRecDepth 20000 in
theorem ggX12_sure_X12_blanks : GoodIn wsX12_sure wsX12_blanks := goodIn_r _ [16, 7, 17, 55, 56, 57, 58, 59, 60, 61, 62, 63, 64, 65, 66, 67, 68, 69, 70, 71, 72, 73, 74, 75, 76, 77, 78, 79, 80, 81, 82, 83, 84, 85, 86, 87, 88, 89] (by decide +kernel) (by decide +kernel)
set_option maxRecDepth 20000 in
theorem gX12_sure_X12_blanks : GoodIn wsX12_sure (wsV RX12 209 RX12 yX12_blanks wsX12_blanks) := goodIn_app (goodIn_of _ (by decide +kernel)) ggX12_sure_X12_blanks
set_option maxRecDepth 20000 in
theorem ggX12_sure_X12_fill : GoodIn wsX12_sure wsX12_fill := goodIn_r _ [21, 22, 23, 1, 24, 7, 25, 17, 26, 27, 28, 29, 30, 31, 5, 32, 33, 34, 35, 36, 37, 38, 39, 40, 41, 42, 43, 44, 45, 46, 47, 48, 49, 50, 51, 52, 53, 54, 55, 56, 57, 58, 59, 60, 61, 62, 63, 64, 65, 66, 67, 68, 69, 70, 71, 72, 73, 74, 75, 76, 77, 78, 79, 80, 81, 82, 83, 84, 85, 86, 87, 88, 89] (by decide +kernel) (by decide +kernel)
set_option maxRecDepth 20000 in
theorem gX12_sure_X12_fill : GoodIn wsX12_sure (wsV RX12 212 RX12 yX12_fill wsX12_fill) := goodIn_app (goodIn_of _ (by decide +kernel)) ggX12_sure_X12_fill
theorem dX12_sure_0 : decode cX12_sure 0 = .ok (.aload_n 0, 1) := by decide +kernel
theorem dX12_sure_1 : decode cX12_sure 1 = .ok (.iload_n 1, 1) := by decide +kernel
theorem dX12_sure_2 : decode cX12_sure 2 = .ok (.invokevirtual 167, 3) := by decide +kernel
theorem dX12_sure_5 : decode cX12_sure 5 = .ok (.ifCond .eq 9, 3) := by decide +kernel
theorem dX12_sure_8 : decode cX12_sure 8 = .ok (.aload_n 0, 1) := by decide +kernel
theorem dX12_sure_9 : decode cX12_sure 9 = .ok (.iconst (-1), 1) := by decide +kernel
theorem dX12_sure_10 : decode cX12_sure 10 = .ok (.invokevirtual 111, 3) := by decide +kernel
theorem dX12_sure_13 : decode cX12_sure 13 = .ok (.ireturn, 1) := by decide +kernel
theorem dX12_sure_14 : decode cX12_sure 14 = .ok (.aload_n 0, 1) := by decide +kernel
theorem dX12_sure_15 : decode cX12_sure 15 = .ok (.invokevirtual 209, 3) := by decide +kernel
theorem dX12_sure_18 : decode cX12_sure 18 = .ok (.istore_n 2, 1) := by decide +kernel
theorem dX12_sure_19 : decode cX12_sure 19 = .ok (.iload_n 2, 1) := by decide +kernel
theorem dX12_sure_20 : decode cX12_sure 20 = .ok (.iconst 1, 1) := by decide +kernel
theorem dX12_sure_21 : decode cX12_sure 21 = .ok (.if_icmp .lt 8, 3) := by decide +kernel
theorem dX12_sure_24 : decode cX12_sure 24 = .ok (.iload_n 2, 1) := by decide +kernel
theorem dX12_sure_25 : decode cX12_sure 25 = .ok (.iconst 4, 1) := by decide +kernel
theorem dX12_sure_26 : decode cX12_sure 26 = .ok (.if_icmp .le 10, 3) := by decide +kernel
theorem dX12_sure_29 : decode cX12_sure 29 = .ok (.aload_n 0, 1) := by decide +kernel
theorem dX12_sure_30 : decode cX12_sure 30 = .ok (.bipush (-3), 2) := by decide +kernel
theorem dX12_sure_32 : decode cX12_sure 32 = .ok (.invokevirtual 111, 3) := by decide +kernel
theorem dX12_sure_35 : decode cX12_sure 35 = .ok (.ireturn, 1) := by decide +kernel
theorem dX12_sure_36 : decode cX12_sure 36 = .ok (.aload_n 0, 1) := by decide +kernel
theorem dX12_sure_37 : decode cX12_sure 37 = .ok (.iload_n 2, 1) := by decide +kernel
theorem dX12_sure_38 : decode cX12_sure 38 = .ok (.invokevirtual 212, 3) := by decide +kernel
theorem dX12_sure_41 : decode cX12_sure 41 = .ok (.aload_n 0, 1) := by decide +kernel
theorem dX12_sure_42 : decode cX12_sure 42 = .ok (.getfield 68, 3) := by decide +kernel
theorem dX12_sure_45 : decode cX12_sure 45 = .ok (.iload_n 1, 1) := by decide +kernel
theorem dX12_sure_46 : decode cX12_sure 46 = .ok (.iaload, 1) := by decide +kernel
theorem dX12_sure_47 : decode cX12_sure 47 = .ok (.ireturn, 1) := by decide +kernel
set_option maxRecDepth 20000 in
theorem ggX12_safe_X12_isNoWord : GoodIn wsX12_safe wsX12_isNoWord := goodIn_r _ [9, 10, 28, 29, 30, 31, 32, 33, 34, 35, 36, 37, 38, 39, 40, 41, 42, 43, 44, 45, 46, 47, 48, 49, 50, 51, 52, 53, 54, 55, 56, 57, 58, 59, 60, 61, 62] (by decide +kernel) (by decide +kernel)
set_option maxRecDepth 20000 in
theorem gX12_safe_X12_isNoWord : GoodIn wsX12_safe (wsV RX12 163 RX12 yX12_isNoWord wsX12_isNoWord) := goodIn_app (goodIn_of _ (by decide +kernel)) ggX12_safe_X12_isNoWord
set_option maxRecDepth 20000 in
theorem ggX12_safe_X12_no : GoodIn wsX12_safe wsX12_no := goodIn_r _ [14, 15, 28, 29, 30, 31, 32, 33, 34, 35, 36, 37, 38, 39, 40, 41, 42, 43, 44, 45, 46, 47, 48, 49, 50, 51, 52, 53, 54, 55, 56, 57, 58, 59, 60, 61, 62] (by decide +kernel) (by decide +kernel)
set_option maxRecDepth 20000 in
theorem gX12_safe_X12_no : GoodIn wsX12_safe (wsV RX12 111 RX12 yX12_no wsX12_no) := goodIn_app (goodIn_of _ (by decide +kernel)) ggX12_safe_X12_no
set_option maxRecDepth 20000 in
theorem ggX12_safe_X12_reads : GoodIn wsX12_safe wsX12_reads := goodIn_r _ [19, 20, 21, 22, 23, 24, 8, 25, 26, 27, 28, 29, 30, 31, 32, 33, 34, 35, 36, 37, 38, 39, 40, 41, 42, 43, 44, 45, 46, 47, 48, 49, 50, 51, 52, 53, 54, 55, 56, 57, 58, 59, 60, 61, 62] (by decide +kernel) (by decide +kernel)
set_option maxRecDepth 20000 in
theorem gX12_safe_X12_reads : GoodIn wsX12_safe (wsV RX12 159 RX12 yX12_reads wsX12_reads) := goodIn_app (goodIn_of _ (by decide +kernel)) ggX12_safe_X12_reads
theorem dX12_safe_0 : decode cX12_safe 0 = .ok (.aload_n 0, 1) := by decide +kernel
theorem dX12_safe_1 : decode cX12_safe 1 = .ok (.iload_n 1, 1) := by decide +kernel
theorem dX12_safe_2 : decode cX12_safe 2 = .ok (.invokevirtual 163, 3) := by decide +kernel
theorem dX12_safe_5 : decode cX12_safe 5 = .ok (.ifCond .eq 9, 3) := by decide +kernel
theorem dX12_safe_8 : decode cX12_safe 8 = .ok (.aload_n 0, 1) := by decide +kernel
theorem dX12_safe_9 : decode cX12_safe 9 = .ok (.iconst (-1), 1) := by decide +kernel
theorem dX12_safe_10 : decode cX12_safe 10 = .ok (.invokevirtual 111, 3) := by decide +kernel
theorem dX12_safe_13 : decode cX12_safe 13 = .ok (.ireturn, 1) := by decide +kernel
theorem dX12_safe_14 : decode cX12_safe 14 = .ok (.aload_n 0, 1) := by decide +kernel
theorem dX12_safe_15 : decode cX12_safe 15 = .ok (.getfield 95, 3) := by decide +kernel
theorem dX12_safe_18 : decode cX12_safe 18 = .ok (.bipush 12, 2) := by decide +kernel
theorem dX12_safe_20 : decode cX12_safe 20 = .ok (.if_icmp .ne 10, 3) := by decide +kernel
theorem dX12_safe_23 : decode cX12_safe 23 = .ok (.aload_n 0, 1) := by decide +kernel
theorem dX12_safe_24 : decode cX12_safe 24 = .ok (.bipush (-6), 2) := by decide +kernel
theorem dX12_safe_26 : decode cX12_safe 26 = .ok (.invokevirtual 111, 3) := by decide +kernel
theorem dX12_safe_29 : decode cX12_safe 29 = .ok (.ireturn, 1) := by decide +kernel
theorem dX12_safe_30 : decode cX12_safe 30 = .ok (.aload_n 0, 1) := by decide +kernel
theorem dX12_safe_31 : decode cX12_safe 31 = .ok (.getfield 95, 3) := by decide +kernel
theorem dX12_safe_34 : decode cX12_safe 34 = .ok (.ifCond .ne 10, 3) := by decide +kernel
theorem dX12_safe_37 : decode cX12_safe 37 = .ok (.aload_n 0, 1) := by decide +kernel
theorem dX12_safe_38 : decode cX12_safe 38 = .ok (.bipush (-3), 2) := by decide +kernel
theorem dX12_safe_40 : decode cX12_safe 40 = .ok (.invokevirtual 111, 3) := by decide +kernel
theorem dX12_safe_43 : decode cX12_safe 43 = .ok (.ireturn, 1) := by decide +kernel
theorem dX12_safe_44 : decode cX12_safe 44 = .ok (.iconst 0, 1) := by decide +kernel
theorem dX12_safe_45 : decode cX12_safe 45 = .ok (.istore_n 2, 1) := by decide +kernel
theorem dX12_safe_46 : decode cX12_safe 46 = .ok (.iconst 0, 1) := by decide +kernel
theorem dX12_safe_47 : decode cX12_safe 47 = .ok (.istore_n 3, 1) := by decide +kernel
theorem dX12_safe_48 : decode cX12_safe 48 = .ok (.iload_n 3, 1) := by decide +kernel
theorem dX12_safe_49 : decode cX12_safe 49 = .ok (.aload_n 0, 1) := by decide +kernel
theorem dX12_safe_50 : decode cX12_safe 50 = .ok (.getfield 95, 3) := by decide +kernel
theorem dX12_safe_53 : decode cX12_safe 53 = .ok (.if_icmp .gt 150, 3) := by decide +kernel
theorem dX12_safe_56 : decode cX12_safe 56 = .ok (.iconst 0, 1) := by decide +kernel
theorem dX12_safe_57 : decode cX12_safe 57 = .ok (.istore 4, 2) := by decide +kernel
theorem dX12_safe_59 : decode cX12_safe 59 = .ok (.iload 4, 2) := by decide +kernel
theorem dX12_safe_61 : decode cX12_safe 61 = .ok (.aload_n 0, 1) := by decide +kernel
theorem dX12_safe_62 : decode cX12_safe 62 = .ok (.getfield 95, 3) := by decide +kernel
theorem dX12_safe_65 : decode cX12_safe 65 = .ok (.if_icmp .gt 51, 3) := by decide +kernel
theorem dX12_safe_68 : decode cX12_safe 68 = .ok (.aload_n 0, 1) := by decide +kernel
theorem dX12_safe_69 : decode cX12_safe 69 = .ok (.getfield 59, 3) := by decide +kernel
theorem dX12_safe_72 : decode cX12_safe 72 = .ok (.iload 4, 2) := by decide +kernel
theorem dX12_safe_74 : decode cX12_safe 74 = .ok (.iload 4, 2) := by decide +kernel
theorem dX12_safe_76 : decode cX12_safe 76 = .ok (.iload_n 3, 1) := by decide +kernel
theorem dX12_safe_77 : decode cX12_safe 77 = .ok (.if_icmp .ge 13, 3) := by decide +kernel
theorem dX12_safe_80 : decode cX12_safe 80 = .ok (.aload_n 0, 1) := by decide +kernel
theorem dX12_safe_81 : decode cX12_safe 81 = .ok (.getfield 34, 3) := by decide +kernel
theorem dX12_safe_84 : decode cX12_safe 84 = .ok (.iload 4, 2) := by decide +kernel
theorem dX12_safe_86 : decode cX12_safe 86 = .ok (.iaload, 1) := by decide +kernel
theorem dX12_safe_87 : decode cX12_safe 87 = .ok (.goto 22, 3) := by decide +kernel
theorem dX12_safe_90 : decode cX12_safe 90 = .ok (.iload 4, 2) := by decide +kernel
theorem dX12_safe_92 : decode cX12_safe 92 = .ok (.iload_n 3, 1) := by decide +kernel
theorem dX12_safe_93 : decode cX12_safe 93 = .ok (.if_icmp .ne 7, 3) := by decide +kernel
theorem dX12_safe_96 : decode cX12_safe 96 = .ok (.iload_n 1, 1) := by decide +kernel
theorem dX12_safe_97 : decode cX12_safe 97 = .ok (.goto 12, 3) := by decide +kernel
theorem dX12_safe_100 : decode cX12_safe 100 = .ok (.aload_n 0, 1) := by decide +kernel
theorem dX12_safe_101 : decode cX12_safe 101 = .ok (.getfield 34, 3) := by decide +kernel
theorem dX12_safe_104 : decode cX12_safe 104 = .ok (.iload 4, 2) := by decide +kernel
theorem dX12_safe_106 : decode cX12_safe 106 = .ok (.iconst 1, 1) := by decide +kernel
theorem dX12_safe_107 : decode cX12_safe 107 = .ok (.isub, 1) := by decide +kernel
theorem dX12_safe_108 : decode cX12_safe 108 = .ok (.iaload, 1) := by decide +kernel
theorem dX12_safe_109 : decode cX12_safe 109 = .ok (.iastore, 1) := by decide +kernel
theorem dX12_safe_110 : decode cX12_safe 110 = .ok (.iinc 4 1, 3) := by decide +kernel
theorem dX12_safe_113 : decode cX12_safe 113 = .ok (.goto (-54), 3) := by decide +kernel
theorem dX12_safe_116 : decode cX12_safe 116 = .ok (.iconst 1, 1) := by decide +kernel
theorem dX12_safe_117 : decode cX12_safe 117 = .ok (.istore 4, 2) := by decide +kernel
theorem dX12_safe_119 : decode cX12_safe 119 = .ok (.iconst 0, 1) := by decide +kernel
theorem dX12_safe_120 : decode cX12_safe 120 = .ok (.istore 5, 2) := by decide +kernel
theorem dX12_safe_122 : decode cX12_safe 122 = .ok (.iload 5, 2) := by decide +kernel
theorem dX12_safe_124 : decode cX12_safe 124 = .ok (.aload_n 0, 1) := by decide +kernel
theorem dX12_safe_125 : decode cX12_safe 125 = .ok (.getfield 92, 3) := by decide +kernel
theorem dX12_safe_128 : decode cX12_safe 128 = .ok (.if_icmp .ge 54, 3) := by decide +kernel
theorem dX12_safe_131 : decode cX12_safe 131 = .ok (.iload 4, 2) := by decide +kernel
theorem dX12_safe_133 : decode cX12_safe 133 = .ok (.ifCond .eq 40, 3) := by decide +kernel
theorem dX12_safe_136 : decode cX12_safe 136 = .ok (.aload_n 0, 1) := by decide +kernel
theorem dX12_safe_137 : decode cX12_safe 137 = .ok (.aload_n 0, 1) := by decide +kernel
theorem dX12_safe_138 : decode cX12_safe 138 = .ok (.getfield 59, 3) := by decide +kernel
theorem dX12_safe_141 : decode cX12_safe 141 = .ok (.aload_n 0, 1) := by decide +kernel
theorem dX12_safe_142 : decode cX12_safe 142 = .ok (.getfield 95, 3) := by decide +kernel
theorem dX12_safe_145 : decode cX12_safe 145 = .ok (.iconst 1, 1) := by decide +kernel
theorem dX12_safe_146 : decode cX12_safe 146 = .ok (.iadd, 1) := by decide +kernel
theorem dX12_safe_147 : decode cX12_safe 147 = .ok (.iload 5, 2) := by decide +kernel
theorem dX12_safe_149 : decode cX12_safe 149 = .ok (.invokevirtual 159, 3) := by decide +kernel
theorem dX12_safe_152 : decode cX12_safe 152 = .ok (.aload_n 0, 1) := by decide +kernel
theorem dX12_safe_153 : decode cX12_safe 153 = .ok (.aload_n 0, 1) := by decide +kernel
theorem dX12_safe_154 : decode cX12_safe 154 = .ok (.getfield 34, 3) := by decide +kernel
theorem dX12_safe_157 : decode cX12_safe 157 = .ok (.aload_n 0, 1) := by decide +kernel
theorem dX12_safe_158 : decode cX12_safe 158 = .ok (.getfield 95, 3) := by decide +kernel
theorem dX12_safe_161 : decode cX12_safe 161 = .ok (.iload 5, 2) := by decide +kernel
theorem dX12_safe_163 : decode cX12_safe 163 = .ok (.invokevirtual 159, 3) := by decide +kernel
theorem dX12_safe_166 : decode cX12_safe 166 = .ok (.if_icmp .ne 7, 3) := by decide +kernel
theorem dX12_safe_169 : decode cX12_safe 169 = .ok (.iconst 1, 1) := by decide +kernel
theorem dX12_safe_170 : decode cX12_safe 170 = .ok (.goto 4, 3) := by decide +kernel
theorem dX12_safe_173 : decode cX12_safe 173 = .ok (.iconst 0, 1) := by decide +kernel
theorem dX12_safe_174 : decode cX12_safe 174 = .ok (.istore 4, 2) := by decide +kernel
theorem dX12_safe_176 : decode cX12_safe 176 = .ok (.iinc 5 1, 3) := by decide +kernel
theorem dX12_safe_179 : decode cX12_safe 179 = .ok (.goto (-57), 3) := by decide +kernel
theorem dX12_safe_182 : decode cX12_safe 182 = .ok (.iload_n 2, 1) := by decide +kernel
theorem dX12_safe_183 : decode cX12_safe 183 = .ok (.iload 4, 2) := by decide +kernel
theorem dX12_safe_185 : decode cX12_safe 185 = .ok (.ifCond .eq 9, 3) := by decide +kernel
theorem dX12_safe_188 : decode cX12_safe 188 = .ok (.iconst 1, 1) := by decide +kernel
theorem dX12_safe_189 : decode cX12_safe 189 = .ok (.iload_n 3, 1) := by decide +kernel
theorem dX12_safe_190 : decode cX12_safe 190 = .ok (.ishl, 1) := by decide +kernel
theorem dX12_safe_191 : decode cX12_safe 191 = .ok (.goto 4, 3) := by decide +kernel
theorem dX12_safe_194 : decode cX12_safe 194 = .ok (.iconst 0, 1) := by decide +kernel
theorem dX12_safe_195 : decode cX12_safe 195 = .ok (.ior, 1) := by decide +kernel
theorem dX12_safe_196 : decode cX12_safe 196 = .ok (.istore_n 2, 1) := by decide +kernel
theorem dX12_safe_197 : decode cX12_safe 197 = .ok (.iinc 3 1, 3) := by decide +kernel
theorem dX12_safe_200 : decode cX12_safe 200 = .ok (.goto (-152), 3) := by decide +kernel
theorem dX12_safe_203 : decode cX12_safe 203 = .ok (.iload_n 2, 1) := by decide +kernel
theorem dX12_safe_204 : decode cX12_safe 204 = .ok (.ireturn, 1) := by decide +kernel
set_option maxRecDepth 20000 in
theorem ggX12_pair_X12_isNoWord : GoodIn wsX12_pair wsX12_isNoWord := goodIn_r _ [8, 9, 15, 16, 17, 18, 19, 20, 21, 22, 23, 24, 25, 26, 27, 28, 29, 30, 31, 32, 33, 34, 35, 36, 37, 38, 39, 40, 41, 42, 43, 44, 45, 46, 47, 48, 49] (by decide +kernel) (by decide +kernel)
set_option maxRecDepth 20000 in
theorem gX12_pair_X12_isNoWord : GoodIn wsX12_pair (wsV RX12 163 RX12 yX12_isNoWord wsX12_isNoWord) := goodIn_app (goodIn_of _ (by decide +kernel)) ggX12_pair_X12_isNoWord
set_option maxRecDepth 20000 in
theorem ggX12_pair_X12_no : GoodIn wsX12_pair wsX12_no := goodIn_r _ [13, 14, 15, 16, 17, 18, 19, 20, 21, 22, 23, 24, 25, 26, 27, 28, 29, 30, 31, 32, 33, 34, 35, 36, 37, 38, 39, 40, 41, 42, 43, 44, 45, 46, 47, 48, 49] (by decide +kernel) (by decide +kernel)
set_option maxRecDepth 20000 in
theorem gX12_pair_X12_no : GoodIn wsX12_pair (wsV RX12 111 RX12 yX12_no wsX12_no) := goodIn_app (goodIn_of _ (by decide +kernel)) ggX12_pair_X12_no
theorem dX12_pair_0 : decode cX12_pair 0 = .ok (.aload_n 0, 1) := by decide +kernel
theorem dX12_pair_1 : decode cX12_pair 1 = .ok (.iload_n 1, 1) := by decide +kernel
theorem dX12_pair_2 : decode cX12_pair 2 = .ok (.invokevirtual 163, 3) := by decide +kernel
theorem dX12_pair_5 : decode cX12_pair 5 = .ok (.ifCond .ne 11, 3) := by decide +kernel
theorem dX12_pair_8 : decode cX12_pair 8 = .ok (.aload_n 0, 1) := by decide +kernel
theorem dX12_pair_9 : decode cX12_pair 9 = .ok (.iload_n 2, 1) := by decide +kernel
theorem dX12_pair_10 : decode cX12_pair 10 = .ok (.invokevirtual 163, 3) := by decide +kernel
theorem dX12_pair_13 : decode cX12_pair 13 = .ok (.ifCond .eq 9, 3) := by decide +kernel
theorem dX12_pair_16 : decode cX12_pair 16 = .ok (.aload_n 0, 1) := by decide +kernel
theorem dX12_pair_17 : decode cX12_pair 17 = .ok (.iconst (-1), 1) := by decide +kernel
theorem dX12_pair_18 : decode cX12_pair 18 = .ok (.invokevirtual 111, 3) := by decide +kernel
theorem dX12_pair_21 : decode cX12_pair 21 = .ok (.ireturn, 1) := by decide +kernel
theorem dX12_pair_22 : decode cX12_pair 22 = .ok (.iconst 0, 1) := by decide +kernel
theorem dX12_pair_23 : decode cX12_pair 23 = .ok (.istore_n 3, 1) := by decide +kernel
theorem dX12_pair_24 : decode cX12_pair 24 = .ok (.iload_n 3, 1) := by decide +kernel
theorem dX12_pair_25 : decode cX12_pair 25 = .ok (.aload_n 0, 1) := by decide +kernel
theorem dX12_pair_26 : decode cX12_pair 26 = .ok (.getfield 98, 3) := by decide +kernel
theorem dX12_pair_29 : decode cX12_pair 29 = .ok (.if_icmp .ge 36, 3) := by decide +kernel
theorem dX12_pair_32 : decode cX12_pair 32 = .ok (.aload_n 0, 1) := by decide +kernel
theorem dX12_pair_33 : decode cX12_pair 33 = .ok (.getfield 37, 3) := by decide +kernel
theorem dX12_pair_36 : decode cX12_pair 36 = .ok (.iload_n 3, 1) := by decide +kernel
theorem dX12_pair_37 : decode cX12_pair 37 = .ok (.iaload, 1) := by decide +kernel
theorem dX12_pair_38 : decode cX12_pair 38 = .ok (.iload_n 1, 1) := by decide +kernel
theorem dX12_pair_39 : decode cX12_pair 39 = .ok (.if_icmp .ne 20, 3) := by decide +kernel
theorem dX12_pair_42 : decode cX12_pair 42 = .ok (.aload_n 0, 1) := by decide +kernel
theorem dX12_pair_43 : decode cX12_pair 43 = .ok (.getfield 40, 3) := by decide +kernel
theorem dX12_pair_46 : decode cX12_pair 46 = .ok (.iload_n 3, 1) := by decide +kernel
theorem dX12_pair_47 : decode cX12_pair 47 = .ok (.iaload, 1) := by decide +kernel
theorem dX12_pair_48 : decode cX12_pair 48 = .ok (.iload_n 2, 1) := by decide +kernel
theorem dX12_pair_49 : decode cX12_pair 49 = .ok (.if_icmp .ne 10, 3) := by decide +kernel
theorem dX12_pair_52 : decode cX12_pair 52 = .ok (.aload_n 0, 1) := by decide +kernel
theorem dX12_pair_53 : decode cX12_pair 53 = .ok (.bipush (-3), 2) := by decide +kernel
theorem dX12_pair_55 : decode cX12_pair 55 = .ok (.invokevirtual 111, 3) := by decide +kernel
theorem dX12_pair_58 : decode cX12_pair 58 = .ok (.ireturn, 1) := by decide +kernel
theorem dX12_pair_59 : decode cX12_pair 59 = .ok (.iinc 3 1, 3) := by decide +kernel
theorem dX12_pair_62 : decode cX12_pair 62 = .ok (.goto (-38), 3) := by decide +kernel
theorem dX12_pair_65 : decode cX12_pair 65 = .ok (.aload_n 0, 1) := by decide +kernel
theorem dX12_pair_66 : decode cX12_pair 66 = .ok (.getfield 98, 3) := by decide +kernel
theorem dX12_pair_69 : decode cX12_pair 69 = .ok (.bipush 12, 2) := by decide +kernel
theorem dX12_pair_71 : decode cX12_pair 71 = .ok (.if_icmp .ne 10, 3) := by decide +kernel
theorem dX12_pair_74 : decode cX12_pair 74 = .ok (.aload_n 0, 1) := by decide +kernel
theorem dX12_pair_75 : decode cX12_pair 75 = .ok (.bipush (-6), 2) := by decide +kernel
theorem dX12_pair_77 : decode cX12_pair 77 = .ok (.invokevirtual 111, 3) := by decide +kernel
theorem dX12_pair_80 : decode cX12_pair 80 = .ok (.ireturn, 1) := by decide +kernel
theorem dX12_pair_81 : decode cX12_pair 81 = .ok (.aload_n 0, 1) := by decide +kernel
theorem dX12_pair_82 : decode cX12_pair 82 = .ok (.getfield 37, 3) := by decide +kernel
theorem dX12_pair_85 : decode cX12_pair 85 = .ok (.aload_n 0, 1) := by decide +kernel
theorem dX12_pair_86 : decode cX12_pair 86 = .ok (.getfield 98, 3) := by decide +kernel
theorem dX12_pair_89 : decode cX12_pair 89 = .ok (.iload_n 1, 1) := by decide +kernel
theorem dX12_pair_90 : decode cX12_pair 90 = .ok (.iastore, 1) := by decide +kernel
theorem dX12_pair_91 : decode cX12_pair 91 = .ok (.aload_n 0, 1) := by decide +kernel
theorem dX12_pair_92 : decode cX12_pair 92 = .ok (.getfield 40, 3) := by decide +kernel
theorem dX12_pair_95 : decode cX12_pair 95 = .ok (.aload_n 0, 1) := by decide +kernel
theorem dX12_pair_96 : decode cX12_pair 96 = .ok (.getfield 98, 3) := by decide +kernel
theorem dX12_pair_99 : decode cX12_pair 99 = .ok (.iload_n 2, 1) := by decide +kernel
theorem dX12_pair_100 : decode cX12_pair 100 = .ok (.iastore, 1) := by decide +kernel
theorem dX12_pair_101 : decode cX12_pair 101 = .ok (.aload_n 0, 1) := by decide +kernel
theorem dX12_pair_102 : decode cX12_pair 102 = .ok (.dup, 1) := by decide +kernel
theorem dX12_pair_103 : decode cX12_pair 103 = .ok (.getfield 98, 3) := by decide +kernel
theorem dX12_pair_106 : decode cX12_pair 106 = .ok (.iconst 1, 1) := by decide +kernel
theorem dX12_pair_107 : decode cX12_pair 107 = .ok (.iadd, 1) := by decide +kernel
theorem dX12_pair_108 : decode cX12_pair 108 = .ok (.putfield 98, 3) := by decide +kernel
theorem dX12_pair_111 : decode cX12_pair 111 = .ok (.aload_n 0, 1) := by decide +kernel
theorem dX12_pair_112 : decode cX12_pair 112 = .ok (.getfield 98, 3) := by decide +kernel
theorem dX12_pair_115 : decode cX12_pair 115 = .ok (.ireturn, 1) := by decide +kernel
set_option maxRecDepth 20000 in
theorem ggX12_isRound_X12_isRound : GoodIn wsX12_isRound wsX12_isRound := goodIn_r _ [0, 1, 2, 3, 4, 5, 6, 7, 8, 9, 10, 11, 12, 13, 14, 15, 16, 17, 18, 19, 20, 21, 22, 23, 24, 25, 26, 27, 28, 29, 30, 31, 32, 33, 34, 35, 36, 37, 38, 39, 40, 41, 42, 43, 44] (by decide +kernel) (by decide +kernel)
set_option maxRecDepth 20000 in
theorem gX12_isRound_X12_isRound : GoodIn wsX12_isRound (wsV RX12 215 RX12 yX12_isRound wsX12_isRound) := goodIn_app (goodIn_of _ (by decide +kernel)) ggX12_isRound_X12_isRound
theorem dX12_isRound_0 : decode cX12_isRound 0 = .ok (.iload_n 1, 1) := by decide +kernel
theorem dX12_isRound_1 : decode cX12_isRound 1 = .ok (.aload_n 0, 1) := by decide +kernel
theorem dX12_isRound_2 : decode cX12_isRound 2 = .ok (.getfield 98, 3) := by decide +kernel
theorem dX12_isRound_5 : decode cX12_isRound 5 = .ok (.if_icmp .ne 24, 3) := by decide +kernel
theorem dX12_isRound_8 : decode cX12_isRound 8 = .ok (.aload_n 0, 1) := by decide +kernel
theorem dX12_isRound_9 : decode cX12_isRound 9 = .ok (.getfield 74, 3) := by decide +kernel
theorem dX12_isRound_12 : decode cX12_isRound 12 = .ok (.iload_n 1, 1) := by decide +kernel
theorem dX12_isRound_13 : decode cX12_isRound 13 = .ok (.iaload, 1) := by decide +kernel
theorem dX12_isRound_14 : decode cX12_isRound 14 = .ok (.aload_n 0, 1) := by decide +kernel
theorem dX12_isRound_15 : decode cX12_isRound 15 = .ok (.getfield 74, 3) := by decide +kernel
theorem dX12_isRound_18 : decode cX12_isRound 18 = .ok (.iconst 0, 1) := by decide +kernel
theorem dX12_isRound_19 : decode cX12_isRound 19 = .ok (.iaload, 1) := by decide +kernel
theorem dX12_isRound_20 : decode cX12_isRound 20 = .ok (.if_icmp .ne 7, 3) := by decide +kernel
theorem dX12_isRound_23 : decode cX12_isRound 23 = .ok (.iconst 1, 1) := by decide +kernel
theorem dX12_isRound_24 : decode cX12_isRound 24 = .ok (.goto 4, 3) := by decide +kernel
theorem dX12_isRound_27 : decode cX12_isRound 27 = .ok (.iconst 0, 1) := by decide +kernel
theorem dX12_isRound_28 : decode cX12_isRound 28 = .ok (.ireturn, 1) := by decide +kernel
theorem dX12_isRound_29 : decode cX12_isRound 29 = .ok (.iconst 0, 1) := by decide +kernel
theorem dX12_isRound_30 : decode cX12_isRound 30 = .ok (.istore_n 3, 1) := by decide +kernel
theorem dX12_isRound_31 : decode cX12_isRound 31 = .ok (.iload_n 3, 1) := by decide +kernel
theorem dX12_isRound_32 : decode cX12_isRound 32 = .ok (.aload_n 0, 1) := by decide +kernel
theorem dX12_isRound_33 : decode cX12_isRound 33 = .ok (.getfield 85, 3) := by decide +kernel
theorem dX12_isRound_36 : decode cX12_isRound 36 = .ok (.if_icmp .ge 90, 3) := by decide +kernel
theorem dX12_isRound_39 : decode cX12_isRound 39 = .ok (.iconst 0, 1) := by decide +kernel
theorem dX12_isRound_40 : decode cX12_isRound 40 = .ok (.istore 4, 2) := by decide +kernel
theorem dX12_isRound_42 : decode cX12_isRound 42 = .ok (.iload 4, 2) := by decide +kernel
theorem dX12_isRound_44 : decode cX12_isRound 44 = .ok (.aload_n 0, 1) := by decide +kernel
theorem dX12_isRound_45 : decode cX12_isRound 45 = .ok (.getfield 98, 3) := by decide +kernel
theorem dX12_isRound_48 : decode cX12_isRound 48 = .ok (.if_icmp .ge 72, 3) := by decide +kernel
theorem dX12_isRound_51 : decode cX12_isRound 51 = .ok (.iload_n 2, 1) := by decide +kernel
theorem dX12_isRound_52 : decode cX12_isRound 52 = .ok (.iload 4, 2) := by decide +kernel
theorem dX12_isRound_54 : decode cX12_isRound 54 = .ok (.ishr, 1) := by decide +kernel
theorem dX12_isRound_55 : decode cX12_isRound 55 = .ok (.iconst 1, 1) := by decide +kernel
theorem dX12_isRound_56 : decode cX12_isRound 56 = .ok (.iand, 1) := by decide +kernel
theorem dX12_isRound_57 : decode cX12_isRound 57 = .ok (.ifCond .ne 57, 3) := by decide +kernel
theorem dX12_isRound_60 : decode cX12_isRound 60 = .ok (.aload_n 0, 1) := by decide +kernel
theorem dX12_isRound_61 : decode cX12_isRound 61 = .ok (.getfield 37, 3) := by decide +kernel
theorem dX12_isRound_64 : decode cX12_isRound 64 = .ok (.iload 4, 2) := by decide +kernel
theorem dX12_isRound_66 : decode cX12_isRound 66 = .ok (.iaload, 1) := by decide +kernel
theorem dX12_isRound_67 : decode cX12_isRound 67 = .ok (.aload_n 0, 1) := by decide +kernel
theorem dX12_isRound_68 : decode cX12_isRound 68 = .ok (.getfield 74, 3) := by decide +kernel
theorem dX12_isRound_71 : decode cX12_isRound 71 = .ok (.iload_n 1, 1) := by decide +kernel
theorem dX12_isRound_72 : decode cX12_isRound 72 = .ok (.iaload, 1) := by decide +kernel
theorem dX12_isRound_73 : decode cX12_isRound 73 = .ok (.if_icmp .ne 41, 3) := by decide +kernel
theorem dX12_isRound_76 : decode cX12_isRound 76 = .ok (.aload_n 0, 1) := by decide +kernel
theorem dX12_isRound_77 : decode cX12_isRound 77 = .ok (.getfield 40, 3) := by decide +kernel
theorem dX12_isRound_80 : decode cX12_isRound 80 = .ok (.iload 4, 2) := by decide +kernel
theorem dX12_isRound_82 : decode cX12_isRound 82 = .ok (.iaload, 1) := by decide +kernel
theorem dX12_isRound_83 : decode cX12_isRound 83 = .ok (.iload_n 3, 1) := by decide +kernel
theorem dX12_isRound_84 : decode cX12_isRound 84 = .ok (.if_icmp .ne 30, 3) := by decide +kernel
theorem dX12_isRound_87 : decode cX12_isRound 87 = .ok (.aload_n 0, 1) := by decide +kernel
theorem dX12_isRound_88 : decode cX12_isRound 88 = .ok (.getfield 74, 3) := by decide +kernel
theorem dX12_isRound_91 : decode cX12_isRound 91 = .ok (.iload_n 1, 1) := by decide +kernel
theorem dX12_isRound_92 : decode cX12_isRound 92 = .ok (.iconst 1, 1) := by decide +kernel
theorem dX12_isRound_93 : decode cX12_isRound 93 = .ok (.iadd, 1) := by decide +kernel
theorem dX12_isRound_94 : decode cX12_isRound 94 = .ok (.iload_n 3, 1) := by decide +kernel
theorem dX12_isRound_95 : decode cX12_isRound 95 = .ok (.iastore, 1) := by decide +kernel
theorem dX12_isRound_96 : decode cX12_isRound 96 = .ok (.aload_n 0, 1) := by decide +kernel
theorem dX12_isRound_97 : decode cX12_isRound 97 = .ok (.iload_n 1, 1) := by decide +kernel
theorem dX12_isRound_98 : decode cX12_isRound 98 = .ok (.iconst 1, 1) := by decide +kernel
theorem dX12_isRound_99 : decode cX12_isRound 99 = .ok (.iadd, 1) := by decide +kernel
theorem dX12_isRound_100 : decode cX12_isRound 100 = .ok (.iload_n 2, 1) := by decide +kernel
theorem dX12_isRound_101 : decode cX12_isRound 101 = .ok (.iconst 1, 1) := by decide +kernel
theorem dX12_isRound_102 : decode cX12_isRound 102 = .ok (.iload 4, 2) := by decide +kernel
theorem dX12_isRound_104 : decode cX12_isRound 104 = .ok (.ishl, 1) := by decide +kernel
theorem dX12_isRound_105 : decode cX12_isRound 105 = .ok (.ior, 1) := by decide +kernel
theorem dX12_isRound_106 : decode cX12_isRound 106 = .ok (.invokevirtual 215, 3) := by decide +kernel
theorem dX12_isRound_109 : decode cX12_isRound 109 = .ok (.ifCond .eq 5, 3) := by decide +kernel
theorem dX12_isRound_112 : decode cX12_isRound 112 = .ok (.iconst 1, 1) := by decide +kernel
theorem dX12_isRound_113 : decode cX12_isRound 113 = .ok (.ireturn, 1) := by decide +kernel
theorem dX12_isRound_114 : decode cX12_isRound 114 = .ok (.iinc 4 1, 3) := by decide +kernel
theorem dX12_isRound_117 : decode cX12_isRound 117 = .ok (.goto (-75), 3) := by decide +kernel
theorem dX12_isRound_120 : decode cX12_isRound 120 = .ok (.iinc 3 1, 3) := by decide +kernel
theorem dX12_isRound_123 : decode cX12_isRound 123 = .ok (.goto (-92), 3) := by decide +kernel
theorem dX12_isRound_126 : decode cX12_isRound 126 = .ok (.iconst 0, 1) := by decide +kernel
theorem dX12_isRound_127 : decode cX12_isRound 127 = .ok (.ireturn, 1) := by decide +kernel
set_option maxRecDepth 20000 in
theorem ggX12_every_X12_no : GoodIn wsX12_every wsX12_no := goodIn_r _ [9, 10, 16, 17, 18, 19, 20, 21, 22, 23, 24, 25, 26, 27, 28, 29, 30, 31, 32, 33, 34, 35, 36, 37, 38, 39, 40, 41, 42, 43, 44, 45, 46, 47, 48, 49, 50] (by decide +kernel) (by decide +kernel)
set_option maxRecDepth 20000 in
theorem gX12_every_X12_no : GoodIn wsX12_every (wsV RX12 111 RX12 yX12_no wsX12_no) := goodIn_app (goodIn_of _ (by decide +kernel)) ggX12_every_X12_no
set_option maxRecDepth 20000 in
theorem ggX12_every_X12_isRound : GoodIn wsX12_every wsX12_isRound := goodIn_r _ [14, 1, 2, 15, 3, 4, 11, 12, 13, 8, 16, 17, 18, 19, 20, 21, 22, 23, 24, 25, 26, 27, 28, 29, 30, 31, 32, 33, 34, 35, 36, 37, 38, 39, 40, 41, 42, 43, 44, 45, 46, 47, 48, 49, 50] (by decide +kernel) (by decide +kernel)
set_option maxRecDepth 20000 in
theorem gX12_every_X12_isRound : GoodIn wsX12_every (wsV RX12 215 RX12 yX12_isRound wsX12_isRound) := goodIn_app (goodIn_of _ (by decide +kernel)) ggX12_every_X12_isRound
theorem dX12_every_0 : decode cX12_every 0 = .ok (.iload_n 1, 1) := by decide +kernel
theorem dX12_every_1 : decode cX12_every 1 = .ok (.iconst (-1), 1) := by decide +kernel
theorem dX12_every_2 : decode cX12_every 2 = .ok (.if_icmp .ge 10, 3) := by decide +kernel
theorem dX12_every_5 : decode cX12_every 5 = .ok (.aload_n 0, 1) := by decide +kernel
theorem dX12_every_6 : decode cX12_every 6 = .ok (.bipush (-4), 2) := by decide +kernel
theorem dX12_every_8 : decode cX12_every 8 = .ok (.invokevirtual 111, 3) := by decide +kernel
theorem dX12_every_11 : decode cX12_every 11 = .ok (.ireturn, 1) := by decide +kernel
theorem dX12_every_12 : decode cX12_every 12 = .ok (.aload_n 0, 1) := by decide +kernel
theorem dX12_every_13 : decode cX12_every 13 = .ok (.getfield 98, 3) := by decide +kernel
theorem dX12_every_16 : decode cX12_every 16 = .ok (.ifCond .ne 10, 3) := by decide +kernel
theorem dX12_every_19 : decode cX12_every 19 = .ok (.aload_n 0, 1) := by decide +kernel
theorem dX12_every_20 : decode cX12_every 20 = .ok (.bipush (-3), 2) := by decide +kernel
theorem dX12_every_22 : decode cX12_every 22 = .ok (.invokevirtual 111, 3) := by decide +kernel
theorem dX12_every_25 : decode cX12_every 25 = .ok (.ireturn, 1) := by decide +kernel
theorem dX12_every_26 : decode cX12_every 26 = .ok (.aload_n 0, 1) := by decide +kernel
theorem dX12_every_27 : decode cX12_every 27 = .ok (.getfield 74, 3) := by decide +kernel
theorem dX12_every_30 : decode cX12_every 30 = .ok (.iconst 0, 1) := by decide +kernel
theorem dX12_every_31 : decode cX12_every 31 = .ok (.aload_n 0, 1) := by decide +kernel
theorem dX12_every_32 : decode cX12_every 32 = .ok (.getfield 37, 3) := by decide +kernel
theorem dX12_every_35 : decode cX12_every 35 = .ok (.iconst 0, 1) := by decide +kernel
theorem dX12_every_36 : decode cX12_every 36 = .ok (.iaload, 1) := by decide +kernel
theorem dX12_every_37 : decode cX12_every 37 = .ok (.iastore, 1) := by decide +kernel
theorem dX12_every_38 : decode cX12_every 38 = .ok (.aload_n 0, 1) := by decide +kernel
theorem dX12_every_39 : decode cX12_every 39 = .ok (.getfield 74, 3) := by decide +kernel
theorem dX12_every_42 : decode cX12_every 42 = .ok (.iconst 1, 1) := by decide +kernel
theorem dX12_every_43 : decode cX12_every 43 = .ok (.aload_n 0, 1) := by decide +kernel
theorem dX12_every_44 : decode cX12_every 44 = .ok (.getfield 40, 3) := by decide +kernel
theorem dX12_every_47 : decode cX12_every 47 = .ok (.iconst 0, 1) := by decide +kernel
theorem dX12_every_48 : decode cX12_every 48 = .ok (.iaload, 1) := by decide +kernel
theorem dX12_every_49 : decode cX12_every 49 = .ok (.iastore, 1) := by decide +kernel
theorem dX12_every_50 : decode cX12_every 50 = .ok (.aload_n 0, 1) := by decide +kernel
theorem dX12_every_51 : decode cX12_every 51 = .ok (.iconst 1, 1) := by decide +kernel
theorem dX12_every_52 : decode cX12_every 52 = .ok (.iconst 1, 1) := by decide +kernel
theorem dX12_every_53 : decode cX12_every 53 = .ok (.invokevirtual 215, 3) := by decide +kernel
theorem dX12_every_56 : decode cX12_every 56 = .ok (.istore_n 2, 1) := by decide +kernel
theorem dX12_every_57 : decode cX12_every 57 = .ok (.iload_n 1, 1) := by decide +kernel
theorem dX12_every_58 : decode cX12_every 58 = .ok (.ifCond .ge 16, 3) := by decide +kernel
theorem dX12_every_61 : decode cX12_every 61 = .ok (.iload_n 2, 1) := by decide +kernel
theorem dX12_every_62 : decode cX12_every 62 = .ok (.ifCond .eq 10, 3) := by decide +kernel
theorem dX12_every_65 : decode cX12_every 65 = .ok (.aload_n 0, 1) := by decide +kernel
theorem dX12_every_66 : decode cX12_every 66 = .ok (.getfield 98, 3) := by decide +kernel
theorem dX12_every_69 : decode cX12_every 69 = .ok (.goto 4, 3) := by decide +kernel
theorem dX12_every_72 : decode cX12_every 72 = .ok (.iconst 0, 1) := by decide +kernel
theorem dX12_every_73 : decode cX12_every 73 = .ok (.ireturn, 1) := by decide +kernel
theorem dX12_every_74 : decode cX12_every 74 = .ok (.iload_n 2, 1) := by decide +kernel
theorem dX12_every_75 : decode cX12_every 75 = .ok (.ifCond .eq 20, 3) := by decide +kernel
theorem dX12_every_78 : decode cX12_every 78 = .ok (.iload_n 1, 1) := by decide +kernel
theorem dX12_every_79 : decode cX12_every 79 = .ok (.aload_n 0, 1) := by decide +kernel
theorem dX12_every_80 : decode cX12_every 80 = .ok (.getfield 98, 3) := by decide +kernel
theorem dX12_every_83 : decode cX12_every 83 = .ok (.if_icmp .ge 12, 3) := by decide +kernel
theorem dX12_every_86 : decode cX12_every 86 = .ok (.aload_n 0, 1) := by decide +kernel
theorem dX12_every_87 : decode cX12_every 87 = .ok (.getfield 74, 3) := by decide +kernel
theorem dX12_every_90 : decode cX12_every 90 = .ok (.iload_n 1, 1) := by decide +kernel
theorem dX12_every_91 : decode cX12_every 91 = .ok (.iaload, 1) := by decide +kernel
theorem dX12_every_92 : decode cX12_every 92 = .ok (.goto 5, 3) := by decide +kernel
theorem dX12_every_95 : decode cX12_every 95 = .ok (.bipush (-9), 2) := by decide +kernel
theorem dX12_every_97 : decode cX12_every 97 = .ok (.ireturn, 1) := by decide +kernel
theorem dX12_stones_0 : decode cX12_stones 0 = .ok (.iconst 0, 1) := by decide +kernel
theorem dX12_stones_1 : decode cX12_stones 1 = .ok (.istore_n 1, 1) := by decide +kernel
theorem dX12_stones_2 : decode cX12_stones 2 = .ok (.iconst 0, 1) := by decide +kernel
theorem dX12_stones_3 : decode cX12_stones 3 = .ok (.istore_n 2, 1) := by decide +kernel
theorem dX12_stones_4 : decode cX12_stones 4 = .ok (.iload_n 2, 1) := by decide +kernel
theorem dX12_stones_5 : decode cX12_stones 5 = .ok (.aload_n 0, 1) := by decide +kernel
theorem dX12_stones_6 : decode cX12_stones 6 = .ok (.getfield 85, 3) := by decide +kernel
theorem dX12_stones_9 : decode cX12_stones 9 = .ok (.if_icmp .ge 68, 3) := by decide +kernel
theorem dX12_stones_12 : decode cX12_stones 12 = .ok (.iconst 0, 1) := by decide +kernel
theorem dX12_stones_13 : decode cX12_stones 13 = .ok (.istore_n 3, 1) := by decide +kernel
theorem dX12_stones_14 : decode cX12_stones 14 = .ok (.iconst 0, 1) := by decide +kernel
theorem dX12_stones_15 : decode cX12_stones 15 = .ok (.istore 4, 2) := by decide +kernel
theorem dX12_stones_17 : decode cX12_stones 17 = .ok (.iload 4, 2) := by decide +kernel
theorem dX12_stones_19 : decode cX12_stones 19 = .ok (.aload_n 0, 1) := by decide +kernel
theorem dX12_stones_20 : decode cX12_stones 20 = .ok (.getfield 95, 3) := by decide +kernel
theorem dX12_stones_23 : decode cX12_stones 23 = .ok (.if_icmp .ge 28, 3) := by decide +kernel
theorem dX12_stones_26 : decode cX12_stones 26 = .ok (.iload_n 3, 1) := by decide +kernel
theorem dX12_stones_27 : decode cX12_stones 27 = .ok (.aload_n 0, 1) := by decide +kernel
theorem dX12_stones_28 : decode cX12_stones 28 = .ok (.getfield 34, 3) := by decide +kernel
theorem dX12_stones_31 : decode cX12_stones 31 = .ok (.iload 4, 2) := by decide +kernel
theorem dX12_stones_33 : decode cX12_stones 33 = .ok (.iaload, 1) := by decide +kernel
theorem dX12_stones_34 : decode cX12_stones 34 = .ok (.iload_n 2, 1) := by decide +kernel
theorem dX12_stones_35 : decode cX12_stones 35 = .ok (.if_icmp .ne 7, 3) := by decide +kernel
theorem dX12_stones_38 : decode cX12_stones 38 = .ok (.iconst 1, 1) := by decide +kernel
theorem dX12_stones_39 : decode cX12_stones 39 = .ok (.goto 4, 3) := by decide +kernel
theorem dX12_stones_42 : decode cX12_stones 42 = .ok (.iconst 0, 1) := by decide +kernel
theorem dX12_stones_43 : decode cX12_stones 43 = .ok (.iadd, 1) := by decide +kernel
theorem dX12_stones_44 : decode cX12_stones 44 = .ok (.istore_n 3, 1) := by decide +kernel
theorem dX12_stones_45 : decode cX12_stones 45 = .ok (.iinc 4 1, 3) := by decide +kernel
theorem dX12_stones_48 : decode cX12_stones 48 = .ok (.goto (-31), 3) := by decide +kernel
theorem dX12_stones_51 : decode cX12_stones 51 = .ok (.iload_n 1, 1) := by decide +kernel
theorem dX12_stones_52 : decode cX12_stones 52 = .ok (.iload_n 3, 1) := by decide +kernel
theorem dX12_stones_53 : decode cX12_stones 53 = .ok (.aload_n 0, 1) := by decide +kernel
theorem dX12_stones_54 : decode cX12_stones 54 = .ok (.getfield 22, 3) := by decide +kernel
theorem dX12_stones_57 : decode cX12_stones 57 = .ok (.iload_n 2, 1) := by decide +kernel
theorem dX12_stones_58 : decode cX12_stones 58 = .ok (.iaload, 1) := by decide +kernel
theorem dX12_stones_59 : decode cX12_stones 59 = .ok (.if_icmp .le 9, 3) := by decide +kernel
theorem dX12_stones_62 : decode cX12_stones 62 = .ok (.iconst 1, 1) := by decide +kernel
theorem dX12_stones_63 : decode cX12_stones 63 = .ok (.iload_n 2, 1) := by decide +kernel
theorem dX12_stones_64 : decode cX12_stones 64 = .ok (.ishl, 1) := by decide +kernel
theorem dX12_stones_65 : decode cX12_stones 65 = .ok (.goto 4, 3) := by decide +kernel
theorem dX12_stones_68 : decode cX12_stones 68 = .ok (.iconst 0, 1) := by decide +kernel
theorem dX12_stones_69 : decode cX12_stones 69 = .ok (.ior, 1) := by decide +kernel
theorem dX12_stones_70 : decode cX12_stones 70 = .ok (.istore_n 1, 1) := by decide +kernel
theorem dX12_stones_71 : decode cX12_stones 71 = .ok (.iinc 2 1, 3) := by decide +kernel
theorem dX12_stones_74 : decode cX12_stones 74 = .ok (.goto (-70), 3) := by decide +kernel
theorem dX12_stones_77 : decode cX12_stones 77 = .ok (.iload_n 1, 1) := by decide +kernel
theorem dX12_stones_78 : decode cX12_stones 78 = .ok (.ireturn, 1) := by decide +kernel
set_option maxRecDepth 20000 in
theorem ggX12_made_X12_no : GoodIn wsX12_made wsX12_no := goodIn_r _ [8, 9, 18, 19, 20, 21, 22, 23, 24, 25, 26, 27, 28, 29, 30, 31, 32, 33, 34, 35, 36, 37, 38, 39, 40, 41, 42, 43, 44, 45, 46, 47, 48, 49, 50, 51, 52] (by decide +kernel) (by decide +kernel)
set_option maxRecDepth 20000 in
theorem gX12_made_X12_no : GoodIn wsX12_made (wsV RX12 111 RX12 yX12_no wsX12_no) := goodIn_app (goodIn_of _ (by decide +kernel)) ggX12_made_X12_no
set_option maxRecDepth 20000 in
theorem ggX12_made_X12_begin : GoodIn wsX12_made wsX12_begin := goodIn_r _ [13, 2, 18, 19, 20, 21, 22, 23, 24, 25, 26, 27, 28, 29, 30, 31, 32, 33, 34, 35, 36, 37, 38, 39, 40, 41, 42, 43, 44, 45, 46, 47, 48, 49, 50, 51, 52] (by decide +kernel) (by decide +kernel)
set_option maxRecDepth 20000 in
theorem gX12_made_X12_begin : GoodIn wsX12_made (wsV RX12 179 RX12 yX12_begin wsX12_begin) := goodIn_app (goodIn_of _ (by decide +kernel)) ggX12_made_X12_begin
set_option maxRecDepth 20000 in
theorem ggX12_made_X12_isNext : GoodIn wsX12_made wsX12_isNext := goodIn_r _ [17, 2, 1, 18, 19, 20, 21, 22, 23, 24, 25, 26, 27, 28, 29, 30, 31, 32, 33, 34, 35, 36, 37, 38, 39, 40, 41, 42, 43, 44, 45, 46, 47, 48, 49, 50, 51, 52] (by decide +kernel) (by decide +kernel)
set_option maxRecDepth 20000 in
theorem gX12_made_X12_isNext : GoodIn wsX12_made (wsV RX12 183 RX12 yX12_isNext wsX12_isNext) := goodIn_app (goodIn_of _ (by decide +kernel)) ggX12_made_X12_isNext
theorem dX12_made_0 : decode cX12_made 0 = .ok (.iload_n 1, 1) := by decide +kernel
theorem dX12_made_1 : decode cX12_made 1 = .ok (.iconst 1, 1) := by decide +kernel
theorem dX12_made_2 : decode cX12_made 2 = .ok (.if_icmp .ge 10, 3) := by decide +kernel
theorem dX12_made_5 : decode cX12_made 5 = .ok (.aload_n 0, 1) := by decide +kernel
theorem dX12_made_6 : decode cX12_made 6 = .ok (.bipush (-4), 2) := by decide +kernel
theorem dX12_made_8 : decode cX12_made 8 = .ok (.invokevirtual 111, 3) := by decide +kernel
theorem dX12_made_11 : decode cX12_made 11 = .ok (.ireturn, 1) := by decide +kernel
theorem dX12_made_12 : decode cX12_made 12 = .ok (.iload_n 1, 1) := by decide +kernel
theorem dX12_made_13 : decode cX12_made 13 = .ok (.iconst 4, 1) := by decide +kernel
theorem dX12_made_14 : decode cX12_made 14 = .ok (.if_icmp .le 10, 3) := by decide +kernel
theorem dX12_made_17 : decode cX12_made 17 = .ok (.aload_n 0, 1) := by decide +kernel
theorem dX12_made_18 : decode cX12_made 18 = .ok (.bipush (-6), 2) := by decide +kernel
theorem dX12_made_20 : decode cX12_made 20 = .ok (.invokevirtual 111, 3) := by decide +kernel
theorem dX12_made_23 : decode cX12_made 23 = .ok (.ireturn, 1) := by decide +kernel
theorem dX12_made_24 : decode cX12_made 24 = .ok (.iconst 0, 1) := by decide +kernel
theorem dX12_made_25 : decode cX12_made 25 = .ok (.istore_n 2, 1) := by decide +kernel
theorem dX12_made_26 : decode cX12_made 26 = .ok (.aload_n 0, 1) := by decide +kernel
theorem dX12_made_27 : decode cX12_made 27 = .ok (.getfield 85, 3) := by decide +kernel
theorem dX12_made_30 : decode cX12_made 30 = .ok (.ifCond .le 110, 3) := by decide +kernel
theorem dX12_made_33 : decode cX12_made 33 = .ok (.aload_n 0, 1) := by decide +kernel
theorem dX12_made_34 : decode cX12_made 34 = .ok (.iload_n 1, 1) := by decide +kernel
theorem dX12_made_35 : decode cX12_made 35 = .ok (.invokevirtual 179, 3) := by decide +kernel
theorem dX12_made_38 : decode cX12_made 38 = .ok (.iconst 1, 1) := by decide +kernel
theorem dX12_made_39 : decode cX12_made 39 = .ok (.istore_n 3, 1) := by decide +kernel
theorem dX12_made_40 : decode cX12_made 40 = .ok (.iconst 0, 1) := by decide +kernel
theorem dX12_made_41 : decode cX12_made 41 = .ok (.istore 4, 2) := by decide +kernel
theorem dX12_made_43 : decode cX12_made 43 = .ok (.iload 4, 2) := by decide +kernel
theorem dX12_made_45 : decode cX12_made 45 = .ok (.aload_n 0, 1) := by decide +kernel
theorem dX12_made_46 : decode cX12_made 46 = .ok (.getfield 85, 3) := by decide +kernel
theorem dX12_made_49 : decode cX12_made 49 = .ok (.if_icmp .ge 71, 3) := by decide +kernel
theorem dX12_made_52 : decode cX12_made 52 = .ok (.iconst 0, 1) := by decide +kernel
theorem dX12_made_53 : decode cX12_made 53 = .ok (.istore 5, 2) := by decide +kernel
theorem dX12_made_55 : decode cX12_made 55 = .ok (.iconst 0, 1) := by decide +kernel
theorem dX12_made_56 : decode cX12_made 56 = .ok (.istore 6, 2) := by decide +kernel
theorem dX12_made_58 : decode cX12_made 58 = .ok (.iload 6, 2) := by decide +kernel
theorem dX12_made_60 : decode cX12_made 60 = .ok (.iload_n 1, 1) := by decide +kernel
theorem dX12_made_61 : decode cX12_made 61 = .ok (.if_icmp .ge 31, 3) := by decide +kernel
theorem dX12_made_64 : decode cX12_made 64 = .ok (.iload 5, 2) := by decide +kernel
theorem dX12_made_66 : decode cX12_made 66 = .ok (.aload_n 0, 1) := by decide +kernel
theorem dX12_made_67 : decode cX12_made 67 = .ok (.getfield 62, 3) := by decide +kernel
theorem dX12_made_70 : decode cX12_made 70 = .ok (.iload 6, 2) := by decide +kernel
theorem dX12_made_72 : decode cX12_made 72 = .ok (.iaload, 1) := by decide +kernel
theorem dX12_made_73 : decode cX12_made 73 = .ok (.iload 4, 2) := by decide +kernel
theorem dX12_made_75 : decode cX12_made 75 = .ok (.if_icmp .ne 7, 3) := by decide +kernel
theorem dX12_made_78 : decode cX12_made 78 = .ok (.iconst 1, 1) := by decide +kernel
theorem dX12_made_79 : decode cX12_made 79 = .ok (.goto 4, 3) := by decide +kernel
theorem dX12_made_82 : decode cX12_made 82 = .ok (.iconst 0, 1) := by decide +kernel
theorem dX12_made_83 : decode cX12_made 83 = .ok (.iadd, 1) := by decide +kernel
theorem dX12_made_84 : decode cX12_made 84 = .ok (.istore 5, 2) := by decide +kernel
theorem dX12_made_86 : decode cX12_made 86 = .ok (.iinc 6 1, 3) := by decide +kernel
theorem dX12_made_89 : decode cX12_made 89 = .ok (.goto (-31), 3) := by decide +kernel
theorem dX12_made_92 : decode cX12_made 92 = .ok (.iload_n 3, 1) := by decide +kernel
theorem dX12_made_93 : decode cX12_made 93 = .ok (.ifCond .eq 19, 3) := by decide +kernel
theorem dX12_made_96 : decode cX12_made 96 = .ok (.iload 5, 2) := by decide +kernel
theorem dX12_made_98 : decode cX12_made 98 = .ok (.aload_n 0, 1) := by decide +kernel
theorem dX12_made_99 : decode cX12_made 99 = .ok (.getfield 22, 3) := by decide +kernel
theorem dX12_made_102 : decode cX12_made 102 = .ok (.iload 4, 2) := by decide +kernel
theorem dX12_made_104 : decode cX12_made 104 = .ok (.iaload, 1) := by decide +kernel
theorem dX12_made_105 : decode cX12_made 105 = .ok (.if_icmp .gt 7, 3) := by decide +kernel
theorem dX12_made_108 : decode cX12_made 108 = .ok (.iconst 1, 1) := by decide +kernel
theorem dX12_made_109 : decode cX12_made 109 = .ok (.goto 4, 3) := by decide +kernel
theorem dX12_made_112 : decode cX12_made 112 = .ok (.iconst 0, 1) := by decide +kernel
theorem dX12_made_113 : decode cX12_made 113 = .ok (.istore_n 3, 1) := by decide +kernel
theorem dX12_made_114 : decode cX12_made 114 = .ok (.iinc 4 1, 3) := by decide +kernel
theorem dX12_made_117 : decode cX12_made 117 = .ok (.goto (-74), 3) := by decide +kernel
theorem dX12_made_120 : decode cX12_made 120 = .ok (.iload_n 2, 1) := by decide +kernel
theorem dX12_made_121 : decode cX12_made 121 = .ok (.iload_n 3, 1) := by decide +kernel
theorem dX12_made_122 : decode cX12_made 122 = .ok (.ifCond .eq 7, 3) := by decide +kernel
theorem dX12_made_125 : decode cX12_made 125 = .ok (.iconst 1, 1) := by decide +kernel
theorem dX12_made_126 : decode cX12_made 126 = .ok (.goto 4, 3) := by decide +kernel
theorem dX12_made_129 : decode cX12_made 129 = .ok (.iconst 0, 1) := by decide +kernel
theorem dX12_made_130 : decode cX12_made 130 = .ok (.iadd, 1) := by decide +kernel
theorem dX12_made_131 : decode cX12_made 131 = .ok (.istore_n 2, 1) := by decide +kernel
theorem dX12_made_132 : decode cX12_made 132 = .ok (.aload_n 0, 1) := by decide +kernel
theorem dX12_made_133 : decode cX12_made 133 = .ok (.iload_n 1, 1) := by decide +kernel
theorem dX12_made_134 : decode cX12_made 134 = .ok (.invokevirtual 183, 3) := by decide +kernel
theorem dX12_made_137 : decode cX12_made 137 = .ok (.ifCond .ne (-99), 3) := by decide +kernel
theorem dX12_made_140 : decode cX12_made 140 = .ok (.iload_n 2, 1) := by decide +kernel
theorem dX12_made_141 : decode cX12_made 141 = .ok (.ireturn, 1) := by decide +kernel
set_option maxRecDepth 20000 in
theorem ggX12_towers_X12_no : GoodIn wsX12_towers wsX12_no := goodIn_r _ [10, 11, 25, 26, 27, 28, 29, 30, 31, 32, 33, 34, 35, 36, 37, 38, 39, 40, 41, 42, 43, 44, 45, 46, 47, 48, 49, 50, 51, 52, 53, 54, 55, 56, 57, 58, 59] (by decide +kernel) (by decide +kernel)
set_option maxRecDepth 20000 in
theorem gX12_towers_X12_no : GoodIn wsX12_towers (wsV RX12 111 RX12 yX12_no wsX12_no) := goodIn_app (goodIn_of _ (by decide +kernel)) ggX12_towers_X12_no
set_option maxRecDepth 20000 in
theorem ggX12_towers_X12_isNoKind : GoodIn wsX12_towers wsX12_isNoKind := goodIn_r _ [14] (by decide +kernel) (by decide +kernel)
set_option maxRecDepth 20000 in
theorem gX12_towers_X12_isNoKind : GoodIn wsX12_towers (va_wsS RX12 173 yX12_isNoKind wsX12_isNoKind) := goodIn_app (goodIn_of _ (by decide +kernel)) ggX12_towers_X12_isNoKind
set_option maxRecDepth 20000 in
theorem ggX12_towers_X12_meansAll : GoodIn wsX12_towers wsX12_meansAll := goodIn_r _ [18, 19, 20, 21, 9, 22, 23, 24, 25, 26, 27, 28, 29, 30, 31, 32, 33, 34, 35, 36, 37, 38, 39, 40, 41, 42, 43, 44, 45, 46, 47, 48, 49, 50, 51, 52, 53, 54, 55, 56, 57, 58, 59] (by decide +kernel) (by decide +kernel)
set_option maxRecDepth 20000 in
theorem gX12_towers_X12_meansAll : GoodIn wsX12_towers (wsV RX12 176 RX12 yX12_meansAll wsX12_meansAll) := goodIn_app (goodIn_of _ (by decide +kernel)) ggX12_towers_X12_meansAll
theorem dX12_towers_0 : decode cX12_towers 0 = .ok (.iload_n 1, 1) := by decide +kernel
theorem dX12_towers_1 : decode cX12_towers 1 = .ok (.iconst 1, 1) := by decide +kernel
theorem dX12_towers_2 : decode cX12_towers 2 = .ok (.if_icmp .ge 10, 3) := by decide +kernel
theorem dX12_towers_5 : decode cX12_towers 5 = .ok (.aload_n 0, 1) := by decide +kernel
theorem dX12_towers_6 : decode cX12_towers 6 = .ok (.bipush (-4), 2) := by decide +kernel
theorem dX12_towers_8 : decode cX12_towers 8 = .ok (.invokevirtual 111, 3) := by decide +kernel
theorem dX12_towers_11 : decode cX12_towers 11 = .ok (.ireturn, 1) := by decide +kernel
theorem dX12_towers_12 : decode cX12_towers 12 = .ok (.iload_n 1, 1) := by decide +kernel
theorem dX12_towers_13 : decode cX12_towers 13 = .ok (.bipush 30, 2) := by decide +kernel
theorem dX12_towers_15 : decode cX12_towers 15 = .ok (.if_icmp .le 10, 3) := by decide +kernel
theorem dX12_towers_18 : decode cX12_towers 18 = .ok (.aload_n 0, 1) := by decide +kernel
theorem dX12_towers_19 : decode cX12_towers 19 = .ok (.bipush (-6), 2) := by decide +kernel
theorem dX12_towers_21 : decode cX12_towers 21 = .ok (.invokevirtual 111, 3) := by decide +kernel
theorem dX12_towers_24 : decode cX12_towers 24 = .ok (.ireturn, 1) := by decide +kernel
theorem dX12_towers_25 : decode cX12_towers 25 = .ok (.iload_n 2, 1) := by decide +kernel
theorem dX12_towers_26 : decode cX12_towers 26 = .ok (.invokestatic 173, 3) := by decide +kernel
theorem dX12_towers_29 : decode cX12_towers 29 = .ok (.ifCond .eq 10, 3) := by decide +kernel
theorem dX12_towers_32 : decode cX12_towers 32 = .ok (.aload_n 0, 1) := by decide +kernel
theorem dX12_towers_33 : decode cX12_towers 33 = .ok (.bipush (-2), 2) := by decide +kernel
theorem dX12_towers_35 : decode cX12_towers 35 = .ok (.invokevirtual 111, 3) := by decide +kernel
theorem dX12_towers_38 : decode cX12_towers 38 = .ok (.ireturn, 1) := by decide +kernel
theorem dX12_towers_39 : decode cX12_towers 39 = .ok (.aload_n 0, 1) := by decide +kernel
theorem dX12_towers_40 : decode cX12_towers 40 = .ok (.getfield 85, 3) := by decide +kernel
theorem dX12_towers_43 : decode cX12_towers 43 = .ok (.ifCond .ne 10, 3) := by decide +kernel
theorem dX12_towers_46 : decode cX12_towers 46 = .ok (.aload_n 0, 1) := by decide +kernel
theorem dX12_towers_47 : decode cX12_towers 47 = .ok (.bipush (-3), 2) := by decide +kernel
theorem dX12_towers_49 : decode cX12_towers 49 = .ok (.invokevirtual 111, 3) := by decide +kernel
theorem dX12_towers_52 : decode cX12_towers 52 = .ok (.ireturn, 1) := by decide +kernel
theorem dX12_towers_53 : decode cX12_towers 53 = .ok (.iconst 0, 1) := by decide +kernel
theorem dX12_towers_54 : decode cX12_towers 54 = .ok (.istore 4, 2) := by decide +kernel
theorem dX12_towers_56 : decode cX12_towers 56 = .ok (.iload_n 3, 1) := by decide +kernel
theorem dX12_towers_57 : decode cX12_towers 57 = .ok (.istore 5, 2) := by decide +kernel
theorem dX12_towers_59 : decode cX12_towers 59 = .ok (.iconst 0, 1) := by decide +kernel
theorem dX12_towers_60 : decode cX12_towers 60 = .ok (.istore 6, 2) := by decide +kernel
theorem dX12_towers_62 : decode cX12_towers 62 = .ok (.iload 6, 2) := by decide +kernel
theorem dX12_towers_64 : decode cX12_towers 64 = .ok (.iload_n 1, 1) := by decide +kernel
theorem dX12_towers_65 : decode cX12_towers 65 = .ok (.if_icmp .ge 82, 3) := by decide +kernel
theorem dX12_towers_68 : decode cX12_towers 68 = .ok (.iconst 0, 1) := by decide +kernel
theorem dX12_towers_69 : decode cX12_towers 69 = .ok (.istore 7, 2) := by decide +kernel
theorem dX12_towers_71 : decode cX12_towers 71 = .ok (.iload 7, 2) := by decide +kernel
theorem dX12_towers_73 : decode cX12_towers 73 = .ok (.bipush 6, 2) := by decide +kernel
theorem dX12_towers_75 : decode cX12_towers 75 = .ok (.if_icmp .ge 40, 3) := by decide +kernel
theorem dX12_towers_78 : decode cX12_towers 78 = .ok (.iload 5, 2) := by decide +kernel
theorem dX12_towers_80 : decode cX12_towers 80 = .ok (.ldc 218, 2) := by decide +kernel
theorem dX12_towers_82 : decode cX12_towers 82 = .ok (.imul, 1) := by decide +kernel
theorem dX12_towers_83 : decode cX12_towers 83 = .ok (.ldc 219, 2) := by decide +kernel
theorem dX12_towers_85 : decode cX12_towers 85 = .ok (.iadd, 1) := by decide +kernel
theorem dX12_towers_86 : decode cX12_towers 86 = .ok (.istore 5, 2) := by decide +kernel
theorem dX12_towers_88 : decode cX12_towers 88 = .ok (.aload_n 0, 1) := by decide +kernel
theorem dX12_towers_89 : decode cX12_towers 89 = .ok (.getfield 62, 3) := by decide +kernel
theorem dX12_towers_92 : decode cX12_towers 92 = .ok (.iload 7, 2) := by decide +kernel
theorem dX12_towers_94 : decode cX12_towers 94 = .ok (.iload 5, 2) := by decide +kernel
theorem dX12_towers_96 : decode cX12_towers 96 = .ok (.ldc 220, 2) := by decide +kernel
theorem dX12_towers_98 : decode cX12_towers 98 = .ok (.iand, 1) := by decide +kernel
theorem dX12_towers_99 : decode cX12_towers 99 = .ok (.sipush 256, 3) := by decide +kernel
theorem dX12_towers_102 : decode cX12_towers 102 = .ok (.idiv, 1) := by decide +kernel
theorem dX12_towers_103 : decode cX12_towers 103 = .ok (.aload_n 0, 1) := by decide +kernel
theorem dX12_towers_104 : decode cX12_towers 104 = .ok (.getfield 85, 3) := by decide +kernel
theorem dX12_towers_107 : decode cX12_towers 107 = .ok (.irem, 1) := by decide +kernel
theorem dX12_towers_108 : decode cX12_towers 108 = .ok (.iastore, 1) := by decide +kernel
theorem dX12_towers_109 : decode cX12_towers 109 = .ok (.iinc 7 1, 3) := by decide +kernel
theorem dX12_towers_112 : decode cX12_towers 112 = .ok (.goto (-41), 3) := by decide +kernel
theorem dX12_towers_115 : decode cX12_towers 115 = .ok (.iload 4, 2) := by decide +kernel
theorem dX12_towers_117 : decode cX12_towers 117 = .ok (.aload_n 0, 1) := by decide +kernel
theorem dX12_towers_118 : decode cX12_towers 118 = .ok (.aload_n 0, 1) := by decide +kernel
theorem dX12_towers_119 : decode cX12_towers 119 = .ok (.getfield 62, 3) := by decide +kernel
theorem dX12_towers_122 : decode cX12_towers 122 = .ok (.bipush 6, 2) := by decide +kernel
theorem dX12_towers_124 : decode cX12_towers 124 = .ok (.iload_n 2, 1) := by decide +kernel
theorem dX12_towers_125 : decode cX12_towers 125 = .ok (.invokevirtual 176, 3) := by decide +kernel
theorem dX12_towers_128 : decode cX12_towers 128 = .ok (.bipush 16, 2) := by decide +kernel
theorem dX12_towers_130 : decode cX12_towers 130 = .ok (.if_icmp .ne 7, 3) := by decide +kernel
theorem dX12_towers_133 : decode cX12_towers 133 = .ok (.iconst 0, 1) := by decide +kernel
theorem dX12_towers_134 : decode cX12_towers 134 = .ok (.goto 4, 3) := by decide +kernel
theorem dX12_towers_137 : decode cX12_towers 137 = .ok (.iconst 1, 1) := by decide +kernel
theorem dX12_towers_138 : decode cX12_towers 138 = .ok (.iadd, 1) := by decide +kernel
theorem dX12_towers_139 : decode cX12_towers 139 = .ok (.istore 4, 2) := by decide +kernel
theorem dX12_towers_141 : decode cX12_towers 141 = .ok (.iinc 6 1, 3) := by decide +kernel
theorem dX12_towers_144 : decode cX12_towers 144 = .ok (.goto (-82), 3) := by decide +kernel
theorem dX12_towers_147 : decode cX12_towers 147 = .ok (.iload 4, 2) := by decide +kernel
theorem dX12_towers_149 : decode cX12_towers 149 = .ok (.ireturn, 1) := by decide +kernel
set_option maxRecDepth 20000 in
theorem ggX12_count_X12_blanks : GoodIn wsX12_count wsX12_blanks := goodIn_r _ [12, 3, 13, 14, 15, 16, 17, 18, 19, 20, 21, 22, 23, 24, 25, 26, 27, 28, 29, 30, 31, 32, 33, 34, 35, 36, 37, 38, 39, 40, 41, 42, 43, 44, 45, 46, 47, 48] (by decide +kernel) (by decide +kernel)
set_option maxRecDepth 20000 in
theorem gX12_count_X12_blanks : GoodIn wsX12_count (wsV RX12 209 RX12 yX12_blanks wsX12_blanks) := goodIn_app (goodIn_of _ (by decide +kernel)) ggX12_count_X12_blanks
theorem dX12_count_0 : decode cX12_count 0 = .ok (.iload_n 1, 1) := by decide +kernel
theorem dX12_count_1 : decode cX12_count 1 = .ok (.tableswitch 102 0 6 #[43, 48, 53, 58, 63, 68, 73], 43) := by decide +kernel
theorem dX12_count_44 : decode cX12_count 44 = .ok (.aload_n 0, 1) := by decide +kernel
theorem dX12_count_45 : decode cX12_count 45 = .ok (.getfield 85, 3) := by decide +kernel
theorem dX12_count_48 : decode cX12_count 48 = .ok (.ireturn, 1) := by decide +kernel
theorem dX12_count_49 : decode cX12_count 49 = .ok (.aload_n 0, 1) := by decide +kernel
theorem dX12_count_50 : decode cX12_count 50 = .ok (.getfield 92, 3) := by decide +kernel
theorem dX12_count_53 : decode cX12_count 53 = .ok (.ireturn, 1) := by decide +kernel
theorem dX12_count_54 : decode cX12_count 54 = .ok (.aload_n 0, 1) := by decide +kernel
theorem dX12_count_55 : decode cX12_count 55 = .ok (.getfield 95, 3) := by decide +kernel
theorem dX12_count_58 : decode cX12_count 58 = .ok (.ireturn, 1) := by decide +kernel
theorem dX12_count_59 : decode cX12_count 59 = .ok (.aload_n 0, 1) := by decide +kernel
theorem dX12_count_60 : decode cX12_count 60 = .ok (.invokevirtual 209, 3) := by decide +kernel
theorem dX12_count_63 : decode cX12_count 63 = .ok (.ireturn, 1) := by decide +kernel
theorem dX12_count_64 : decode cX12_count 64 = .ok (.aload_n 0, 1) := by decide +kernel
theorem dX12_count_65 : decode cX12_count 65 = .ok (.getfield 98, 3) := by decide +kernel
theorem dX12_count_68 : decode cX12_count 68 = .ok (.ireturn, 1) := by decide +kernel
theorem dX12_count_69 : decode cX12_count 69 = .ok (.aload_n 0, 1) := by decide +kernel
theorem dX12_count_70 : decode cX12_count 70 = .ok (.getfield 114, 3) := by decide +kernel
theorem dX12_count_73 : decode cX12_count 73 = .ok (.ireturn, 1) := by decide +kernel
theorem dX12_count_74 : decode cX12_count 74 = .ok (.iconst 0, 1) := by decide +kernel
theorem dX12_count_75 : decode cX12_count 75 = .ok (.istore_n 2, 1) := by decide +kernel
theorem dX12_count_76 : decode cX12_count 76 = .ok (.iconst 0, 1) := by decide +kernel
theorem dX12_count_77 : decode cX12_count 77 = .ok (.istore_n 3, 1) := by decide +kernel
theorem dX12_count_78 : decode cX12_count 78 = .ok (.iload_n 3, 1) := by decide +kernel
theorem dX12_count_79 : decode cX12_count 79 = .ok (.aload_n 0, 1) := by decide +kernel
theorem dX12_count_80 : decode cX12_count 80 = .ok (.getfield 85, 3) := by decide +kernel
theorem dX12_count_83 : decode cX12_count 83 = .ok (.if_icmp .ge 18, 3) := by decide +kernel
theorem dX12_count_86 : decode cX12_count 86 = .ok (.iload_n 2, 1) := by decide +kernel
theorem dX12_count_87 : decode cX12_count 87 = .ok (.aload_n 0, 1) := by decide +kernel
theorem dX12_count_88 : decode cX12_count 88 = .ok (.getfield 22, 3) := by decide +kernel
theorem dX12_count_91 : decode cX12_count 91 = .ok (.iload_n 3, 1) := by decide +kernel
theorem dX12_count_92 : decode cX12_count 92 = .ok (.iaload, 1) := by decide +kernel
theorem dX12_count_93 : decode cX12_count 93 = .ok (.iadd, 1) := by decide +kernel
theorem dX12_count_94 : decode cX12_count 94 = .ok (.istore_n 2, 1) := by decide +kernel
theorem dX12_count_95 : decode cX12_count 95 = .ok (.iinc 3 1, 3) := by decide +kernel
theorem dX12_count_98 : decode cX12_count 98 = .ok (.goto (-20), 3) := by decide +kernel
theorem dX12_count_101 : decode cX12_count 101 = .ok (.iload_n 2, 1) := by decide +kernel
theorem dX12_count_102 : decode cX12_count 102 = .ok (.ireturn, 1) := by decide +kernel
theorem dX12_count_103 : decode cX12_count 103 = .ok (.iload_n 1, 1) := by decide +kernel
theorem dX12_count_104 : decode cX12_count 104 = .ok (.bipush 11, 2) := by decide +kernel
theorem dX12_count_106 : decode cX12_count 106 = .ok (.if_icmp .lt 21, 3) := by decide +kernel
theorem dX12_count_109 : decode cX12_count 109 = .ok (.iload_n 1, 1) := by decide +kernel
theorem dX12_count_110 : decode cX12_count 110 = .ok (.bipush 16, 2) := by decide +kernel
theorem dX12_count_112 : decode cX12_count 112 = .ok (.if_icmp .gt 15, 3) := by decide +kernel
theorem dX12_count_115 : decode cX12_count 115 = .ok (.aload_n 0, 1) := by decide +kernel
theorem dX12_count_116 : decode cX12_count 116 = .ok (.getfield 7, 3) := by decide +kernel
theorem dX12_count_119 : decode cX12_count 119 = .ok (.iload_n 1, 1) := by decide +kernel
theorem dX12_count_120 : decode cX12_count 120 = .ok (.bipush 10, 2) := by decide +kernel
theorem dX12_count_122 : decode cX12_count 122 = .ok (.isub, 1) := by decide +kernel
theorem dX12_count_123 : decode cX12_count 123 = .ok (.iaload, 1) := by decide +kernel
theorem dX12_count_124 : decode cX12_count 124 = .ok (.goto 5, 3) := by decide +kernel
theorem dX12_count_127 : decode cX12_count 127 = .ok (.bipush (-9), 2) := by decide +kernel
theorem dX12_count_129 : decode cX12_count 129 = .ok (.ireturn, 1) := by decide +kernel
theorem dJ11_isValidCodePoint_9a6ad_0 : decode cJ11_isValidCodePoint_9a6ad 0 = .ok (.iload_n 0, 1) := by decide +kernel
theorem dJ11_isValidCodePoint_9a6ad_1 : decode cJ11_isValidCodePoint_9a6ad 1 = .ok (.bipush 16, 2) := by decide +kernel
theorem dJ11_isValidCodePoint_9a6ad_3 : decode cJ11_isValidCodePoint_9a6ad 3 = .ok (.iushr, 1) := by decide +kernel
theorem dJ11_isValidCodePoint_9a6ad_4 : decode cJ11_isValidCodePoint_9a6ad 4 = .ok (.istore_n 1, 1) := by decide +kernel
theorem dJ11_isValidCodePoint_9a6ad_5 : decode cJ11_isValidCodePoint_9a6ad 5 = .ok (.iload_n 1, 1) := by decide +kernel
theorem dJ11_isValidCodePoint_9a6ad_6 : decode cJ11_isValidCodePoint_9a6ad 6 = .ok (.bipush 17, 2) := by decide +kernel
theorem dJ11_isValidCodePoint_9a6ad_8 : decode cJ11_isValidCodePoint_9a6ad 8 = .ok (.if_icmp .ge 7, 3) := by decide +kernel
theorem dJ11_isValidCodePoint_9a6ad_11 : decode cJ11_isValidCodePoint_9a6ad 11 = .ok (.iconst 1, 1) := by decide +kernel
theorem dJ11_isValidCodePoint_9a6ad_12 : decode cJ11_isValidCodePoint_9a6ad 12 = .ok (.goto 4, 3) := by decide +kernel
theorem dJ11_isValidCodePoint_9a6ad_15 : decode cJ11_isValidCodePoint_9a6ad 15 = .ok (.iconst 0, 1) := by decide +kernel
theorem dJ11_isValidCodePoint_9a6ad_16 : decode cJ11_isValidCodePoint_9a6ad 16 = .ok (.ireturn, 1) := by decide +kernel
theorem dJ11_highSurrogate_5068e_0 : decode cJ11_highSurrogate_5068e 0 = .ok (.iload_n 0, 1) := by decide +kernel
theorem dJ11_highSurrogate_5068e_1 : decode cJ11_highSurrogate_5068e 1 = .ok (.bipush 10, 2) := by decide +kernel
theorem dJ11_highSurrogate_5068e_3 : decode cJ11_highSurrogate_5068e 3 = .ok (.iushr, 1) := by decide +kernel
theorem dJ11_highSurrogate_5068e_4 : decode cJ11_highSurrogate_5068e 4 = .ok (.ldc 110, 2) := by decide +kernel
theorem dJ11_highSurrogate_5068e_6 : decode cJ11_highSurrogate_5068e 6 = .ok (.iadd, 1) := by decide +kernel
theorem dJ11_highSurrogate_5068e_7 : decode cJ11_highSurrogate_5068e 7 = .ok (.i2c, 1) := by decide +kernel
theorem dJ11_highSurrogate_5068e_8 : decode cJ11_highSurrogate_5068e 8 = .ok (.ireturn, 1) := by decide +kernel
theorem dJ11_lowSurrogate_5068e_0 : decode cJ11_lowSurrogate_5068e 0 = .ok (.iload_n 0, 1) := by decide +kernel
theorem dJ11_lowSurrogate_5068e_1 : decode cJ11_lowSurrogate_5068e 1 = .ok (.sipush 1023, 3) := by decide +kernel
theorem dJ11_lowSurrogate_5068e_4 : decode cJ11_lowSurrogate_5068e 4 = .ok (.iand, 1) := by decide +kernel
theorem dJ11_lowSurrogate_5068e_5 : decode cJ11_lowSurrogate_5068e 5 = .ok (.ldc 76, 2) := by decide +kernel
theorem dJ11_lowSurrogate_5068e_7 : decode cJ11_lowSurrogate_5068e 7 = .ok (.iadd, 1) := by decide +kernel
theorem dJ11_lowSurrogate_5068e_8 : decode cJ11_lowSurrogate_5068e 8 = .ok (.i2c, 1) := by decide +kernel
theorem dJ11_lowSurrogate_5068e_9 : decode cJ11_lowSurrogate_5068e 9 = .ok (.ireturn, 1) := by decide +kernel
theorem dJ9_max_7cf53_0 : decode cJ9_max_7cf53 0 = .ok (.iload_n 0, 1) := by decide +kernel
theorem dJ9_max_7cf53_1 : decode cJ9_max_7cf53 1 = .ok (.iload_n 1, 1) := by decide +kernel
theorem dJ9_max_7cf53_2 : decode cJ9_max_7cf53 2 = .ok (.if_icmp .lt 7, 3) := by decide +kernel
theorem dJ9_max_7cf53_5 : decode cJ9_max_7cf53 5 = .ok (.iload_n 0, 1) := by decide +kernel
theorem dJ9_max_7cf53_6 : decode cJ9_max_7cf53 6 = .ok (.goto 4, 3) := by decide +kernel
theorem dJ9_max_7cf53_9 : decode cJ9_max_7cf53 9 = .ok (.iload_n 1, 1) := by decide +kernel
theorem dJ9_max_7cf53_10 : decode cJ9_max_7cf53 10 = .ok (.ireturn, 1) := by decide +kernel
theorem dJ9_min_7cf53_0 : decode cJ9_min_7cf53 0 = .ok (.iload_n 0, 1) := by decide +kernel
theorem dJ9_min_7cf53_1 : decode cJ9_min_7cf53 1 = .ok (.iload_n 1, 1) := by decide +kernel
theorem dJ9_min_7cf53_2 : decode cJ9_min_7cf53 2 = .ok (.if_icmp .gt 7, 3) := by decide +kernel
theorem dJ9_min_7cf53_5 : decode cJ9_min_7cf53 5 = .ok (.iload_n 0, 1) := by decide +kernel
theorem dJ9_min_7cf53_6 : decode cJ9_min_7cf53 6 = .ok (.goto 4, 3) := by decide +kernel
theorem dJ9_min_7cf53_9 : decode cJ9_min_7cf53 9 = .ok (.iload_n 1, 1) := by decide +kernel
theorem dJ9_min_7cf53_10 : decode cJ9_min_7cf53 10 = .ok (.ireturn, 1) := by decide +kernel
set_option maxRecDepth 20000 in
theorem ggJ0_length_8abf5_J0_coder_7d493 : GoodIn wsJ0_length_8abf5 wsJ0_coder_7d493 := goodIn_r _ [6, 7, 8] (by decide +kernel) (by decide +kernel)
set_option maxRecDepth 20000 in
theorem gJ0_length_8abf5_J0_coder_7d493 : GoodIn wsJ0_length_8abf5 (wsV RJ0 335 RJ0 yJ0_coder_7d493 wsJ0_coder_7d493) := goodIn_app (goodIn_of _ (by decide +kernel)) ggJ0_length_8abf5_J0_coder_7d493
theorem dJ0_length_8abf5_0 : decode cJ0_length_8abf5 0 = .ok (.aload_n 0, 1) := by decide +kernel
theorem dJ0_length_8abf5_1 : decode cJ0_length_8abf5 1 = .ok (.getfield 9, 3) := by decide +kernel
theorem dJ0_length_8abf5_4 : decode cJ0_length_8abf5 4 = .ok (.arraylength, 1) := by decide +kernel
theorem dJ0_length_8abf5_5 : decode cJ0_length_8abf5 5 = .ok (.aload_n 0, 1) := by decide +kernel
theorem dJ0_length_8abf5_6 : decode cJ0_length_8abf5 6 = .ok (.invokevirtual 335, 3) := by decide +kernel
theorem dJ0_length_8abf5_9 : decode cJ0_length_8abf5 9 = .ok (.ishr, 1) := by decide +kernel
theorem dJ0_length_8abf5_10 : decode cJ0_length_8abf5 10 = .ok (.ireturn, 1) := by decide +kernel
theorem dJ0_isEmpty_aae02_0 : decode cJ0_isEmpty_aae02 0 = .ok (.aload_n 0, 1) := by decide +kernel
theorem dJ0_isEmpty_aae02_1 : decode cJ0_isEmpty_aae02 1 = .ok (.getfield 9, 3) := by decide +kernel
theorem dJ0_isEmpty_aae02_4 : decode cJ0_isEmpty_aae02 4 = .ok (.arraylength, 1) := by decide +kernel
theorem dJ0_isEmpty_aae02_5 : decode cJ0_isEmpty_aae02 5 = .ok (.ifCond .ne 7, 3) := by decide +kernel
theorem dJ0_isEmpty_aae02_8 : decode cJ0_isEmpty_aae02 8 = .ok (.iconst 1, 1) := by decide +kernel
theorem dJ0_isEmpty_aae02_9 : decode cJ0_isEmpty_aae02 9 = .ok (.goto 4, 3) := by decide +kernel
theorem dJ0_isEmpty_aae02_12 : decode cJ0_isEmpty_aae02 12 = .ok (.iconst 0, 1) := by decide +kernel
theorem dJ0_isEmpty_aae02_13 : decode cJ0_isEmpty_aae02 13 = .ok (.ireturn, 1) := by decide +kernel
set_option maxRecDepth 20000 in
theorem ggJ0_charAt_5068e_J0_isLatin1_aae02 : GoodIn wsJ0_charAt_5068e wsJ0_isLatin1_aae02 := goodIn_r _ [6, 7, 8] (by decide +kernel) (by decide +kernel)
set_option maxRecDepth 20000 in
theorem gJ0_charAt_5068e_J0_isLatin1_aae02 : GoodIn wsJ0_charAt_5068e (wsV RJ0 492 RJ0 yJ0_isLatin1_aae02 wsJ0_isLatin1_aae02) := goodIn_app (goodIn_of _ (by decide +kernel)) ggJ0_charAt_5068e_J0_isLatin1_aae02
set_option maxRecDepth 20000 in
theorem ggJ0_charAt_5068e_J1_charAt_3b067 : GoodIn wsJ0_charAt_5068e wsJ1_charAt_3b067 := goodIn_r _ [12, 13, 14, 5, 15, 16, 17, 18, 19, 20] (by decide +kernel) (by decide +kernel)
set_option maxRecDepth 20000 in
theorem gJ0_charAt_5068e_J1_charAt_3b067 : GoodIn wsJ0_charAt_5068e (va_wsS RJ0 495 yJ1_charAt_3b067 wsJ1_charAt_3b067) := goodIn_app (goodIn_of _ (by decide +kernel)) ggJ0_charAt_5068e_J1_charAt_3b067
set_option maxRecDepth 20000 in
theorem ggJ0_charAt_5068e_J2_charAt_3b067 : GoodIn wsJ0_charAt_5068e wsJ2_charAt_3b067 := goodIn_r _ [24, 25, 26, 23, 27, 28, 29, 30, 31, 14, 5, 15, 16, 17, 18, 19, 20, 32, 33, 34, 35, 36, 37] (by decide +kernel) (by decide +kernel)
set_option maxRecDepth 20000 in
theorem gJ0_charAt_5068e_J2_charAt_3b067 : GoodIn wsJ0_charAt_5068e (va_wsS RJ0 498 yJ2_charAt_3b067 wsJ2_charAt_3b067) := goodIn_app (goodIn_of _ (by decide +kernel)) ggJ0_charAt_5068e_J2_charAt_3b067
theorem dJ0_charAt_5068e_0 : decode cJ0_charAt_5068e 0 = .ok (.aload_n 0, 1) := by decide +kernel
theorem dJ0_charAt_5068e_1 : decode cJ0_charAt_5068e 1 = .ok (.invokevirtual 492, 3) := by decide +kernel
theorem dJ0_charAt_5068e_4 : decode cJ0_charAt_5068e 4 = .ok (.ifCond .eq 12, 3) := by decide +kernel
theorem dJ0_charAt_5068e_7 : decode cJ0_charAt_5068e 7 = .ok (.aload_n 0, 1) := by decide +kernel
theorem dJ0_charAt_5068e_8 : decode cJ0_charAt_5068e 8 = .ok (.getfield 9, 3) := by decide +kernel
theorem dJ0_charAt_5068e_11 : decode cJ0_charAt_5068e 11 = .ok (.iload_n 1, 1) := by decide +kernel
theorem dJ0_charAt_5068e_12 : decode cJ0_charAt_5068e 12 = .ok (.invokestatic 495, 3) := by decide +kernel
theorem dJ0_charAt_5068e_15 : decode cJ0_charAt_5068e 15 = .ok (.ireturn, 1) := by decide +kernel
theorem dJ0_charAt_5068e_16 : decode cJ0_charAt_5068e 16 = .ok (.aload_n 0, 1) := by decide +kernel
theorem dJ0_charAt_5068e_17 : decode cJ0_charAt_5068e 17 = .ok (.getfield 9, 3) := by decide +kernel
theorem dJ0_charAt_5068e_20 : decode cJ0_charAt_5068e 20 = .ok (.iload_n 1, 1) := by decide +kernel
theorem dJ0_charAt_5068e_21 : decode cJ0_charAt_5068e 21 = .ok (.invokestatic 498, 3) := by decide +kernel
theorem dJ0_charAt_5068e_24 : decode cJ0_charAt_5068e 24 = .ok (.ireturn, 1) := by decide +kernel
set_option maxRecDepth 20000 in
theorem ggJ0_indexOf_0f7a4_J0_indexOf_7cf53 : GoodIn wsJ0_indexOf_0f7a4 wsJ0_indexOf_7cf53 := goodIn_r _ [5, 6, 7, 8, 9, 4, 10, 11, 12, 13, 14, 15, 16, 17, 18, 19, 20, 21, 22, 23, 24, 25, 26, 27, 28, 29, 30, 31, 32, 33, 34, 35, 36, 37, 38, 39, 40, 41, 42, 43, 44, 45, 46, 47, 48, 49, 50, 51, 52, 53, 54, 55, 56, 57, 58, 59, 60, 61, 62, 63, 64, 65, 66, 67, 68, 69, 70, 71, 72, 73, 74, 75, 76, 77, 78, 79, 80, 81, 82, 83, 84, 85] (by decide +kernel) (by decide +kernel)
set_option maxRecDepth 20000 in
theorem gJ0_indexOf_0f7a4_J0_indexOf_7cf53 : GoodIn wsJ0_indexOf_0f7a4 (wsV RJ0 633 RJ0 yJ0_indexOf_7cf53 wsJ0_indexOf_7cf53) := goodIn_app (goodIn_of _ (by decide +kernel)) ggJ0_indexOf_0f7a4_J0_indexOf_7cf53
theorem dJ0_indexOf_0f7a4_0 : decode cJ0_indexOf_0f7a4 0 = .ok (.aload_n 0, 1) := by decide +kernel
theorem dJ0_indexOf_0f7a4_1 : decode cJ0_indexOf_0f7a4 1 = .ok (.iload_n 1, 1) := by decide +kernel
theorem dJ0_indexOf_0f7a4_2 : decode cJ0_indexOf_0f7a4 2 = .ok (.iconst 0, 1) := by decide +kernel
theorem dJ0_indexOf_0f7a4_3 : decode cJ0_indexOf_0f7a4 3 = .ok (.invokevirtual 633, 3) := by decide +kernel
theorem dJ0_indexOf_0f7a4_6 : decode cJ0_indexOf_0f7a4 6 = .ok (.ireturn, 1) := by decide +kernel
set_option maxRecDepth 20000 in
theorem ggJ0_indexOf_7cf53_J0_isLatin1_aae02 : GoodIn wsJ0_indexOf_7cf53 wsJ0_isLatin1_aae02 := goodIn_r _ [6, 7, 8] (by decide +kernel) (by decide +kernel)
set_option maxRecDepth 20000 in
theorem gJ0_indexOf_7cf53_J0_isLatin1_aae02 : GoodIn wsJ0_indexOf_7cf53 (wsV RJ0 492 RJ0 yJ0_isLatin1_aae02 wsJ0_isLatin1_aae02) := goodIn_app (goodIn_of _ (by decide +kernel)) ggJ0_indexOf_7cf53_J0_isLatin1_aae02
set_option maxRecDepth 20000 in
theorem ggJ0_indexOf_7cf53_J0_length_8abf5 : GoodIn wsJ0_indexOf_7cf53 wsJ0_length_8abf5 := goodIn_r _ [12, 1, 13, 14, 15, 5, 16, 7, 8] (by decide +kernel) (by decide +kernel)
set_option maxRecDepth 20000 in
theorem gJ0_indexOf_7cf53_J0_length_8abf5 : GoodIn wsJ0_indexOf_7cf53 (wsV RJ0 505 RJ0 yJ0_length_8abf5 wsJ0_length_8abf5) := goodIn_app (goodIn_of _ (by decide +kernel)) ggJ0_indexOf_7cf53_J0_length_8abf5
set_option maxRecDepth 20000 in
theorem ggJ0_indexOf_7cf53_J1_indexOf_4cfef : GoodIn wsJ0_indexOf_7cf53 wsJ1_indexOf_4cfef := goodIn_r _ [20, 21, 22, 23, 24, 25, 26, 27, 28, 29, 19, 30, 31, 32, 33] (by decide +kernel) (by decide +kernel)
set_option maxRecDepth 20000 in
theorem gJ0_indexOf_7cf53_J1_indexOf_4cfef : GoodIn wsJ0_indexOf_7cf53 (va_wsS RJ0 637 yJ1_indexOf_4cfef wsJ1_indexOf_4cfef) := goodIn_app (goodIn_of _ (by decide +kernel)) ggJ0_indexOf_7cf53_J1_indexOf_4cfef
set_option maxRecDepth 20000 in
theorem ggJ0_indexOf_7cf53_J2_indexOf_4cfef : GoodIn wsJ0_indexOf_7cf53 wsJ2_indexOf_4cfef := goodIn_r _ [37, 38, 22, 23, 24, 39, 26, 27, 40, 41, 42, 36, 43, 44, 45, 46, 47, 48, 49, 50, 51, 5, 52, 53, 54, 55, 56, 57, 58, 59, 60, 61, 62, 63, 64, 65, 66, 67, 68, 69, 70, 71, 72, 73, 74, 75, 76, 77, 78, 79, 80, 81] (by decide +kernel) (by decide +kernel)
set_option maxRecDepth 20000 in
theorem gJ0_indexOf_7cf53_J2_indexOf_4cfef : GoodIn wsJ0_indexOf_7cf53 (va_wsS RJ0 640 yJ2_indexOf_4cfef wsJ2_indexOf_4cfef) := goodIn_app (goodIn_of _ (by decide +kernel)) ggJ0_indexOf_7cf53_J2_indexOf_4cfef
theorem dJ0_indexOf_7cf53_0 : decode cJ0_indexOf_7cf53 0 = .ok (.aload_n 0, 1) := by decide +kernel
theorem dJ0_indexOf_7cf53_1 : decode cJ0_indexOf_7cf53 1 = .ok (.invokevirtual 492, 3) := by decide +kernel
theorem dJ0_indexOf_7cf53_4 : decode cJ0_indexOf_7cf53 4 = .ok (.ifCond .eq 19, 3) := by decide +kernel
theorem dJ0_indexOf_7cf53_7 : decode cJ0_indexOf_7cf53 7 = .ok (.aload_n 0, 1) := by decide +kernel
theorem dJ0_indexOf_7cf53_8 : decode cJ0_indexOf_7cf53 8 = .ok (.getfield 9, 3) := by decide +kernel
theorem dJ0_indexOf_7cf53_11 : decode cJ0_indexOf_7cf53 11 = .ok (.iload_n 1, 1) := by decide +kernel
theorem dJ0_indexOf_7cf53_12 : decode cJ0_indexOf_7cf53 12 = .ok (.iload_n 2, 1) := by decide +kernel
theorem dJ0_indexOf_7cf53_13 : decode cJ0_indexOf_7cf53 13 = .ok (.aload_n 0, 1) := by decide +kernel
theorem dJ0_indexOf_7cf53_14 : decode cJ0_indexOf_7cf53 14 = .ok (.invokevirtual 505, 3) := by decide +kernel
theorem dJ0_indexOf_7cf53_17 : decode cJ0_indexOf_7cf53 17 = .ok (.invokestatic 637, 3) := by decide +kernel
theorem dJ0_indexOf_7cf53_20 : decode cJ0_indexOf_7cf53 20 = .ok (.goto 16, 3) := by decide +kernel
theorem dJ0_indexOf_7cf53_23 : decode cJ0_indexOf_7cf53 23 = .ok (.aload_n 0, 1) := by decide +kernel
theorem dJ0_indexOf_7cf53_24 : decode cJ0_indexOf_7cf53 24 = .ok (.getfield 9, 3) := by decide +kernel
theorem dJ0_indexOf_7cf53_27 : decode cJ0_indexOf_7cf53 27 = .ok (.iload_n 1, 1) := by decide +kernel
theorem dJ0_indexOf_7cf53_28 : decode cJ0_indexOf_7cf53 28 = .ok (.iload_n 2, 1) := by decide +kernel
theorem dJ0_indexOf_7cf53_29 : decode cJ0_indexOf_7cf53 29 = .ok (.aload_n 0, 1) := by decide +kernel
theorem dJ0_indexOf_7cf53_30 : decode cJ0_indexOf_7cf53 30 = .ok (.invokevirtual 505, 3) := by decide +kernel
theorem dJ0_indexOf_7cf53_33 : decode cJ0_indexOf_7cf53 33 = .ok (.invokestatic 640, 3) := by decide +kernel
theorem dJ0_indexOf_7cf53_36 : decode cJ0_indexOf_7cf53 36 = .ok (.ireturn, 1) := by decide +kernel
theorem dJ0_coder_7d493_0 : decode cJ0_coder_7d493 0 = .ok (.getstatic 38, 3) := by decide +kernel
theorem dJ0_coder_7d493_3 : decode cJ0_coder_7d493 3 = .ok (.ifCond .eq 10, 3) := by decide +kernel
theorem dJ0_coder_7d493_6 : decode cJ0_coder_7d493 6 = .ok (.aload_n 0, 1) := by decide +kernel
theorem dJ0_coder_7d493_7 : decode cJ0_coder_7d493 7 = .ok (.getfield 15, 3) := by decide +kernel
theorem dJ0_coder_7d493_10 : decode cJ0_coder_7d493 10 = .ok (.goto 4, 3) := by decide +kernel
theorem dJ0_coder_7d493_13 : decode cJ0_coder_7d493 13 = .ok (.iconst 1, 1) := by decide +kernel
theorem dJ0_coder_7d493_14 : decode cJ0_coder_7d493 14 = .ok (.ireturn, 1) := by decide +kernel
theorem dJ0_isLatin1_aae02_0 : decode cJ0_isLatin1_aae02 0 = .ok (.getstatic 38, 3) := by decide +kernel
theorem dJ0_isLatin1_aae02_3 : decode cJ0_isLatin1_aae02 3 = .ok (.ifCond .eq 14, 3) := by decide +kernel
theorem dJ0_isLatin1_aae02_6 : decode cJ0_isLatin1_aae02 6 = .ok (.aload_n 0, 1) := by decide +kernel
theorem dJ0_isLatin1_aae02_7 : decode cJ0_isLatin1_aae02 7 = .ok (.getfield 15, 3) := by decide +kernel
theorem dJ0_isLatin1_aae02_10 : decode cJ0_isLatin1_aae02 10 = .ok (.ifCond .ne 7, 3) := by decide +kernel
theorem dJ0_isLatin1_aae02_13 : decode cJ0_isLatin1_aae02 13 = .ok (.iconst 1, 1) := by decide +kernel
theorem dJ0_isLatin1_aae02_14 : decode cJ0_isLatin1_aae02 14 = .ok (.goto 4, 3) := by decide +kernel
theorem dJ0_isLatin1_aae02_17 : decode cJ0_isLatin1_aae02 17 = .ok (.iconst 0, 1) := by decide +kernel
theorem dJ0_isLatin1_aae02_18 : decode cJ0_isLatin1_aae02 18 = .ok (.ireturn, 1) := by decide +kernel
set_option maxRecDepth 20000 in
theorem ggJ0_checkIndex_df160_J3_checkIndex_8e157 : GoodIn wsJ0_checkIndex_df160 wsJ3_checkIndex_8e157 := goodIn_r _ [5] (by decide +kernel) (by decide +kernel)
set_option maxRecDepth 20000 in
theorem gJ0_checkIndex_df160_J3_checkIndex_8e157 : GoodIn wsJ0_checkIndex_df160 (va_wsS RJ0 1059 yJ3_checkIndex_8e157 wsJ3_checkIndex_8e157) := goodIn_app (goodIn_of _ (by decide +kernel)) ggJ0_checkIndex_df160_J3_checkIndex_8e157
theorem dJ0_checkIndex_df160_0 : decode cJ0_checkIndex_df160 0 = .ok (.iload_n 0, 1) := by decide +kernel
theorem dJ0_checkIndex_df160_1 : decode cJ0_checkIndex_df160 1 = .ok (.iload_n 1, 1) := by decide +kernel
theorem dJ0_checkIndex_df160_2 : decode cJ0_checkIndex_df160 2 = .ok (.getstatic 1053, 3) := by decide +kernel
theorem dJ0_checkIndex_df160_5 : decode cJ0_checkIndex_df160 5 = .ok (.invokestatic 1059, 3) := by decide +kernel
theorem dJ0_checkIndex_df160_8 : decode cJ0_checkIndex_df160 8 = .ok (.pop, 1) := by decide +kernel
theorem dJ0_checkIndex_df160_9 : decode cJ0_checkIndex_df160 9 = .ok (.return_, 1) := by decide +kernel
set_option maxRecDepth 20000 in
theorem ggJ0_checkBoundsBeginEnd_23922_J3_checkFromToIndex_8c36e : GoodIn wsJ0_checkBoundsBeginEnd_23922 wsJ3_checkFromToIndex_8c36e := goodIn_r _ [5] (by decide +kernel) (by decide +kernel)
set_option maxRecDepth 20000 in
theorem gJ0_checkBoundsBeginEnd_23922_J3_checkFromToIndex_8c36e : GoodIn wsJ0_checkBoundsBeginEnd_23922 (va_wsS RJ0 1062 yJ3_checkFromToIndex_8c36e wsJ3_checkFromToIndex_8c36e) := goodIn_app (goodIn_of _ (by decide +kernel)) ggJ0_checkBoundsBeginEnd_23922_J3_checkFromToIndex_8c36e
theorem dJ0_checkBoundsBeginEnd_23922_0 : decode cJ0_checkBoundsBeginEnd_23922 0 = .ok (.iload_n 0, 1) := by decide +kernel
theorem dJ0_checkBoundsBeginEnd_23922_1 : decode cJ0_checkBoundsBeginEnd_23922 1 = .ok (.iload_n 1, 1) := by decide +kernel
theorem dJ0_checkBoundsBeginEnd_23922_2 : decode cJ0_checkBoundsBeginEnd_23922 2 = .ok (.iload_n 2, 1) := by decide +kernel
theorem dJ0_checkBoundsBeginEnd_23922_3 : decode cJ0_checkBoundsBeginEnd_23922 3 = .ok (.getstatic 1053, 3) := by decide +kernel
theorem dJ0_checkBoundsBeginEnd_23922_6 : decode cJ0_checkBoundsBeginEnd_23922 6 = .ok (.invokestatic 1062, 3) := by decide +kernel
theorem dJ0_checkBoundsBeginEnd_23922_9 : decode cJ0_checkBoundsBeginEnd_23922 9 = .ok (.pop, 1) := by decide +kernel
theorem dJ0_checkBoundsBeginEnd_23922_10 : decode cJ0_checkBoundsBeginEnd_23922 10 = .ok (.return_, 1) := by decide +kernel
set_option maxRecDepth 20000 in
theorem ggJ1_charAt_3b067_J0_checkIndex_df160 : GoodIn wsJ1_charAt_3b067 wsJ0_checkIndex_df160 := goodIn_r _ [4, 5, 6, 7, 8, 9] (by decide +kernel) (by decide +kernel)
set_option maxRecDepth 20000 in
theorem gJ1_charAt_3b067_J0_checkIndex_df160 : GoodIn wsJ1_charAt_3b067 (va_wsS RJ1 9 yJ0_checkIndex_df160 wsJ0_checkIndex_df160) := goodIn_app (goodIn_of _ (by decide +kernel)) ggJ1_charAt_3b067_J0_checkIndex_df160
theorem dJ1_charAt_3b067_0 : decode cJ1_charAt_3b067 0 = .ok (.iload_n 1, 1) := by decide +kernel
theorem dJ1_charAt_3b067_1 : decode cJ1_charAt_3b067 1 = .ok (.aload_n 0, 1) := by decide +kernel
theorem dJ1_charAt_3b067_2 : decode cJ1_charAt_3b067 2 = .ok (.arraylength, 1) := by decide +kernel
theorem dJ1_charAt_3b067_3 : decode cJ1_charAt_3b067 3 = .ok (.invokestatic 9, 3) := by decide +kernel
theorem dJ1_charAt_3b067_6 : decode cJ1_charAt_3b067 6 = .ok (.aload_n 0, 1) := by decide +kernel
theorem dJ1_charAt_3b067_7 : decode cJ1_charAt_3b067 7 = .ok (.iload_n 1, 1) := by decide +kernel
theorem dJ1_charAt_3b067_8 : decode cJ1_charAt_3b067 8 = .ok (.baload, 1) := by decide +kernel
theorem dJ1_charAt_3b067_9 : decode cJ1_charAt_3b067 9 = .ok (.sipush 255, 3) := by decide +kernel
theorem dJ1_charAt_3b067_12 : decode cJ1_charAt_3b067 12 = .ok (.iand, 1) := by decide +kernel
theorem dJ1_charAt_3b067_13 : decode cJ1_charAt_3b067 13 = .ok (.i2c, 1) := by decide +kernel
theorem dJ1_charAt_3b067_14 : decode cJ1_charAt_3b067 14 = .ok (.ireturn, 1) := by decide +kernel
theorem dJ1_canEncode_9a6ad_0 : decode cJ1_canEncode_9a6ad 0 = .ok (.iload_n 0, 1) := by decide +kernel
theorem dJ1_canEncode_9a6ad_1 : decode cJ1_canEncode_9a6ad 1 = .ok (.ifCond .lt 14, 3) := by decide +kernel
theorem dJ1_canEncode_9a6ad_4 : decode cJ1_canEncode_9a6ad 4 = .ok (.iload_n 0, 1) := by decide +kernel
theorem dJ1_canEncode_9a6ad_5 : decode cJ1_canEncode_9a6ad 5 = .ok (.sipush 255, 3) := by decide +kernel
theorem dJ1_canEncode_9a6ad_8 : decode cJ1_canEncode_9a6ad 8 = .ok (.if_icmp .gt 7, 3) := by decide +kernel
theorem dJ1_canEncode_9a6ad_11 : decode cJ1_canEncode_9a6ad 11 = .ok (.iconst 1, 1) := by decide +kernel
theorem dJ1_canEncode_9a6ad_12 : decode cJ1_canEncode_9a6ad 12 = .ok (.goto 4, 3) := by decide +kernel
theorem dJ1_canEncode_9a6ad_15 : decode cJ1_canEncode_9a6ad 15 = .ok (.iconst 0, 1) := by decide +kernel
theorem dJ1_canEncode_9a6ad_16 : decode cJ1_canEncode_9a6ad 16 = .ok (.ireturn, 1) := by decide +kernel
set_option maxRecDepth 20000 in
theorem ggJ1_indexOf_4cfef_J1_canEncode_9a6ad : GoodIn wsJ1_indexOf_4cfef wsJ1_canEncode_9a6ad := goodIn_r _ [11] (by decide +kernel) (by decide +kernel)
set_option maxRecDepth 20000 in
theorem gJ1_indexOf_4cfef_J1_canEncode_9a6ad : GoodIn wsJ1_indexOf_4cfef (va_wsS RJ1 88 yJ1_canEncode_9a6ad wsJ1_canEncode_9a6ad) := goodIn_app (goodIn_of _ (by decide +kernel)) ggJ1_indexOf_4cfef_J1_canEncode_9a6ad
set_option maxRecDepth 20000 in
theorem ggJ1_indexOf_4cfef_J1_indexOfChar_4cfef : GoodIn wsJ1_indexOf_4cfef wsJ1_indexOfChar_4cfef := goodIn_r _ [14] (by decide +kernel) (by decide +kernel)
set_option maxRecDepth 20000 in
theorem gJ1_indexOf_4cfef_J1_indexOfChar_4cfef : GoodIn wsJ1_indexOf_4cfef (va_wsS RJ1 95 yJ1_indexOfChar_4cfef wsJ1_indexOfChar_4cfef) := goodIn_app (goodIn_of _ (by decide +kernel)) ggJ1_indexOf_4cfef_J1_indexOfChar_4cfef
theorem dJ1_indexOf_4cfef_0 : decode cJ1_indexOf_4cfef 0 = .ok (.iload_n 1, 1) := by decide +kernel
theorem dJ1_indexOf_4cfef_1 : decode cJ1_indexOf_4cfef 1 = .ok (.invokestatic 88, 3) := by decide +kernel
theorem dJ1_indexOf_4cfef_4 : decode cJ1_indexOf_4cfef 4 = .ok (.ifCond .ne 5, 3) := by decide +kernel
theorem dJ1_indexOf_4cfef_7 : decode cJ1_indexOf_4cfef 7 = .ok (.iconst (-1), 1) := by decide +kernel
theorem dJ1_indexOf_4cfef_8 : decode cJ1_indexOf_4cfef 8 = .ok (.ireturn, 1) := by decide +kernel
theorem dJ1_indexOf_4cfef_9 : decode cJ1_indexOf_4cfef 9 = .ok (.iload_n 2, 1) := by decide +kernel
theorem dJ1_indexOf_4cfef_10 : decode cJ1_indexOf_4cfef 10 = .ok (.iconst 0, 1) := by decide +kernel
theorem dJ1_indexOf_4cfef_11 : decode cJ1_indexOf_4cfef 11 = .ok (.invokestatic 92, 3) := by decide +kernel
theorem dJ1_indexOf_4cfef_14 : decode cJ1_indexOf_4cfef 14 = .ok (.istore_n 2, 1) := by decide +kernel
theorem dJ1_indexOf_4cfef_15 : decode cJ1_indexOf_4cfef 15 = .ok (.iload_n 3, 1) := by decide +kernel
theorem dJ1_indexOf_4cfef_16 : decode cJ1_indexOf_4cfef 16 = .ok (.aload_n 0, 1) := by decide +kernel
theorem dJ1_indexOf_4cfef_17 : decode cJ1_indexOf_4cfef 17 = .ok (.arraylength, 1) := by decide +kernel
theorem dJ1_indexOf_4cfef_18 : decode cJ1_indexOf_4cfef 18 = .ok (.invokestatic 38, 3) := by decide +kernel
theorem dJ1_indexOf_4cfef_21 : decode cJ1_indexOf_4cfef 21 = .ok (.istore_n 3, 1) := by decide +kernel
theorem dJ1_indexOf_4cfef_22 : decode cJ1_indexOf_4cfef 22 = .ok (.iload_n 2, 1) := by decide +kernel
theorem dJ1_indexOf_4cfef_23 : decode cJ1_indexOf_4cfef 23 = .ok (.iload_n 3, 1) := by decide +kernel
theorem dJ1_indexOf_4cfef_24 : decode cJ1_indexOf_4cfef 24 = .ok (.if_icmp .lt 5, 3) := by decide +kernel
theorem dJ1_indexOf_4cfef_27 : decode cJ1_indexOf_4cfef 27 = .ok (.iconst (-1), 1) := by decide +kernel
theorem dJ1_indexOf_4cfef_28 : decode cJ1_indexOf_4cfef 28 = .ok (.ireturn, 1) := by decide +kernel
theorem dJ1_indexOf_4cfef_29 : decode cJ1_indexOf_4cfef 29 = .ok (.aload_n 0, 1) := by decide +kernel
theorem dJ1_indexOf_4cfef_30 : decode cJ1_indexOf_4cfef 30 = .ok (.iload_n 1, 1) := by decide +kernel
theorem dJ1_indexOf_4cfef_31 : decode cJ1_indexOf_4cfef 31 = .ok (.iload_n 2, 1) := by decide +kernel
theorem dJ1_indexOf_4cfef_32 : decode cJ1_indexOf_4cfef 32 = .ok (.iload_n 3, 1) := by decide +kernel
theorem dJ1_indexOf_4cfef_33 : decode cJ1_indexOf_4cfef 33 = .ok (.invokestatic 95, 3) := by decide +kernel
theorem dJ1_indexOf_4cfef_36 : decode cJ1_indexOf_4cfef 36 = .ok (.ireturn, 1) := by decide +kernel
theorem dJ1_indexOfChar_4cfef_0 : decode cJ1_indexOfChar_4cfef 0 = .ok (.iload_n 1, 1) := by decide +kernel
theorem dJ1_indexOfChar_4cfef_1 : decode cJ1_indexOfChar_4cfef 1 = .ok (.i2b, 1) := by decide +kernel
theorem dJ1_indexOfChar_4cfef_2 : decode cJ1_indexOfChar_4cfef 2 = .ok (.istore 4, 2) := by decide +kernel
theorem dJ1_indexOfChar_4cfef_4 : decode cJ1_indexOfChar_4cfef 4 = .ok (.iload_n 2, 1) := by decide +kernel
theorem dJ1_indexOfChar_4cfef_5 : decode cJ1_indexOfChar_4cfef 5 = .ok (.istore 5, 2) := by decide +kernel
theorem dJ1_indexOfChar_4cfef_7 : decode cJ1_indexOfChar_4cfef 7 = .ok (.iload 5, 2) := by decide +kernel
theorem dJ1_indexOfChar_4cfef_9 : decode cJ1_indexOfChar_4cfef 9 = .ok (.iload_n 3, 1) := by decide +kernel
theorem dJ1_indexOfChar_4cfef_10 : decode cJ1_indexOfChar_4cfef 10 = .ok (.if_icmp .ge 21, 3) := by decide +kernel
theorem dJ1_indexOfChar_4cfef_13 : decode cJ1_indexOfChar_4cfef 13 = .ok (.aload_n 0, 1) := by decide +kernel
theorem dJ1_indexOfChar_4cfef_14 : decode cJ1_indexOfChar_4cfef 14 = .ok (.iload 5, 2) := by decide +kernel
theorem dJ1_indexOfChar_4cfef_16 : decode cJ1_indexOfChar_4cfef 16 = .ok (.baload, 1) := by decide +kernel
theorem dJ1_indexOfChar_4cfef_17 : decode cJ1_indexOfChar_4cfef 17 = .ok (.iload 4, 2) := by decide +kernel
theorem dJ1_indexOfChar_4cfef_19 : decode cJ1_indexOfChar_4cfef 19 = .ok (.if_icmp .ne 6, 3) := by decide +kernel
theorem dJ1_indexOfChar_4cfef_22 : decode cJ1_indexOfChar_4cfef 22 = .ok (.iload 5, 2) := by decide +kernel
theorem dJ1_indexOfChar_4cfef_24 : decode cJ1_indexOfChar_4cfef 24 = .ok (.ireturn, 1) := by decide +kernel
theorem dJ1_indexOfChar_4cfef_25 : decode cJ1_indexOfChar_4cfef 25 = .ok (.iinc 5 1, 3) := by decide +kernel
theorem dJ1_indexOfChar_4cfef_28 : decode cJ1_indexOfChar_4cfef 28 = .ok (.goto (-21), 3) := by decide +kernel
theorem dJ1_indexOfChar_4cfef_31 : decode cJ1_indexOfChar_4cfef 31 = .ok (.iconst (-1), 1) := by decide +kernel
theorem dJ1_indexOfChar_4cfef_32 : decode cJ1_indexOfChar_4cfef 32 = .ok (.ireturn, 1) := by decide +kernel
set_option maxRecDepth 20000 in
theorem ggJ2_getChar_3b067_J2_length_9d52b : GoodIn wsJ2_getChar_3b067 wsJ2_length_9d52b := goodIn_r _ [7] (by decide +kernel) (by decide +kernel)
set_option maxRecDepth 20000 in
theorem gJ2_getChar_3b067_J2_length_9d52b : GoodIn wsJ2_getChar_3b067 (va_wsS RJ2 48 yJ2_length_9d52b wsJ2_length_9d52b) := goodIn_app (goodIn_of _ (by decide +kernel)) ggJ2_getChar_3b067_J2_length_9d52b
theorem dJ2_getChar_3b067_0 : decode cJ2_getChar_3b067 0 = .ok (.getstatic 44, 3) := by decide +kernel
theorem dJ2_getChar_3b067_3 : decode cJ2_getChar_3b067 3 = .ok (.ifCond .ne 25, 3) := by decide +kernel
theorem dJ2_getChar_3b067_6 : decode cJ2_getChar_3b067 6 = .ok (.iload_n 1, 1) := by decide +kernel
theorem dJ2_getChar_3b067_7 : decode cJ2_getChar_3b067 7 = .ok (.ifCond .lt 11, 3) := by decide +kernel
theorem dJ2_getChar_3b067_10 : decode cJ2_getChar_3b067 10 = .ok (.iload_n 1, 1) := by decide +kernel
theorem dJ2_getChar_3b067_11 : decode cJ2_getChar_3b067 11 = .ok (.aload_n 0, 1) := by decide +kernel
theorem dJ2_getChar_3b067_12 : decode cJ2_getChar_3b067 12 = .ok (.invokestatic 48, 3) := by decide +kernel
theorem dJ2_getChar_3b067_15 : decode cJ2_getChar_3b067 15 = .ok (.if_icmp .lt 13, 3) := by decide +kernel
theorem dJ2_getChar_3b067_18 : decode cJ2_getChar_3b067 18 = .ok (.new 52, 3) := by decide +kernel
theorem dJ2_getChar_3b067_21 : decode cJ2_getChar_3b067 21 = .ok (.dup, 1) := by decide +kernel
theorem dJ2_getChar_3b067_22 : decode cJ2_getChar_3b067 22 = .ok (.ldc 54, 2) := by decide +kernel
theorem dJ2_getChar_3b067_24 : decode cJ2_getChar_3b067 24 = .ok (.invokespecial 56, 3) := by decide +kernel
theorem dJ2_getChar_3b067_27 : decode cJ2_getChar_3b067 27 = .ok (.athrow, 1) := by decide +kernel
theorem dJ2_getChar_3b067_28 : decode cJ2_getChar_3b067 28 = .ok (.iload_n 1, 1) := by decide +kernel
theorem dJ2_getChar_3b067_29 : decode cJ2_getChar_3b067 29 = .ok (.iconst 1, 1) := by decide +kernel
theorem dJ2_getChar_3b067_30 : decode cJ2_getChar_3b067 30 = .ok (.ishl, 1) := by decide +kernel
theorem dJ2_getChar_3b067_31 : decode cJ2_getChar_3b067 31 = .ok (.istore_n 1, 1) := by decide +kernel
theorem dJ2_getChar_3b067_32 : decode cJ2_getChar_3b067 32 = .ok (.aload_n 0, 1) := by decide +kernel
theorem dJ2_getChar_3b067_33 : decode cJ2_getChar_3b067 33 = .ok (.iload_n 1, 1) := by decide +kernel
theorem dJ2_getChar_3b067_34 : decode cJ2_getChar_3b067 34 = .ok (.iinc 1 1, 3) := by decide +kernel
theorem dJ2_getChar_3b067_37 : decode cJ2_getChar_3b067 37 = .ok (.baload, 1) := by decide +kernel
theorem dJ2_getChar_3b067_38 : decode cJ2_getChar_3b067 38 = .ok (.sipush 255, 3) := by decide +kernel
theorem dJ2_getChar_3b067_41 : decode cJ2_getChar_3b067 41 = .ok (.iand, 1) := by decide +kernel
theorem dJ2_getChar_3b067_42 : decode cJ2_getChar_3b067 42 = .ok (.getstatic 59, 3) := by decide +kernel
theorem dJ2_getChar_3b067_45 : decode cJ2_getChar_3b067 45 = .ok (.ishl, 1) := by decide +kernel
theorem dJ2_getChar_3b067_46 : decode cJ2_getChar_3b067 46 = .ok (.aload_n 0, 1) := by decide +kernel
theorem dJ2_getChar_3b067_47 : decode cJ2_getChar_3b067 47 = .ok (.iload_n 1, 1) := by decide +kernel
theorem dJ2_getChar_3b067_48 : decode cJ2_getChar_3b067 48 = .ok (.baload, 1) := by decide +kernel
theorem dJ2_getChar_3b067_49 : decode cJ2_getChar_3b067 49 = .ok (.sipush 255, 3) := by decide +kernel
theorem dJ2_getChar_3b067_52 : decode cJ2_getChar_3b067 52 = .ok (.iand, 1) := by decide +kernel
theorem dJ2_getChar_3b067_53 : decode cJ2_getChar_3b067 53 = .ok (.getstatic 63, 3) := by decide +kernel
theorem dJ2_getChar_3b067_56 : decode cJ2_getChar_3b067 56 = .ok (.ishl, 1) := by decide +kernel
theorem dJ2_getChar_3b067_57 : decode cJ2_getChar_3b067 57 = .ok (.ior, 1) := by decide +kernel
theorem dJ2_getChar_3b067_58 : decode cJ2_getChar_3b067 58 = .ok (.i2c, 1) := by decide +kernel
theorem dJ2_getChar_3b067_59 : decode cJ2_getChar_3b067 59 = .ok (.ireturn, 1) := by decide +kernel
theorem dJ2_length_9d52b_0 : decode cJ2_length_9d52b 0 = .ok (.aload_n 0, 1) := by decide +kernel
theorem dJ2_length_9d52b_1 : decode cJ2_length_9d52b 1 = .ok (.arraylength, 1) := by decide +kernel
theorem dJ2_length_9d52b_2 : decode cJ2_length_9d52b 2 = .ok (.iconst 1, 1) := by decide +kernel
theorem dJ2_length_9d52b_3 : decode cJ2_length_9d52b 3 = .ok (.ishr, 1) := by decide +kernel
theorem dJ2_length_9d52b_4 : decode cJ2_length_9d52b 4 = .ok (.ireturn, 1) := by decide +kernel
set_option maxRecDepth 20000 in
theorem ggJ2_indexOf_4cfef_J2_indexOfChar_4cfef : GoodIn wsJ2_indexOf_4cfef wsJ2_indexOfChar_4cfef := goodIn_r _ [12, 13, 14, 11, 15, 16, 17, 18, 19, 20, 21, 22, 23, 24, 25, 26, 27, 28, 29, 30, 31, 32, 33, 34, 35, 36] (by decide +kernel) (by decide +kernel)
set_option maxRecDepth 20000 in
theorem gJ2_indexOf_4cfef_J2_indexOfChar_4cfef : GoodIn wsJ2_indexOf_4cfef (va_wsS RJ2 228 yJ2_indexOfChar_4cfef wsJ2_indexOfChar_4cfef) := goodIn_app (goodIn_of _ (by decide +kernel)) ggJ2_indexOf_4cfef_J2_indexOfChar_4cfef
set_option maxRecDepth 20000 in
theorem ggJ2_indexOf_4cfef_J2_indexOfSupplementary_4cfef : GoodIn wsJ2_indexOf_4cfef wsJ2_indexOfSupplementary_4cfef := goodIn_r _ [39, 40, 41, 42, 43, 44, 45, 46, 47, 48, 49, 50, 51, 13, 14, 11, 15, 16, 17, 18, 19, 20, 21, 22, 23, 24, 25, 26, 27, 31, 32, 33, 34, 35, 36] (by decide +kernel) (by decide +kernel)
set_option maxRecDepth 20000 in
theorem gJ2_indexOf_4cfef_J2_indexOfSupplementary_4cfef : GoodIn wsJ2_indexOf_4cfef (va_wsS RJ2 232 yJ2_indexOfSupplementary_4cfef wsJ2_indexOfSupplementary_4cfef) := goodIn_app (goodIn_of _ (by decide +kernel)) ggJ2_indexOf_4cfef_J2_indexOfSupplementary_4cfef
theorem dJ2_indexOf_4cfef_0 : decode cJ2_indexOf_4cfef 0 = .ok (.iload_n 2, 1) := by decide +kernel
theorem dJ2_indexOf_4cfef_1 : decode cJ2_indexOf_4cfef 1 = .ok (.iconst 0, 1) := by decide +kernel
theorem dJ2_indexOf_4cfef_2 : decode cJ2_indexOf_4cfef 2 = .ok (.invokestatic 224, 3) := by decide +kernel
theorem dJ2_indexOf_4cfef_5 : decode cJ2_indexOf_4cfef 5 = .ok (.istore_n 2, 1) := by decide +kernel
theorem dJ2_indexOf_4cfef_6 : decode cJ2_indexOf_4cfef 6 = .ok (.iload_n 3, 1) := by decide +kernel
theorem dJ2_indexOf_4cfef_7 : decode cJ2_indexOf_4cfef 7 = .ok (.aload_n 0, 1) := by decide +kernel
theorem dJ2_indexOf_4cfef_8 : decode cJ2_indexOf_4cfef 8 = .ok (.arraylength, 1) := by decide +kernel
theorem dJ2_indexOf_4cfef_9 : decode cJ2_indexOf_4cfef 9 = .ok (.iconst 1, 1) := by decide +kernel
theorem dJ2_indexOf_4cfef_10 : decode cJ2_indexOf_4cfef 10 = .ok (.ishr, 1) := by decide +kernel
theorem dJ2_indexOf_4cfef_11 : decode cJ2_indexOf_4cfef 11 = .ok (.invokestatic 183, 3) := by decide +kernel
theorem dJ2_indexOf_4cfef_14 : decode cJ2_indexOf_4cfef 14 = .ok (.istore_n 3, 1) := by decide +kernel
theorem dJ2_indexOf_4cfef_15 : decode cJ2_indexOf_4cfef 15 = .ok (.iload_n 2, 1) := by decide +kernel
theorem dJ2_indexOf_4cfef_16 : decode cJ2_indexOf_4cfef 16 = .ok (.iload_n 3, 1) := by decide +kernel
theorem dJ2_indexOf_4cfef_17 : decode cJ2_indexOf_4cfef 17 = .ok (.if_icmp .lt 5, 3) := by decide +kernel
theorem dJ2_indexOf_4cfef_20 : decode cJ2_indexOf_4cfef 20 = .ok (.iconst (-1), 1) := by decide +kernel
theorem dJ2_indexOf_4cfef_21 : decode cJ2_indexOf_4cfef 21 = .ok (.ireturn, 1) := by decide +kernel
theorem dJ2_indexOf_4cfef_22 : decode cJ2_indexOf_4cfef 22 = .ok (.iload_n 1, 1) := by decide +kernel
theorem dJ2_indexOf_4cfef_23 : decode cJ2_indexOf_4cfef 23 = .ok (.ldc 227, 2) := by decide +kernel
theorem dJ2_indexOf_4cfef_25 : decode cJ2_indexOf_4cfef 25 = .ok (.if_icmp .ge 11, 3) := by decide +kernel
theorem dJ2_indexOf_4cfef_28 : decode cJ2_indexOf_4cfef 28 = .ok (.aload_n 0, 1) := by decide +kernel
theorem dJ2_indexOf_4cfef_29 : decode cJ2_indexOf_4cfef 29 = .ok (.iload_n 1, 1) := by decide +kernel
theorem dJ2_indexOf_4cfef_30 : decode cJ2_indexOf_4cfef 30 = .ok (.iload_n 2, 1) := by decide +kernel
theorem dJ2_indexOf_4cfef_31 : decode cJ2_indexOf_4cfef 31 = .ok (.iload_n 3, 1) := by decide +kernel
theorem dJ2_indexOf_4cfef_32 : decode cJ2_indexOf_4cfef 32 = .ok (.invokestatic 228, 3) := by decide +kernel
theorem dJ2_indexOf_4cfef_35 : decode cJ2_indexOf_4cfef 35 = .ok (.ireturn, 1) := by decide +kernel
theorem dJ2_indexOf_4cfef_36 : decode cJ2_indexOf_4cfef 36 = .ok (.aload_n 0, 1) := by decide +kernel
theorem dJ2_indexOf_4cfef_37 : decode cJ2_indexOf_4cfef 37 = .ok (.iload_n 1, 1) := by decide +kernel
theorem dJ2_indexOf_4cfef_38 : decode cJ2_indexOf_4cfef 38 = .ok (.iload_n 2, 1) := by decide +kernel
theorem dJ2_indexOf_4cfef_39 : decode cJ2_indexOf_4cfef 39 = .ok (.iload_n 3, 1) := by decide +kernel
theorem dJ2_indexOf_4cfef_40 : decode cJ2_indexOf_4cfef 40 = .ok (.invokestatic 232, 3) := by decide +kernel
theorem dJ2_indexOf_4cfef_43 : decode cJ2_indexOf_4cfef 43 = .ok (.ireturn, 1) := by decide +kernel
set_option maxRecDepth 20000 in
theorem ggJ2_indexOfChar_4cfef_J2_checkBoundsBeginEnd_d044e : GoodIn wsJ2_indexOfChar_4cfef wsJ2_checkBoundsBeginEnd_d044e := goodIn_r _ [4, 5, 6, 3, 7, 8, 9, 10, 11, 12, 13, 14, 15, 16] (by decide +kernel) (by decide +kernel)
set_option maxRecDepth 20000 in
theorem gJ2_indexOfChar_4cfef_J2_checkBoundsBeginEnd_d044e : GoodIn wsJ2_indexOfChar_4cfef (va_wsS RJ2 96 yJ2_checkBoundsBeginEnd_d044e wsJ2_checkBoundsBeginEnd_d044e) := goodIn_app (goodIn_of _ (by decide +kernel)) ggJ2_indexOfChar_4cfef_J2_checkBoundsBeginEnd_d044e
set_option maxRecDepth 20000 in
theorem ggJ2_indexOfChar_4cfef_J2_indexOfCharUnsafe_4cfef : GoodIn wsJ2_indexOfChar_4cfef wsJ2_indexOfCharUnsafe_4cfef := goodIn_r _ [19, 20, 21, 3, 22, 23, 24, 25, 5, 6, 7] (by decide +kernel) (by decide +kernel)
set_option maxRecDepth 20000 in
theorem gJ2_indexOfChar_4cfef_J2_indexOfCharUnsafe_4cfef : GoodIn wsJ2_indexOfChar_4cfef (va_wsS RJ2 244 yJ2_indexOfCharUnsafe_4cfef wsJ2_indexOfCharUnsafe_4cfef) := goodIn_app (goodIn_of _ (by decide +kernel)) ggJ2_indexOfChar_4cfef_J2_indexOfCharUnsafe_4cfef
theorem dJ2_indexOfChar_4cfef_0 : decode cJ2_indexOfChar_4cfef 0 = .ok (.iload_n 2, 1) := by decide +kernel
theorem dJ2_indexOfChar_4cfef_1 : decode cJ2_indexOfChar_4cfef 1 = .ok (.iload_n 3, 1) := by decide +kernel
theorem dJ2_indexOfChar_4cfef_2 : decode cJ2_indexOfChar_4cfef 2 = .ok (.aload_n 0, 1) := by decide +kernel
theorem dJ2_indexOfChar_4cfef_3 : decode cJ2_indexOfChar_4cfef 3 = .ok (.invokestatic 96, 3) := by decide +kernel
theorem dJ2_indexOfChar_4cfef_6 : decode cJ2_indexOfChar_4cfef 6 = .ok (.aload_n 0, 1) := by decide +kernel
theorem dJ2_indexOfChar_4cfef_7 : decode cJ2_indexOfChar_4cfef 7 = .ok (.iload_n 1, 1) := by decide +kernel
theorem dJ2_indexOfChar_4cfef_8 : decode cJ2_indexOfChar_4cfef 8 = .ok (.iload_n 2, 1) := by decide +kernel
theorem dJ2_indexOfChar_4cfef_9 : decode cJ2_indexOfChar_4cfef 9 = .ok (.iload_n 3, 1) := by decide +kernel
theorem dJ2_indexOfChar_4cfef_10 : decode cJ2_indexOfChar_4cfef 10 = .ok (.invokestatic 244, 3) := by decide +kernel
theorem dJ2_indexOfChar_4cfef_13 : decode cJ2_indexOfChar_4cfef 13 = .ok (.ireturn, 1) := by decide +kernel
set_option maxRecDepth 20000 in
theorem ggJ2_indexOfCharUnsafe_4cfef_J2_getChar_3b067 : GoodIn wsJ2_indexOfCharUnsafe_4cfef wsJ2_getChar_3b067 := goodIn_r _ [4, 5, 6, 7, 8, 9, 3, 10] (by decide +kernel) (by decide +kernel)
set_option maxRecDepth 20000 in
theorem gJ2_indexOfCharUnsafe_4cfef_J2_getChar_3b067 : GoodIn wsJ2_indexOfCharUnsafe_4cfef (va_wsS RJ2 71 yJ2_getChar_3b067 wsJ2_getChar_3b067) := goodIn_app (goodIn_of _ (by decide +kernel)) ggJ2_indexOfCharUnsafe_4cfef_J2_getChar_3b067
theorem dJ2_indexOfCharUnsafe_4cfef_0 : decode cJ2_indexOfCharUnsafe_4cfef 0 = .ok (.iload_n 2, 1) := by decide +kernel
theorem dJ2_indexOfCharUnsafe_4cfef_1 : decode cJ2_indexOfCharUnsafe_4cfef 1 = .ok (.istore 4, 2) := by decide +kernel
theorem dJ2_indexOfCharUnsafe_4cfef_3 : decode cJ2_indexOfCharUnsafe_4cfef 3 = .ok (.iload 4, 2) := by decide +kernel
theorem dJ2_indexOfCharUnsafe_4cfef_5 : decode cJ2_indexOfCharUnsafe_4cfef 5 = .ok (.iload_n 3, 1) := by decide +kernel
theorem dJ2_indexOfCharUnsafe_4cfef_6 : decode cJ2_indexOfCharUnsafe_4cfef 6 = .ok (.if_icmp .ge 22, 3) := by decide +kernel
theorem dJ2_indexOfCharUnsafe_4cfef_9 : decode cJ2_indexOfCharUnsafe_4cfef 9 = .ok (.aload_n 0, 1) := by decide +kernel
theorem dJ2_indexOfCharUnsafe_4cfef_10 : decode cJ2_indexOfCharUnsafe_4cfef 10 = .ok (.iload 4, 2) := by decide +kernel
theorem dJ2_indexOfCharUnsafe_4cfef_12 : decode cJ2_indexOfCharUnsafe_4cfef 12 = .ok (.invokestatic 71, 3) := by decide +kernel
theorem dJ2_indexOfCharUnsafe_4cfef_15 : decode cJ2_indexOfCharUnsafe_4cfef 15 = .ok (.iload_n 1, 1) := by decide +kernel
theorem dJ2_indexOfCharUnsafe_4cfef_16 : decode cJ2_indexOfCharUnsafe_4cfef 16 = .ok (.if_icmp .ne 6, 3) := by decide +kernel
theorem dJ2_indexOfCharUnsafe_4cfef_19 : decode cJ2_indexOfCharUnsafe_4cfef 19 = .ok (.iload 4, 2) := by decide +kernel
theorem dJ2_indexOfCharUnsafe_4cfef_21 : decode cJ2_indexOfCharUnsafe_4cfef 21 = .ok (.ireturn, 1) := by decide +kernel
theorem dJ2_indexOfCharUnsafe_4cfef_22 : decode cJ2_indexOfCharUnsafe_4cfef 22 = .ok (.iinc 4 1, 3) := by decide +kernel
theorem dJ2_indexOfCharUnsafe_4cfef_25 : decode cJ2_indexOfCharUnsafe_4cfef 25 = .ok (.goto (-22), 3) := by decide +kernel
theorem dJ2_indexOfCharUnsafe_4cfef_28 : decode cJ2_indexOfCharUnsafe_4cfef 28 = .ok (.iconst (-1), 1) := by decide +kernel
theorem dJ2_indexOfCharUnsafe_4cfef_29 : decode cJ2_indexOfCharUnsafe_4cfef 29 = .ok (.ireturn, 1) := by decide +kernel
set_option maxRecDepth 20000 in
theorem ggJ2_indexOfSupplementary_4cfef_J11_isValidCodePoint_9a6ad : GoodIn wsJ2_indexOfSupplementary_4cfef wsJ11_isValidCodePoint_9a6ad := goodIn_r _ [4] (by decide +kernel) (by decide +kernel)
set_option maxRecDepth 20000 in
theorem gJ2_indexOfSupplementary_4cfef_J11_isValidCodePoint_9a6ad : GoodIn wsJ2_indexOfSupplementary_4cfef (va_wsS RJ2 164 yJ11_isValidCodePoint_9a6ad wsJ11_isValidCodePoint_9a6ad) := goodIn_app (goodIn_of _ (by decide +kernel)) ggJ2_indexOfSupplementary_4cfef_J11_isValidCodePoint_9a6ad
set_option maxRecDepth 20000 in
theorem ggJ2_indexOfSupplementary_4cfef_J11_highSurrogate_5068e : GoodIn wsJ2_indexOfSupplementary_4cfef wsJ11_highSurrogate_5068e := goodIn_r _ [7, 8] (by decide +kernel) (by decide +kernel)
set_option maxRecDepth 20000 in
theorem gJ2_indexOfSupplementary_4cfef_J11_highSurrogate_5068e : GoodIn wsJ2_indexOfSupplementary_4cfef (va_wsS RJ2 157 yJ11_highSurrogate_5068e wsJ11_highSurrogate_5068e) := goodIn_app (goodIn_of _ (by decide +kernel)) ggJ2_indexOfSupplementary_4cfef_J11_highSurrogate_5068e
set_option maxRecDepth 20000 in
theorem ggJ2_indexOfSupplementary_4cfef_J11_lowSurrogate_5068e : GoodIn wsJ2_indexOfSupplementary_4cfef wsJ11_lowSurrogate_5068e := goodIn_r _ [11, 12] (by decide +kernel) (by decide +kernel)
set_option maxRecDepth 20000 in
theorem gJ2_indexOfSupplementary_4cfef_J11_lowSurrogate_5068e : GoodIn wsJ2_indexOfSupplementary_4cfef (va_wsS RJ2 161 yJ11_lowSurrogate_5068e wsJ11_lowSurrogate_5068e) := goodIn_app (goodIn_of _ (by decide +kernel)) ggJ2_indexOfSupplementary_4cfef_J11_lowSurrogate_5068e
set_option maxRecDepth 20000 in
theorem ggJ2_indexOfSupplementary_4cfef_J2_checkBoundsBeginEnd_d044e : GoodIn wsJ2_indexOfSupplementary_4cfef wsJ2_checkBoundsBeginEnd_d044e := goodIn_r _ [16, 17, 18, 15, 19, 20, 21, 22, 23, 24, 25, 26, 27, 28] (by decide +kernel) (by decide +kernel)
set_option maxRecDepth 20000 in
theorem gJ2_indexOfSupplementary_4cfef_J2_checkBoundsBeginEnd_d044e : GoodIn wsJ2_indexOfSupplementary_4cfef (va_wsS RJ2 96 yJ2_checkBoundsBeginEnd_d044e wsJ2_checkBoundsBeginEnd_d044e) := goodIn_app (goodIn_of _ (by decide +kernel)) ggJ2_indexOfSupplementary_4cfef_J2_checkBoundsBeginEnd_d044e
set_option maxRecDepth 20000 in
theorem ggJ2_indexOfSupplementary_4cfef_J2_getChar_3b067 : GoodIn wsJ2_indexOfSupplementary_4cfef wsJ2_getChar_3b067 := goodIn_r _ [31, 32, 33, 34, 17, 18, 15, 19] (by decide +kernel) (by decide +kernel)
set_option maxRecDepth 20000 in
theorem gJ2_indexOfSupplementary_4cfef_J2_getChar_3b067 : GoodIn wsJ2_indexOfSupplementary_4cfef (va_wsS RJ2 71 yJ2_getChar_3b067 wsJ2_getChar_3b067) := goodIn_app (goodIn_of _ (by decide +kernel)) ggJ2_indexOfSupplementary_4cfef_J2_getChar_3b067
theorem dJ2_indexOfSupplementary_4cfef_0 : decode cJ2_indexOfSupplementary_4cfef 0 = .ok (.iload_n 1, 1) := by decide +kernel
theorem dJ2_indexOfSupplementary_4cfef_1 : decode cJ2_indexOfSupplementary_4cfef 1 = .ok (.invokestatic 164, 3) := by decide +kernel
theorem dJ2_indexOfSupplementary_4cfef_4 : decode cJ2_indexOfSupplementary_4cfef 4 = .ok (.ifCond .eq 65, 3) := by decide +kernel
theorem dJ2_indexOfSupplementary_4cfef_7 : decode cJ2_indexOfSupplementary_4cfef 7 = .ok (.iload_n 1, 1) := by decide +kernel
theorem dJ2_indexOfSupplementary_4cfef_8 : decode cJ2_indexOfSupplementary_4cfef 8 = .ok (.invokestatic 157, 3) := by decide +kernel
theorem dJ2_indexOfSupplementary_4cfef_11 : decode cJ2_indexOfSupplementary_4cfef 11 = .ok (.istore 4, 2) := by decide +kernel
theorem dJ2_indexOfSupplementary_4cfef_13 : decode cJ2_indexOfSupplementary_4cfef 13 = .ok (.iload_n 1, 1) := by decide +kernel
theorem dJ2_indexOfSupplementary_4cfef_14 : decode cJ2_indexOfSupplementary_4cfef 14 = .ok (.invokestatic 161, 3) := by decide +kernel
theorem dJ2_indexOfSupplementary_4cfef_17 : decode cJ2_indexOfSupplementary_4cfef 17 = .ok (.istore 5, 2) := by decide +kernel
theorem dJ2_indexOfSupplementary_4cfef_19 : decode cJ2_indexOfSupplementary_4cfef 19 = .ok (.iload_n 2, 1) := by decide +kernel
theorem dJ2_indexOfSupplementary_4cfef_20 : decode cJ2_indexOfSupplementary_4cfef 20 = .ok (.iload_n 3, 1) := by decide +kernel
theorem dJ2_indexOfSupplementary_4cfef_21 : decode cJ2_indexOfSupplementary_4cfef 21 = .ok (.aload_n 0, 1) := by decide +kernel
theorem dJ2_indexOfSupplementary_4cfef_22 : decode cJ2_indexOfSupplementary_4cfef 22 = .ok (.invokestatic 96, 3) := by decide +kernel
theorem dJ2_indexOfSupplementary_4cfef_25 : decode cJ2_indexOfSupplementary_4cfef 25 = .ok (.iload_n 2, 1) := by decide +kernel
theorem dJ2_indexOfSupplementary_4cfef_26 : decode cJ2_indexOfSupplementary_4cfef 26 = .ok (.istore 6, 2) := by decide +kernel
theorem dJ2_indexOfSupplementary_4cfef_28 : decode cJ2_indexOfSupplementary_4cfef 28 = .ok (.iload 6, 2) := by decide +kernel
theorem dJ2_indexOfSupplementary_4cfef_30 : decode cJ2_indexOfSupplementary_4cfef 30 = .ok (.iload_n 3, 1) := by decide +kernel
theorem dJ2_indexOfSupplementary_4cfef_31 : decode cJ2_indexOfSupplementary_4cfef 31 = .ok (.iconst 1, 1) := by decide +kernel
theorem dJ2_indexOfSupplementary_4cfef_32 : decode cJ2_indexOfSupplementary_4cfef 32 = .ok (.isub, 1) := by decide +kernel
theorem dJ2_indexOfSupplementary_4cfef_33 : decode cJ2_indexOfSupplementary_4cfef 33 = .ok (.if_icmp .ge 36, 3) := by decide +kernel
theorem dJ2_indexOfSupplementary_4cfef_36 : decode cJ2_indexOfSupplementary_4cfef 36 = .ok (.aload_n 0, 1) := by decide +kernel
theorem dJ2_indexOfSupplementary_4cfef_37 : decode cJ2_indexOfSupplementary_4cfef 37 = .ok (.iload 6, 2) := by decide +kernel
theorem dJ2_indexOfSupplementary_4cfef_39 : decode cJ2_indexOfSupplementary_4cfef 39 = .ok (.invokestatic 71, 3) := by decide +kernel
theorem dJ2_indexOfSupplementary_4cfef_42 : decode cJ2_indexOfSupplementary_4cfef 42 = .ok (.iload 4, 2) := by decide +kernel
theorem dJ2_indexOfSupplementary_4cfef_44 : decode cJ2_indexOfSupplementary_4cfef 44 = .ok (.if_icmp .ne 19, 3) := by decide +kernel
theorem dJ2_indexOfSupplementary_4cfef_47 : decode cJ2_indexOfSupplementary_4cfef 47 = .ok (.aload_n 0, 1) := by decide +kernel
theorem dJ2_indexOfSupplementary_4cfef_48 : decode cJ2_indexOfSupplementary_4cfef 48 = .ok (.iload 6, 2) := by decide +kernel
theorem dJ2_indexOfSupplementary_4cfef_50 : decode cJ2_indexOfSupplementary_4cfef 50 = .ok (.iconst 1, 1) := by decide +kernel
theorem dJ2_indexOfSupplementary_4cfef_51 : decode cJ2_indexOfSupplementary_4cfef 51 = .ok (.iadd, 1) := by decide +kernel
theorem dJ2_indexOfSupplementary_4cfef_52 : decode cJ2_indexOfSupplementary_4cfef 52 = .ok (.invokestatic 71, 3) := by decide +kernel
theorem dJ2_indexOfSupplementary_4cfef_55 : decode cJ2_indexOfSupplementary_4cfef 55 = .ok (.iload 5, 2) := by decide +kernel
theorem dJ2_indexOfSupplementary_4cfef_57 : decode cJ2_indexOfSupplementary_4cfef 57 = .ok (.if_icmp .ne 6, 3) := by decide +kernel
theorem dJ2_indexOfSupplementary_4cfef_60 : decode cJ2_indexOfSupplementary_4cfef 60 = .ok (.iload 6, 2) := by decide +kernel
theorem dJ2_indexOfSupplementary_4cfef_62 : decode cJ2_indexOfSupplementary_4cfef 62 = .ok (.ireturn, 1) := by decide +kernel
theorem dJ2_indexOfSupplementary_4cfef_63 : decode cJ2_indexOfSupplementary_4cfef 63 = .ok (.iinc 6 1, 3) := by decide +kernel
theorem dJ2_indexOfSupplementary_4cfef_66 : decode cJ2_indexOfSupplementary_4cfef 66 = .ok (.goto (-38), 3) := by decide +kernel
theorem dJ2_indexOfSupplementary_4cfef_69 : decode cJ2_indexOfSupplementary_4cfef 69 = .ok (.iconst (-1), 1) := by decide +kernel
theorem dJ2_indexOfSupplementary_4cfef_70 : decode cJ2_indexOfSupplementary_4cfef 70 = .ok (.ireturn, 1) := by decide +kernel
set_option maxRecDepth 20000 in
theorem ggJ2_charAt_3b067_J2_checkIndex_2214a : GoodIn wsJ2_charAt_3b067 wsJ2_checkIndex_2214a := goodIn_r _ [4, 5, 6, 3, 7, 8, 9, 10, 11, 12, 13, 14, 15, 16] (by decide +kernel) (by decide +kernel)
set_option maxRecDepth 20000 in
theorem gJ2_charAt_3b067_J2_checkIndex_2214a : GoodIn wsJ2_charAt_3b067 (va_wsS RJ2 67 yJ2_checkIndex_2214a wsJ2_checkIndex_2214a) := goodIn_app (goodIn_of _ (by decide +kernel)) ggJ2_charAt_3b067_J2_checkIndex_2214a
set_option maxRecDepth 20000 in
theorem ggJ2_charAt_3b067_J2_getChar_3b067 : GoodIn wsJ2_charAt_3b067 wsJ2_getChar_3b067 := goodIn_r _ [19, 20, 21, 22, 5, 6, 3, 7] (by decide +kernel) (by decide +kernel)
set_option maxRecDepth 20000 in
theorem gJ2_charAt_3b067_J2_getChar_3b067 : GoodIn wsJ2_charAt_3b067 (va_wsS RJ2 71 yJ2_getChar_3b067 wsJ2_getChar_3b067) := goodIn_app (goodIn_of _ (by decide +kernel)) ggJ2_charAt_3b067_J2_getChar_3b067
theorem dJ2_charAt_3b067_0 : decode cJ2_charAt_3b067 0 = .ok (.iload_n 1, 1) := by decide +kernel
theorem dJ2_charAt_3b067_1 : decode cJ2_charAt_3b067 1 = .ok (.aload_n 0, 1) := by decide +kernel
theorem dJ2_charAt_3b067_2 : decode cJ2_charAt_3b067 2 = .ok (.invokestatic 67, 3) := by decide +kernel
theorem dJ2_charAt_3b067_5 : decode cJ2_charAt_3b067 5 = .ok (.aload_n 0, 1) := by decide +kernel
theorem dJ2_charAt_3b067_6 : decode cJ2_charAt_3b067 6 = .ok (.iload_n 1, 1) := by decide +kernel
theorem dJ2_charAt_3b067_7 : decode cJ2_charAt_3b067 7 = .ok (.invokestatic 71, 3) := by decide +kernel
theorem dJ2_charAt_3b067_10 : decode cJ2_charAt_3b067 10 = .ok (.ireturn, 1) := by decide +kernel
set_option maxRecDepth 20000 in
theorem ggJ2_checkIndex_2214a_J2_length_9d52b : GoodIn wsJ2_checkIndex_2214a wsJ2_length_9d52b := goodIn_r _ [4] (by decide +kernel) (by decide +kernel)
set_option maxRecDepth 20000 in
theorem gJ2_checkIndex_2214a_J2_length_9d52b : GoodIn wsJ2_checkIndex_2214a (va_wsS RJ2 48 yJ2_length_9d52b wsJ2_length_9d52b) := goodIn_app (goodIn_of _ (by decide +kernel)) ggJ2_checkIndex_2214a_J2_length_9d52b
set_option maxRecDepth 20000 in
theorem ggJ2_checkIndex_2214a_J0_checkIndex_df160 : GoodIn wsJ2_checkIndex_2214a wsJ0_checkIndex_df160 := goodIn_r _ [8, 9, 10, 11, 12, 13] (by decide +kernel) (by decide +kernel)
set_option maxRecDepth 20000 in
theorem gJ2_checkIndex_2214a_J0_checkIndex_df160 : GoodIn wsJ2_checkIndex_2214a (va_wsS RJ2 414 yJ0_checkIndex_df160 wsJ0_checkIndex_df160) := goodIn_app (goodIn_of _ (by decide +kernel)) ggJ2_checkIndex_2214a_J0_checkIndex_df160
theorem dJ2_checkIndex_2214a_0 : decode cJ2_checkIndex_2214a 0 = .ok (.iload_n 0, 1) := by decide +kernel
theorem dJ2_checkIndex_2214a_1 : decode cJ2_checkIndex_2214a 1 = .ok (.aload_n 1, 1) := by decide +kernel
theorem dJ2_checkIndex_2214a_2 : decode cJ2_checkIndex_2214a 2 = .ok (.invokestatic 48, 3) := by decide +kernel
theorem dJ2_checkIndex_2214a_5 : decode cJ2_checkIndex_2214a 5 = .ok (.invokestatic 414, 3) := by decide +kernel
theorem dJ2_checkIndex_2214a_8 : decode cJ2_checkIndex_2214a 8 = .ok (.return_, 1) := by decide +kernel
set_option maxRecDepth 20000 in
theorem ggJ2_checkBoundsBeginEnd_d044e_J2_length_9d52b : GoodIn wsJ2_checkBoundsBeginEnd_d044e wsJ2_length_9d52b := goodIn_r _ [4] (by decide +kernel) (by decide +kernel)
set_option maxRecDepth 20000 in
theorem gJ2_checkBoundsBeginEnd_d044e_J2_length_9d52b : GoodIn wsJ2_checkBoundsBeginEnd_d044e (va_wsS RJ2 48 yJ2_length_9d52b wsJ2_length_9d52b) := goodIn_app (goodIn_of _ (by decide +kernel)) ggJ2_checkBoundsBeginEnd_d044e_J2_length_9d52b
set_option maxRecDepth 20000 in
theorem ggJ2_checkBoundsBeginEnd_d044e_J0_checkBoundsBeginEnd_23922 : GoodIn wsJ2_checkBoundsBeginEnd_d044e wsJ0_checkBoundsBeginEnd_23922 := goodIn_r _ [8, 9, 10, 11, 12, 13] (by decide +kernel) (by decide +kernel)
set_option maxRecDepth 20000 in
theorem gJ2_checkBoundsBeginEnd_d044e_J0_checkBoundsBeginEnd_23922 : GoodIn wsJ2_checkBoundsBeginEnd_d044e (va_wsS RJ2 241 yJ0_checkBoundsBeginEnd_23922 wsJ0_checkBoundsBeginEnd_23922) := goodIn_app (goodIn_of _ (by decide +kernel)) ggJ2_checkBoundsBeginEnd_d044e_J0_checkBoundsBeginEnd_23922
theorem dJ2_checkBoundsBeginEnd_d044e_0 : decode cJ2_checkBoundsBeginEnd_d044e 0 = .ok (.iload_n 0, 1) := by decide +kernel
theorem dJ2_checkBoundsBeginEnd_d044e_1 : decode cJ2_checkBoundsBeginEnd_d044e 1 = .ok (.iload_n 1, 1) := by decide +kernel
theorem dJ2_checkBoundsBeginEnd_d044e_2 : decode cJ2_checkBoundsBeginEnd_d044e 2 = .ok (.aload_n 2, 1) := by decide +kernel
theorem dJ2_checkBoundsBeginEnd_d044e_3 : decode cJ2_checkBoundsBeginEnd_d044e 3 = .ok (.invokestatic 48, 3) := by decide +kernel
theorem dJ2_checkBoundsBeginEnd_d044e_6 : decode cJ2_checkBoundsBeginEnd_d044e 6 = .ok (.invokestatic 241, 3) := by decide +kernel
theorem dJ2_checkBoundsBeginEnd_d044e_9 : decode cJ2_checkBoundsBeginEnd_d044e 9 = .ok (.return_, 1) := by decide +kernel
theorem dJ7_fill_53178_0 : decode cJ7_fill_53178 0 = .ok (.iconst 0, 1) := by decide +kernel
theorem dJ7_fill_53178_1 : decode cJ7_fill_53178 1 = .ok (.istore_n 2, 1) := by decide +kernel
theorem dJ7_fill_53178_2 : decode cJ7_fill_53178 2 = .ok (.aload_n 0, 1) := by decide +kernel
theorem dJ7_fill_53178_3 : decode cJ7_fill_53178 3 = .ok (.arraylength, 1) := by decide +kernel
theorem dJ7_fill_53178_4 : decode cJ7_fill_53178 4 = .ok (.istore_n 3, 1) := by decide +kernel
theorem dJ7_fill_53178_5 : decode cJ7_fill_53178 5 = .ok (.iload_n 2, 1) := by decide +kernel
theorem dJ7_fill_53178_6 : decode cJ7_fill_53178 6 = .ok (.iload_n 3, 1) := by decide +kernel
theorem dJ7_fill_53178_7 : decode cJ7_fill_53178 7 = .ok (.if_icmp .ge 13, 3) := by decide +kernel
theorem dJ7_fill_53178_10 : decode cJ7_fill_53178 10 = .ok (.aload_n 0, 1) := by decide +kernel
theorem dJ7_fill_53178_11 : decode cJ7_fill_53178 11 = .ok (.iload_n 2, 1) := by decide +kernel
theorem dJ7_fill_53178_12 : decode cJ7_fill_53178 12 = .ok (.iload_n 1, 1) := by decide +kernel
theorem dJ7_fill_53178_13 : decode cJ7_fill_53178 13 = .ok (.iastore, 1) := by decide +kernel
theorem dJ7_fill_53178_14 : decode cJ7_fill_53178 14 = .ok (.iinc 2 1, 3) := by decide +kernel
theorem dJ7_fill_53178_17 : decode cJ7_fill_53178 17 = .ok (.goto (-12), 3) := by decide +kernel
theorem dJ7_fill_53178_20 : decode cJ7_fill_53178 20 = .ok (.return_, 1) := by decide +kernel
theorem dJ3_checkIndex_8e157_0 : decode cJ3_checkIndex_8e157 0 = .ok (.iload_n 0, 1) := by decide +kernel
theorem dJ3_checkIndex_8e157_1 : decode cJ3_checkIndex_8e157 1 = .ok (.ifCond .lt 8, 3) := by decide +kernel
theorem dJ3_checkIndex_8e157_4 : decode cJ3_checkIndex_8e157 4 = .ok (.iload_n 0, 1) := by decide +kernel
theorem dJ3_checkIndex_8e157_5 : decode cJ3_checkIndex_8e157 5 = .ok (.iload_n 1, 1) := by decide +kernel
theorem dJ3_checkIndex_8e157_6 : decode cJ3_checkIndex_8e157 6 = .ok (.if_icmp .lt 10, 3) := by decide +kernel
theorem dJ3_checkIndex_8e157_9 : decode cJ3_checkIndex_8e157 9 = .ok (.aload_n 2, 1) := by decide +kernel
theorem dJ3_checkIndex_8e157_10 : decode cJ3_checkIndex_8e157 10 = .ok (.iload_n 0, 1) := by decide +kernel
theorem dJ3_checkIndex_8e157_11 : decode cJ3_checkIndex_8e157 11 = .ok (.iload_n 1, 1) := by decide +kernel
theorem dJ3_checkIndex_8e157_12 : decode cJ3_checkIndex_8e157 12 = .ok (.invokestatic 95, 3) := by decide +kernel
theorem dJ3_checkIndex_8e157_15 : decode cJ3_checkIndex_8e157 15 = .ok (.athrow, 1) := by decide +kernel
theorem dJ3_checkIndex_8e157_16 : decode cJ3_checkIndex_8e157 16 = .ok (.iload_n 0, 1) := by decide +kernel
theorem dJ3_checkIndex_8e157_17 : decode cJ3_checkIndex_8e157 17 = .ok (.ireturn, 1) := by decide +kernel
theorem dJ3_checkFromToIndex_8c36e_0 : decode cJ3_checkFromToIndex_8c36e 0 = .ok (.iload_n 0, 1) := by decide +kernel
theorem dJ3_checkFromToIndex_8c36e_1 : decode cJ3_checkFromToIndex_8c36e 1 = .ok (.ifCond .lt 13, 3) := by decide +kernel
theorem dJ3_checkFromToIndex_8c36e_4 : decode cJ3_checkFromToIndex_8c36e 4 = .ok (.iload_n 0, 1) := by decide +kernel
theorem dJ3_checkFromToIndex_8c36e_5 : decode cJ3_checkFromToIndex_8c36e 5 = .ok (.iload_n 1, 1) := by decide +kernel
theorem dJ3_checkFromToIndex_8c36e_6 : decode cJ3_checkFromToIndex_8c36e 6 = .ok (.if_icmp .gt 8, 3) := by decide +kernel
theorem dJ3_checkFromToIndex_8c36e_9 : decode cJ3_checkFromToIndex_8c36e 9 = .ok (.iload_n 1, 1) := by decide +kernel
theorem dJ3_checkFromToIndex_8c36e_10 : decode cJ3_checkFromToIndex_8c36e 10 = .ok (.iload_n 2, 1) := by decide +kernel
theorem dJ3_checkFromToIndex_8c36e_11 : decode cJ3_checkFromToIndex_8c36e 11 = .ok (.if_icmp .le 11, 3) := by decide +kernel
theorem dJ3_checkFromToIndex_8c36e_14 : decode cJ3_checkFromToIndex_8c36e 14 = .ok (.aload_n 3, 1) := by decide +kernel
theorem dJ3_checkFromToIndex_8c36e_15 : decode cJ3_checkFromToIndex_8c36e 15 = .ok (.iload_n 0, 1) := by decide +kernel
theorem dJ3_checkFromToIndex_8c36e_16 : decode cJ3_checkFromToIndex_8c36e 16 = .ok (.iload_n 1, 1) := by decide +kernel
theorem dJ3_checkFromToIndex_8c36e_17 : decode cJ3_checkFromToIndex_8c36e 17 = .ok (.iload_n 2, 1) := by decide +kernel
theorem dJ3_checkFromToIndex_8c36e_18 : decode cJ3_checkFromToIndex_8c36e 18 = .ok (.invokestatic 99, 3) := by decide +kernel
theorem dJ3_checkFromToIndex_8c36e_21 : decode cJ3_checkFromToIndex_8c36e 21 = .ok (.athrow, 1) := by decide +kernel
theorem dJ3_checkFromToIndex_8c36e_22 : decode cJ3_checkFromToIndex_8c36e 22 = .ok (.iload_n 0, 1) := by decide +kernel
theorem dJ3_checkFromToIndex_8c36e_23 : decode cJ3_checkFromToIndex_8c36e 23 = .ok (.ireturn, 1) := by decide +kernel
