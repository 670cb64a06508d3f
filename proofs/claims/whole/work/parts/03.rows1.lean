theorem dX0_init_0 : decode cX0_init 0 = .ok (.aload_n 0, 1) := by decide +kernel
theorem dX0_init_1 : decode cX0_init 1 = .ok (.invokespecial 3, 3) := by decide +kernel
theorem dX0_init_4 : decode cX0_init 4 = .ok (.aload_n 0, 1) := by decide +kernel
theorem dX0_init_5 : decode cX0_init 5 = .ok (.bipush 12, 2) := by decide +kernel
theorem dX0_init_7 : decode cX0_init 7 = .ok (.newarray .int, 2) := by decide +kernel
theorem dX0_init_9 : decode cX0_init 9 = .ok (.putfield 9, 3) := by decide +kernel
theorem dX0_init_12 : decode cX0_init 12 = .ok (.aload_n 0, 1) := by decide +kernel
theorem dX0_init_13 : decode cX0_init 13 = .ok (.bipush 6, 2) := by decide +kernel
theorem dX0_init_15 : decode cX0_init 15 = .ok (.newarray .int, 2) := by decide +kernel
theorem dX0_init_17 : decode cX0_init 17 = .ok (.putfield 15, 3) := by decide +kernel
theorem dX0_init_20 : decode cX0_init 20 = .ok (.return_, 1) := by decide +kernel
set_option maxRecDepth 20000 in
theorem ggX0_close_X0_isBalanced : GoodIn wsX0_close wsX0_isBalanced := goodIn_r _ [10, 2, 1, 3, 4, 11, 12, 13, 14, 21, 22, 18, 19, 20] (by decide +kernel) (by decide +kernel)
set_option maxRecDepth 20000 in
theorem gX0_close_X0_isBalanced : GoodIn wsX0_close (wsV RX0 24 RX0 yX0_isBalanced wsX0_isBalanced) := goodIn_app (goodIn_of _ (by decide +kernel)) ggX0_close_X0_isBalanced
set_option maxRecDepth 20000 in
theorem ggX0_close_J7_fill_53178 : GoodIn wsX0_close wsJ7_fill_53178 := goodIn_r _ [14] (by decide +kernel) (by decide +kernel)
set_option maxRecDepth 20000 in
theorem gX0_close_J7_fill_53178 : GoodIn wsX0_close (va_wsS RX0 28 yJ7_fill_53178 wsJ7_fill_53178) := goodIn_app (goodIn_of _ (by decide +kernel)) ggX0_close_J7_fill_53178
set_option maxRecDepth 20000 in
theorem ggX0_close_X0_goesOn : GoodIn wsX0_close wsX0_goesOn := goodIn_r _ [17, 15, 16, 9] (by decide +kernel) (by decide +kernel)
set_option maxRecDepth 20000 in
theorem gX0_close_X0_goesOn : GoodIn wsX0_close (va_wsS RX0 40 yX0_goesOn wsX0_goesOn) := goodIn_app (goodIn_of _ (by decide +kernel)) ggX0_close_X0_goesOn
theorem dX0_close_0 : decode cX0_close 0 = .ok (.aload_n 1, 1) := by decide +kernel
theorem dX0_close_1 : decode cX0_close 1 = .ok (.getfield 18, 3) := by decide +kernel
theorem dX0_close_4 : decode cX0_close 4 = .ok (.iconst 1, 1) := by decide +kernel
theorem dX0_close_5 : decode cX0_close 5 = .ok (.if_icmp .lt 11, 3) := by decide +kernel
theorem dX0_close_8 : decode cX0_close 8 = .ok (.aload_n 0, 1) := by decide +kernel
theorem dX0_close_9 : decode cX0_close 9 = .ok (.aload_n 1, 1) := by decide +kernel
theorem dX0_close_10 : decode cX0_close 10 = .ok (.invokevirtual 24, 3) := by decide +kernel
theorem dX0_close_13 : decode cX0_close 13 = .ok (.ifCond .ne 5, 3) := by decide +kernel
theorem dX0_close_16 : decode cX0_close 16 = .ok (.iconst 0, 1) := by decide +kernel
theorem dX0_close_17 : decode cX0_close 17 = .ok (.ireturn, 1) := by decide +kernel
theorem dX0_close_18 : decode cX0_close 18 = .ok (.aload_n 0, 1) := by decide +kernel
theorem dX0_close_19 : decode cX0_close 19 = .ok (.getfield 15, 3) := by decide +kernel
theorem dX0_close_22 : decode cX0_close 22 = .ok (.iconst 0, 1) := by decide +kernel
theorem dX0_close_23 : decode cX0_close 23 = .ok (.invokestatic 28, 3) := by decide +kernel
theorem dX0_close_26 : decode cX0_close 26 = .ok (.iconst 1, 1) := by decide +kernel
theorem dX0_close_27 : decode cX0_close 27 = .ok (.istore_n 2, 1) := by decide +kernel
theorem dX0_close_28 : decode cX0_close 28 = .ok (.iload_n 2, 1) := by decide +kernel
theorem dX0_close_29 : decode cX0_close 29 = .ok (.aload_n 1, 1) := by decide +kernel
theorem dX0_close_30 : decode cX0_close 30 = .ok (.getfield 18, 3) := by decide +kernel
theorem dX0_close_33 : decode cX0_close 33 = .ok (.if_icmp .ge 31, 3) := by decide +kernel
theorem dX0_close_36 : decode cX0_close 36 = .ok (.aload_n 0, 1) := by decide +kernel
theorem dX0_close_37 : decode cX0_close 37 = .ok (.getfield 15, 3) := by decide +kernel
theorem dX0_close_40 : decode cX0_close 40 = .ok (.aload_n 1, 1) := by decide +kernel
theorem dX0_close_41 : decode cX0_close 41 = .ok (.getfield 34, 3) := by decide +kernel
theorem dX0_close_44 : decode cX0_close 44 = .ok (.iload_n 2, 1) := by decide +kernel
theorem dX0_close_45 : decode cX0_close 45 = .ok (.iaload, 1) := by decide +kernel
theorem dX0_close_46 : decode cX0_close 46 = .ok (.dup2, 1) := by decide +kernel
theorem dX0_close_47 : decode cX0_close 47 = .ok (.iaload, 1) := by decide +kernel
theorem dX0_close_48 : decode cX0_close 48 = .ok (.iconst 1, 1) := by decide +kernel
theorem dX0_close_49 : decode cX0_close 49 = .ok (.aload_n 1, 1) := by decide +kernel
theorem dX0_close_50 : decode cX0_close 50 = .ok (.getfield 37, 3) := by decide +kernel
theorem dX0_close_53 : decode cX0_close 53 = .ok (.iload_n 2, 1) := by decide +kernel
theorem dX0_close_54 : decode cX0_close 54 = .ok (.iaload, 1) := by decide +kernel
theorem dX0_close_55 : decode cX0_close 55 = .ok (.ishl, 1) := by decide +kernel
theorem dX0_close_56 : decode cX0_close 56 = .ok (.ior, 1) := by decide +kernel
theorem dX0_close_57 : decode cX0_close 57 = .ok (.iastore, 1) := by decide +kernel
theorem dX0_close_58 : decode cX0_close 58 = .ok (.iinc 2 1, 3) := by decide +kernel
theorem dX0_close_61 : decode cX0_close 61 = .ok (.goto (-33), 3) := by decide +kernel
theorem dX0_close_64 : decode cX0_close 64 = .ok (.aload_n 0, 1) := by decide +kernel
theorem dX0_close_65 : decode cX0_close 65 = .ok (.getfield 9, 3) := by decide +kernel
theorem dX0_close_68 : decode cX0_close 68 = .ok (.iconst 0, 1) := by decide +kernel
theorem dX0_close_69 : decode cX0_close 69 = .ok (.aload_n 1, 1) := by decide +kernel
theorem dX0_close_70 : decode cX0_close 70 = .ok (.getfield 34, 3) := by decide +kernel
theorem dX0_close_73 : decode cX0_close 73 = .ok (.iconst 0, 1) := by decide +kernel
theorem dX0_close_74 : decode cX0_close 74 = .ok (.iaload, 1) := by decide +kernel
theorem dX0_close_75 : decode cX0_close 75 = .ok (.iastore, 1) := by decide +kernel
theorem dX0_close_76 : decode cX0_close 76 = .ok (.aload_n 0, 1) := by decide +kernel
theorem dX0_close_77 : decode cX0_close 77 = .ok (.getfield 9, 3) := by decide +kernel
theorem dX0_close_80 : decode cX0_close 80 = .ok (.aload_n 0, 1) := by decide +kernel
theorem dX0_close_81 : decode cX0_close 81 = .ok (.getfield 15, 3) := by decide +kernel
theorem dX0_close_84 : decode cX0_close 84 = .ok (.aload_n 1, 1) := by decide +kernel
theorem dX0_close_85 : decode cX0_close 85 = .ok (.getfield 37, 3) := by decide +kernel
theorem dX0_close_88 : decode cX0_close 88 = .ok (.iconst 0, 1) := by decide +kernel
theorem dX0_close_89 : decode cX0_close 89 = .ok (.iaload, 1) := by decide +kernel
theorem dX0_close_90 : decode cX0_close 90 = .ok (.iconst 1, 1) := by decide +kernel
theorem dX0_close_91 : decode cX0_close 91 = .ok (.aload_n 1, 1) := by decide +kernel
theorem dX0_close_92 : decode cX0_close 92 = .ok (.getfield 18, 3) := by decide +kernel
theorem dX0_close_95 : decode cX0_close 95 = .ok (.invokestatic 40, 3) := by decide +kernel
theorem dX0_close_98 : decode cX0_close 98 = .ok (.ireturn, 1) := by decide +kernel
set_option maxRecDepth 20000 in
theorem ggX0_isBalanced_J7_fill_53178 : GoodIn wsX0_isBalanced wsJ7_fill_53178 := goodIn_r _ [8] (by decide +kernel) (by decide +kernel)
set_option maxRecDepth 20000 in
theorem gX0_isBalanced_J7_fill_53178 : GoodIn wsX0_isBalanced (va_wsS RX0 28 yJ7_fill_53178 wsJ7_fill_53178) := goodIn_app (goodIn_of _ (by decide +kernel)) ggX0_isBalanced_J7_fill_53178
theorem dX0_isBalanced_0 : decode cX0_isBalanced 0 = .ok (.aload_n 0, 1) := by decide +kernel
theorem dX0_isBalanced_1 : decode cX0_isBalanced 1 = .ok (.getfield 15, 3) := by decide +kernel
theorem dX0_isBalanced_4 : decode cX0_isBalanced 4 = .ok (.iconst 0, 1) := by decide +kernel
theorem dX0_isBalanced_5 : decode cX0_isBalanced 5 = .ok (.invokestatic 28, 3) := by decide +kernel
theorem dX0_isBalanced_8 : decode cX0_isBalanced 8 = .ok (.iconst 0, 1) := by decide +kernel
theorem dX0_isBalanced_9 : decode cX0_isBalanced 9 = .ok (.istore_n 2, 1) := by decide +kernel
theorem dX0_isBalanced_10 : decode cX0_isBalanced 10 = .ok (.iload_n 2, 1) := by decide +kernel
theorem dX0_isBalanced_11 : decode cX0_isBalanced 11 = .ok (.aload_n 1, 1) := by decide +kernel
theorem dX0_isBalanced_12 : decode cX0_isBalanced 12 = .ok (.getfield 18, 3) := by decide +kernel
theorem dX0_isBalanced_15 : decode cX0_isBalanced 15 = .ok (.if_icmp .ge 39, 3) := by decide +kernel
theorem dX0_isBalanced_18 : decode cX0_isBalanced 18 = .ok (.aload_n 0, 1) := by decide +kernel
theorem dX0_isBalanced_19 : decode cX0_isBalanced 19 = .ok (.getfield 15, 3) := by decide +kernel
theorem dX0_isBalanced_22 : decode cX0_isBalanced 22 = .ok (.aload_n 1, 1) := by decide +kernel
theorem dX0_isBalanced_23 : decode cX0_isBalanced 23 = .ok (.getfield 34, 3) := by decide +kernel
theorem dX0_isBalanced_26 : decode cX0_isBalanced 26 = .ok (.iload_n 2, 1) := by decide +kernel
theorem dX0_isBalanced_27 : decode cX0_isBalanced 27 = .ok (.iaload, 1) := by decide +kernel
theorem dX0_isBalanced_28 : decode cX0_isBalanced 28 = .ok (.dup2, 1) := by decide +kernel
theorem dX0_isBalanced_29 : decode cX0_isBalanced 29 = .ok (.iaload, 1) := by decide +kernel
theorem dX0_isBalanced_30 : decode cX0_isBalanced 30 = .ok (.iconst 1, 1) := by decide +kernel
theorem dX0_isBalanced_31 : decode cX0_isBalanced 31 = .ok (.iadd, 1) := by decide +kernel
theorem dX0_isBalanced_32 : decode cX0_isBalanced 32 = .ok (.iastore, 1) := by decide +kernel
theorem dX0_isBalanced_33 : decode cX0_isBalanced 33 = .ok (.aload_n 0, 1) := by decide +kernel
theorem dX0_isBalanced_34 : decode cX0_isBalanced 34 = .ok (.getfield 15, 3) := by decide +kernel
theorem dX0_isBalanced_37 : decode cX0_isBalanced 37 = .ok (.aload_n 1, 1) := by decide +kernel
theorem dX0_isBalanced_38 : decode cX0_isBalanced 38 = .ok (.getfield 37, 3) := by decide +kernel
theorem dX0_isBalanced_41 : decode cX0_isBalanced 41 = .ok (.iload_n 2, 1) := by decide +kernel
theorem dX0_isBalanced_42 : decode cX0_isBalanced 42 = .ok (.iaload, 1) := by decide +kernel
theorem dX0_isBalanced_43 : decode cX0_isBalanced 43 = .ok (.dup2, 1) := by decide +kernel
theorem dX0_isBalanced_44 : decode cX0_isBalanced 44 = .ok (.iaload, 1) := by decide +kernel
theorem dX0_isBalanced_45 : decode cX0_isBalanced 45 = .ok (.iconst 1, 1) := by decide +kernel
theorem dX0_isBalanced_46 : decode cX0_isBalanced 46 = .ok (.isub, 1) := by decide +kernel
theorem dX0_isBalanced_47 : decode cX0_isBalanced 47 = .ok (.iastore, 1) := by decide +kernel
theorem dX0_isBalanced_48 : decode cX0_isBalanced 48 = .ok (.iinc 2 1, 3) := by decide +kernel
theorem dX0_isBalanced_51 : decode cX0_isBalanced 51 = .ok (.goto (-41), 3) := by decide +kernel
theorem dX0_isBalanced_54 : decode cX0_isBalanced 54 = .ok (.iconst 0, 1) := by decide +kernel
theorem dX0_isBalanced_55 : decode cX0_isBalanced 55 = .ok (.istore_n 2, 1) := by decide +kernel
theorem dX0_isBalanced_56 : decode cX0_isBalanced 56 = .ok (.iload_n 2, 1) := by decide +kernel
theorem dX0_isBalanced_57 : decode cX0_isBalanced 57 = .ok (.bipush 6, 2) := by decide +kernel
theorem dX0_isBalanced_59 : decode cX0_isBalanced 59 = .ok (.if_icmp .ge 20, 3) := by decide +kernel
theorem dX0_isBalanced_62 : decode cX0_isBalanced 62 = .ok (.aload_n 0, 1) := by decide +kernel
theorem dX0_isBalanced_63 : decode cX0_isBalanced 63 = .ok (.getfield 15, 3) := by decide +kernel
theorem dX0_isBalanced_66 : decode cX0_isBalanced 66 = .ok (.iload_n 2, 1) := by decide +kernel
theorem dX0_isBalanced_67 : decode cX0_isBalanced 67 = .ok (.iaload, 1) := by decide +kernel
theorem dX0_isBalanced_68 : decode cX0_isBalanced 68 = .ok (.ifCond .eq 5, 3) := by decide +kernel
theorem dX0_isBalanced_71 : decode cX0_isBalanced 71 = .ok (.iconst 0, 1) := by decide +kernel
theorem dX0_isBalanced_72 : decode cX0_isBalanced 72 = .ok (.ireturn, 1) := by decide +kernel
theorem dX0_isBalanced_73 : decode cX0_isBalanced 73 = .ok (.iinc 2 1, 3) := by decide +kernel
theorem dX0_isBalanced_76 : decode cX0_isBalanced 76 = .ok (.goto (-20), 3) := by decide +kernel
theorem dX0_isBalanced_79 : decode cX0_isBalanced 79 = .ok (.iconst 1, 1) := by decide +kernel
theorem dX0_isBalanced_80 : decode cX0_isBalanced 80 = .ok (.ireturn, 1) := by decide +kernel
set_option maxRecDepth 20000 in
theorem ggX0_goesOn_X0_goesOn : GoodIn wsX0_goesOn wsX0_goesOn := goodIn_r _ [0, 1, 2, 3] (by decide +kernel) (by decide +kernel)
set_option maxRecDepth 20000 in
theorem gX0_goesOn_X0_goesOn : GoodIn wsX0_goesOn (va_wsS RX0 40 yX0_goesOn wsX0_goesOn) := goodIn_app (goodIn_of _ (by decide +kernel)) ggX0_goesOn_X0_goesOn
theorem dX0_goesOn_0 : decode cX0_goesOn 0 = .ok (.iload_n 3, 1) := by decide +kernel
theorem dX0_goesOn_1 : decode cX0_goesOn 1 = .ok (.iload 4, 2) := by decide +kernel
theorem dX0_goesOn_3 : decode cX0_goesOn 3 = .ok (.if_icmp .ge 9, 3) := by decide +kernel
theorem dX0_goesOn_6 : decode cX0_goesOn 6 = .ok (.iload_n 3, 1) := by decide +kernel
theorem dX0_goesOn_7 : decode cX0_goesOn 7 = .ok (.bipush 12, 2) := by decide +kernel
theorem dX0_goesOn_9 : decode cX0_goesOn 9 = .ok (.if_icmp .lt 16, 3) := by decide +kernel
theorem dX0_goesOn_12 : decode cX0_goesOn 12 = .ok (.iload_n 2, 1) := by decide +kernel
theorem dX0_goesOn_13 : decode cX0_goesOn 13 = .ok (.aload_n 0, 1) := by decide +kernel
theorem dX0_goesOn_14 : decode cX0_goesOn 14 = .ok (.iconst 0, 1) := by decide +kernel
theorem dX0_goesOn_15 : decode cX0_goesOn 15 = .ok (.iaload, 1) := by decide +kernel
theorem dX0_goesOn_16 : decode cX0_goesOn 16 = .ok (.if_icmp .ne 7, 3) := by decide +kernel
theorem dX0_goesOn_19 : decode cX0_goesOn 19 = .ok (.iconst 1, 1) := by decide +kernel
theorem dX0_goesOn_20 : decode cX0_goesOn 20 = .ok (.goto 4, 3) := by decide +kernel
theorem dX0_goesOn_23 : decode cX0_goesOn 23 = .ok (.iconst 0, 1) := by decide +kernel
theorem dX0_goesOn_24 : decode cX0_goesOn 24 = .ok (.ireturn, 1) := by decide +kernel
theorem dX0_goesOn_25 : decode cX0_goesOn 25 = .ok (.aload_n 0, 1) := by decide +kernel
theorem dX0_goesOn_26 : decode cX0_goesOn 26 = .ok (.iload_n 3, 1) := by decide +kernel
theorem dX0_goesOn_27 : decode cX0_goesOn 27 = .ok (.iload_n 2, 1) := by decide +kernel
theorem dX0_goesOn_28 : decode cX0_goesOn 28 = .ok (.iastore, 1) := by decide +kernel
theorem dX0_goesOn_29 : decode cX0_goesOn 29 = .ok (.iconst 0, 1) := by decide +kernel
theorem dX0_goesOn_30 : decode cX0_goesOn 30 = .ok (.istore 5, 2) := by decide +kernel
theorem dX0_goesOn_32 : decode cX0_goesOn 32 = .ok (.iload 5, 2) := by decide +kernel
theorem dX0_goesOn_34 : decode cX0_goesOn 34 = .ok (.bipush 6, 2) := by decide +kernel
theorem dX0_goesOn_36 : decode cX0_goesOn 36 = .ok (.if_icmp .ge 58, 3) := by decide +kernel
theorem dX0_goesOn_39 : decode cX0_goesOn 39 = .ok (.aload_n 1, 1) := by decide +kernel
theorem dX0_goesOn_40 : decode cX0_goesOn 40 = .ok (.iload_n 2, 1) := by decide +kernel
theorem dX0_goesOn_41 : decode cX0_goesOn 41 = .ok (.iaload, 1) := by decide +kernel
theorem dX0_goesOn_42 : decode cX0_goesOn 42 = .ok (.iload 5, 2) := by decide +kernel
theorem dX0_goesOn_44 : decode cX0_goesOn 44 = .ok (.ishr, 1) := by decide +kernel
theorem dX0_goesOn_45 : decode cX0_goesOn 45 = .ok (.iconst 1, 1) := by decide +kernel
theorem dX0_goesOn_46 : decode cX0_goesOn 46 = .ok (.iand, 1) := by decide +kernel
theorem dX0_goesOn_47 : decode cX0_goesOn 47 = .ok (.iconst 1, 1) := by decide +kernel
theorem dX0_goesOn_48 : decode cX0_goesOn 48 = .ok (.if_icmp .ne 40, 3) := by decide +kernel
theorem dX0_goesOn_51 : decode cX0_goesOn 51 = .ok (.aload_n 1, 1) := by decide +kernel
theorem dX0_goesOn_52 : decode cX0_goesOn 52 = .ok (.iload_n 2, 1) := by decide +kernel
theorem dX0_goesOn_53 : decode cX0_goesOn 53 = .ok (.dup2, 1) := by decide +kernel
theorem dX0_goesOn_54 : decode cX0_goesOn 54 = .ok (.iaload, 1) := by decide +kernel
theorem dX0_goesOn_55 : decode cX0_goesOn 55 = .ok (.iconst 1, 1) := by decide +kernel
theorem dX0_goesOn_56 : decode cX0_goesOn 56 = .ok (.iload 5, 2) := by decide +kernel
theorem dX0_goesOn_58 : decode cX0_goesOn 58 = .ok (.ishl, 1) := by decide +kernel
theorem dX0_goesOn_59 : decode cX0_goesOn 59 = .ok (.ixor, 1) := by decide +kernel
theorem dX0_goesOn_60 : decode cX0_goesOn 60 = .ok (.iastore, 1) := by decide +kernel
theorem dX0_goesOn_61 : decode cX0_goesOn 61 = .ok (.aload_n 0, 1) := by decide +kernel
theorem dX0_goesOn_62 : decode cX0_goesOn 62 = .ok (.aload_n 1, 1) := by decide +kernel
theorem dX0_goesOn_63 : decode cX0_goesOn 63 = .ok (.iload 5, 2) := by decide +kernel
theorem dX0_goesOn_65 : decode cX0_goesOn 65 = .ok (.iload_n 3, 1) := by decide +kernel
theorem dX0_goesOn_66 : decode cX0_goesOn 66 = .ok (.iconst 1, 1) := by decide +kernel
theorem dX0_goesOn_67 : decode cX0_goesOn 67 = .ok (.iadd, 1) := by decide +kernel
theorem dX0_goesOn_68 : decode cX0_goesOn 68 = .ok (.iload 4, 2) := by decide +kernel
theorem dX0_goesOn_70 : decode cX0_goesOn 70 = .ok (.invokestatic 40, 3) := by decide +kernel
theorem dX0_goesOn_73 : decode cX0_goesOn 73 = .ok (.ifCond .eq 5, 3) := by decide +kernel
theorem dX0_goesOn_76 : decode cX0_goesOn 76 = .ok (.iconst 1, 1) := by decide +kernel
theorem dX0_goesOn_77 : decode cX0_goesOn 77 = .ok (.ireturn, 1) := by decide +kernel
theorem dX0_goesOn_78 : decode cX0_goesOn 78 = .ok (.aload_n 1, 1) := by decide +kernel
theorem dX0_goesOn_79 : decode cX0_goesOn 79 = .ok (.iload_n 2, 1) := by decide +kernel
theorem dX0_goesOn_80 : decode cX0_goesOn 80 = .ok (.dup2, 1) := by decide +kernel
theorem dX0_goesOn_81 : decode cX0_goesOn 81 = .ok (.iaload, 1) := by decide +kernel
theorem dX0_goesOn_82 : decode cX0_goesOn 82 = .ok (.iconst 1, 1) := by decide +kernel
theorem dX0_goesOn_83 : decode cX0_goesOn 83 = .ok (.iload 5, 2) := by decide +kernel
theorem dX0_goesOn_85 : decode cX0_goesOn 85 = .ok (.ishl, 1) := by decide +kernel
theorem dX0_goesOn_86 : decode cX0_goesOn 86 = .ok (.ixor, 1) := by decide +kernel
theorem dX0_goesOn_87 : decode cX0_goesOn 87 = .ok (.iastore, 1) := by decide +kernel
theorem dX0_goesOn_88 : decode cX0_goesOn 88 = .ok (.iinc 5 1, 3) := by decide +kernel
theorem dX0_goesOn_91 : decode cX0_goesOn 91 = .ok (.goto (-59), 3) := by decide +kernel
theorem dX0_goesOn_94 : decode cX0_goesOn 94 = .ok (.iconst 0, 1) := by decide +kernel
theorem dX0_goesOn_95 : decode cX0_goesOn 95 = .ok (.ireturn, 1) := by decide +kernel
theorem dX1_init_0 : decode cX1_init 0 = .ok (.aload_n 0, 1) := by decide +kernel
theorem dX1_init_1 : decode cX1_init 1 = .ok (.invokespecial 3, 3) := by decide +kernel
theorem dX1_init_4 : decode cX1_init 4 = .ok (.aload_n 0, 1) := by decide +kernel
theorem dX1_init_5 : decode cX1_init 5 = .ok (.iconst 0, 1) := by decide +kernel
theorem dX1_init_6 : decode cX1_init 6 = .ok (.putfield 9, 3) := by decide +kernel
theorem dX1_init_9 : decode cX1_init 9 = .ok (.aload_n 0, 1) := by decide +kernel
theorem dX1_init_10 : decode cX1_init 10 = .ok (.iconst 0, 1) := by decide +kernel
theorem dX1_init_11 : decode cX1_init 11 = .ok (.putfield 15, 3) := by decide +kernel
theorem dX1_init_14 : decode cX1_init 14 = .ok (.aload_n 0, 1) := by decide +kernel
theorem dX1_init_15 : decode cX1_init 15 = .ok (.iconst 5, 1) := by decide +kernel
theorem dX1_init_16 : decode cX1_init 16 = .ok (.newarray .int, 2) := by decide +kernel
theorem dX1_init_18 : decode cX1_init 18 = .ok (.putfield 19, 3) := by decide +kernel
theorem dX1_init_21 : decode cX1_init 21 = .ok (.return_, 1) := by decide +kernel
set_option maxRecDepth 20000 in
theorem ggX1_seek_X1_findsRing : GoodIn wsX1_seek wsX1_findsRing := goodIn_r _ [7, 8, 9, 10, 11, 12, 13, 14, 15, 16, 17, 18, 19, 20, 21, 22, 23, 24, 25, 26, 27, 28, 29, 30, 31, 32, 33, 34, 35, 36, 37, 38, 39, 40, 41, 42, 43, 44, 45, 46, 47, 48, 49, 50, 51, 52, 53, 54, 55, 56, 57, 58, 59, 60, 61, 62] (by decide +kernel) (by decide +kernel)
set_option maxRecDepth 20000 in
theorem gX1_seek_X1_findsRing : GoodIn wsX1_seek (wsV RX1 23 RX1 yX1_findsRing wsX1_findsRing) := goodIn_app (goodIn_of _ (by decide +kernel)) ggX1_seek_X1_findsRing
theorem dX1_seek_0 : decode cX1_seek 0 = .ok (.aload_n 0, 1) := by decide +kernel
theorem dX1_seek_1 : decode cX1_seek 1 = .ok (.getfield 9, 3) := by decide +kernel
theorem dX1_seek_4 : decode cX1_seek 4 = .ok (.ifCond .eq 4, 3) := by decide +kernel
theorem dX1_seek_7 : decode cX1_seek 7 = .ok (.return_, 1) := by decide +kernel
theorem dX1_seek_8 : decode cX1_seek 8 = .ok (.aload_n 0, 1) := by decide +kernel
theorem dX1_seek_9 : decode cX1_seek 9 = .ok (.iconst 0, 1) := by decide +kernel
theorem dX1_seek_10 : decode cX1_seek 10 = .ok (.putfield 15, 3) := by decide +kernel
theorem dX1_seek_13 : decode cX1_seek 13 = .ok (.iconst 1, 1) := by decide +kernel
theorem dX1_seek_14 : decode cX1_seek 14 = .ok (.istore_n 2, 1) := by decide +kernel
theorem dX1_seek_15 : decode cX1_seek 15 = .ok (.iload_n 2, 1) := by decide +kernel
theorem dX1_seek_16 : decode cX1_seek 16 = .ok (.iconst 5, 1) := by decide +kernel
theorem dX1_seek_17 : decode cX1_seek 17 = .ok (.if_icmp .gt 30, 3) := by decide +kernel
theorem dX1_seek_20 : decode cX1_seek 20 = .ok (.aload_n 0, 1) := by decide +kernel
theorem dX1_seek_21 : decode cX1_seek 21 = .ok (.getfield 15, 3) := by decide +kernel
theorem dX1_seek_24 : decode cX1_seek 24 = .ok (.ifCond .ne 23, 3) := by decide +kernel
theorem dX1_seek_27 : decode cX1_seek 27 = .ok (.aload_n 0, 1) := by decide +kernel
theorem dX1_seek_28 : decode cX1_seek 28 = .ok (.aload_n 1, 1) := by decide +kernel
theorem dX1_seek_29 : decode cX1_seek 29 = .ok (.iload_n 2, 1) := by decide +kernel
theorem dX1_seek_30 : decode cX1_seek 30 = .ok (.invokevirtual 23, 3) := by decide +kernel
theorem dX1_seek_33 : decode cX1_seek 33 = .ok (.ifCond .eq 8, 3) := by decide +kernel
theorem dX1_seek_36 : decode cX1_seek 36 = .ok (.aload_n 0, 1) := by decide +kernel
theorem dX1_seek_37 : decode cX1_seek 37 = .ok (.iload_n 2, 1) := by decide +kernel
theorem dX1_seek_38 : decode cX1_seek 38 = .ok (.putfield 15, 3) := by decide +kernel
theorem dX1_seek_41 : decode cX1_seek 41 = .ok (.iinc 2 1, 3) := by decide +kernel
theorem dX1_seek_44 : decode cX1_seek 44 = .ok (.goto (-29), 3) := by decide +kernel
theorem dX1_seek_47 : decode cX1_seek 47 = .ok (.aload_n 0, 1) := by decide +kernel
theorem dX1_seek_48 : decode cX1_seek 48 = .ok (.iconst 1, 1) := by decide +kernel
theorem dX1_seek_49 : decode cX1_seek 49 = .ok (.putfield 9, 3) := by decide +kernel
theorem dX1_seek_52 : decode cX1_seek 52 = .ok (.return_, 1) := by decide +kernel
set_option maxRecDepth 20000 in
theorem ggX1_findsRing_X5_begin : GoodIn wsX1_findsRing wsX5_begin := goodIn_r _ [6] (by decide +kernel) (by decide +kernel)
set_option maxRecDepth 20000 in
theorem gX1_findsRing_X5_begin : GoodIn wsX1_findsRing (va_wsS RX1 27 yX5_begin wsX5_begin) := goodIn_app (goodIn_of _ (by decide +kernel)) ggX1_findsRing_X5_begin
set_option maxRecDepth 20000 in
theorem ggX1_findsRing_X5_howMany : GoodIn wsX1_findsRing wsX5_howMany := goodIn_r _ [9] (by decide +kernel) (by decide +kernel)
set_option maxRecDepth 20000 in
theorem gX1_findsRing_X5_howMany : GoodIn wsX1_findsRing (va_wsS RX1 38 yX5_howMany wsX5_howMany) := goodIn_app (goodIn_of _ (by decide +kernel)) ggX1_findsRing_X5_howMany
set_option maxRecDepth 20000 in
theorem ggX1_findsRing_X8_firstAgainst : GoodIn wsX1_findsRing wsX8_firstAgainst := goodIn_r _ [14, 15, 16, 17, 18, 19, 13, 20, 21, 22, 23, 24, 25, 26, 27, 28, 29, 30, 31, 32, 33, 34, 35, 36, 37, 38, 39, 40, 47, 48, 49, 50, 51, 52, 53, 54, 55] (by decide +kernel) (by decide +kernel)
set_option maxRecDepth 20000 in
theorem gX1_findsRing_X8_firstAgainst : GoodIn wsX1_findsRing (wsV RX1 42 RX8 yX8_firstAgainst wsX8_firstAgainst) := goodIn_app (goodIn_of _ (by decide +kernel)) ggX1_findsRing_X8_firstAgainst
set_option maxRecDepth 20000 in
theorem ggX1_findsRing_X5_step : GoodIn wsX1_findsRing wsX5_step := goodIn_r _ [43] (by decide +kernel) (by decide +kernel)
set_option maxRecDepth 20000 in
theorem gX1_findsRing_X5_step : GoodIn wsX1_findsRing (va_wsS RX1 46 yX5_step wsX5_step) := goodIn_app (goodIn_of _ (by decide +kernel)) ggX1_findsRing_X5_step
theorem dX1_findsRing_0 : decode cX1_findsRing 0 = .ok (.aload_n 0, 1) := by decide +kernel
theorem dX1_findsRing_1 : decode cX1_findsRing 1 = .ok (.getfield 19, 3) := by decide +kernel
theorem dX1_findsRing_4 : decode cX1_findsRing 4 = .ok (.iload_n 2, 1) := by decide +kernel
theorem dX1_findsRing_5 : decode cX1_findsRing 5 = .ok (.invokestatic 27, 3) := by decide +kernel
theorem dX1_findsRing_8 : decode cX1_findsRing 8 = .ok (.aload_n 1, 1) := by decide +kernel
theorem dX1_findsRing_9 : decode cX1_findsRing 9 = .ok (.getfield 33, 3) := by decide +kernel
theorem dX1_findsRing_12 : decode cX1_findsRing 12 = .ok (.iload_n 2, 1) := by decide +kernel
theorem dX1_findsRing_13 : decode cX1_findsRing 13 = .ok (.invokestatic 38, 3) := by decide +kernel
theorem dX1_findsRing_16 : decode cX1_findsRing 16 = .ok (.istore_n 3, 1) := by decide +kernel
theorem dX1_findsRing_17 : decode cX1_findsRing 17 = .ok (.iload_n 3, 1) := by decide +kernel
theorem dX1_findsRing_18 : decode cX1_findsRing 18 = .ok (.ifCond .le 37, 3) := by decide +kernel
theorem dX1_findsRing_21 : decode cX1_findsRing 21 = .ok (.aload_n 1, 1) := by decide +kernel
theorem dX1_findsRing_22 : decode cX1_findsRing 22 = .ok (.aload_n 0, 1) := by decide +kernel
theorem dX1_findsRing_23 : decode cX1_findsRing 23 = .ok (.getfield 19, 3) := by decide +kernel
theorem dX1_findsRing_26 : decode cX1_findsRing 26 = .ok (.iload_n 2, 1) := by decide +kernel
theorem dX1_findsRing_27 : decode cX1_findsRing 27 = .ok (.invokevirtual 42, 3) := by decide +kernel
theorem dX1_findsRing_30 : decode cX1_findsRing 30 = .ok (.bipush (-9), 2) := by decide +kernel
theorem dX1_findsRing_32 : decode cX1_findsRing 32 = .ok (.if_icmp .ne 5, 3) := by decide +kernel
theorem dX1_findsRing_35 : decode cX1_findsRing 35 = .ok (.iconst 1, 1) := by decide +kernel
theorem dX1_findsRing_36 : decode cX1_findsRing 36 = .ok (.ireturn, 1) := by decide +kernel
theorem dX1_findsRing_37 : decode cX1_findsRing 37 = .ok (.aload_n 0, 1) := by decide +kernel
theorem dX1_findsRing_38 : decode cX1_findsRing 38 = .ok (.getfield 19, 3) := by decide +kernel
theorem dX1_findsRing_41 : decode cX1_findsRing 41 = .ok (.iload_n 2, 1) := by decide +kernel
theorem dX1_findsRing_42 : decode cX1_findsRing 42 = .ok (.aload_n 1, 1) := by decide +kernel
theorem dX1_findsRing_43 : decode cX1_findsRing 43 = .ok (.getfield 33, 3) := by decide +kernel
theorem dX1_findsRing_46 : decode cX1_findsRing 46 = .ok (.invokestatic 46, 3) := by decide +kernel
theorem dX1_findsRing_49 : decode cX1_findsRing 49 = .ok (.iinc 3 (-1), 3) := by decide +kernel
theorem dX1_findsRing_52 : decode cX1_findsRing 52 = .ok (.goto (-35), 3) := by decide +kernel
theorem dX1_findsRing_55 : decode cX1_findsRing 55 = .ok (.iconst 0, 1) := by decide +kernel
theorem dX1_findsRing_56 : decode cX1_findsRing 56 = .ok (.ireturn, 1) := by decide +kernel
theorem dX2_init_0 : decode cX2_init 0 = .ok (.aload_n 0, 1) := by decide +kernel
theorem dX2_init_1 : decode cX2_init 1 = .ok (.invokespecial 3, 3) := by decide +kernel
theorem dX2_init_4 : decode cX2_init 4 = .ok (.aload_n 0, 1) := by decide +kernel
theorem dX2_init_5 : decode cX2_init 5 = .ok (.bipush 64, 2) := by decide +kernel
theorem dX2_init_7 : decode cX2_init 7 = .ok (.newarray .int, 2) := by decide +kernel
theorem dX2_init_9 : decode cX2_init 9 = .ok (.putfield 9, 3) := by decide +kernel
theorem dX2_init_12 : decode cX2_init 12 = .ok (.aload_n 0, 1) := by decide +kernel
theorem dX2_init_13 : decode cX2_init 13 = .ok (.iconst 0, 1) := by decide +kernel
theorem dX2_init_14 : decode cX2_init 14 = .ok (.putfield 15, 3) := by decide +kernel
theorem dX2_init_17 : decode cX2_init 17 = .ok (.return_, 1) := by decide +kernel
theorem dX2_add_0 : decode cX2_add 0 = .ok (.aload_n 0, 1) := by decide +kernel
theorem dX2_add_1 : decode cX2_add 1 = .ok (.getfield 15, 3) := by decide +kernel
theorem dX2_add_4 : decode cX2_add 4 = .ok (.bipush 64, 2) := by decide +kernel
theorem dX2_add_6 : decode cX2_add 6 = .ok (.if_icmp .ge 23, 3) := by decide +kernel
theorem dX2_add_9 : decode cX2_add 9 = .ok (.aload_n 0, 1) := by decide +kernel
theorem dX2_add_10 : decode cX2_add 10 = .ok (.getfield 9, 3) := by decide +kernel
theorem dX2_add_13 : decode cX2_add 13 = .ok (.aload_n 0, 1) := by decide +kernel
theorem dX2_add_14 : decode cX2_add 14 = .ok (.getfield 15, 3) := by decide +kernel
theorem dX2_add_17 : decode cX2_add 17 = .ok (.iload_n 1, 1) := by decide +kernel
theorem dX2_add_18 : decode cX2_add 18 = .ok (.iastore, 1) := by decide +kernel
theorem dX2_add_19 : decode cX2_add 19 = .ok (.aload_n 0, 1) := by decide +kernel
theorem dX2_add_20 : decode cX2_add 20 = .ok (.dup, 1) := by decide +kernel
theorem dX2_add_21 : decode cX2_add 21 = .ok (.getfield 15, 3) := by decide +kernel
theorem dX2_add_24 : decode cX2_add 24 = .ok (.iconst 1, 1) := by decide +kernel
theorem dX2_add_25 : decode cX2_add 25 = .ok (.iadd, 1) := by decide +kernel
theorem dX2_add_26 : decode cX2_add 26 = .ok (.putfield 15, 3) := by decide +kernel
theorem dX2_add_29 : decode cX2_add 29 = .ok (.aload_n 0, 1) := by decide +kernel
theorem dX2_add_30 : decode cX2_add 30 = .ok (.getfield 15, 3) := by decide +kernel
theorem dX2_add_33 : decode cX2_add 33 = .ok (.ireturn, 1) := by decide +kernel
theorem dX2_signAt_0 : decode cX2_signAt 0 = .ok (.iload_n 1, 1) := by decide +kernel
theorem dX2_signAt_1 : decode cX2_signAt 1 = .ok (.ifCond .lt 20, 3) := by decide +kernel
theorem dX2_signAt_4 : decode cX2_signAt 4 = .ok (.iload_n 1, 1) := by decide +kernel
theorem dX2_signAt_5 : decode cX2_signAt 5 = .ok (.aload_n 0, 1) := by decide +kernel
theorem dX2_signAt_6 : decode cX2_signAt 6 = .ok (.getfield 15, 3) := by decide +kernel
theorem dX2_signAt_9 : decode cX2_signAt 9 = .ok (.if_icmp .ge 12, 3) := by decide +kernel
theorem dX2_signAt_12 : decode cX2_signAt 12 = .ok (.aload_n 0, 1) := by decide +kernel
theorem dX2_signAt_13 : decode cX2_signAt 13 = .ok (.getfield 9, 3) := by decide +kernel
theorem dX2_signAt_16 : decode cX2_signAt 16 = .ok (.iload_n 1, 1) := by decide +kernel
theorem dX2_signAt_17 : decode cX2_signAt 17 = .ok (.iaload, 1) := by decide +kernel
theorem dX2_signAt_18 : decode cX2_signAt 18 = .ok (.goto 4, 3) := by decide +kernel
theorem dX2_signAt_21 : decode cX2_signAt 21 = .ok (.iconst (-1), 1) := by decide +kernel
theorem dX2_signAt_22 : decode cX2_signAt 22 = .ok (.ireturn, 1) := by decide +kernel
theorem dX3_init_0 : decode cX3_init 0 = .ok (.aload_n 0, 1) := by decide +kernel
theorem dX3_init_1 : decode cX3_init 1 = .ok (.invokespecial 3, 3) := by decide +kernel
theorem dX3_init_4 : decode cX3_init 4 = .ok (.aload_n 0, 1) := by decide +kernel
theorem dX3_init_5 : decode cX3_init 5 = .ok (.bipush 12, 2) := by decide +kernel
theorem dX3_init_7 : decode cX3_init 7 = .ok (.newarray .int, 2) := by decide +kernel
theorem dX3_init_9 : decode cX3_init 9 = .ok (.putfield 9, 3) := by decide +kernel
theorem dX3_init_12 : decode cX3_init 12 = .ok (.aload_n 0, 1) := by decide +kernel
theorem dX3_init_13 : decode cX3_init 13 = .ok (.bipush 12, 2) := by decide +kernel
theorem dX3_init_15 : decode cX3_init 15 = .ok (.newarray .int, 2) := by decide +kernel
theorem dX3_init_17 : decode cX3_init 17 = .ok (.putfield 15, 3) := by decide +kernel
theorem dX3_init_20 : decode cX3_init 20 = .ok (.aload_n 0, 1) := by decide +kernel
theorem dX3_init_21 : decode cX3_init 21 = .ok (.iconst 0, 1) := by decide +kernel
theorem dX3_init_22 : decode cX3_init 22 = .ok (.putfield 18, 3) := by decide +kernel
theorem dX3_init_25 : decode cX3_init 25 = .ok (.return_, 1) := by decide +kernel
theorem dX3_copyFrom_0 : decode cX3_copyFrom 0 = .ok (.aload_n 1, 1) := by decide +kernel
theorem dX3_copyFrom_1 : decode cX3_copyFrom 1 = .ok (.getfield 9, 3) := by decide +kernel
theorem dX3_copyFrom_4 : decode cX3_copyFrom 4 = .ok (.iconst 0, 1) := by decide +kernel
theorem dX3_copyFrom_5 : decode cX3_copyFrom 5 = .ok (.aload_n 0, 1) := by decide +kernel
theorem dX3_copyFrom_6 : decode cX3_copyFrom 6 = .ok (.getfield 9, 3) := by decide +kernel
theorem dX3_copyFrom_9 : decode cX3_copyFrom 9 = .ok (.iconst 0, 1) := by decide +kernel
theorem dX3_copyFrom_10 : decode cX3_copyFrom 10 = .ok (.bipush 12, 2) := by decide +kernel
theorem dX3_copyFrom_12 : decode cX3_copyFrom 12 = .ok (.invokestatic 22, 3) := by decide +kernel
theorem dX3_copyFrom_15 : decode cX3_copyFrom 15 = .ok (.aload_n 1, 1) := by decide +kernel
theorem dX3_copyFrom_16 : decode cX3_copyFrom 16 = .ok (.getfield 15, 3) := by decide +kernel
theorem dX3_copyFrom_19 : decode cX3_copyFrom 19 = .ok (.iconst 0, 1) := by decide +kernel
theorem dX3_copyFrom_20 : decode cX3_copyFrom 20 = .ok (.aload_n 0, 1) := by decide +kernel
theorem dX3_copyFrom_21 : decode cX3_copyFrom 21 = .ok (.getfield 15, 3) := by decide +kernel
theorem dX3_copyFrom_24 : decode cX3_copyFrom 24 = .ok (.iconst 0, 1) := by decide +kernel
theorem dX3_copyFrom_25 : decode cX3_copyFrom 25 = .ok (.bipush 12, 2) := by decide +kernel
theorem dX3_copyFrom_27 : decode cX3_copyFrom 27 = .ok (.invokestatic 22, 3) := by decide +kernel
theorem dX3_copyFrom_30 : decode cX3_copyFrom 30 = .ok (.aload_n 0, 1) := by decide +kernel
theorem dX3_copyFrom_31 : decode cX3_copyFrom 31 = .ok (.aload_n 1, 1) := by decide +kernel
theorem dX3_copyFrom_32 : decode cX3_copyFrom 32 = .ok (.getfield 18, 3) := by decide +kernel
theorem dX3_copyFrom_35 : decode cX3_copyFrom 35 = .ok (.putfield 18, 3) := by decide +kernel
theorem dX3_copyFrom_38 : decode cX3_copyFrom 38 = .ok (.return_, 1) := by decide +kernel
theorem dX3_add_0 : decode cX3_add 0 = .ok (.aload_n 0, 1) := by decide +kernel
theorem dX3_add_1 : decode cX3_add 1 = .ok (.getfield 18, 3) := by decide +kernel
theorem dX3_add_4 : decode cX3_add 4 = .ok (.bipush 12, 2) := by decide +kernel
theorem dX3_add_6 : decode cX3_add 6 = .ok (.if_icmp .ge 33, 3) := by decide +kernel
theorem dX3_add_9 : decode cX3_add 9 = .ok (.aload_n 0, 1) := by decide +kernel
theorem dX3_add_10 : decode cX3_add 10 = .ok (.getfield 9, 3) := by decide +kernel
theorem dX3_add_13 : decode cX3_add 13 = .ok (.aload_n 0, 1) := by decide +kernel
theorem dX3_add_14 : decode cX3_add 14 = .ok (.getfield 18, 3) := by decide +kernel
theorem dX3_add_17 : decode cX3_add 17 = .ok (.iload_n 1, 1) := by decide +kernel
theorem dX3_add_18 : decode cX3_add 18 = .ok (.iastore, 1) := by decide +kernel
theorem dX3_add_19 : decode cX3_add 19 = .ok (.aload_n 0, 1) := by decide +kernel
theorem dX3_add_20 : decode cX3_add 20 = .ok (.getfield 15, 3) := by decide +kernel
theorem dX3_add_23 : decode cX3_add 23 = .ok (.aload_n 0, 1) := by decide +kernel
theorem dX3_add_24 : decode cX3_add 24 = .ok (.getfield 18, 3) := by decide +kernel
theorem dX3_add_27 : decode cX3_add 27 = .ok (.iload_n 2, 1) := by decide +kernel
theorem dX3_add_28 : decode cX3_add 28 = .ok (.iastore, 1) := by decide +kernel
theorem dX3_add_29 : decode cX3_add 29 = .ok (.aload_n 0, 1) := by decide +kernel
theorem dX3_add_30 : decode cX3_add 30 = .ok (.dup, 1) := by decide +kernel
theorem dX3_add_31 : decode cX3_add 31 = .ok (.getfield 18, 3) := by decide +kernel
theorem dX3_add_34 : decode cX3_add 34 = .ok (.iconst 1, 1) := by decide +kernel
theorem dX3_add_35 : decode cX3_add 35 = .ok (.iadd, 1) := by decide +kernel
theorem dX3_add_36 : decode cX3_add 36 = .ok (.putfield 18, 3) := by decide +kernel
theorem dX3_add_39 : decode cX3_add 39 = .ok (.aload_n 0, 1) := by decide +kernel
theorem dX3_add_40 : decode cX3_add 40 = .ok (.getfield 18, 3) := by decide +kernel
theorem dX3_add_43 : decode cX3_add 43 = .ok (.ireturn, 1) := by decide +kernel
theorem dX3_has_0 : decode cX3_has 0 = .ok (.iconst 0, 1) := by decide +kernel
theorem dX3_has_1 : decode cX3_has 1 = .ok (.istore_n 3, 1) := by decide +kernel
theorem dX3_has_2 : decode cX3_has 2 = .ok (.iload_n 3, 1) := by decide +kernel
theorem dX3_has_3 : decode cX3_has 3 = .ok (.aload_n 0, 1) := by decide +kernel
theorem dX3_has_4 : decode cX3_has 4 = .ok (.getfield 18, 3) := by decide +kernel
theorem dX3_has_7 : decode cX3_has 7 = .ok (.if_icmp .ge 31, 3) := by decide +kernel
theorem dX3_has_10 : decode cX3_has 10 = .ok (.aload_n 0, 1) := by decide +kernel
theorem dX3_has_11 : decode cX3_has 11 = .ok (.getfield 9, 3) := by decide +kernel
theorem dX3_has_14 : decode cX3_has 14 = .ok (.iload_n 3, 1) := by decide +kernel
theorem dX3_has_15 : decode cX3_has 15 = .ok (.iaload, 1) := by decide +kernel
theorem dX3_has_16 : decode cX3_has 16 = .ok (.iload_n 1, 1) := by decide +kernel
theorem dX3_has_17 : decode cX3_has 17 = .ok (.if_icmp .ne 15, 3) := by decide +kernel
theorem dX3_has_20 : decode cX3_has 20 = .ok (.aload_n 0, 1) := by decide +kernel
theorem dX3_has_21 : decode cX3_has 21 = .ok (.getfield 15, 3) := by decide +kernel
theorem dX3_has_24 : decode cX3_has 24 = .ok (.iload_n 3, 1) := by decide +kernel
theorem dX3_has_25 : decode cX3_has 25 = .ok (.iaload, 1) := by decide +kernel
theorem dX3_has_26 : decode cX3_has 26 = .ok (.iload_n 2, 1) := by decide +kernel
theorem dX3_has_27 : decode cX3_has 27 = .ok (.if_icmp .ne 5, 3) := by decide +kernel
theorem dX3_has_30 : decode cX3_has 30 = .ok (.iconst 1, 1) := by decide +kernel
theorem dX3_has_31 : decode cX3_has 31 = .ok (.ireturn, 1) := by decide +kernel
theorem dX3_has_32 : decode cX3_has 32 = .ok (.iinc 3 1, 3) := by decide +kernel
theorem dX3_has_35 : decode cX3_has 35 = .ok (.goto (-33), 3) := by decide +kernel
theorem dX3_has_38 : decode cX3_has 38 = .ok (.iconst 0, 1) := by decide +kernel
theorem dX3_has_39 : decode cX3_has 39 = .ok (.ireturn, 1) := by decide +kernel
theorem dX4_init_0 : decode cX4_init 0 = .ok (.aload_n 0, 1) := by decide +kernel
theorem dX4_init_1 : decode cX4_init 1 = .ok (.invokespecial 3, 3) := by decide +kernel
theorem dX4_init_4 : decode cX4_init 4 = .ok (.aload_n 0, 1) := by decide +kernel
theorem dX4_init_5 : decode cX4_init 5 = .ok (.bipush 12, 2) := by decide +kernel
theorem dX4_init_7 : decode cX4_init 7 = .ok (.newarray .int, 2) := by decide +kernel
theorem dX4_init_9 : decode cX4_init 9 = .ok (.putfield 9, 3) := by decide +kernel
theorem dX4_init_12 : decode cX4_init 12 = .ok (.aload_n 0, 1) := by decide +kernel
theorem dX4_init_13 : decode cX4_init 13 = .ok (.iconst 0, 1) := by decide +kernel
theorem dX4_init_14 : decode cX4_init 14 = .ok (.putfield 15, 3) := by decide +kernel
theorem dX4_init_17 : decode cX4_init 17 = .ok (.return_, 1) := by decide +kernel
theorem dX4_copyFrom_0 : decode cX4_copyFrom 0 = .ok (.aload_n 1, 1) := by decide +kernel
theorem dX4_copyFrom_1 : decode cX4_copyFrom 1 = .ok (.getfield 9, 3) := by decide +kernel
theorem dX4_copyFrom_4 : decode cX4_copyFrom 4 = .ok (.iconst 0, 1) := by decide +kernel
theorem dX4_copyFrom_5 : decode cX4_copyFrom 5 = .ok (.aload_n 0, 1) := by decide +kernel
theorem dX4_copyFrom_6 : decode cX4_copyFrom 6 = .ok (.getfield 9, 3) := by decide +kernel
theorem dX4_copyFrom_9 : decode cX4_copyFrom 9 = .ok (.iconst 0, 1) := by decide +kernel
theorem dX4_copyFrom_10 : decode cX4_copyFrom 10 = .ok (.bipush 12, 2) := by decide +kernel
theorem dX4_copyFrom_12 : decode cX4_copyFrom 12 = .ok (.invokestatic 19, 3) := by decide +kernel
theorem dX4_copyFrom_15 : decode cX4_copyFrom 15 = .ok (.aload_n 0, 1) := by decide +kernel
theorem dX4_copyFrom_16 : decode cX4_copyFrom 16 = .ok (.aload_n 1, 1) := by decide +kernel
theorem dX4_copyFrom_17 : decode cX4_copyFrom 17 = .ok (.getfield 15, 3) := by decide +kernel
theorem dX4_copyFrom_20 : decode cX4_copyFrom 20 = .ok (.putfield 15, 3) := by decide +kernel
theorem dX4_copyFrom_23 : decode cX4_copyFrom 23 = .ok (.return_, 1) := by decide +kernel
theorem dX4_add_0 : decode cX4_add 0 = .ok (.aload_n 0, 1) := by decide +kernel
theorem dX4_add_1 : decode cX4_add 1 = .ok (.getfield 15, 3) := by decide +kernel
theorem dX4_add_4 : decode cX4_add 4 = .ok (.bipush 12, 2) := by decide +kernel
theorem dX4_add_6 : decode cX4_add 6 = .ok (.if_icmp .ge 23, 3) := by decide +kernel
theorem dX4_add_9 : decode cX4_add 9 = .ok (.aload_n 0, 1) := by decide +kernel
theorem dX4_add_10 : decode cX4_add 10 = .ok (.getfield 9, 3) := by decide +kernel
theorem dX4_add_13 : decode cX4_add 13 = .ok (.aload_n 0, 1) := by decide +kernel
theorem dX4_add_14 : decode cX4_add 14 = .ok (.getfield 15, 3) := by decide +kernel
theorem dX4_add_17 : decode cX4_add 17 = .ok (.iload_n 1, 1) := by decide +kernel
theorem dX4_add_18 : decode cX4_add 18 = .ok (.iastore, 1) := by decide +kernel
theorem dX4_add_19 : decode cX4_add 19 = .ok (.aload_n 0, 1) := by decide +kernel
theorem dX4_add_20 : decode cX4_add 20 = .ok (.dup, 1) := by decide +kernel
theorem dX4_add_21 : decode cX4_add 21 = .ok (.getfield 15, 3) := by decide +kernel
theorem dX4_add_24 : decode cX4_add 24 = .ok (.iconst 1, 1) := by decide +kernel
theorem dX4_add_25 : decode cX4_add 25 = .ok (.iadd, 1) := by decide +kernel
theorem dX4_add_26 : decode cX4_add 26 = .ok (.putfield 15, 3) := by decide +kernel
theorem dX4_add_29 : decode cX4_add 29 = .ok (.aload_n 0, 1) := by decide +kernel
theorem dX4_add_30 : decode cX4_add 30 = .ok (.getfield 15, 3) := by decide +kernel
theorem dX4_add_33 : decode cX4_add 33 = .ok (.ireturn, 1) := by decide +kernel
theorem dX4_hasPlace_0 : decode cX4_hasPlace 0 = .ok (.iload_n 1, 1) := by decide +kernel
theorem dX4_hasPlace_1 : decode cX4_hasPlace 1 = .ok (.ifCond .lt 15, 3) := by decide +kernel
theorem dX4_hasPlace_4 : decode cX4_hasPlace 4 = .ok (.iload_n 1, 1) := by decide +kernel
theorem dX4_hasPlace_5 : decode cX4_hasPlace 5 = .ok (.aload_n 0, 1) := by decide +kernel
theorem dX4_hasPlace_6 : decode cX4_hasPlace 6 = .ok (.getfield 15, 3) := by decide +kernel
theorem dX4_hasPlace_9 : decode cX4_hasPlace 9 = .ok (.if_icmp .ge 7, 3) := by decide +kernel
theorem dX4_hasPlace_12 : decode cX4_hasPlace 12 = .ok (.iconst 1, 1) := by decide +kernel
theorem dX4_hasPlace_13 : decode cX4_hasPlace 13 = .ok (.goto 4, 3) := by decide +kernel
theorem dX4_hasPlace_16 : decode cX4_hasPlace 16 = .ok (.iconst 0, 1) := by decide +kernel
theorem dX4_hasPlace_17 : decode cX4_hasPlace 17 = .ok (.ireturn, 1) := by decide +kernel
theorem dX4_toldAt_0 : decode cX4_toldAt 0 = .ok (.aload_n 0, 1) := by decide +kernel
theorem dX4_toldAt_1 : decode cX4_toldAt 1 = .ok (.getfield 9, 3) := by decide +kernel
theorem dX4_toldAt_4 : decode cX4_toldAt 4 = .ok (.iload_n 1, 1) := by decide +kernel
theorem dX4_toldAt_5 : decode cX4_toldAt 5 = .ok (.iaload, 1) := by decide +kernel
theorem dX4_toldAt_6 : decode cX4_toldAt 6 = .ok (.iconst (-1), 1) := by decide +kernel
theorem dX4_toldAt_7 : decode cX4_toldAt 7 = .ok (.if_icmp .ne 8, 3) := by decide +kernel
theorem dX4_toldAt_10 : decode cX4_toldAt 10 = .ok (.bipush (-9), 2) := by decide +kernel
theorem dX4_toldAt_12 : decode cX4_toldAt 12 = .ok (.goto 9, 3) := by decide +kernel
theorem dX4_toldAt_15 : decode cX4_toldAt 15 = .ok (.aload_n 0, 1) := by decide +kernel
theorem dX4_toldAt_16 : decode cX4_toldAt 16 = .ok (.getfield 9, 3) := by decide +kernel
theorem dX4_toldAt_19 : decode cX4_toldAt 19 = .ok (.iload_n 1, 1) := by decide +kernel
theorem dX4_toldAt_20 : decode cX4_toldAt 20 = .ok (.iaload, 1) := by decide +kernel
theorem dX4_toldAt_21 : decode cX4_toldAt 21 = .ok (.ireturn, 1) := by decide +kernel
theorem dX4_blanks_0 : decode cX4_blanks 0 = .ok (.iconst 0, 1) := by decide +kernel
theorem dX4_blanks_1 : decode cX4_blanks 1 = .ok (.istore_n 1, 1) := by decide +kernel
theorem dX4_blanks_2 : decode cX4_blanks 2 = .ok (.iconst 0, 1) := by decide +kernel
theorem dX4_blanks_3 : decode cX4_blanks 3 = .ok (.istore_n 2, 1) := by decide +kernel
theorem dX4_blanks_4 : decode cX4_blanks 4 = .ok (.iload_n 2, 1) := by decide +kernel
theorem dX4_blanks_5 : decode cX4_blanks 5 = .ok (.aload_n 0, 1) := by decide +kernel
theorem dX4_blanks_6 : decode cX4_blanks 6 = .ok (.getfield 15, 3) := by decide +kernel
theorem dX4_blanks_9 : decode cX4_blanks 9 = .ok (.if_icmp .ge 22, 3) := by decide +kernel
theorem dX4_blanks_12 : decode cX4_blanks 12 = .ok (.aload_n 0, 1) := by decide +kernel
theorem dX4_blanks_13 : decode cX4_blanks 13 = .ok (.getfield 9, 3) := by decide +kernel
theorem dX4_blanks_16 : decode cX4_blanks 16 = .ok (.iload_n 2, 1) := by decide +kernel
theorem dX4_blanks_17 : decode cX4_blanks 17 = .ok (.iaload, 1) := by decide +kernel
theorem dX4_blanks_18 : decode cX4_blanks 18 = .ok (.iconst (-1), 1) := by decide +kernel
theorem dX4_blanks_19 : decode cX4_blanks 19 = .ok (.if_icmp .ne 6, 3) := by decide +kernel
theorem dX4_blanks_22 : decode cX4_blanks 22 = .ok (.iinc 1 1, 3) := by decide +kernel
theorem dX4_blanks_25 : decode cX4_blanks 25 = .ok (.iinc 2 1, 3) := by decide +kernel
theorem dX4_blanks_28 : decode cX4_blanks 28 = .ok (.goto (-24), 3) := by decide +kernel
theorem dX4_blanks_31 : decode cX4_blanks 31 = .ok (.iload_n 1, 1) := by decide +kernel
theorem dX4_blanks_32 : decode cX4_blanks 32 = .ok (.ireturn, 1) := by decide +kernel
theorem dX5_begin_0 : decode cX5_begin 0 = .ok (.iconst 0, 1) := by decide +kernel
theorem dX5_begin_1 : decode cX5_begin 1 = .ok (.istore_n 2, 1) := by decide +kernel
theorem dX5_begin_2 : decode cX5_begin 2 = .ok (.iload_n 2, 1) := by decide +kernel
theorem dX5_begin_3 : decode cX5_begin 3 = .ok (.iload_n 1, 1) := by decide +kernel
theorem dX5_begin_4 : decode cX5_begin 4 = .ok (.if_icmp .ge 19, 3) := by decide +kernel
theorem dX5_begin_7 : decode cX5_begin 7 = .ok (.iload_n 2, 1) := by decide +kernel
theorem dX5_begin_8 : decode cX5_begin 8 = .ok (.aload_n 0, 1) := by decide +kernel
theorem dX5_begin_9 : decode cX5_begin 9 = .ok (.arraylength, 1) := by decide +kernel
theorem dX5_begin_10 : decode cX5_begin 10 = .ok (.if_icmp .ge 13, 3) := by decide +kernel
theorem dX5_begin_13 : decode cX5_begin 13 = .ok (.aload_n 0, 1) := by decide +kernel
theorem dX5_begin_14 : decode cX5_begin 14 = .ok (.iload_n 2, 1) := by decide +kernel
theorem dX5_begin_15 : decode cX5_begin 15 = .ok (.iconst 0, 1) := by decide +kernel
theorem dX5_begin_16 : decode cX5_begin 16 = .ok (.iastore, 1) := by decide +kernel
theorem dX5_begin_17 : decode cX5_begin 17 = .ok (.iinc 2 1, 3) := by decide +kernel
theorem dX5_begin_20 : decode cX5_begin 20 = .ok (.goto (-18), 3) := by decide +kernel
theorem dX5_begin_23 : decode cX5_begin 23 = .ok (.return_, 1) := by decide +kernel
theorem dX5_howMany_0 : decode cX5_howMany 0 = .ok (.iconst 1, 1) := by decide +kernel
theorem dX5_howMany_1 : decode cX5_howMany 1 = .ok (.istore_n 2, 1) := by decide +kernel
theorem dX5_howMany_2 : decode cX5_howMany 2 = .ok (.iconst 0, 1) := by decide +kernel
theorem dX5_howMany_3 : decode cX5_howMany 3 = .ok (.istore_n 3, 1) := by decide +kernel
theorem dX5_howMany_4 : decode cX5_howMany 4 = .ok (.iload_n 3, 1) := by decide +kernel
theorem dX5_howMany_5 : decode cX5_howMany 5 = .ok (.iload_n 1, 1) := by decide +kernel
theorem dX5_howMany_6 : decode cX5_howMany 6 = .ok (.if_icmp .ge 13, 3) := by decide +kernel
theorem dX5_howMany_9 : decode cX5_howMany 9 = .ok (.iload_n 2, 1) := by decide +kernel
theorem dX5_howMany_10 : decode cX5_howMany 10 = .ok (.iload_n 0, 1) := by decide +kernel
theorem dX5_howMany_11 : decode cX5_howMany 11 = .ok (.imul, 1) := by decide +kernel
theorem dX5_howMany_12 : decode cX5_howMany 12 = .ok (.istore_n 2, 1) := by decide +kernel
theorem dX5_howMany_13 : decode cX5_howMany 13 = .ok (.iinc 3 1, 3) := by decide +kernel
theorem dX5_howMany_16 : decode cX5_howMany 16 = .ok (.goto (-12), 3) := by decide +kernel
theorem dX5_howMany_19 : decode cX5_howMany 19 = .ok (.iload_n 2, 1) := by decide +kernel
theorem dX5_howMany_20 : decode cX5_howMany 20 = .ok (.ireturn, 1) := by decide +kernel
theorem dX5_step_0 : decode cX5_step 0 = .ok (.iload_n 1, 1) := by decide +kernel
theorem dX5_step_1 : decode cX5_step 1 = .ok (.iconst 1, 1) := by decide +kernel
theorem dX5_step_2 : decode cX5_step 2 = .ok (.isub, 1) := by decide +kernel
theorem dX5_step_3 : decode cX5_step 3 = .ok (.istore_n 3, 1) := by decide +kernel
theorem dX5_step_4 : decode cX5_step 4 = .ok (.iload_n 3, 1) := by decide +kernel
theorem dX5_step_5 : decode cX5_step 5 = .ok (.ifCond .lt 34, 3) := by decide +kernel
theorem dX5_step_8 : decode cX5_step 8 = .ok (.iload_n 3, 1) := by decide +kernel
theorem dX5_step_9 : decode cX5_step 9 = .ok (.aload_n 0, 1) := by decide +kernel
theorem dX5_step_10 : decode cX5_step 10 = .ok (.arraylength, 1) := by decide +kernel
theorem dX5_step_11 : decode cX5_step 11 = .ok (.if_icmp .ge 28, 3) := by decide +kernel
theorem dX5_step_14 : decode cX5_step 14 = .ok (.aload_n 0, 1) := by decide +kernel
theorem dX5_step_15 : decode cX5_step 15 = .ok (.iload_n 3, 1) := by decide +kernel
theorem dX5_step_16 : decode cX5_step 16 = .ok (.dup2, 1) := by decide +kernel
theorem dX5_step_17 : decode cX5_step 17 = .ok (.iaload, 1) := by decide +kernel
theorem dX5_step_18 : decode cX5_step 18 = .ok (.iconst 1, 1) := by decide +kernel
theorem dX5_step_19 : decode cX5_step 19 = .ok (.iadd, 1) := by decide +kernel
theorem dX5_step_20 : decode cX5_step 20 = .ok (.iastore, 1) := by decide +kernel
theorem dX5_step_21 : decode cX5_step 21 = .ok (.aload_n 0, 1) := by decide +kernel
theorem dX5_step_22 : decode cX5_step 22 = .ok (.iload_n 3, 1) := by decide +kernel
theorem dX5_step_23 : decode cX5_step 23 = .ok (.iaload, 1) := by decide +kernel
theorem dX5_step_24 : decode cX5_step 24 = .ok (.iload_n 2, 1) := by decide +kernel
theorem dX5_step_25 : decode cX5_step 25 = .ok (.if_icmp .ge 4, 3) := by decide +kernel
theorem dX5_step_28 : decode cX5_step 28 = .ok (.return_, 1) := by decide +kernel
theorem dX5_step_29 : decode cX5_step 29 = .ok (.aload_n 0, 1) := by decide +kernel
theorem dX5_step_30 : decode cX5_step 30 = .ok (.iload_n 3, 1) := by decide +kernel
theorem dX5_step_31 : decode cX5_step 31 = .ok (.iconst 0, 1) := by decide +kernel
theorem dX5_step_32 : decode cX5_step 32 = .ok (.iastore, 1) := by decide +kernel
theorem dX5_step_33 : decode cX5_step 33 = .ok (.iinc 3 (-1), 3) := by decide +kernel
theorem dX5_step_36 : decode cX5_step 36 = .ok (.goto (-32), 3) := by decide +kernel
theorem dX5_step_39 : decode cX5_step 39 = .ok (.return_, 1) := by decide +kernel
set_option maxRecDepth 20000 in
theorem ggX5_isFirstOfTurns_X5_turnComesAhead : GoodIn wsX5_isFirstOfTurns wsX5_turnComesAhead := goodIn_r _ [4] (by decide +kernel) (by decide +kernel)
set_option maxRecDepth 20000 in
theorem gX5_isFirstOfTurns_X5_turnComesAhead : GoodIn wsX5_isFirstOfTurns (va_wsS RX5 7 yX5_turnComesAhead wsX5_turnComesAhead) := goodIn_app (goodIn_of _ (by decide +kernel)) ggX5_isFirstOfTurns_X5_turnComesAhead
theorem dX5_isFirstOfTurns_0 : decode cX5_isFirstOfTurns 0 = .ok (.iconst 1, 1) := by decide +kernel
theorem dX5_isFirstOfTurns_1 : decode cX5_isFirstOfTurns 1 = .ok (.istore_n 2, 1) := by decide +kernel
theorem dX5_isFirstOfTurns_2 : decode cX5_isFirstOfTurns 2 = .ok (.iload_n 2, 1) := by decide +kernel
theorem dX5_isFirstOfTurns_3 : decode cX5_isFirstOfTurns 3 = .ok (.iload_n 1, 1) := by decide +kernel
theorem dX5_isFirstOfTurns_4 : decode cX5_isFirstOfTurns 4 = .ok (.if_icmp .ge 20, 3) := by decide +kernel
theorem dX5_isFirstOfTurns_7 : decode cX5_isFirstOfTurns 7 = .ok (.aload_n 0, 1) := by decide +kernel
theorem dX5_isFirstOfTurns_8 : decode cX5_isFirstOfTurns 8 = .ok (.iload_n 1, 1) := by decide +kernel
theorem dX5_isFirstOfTurns_9 : decode cX5_isFirstOfTurns 9 = .ok (.iload_n 2, 1) := by decide +kernel
theorem dX5_isFirstOfTurns_10 : decode cX5_isFirstOfTurns 10 = .ok (.invokestatic 7, 3) := by decide +kernel
theorem dX5_isFirstOfTurns_13 : decode cX5_isFirstOfTurns 13 = .ok (.ifCond .eq 5, 3) := by decide +kernel
theorem dX5_isFirstOfTurns_16 : decode cX5_isFirstOfTurns 16 = .ok (.iconst 0, 1) := by decide +kernel
theorem dX5_isFirstOfTurns_17 : decode cX5_isFirstOfTurns 17 = .ok (.ireturn, 1) := by decide +kernel
theorem dX5_isFirstOfTurns_18 : decode cX5_isFirstOfTurns 18 = .ok (.iinc 2 1, 3) := by decide +kernel
theorem dX5_isFirstOfTurns_21 : decode cX5_isFirstOfTurns 21 = .ok (.goto (-19), 3) := by decide +kernel
theorem dX5_isFirstOfTurns_24 : decode cX5_isFirstOfTurns 24 = .ok (.iconst 1, 1) := by decide +kernel
theorem dX5_isFirstOfTurns_25 : decode cX5_isFirstOfTurns 25 = .ok (.ireturn, 1) := by decide +kernel
theorem dX5_turnComesAhead_0 : decode cX5_turnComesAhead 0 = .ok (.iload_n 2, 1) := by decide +kernel
theorem dX5_turnComesAhead_1 : decode cX5_turnComesAhead 1 = .ok (.istore_n 3, 1) := by decide +kernel
theorem dX5_turnComesAhead_2 : decode cX5_turnComesAhead 2 = .ok (.iconst 0, 1) := by decide +kernel
theorem dX5_turnComesAhead_3 : decode cX5_turnComesAhead 3 = .ok (.istore 4, 2) := by decide +kernel
theorem dX5_turnComesAhead_5 : decode cX5_turnComesAhead 5 = .ok (.iload 4, 2) := by decide +kernel
theorem dX5_turnComesAhead_7 : decode cX5_turnComesAhead 7 = .ok (.iload_n 1, 1) := by decide +kernel
theorem dX5_turnComesAhead_8 : decode cX5_turnComesAhead 8 = .ok (.if_icmp .ge 45, 3) := by decide +kernel
theorem dX5_turnComesAhead_11 : decode cX5_turnComesAhead 11 = .ok (.aload_n 0, 1) := by decide +kernel
theorem dX5_turnComesAhead_12 : decode cX5_turnComesAhead 12 = .ok (.iload_n 3, 1) := by decide +kernel
theorem dX5_turnComesAhead_13 : decode cX5_turnComesAhead 13 = .ok (.iaload, 1) := by decide +kernel
theorem dX5_turnComesAhead_14 : decode cX5_turnComesAhead 14 = .ok (.aload_n 0, 1) := by decide +kernel
theorem dX5_turnComesAhead_15 : decode cX5_turnComesAhead 15 = .ok (.iload 4, 2) := by decide +kernel
theorem dX5_turnComesAhead_17 : decode cX5_turnComesAhead 17 = .ok (.iaload, 1) := by decide +kernel
theorem dX5_turnComesAhead_18 : decode cX5_turnComesAhead 18 = .ok (.if_icmp .eq 19, 3) := by decide +kernel
theorem dX5_turnComesAhead_21 : decode cX5_turnComesAhead 21 = .ok (.aload_n 0, 1) := by decide +kernel
theorem dX5_turnComesAhead_22 : decode cX5_turnComesAhead 22 = .ok (.iload_n 3, 1) := by decide +kernel
theorem dX5_turnComesAhead_23 : decode cX5_turnComesAhead 23 = .ok (.iaload, 1) := by decide +kernel
theorem dX5_turnComesAhead_24 : decode cX5_turnComesAhead 24 = .ok (.aload_n 0, 1) := by decide +kernel
theorem dX5_turnComesAhead_25 : decode cX5_turnComesAhead 25 = .ok (.iload 4, 2) := by decide +kernel
theorem dX5_turnComesAhead_27 : decode cX5_turnComesAhead 27 = .ok (.iaload, 1) := by decide +kernel
theorem dX5_turnComesAhead_28 : decode cX5_turnComesAhead 28 = .ok (.if_icmp .ge 7, 3) := by decide +kernel
theorem dX5_turnComesAhead_31 : decode cX5_turnComesAhead 31 = .ok (.iconst 1, 1) := by decide +kernel
theorem dX5_turnComesAhead_32 : decode cX5_turnComesAhead 32 = .ok (.goto 4, 3) := by decide +kernel
theorem dX5_turnComesAhead_35 : decode cX5_turnComesAhead 35 = .ok (.iconst 0, 1) := by decide +kernel
theorem dX5_turnComesAhead_36 : decode cX5_turnComesAhead 36 = .ok (.ireturn, 1) := by decide +kernel
theorem dX5_turnComesAhead_37 : decode cX5_turnComesAhead 37 = .ok (.iinc 3 1, 3) := by decide +kernel
theorem dX5_turnComesAhead_40 : decode cX5_turnComesAhead 40 = .ok (.iload_n 3, 1) := by decide +kernel
theorem dX5_turnComesAhead_41 : decode cX5_turnComesAhead 41 = .ok (.iload_n 1, 1) := by decide +kernel
theorem dX5_turnComesAhead_42 : decode cX5_turnComesAhead 42 = .ok (.if_icmp .ne 5, 3) := by decide +kernel
theorem dX5_turnComesAhead_45 : decode cX5_turnComesAhead 45 = .ok (.iconst 0, 1) := by decide +kernel
theorem dX5_turnComesAhead_46 : decode cX5_turnComesAhead 46 = .ok (.istore_n 3, 1) := by decide +kernel
theorem dX5_turnComesAhead_47 : decode cX5_turnComesAhead 47 = .ok (.iinc 4 1, 3) := by decide +kernel
theorem dX5_turnComesAhead_50 : decode cX5_turnComesAhead 50 = .ok (.goto (-45), 3) := by decide +kernel
theorem dX5_turnComesAhead_53 : decode cX5_turnComesAhead 53 = .ok (.iconst 0, 1) := by decide +kernel
theorem dX5_turnComesAhead_54 : decode cX5_turnComesAhead 54 = .ok (.ireturn, 1) := by decide +kernel
theorem dX6_init_0 : decode cX6_init 0 = .ok (.aload_n 0, 1) := by decide +kernel
theorem dX6_init_1 : decode cX6_init 1 = .ok (.invokespecial 3, 3) := by decide +kernel
theorem dX6_init_4 : decode cX6_init 4 = .ok (.aload_n 0, 1) := by decide +kernel
theorem dX6_init_5 : decode cX6_init 5 = .ok (.iload_n 1, 1) := by decide +kernel
theorem dX6_init_6 : decode cX6_init 6 = .ok (.putfield 9, 3) := by decide +kernel
theorem dX6_init_9 : decode cX6_init 9 = .ok (.aload_n 0, 1) := by decide +kernel
theorem dX6_init_10 : decode cX6_init 10 = .ok (.iconst 0, 1) := by decide +kernel
theorem dX6_init_11 : decode cX6_init 11 = .ok (.putfield 15, 3) := by decide +kernel
theorem dX6_init_14 : decode cX6_init 14 = .ok (.aload_n 0, 1) := by decide +kernel
theorem dX6_init_15 : decode cX6_init 15 = .ok (.bipush 16, 2) := by decide +kernel
theorem dX6_init_17 : decode cX6_init 17 = .ok (.newarray .int, 2) := by decide +kernel
theorem dX6_init_19 : decode cX6_init 19 = .ok (.putfield 19, 3) := by decide +kernel
theorem dX6_init_22 : decode cX6_init 22 = .ok (.aload_n 0, 1) := by decide +kernel
theorem dX6_init_23 : decode cX6_init 23 = .ok (.bipush 80, 2) := by decide +kernel
theorem dX6_init_25 : decode cX6_init 25 = .ok (.newarray .int, 2) := by decide +kernel
theorem dX6_init_27 : decode cX6_init 27 = .ok (.putfield 23, 3) := by decide +kernel
theorem dX6_init_30 : decode cX6_init 30 = .ok (.aload_n 0, 1) := by decide +kernel
theorem dX6_init_31 : decode cX6_init 31 = .ok (.bipush 6, 2) := by decide +kernel
theorem dX6_init_33 : decode cX6_init 33 = .ok (.newarray .int, 2) := by decide +kernel
theorem dX6_init_35 : decode cX6_init 35 = .ok (.putfield 26, 3) := by decide +kernel
theorem dX6_init_38 : decode cX6_init 38 = .ok (.aload_n 0, 1) := by decide +kernel
theorem dX6_init_39 : decode cX6_init 39 = .ok (.iconst 0, 1) := by decide +kernel
theorem dX6_init_40 : decode cX6_init 40 = .ok (.putfield 29, 3) := by decide +kernel
theorem dX6_init_43 : decode cX6_init 43 = .ok (.aload_n 0, 1) := by decide +kernel
theorem dX6_init_44 : decode cX6_init 44 = .ok (.bipush 6, 2) := by decide +kernel
theorem dX6_init_46 : decode cX6_init 46 = .ok (.newarray .int, 2) := by decide +kernel
theorem dX6_init_48 : decode cX6_init 48 = .ok (.putfield 32, 3) := by decide +kernel
theorem dX6_init_51 : decode cX6_init 51 = .ok (.aload_n 0, 1) := by decide +kernel
theorem dX6_init_52 : decode cX6_init 52 = .ok (.iconst 5, 1) := by decide +kernel
theorem dX6_init_53 : decode cX6_init 53 = .ok (.newarray .int, 2) := by decide +kernel
theorem dX6_init_55 : decode cX6_init 55 = .ok (.putfield 35, 3) := by decide +kernel
theorem dX6_init_58 : decode cX6_init 58 = .ok (.return_, 1) := by decide +kernel
set_option maxRecDepth 20000 in
theorem ggX6_look_J7_fill_53178 : GoodIn wsX6_look wsJ7_fill_53178 := goodIn_r _ [9] (by decide +kernel) (by decide +kernel)
set_option maxRecDepth 20000 in
theorem gX6_look_J7_fill_53178 : GoodIn wsX6_look (va_wsS RX6 38 yJ7_fill_53178 wsJ7_fill_53178) := goodIn_app (goodIn_of _ (by decide +kernel)) ggX6_look_J7_fill_53178
set_option maxRecDepth 20000 in
theorem ggX6_look_X6_lookAtAll : GoodIn wsX6_look wsX6_lookAtAll := goodIn_r _ [14, 15, 16, 17, 18, 19, 20, 21, 22, 23, 24, 25, 26, 27, 28, 29, 30, 31, 32, 33, 34, 35, 36, 37, 38, 39, 40, 41, 42, 43, 44, 45, 46, 47, 48, 49, 50, 51, 52, 13, 53, 3, 2, 54, 55, 56, 57, 58, 5, 59, 60, 61, 62, 4, 63, 64, 65, 66, 67, 68, 69, 70, 71, 72, 73, 74, 75, 76, 77, 78, 79, 80, 81, 82] (by decide +kernel) (by decide +kernel)
set_option maxRecDepth 20000 in
theorem gX6_look_X6_lookAtAll : GoodIn wsX6_look (wsV RX6 44 RX6 yX6_lookAtAll wsX6_lookAtAll) := goodIn_app (goodIn_of _ (by decide +kernel)) ggX6_look_X6_lookAtAll
theorem dX6_look_0 : decode cX6_look 0 = .ok (.aload_n 0, 1) := by decide +kernel
theorem dX6_look_1 : decode cX6_look 1 = .ok (.getfield 15, 3) := by decide +kernel
theorem dX6_look_4 : decode cX6_look 4 = .ok (.ifCond .eq 4, 3) := by decide +kernel
theorem dX6_look_7 : decode cX6_look 7 = .ok (.return_, 1) := by decide +kernel
theorem dX6_look_8 : decode cX6_look 8 = .ok (.aload_n 0, 1) := by decide +kernel
theorem dX6_look_9 : decode cX6_look 9 = .ok (.getfield 19, 3) := by decide +kernel
theorem dX6_look_12 : decode cX6_look 12 = .ok (.iconst 0, 1) := by decide +kernel
theorem dX6_look_13 : decode cX6_look 13 = .ok (.invokestatic 38, 3) := by decide +kernel
theorem dX6_look_16 : decode cX6_look 16 = .ok (.aload_n 0, 1) := by decide +kernel
theorem dX6_look_17 : decode cX6_look 17 = .ok (.getfield 26, 3) := by decide +kernel
theorem dX6_look_20 : decode cX6_look 20 = .ok (.iconst 0, 1) := by decide +kernel
theorem dX6_look_21 : decode cX6_look 21 = .ok (.invokestatic 38, 3) := by decide +kernel
theorem dX6_look_24 : decode cX6_look 24 = .ok (.aload_n 0, 1) := by decide +kernel
theorem dX6_look_25 : decode cX6_look 25 = .ok (.getfield 32, 3) := by decide +kernel
theorem dX6_look_28 : decode cX6_look 28 = .ok (.iconst 0, 1) := by decide +kernel
theorem dX6_look_29 : decode cX6_look 29 = .ok (.invokestatic 38, 3) := by decide +kernel
theorem dX6_look_32 : decode cX6_look 32 = .ok (.aload_n 0, 1) := by decide +kernel
theorem dX6_look_33 : decode cX6_look 33 = .ok (.iconst 0, 1) := by decide +kernel
theorem dX6_look_34 : decode cX6_look 34 = .ok (.putfield 29, 3) := by decide +kernel
theorem dX6_look_37 : decode cX6_look 37 = .ok (.iconst 1, 1) := by decide +kernel
theorem dX6_look_38 : decode cX6_look 38 = .ok (.istore_n 2, 1) := by decide +kernel
theorem dX6_look_39 : decode cX6_look 39 = .ok (.iload_n 2, 1) := by decide +kernel
theorem dX6_look_40 : decode cX6_look 40 = .ok (.iconst 5, 1) := by decide +kernel
theorem dX6_look_41 : decode cX6_look 41 = .ok (.if_icmp .gt 15, 3) := by decide +kernel
theorem dX6_look_44 : decode cX6_look 44 = .ok (.aload_n 0, 1) := by decide +kernel
theorem dX6_look_45 : decode cX6_look 45 = .ok (.aload_n 1, 1) := by decide +kernel
theorem dX6_look_46 : decode cX6_look 46 = .ok (.iload_n 2, 1) := by decide +kernel
theorem dX6_look_47 : decode cX6_look 47 = .ok (.invokevirtual 44, 3) := by decide +kernel
theorem dX6_look_50 : decode cX6_look 50 = .ok (.iinc 2 1, 3) := by decide +kernel
theorem dX6_look_53 : decode cX6_look 53 = .ok (.goto (-14), 3) := by decide +kernel
theorem dX6_look_56 : decode cX6_look 56 = .ok (.aload_n 0, 1) := by decide +kernel
theorem dX6_look_57 : decode cX6_look 57 = .ok (.iconst 1, 1) := by decide +kernel
theorem dX6_look_58 : decode cX6_look 58 = .ok (.putfield 15, 3) := by decide +kernel
theorem dX6_look_61 : decode cX6_look 61 = .ok (.return_, 1) := by decide +kernel
set_option maxRecDepth 20000 in
theorem ggX6_lookAtAll_X5_begin : GoodIn wsX6_lookAtAll wsX5_begin := goodIn_r _ [7] (by decide +kernel) (by decide +kernel)
set_option maxRecDepth 20000 in
theorem gX6_lookAtAll_X5_begin : GoodIn wsX6_lookAtAll (va_wsS RX6 48 yX5_begin wsX5_begin) := goodIn_app (goodIn_of _ (by decide +kernel)) ggX6_lookAtAll_X5_begin
set_option maxRecDepth 20000 in
theorem ggX6_lookAtAll_X5_howMany : GoodIn wsX6_lookAtAll wsX5_howMany := goodIn_r _ [10] (by decide +kernel) (by decide +kernel)
set_option maxRecDepth 20000 in
theorem gX6_lookAtAll_X5_howMany : GoodIn wsX6_lookAtAll (va_wsS RX6 58 yX5_howMany wsX5_howMany) := goodIn_app (goodIn_of _ (by decide +kernel)) ggX6_lookAtAll_X5_howMany
set_option maxRecDepth 20000 in
theorem ggX6_lookAtAll_X5_isFirstOfTurns : GoodIn wsX6_lookAtAll wsX5_isFirstOfTurns := goodIn_r _ [13, 14, 15, 6, 16] (by decide +kernel) (by decide +kernel)
set_option maxRecDepth 20000 in
theorem gX6_lookAtAll_X5_isFirstOfTurns : GoodIn wsX6_lookAtAll (va_wsS RX6 62 yX5_isFirstOfTurns wsX5_isFirstOfTurns) := goodIn_app (goodIn_of _ (by decide +kernel)) ggX6_lookAtAll_X5_isFirstOfTurns
set_option maxRecDepth 20000 in
theorem ggX6_lookAtAll_X8_oneMeaning : GoodIn wsX6_lookAtAll wsX8_oneMeaning := goodIn_r _ [21, 22, 23, 24, 20, 25, 26, 27, 28, 29, 30, 31, 32, 33, 34, 35, 65, 66, 67, 68, 69, 70, 71, 72, 73] (by decide +kernel) (by decide +kernel)
set_option maxRecDepth 20000 in
theorem gX6_lookAtAll_X8_oneMeaning : GoodIn wsX6_lookAtAll (wsV RX6 66 RX8 yX8_oneMeaning wsX8_oneMeaning) := goodIn_app (goodIn_of _ (by decide +kernel)) ggX6_lookAtAll_X8_oneMeaning
set_option maxRecDepth 20000 in
theorem ggX6_lookAtAll_X6_note : GoodIn wsX6_lookAtAll wsX6_note := goodIn_r _ [40, 41, 42, 1, 43, 44, 45, 46, 47, 48, 49, 50, 51, 39, 52, 53, 57, 58, 59, 60, 61, 62, 63, 64] (by decide +kernel) (by decide +kernel)
set_option maxRecDepth 20000 in
theorem gX6_lookAtAll_X6_note : GoodIn wsX6_lookAtAll (wsV RX6 70 RX6 yX6_note wsX6_note) := goodIn_app (goodIn_of _ (by decide +kernel)) ggX6_lookAtAll_X6_note
set_option maxRecDepth 20000 in
theorem ggX6_lookAtAll_X5_step : GoodIn wsX6_lookAtAll wsX5_step := goodIn_r _ [56] (by decide +kernel) (by decide +kernel)
set_option maxRecDepth 20000 in
theorem gX6_lookAtAll_X5_step : GoodIn wsX6_lookAtAll (va_wsS RX6 74 yX5_step wsX5_step) := goodIn_app (goodIn_of _ (by decide +kernel)) ggX6_lookAtAll_X5_step
theorem dX6_lookAtAll_0 : decode cX6_lookAtAll 0 = .ok (.aload_n 0, 1) := by decide +kernel
theorem dX6_lookAtAll_1 : decode cX6_lookAtAll 1 = .ok (.getfield 35, 3) := by decide +kernel
theorem dX6_lookAtAll_4 : decode cX6_lookAtAll 4 = .ok (.iload_n 2, 1) := by decide +kernel
theorem dX6_lookAtAll_5 : decode cX6_lookAtAll 5 = .ok (.invokestatic 48, 3) := by decide +kernel
theorem dX6_lookAtAll_8 : decode cX6_lookAtAll 8 = .ok (.aload_n 1, 1) := by decide +kernel
theorem dX6_lookAtAll_9 : decode cX6_lookAtAll 9 = .ok (.getfield 53, 3) := by decide +kernel
theorem dX6_lookAtAll_12 : decode cX6_lookAtAll 12 = .ok (.iload_n 2, 1) := by decide +kernel
theorem dX6_lookAtAll_13 : decode cX6_lookAtAll 13 = .ok (.invokestatic 58, 3) := by decide +kernel
theorem dX6_lookAtAll_16 : decode cX6_lookAtAll 16 = .ok (.istore_n 3, 1) := by decide +kernel
theorem dX6_lookAtAll_17 : decode cX6_lookAtAll 17 = .ok (.iload_n 3, 1) := by decide +kernel
theorem dX6_lookAtAll_18 : decode cX6_lookAtAll 18 = .ok (.ifCond .le 65, 3) := by decide +kernel
theorem dX6_lookAtAll_21 : decode cX6_lookAtAll 21 = .ok (.aload_n 0, 1) := by decide +kernel
theorem dX6_lookAtAll_22 : decode cX6_lookAtAll 22 = .ok (.getfield 35, 3) := by decide +kernel
theorem dX6_lookAtAll_25 : decode cX6_lookAtAll 25 = .ok (.iload_n 2, 1) := by decide +kernel
theorem dX6_lookAtAll_26 : decode cX6_lookAtAll 26 = .ok (.invokestatic 62, 3) := by decide +kernel
theorem dX6_lookAtAll_29 : decode cX6_lookAtAll 29 = .ok (.ifCond .eq 36, 3) := by decide +kernel
theorem dX6_lookAtAll_32 : decode cX6_lookAtAll 32 = .ok (.aload_n 1, 1) := by decide +kernel
theorem dX6_lookAtAll_33 : decode cX6_lookAtAll 33 = .ok (.aload_n 0, 1) := by decide +kernel
theorem dX6_lookAtAll_34 : decode cX6_lookAtAll 34 = .ok (.getfield 35, 3) := by decide +kernel
theorem dX6_lookAtAll_37 : decode cX6_lookAtAll 37 = .ok (.iload_n 2, 1) := by decide +kernel
theorem dX6_lookAtAll_38 : decode cX6_lookAtAll 38 = .ok (.aload_n 0, 1) := by decide +kernel
theorem dX6_lookAtAll_39 : decode cX6_lookAtAll 39 = .ok (.getfield 9, 3) := by decide +kernel
theorem dX6_lookAtAll_42 : decode cX6_lookAtAll 42 = .ok (.invokevirtual 66, 3) := by decide +kernel
theorem dX6_lookAtAll_45 : decode cX6_lookAtAll 45 = .ok (.istore 4, 2) := by decide +kernel
theorem dX6_lookAtAll_47 : decode cX6_lookAtAll 47 = .ok (.iload 4, 2) := by decide +kernel
theorem dX6_lookAtAll_49 : decode cX6_lookAtAll 49 = .ok (.bipush 16, 2) := by decide +kernel
theorem dX6_lookAtAll_51 : decode cX6_lookAtAll 51 = .ok (.if_icmp .eq 14, 3) := by decide +kernel
theorem dX6_lookAtAll_54 : decode cX6_lookAtAll 54 = .ok (.aload_n 0, 1) := by decide +kernel
theorem dX6_lookAtAll_55 : decode cX6_lookAtAll 55 = .ok (.iload 4, 2) := by decide +kernel
theorem dX6_lookAtAll_57 : decode cX6_lookAtAll 57 = .ok (.iload_n 2, 1) := by decide +kernel
theorem dX6_lookAtAll_58 : decode cX6_lookAtAll 58 = .ok (.aload_n 1, 1) := by decide +kernel
theorem dX6_lookAtAll_59 : decode cX6_lookAtAll 59 = .ok (.getfield 53, 3) := by decide +kernel
theorem dX6_lookAtAll_62 : decode cX6_lookAtAll 62 = .ok (.invokevirtual 70, 3) := by decide +kernel
theorem dX6_lookAtAll_65 : decode cX6_lookAtAll 65 = .ok (.aload_n 0, 1) := by decide +kernel
theorem dX6_lookAtAll_66 : decode cX6_lookAtAll 66 = .ok (.getfield 35, 3) := by decide +kernel
theorem dX6_lookAtAll_69 : decode cX6_lookAtAll 69 = .ok (.iload_n 2, 1) := by decide +kernel
theorem dX6_lookAtAll_70 : decode cX6_lookAtAll 70 = .ok (.aload_n 1, 1) := by decide +kernel
theorem dX6_lookAtAll_71 : decode cX6_lookAtAll 71 = .ok (.getfield 53, 3) := by decide +kernel
theorem dX6_lookAtAll_74 : decode cX6_lookAtAll 74 = .ok (.invokestatic 74, 3) := by decide +kernel
theorem dX6_lookAtAll_77 : decode cX6_lookAtAll 77 = .ok (.iinc 3 (-1), 3) := by decide +kernel
theorem dX6_lookAtAll_80 : decode cX6_lookAtAll 80 = .ok (.goto (-63), 3) := by decide +kernel
theorem dX6_lookAtAll_83 : decode cX6_lookAtAll 83 = .ok (.return_, 1) := by decide +kernel
set_option maxRecDepth 20000 in
theorem ggX6_note_X6_noteWithout : GoodIn wsX6_note wsX6_noteWithout := goodIn_r _ [14, 3, 15, 16, 17, 18, 19, 20, 21, 22, 23] (by decide +kernel) (by decide +kernel)
set_option maxRecDepth 20000 in
theorem gX6_note_X6_noteWithout : GoodIn wsX6_note (wsV RX6 84 RX6 yX6_noteWithout wsX6_noteWithout) := goodIn_app (goodIn_of _ (by decide +kernel)) ggX6_note_X6_noteWithout
theorem dX6_note_0 : decode cX6_note 0 = .ok (.aload_n 0, 1) := by decide +kernel
theorem dX6_note_1 : decode cX6_note 1 = .ok (.getfield 26, 3) := by decide +kernel
theorem dX6_note_4 : decode cX6_note 4 = .ok (.iload_n 2, 1) := by decide +kernel
theorem dX6_note_5 : decode cX6_note 5 = .ok (.dup2, 1) := by decide +kernel
theorem dX6_note_6 : decode cX6_note 6 = .ok (.iaload, 1) := by decide +kernel
theorem dX6_note_7 : decode cX6_note 7 = .ok (.iconst 1, 1) := by decide +kernel
theorem dX6_note_8 : decode cX6_note 8 = .ok (.iadd, 1) := by decide +kernel
theorem dX6_note_9 : decode cX6_note 9 = .ok (.iastore, 1) := by decide +kernel
theorem dX6_note_10 : decode cX6_note 10 = .ok (.aload_n 0, 1) := by decide +kernel
theorem dX6_note_11 : decode cX6_note 11 = .ok (.getfield 19, 3) := by decide +kernel
theorem dX6_note_14 : decode cX6_note 14 = .ok (.iload_n 1, 1) := by decide +kernel
theorem dX6_note_15 : decode cX6_note 15 = .ok (.iaload, 1) := by decide +kernel
theorem dX6_note_16 : decode cX6_note 16 = .ok (.ifCond .ne 26, 3) := by decide +kernel
theorem dX6_note_19 : decode cX6_note 19 = .ok (.aload_n 0, 1) := by decide +kernel
theorem dX6_note_20 : decode cX6_note 20 = .ok (.getfield 19, 3) := by decide +kernel
theorem dX6_note_23 : decode cX6_note 23 = .ok (.iload_n 1, 1) := by decide +kernel
theorem dX6_note_24 : decode cX6_note 24 = .ok (.iload_n 2, 1) := by decide +kernel
theorem dX6_note_25 : decode cX6_note 25 = .ok (.iastore, 1) := by decide +kernel
theorem dX6_note_26 : decode cX6_note 26 = .ok (.aload_n 0, 1) := by decide +kernel
theorem dX6_note_27 : decode cX6_note 27 = .ok (.getfield 35, 3) := by decide +kernel
theorem dX6_note_30 : decode cX6_note 30 = .ok (.iconst 0, 1) := by decide +kernel
theorem dX6_note_31 : decode cX6_note 31 = .ok (.aload_n 0, 1) := by decide +kernel
theorem dX6_note_32 : decode cX6_note 32 = .ok (.getfield 23, 3) := by decide +kernel
theorem dX6_note_35 : decode cX6_note 35 = .ok (.iload_n 1, 1) := by decide +kernel
theorem dX6_note_36 : decode cX6_note 36 = .ok (.iconst 5, 1) := by decide +kernel
theorem dX6_note_37 : decode cX6_note 37 = .ok (.imul, 1) := by decide +kernel
theorem dX6_note_38 : decode cX6_note 38 = .ok (.iload_n 2, 1) := by decide +kernel
theorem dX6_note_39 : decode cX6_note 39 = .ok (.invokestatic 78, 3) := by decide +kernel
theorem dX6_note_42 : decode cX6_note 42 = .ok (.iload_n 2, 1) := by decide +kernel
theorem dX6_note_43 : decode cX6_note 43 = .ok (.iconst 4, 1) := by decide +kernel
theorem dX6_note_44 : decode cX6_note 44 = .ok (.if_icmp .gt 22, 3) := by decide +kernel
theorem dX6_note_47 : decode cX6_note 47 = .ok (.aload_n 0, 1) := by decide +kernel
theorem dX6_note_48 : decode cX6_note 48 = .ok (.dup, 1) := by decide +kernel
theorem dX6_note_49 : decode cX6_note 49 = .ok (.getfield 29, 3) := by decide +kernel
theorem dX6_note_52 : decode cX6_note 52 = .ok (.iconst 1, 1) := by decide +kernel
theorem dX6_note_53 : decode cX6_note 53 = .ok (.iload_n 1, 1) := by decide +kernel
theorem dX6_note_54 : decode cX6_note 54 = .ok (.ishl, 1) := by decide +kernel
theorem dX6_note_55 : decode cX6_note 55 = .ok (.ior, 1) := by decide +kernel
theorem dX6_note_56 : decode cX6_note 56 = .ok (.putfield 29, 3) := by decide +kernel
theorem dX6_note_59 : decode cX6_note 59 = .ok (.aload_n 0, 1) := by decide +kernel
theorem dX6_note_60 : decode cX6_note 60 = .ok (.iload_n 1, 1) := by decide +kernel
theorem dX6_note_61 : decode cX6_note 61 = .ok (.iload_n 2, 1) := by decide +kernel
theorem dX6_note_62 : decode cX6_note 62 = .ok (.iload_n 3, 1) := by decide +kernel
theorem dX6_note_63 : decode cX6_note 63 = .ok (.invokevirtual 84, 3) := by decide +kernel
theorem dX6_note_66 : decode cX6_note 66 = .ok (.return_, 1) := by decide +kernel
theorem dX6_noteWithout_0 : decode cX6_noteWithout 0 = .ok (.iconst 0, 1) := by decide +kernel
theorem dX6_noteWithout_1 : decode cX6_noteWithout 1 = .ok (.istore 4, 2) := by decide +kernel
theorem dX6_noteWithout_3 : decode cX6_noteWithout 3 = .ok (.iconst 0, 1) := by decide +kernel
theorem dX6_noteWithout_4 : decode cX6_noteWithout 4 = .ok (.istore 5, 2) := by decide +kernel
theorem dX6_noteWithout_6 : decode cX6_noteWithout 6 = .ok (.iload 5, 2) := by decide +kernel
theorem dX6_noteWithout_8 : decode cX6_noteWithout 8 = .ok (.iload_n 2, 1) := by decide +kernel
theorem dX6_noteWithout_9 : decode cX6_noteWithout 9 = .ok (.if_icmp .ge 23, 3) := by decide +kernel
theorem dX6_noteWithout_12 : decode cX6_noteWithout 12 = .ok (.iload 4, 2) := by decide +kernel
theorem dX6_noteWithout_14 : decode cX6_noteWithout 14 = .ok (.iconst 1, 1) := by decide +kernel
theorem dX6_noteWithout_15 : decode cX6_noteWithout 15 = .ok (.aload_n 0, 1) := by decide +kernel
theorem dX6_noteWithout_16 : decode cX6_noteWithout 16 = .ok (.getfield 35, 3) := by decide +kernel
theorem dX6_noteWithout_19 : decode cX6_noteWithout 19 = .ok (.iload 5, 2) := by decide +kernel
theorem dX6_noteWithout_21 : decode cX6_noteWithout 21 = .ok (.iaload, 1) := by decide +kernel
theorem dX6_noteWithout_22 : decode cX6_noteWithout 22 = .ok (.ishl, 1) := by decide +kernel
theorem dX6_noteWithout_23 : decode cX6_noteWithout 23 = .ok (.ior, 1) := by decide +kernel
theorem dX6_noteWithout_24 : decode cX6_noteWithout 24 = .ok (.istore 4, 2) := by decide +kernel
theorem dX6_noteWithout_26 : decode cX6_noteWithout 26 = .ok (.iinc 5 1, 3) := by decide +kernel
theorem dX6_noteWithout_29 : decode cX6_noteWithout 29 = .ok (.goto (-23), 3) := by decide +kernel
theorem dX6_noteWithout_32 : decode cX6_noteWithout 32 = .ok (.iconst 0, 1) := by decide +kernel
theorem dX6_noteWithout_33 : decode cX6_noteWithout 33 = .ok (.istore 5, 2) := by decide +kernel
theorem dX6_noteWithout_35 : decode cX6_noteWithout 35 = .ok (.iload 5, 2) := by decide +kernel
theorem dX6_noteWithout_37 : decode cX6_noteWithout 37 = .ok (.iload_n 3, 1) := by decide +kernel
theorem dX6_noteWithout_38 : decode cX6_noteWithout 38 = .ok (.if_icmp .ge 32, 3) := by decide +kernel
theorem dX6_noteWithout_41 : decode cX6_noteWithout 41 = .ok (.iload 4, 2) := by decide +kernel
theorem dX6_noteWithout_43 : decode cX6_noteWithout 43 = .ok (.iload 5, 2) := by decide +kernel
theorem dX6_noteWithout_45 : decode cX6_noteWithout 45 = .ok (.ishr, 1) := by decide +kernel
theorem dX6_noteWithout_46 : decode cX6_noteWithout 46 = .ok (.iconst 1, 1) := by decide +kernel
theorem dX6_noteWithout_47 : decode cX6_noteWithout 47 = .ok (.iand, 1) := by decide +kernel
theorem dX6_noteWithout_48 : decode cX6_noteWithout 48 = .ok (.ifCond .ne 16, 3) := by decide +kernel
theorem dX6_noteWithout_51 : decode cX6_noteWithout 51 = .ok (.aload_n 0, 1) := by decide +kernel
theorem dX6_noteWithout_52 : decode cX6_noteWithout 52 = .ok (.getfield 32, 3) := by decide +kernel
theorem dX6_noteWithout_55 : decode cX6_noteWithout 55 = .ok (.iload 5, 2) := by decide +kernel
theorem dX6_noteWithout_57 : decode cX6_noteWithout 57 = .ok (.dup2, 1) := by decide +kernel
theorem dX6_noteWithout_58 : decode cX6_noteWithout 58 = .ok (.iaload, 1) := by decide +kernel
theorem dX6_noteWithout_59 : decode cX6_noteWithout 59 = .ok (.iconst 1, 1) := by decide +kernel
theorem dX6_noteWithout_60 : decode cX6_noteWithout 60 = .ok (.iload_n 1, 1) := by decide +kernel
theorem dX6_noteWithout_61 : decode cX6_noteWithout 61 = .ok (.ishl, 1) := by decide +kernel
theorem dX6_noteWithout_62 : decode cX6_noteWithout 62 = .ok (.ior, 1) := by decide +kernel
theorem dX6_noteWithout_63 : decode cX6_noteWithout 63 = .ok (.iastore, 1) := by decide +kernel
theorem dX6_noteWithout_64 : decode cX6_noteWithout 64 = .ok (.iinc 5 1, 3) := by decide +kernel
theorem dX6_noteWithout_67 : decode cX6_noteWithout 67 = .ok (.goto (-32), 3) := by decide +kernel
theorem dX6_noteWithout_70 : decode cX6_noteWithout 70 = .ok (.return_, 1) := by decide +kernel
set_option maxRecDepth 20000 in
theorem ggX7_init_X8_init : GoodIn wsX7_init wsX8_init := goodIn_r _ [16, 17, 2, 3, 8, 18, 19, 20, 21, 22, 23, 24, 25, 26, 27, 28, 29, 30, 31, 32, 33, 34, 35] (by decide +kernel) (by decide +kernel)
set_option maxRecDepth 20000 in
theorem gX7_init_X8_init : GoodIn wsX7_init (wsX8_init) := ggX7_init_X8_init
theorem dX7_init_0 : decode cX7_init 0 = .ok (.aload_n 0, 1) := by decide +kernel
theorem dX7_init_1 : decode cX7_init 1 = .ok (.invokespecial 3, 3) := by decide +kernel
theorem dX7_init_4 : decode cX7_init 4 = .ok (.aload_n 0, 1) := by decide +kernel
theorem dX7_init_5 : decode cX7_init 5 = .ok (.new 9, 3) := by decide +kernel
theorem dX7_init_8 : decode cX7_init 8 = .ok (.dup, 1) := by decide +kernel
theorem dX7_init_9 : decode cX7_init 9 = .ok (.invokespecial 11, 3) := by decide +kernel
theorem dX7_init_12 : decode cX7_init 12 = .ok (.putfield 12, 3) := by decide +kernel
theorem dX7_init_15 : decode cX7_init 15 = .ok (.aload_n 0, 1) := by decide +kernel
theorem dX7_init_16 : decode cX7_init 16 = .ok (.iconst 2, 1) := by decide +kernel
theorem dX7_init_17 : decode cX7_init 17 = .ok (.newarray .int, 2) := by decide +kernel
theorem dX7_init_19 : decode cX7_init 19 = .ok (.putfield 18, 3) := by decide +kernel
theorem dX7_init_22 : decode cX7_init 22 = .ok (.aload_n 0, 1) := by decide +kernel
theorem dX7_init_23 : decode cX7_init 23 = .ok (.iconst 0, 1) := by decide +kernel
theorem dX7_init_24 : decode cX7_init 24 = .ok (.putfield 22, 3) := by decide +kernel
theorem dX7_init_27 : decode cX7_init 27 = .ok (.aload_n 0, 1) := by decide +kernel
theorem dX7_init_28 : decode cX7_init 28 = .ok (.iconst 0, 1) := by decide +kernel
theorem dX7_init_29 : decode cX7_init 29 = .ok (.putfield 26, 3) := by decide +kernel
theorem dX7_init_32 : decode cX7_init 32 = .ok (.aload_n 0, 1) := by decide +kernel
theorem dX7_init_33 : decode cX7_init 33 = .ok (.iconst 0, 1) := by decide +kernel
theorem dX7_init_34 : decode cX7_init 34 = .ok (.putfield 29, 3) := by decide +kernel
theorem dX7_init_37 : decode cX7_init 37 = .ok (.aload_n 0, 1) := by decide +kernel
theorem dX7_init_38 : decode cX7_init 38 = .ok (.iconst 0, 1) := by decide +kernel
theorem dX7_init_39 : decode cX7_init 39 = .ok (.putfield 32, 3) := by decide +kernel
theorem dX7_init_42 : decode cX7_init 42 = .ok (.return_, 1) := by decide +kernel
set_option maxRecDepth 20000 in
theorem ggX7_tell_X7_hasForm : GoodIn wsX7_tell wsX7_hasForm := goodIn_r _ [8, 1, 3, 9, 10, 11, 7, 12, 13, 14, 15, 16, 17, 18, 19, 20, 21, 22, 23, 24, 25, 26, 27, 28, 29, 30, 31, 32, 33, 34, 35, 36, 37, 38, 39, 40, 41, 42, 43, 44, 45, 46, 47, 48, 49, 50, 51, 52, 53, 54, 55, 56, 57, 58, 59, 60, 61, 62, 63, 64, 65, 66, 67, 68, 69, 70, 71, 72, 73, 74, 75, 76, 77, 78, 79, 80, 81, 82, 83, 84, 85, 86, 87, 88, 89, 90, 91, 92, 93, 94, 95, 96, 97, 98, 99, 100, 101, 102, 103, 104, 105, 106, 107, 108, 109, 110, 111, 112, 113, 114, 115, 116, 117, 118, 119, 120, 121, 122, 123, 124, 125, 126, 127, 128, 129, 130, 131, 132, 133, 134, 135, 136, 137, 138, 139, 140, 141, 142, 143, 144, 145, 146, 147, 148, 149, 150, 151, 190, 191, 192, 193, 194, 195, 196, 197] (by decide +kernel) (by decide +kernel)
set_option maxRecDepth 20000 in
theorem gX7_tell_X7_hasForm : GoodIn wsX7_tell (wsV RX7 35 RX7 yX7_hasForm wsX7_hasForm) := goodIn_app (goodIn_of _ (by decide +kernel)) ggX7_tell_X7_hasForm
set_option maxRecDepth 20000 in
theorem ggX7_tell_X8_copyFrom : GoodIn wsX7_tell wsX8_copyFrom := goodIn_r _ [156, 157, 158, 159, 160, 161, 162, 163, 164, 165, 166, 167, 168, 169, 198, 199, 200, 201, 202, 203, 204, 205, 206] (by decide +kernel) (by decide +kernel)
set_option maxRecDepth 20000 in
theorem gX7_tell_X8_copyFrom : GoodIn wsX7_tell (wsV RX7 39 RX8 yX8_copyFrom wsX8_copyFrom) := goodIn_app (goodIn_of _ (by decide +kernel)) ggX7_tell_X8_copyFrom
set_option maxRecDepth 20000 in
theorem ggX7_tell_X7_takeStatement : GoodIn wsX7_tell wsX7_takeStatement := goodIn_r _ [12, 1, 13, 14, 15, 16, 17, 18, 19, 20, 21, 22, 23, 7, 24, 25, 26, 27, 28, 29, 30, 31, 32, 33, 34, 35, 36, 37, 38, 39, 40, 41, 42, 43, 44, 45, 46, 47, 48, 49, 50, 51, 52, 53, 54, 55, 56, 57, 58, 59, 60, 61, 62, 63, 64, 65, 66, 67, 68, 69, 70, 71, 72, 73, 74, 75, 76, 77, 78, 79, 80, 81, 82, 83, 84, 85, 86, 87, 88, 89, 90, 91, 92, 93, 94, 95, 96, 97, 98, 99, 100, 101, 102, 103, 104, 105, 106, 107, 108, 109, 110, 111, 112, 113, 114, 115, 116, 117, 118, 119, 120, 121, 122, 123, 124, 125, 126, 127, 128, 129, 130, 131, 132, 133, 134, 135, 136, 137, 138, 139, 140, 141, 142, 143, 144, 145, 146, 147, 148, 149, 150, 151, 190, 191, 192, 193, 194, 195, 196, 197] (by decide +kernel) (by decide +kernel)
set_option maxRecDepth 20000 in
theorem gX7_tell_X7_takeStatement : GoodIn wsX7_tell (wsV RX7 48 RX7 yX7_takeStatement wsX7_takeStatement) := goodIn_app (goodIn_of _ (by decide +kernel)) ggX7_tell_X7_takeStatement
set_option maxRecDepth 20000 in
theorem ggX7_tell_X7_addStatement : GoodIn wsX7_tell wsX7_addStatement := goodIn_r _ [173, 13, 2, 87, 82, 174, 175, 176, 155, 177, 165, 157, 162, 163, 164, 178, 179, 180, 181, 169, 166, 167, 168, 182, 183, 184, 185, 186, 187, 188, 189, 91, 92, 93, 28, 94, 95, 96, 97, 98, 30, 45, 46, 47, 48, 39, 40, 99, 32, 33, 34, 35, 36, 37, 38, 100, 101, 51, 102, 103, 104, 105, 106, 107, 108, 109, 110, 111, 112, 113, 114, 115, 116, 117, 63, 118, 119, 120, 121, 122, 123, 124, 125, 126, 127, 68, 69, 70, 128, 129, 130, 56, 131, 132, 59, 133, 134, 135, 136, 72, 73, 74, 75, 76, 77, 137, 138, 139, 140, 141, 142, 143, 144, 145, 146, 147, 148, 149, 150, 151, 190, 191, 192, 193, 194, 195, 198, 199, 200, 201, 202, 203, 204, 205, 206] (by decide +kernel) (by decide +kernel)
set_option maxRecDepth 20000 in
theorem gX7_tell_X7_addStatement : GoodIn wsX7_tell (wsV RX7 51 RX7 yX7_addStatement wsX7_addStatement) := goodIn_app (goodIn_of _ (by decide +kernel)) ggX7_tell_X7_addStatement
theorem dX7_tell_0 : decode cX7_tell 0 = .ok (.aload_n 0, 1) := by decide +kernel
theorem dX7_tell_1 : decode cX7_tell 1 = .ok (.aload_n 1, 1) := by decide +kernel
theorem dX7_tell_2 : decode cX7_tell 2 = .ok (.invokevirtual 35, 3) := by decide +kernel
theorem dX7_tell_5 : decode cX7_tell 5 = .ok (.ifCond .ne 12, 3) := by decide +kernel
theorem dX7_tell_8 : decode cX7_tell 8 = .ok (.sipush (-1000), 3) := by decide +kernel
theorem dX7_tell_11 : decode cX7_tell 11 = .ok (.aload_n 0, 1) := by decide +kernel
theorem dX7_tell_12 : decode cX7_tell 12 = .ok (.getfield 32, 3) := by decide +kernel
theorem dX7_tell_15 : decode cX7_tell 15 = .ok (.isub, 1) := by decide +kernel
theorem dX7_tell_16 : decode cX7_tell 16 = .ok (.ireturn, 1) := by decide +kernel
theorem dX7_tell_17 : decode cX7_tell 17 = .ok (.aload_n 0, 1) := by decide +kernel
theorem dX7_tell_18 : decode cX7_tell 18 = .ok (.getfield 12, 3) := by decide +kernel
theorem dX7_tell_21 : decode cX7_tell 21 = .ok (.aload_n 2, 1) := by decide +kernel
theorem dX7_tell_22 : decode cX7_tell 22 = .ok (.invokevirtual 39, 3) := by decide +kernel
theorem dX7_tell_25 : decode cX7_tell 25 = .ok (.aload_n 0, 1) := by decide +kernel
theorem dX7_tell_26 : decode cX7_tell 26 = .ok (.iconst 0, 1) := by decide +kernel
theorem dX7_tell_27 : decode cX7_tell 27 = .ok (.putfield 32, 3) := by decide +kernel
theorem dX7_tell_30 : decode cX7_tell 30 = .ok (.iconst 0, 1) := by decide +kernel
theorem dX7_tell_31 : decode cX7_tell 31 = .ok (.istore_n 3, 1) := by decide +kernel
theorem dX7_tell_32 : decode cX7_tell 32 = .ok (.aload_n 0, 1) := by decide +kernel
theorem dX7_tell_33 : decode cX7_tell 33 = .ok (.getfield 32, 3) := by decide +kernel
theorem dX7_tell_36 : decode cX7_tell 36 = .ok (.aload_n 1, 1) := by decide +kernel
theorem dX7_tell_37 : decode cX7_tell 37 = .ok (.getfield 43, 3) := by decide +kernel
theorem dX7_tell_40 : decode cX7_tell 40 = .ok (.if_icmp .ge 43, 3) := by decide +kernel
theorem dX7_tell_43 : decode cX7_tell 43 = .ok (.iload_n 3, 1) := by decide +kernel
theorem dX7_tell_44 : decode cX7_tell 44 = .ok (.bipush 64, 2) := by decide +kernel
theorem dX7_tell_46 : decode cX7_tell 46 = .ok (.if_icmp .ge 37, 3) := by decide +kernel
theorem dX7_tell_49 : decode cX7_tell 49 = .ok (.aload_n 0, 1) := by decide +kernel
theorem dX7_tell_50 : decode cX7_tell 50 = .ok (.getfield 32, 3) := by decide +kernel
theorem dX7_tell_53 : decode cX7_tell 53 = .ok (.istore 4, 2) := by decide +kernel
theorem dX7_tell_55 : decode cX7_tell 55 = .ok (.aload_n 0, 1) := by decide +kernel
theorem dX7_tell_56 : decode cX7_tell 56 = .ok (.aload_n 1, 1) := by decide +kernel
theorem dX7_tell_57 : decode cX7_tell 57 = .ok (.invokevirtual 48, 3) := by decide +kernel
theorem dX7_tell_60 : decode cX7_tell 60 = .ok (.ifCond .eq 10, 3) := by decide +kernel
theorem dX7_tell_63 : decode cX7_tell 63 = .ok (.aload_n 0, 1) := by decide +kernel
theorem dX7_tell_64 : decode cX7_tell 64 = .ok (.invokevirtual 51, 3) := by decide +kernel
theorem dX7_tell_67 : decode cX7_tell 67 = .ok (.ifCond .ne 10, 3) := by decide +kernel
theorem dX7_tell_70 : decode cX7_tell 70 = .ok (.sipush (-2000), 3) := by decide +kernel
theorem dX7_tell_73 : decode cX7_tell 73 = .ok (.iload 4, 2) := by decide +kernel
theorem dX7_tell_75 : decode cX7_tell 75 = .ok (.isub, 1) := by decide +kernel
theorem dX7_tell_76 : decode cX7_tell 76 = .ok (.ireturn, 1) := by decide +kernel
theorem dX7_tell_77 : decode cX7_tell 77 = .ok (.iinc 3 1, 3) := by decide +kernel
theorem dX7_tell_80 : decode cX7_tell 80 = .ok (.goto (-48), 3) := by decide +kernel
theorem dX7_tell_83 : decode cX7_tell 83 = .ok (.aload_n 2, 1) := by decide +kernel
theorem dX7_tell_84 : decode cX7_tell 84 = .ok (.aload_n 0, 1) := by decide +kernel
theorem dX7_tell_85 : decode cX7_tell 85 = .ok (.getfield 12, 3) := by decide +kernel
theorem dX7_tell_88 : decode cX7_tell 88 = .ok (.invokevirtual 39, 3) := by decide +kernel
theorem dX7_tell_91 : decode cX7_tell 91 = .ok (.iload_n 3, 1) := by decide +kernel
theorem dX7_tell_92 : decode cX7_tell 92 = .ok (.ireturn, 1) := by decide +kernel
set_option maxRecDepth 20000 in
theorem ggX7_hasForm_X7_takeStatement : GoodIn wsX7_hasForm wsX7_takeStatement := goodIn_r _ [7, 1, 8, 9, 10, 11, 12, 13, 14, 15, 16, 17, 18, 6, 19, 20, 21, 22, 23, 24, 25, 26, 27, 28, 29, 30, 31, 32, 33, 34, 35, 36, 37, 38, 39, 40, 41, 42, 43, 44, 45, 46, 47, 48, 49, 50, 51, 52, 53, 54, 55, 56, 57, 58, 59, 60, 61, 62, 63, 64, 65, 66, 67, 68, 69, 70, 71, 72, 73, 74, 75, 76, 77, 78, 79, 80, 81, 82, 83, 84, 85, 86, 87, 88, 89, 90, 91, 92, 93, 94, 95, 96, 97, 98, 99, 100, 101, 102, 103, 104, 105, 106, 107, 108, 109, 110, 111, 112, 113, 114, 115, 116, 117, 118, 119, 120, 121, 122, 123, 124, 125, 126, 127, 128, 129, 130, 131, 132, 133, 134, 135, 136, 137, 138, 139, 140, 141, 142, 143, 144, 145, 146, 147, 148, 149, 150, 151, 152, 153, 154] (by decide +kernel) (by decide +kernel)
set_option maxRecDepth 20000 in
theorem gX7_hasForm_X7_takeStatement : GoodIn wsX7_hasForm (wsV RX7 48 RX7 yX7_takeStatement wsX7_takeStatement) := goodIn_app (goodIn_of _ (by decide +kernel)) ggX7_hasForm_X7_takeStatement
theorem dX7_hasForm_0 : decode cX7_hasForm 0 = .ok (.aload_n 0, 1) := by decide +kernel
theorem dX7_hasForm_1 : decode cX7_hasForm 1 = .ok (.iconst 0, 1) := by decide +kernel
theorem dX7_hasForm_2 : decode cX7_hasForm 2 = .ok (.putfield 32, 3) := by decide +kernel
theorem dX7_hasForm_5 : decode cX7_hasForm 5 = .ok (.aload_n 0, 1) := by decide +kernel
theorem dX7_hasForm_6 : decode cX7_hasForm 6 = .ok (.aload_n 1, 1) := by decide +kernel
theorem dX7_hasForm_7 : decode cX7_hasForm 7 = .ok (.invokevirtual 48, 3) := by decide +kernel
theorem dX7_hasForm_10 : decode cX7_hasForm 10 = .ok (.istore_n 2, 1) := by decide +kernel
theorem dX7_hasForm_11 : decode cX7_hasForm 11 = .ok (.iconst 0, 1) := by decide +kernel
theorem dX7_hasForm_12 : decode cX7_hasForm 12 = .ok (.istore_n 3, 1) := by decide +kernel
theorem dX7_hasForm_13 : decode cX7_hasForm 13 = .ok (.iload_n 3, 1) := by decide +kernel
theorem dX7_hasForm_14 : decode cX7_hasForm 14 = .ok (.bipush 64, 2) := by decide +kernel
theorem dX7_hasForm_16 : decode cX7_hasForm 16 = .ok (.if_icmp .ge 30, 3) := by decide +kernel
theorem dX7_hasForm_19 : decode cX7_hasForm 19 = .ok (.iload_n 2, 1) := by decide +kernel
theorem dX7_hasForm_20 : decode cX7_hasForm 20 = .ok (.ifCond .eq 26, 3) := by decide +kernel
theorem dX7_hasForm_23 : decode cX7_hasForm 23 = .ok (.aload_n 0, 1) := by decide +kernel
theorem dX7_hasForm_24 : decode cX7_hasForm 24 = .ok (.getfield 32, 3) := by decide +kernel
theorem dX7_hasForm_27 : decode cX7_hasForm 27 = .ok (.aload_n 1, 1) := by decide +kernel
theorem dX7_hasForm_28 : decode cX7_hasForm 28 = .ok (.getfield 43, 3) := by decide +kernel
theorem dX7_hasForm_31 : decode cX7_hasForm 31 = .ok (.if_icmp .ge 15, 3) := by decide +kernel
theorem dX7_hasForm_34 : decode cX7_hasForm 34 = .ok (.aload_n 0, 1) := by decide +kernel
theorem dX7_hasForm_35 : decode cX7_hasForm 35 = .ok (.aload_n 1, 1) := by decide +kernel
theorem dX7_hasForm_36 : decode cX7_hasForm 36 = .ok (.invokevirtual 48, 3) := by decide +kernel
theorem dX7_hasForm_39 : decode cX7_hasForm 39 = .ok (.istore_n 2, 1) := by decide +kernel
theorem dX7_hasForm_40 : decode cX7_hasForm 40 = .ok (.iinc 3 1, 3) := by decide +kernel
theorem dX7_hasForm_43 : decode cX7_hasForm 43 = .ok (.goto (-30), 3) := by decide +kernel
theorem dX7_hasForm_46 : decode cX7_hasForm 46 = .ok (.iload_n 2, 1) := by decide +kernel
theorem dX7_hasForm_47 : decode cX7_hasForm 47 = .ok (.ireturn, 1) := by decide +kernel
set_option maxRecDepth 20000 in
theorem ggX7_takeStatement_X2_signAt : GoodIn wsX7_takeStatement wsX2_signAt := goodIn_r _ [8, 9, 10, 148, 149] (by decide +kernel) (by decide +kernel)
set_option maxRecDepth 20000 in
theorem gX7_takeStatement_X2_signAt : GoodIn wsX7_takeStatement (wsV RX7 55 RX2 yX2_signAt wsX2_signAt) := goodIn_app (goodIn_of _ (by decide +kernel)) ggX7_takeStatement_X2_signAt
set_option maxRecDepth 20000 in
theorem ggX7_takeStatement_X7_formBehind : GoodIn wsX7_takeStatement wsX7_formBehind := goodIn_r _ [14] (by decide +kernel) (by decide +kernel)
set_option maxRecDepth 20000 in
theorem gX7_takeStatement_X7_formBehind : GoodIn wsX7_takeStatement (va_wsS RX7 59 yX7_formBehind wsX7_formBehind) := goodIn_app (goodIn_of _ (by decide +kernel)) ggX7_takeStatement_X7_formBehind
set_option maxRecDepth 20000 in
theorem ggX7_takeStatement_J0_isEmpty_aae02 : GoodIn wsX7_takeStatement wsJ0_isEmpty_aae02 := goodIn_r _ [19, 20] (by decide +kernel) (by decide +kernel)
set_option maxRecDepth 20000 in
theorem gX7_takeStatement_J0_isEmpty_aae02 : GoodIn wsX7_takeStatement (wsV RX7 63 RJ0 yJ0_isEmpty_aae02 wsJ0_isEmpty_aae02) := goodIn_app (goodIn_of _ (by decide +kernel)) ggX7_takeStatement_J0_isEmpty_aae02
set_option maxRecDepth 20000 in
theorem ggX7_takeStatement_J0_length_8abf5 : GoodIn wsX7_takeStatement wsJ0_length_8abf5 := goodIn_r _ [24, 20, 25, 26, 27, 18, 28, 29, 30] (by decide +kernel) (by decide +kernel)
set_option maxRecDepth 20000 in
theorem gX7_takeStatement_J0_length_8abf5 : GoodIn wsX7_takeStatement (wsV RX7 68 RJ0 yJ0_length_8abf5 wsJ0_length_8abf5) := goodIn_app (goodIn_of _ (by decide +kernel)) ggX7_takeStatement_J0_length_8abf5
set_option maxRecDepth 20000 in
theorem ggX7_takeStatement_J0_charAt_5068e : GoodIn wsX7_takeStatement wsJ0_charAt_5068e := goodIn_r _ [34, 20, 35, 36, 37, 18, 38, 29, 30, 39, 40, 41, 42, 43, 44, 45, 46, 47, 48, 49, 50, 51, 52, 53, 54, 55, 56, 57, 58, 59, 60, 61, 62, 63, 64, 65, 66, 67] (by decide +kernel) (by decide +kernel)
set_option maxRecDepth 20000 in
theorem gX7_takeStatement_J0_charAt_5068e : GoodIn wsX7_takeStatement (wsV RX7 72 RJ0 yJ0_charAt_5068e wsJ0_charAt_5068e) := goodIn_app (goodIn_of _ (by decide +kernel)) ggX7_takeStatement_J0_charAt_5068e
set_option maxRecDepth 20000 in
theorem ggX7_takeStatement_X7_takePart : GoodIn wsX7_takeStatement wsX7_takePart := goodIn_r _ [71, 1, 72, 4, 5, 6, 7, 8, 9, 10, 73, 74, 75, 13, 76, 3, 77, 78, 79, 80, 81, 82, 83, 18, 84, 85, 86, 87, 88, 20, 35, 36, 37, 38, 29, 30, 89, 22, 23, 24, 25, 26, 27, 28, 90, 91, 41, 92, 93, 94, 95, 96, 97, 98, 99, 100, 101, 102, 103, 104, 105, 106, 107, 53, 108, 109, 110, 111, 112, 113, 114, 115, 116, 117, 58, 59, 60, 118, 119, 120, 46, 121, 122, 49, 123, 124, 125, 126, 62, 63, 64, 65, 66, 67, 127, 128, 129, 130, 131, 132, 133, 134, 135, 136, 137, 138, 139, 140, 141, 142, 143, 144, 145, 146, 147, 148, 149] (by decide +kernel) (by decide +kernel)
set_option maxRecDepth 20000 in
theorem gX7_takeStatement_X7_takePart : GoodIn wsX7_takeStatement (wsV RX7 76 RX7 yX7_takePart wsX7_takePart) := goodIn_app (goodIn_of _ (by decide +kernel)) ggX7_takeStatement_X7_takePart
theorem dX7_takeStatement_0 : decode cX7_takeStatement 0 = .ok (.aload_n 0, 1) := by decide +kernel
theorem dX7_takeStatement_1 : decode cX7_takeStatement 1 = .ok (.aload_n 1, 1) := by decide +kernel
theorem dX7_takeStatement_2 : decode cX7_takeStatement 2 = .ok (.aload_n 0, 1) := by decide +kernel
theorem dX7_takeStatement_3 : decode cX7_takeStatement 3 = .ok (.getfield 32, 3) := by decide +kernel
theorem dX7_takeStatement_6 : decode cX7_takeStatement 6 = .ok (.invokevirtual 55, 3) := by decide +kernel
theorem dX7_takeStatement_9 : decode cX7_takeStatement 9 = .ok (.putfield 29, 3) := by decide +kernel
theorem dX7_takeStatement_12 : decode cX7_takeStatement 12 = .ok (.aload_n 0, 1) := by decide +kernel
theorem dX7_takeStatement_13 : decode cX7_takeStatement 13 = .ok (.iconst 0, 1) := by decide +kernel
theorem dX7_takeStatement_14 : decode cX7_takeStatement 14 = .ok (.putfield 22, 3) := by decide +kernel
theorem dX7_takeStatement_17 : decode cX7_takeStatement 17 = .ok (.aload_n 0, 1) := by decide +kernel
theorem dX7_takeStatement_18 : decode cX7_takeStatement 18 = .ok (.getfield 29, 3) := by decide +kernel
theorem dX7_takeStatement_21 : decode cX7_takeStatement 21 = .ok (.invokestatic 59, 3) := by decide +kernel
theorem dX7_takeStatement_24 : decode cX7_takeStatement 24 = .ok (.astore_n 2, 1) := by decide +kernel
theorem dX7_takeStatement_25 : decode cX7_takeStatement 25 = .ok (.aload_n 2, 1) := by decide +kernel
theorem dX7_takeStatement_26 : decode cX7_takeStatement 26 = .ok (.invokevirtual 63, 3) := by decide +kernel
theorem dX7_takeStatement_29 : decode cX7_takeStatement 29 = .ok (.ifCond .eq 5, 3) := by decide +kernel
theorem dX7_takeStatement_32 : decode cX7_takeStatement 32 = .ok (.iconst 0, 1) := by decide +kernel
theorem dX7_takeStatement_33 : decode cX7_takeStatement 33 = .ok (.ireturn, 1) := by decide +kernel
theorem dX7_takeStatement_34 : decode cX7_takeStatement 34 = .ok (.aload_n 0, 1) := by decide +kernel
theorem dX7_takeStatement_35 : decode cX7_takeStatement 35 = .ok (.dup, 1) := by decide +kernel
theorem dX7_takeStatement_36 : decode cX7_takeStatement 36 = .ok (.getfield 32, 3) := by decide +kernel
theorem dX7_takeStatement_39 : decode cX7_takeStatement 39 = .ok (.iconst 1, 1) := by decide +kernel
theorem dX7_takeStatement_40 : decode cX7_takeStatement 40 = .ok (.iadd, 1) := by decide +kernel
theorem dX7_takeStatement_41 : decode cX7_takeStatement 41 = .ok (.putfield 32, 3) := by decide +kernel
theorem dX7_takeStatement_44 : decode cX7_takeStatement 44 = .ok (.iconst 0, 1) := by decide +kernel
theorem dX7_takeStatement_45 : decode cX7_takeStatement 45 = .ok (.istore_n 3, 1) := by decide +kernel
theorem dX7_takeStatement_46 : decode cX7_takeStatement 46 = .ok (.iload_n 3, 1) := by decide +kernel
theorem dX7_takeStatement_47 : decode cX7_takeStatement 47 = .ok (.aload_n 2, 1) := by decide +kernel
theorem dX7_takeStatement_48 : decode cX7_takeStatement 48 = .ok (.invokevirtual 68, 3) := by decide +kernel
theorem dX7_takeStatement_51 : decode cX7_takeStatement 51 = .ok (.if_icmp .ge 24, 3) := by decide +kernel
theorem dX7_takeStatement_54 : decode cX7_takeStatement 54 = .ok (.aload_n 0, 1) := by decide +kernel
theorem dX7_takeStatement_55 : decode cX7_takeStatement 55 = .ok (.aload_n 1, 1) := by decide +kernel
theorem dX7_takeStatement_56 : decode cX7_takeStatement 56 = .ok (.aload_n 2, 1) := by decide +kernel
theorem dX7_takeStatement_57 : decode cX7_takeStatement 57 = .ok (.iload_n 3, 1) := by decide +kernel
theorem dX7_takeStatement_58 : decode cX7_takeStatement 58 = .ok (.invokevirtual 72, 3) := by decide +kernel
theorem dX7_takeStatement_61 : decode cX7_takeStatement 61 = .ok (.invokevirtual 76, 3) := by decide +kernel
theorem dX7_takeStatement_64 : decode cX7_takeStatement 64 = .ok (.ifCond .ne 5, 3) := by decide +kernel
theorem dX7_takeStatement_67 : decode cX7_takeStatement 67 = .ok (.iconst 0, 1) := by decide +kernel
theorem dX7_takeStatement_68 : decode cX7_takeStatement 68 = .ok (.ireturn, 1) := by decide +kernel
theorem dX7_takeStatement_69 : decode cX7_takeStatement 69 = .ok (.iinc 3 1, 3) := by decide +kernel
theorem dX7_takeStatement_72 : decode cX7_takeStatement 72 = .ok (.goto (-26), 3) := by decide +kernel
theorem dX7_takeStatement_75 : decode cX7_takeStatement 75 = .ok (.iconst 1, 1) := by decide +kernel
theorem dX7_takeStatement_76 : decode cX7_takeStatement 76 = .ok (.ireturn, 1) := by decide +kernel
theorem dX7_formBehind_0 : decode cX7_formBehind 0 = .ok (.iload_n 0, 1) := by decide +kernel
theorem dX7_formBehind_1 : decode cX7_formBehind 1 = .ok (.tableswitch 115 97 118 #[106, 115, 115, 115, 106, 115, 115, 115, 115, 115, 115, 115, 115, 106, 106, 115, 115, 109, 112, 115, 115, 103], 103) := by decide +kernel
theorem dX7_formBehind_104 : decode cX7_formBehind 104 = .ok (.ldc 80, 2) := by decide +kernel
theorem dX7_formBehind_106 : decode cX7_formBehind 106 = .ok (.areturn, 1) := by decide +kernel
theorem dX7_formBehind_107 : decode cX7_formBehind 107 = .ok (.ldc 82, 2) := by decide +kernel
theorem dX7_formBehind_109 : decode cX7_formBehind 109 = .ok (.areturn, 1) := by decide +kernel
theorem dX7_formBehind_110 : decode cX7_formBehind 110 = .ok (.ldc 84, 2) := by decide +kernel
theorem dX7_formBehind_112 : decode cX7_formBehind 112 = .ok (.areturn, 1) := by decide +kernel
theorem dX7_formBehind_113 : decode cX7_formBehind 113 = .ok (.ldc 86, 2) := by decide +kernel
theorem dX7_formBehind_115 : decode cX7_formBehind 115 = .ok (.areturn, 1) := by decide +kernel
theorem dX7_formBehind_116 : decode cX7_formBehind 116 = .ok (.ldc 88, 2) := by decide +kernel
theorem dX7_formBehind_118 : decode cX7_formBehind 118 = .ok (.areturn, 1) := by decide +kernel
set_option maxRecDepth 20000 in
theorem ggX7_takePart_X2_signAt : GoodIn wsX7_takePart wsX2_signAt := goodIn_r _ [7, 8, 9, 115, 116] (by decide +kernel) (by decide +kernel)
set_option maxRecDepth 20000 in
theorem gX7_takePart_X2_signAt : GoodIn wsX7_takePart (wsV RX7 55 RX2 yX2_signAt wsX2_signAt) := goodIn_app (goodIn_of _ (by decide +kernel)) ggX7_takePart_X2_signAt
set_option maxRecDepth 20000 in
theorem ggX7_takePart_X7_takeNumber : GoodIn wsX7_takePart wsX7_takeNumber := goodIn_r _ [14, 1, 15, 16, 3, 4, 5, 6, 7, 8, 9, 17, 18, 13, 19, 109, 110, 111, 112, 113, 114, 115, 116] (by decide +kernel) (by decide +kernel)
set_option maxRecDepth 20000 in
theorem gX7_takePart_X7_takeNumber : GoodIn wsX7_takePart (wsV RX7 90 RX7 yX7_takeNumber wsX7_takeNumber) := goodIn_app (goodIn_of _ (by decide +kernel)) ggX7_takePart_X7_takeNumber
set_option maxRecDepth 20000 in
theorem ggX7_takePart_J0_indexOf_0f7a4 : GoodIn wsX7_takePart wsJ0_indexOf_0f7a4 := goodIn_r _ [24, 25, 26, 27, 23, 28, 29, 30, 31, 32, 33, 34, 35, 36, 37, 38, 39, 40, 41, 42, 43, 44, 45, 46, 47, 48, 49, 50, 51, 52, 53, 54, 55, 56, 57, 58, 59, 60, 61, 62, 63, 64, 65, 66, 67, 68, 69, 70, 71, 72, 73, 74, 75, 76, 77, 78, 79, 80, 81, 82, 83, 84, 85, 86, 87, 88, 89, 90, 91, 92, 93, 94, 95, 96, 97, 98, 99, 100, 101, 102, 103, 104, 105, 106, 107, 108] (by decide +kernel) (by decide +kernel)
set_option maxRecDepth 20000 in
theorem gX7_takePart_J0_indexOf_0f7a4 : GoodIn wsX7_takePart (wsV RX7 96 RJ0 yJ0_indexOf_0f7a4 wsJ0_indexOf_0f7a4) := goodIn_app (goodIn_of _ (by decide +kernel)) ggX7_takePart_J0_indexOf_0f7a4
theorem dX7_takePart_0 : decode cX7_takePart 0 = .ok (.aload_n 1, 1) := by decide +kernel
theorem dX7_takePart_1 : decode cX7_takePart 1 = .ok (.aload_n 0, 1) := by decide +kernel
theorem dX7_takePart_2 : decode cX7_takePart 2 = .ok (.getfield 32, 3) := by decide +kernel
theorem dX7_takePart_5 : decode cX7_takePart 5 = .ok (.invokevirtual 55, 3) := by decide +kernel
theorem dX7_takePart_8 : decode cX7_takePart 8 = .ok (.istore_n 3, 1) := by decide +kernel
theorem dX7_takePart_9 : decode cX7_takePart 9 = .ok (.iload_n 2, 1) := by decide +kernel
theorem dX7_takePart_10 : decode cX7_takePart 10 = .ok (.bipush 57, 2) := by decide +kernel
theorem dX7_takePart_12 : decode cX7_takePart 12 = .ok (.if_icmp .eq 9, 3) := by decide +kernel
theorem dX7_takePart_15 : decode cX7_takePart 15 = .ok (.iload_n 2, 1) := by decide +kernel
theorem dX7_takePart_16 : decode cX7_takePart 16 = .ok (.bipush 35, 2) := by decide +kernel
theorem dX7_takePart_18 : decode cX7_takePart 18 = .ok (.if_icmp .ne 20, 3) := by decide +kernel
theorem dX7_takePart_21 : decode cX7_takePart 21 = .ok (.aload_n 0, 1) := by decide +kernel
theorem dX7_takePart_22 : decode cX7_takePart 22 = .ok (.aload_n 1, 1) := by decide +kernel
theorem dX7_takePart_23 : decode cX7_takePart 23 = .ok (.iload_n 2, 1) := by decide +kernel
theorem dX7_takePart_24 : decode cX7_takePart 24 = .ok (.bipush 35, 2) := by decide +kernel
theorem dX7_takePart_26 : decode cX7_takePart 26 = .ok (.if_icmp .ne 7, 3) := by decide +kernel
theorem dX7_takePart_29 : decode cX7_takePart 29 = .ok (.iconst 1, 1) := by decide +kernel
theorem dX7_takePart_30 : decode cX7_takePart 30 = .ok (.goto 4, 3) := by decide +kernel
theorem dX7_takePart_33 : decode cX7_takePart 33 = .ok (.iconst 0, 1) := by decide +kernel
theorem dX7_takePart_34 : decode cX7_takePart 34 = .ok (.invokevirtual 90, 3) := by decide +kernel
theorem dX7_takePart_37 : decode cX7_takePart 37 = .ok (.ireturn, 1) := by decide +kernel
theorem dX7_takePart_38 : decode cX7_takePart 38 = .ok (.iload_n 2, 1) := by decide +kernel
theorem dX7_takePart_39 : decode cX7_takePart 39 = .ok (.bipush 107, 2) := by decide +kernel
theorem dX7_takePart_41 : decode cX7_takePart 41 = .ok (.if_icmp .ne 31, 3) := by decide +kernel
theorem dX7_takePart_44 : decode cX7_takePart 44 = .ok (.aload_n 0, 1) := by decide +kernel
theorem dX7_takePart_45 : decode cX7_takePart 45 = .ok (.iload_n 3, 1) := by decide +kernel
theorem dX7_takePart_46 : decode cX7_takePart 46 = .ok (.ifCond .ge 7, 3) := by decide +kernel
theorem dX7_takePart_49 : decode cX7_takePart 49 = .ok (.iconst (-1), 1) := by decide +kernel
theorem dX7_takePart_50 : decode cX7_takePart 50 = .ok (.goto 10, 3) := by decide +kernel
theorem dX7_takePart_53 : decode cX7_takePart 53 = .ok (.ldc 94, 2) := by decide +kernel
theorem dX7_takePart_55 : decode cX7_takePart 55 = .ok (.iload_n 3, 1) := by decide +kernel
theorem dX7_takePart_56 : decode cX7_takePart 56 = .ok (.i2c, 1) := by decide +kernel
theorem dX7_takePart_57 : decode cX7_takePart 57 = .ok (.invokevirtual 96, 3) := by decide +kernel
theorem dX7_takePart_60 : decode cX7_takePart 60 = .ok (.putfield 26, 3) := by decide +kernel
theorem dX7_takePart_63 : decode cX7_takePart 63 = .ok (.aload_n 0, 1) := by decide +kernel
theorem dX7_takePart_64 : decode cX7_takePart 64 = .ok (.getfield 26, 3) := by decide +kernel
theorem dX7_takePart_67 : decode cX7_takePart 67 = .ok (.ifCond .ge 12, 3) := by decide +kernel
theorem dX7_takePart_70 : decode cX7_takePart 70 = .ok (.iconst 0, 1) := by decide +kernel
theorem dX7_takePart_71 : decode cX7_takePart 71 = .ok (.ireturn, 1) := by decide +kernel
theorem dX7_takePart_72 : decode cX7_takePart 72 = .ok (.iload_n 3, 1) := by decide +kernel
theorem dX7_takePart_73 : decode cX7_takePart 73 = .ok (.iload_n 2, 1) := by decide +kernel
theorem dX7_takePart_74 : decode cX7_takePart 74 = .ok (.if_icmp .eq 5, 3) := by decide +kernel
theorem dX7_takePart_77 : decode cX7_takePart 77 = .ok (.iconst 0, 1) := by decide +kernel
theorem dX7_takePart_78 : decode cX7_takePart 78 = .ok (.ireturn, 1) := by decide +kernel
theorem dX7_takePart_79 : decode cX7_takePart 79 = .ok (.aload_n 0, 1) := by decide +kernel
theorem dX7_takePart_80 : decode cX7_takePart 80 = .ok (.dup, 1) := by decide +kernel
theorem dX7_takePart_81 : decode cX7_takePart 81 = .ok (.getfield 32, 3) := by decide +kernel
theorem dX7_takePart_84 : decode cX7_takePart 84 = .ok (.iconst 1, 1) := by decide +kernel
theorem dX7_takePart_85 : decode cX7_takePart 85 = .ok (.iadd, 1) := by decide +kernel
theorem dX7_takePart_86 : decode cX7_takePart 86 = .ok (.putfield 32, 3) := by decide +kernel
theorem dX7_takePart_89 : decode cX7_takePart 89 = .ok (.iconst 1, 1) := by decide +kernel
theorem dX7_takePart_90 : decode cX7_takePart 90 = .ok (.ireturn, 1) := by decide +kernel
set_option maxRecDepth 20000 in
theorem ggX7_takeNumber_X2_signAt : GoodIn wsX7_takeNumber wsX2_signAt := goodIn_r _ [8, 9, 10, 21, 22] (by decide +kernel) (by decide +kernel)
set_option maxRecDepth 20000 in
theorem gX7_takeNumber_X2_signAt : GoodIn wsX7_takeNumber (wsV RX7 55 RX2 yX2_signAt wsX2_signAt) := goodIn_app (goodIn_of _ (by decide +kernel)) ggX7_takeNumber_X2_signAt
set_option maxRecDepth 20000 in
theorem ggX7_takeNumber_X7_isDigit : GoodIn wsX7_takeNumber wsX7_isDigit := goodIn_r _ [14] (by decide +kernel) (by decide +kernel)
set_option maxRecDepth 20000 in
theorem gX7_takeNumber_X7_isDigit : GoodIn wsX7_takeNumber (va_wsS RX7 99 yX7_isDigit wsX7_isDigit) := goodIn_app (goodIn_of _ (by decide +kernel)) ggX7_takeNumber_X7_isDigit
theorem dX7_takeNumber_0 : decode cX7_takeNumber 0 = .ok (.aload_n 1, 1) := by decide +kernel
theorem dX7_takeNumber_1 : decode cX7_takeNumber 1 = .ok (.aload_n 0, 1) := by decide +kernel
theorem dX7_takeNumber_2 : decode cX7_takeNumber 2 = .ok (.getfield 32, 3) := by decide +kernel
theorem dX7_takeNumber_5 : decode cX7_takeNumber 5 = .ok (.invokevirtual 55, 3) := by decide +kernel
theorem dX7_takeNumber_8 : decode cX7_takeNumber 8 = .ok (.istore_n 3, 1) := by decide +kernel
theorem dX7_takeNumber_9 : decode cX7_takeNumber 9 = .ok (.iload_n 3, 1) := by decide +kernel
theorem dX7_takeNumber_10 : decode cX7_takeNumber 10 = .ok (.invokestatic 99, 3) := by decide +kernel
theorem dX7_takeNumber_13 : decode cX7_takeNumber 13 = .ok (.ifCond .eq 15, 3) := by decide +kernel
theorem dX7_takeNumber_16 : decode cX7_takeNumber 16 = .ok (.aload_n 0, 1) := by decide +kernel
theorem dX7_takeNumber_17 : decode cX7_takeNumber 17 = .ok (.getfield 22, 3) := by decide +kernel
theorem dX7_takeNumber_20 : decode cX7_takeNumber 20 = .ok (.aload_n 0, 1) := by decide +kernel
theorem dX7_takeNumber_21 : decode cX7_takeNumber 21 = .ok (.getfield 18, 3) := by decide +kernel
theorem dX7_takeNumber_24 : decode cX7_takeNumber 24 = .ok (.arraylength, 1) := by decide +kernel
theorem dX7_takeNumber_25 : decode cX7_takeNumber 25 = .ok (.if_icmp .lt 5, 3) := by decide +kernel
theorem dX7_takeNumber_28 : decode cX7_takeNumber 28 = .ok (.iconst 0, 1) := by decide +kernel
theorem dX7_takeNumber_29 : decode cX7_takeNumber 29 = .ok (.ireturn, 1) := by decide +kernel
theorem dX7_takeNumber_30 : decode cX7_takeNumber 30 = .ok (.iload_n 3, 1) := by decide +kernel
theorem dX7_takeNumber_31 : decode cX7_takeNumber 31 = .ok (.bipush 48, 2) := by decide +kernel
theorem dX7_takeNumber_33 : decode cX7_takeNumber 33 = .ok (.isub, 1) := by decide +kernel
theorem dX7_takeNumber_34 : decode cX7_takeNumber 34 = .ok (.istore 4, 2) := by decide +kernel
theorem dX7_takeNumber_36 : decode cX7_takeNumber 36 = .ok (.aload_n 0, 1) := by decide +kernel
theorem dX7_takeNumber_37 : decode cX7_takeNumber 37 = .ok (.dup, 1) := by decide +kernel
theorem dX7_takeNumber_38 : decode cX7_takeNumber 38 = .ok (.getfield 32, 3) := by decide +kernel
theorem dX7_takeNumber_41 : decode cX7_takeNumber 41 = .ok (.iconst 1, 1) := by decide +kernel
theorem dX7_takeNumber_42 : decode cX7_takeNumber 42 = .ok (.iadd, 1) := by decide +kernel
theorem dX7_takeNumber_43 : decode cX7_takeNumber 43 = .ok (.putfield 32, 3) := by decide +kernel
theorem dX7_takeNumber_46 : decode cX7_takeNumber 46 = .ok (.aload_n 1, 1) := by decide +kernel
theorem dX7_takeNumber_47 : decode cX7_takeNumber 47 = .ok (.aload_n 0, 1) := by decide +kernel
theorem dX7_takeNumber_48 : decode cX7_takeNumber 48 = .ok (.getfield 32, 3) := by decide +kernel
theorem dX7_takeNumber_51 : decode cX7_takeNumber 51 = .ok (.invokevirtual 55, 3) := by decide +kernel
theorem dX7_takeNumber_54 : decode cX7_takeNumber 54 = .ok (.istore_n 3, 1) := by decide +kernel
theorem dX7_takeNumber_55 : decode cX7_takeNumber 55 = .ok (.iload_n 2, 1) := by decide +kernel
theorem dX7_takeNumber_56 : decode cX7_takeNumber 56 = .ok (.ifCond .eq 32, 3) := by decide +kernel
theorem dX7_takeNumber_59 : decode cX7_takeNumber 59 = .ok (.iload_n 3, 1) := by decide +kernel
theorem dX7_takeNumber_60 : decode cX7_takeNumber 60 = .ok (.invokestatic 99, 3) := by decide +kernel
theorem dX7_takeNumber_63 : decode cX7_takeNumber 63 = .ok (.ifCond .eq 25, 3) := by decide +kernel
theorem dX7_takeNumber_66 : decode cX7_takeNumber 66 = .ok (.iload 4, 2) := by decide +kernel
theorem dX7_takeNumber_68 : decode cX7_takeNumber 68 = .ok (.bipush 10, 2) := by decide +kernel
theorem dX7_takeNumber_70 : decode cX7_takeNumber 70 = .ok (.imul, 1) := by decide +kernel
theorem dX7_takeNumber_71 : decode cX7_takeNumber 71 = .ok (.iload_n 3, 1) := by decide +kernel
theorem dX7_takeNumber_72 : decode cX7_takeNumber 72 = .ok (.iadd, 1) := by decide +kernel
theorem dX7_takeNumber_73 : decode cX7_takeNumber 73 = .ok (.bipush 48, 2) := by decide +kernel
theorem dX7_takeNumber_75 : decode cX7_takeNumber 75 = .ok (.isub, 1) := by decide +kernel
theorem dX7_takeNumber_76 : decode cX7_takeNumber 76 = .ok (.istore 4, 2) := by decide +kernel
theorem dX7_takeNumber_78 : decode cX7_takeNumber 78 = .ok (.aload_n 0, 1) := by decide +kernel
theorem dX7_takeNumber_79 : decode cX7_takeNumber 79 = .ok (.dup, 1) := by decide +kernel
theorem dX7_takeNumber_80 : decode cX7_takeNumber 80 = .ok (.getfield 32, 3) := by decide +kernel
theorem dX7_takeNumber_83 : decode cX7_takeNumber 83 = .ok (.iconst 1, 1) := by decide +kernel
theorem dX7_takeNumber_84 : decode cX7_takeNumber 84 = .ok (.iadd, 1) := by decide +kernel
theorem dX7_takeNumber_85 : decode cX7_takeNumber 85 = .ok (.putfield 32, 3) := by decide +kernel
theorem dX7_takeNumber_88 : decode cX7_takeNumber 88 = .ok (.aload_n 0, 1) := by decide +kernel
theorem dX7_takeNumber_89 : decode cX7_takeNumber 89 = .ok (.getfield 18, 3) := by decide +kernel
theorem dX7_takeNumber_92 : decode cX7_takeNumber 92 = .ok (.aload_n 0, 1) := by decide +kernel
theorem dX7_takeNumber_93 : decode cX7_takeNumber 93 = .ok (.getfield 22, 3) := by decide +kernel
theorem dX7_takeNumber_96 : decode cX7_takeNumber 96 = .ok (.iload 4, 2) := by decide +kernel
theorem dX7_takeNumber_98 : decode cX7_takeNumber 98 = .ok (.iastore, 1) := by decide +kernel
theorem dX7_takeNumber_99 : decode cX7_takeNumber 99 = .ok (.aload_n 0, 1) := by decide +kernel
theorem dX7_takeNumber_100 : decode cX7_takeNumber 100 = .ok (.dup, 1) := by decide +kernel
theorem dX7_takeNumber_101 : decode cX7_takeNumber 101 = .ok (.getfield 22, 3) := by decide +kernel
theorem dX7_takeNumber_104 : decode cX7_takeNumber 104 = .ok (.iconst 1, 1) := by decide +kernel
theorem dX7_takeNumber_105 : decode cX7_takeNumber 105 = .ok (.iadd, 1) := by decide +kernel
theorem dX7_takeNumber_106 : decode cX7_takeNumber 106 = .ok (.putfield 22, 3) := by decide +kernel
theorem dX7_takeNumber_109 : decode cX7_takeNumber 109 = .ok (.iconst 1, 1) := by decide +kernel
theorem dX7_takeNumber_110 : decode cX7_takeNumber 110 = .ok (.ireturn, 1) := by decide +kernel
theorem dX7_isDigit_0 : decode cX7_isDigit 0 = .ok (.iload_n 0, 1) := by decide +kernel
theorem dX7_isDigit_1 : decode cX7_isDigit 1 = .ok (.bipush 48, 2) := by decide +kernel
theorem dX7_isDigit_3 : decode cX7_isDigit 3 = .ok (.if_icmp .lt 13, 3) := by decide +kernel
theorem dX7_isDigit_6 : decode cX7_isDigit 6 = .ok (.iload_n 0, 1) := by decide +kernel
theorem dX7_isDigit_7 : decode cX7_isDigit 7 = .ok (.bipush 57, 2) := by decide +kernel
theorem dX7_isDigit_9 : decode cX7_isDigit 9 = .ok (.if_icmp .gt 7, 3) := by decide +kernel
theorem dX7_isDigit_12 : decode cX7_isDigit 12 = .ok (.iconst 1, 1) := by decide +kernel
theorem dX7_isDigit_13 : decode cX7_isDigit 13 = .ok (.goto 4, 3) := by decide +kernel
theorem dX7_isDigit_16 : decode cX7_isDigit 16 = .ok (.iconst 0, 1) := by decide +kernel
theorem dX7_isDigit_17 : decode cX7_isDigit 17 = .ok (.ireturn, 1) := by decide +kernel
set_option maxRecDepth 20000 in
theorem ggX7_addStatement_X8_addWord : GoodIn wsX7_addStatement wsX8_addWord := goodIn_r _ [9, 10, 11, 12, 13, 14, 126, 127, 128, 129, 130, 131, 132, 133, 134] (by decide +kernel) (by decide +kernel)
set_option maxRecDepth 20000 in
theorem gX7_addStatement_X8_addWord : GoodIn wsX7_addStatement (wsV RX7 103 RX8 yX8_addWord wsX8_addWord) := goodIn_app (goodIn_of _ (by decide +kernel)) ggX7_addStatement_X8_addWord
set_option maxRecDepth 20000 in
theorem ggX7_addStatement_X8_addRoad : GoodIn wsX7_addStatement wsX8_addRoad := goodIn_r _ [18, 19, 20, 21, 22, 126, 127, 128, 129, 130, 131, 132, 133, 134] (by decide +kernel) (by decide +kernel)
set_option maxRecDepth 20000 in
theorem gX7_addStatement_X8_addRoad : GoodIn wsX7_addStatement (wsV RX7 107 RX8 yX8_addRoad wsX8_addRoad) := goodIn_app (goodIn_of _ (by decide +kernel)) ggX7_addStatement_X8_addRoad
set_option maxRecDepth 20000 in
theorem ggX7_addStatement_X8_stock : GoodIn wsX7_addStatement wsX8_stock := goodIn_r _ [26, 14, 27, 28, 29, 8, 30, 10, 126, 127, 128, 129, 130, 131, 132, 133, 134] (by decide +kernel) (by decide +kernel)
set_option maxRecDepth 20000 in
theorem gX7_addStatement_X8_stock : GoodIn wsX7_addStatement (wsV RX7 110 RX8 yX8_stock wsX8_stock) := goodIn_app (goodIn_of _ (by decide +kernel)) ggX7_addStatement_X8_stock
set_option maxRecDepth 20000 in
theorem ggX7_addStatement_J0_indexOf_0f7a4 : GoodIn wsX7_addStatement wsJ0_indexOf_0f7a4 := goodIn_r _ [35, 36, 37, 38, 34, 39, 40, 41, 42, 43, 44, 45, 46, 47, 48, 49, 50, 51, 52, 53, 54, 55, 56, 57, 58, 59, 60, 61, 62, 63, 64, 65, 66, 67, 68, 69, 70, 71, 72, 73, 74, 75, 76, 77, 78, 79, 80, 81, 82, 83, 84, 85, 86, 87, 88, 89, 90, 91, 92, 93, 94, 95, 96, 97, 98, 99, 100, 101, 102, 103, 104, 105, 106, 107, 108, 109, 110, 111, 112, 113, 114, 115, 116, 117, 118, 119] (by decide +kernel) (by decide +kernel)
set_option maxRecDepth 20000 in
theorem gX7_addStatement_J0_indexOf_0f7a4 : GoodIn wsX7_addStatement (wsV RX7 96 RJ0 yJ0_indexOf_0f7a4 wsJ0_indexOf_0f7a4) := goodIn_app (goodIn_of _ (by decide +kernel)) ggX7_addStatement_J0_indexOf_0f7a4
theorem dX7_addStatement_0 : decode cX7_addStatement 0 = .ok (.aload_n 0, 1) := by decide +kernel
theorem dX7_addStatement_1 : decode cX7_addStatement 1 = .ok (.getfield 29, 3) := by decide +kernel
theorem dX7_addStatement_4 : decode cX7_addStatement 4 = .ok (.tableswitch 101 114 118 #[57, 81, 101, 101, 36], 36) := by decide +kernel
theorem dX7_addStatement_40 : decode cX7_addStatement 40 = .ok (.aload_n 0, 1) := by decide +kernel
theorem dX7_addStatement_41 : decode cX7_addStatement 41 = .ok (.getfield 12, 3) := by decide +kernel
theorem dX7_addStatement_44 : decode cX7_addStatement 44 = .ok (.iconst 0, 1) := by decide +kernel
theorem dX7_addStatement_45 : decode cX7_addStatement 45 = .ok (.aload_n 0, 1) := by decide +kernel
theorem dX7_addStatement_46 : decode cX7_addStatement 46 = .ok (.getfield 18, 3) := by decide +kernel
theorem dX7_addStatement_49 : decode cX7_addStatement 49 = .ok (.iconst 0, 1) := by decide +kernel
theorem dX7_addStatement_50 : decode cX7_addStatement 50 = .ok (.iaload, 1) := by decide +kernel
theorem dX7_addStatement_51 : decode cX7_addStatement 51 = .ok (.aload_n 0, 1) := by decide +kernel
theorem dX7_addStatement_52 : decode cX7_addStatement 52 = .ok (.getfield 18, 3) := by decide +kernel
theorem dX7_addStatement_55 : decode cX7_addStatement 55 = .ok (.iconst 1, 1) := by decide +kernel
theorem dX7_addStatement_56 : decode cX7_addStatement 56 = .ok (.iaload, 1) := by decide +kernel
theorem dX7_addStatement_57 : decode cX7_addStatement 57 = .ok (.invokevirtual 103, 3) := by decide +kernel
theorem dX7_addStatement_60 : decode cX7_addStatement 60 = .ok (.ireturn, 1) := by decide +kernel
theorem dX7_addStatement_61 : decode cX7_addStatement 61 = .ok (.aload_n 0, 1) := by decide +kernel
theorem dX7_addStatement_62 : decode cX7_addStatement 62 = .ok (.getfield 12, 3) := by decide +kernel
theorem dX7_addStatement_65 : decode cX7_addStatement 65 = .ok (.aload_n 0, 1) := by decide +kernel
theorem dX7_addStatement_66 : decode cX7_addStatement 66 = .ok (.getfield 26, 3) := by decide +kernel
theorem dX7_addStatement_69 : decode cX7_addStatement 69 = .ok (.aload_n 0, 1) := by decide +kernel
theorem dX7_addStatement_70 : decode cX7_addStatement 70 = .ok (.getfield 18, 3) := by decide +kernel
theorem dX7_addStatement_73 : decode cX7_addStatement 73 = .ok (.iconst 0, 1) := by decide +kernel
theorem dX7_addStatement_74 : decode cX7_addStatement 74 = .ok (.iaload, 1) := by decide +kernel
theorem dX7_addStatement_75 : decode cX7_addStatement 75 = .ok (.aload_n 0, 1) := by decide +kernel
theorem dX7_addStatement_76 : decode cX7_addStatement 76 = .ok (.getfield 18, 3) := by decide +kernel
theorem dX7_addStatement_79 : decode cX7_addStatement 79 = .ok (.iconst 1, 1) := by decide +kernel
theorem dX7_addStatement_80 : decode cX7_addStatement 80 = .ok (.iaload, 1) := by decide +kernel
theorem dX7_addStatement_81 : decode cX7_addStatement 81 = .ok (.invokevirtual 107, 3) := by decide +kernel
theorem dX7_addStatement_84 : decode cX7_addStatement 84 = .ok (.ireturn, 1) := by decide +kernel
theorem dX7_addStatement_85 : decode cX7_addStatement 85 = .ok (.aload_n 0, 1) := by decide +kernel
theorem dX7_addStatement_86 : decode cX7_addStatement 86 = .ok (.getfield 12, 3) := by decide +kernel
theorem dX7_addStatement_89 : decode cX7_addStatement 89 = .ok (.aload_n 0, 1) := by decide +kernel
theorem dX7_addStatement_90 : decode cX7_addStatement 90 = .ok (.getfield 18, 3) := by decide +kernel
theorem dX7_addStatement_93 : decode cX7_addStatement 93 = .ok (.iconst 0, 1) := by decide +kernel
theorem dX7_addStatement_94 : decode cX7_addStatement 94 = .ok (.iaload, 1) := by decide +kernel
theorem dX7_addStatement_95 : decode cX7_addStatement 95 = .ok (.aload_n 0, 1) := by decide +kernel
theorem dX7_addStatement_96 : decode cX7_addStatement 96 = .ok (.getfield 18, 3) := by decide +kernel
theorem dX7_addStatement_99 : decode cX7_addStatement 99 = .ok (.iconst 1, 1) := by decide +kernel
theorem dX7_addStatement_100 : decode cX7_addStatement 100 = .ok (.iaload, 1) := by decide +kernel
theorem dX7_addStatement_101 : decode cX7_addStatement 101 = .ok (.invokevirtual 110, 3) := by decide +kernel
theorem dX7_addStatement_104 : decode cX7_addStatement 104 = .ok (.ireturn, 1) := by decide +kernel
theorem dX7_addStatement_105 : decode cX7_addStatement 105 = .ok (.aload_n 0, 1) := by decide +kernel
theorem dX7_addStatement_106 : decode cX7_addStatement 106 = .ok (.getfield 12, 3) := by decide +kernel
theorem dX7_addStatement_109 : decode cX7_addStatement 109 = .ok (.ldc 114, 2) := by decide +kernel
theorem dX7_addStatement_111 : decode cX7_addStatement 111 = .ok (.aload_n 0, 1) := by decide +kernel
theorem dX7_addStatement_112 : decode cX7_addStatement 112 = .ok (.getfield 29, 3) := by decide +kernel
theorem dX7_addStatement_115 : decode cX7_addStatement 115 = .ok (.i2c, 1) := by decide +kernel
theorem dX7_addStatement_116 : decode cX7_addStatement 116 = .ok (.invokevirtual 96, 3) := by decide +kernel
theorem dX7_addStatement_119 : decode cX7_addStatement 119 = .ok (.bipush 16, 2) := by decide +kernel
theorem dX7_addStatement_121 : decode cX7_addStatement 121 = .ok (.aload_n 0, 1) := by decide +kernel
theorem dX7_addStatement_122 : decode cX7_addStatement 122 = .ok (.getfield 18, 3) := by decide +kernel
theorem dX7_addStatement_125 : decode cX7_addStatement 125 = .ok (.iconst 0, 1) := by decide +kernel
theorem dX7_addStatement_126 : decode cX7_addStatement 126 = .ok (.iaload, 1) := by decide +kernel
theorem dX7_addStatement_127 : decode cX7_addStatement 127 = .ok (.invokevirtual 103, 3) := by decide +kernel
theorem dX7_addStatement_130 : decode cX7_addStatement 130 = .ok (.ireturn, 1) := by decide +kernel
theorem dX8_init_0 : decode cX8_init 0 = .ok (.aload_n 0, 1) := by decide +kernel
theorem dX8_init_1 : decode cX8_init 1 = .ok (.invokespecial 3, 3) := by decide +kernel
theorem dX8_init_4 : decode cX8_init 4 = .ok (.aload_n 0, 1) := by decide +kernel
theorem dX8_init_5 : decode cX8_init 5 = .ok (.bipush 6, 2) := by decide +kernel
theorem dX8_init_7 : decode cX8_init 7 = .ok (.newarray .int, 2) := by decide +kernel
theorem dX8_init_9 : decode cX8_init 9 = .ok (.putfield 9, 3) := by decide +kernel
theorem dX8_init_12 : decode cX8_init 12 = .ok (.aload_n 0, 1) := by decide +kernel
theorem dX8_init_13 : decode cX8_init 13 = .ok (.bipush 6, 2) := by decide +kernel
theorem dX8_init_15 : decode cX8_init 15 = .ok (.newarray .int, 2) := by decide +kernel
theorem dX8_init_17 : decode cX8_init 17 = .ok (.putfield 15, 3) := by decide +kernel
theorem dX8_init_20 : decode cX8_init 20 = .ok (.aload_n 0, 1) := by decide +kernel
theorem dX8_init_21 : decode cX8_init 21 = .ok (.bipush 6, 2) := by decide +kernel
theorem dX8_init_23 : decode cX8_init 23 = .ok (.newarray .int, 2) := by decide +kernel
theorem dX8_init_25 : decode cX8_init 25 = .ok (.putfield 18, 3) := by decide +kernel
theorem dX8_init_28 : decode cX8_init 28 = .ok (.aload_n 0, 1) := by decide +kernel
theorem dX8_init_29 : decode cX8_init 29 = .ok (.bipush 6, 2) := by decide +kernel
theorem dX8_init_31 : decode cX8_init 31 = .ok (.newarray .int, 2) := by decide +kernel
theorem dX8_init_33 : decode cX8_init 33 = .ok (.putfield 21, 3) := by decide +kernel
theorem dX8_init_36 : decode cX8_init 36 = .ok (.aload_n 0, 1) := by decide +kernel
theorem dX8_init_37 : decode cX8_init 37 = .ok (.iconst 0, 1) := by decide +kernel
theorem dX8_init_38 : decode cX8_init 38 = .ok (.putfield 24, 3) := by decide +kernel
theorem dX8_init_41 : decode cX8_init 41 = .ok (.aload_n 0, 1) := by decide +kernel
theorem dX8_init_42 : decode cX8_init 42 = .ok (.bipush 6, 2) := by decide +kernel
theorem dX8_init_44 : decode cX8_init 44 = .ok (.newarray .int, 2) := by decide +kernel
theorem dX8_init_46 : decode cX8_init 46 = .ok (.putfield 28, 3) := by decide +kernel
theorem dX8_init_49 : decode cX8_init 49 = .ok (.aload_n 0, 1) := by decide +kernel
theorem dX8_init_50 : decode cX8_init 50 = .ok (.bipush 6, 2) := by decide +kernel
theorem dX8_init_52 : decode cX8_init 52 = .ok (.newarray .int, 2) := by decide +kernel
theorem dX8_init_54 : decode cX8_init 54 = .ok (.putfield 31, 3) := by decide +kernel
theorem dX8_init_57 : decode cX8_init 57 = .ok (.aload_n 0, 1) := by decide +kernel
theorem dX8_init_58 : decode cX8_init 58 = .ok (.bipush 6, 2) := by decide +kernel
theorem dX8_init_60 : decode cX8_init 60 = .ok (.newarray .int, 2) := by decide +kernel
theorem dX8_init_62 : decode cX8_init 62 = .ok (.putfield 34, 3) := by decide +kernel
theorem dX8_init_65 : decode cX8_init 65 = .ok (.aload_n 0, 1) := by decide +kernel
theorem dX8_init_66 : decode cX8_init 66 = .ok (.iconst 0, 1) := by decide +kernel
theorem dX8_init_67 : decode cX8_init 67 = .ok (.putfield 37, 3) := by decide +kernel
theorem dX8_init_70 : decode cX8_init 70 = .ok (.return_, 1) := by decide +kernel
theorem dX8_copyFrom_0 : decode cX8_copyFrom 0 = .ok (.aload_n 1, 1) := by decide +kernel
theorem dX8_copyFrom_1 : decode cX8_copyFrom 1 = .ok (.getfield 9, 3) := by decide +kernel
theorem dX8_copyFrom_4 : decode cX8_copyFrom 4 = .ok (.iconst 0, 1) := by decide +kernel
theorem dX8_copyFrom_5 : decode cX8_copyFrom 5 = .ok (.aload_n 0, 1) := by decide +kernel
theorem dX8_copyFrom_6 : decode cX8_copyFrom 6 = .ok (.getfield 9, 3) := by decide +kernel
theorem dX8_copyFrom_9 : decode cX8_copyFrom 9 = .ok (.iconst 0, 1) := by decide +kernel
theorem dX8_copyFrom_10 : decode cX8_copyFrom 10 = .ok (.bipush 6, 2) := by decide +kernel
theorem dX8_copyFrom_12 : decode cX8_copyFrom 12 = .ok (.invokestatic 40, 3) := by decide +kernel
theorem dX8_copyFrom_15 : decode cX8_copyFrom 15 = .ok (.aload_n 1, 1) := by decide +kernel
theorem dX8_copyFrom_16 : decode cX8_copyFrom 16 = .ok (.getfield 15, 3) := by decide +kernel
theorem dX8_copyFrom_19 : decode cX8_copyFrom 19 = .ok (.iconst 0, 1) := by decide +kernel
theorem dX8_copyFrom_20 : decode cX8_copyFrom 20 = .ok (.aload_n 0, 1) := by decide +kernel
theorem dX8_copyFrom_21 : decode cX8_copyFrom 21 = .ok (.getfield 15, 3) := by decide +kernel
theorem dX8_copyFrom_24 : decode cX8_copyFrom 24 = .ok (.iconst 0, 1) := by decide +kernel
theorem dX8_copyFrom_25 : decode cX8_copyFrom 25 = .ok (.bipush 6, 2) := by decide +kernel
theorem dX8_copyFrom_27 : decode cX8_copyFrom 27 = .ok (.invokestatic 40, 3) := by decide +kernel
theorem dX8_copyFrom_30 : decode cX8_copyFrom 30 = .ok (.aload_n 1, 1) := by decide +kernel
theorem dX8_copyFrom_31 : decode cX8_copyFrom 31 = .ok (.getfield 18, 3) := by decide +kernel
theorem dX8_copyFrom_34 : decode cX8_copyFrom 34 = .ok (.iconst 0, 1) := by decide +kernel
theorem dX8_copyFrom_35 : decode cX8_copyFrom 35 = .ok (.aload_n 0, 1) := by decide +kernel
theorem dX8_copyFrom_36 : decode cX8_copyFrom 36 = .ok (.getfield 18, 3) := by decide +kernel
theorem dX8_copyFrom_39 : decode cX8_copyFrom 39 = .ok (.iconst 0, 1) := by decide +kernel
theorem dX8_copyFrom_40 : decode cX8_copyFrom 40 = .ok (.bipush 6, 2) := by decide +kernel
theorem dX8_copyFrom_42 : decode cX8_copyFrom 42 = .ok (.invokestatic 40, 3) := by decide +kernel
theorem dX8_copyFrom_45 : decode cX8_copyFrom 45 = .ok (.aload_n 1, 1) := by decide +kernel
theorem dX8_copyFrom_46 : decode cX8_copyFrom 46 = .ok (.getfield 21, 3) := by decide +kernel
theorem dX8_copyFrom_49 : decode cX8_copyFrom 49 = .ok (.iconst 0, 1) := by decide +kernel
theorem dX8_copyFrom_50 : decode cX8_copyFrom 50 = .ok (.aload_n 0, 1) := by decide +kernel
theorem dX8_copyFrom_51 : decode cX8_copyFrom 51 = .ok (.getfield 21, 3) := by decide +kernel
theorem dX8_copyFrom_54 : decode cX8_copyFrom 54 = .ok (.iconst 0, 1) := by decide +kernel
theorem dX8_copyFrom_55 : decode cX8_copyFrom 55 = .ok (.bipush 6, 2) := by decide +kernel
theorem dX8_copyFrom_57 : decode cX8_copyFrom 57 = .ok (.invokestatic 40, 3) := by decide +kernel
theorem dX8_copyFrom_60 : decode cX8_copyFrom 60 = .ok (.aload_n 0, 1) := by decide +kernel
theorem dX8_copyFrom_61 : decode cX8_copyFrom 61 = .ok (.aload_n 1, 1) := by decide +kernel
theorem dX8_copyFrom_62 : decode cX8_copyFrom 62 = .ok (.getfield 24, 3) := by decide +kernel
theorem dX8_copyFrom_65 : decode cX8_copyFrom 65 = .ok (.putfield 24, 3) := by decide +kernel
theorem dX8_copyFrom_68 : decode cX8_copyFrom 68 = .ok (.aload_n 1, 1) := by decide +kernel
theorem dX8_copyFrom_69 : decode cX8_copyFrom 69 = .ok (.getfield 28, 3) := by decide +kernel
theorem dX8_copyFrom_72 : decode cX8_copyFrom 72 = .ok (.iconst 0, 1) := by decide +kernel
theorem dX8_copyFrom_73 : decode cX8_copyFrom 73 = .ok (.aload_n 0, 1) := by decide +kernel
theorem dX8_copyFrom_74 : decode cX8_copyFrom 74 = .ok (.getfield 28, 3) := by decide +kernel
theorem dX8_copyFrom_77 : decode cX8_copyFrom 77 = .ok (.iconst 0, 1) := by decide +kernel
theorem dX8_copyFrom_78 : decode cX8_copyFrom 78 = .ok (.bipush 6, 2) := by decide +kernel
theorem dX8_copyFrom_80 : decode cX8_copyFrom 80 = .ok (.invokestatic 40, 3) := by decide +kernel
theorem dX8_copyFrom_83 : decode cX8_copyFrom 83 = .ok (.aload_n 1, 1) := by decide +kernel
theorem dX8_copyFrom_84 : decode cX8_copyFrom 84 = .ok (.getfield 31, 3) := by decide +kernel
theorem dX8_copyFrom_87 : decode cX8_copyFrom 87 = .ok (.iconst 0, 1) := by decide +kernel
theorem dX8_copyFrom_88 : decode cX8_copyFrom 88 = .ok (.aload_n 0, 1) := by decide +kernel
theorem dX8_copyFrom_89 : decode cX8_copyFrom 89 = .ok (.getfield 31, 3) := by decide +kernel
theorem dX8_copyFrom_92 : decode cX8_copyFrom 92 = .ok (.iconst 0, 1) := by decide +kernel
theorem dX8_copyFrom_93 : decode cX8_copyFrom 93 = .ok (.bipush 6, 2) := by decide +kernel
theorem dX8_copyFrom_95 : decode cX8_copyFrom 95 = .ok (.invokestatic 40, 3) := by decide +kernel
theorem dX8_copyFrom_98 : decode cX8_copyFrom 98 = .ok (.aload_n 1, 1) := by decide +kernel
theorem dX8_copyFrom_99 : decode cX8_copyFrom 99 = .ok (.getfield 34, 3) := by decide +kernel
theorem dX8_copyFrom_102 : decode cX8_copyFrom 102 = .ok (.iconst 0, 1) := by decide +kernel
theorem dX8_copyFrom_103 : decode cX8_copyFrom 103 = .ok (.aload_n 0, 1) := by decide +kernel
theorem dX8_copyFrom_104 : decode cX8_copyFrom 104 = .ok (.getfield 34, 3) := by decide +kernel
theorem dX8_copyFrom_107 : decode cX8_copyFrom 107 = .ok (.iconst 0, 1) := by decide +kernel
theorem dX8_copyFrom_108 : decode cX8_copyFrom 108 = .ok (.bipush 6, 2) := by decide +kernel
theorem dX8_copyFrom_110 : decode cX8_copyFrom 110 = .ok (.invokestatic 40, 3) := by decide +kernel
theorem dX8_copyFrom_113 : decode cX8_copyFrom 113 = .ok (.aload_n 0, 1) := by decide +kernel
theorem dX8_copyFrom_114 : decode cX8_copyFrom 114 = .ok (.aload_n 1, 1) := by decide +kernel
theorem dX8_copyFrom_115 : decode cX8_copyFrom 115 = .ok (.getfield 37, 3) := by decide +kernel
theorem dX8_copyFrom_118 : decode cX8_copyFrom 118 = .ok (.putfield 37, 3) := by decide +kernel
theorem dX8_copyFrom_121 : decode cX8_copyFrom 121 = .ok (.return_, 1) := by decide +kernel
theorem dX8_hasWord_0 : decode cX8_hasWord 0 = .ok (.iload_n 1, 1) := by decide +kernel
theorem dX8_hasWord_1 : decode cX8_hasWord 1 = .ok (.ifCond .lt 15, 3) := by decide +kernel
theorem dX8_hasWord_4 : decode cX8_hasWord 4 = .ok (.iload_n 1, 1) := by decide +kernel
theorem dX8_hasWord_5 : decode cX8_hasWord 5 = .ok (.aload_n 0, 1) := by decide +kernel
theorem dX8_hasWord_6 : decode cX8_hasWord 6 = .ok (.getfield 24, 3) := by decide +kernel
theorem dX8_hasWord_9 : decode cX8_hasWord 9 = .ok (.if_icmp .ge 7, 3) := by decide +kernel
theorem dX8_hasWord_12 : decode cX8_hasWord 12 = .ok (.iconst 1, 1) := by decide +kernel
theorem dX8_hasWord_13 : decode cX8_hasWord 13 = .ok (.goto 4, 3) := by decide +kernel
theorem dX8_hasWord_16 : decode cX8_hasWord 16 = .ok (.iconst 0, 1) := by decide +kernel
theorem dX8_hasWord_17 : decode cX8_hasWord 17 = .ok (.ireturn, 1) := by decide +kernel
theorem dX8_hasRoad_0 : decode cX8_hasRoad 0 = .ok (.iload_n 1, 1) := by decide +kernel
theorem dX8_hasRoad_1 : decode cX8_hasRoad 1 = .ok (.ifCond .lt 15, 3) := by decide +kernel
theorem dX8_hasRoad_4 : decode cX8_hasRoad 4 = .ok (.iload_n 1, 1) := by decide +kernel
theorem dX8_hasRoad_5 : decode cX8_hasRoad 5 = .ok (.aload_n 0, 1) := by decide +kernel
theorem dX8_hasRoad_6 : decode cX8_hasRoad 6 = .ok (.getfield 37, 3) := by decide +kernel
theorem dX8_hasRoad_9 : decode cX8_hasRoad 9 = .ok (.if_icmp .ge 7, 3) := by decide +kernel
theorem dX8_hasRoad_12 : decode cX8_hasRoad 12 = .ok (.iconst 1, 1) := by decide +kernel
theorem dX8_hasRoad_13 : decode cX8_hasRoad 13 = .ok (.goto 4, 3) := by decide +kernel
theorem dX8_hasRoad_16 : decode cX8_hasRoad 16 = .ok (.iconst 0, 1) := by decide +kernel
theorem dX8_hasRoad_17 : decode cX8_hasRoad 17 = .ok (.ireturn, 1) := by decide +kernel
theorem dX8_addWord_0 : decode cX8_addWord 0 = .ok (.aload_n 0, 1) := by decide +kernel
theorem dX8_addWord_1 : decode cX8_addWord 1 = .ok (.getfield 24, 3) := by decide +kernel
theorem dX8_addWord_4 : decode cX8_addWord 4 = .ok (.bipush 6, 2) := by decide +kernel
theorem dX8_addWord_6 : decode cX8_addWord 6 = .ok (.if_icmp .ge 13, 3) := by decide +kernel
theorem dX8_addWord_9 : decode cX8_addWord 9 = .ok (.iload_n 1, 1) := by decide +kernel
theorem dX8_addWord_10 : decode cX8_addWord 10 = .ok (.ifCond .ne 11, 3) := by decide +kernel
theorem dX8_addWord_13 : decode cX8_addWord 13 = .ok (.iload_n 2, 1) := by decide +kernel
theorem dX8_addWord_14 : decode cX8_addWord 14 = .ok (.bipush 16, 2) := by decide +kernel
theorem dX8_addWord_16 : decode cX8_addWord 16 = .ok (.if_icmp .lt 5, 3) := by decide +kernel
theorem dX8_addWord_19 : decode cX8_addWord 19 = .ok (.iconst 0, 1) := by decide +kernel
theorem dX8_addWord_20 : decode cX8_addWord 20 = .ok (.ireturn, 1) := by decide +kernel
theorem dX8_addWord_21 : decode cX8_addWord 21 = .ok (.aload_n 0, 1) := by decide +kernel
theorem dX8_addWord_22 : decode cX8_addWord 22 = .ok (.getfield 9, 3) := by decide +kernel
theorem dX8_addWord_25 : decode cX8_addWord 25 = .ok (.aload_n 0, 1) := by decide +kernel
theorem dX8_addWord_26 : decode cX8_addWord 26 = .ok (.getfield 24, 3) := by decide +kernel
theorem dX8_addWord_29 : decode cX8_addWord 29 = .ok (.iload_n 1, 1) := by decide +kernel
theorem dX8_addWord_30 : decode cX8_addWord 30 = .ok (.iastore, 1) := by decide +kernel
theorem dX8_addWord_31 : decode cX8_addWord 31 = .ok (.aload_n 0, 1) := by decide +kernel
theorem dX8_addWord_32 : decode cX8_addWord 32 = .ok (.getfield 15, 3) := by decide +kernel
theorem dX8_addWord_35 : decode cX8_addWord 35 = .ok (.aload_n 0, 1) := by decide +kernel
theorem dX8_addWord_36 : decode cX8_addWord 36 = .ok (.getfield 24, 3) := by decide +kernel
theorem dX8_addWord_39 : decode cX8_addWord 39 = .ok (.iload_n 1, 1) := by decide +kernel
theorem dX8_addWord_40 : decode cX8_addWord 40 = .ok (.ifCond .ne 7, 3) := by decide +kernel
theorem dX8_addWord_43 : decode cX8_addWord 43 = .ok (.iload_n 2, 1) := by decide +kernel
theorem dX8_addWord_44 : decode cX8_addWord 44 = .ok (.goto 5, 3) := by decide +kernel
theorem dX8_addWord_47 : decode cX8_addWord 47 = .ok (.bipush 16, 2) := by decide +kernel
theorem dX8_addWord_49 : decode cX8_addWord 49 = .ok (.iastore, 1) := by decide +kernel
theorem dX8_addWord_50 : decode cX8_addWord 50 = .ok (.aload_n 0, 1) := by decide +kernel
theorem dX8_addWord_51 : decode cX8_addWord 51 = .ok (.getfield 18, 3) := by decide +kernel
theorem dX8_addWord_54 : decode cX8_addWord 54 = .ok (.aload_n 0, 1) := by decide +kernel
theorem dX8_addWord_55 : decode cX8_addWord 55 = .ok (.getfield 24, 3) := by decide +kernel
theorem dX8_addWord_58 : decode cX8_addWord 58 = .ok (.iload_n 3, 1) := by decide +kernel
theorem dX8_addWord_59 : decode cX8_addWord 59 = .ok (.iastore, 1) := by decide +kernel
theorem dX8_addWord_60 : decode cX8_addWord 60 = .ok (.aload_n 0, 1) := by decide +kernel
theorem dX8_addWord_61 : decode cX8_addWord 61 = .ok (.getfield 21, 3) := by decide +kernel
theorem dX8_addWord_64 : decode cX8_addWord 64 = .ok (.aload_n 0, 1) := by decide +kernel
theorem dX8_addWord_65 : decode cX8_addWord 65 = .ok (.getfield 24, 3) := by decide +kernel
theorem dX8_addWord_68 : decode cX8_addWord 68 = .ok (.iconst 0, 1) := by decide +kernel
theorem dX8_addWord_69 : decode cX8_addWord 69 = .ok (.iastore, 1) := by decide +kernel
theorem dX8_addWord_70 : decode cX8_addWord 70 = .ok (.aload_n 0, 1) := by decide +kernel
theorem dX8_addWord_71 : decode cX8_addWord 71 = .ok (.dup, 1) := by decide +kernel
theorem dX8_addWord_72 : decode cX8_addWord 72 = .ok (.getfield 24, 3) := by decide +kernel
theorem dX8_addWord_75 : decode cX8_addWord 75 = .ok (.iconst 1, 1) := by decide +kernel
theorem dX8_addWord_76 : decode cX8_addWord 76 = .ok (.iadd, 1) := by decide +kernel
theorem dX8_addWord_77 : decode cX8_addWord 77 = .ok (.putfield 24, 3) := by decide +kernel
theorem dX8_addWord_80 : decode cX8_addWord 80 = .ok (.iconst 1, 1) := by decide +kernel
theorem dX8_addWord_81 : decode cX8_addWord 81 = .ok (.ireturn, 1) := by decide +kernel
theorem dX8_addRoad_0 : decode cX8_addRoad 0 = .ok (.aload_n 0, 1) := by decide +kernel
theorem dX8_addRoad_1 : decode cX8_addRoad 1 = .ok (.getfield 37, 3) := by decide +kernel
theorem dX8_addRoad_4 : decode cX8_addRoad 4 = .ok (.bipush 6, 2) := by decide +kernel
theorem dX8_addRoad_6 : decode cX8_addRoad 6 = .ok (.if_icmp .ge 15, 3) := by decide +kernel
theorem dX8_addRoad_9 : decode cX8_addRoad 9 = .ok (.iload_n 2, 1) := by decide +kernel
theorem dX8_addRoad_10 : decode cX8_addRoad 10 = .ok (.bipush 7, 2) := by decide +kernel
theorem dX8_addRoad_12 : decode cX8_addRoad 12 = .ok (.if_icmp .gt 9, 3) := by decide +kernel
theorem dX8_addRoad_15 : decode cX8_addRoad 15 = .ok (.iload_n 3, 1) := by decide +kernel
theorem dX8_addRoad_16 : decode cX8_addRoad 16 = .ok (.bipush 16, 2) := by decide +kernel
theorem dX8_addRoad_18 : decode cX8_addRoad 18 = .ok (.if_icmp .le 5, 3) := by decide +kernel
theorem dX8_addRoad_21 : decode cX8_addRoad 21 = .ok (.iconst 0, 1) := by decide +kernel
theorem dX8_addRoad_22 : decode cX8_addRoad 22 = .ok (.ireturn, 1) := by decide +kernel
theorem dX8_addRoad_23 : decode cX8_addRoad 23 = .ok (.aload_n 0, 1) := by decide +kernel
theorem dX8_addRoad_24 : decode cX8_addRoad 24 = .ok (.getfield 28, 3) := by decide +kernel
theorem dX8_addRoad_27 : decode cX8_addRoad 27 = .ok (.aload_n 0, 1) := by decide +kernel
theorem dX8_addRoad_28 : decode cX8_addRoad 28 = .ok (.getfield 37, 3) := by decide +kernel
theorem dX8_addRoad_31 : decode cX8_addRoad 31 = .ok (.iload_n 1, 1) := by decide +kernel
theorem dX8_addRoad_32 : decode cX8_addRoad 32 = .ok (.iastore, 1) := by decide +kernel
theorem dX8_addRoad_33 : decode cX8_addRoad 33 = .ok (.aload_n 0, 1) := by decide +kernel
theorem dX8_addRoad_34 : decode cX8_addRoad 34 = .ok (.getfield 31, 3) := by decide +kernel
theorem dX8_addRoad_37 : decode cX8_addRoad 37 = .ok (.aload_n 0, 1) := by decide +kernel
theorem dX8_addRoad_38 : decode cX8_addRoad 38 = .ok (.getfield 37, 3) := by decide +kernel
theorem dX8_addRoad_41 : decode cX8_addRoad 41 = .ok (.iload_n 2, 1) := by decide +kernel
theorem dX8_addRoad_42 : decode cX8_addRoad 42 = .ok (.iastore, 1) := by decide +kernel
theorem dX8_addRoad_43 : decode cX8_addRoad 43 = .ok (.aload_n 0, 1) := by decide +kernel
theorem dX8_addRoad_44 : decode cX8_addRoad 44 = .ok (.getfield 34, 3) := by decide +kernel
theorem dX8_addRoad_47 : decode cX8_addRoad 47 = .ok (.aload_n 0, 1) := by decide +kernel
theorem dX8_addRoad_48 : decode cX8_addRoad 48 = .ok (.getfield 37, 3) := by decide +kernel
theorem dX8_addRoad_51 : decode cX8_addRoad 51 = .ok (.iload_n 3, 1) := by decide +kernel
theorem dX8_addRoad_52 : decode cX8_addRoad 52 = .ok (.iastore, 1) := by decide +kernel
theorem dX8_addRoad_53 : decode cX8_addRoad 53 = .ok (.aload_n 0, 1) := by decide +kernel
theorem dX8_addRoad_54 : decode cX8_addRoad 54 = .ok (.dup, 1) := by decide +kernel
theorem dX8_addRoad_55 : decode cX8_addRoad 55 = .ok (.getfield 37, 3) := by decide +kernel
theorem dX8_addRoad_58 : decode cX8_addRoad 58 = .ok (.iconst 1, 1) := by decide +kernel
theorem dX8_addRoad_59 : decode cX8_addRoad 59 = .ok (.iadd, 1) := by decide +kernel
theorem dX8_addRoad_60 : decode cX8_addRoad 60 = .ok (.putfield 37, 3) := by decide +kernel
theorem dX8_addRoad_63 : decode cX8_addRoad 63 = .ok (.iconst 1, 1) := by decide +kernel
theorem dX8_addRoad_64 : decode cX8_addRoad 64 = .ok (.ireturn, 1) := by decide +kernel
set_option maxRecDepth 20000 in
theorem ggX8_stock_X8_hasWord : GoodIn wsX8_stock wsX8_hasWord := goodIn_r _ [6, 7, 8, 9, 10, 11, 12, 13, 14, 15, 16] (by decide +kernel) (by decide +kernel)
set_option maxRecDepth 20000 in
theorem gX8_stock_X8_hasWord : GoodIn wsX8_stock (wsV RX8 46 RX8 yX8_hasWord wsX8_hasWord) := goodIn_app (goodIn_of _ (by decide +kernel)) ggX8_stock_X8_hasWord
theorem dX8_stock_0 : decode cX8_stock 0 = .ok (.aload_n 0, 1) := by decide +kernel
theorem dX8_stock_1 : decode cX8_stock 1 = .ok (.iload_n 1, 1) := by decide +kernel
theorem dX8_stock_2 : decode cX8_stock 2 = .ok (.invokevirtual 46, 3) := by decide +kernel
theorem dX8_stock_5 : decode cX8_stock 5 = .ok (.ifCond .ne 5, 3) := by decide +kernel
theorem dX8_stock_8 : decode cX8_stock 8 = .ok (.iconst 0, 1) := by decide +kernel
theorem dX8_stock_9 : decode cX8_stock 9 = .ok (.ireturn, 1) := by decide +kernel
theorem dX8_stock_10 : decode cX8_stock 10 = .ok (.aload_n 0, 1) := by decide +kernel
theorem dX8_stock_11 : decode cX8_stock 11 = .ok (.getfield 21, 3) := by decide +kernel
theorem dX8_stock_14 : decode cX8_stock 14 = .ok (.iload_n 1, 1) := by decide +kernel
theorem dX8_stock_15 : decode cX8_stock 15 = .ok (.iload_n 2, 1) := by decide +kernel
theorem dX8_stock_16 : decode cX8_stock 16 = .ok (.iastore, 1) := by decide +kernel
theorem dX8_stock_17 : decode cX8_stock 17 = .ok (.iconst 1, 1) := by decide +kernel
theorem dX8_stock_18 : decode cX8_stock 18 = .ok (.ireturn, 1) := by decide +kernel
theorem dX8_allStock_0 : decode cX8_allStock 0 = .ok (.iconst 0, 1) := by decide +kernel
theorem dX8_allStock_1 : decode cX8_allStock 1 = .ok (.istore_n 1, 1) := by decide +kernel
theorem dX8_allStock_2 : decode cX8_allStock 2 = .ok (.iconst 0, 1) := by decide +kernel
theorem dX8_allStock_3 : decode cX8_allStock 3 = .ok (.istore_n 2, 1) := by decide +kernel
theorem dX8_allStock_4 : decode cX8_allStock 4 = .ok (.iload_n 2, 1) := by decide +kernel
theorem dX8_allStock_5 : decode cX8_allStock 5 = .ok (.aload_n 0, 1) := by decide +kernel
theorem dX8_allStock_6 : decode cX8_allStock 6 = .ok (.getfield 24, 3) := by decide +kernel
theorem dX8_allStock_9 : decode cX8_allStock 9 = .ok (.if_icmp .ge 18, 3) := by decide +kernel
theorem dX8_allStock_12 : decode cX8_allStock 12 = .ok (.iload_n 1, 1) := by decide +kernel
theorem dX8_allStock_13 : decode cX8_allStock 13 = .ok (.aload_n 0, 1) := by decide +kernel
theorem dX8_allStock_14 : decode cX8_allStock 14 = .ok (.getfield 21, 3) := by decide +kernel
theorem dX8_allStock_17 : decode cX8_allStock 17 = .ok (.iload_n 2, 1) := by decide +kernel
theorem dX8_allStock_18 : decode cX8_allStock 18 = .ok (.iaload, 1) := by decide +kernel
theorem dX8_allStock_19 : decode cX8_allStock 19 = .ok (.iadd, 1) := by decide +kernel
theorem dX8_allStock_20 : decode cX8_allStock 20 = .ok (.istore_n 1, 1) := by decide +kernel
theorem dX8_allStock_21 : decode cX8_allStock 21 = .ok (.iinc 2 1, 3) := by decide +kernel
theorem dX8_allStock_24 : decode cX8_allStock 24 = .ok (.goto (-20), 3) := by decide +kernel
theorem dX8_allStock_27 : decode cX8_allStock 27 = .ok (.iload_n 1, 1) := by decide +kernel
theorem dX8_allStock_28 : decode cX8_allStock 28 = .ok (.ireturn, 1) := by decide +kernel
theorem dX8_beginOf_0 : decode cX8_beginOf 0 = .ok (.aload_n 0, 1) := by decide +kernel
theorem dX8_beginOf_1 : decode cX8_beginOf 1 = .ok (.getfield 31, 3) := by decide +kernel
theorem dX8_beginOf_4 : decode cX8_beginOf 4 = .ok (.iload_n 1, 1) := by decide +kernel
theorem dX8_beginOf_5 : decode cX8_beginOf 5 = .ok (.iaload, 1) := by decide +kernel
theorem dX8_beginOf_6 : decode cX8_beginOf 6 = .ok (.iload_n 2, 1) := by decide +kernel
theorem dX8_beginOf_7 : decode cX8_beginOf 7 = .ok (.imul, 1) := by decide +kernel
theorem dX8_beginOf_8 : decode cX8_beginOf 8 = .ok (.bipush 8, 2) := by decide +kernel
theorem dX8_beginOf_10 : decode cX8_beginOf 10 = .ok (.idiv, 1) := by decide +kernel
theorem dX8_beginOf_11 : decode cX8_beginOf 11 = .ok (.ireturn, 1) := by decide +kernel
set_option maxRecDepth 20000 in
theorem ggX8_readByRoad_X8_beginOf : GoodIn wsX8_readByRoad wsX8_beginOf := goodIn_r _ [6, 7, 22, 23, 24, 25, 26, 27, 28, 29, 30] (by decide +kernel) (by decide +kernel)
set_option maxRecDepth 20000 in
theorem gX8_readByRoad_X8_beginOf : GoodIn wsX8_readByRoad (wsV RX8 50 RX8 yX8_beginOf wsX8_beginOf) := goodIn_app (goodIn_of _ (by decide +kernel)) ggX8_readByRoad_X8_beginOf
set_option maxRecDepth 20000 in
theorem ggX8_readByRoad_X8_meaning : GoodIn wsX8_readByRoad wsX8_meaning := goodIn_r _ [11, 12, 13, 14, 15, 5, 16, 17, 18, 19, 20, 21, 22, 23, 24, 25, 26, 27, 28, 29, 30] (by decide +kernel) (by decide +kernel)
set_option maxRecDepth 20000 in
theorem gX8_readByRoad_X8_meaning : GoodIn wsX8_readByRoad (wsV RX8 54 RX8 yX8_meaning wsX8_meaning) := goodIn_app (goodIn_of _ (by decide +kernel)) ggX8_readByRoad_X8_meaning
theorem dX8_readByRoad_0 : decode cX8_readByRoad 0 = .ok (.aload_n 0, 1) := by decide +kernel
theorem dX8_readByRoad_1 : decode cX8_readByRoad 1 = .ok (.aload_n 2, 1) := by decide +kernel
theorem dX8_readByRoad_2 : decode cX8_readByRoad 2 = .ok (.iload_n 3, 1) := by decide +kernel
theorem dX8_readByRoad_3 : decode cX8_readByRoad 3 = .ok (.aload_n 0, 1) := by decide +kernel
theorem dX8_readByRoad_4 : decode cX8_readByRoad 4 = .ok (.iload_n 1, 1) := by decide +kernel
theorem dX8_readByRoad_5 : decode cX8_readByRoad 5 = .ok (.iload_n 3, 1) := by decide +kernel
theorem dX8_readByRoad_6 : decode cX8_readByRoad 6 = .ok (.invokevirtual 50, 3) := by decide +kernel
theorem dX8_readByRoad_9 : decode cX8_readByRoad 9 = .ok (.aload_n 0, 1) := by decide +kernel
theorem dX8_readByRoad_10 : decode cX8_readByRoad 10 = .ok (.getfield 28, 3) := by decide +kernel
theorem dX8_readByRoad_13 : decode cX8_readByRoad 13 = .ok (.iload_n 1, 1) := by decide +kernel
theorem dX8_readByRoad_14 : decode cX8_readByRoad 14 = .ok (.iaload, 1) := by decide +kernel
theorem dX8_readByRoad_15 : decode cX8_readByRoad 15 = .ok (.invokevirtual 54, 3) := by decide +kernel
theorem dX8_readByRoad_18 : decode cX8_readByRoad 18 = .ok (.ireturn, 1) := by decide +kernel
set_option maxRecDepth 20000 in
theorem ggX8_firstAgainst_X8_readByRoad : GoodIn wsX8_firstAgainst wsX8_readByRoad := goodIn_r _ [7, 8, 9, 10, 11, 6, 12, 13, 14, 15, 16, 17, 18, 19, 20, 21, 22, 23, 24, 25, 26, 27, 28, 29, 30, 31, 32, 33, 34, 35, 36] (by decide +kernel) (by decide +kernel)
set_option maxRecDepth 20000 in
theorem gX8_firstAgainst_X8_readByRoad : GoodIn wsX8_firstAgainst (wsV RX8 58 RX8 yX8_readByRoad wsX8_readByRoad) := goodIn_app (goodIn_of _ (by decide +kernel)) ggX8_firstAgainst_X8_readByRoad
theorem dX8_firstAgainst_0 : decode cX8_firstAgainst 0 = .ok (.iconst 0, 1) := by decide +kernel
theorem dX8_firstAgainst_1 : decode cX8_firstAgainst 1 = .ok (.istore_n 3, 1) := by decide +kernel
theorem dX8_firstAgainst_2 : decode cX8_firstAgainst 2 = .ok (.iload_n 3, 1) := by decide +kernel
theorem dX8_firstAgainst_3 : decode cX8_firstAgainst 3 = .ok (.aload_n 0, 1) := by decide +kernel
theorem dX8_firstAgainst_4 : decode cX8_firstAgainst 4 = .ok (.getfield 37, 3) := by decide +kernel
theorem dX8_firstAgainst_7 : decode cX8_firstAgainst 7 = .ok (.if_icmp .ge 27, 3) := by decide +kernel
theorem dX8_firstAgainst_10 : decode cX8_firstAgainst 10 = .ok (.aload_n 0, 1) := by decide +kernel
theorem dX8_firstAgainst_11 : decode cX8_firstAgainst 11 = .ok (.iload_n 3, 1) := by decide +kernel
theorem dX8_firstAgainst_12 : decode cX8_firstAgainst 12 = .ok (.aload_n 1, 1) := by decide +kernel
theorem dX8_firstAgainst_13 : decode cX8_firstAgainst 13 = .ok (.iload_n 2, 1) := by decide +kernel
theorem dX8_firstAgainst_14 : decode cX8_firstAgainst 14 = .ok (.invokevirtual 58, 3) := by decide +kernel
theorem dX8_firstAgainst_17 : decode cX8_firstAgainst 17 = .ok (.aload_n 0, 1) := by decide +kernel
theorem dX8_firstAgainst_18 : decode cX8_firstAgainst 18 = .ok (.getfield 34, 3) := by decide +kernel
theorem dX8_firstAgainst_21 : decode cX8_firstAgainst 21 = .ok (.iload_n 3, 1) := by decide +kernel
theorem dX8_firstAgainst_22 : decode cX8_firstAgainst 22 = .ok (.iaload, 1) := by decide +kernel
theorem dX8_firstAgainst_23 : decode cX8_firstAgainst 23 = .ok (.if_icmp .eq 5, 3) := by decide +kernel
theorem dX8_firstAgainst_26 : decode cX8_firstAgainst 26 = .ok (.iload_n 3, 1) := by decide +kernel
theorem dX8_firstAgainst_27 : decode cX8_firstAgainst 27 = .ok (.ireturn, 1) := by decide +kernel
theorem dX8_firstAgainst_28 : decode cX8_firstAgainst 28 = .ok (.iinc 3 1, 3) := by decide +kernel
theorem dX8_firstAgainst_31 : decode cX8_firstAgainst 31 = .ok (.goto (-29), 3) := by decide +kernel
theorem dX8_firstAgainst_34 : decode cX8_firstAgainst 34 = .ok (.bipush (-9), 2) := by decide +kernel
theorem dX8_firstAgainst_36 : decode cX8_firstAgainst 36 = .ok (.ireturn, 1) := by decide +kernel
set_option maxRecDepth 20000 in
theorem ggX8_oneMeaning_X8_meaning : GoodIn wsX8_oneMeaning wsX8_meaning := goodIn_r _ [5, 6, 7, 8, 9, 4, 10, 11, 12, 13, 14, 15, 16, 17, 18, 19, 20, 21, 22, 23, 24] (by decide +kernel) (by decide +kernel)
set_option maxRecDepth 20000 in
theorem gX8_oneMeaning_X8_meaning : GoodIn wsX8_oneMeaning (wsV RX8 54 RX8 yX8_meaning wsX8_meaning) := goodIn_app (goodIn_of _ (by decide +kernel)) ggX8_oneMeaning_X8_meaning
theorem dX8_oneMeaning_0 : decode cX8_oneMeaning 0 = .ok (.aload_n 0, 1) := by decide +kernel
theorem dX8_oneMeaning_1 : decode cX8_oneMeaning 1 = .ok (.aload_n 1, 1) := by decide +kernel
theorem dX8_oneMeaning_2 : decode cX8_oneMeaning 2 = .ok (.iload_n 2, 1) := by decide +kernel
theorem dX8_oneMeaning_3 : decode cX8_oneMeaning 3 = .ok (.iconst 0, 1) := by decide +kernel
theorem dX8_oneMeaning_4 : decode cX8_oneMeaning 4 = .ok (.iload_n 3, 1) := by decide +kernel
theorem dX8_oneMeaning_5 : decode cX8_oneMeaning 5 = .ok (.invokevirtual 54, 3) := by decide +kernel
theorem dX8_oneMeaning_8 : decode cX8_oneMeaning 8 = .ok (.istore 4, 2) := by decide +kernel
theorem dX8_oneMeaning_10 : decode cX8_oneMeaning 10 = .ok (.iconst 1, 1) := by decide +kernel
theorem dX8_oneMeaning_11 : decode cX8_oneMeaning 11 = .ok (.istore 5, 2) := by decide +kernel
theorem dX8_oneMeaning_13 : decode cX8_oneMeaning 13 = .ok (.iload 5, 2) := by decide +kernel
theorem dX8_oneMeaning_15 : decode cX8_oneMeaning 15 = .ok (.iload_n 2, 1) := by decide +kernel
theorem dX8_oneMeaning_16 : decode cX8_oneMeaning 16 = .ok (.if_icmp .ge 34, 3) := by decide +kernel
theorem dX8_oneMeaning_19 : decode cX8_oneMeaning 19 = .ok (.iload 4, 2) := by decide +kernel
theorem dX8_oneMeaning_21 : decode cX8_oneMeaning 21 = .ok (.bipush 16, 2) := by decide +kernel
theorem dX8_oneMeaning_23 : decode cX8_oneMeaning 23 = .ok (.if_icmp .eq 27, 3) := by decide +kernel
theorem dX8_oneMeaning_26 : decode cX8_oneMeaning 26 = .ok (.aload_n 0, 1) := by decide +kernel
theorem dX8_oneMeaning_27 : decode cX8_oneMeaning 27 = .ok (.aload_n 1, 1) := by decide +kernel
theorem dX8_oneMeaning_28 : decode cX8_oneMeaning 28 = .ok (.iload_n 2, 1) := by decide +kernel
theorem dX8_oneMeaning_29 : decode cX8_oneMeaning 29 = .ok (.iload 5, 2) := by decide +kernel
theorem dX8_oneMeaning_31 : decode cX8_oneMeaning 31 = .ok (.iload_n 3, 1) := by decide +kernel
theorem dX8_oneMeaning_32 : decode cX8_oneMeaning 32 = .ok (.invokevirtual 54, 3) := by decide +kernel
theorem dX8_oneMeaning_35 : decode cX8_oneMeaning 35 = .ok (.iload 4, 2) := by decide +kernel
theorem dX8_oneMeaning_37 : decode cX8_oneMeaning 37 = .ok (.if_icmp .eq 7, 3) := by decide +kernel
theorem dX8_oneMeaning_40 : decode cX8_oneMeaning 40 = .ok (.bipush 16, 2) := by decide +kernel
theorem dX8_oneMeaning_42 : decode cX8_oneMeaning 42 = .ok (.istore 4, 2) := by decide +kernel
theorem dX8_oneMeaning_44 : decode cX8_oneMeaning 44 = .ok (.iinc 5 1, 3) := by decide +kernel
theorem dX8_oneMeaning_47 : decode cX8_oneMeaning 47 = .ok (.goto (-34), 3) := by decide +kernel
theorem dX8_oneMeaning_50 : decode cX8_oneMeaning 50 = .ok (.iload 4, 2) := by decide +kernel
theorem dX8_oneMeaning_52 : decode cX8_oneMeaning 52 = .ok (.ireturn, 1) := by decide +kernel
set_option maxRecDepth 20000 in
theorem ggX8_meaning_X8_strideOf : GoodIn wsX8_meaning wsX8_strideOf := goodIn_r _ [6] (by decide +kernel) (by decide +kernel)
set_option maxRecDepth 20000 in
theorem gX8_meaning_X8_strideOf : GoodIn wsX8_meaning (va_wsS RX8 62 yX8_strideOf wsX8_strideOf) := goodIn_app (goodIn_of _ (by decide +kernel)) ggX8_meaning_X8_strideOf
set_option maxRecDepth 20000 in
theorem ggX8_meaning_X8_hasWord : GoodIn wsX8_meaning wsX8_hasWord := goodIn_r _ [10, 11, 12, 13, 14, 15, 16, 17, 18, 19, 20] (by decide +kernel) (by decide +kernel)
set_option maxRecDepth 20000 in
theorem gX8_meaning_X8_hasWord : GoodIn wsX8_meaning (wsV RX8 46 RX8 yX8_hasWord wsX8_hasWord) := goodIn_app (goodIn_of _ (by decide +kernel)) ggX8_meaning_X8_hasWord
theorem dX8_meaning_0 : decode cX8_meaning 0 = .ok (.iload_n 2, 1) := by decide +kernel
theorem dX8_meaning_1 : decode cX8_meaning 1 = .ok (.iconst 1, 1) := by decide +kernel
theorem dX8_meaning_2 : decode cX8_meaning 2 = .ok (.if_icmp .lt 18, 3) := by decide +kernel
theorem dX8_meaning_5 : decode cX8_meaning 5 = .ok (.iload_n 2, 1) := by decide +kernel
theorem dX8_meaning_6 : decode cX8_meaning 6 = .ok (.aload_n 1, 1) := by decide +kernel
theorem dX8_meaning_7 : decode cX8_meaning 7 = .ok (.arraylength, 1) := by decide +kernel
theorem dX8_meaning_8 : decode cX8_meaning 8 = .ok (.if_icmp .gt 12, 3) := by decide +kernel
theorem dX8_meaning_11 : decode cX8_meaning 11 = .ok (.iload_n 3, 1) := by decide +kernel
theorem dX8_meaning_12 : decode cX8_meaning 12 = .ok (.ifCond .lt 8, 3) := by decide +kernel
theorem dX8_meaning_15 : decode cX8_meaning 15 = .ok (.iload_n 3, 1) := by decide +kernel
theorem dX8_meaning_16 : decode cX8_meaning 16 = .ok (.iload_n 2, 1) := by decide +kernel
theorem dX8_meaning_17 : decode cX8_meaning 17 = .ok (.if_icmp .lt 6, 3) := by decide +kernel
theorem dX8_meaning_20 : decode cX8_meaning 20 = .ok (.bipush 16, 2) := by decide +kernel
theorem dX8_meaning_22 : decode cX8_meaning 22 = .ok (.ireturn, 1) := by decide +kernel
theorem dX8_meaning_23 : decode cX8_meaning 23 = .ok (.iload 4, 2) := by decide +kernel
theorem dX8_meaning_25 : decode cX8_meaning 25 = .ok (.iload_n 2, 1) := by decide +kernel
theorem dX8_meaning_26 : decode cX8_meaning 26 = .ok (.invokestatic 62, 3) := by decide +kernel
theorem dX8_meaning_29 : decode cX8_meaning 29 = .ok (.istore 5, 2) := by decide +kernel
theorem dX8_meaning_31 : decode cX8_meaning 31 = .ok (.iload_n 3, 1) := by decide +kernel
theorem dX8_meaning_32 : decode cX8_meaning 32 = .ok (.istore 6, 2) := by decide +kernel
theorem dX8_meaning_34 : decode cX8_meaning 34 = .ok (.iconst 0, 1) := by decide +kernel
theorem dX8_meaning_35 : decode cX8_meaning 35 = .ok (.istore 7, 2) := by decide +kernel
theorem dX8_meaning_37 : decode cX8_meaning 37 = .ok (.iconst 0, 1) := by decide +kernel
theorem dX8_meaning_38 : decode cX8_meaning 38 = .ok (.istore 8, 2) := by decide +kernel
theorem dX8_meaning_40 : decode cX8_meaning 40 = .ok (.iconst 0, 1) := by decide +kernel
theorem dX8_meaning_41 : decode cX8_meaning 41 = .ok (.istore 9, 2) := by decide +kernel
theorem dX8_meaning_43 : decode cX8_meaning 43 = .ok (.iconst 0, 1) := by decide +kernel
theorem dX8_meaning_44 : decode cX8_meaning 44 = .ok (.istore 10, 2) := by decide +kernel
theorem dX8_meaning_46 : decode cX8_meaning 46 = .ok (.iconst 0, 1) := by decide +kernel
theorem dX8_meaning_47 : decode cX8_meaning 47 = .ok (.istore 11, 2) := by decide +kernel
theorem dX8_meaning_49 : decode cX8_meaning 49 = .ok (.iload 4, 2) := by decide +kernel
theorem dX8_meaning_51 : decode cX8_meaning 51 = .ok (.iconst 4, 1) := by decide +kernel
theorem dX8_meaning_52 : decode cX8_meaning 52 = .ok (.if_icmp .ne 11, 3) := by decide +kernel
theorem dX8_meaning_55 : decode cX8_meaning 55 = .ok (.iload_n 2, 1) := by decide +kernel
theorem dX8_meaning_56 : decode cX8_meaning 56 = .ok (.iconst 1, 1) := by decide +kernel
theorem dX8_meaning_57 : decode cX8_meaning 57 = .ok (.iadd, 1) := by decide +kernel
theorem dX8_meaning_58 : decode cX8_meaning 58 = .ok (.iconst 2, 1) := by decide +kernel
theorem dX8_meaning_59 : decode cX8_meaning 59 = .ok (.idiv, 1) := by decide +kernel
theorem dX8_meaning_60 : decode cX8_meaning 60 = .ok (.goto 4, 3) := by decide +kernel
theorem dX8_meaning_63 : decode cX8_meaning 63 = .ok (.iload_n 2, 1) := by decide +kernel
theorem dX8_meaning_64 : decode cX8_meaning 64 = .ok (.istore 12, 2) := by decide +kernel
theorem dX8_meaning_66 : decode cX8_meaning 66 = .ok (.iload 12, 2) := by decide +kernel
theorem dX8_meaning_68 : decode cX8_meaning 68 = .ok (.ifCond .le 186, 3) := by decide +kernel
theorem dX8_meaning_71 : decode cX8_meaning 71 = .ok (.aload_n 1, 1) := by decide +kernel
theorem dX8_meaning_72 : decode cX8_meaning 72 = .ok (.iload 6, 2) := by decide +kernel
theorem dX8_meaning_74 : decode cX8_meaning 74 = .ok (.iaload, 1) := by decide +kernel
theorem dX8_meaning_75 : decode cX8_meaning 75 = .ok (.istore 13, 2) := by decide +kernel
theorem dX8_meaning_77 : decode cX8_meaning 77 = .ok (.iload 6, 2) := by decide +kernel
theorem dX8_meaning_79 : decode cX8_meaning 79 = .ok (.iload 5, 2) := by decide +kernel
theorem dX8_meaning_81 : decode cX8_meaning 81 = .ok (.iadd, 1) := by decide +kernel
theorem dX8_meaning_82 : decode cX8_meaning 82 = .ok (.istore 6, 2) := by decide +kernel
theorem dX8_meaning_84 : decode cX8_meaning 84 = .ok (.iload 6, 2) := by decide +kernel
theorem dX8_meaning_86 : decode cX8_meaning 86 = .ok (.iload_n 2, 1) := by decide +kernel
theorem dX8_meaning_87 : decode cX8_meaning 87 = .ok (.if_icmp .lt 9, 3) := by decide +kernel
theorem dX8_meaning_90 : decode cX8_meaning 90 = .ok (.iload 6, 2) := by decide +kernel
theorem dX8_meaning_92 : decode cX8_meaning 92 = .ok (.iload_n 2, 1) := by decide +kernel
theorem dX8_meaning_93 : decode cX8_meaning 93 = .ok (.isub, 1) := by decide +kernel
theorem dX8_meaning_94 : decode cX8_meaning 94 = .ok (.istore 6, 2) := by decide +kernel
theorem dX8_meaning_96 : decode cX8_meaning 96 = .ok (.aload_n 0, 1) := by decide +kernel
theorem dX8_meaning_97 : decode cX8_meaning 97 = .ok (.iload 13, 2) := by decide +kernel
theorem dX8_meaning_99 : decode cX8_meaning 99 = .ok (.invokevirtual 46, 3) := by decide +kernel
theorem dX8_meaning_102 : decode cX8_meaning 102 = .ok (.ifCond .eq 13, 3) := by decide +kernel
theorem dX8_meaning_105 : decode cX8_meaning 105 = .ok (.aload_n 0, 1) := by decide +kernel
theorem dX8_meaning_106 : decode cX8_meaning 106 = .ok (.getfield 9, 3) := by decide +kernel
theorem dX8_meaning_109 : decode cX8_meaning 109 = .ok (.iload 13, 2) := by decide +kernel
theorem dX8_meaning_111 : decode cX8_meaning 111 = .ok (.iaload, 1) := by decide +kernel
theorem dX8_meaning_112 : decode cX8_meaning 112 = .ok (.goto 4, 3) := by decide +kernel
theorem dX8_meaning_115 : decode cX8_meaning 115 = .ok (.iconst 4, 1) := by decide +kernel
theorem dX8_meaning_116 : decode cX8_meaning 116 = .ok (.istore 14, 2) := by decide +kernel
theorem dX8_meaning_118 : decode cX8_meaning 118 = .ok (.iload 14, 2) := by decide +kernel
theorem dX8_meaning_120 : decode cX8_meaning 120 = .ok (.iconst 4, 1) := by decide +kernel
theorem dX8_meaning_121 : decode cX8_meaning 121 = .ok (.if_icmp .ne 23, 3) := by decide +kernel
theorem dX8_meaning_124 : decode cX8_meaning 124 = .ok (.iload 4, 2) := by decide +kernel
theorem dX8_meaning_126 : decode cX8_meaning 126 = .ok (.iconst 2, 1) := by decide +kernel
theorem dX8_meaning_127 : decode cX8_meaning 127 = .ok (.if_icmp .ne 121, 3) := by decide +kernel
theorem dX8_meaning_130 : decode cX8_meaning 130 = .ok (.iload 9, 2) := by decide +kernel
theorem dX8_meaning_132 : decode cX8_meaning 132 = .ok (.ifCond .eq 116, 3) := by decide +kernel
theorem dX8_meaning_135 : decode cX8_meaning 135 = .ok (.iload 13, 2) := by decide +kernel
theorem dX8_meaning_137 : decode cX8_meaning 137 = .ok (.iconst (-1), 1) := by decide +kernel
theorem dX8_meaning_138 : decode cX8_meaning 138 = .ok (.if_icmp .eq 110, 3) := by decide +kernel
theorem dX8_meaning_141 : decode cX8_meaning 141 = .ok (.goto 113, 3) := by decide +kernel
theorem dX8_meaning_144 : decode cX8_meaning 144 = .ok (.iload 14, 2) := by decide +kernel
theorem dX8_meaning_146 : decode cX8_meaning 146 = .ok (.iconst 2, 1) := by decide +kernel
theorem dX8_meaning_147 : decode cX8_meaning 147 = .ok (.if_icmp .eq 9, 3) := by decide +kernel
theorem dX8_meaning_150 : decode cX8_meaning 150 = .ok (.iload 14, 2) := by decide +kernel
theorem dX8_meaning_152 : decode cX8_meaning 152 = .ok (.iconst 3, 1) := by decide +kernel
theorem dX8_meaning_153 : decode cX8_meaning 153 = .ok (.if_icmp .ne 30, 3) := by decide +kernel
theorem dX8_meaning_156 : decode cX8_meaning 156 = .ok (.iload 10, 2) := by decide +kernel
theorem dX8_meaning_158 : decode cX8_meaning 158 = .ok (.ifCond .ne 6, 3) := by decide +kernel
theorem dX8_meaning_161 : decode cX8_meaning 161 = .ok (.bipush 16, 2) := by decide +kernel
theorem dX8_meaning_163 : decode cX8_meaning 163 = .ok (.ireturn, 1) := by decide +kernel
theorem dX8_meaning_164 : decode cX8_meaning 164 = .ok (.iconst 0, 1) := by decide +kernel
theorem dX8_meaning_165 : decode cX8_meaning 165 = .ok (.istore 10, 2) := by decide +kernel
theorem dX8_meaning_167 : decode cX8_meaning 167 = .ok (.iload 14, 2) := by decide +kernel
theorem dX8_meaning_169 : decode cX8_meaning 169 = .ok (.iconst 2, 1) := by decide +kernel
theorem dX8_meaning_170 : decode cX8_meaning 170 = .ok (.if_icmp .ne 7, 3) := by decide +kernel
theorem dX8_meaning_173 : decode cX8_meaning 173 = .ok (.iconst 1, 1) := by decide +kernel
theorem dX8_meaning_174 : decode cX8_meaning 174 = .ok (.goto 4, 3) := by decide +kernel
theorem dX8_meaning_177 : decode cX8_meaning 177 = .ok (.iconst 0, 1) := by decide +kernel
theorem dX8_meaning_178 : decode cX8_meaning 178 = .ok (.istore 8, 2) := by decide +kernel
theorem dX8_meaning_180 : decode cX8_meaning 180 = .ok (.goto 68, 3) := by decide +kernel
theorem dX8_meaning_183 : decode cX8_meaning 183 = .ok (.iload 10, 2) := by decide +kernel
theorem dX8_meaning_185 : decode cX8_meaning 185 = .ok (.ifCond .eq 6, 3) := by decide +kernel
theorem dX8_meaning_188 : decode cX8_meaning 188 = .ok (.bipush 16, 2) := by decide +kernel
theorem dX8_meaning_190 : decode cX8_meaning 190 = .ok (.ireturn, 1) := by decide +kernel
theorem dX8_meaning_191 : decode cX8_meaning 191 = .ok (.iload 14, 2) := by decide +kernel
theorem dX8_meaning_193 : decode cX8_meaning 193 = .ok (.iconst 1, 1) := by decide +kernel
theorem dX8_meaning_194 : decode cX8_meaning 194 = .ok (.if_icmp .ne 13, 3) := by decide +kernel
theorem dX8_meaning_197 : decode cX8_meaning 197 = .ok (.iload 11, 2) := by decide +kernel
theorem dX8_meaning_199 : decode cX8_meaning 199 = .ok (.bipush 15, 2) := by decide +kernel
theorem dX8_meaning_201 : decode cX8_meaning 201 = .ok (.ixor, 1) := by decide +kernel
theorem dX8_meaning_202 : decode cX8_meaning 202 = .ok (.istore 11, 2) := by decide +kernel
theorem dX8_meaning_204 : decode cX8_meaning 204 = .ok (.goto 44, 3) := by decide +kernel
theorem dX8_meaning_207 : decode cX8_meaning 207 = .ok (.aload_n 0, 1) := by decide +kernel
theorem dX8_meaning_208 : decode cX8_meaning 208 = .ok (.getfield 15, 3) := by decide +kernel
theorem dX8_meaning_211 : decode cX8_meaning 211 = .ok (.iload 13, 2) := by decide +kernel
theorem dX8_meaning_213 : decode cX8_meaning 213 = .ok (.iaload, 1) := by decide +kernel
theorem dX8_meaning_214 : decode cX8_meaning 214 = .ok (.iload 11, 2) := by decide +kernel
theorem dX8_meaning_216 : decode cX8_meaning 216 = .ok (.ixor, 1) := by decide +kernel
theorem dX8_meaning_217 : decode cX8_meaning 217 = .ok (.istore 15, 2) := by decide +kernel
theorem dX8_meaning_219 : decode cX8_meaning 219 = .ok (.iload 8, 2) := by decide +kernel
theorem dX8_meaning_221 : decode cX8_meaning 221 = .ok (.ifCond .eq 11, 3) := by decide +kernel
theorem dX8_meaning_224 : decode cX8_meaning 224 = .ok (.iload 7, 2) := by decide +kernel
theorem dX8_meaning_226 : decode cX8_meaning 226 = .ok (.iload 15, 2) := by decide +kernel
theorem dX8_meaning_228 : decode cX8_meaning 228 = .ok (.iand, 1) := by decide +kernel
theorem dX8_meaning_229 : decode cX8_meaning 229 = .ok (.goto 8, 3) := by decide +kernel
theorem dX8_meaning_232 : decode cX8_meaning 232 = .ok (.iload 7, 2) := by decide +kernel
theorem dX8_meaning_234 : decode cX8_meaning 234 = .ok (.iload 15, 2) := by decide +kernel
theorem dX8_meaning_236 : decode cX8_meaning 236 = .ok (.ior, 1) := by decide +kernel
theorem dX8_meaning_237 : decode cX8_meaning 237 = .ok (.istore 7, 2) := by decide +kernel
theorem dX8_meaning_239 : decode cX8_meaning 239 = .ok (.iconst 0, 1) := by decide +kernel
theorem dX8_meaning_240 : decode cX8_meaning 240 = .ok (.istore 11, 2) := by decide +kernel
theorem dX8_meaning_242 : decode cX8_meaning 242 = .ok (.iconst 1, 1) := by decide +kernel
theorem dX8_meaning_243 : decode cX8_meaning 243 = .ok (.istore 9, 2) := by decide +kernel
theorem dX8_meaning_245 : decode cX8_meaning 245 = .ok (.iconst 1, 1) := by decide +kernel
theorem dX8_meaning_246 : decode cX8_meaning 246 = .ok (.istore 10, 2) := by decide +kernel
theorem dX8_meaning_248 : decode cX8_meaning 248 = .ok (.iinc 12 (-1), 3) := by decide +kernel
theorem dX8_meaning_251 : decode cX8_meaning 251 = .ok (.goto (-185), 3) := by decide +kernel
theorem dX8_meaning_254 : decode cX8_meaning 254 = .ok (.iload 10, 2) := by decide +kernel
theorem dX8_meaning_256 : decode cX8_meaning 256 = .ok (.ifCond .eq 8, 3) := by decide +kernel
theorem dX8_meaning_259 : decode cX8_meaning 259 = .ok (.iload 7, 2) := by decide +kernel
theorem dX8_meaning_261 : decode cX8_meaning 261 = .ok (.goto 5, 3) := by decide +kernel
theorem dX8_meaning_264 : decode cX8_meaning 264 = .ok (.bipush 16, 2) := by decide +kernel
theorem dX8_meaning_266 : decode cX8_meaning 266 = .ok (.ireturn, 1) := by decide +kernel
theorem dX8_strideOf_0 : decode cX8_strideOf 0 = .ok (.iload_n 0, 1) := by decide +kernel
theorem dX8_strideOf_1 : decode cX8_strideOf 1 = .ok (.iconst 1, 1) := by decide +kernel
theorem dX8_strideOf_2 : decode cX8_strideOf 2 = .ok (.if_icmp .ne 7, 3) := by decide +kernel
theorem dX8_strideOf_5 : decode cX8_strideOf 5 = .ok (.iload_n 1, 1) := by decide +kernel
theorem dX8_strideOf_6 : decode cX8_strideOf 6 = .ok (.iconst 1, 1) := by decide +kernel
theorem dX8_strideOf_7 : decode cX8_strideOf 7 = .ok (.isub, 1) := by decide +kernel
theorem dX8_strideOf_8 : decode cX8_strideOf 8 = .ok (.ireturn, 1) := by decide +kernel
theorem dX8_strideOf_9 : decode cX8_strideOf 9 = .ok (.iload_n 0, 1) := by decide +kernel
theorem dX8_strideOf_10 : decode cX8_strideOf 10 = .ok (.iconst 3, 1) := by decide +kernel
theorem dX8_strideOf_11 : decode cX8_strideOf 11 = .ok (.if_icmp .ne 16, 3) := by decide +kernel
theorem dX8_strideOf_14 : decode cX8_strideOf 14 = .ok (.iload_n 1, 1) := by decide +kernel
theorem dX8_strideOf_15 : decode cX8_strideOf 15 = .ok (.iconst 1, 1) := by decide +kernel
theorem dX8_strideOf_16 : decode cX8_strideOf 16 = .ok (.if_icmp .ge 7, 3) := by decide +kernel
theorem dX8_strideOf_19 : decode cX8_strideOf 19 = .ok (.iconst 0, 1) := by decide +kernel
theorem dX8_strideOf_20 : decode cX8_strideOf 20 = .ok (.goto 6, 3) := by decide +kernel
theorem dX8_strideOf_23 : decode cX8_strideOf 23 = .ok (.iconst 2, 1) := by decide +kernel
theorem dX8_strideOf_24 : decode cX8_strideOf 24 = .ok (.iload_n 1, 1) := by decide +kernel
theorem dX8_strideOf_25 : decode cX8_strideOf 25 = .ok (.irem, 1) := by decide +kernel
theorem dX8_strideOf_26 : decode cX8_strideOf 26 = .ok (.ireturn, 1) := by decide +kernel
theorem dX8_strideOf_27 : decode cX8_strideOf 27 = .ok (.iconst 1, 1) := by decide +kernel
theorem dX8_strideOf_28 : decode cX8_strideOf 28 = .ok (.ireturn, 1) := by decide +kernel
set_option maxRecDepth 20000 in
theorem ggX9_init_X8_init : GoodIn wsX9_init wsX8_init := goodIn_r _ [18, 19, 2, 3, 20, 21, 22, 23, 24, 25, 26, 27, 28, 29, 43, 44, 45, 46, 47, 48, 49, 50, 51] (by decide +kernel) (by decide +kernel)
set_option maxRecDepth 20000 in
theorem gX9_init_X8_init : GoodIn wsX9_init (wsX8_init) := ggX9_init_X8_init
set_option maxRecDepth 20000 in
theorem ggX9_init_X4_init : GoodIn wsX9_init wsX4_init := goodIn_r _ [32, 33, 2, 3, 20, 34, 35, 55, 56] (by decide +kernel) (by decide +kernel)
set_option maxRecDepth 20000 in
theorem gX9_init_X4_init : GoodIn wsX9_init (wsX4_init) := ggX9_init_X4_init
set_option maxRecDepth 20000 in
theorem ggX9_init_X3_init : GoodIn wsX9_init wsX3_init := goodIn_r _ [38, 39, 2, 3, 20, 40, 41, 42, 57, 58, 59] (by decide +kernel) (by decide +kernel)
set_option maxRecDepth 20000 in
theorem gX9_init_X3_init : GoodIn wsX9_init (wsX3_init) := ggX9_init_X3_init
theorem dX9_init_0 : decode cX9_init 0 = .ok (.aload_n 0, 1) := by decide +kernel
theorem dX9_init_1 : decode cX9_init 1 = .ok (.invokespecial 1, 3) := by decide +kernel
theorem dX9_init_4 : decode cX9_init 4 = .ok (.aload_n 0, 1) := by decide +kernel
theorem dX9_init_5 : decode cX9_init 5 = .ok (.new 7, 3) := by decide +kernel
theorem dX9_init_8 : decode cX9_init 8 = .ok (.dup, 1) := by decide +kernel
theorem dX9_init_9 : decode cX9_init 9 = .ok (.invokespecial 9, 3) := by decide +kernel
theorem dX9_init_12 : decode cX9_init 12 = .ok (.putfield 10, 3) := by decide +kernel
theorem dX9_init_15 : decode cX9_init 15 = .ok (.aload_n 0, 1) := by decide +kernel
theorem dX9_init_16 : decode cX9_init 16 = .ok (.new 16, 3) := by decide +kernel
theorem dX9_init_19 : decode cX9_init 19 = .ok (.dup, 1) := by decide +kernel
