theorem dX11_roadsReadAsNow_1 : decode cX11_roadsReadAsNow 1 = .ok (.istore_n 3, 1) := by decide +kernel
theorem dX11_roadsReadAsNow_2 : decode cX11_roadsReadAsNow 2 = .ok (.iload_n 3, 1) := by decide +kernel
theorem dX11_roadsReadAsNow_3 : decode cX11_roadsReadAsNow 3 = .ok (.aload_n 0, 1) := by decide +kernel
theorem dX11_roadsReadAsNow_4 : decode cX11_roadsReadAsNow 4 = .ok (.getfield 19, 3) := by decide +kernel
theorem dX11_roadsReadAsNow_7 : decode cX11_roadsReadAsNow 7 = .ok (.getfield 88, 3) := by decide +kernel
theorem dX11_roadsReadAsNow_10 : decode cX11_roadsReadAsNow 10 = .ok (.getfield 275, 3) := by decide +kernel
theorem dX11_roadsReadAsNow_13 : decode cX11_roadsReadAsNow 13 = .ok (.if_icmp .ge 62, 3) := by decide +kernel
theorem dX11_roadsReadAsNow_16 : decode cX11_roadsReadAsNow 16 = .ok (.aload_n 0, 1) := by decide +kernel
theorem dX11_roadsReadAsNow_17 : decode cX11_roadsReadAsNow 17 = .ok (.getfield 19, 3) := by decide +kernel
theorem dX11_roadsReadAsNow_20 : decode cX11_roadsReadAsNow 20 = .ok (.getfield 88, 3) := by decide +kernel
theorem dX11_roadsReadAsNow_23 : decode cX11_roadsReadAsNow 23 = .ok (.iload_n 3, 1) := by decide +kernel
theorem dX11_roadsReadAsNow_24 : decode cX11_roadsReadAsNow 24 = .ok (.aload_n 0, 1) := by decide +kernel
theorem dX11_roadsReadAsNow_25 : decode cX11_roadsReadAsNow 25 = .ok (.getfield 19, 3) := by decide +kernel
theorem dX11_roadsReadAsNow_28 : decode cX11_roadsReadAsNow 28 = .ok (.getfield 129, 3) := by decide +kernel
theorem dX11_roadsReadAsNow_31 : decode cX11_roadsReadAsNow 31 = .ok (.getfield 142, 3) := by decide +kernel
theorem dX11_roadsReadAsNow_34 : decode cX11_roadsReadAsNow 34 = .ok (.aload_n 0, 1) := by decide +kernel
theorem dX11_roadsReadAsNow_35 : decode cX11_roadsReadAsNow 35 = .ok (.getfield 19, 3) := by decide +kernel
theorem dX11_roadsReadAsNow_38 : decode cX11_roadsReadAsNow 38 = .ok (.getfield 129, 3) := by decide +kernel
theorem dX11_roadsReadAsNow_41 : decode cX11_roadsReadAsNow 41 = .ok (.getfield 133, 3) := by decide +kernel
theorem dX11_roadsReadAsNow_44 : decode cX11_roadsReadAsNow 44 = .ok (.invokevirtual 145, 3) := by decide +kernel
theorem dX11_roadsReadAsNow_47 : decode cX11_roadsReadAsNow 47 = .ok (.istore 4, 2) := by decide +kernel
theorem dX11_roadsReadAsNow_49 : decode cX11_roadsReadAsNow 49 = .ok (.iload 4, 2) := by decide +kernel
theorem dX11_roadsReadAsNow_51 : decode cX11_roadsReadAsNow 51 = .ok (.aload_n 0, 1) := by decide +kernel
theorem dX11_roadsReadAsNow_52 : decode cX11_roadsReadAsNow 52 = .ok (.getfield 19, 3) := by decide +kernel
theorem dX11_roadsReadAsNow_55 : decode cX11_roadsReadAsNow 55 = .ok (.getfield 88, 3) := by decide +kernel
theorem dX11_roadsReadAsNow_58 : decode cX11_roadsReadAsNow 58 = .ok (.iload_n 3, 1) := by decide +kernel
theorem dX11_roadsReadAsNow_59 : decode cX11_roadsReadAsNow 59 = .ok (.aload_n 1, 1) := by decide +kernel
theorem dX11_roadsReadAsNow_60 : decode cX11_roadsReadAsNow 60 = .ok (.iload_n 2, 1) := by decide +kernel
theorem dX11_roadsReadAsNow_61 : decode cX11_roadsReadAsNow 61 = .ok (.invokevirtual 145, 3) := by decide +kernel
theorem dX11_roadsReadAsNow_64 : decode cX11_roadsReadAsNow 64 = .ok (.if_icmp .eq 5, 3) := by decide +kernel
theorem dX11_roadsReadAsNow_67 : decode cX11_roadsReadAsNow 67 = .ok (.iconst 0, 1) := by decide +kernel
theorem dX11_roadsReadAsNow_68 : decode cX11_roadsReadAsNow 68 = .ok (.ireturn, 1) := by decide +kernel
theorem dX11_roadsReadAsNow_69 : decode cX11_roadsReadAsNow 69 = .ok (.iinc 3 1, 3) := by decide +kernel
theorem dX11_roadsReadAsNow_72 : decode cX11_roadsReadAsNow 72 = .ok (.goto (-70), 3) := by decide +kernel
theorem dX11_roadsReadAsNow_75 : decode cX11_roadsReadAsNow 75 = .ok (.iconst 1, 1) := by decide +kernel
theorem dX11_roadsReadAsNow_76 : decode cX11_roadsReadAsNow 76 = .ok (.ireturn, 1) := by decide +kernel
set_option maxRecDepth 20000 in
theorem ggX11_lacking_J7_fill_53178 : GoodIn wsX11_lacking wsJ7_fill_53178 := goodIn_r _ [8] (by decide +kernel) (by decide +kernel)
set_option maxRecDepth 20000 in
theorem gX11_lacking_J7_fill_53178 : GoodIn wsX11_lacking (va_wsS RX11 286 yJ7_fill_53178 wsJ7_fill_53178) := goodIn_app (goodIn_of _ (by decide +kernel)) ggX11_lacking_J7_fill_53178
set_option maxRecDepth 20000 in
theorem ggX11_lacking_X8_hasWord : GoodIn wsX11_lacking wsX8_hasWord := goodIn_r _ [13, 14, 30, 31, 32, 33, 34, 35, 36, 37, 38] (by decide +kernel) (by decide +kernel)
set_option maxRecDepth 20000 in
theorem gX11_lacking_X8_hasWord : GoodIn wsX11_lacking (wsV RX11 99 RX8 yX8_hasWord wsX8_hasWord) := goodIn_app (goodIn_of _ (by decide +kernel)) ggX11_lacking_X8_hasWord
theorem dX11_lacking_0 : decode cX11_lacking 0 = .ok (.aload_n 0, 1) := by decide +kernel
theorem dX11_lacking_1 : decode cX11_lacking 1 = .ok (.getfield 71, 3) := by decide +kernel
theorem dX11_lacking_4 : decode cX11_lacking 4 = .ok (.iconst 0, 1) := by decide +kernel
theorem dX11_lacking_5 : decode cX11_lacking 5 = .ok (.invokestatic 286, 3) := by decide +kernel
theorem dX11_lacking_8 : decode cX11_lacking 8 = .ok (.iconst 0, 1) := by decide +kernel
theorem dX11_lacking_9 : decode cX11_lacking 9 = .ok (.istore_n 3, 1) := by decide +kernel
theorem dX11_lacking_10 : decode cX11_lacking 10 = .ok (.iconst 0, 1) := by decide +kernel
theorem dX11_lacking_11 : decode cX11_lacking 11 = .ok (.istore 4, 2) := by decide +kernel
theorem dX11_lacking_13 : decode cX11_lacking 13 = .ok (.iload 4, 2) := by decide +kernel
theorem dX11_lacking_15 : decode cX11_lacking 15 = .ok (.iload_n 2, 1) := by decide +kernel
theorem dX11_lacking_16 : decode cX11_lacking 16 = .ok (.if_icmp .ge 71, 3) := by decide +kernel
theorem dX11_lacking_19 : decode cX11_lacking 19 = .ok (.aload_n 1, 1) := by decide +kernel
theorem dX11_lacking_20 : decode cX11_lacking 20 = .ok (.iload 4, 2) := by decide +kernel
theorem dX11_lacking_22 : decode cX11_lacking 22 = .ok (.iaload, 1) := by decide +kernel
theorem dX11_lacking_23 : decode cX11_lacking 23 = .ok (.istore 5, 2) := by decide +kernel
theorem dX11_lacking_25 : decode cX11_lacking 25 = .ok (.aload_n 0, 1) := by decide +kernel
theorem dX11_lacking_26 : decode cX11_lacking 26 = .ok (.getfield 19, 3) := by decide +kernel
theorem dX11_lacking_29 : decode cX11_lacking 29 = .ok (.getfield 88, 3) := by decide +kernel
theorem dX11_lacking_32 : decode cX11_lacking 32 = .ok (.iload 5, 2) := by decide +kernel
theorem dX11_lacking_34 : decode cX11_lacking 34 = .ok (.invokevirtual 99, 3) := by decide +kernel
theorem dX11_lacking_37 : decode cX11_lacking 37 = .ok (.ifCond .eq 44, 3) := by decide +kernel
theorem dX11_lacking_40 : decode cX11_lacking 40 = .ok (.aload_n 0, 1) := by decide +kernel
theorem dX11_lacking_41 : decode cX11_lacking 41 = .ok (.getfield 71, 3) := by decide +kernel
theorem dX11_lacking_44 : decode cX11_lacking 44 = .ok (.iload 5, 2) := by decide +kernel
theorem dX11_lacking_46 : decode cX11_lacking 46 = .ok (.dup2, 1) := by decide +kernel
theorem dX11_lacking_47 : decode cX11_lacking 47 = .ok (.iaload, 1) := by decide +kernel
theorem dX11_lacking_48 : decode cX11_lacking 48 = .ok (.iconst 1, 1) := by decide +kernel
theorem dX11_lacking_49 : decode cX11_lacking 49 = .ok (.iadd, 1) := by decide +kernel
theorem dX11_lacking_50 : decode cX11_lacking 50 = .ok (.iastore, 1) := by decide +kernel
theorem dX11_lacking_51 : decode cX11_lacking 51 = .ok (.aload_n 0, 1) := by decide +kernel
theorem dX11_lacking_52 : decode cX11_lacking 52 = .ok (.getfield 71, 3) := by decide +kernel
theorem dX11_lacking_55 : decode cX11_lacking 55 = .ok (.iload 5, 2) := by decide +kernel
theorem dX11_lacking_57 : decode cX11_lacking 57 = .ok (.iaload, 1) := by decide +kernel
theorem dX11_lacking_58 : decode cX11_lacking 58 = .ok (.aload_n 0, 1) := by decide +kernel
theorem dX11_lacking_59 : decode cX11_lacking 59 = .ok (.getfield 19, 3) := by decide +kernel
theorem dX11_lacking_62 : decode cX11_lacking 62 = .ok (.getfield 88, 3) := by decide +kernel
theorem dX11_lacking_65 : decode cX11_lacking 65 = .ok (.getfield 114, 3) := by decide +kernel
theorem dX11_lacking_68 : decode cX11_lacking 68 = .ok (.iload 5, 2) := by decide +kernel
theorem dX11_lacking_70 : decode cX11_lacking 70 = .ok (.iaload, 1) := by decide +kernel
theorem dX11_lacking_71 : decode cX11_lacking 71 = .ok (.if_icmp .le 10, 3) := by decide +kernel
theorem dX11_lacking_74 : decode cX11_lacking 74 = .ok (.iload_n 3, 1) := by decide +kernel
theorem dX11_lacking_75 : decode cX11_lacking 75 = .ok (.iconst 1, 1) := by decide +kernel
theorem dX11_lacking_76 : decode cX11_lacking 76 = .ok (.iload 5, 2) := by decide +kernel
theorem dX11_lacking_78 : decode cX11_lacking 78 = .ok (.ishl, 1) := by decide +kernel
theorem dX11_lacking_79 : decode cX11_lacking 79 = .ok (.ior, 1) := by decide +kernel
theorem dX11_lacking_80 : decode cX11_lacking 80 = .ok (.istore_n 3, 1) := by decide +kernel
theorem dX11_lacking_81 : decode cX11_lacking 81 = .ok (.iinc 4 1, 3) := by decide +kernel
theorem dX11_lacking_84 : decode cX11_lacking 84 = .ok (.goto (-71), 3) := by decide +kernel
theorem dX11_lacking_87 : decode cX11_lacking 87 = .ok (.iload_n 3, 1) := by decide +kernel
theorem dX11_lacking_88 : decode cX11_lacking 88 = .ok (.ireturn, 1) := by decide +kernel
theorem dX12_init_0 : decode cX12_init 0 = .ok (.aload_n 0, 1) := by decide +kernel
theorem dX12_init_1 : decode cX12_init 1 = .ok (.invokespecial 1, 3) := by decide +kernel
theorem dX12_init_4 : decode cX12_init 4 = .ok (.aload_n 0, 1) := by decide +kernel
theorem dX12_init_5 : decode cX12_init 5 = .ok (.bipush 7, 2) := by decide +kernel
theorem dX12_init_7 : decode cX12_init 7 = .ok (.newarray .int, 2) := by decide +kernel
theorem dX12_init_9 : decode cX12_init 9 = .ok (.putfield 7, 3) := by decide +kernel
theorem dX12_init_12 : decode cX12_init 12 = .ok (.aload_n 0, 1) := by decide +kernel
theorem dX12_init_13 : decode cX12_init 13 = .ok (.bipush 6, 2) := by decide +kernel
theorem dX12_init_15 : decode cX12_init 15 = .ok (.newarray .int, 2) := by decide +kernel
theorem dX12_init_17 : decode cX12_init 17 = .ok (.putfield 13, 3) := by decide +kernel
theorem dX12_init_20 : decode cX12_init 20 = .ok (.aload_n 0, 1) := by decide +kernel
theorem dX12_init_21 : decode cX12_init 21 = .ok (.bipush 6, 2) := by decide +kernel
theorem dX12_init_23 : decode cX12_init 23 = .ok (.newarray .int, 2) := by decide +kernel
theorem dX12_init_25 : decode cX12_init 25 = .ok (.putfield 16, 3) := by decide +kernel
theorem dX12_init_28 : decode cX12_init 28 = .ok (.aload_n 0, 1) := by decide +kernel
theorem dX12_init_29 : decode cX12_init 29 = .ok (.bipush 6, 2) := by decide +kernel
theorem dX12_init_31 : decode cX12_init 31 = .ok (.newarray .int, 2) := by decide +kernel
theorem dX12_init_33 : decode cX12_init 33 = .ok (.putfield 19, 3) := by decide +kernel
theorem dX12_init_36 : decode cX12_init 36 = .ok (.aload_n 0, 1) := by decide +kernel
theorem dX12_init_37 : decode cX12_init 37 = .ok (.bipush 6, 2) := by decide +kernel
theorem dX12_init_39 : decode cX12_init 39 = .ok (.newarray .int, 2) := by decide +kernel
theorem dX12_init_41 : decode cX12_init 41 = .ok (.putfield 22, 3) := by decide +kernel
theorem dX12_init_44 : decode cX12_init 44 = .ok (.aload_n 0, 1) := by decide +kernel
theorem dX12_init_45 : decode cX12_init 45 = .ok (.bipush 6, 2) := by decide +kernel
theorem dX12_init_47 : decode cX12_init 47 = .ok (.newarray .int, 2) := by decide +kernel
theorem dX12_init_49 : decode cX12_init 49 = .ok (.putfield 25, 3) := by decide +kernel
theorem dX12_init_52 : decode cX12_init 52 = .ok (.aload_n 0, 1) := by decide +kernel
theorem dX12_init_53 : decode cX12_init 53 = .ok (.bipush 6, 2) := by decide +kernel
theorem dX12_init_55 : decode cX12_init 55 = .ok (.newarray .int, 2) := by decide +kernel
theorem dX12_init_57 : decode cX12_init 57 = .ok (.putfield 28, 3) := by decide +kernel
theorem dX12_init_60 : decode cX12_init 60 = .ok (.aload_n 0, 1) := by decide +kernel
theorem dX12_init_61 : decode cX12_init 61 = .ok (.bipush 6, 2) := by decide +kernel
theorem dX12_init_63 : decode cX12_init 63 = .ok (.newarray .int, 2) := by decide +kernel
theorem dX12_init_65 : decode cX12_init 65 = .ok (.putfield 31, 3) := by decide +kernel
theorem dX12_init_68 : decode cX12_init 68 = .ok (.aload_n 0, 1) := by decide +kernel
theorem dX12_init_69 : decode cX12_init 69 = .ok (.bipush 12, 2) := by decide +kernel
theorem dX12_init_71 : decode cX12_init 71 = .ok (.newarray .int, 2) := by decide +kernel
theorem dX12_init_73 : decode cX12_init 73 = .ok (.putfield 34, 3) := by decide +kernel
theorem dX12_init_76 : decode cX12_init 76 = .ok (.aload_n 0, 1) := by decide +kernel
theorem dX12_init_77 : decode cX12_init 77 = .ok (.bipush 12, 2) := by decide +kernel
theorem dX12_init_79 : decode cX12_init 79 = .ok (.newarray .int, 2) := by decide +kernel
theorem dX12_init_81 : decode cX12_init 81 = .ok (.putfield 37, 3) := by decide +kernel
theorem dX12_init_84 : decode cX12_init 84 = .ok (.aload_n 0, 1) := by decide +kernel
theorem dX12_init_85 : decode cX12_init 85 = .ok (.bipush 12, 2) := by decide +kernel
theorem dX12_init_87 : decode cX12_init 87 = .ok (.newarray .int, 2) := by decide +kernel
theorem dX12_init_89 : decode cX12_init 89 = .ok (.putfield 40, 3) := by decide +kernel
theorem dX12_init_92 : decode cX12_init 92 = .ok (.aload_n 0, 1) := by decide +kernel
theorem dX12_init_93 : decode cX12_init 93 = .ok (.bipush 90, 2) := by decide +kernel
theorem dX12_init_95 : decode cX12_init 95 = .ok (.newarray .int, 2) := by decide +kernel
theorem dX12_init_97 : decode cX12_init 97 = .ok (.putfield 43, 3) := by decide +kernel
theorem dX12_init_100 : decode cX12_init 100 = .ok (.aload_n 0, 1) := by decide +kernel
theorem dX12_init_101 : decode cX12_init 101 = .ok (.bipush 64, 2) := by decide +kernel
theorem dX12_init_103 : decode cX12_init 103 = .ok (.newarray .int, 2) := by decide +kernel
theorem dX12_init_105 : decode cX12_init 105 = .ok (.putfield 46, 3) := by decide +kernel
theorem dX12_init_108 : decode cX12_init 108 = .ok (.aload_n 0, 1) := by decide +kernel
theorem dX12_init_109 : decode cX12_init 109 = .ok (.bipush 7, 2) := by decide +kernel
theorem dX12_init_111 : decode cX12_init 111 = .ok (.newarray .char, 2) := by decide +kernel
theorem dX12_init_113 : decode cX12_init 113 = .ok (.dup, 1) := by decide +kernel
theorem dX12_init_114 : decode cX12_init 114 = .ok (.iconst 0, 1) := by decide +kernel
theorem dX12_init_115 : decode cX12_init 115 = .ok (.bipush 118, 2) := by decide +kernel
theorem dX12_init_117 : decode cX12_init 117 = .ok (.castore, 1) := by decide +kernel
theorem dX12_init_118 : decode cX12_init 118 = .ok (.dup, 1) := by decide +kernel
theorem dX12_init_119 : decode cX12_init 119 = .ok (.iconst 1, 1) := by decide +kernel
theorem dX12_init_120 : decode cX12_init 120 = .ok (.bipush 110, 2) := by decide +kernel
theorem dX12_init_122 : decode cX12_init 122 = .ok (.castore, 1) := by decide +kernel
theorem dX12_init_123 : decode cX12_init 123 = .ok (.dup, 1) := by decide +kernel
theorem dX12_init_124 : decode cX12_init 124 = .ok (.iconst 2, 1) := by decide +kernel
theorem dX12_init_125 : decode cX12_init 125 = .ok (.bipush 97, 2) := by decide +kernel
theorem dX12_init_127 : decode cX12_init 127 = .ok (.castore, 1) := by decide +kernel
theorem dX12_init_128 : decode cX12_init 128 = .ok (.dup, 1) := by decide +kernel
theorem dX12_init_129 : decode cX12_init 129 = .ok (.iconst 3, 1) := by decide +kernel
theorem dX12_init_130 : decode cX12_init 130 = .ok (.bipush 111, 2) := by decide +kernel
theorem dX12_init_132 : decode cX12_init 132 = .ok (.castore, 1) := by decide +kernel
theorem dX12_init_133 : decode cX12_init 133 = .ok (.dup, 1) := by decide +kernel
theorem dX12_init_134 : decode cX12_init 134 = .ok (.iconst 4, 1) := by decide +kernel
theorem dX12_init_135 : decode cX12_init 135 = .ok (.bipush 101, 2) := by decide +kernel
theorem dX12_init_137 : decode cX12_init 137 = .ok (.castore, 1) := by decide +kernel
theorem dX12_init_138 : decode cX12_init 138 = .ok (.dup, 1) := by decide +kernel
theorem dX12_init_139 : decode cX12_init 139 = .ok (.iconst 5, 1) := by decide +kernel
theorem dX12_init_140 : decode cX12_init 140 = .ok (.bipush 114, 2) := by decide +kernel
theorem dX12_init_142 : decode cX12_init 142 = .ok (.castore, 1) := by decide +kernel
theorem dX12_init_143 : decode cX12_init 143 = .ok (.dup, 1) := by decide +kernel
theorem dX12_init_144 : decode cX12_init 144 = .ok (.bipush 6, 2) := by decide +kernel
theorem dX12_init_146 : decode cX12_init 146 = .ok (.bipush 115, 2) := by decide +kernel
theorem dX12_init_148 : decode cX12_init 148 = .ok (.castore, 1) := by decide +kernel
theorem dX12_init_149 : decode cX12_init 149 = .ok (.putfield 49, 3) := by decide +kernel
theorem dX12_init_152 : decode cX12_init 152 = .ok (.aload_n 0, 1) := by decide +kernel
theorem dX12_init_153 : decode cX12_init 153 = .ok (.iconst 5, 1) := by decide +kernel
theorem dX12_init_154 : decode cX12_init 154 = .ok (.newarray .char, 2) := by decide +kernel
theorem dX12_init_156 : decode cX12_init 156 = .ok (.dup, 1) := by decide +kernel
theorem dX12_init_157 : decode cX12_init 157 = .ok (.iconst 0, 1) := by decide +kernel
theorem dX12_init_158 : decode cX12_init 158 = .ok (.bipush 114, 2) := by decide +kernel
theorem dX12_init_160 : decode cX12_init 160 = .ok (.castore, 1) := by decide +kernel
theorem dX12_init_161 : decode cX12_init 161 = .ok (.dup, 1) := by decide +kernel
theorem dX12_init_162 : decode cX12_init 162 = .ok (.iconst 1, 1) := by decide +kernel
theorem dX12_init_163 : decode cX12_init 163 = .ok (.bipush 98, 2) := by decide +kernel
theorem dX12_init_165 : decode cX12_init 165 = .ok (.castore, 1) := by decide +kernel
theorem dX12_init_166 : decode cX12_init 166 = .ok (.dup, 1) := by decide +kernel
theorem dX12_init_167 : decode cX12_init 167 = .ok (.iconst 2, 1) := by decide +kernel
theorem dX12_init_168 : decode cX12_init 168 = .ok (.bipush 115, 2) := by decide +kernel
theorem dX12_init_170 : decode cX12_init 170 = .ok (.castore, 1) := by decide +kernel
theorem dX12_init_171 : decode cX12_init 171 = .ok (.dup, 1) := by decide +kernel
theorem dX12_init_172 : decode cX12_init 172 = .ok (.iconst 3, 1) := by decide +kernel
theorem dX12_init_173 : decode cX12_init 173 = .ok (.bipush 100, 2) := by decide +kernel
theorem dX12_init_175 : decode cX12_init 175 = .ok (.castore, 1) := by decide +kernel
theorem dX12_init_176 : decode cX12_init 176 = .ok (.dup, 1) := by decide +kernel
theorem dX12_init_177 : decode cX12_init 177 = .ok (.iconst 4, 1) := by decide +kernel
theorem dX12_init_178 : decode cX12_init 178 = .ok (.bipush 104, 2) := by decide +kernel
theorem dX12_init_180 : decode cX12_init 180 = .ok (.castore, 1) := by decide +kernel
theorem dX12_init_181 : decode cX12_init 181 = .ok (.putfield 53, 3) := by decide +kernel
theorem dX12_init_184 : decode cX12_init 184 = .ok (.aload_n 0, 1) := by decide +kernel
theorem dX12_init_185 : decode cX12_init 185 = .ok (.iconst 3, 1) := by decide +kernel
theorem dX12_init_186 : decode cX12_init 186 = .ok (.newarray .int, 2) := by decide +kernel
theorem dX12_init_188 : decode cX12_init 188 = .ok (.putfield 56, 3) := by decide +kernel
theorem dX12_init_191 : decode cX12_init 191 = .ok (.aload_n 0, 1) := by decide +kernel
theorem dX12_init_192 : decode cX12_init 192 = .ok (.bipush 13, 2) := by decide +kernel
theorem dX12_init_194 : decode cX12_init 194 = .ok (.newarray .int, 2) := by decide +kernel
theorem dX12_init_196 : decode cX12_init 196 = .ok (.putfield 59, 3) := by decide +kernel
theorem dX12_init_199 : decode cX12_init 199 = .ok (.aload_n 0, 1) := by decide +kernel
theorem dX12_init_200 : decode cX12_init 200 = .ok (.bipush 6, 2) := by decide +kernel
theorem dX12_init_202 : decode cX12_init 202 = .ok (.newarray .int, 2) := by decide +kernel
theorem dX12_init_204 : decode cX12_init 204 = .ok (.putfield 62, 3) := by decide +kernel
theorem dX12_init_207 : decode cX12_init 207 = .ok (.aload_n 0, 1) := by decide +kernel
theorem dX12_init_208 : decode cX12_init 208 = .ok (.bipush 12, 2) := by decide +kernel
theorem dX12_init_210 : decode cX12_init 210 = .ok (.newarray .int, 2) := by decide +kernel
theorem dX12_init_212 : decode cX12_init 212 = .ok (.putfield 65, 3) := by decide +kernel
theorem dX12_init_215 : decode cX12_init 215 = .ok (.aload_n 0, 1) := by decide +kernel
theorem dX12_init_216 : decode cX12_init 216 = .ok (.bipush 12, 2) := by decide +kernel
theorem dX12_init_218 : decode cX12_init 218 = .ok (.newarray .int, 2) := by decide +kernel
theorem dX12_init_220 : decode cX12_init 220 = .ok (.putfield 68, 3) := by decide +kernel
theorem dX12_init_223 : decode cX12_init 223 = .ok (.aload_n 0, 1) := by decide +kernel
theorem dX12_init_224 : decode cX12_init 224 = .ok (.iconst 4, 1) := by decide +kernel
theorem dX12_init_225 : decode cX12_init 225 = .ok (.newarray .int, 2) := by decide +kernel
theorem dX12_init_227 : decode cX12_init 227 = .ok (.putfield 71, 3) := by decide +kernel
theorem dX12_init_230 : decode cX12_init 230 = .ok (.aload_n 0, 1) := by decide +kernel
theorem dX12_init_231 : decode cX12_init 231 = .ok (.bipush 13, 2) := by decide +kernel
theorem dX12_init_233 : decode cX12_init 233 = .ok (.newarray .int, 2) := by decide +kernel
theorem dX12_init_235 : decode cX12_init 235 = .ok (.putfield 74, 3) := by decide +kernel
theorem dX12_init_238 : decode cX12_init 238 = .ok (.return_, 1) := by decide +kernel
theorem dX12_no_0 : decode cX12_no 0 = .ok (.aload_n 0, 1) := by decide +kernel
theorem dX12_no_1 : decode cX12_no 1 = .ok (.getfield 7, 3) := by decide +kernel
theorem dX12_no_4 : decode cX12_no 4 = .ok (.iload_n 1, 1) := by decide +kernel
theorem dX12_no_5 : decode cX12_no 5 = .ok (.ineg, 1) := by decide +kernel
theorem dX12_no_6 : decode cX12_no 6 = .ok (.dup2, 1) := by decide +kernel
theorem dX12_no_7 : decode cX12_no 7 = .ok (.iaload, 1) := by decide +kernel
theorem dX12_no_8 : decode cX12_no 8 = .ok (.iconst 1, 1) := by decide +kernel
theorem dX12_no_9 : decode cX12_no 9 = .ok (.iadd, 1) := by decide +kernel
theorem dX12_no_10 : decode cX12_no 10 = .ok (.iastore, 1) := by decide +kernel
theorem dX12_no_11 : decode cX12_no 11 = .ok (.iload_n 1, 1) := by decide +kernel
theorem dX12_no_12 : decode cX12_no 12 = .ok (.ireturn, 1) := by decide +kernel
theorem dX12_move_0 : decode cX12_move 0 = .ok (.iconst 0, 1) := by decide +kernel
theorem dX12_move_1 : decode cX12_move 1 = .ok (.istore_n 2, 1) := by decide +kernel
theorem dX12_move_2 : decode cX12_move 2 = .ok (.iload_n 2, 1) := by decide +kernel
theorem dX12_move_3 : decode cX12_move 3 = .ok (.aload_n 1, 1) := by decide +kernel
theorem dX12_move_4 : decode cX12_move 4 = .ok (.arraylength, 1) := by decide +kernel
theorem dX12_move_5 : decode cX12_move 5 = .ok (.if_icmp .ge 53, 3) := by decide +kernel
theorem dX12_move_8 : decode cX12_move 8 = .ok (.aload_n 0, 1) := by decide +kernel
theorem dX12_move_9 : decode cX12_move 9 = .ok (.getfield 77, 3) := by decide +kernel
theorem dX12_move_12 : decode cX12_move 12 = .ok (.ifCond .eq 18, 3) := by decide +kernel
theorem dX12_move_15 : decode cX12_move 15 = .ok (.aload_n 1, 1) := by decide +kernel
theorem dX12_move_16 : decode cX12_move 16 = .ok (.iload_n 2, 1) := by decide +kernel
theorem dX12_move_17 : decode cX12_move 17 = .ok (.aload_n 0, 1) := by decide +kernel
theorem dX12_move_18 : decode cX12_move 18 = .ok (.getfield 43, 3) := by decide +kernel
theorem dX12_move_21 : decode cX12_move 21 = .ok (.aload_n 0, 1) := by decide +kernel
theorem dX12_move_22 : decode cX12_move 22 = .ok (.getfield 81, 3) := by decide +kernel
theorem dX12_move_25 : decode cX12_move 25 = .ok (.iaload, 1) := by decide +kernel
theorem dX12_move_26 : decode cX12_move 26 = .ok (.iastore, 1) := by decide +kernel
theorem dX12_move_27 : decode cX12_move 27 = .ok (.goto 15, 3) := by decide +kernel
theorem dX12_move_30 : decode cX12_move 30 = .ok (.aload_n 0, 1) := by decide +kernel
theorem dX12_move_31 : decode cX12_move 31 = .ok (.getfield 43, 3) := by decide +kernel
theorem dX12_move_34 : decode cX12_move 34 = .ok (.aload_n 0, 1) := by decide +kernel
theorem dX12_move_35 : decode cX12_move 35 = .ok (.getfield 81, 3) := by decide +kernel
theorem dX12_move_38 : decode cX12_move 38 = .ok (.aload_n 1, 1) := by decide +kernel
theorem dX12_move_39 : decode cX12_move 39 = .ok (.iload_n 2, 1) := by decide +kernel
theorem dX12_move_40 : decode cX12_move 40 = .ok (.iaload, 1) := by decide +kernel
theorem dX12_move_41 : decode cX12_move 41 = .ok (.iastore, 1) := by decide +kernel
theorem dX12_move_42 : decode cX12_move 42 = .ok (.aload_n 0, 1) := by decide +kernel
theorem dX12_move_43 : decode cX12_move 43 = .ok (.dup, 1) := by decide +kernel
theorem dX12_move_44 : decode cX12_move 44 = .ok (.getfield 81, 3) := by decide +kernel
theorem dX12_move_47 : decode cX12_move 47 = .ok (.iconst 1, 1) := by decide +kernel
theorem dX12_move_48 : decode cX12_move 48 = .ok (.iadd, 1) := by decide +kernel
theorem dX12_move_49 : decode cX12_move 49 = .ok (.putfield 81, 3) := by decide +kernel
theorem dX12_move_52 : decode cX12_move 52 = .ok (.iinc 2 1, 3) := by decide +kernel
theorem dX12_move_55 : decode cX12_move 55 = .ok (.goto (-53), 3) := by decide +kernel
theorem dX12_move_58 : decode cX12_move 58 = .ok (.return_, 1) := by decide +kernel
theorem dX12_move__0 : decode cX12_move_ 0 = .ok (.iload_n 1, 1) := by decide +kernel
theorem dX12_move__1 : decode cX12_move_ 1 = .ok (.istore_n 2, 1) := by decide +kernel
theorem dX12_move__2 : decode cX12_move_ 2 = .ok (.aload_n 0, 1) := by decide +kernel
theorem dX12_move__3 : decode cX12_move_ 3 = .ok (.getfield 77, 3) := by decide +kernel
theorem dX12_move__6 : decode cX12_move_ 6 = .ok (.ifCond .eq 16, 3) := by decide +kernel
theorem dX12_move__9 : decode cX12_move_ 9 = .ok (.aload_n 0, 1) := by decide +kernel
theorem dX12_move__10 : decode cX12_move_ 10 = .ok (.getfield 43, 3) := by decide +kernel
theorem dX12_move__13 : decode cX12_move_ 13 = .ok (.aload_n 0, 1) := by decide +kernel
theorem dX12_move__14 : decode cX12_move_ 14 = .ok (.getfield 81, 3) := by decide +kernel
theorem dX12_move__17 : decode cX12_move_ 17 = .ok (.iaload, 1) := by decide +kernel
theorem dX12_move__18 : decode cX12_move_ 18 = .ok (.istore_n 2, 1) := by decide +kernel
theorem dX12_move__19 : decode cX12_move_ 19 = .ok (.goto 13, 3) := by decide +kernel
theorem dX12_move__22 : decode cX12_move_ 22 = .ok (.aload_n 0, 1) := by decide +kernel
theorem dX12_move__23 : decode cX12_move_ 23 = .ok (.getfield 43, 3) := by decide +kernel
theorem dX12_move__26 : decode cX12_move_ 26 = .ok (.aload_n 0, 1) := by decide +kernel
theorem dX12_move__27 : decode cX12_move_ 27 = .ok (.getfield 81, 3) := by decide +kernel
theorem dX12_move__30 : decode cX12_move_ 30 = .ok (.iload_n 1, 1) := by decide +kernel
theorem dX12_move__31 : decode cX12_move_ 31 = .ok (.iastore, 1) := by decide +kernel
theorem dX12_move__32 : decode cX12_move_ 32 = .ok (.aload_n 0, 1) := by decide +kernel
theorem dX12_move__33 : decode cX12_move_ 33 = .ok (.dup, 1) := by decide +kernel
theorem dX12_move__34 : decode cX12_move_ 34 = .ok (.getfield 81, 3) := by decide +kernel
theorem dX12_move__37 : decode cX12_move_ 37 = .ok (.iconst 1, 1) := by decide +kernel
theorem dX12_move__38 : decode cX12_move_ 38 = .ok (.iadd, 1) := by decide +kernel
theorem dX12_move__39 : decode cX12_move_ 39 = .ok (.putfield 81, 3) := by decide +kernel
theorem dX12_move__42 : decode cX12_move_ 42 = .ok (.iload_n 2, 1) := by decide +kernel
theorem dX12_move__43 : decode cX12_move_ 43 = .ok (.ireturn, 1) := by decide +kernel
set_option maxRecDepth 20000 in
theorem ggX12_moveAll_X12_move_ : GoodIn wsX12_moveAll wsX12_move_ := goodIn_r _ [21, 1, 22, 2, 27, 28, 29, 30, 31, 32, 33, 34, 35, 36, 37, 38, 39, 40, 41, 42, 43, 44, 45, 46, 47, 48, 49, 50, 51, 52, 53, 54, 55, 56, 57, 58, 59, 60, 61] (by decide +kernel) (by decide +kernel)
set_option maxRecDepth 20000 in
theorem gX12_moveAll_X12_move_ : GoodIn wsX12_moveAll (wsV RX12 88 RX12 yX12_move_ wsX12_move_) := goodIn_app (goodIn_of _ (by decide +kernel)) ggX12_moveAll_X12_move_
set_option maxRecDepth 20000 in
theorem ggX12_moveAll_X12_move : GoodIn wsX12_moveAll wsX12_move := goodIn_r _ [26, 1, 22, 2, 27, 28, 29, 30, 31, 32, 33, 34, 35, 36, 37, 38, 39, 40, 41, 42, 43, 44, 45, 46, 47, 48, 49, 50, 51, 52, 53, 54, 55, 56, 57, 58, 59, 60, 61] (by decide +kernel) (by decide +kernel)
set_option maxRecDepth 20000 in
theorem gX12_moveAll_X12_move : GoodIn wsX12_moveAll (wsV RX12 101 RX12 yX12_move wsX12_move) := goodIn_app (goodIn_of _ (by decide +kernel)) ggX12_moveAll_X12_move
theorem dX12_moveAll_0 : decode cX12_moveAll 0 = .ok (.aload_n 0, 1) := by decide +kernel
theorem dX12_moveAll_1 : decode cX12_moveAll 1 = .ok (.iload_n 1, 1) := by decide +kernel
theorem dX12_moveAll_2 : decode cX12_moveAll 2 = .ok (.putfield 77, 3) := by decide +kernel
theorem dX12_moveAll_5 : decode cX12_moveAll 5 = .ok (.aload_n 0, 1) := by decide +kernel
theorem dX12_moveAll_6 : decode cX12_moveAll 6 = .ok (.iconst 0, 1) := by decide +kernel
theorem dX12_moveAll_7 : decode cX12_moveAll 7 = .ok (.putfield 81, 3) := by decide +kernel
theorem dX12_moveAll_10 : decode cX12_moveAll 10 = .ok (.aload_n 0, 1) := by decide +kernel
theorem dX12_moveAll_11 : decode cX12_moveAll 11 = .ok (.aload_n 0, 1) := by decide +kernel
theorem dX12_moveAll_12 : decode cX12_moveAll 12 = .ok (.aload_n 0, 1) := by decide +kernel
theorem dX12_moveAll_13 : decode cX12_moveAll 13 = .ok (.getfield 85, 3) := by decide +kernel
theorem dX12_moveAll_16 : decode cX12_moveAll 16 = .ok (.invokevirtual 88, 3) := by decide +kernel
theorem dX12_moveAll_19 : decode cX12_moveAll 19 = .ok (.putfield 85, 3) := by decide +kernel
theorem dX12_moveAll_22 : decode cX12_moveAll 22 = .ok (.aload_n 0, 1) := by decide +kernel
theorem dX12_moveAll_23 : decode cX12_moveAll 23 = .ok (.aload_n 0, 1) := by decide +kernel
theorem dX12_moveAll_24 : decode cX12_moveAll 24 = .ok (.aload_n 0, 1) := by decide +kernel
theorem dX12_moveAll_25 : decode cX12_moveAll 25 = .ok (.getfield 92, 3) := by decide +kernel
theorem dX12_moveAll_28 : decode cX12_moveAll 28 = .ok (.invokevirtual 88, 3) := by decide +kernel
theorem dX12_moveAll_31 : decode cX12_moveAll 31 = .ok (.putfield 92, 3) := by decide +kernel
theorem dX12_moveAll_34 : decode cX12_moveAll 34 = .ok (.aload_n 0, 1) := by decide +kernel
theorem dX12_moveAll_35 : decode cX12_moveAll 35 = .ok (.aload_n 0, 1) := by decide +kernel
theorem dX12_moveAll_36 : decode cX12_moveAll 36 = .ok (.aload_n 0, 1) := by decide +kernel
theorem dX12_moveAll_37 : decode cX12_moveAll 37 = .ok (.getfield 95, 3) := by decide +kernel
theorem dX12_moveAll_40 : decode cX12_moveAll 40 = .ok (.invokevirtual 88, 3) := by decide +kernel
theorem dX12_moveAll_43 : decode cX12_moveAll 43 = .ok (.putfield 95, 3) := by decide +kernel
theorem dX12_moveAll_46 : decode cX12_moveAll 46 = .ok (.aload_n 0, 1) := by decide +kernel
theorem dX12_moveAll_47 : decode cX12_moveAll 47 = .ok (.aload_n 0, 1) := by decide +kernel
theorem dX12_moveAll_48 : decode cX12_moveAll 48 = .ok (.aload_n 0, 1) := by decide +kernel
theorem dX12_moveAll_49 : decode cX12_moveAll 49 = .ok (.getfield 98, 3) := by decide +kernel
theorem dX12_moveAll_52 : decode cX12_moveAll 52 = .ok (.invokevirtual 88, 3) := by decide +kernel
theorem dX12_moveAll_55 : decode cX12_moveAll 55 = .ok (.putfield 98, 3) := by decide +kernel
theorem dX12_moveAll_58 : decode cX12_moveAll 58 = .ok (.aload_n 0, 1) := by decide +kernel
theorem dX12_moveAll_59 : decode cX12_moveAll 59 = .ok (.aload_n 0, 1) := by decide +kernel
theorem dX12_moveAll_60 : decode cX12_moveAll 60 = .ok (.getfield 13, 3) := by decide +kernel
theorem dX12_moveAll_63 : decode cX12_moveAll 63 = .ok (.invokevirtual 101, 3) := by decide +kernel
theorem dX12_moveAll_66 : decode cX12_moveAll 66 = .ok (.aload_n 0, 1) := by decide +kernel
theorem dX12_moveAll_67 : decode cX12_moveAll 67 = .ok (.aload_n 0, 1) := by decide +kernel
theorem dX12_moveAll_68 : decode cX12_moveAll 68 = .ok (.getfield 16, 3) := by decide +kernel
theorem dX12_moveAll_71 : decode cX12_moveAll 71 = .ok (.invokevirtual 101, 3) := by decide +kernel
theorem dX12_moveAll_74 : decode cX12_moveAll 74 = .ok (.aload_n 0, 1) := by decide +kernel
theorem dX12_moveAll_75 : decode cX12_moveAll 75 = .ok (.aload_n 0, 1) := by decide +kernel
theorem dX12_moveAll_76 : decode cX12_moveAll 76 = .ok (.getfield 19, 3) := by decide +kernel
theorem dX12_moveAll_79 : decode cX12_moveAll 79 = .ok (.invokevirtual 101, 3) := by decide +kernel
theorem dX12_moveAll_82 : decode cX12_moveAll 82 = .ok (.aload_n 0, 1) := by decide +kernel
theorem dX12_moveAll_83 : decode cX12_moveAll 83 = .ok (.aload_n 0, 1) := by decide +kernel
theorem dX12_moveAll_84 : decode cX12_moveAll 84 = .ok (.getfield 22, 3) := by decide +kernel
theorem dX12_moveAll_87 : decode cX12_moveAll 87 = .ok (.invokevirtual 101, 3) := by decide +kernel
theorem dX12_moveAll_90 : decode cX12_moveAll 90 = .ok (.aload_n 0, 1) := by decide +kernel
theorem dX12_moveAll_91 : decode cX12_moveAll 91 = .ok (.aload_n 0, 1) := by decide +kernel
theorem dX12_moveAll_92 : decode cX12_moveAll 92 = .ok (.getfield 25, 3) := by decide +kernel
theorem dX12_moveAll_95 : decode cX12_moveAll 95 = .ok (.invokevirtual 101, 3) := by decide +kernel
theorem dX12_moveAll_98 : decode cX12_moveAll 98 = .ok (.aload_n 0, 1) := by decide +kernel
theorem dX12_moveAll_99 : decode cX12_moveAll 99 = .ok (.aload_n 0, 1) := by decide +kernel
theorem dX12_moveAll_100 : decode cX12_moveAll 100 = .ok (.getfield 28, 3) := by decide +kernel
theorem dX12_moveAll_103 : decode cX12_moveAll 103 = .ok (.invokevirtual 101, 3) := by decide +kernel
theorem dX12_moveAll_106 : decode cX12_moveAll 106 = .ok (.aload_n 0, 1) := by decide +kernel
theorem dX12_moveAll_107 : decode cX12_moveAll 107 = .ok (.aload_n 0, 1) := by decide +kernel
theorem dX12_moveAll_108 : decode cX12_moveAll 108 = .ok (.getfield 31, 3) := by decide +kernel
theorem dX12_moveAll_111 : decode cX12_moveAll 111 = .ok (.invokevirtual 101, 3) := by decide +kernel
theorem dX12_moveAll_114 : decode cX12_moveAll 114 = .ok (.aload_n 0, 1) := by decide +kernel
theorem dX12_moveAll_115 : decode cX12_moveAll 115 = .ok (.aload_n 0, 1) := by decide +kernel
theorem dX12_moveAll_116 : decode cX12_moveAll 116 = .ok (.getfield 34, 3) := by decide +kernel
theorem dX12_moveAll_119 : decode cX12_moveAll 119 = .ok (.invokevirtual 101, 3) := by decide +kernel
theorem dX12_moveAll_122 : decode cX12_moveAll 122 = .ok (.aload_n 0, 1) := by decide +kernel
theorem dX12_moveAll_123 : decode cX12_moveAll 123 = .ok (.aload_n 0, 1) := by decide +kernel
theorem dX12_moveAll_124 : decode cX12_moveAll 124 = .ok (.getfield 37, 3) := by decide +kernel
theorem dX12_moveAll_127 : decode cX12_moveAll 127 = .ok (.invokevirtual 101, 3) := by decide +kernel
theorem dX12_moveAll_130 : decode cX12_moveAll 130 = .ok (.aload_n 0, 1) := by decide +kernel
theorem dX12_moveAll_131 : decode cX12_moveAll 131 = .ok (.aload_n 0, 1) := by decide +kernel
theorem dX12_moveAll_132 : decode cX12_moveAll 132 = .ok (.getfield 40, 3) := by decide +kernel
theorem dX12_moveAll_135 : decode cX12_moveAll 135 = .ok (.invokevirtual 101, 3) := by decide +kernel
theorem dX12_moveAll_138 : decode cX12_moveAll 138 = .ok (.return_, 1) := by decide +kernel
set_option maxRecDepth 20000 in
theorem ggX12_image_X12_moveAll : GoodIn wsX12_image wsX12_moveAll := goodIn_r _ [7, 8, 9, 2, 10, 11, 12, 13, 14, 15, 16, 17, 18, 19, 20, 21, 22, 23, 24, 25, 6, 26, 27, 28, 29, 30, 31, 32, 33, 34, 35, 36, 37, 38, 39, 40, 41, 42, 43, 44, 45, 46, 47, 48, 49, 50, 51, 52, 53, 54, 55, 56, 57, 58, 59, 60, 61, 62, 63, 64, 65, 66] (by decide +kernel) (by decide +kernel)
set_option maxRecDepth 20000 in
theorem gX12_image_X12_moveAll : GoodIn wsX12_image (wsV RX12 107 RX12 yX12_moveAll wsX12_moveAll) := goodIn_app (goodIn_of _ (by decide +kernel)) ggX12_image_X12_moveAll
theorem dX12_image_0 : decode cX12_image 0 = .ok (.aload_n 0, 1) := by decide +kernel
theorem dX12_image_1 : decode cX12_image 1 = .ok (.iconst 1, 1) := by decide +kernel
theorem dX12_image_2 : decode cX12_image 2 = .ok (.putfield 104, 3) := by decide +kernel
theorem dX12_image_5 : decode cX12_image 5 = .ok (.aload_n 0, 1) := by decide +kernel
theorem dX12_image_6 : decode cX12_image 6 = .ok (.iconst 0, 1) := by decide +kernel
theorem dX12_image_7 : decode cX12_image 7 = .ok (.invokevirtual 107, 3) := by decide +kernel
theorem dX12_image_10 : decode cX12_image 10 = .ok (.aload_n 0, 1) := by decide +kernel
theorem dX12_image_11 : decode cX12_image 11 = .ok (.getfield 85, 3) := by decide +kernel
theorem dX12_image_14 : decode cX12_image 14 = .ok (.ireturn, 1) := by decide +kernel
set_option maxRecDepth 20000 in
theorem ggX12_on_X12_no : GoodIn wsX12_on wsX12_no := goodIn_r _ [7, 8, 37, 38, 39, 40, 41, 42, 43, 44, 45, 46, 47, 48, 49, 50, 51, 52, 53, 54, 55, 56, 57, 58, 59, 60, 61, 62, 63, 64, 65, 66, 67, 68, 69, 70, 71] (by decide +kernel) (by decide +kernel)
set_option maxRecDepth 20000 in
theorem gX12_on_X12_no : GoodIn wsX12_on (wsV RX12 111 RX12 yX12_no wsX12_no) := goodIn_app (goodIn_of _ (by decide +kernel)) ggX12_on_X12_no
set_option maxRecDepth 20000 in
theorem ggX12_on_X12_moveAll : GoodIn wsX12_on wsX12_moveAll := goodIn_r _ [12, 13, 14, 2, 15, 16, 17, 18, 19, 20, 21, 22, 23, 24, 25, 26, 27, 28, 29, 30, 6, 31, 32, 33, 34, 35, 36, 37, 38, 39, 40, 41, 42, 43, 44, 45, 46, 47, 48, 49, 50, 51, 52, 53, 54, 55, 56, 57, 58, 59, 60, 61, 62, 63, 64, 65, 66, 67, 68, 69, 70, 71] (by decide +kernel) (by decide +kernel)
set_option maxRecDepth 20000 in
theorem gX12_on_X12_moveAll : GoodIn wsX12_on (wsV RX12 107 RX12 yX12_moveAll wsX12_moveAll) := goodIn_app (goodIn_of _ (by decide +kernel)) ggX12_on_X12_moveAll
theorem dX12_on_0 : decode cX12_on 0 = .ok (.aload_n 0, 1) := by decide +kernel
theorem dX12_on_1 : decode cX12_on 1 = .ok (.getfield 104, 3) := by decide +kernel
theorem dX12_on_4 : decode cX12_on 4 = .ok (.ifCond .ne 10, 3) := by decide +kernel
theorem dX12_on_7 : decode cX12_on 7 = .ok (.aload_n 0, 1) := by decide +kernel
theorem dX12_on_8 : decode cX12_on 8 = .ok (.bipush (-3), 2) := by decide +kernel
theorem dX12_on_10 : decode cX12_on 10 = .ok (.invokevirtual 111, 3) := by decide +kernel
theorem dX12_on_13 : decode cX12_on 13 = .ok (.ireturn, 1) := by decide +kernel
theorem dX12_on_14 : decode cX12_on 14 = .ok (.aload_n 0, 1) := by decide +kernel
theorem dX12_on_15 : decode cX12_on 15 = .ok (.iconst 1, 1) := by decide +kernel
theorem dX12_on_16 : decode cX12_on 16 = .ok (.invokevirtual 107, 3) := by decide +kernel
theorem dX12_on_19 : decode cX12_on 19 = .ok (.aload_n 0, 1) := by decide +kernel
theorem dX12_on_20 : decode cX12_on 20 = .ok (.getfield 85, 3) := by decide +kernel
theorem dX12_on_23 : decode cX12_on 23 = .ok (.ireturn, 1) := by decide +kernel
theorem dX12_isNoWord_0 : decode cX12_isNoWord 0 = .ok (.iload_n 1, 1) := by decide +kernel
theorem dX12_isNoWord_1 : decode cX12_isNoWord 1 = .ok (.ifCond .lt 11, 3) := by decide +kernel
theorem dX12_isNoWord_4 : decode cX12_isNoWord 4 = .ok (.iload_n 1, 1) := by decide +kernel
theorem dX12_isNoWord_5 : decode cX12_isNoWord 5 = .ok (.aload_n 0, 1) := by decide +kernel
theorem dX12_isNoWord_6 : decode cX12_isNoWord 6 = .ok (.getfield 85, 3) := by decide +kernel
theorem dX12_isNoWord_9 : decode cX12_isNoWord 9 = .ok (.if_icmp .lt 7, 3) := by decide +kernel
theorem dX12_isNoWord_12 : decode cX12_isNoWord 12 = .ok (.iconst 1, 1) := by decide +kernel
theorem dX12_isNoWord_13 : decode cX12_isNoWord 13 = .ok (.goto 4, 3) := by decide +kernel
theorem dX12_isNoWord_16 : decode cX12_isNoWord 16 = .ok (.iconst 0, 1) := by decide +kernel
theorem dX12_isNoWord_17 : decode cX12_isNoWord 17 = .ok (.ireturn, 1) := by decide +kernel
theorem dX12_isNoPlace_0 : decode cX12_isNoPlace 0 = .ok (.iload_n 1, 1) := by decide +kernel
theorem dX12_isNoPlace_1 : decode cX12_isNoPlace 1 = .ok (.ifCond .lt 11, 3) := by decide +kernel
theorem dX12_isNoPlace_4 : decode cX12_isNoPlace 4 = .ok (.iload_n 1, 1) := by decide +kernel
theorem dX12_isNoPlace_5 : decode cX12_isNoPlace 5 = .ok (.aload_n 0, 1) := by decide +kernel
theorem dX12_isNoPlace_6 : decode cX12_isNoPlace 6 = .ok (.getfield 95, 3) := by decide +kernel
theorem dX12_isNoPlace_9 : decode cX12_isNoPlace 9 = .ok (.if_icmp .lt 7, 3) := by decide +kernel
theorem dX12_isNoPlace_12 : decode cX12_isNoPlace 12 = .ok (.iconst 1, 1) := by decide +kernel
theorem dX12_isNoPlace_13 : decode cX12_isNoPlace 13 = .ok (.goto 4, 3) := by decide +kernel
theorem dX12_isNoPlace_16 : decode cX12_isNoPlace 16 = .ok (.iconst 0, 1) := by decide +kernel
theorem dX12_isNoPlace_17 : decode cX12_isNoPlace 17 = .ok (.ireturn, 1) := by decide +kernel
theorem dX12_isNoKind_0 : decode cX12_isNoKind 0 = .ok (.iload_n 0, 1) := by decide +kernel
theorem dX12_isNoKind_1 : decode cX12_isNoKind 1 = .ok (.ifCond .lt 8, 3) := by decide +kernel
theorem dX12_isNoKind_4 : decode cX12_isNoKind 4 = .ok (.iload_n 0, 1) := by decide +kernel
theorem dX12_isNoKind_5 : decode cX12_isNoKind 5 = .ok (.iconst 4, 1) := by decide +kernel
theorem dX12_isNoKind_6 : decode cX12_isNoKind 6 = .ok (.if_icmp .le 7, 3) := by decide +kernel
theorem dX12_isNoKind_9 : decode cX12_isNoKind 9 = .ok (.iconst 1, 1) := by decide +kernel
theorem dX12_isNoKind_10 : decode cX12_isNoKind 10 = .ok (.goto 4, 3) := by decide +kernel
theorem dX12_isNoKind_13 : decode cX12_isNoKind 13 = .ok (.iconst 0, 1) := by decide +kernel
theorem dX12_isNoKind_14 : decode cX12_isNoKind 14 = .ok (.ireturn, 1) := by decide +kernel
set_option maxRecDepth 20000 in
theorem ggX12_letter_X12_no : GoodIn wsX12_letter wsX12_no := goodIn_r _ [7, 8, 9, 10, 11, 12, 13, 14, 15, 16, 17, 18, 19, 20, 21, 22, 23, 24, 25, 26, 27, 28, 29, 30, 31, 32, 33, 34, 35, 36, 37, 38, 39, 40, 41, 42, 43] (by decide +kernel) (by decide +kernel)
set_option maxRecDepth 20000 in
theorem gX12_letter_X12_no : GoodIn wsX12_letter (wsV RX12 111 RX12 yX12_no wsX12_no) := goodIn_app (goodIn_of _ (by decide +kernel)) ggX12_letter_X12_no
theorem dX12_letter_0 : decode cX12_letter 0 = .ok (.iload_n 1, 1) := by decide +kernel
theorem dX12_letter_1 : decode cX12_letter 1 = .ok (.ifCond .ge 10, 3) := by decide +kernel
theorem dX12_letter_4 : decode cX12_letter 4 = .ok (.aload_n 0, 1) := by decide +kernel
theorem dX12_letter_5 : decode cX12_letter 5 = .ok (.bipush (-4), 2) := by decide +kernel
theorem dX12_letter_7 : decode cX12_letter 7 = .ok (.invokevirtual 111, 3) := by decide +kernel
theorem dX12_letter_10 : decode cX12_letter 10 = .ok (.ireturn, 1) := by decide +kernel
theorem dX12_letter_11 : decode cX12_letter 11 = .ok (.iload_n 1, 1) := by decide +kernel
theorem dX12_letter_12 : decode cX12_letter 12 = .ok (.sipush 255, 3) := by decide +kernel
theorem dX12_letter_15 : decode cX12_letter 15 = .ok (.if_icmp .gt 12, 3) := by decide +kernel
theorem dX12_letter_18 : decode cX12_letter 18 = .ok (.aload_n 0, 1) := by decide +kernel
theorem dX12_letter_19 : decode cX12_letter 19 = .ok (.getfield 114, 3) := by decide +kernel
theorem dX12_letter_22 : decode cX12_letter 22 = .ok (.bipush 64, 2) := by decide +kernel
theorem dX12_letter_24 : decode cX12_letter 24 = .ok (.if_icmp .ne 10, 3) := by decide +kernel
theorem dX12_letter_27 : decode cX12_letter 27 = .ok (.aload_n 0, 1) := by decide +kernel
theorem dX12_letter_28 : decode cX12_letter 28 = .ok (.bipush (-6), 2) := by decide +kernel
theorem dX12_letter_30 : decode cX12_letter 30 = .ok (.invokevirtual 111, 3) := by decide +kernel
theorem dX12_letter_33 : decode cX12_letter 33 = .ok (.ireturn, 1) := by decide +kernel
theorem dX12_letter_34 : decode cX12_letter 34 = .ok (.aload_n 0, 1) := by decide +kernel
theorem dX12_letter_35 : decode cX12_letter 35 = .ok (.getfield 46, 3) := by decide +kernel
theorem dX12_letter_38 : decode cX12_letter 38 = .ok (.aload_n 0, 1) := by decide +kernel
theorem dX12_letter_39 : decode cX12_letter 39 = .ok (.getfield 114, 3) := by decide +kernel
theorem dX12_letter_42 : decode cX12_letter 42 = .ok (.iload_n 1, 1) := by decide +kernel
theorem dX12_letter_43 : decode cX12_letter 43 = .ok (.iastore, 1) := by decide +kernel
theorem dX12_letter_44 : decode cX12_letter 44 = .ok (.aload_n 0, 1) := by decide +kernel
theorem dX12_letter_45 : decode cX12_letter 45 = .ok (.dup, 1) := by decide +kernel
theorem dX12_letter_46 : decode cX12_letter 46 = .ok (.getfield 114, 3) := by decide +kernel
theorem dX12_letter_49 : decode cX12_letter 49 = .ok (.iconst 1, 1) := by decide +kernel
theorem dX12_letter_50 : decode cX12_letter 50 = .ok (.iadd, 1) := by decide +kernel
theorem dX12_letter_51 : decode cX12_letter 51 = .ok (.putfield 114, 3) := by decide +kernel
theorem dX12_letter_54 : decode cX12_letter 54 = .ok (.aload_n 0, 1) := by decide +kernel
theorem dX12_letter_55 : decode cX12_letter 55 = .ok (.getfield 114, 3) := by decide +kernel
theorem dX12_letter_58 : decode cX12_letter 58 = .ok (.ireturn, 1) := by decide +kernel
theorem dX12_comes_0 : decode cX12_comes 0 = .ok (.aload_n 0, 1) := by decide +kernel
theorem dX12_comes_1 : decode cX12_comes 1 = .ok (.getfield 117, 3) := by decide +kernel
theorem dX12_comes_4 : decode cX12_comes 4 = .ok (.aload_n 0, 1) := by decide +kernel
theorem dX12_comes_5 : decode cX12_comes 5 = .ok (.getfield 114, 3) := by decide +kernel
theorem dX12_comes_8 : decode cX12_comes 8 = .ok (.if_icmp .ge 20, 3) := by decide +kernel
theorem dX12_comes_11 : decode cX12_comes 11 = .ok (.aload_n 0, 1) := by decide +kernel
theorem dX12_comes_12 : decode cX12_comes 12 = .ok (.getfield 46, 3) := by decide +kernel
theorem dX12_comes_15 : decode cX12_comes 15 = .ok (.aload_n 0, 1) := by decide +kernel
theorem dX12_comes_16 : decode cX12_comes 16 = .ok (.getfield 117, 3) := by decide +kernel
theorem dX12_comes_19 : decode cX12_comes 19 = .ok (.iaload, 1) := by decide +kernel
theorem dX12_comes_20 : decode cX12_comes 20 = .ok (.iload_n 1, 1) := by decide +kernel
theorem dX12_comes_21 : decode cX12_comes 21 = .ok (.if_icmp .ne 7, 3) := by decide +kernel
theorem dX12_comes_24 : decode cX12_comes 24 = .ok (.iconst 1, 1) := by decide +kernel
theorem dX12_comes_25 : decode cX12_comes 25 = .ok (.goto 4, 3) := by decide +kernel
theorem dX12_comes_28 : decode cX12_comes 28 = .ok (.iconst 0, 1) := by decide +kernel
theorem dX12_comes_29 : decode cX12_comes 29 = .ok (.ireturn, 1) := by decide +kernel
set_option maxRecDepth 20000 in
theorem ggX12_expect_X12_comes : GoodIn wsX12_expect wsX12_comes := goodIn_r _ [7, 2, 8, 9, 10, 11, 12, 13, 14, 15, 16, 17, 18, 19, 20, 21, 22, 23, 24, 25, 26, 27, 28, 29, 30, 31, 32, 33, 34, 35, 36, 37, 38, 39, 40, 41, 42, 43, 44] (by decide +kernel) (by decide +kernel)
set_option maxRecDepth 20000 in
theorem gX12_expect_X12_comes : GoodIn wsX12_expect (wsV RX12 123 RX12 yX12_comes wsX12_comes) := goodIn_app (goodIn_of _ (by decide +kernel)) ggX12_expect_X12_comes
theorem dX12_expect_0 : decode cX12_expect 0 = .ok (.aload_n 0, 1) := by decide +kernel
theorem dX12_expect_1 : decode cX12_expect 1 = .ok (.getfield 120, 3) := by decide +kernel
theorem dX12_expect_4 : decode cX12_expect 4 = .ok (.ifCond .eq 29, 3) := by decide +kernel
theorem dX12_expect_7 : decode cX12_expect 7 = .ok (.aload_n 0, 1) := by decide +kernel
theorem dX12_expect_8 : decode cX12_expect 8 = .ok (.iload_n 1, 1) := by decide +kernel
theorem dX12_expect_9 : decode cX12_expect 9 = .ok (.invokevirtual 123, 3) := by decide +kernel
theorem dX12_expect_12 : decode cX12_expect 12 = .ok (.ifCond .eq 16, 3) := by decide +kernel
theorem dX12_expect_15 : decode cX12_expect 15 = .ok (.aload_n 0, 1) := by decide +kernel
theorem dX12_expect_16 : decode cX12_expect 16 = .ok (.dup, 1) := by decide +kernel
theorem dX12_expect_17 : decode cX12_expect 17 = .ok (.getfield 117, 3) := by decide +kernel
theorem dX12_expect_20 : decode cX12_expect 20 = .ok (.iconst 1, 1) := by decide +kernel
theorem dX12_expect_21 : decode cX12_expect 21 = .ok (.iadd, 1) := by decide +kernel
theorem dX12_expect_22 : decode cX12_expect 22 = .ok (.putfield 117, 3) := by decide +kernel
theorem dX12_expect_25 : decode cX12_expect 25 = .ok (.goto 8, 3) := by decide +kernel
theorem dX12_expect_28 : decode cX12_expect 28 = .ok (.aload_n 0, 1) := by decide +kernel
theorem dX12_expect_29 : decode cX12_expect 29 = .ok (.iconst 0, 1) := by decide +kernel
theorem dX12_expect_30 : decode cX12_expect 30 = .ok (.putfield 120, 3) := by decide +kernel
theorem dX12_expect_33 : decode cX12_expect 33 = .ok (.return_, 1) := by decide +kernel
set_option maxRecDepth 20000 in
theorem ggX12_oneOf_X12_comes : GoodIn wsX12_oneOf wsX12_comes := goodIn_r _ [7, 2, 8, 9, 10, 11, 12, 13, 14, 15, 16, 17, 18, 19, 20, 21, 22, 23, 24, 25, 26, 27, 28, 29, 30, 31, 32, 33, 34, 35, 36, 37, 38, 39, 40, 41, 42, 43, 44] (by decide +kernel) (by decide +kernel)
set_option maxRecDepth 20000 in
theorem gX12_oneOf_X12_comes : GoodIn wsX12_oneOf (wsV RX12 123 RX12 yX12_comes wsX12_comes) := goodIn_app (goodIn_of _ (by decide +kernel)) ggX12_oneOf_X12_comes
theorem dX12_oneOf_0 : decode cX12_oneOf 0 = .ok (.iconst (-1), 1) := by decide +kernel
theorem dX12_oneOf_1 : decode cX12_oneOf 1 = .ok (.istore_n 2, 1) := by decide +kernel
theorem dX12_oneOf_2 : decode cX12_oneOf 2 = .ok (.iconst 0, 1) := by decide +kernel
theorem dX12_oneOf_3 : decode cX12_oneOf 3 = .ok (.istore_n 3, 1) := by decide +kernel
theorem dX12_oneOf_4 : decode cX12_oneOf 4 = .ok (.iload_n 3, 1) := by decide +kernel
theorem dX12_oneOf_5 : decode cX12_oneOf 5 = .ok (.aload_n 1, 1) := by decide +kernel
theorem dX12_oneOf_6 : decode cX12_oneOf 6 = .ok (.arraylength, 1) := by decide +kernel
theorem dX12_oneOf_7 : decode cX12_oneOf 7 = .ok (.if_icmp .ge 32, 3) := by decide +kernel
theorem dX12_oneOf_10 : decode cX12_oneOf 10 = .ok (.aload_n 0, 1) := by decide +kernel
theorem dX12_oneOf_11 : decode cX12_oneOf 11 = .ok (.getfield 120, 3) := by decide +kernel
theorem dX12_oneOf_14 : decode cX12_oneOf 14 = .ok (.ifCond .eq 25, 3) := by decide +kernel
theorem dX12_oneOf_17 : decode cX12_oneOf 17 = .ok (.iload_n 2, 1) := by decide +kernel
theorem dX12_oneOf_18 : decode cX12_oneOf 18 = .ok (.ifCond .ge 21, 3) := by decide +kernel
theorem dX12_oneOf_21 : decode cX12_oneOf 21 = .ok (.aload_n 0, 1) := by decide +kernel
theorem dX12_oneOf_22 : decode cX12_oneOf 22 = .ok (.aload_n 1, 1) := by decide +kernel
theorem dX12_oneOf_23 : decode cX12_oneOf 23 = .ok (.iload_n 3, 1) := by decide +kernel
theorem dX12_oneOf_24 : decode cX12_oneOf 24 = .ok (.caload, 1) := by decide +kernel
theorem dX12_oneOf_25 : decode cX12_oneOf 25 = .ok (.invokevirtual 123, 3) := by decide +kernel
theorem dX12_oneOf_28 : decode cX12_oneOf 28 = .ok (.ifCond .eq 5, 3) := by decide +kernel
theorem dX12_oneOf_31 : decode cX12_oneOf 31 = .ok (.iload_n 3, 1) := by decide +kernel
theorem dX12_oneOf_32 : decode cX12_oneOf 32 = .ok (.istore_n 2, 1) := by decide +kernel
theorem dX12_oneOf_33 : decode cX12_oneOf 33 = .ok (.iinc 3 1, 3) := by decide +kernel
theorem dX12_oneOf_36 : decode cX12_oneOf 36 = .ok (.goto (-32), 3) := by decide +kernel
theorem dX12_oneOf_39 : decode cX12_oneOf 39 = .ok (.iload_n 2, 1) := by decide +kernel
theorem dX12_oneOf_40 : decode cX12_oneOf 40 = .ok (.ifCond .ge 10, 3) := by decide +kernel
theorem dX12_oneOf_43 : decode cX12_oneOf 43 = .ok (.aload_n 0, 1) := by decide +kernel
theorem dX12_oneOf_44 : decode cX12_oneOf 44 = .ok (.iconst 0, 1) := by decide +kernel
theorem dX12_oneOf_45 : decode cX12_oneOf 45 = .ok (.putfield 120, 3) := by decide +kernel
theorem dX12_oneOf_48 : decode cX12_oneOf 48 = .ok (.iconst 0, 1) := by decide +kernel
theorem dX12_oneOf_49 : decode cX12_oneOf 49 = .ok (.ireturn, 1) := by decide +kernel
theorem dX12_oneOf_50 : decode cX12_oneOf 50 = .ok (.aload_n 0, 1) := by decide +kernel
theorem dX12_oneOf_51 : decode cX12_oneOf 51 = .ok (.dup, 1) := by decide +kernel
theorem dX12_oneOf_52 : decode cX12_oneOf 52 = .ok (.getfield 117, 3) := by decide +kernel
theorem dX12_oneOf_55 : decode cX12_oneOf 55 = .ok (.iconst 1, 1) := by decide +kernel
theorem dX12_oneOf_56 : decode cX12_oneOf 56 = .ok (.iadd, 1) := by decide +kernel
theorem dX12_oneOf_57 : decode cX12_oneOf 57 = .ok (.putfield 117, 3) := by decide +kernel
theorem dX12_oneOf_60 : decode cX12_oneOf 60 = .ok (.iload_n 2, 1) := by decide +kernel
theorem dX12_oneOf_61 : decode cX12_oneOf 61 = .ok (.ireturn, 1) := by decide +kernel
theorem dX12_figures_0 : decode cX12_figures 0 = .ok (.iconst 0, 1) := by decide +kernel
theorem dX12_figures_1 : decode cX12_figures 1 = .ok (.istore_n 2, 1) := by decide +kernel
theorem dX12_figures_2 : decode cX12_figures 2 = .ok (.iconst 0, 1) := by decide +kernel
theorem dX12_figures_3 : decode cX12_figures 3 = .ok (.istore_n 3, 1) := by decide +kernel
theorem dX12_figures_4 : decode cX12_figures 4 = .ok (.aload_n 0, 1) := by decide +kernel
theorem dX12_figures_5 : decode cX12_figures 5 = .ok (.getfield 120, 3) := by decide +kernel
theorem dX12_figures_8 : decode cX12_figures 8 = .ok (.ifCond .eq 81, 3) := by decide +kernel
theorem dX12_figures_11 : decode cX12_figures 11 = .ok (.iload_n 3, 1) := by decide +kernel
theorem dX12_figures_12 : decode cX12_figures 12 = .ok (.iload_n 1, 1) := by decide +kernel
theorem dX12_figures_13 : decode cX12_figures 13 = .ok (.if_icmp .ge 76, 3) := by decide +kernel
theorem dX12_figures_16 : decode cX12_figures 16 = .ok (.aload_n 0, 1) := by decide +kernel
theorem dX12_figures_17 : decode cX12_figures 17 = .ok (.getfield 117, 3) := by decide +kernel
theorem dX12_figures_20 : decode cX12_figures 20 = .ok (.aload_n 0, 1) := by decide +kernel
theorem dX12_figures_21 : decode cX12_figures 21 = .ok (.getfield 114, 3) := by decide +kernel
theorem dX12_figures_24 : decode cX12_figures 24 = .ok (.if_icmp .ge 65, 3) := by decide +kernel
theorem dX12_figures_27 : decode cX12_figures 27 = .ok (.aload_n 0, 1) := by decide +kernel
theorem dX12_figures_28 : decode cX12_figures 28 = .ok (.getfield 46, 3) := by decide +kernel
theorem dX12_figures_31 : decode cX12_figures 31 = .ok (.aload_n 0, 1) := by decide +kernel
theorem dX12_figures_32 : decode cX12_figures 32 = .ok (.getfield 117, 3) := by decide +kernel
theorem dX12_figures_35 : decode cX12_figures 35 = .ok (.iaload, 1) := by decide +kernel
theorem dX12_figures_36 : decode cX12_figures 36 = .ok (.bipush 48, 2) := by decide +kernel
theorem dX12_figures_38 : decode cX12_figures 38 = .ok (.if_icmp .lt 51, 3) := by decide +kernel
theorem dX12_figures_41 : decode cX12_figures 41 = .ok (.aload_n 0, 1) := by decide +kernel
theorem dX12_figures_42 : decode cX12_figures 42 = .ok (.getfield 46, 3) := by decide +kernel
theorem dX12_figures_45 : decode cX12_figures 45 = .ok (.aload_n 0, 1) := by decide +kernel
theorem dX12_figures_46 : decode cX12_figures 46 = .ok (.getfield 117, 3) := by decide +kernel
theorem dX12_figures_49 : decode cX12_figures 49 = .ok (.iaload, 1) := by decide +kernel
theorem dX12_figures_50 : decode cX12_figures 50 = .ok (.bipush 57, 2) := by decide +kernel
theorem dX12_figures_52 : decode cX12_figures 52 = .ok (.if_icmp .gt 37, 3) := by decide +kernel
theorem dX12_figures_55 : decode cX12_figures 55 = .ok (.bipush 10, 2) := by decide +kernel
theorem dX12_figures_57 : decode cX12_figures 57 = .ok (.iload_n 2, 1) := by decide +kernel
theorem dX12_figures_58 : decode cX12_figures 58 = .ok (.imul, 1) := by decide +kernel
theorem dX12_figures_59 : decode cX12_figures 59 = .ok (.aload_n 0, 1) := by decide +kernel
theorem dX12_figures_60 : decode cX12_figures 60 = .ok (.getfield 46, 3) := by decide +kernel
theorem dX12_figures_63 : decode cX12_figures 63 = .ok (.aload_n 0, 1) := by decide +kernel
theorem dX12_figures_64 : decode cX12_figures 64 = .ok (.getfield 117, 3) := by decide +kernel
theorem dX12_figures_67 : decode cX12_figures 67 = .ok (.iaload, 1) := by decide +kernel
theorem dX12_figures_68 : decode cX12_figures 68 = .ok (.iadd, 1) := by decide +kernel
theorem dX12_figures_69 : decode cX12_figures 69 = .ok (.bipush 48, 2) := by decide +kernel
theorem dX12_figures_71 : decode cX12_figures 71 = .ok (.isub, 1) := by decide +kernel
theorem dX12_figures_72 : decode cX12_figures 72 = .ok (.istore_n 2, 1) := by decide +kernel
theorem dX12_figures_73 : decode cX12_figures 73 = .ok (.aload_n 0, 1) := by decide +kernel
theorem dX12_figures_74 : decode cX12_figures 74 = .ok (.dup, 1) := by decide +kernel
theorem dX12_figures_75 : decode cX12_figures 75 = .ok (.getfield 117, 3) := by decide +kernel
theorem dX12_figures_78 : decode cX12_figures 78 = .ok (.iconst 1, 1) := by decide +kernel
theorem dX12_figures_79 : decode cX12_figures 79 = .ok (.iadd, 1) := by decide +kernel
theorem dX12_figures_80 : decode cX12_figures 80 = .ok (.putfield 117, 3) := by decide +kernel
theorem dX12_figures_83 : decode cX12_figures 83 = .ok (.iinc 3 1, 3) := by decide +kernel
theorem dX12_figures_86 : decode cX12_figures 86 = .ok (.goto (-82), 3) := by decide +kernel
theorem dX12_figures_89 : decode cX12_figures 89 = .ok (.iload_n 3, 1) := by decide +kernel
theorem dX12_figures_90 : decode cX12_figures 90 = .ok (.ifCond .ne 8, 3) := by decide +kernel
theorem dX12_figures_93 : decode cX12_figures 93 = .ok (.aload_n 0, 1) := by decide +kernel
theorem dX12_figures_94 : decode cX12_figures 94 = .ok (.iconst 0, 1) := by decide +kernel
theorem dX12_figures_95 : decode cX12_figures 95 = .ok (.putfield 120, 3) := by decide +kernel
theorem dX12_figures_98 : decode cX12_figures 98 = .ok (.iload_n 2, 1) := by decide +kernel
theorem dX12_figures_99 : decode cX12_figures 99 = .ok (.ireturn, 1) := by decide +kernel
set_option maxRecDepth 20000 in
theorem ggX12_statement_X12_oneOf : GoodIn wsX12_statement wsX12_oneOf := goodIn_r _ [9, 10, 11, 12, 13, 14, 8, 15, 16, 17, 26, 27, 28, 29, 30, 31, 32, 33, 34, 35, 36, 37, 38, 39, 40, 41, 42, 43, 44, 45, 46, 47, 48, 49, 50, 51, 52, 53, 54, 55, 56, 57, 58, 59, 60] (by decide +kernel) (by decide +kernel)
set_option maxRecDepth 20000 in
theorem gX12_statement_X12_oneOf : GoodIn wsX12_statement (wsV RX12 127 RX12 yX12_oneOf wsX12_oneOf) := goodIn_app (goodIn_of _ (by decide +kernel)) ggX12_statement_X12_oneOf
set_option maxRecDepth 20000 in
theorem ggX12_statement_X12_figures : GoodIn wsX12_statement wsX12_figures := goodIn_r _ [21, 10, 11, 16, 17, 26, 27, 28, 29, 30, 31, 32, 33, 34, 35, 36, 37, 38, 39, 40, 41, 42, 43, 44, 45, 46, 47, 48, 49, 50, 51, 52, 53, 54, 55, 56, 57, 58, 59, 60] (by decide +kernel) (by decide +kernel)
set_option maxRecDepth 20000 in
theorem gX12_statement_X12_figures : GoodIn wsX12_statement (wsV RX12 134 RX12 yX12_figures wsX12_figures) := goodIn_app (goodIn_of _ (by decide +kernel)) ggX12_statement_X12_figures
set_option maxRecDepth 20000 in
theorem ggX12_statement_X12_expect : GoodIn wsX12_statement wsX12_expect := goodIn_r _ [25, 10, 11, 12, 13, 14, 8, 15, 16, 17, 26, 27, 28, 29, 30, 31, 32, 33, 34, 35, 36, 37, 38, 39, 40, 41, 42, 43, 44, 45, 46, 47, 48, 49, 50, 51, 52, 53, 54, 55, 56, 57, 58, 59, 60] (by decide +kernel) (by decide +kernel)
set_option maxRecDepth 20000 in
theorem gX12_statement_X12_expect : GoodIn wsX12_statement (wsV RX12 137 RX12 yX12_expect wsX12_expect) := goodIn_app (goodIn_of _ (by decide +kernel)) ggX12_statement_X12_expect
theorem dX12_statement_0 : decode cX12_statement 0 = .ok (.aload_n 0, 1) := by decide +kernel
theorem dX12_statement_1 : decode cX12_statement 1 = .ok (.aload_n 0, 1) := by decide +kernel
theorem dX12_statement_2 : decode cX12_statement 2 = .ok (.aload_n 0, 1) := by decide +kernel
theorem dX12_statement_3 : decode cX12_statement 3 = .ok (.getfield 49, 3) := by decide +kernel
theorem dX12_statement_6 : decode cX12_statement 6 = .ok (.invokevirtual 127, 3) := by decide +kernel
theorem dX12_statement_9 : decode cX12_statement 9 = .ok (.putfield 131, 3) := by decide +kernel
theorem dX12_statement_12 : decode cX12_statement 12 = .ok (.aload_n 0, 1) := by decide +kernel
theorem dX12_statement_13 : decode cX12_statement 13 = .ok (.getfield 131, 3) := by decide +kernel
theorem dX12_statement_16 : decode cX12_statement 16 = .ok (.ifCond .ne 34, 3) := by decide +kernel
theorem dX12_statement_19 : decode cX12_statement 19 = .ok (.aload_n 0, 1) := by decide +kernel
theorem dX12_statement_20 : decode cX12_statement 20 = .ok (.getfield 56, 3) := by decide +kernel
theorem dX12_statement_23 : decode cX12_statement 23 = .ok (.iconst 0, 1) := by decide +kernel
theorem dX12_statement_24 : decode cX12_statement 24 = .ok (.aload_n 0, 1) := by decide +kernel
theorem dX12_statement_25 : decode cX12_statement 25 = .ok (.iconst 2, 1) := by decide +kernel
theorem dX12_statement_26 : decode cX12_statement 26 = .ok (.invokevirtual 134, 3) := by decide +kernel
theorem dX12_statement_29 : decode cX12_statement 29 = .ok (.iastore, 1) := by decide +kernel
theorem dX12_statement_30 : decode cX12_statement 30 = .ok (.aload_n 0, 1) := by decide +kernel
theorem dX12_statement_31 : decode cX12_statement 31 = .ok (.bipush 44, 2) := by decide +kernel
theorem dX12_statement_33 : decode cX12_statement 33 = .ok (.invokevirtual 137, 3) := by decide +kernel
theorem dX12_statement_36 : decode cX12_statement 36 = .ok (.aload_n 0, 1) := by decide +kernel
theorem dX12_statement_37 : decode cX12_statement 37 = .ok (.getfield 56, 3) := by decide +kernel
theorem dX12_statement_40 : decode cX12_statement 40 = .ok (.iconst 1, 1) := by decide +kernel
theorem dX12_statement_41 : decode cX12_statement 41 = .ok (.aload_n 0, 1) := by decide +kernel
theorem dX12_statement_42 : decode cX12_statement 42 = .ok (.iconst 1, 1) := by decide +kernel
theorem dX12_statement_43 : decode cX12_statement 43 = .ok (.invokevirtual 134, 3) := by decide +kernel
theorem dX12_statement_46 : decode cX12_statement 46 = .ok (.iastore, 1) := by decide +kernel
theorem dX12_statement_47 : decode cX12_statement 47 = .ok (.goto 114, 3) := by decide +kernel
theorem dX12_statement_50 : decode cX12_statement 50 = .ok (.aload_n 0, 1) := by decide +kernel
theorem dX12_statement_51 : decode cX12_statement 51 = .ok (.getfield 131, 3) := by decide +kernel
theorem dX12_statement_54 : decode cX12_statement 54 = .ok (.iconst 5, 1) := by decide +kernel
theorem dX12_statement_55 : decode cX12_statement 55 = .ok (.if_icmp .ge 25, 3) := by decide +kernel
theorem dX12_statement_58 : decode cX12_statement 58 = .ok (.aload_n 0, 1) := by decide +kernel
theorem dX12_statement_59 : decode cX12_statement 59 = .ok (.getfield 56, 3) := by decide +kernel
theorem dX12_statement_62 : decode cX12_statement 62 = .ok (.iconst 0, 1) := by decide +kernel
theorem dX12_statement_63 : decode cX12_statement 63 = .ok (.bipush 16, 2) := by decide +kernel
theorem dX12_statement_65 : decode cX12_statement 65 = .ok (.iastore, 1) := by decide +kernel
theorem dX12_statement_66 : decode cX12_statement 66 = .ok (.aload_n 0, 1) := by decide +kernel
theorem dX12_statement_67 : decode cX12_statement 67 = .ok (.getfield 56, 3) := by decide +kernel
theorem dX12_statement_70 : decode cX12_statement 70 = .ok (.iconst 1, 1) := by decide +kernel
theorem dX12_statement_71 : decode cX12_statement 71 = .ok (.aload_n 0, 1) := by decide +kernel
theorem dX12_statement_72 : decode cX12_statement 72 = .ok (.iconst 1, 1) := by decide +kernel
theorem dX12_statement_73 : decode cX12_statement 73 = .ok (.invokevirtual 134, 3) := by decide +kernel
theorem dX12_statement_76 : decode cX12_statement 76 = .ok (.iastore, 1) := by decide +kernel
theorem dX12_statement_77 : decode cX12_statement 77 = .ok (.goto 84, 3) := by decide +kernel
theorem dX12_statement_80 : decode cX12_statement 80 = .ok (.aload_n 0, 1) := by decide +kernel
theorem dX12_statement_81 : decode cX12_statement 81 = .ok (.getfield 131, 3) := by decide +kernel
theorem dX12_statement_84 : decode cX12_statement 84 = .ok (.iconst 5, 1) := by decide +kernel
theorem dX12_statement_85 : decode cX12_statement 85 = .ok (.if_icmp .ne 48, 3) := by decide +kernel
theorem dX12_statement_88 : decode cX12_statement 88 = .ok (.aload_n 0, 1) := by decide +kernel
theorem dX12_statement_89 : decode cX12_statement 89 = .ok (.getfield 56, 3) := by decide +kernel
theorem dX12_statement_92 : decode cX12_statement 92 = .ok (.iconst 0, 1) := by decide +kernel
theorem dX12_statement_93 : decode cX12_statement 93 = .ok (.aload_n 0, 1) := by decide +kernel
theorem dX12_statement_94 : decode cX12_statement 94 = .ok (.aload_n 0, 1) := by decide +kernel
theorem dX12_statement_95 : decode cX12_statement 95 = .ok (.getfield 53, 3) := by decide +kernel
theorem dX12_statement_98 : decode cX12_statement 98 = .ok (.invokevirtual 127, 3) := by decide +kernel
theorem dX12_statement_101 : decode cX12_statement 101 = .ok (.iastore, 1) := by decide +kernel
theorem dX12_statement_102 : decode cX12_statement 102 = .ok (.aload_n 0, 1) := by decide +kernel
theorem dX12_statement_103 : decode cX12_statement 103 = .ok (.getfield 56, 3) := by decide +kernel
theorem dX12_statement_106 : decode cX12_statement 106 = .ok (.iconst 1, 1) := by decide +kernel
theorem dX12_statement_107 : decode cX12_statement 107 = .ok (.aload_n 0, 1) := by decide +kernel
theorem dX12_statement_108 : decode cX12_statement 108 = .ok (.iconst 1, 1) := by decide +kernel
theorem dX12_statement_109 : decode cX12_statement 109 = .ok (.invokevirtual 134, 3) := by decide +kernel
theorem dX12_statement_112 : decode cX12_statement 112 = .ok (.iastore, 1) := by decide +kernel
theorem dX12_statement_113 : decode cX12_statement 113 = .ok (.aload_n 0, 1) := by decide +kernel
theorem dX12_statement_114 : decode cX12_statement 114 = .ok (.bipush 44, 2) := by decide +kernel
theorem dX12_statement_116 : decode cX12_statement 116 = .ok (.invokevirtual 137, 3) := by decide +kernel
theorem dX12_statement_119 : decode cX12_statement 119 = .ok (.aload_n 0, 1) := by decide +kernel
theorem dX12_statement_120 : decode cX12_statement 120 = .ok (.getfield 56, 3) := by decide +kernel
theorem dX12_statement_123 : decode cX12_statement 123 = .ok (.iconst 2, 1) := by decide +kernel
theorem dX12_statement_124 : decode cX12_statement 124 = .ok (.aload_n 0, 1) := by decide +kernel
theorem dX12_statement_125 : decode cX12_statement 125 = .ok (.iconst 2, 1) := by decide +kernel
theorem dX12_statement_126 : decode cX12_statement 126 = .ok (.invokevirtual 134, 3) := by decide +kernel
theorem dX12_statement_129 : decode cX12_statement 129 = .ok (.iastore, 1) := by decide +kernel
theorem dX12_statement_130 : decode cX12_statement 130 = .ok (.goto 31, 3) := by decide +kernel
theorem dX12_statement_133 : decode cX12_statement 133 = .ok (.aload_n 0, 1) := by decide +kernel
theorem dX12_statement_134 : decode cX12_statement 134 = .ok (.getfield 56, 3) := by decide +kernel
theorem dX12_statement_137 : decode cX12_statement 137 = .ok (.iconst 0, 1) := by decide +kernel
theorem dX12_statement_138 : decode cX12_statement 138 = .ok (.aload_n 0, 1) := by decide +kernel
theorem dX12_statement_139 : decode cX12_statement 139 = .ok (.iconst 1, 1) := by decide +kernel
theorem dX12_statement_140 : decode cX12_statement 140 = .ok (.invokevirtual 134, 3) := by decide +kernel
theorem dX12_statement_143 : decode cX12_statement 143 = .ok (.iastore, 1) := by decide +kernel
theorem dX12_statement_144 : decode cX12_statement 144 = .ok (.aload_n 0, 1) := by decide +kernel
theorem dX12_statement_145 : decode cX12_statement 145 = .ok (.bipush 44, 2) := by decide +kernel
theorem dX12_statement_147 : decode cX12_statement 147 = .ok (.invokevirtual 137, 3) := by decide +kernel
theorem dX12_statement_150 : decode cX12_statement 150 = .ok (.aload_n 0, 1) := by decide +kernel
theorem dX12_statement_151 : decode cX12_statement 151 = .ok (.getfield 56, 3) := by decide +kernel
theorem dX12_statement_154 : decode cX12_statement 154 = .ok (.iconst 1, 1) := by decide +kernel
theorem dX12_statement_155 : decode cX12_statement 155 = .ok (.aload_n 0, 1) := by decide +kernel
theorem dX12_statement_156 : decode cX12_statement 156 = .ok (.iconst 1, 1) := by decide +kernel
theorem dX12_statement_157 : decode cX12_statement 157 = .ok (.invokevirtual 134, 3) := by decide +kernel
theorem dX12_statement_160 : decode cX12_statement 160 = .ok (.iastore, 1) := by decide +kernel
theorem dX12_statement_161 : decode cX12_statement 161 = .ok (.aload_n 0, 1) := by decide +kernel
theorem dX12_statement_162 : decode cX12_statement 162 = .ok (.bipush 59, 2) := by decide +kernel
theorem dX12_statement_164 : decode cX12_statement 164 = .ok (.invokevirtual 137, 3) := by decide +kernel
theorem dX12_statement_167 : decode cX12_statement 167 = .ok (.return_, 1) := by decide +kernel
theorem dX12_isAsItMustBe_0 : decode cX12_isAsItMustBe 0 = .ok (.aload_n 0, 1) := by decide +kernel
theorem dX12_isAsItMustBe_1 : decode cX12_isAsItMustBe 1 = .ok (.getfield 131, 3) := by decide +kernel
theorem dX12_isAsItMustBe_4 : decode cX12_isAsItMustBe 4 = .ok (.lookupswitch 109 #[(0, 36), (5, 59), (6, 93)], 36) := by decide +kernel
theorem dX12_isAsItMustBe_40 : decode cX12_isAsItMustBe 40 = .ok (.aload_n 0, 1) := by decide +kernel
theorem dX12_isAsItMustBe_41 : decode cX12_isAsItMustBe 41 = .ok (.getfield 56, 3) := by decide +kernel
theorem dX12_isAsItMustBe_44 : decode cX12_isAsItMustBe 44 = .ok (.iconst 0, 1) := by decide +kernel
theorem dX12_isAsItMustBe_45 : decode cX12_isAsItMustBe 45 = .ok (.iaload, 1) := by decide +kernel
theorem dX12_isAsItMustBe_46 : decode cX12_isAsItMustBe 46 = .ok (.bipush 15, 2) := by decide +kernel
theorem dX12_isAsItMustBe_48 : decode cX12_isAsItMustBe 48 = .ok (.if_icmp .gt 13, 3) := by decide +kernel
theorem dX12_isAsItMustBe_51 : decode cX12_isAsItMustBe 51 = .ok (.iload_n 1, 1) := by decide +kernel
theorem dX12_isAsItMustBe_52 : decode cX12_isAsItMustBe 52 = .ok (.bipush 6, 2) := by decide +kernel
theorem dX12_isAsItMustBe_54 : decode cX12_isAsItMustBe 54 = .ok (.if_icmp .ge 7, 3) := by decide +kernel
theorem dX12_isAsItMustBe_57 : decode cX12_isAsItMustBe 57 = .ok (.iconst 1, 1) := by decide +kernel
theorem dX12_isAsItMustBe_58 : decode cX12_isAsItMustBe 58 = .ok (.goto 4, 3) := by decide +kernel
theorem dX12_isAsItMustBe_61 : decode cX12_isAsItMustBe 61 = .ok (.iconst 0, 1) := by decide +kernel
theorem dX12_isAsItMustBe_62 : decode cX12_isAsItMustBe 62 = .ok (.ireturn, 1) := by decide +kernel
theorem dX12_isAsItMustBe_63 : decode cX12_isAsItMustBe 63 = .ok (.aload_n 0, 1) := by decide +kernel
theorem dX12_isAsItMustBe_64 : decode cX12_isAsItMustBe 64 = .ok (.getfield 56, 3) := by decide +kernel
theorem dX12_isAsItMustBe_67 : decode cX12_isAsItMustBe 67 = .ok (.iconst 1, 1) := by decide +kernel
theorem dX12_isAsItMustBe_68 : decode cX12_isAsItMustBe 68 = .ok (.iaload, 1) := by decide +kernel
theorem dX12_isAsItMustBe_69 : decode cX12_isAsItMustBe 69 = .ok (.bipush 7, 2) := by decide +kernel
theorem dX12_isAsItMustBe_71 : decode cX12_isAsItMustBe 71 = .ok (.if_icmp .gt 24, 3) := by decide +kernel
theorem dX12_isAsItMustBe_74 : decode cX12_isAsItMustBe 74 = .ok (.aload_n 0, 1) := by decide +kernel
theorem dX12_isAsItMustBe_75 : decode cX12_isAsItMustBe 75 = .ok (.getfield 56, 3) := by decide +kernel
theorem dX12_isAsItMustBe_78 : decode cX12_isAsItMustBe 78 = .ok (.iconst 2, 1) := by decide +kernel
theorem dX12_isAsItMustBe_79 : decode cX12_isAsItMustBe 79 = .ok (.iaload, 1) := by decide +kernel
theorem dX12_isAsItMustBe_80 : decode cX12_isAsItMustBe 80 = .ok (.bipush 16, 2) := by decide +kernel
theorem dX12_isAsItMustBe_82 : decode cX12_isAsItMustBe 82 = .ok (.if_icmp .gt 13, 3) := by decide +kernel
theorem dX12_isAsItMustBe_85 : decode cX12_isAsItMustBe 85 = .ok (.iload_n 2, 1) := by decide +kernel
theorem dX12_isAsItMustBe_86 : decode cX12_isAsItMustBe 86 = .ok (.bipush 6, 2) := by decide +kernel
theorem dX12_isAsItMustBe_88 : decode cX12_isAsItMustBe 88 = .ok (.if_icmp .ge 7, 3) := by decide +kernel
theorem dX12_isAsItMustBe_91 : decode cX12_isAsItMustBe 91 = .ok (.iconst 1, 1) := by decide +kernel
theorem dX12_isAsItMustBe_92 : decode cX12_isAsItMustBe 92 = .ok (.goto 4, 3) := by decide +kernel
theorem dX12_isAsItMustBe_95 : decode cX12_isAsItMustBe 95 = .ok (.iconst 0, 1) := by decide +kernel
theorem dX12_isAsItMustBe_96 : decode cX12_isAsItMustBe 96 = .ok (.ireturn, 1) := by decide +kernel
theorem dX12_isAsItMustBe_97 : decode cX12_isAsItMustBe 97 = .ok (.aload_n 0, 1) := by decide +kernel
theorem dX12_isAsItMustBe_98 : decode cX12_isAsItMustBe 98 = .ok (.getfield 56, 3) := by decide +kernel
theorem dX12_isAsItMustBe_101 : decode cX12_isAsItMustBe 101 = .ok (.iconst 0, 1) := by decide +kernel
theorem dX12_isAsItMustBe_102 : decode cX12_isAsItMustBe 102 = .ok (.iaload, 1) := by decide +kernel
theorem dX12_isAsItMustBe_103 : decode cX12_isAsItMustBe 103 = .ok (.iload_n 1, 1) := by decide +kernel
theorem dX12_isAsItMustBe_104 : decode cX12_isAsItMustBe 104 = .ok (.if_icmp .ge 7, 3) := by decide +kernel
theorem dX12_isAsItMustBe_107 : decode cX12_isAsItMustBe 107 = .ok (.iconst 1, 1) := by decide +kernel
theorem dX12_isAsItMustBe_108 : decode cX12_isAsItMustBe 108 = .ok (.goto 4, 3) := by decide +kernel
theorem dX12_isAsItMustBe_111 : decode cX12_isAsItMustBe 111 = .ok (.iconst 0, 1) := by decide +kernel
theorem dX12_isAsItMustBe_112 : decode cX12_isAsItMustBe 112 = .ok (.ireturn, 1) := by decide +kernel
theorem dX12_isAsItMustBe_113 : decode cX12_isAsItMustBe 113 = .ok (.iload_n 1, 1) := by decide +kernel
theorem dX12_isAsItMustBe_114 : decode cX12_isAsItMustBe 114 = .ok (.bipush 6, 2) := by decide +kernel
theorem dX12_isAsItMustBe_116 : decode cX12_isAsItMustBe 116 = .ok (.if_icmp .ge 7, 3) := by decide +kernel
theorem dX12_isAsItMustBe_119 : decode cX12_isAsItMustBe 119 = .ok (.iconst 1, 1) := by decide +kernel
theorem dX12_isAsItMustBe_120 : decode cX12_isAsItMustBe 120 = .ok (.goto 4, 3) := by decide +kernel
theorem dX12_isAsItMustBe_123 : decode cX12_isAsItMustBe 123 = .ok (.iconst 0, 1) := by decide +kernel
theorem dX12_isAsItMustBe_124 : decode cX12_isAsItMustBe 124 = .ok (.ireturn, 1) := by decide +kernel
theorem dX12_come_0 : decode cX12_come 0 = .ok (.aload_n 0, 1) := by decide +kernel
theorem dX12_come_1 : decode cX12_come 1 = .ok (.getfield 131, 3) := by decide +kernel
theorem dX12_come_4 : decode cX12_come 4 = .ok (.iconst 5, 1) := by decide +kernel
theorem dX12_come_5 : decode cX12_come 5 = .ok (.if_icmp .ge 69, 3) := by decide +kernel
theorem dX12_come_8 : decode cX12_come 8 = .ok (.aload_n 0, 1) := by decide +kernel
theorem dX12_come_9 : decode cX12_come 9 = .ok (.getfield 13, 3) := by decide +kernel
theorem dX12_come_12 : decode cX12_come 12 = .ok (.aload_n 0, 1) := by decide +kernel
theorem dX12_come_13 : decode cX12_come 13 = .ok (.getfield 85, 3) := by decide +kernel
theorem dX12_come_16 : decode cX12_come 16 = .ok (.aload_n 0, 1) := by decide +kernel
theorem dX12_come_17 : decode cX12_come 17 = .ok (.getfield 131, 3) := by decide +kernel
theorem dX12_come_20 : decode cX12_come 20 = .ok (.iastore, 1) := by decide +kernel
theorem dX12_come_21 : decode cX12_come 21 = .ok (.aload_n 0, 1) := by decide +kernel
theorem dX12_come_22 : decode cX12_come 22 = .ok (.getfield 16, 3) := by decide +kernel
theorem dX12_come_25 : decode cX12_come 25 = .ok (.aload_n 0, 1) := by decide +kernel
theorem dX12_come_26 : decode cX12_come 26 = .ok (.getfield 85, 3) := by decide +kernel
theorem dX12_come_29 : decode cX12_come 29 = .ok (.aload_n 0, 1) := by decide +kernel
theorem dX12_come_30 : decode cX12_come 30 = .ok (.getfield 56, 3) := by decide +kernel
theorem dX12_come_33 : decode cX12_come 33 = .ok (.iconst 0, 1) := by decide +kernel
theorem dX12_come_34 : decode cX12_come 34 = .ok (.iaload, 1) := by decide +kernel
theorem dX12_come_35 : decode cX12_come 35 = .ok (.iastore, 1) := by decide +kernel
theorem dX12_come_36 : decode cX12_come 36 = .ok (.aload_n 0, 1) := by decide +kernel
theorem dX12_come_37 : decode cX12_come 37 = .ok (.getfield 19, 3) := by decide +kernel
theorem dX12_come_40 : decode cX12_come 40 = .ok (.aload_n 0, 1) := by decide +kernel
theorem dX12_come_41 : decode cX12_come 41 = .ok (.getfield 85, 3) := by decide +kernel
theorem dX12_come_44 : decode cX12_come 44 = .ok (.aload_n 0, 1) := by decide +kernel
theorem dX12_come_45 : decode cX12_come 45 = .ok (.getfield 56, 3) := by decide +kernel
theorem dX12_come_48 : decode cX12_come 48 = .ok (.iconst 1, 1) := by decide +kernel
theorem dX12_come_49 : decode cX12_come 49 = .ok (.iaload, 1) := by decide +kernel
theorem dX12_come_50 : decode cX12_come 50 = .ok (.iastore, 1) := by decide +kernel
theorem dX12_come_51 : decode cX12_come 51 = .ok (.aload_n 0, 1) := by decide +kernel
theorem dX12_come_52 : decode cX12_come 52 = .ok (.getfield 22, 3) := by decide +kernel
theorem dX12_come_55 : decode cX12_come 55 = .ok (.aload_n 0, 1) := by decide +kernel
theorem dX12_come_56 : decode cX12_come 56 = .ok (.getfield 85, 3) := by decide +kernel
theorem dX12_come_59 : decode cX12_come 59 = .ok (.iconst 0, 1) := by decide +kernel
theorem dX12_come_60 : decode cX12_come 60 = .ok (.iastore, 1) := by decide +kernel
theorem dX12_come_61 : decode cX12_come 61 = .ok (.aload_n 0, 1) := by decide +kernel
theorem dX12_come_62 : decode cX12_come 62 = .ok (.dup, 1) := by decide +kernel
theorem dX12_come_63 : decode cX12_come 63 = .ok (.getfield 85, 3) := by decide +kernel
theorem dX12_come_66 : decode cX12_come 66 = .ok (.iconst 1, 1) := by decide +kernel
theorem dX12_come_67 : decode cX12_come 67 = .ok (.iadd, 1) := by decide +kernel
theorem dX12_come_68 : decode cX12_come 68 = .ok (.putfield 85, 3) := by decide +kernel
theorem dX12_come_71 : decode cX12_come 71 = .ok (.goto 86, 3) := by decide +kernel
theorem dX12_come_74 : decode cX12_come 74 = .ok (.aload_n 0, 1) := by decide +kernel
theorem dX12_come_75 : decode cX12_come 75 = .ok (.getfield 131, 3) := by decide +kernel
theorem dX12_come_78 : decode cX12_come 78 = .ok (.iconst 5, 1) := by decide +kernel
theorem dX12_come_79 : decode cX12_come 79 = .ok (.if_icmp .ne 61, 3) := by decide +kernel
theorem dX12_come_82 : decode cX12_come 82 = .ok (.aload_n 0, 1) := by decide +kernel
theorem dX12_come_83 : decode cX12_come 83 = .ok (.getfield 25, 3) := by decide +kernel
theorem dX12_come_86 : decode cX12_come 86 = .ok (.aload_n 0, 1) := by decide +kernel
theorem dX12_come_87 : decode cX12_come 87 = .ok (.getfield 92, 3) := by decide +kernel
theorem dX12_come_90 : decode cX12_come 90 = .ok (.aload_n 0, 1) := by decide +kernel
theorem dX12_come_91 : decode cX12_come 91 = .ok (.getfield 56, 3) := by decide +kernel
theorem dX12_come_94 : decode cX12_come 94 = .ok (.iconst 0, 1) := by decide +kernel
theorem dX12_come_95 : decode cX12_come 95 = .ok (.iaload, 1) := by decide +kernel
theorem dX12_come_96 : decode cX12_come 96 = .ok (.iastore, 1) := by decide +kernel
theorem dX12_come_97 : decode cX12_come 97 = .ok (.aload_n 0, 1) := by decide +kernel
theorem dX12_come_98 : decode cX12_come 98 = .ok (.getfield 28, 3) := by decide +kernel
theorem dX12_come_101 : decode cX12_come 101 = .ok (.aload_n 0, 1) := by decide +kernel
theorem dX12_come_102 : decode cX12_come 102 = .ok (.getfield 92, 3) := by decide +kernel
theorem dX12_come_105 : decode cX12_come 105 = .ok (.aload_n 0, 1) := by decide +kernel
theorem dX12_come_106 : decode cX12_come 106 = .ok (.getfield 56, 3) := by decide +kernel
theorem dX12_come_109 : decode cX12_come 109 = .ok (.iconst 1, 1) := by decide +kernel
theorem dX12_come_110 : decode cX12_come 110 = .ok (.iaload, 1) := by decide +kernel
theorem dX12_come_111 : decode cX12_come 111 = .ok (.iastore, 1) := by decide +kernel
theorem dX12_come_112 : decode cX12_come 112 = .ok (.aload_n 0, 1) := by decide +kernel
theorem dX12_come_113 : decode cX12_come 113 = .ok (.getfield 31, 3) := by decide +kernel
theorem dX12_come_116 : decode cX12_come 116 = .ok (.aload_n 0, 1) := by decide +kernel
theorem dX12_come_117 : decode cX12_come 117 = .ok (.getfield 92, 3) := by decide +kernel
theorem dX12_come_120 : decode cX12_come 120 = .ok (.aload_n 0, 1) := by decide +kernel
theorem dX12_come_121 : decode cX12_come 121 = .ok (.getfield 56, 3) := by decide +kernel
theorem dX12_come_124 : decode cX12_come 124 = .ok (.iconst 2, 1) := by decide +kernel
theorem dX12_come_125 : decode cX12_come 125 = .ok (.iaload, 1) := by decide +kernel
theorem dX12_come_126 : decode cX12_come 126 = .ok (.iastore, 1) := by decide +kernel
theorem dX12_come_127 : decode cX12_come 127 = .ok (.aload_n 0, 1) := by decide +kernel
theorem dX12_come_128 : decode cX12_come 128 = .ok (.dup, 1) := by decide +kernel
theorem dX12_come_129 : decode cX12_come 129 = .ok (.getfield 92, 3) := by decide +kernel
theorem dX12_come_132 : decode cX12_come 132 = .ok (.iconst 1, 1) := by decide +kernel
theorem dX12_come_133 : decode cX12_come 133 = .ok (.iadd, 1) := by decide +kernel
theorem dX12_come_134 : decode cX12_come 134 = .ok (.putfield 92, 3) := by decide +kernel
theorem dX12_come_137 : decode cX12_come 137 = .ok (.goto 20, 3) := by decide +kernel
theorem dX12_come_140 : decode cX12_come 140 = .ok (.aload_n 0, 1) := by decide +kernel
theorem dX12_come_141 : decode cX12_come 141 = .ok (.getfield 22, 3) := by decide +kernel
theorem dX12_come_144 : decode cX12_come 144 = .ok (.aload_n 0, 1) := by decide +kernel
theorem dX12_come_145 : decode cX12_come 145 = .ok (.getfield 56, 3) := by decide +kernel
theorem dX12_come_148 : decode cX12_come 148 = .ok (.iconst 0, 1) := by decide +kernel
theorem dX12_come_149 : decode cX12_come 149 = .ok (.iaload, 1) := by decide +kernel
theorem dX12_come_150 : decode cX12_come 150 = .ok (.aload_n 0, 1) := by decide +kernel
theorem dX12_come_151 : decode cX12_come 151 = .ok (.getfield 56, 3) := by decide +kernel
theorem dX12_come_154 : decode cX12_come 154 = .ok (.iconst 1, 1) := by decide +kernel
theorem dX12_come_155 : decode cX12_come 155 = .ok (.iaload, 1) := by decide +kernel
theorem dX12_come_156 : decode cX12_come 156 = .ok (.iastore, 1) := by decide +kernel
theorem dX12_come_157 : decode cX12_come 157 = .ok (.return_, 1) := by decide +kernel
set_option maxRecDepth 20000 in
theorem ggX12_read_X12_statement : GoodIn wsX12_read wsX12_statement := goodIn_r _ [11, 12, 6, 13, 14, 15, 16, 17, 10, 18, 2, 1, 19, 20, 21, 22, 3, 23, 24, 25, 26, 27, 28, 29, 30, 31, 47, 48, 49, 50, 51, 52, 53, 54, 55, 56, 57, 58, 59, 60, 61, 62, 63, 64, 65, 66, 67, 68, 69, 70, 71, 72, 73, 74, 75, 76, 77, 78, 79, 80, 81] (by decide +kernel) (by decide +kernel)
set_option maxRecDepth 20000 in
theorem gX12_read_X12_statement : GoodIn wsX12_read (wsV RX12 141 RX12 yX12_statement wsX12_statement) := goodIn_app (goodIn_of _ (by decide +kernel)) ggX12_read_X12_statement
set_option maxRecDepth 20000 in
theorem ggX12_read_X12_isAsItMustBe : GoodIn wsX12_read wsX12_isAsItMustBe := goodIn_r _ [35, 6, 13, 47, 48, 49, 50, 51, 52, 53, 54, 55, 56, 57, 58, 59, 60, 61, 62, 63, 64, 65, 66, 67, 68, 69, 70, 71, 72, 73, 74, 75, 76, 77, 78, 79, 80, 81] (by decide +kernel) (by decide +kernel)
set_option maxRecDepth 20000 in
theorem gX12_read_X12_isAsItMustBe : GoodIn wsX12_read (wsV RX12 144 RX12 yX12_isAsItMustBe wsX12_isAsItMustBe) := goodIn_app (goodIn_of _ (by decide +kernel)) ggX12_read_X12_isAsItMustBe
set_option maxRecDepth 20000 in
theorem ggX12_read_X12_come : GoodIn wsX12_read wsX12_come := goodIn_r _ [39, 6, 40, 4, 41, 13, 42, 43, 44, 5, 45, 46, 47, 48, 49, 50, 51, 52, 53, 54, 55, 56, 57, 58, 59, 60, 61, 62, 63, 64, 65, 66, 67, 68, 69, 70, 71, 72, 73, 74, 75, 76, 77, 78, 79, 80, 81] (by decide +kernel) (by decide +kernel)
set_option maxRecDepth 20000 in
theorem gX12_read_X12_come : GoodIn wsX12_read (wsV RX12 148 RX12 yX12_come wsX12_come) := goodIn_app (goodIn_of _ (by decide +kernel)) ggX12_read_X12_come
theorem dX12_read_0 : decode cX12_read 0 = .ok (.iconst 0, 1) := by decide +kernel
theorem dX12_read_1 : decode cX12_read 1 = .ok (.istore_n 1, 1) := by decide +kernel
theorem dX12_read_2 : decode cX12_read 2 = .ok (.aload_n 0, 1) := by decide +kernel
theorem dX12_read_3 : decode cX12_read 3 = .ok (.iconst 0, 1) := by decide +kernel
theorem dX12_read_4 : decode cX12_read 4 = .ok (.putfield 117, 3) := by decide +kernel
theorem dX12_read_7 : decode cX12_read 7 = .ok (.aload_n 0, 1) := by decide +kernel
theorem dX12_read_8 : decode cX12_read 8 = .ok (.iconst 1, 1) := by decide +kernel
theorem dX12_read_9 : decode cX12_read 9 = .ok (.putfield 120, 3) := by decide +kernel
theorem dX12_read_12 : decode cX12_read 12 = .ok (.aload_n 0, 1) := by decide +kernel
theorem dX12_read_13 : decode cX12_read 13 = .ok (.invokevirtual 141, 3) := by decide +kernel
theorem dX12_read_16 : decode cX12_read 16 = .ok (.iinc 1 1, 3) := by decide +kernel
theorem dX12_read_19 : decode cX12_read 19 = .ok (.aload_n 0, 1) := by decide +kernel
theorem dX12_read_20 : decode cX12_read 20 = .ok (.getfield 120, 3) := by decide +kernel
theorem dX12_read_23 : decode cX12_read 23 = .ok (.ifCond .eq 14, 3) := by decide +kernel
theorem dX12_read_26 : decode cX12_read 26 = .ok (.aload_n 0, 1) := by decide +kernel
theorem dX12_read_27 : decode cX12_read 27 = .ok (.getfield 117, 3) := by decide +kernel
theorem dX12_read_30 : decode cX12_read 30 = .ok (.aload_n 0, 1) := by decide +kernel
theorem dX12_read_31 : decode cX12_read 31 = .ok (.getfield 114, 3) := by decide +kernel
theorem dX12_read_34 : decode cX12_read 34 = .ok (.if_icmp .lt (-22), 3) := by decide +kernel
theorem dX12_read_37 : decode cX12_read 37 = .ok (.aload_n 0, 1) := by decide +kernel
theorem dX12_read_38 : decode cX12_read 38 = .ok (.getfield 120, 3) := by decide +kernel
theorem dX12_read_41 : decode cX12_read 41 = .ok (.ifCond .ne 12, 3) := by decide +kernel
theorem dX12_read_44 : decode cX12_read 44 = .ok (.sipush (-1000), 3) := by decide +kernel
theorem dX12_read_47 : decode cX12_read 47 = .ok (.aload_n 0, 1) := by decide +kernel
theorem dX12_read_48 : decode cX12_read 48 = .ok (.getfield 117, 3) := by decide +kernel
theorem dX12_read_51 : decode cX12_read 51 = .ok (.isub, 1) := by decide +kernel
theorem dX12_read_52 : decode cX12_read 52 = .ok (.ireturn, 1) := by decide +kernel
theorem dX12_read_53 : decode cX12_read 53 = .ok (.aload_n 0, 1) := by decide +kernel
theorem dX12_read_54 : decode cX12_read 54 = .ok (.iconst 0, 1) := by decide +kernel
theorem dX12_read_55 : decode cX12_read 55 = .ok (.putfield 117, 3) := by decide +kernel
theorem dX12_read_58 : decode cX12_read 58 = .ok (.aload_n 0, 1) := by decide +kernel
theorem dX12_read_59 : decode cX12_read 59 = .ok (.getfield 85, 3) := by decide +kernel
theorem dX12_read_62 : decode cX12_read 62 = .ok (.istore_n 2, 1) := by decide +kernel
theorem dX12_read_63 : decode cX12_read 63 = .ok (.aload_n 0, 1) := by decide +kernel
theorem dX12_read_64 : decode cX12_read 64 = .ok (.getfield 92, 3) := by decide +kernel
theorem dX12_read_67 : decode cX12_read 67 = .ok (.istore_n 3, 1) := by decide +kernel
theorem dX12_read_68 : decode cX12_read 68 = .ok (.aload_n 0, 1) := by decide +kernel
theorem dX12_read_69 : decode cX12_read 69 = .ok (.getfield 117, 3) := by decide +kernel
theorem dX12_read_72 : decode cX12_read 72 = .ok (.aload_n 0, 1) := by decide +kernel
theorem dX12_read_73 : decode cX12_read 73 = .ok (.getfield 114, 3) := by decide +kernel
theorem dX12_read_76 : decode cX12_read 76 = .ok (.if_icmp .ge 64, 3) := by decide +kernel
theorem dX12_read_79 : decode cX12_read 79 = .ok (.aload_n 0, 1) := by decide +kernel
theorem dX12_read_80 : decode cX12_read 80 = .ok (.getfield 117, 3) := by decide +kernel
theorem dX12_read_83 : decode cX12_read 83 = .ok (.istore 4, 2) := by decide +kernel
theorem dX12_read_85 : decode cX12_read 85 = .ok (.aload_n 0, 1) := by decide +kernel
theorem dX12_read_86 : decode cX12_read 86 = .ok (.invokevirtual 141, 3) := by decide +kernel
theorem dX12_read_89 : decode cX12_read 89 = .ok (.aload_n 0, 1) := by decide +kernel
theorem dX12_read_90 : decode cX12_read 90 = .ok (.iload_n 2, 1) := by decide +kernel
theorem dX12_read_91 : decode cX12_read 91 = .ok (.iload_n 3, 1) := by decide +kernel
theorem dX12_read_92 : decode cX12_read 92 = .ok (.invokevirtual 144, 3) := by decide +kernel
theorem dX12_read_95 : decode cX12_read 95 = .ok (.ifCond .ne 10, 3) := by decide +kernel
theorem dX12_read_98 : decode cX12_read 98 = .ok (.sipush (-2000), 3) := by decide +kernel
theorem dX12_read_101 : decode cX12_read 101 = .ok (.iload 4, 2) := by decide +kernel
theorem dX12_read_103 : decode cX12_read 103 = .ok (.isub, 1) := by decide +kernel
theorem dX12_read_104 : decode cX12_read 104 = .ok (.ireturn, 1) := by decide +kernel
theorem dX12_read_105 : decode cX12_read 105 = .ok (.iload_n 2, 1) := by decide +kernel
theorem dX12_read_106 : decode cX12_read 106 = .ok (.aload_n 0, 1) := by decide +kernel
theorem dX12_read_107 : decode cX12_read 107 = .ok (.getfield 131, 3) := by decide +kernel
theorem dX12_read_110 : decode cX12_read 110 = .ok (.iconst 5, 1) := by decide +kernel
theorem dX12_read_111 : decode cX12_read 111 = .ok (.if_icmp .ge 7, 3) := by decide +kernel
theorem dX12_read_114 : decode cX12_read 114 = .ok (.iconst 1, 1) := by decide +kernel
theorem dX12_read_115 : decode cX12_read 115 = .ok (.goto 4, 3) := by decide +kernel
theorem dX12_read_118 : decode cX12_read 118 = .ok (.iconst 0, 1) := by decide +kernel
theorem dX12_read_119 : decode cX12_read 119 = .ok (.iadd, 1) := by decide +kernel
theorem dX12_read_120 : decode cX12_read 120 = .ok (.istore_n 2, 1) := by decide +kernel
theorem dX12_read_121 : decode cX12_read 121 = .ok (.iload_n 3, 1) := by decide +kernel
theorem dX12_read_122 : decode cX12_read 122 = .ok (.aload_n 0, 1) := by decide +kernel
theorem dX12_read_123 : decode cX12_read 123 = .ok (.getfield 131, 3) := by decide +kernel
theorem dX12_read_126 : decode cX12_read 126 = .ok (.iconst 5, 1) := by decide +kernel
theorem dX12_read_127 : decode cX12_read 127 = .ok (.if_icmp .ne 7, 3) := by decide +kernel
theorem dX12_read_130 : decode cX12_read 130 = .ok (.iconst 1, 1) := by decide +kernel
theorem dX12_read_131 : decode cX12_read 131 = .ok (.goto 4, 3) := by decide +kernel
theorem dX12_read_134 : decode cX12_read 134 = .ok (.iconst 0, 1) := by decide +kernel
theorem dX12_read_135 : decode cX12_read 135 = .ok (.iadd, 1) := by decide +kernel
theorem dX12_read_136 : decode cX12_read 136 = .ok (.istore_n 3, 1) := by decide +kernel
theorem dX12_read_137 : decode cX12_read 137 = .ok (.goto (-69), 3) := by decide +kernel
theorem dX12_read_140 : decode cX12_read 140 = .ok (.aload_n 0, 1) := by decide +kernel
theorem dX12_read_141 : decode cX12_read 141 = .ok (.iconst 0, 1) := by decide +kernel
theorem dX12_read_142 : decode cX12_read 142 = .ok (.putfield 117, 3) := by decide +kernel
theorem dX12_read_145 : decode cX12_read 145 = .ok (.aload_n 0, 1) := by decide +kernel
theorem dX12_read_146 : decode cX12_read 146 = .ok (.getfield 117, 3) := by decide +kernel
theorem dX12_read_149 : decode cX12_read 149 = .ok (.aload_n 0, 1) := by decide +kernel
theorem dX12_read_150 : decode cX12_read 150 = .ok (.getfield 114, 3) := by decide +kernel
theorem dX12_read_153 : decode cX12_read 153 = .ok (.if_icmp .ge 14, 3) := by decide +kernel
theorem dX12_read_156 : decode cX12_read 156 = .ok (.aload_n 0, 1) := by decide +kernel
theorem dX12_read_157 : decode cX12_read 157 = .ok (.invokevirtual 141, 3) := by decide +kernel
theorem dX12_read_160 : decode cX12_read 160 = .ok (.aload_n 0, 1) := by decide +kernel
theorem dX12_read_161 : decode cX12_read 161 = .ok (.invokevirtual 148, 3) := by decide +kernel
theorem dX12_read_164 : decode cX12_read 164 = .ok (.goto (-19), 3) := by decide +kernel
theorem dX12_read_167 : decode cX12_read 167 = .ok (.iload_n 1, 1) := by decide +kernel
theorem dX12_read_168 : decode cX12_read 168 = .ok (.ireturn, 1) := by decide +kernel
set_option maxRecDepth 20000 in
theorem ggX12_tongue_X12_read : GoodIn wsX12_tongue wsX12_read := goodIn_r _ [6, 7, 8, 1, 9, 10, 11, 12, 13, 14, 5, 15, 16, 17, 18, 19, 20, 21, 22, 23, 24, 25, 26, 27, 28, 29, 30, 31, 32, 33, 34, 35, 36, 37, 38, 39, 40, 41, 42, 43, 44, 45, 46, 47, 48, 49, 50, 51, 52, 53, 54, 55, 56, 57, 58, 59, 60, 61, 62, 63, 64, 65, 66, 67, 68, 69, 70, 71, 72, 73, 74, 75, 76, 77, 78, 79, 80, 81, 82, 83, 84, 85] (by decide +kernel) (by decide +kernel)
set_option maxRecDepth 20000 in
theorem gX12_tongue_X12_read : GoodIn wsX12_tongue (wsV RX12 151 RX12 yX12_read wsX12_read) := goodIn_app (goodIn_of _ (by decide +kernel)) ggX12_tongue_X12_read
theorem dX12_tongue_0 : decode cX12_tongue 0 = .ok (.aload_n 0, 1) := by decide +kernel
theorem dX12_tongue_1 : decode cX12_tongue 1 = .ok (.invokevirtual 151, 3) := by decide +kernel
theorem dX12_tongue_4 : decode cX12_tongue 4 = .ok (.istore_n 1, 1) := by decide +kernel
theorem dX12_tongue_5 : decode cX12_tongue 5 = .ok (.aload_n 0, 1) := by decide +kernel
theorem dX12_tongue_6 : decode cX12_tongue 6 = .ok (.iconst 0, 1) := by decide +kernel
theorem dX12_tongue_7 : decode cX12_tongue 7 = .ok (.putfield 114, 3) := by decide +kernel
theorem dX12_tongue_10 : decode cX12_tongue 10 = .ok (.iload_n 1, 1) := by decide +kernel
theorem dX12_tongue_11 : decode cX12_tongue 11 = .ok (.ireturn, 1) := by decide +kernel
theorem dX12_means_0 : decode cX12_means 0 = .ok (.iload 4, 2) := by decide +kernel
theorem dX12_means_2 : decode cX12_means 2 = .ok (.iconst 4, 1) := by decide +kernel
theorem dX12_means_3 : decode cX12_means 3 = .ok (.if_icmp .ne 11, 3) := by decide +kernel
theorem dX12_means_6 : decode cX12_means 6 = .ok (.iload_n 2, 1) := by decide +kernel
theorem dX12_means_7 : decode cX12_means 7 = .ok (.iconst 1, 1) := by decide +kernel
theorem dX12_means_8 : decode cX12_means 8 = .ok (.iadd, 1) := by decide +kernel
theorem dX12_means_9 : decode cX12_means 9 = .ok (.iconst 2, 1) := by decide +kernel
theorem dX12_means_10 : decode cX12_means 10 = .ok (.idiv, 1) := by decide +kernel
theorem dX12_means_11 : decode cX12_means 11 = .ok (.goto 4, 3) := by decide +kernel
theorem dX12_means_14 : decode cX12_means 14 = .ok (.iload_n 2, 1) := by decide +kernel
theorem dX12_means_15 : decode cX12_means 15 = .ok (.istore 5, 2) := by decide +kernel
theorem dX12_means_17 : decode cX12_means 17 = .ok (.iload 4, 2) := by decide +kernel
theorem dX12_means_19 : decode cX12_means 19 = .ok (.iconst 1, 1) := by decide +kernel
theorem dX12_means_20 : decode cX12_means 20 = .ok (.if_icmp .ne 9, 3) := by decide +kernel
theorem dX12_means_23 : decode cX12_means 23 = .ok (.iload_n 2, 1) := by decide +kernel
theorem dX12_means_24 : decode cX12_means 24 = .ok (.iconst 1, 1) := by decide +kernel
theorem dX12_means_25 : decode cX12_means 25 = .ok (.isub, 1) := by decide +kernel
theorem dX12_means_26 : decode cX12_means 26 = .ok (.goto 14, 3) := by decide +kernel
theorem dX12_means_29 : decode cX12_means 29 = .ok (.iload 4, 2) := by decide +kernel
theorem dX12_means_31 : decode cX12_means 31 = .ok (.iconst 3, 1) := by decide +kernel
theorem dX12_means_32 : decode cX12_means 32 = .ok (.if_icmp .ne 7, 3) := by decide +kernel
theorem dX12_means_35 : decode cX12_means 35 = .ok (.iconst 2, 1) := by decide +kernel
theorem dX12_means_36 : decode cX12_means 36 = .ok (.goto 4, 3) := by decide +kernel
theorem dX12_means_39 : decode cX12_means 39 = .ok (.iconst 1, 1) := by decide +kernel
theorem dX12_means_40 : decode cX12_means 40 = .ok (.istore 6, 2) := by decide +kernel
theorem dX12_means_42 : decode cX12_means 42 = .ok (.iload_n 3, 1) := by decide +kernel
theorem dX12_means_43 : decode cX12_means 43 = .ok (.istore 7, 2) := by decide +kernel
theorem dX12_means_45 : decode cX12_means 45 = .ok (.iconst 0, 1) := by decide +kernel
theorem dX12_means_46 : decode cX12_means 46 = .ok (.istore 8, 2) := by decide +kernel
theorem dX12_means_48 : decode cX12_means 48 = .ok (.iconst 3, 1) := by decide +kernel
theorem dX12_means_49 : decode cX12_means 49 = .ok (.istore 9, 2) := by decide +kernel
theorem dX12_means_51 : decode cX12_means 51 = .ok (.iconst 0, 1) := by decide +kernel
theorem dX12_means_52 : decode cX12_means 52 = .ok (.istore 10, 2) := by decide +kernel
theorem dX12_means_54 : decode cX12_means 54 = .ok (.iconst 1, 1) := by decide +kernel
theorem dX12_means_55 : decode cX12_means 55 = .ok (.istore 11, 2) := by decide +kernel
theorem dX12_means_57 : decode cX12_means 57 = .ok (.iconst 0, 1) := by decide +kernel
theorem dX12_means_58 : decode cX12_means 58 = .ok (.istore 12, 2) := by decide +kernel
theorem dX12_means_60 : decode cX12_means 60 = .ok (.iconst 1, 1) := by decide +kernel
theorem dX12_means_61 : decode cX12_means 61 = .ok (.istore 13, 2) := by decide +kernel
theorem dX12_means_63 : decode cX12_means 63 = .ok (.iconst 0, 1) := by decide +kernel
theorem dX12_means_64 : decode cX12_means 64 = .ok (.istore 14, 2) := by decide +kernel
theorem dX12_means_66 : decode cX12_means 66 = .ok (.iconst 0, 1) := by decide +kernel
theorem dX12_means_67 : decode cX12_means 67 = .ok (.istore 15, 2) := by decide +kernel
theorem dX12_means_69 : decode cX12_means 69 = .ok (.iload 15, 2) := by decide +kernel
theorem dX12_means_71 : decode cX12_means 71 = .ok (.iload 5, 2) := by decide +kernel
theorem dX12_means_73 : decode cX12_means 73 = .ok (.if_icmp .ge 205, 3) := by decide +kernel
theorem dX12_means_76 : decode cX12_means 76 = .ok (.iload 13, 2) := by decide +kernel
theorem dX12_means_78 : decode cX12_means 78 = .ok (.ifCond .eq 200, 3) := by decide +kernel
theorem dX12_means_81 : decode cX12_means 81 = .ok (.iload 14, 2) := by decide +kernel
theorem dX12_means_83 : decode cX12_means 83 = .ok (.ifCond .ne 195, 3) := by decide +kernel
theorem dX12_means_86 : decode cX12_means 86 = .ok (.aload_n 1, 1) := by decide +kernel
theorem dX12_means_87 : decode cX12_means 87 = .ok (.iload 7, 2) := by decide +kernel
theorem dX12_means_89 : decode cX12_means 89 = .ok (.iaload, 1) := by decide +kernel
theorem dX12_means_90 : decode cX12_means 90 = .ok (.istore 16, 2) := by decide +kernel
theorem dX12_means_92 : decode cX12_means 92 = .ok (.iload 7, 2) := by decide +kernel
theorem dX12_means_94 : decode cX12_means 94 = .ok (.iload 6, 2) := by decide +kernel
theorem dX12_means_96 : decode cX12_means 96 = .ok (.iadd, 1) := by decide +kernel
theorem dX12_means_97 : decode cX12_means 97 = .ok (.iload_n 2, 1) := by decide +kernel
theorem dX12_means_98 : decode cX12_means 98 = .ok (.irem, 1) := by decide +kernel
theorem dX12_means_99 : decode cX12_means 99 = .ok (.istore 7, 2) := by decide +kernel
theorem dX12_means_101 : decode cX12_means 101 = .ok (.iload 16, 2) := by decide +kernel
theorem dX12_means_103 : decode cX12_means 103 = .ok (.iconst (-1), 1) := by decide +kernel
theorem dX12_means_104 : decode cX12_means 104 = .ok (.if_icmp .eq 168, 3) := by decide +kernel
theorem dX12_means_107 : decode cX12_means 107 = .ok (.aload_n 0, 1) := by decide +kernel
theorem dX12_means_108 : decode cX12_means 108 = .ok (.getfield 13, 3) := by decide +kernel
theorem dX12_means_111 : decode cX12_means 111 = .ok (.iload 16, 2) := by decide +kernel
theorem dX12_means_113 : decode cX12_means 113 = .ok (.iaload, 1) := by decide +kernel
theorem dX12_means_114 : decode cX12_means 114 = .ok (.tableswitch 140 0 3 #[30, 94, 113, 113], 30) := by decide +kernel
theorem dX12_means_144 : decode cX12_means 144 = .ok (.iload 12, 2) := by decide +kernel
theorem dX12_means_146 : decode cX12_means 146 = .ok (.ifCond .eq 16, 3) := by decide +kernel
theorem dX12_means_149 : decode cX12_means 149 = .ok (.bipush 15, 2) := by decide +kernel
theorem dX12_means_151 : decode cX12_means 151 = .ok (.aload_n 0, 1) := by decide +kernel
theorem dX12_means_152 : decode cX12_means 152 = .ok (.getfield 16, 3) := by decide +kernel
theorem dX12_means_155 : decode cX12_means 155 = .ok (.iload 16, 2) := by decide +kernel
theorem dX12_means_157 : decode cX12_means 157 = .ok (.iaload, 1) := by decide +kernel
theorem dX12_means_158 : decode cX12_means 158 = .ok (.isub, 1) := by decide +kernel
theorem dX12_means_159 : decode cX12_means 159 = .ok (.goto 10, 3) := by decide +kernel
theorem dX12_means_162 : decode cX12_means 162 = .ok (.aload_n 0, 1) := by decide +kernel
theorem dX12_means_163 : decode cX12_means 163 = .ok (.getfield 16, 3) := by decide +kernel
theorem dX12_means_166 : decode cX12_means 166 = .ok (.iload 16, 2) := by decide +kernel
theorem dX12_means_168 : decode cX12_means 168 = .ok (.iaload, 1) := by decide +kernel
theorem dX12_means_169 : decode cX12_means 169 = .ok (.istore 17, 2) := by decide +kernel
theorem dX12_means_171 : decode cX12_means 171 = .ok (.iload 9, 2) := by decide +kernel
theorem dX12_means_173 : decode cX12_means 173 = .ok (.iconst 2, 1) := by decide +kernel
theorem dX12_means_174 : decode cX12_means 174 = .ok (.if_icmp .ne 11, 3) := by decide +kernel
theorem dX12_means_177 : decode cX12_means 177 = .ok (.iload 8, 2) := by decide +kernel
theorem dX12_means_179 : decode cX12_means 179 = .ok (.iload 17, 2) := by decide +kernel
theorem dX12_means_181 : decode cX12_means 181 = .ok (.iand, 1) := by decide +kernel
theorem dX12_means_182 : decode cX12_means 182 = .ok (.goto 8, 3) := by decide +kernel
theorem dX12_means_185 : decode cX12_means 185 = .ok (.iload 8, 2) := by decide +kernel
theorem dX12_means_187 : decode cX12_means 187 = .ok (.iload 17, 2) := by decide +kernel
theorem dX12_means_189 : decode cX12_means 189 = .ok (.ior, 1) := by decide +kernel
theorem dX12_means_190 : decode cX12_means 190 = .ok (.istore 8, 2) := by decide +kernel
theorem dX12_means_192 : decode cX12_means 192 = .ok (.iload 11, 2) := by decide +kernel
theorem dX12_means_194 : decode cX12_means 194 = .ok (.istore 13, 2) := by decide +kernel
theorem dX12_means_196 : decode cX12_means 196 = .ok (.iconst 1, 1) := by decide +kernel
theorem dX12_means_197 : decode cX12_means 197 = .ok (.istore 10, 2) := by decide +kernel
theorem dX12_means_199 : decode cX12_means 199 = .ok (.iconst 0, 1) := by decide +kernel
theorem dX12_means_200 : decode cX12_means 200 = .ok (.istore 11, 2) := by decide +kernel
theorem dX12_means_202 : decode cX12_means 202 = .ok (.iconst 0, 1) := by decide +kernel
theorem dX12_means_203 : decode cX12_means 203 = .ok (.istore 12, 2) := by decide +kernel
theorem dX12_means_205 : decode cX12_means 205 = .ok (.goto 67, 3) := by decide +kernel
theorem dX12_means_208 : decode cX12_means 208 = .ok (.iload 11, 2) := by decide +kernel
theorem dX12_means_210 : decode cX12_means 210 = .ok (.istore 13, 2) := by decide +kernel
theorem dX12_means_212 : decode cX12_means 212 = .ok (.iload 12, 2) := by decide +kernel
theorem dX12_means_214 : decode cX12_means 214 = .ok (.ifCond .ne 7, 3) := by decide +kernel
theorem dX12_means_217 : decode cX12_means 217 = .ok (.iconst 1, 1) := by decide +kernel
theorem dX12_means_218 : decode cX12_means 218 = .ok (.goto 4, 3) := by decide +kernel
theorem dX12_means_221 : decode cX12_means 221 = .ok (.iconst 0, 1) := by decide +kernel
theorem dX12_means_222 : decode cX12_means 222 = .ok (.istore 12, 2) := by decide +kernel
theorem dX12_means_224 : decode cX12_means 224 = .ok (.goto 48, 3) := by decide +kernel
theorem dX12_means_227 : decode cX12_means 227 = .ok (.iload 11, 2) := by decide +kernel
theorem dX12_means_229 : decode cX12_means 229 = .ok (.ifCond .ne 7, 3) := by decide +kernel
theorem dX12_means_232 : decode cX12_means 232 = .ok (.iconst 1, 1) := by decide +kernel
theorem dX12_means_233 : decode cX12_means 233 = .ok (.goto 4, 3) := by decide +kernel
theorem dX12_means_236 : decode cX12_means 236 = .ok (.iconst 0, 1) := by decide +kernel
theorem dX12_means_237 : decode cX12_means 237 = .ok (.istore 13, 2) := by decide +kernel
theorem dX12_means_239 : decode cX12_means 239 = .ok (.aload_n 0, 1) := by decide +kernel
theorem dX12_means_240 : decode cX12_means 240 = .ok (.getfield 13, 3) := by decide +kernel
theorem dX12_means_243 : decode cX12_means 243 = .ok (.iload 16, 2) := by decide +kernel
theorem dX12_means_245 : decode cX12_means 245 = .ok (.iaload, 1) := by decide +kernel
theorem dX12_means_246 : decode cX12_means 246 = .ok (.istore 9, 2) := by decide +kernel
theorem dX12_means_248 : decode cX12_means 248 = .ok (.iconst 1, 1) := by decide +kernel
theorem dX12_means_249 : decode cX12_means 249 = .ok (.istore 11, 2) := by decide +kernel
theorem dX12_means_251 : decode cX12_means 251 = .ok (.goto 21, 3) := by decide +kernel
theorem dX12_means_254 : decode cX12_means 254 = .ok (.iload 4, 2) := by decide +kernel
theorem dX12_means_256 : decode cX12_means 256 = .ok (.iconst 2, 1) := by decide +kernel
theorem dX12_means_257 : decode cX12_means 257 = .ok (.if_icmp .ne 12, 3) := by decide +kernel
theorem dX12_means_260 : decode cX12_means 260 = .ok (.iload 10, 2) := by decide +kernel
theorem dX12_means_262 : decode cX12_means 262 = .ok (.ifCond .eq 7, 3) := by decide +kernel
theorem dX12_means_265 : decode cX12_means 265 = .ok (.iconst 1, 1) := by decide +kernel
theorem dX12_means_266 : decode cX12_means 266 = .ok (.goto 4, 3) := by decide +kernel
theorem dX12_means_269 : decode cX12_means 269 = .ok (.iconst 0, 1) := by decide +kernel
theorem dX12_means_270 : decode cX12_means 270 = .ok (.istore 14, 2) := by decide +kernel
theorem dX12_means_272 : decode cX12_means 272 = .ok (.iinc 15 1, 3) := by decide +kernel
theorem dX12_means_275 : decode cX12_means 275 = .ok (.goto (-206), 3) := by decide +kernel
theorem dX12_means_278 : decode cX12_means 278 = .ok (.iload 13, 2) := by decide +kernel
theorem dX12_means_280 : decode cX12_means 280 = .ok (.ifCond .eq 13, 3) := by decide +kernel
theorem dX12_means_283 : decode cX12_means 283 = .ok (.iload 11, 2) := by decide +kernel
theorem dX12_means_285 : decode cX12_means 285 = .ok (.ifCond .ne 8, 3) := by decide +kernel
theorem dX12_means_288 : decode cX12_means 288 = .ok (.iload 8, 2) := by decide +kernel
theorem dX12_means_290 : decode cX12_means 290 = .ok (.goto 5, 3) := by decide +kernel
theorem dX12_means_293 : decode cX12_means 293 = .ok (.bipush 16, 2) := by decide +kernel
theorem dX12_means_295 : decode cX12_means 295 = .ok (.ireturn, 1) := by decide +kernel
set_option maxRecDepth 20000 in
theorem ggX12_meansAll_X12_means : GoodIn wsX12_meansAll wsX12_means := goodIn_r _ [5, 6, 7, 8, 9, 10, 11, 12, 13, 14, 15, 16, 17, 18, 19, 20, 21, 22, 23, 24, 25, 26, 27, 28, 29, 30, 31, 32, 33, 34, 35, 36, 37, 38, 39, 40, 41, 42] (by decide +kernel) (by decide +kernel)
set_option maxRecDepth 20000 in
theorem gX12_meansAll_X12_means : GoodIn wsX12_meansAll (wsV RX12 155 RX12 yX12_means wsX12_means) := goodIn_app (goodIn_of _ (by decide +kernel)) ggX12_meansAll_X12_means
theorem dX12_meansAll_0 : decode cX12_meansAll 0 = .ok (.iload_n 2, 1) := by decide +kernel
theorem dX12_meansAll_1 : decode cX12_meansAll 1 = .ok (.ifCond .ne 8, 3) := by decide +kernel
theorem dX12_meansAll_4 : decode cX12_meansAll 4 = .ok (.bipush 16, 2) := by decide +kernel
theorem dX12_meansAll_6 : decode cX12_meansAll 6 = .ok (.goto 11, 3) := by decide +kernel
theorem dX12_meansAll_9 : decode cX12_meansAll 9 = .ok (.aload_n 0, 1) := by decide +kernel
theorem dX12_meansAll_10 : decode cX12_meansAll 10 = .ok (.aload_n 1, 1) := by decide +kernel
theorem dX12_meansAll_11 : decode cX12_meansAll 11 = .ok (.iload_n 2, 1) := by decide +kernel
theorem dX12_meansAll_12 : decode cX12_meansAll 12 = .ok (.iconst 0, 1) := by decide +kernel
theorem dX12_meansAll_13 : decode cX12_meansAll 13 = .ok (.iload_n 3, 1) := by decide +kernel
theorem dX12_meansAll_14 : decode cX12_meansAll 14 = .ok (.invokevirtual 155, 3) := by decide +kernel
theorem dX12_meansAll_17 : decode cX12_meansAll 17 = .ok (.istore 4, 2) := by decide +kernel
theorem dX12_meansAll_19 : decode cX12_meansAll 19 = .ok (.iconst 1, 1) := by decide +kernel
theorem dX12_meansAll_20 : decode cX12_meansAll 20 = .ok (.istore 5, 2) := by decide +kernel
theorem dX12_meansAll_22 : decode cX12_meansAll 22 = .ok (.iload 5, 2) := by decide +kernel
theorem dX12_meansAll_24 : decode cX12_meansAll 24 = .ok (.iload_n 2, 1) := by decide +kernel
theorem dX12_meansAll_25 : decode cX12_meansAll 25 = .ok (.if_icmp .ge 39, 3) := by decide +kernel
theorem dX12_meansAll_28 : decode cX12_meansAll 28 = .ok (.iload 4, 2) := by decide +kernel
theorem dX12_meansAll_30 : decode cX12_meansAll 30 = .ok (.bipush 16, 2) := by decide +kernel
theorem dX12_meansAll_32 : decode cX12_meansAll 32 = .ok (.if_icmp .eq 32, 3) := by decide +kernel
theorem dX12_meansAll_35 : decode cX12_meansAll 35 = .ok (.aload_n 0, 1) := by decide +kernel
theorem dX12_meansAll_36 : decode cX12_meansAll 36 = .ok (.aload_n 1, 1) := by decide +kernel
theorem dX12_meansAll_37 : decode cX12_meansAll 37 = .ok (.iload_n 2, 1) := by decide +kernel
theorem dX12_meansAll_38 : decode cX12_meansAll 38 = .ok (.iload 5, 2) := by decide +kernel
theorem dX12_meansAll_40 : decode cX12_meansAll 40 = .ok (.iload_n 3, 1) := by decide +kernel
theorem dX12_meansAll_41 : decode cX12_meansAll 41 = .ok (.invokevirtual 155, 3) := by decide +kernel
theorem dX12_meansAll_44 : decode cX12_meansAll 44 = .ok (.iload 4, 2) := by decide +kernel
theorem dX12_meansAll_46 : decode cX12_meansAll 46 = .ok (.if_icmp .ne 8, 3) := by decide +kernel
theorem dX12_meansAll_49 : decode cX12_meansAll 49 = .ok (.iload 4, 2) := by decide +kernel
theorem dX12_meansAll_51 : decode cX12_meansAll 51 = .ok (.goto 5, 3) := by decide +kernel
theorem dX12_meansAll_54 : decode cX12_meansAll 54 = .ok (.bipush 16, 2) := by decide +kernel
theorem dX12_meansAll_56 : decode cX12_meansAll 56 = .ok (.istore 4, 2) := by decide +kernel
theorem dX12_meansAll_58 : decode cX12_meansAll 58 = .ok (.iinc 5 1, 3) := by decide +kernel
theorem dX12_meansAll_61 : decode cX12_meansAll 61 = .ok (.goto (-39), 3) := by decide +kernel
theorem dX12_meansAll_64 : decode cX12_meansAll 64 = .ok (.iload 4, 2) := by decide +kernel
theorem dX12_meansAll_66 : decode cX12_meansAll 66 = .ok (.ireturn, 1) := by decide +kernel
set_option maxRecDepth 20000 in
theorem ggX12_reads_X12_means : GoodIn wsX12_reads wsX12_means := goodIn_r _ [7, 8, 9, 10, 11, 12, 13, 14, 15, 16, 17, 18, 19, 20, 21, 22, 23, 24, 25, 26, 27, 28, 29, 30, 31, 32, 33, 34, 35, 36, 37, 38, 39, 40, 41, 42, 43, 44] (by decide +kernel) (by decide +kernel)
set_option maxRecDepth 20000 in
theorem gX12_reads_X12_means : GoodIn wsX12_reads (wsV RX12 155 RX12 yX12_means wsX12_means) := goodIn_app (goodIn_of _ (by decide +kernel)) ggX12_reads_X12_means
theorem dX12_reads_0 : decode cX12_reads 0 = .ok (.iload_n 2, 1) := by decide +kernel
theorem dX12_reads_1 : decode cX12_reads 1 = .ok (.ifCond .ne 8, 3) := by decide +kernel
theorem dX12_reads_4 : decode cX12_reads 4 = .ok (.bipush 16, 2) := by decide +kernel
theorem dX12_reads_6 : decode cX12_reads 6 = .ok (.goto 26, 3) := by decide +kernel
theorem dX12_reads_9 : decode cX12_reads 9 = .ok (.aload_n 0, 1) := by decide +kernel
theorem dX12_reads_10 : decode cX12_reads 10 = .ok (.aload_n 1, 1) := by decide +kernel
theorem dX12_reads_11 : decode cX12_reads 11 = .ok (.iload_n 2, 1) := by decide +kernel
theorem dX12_reads_12 : decode cX12_reads 12 = .ok (.aload_n 0, 1) := by decide +kernel
theorem dX12_reads_13 : decode cX12_reads 13 = .ok (.getfield 28, 3) := by decide +kernel
theorem dX12_reads_16 : decode cX12_reads 16 = .ok (.iload_n 3, 1) := by decide +kernel
theorem dX12_reads_17 : decode cX12_reads 17 = .ok (.iaload, 1) := by decide +kernel
theorem dX12_reads_18 : decode cX12_reads 18 = .ok (.iload_n 2, 1) := by decide +kernel
theorem dX12_reads_19 : decode cX12_reads 19 = .ok (.imul, 1) := by decide +kernel
theorem dX12_reads_20 : decode cX12_reads 20 = .ok (.bipush 8, 2) := by decide +kernel
theorem dX12_reads_22 : decode cX12_reads 22 = .ok (.idiv, 1) := by decide +kernel
theorem dX12_reads_23 : decode cX12_reads 23 = .ok (.aload_n 0, 1) := by decide +kernel
theorem dX12_reads_24 : decode cX12_reads 24 = .ok (.getfield 25, 3) := by decide +kernel
theorem dX12_reads_27 : decode cX12_reads 27 = .ok (.iload_n 3, 1) := by decide +kernel
theorem dX12_reads_28 : decode cX12_reads 28 = .ok (.iaload, 1) := by decide +kernel
theorem dX12_reads_29 : decode cX12_reads 29 = .ok (.invokevirtual 155, 3) := by decide +kernel
theorem dX12_reads_32 : decode cX12_reads 32 = .ok (.ireturn, 1) := by decide +kernel
set_option maxRecDepth 20000 in
theorem ggX12_areWished_X12_reads : GoodIn wsX12_areWished wsX12_reads := goodIn_r _ [7, 8, 9, 10, 11, 12, 6, 13, 14, 15, 16, 17, 18, 19, 20, 21, 22, 23, 24, 25, 26, 27, 28, 29, 30, 31, 32, 33, 34, 35, 36, 37, 38, 39, 40, 41, 42, 43, 44, 45, 46, 47, 48, 49, 50] (by decide +kernel) (by decide +kernel)
set_option maxRecDepth 20000 in
theorem gX12_areWished_X12_reads : GoodIn wsX12_areWished (wsV RX12 159 RX12 yX12_reads wsX12_reads) := goodIn_app (goodIn_of _ (by decide +kernel)) ggX12_areWished_X12_reads
theorem dX12_areWished_0 : decode cX12_areWished 0 = .ok (.iconst 1, 1) := by decide +kernel
theorem dX12_areWished_1 : decode cX12_areWished 1 = .ok (.istore_n 3, 1) := by decide +kernel
theorem dX12_areWished_2 : decode cX12_areWished 2 = .ok (.iconst 0, 1) := by decide +kernel
theorem dX12_areWished_3 : decode cX12_areWished 3 = .ok (.istore 4, 2) := by decide +kernel
theorem dX12_areWished_5 : decode cX12_areWished 5 = .ok (.iload 4, 2) := by decide +kernel
theorem dX12_areWished_7 : decode cX12_areWished 7 = .ok (.aload_n 0, 1) := by decide +kernel
theorem dX12_areWished_8 : decode cX12_areWished 8 = .ok (.getfield 92, 3) := by decide +kernel
theorem dX12_areWished_11 : decode cX12_areWished 11 = .ok (.if_icmp .ge 37, 3) := by decide +kernel
theorem dX12_areWished_14 : decode cX12_areWished 14 = .ok (.iload_n 3, 1) := by decide +kernel
theorem dX12_areWished_15 : decode cX12_areWished 15 = .ok (.ifCond .eq 33, 3) := by decide +kernel
theorem dX12_areWished_18 : decode cX12_areWished 18 = .ok (.aload_n 0, 1) := by decide +kernel
theorem dX12_areWished_19 : decode cX12_areWished 19 = .ok (.aload_n 1, 1) := by decide +kernel
theorem dX12_areWished_20 : decode cX12_areWished 20 = .ok (.iload_n 2, 1) := by decide +kernel
theorem dX12_areWished_21 : decode cX12_areWished 21 = .ok (.iload 4, 2) := by decide +kernel
theorem dX12_areWished_23 : decode cX12_areWished 23 = .ok (.invokevirtual 159, 3) := by decide +kernel
theorem dX12_areWished_26 : decode cX12_areWished 26 = .ok (.aload_n 0, 1) := by decide +kernel
theorem dX12_areWished_27 : decode cX12_areWished 27 = .ok (.getfield 31, 3) := by decide +kernel
theorem dX12_areWished_30 : decode cX12_areWished 30 = .ok (.iload 4, 2) := by decide +kernel
theorem dX12_areWished_32 : decode cX12_areWished 32 = .ok (.iaload, 1) := by decide +kernel
theorem dX12_areWished_33 : decode cX12_areWished 33 = .ok (.if_icmp .ne 7, 3) := by decide +kernel
theorem dX12_areWished_36 : decode cX12_areWished 36 = .ok (.iconst 1, 1) := by decide +kernel
theorem dX12_areWished_37 : decode cX12_areWished 37 = .ok (.goto 4, 3) := by decide +kernel
theorem dX12_areWished_40 : decode cX12_areWished 40 = .ok (.iconst 0, 1) := by decide +kernel
theorem dX12_areWished_41 : decode cX12_areWished 41 = .ok (.istore_n 3, 1) := by decide +kernel
theorem dX12_areWished_42 : decode cX12_areWished 42 = .ok (.iinc 4 1, 3) := by decide +kernel
theorem dX12_areWished_45 : decode cX12_areWished 45 = .ok (.goto (-40), 3) := by decide +kernel
theorem dX12_areWished_48 : decode cX12_areWished 48 = .ok (.iload_n 3, 1) := by decide +kernel
theorem dX12_areWished_49 : decode cX12_areWished 49 = .ok (.ireturn, 1) := by decide +kernel
set_option maxRecDepth 20000 in
theorem ggX12_word_X12_isNoWord : GoodIn wsX12_word wsX12_isNoWord := goodIn_r _ [9, 10, 16, 17, 18, 19, 20, 21, 22, 23, 24, 25, 26, 27, 28, 29, 30, 31, 32, 33, 34, 35, 36, 37, 38, 39, 40, 41, 42, 43, 44, 45, 46, 47, 48, 49, 50] (by decide +kernel) (by decide +kernel)
set_option maxRecDepth 20000 in
theorem gX12_word_X12_isNoWord : GoodIn wsX12_word (wsV RX12 163 RX12 yX12_isNoWord wsX12_isNoWord) := goodIn_app (goodIn_of _ (by decide +kernel)) ggX12_word_X12_isNoWord
set_option maxRecDepth 20000 in
theorem ggX12_word_X12_no : GoodIn wsX12_word wsX12_no := goodIn_r _ [14, 15, 16, 17, 18, 19, 20, 21, 22, 23, 24, 25, 26, 27, 28, 29, 30, 31, 32, 33, 34, 35, 36, 37, 38, 39, 40, 41, 42, 43, 44, 45, 46, 47, 48, 49, 50] (by decide +kernel) (by decide +kernel)
set_option maxRecDepth 20000 in
theorem gX12_word_X12_no : GoodIn wsX12_word (wsV RX12 111 RX12 yX12_no wsX12_no) := goodIn_app (goodIn_of _ (by decide +kernel)) ggX12_word_X12_no
theorem dX12_word_0 : decode cX12_word 0 = .ok (.aload_n 0, 1) := by decide +kernel
theorem dX12_word_1 : decode cX12_word 1 = .ok (.iload_n 1, 1) := by decide +kernel
theorem dX12_word_2 : decode cX12_word 2 = .ok (.invokevirtual 163, 3) := by decide +kernel
theorem dX12_word_5 : decode cX12_word 5 = .ok (.ifCond .eq 9, 3) := by decide +kernel
theorem dX12_word_8 : decode cX12_word 8 = .ok (.aload_n 0, 1) := by decide +kernel
theorem dX12_word_9 : decode cX12_word 9 = .ok (.iconst (-1), 1) := by decide +kernel
theorem dX12_word_10 : decode cX12_word 10 = .ok (.invokevirtual 111, 3) := by decide +kernel
theorem dX12_word_13 : decode cX12_word 13 = .ok (.ireturn, 1) := by decide +kernel
theorem dX12_word_14 : decode cX12_word 14 = .ok (.iload_n 2, 1) := by decide +kernel
theorem dX12_word_15 : decode cX12_word 15 = .ok (.tableswitch 57 0 3 #[29, 36, 43, 50], 29) := by decide +kernel
theorem dX12_word_44 : decode cX12_word 44 = .ok (.aload_n 0, 1) := by decide +kernel
theorem dX12_word_45 : decode cX12_word 45 = .ok (.getfield 13, 3) := by decide +kernel
theorem dX12_word_48 : decode cX12_word 48 = .ok (.iload_n 1, 1) := by decide +kernel
theorem dX12_word_49 : decode cX12_word 49 = .ok (.iaload, 1) := by decide +kernel
theorem dX12_word_50 : decode cX12_word 50 = .ok (.ireturn, 1) := by decide +kernel
theorem dX12_word_51 : decode cX12_word 51 = .ok (.aload_n 0, 1) := by decide +kernel
theorem dX12_word_52 : decode cX12_word 52 = .ok (.getfield 16, 3) := by decide +kernel
theorem dX12_word_55 : decode cX12_word 55 = .ok (.iload_n 1, 1) := by decide +kernel
theorem dX12_word_56 : decode cX12_word 56 = .ok (.iaload, 1) := by decide +kernel
theorem dX12_word_57 : decode cX12_word 57 = .ok (.ireturn, 1) := by decide +kernel
theorem dX12_word_58 : decode cX12_word 58 = .ok (.aload_n 0, 1) := by decide +kernel
theorem dX12_word_59 : decode cX12_word 59 = .ok (.getfield 19, 3) := by decide +kernel
theorem dX12_word_62 : decode cX12_word 62 = .ok (.iload_n 1, 1) := by decide +kernel
theorem dX12_word_63 : decode cX12_word 63 = .ok (.iaload, 1) := by decide +kernel
theorem dX12_word_64 : decode cX12_word 64 = .ok (.ireturn, 1) := by decide +kernel
theorem dX12_word_65 : decode cX12_word 65 = .ok (.aload_n 0, 1) := by decide +kernel
theorem dX12_word_66 : decode cX12_word 66 = .ok (.getfield 22, 3) := by decide +kernel
theorem dX12_word_69 : decode cX12_word 69 = .ok (.iload_n 1, 1) := by decide +kernel
theorem dX12_word_70 : decode cX12_word 70 = .ok (.iaload, 1) := by decide +kernel
theorem dX12_word_71 : decode cX12_word 71 = .ok (.ireturn, 1) := by decide +kernel
theorem dX12_word_72 : decode cX12_word 72 = .ok (.aload_n 0, 1) := by decide +kernel
theorem dX12_word_73 : decode cX12_word 73 = .ok (.bipush (-2), 2) := by decide +kernel
theorem dX12_word_75 : decode cX12_word 75 = .ok (.invokevirtual 111, 3) := by decide +kernel
theorem dX12_word_78 : decode cX12_word 78 = .ok (.ireturn, 1) := by decide +kernel
set_option maxRecDepth 20000 in
theorem ggX12_road_X12_no : GoodIn wsX12_road wsX12_no := goodIn_r _ [11, 12, 23, 24, 25, 26, 27, 28, 29, 30, 31, 32, 33, 34, 35, 36, 37, 38, 39, 40, 41, 42, 43, 44, 45, 46, 47, 48, 49, 50, 51, 52, 53, 54, 55, 56, 57] (by decide +kernel) (by decide +kernel)
set_option maxRecDepth 20000 in
theorem gX12_road_X12_no : GoodIn wsX12_road (wsV RX12 111 RX12 yX12_no wsX12_no) := goodIn_app (goodIn_of _ (by decide +kernel)) ggX12_road_X12_no
set_option maxRecDepth 20000 in
theorem ggX12_road_X12_reads : GoodIn wsX12_road wsX12_reads := goodIn_r _ [16, 3, 2, 17, 18, 19, 10, 20, 21, 22, 23, 24, 25, 26, 27, 28, 29, 30, 31, 32, 33, 34, 35, 36, 37, 38, 39, 40, 41, 42, 43, 44, 45, 46, 47, 48, 49, 50, 51, 52, 53, 54, 55, 56, 57] (by decide +kernel) (by decide +kernel)
set_option maxRecDepth 20000 in
theorem gX12_road_X12_reads : GoodIn wsX12_road (wsV RX12 159 RX12 yX12_reads wsX12_reads) := goodIn_app (goodIn_of _ (by decide +kernel)) ggX12_road_X12_reads
theorem dX12_road_0 : decode cX12_road 0 = .ok (.iload_n 1, 1) := by decide +kernel
theorem dX12_road_1 : decode cX12_road 1 = .ok (.ifCond .lt 11, 3) := by decide +kernel
theorem dX12_road_4 : decode cX12_road 4 = .ok (.iload_n 1, 1) := by decide +kernel
theorem dX12_road_5 : decode cX12_road 5 = .ok (.aload_n 0, 1) := by decide +kernel
theorem dX12_road_6 : decode cX12_road 6 = .ok (.getfield 92, 3) := by decide +kernel
theorem dX12_road_9 : decode cX12_road 9 = .ok (.if_icmp .lt 9, 3) := by decide +kernel
theorem dX12_road_12 : decode cX12_road 12 = .ok (.aload_n 0, 1) := by decide +kernel
theorem dX12_road_13 : decode cX12_road 13 = .ok (.iconst (-1), 1) := by decide +kernel
theorem dX12_road_14 : decode cX12_road 14 = .ok (.invokevirtual 111, 3) := by decide +kernel
theorem dX12_road_17 : decode cX12_road 17 = .ok (.ireturn, 1) := by decide +kernel
theorem dX12_road_18 : decode cX12_road 18 = .ok (.iload_n 2, 1) := by decide +kernel
theorem dX12_road_19 : decode cX12_road 19 = .ok (.tableswitch 95 0 4 #[33, 40, 47, 54, 81], 33) := by decide +kernel
theorem dX12_road_52 : decode cX12_road 52 = .ok (.aload_n 0, 1) := by decide +kernel
theorem dX12_road_53 : decode cX12_road 53 = .ok (.getfield 25, 3) := by decide +kernel
theorem dX12_road_56 : decode cX12_road 56 = .ok (.iload_n 1, 1) := by decide +kernel
theorem dX12_road_57 : decode cX12_road 57 = .ok (.iaload, 1) := by decide +kernel
theorem dX12_road_58 : decode cX12_road 58 = .ok (.ireturn, 1) := by decide +kernel
theorem dX12_road_59 : decode cX12_road 59 = .ok (.aload_n 0, 1) := by decide +kernel
theorem dX12_road_60 : decode cX12_road 60 = .ok (.getfield 28, 3) := by decide +kernel
theorem dX12_road_63 : decode cX12_road 63 = .ok (.iload_n 1, 1) := by decide +kernel
theorem dX12_road_64 : decode cX12_road 64 = .ok (.iaload, 1) := by decide +kernel
theorem dX12_road_65 : decode cX12_road 65 = .ok (.ireturn, 1) := by decide +kernel
theorem dX12_road_66 : decode cX12_road 66 = .ok (.aload_n 0, 1) := by decide +kernel
theorem dX12_road_67 : decode cX12_road 67 = .ok (.getfield 31, 3) := by decide +kernel
theorem dX12_road_70 : decode cX12_road 70 = .ok (.iload_n 1, 1) := by decide +kernel
theorem dX12_road_71 : decode cX12_road 71 = .ok (.iaload, 1) := by decide +kernel
theorem dX12_road_72 : decode cX12_road 72 = .ok (.ireturn, 1) := by decide +kernel
theorem dX12_road_73 : decode cX12_road 73 = .ok (.aload_n 0, 1) := by decide +kernel
theorem dX12_road_74 : decode cX12_road 74 = .ok (.getfield 95, 3) := by decide +kernel
theorem dX12_road_77 : decode cX12_road 77 = .ok (.ifCond .ne 8, 3) := by decide +kernel
theorem dX12_road_80 : decode cX12_road 80 = .ok (.bipush (-9), 2) := by decide +kernel
theorem dX12_road_82 : decode cX12_road 82 = .ok (.goto 17, 3) := by decide +kernel
theorem dX12_road_85 : decode cX12_road 85 = .ok (.aload_n 0, 1) := by decide +kernel
theorem dX12_road_86 : decode cX12_road 86 = .ok (.getfield 28, 3) := by decide +kernel
theorem dX12_road_89 : decode cX12_road 89 = .ok (.iload_n 1, 1) := by decide +kernel
theorem dX12_road_90 : decode cX12_road 90 = .ok (.iaload, 1) := by decide +kernel
theorem dX12_road_91 : decode cX12_road 91 = .ok (.aload_n 0, 1) := by decide +kernel
theorem dX12_road_92 : decode cX12_road 92 = .ok (.getfield 95, 3) := by decide +kernel
theorem dX12_road_95 : decode cX12_road 95 = .ok (.imul, 1) := by decide +kernel
theorem dX12_road_96 : decode cX12_road 96 = .ok (.bipush 8, 2) := by decide +kernel
theorem dX12_road_98 : decode cX12_road 98 = .ok (.idiv, 1) := by decide +kernel
theorem dX12_road_99 : decode cX12_road 99 = .ok (.ireturn, 1) := by decide +kernel
theorem dX12_road_100 : decode cX12_road 100 = .ok (.aload_n 0, 1) := by decide +kernel
theorem dX12_road_101 : decode cX12_road 101 = .ok (.aload_n 0, 1) := by decide +kernel
theorem dX12_road_102 : decode cX12_road 102 = .ok (.getfield 34, 3) := by decide +kernel
theorem dX12_road_105 : decode cX12_road 105 = .ok (.aload_n 0, 1) := by decide +kernel
theorem dX12_road_106 : decode cX12_road 106 = .ok (.getfield 95, 3) := by decide +kernel
theorem dX12_road_109 : decode cX12_road 109 = .ok (.iload_n 1, 1) := by decide +kernel
theorem dX12_road_110 : decode cX12_road 110 = .ok (.invokevirtual 159, 3) := by decide +kernel
theorem dX12_road_113 : decode cX12_road 113 = .ok (.ireturn, 1) := by decide +kernel
theorem dX12_road_114 : decode cX12_road 114 = .ok (.aload_n 0, 1) := by decide +kernel
theorem dX12_road_115 : decode cX12_road 115 = .ok (.bipush (-2), 2) := by decide +kernel
theorem dX12_road_117 : decode cX12_road 117 = .ok (.invokevirtual 111, 3) := by decide +kernel
theorem dX12_road_120 : decode cX12_road 120 = .ok (.ireturn, 1) := by decide +kernel
set_option maxRecDepth 20000 in
theorem ggX12_stone_X12_no : GoodIn wsX12_stone wsX12_no := goodIn_r _ [8, 9, 10, 11, 12, 13, 14, 15, 16, 17, 18, 19, 20, 21, 22, 23, 24, 25, 26, 27, 28, 29, 30, 31, 32, 33, 34, 35, 36, 37, 38, 39, 40, 41, 42, 43, 44] (by decide +kernel) (by decide +kernel)
set_option maxRecDepth 20000 in
theorem gX12_stone_X12_no : GoodIn wsX12_stone (wsV RX12 111 RX12 yX12_no wsX12_no) := goodIn_app (goodIn_of _ (by decide +kernel)) ggX12_stone_X12_no
theorem dX12_stone_0 : decode cX12_stone 0 = .ok (.iload_n 1, 1) := by decide +kernel
theorem dX12_stone_1 : decode cX12_stone 1 = .ok (.iconst (-1), 1) := by decide +kernel
theorem dX12_stone_2 : decode cX12_stone 2 = .ok (.if_icmp .lt 11, 3) := by decide +kernel
theorem dX12_stone_5 : decode cX12_stone 5 = .ok (.iload_n 1, 1) := by decide +kernel
theorem dX12_stone_6 : decode cX12_stone 6 = .ok (.aload_n 0, 1) := by decide +kernel
theorem dX12_stone_7 : decode cX12_stone 7 = .ok (.getfield 85, 3) := by decide +kernel
theorem dX12_stone_10 : decode cX12_stone 10 = .ok (.if_icmp .lt 9, 3) := by decide +kernel
theorem dX12_stone_13 : decode cX12_stone 13 = .ok (.aload_n 0, 1) := by decide +kernel
theorem dX12_stone_14 : decode cX12_stone 14 = .ok (.iconst (-1), 1) := by decide +kernel
theorem dX12_stone_15 : decode cX12_stone 15 = .ok (.invokevirtual 111, 3) := by decide +kernel
theorem dX12_stone_18 : decode cX12_stone 18 = .ok (.ireturn, 1) := by decide +kernel
theorem dX12_stone_19 : decode cX12_stone 19 = .ok (.aload_n 0, 1) := by decide +kernel
theorem dX12_stone_20 : decode cX12_stone 20 = .ok (.getfield 95, 3) := by decide +kernel
theorem dX12_stone_23 : decode cX12_stone 23 = .ok (.bipush 12, 2) := by decide +kernel
theorem dX12_stone_25 : decode cX12_stone 25 = .ok (.if_icmp .ne 10, 3) := by decide +kernel
theorem dX12_stone_28 : decode cX12_stone 28 = .ok (.aload_n 0, 1) := by decide +kernel
theorem dX12_stone_29 : decode cX12_stone 29 = .ok (.bipush (-6), 2) := by decide +kernel
theorem dX12_stone_31 : decode cX12_stone 31 = .ok (.invokevirtual 111, 3) := by decide +kernel
theorem dX12_stone_34 : decode cX12_stone 34 = .ok (.ireturn, 1) := by decide +kernel
theorem dX12_stone_35 : decode cX12_stone 35 = .ok (.aload_n 0, 1) := by decide +kernel
theorem dX12_stone_36 : decode cX12_stone 36 = .ok (.getfield 34, 3) := by decide +kernel
theorem dX12_stone_39 : decode cX12_stone 39 = .ok (.aload_n 0, 1) := by decide +kernel
theorem dX12_stone_40 : decode cX12_stone 40 = .ok (.getfield 95, 3) := by decide +kernel
theorem dX12_stone_43 : decode cX12_stone 43 = .ok (.iload_n 1, 1) := by decide +kernel
theorem dX12_stone_44 : decode cX12_stone 44 = .ok (.iastore, 1) := by decide +kernel
theorem dX12_stone_45 : decode cX12_stone 45 = .ok (.aload_n 0, 1) := by decide +kernel
theorem dX12_stone_46 : decode cX12_stone 46 = .ok (.dup, 1) := by decide +kernel
theorem dX12_stone_47 : decode cX12_stone 47 = .ok (.getfield 95, 3) := by decide +kernel
theorem dX12_stone_50 : decode cX12_stone 50 = .ok (.iconst 1, 1) := by decide +kernel
theorem dX12_stone_51 : decode cX12_stone 51 = .ok (.iadd, 1) := by decide +kernel
theorem dX12_stone_52 : decode cX12_stone 52 = .ok (.putfield 95, 3) := by decide +kernel
theorem dX12_stone_55 : decode cX12_stone 55 = .ok (.aload_n 0, 1) := by decide +kernel
theorem dX12_stone_56 : decode cX12_stone 56 = .ok (.getfield 95, 3) := by decide +kernel
theorem dX12_stone_59 : decode cX12_stone 59 = .ok (.ireturn, 1) := by decide +kernel
theorem dX12_told_0 : decode cX12_told 0 = .ok (.iload_n 0, 1) := by decide +kernel
theorem dX12_told_1 : decode cX12_told 1 = .ok (.iconst (-1), 1) := by decide +kernel
theorem dX12_told_2 : decode cX12_told 2 = .ok (.if_icmp .ne 8, 3) := by decide +kernel
theorem dX12_told_5 : decode cX12_told 5 = .ok (.bipush (-9), 2) := by decide +kernel
theorem dX12_told_7 : decode cX12_told 7 = .ok (.goto 4, 3) := by decide +kernel
theorem dX12_told_10 : decode cX12_told 10 = .ok (.iload_n 0, 1) := by decide +kernel
theorem dX12_told_11 : decode cX12_told 11 = .ok (.ireturn, 1) := by decide +kernel
set_option maxRecDepth 20000 in
theorem ggX12_put_X12_isNoPlace : GoodIn wsX12_put wsX12_isNoPlace := goodIn_r _ [7, 8, 17, 18, 19, 20, 21, 22, 23, 24, 25, 26, 27, 28, 29, 30, 31, 32, 33, 34, 35, 36, 37, 38, 39, 40, 41, 42, 43, 44, 45, 46, 47, 48, 49, 50, 51] (by decide +kernel) (by decide +kernel)
set_option maxRecDepth 20000 in
theorem gX12_put_X12_isNoPlace : GoodIn wsX12_put (wsV RX12 167 RX12 yX12_isNoPlace wsX12_isNoPlace) := goodIn_app (goodIn_of _ (by decide +kernel)) ggX12_put_X12_isNoPlace
set_option maxRecDepth 20000 in
theorem ggX12_put_X12_no : GoodIn wsX12_put wsX12_no := goodIn_r _ [12, 13, 17, 18, 19, 20, 21, 22, 23, 24, 25, 26, 27, 28, 29, 30, 31, 32, 33, 34, 35, 36, 37, 38, 39, 40, 41, 42, 43, 44, 45, 46, 47, 48, 49, 50, 51] (by decide +kernel) (by decide +kernel)
set_option maxRecDepth 20000 in
theorem gX12_put_X12_no : GoodIn wsX12_put (wsV RX12 111 RX12 yX12_no wsX12_no) := goodIn_app (goodIn_of _ (by decide +kernel)) ggX12_put_X12_no
set_option maxRecDepth 20000 in
theorem ggX12_put_X12_told : GoodIn wsX12_put wsX12_told := goodIn_r _ [16] (by decide +kernel) (by decide +kernel)
set_option maxRecDepth 20000 in
theorem gX12_put_X12_told : GoodIn wsX12_put (va_wsS RX12 170 yX12_told wsX12_told) := goodIn_app (goodIn_of _ (by decide +kernel)) ggX12_put_X12_told
theorem dX12_put_0 : decode cX12_put 0 = .ok (.aload_n 0, 1) := by decide +kernel
theorem dX12_put_1 : decode cX12_put 1 = .ok (.iload_n 1, 1) := by decide +kernel
theorem dX12_put_2 : decode cX12_put 2 = .ok (.invokevirtual 167, 3) := by decide +kernel
theorem dX12_put_5 : decode cX12_put 5 = .ok (.ifCond .ne 16, 3) := by decide +kernel
theorem dX12_put_8 : decode cX12_put 8 = .ok (.iload_n 2, 1) := by decide +kernel
theorem dX12_put_9 : decode cX12_put 9 = .ok (.iconst (-1), 1) := by decide +kernel
theorem dX12_put_10 : decode cX12_put 10 = .ok (.if_icmp .lt 11, 3) := by decide +kernel
theorem dX12_put_13 : decode cX12_put 13 = .ok (.iload_n 2, 1) := by decide +kernel
theorem dX12_put_14 : decode cX12_put 14 = .ok (.aload_n 0, 1) := by decide +kernel
theorem dX12_put_15 : decode cX12_put 15 = .ok (.getfield 85, 3) := by decide +kernel
theorem dX12_put_18 : decode cX12_put 18 = .ok (.if_icmp .lt 9, 3) := by decide +kernel
theorem dX12_put_21 : decode cX12_put 21 = .ok (.aload_n 0, 1) := by decide +kernel
theorem dX12_put_22 : decode cX12_put 22 = .ok (.iconst (-1), 1) := by decide +kernel
theorem dX12_put_23 : decode cX12_put 23 = .ok (.invokevirtual 111, 3) := by decide +kernel
theorem dX12_put_26 : decode cX12_put 26 = .ok (.ireturn, 1) := by decide +kernel
theorem dX12_put_27 : decode cX12_put 27 = .ok (.aload_n 0, 1) := by decide +kernel
theorem dX12_put_28 : decode cX12_put 28 = .ok (.getfield 34, 3) := by decide +kernel
theorem dX12_put_31 : decode cX12_put 31 = .ok (.iload_n 1, 1) := by decide +kernel
theorem dX12_put_32 : decode cX12_put 32 = .ok (.iaload, 1) := by decide +kernel
theorem dX12_put_33 : decode cX12_put 33 = .ok (.istore_n 3, 1) := by decide +kernel
theorem dX12_put_34 : decode cX12_put 34 = .ok (.aload_n 0, 1) := by decide +kernel
theorem dX12_put_35 : decode cX12_put 35 = .ok (.getfield 34, 3) := by decide +kernel
theorem dX12_put_38 : decode cX12_put 38 = .ok (.iload_n 1, 1) := by decide +kernel
theorem dX12_put_39 : decode cX12_put 39 = .ok (.iload_n 2, 1) := by decide +kernel
theorem dX12_put_40 : decode cX12_put 40 = .ok (.iastore, 1) := by decide +kernel
theorem dX12_put_41 : decode cX12_put 41 = .ok (.iload_n 3, 1) := by decide +kernel
theorem dX12_put_42 : decode cX12_put 42 = .ok (.invokestatic 170, 3) := by decide +kernel
theorem dX12_put_45 : decode cX12_put 45 = .ok (.ireturn, 1) := by decide +kernel
set_option maxRecDepth 20000 in
theorem ggX12_turn_X12_no : GoodIn wsX12_turn wsX12_no := goodIn_r _ [8, 9, 10, 11, 12, 13, 14, 15, 16, 17, 18, 19, 20, 21, 22, 23, 24, 25, 26, 27, 28, 29, 30, 31, 32, 33, 34, 35, 36, 37, 38, 39, 40, 41, 42, 43, 44] (by decide +kernel) (by decide +kernel)
set_option maxRecDepth 20000 in
theorem gX12_turn_X12_no : GoodIn wsX12_turn (wsV RX12 111 RX12 yX12_no wsX12_no) := goodIn_app (goodIn_of _ (by decide +kernel)) ggX12_turn_X12_no
theorem dX12_turn_0 : decode cX12_turn 0 = .ok (.iload_n 1, 1) := by decide +kernel
theorem dX12_turn_1 : decode cX12_turn 1 = .ok (.ifCond .ge 10, 3) := by decide +kernel
theorem dX12_turn_4 : decode cX12_turn 4 = .ok (.aload_n 0, 1) := by decide +kernel
theorem dX12_turn_5 : decode cX12_turn 5 = .ok (.bipush (-4), 2) := by decide +kernel
theorem dX12_turn_7 : decode cX12_turn 7 = .ok (.invokevirtual 111, 3) := by decide +kernel
theorem dX12_turn_10 : decode cX12_turn 10 = .ok (.ireturn, 1) := by decide +kernel
theorem dX12_turn_11 : decode cX12_turn 11 = .ok (.iload_n 1, 1) := by decide +kernel
theorem dX12_turn_12 : decode cX12_turn 12 = .ok (.bipush 11, 2) := by decide +kernel
theorem dX12_turn_14 : decode cX12_turn 14 = .ok (.if_icmp .le 10, 3) := by decide +kernel
theorem dX12_turn_17 : decode cX12_turn 17 = .ok (.aload_n 0, 1) := by decide +kernel
theorem dX12_turn_18 : decode cX12_turn 18 = .ok (.bipush (-6), 2) := by decide +kernel
theorem dX12_turn_20 : decode cX12_turn 20 = .ok (.invokevirtual 111, 3) := by decide +kernel
theorem dX12_turn_23 : decode cX12_turn 23 = .ok (.ireturn, 1) := by decide +kernel
theorem dX12_turn_24 : decode cX12_turn 24 = .ok (.aload_n 0, 1) := by decide +kernel
theorem dX12_turn_25 : decode cX12_turn 25 = .ok (.getfield 95, 3) := by decide +kernel
theorem dX12_turn_28 : decode cX12_turn 28 = .ok (.ifCond .ne 10, 3) := by decide +kernel
theorem dX12_turn_31 : decode cX12_turn 31 = .ok (.aload_n 0, 1) := by decide +kernel
theorem dX12_turn_32 : decode cX12_turn 32 = .ok (.bipush (-3), 2) := by decide +kernel
theorem dX12_turn_34 : decode cX12_turn 34 = .ok (.invokevirtual 111, 3) := by decide +kernel
theorem dX12_turn_37 : decode cX12_turn 37 = .ok (.ireturn, 1) := by decide +kernel
theorem dX12_turn_38 : decode cX12_turn 38 = .ok (.iconst 0, 1) := by decide +kernel
theorem dX12_turn_39 : decode cX12_turn 39 = .ok (.istore_n 2, 1) := by decide +kernel
theorem dX12_turn_40 : decode cX12_turn 40 = .ok (.iload_n 2, 1) := by decide +kernel
theorem dX12_turn_41 : decode cX12_turn 41 = .ok (.aload_n 0, 1) := by decide +kernel
theorem dX12_turn_42 : decode cX12_turn 42 = .ok (.getfield 95, 3) := by decide +kernel
theorem dX12_turn_45 : decode cX12_turn 45 = .ok (.if_icmp .ge 28, 3) := by decide +kernel
theorem dX12_turn_48 : decode cX12_turn 48 = .ok (.aload_n 0, 1) := by decide +kernel
theorem dX12_turn_49 : decode cX12_turn 49 = .ok (.getfield 59, 3) := by decide +kernel
theorem dX12_turn_52 : decode cX12_turn 52 = .ok (.iload_n 2, 1) := by decide +kernel
theorem dX12_turn_53 : decode cX12_turn 53 = .ok (.aload_n 0, 1) := by decide +kernel
theorem dX12_turn_54 : decode cX12_turn 54 = .ok (.getfield 34, 3) := by decide +kernel
theorem dX12_turn_57 : decode cX12_turn 57 = .ok (.iload_n 2, 1) := by decide +kernel
theorem dX12_turn_58 : decode cX12_turn 58 = .ok (.iload_n 1, 1) := by decide +kernel
theorem dX12_turn_59 : decode cX12_turn 59 = .ok (.iadd, 1) := by decide +kernel
theorem dX12_turn_60 : decode cX12_turn 60 = .ok (.aload_n 0, 1) := by decide +kernel
theorem dX12_turn_61 : decode cX12_turn 61 = .ok (.getfield 95, 3) := by decide +kernel
theorem dX12_turn_64 : decode cX12_turn 64 = .ok (.irem, 1) := by decide +kernel
theorem dX12_turn_65 : decode cX12_turn 65 = .ok (.iaload, 1) := by decide +kernel
theorem dX12_turn_66 : decode cX12_turn 66 = .ok (.iastore, 1) := by decide +kernel
theorem dX12_turn_67 : decode cX12_turn 67 = .ok (.iinc 2 1, 3) := by decide +kernel
theorem dX12_turn_70 : decode cX12_turn 70 = .ok (.goto (-30), 3) := by decide +kernel
theorem dX12_turn_73 : decode cX12_turn 73 = .ok (.iconst 0, 1) := by decide +kernel
theorem dX12_turn_74 : decode cX12_turn 74 = .ok (.istore_n 2, 1) := by decide +kernel
theorem dX12_turn_75 : decode cX12_turn 75 = .ok (.iload_n 2, 1) := by decide +kernel
theorem dX12_turn_76 : decode cX12_turn 76 = .ok (.aload_n 0, 1) := by decide +kernel
theorem dX12_turn_77 : decode cX12_turn 77 = .ok (.getfield 95, 3) := by decide +kernel
theorem dX12_turn_80 : decode cX12_turn 80 = .ok (.if_icmp .ge 21, 3) := by decide +kernel
theorem dX12_turn_83 : decode cX12_turn 83 = .ok (.aload_n 0, 1) := by decide +kernel
theorem dX12_turn_84 : decode cX12_turn 84 = .ok (.getfield 34, 3) := by decide +kernel
theorem dX12_turn_87 : decode cX12_turn 87 = .ok (.iload_n 2, 1) := by decide +kernel
theorem dX12_turn_88 : decode cX12_turn 88 = .ok (.aload_n 0, 1) := by decide +kernel
theorem dX12_turn_89 : decode cX12_turn 89 = .ok (.getfield 59, 3) := by decide +kernel
theorem dX12_turn_92 : decode cX12_turn 92 = .ok (.iload_n 2, 1) := by decide +kernel
theorem dX12_turn_93 : decode cX12_turn 93 = .ok (.iaload, 1) := by decide +kernel
theorem dX12_turn_94 : decode cX12_turn 94 = .ok (.iastore, 1) := by decide +kernel
theorem dX12_turn_95 : decode cX12_turn 95 = .ok (.iinc 2 1, 3) := by decide +kernel
theorem dX12_turn_98 : decode cX12_turn 98 = .ok (.goto (-23), 3) := by decide +kernel
theorem dX12_turn_101 : decode cX12_turn 101 = .ok (.aload_n 0, 1) := by decide +kernel
theorem dX12_turn_102 : decode cX12_turn 102 = .ok (.getfield 95, 3) := by decide +kernel
theorem dX12_turn_105 : decode cX12_turn 105 = .ok (.ireturn, 1) := by decide +kernel
theorem dX12_bare_0 : decode cX12_bare 0 = .ok (.aload_n 0, 1) := by decide +kernel
theorem dX12_bare_1 : decode cX12_bare 1 = .ok (.getfield 95, 3) := by decide +kernel
theorem dX12_bare_4 : decode cX12_bare 4 = .ok (.istore_n 1, 1) := by decide +kernel
theorem dX12_bare_5 : decode cX12_bare 5 = .ok (.aload_n 0, 1) := by decide +kernel
theorem dX12_bare_6 : decode cX12_bare 6 = .ok (.iconst 0, 1) := by decide +kernel
theorem dX12_bare_7 : decode cX12_bare 7 = .ok (.putfield 95, 3) := by decide +kernel
theorem dX12_bare_10 : decode cX12_bare 10 = .ok (.iload_n 1, 1) := by decide +kernel
theorem dX12_bare_11 : decode cX12_bare 11 = .ok (.ireturn, 1) := by decide +kernel
set_option maxRecDepth 20000 in
theorem ggX12_at_X12_isNoPlace : GoodIn wsX12_at wsX12_isNoPlace := goodIn_r _ [6, 7, 16, 17, 18, 19, 20, 21, 22, 23, 24, 25, 26, 27, 28, 29, 30, 31, 32, 33, 34, 35, 36, 37, 38, 39, 40, 41, 42, 43, 44, 45, 46, 47, 48, 49, 50] (by decide +kernel) (by decide +kernel)
set_option maxRecDepth 20000 in
theorem gX12_at_X12_isNoPlace : GoodIn wsX12_at (wsV RX12 167 RX12 yX12_isNoPlace wsX12_isNoPlace) := goodIn_app (goodIn_of _ (by decide +kernel)) ggX12_at_X12_isNoPlace
set_option maxRecDepth 20000 in
theorem ggX12_at_X12_no : GoodIn wsX12_at wsX12_no := goodIn_r _ [11, 12, 16, 17, 18, 19, 20, 21, 22, 23, 24, 25, 26, 27, 28, 29, 30, 31, 32, 33, 34, 35, 36, 37, 38, 39, 40, 41, 42, 43, 44, 45, 46, 47, 48, 49, 50] (by decide +kernel) (by decide +kernel)
set_option maxRecDepth 20000 in
theorem gX12_at_X12_no : GoodIn wsX12_at (wsV RX12 111 RX12 yX12_no wsX12_no) := goodIn_app (goodIn_of _ (by decide +kernel)) ggX12_at_X12_no
set_option maxRecDepth 20000 in
theorem ggX12_at_X12_told : GoodIn wsX12_at wsX12_told := goodIn_r _ [15] (by decide +kernel) (by decide +kernel)
set_option maxRecDepth 20000 in
theorem gX12_at_X12_told : GoodIn wsX12_at (va_wsS RX12 170 yX12_told wsX12_told) := goodIn_app (goodIn_of _ (by decide +kernel)) ggX12_at_X12_told
theorem dX12_at_0 : decode cX12_at 0 = .ok (.aload_n 0, 1) := by decide +kernel
theorem dX12_at_1 : decode cX12_at 1 = .ok (.iload_n 1, 1) := by decide +kernel
theorem dX12_at_2 : decode cX12_at 2 = .ok (.invokevirtual 167, 3) := by decide +kernel
theorem dX12_at_5 : decode cX12_at 5 = .ok (.ifCond .eq 11, 3) := by decide +kernel
theorem dX12_at_8 : decode cX12_at 8 = .ok (.aload_n 0, 1) := by decide +kernel
theorem dX12_at_9 : decode cX12_at 9 = .ok (.iconst (-1), 1) := by decide +kernel
theorem dX12_at_10 : decode cX12_at 10 = .ok (.invokevirtual 111, 3) := by decide +kernel
theorem dX12_at_13 : decode cX12_at 13 = .ok (.goto 12, 3) := by decide +kernel
theorem dX12_at_16 : decode cX12_at 16 = .ok (.aload_n 0, 1) := by decide +kernel
theorem dX12_at_17 : decode cX12_at 17 = .ok (.getfield 34, 3) := by decide +kernel
theorem dX12_at_20 : decode cX12_at 20 = .ok (.iload_n 1, 1) := by decide +kernel
theorem dX12_at_21 : decode cX12_at 21 = .ok (.iaload, 1) := by decide +kernel
theorem dX12_at_22 : decode cX12_at 22 = .ok (.invokestatic 170, 3) := by decide +kernel
theorem dX12_at_25 : decode cX12_at 25 = .ok (.ireturn, 1) := by decide +kernel
set_option maxRecDepth 20000 in
theorem ggX12_reads__X12_isNoPlace : GoodIn wsX12_reads_ wsX12_isNoPlace := goodIn_r _ [7, 2, 22, 23, 24, 25, 26, 27, 28, 29, 30, 31, 32, 33, 34, 35, 36, 37, 38, 39, 40, 41, 42, 43, 44, 45, 46, 47, 48, 49, 50, 51, 52, 53, 54, 55, 56] (by decide +kernel) (by decide +kernel)
set_option maxRecDepth 20000 in
theorem gX12_reads__X12_isNoPlace : GoodIn wsX12_reads_ (wsV RX12 167 RX12 yX12_isNoPlace wsX12_isNoPlace) := goodIn_app (goodIn_of _ (by decide +kernel)) ggX12_reads__X12_isNoPlace
set_option maxRecDepth 20000 in
theorem ggX12_reads__X12_no : GoodIn wsX12_reads_ wsX12_no := goodIn_r _ [11, 12, 22, 23, 24, 25, 26, 27, 28, 29, 30, 31, 32, 33, 34, 35, 36, 37, 38, 39, 40, 41, 42, 43, 44, 45, 46, 47, 48, 49, 50, 51, 52, 53, 54, 55, 56] (by decide +kernel) (by decide +kernel)
set_option maxRecDepth 20000 in
theorem gX12_reads__X12_no : GoodIn wsX12_reads_ (wsV RX12 111 RX12 yX12_no wsX12_no) := goodIn_app (goodIn_of _ (by decide +kernel)) ggX12_reads__X12_no
set_option maxRecDepth 20000 in
theorem ggX12_reads__X12_isNoKind : GoodIn wsX12_reads_ wsX12_isNoKind := goodIn_r _ [15] (by decide +kernel) (by decide +kernel)
set_option maxRecDepth 20000 in
theorem gX12_reads__X12_isNoKind : GoodIn wsX12_reads_ (va_wsS RX12 173 yX12_isNoKind wsX12_isNoKind) := goodIn_app (goodIn_of _ (by decide +kernel)) ggX12_reads__X12_isNoKind
set_option maxRecDepth 20000 in
theorem ggX12_reads__X12_means : GoodIn wsX12_reads_ wsX12_means := goodIn_r _ [19, 20, 21, 22, 23, 24, 25, 26, 27, 28, 29, 30, 31, 32, 33, 34, 35, 36, 37, 38, 39, 40, 41, 42, 43, 44, 45, 46, 47, 48, 49, 50, 51, 52, 53, 54, 55, 56] (by decide +kernel) (by decide +kernel)
set_option maxRecDepth 20000 in
theorem gX12_reads__X12_means : GoodIn wsX12_reads_ (wsV RX12 155 RX12 yX12_means wsX12_means) := goodIn_app (goodIn_of _ (by decide +kernel)) ggX12_reads__X12_means
theorem dX12_reads__0 : decode cX12_reads_ 0 = .ok (.aload_n 0, 1) := by decide +kernel
theorem dX12_reads__1 : decode cX12_reads_ 1 = .ok (.iload_n 1, 1) := by decide +kernel
theorem dX12_reads__2 : decode cX12_reads_ 2 = .ok (.invokevirtual 167, 3) := by decide +kernel
theorem dX12_reads__5 : decode cX12_reads_ 5 = .ok (.ifCond .eq 9, 3) := by decide +kernel
theorem dX12_reads__8 : decode cX12_reads_ 8 = .ok (.aload_n 0, 1) := by decide +kernel
theorem dX12_reads__9 : decode cX12_reads_ 9 = .ok (.iconst (-1), 1) := by decide +kernel
theorem dX12_reads__10 : decode cX12_reads_ 10 = .ok (.invokevirtual 111, 3) := by decide +kernel
theorem dX12_reads__13 : decode cX12_reads_ 13 = .ok (.ireturn, 1) := by decide +kernel
theorem dX12_reads__14 : decode cX12_reads_ 14 = .ok (.iload_n 2, 1) := by decide +kernel
theorem dX12_reads__15 : decode cX12_reads_ 15 = .ok (.invokestatic 173, 3) := by decide +kernel
theorem dX12_reads__18 : decode cX12_reads_ 18 = .ok (.ifCond .eq 12, 3) := by decide +kernel
theorem dX12_reads__21 : decode cX12_reads_ 21 = .ok (.aload_n 0, 1) := by decide +kernel
theorem dX12_reads__22 : decode cX12_reads_ 22 = .ok (.bipush (-2), 2) := by decide +kernel
theorem dX12_reads__24 : decode cX12_reads_ 24 = .ok (.invokevirtual 111, 3) := by decide +kernel
theorem dX12_reads__27 : decode cX12_reads_ 27 = .ok (.goto 17, 3) := by decide +kernel
theorem dX12_reads__30 : decode cX12_reads_ 30 = .ok (.aload_n 0, 1) := by decide +kernel
theorem dX12_reads__31 : decode cX12_reads_ 31 = .ok (.aload_n 0, 1) := by decide +kernel
theorem dX12_reads__32 : decode cX12_reads_ 32 = .ok (.getfield 34, 3) := by decide +kernel
theorem dX12_reads__35 : decode cX12_reads_ 35 = .ok (.aload_n 0, 1) := by decide +kernel
theorem dX12_reads__36 : decode cX12_reads_ 36 = .ok (.getfield 95, 3) := by decide +kernel
theorem dX12_reads__39 : decode cX12_reads_ 39 = .ok (.iload_n 1, 1) := by decide +kernel
theorem dX12_reads__40 : decode cX12_reads_ 40 = .ok (.iload_n 2, 1) := by decide +kernel
theorem dX12_reads__41 : decode cX12_reads_ 41 = .ok (.invokevirtual 155, 3) := by decide +kernel
theorem dX12_reads__44 : decode cX12_reads_ 44 = .ok (.ireturn, 1) := by decide +kernel
set_option maxRecDepth 20000 in
theorem ggX12_same_X12_isNoKind : GoodIn wsX12_same wsX12_isNoKind := goodIn_r _ [6] (by decide +kernel) (by decide +kernel)
set_option maxRecDepth 20000 in
theorem gX12_same_X12_isNoKind : GoodIn wsX12_same (va_wsS RX12 173 yX12_isNoKind wsX12_isNoKind) := goodIn_app (goodIn_of _ (by decide +kernel)) ggX12_same_X12_isNoKind
set_option maxRecDepth 20000 in
theorem ggX12_same_X12_no : GoodIn wsX12_same wsX12_no := goodIn_r _ [10, 11, 22, 23, 24, 25, 26, 27, 28, 29, 30, 31, 32, 33, 34, 35, 36, 37, 38, 39, 40, 41, 42, 43, 44, 45, 46, 47, 48, 49, 50, 51, 52, 53, 54, 55, 56] (by decide +kernel) (by decide +kernel)
set_option maxRecDepth 20000 in
theorem gX12_same_X12_no : GoodIn wsX12_same (wsV RX12 111 RX12 yX12_no wsX12_no) := goodIn_app (goodIn_of _ (by decide +kernel)) ggX12_same_X12_no
set_option maxRecDepth 20000 in
theorem ggX12_same_X12_meansAll : GoodIn wsX12_same wsX12_meansAll := goodIn_r _ [15, 16, 17, 18, 5, 19, 20, 21, 22, 23, 24, 25, 26, 27, 28, 29, 30, 31, 32, 33, 34, 35, 36, 37, 38, 39, 40, 41, 42, 43, 44, 45, 46, 47, 48, 49, 50, 51, 52, 53, 54, 55, 56] (by decide +kernel) (by decide +kernel)
set_option maxRecDepth 20000 in
theorem gX12_same_X12_meansAll : GoodIn wsX12_same (wsV RX12 176 RX12 yX12_meansAll wsX12_meansAll) := goodIn_app (goodIn_of _ (by decide +kernel)) ggX12_same_X12_meansAll
theorem dX12_same_0 : decode cX12_same 0 = .ok (.iload_n 1, 1) := by decide +kernel
theorem dX12_same_1 : decode cX12_same 1 = .ok (.invokestatic 173, 3) := by decide +kernel
theorem dX12_same_4 : decode cX12_same 4 = .ok (.ifCond .eq 10, 3) := by decide +kernel
theorem dX12_same_7 : decode cX12_same 7 = .ok (.aload_n 0, 1) := by decide +kernel
theorem dX12_same_8 : decode cX12_same 8 = .ok (.bipush (-2), 2) := by decide +kernel
theorem dX12_same_10 : decode cX12_same 10 = .ok (.invokevirtual 111, 3) := by decide +kernel
theorem dX12_same_13 : decode cX12_same 13 = .ok (.ireturn, 1) := by decide +kernel
theorem dX12_same_14 : decode cX12_same 14 = .ok (.aload_n 0, 1) := by decide +kernel
theorem dX12_same_15 : decode cX12_same 15 = .ok (.aload_n 0, 1) := by decide +kernel
theorem dX12_same_16 : decode cX12_same 16 = .ok (.getfield 34, 3) := by decide +kernel
theorem dX12_same_19 : decode cX12_same 19 = .ok (.aload_n 0, 1) := by decide +kernel
theorem dX12_same_20 : decode cX12_same 20 = .ok (.getfield 95, 3) := by decide +kernel
theorem dX12_same_23 : decode cX12_same 23 = .ok (.iload_n 1, 1) := by decide +kernel
theorem dX12_same_24 : decode cX12_same 24 = .ok (.invokevirtual 176, 3) := by decide +kernel
theorem dX12_same_27 : decode cX12_same 27 = .ok (.bipush 16, 2) := by decide +kernel
theorem dX12_same_29 : decode cX12_same 29 = .ok (.if_icmp .ne 7, 3) := by decide +kernel
theorem dX12_same_32 : decode cX12_same 32 = .ok (.iconst 0, 1) := by decide +kernel
theorem dX12_same_33 : decode cX12_same 33 = .ok (.goto 4, 3) := by decide +kernel
theorem dX12_same_36 : decode cX12_same 36 = .ok (.iconst 1, 1) := by decide +kernel
theorem dX12_same_37 : decode cX12_same 37 = .ok (.ireturn, 1) := by decide +kernel
set_option maxRecDepth 20000 in
theorem ggX12_says_X12_isNoKind : GoodIn wsX12_says wsX12_isNoKind := goodIn_r _ [6] (by decide +kernel) (by decide +kernel)
set_option maxRecDepth 20000 in
theorem gX12_says_X12_isNoKind : GoodIn wsX12_says (va_wsS RX12 173 yX12_isNoKind wsX12_isNoKind) := goodIn_app (goodIn_of _ (by decide +kernel)) ggX12_says_X12_isNoKind
set_option maxRecDepth 20000 in
theorem ggX12_says_X12_no : GoodIn wsX12_says wsX12_no := goodIn_r _ [10, 11, 18, 19, 20, 21, 22, 23, 24, 25, 26, 27, 28, 29, 30, 31, 32, 33, 34, 35, 36, 37, 38, 39, 40, 41, 42, 43, 44, 45, 46, 47, 48, 49, 50, 51, 52] (by decide +kernel) (by decide +kernel)
set_option maxRecDepth 20000 in
theorem gX12_says_X12_no : GoodIn wsX12_says (wsV RX12 111 RX12 yX12_no wsX12_no) := goodIn_app (goodIn_of _ (by decide +kernel)) ggX12_says_X12_no
set_option maxRecDepth 20000 in
theorem ggX12_says_X12_means : GoodIn wsX12_says wsX12_means := goodIn_r _ [15, 16, 17, 18, 19, 20, 21, 22, 23, 24, 25, 26, 27, 28, 29, 30, 31, 32, 33, 34, 35, 36, 37, 38, 39, 40, 41, 42, 43, 44, 45, 46, 47, 48, 49, 50, 51, 52] (by decide +kernel) (by decide +kernel)
set_option maxRecDepth 20000 in
theorem gX12_says_X12_means : GoodIn wsX12_says (wsV RX12 155 RX12 yX12_means wsX12_means) := goodIn_app (goodIn_of _ (by decide +kernel)) ggX12_says_X12_means
theorem dX12_says_0 : decode cX12_says 0 = .ok (.iload_n 1, 1) := by decide +kernel
theorem dX12_says_1 : decode cX12_says 1 = .ok (.invokestatic 173, 3) := by decide +kernel
theorem dX12_says_4 : decode cX12_says 4 = .ok (.ifCond .eq 10, 3) := by decide +kernel
theorem dX12_says_7 : decode cX12_says 7 = .ok (.aload_n 0, 1) := by decide +kernel
theorem dX12_says_8 : decode cX12_says 8 = .ok (.bipush (-2), 2) := by decide +kernel
theorem dX12_says_10 : decode cX12_says 10 = .ok (.invokevirtual 111, 3) := by decide +kernel
theorem dX12_says_13 : decode cX12_says 13 = .ok (.ireturn, 1) := by decide +kernel
theorem dX12_says_14 : decode cX12_says 14 = .ok (.iconst 0, 1) := by decide +kernel
theorem dX12_says_15 : decode cX12_says 15 = .ok (.istore_n 2, 1) := by decide +kernel
theorem dX12_says_16 : decode cX12_says 16 = .ok (.iconst 0, 1) := by decide +kernel
theorem dX12_says_17 : decode cX12_says 17 = .ok (.istore_n 3, 1) := by decide +kernel
theorem dX12_says_18 : decode cX12_says 18 = .ok (.iload_n 3, 1) := by decide +kernel
theorem dX12_says_19 : decode cX12_says 19 = .ok (.aload_n 0, 1) := by decide +kernel
theorem dX12_says_20 : decode cX12_says 20 = .ok (.getfield 95, 3) := by decide +kernel
theorem dX12_says_23 : decode cX12_says 23 = .ok (.if_icmp .ge 28, 3) := by decide +kernel
theorem dX12_says_26 : decode cX12_says 26 = .ok (.iload_n 2, 1) := by decide +kernel
theorem dX12_says_27 : decode cX12_says 27 = .ok (.iconst 1, 1) := by decide +kernel
theorem dX12_says_28 : decode cX12_says 28 = .ok (.aload_n 0, 1) := by decide +kernel
theorem dX12_says_29 : decode cX12_says 29 = .ok (.aload_n 0, 1) := by decide +kernel
theorem dX12_says_30 : decode cX12_says 30 = .ok (.getfield 34, 3) := by decide +kernel
theorem dX12_says_33 : decode cX12_says 33 = .ok (.aload_n 0, 1) := by decide +kernel
theorem dX12_says_34 : decode cX12_says 34 = .ok (.getfield 95, 3) := by decide +kernel
theorem dX12_says_37 : decode cX12_says 37 = .ok (.iload_n 3, 1) := by decide +kernel
theorem dX12_says_38 : decode cX12_says 38 = .ok (.iload_n 1, 1) := by decide +kernel
theorem dX12_says_39 : decode cX12_says 39 = .ok (.invokevirtual 155, 3) := by decide +kernel
theorem dX12_says_42 : decode cX12_says 42 = .ok (.ishl, 1) := by decide +kernel
theorem dX12_says_43 : decode cX12_says 43 = .ok (.ior, 1) := by decide +kernel
theorem dX12_says_44 : decode cX12_says 44 = .ok (.istore_n 2, 1) := by decide +kernel
theorem dX12_says_45 : decode cX12_says 45 = .ok (.iinc 3 1, 3) := by decide +kernel
theorem dX12_says_48 : decode cX12_says 48 = .ok (.goto (-30), 3) := by decide +kernel
theorem dX12_says_51 : decode cX12_says 51 = .ok (.iload_n 2, 1) := by decide +kernel
theorem dX12_says_52 : decode cX12_says 52 = .ok (.ireturn, 1) := by decide +kernel
set_option maxRecDepth 20000 in
theorem ggX12_judge_X12_no : GoodIn wsX12_judge wsX12_no := goodIn_r _ [9, 10, 23, 24, 25, 26, 27, 28, 29, 30, 31, 32, 33, 34, 35, 36, 37, 38, 39, 40, 41, 42, 43, 44, 45, 46, 47, 48, 49, 50, 51, 52, 53, 54, 55, 56, 57] (by decide +kernel) (by decide +kernel)
set_option maxRecDepth 20000 in
theorem gX12_judge_X12_no : GoodIn wsX12_judge (wsV RX12 111 RX12 yX12_no wsX12_no) := goodIn_app (goodIn_of _ (by decide +kernel)) ggX12_judge_X12_no
set_option maxRecDepth 20000 in
theorem ggX12_judge_X12_reads : GoodIn wsX12_judge wsX12_reads := goodIn_r _ [14, 15, 16, 17, 18, 19, 8, 20, 21, 22, 23, 24, 25, 26, 27, 28, 29, 30, 31, 32, 33, 34, 35, 36, 37, 38, 39, 40, 41, 42, 43, 44, 45, 46, 47, 48, 49, 50, 51, 52, 53, 54, 55, 56, 57] (by decide +kernel) (by decide +kernel)
set_option maxRecDepth 20000 in
theorem gX12_judge_X12_reads : GoodIn wsX12_judge (wsV RX12 159 RX12 yX12_reads wsX12_reads) := goodIn_app (goodIn_of _ (by decide +kernel)) ggX12_judge_X12_reads
theorem dX12_judge_0 : decode cX12_judge 0 = .ok (.aload_n 0, 1) := by decide +kernel
theorem dX12_judge_1 : decode cX12_judge 1 = .ok (.getfield 95, 3) := by decide +kernel
theorem dX12_judge_4 : decode cX12_judge 4 = .ok (.ifCond .ne 10, 3) := by decide +kernel
theorem dX12_judge_7 : decode cX12_judge 7 = .ok (.aload_n 0, 1) := by decide +kernel
theorem dX12_judge_8 : decode cX12_judge 8 = .ok (.bipush (-3), 2) := by decide +kernel
theorem dX12_judge_10 : decode cX12_judge 10 = .ok (.invokevirtual 111, 3) := by decide +kernel
theorem dX12_judge_13 : decode cX12_judge 13 = .ok (.ireturn, 1) := by decide +kernel
theorem dX12_judge_14 : decode cX12_judge 14 = .ok (.iconst 0, 1) := by decide +kernel
theorem dX12_judge_15 : decode cX12_judge 15 = .ok (.istore_n 1, 1) := by decide +kernel
theorem dX12_judge_16 : decode cX12_judge 16 = .ok (.iload_n 1, 1) := by decide +kernel
theorem dX12_judge_17 : decode cX12_judge 17 = .ok (.aload_n 0, 1) := by decide +kernel
theorem dX12_judge_18 : decode cX12_judge 18 = .ok (.getfield 92, 3) := by decide +kernel
theorem dX12_judge_21 : decode cX12_judge 21 = .ok (.if_icmp .ge 33, 3) := by decide +kernel
theorem dX12_judge_24 : decode cX12_judge 24 = .ok (.aload_n 0, 1) := by decide +kernel
theorem dX12_judge_25 : decode cX12_judge 25 = .ok (.aload_n 0, 1) := by decide +kernel
theorem dX12_judge_26 : decode cX12_judge 26 = .ok (.getfield 34, 3) := by decide +kernel
theorem dX12_judge_29 : decode cX12_judge 29 = .ok (.aload_n 0, 1) := by decide +kernel
theorem dX12_judge_30 : decode cX12_judge 30 = .ok (.getfield 95, 3) := by decide +kernel
theorem dX12_judge_33 : decode cX12_judge 33 = .ok (.iload_n 1, 1) := by decide +kernel
theorem dX12_judge_34 : decode cX12_judge 34 = .ok (.invokevirtual 159, 3) := by decide +kernel
theorem dX12_judge_37 : decode cX12_judge 37 = .ok (.aload_n 0, 1) := by decide +kernel
theorem dX12_judge_38 : decode cX12_judge 38 = .ok (.getfield 31, 3) := by decide +kernel
theorem dX12_judge_41 : decode cX12_judge 41 = .ok (.iload_n 1, 1) := by decide +kernel
theorem dX12_judge_42 : decode cX12_judge 42 = .ok (.iaload, 1) := by decide +kernel
theorem dX12_judge_43 : decode cX12_judge 43 = .ok (.if_icmp .eq 5, 3) := by decide +kernel
theorem dX12_judge_46 : decode cX12_judge 46 = .ok (.iload_n 1, 1) := by decide +kernel
theorem dX12_judge_47 : decode cX12_judge 47 = .ok (.ireturn, 1) := by decide +kernel
theorem dX12_judge_48 : decode cX12_judge 48 = .ok (.iinc 1 1, 3) := by decide +kernel
theorem dX12_judge_51 : decode cX12_judge 51 = .ok (.goto (-35), 3) := by decide +kernel
theorem dX12_judge_54 : decode cX12_judge 54 = .ok (.bipush (-9), 2) := by decide +kernel
theorem dX12_judge_56 : decode cX12_judge 56 = .ok (.ireturn, 1) := by decide +kernel
theorem dX12_begin_0 : decode cX12_begin 0 = .ok (.iconst 0, 1) := by decide +kernel
theorem dX12_begin_1 : decode cX12_begin 1 = .ok (.istore_n 2, 1) := by decide +kernel
theorem dX12_begin_2 : decode cX12_begin 2 = .ok (.iload_n 2, 1) := by decide +kernel
theorem dX12_begin_3 : decode cX12_begin 3 = .ok (.iload_n 1, 1) := by decide +kernel
theorem dX12_begin_4 : decode cX12_begin 4 = .ok (.if_icmp .ge 16, 3) := by decide +kernel
theorem dX12_begin_7 : decode cX12_begin 7 = .ok (.aload_n 0, 1) := by decide +kernel
theorem dX12_begin_8 : decode cX12_begin 8 = .ok (.getfield 62, 3) := by decide +kernel
theorem dX12_begin_11 : decode cX12_begin 11 = .ok (.iload_n 2, 1) := by decide +kernel
theorem dX12_begin_12 : decode cX12_begin 12 = .ok (.iconst 0, 1) := by decide +kernel
theorem dX12_begin_13 : decode cX12_begin 13 = .ok (.iastore, 1) := by decide +kernel
theorem dX12_begin_14 : decode cX12_begin 14 = .ok (.iinc 2 1, 3) := by decide +kernel
theorem dX12_begin_17 : decode cX12_begin 17 = .ok (.goto (-15), 3) := by decide +kernel
theorem dX12_begin_20 : decode cX12_begin 20 = .ok (.return_, 1) := by decide +kernel
theorem dX12_isNext_0 : decode cX12_isNext 0 = .ok (.iload_n 1, 1) := by decide +kernel
theorem dX12_isNext_1 : decode cX12_isNext 1 = .ok (.iconst 1, 1) := by decide +kernel
theorem dX12_isNext_2 : decode cX12_isNext 2 = .ok (.isub, 1) := by decide +kernel
theorem dX12_isNext_3 : decode cX12_isNext 3 = .ok (.istore_n 2, 1) := by decide +kernel
theorem dX12_isNext_4 : decode cX12_isNext 4 = .ok (.iload_n 2, 1) := by decide +kernel
theorem dX12_isNext_5 : decode cX12_isNext 5 = .ok (.ifCond .lt 41, 3) := by decide +kernel
theorem dX12_isNext_8 : decode cX12_isNext 8 = .ok (.aload_n 0, 1) := by decide +kernel
theorem dX12_isNext_9 : decode cX12_isNext 9 = .ok (.getfield 62, 3) := by decide +kernel
theorem dX12_isNext_12 : decode cX12_isNext 12 = .ok (.iload_n 2, 1) := by decide +kernel
theorem dX12_isNext_13 : decode cX12_isNext 13 = .ok (.dup2, 1) := by decide +kernel
theorem dX12_isNext_14 : decode cX12_isNext 14 = .ok (.iaload, 1) := by decide +kernel
theorem dX12_isNext_15 : decode cX12_isNext 15 = .ok (.iconst 1, 1) := by decide +kernel
theorem dX12_isNext_16 : decode cX12_isNext 16 = .ok (.iadd, 1) := by decide +kernel
theorem dX12_isNext_17 : decode cX12_isNext 17 = .ok (.iastore, 1) := by decide +kernel
theorem dX12_isNext_18 : decode cX12_isNext 18 = .ok (.aload_n 0, 1) := by decide +kernel
theorem dX12_isNext_19 : decode cX12_isNext 19 = .ok (.getfield 62, 3) := by decide +kernel
theorem dX12_isNext_22 : decode cX12_isNext 22 = .ok (.iload_n 2, 1) := by decide +kernel
theorem dX12_isNext_23 : decode cX12_isNext 23 = .ok (.iaload, 1) := by decide +kernel
theorem dX12_isNext_24 : decode cX12_isNext 24 = .ok (.aload_n 0, 1) := by decide +kernel
theorem dX12_isNext_25 : decode cX12_isNext 25 = .ok (.getfield 85, 3) := by decide +kernel
theorem dX12_isNext_28 : decode cX12_isNext 28 = .ok (.if_icmp .ge 5, 3) := by decide +kernel
theorem dX12_isNext_31 : decode cX12_isNext 31 = .ok (.iconst 1, 1) := by decide +kernel
theorem dX12_isNext_32 : decode cX12_isNext 32 = .ok (.ireturn, 1) := by decide +kernel
theorem dX12_isNext_33 : decode cX12_isNext 33 = .ok (.aload_n 0, 1) := by decide +kernel
theorem dX12_isNext_34 : decode cX12_isNext 34 = .ok (.getfield 62, 3) := by decide +kernel
theorem dX12_isNext_37 : decode cX12_isNext 37 = .ok (.iload_n 2, 1) := by decide +kernel
theorem dX12_isNext_38 : decode cX12_isNext 38 = .ok (.iconst 0, 1) := by decide +kernel
theorem dX12_isNext_39 : decode cX12_isNext 39 = .ok (.iastore, 1) := by decide +kernel
theorem dX12_isNext_40 : decode cX12_isNext 40 = .ok (.iinc 2 (-1), 3) := by decide +kernel
theorem dX12_isNext_43 : decode cX12_isNext 43 = .ok (.goto (-39), 3) := by decide +kernel
theorem dX12_isNext_46 : decode cX12_isNext 46 = .ok (.iconst 0, 1) := by decide +kernel
theorem dX12_isNext_47 : decode cX12_isNext 47 = .ok (.ireturn, 1) := by decide +kernel
set_option maxRecDepth 20000 in
theorem ggX12_least_X12_begin : GoodIn wsX12_least wsX12_begin := goodIn_r _ [7, 2, 22, 23, 24, 25, 26, 27, 28, 29, 30, 31, 32, 33, 34, 35, 36, 37, 38, 39, 40, 41, 42, 43, 44, 45, 46, 47, 48, 49, 50, 51, 52, 53, 54, 55, 56] (by decide +kernel) (by decide +kernel)
set_option maxRecDepth 20000 in
theorem gX12_least_X12_begin : GoodIn wsX12_least (wsV RX12 179 RX12 yX12_begin wsX12_begin) := goodIn_app (goodIn_of _ (by decide +kernel)) ggX12_least_X12_begin
set_option maxRecDepth 20000 in
theorem ggX12_least_X12_meansAll : GoodIn wsX12_least wsX12_meansAll := goodIn_r _ [11, 12, 13, 14, 6, 15, 16, 17, 22, 23, 24, 25, 26, 27, 28, 29, 30, 31, 32, 33, 34, 35, 36, 37, 38, 39, 40, 41, 42, 43, 44, 45, 46, 47, 48, 49, 50, 51, 52, 53, 54, 55, 56] (by decide +kernel) (by decide +kernel)
set_option maxRecDepth 20000 in
theorem gX12_least_X12_meansAll : GoodIn wsX12_least (wsV RX12 176 RX12 yX12_meansAll wsX12_meansAll) := goodIn_app (goodIn_of _ (by decide +kernel)) ggX12_least_X12_meansAll
set_option maxRecDepth 20000 in
theorem ggX12_least_X12_isNext : GoodIn wsX12_least wsX12_isNext := goodIn_r _ [21, 2, 1, 22, 23, 24, 25, 26, 27, 28, 29, 30, 31, 32, 33, 34, 35, 36, 37, 38, 39, 40, 41, 42, 43, 44, 45, 46, 47, 48, 49, 50, 51, 52, 53, 54, 55, 56] (by decide +kernel) (by decide +kernel)
set_option maxRecDepth 20000 in
theorem gX12_least_X12_isNext : GoodIn wsX12_least (wsV RX12 183 RX12 yX12_isNext wsX12_isNext) := goodIn_app (goodIn_of _ (by decide +kernel)) ggX12_least_X12_isNext
theorem dX12_least_0 : decode cX12_least 0 = .ok (.iconst 1, 1) := by decide +kernel
theorem dX12_least_1 : decode cX12_least 1 = .ok (.istore_n 3, 1) := by decide +kernel
theorem dX12_least_2 : decode cX12_least 2 = .ok (.iload_n 3, 1) := by decide +kernel
theorem dX12_least_3 : decode cX12_least 3 = .ok (.bipush 6, 2) := by decide +kernel
theorem dX12_least_5 : decode cX12_least 5 = .ok (.if_icmp .ge 45, 3) := by decide +kernel
theorem dX12_least_8 : decode cX12_least 8 = .ok (.aload_n 0, 1) := by decide +kernel
theorem dX12_least_9 : decode cX12_least 9 = .ok (.getfield 85, 3) := by decide +kernel
theorem dX12_least_12 : decode cX12_least 12 = .ok (.ifCond .le 38, 3) := by decide +kernel
theorem dX12_least_15 : decode cX12_least 15 = .ok (.aload_n 0, 1) := by decide +kernel
theorem dX12_least_16 : decode cX12_least 16 = .ok (.iload_n 3, 1) := by decide +kernel
theorem dX12_least_17 : decode cX12_least 17 = .ok (.invokevirtual 179, 3) := by decide +kernel
theorem dX12_least_20 : decode cX12_least 20 = .ok (.aload_n 0, 1) := by decide +kernel
theorem dX12_least_21 : decode cX12_least 21 = .ok (.aload_n 0, 1) := by decide +kernel
theorem dX12_least_22 : decode cX12_least 22 = .ok (.getfield 62, 3) := by decide +kernel
theorem dX12_least_25 : decode cX12_least 25 = .ok (.iload_n 3, 1) := by decide +kernel
theorem dX12_least_26 : decode cX12_least 26 = .ok (.iload_n 2, 1) := by decide +kernel
theorem dX12_least_27 : decode cX12_least 27 = .ok (.invokevirtual 176, 3) := by decide +kernel
theorem dX12_least_30 : decode cX12_least 30 = .ok (.iload_n 1, 1) := by decide +kernel
theorem dX12_least_31 : decode cX12_least 31 = .ok (.if_icmp .ne 5, 3) := by decide +kernel
theorem dX12_least_34 : decode cX12_least 34 = .ok (.iload_n 3, 1) := by decide +kernel
theorem dX12_least_35 : decode cX12_least 35 = .ok (.ireturn, 1) := by decide +kernel
theorem dX12_least_36 : decode cX12_least 36 = .ok (.aload_n 0, 1) := by decide +kernel
theorem dX12_least_37 : decode cX12_least 37 = .ok (.iload_n 3, 1) := by decide +kernel
theorem dX12_least_38 : decode cX12_least 38 = .ok (.invokevirtual 183, 3) := by decide +kernel
theorem dX12_least_41 : decode cX12_least 41 = .ok (.ifCond .ne (-21), 3) := by decide +kernel
theorem dX12_least_44 : decode cX12_least 44 = .ok (.iinc 3 1, 3) := by decide +kernel
theorem dX12_least_47 : decode cX12_least 47 = .ok (.goto (-45), 3) := by decide +kernel
theorem dX12_least_50 : decode cX12_least 50 = .ok (.bipush (-9), 2) := by decide +kernel
theorem dX12_least_52 : decode cX12_least 52 = .ok (.ireturn, 1) := by decide +kernel
set_option maxRecDepth 20000 in
theorem ggX12_leastEach_X12_begin : GoodIn wsX12_leastEach wsX12_begin := goodIn_r _ [7, 2, 30, 31, 32, 33, 34, 35, 36, 37, 38, 39, 40, 41, 42, 43, 44, 45, 46, 47, 48, 49, 50, 51, 52, 53, 54, 55, 56, 57, 58, 59, 60, 61, 62, 63, 64] (by decide +kernel) (by decide +kernel)
set_option maxRecDepth 20000 in
theorem gX12_leastEach_X12_begin : GoodIn wsX12_leastEach (wsV RX12 179 RX12 yX12_begin wsX12_begin) := goodIn_app (goodIn_of _ (by decide +kernel)) ggX12_leastEach_X12_begin
set_option maxRecDepth 20000 in
theorem ggX12_leastEach_X12_areWished : GoodIn wsX12_leastEach wsX12_areWished := goodIn_r _ [11, 12, 13, 14, 15, 16, 6, 17, 18, 19, 20, 21, 22, 23, 24, 25, 30, 31, 32, 33, 34, 35, 36, 37, 38, 39, 40, 41, 42, 43, 44, 45, 46, 47, 48, 49, 50, 51, 52, 53, 54, 55, 56, 57, 58, 59, 60, 61, 62, 63, 64] (by decide +kernel) (by decide +kernel)
set_option maxRecDepth 20000 in
theorem gX12_leastEach_X12_areWished : GoodIn wsX12_leastEach (wsV RX12 186 RX12 yX12_areWished wsX12_areWished) := goodIn_app (goodIn_of _ (by decide +kernel)) ggX12_leastEach_X12_areWished
set_option maxRecDepth 20000 in
theorem ggX12_leastEach_X12_isNext : GoodIn wsX12_leastEach wsX12_isNext := goodIn_r _ [29, 2, 1, 30, 31, 32, 33, 34, 35, 36, 37, 38, 39, 40, 41, 42, 43, 44, 45, 46, 47, 48, 49, 50, 51, 52, 53, 54, 55, 56, 57, 58, 59, 60, 61, 62, 63, 64] (by decide +kernel) (by decide +kernel)
set_option maxRecDepth 20000 in
theorem gX12_leastEach_X12_isNext : GoodIn wsX12_leastEach (wsV RX12 183 RX12 yX12_isNext wsX12_isNext) := goodIn_app (goodIn_of _ (by decide +kernel)) ggX12_leastEach_X12_isNext
theorem dX12_leastEach_0 : decode cX12_leastEach 0 = .ok (.iconst 1, 1) := by decide +kernel
theorem dX12_leastEach_1 : decode cX12_leastEach 1 = .ok (.istore_n 1, 1) := by decide +kernel
theorem dX12_leastEach_2 : decode cX12_leastEach 2 = .ok (.iload_n 1, 1) := by decide +kernel
theorem dX12_leastEach_3 : decode cX12_leastEach 3 = .ok (.bipush 6, 2) := by decide +kernel
theorem dX12_leastEach_5 : decode cX12_leastEach 5 = .ok (.if_icmp .ge 43, 3) := by decide +kernel
theorem dX12_leastEach_8 : decode cX12_leastEach 8 = .ok (.aload_n 0, 1) := by decide +kernel
theorem dX12_leastEach_9 : decode cX12_leastEach 9 = .ok (.getfield 85, 3) := by decide +kernel
theorem dX12_leastEach_12 : decode cX12_leastEach 12 = .ok (.ifCond .le 36, 3) := by decide +kernel
theorem dX12_leastEach_15 : decode cX12_leastEach 15 = .ok (.aload_n 0, 1) := by decide +kernel
theorem dX12_leastEach_16 : decode cX12_leastEach 16 = .ok (.iload_n 1, 1) := by decide +kernel
theorem dX12_leastEach_17 : decode cX12_leastEach 17 = .ok (.invokevirtual 179, 3) := by decide +kernel
theorem dX12_leastEach_20 : decode cX12_leastEach 20 = .ok (.aload_n 0, 1) := by decide +kernel
theorem dX12_leastEach_21 : decode cX12_leastEach 21 = .ok (.aload_n 0, 1) := by decide +kernel
theorem dX12_leastEach_22 : decode cX12_leastEach 22 = .ok (.getfield 62, 3) := by decide +kernel
theorem dX12_leastEach_25 : decode cX12_leastEach 25 = .ok (.iload_n 1, 1) := by decide +kernel
theorem dX12_leastEach_26 : decode cX12_leastEach 26 = .ok (.invokevirtual 186, 3) := by decide +kernel
theorem dX12_leastEach_29 : decode cX12_leastEach 29 = .ok (.ifCond .eq 5, 3) := by decide +kernel
theorem dX12_leastEach_32 : decode cX12_leastEach 32 = .ok (.iload_n 1, 1) := by decide +kernel
theorem dX12_leastEach_33 : decode cX12_leastEach 33 = .ok (.ireturn, 1) := by decide +kernel
theorem dX12_leastEach_34 : decode cX12_leastEach 34 = .ok (.aload_n 0, 1) := by decide +kernel
theorem dX12_leastEach_35 : decode cX12_leastEach 35 = .ok (.iload_n 1, 1) := by decide +kernel
theorem dX12_leastEach_36 : decode cX12_leastEach 36 = .ok (.invokevirtual 183, 3) := by decide +kernel
theorem dX12_leastEach_39 : decode cX12_leastEach 39 = .ok (.ifCond .ne (-19), 3) := by decide +kernel
theorem dX12_leastEach_42 : decode cX12_leastEach 42 = .ok (.iinc 1 1, 3) := by decide +kernel
theorem dX12_leastEach_45 : decode cX12_leastEach 45 = .ok (.goto (-43), 3) := by decide +kernel
theorem dX12_leastEach_48 : decode cX12_leastEach 48 = .ok (.bipush (-9), 2) := by decide +kernel
theorem dX12_leastEach_50 : decode cX12_leastEach 50 = .ok (.ireturn, 1) := by decide +kernel
set_option maxRecDepth 20000 in
theorem ggX12_shortest_X12_no : GoodIn wsX12_shortest wsX12_no := goodIn_r _ [6, 7, 34, 35, 36, 37, 38, 39, 40, 41, 42, 43, 44, 45, 46, 47, 48, 49, 50, 51, 52, 53, 54, 55, 56, 57, 58, 59, 60, 61, 62, 63, 64, 65, 66, 67, 68] (by decide +kernel) (by decide +kernel)
set_option maxRecDepth 20000 in
theorem gX12_shortest_X12_no : GoodIn wsX12_shortest (wsV RX12 111 RX12 yX12_no wsX12_no) := goodIn_app (goodIn_of _ (by decide +kernel)) ggX12_shortest_X12_no
set_option maxRecDepth 20000 in
theorem ggX12_shortest_X12_isNoKind : GoodIn wsX12_shortest wsX12_isNoKind := goodIn_r _ [10] (by decide +kernel) (by decide +kernel)
set_option maxRecDepth 20000 in
theorem gX12_shortest_X12_isNoKind : GoodIn wsX12_shortest (va_wsS RX12 173 yX12_isNoKind wsX12_isNoKind) := goodIn_app (goodIn_of _ (by decide +kernel)) ggX12_shortest_X12_isNoKind
set_option maxRecDepth 20000 in
theorem ggX12_shortest_X12_least : GoodIn wsX12_shortest wsX12_least := goodIn_r _ [14, 15, 1, 16, 17, 18, 5, 19, 20, 21, 22, 23, 24, 25, 26, 27, 28, 29, 30, 31, 32, 33, 34, 35, 36, 37, 38, 39, 40, 41, 42, 43, 44, 45, 46, 47, 48, 49, 50, 51, 52, 53, 54, 55, 56, 57, 58, 59, 60, 61, 62, 63, 64, 65, 66, 67, 68] (by decide +kernel) (by decide +kernel)
set_option maxRecDepth 20000 in
theorem gX12_shortest_X12_least : GoodIn wsX12_shortest (wsV RX12 190 RX12 yX12_least wsX12_least) := goodIn_app (goodIn_of _ (by decide +kernel)) ggX12_shortest_X12_least
theorem dX12_shortest_0 : decode cX12_shortest 0 = .ok (.iload_n 1, 1) := by decide +kernel
theorem dX12_shortest_1 : decode cX12_shortest 1 = .ok (.ifCond .lt 9, 3) := by decide +kernel
