theorem dX5_loadEnds_11 : decode cX5_loadEnds 11 = .ok (.istore 4, 2) := by decide +kernel
theorem dX5_loadEnds_13 : decode cX5_loadEnds 13 = .ok (.iload_n 3, 1) := by decide +kernel
theorem dX5_loadEnds_14 : decode cX5_loadEnds 14 = .ok (.ifCond .eq 9, 3) := by decide +kernel
theorem dX5_loadEnds_17 : decode cX5_loadEnds 17 = .ok (.iload_n 2, 1) := by decide +kernel
theorem dX5_loadEnds_18 : decode cX5_loadEnds 18 = .ok (.iconst 1, 1) := by decide +kernel
theorem dX5_loadEnds_19 : decode cX5_loadEnds 19 = .ok (.isub, 1) := by decide +kernel
theorem dX5_loadEnds_20 : decode cX5_loadEnds 20 = .ok (.goto 6, 3) := by decide +kernel
theorem dX5_loadEnds_23 : decode cX5_loadEnds 23 = .ok (.iload_n 2, 1) := by decide +kernel
theorem dX5_loadEnds_24 : decode cX5_loadEnds 24 = .ok (.iconst 1, 1) := by decide +kernel
theorem dX5_loadEnds_25 : decode cX5_loadEnds 25 = .ok (.iadd, 1) := by decide +kernel
theorem dX5_loadEnds_26 : decode cX5_loadEnds 26 = .ok (.istore 5, 2) := by decide +kernel
theorem dX5_loadEnds_28 : decode cX5_loadEnds 28 = .ok (.aload_n 0, 1) := by decide +kernel
theorem dX5_loadEnds_29 : decode cX5_loadEnds 29 = .ok (.getfield 36, 3) := by decide +kernel
theorem dX5_loadEnds_32 : decode cX5_loadEnds 32 = .ok (.iload 4, 2) := by decide +kernel
theorem dX5_loadEnds_34 : decode cX5_loadEnds 34 = .ok (.invokevirtual 100, 3) := by decide +kernel
theorem dX5_loadEnds_37 : decode cX5_loadEnds 37 = .ok (.bipush 24, 2) := by decide +kernel
theorem dX5_loadEnds_39 : decode cX5_loadEnds 39 = .ok (.invokestatic 106, 3) := by decide +kernel
theorem dX5_loadEnds_42 : decode cX5_loadEnds 42 = .ok (.istore 6, 2) := by decide +kernel
theorem dX5_loadEnds_44 : decode cX5_loadEnds 44 = .ok (.iconst 0, 1) := by decide +kernel
theorem dX5_loadEnds_45 : decode cX5_loadEnds 45 = .ok (.istore 7, 2) := by decide +kernel
theorem dX5_loadEnds_47 : decode cX5_loadEnds 47 = .ok (.iload 7, 2) := by decide +kernel
theorem dX5_loadEnds_49 : decode cX5_loadEnds 49 = .ok (.iload 6, 2) := by decide +kernel
theorem dX5_loadEnds_51 : decode cX5_loadEnds 51 = .ok (.if_icmp .ge 130, 3) := by decide +kernel
theorem dX5_loadEnds_54 : decode cX5_loadEnds 54 = .ok (.aload_n 0, 1) := by decide +kernel
theorem dX5_loadEnds_55 : decode cX5_loadEnds 55 = .ok (.getfield 36, 3) := by decide +kernel
theorem dX5_loadEnds_58 : decode cX5_loadEnds 58 = .ok (.iload 4, 2) := by decide +kernel
theorem dX5_loadEnds_60 : decode cX5_loadEnds 60 = .ok (.iload 7, 2) := by decide +kernel
theorem dX5_loadEnds_62 : decode cX5_loadEnds 62 = .ok (.iload_n 3, 1) := by decide +kernel
theorem dX5_loadEnds_63 : decode cX5_loadEnds 63 = .ok (.ifCond .ne 7, 3) := by decide +kernel
theorem dX5_loadEnds_66 : decode cX5_loadEnds 66 = .ok (.iconst 1, 1) := by decide +kernel
theorem dX5_loadEnds_67 : decode cX5_loadEnds 67 = .ok (.goto 4, 3) := by decide +kernel
theorem dX5_loadEnds_70 : decode cX5_loadEnds 70 = .ok (.iconst 0, 1) := by decide +kernel
theorem dX5_loadEnds_71 : decode cX5_loadEnds 71 = .ok (.invokevirtual 112, 3) := by decide +kernel
theorem dX5_loadEnds_74 : decode cX5_loadEnds 74 = .ok (.istore 8, 2) := by decide +kernel
theorem dX5_loadEnds_76 : decode cX5_loadEnds 76 = .ok (.aload_n 1, 1) := by decide +kernel
theorem dX5_loadEnds_77 : decode cX5_loadEnds 77 = .ok (.iload 5, 2) := by decide +kernel
theorem dX5_loadEnds_79 : decode cX5_loadEnds 79 = .ok (.aload_n 0, 1) := by decide +kernel
theorem dX5_loadEnds_80 : decode cX5_loadEnds 80 = .ok (.getfield 36, 3) := by decide +kernel
theorem dX5_loadEnds_83 : decode cX5_loadEnds 83 = .ok (.iload 4, 2) := by decide +kernel
theorem dX5_loadEnds_85 : decode cX5_loadEnds 85 = .ok (.iload 7, 2) := by decide +kernel
theorem dX5_loadEnds_87 : decode cX5_loadEnds 87 = .ok (.iload_n 3, 1) := by decide +kernel
theorem dX5_loadEnds_88 : decode cX5_loadEnds 88 = .ok (.invokevirtual 112, 3) := by decide +kernel
theorem dX5_loadEnds_91 : decode cX5_loadEnds 91 = .ok (.invokevirtual 116, 3) := by decide +kernel
theorem dX5_loadEnds_94 : decode cX5_loadEnds 94 = .ok (.istore 9, 2) := by decide +kernel
theorem dX5_loadEnds_96 : decode cX5_loadEnds 96 = .ok (.iload 7, 2) := by decide +kernel
theorem dX5_loadEnds_98 : decode cX5_loadEnds 98 = .ok (.istore 10, 2) := by decide +kernel
theorem dX5_loadEnds_100 : decode cX5_loadEnds 100 = .ok (.iload 10, 2) := by decide +kernel
theorem dX5_loadEnds_102 : decode cX5_loadEnds 102 = .ok (.ifCond .le 55, 3) := by decide +kernel
theorem dX5_loadEnds_105 : decode cX5_loadEnds 105 = .ok (.aload_n 0, 1) := by decide +kernel
theorem dX5_loadEnds_106 : decode cX5_loadEnds 106 = .ok (.getfield 15, 3) := by decide +kernel
theorem dX5_loadEnds_109 : decode cX5_loadEnds 109 = .ok (.iload 10, 2) := by decide +kernel
theorem dX5_loadEnds_111 : decode cX5_loadEnds 111 = .ok (.iconst 1, 1) := by decide +kernel
theorem dX5_loadEnds_112 : decode cX5_loadEnds 112 = .ok (.isub, 1) := by decide +kernel
theorem dX5_loadEnds_113 : decode cX5_loadEnds 113 = .ok (.iaload, 1) := by decide +kernel
theorem dX5_loadEnds_114 : decode cX5_loadEnds 114 = .ok (.iload 9, 2) := by decide +kernel
theorem dX5_loadEnds_116 : decode cX5_loadEnds 116 = .ok (.if_icmp .le 41, 3) := by decide +kernel
theorem dX5_loadEnds_119 : decode cX5_loadEnds 119 = .ok (.aload_n 0, 1) := by decide +kernel
theorem dX5_loadEnds_120 : decode cX5_loadEnds 120 = .ok (.getfield 15, 3) := by decide +kernel
theorem dX5_loadEnds_123 : decode cX5_loadEnds 123 = .ok (.iload 10, 2) := by decide +kernel
theorem dX5_loadEnds_125 : decode cX5_loadEnds 125 = .ok (.aload_n 0, 1) := by decide +kernel
theorem dX5_loadEnds_126 : decode cX5_loadEnds 126 = .ok (.getfield 15, 3) := by decide +kernel
theorem dX5_loadEnds_129 : decode cX5_loadEnds 129 = .ok (.iload 10, 2) := by decide +kernel
theorem dX5_loadEnds_131 : decode cX5_loadEnds 131 = .ok (.iconst 1, 1) := by decide +kernel
theorem dX5_loadEnds_132 : decode cX5_loadEnds 132 = .ok (.isub, 1) := by decide +kernel
theorem dX5_loadEnds_133 : decode cX5_loadEnds 133 = .ok (.iaload, 1) := by decide +kernel
theorem dX5_loadEnds_134 : decode cX5_loadEnds 134 = .ok (.iastore, 1) := by decide +kernel
theorem dX5_loadEnds_135 : decode cX5_loadEnds 135 = .ok (.aload_n 0, 1) := by decide +kernel
theorem dX5_loadEnds_136 : decode cX5_loadEnds 136 = .ok (.getfield 9, 3) := by decide +kernel
theorem dX5_loadEnds_139 : decode cX5_loadEnds 139 = .ok (.iload 10, 2) := by decide +kernel
theorem dX5_loadEnds_141 : decode cX5_loadEnds 141 = .ok (.aload_n 0, 1) := by decide +kernel
theorem dX5_loadEnds_142 : decode cX5_loadEnds 142 = .ok (.getfield 9, 3) := by decide +kernel
theorem dX5_loadEnds_145 : decode cX5_loadEnds 145 = .ok (.iload 10, 2) := by decide +kernel
theorem dX5_loadEnds_147 : decode cX5_loadEnds 147 = .ok (.iconst 1, 1) := by decide +kernel
theorem dX5_loadEnds_148 : decode cX5_loadEnds 148 = .ok (.isub, 1) := by decide +kernel
theorem dX5_loadEnds_149 : decode cX5_loadEnds 149 = .ok (.iaload, 1) := by decide +kernel
theorem dX5_loadEnds_150 : decode cX5_loadEnds 150 = .ok (.iastore, 1) := by decide +kernel
theorem dX5_loadEnds_151 : decode cX5_loadEnds 151 = .ok (.iinc 10 (-1), 3) := by decide +kernel
theorem dX5_loadEnds_154 : decode cX5_loadEnds 154 = .ok (.goto (-54), 3) := by decide +kernel
theorem dX5_loadEnds_157 : decode cX5_loadEnds 157 = .ok (.aload_n 0, 1) := by decide +kernel
theorem dX5_loadEnds_158 : decode cX5_loadEnds 158 = .ok (.getfield 15, 3) := by decide +kernel
theorem dX5_loadEnds_161 : decode cX5_loadEnds 161 = .ok (.iload 10, 2) := by decide +kernel
theorem dX5_loadEnds_163 : decode cX5_loadEnds 163 = .ok (.iload 9, 2) := by decide +kernel
theorem dX5_loadEnds_165 : decode cX5_loadEnds 165 = .ok (.iastore, 1) := by decide +kernel
theorem dX5_loadEnds_166 : decode cX5_loadEnds 166 = .ok (.aload_n 0, 1) := by decide +kernel
theorem dX5_loadEnds_167 : decode cX5_loadEnds 167 = .ok (.getfield 9, 3) := by decide +kernel
theorem dX5_loadEnds_170 : decode cX5_loadEnds 170 = .ok (.iload 10, 2) := by decide +kernel
theorem dX5_loadEnds_172 : decode cX5_loadEnds 172 = .ok (.iload 8, 2) := by decide +kernel
theorem dX5_loadEnds_174 : decode cX5_loadEnds 174 = .ok (.iastore, 1) := by decide +kernel
theorem dX5_loadEnds_175 : decode cX5_loadEnds 175 = .ok (.iinc 7 1, 3) := by decide +kernel
theorem dX5_loadEnds_178 : decode cX5_loadEnds 178 = .ok (.goto (-131), 3) := by decide +kernel
theorem dX5_loadEnds_181 : decode cX5_loadEnds 181 = .ok (.iload 6, 2) := by decide +kernel
theorem dX5_loadEnds_183 : decode cX5_loadEnds 183 = .ok (.ireturn, 1) := by decide +kernel
set_option maxRecDepth 20000 in
theorem ggX5_findMedians_J7_fill_53178 : GoodIn wsX5_findMedians wsJ7_fill_53178 := goodIn_r _ [9] (by decide +kernel) (by decide +kernel)
set_option maxRecDepth 20000 in
theorem gX5_findMedians_J7_fill_53178 : GoodIn wsX5_findMedians (va_wsS RX5 119 yJ7_fill_53178 wsJ7_fill_53178) := goodIn_app (goodIn_of _ (by decide +kernel)) ggX5_findMedians_J7_fill_53178
set_option maxRecDepth 20000 in
theorem ggX5_findMedians_X5_isCode : GoodIn wsX5_findMedians wsX5_isCode := goodIn_r _ [13] (by decide +kernel) (by decide +kernel)
set_option maxRecDepth 20000 in
theorem gX5_findMedians_X5_isCode : GoodIn wsX5_findMedians (va_wsS RX5 125 yX5_isCode wsX5_isCode) := goodIn_app (goodIn_of _ (by decide +kernel)) ggX5_findMedians_X5_isCode
theorem dX5_findMedians_0 : decode cX5_findMedians 0 = .ok (.aload_n 0, 1) := by decide +kernel
theorem dX5_findMedians_1 : decode cX5_findMedians 1 = .ok (.getfield 18, 3) := by decide +kernel
theorem dX5_findMedians_4 : decode cX5_findMedians 4 = .ok (.iconst 0, 1) := by decide +kernel
theorem dX5_findMedians_5 : decode cX5_findMedians 5 = .ok (.invokestatic 119, 3) := by decide +kernel
theorem dX5_findMedians_8 : decode cX5_findMedians 8 = .ok (.aload_n 0, 1) := by decide +kernel
theorem dX5_findMedians_9 : decode cX5_findMedians 9 = .ok (.getfield 21, 3) := by decide +kernel
theorem dX5_findMedians_12 : decode cX5_findMedians 12 = .ok (.iconst 0, 1) := by decide +kernel
theorem dX5_findMedians_13 : decode cX5_findMedians 13 = .ok (.invokestatic 119, 3) := by decide +kernel
theorem dX5_findMedians_16 : decode cX5_findMedians 16 = .ok (.aload_n 0, 1) := by decide +kernel
theorem dX5_findMedians_17 : decode cX5_findMedians 17 = .ok (.getfield 24, 3) := by decide +kernel
theorem dX5_findMedians_20 : decode cX5_findMedians 20 = .ok (.iconst (-1), 1) := by decide +kernel
theorem dX5_findMedians_21 : decode cX5_findMedians 21 = .ok (.invokestatic 119, 3) := by decide +kernel
theorem dX5_findMedians_24 : decode cX5_findMedians 24 = .ok (.iconst 0, 1) := by decide +kernel
theorem dX5_findMedians_25 : decode cX5_findMedians 25 = .ok (.istore_n 2, 1) := by decide +kernel
theorem dX5_findMedians_26 : decode cX5_findMedians 26 = .ok (.iload_n 2, 1) := by decide +kernel
theorem dX5_findMedians_27 : decode cX5_findMedians 27 = .ok (.iload_n 1, 1) := by decide +kernel
theorem dX5_findMedians_28 : decode cX5_findMedians 28 = .ok (.if_icmp .ge 36, 3) := by decide +kernel
theorem dX5_findMedians_31 : decode cX5_findMedians 31 = .ok (.aload_n 0, 1) := by decide +kernel
theorem dX5_findMedians_32 : decode cX5_findMedians 32 = .ok (.getfield 9, 3) := by decide +kernel
theorem dX5_findMedians_35 : decode cX5_findMedians 35 = .ok (.iload_n 2, 1) := by decide +kernel
theorem dX5_findMedians_36 : decode cX5_findMedians 36 = .ok (.iaload, 1) := by decide +kernel
theorem dX5_findMedians_37 : decode cX5_findMedians 37 = .ok (.invokestatic 125, 3) := by decide +kernel
theorem dX5_findMedians_40 : decode cX5_findMedians 40 = .ok (.ifCond .eq 18, 3) := by decide +kernel
theorem dX5_findMedians_43 : decode cX5_findMedians 43 = .ok (.aload_n 0, 1) := by decide +kernel
theorem dX5_findMedians_44 : decode cX5_findMedians 44 = .ok (.getfield 18, 3) := by decide +kernel
theorem dX5_findMedians_47 : decode cX5_findMedians 47 = .ok (.aload_n 0, 1) := by decide +kernel
theorem dX5_findMedians_48 : decode cX5_findMedians 48 = .ok (.getfield 9, 3) := by decide +kernel
theorem dX5_findMedians_51 : decode cX5_findMedians 51 = .ok (.iload_n 2, 1) := by decide +kernel
theorem dX5_findMedians_52 : decode cX5_findMedians 52 = .ok (.iaload, 1) := by decide +kernel
theorem dX5_findMedians_53 : decode cX5_findMedians 53 = .ok (.dup2, 1) := by decide +kernel
theorem dX5_findMedians_54 : decode cX5_findMedians 54 = .ok (.iaload, 1) := by decide +kernel
theorem dX5_findMedians_55 : decode cX5_findMedians 55 = .ok (.iconst 1, 1) := by decide +kernel
theorem dX5_findMedians_56 : decode cX5_findMedians 56 = .ok (.iadd, 1) := by decide +kernel
theorem dX5_findMedians_57 : decode cX5_findMedians 57 = .ok (.iastore, 1) := by decide +kernel
theorem dX5_findMedians_58 : decode cX5_findMedians 58 = .ok (.iinc 2 1, 3) := by decide +kernel
theorem dX5_findMedians_61 : decode cX5_findMedians 61 = .ok (.goto (-35), 3) := by decide +kernel
theorem dX5_findMedians_64 : decode cX5_findMedians 64 = .ok (.iconst 0, 1) := by decide +kernel
theorem dX5_findMedians_65 : decode cX5_findMedians 65 = .ok (.istore_n 2, 1) := by decide +kernel
theorem dX5_findMedians_66 : decode cX5_findMedians 66 = .ok (.iload_n 2, 1) := by decide +kernel
theorem dX5_findMedians_67 : decode cX5_findMedians 67 = .ok (.iload_n 1, 1) := by decide +kernel
theorem dX5_findMedians_68 : decode cX5_findMedians 68 = .ok (.if_icmp .ge 67, 3) := by decide +kernel
theorem dX5_findMedians_71 : decode cX5_findMedians 71 = .ok (.aload_n 0, 1) := by decide +kernel
theorem dX5_findMedians_72 : decode cX5_findMedians 72 = .ok (.getfield 9, 3) := by decide +kernel
theorem dX5_findMedians_75 : decode cX5_findMedians 75 = .ok (.iload_n 2, 1) := by decide +kernel
theorem dX5_findMedians_76 : decode cX5_findMedians 76 = .ok (.iaload, 1) := by decide +kernel
theorem dX5_findMedians_77 : decode cX5_findMedians 77 = .ok (.istore_n 3, 1) := by decide +kernel
theorem dX5_findMedians_78 : decode cX5_findMedians 78 = .ok (.iload_n 3, 1) := by decide +kernel
theorem dX5_findMedians_79 : decode cX5_findMedians 79 = .ok (.invokestatic 125, 3) := by decide +kernel
theorem dX5_findMedians_82 : decode cX5_findMedians 82 = .ok (.ifCond .ne 6, 3) := by decide +kernel
theorem dX5_findMedians_85 : decode cX5_findMedians 85 = .ok (.goto 44, 3) := by decide +kernel
theorem dX5_findMedians_88 : decode cX5_findMedians 88 = .ok (.aload_n 0, 1) := by decide +kernel
theorem dX5_findMedians_89 : decode cX5_findMedians 89 = .ok (.getfield 21, 3) := by decide +kernel
theorem dX5_findMedians_92 : decode cX5_findMedians 92 = .ok (.iload_n 3, 1) := by decide +kernel
theorem dX5_findMedians_93 : decode cX5_findMedians 93 = .ok (.iaload, 1) := by decide +kernel
theorem dX5_findMedians_94 : decode cX5_findMedians 94 = .ok (.aload_n 0, 1) := by decide +kernel
theorem dX5_findMedians_95 : decode cX5_findMedians 95 = .ok (.getfield 18, 3) := by decide +kernel
theorem dX5_findMedians_98 : decode cX5_findMedians 98 = .ok (.iload_n 3, 1) := by decide +kernel
theorem dX5_findMedians_99 : decode cX5_findMedians 99 = .ok (.iaload, 1) := by decide +kernel
theorem dX5_findMedians_100 : decode cX5_findMedians 100 = .ok (.iconst 1, 1) := by decide +kernel
theorem dX5_findMedians_101 : decode cX5_findMedians 101 = .ok (.isub, 1) := by decide +kernel
theorem dX5_findMedians_102 : decode cX5_findMedians 102 = .ok (.iconst 2, 1) := by decide +kernel
theorem dX5_findMedians_103 : decode cX5_findMedians 103 = .ok (.idiv, 1) := by decide +kernel
theorem dX5_findMedians_104 : decode cX5_findMedians 104 = .ok (.if_icmp .ne 15, 3) := by decide +kernel
theorem dX5_findMedians_107 : decode cX5_findMedians 107 = .ok (.aload_n 0, 1) := by decide +kernel
theorem dX5_findMedians_108 : decode cX5_findMedians 108 = .ok (.getfield 24, 3) := by decide +kernel
theorem dX5_findMedians_111 : decode cX5_findMedians 111 = .ok (.iload_n 3, 1) := by decide +kernel
theorem dX5_findMedians_112 : decode cX5_findMedians 112 = .ok (.aload_n 0, 1) := by decide +kernel
theorem dX5_findMedians_113 : decode cX5_findMedians 113 = .ok (.getfield 15, 3) := by decide +kernel
theorem dX5_findMedians_116 : decode cX5_findMedians 116 = .ok (.iload_n 2, 1) := by decide +kernel
theorem dX5_findMedians_117 : decode cX5_findMedians 117 = .ok (.iaload, 1) := by decide +kernel
theorem dX5_findMedians_118 : decode cX5_findMedians 118 = .ok (.iastore, 1) := by decide +kernel
theorem dX5_findMedians_119 : decode cX5_findMedians 119 = .ok (.aload_n 0, 1) := by decide +kernel
theorem dX5_findMedians_120 : decode cX5_findMedians 120 = .ok (.getfield 21, 3) := by decide +kernel
theorem dX5_findMedians_123 : decode cX5_findMedians 123 = .ok (.iload_n 3, 1) := by decide +kernel
theorem dX5_findMedians_124 : decode cX5_findMedians 124 = .ok (.dup2, 1) := by decide +kernel
theorem dX5_findMedians_125 : decode cX5_findMedians 125 = .ok (.iaload, 1) := by decide +kernel
theorem dX5_findMedians_126 : decode cX5_findMedians 126 = .ok (.iconst 1, 1) := by decide +kernel
theorem dX5_findMedians_127 : decode cX5_findMedians 127 = .ok (.iadd, 1) := by decide +kernel
theorem dX5_findMedians_128 : decode cX5_findMedians 128 = .ok (.iastore, 1) := by decide +kernel
theorem dX5_findMedians_129 : decode cX5_findMedians 129 = .ok (.iinc 2 1, 3) := by decide +kernel
theorem dX5_findMedians_132 : decode cX5_findMedians 132 = .ok (.goto (-66), 3) := by decide +kernel
theorem dX5_findMedians_135 : decode cX5_findMedians 135 = .ok (.return_, 1) := by decide +kernel
set_option maxRecDepth 20000 in
theorem ggX5_gatherMovers_X4_sizeOf : GoodIn wsX5_gatherMovers wsX4_sizeOf := goodIn_r _ [13, 14, 15, 38, 39, 40, 41, 42] (by decide +kernel) (by decide +kernel)
set_option maxRecDepth 20000 in
theorem gX5_gatherMovers_X4_sizeOf : GoodIn wsX5_gatherMovers (wsV RX5 129 RX4 yX4_sizeOf wsX4_sizeOf) := goodIn_app (goodIn_of _ (by decide +kernel)) ggX5_gatherMovers_X4_sizeOf
set_option maxRecDepth 20000 in
theorem ggX5_gatherMovers_X4_itemIn : GoodIn wsX5_gatherMovers wsX4_itemIn := goodIn_r _ [19, 20, 21, 10, 11, 12, 13, 14, 15, 38, 39, 40, 41, 42] (by decide +kernel) (by decide +kernel)
set_option maxRecDepth 20000 in
theorem gX5_gatherMovers_X4_itemIn : GoodIn wsX5_gatherMovers (wsV RX5 130 RX4 yX4_itemIn wsX4_itemIn) := goodIn_app (goodIn_of _ (by decide +kernel)) ggX5_gatherMovers_X4_itemIn
set_option maxRecDepth 20000 in
theorem ggX5_gatherMovers_X5_isCode : GoodIn wsX5_gatherMovers wsX5_isCode := goodIn_r _ [25] (by decide +kernel) (by decide +kernel)
set_option maxRecDepth 20000 in
theorem gX5_gatherMovers_X5_isCode : GoodIn wsX5_gatherMovers (va_wsS RX5 125 yX5_isCode wsX5_isCode) := goodIn_app (goodIn_of _ (by decide +kernel)) ggX5_gatherMovers_X5_isCode
theorem dX5_gatherMovers_0 : decode cX5_gatherMovers 0 = .ok (.aload_n 0, 1) := by decide +kernel
theorem dX5_gatherMovers_1 : decode cX5_gatherMovers 1 = .ok (.iconst 0, 1) := by decide +kernel
theorem dX5_gatherMovers_2 : decode cX5_gatherMovers 2 = .ok (.putfield 53, 3) := by decide +kernel
theorem dX5_gatherMovers_5 : decode cX5_gatherMovers 5 = .ok (.aload_n 1, 1) := by decide +kernel
theorem dX5_gatherMovers_6 : decode cX5_gatherMovers 6 = .ok (.iload_n 2, 1) := by decide +kernel
theorem dX5_gatherMovers_7 : decode cX5_gatherMovers 7 = .ok (.invokevirtual 129, 3) := by decide +kernel
theorem dX5_gatherMovers_10 : decode cX5_gatherMovers 10 = .ok (.bipush 40, 2) := by decide +kernel
theorem dX5_gatherMovers_12 : decode cX5_gatherMovers 12 = .ok (.invokestatic 106, 3) := by decide +kernel
theorem dX5_gatherMovers_15 : decode cX5_gatherMovers 15 = .ok (.istore_n 3, 1) := by decide +kernel
theorem dX5_gatherMovers_16 : decode cX5_gatherMovers 16 = .ok (.iconst 0, 1) := by decide +kernel
theorem dX5_gatherMovers_17 : decode cX5_gatherMovers 17 = .ok (.istore 4, 2) := by decide +kernel
theorem dX5_gatherMovers_19 : decode cX5_gatherMovers 19 = .ok (.iload 4, 2) := by decide +kernel
theorem dX5_gatherMovers_21 : decode cX5_gatherMovers 21 = .ok (.iload_n 3, 1) := by decide +kernel
theorem dX5_gatherMovers_22 : decode cX5_gatherMovers 22 = .ok (.if_icmp .ge 69, 3) := by decide +kernel
theorem dX5_gatherMovers_25 : decode cX5_gatherMovers 25 = .ok (.aload_n 1, 1) := by decide +kernel
theorem dX5_gatherMovers_26 : decode cX5_gatherMovers 26 = .ok (.iload_n 2, 1) := by decide +kernel
theorem dX5_gatherMovers_27 : decode cX5_gatherMovers 27 = .ok (.iload 4, 2) := by decide +kernel
theorem dX5_gatherMovers_29 : decode cX5_gatherMovers 29 = .ok (.invokevirtual 130, 3) := by decide +kernel
theorem dX5_gatherMovers_32 : decode cX5_gatherMovers 32 = .ok (.istore 5, 2) := by decide +kernel
theorem dX5_gatherMovers_34 : decode cX5_gatherMovers 34 = .ok (.iload 5, 2) := by decide +kernel
theorem dX5_gatherMovers_36 : decode cX5_gatherMovers 36 = .ok (.invokestatic 125, 3) := by decide +kernel
theorem dX5_gatherMovers_39 : decode cX5_gatherMovers 39 = .ok (.ifCond .eq 46, 3) := by decide +kernel
theorem dX5_gatherMovers_42 : decode cX5_gatherMovers 42 = .ok (.aload_n 0, 1) := by decide +kernel
theorem dX5_gatherMovers_43 : decode cX5_gatherMovers 43 = .ok (.getfield 24, 3) := by decide +kernel
theorem dX5_gatherMovers_46 : decode cX5_gatherMovers 46 = .ok (.iload 5, 2) := by decide +kernel
theorem dX5_gatherMovers_48 : decode cX5_gatherMovers 48 = .ok (.iaload, 1) := by decide +kernel
theorem dX5_gatherMovers_49 : decode cX5_gatherMovers 49 = .ok (.iconst (-1), 1) := by decide +kernel
theorem dX5_gatherMovers_50 : decode cX5_gatherMovers 50 = .ok (.if_icmp .eq 35, 3) := by decide +kernel
theorem dX5_gatherMovers_53 : decode cX5_gatherMovers 53 = .ok (.aload_n 0, 1) := by decide +kernel
theorem dX5_gatherMovers_54 : decode cX5_gatherMovers 54 = .ok (.getfield 27, 3) := by decide +kernel
theorem dX5_gatherMovers_57 : decode cX5_gatherMovers 57 = .ok (.aload_n 0, 1) := by decide +kernel
theorem dX5_gatherMovers_58 : decode cX5_gatherMovers 58 = .ok (.getfield 53, 3) := by decide +kernel
theorem dX5_gatherMovers_61 : decode cX5_gatherMovers 61 = .ok (.iload 5, 2) := by decide +kernel
theorem dX5_gatherMovers_63 : decode cX5_gatherMovers 63 = .ok (.iastore, 1) := by decide +kernel
theorem dX5_gatherMovers_64 : decode cX5_gatherMovers 64 = .ok (.aload_n 0, 1) := by decide +kernel
theorem dX5_gatherMovers_65 : decode cX5_gatherMovers 65 = .ok (.getfield 33, 3) := by decide +kernel
theorem dX5_gatherMovers_68 : decode cX5_gatherMovers 68 = .ok (.aload_n 0, 1) := by decide +kernel
theorem dX5_gatherMovers_69 : decode cX5_gatherMovers 69 = .ok (.getfield 53, 3) := by decide +kernel
theorem dX5_gatherMovers_72 : decode cX5_gatherMovers 72 = .ok (.iload 4, 2) := by decide +kernel
theorem dX5_gatherMovers_74 : decode cX5_gatherMovers 74 = .ok (.iastore, 1) := by decide +kernel
theorem dX5_gatherMovers_75 : decode cX5_gatherMovers 75 = .ok (.aload_n 0, 1) := by decide +kernel
theorem dX5_gatherMovers_76 : decode cX5_gatherMovers 76 = .ok (.dup, 1) := by decide +kernel
theorem dX5_gatherMovers_77 : decode cX5_gatherMovers 77 = .ok (.getfield 53, 3) := by decide +kernel
theorem dX5_gatherMovers_80 : decode cX5_gatherMovers 80 = .ok (.iconst 1, 1) := by decide +kernel
theorem dX5_gatherMovers_81 : decode cX5_gatherMovers 81 = .ok (.iadd, 1) := by decide +kernel
theorem dX5_gatherMovers_82 : decode cX5_gatherMovers 82 = .ok (.putfield 53, 3) := by decide +kernel
theorem dX5_gatherMovers_85 : decode cX5_gatherMovers 85 = .ok (.iinc 4 1, 3) := by decide +kernel
theorem dX5_gatherMovers_88 : decode cX5_gatherMovers 88 = .ok (.goto (-69), 3) := by decide +kernel
theorem dX5_gatherMovers_91 : decode cX5_gatherMovers 91 = .ok (.return_, 1) := by decide +kernel
theorem dX5_sortMovers_0 : decode cX5_sortMovers 0 = .ok (.iconst 0, 1) := by decide +kernel
theorem dX5_sortMovers_1 : decode cX5_sortMovers 1 = .ok (.istore_n 1, 1) := by decide +kernel
theorem dX5_sortMovers_2 : decode cX5_sortMovers 2 = .ok (.iconst 0, 1) := by decide +kernel
theorem dX5_sortMovers_3 : decode cX5_sortMovers 3 = .ok (.istore_n 2, 1) := by decide +kernel
theorem dX5_sortMovers_4 : decode cX5_sortMovers 4 = .ok (.iload_n 2, 1) := by decide +kernel
theorem dX5_sortMovers_5 : decode cX5_sortMovers 5 = .ok (.aload_n 0, 1) := by decide +kernel
theorem dX5_sortMovers_6 : decode cX5_sortMovers 6 = .ok (.getfield 53, 3) := by decide +kernel
theorem dX5_sortMovers_9 : decode cX5_sortMovers 9 = .ok (.if_icmp .ge 79, 3) := by decide +kernel
theorem dX5_sortMovers_12 : decode cX5_sortMovers 12 = .ok (.aload_n 0, 1) := by decide +kernel
theorem dX5_sortMovers_13 : decode cX5_sortMovers 13 = .ok (.getfield 27, 3) := by decide +kernel
theorem dX5_sortMovers_16 : decode cX5_sortMovers 16 = .ok (.iload_n 2, 1) := by decide +kernel
theorem dX5_sortMovers_17 : decode cX5_sortMovers 17 = .ok (.iaload, 1) := by decide +kernel
theorem dX5_sortMovers_18 : decode cX5_sortMovers 18 = .ok (.istore_n 3, 1) := by decide +kernel
theorem dX5_sortMovers_19 : decode cX5_sortMovers 19 = .ok (.iload_n 2, 1) := by decide +kernel
theorem dX5_sortMovers_20 : decode cX5_sortMovers 20 = .ok (.istore 4, 2) := by decide +kernel
theorem dX5_sortMovers_22 : decode cX5_sortMovers 22 = .ok (.iload 4, 2) := by decide +kernel
theorem dX5_sortMovers_24 : decode cX5_sortMovers 24 = .ok (.ifCond .le 50, 3) := by decide +kernel
theorem dX5_sortMovers_27 : decode cX5_sortMovers 27 = .ok (.aload_n 0, 1) := by decide +kernel
theorem dX5_sortMovers_28 : decode cX5_sortMovers 28 = .ok (.getfield 24, 3) := by decide +kernel
theorem dX5_sortMovers_31 : decode cX5_sortMovers 31 = .ok (.aload_n 0, 1) := by decide +kernel
theorem dX5_sortMovers_32 : decode cX5_sortMovers 32 = .ok (.getfield 30, 3) := by decide +kernel
theorem dX5_sortMovers_35 : decode cX5_sortMovers 35 = .ok (.iload 4, 2) := by decide +kernel
theorem dX5_sortMovers_37 : decode cX5_sortMovers 37 = .ok (.iconst 1, 1) := by decide +kernel
theorem dX5_sortMovers_38 : decode cX5_sortMovers 38 = .ok (.isub, 1) := by decide +kernel
theorem dX5_sortMovers_39 : decode cX5_sortMovers 39 = .ok (.iaload, 1) := by decide +kernel
theorem dX5_sortMovers_40 : decode cX5_sortMovers 40 = .ok (.iaload, 1) := by decide +kernel
theorem dX5_sortMovers_41 : decode cX5_sortMovers 41 = .ok (.aload_n 0, 1) := by decide +kernel
theorem dX5_sortMovers_42 : decode cX5_sortMovers 42 = .ok (.getfield 24, 3) := by decide +kernel
theorem dX5_sortMovers_45 : decode cX5_sortMovers 45 = .ok (.iload_n 3, 1) := by decide +kernel
theorem dX5_sortMovers_46 : decode cX5_sortMovers 46 = .ok (.iaload, 1) := by decide +kernel
theorem dX5_sortMovers_47 : decode cX5_sortMovers 47 = .ok (.if_icmp .le 27, 3) := by decide +kernel
theorem dX5_sortMovers_50 : decode cX5_sortMovers 50 = .ok (.aload_n 0, 1) := by decide +kernel
theorem dX5_sortMovers_51 : decode cX5_sortMovers 51 = .ok (.getfield 30, 3) := by decide +kernel
theorem dX5_sortMovers_54 : decode cX5_sortMovers 54 = .ok (.iload 4, 2) := by decide +kernel
theorem dX5_sortMovers_56 : decode cX5_sortMovers 56 = .ok (.aload_n 0, 1) := by decide +kernel
theorem dX5_sortMovers_57 : decode cX5_sortMovers 57 = .ok (.getfield 30, 3) := by decide +kernel
theorem dX5_sortMovers_60 : decode cX5_sortMovers 60 = .ok (.iload 4, 2) := by decide +kernel
theorem dX5_sortMovers_62 : decode cX5_sortMovers 62 = .ok (.iconst 1, 1) := by decide +kernel
theorem dX5_sortMovers_63 : decode cX5_sortMovers 63 = .ok (.isub, 1) := by decide +kernel
theorem dX5_sortMovers_64 : decode cX5_sortMovers 64 = .ok (.iaload, 1) := by decide +kernel
theorem dX5_sortMovers_65 : decode cX5_sortMovers 65 = .ok (.iastore, 1) := by decide +kernel
theorem dX5_sortMovers_66 : decode cX5_sortMovers 66 = .ok (.iinc 4 (-1), 3) := by decide +kernel
theorem dX5_sortMovers_69 : decode cX5_sortMovers 69 = .ok (.iconst 1, 1) := by decide +kernel
theorem dX5_sortMovers_70 : decode cX5_sortMovers 70 = .ok (.istore_n 1, 1) := by decide +kernel
theorem dX5_sortMovers_71 : decode cX5_sortMovers 71 = .ok (.goto (-49), 3) := by decide +kernel
theorem dX5_sortMovers_74 : decode cX5_sortMovers 74 = .ok (.aload_n 0, 1) := by decide +kernel
theorem dX5_sortMovers_75 : decode cX5_sortMovers 75 = .ok (.getfield 30, 3) := by decide +kernel
theorem dX5_sortMovers_78 : decode cX5_sortMovers 78 = .ok (.iload 4, 2) := by decide +kernel
theorem dX5_sortMovers_80 : decode cX5_sortMovers 80 = .ok (.iload_n 3, 1) := by decide +kernel
theorem dX5_sortMovers_81 : decode cX5_sortMovers 81 = .ok (.iastore, 1) := by decide +kernel
theorem dX5_sortMovers_82 : decode cX5_sortMovers 82 = .ok (.iinc 2 1, 3) := by decide +kernel
theorem dX5_sortMovers_85 : decode cX5_sortMovers 85 = .ok (.goto (-81), 3) := by decide +kernel
theorem dX5_sortMovers_88 : decode cX5_sortMovers 88 = .ok (.iload_n 1, 1) := by decide +kernel
theorem dX5_sortMovers_89 : decode cX5_sortMovers 89 = .ok (.ireturn, 1) := by decide +kernel
set_option maxRecDepth 20000 in
theorem ggX5_putMovers_X4_put : GoodIn wsX5_putMovers wsX4_put := goodIn_r _ [7, 8, 9, 10, 11, 12, 13, 6, 14, 15, 16, 29, 30, 31, 32, 33] (by decide +kernel) (by decide +kernel)
set_option maxRecDepth 20000 in
theorem gX5_putMovers_X4_put : GoodIn wsX5_putMovers (wsV RX5 133 RX4 yX4_put wsX4_put) := goodIn_app (goodIn_of _ (by decide +kernel)) ggX5_putMovers_X4_put
theorem dX5_putMovers_0 : decode cX5_putMovers 0 = .ok (.iconst 0, 1) := by decide +kernel
theorem dX5_putMovers_1 : decode cX5_putMovers 1 = .ok (.istore 4, 2) := by decide +kernel
theorem dX5_putMovers_3 : decode cX5_putMovers 3 = .ok (.iload 4, 2) := by decide +kernel
theorem dX5_putMovers_5 : decode cX5_putMovers 5 = .ok (.aload_n 0, 1) := by decide +kernel
theorem dX5_putMovers_6 : decode cX5_putMovers 6 = .ok (.getfield 53, 3) := by decide +kernel
theorem dX5_putMovers_9 : decode cX5_putMovers 9 = .ok (.if_icmp .ge 25, 3) := by decide +kernel
theorem dX5_putMovers_12 : decode cX5_putMovers 12 = .ok (.aload_n 1, 1) := by decide +kernel
theorem dX5_putMovers_13 : decode cX5_putMovers 13 = .ok (.iload_n 2, 1) := by decide +kernel
theorem dX5_putMovers_14 : decode cX5_putMovers 14 = .ok (.aload_n 0, 1) := by decide +kernel
theorem dX5_putMovers_15 : decode cX5_putMovers 15 = .ok (.getfield 33, 3) := by decide +kernel
theorem dX5_putMovers_18 : decode cX5_putMovers 18 = .ok (.iload 4, 2) := by decide +kernel
theorem dX5_putMovers_20 : decode cX5_putMovers 20 = .ok (.iaload, 1) := by decide +kernel
theorem dX5_putMovers_21 : decode cX5_putMovers 21 = .ok (.aload_n 3, 1) := by decide +kernel
theorem dX5_putMovers_22 : decode cX5_putMovers 22 = .ok (.iload 4, 2) := by decide +kernel
theorem dX5_putMovers_24 : decode cX5_putMovers 24 = .ok (.iaload, 1) := by decide +kernel
theorem dX5_putMovers_25 : decode cX5_putMovers 25 = .ok (.invokevirtual 133, 3) := by decide +kernel
theorem dX5_putMovers_28 : decode cX5_putMovers 28 = .ok (.iinc 4 1, 3) := by decide +kernel
theorem dX5_putMovers_31 : decode cX5_putMovers 31 = .ok (.goto (-28), 3) := by decide +kernel
theorem dX5_putMovers_34 : decode cX5_putMovers 34 = .ok (.return_, 1) := by decide +kernel
theorem dX5_isCode_0 : decode cX5_isCode 0 = .ok (.iload_n 0, 1) := by decide +kernel
theorem dX5_isCode_1 : decode cX5_isCode 1 = .ok (.ifCond .lt 13, 3) := by decide +kernel
theorem dX5_isCode_4 : decode cX5_isCode 4 = .ok (.iload_n 0, 1) := by decide +kernel
theorem dX5_isCode_5 : decode cX5_isCode 5 = .ok (.bipush 40, 2) := by decide +kernel
theorem dX5_isCode_7 : decode cX5_isCode 7 = .ok (.if_icmp .ge 7, 3) := by decide +kernel
theorem dX5_isCode_10 : decode cX5_isCode 10 = .ok (.iconst 1, 1) := by decide +kernel
theorem dX5_isCode_11 : decode cX5_isCode 11 = .ok (.goto 4, 3) := by decide +kernel
theorem dX5_isCode_14 : decode cX5_isCode 14 = .ok (.iconst 0, 1) := by decide +kernel
theorem dX5_isCode_15 : decode cX5_isCode 15 = .ok (.ireturn, 1) := by decide +kernel
theorem dX6_init_0 : decode cX6_init 0 = .ok (.aload_n 0, 1) := by decide +kernel
theorem dX6_init_1 : decode cX6_init 1 = .ok (.invokespecial 3, 3) := by decide +kernel
theorem dX6_init_4 : decode cX6_init 4 = .ok (.aload_n 0, 1) := by decide +kernel
theorem dX6_init_5 : decode cX6_init 5 = .ok (.bipush 24, 2) := by decide +kernel
theorem dX6_init_7 : decode cX6_init 7 = .ok (.newarray .int, 2) := by decide +kernel
theorem dX6_init_9 : decode cX6_init 9 = .ok (.putfield 9, 3) := by decide +kernel
theorem dX6_init_12 : decode cX6_init 12 = .ok (.aload_n 0, 1) := by decide +kernel
theorem dX6_init_13 : decode cX6_init 13 = .ok (.sipush 576, 3) := by decide +kernel
theorem dX6_init_16 : decode cX6_init 16 = .ok (.newarray .int, 2) := by decide +kernel
theorem dX6_init_18 : decode cX6_init 18 = .ok (.putfield 15, 3) := by decide +kernel
theorem dX6_init_21 : decode cX6_init 21 = .ok (.aload_n 0, 1) := by decide +kernel
theorem dX6_init_22 : decode cX6_init 22 = .ok (.sipush 576, 3) := by decide +kernel
theorem dX6_init_25 : decode cX6_init 25 = .ok (.newarray .int, 2) := by decide +kernel
theorem dX6_init_27 : decode cX6_init 27 = .ok (.putfield 18, 3) := by decide +kernel
theorem dX6_init_30 : decode cX6_init 30 = .ok (.aload_n 0, 1) := by decide +kernel
theorem dX6_init_31 : decode cX6_init 31 = .ok (.sipush 576, 3) := by decide +kernel
theorem dX6_init_34 : decode cX6_init 34 = .ok (.newarray .int, 2) := by decide +kernel
theorem dX6_init_36 : decode cX6_init 36 = .ok (.putfield 21, 3) := by decide +kernel
theorem dX6_init_39 : decode cX6_init 39 = .ok (.return_, 1) := by decide +kernel
set_option maxRecDepth 20000 in
theorem ggX6_collect_J7_fill_53178 : GoodIn wsX6_collect wsJ7_fill_53178 := goodIn_r _ [5] (by decide +kernel) (by decide +kernel)
set_option maxRecDepth 20000 in
theorem gX6_collect_J7_fill_53178 : GoodIn wsX6_collect (va_wsS RX6 24 yJ7_fill_53178 wsJ7_fill_53178) := goodIn_app (goodIn_of _ (by decide +kernel)) ggX6_collect_J7_fill_53178
set_option maxRecDepth 20000 in
theorem ggX6_collect_X3_top : GoodIn wsX6_collect wsX3_top := goodIn_r _ [10, 11, 52, 53, 54, 55, 56] (by decide +kernel) (by decide +kernel)
set_option maxRecDepth 20000 in
theorem gX6_collect_X3_top : GoodIn wsX6_collect (wsV RX6 30 RX3 yX3_top wsX3_top) := goodIn_app (goodIn_of _ (by decide +kernel)) ggX6_collect_X3_top
set_option maxRecDepth 20000 in
theorem ggX6_collect_X3_bottom : GoodIn wsX6_collect wsX3_bottom := goodIn_r _ [15, 16, 52, 53, 54, 55, 56] (by decide +kernel) (by decide +kernel)
set_option maxRecDepth 20000 in
theorem gX6_collect_X3_bottom : GoodIn wsX6_collect (wsV RX6 36 RX3 yX3_bottom wsX3_bottom) := goodIn_app (goodIn_of _ (by decide +kernel)) ggX6_collect_X3_bottom
set_option maxRecDepth 20000 in
theorem ggX6_collect_X3_itemOf : GoodIn wsX6_collect wsX3_itemOf := goodIn_r _ [20, 21, 22, 7, 8, 9, 10, 11, 23, 24, 25, 26, 27, 28, 29, 30, 31, 32, 33, 34, 35, 13, 14, 15, 16, 36, 37, 38, 39, 52, 53, 54, 55, 56, 57, 58, 59, 60, 61, 62] (by decide +kernel) (by decide +kernel)
set_option maxRecDepth 20000 in
theorem gX6_collect_X3_itemOf : GoodIn wsX6_collect (wsV RX6 39 RX3 yX3_itemOf wsX3_itemOf) := goodIn_app (goodIn_of _ (by decide +kernel)) ggX6_collect_X3_itemOf
set_option maxRecDepth 20000 in
theorem ggX6_collect_X6_add : GoodIn wsX6_collect wsX6_add := goodIn_r _ [44, 1, 45, 46, 47, 48, 49, 50, 51] (by decide +kernel) (by decide +kernel)
set_option maxRecDepth 20000 in
theorem gX6_collect_X6_add : GoodIn wsX6_collect (wsV RX6 43 RX6 yX6_add wsX6_add) := goodIn_app (goodIn_of _ (by decide +kernel)) ggX6_collect_X6_add
theorem dX6_collect_0 : decode cX6_collect 0 = .ok (.aload_n 0, 1) := by decide +kernel
theorem dX6_collect_1 : decode cX6_collect 1 = .ok (.getfield 9, 3) := by decide +kernel
theorem dX6_collect_4 : decode cX6_collect 4 = .ok (.iconst 0, 1) := by decide +kernel
theorem dX6_collect_5 : decode cX6_collect 5 = .ok (.invokestatic 24, 3) := by decide +kernel
theorem dX6_collect_8 : decode cX6_collect 8 = .ok (.iconst 0, 1) := by decide +kernel
theorem dX6_collect_9 : decode cX6_collect 9 = .ok (.istore_n 2, 1) := by decide +kernel
theorem dX6_collect_10 : decode cX6_collect 10 = .ok (.iload_n 2, 1) := by decide +kernel
theorem dX6_collect_11 : decode cX6_collect 11 = .ok (.bipush 24, 2) := by decide +kernel
theorem dX6_collect_13 : decode cX6_collect 13 = .ok (.if_icmp .ge 50, 3) := by decide +kernel
theorem dX6_collect_16 : decode cX6_collect 16 = .ok (.aload_n 1, 1) := by decide +kernel
theorem dX6_collect_17 : decode cX6_collect 17 = .ok (.iload_n 2, 1) := by decide +kernel
theorem dX6_collect_18 : decode cX6_collect 18 = .ok (.invokevirtual 30, 3) := by decide +kernel
theorem dX6_collect_21 : decode cX6_collect 21 = .ok (.istore_n 3, 1) := by decide +kernel
theorem dX6_collect_22 : decode cX6_collect 22 = .ok (.iload_n 3, 1) := by decide +kernel
theorem dX6_collect_23 : decode cX6_collect 23 = .ok (.aload_n 1, 1) := by decide +kernel
theorem dX6_collect_24 : decode cX6_collect 24 = .ok (.iload_n 2, 1) := by decide +kernel
theorem dX6_collect_25 : decode cX6_collect 25 = .ok (.invokevirtual 36, 3) := by decide +kernel
theorem dX6_collect_28 : decode cX6_collect 28 = .ok (.if_icmp .ge 29, 3) := by decide +kernel
theorem dX6_collect_31 : decode cX6_collect 31 = .ok (.aload_n 0, 1) := by decide +kernel
theorem dX6_collect_32 : decode cX6_collect 32 = .ok (.iload_n 3, 1) := by decide +kernel
theorem dX6_collect_33 : decode cX6_collect 33 = .ok (.iload_n 2, 1) := by decide +kernel
theorem dX6_collect_34 : decode cX6_collect 34 = .ok (.aload_n 1, 1) := by decide +kernel
theorem dX6_collect_35 : decode cX6_collect 35 = .ok (.iload_n 2, 1) := by decide +kernel
theorem dX6_collect_36 : decode cX6_collect 36 = .ok (.iload_n 3, 1) := by decide +kernel
theorem dX6_collect_37 : decode cX6_collect 37 = .ok (.invokevirtual 39, 3) := by decide +kernel
theorem dX6_collect_40 : decode cX6_collect 40 = .ok (.aload_n 1, 1) := by decide +kernel
theorem dX6_collect_41 : decode cX6_collect 41 = .ok (.iload_n 2, 1) := by decide +kernel
theorem dX6_collect_42 : decode cX6_collect 42 = .ok (.iload_n 3, 1) := by decide +kernel
theorem dX6_collect_43 : decode cX6_collect 43 = .ok (.iconst 1, 1) := by decide +kernel
theorem dX6_collect_44 : decode cX6_collect 44 = .ok (.iadd, 1) := by decide +kernel
theorem dX6_collect_45 : decode cX6_collect 45 = .ok (.invokevirtual 39, 3) := by decide +kernel
theorem dX6_collect_48 : decode cX6_collect 48 = .ok (.invokevirtual 43, 3) := by decide +kernel
theorem dX6_collect_51 : decode cX6_collect 51 = .ok (.iinc 3 1, 3) := by decide +kernel
theorem dX6_collect_54 : decode cX6_collect 54 = .ok (.goto (-32), 3) := by decide +kernel
theorem dX6_collect_57 : decode cX6_collect 57 = .ok (.iinc 2 1, 3) := by decide +kernel
theorem dX6_collect_60 : decode cX6_collect 60 = .ok (.goto (-50), 3) := by decide +kernel
theorem dX6_collect_63 : decode cX6_collect 63 = .ok (.return_, 1) := by decide +kernel
theorem dX6_sizeOf_0 : decode cX6_sizeOf 0 = .ok (.iload_n 1, 1) := by decide +kernel
theorem dX6_sizeOf_1 : decode cX6_sizeOf 1 = .ok (.ifCond .lt 18, 3) := by decide +kernel
theorem dX6_sizeOf_4 : decode cX6_sizeOf 4 = .ok (.iload_n 1, 1) := by decide +kernel
theorem dX6_sizeOf_5 : decode cX6_sizeOf 5 = .ok (.bipush 24, 2) := by decide +kernel
theorem dX6_sizeOf_7 : decode cX6_sizeOf 7 = .ok (.if_icmp .ge 12, 3) := by decide +kernel
theorem dX6_sizeOf_10 : decode cX6_sizeOf 10 = .ok (.aload_n 0, 1) := by decide +kernel
theorem dX6_sizeOf_11 : decode cX6_sizeOf 11 = .ok (.getfield 9, 3) := by decide +kernel
theorem dX6_sizeOf_14 : decode cX6_sizeOf 14 = .ok (.iload_n 1, 1) := by decide +kernel
theorem dX6_sizeOf_15 : decode cX6_sizeOf 15 = .ok (.iaload, 1) := by decide +kernel
theorem dX6_sizeOf_16 : decode cX6_sizeOf 16 = .ok (.goto 4, 3) := by decide +kernel
theorem dX6_sizeOf_19 : decode cX6_sizeOf 19 = .ok (.iconst 0, 1) := by decide +kernel
theorem dX6_sizeOf_20 : decode cX6_sizeOf 20 = .ok (.ireturn, 1) := by decide +kernel
theorem dX6_arrowOf_0 : decode cX6_arrowOf 0 = .ok (.iload_n 1, 1) := by decide +kernel
theorem dX6_arrowOf_1 : decode cX6_arrowOf 1 = .ok (.ifCond .lt 27, 3) := by decide +kernel
theorem dX6_arrowOf_4 : decode cX6_arrowOf 4 = .ok (.iload_n 1, 1) := by decide +kernel
theorem dX6_arrowOf_5 : decode cX6_arrowOf 5 = .ok (.bipush 24, 2) := by decide +kernel
theorem dX6_arrowOf_7 : decode cX6_arrowOf 7 = .ok (.if_icmp .ge 21, 3) := by decide +kernel
theorem dX6_arrowOf_10 : decode cX6_arrowOf 10 = .ok (.iload_n 2, 1) := by decide +kernel
theorem dX6_arrowOf_11 : decode cX6_arrowOf 11 = .ok (.ifCond .lt 17, 3) := by decide +kernel
theorem dX6_arrowOf_14 : decode cX6_arrowOf 14 = .ok (.iload_n 2, 1) := by decide +kernel
theorem dX6_arrowOf_15 : decode cX6_arrowOf 15 = .ok (.aload_n 0, 1) := by decide +kernel
theorem dX6_arrowOf_16 : decode cX6_arrowOf 16 = .ok (.getfield 9, 3) := by decide +kernel
theorem dX6_arrowOf_19 : decode cX6_arrowOf 19 = .ok (.iload_n 1, 1) := by decide +kernel
theorem dX6_arrowOf_20 : decode cX6_arrowOf 20 = .ok (.iaload, 1) := by decide +kernel
theorem dX6_arrowOf_21 : decode cX6_arrowOf 21 = .ok (.if_icmp .ge 7, 3) := by decide +kernel
theorem dX6_arrowOf_24 : decode cX6_arrowOf 24 = .ok (.iconst 1, 1) := by decide +kernel
theorem dX6_arrowOf_25 : decode cX6_arrowOf 25 = .ok (.goto 4, 3) := by decide +kernel
theorem dX6_arrowOf_28 : decode cX6_arrowOf 28 = .ok (.iconst 0, 1) := by decide +kernel
theorem dX6_arrowOf_29 : decode cX6_arrowOf 29 = .ok (.istore_n 3, 1) := by decide +kernel
theorem dX6_arrowOf_30 : decode cX6_arrowOf 30 = .ok (.iload_n 3, 1) := by decide +kernel
theorem dX6_arrowOf_31 : decode cX6_arrowOf 31 = .ok (.ifCond .eq 17, 3) := by decide +kernel
theorem dX6_arrowOf_34 : decode cX6_arrowOf 34 = .ok (.aload_n 0, 1) := by decide +kernel
theorem dX6_arrowOf_35 : decode cX6_arrowOf 35 = .ok (.getfield 15, 3) := by decide +kernel
theorem dX6_arrowOf_38 : decode cX6_arrowOf 38 = .ok (.iload_n 1, 1) := by decide +kernel
theorem dX6_arrowOf_39 : decode cX6_arrowOf 39 = .ok (.bipush 24, 2) := by decide +kernel
theorem dX6_arrowOf_41 : decode cX6_arrowOf 41 = .ok (.imul, 1) := by decide +kernel
theorem dX6_arrowOf_42 : decode cX6_arrowOf 42 = .ok (.iload_n 2, 1) := by decide +kernel
theorem dX6_arrowOf_43 : decode cX6_arrowOf 43 = .ok (.iadd, 1) := by decide +kernel
theorem dX6_arrowOf_44 : decode cX6_arrowOf 44 = .ok (.iaload, 1) := by decide +kernel
theorem dX6_arrowOf_45 : decode cX6_arrowOf 45 = .ok (.goto 4, 3) := by decide +kernel
theorem dX6_arrowOf_48 : decode cX6_arrowOf 48 = .ok (.iconst (-1), 1) := by decide +kernel
theorem dX6_arrowOf_49 : decode cX6_arrowOf 49 = .ok (.ireturn, 1) := by decide +kernel
theorem dX6_endOf_0 : decode cX6_endOf 0 = .ok (.iload_n 1, 1) := by decide +kernel
theorem dX6_endOf_1 : decode cX6_endOf 1 = .ok (.ifCond .lt 23, 3) := by decide +kernel
theorem dX6_endOf_4 : decode cX6_endOf 4 = .ok (.iload_n 1, 1) := by decide +kernel
theorem dX6_endOf_5 : decode cX6_endOf 5 = .ok (.bipush 24, 2) := by decide +kernel
theorem dX6_endOf_7 : decode cX6_endOf 7 = .ok (.if_icmp .ge 17, 3) := by decide +kernel
theorem dX6_endOf_10 : decode cX6_endOf 10 = .ok (.iload_n 2, 1) := by decide +kernel
theorem dX6_endOf_11 : decode cX6_endOf 11 = .ok (.ifCond .lt 13, 3) := by decide +kernel
theorem dX6_endOf_14 : decode cX6_endOf 14 = .ok (.iload_n 2, 1) := by decide +kernel
theorem dX6_endOf_15 : decode cX6_endOf 15 = .ok (.aload_n 0, 1) := by decide +kernel
theorem dX6_endOf_16 : decode cX6_endOf 16 = .ok (.getfield 9, 3) := by decide +kernel
theorem dX6_endOf_19 : decode cX6_endOf 19 = .ok (.iload_n 1, 1) := by decide +kernel
theorem dX6_endOf_20 : decode cX6_endOf 20 = .ok (.iaload, 1) := by decide +kernel
theorem dX6_endOf_21 : decode cX6_endOf 21 = .ok (.if_icmp .lt 5, 3) := by decide +kernel
theorem dX6_endOf_24 : decode cX6_endOf 24 = .ok (.iconst (-1), 1) := by decide +kernel
theorem dX6_endOf_25 : decode cX6_endOf 25 = .ok (.ireturn, 1) := by decide +kernel
theorem dX6_endOf_26 : decode cX6_endOf 26 = .ok (.iload_n 3, 1) := by decide +kernel
theorem dX6_endOf_27 : decode cX6_endOf 27 = .ok (.ifCond .eq 17, 3) := by decide +kernel
theorem dX6_endOf_30 : decode cX6_endOf 30 = .ok (.aload_n 0, 1) := by decide +kernel
theorem dX6_endOf_31 : decode cX6_endOf 31 = .ok (.getfield 18, 3) := by decide +kernel
theorem dX6_endOf_34 : decode cX6_endOf 34 = .ok (.iload_n 1, 1) := by decide +kernel
theorem dX6_endOf_35 : decode cX6_endOf 35 = .ok (.bipush 24, 2) := by decide +kernel
theorem dX6_endOf_37 : decode cX6_endOf 37 = .ok (.imul, 1) := by decide +kernel
theorem dX6_endOf_38 : decode cX6_endOf 38 = .ok (.iload_n 2, 1) := by decide +kernel
theorem dX6_endOf_39 : decode cX6_endOf 39 = .ok (.iadd, 1) := by decide +kernel
theorem dX6_endOf_40 : decode cX6_endOf 40 = .ok (.iaload, 1) := by decide +kernel
theorem dX6_endOf_41 : decode cX6_endOf 41 = .ok (.goto 14, 3) := by decide +kernel
theorem dX6_endOf_44 : decode cX6_endOf 44 = .ok (.aload_n 0, 1) := by decide +kernel
theorem dX6_endOf_45 : decode cX6_endOf 45 = .ok (.getfield 21, 3) := by decide +kernel
theorem dX6_endOf_48 : decode cX6_endOf 48 = .ok (.iload_n 1, 1) := by decide +kernel
theorem dX6_endOf_49 : decode cX6_endOf 49 = .ok (.bipush 24, 2) := by decide +kernel
theorem dX6_endOf_51 : decode cX6_endOf 51 = .ok (.imul, 1) := by decide +kernel
theorem dX6_endOf_52 : decode cX6_endOf 52 = .ok (.iload_n 2, 1) := by decide +kernel
theorem dX6_endOf_53 : decode cX6_endOf 53 = .ok (.iadd, 1) := by decide +kernel
theorem dX6_endOf_54 : decode cX6_endOf 54 = .ok (.iaload, 1) := by decide +kernel
theorem dX6_endOf_55 : decode cX6_endOf 55 = .ok (.ireturn, 1) := by decide +kernel
theorem dX6_add_0 : decode cX6_add 0 = .ok (.iload_n 1, 1) := by decide +kernel
theorem dX6_add_1 : decode cX6_add 1 = .ok (.ifCond .lt 20, 3) := by decide +kernel
theorem dX6_add_4 : decode cX6_add 4 = .ok (.iload_n 1, 1) := by decide +kernel
theorem dX6_add_5 : decode cX6_add 5 = .ok (.bipush 24, 2) := by decide +kernel
theorem dX6_add_7 : decode cX6_add 7 = .ok (.if_icmp .ge 14, 3) := by decide +kernel
theorem dX6_add_10 : decode cX6_add 10 = .ok (.aload_n 0, 1) := by decide +kernel
theorem dX6_add_11 : decode cX6_add 11 = .ok (.getfield 9, 3) := by decide +kernel
theorem dX6_add_14 : decode cX6_add 14 = .ok (.iload_n 1, 1) := by decide +kernel
theorem dX6_add_15 : decode cX6_add 15 = .ok (.iaload, 1) := by decide +kernel
theorem dX6_add_16 : decode cX6_add 16 = .ok (.bipush 24, 2) := by decide +kernel
theorem dX6_add_18 : decode cX6_add 18 = .ok (.if_icmp .lt 4, 3) := by decide +kernel
theorem dX6_add_21 : decode cX6_add 21 = .ok (.return_, 1) := by decide +kernel
theorem dX6_add_22 : decode cX6_add 22 = .ok (.iload_n 1, 1) := by decide +kernel
theorem dX6_add_23 : decode cX6_add 23 = .ok (.bipush 24, 2) := by decide +kernel
theorem dX6_add_25 : decode cX6_add 25 = .ok (.imul, 1) := by decide +kernel
theorem dX6_add_26 : decode cX6_add 26 = .ok (.aload_n 0, 1) := by decide +kernel
theorem dX6_add_27 : decode cX6_add 27 = .ok (.getfield 9, 3) := by decide +kernel
theorem dX6_add_30 : decode cX6_add 30 = .ok (.iload_n 1, 1) := by decide +kernel
theorem dX6_add_31 : decode cX6_add 31 = .ok (.iaload, 1) := by decide +kernel
theorem dX6_add_32 : decode cX6_add 32 = .ok (.iadd, 1) := by decide +kernel
theorem dX6_add_33 : decode cX6_add 33 = .ok (.istore 5, 2) := by decide +kernel
theorem dX6_add_35 : decode cX6_add 35 = .ok (.aload_n 0, 1) := by decide +kernel
theorem dX6_add_36 : decode cX6_add 36 = .ok (.getfield 15, 3) := by decide +kernel
theorem dX6_add_39 : decode cX6_add 39 = .ok (.iload 5, 2) := by decide +kernel
theorem dX6_add_41 : decode cX6_add 41 = .ok (.iload_n 2, 1) := by decide +kernel
theorem dX6_add_42 : decode cX6_add 42 = .ok (.iastore, 1) := by decide +kernel
theorem dX6_add_43 : decode cX6_add 43 = .ok (.aload_n 0, 1) := by decide +kernel
theorem dX6_add_44 : decode cX6_add 44 = .ok (.getfield 18, 3) := by decide +kernel
theorem dX6_add_47 : decode cX6_add 47 = .ok (.iload 5, 2) := by decide +kernel
theorem dX6_add_49 : decode cX6_add 49 = .ok (.iload_n 3, 1) := by decide +kernel
theorem dX6_add_50 : decode cX6_add 50 = .ok (.iastore, 1) := by decide +kernel
theorem dX6_add_51 : decode cX6_add 51 = .ok (.aload_n 0, 1) := by decide +kernel
theorem dX6_add_52 : decode cX6_add 52 = .ok (.getfield 21, 3) := by decide +kernel
theorem dX6_add_55 : decode cX6_add 55 = .ok (.iload 5, 2) := by decide +kernel
theorem dX6_add_57 : decode cX6_add 57 = .ok (.iload 4, 2) := by decide +kernel
theorem dX6_add_59 : decode cX6_add 59 = .ok (.iastore, 1) := by decide +kernel
theorem dX6_add_60 : decode cX6_add 60 = .ok (.aload_n 0, 1) := by decide +kernel
theorem dX6_add_61 : decode cX6_add 61 = .ok (.getfield 9, 3) := by decide +kernel
theorem dX6_add_64 : decode cX6_add 64 = .ok (.iload_n 1, 1) := by decide +kernel
theorem dX6_add_65 : decode cX6_add 65 = .ok (.dup2, 1) := by decide +kernel
theorem dX6_add_66 : decode cX6_add 66 = .ok (.iaload, 1) := by decide +kernel
theorem dX6_add_67 : decode cX6_add 67 = .ok (.iconst 1, 1) := by decide +kernel
theorem dX6_add_68 : decode cX6_add 68 = .ok (.iadd, 1) := by decide +kernel
theorem dX6_add_69 : decode cX6_add 69 = .ok (.iastore, 1) := by decide +kernel
theorem dX6_add_70 : decode cX6_add 70 = .ok (.return_, 1) := by decide +kernel
set_option maxRecDepth 20000 in
theorem ggX7_init_J7_fill_53178 : GoodIn wsX7_init wsJ7_fill_53178 := goodIn_r _ [15] (by decide +kernel) (by decide +kernel)
set_option maxRecDepth 20000 in
theorem gX7_init_J7_fill_53178 : GoodIn wsX7_init (va_wsS RX7 31 yJ7_fill_53178 wsJ7_fill_53178) := goodIn_app (goodIn_of _ (by decide +kernel)) ggX7_init_J7_fill_53178
theorem dX7_init_0 : decode cX7_init 0 = .ok (.aload_n 0, 1) := by decide +kernel
theorem dX7_init_1 : decode cX7_init 1 = .ok (.invokespecial 3, 3) := by decide +kernel
theorem dX7_init_4 : decode cX7_init 4 = .ok (.aload_n 0, 1) := by decide +kernel
theorem dX7_init_5 : decode cX7_init 5 = .ok (.bipush 16, 2) := by decide +kernel
theorem dX7_init_7 : decode cX7_init 7 = .ok (.newarray .int, 2) := by decide +kernel
theorem dX7_init_9 : decode cX7_init 9 = .ok (.putfield 9, 3) := by decide +kernel
theorem dX7_init_12 : decode cX7_init 12 = .ok (.aload_n 0, 1) := by decide +kernel
theorem dX7_init_13 : decode cX7_init 13 = .ok (.bipush 16, 2) := by decide +kernel
theorem dX7_init_15 : decode cX7_init 15 = .ok (.newarray .int, 2) := by decide +kernel
theorem dX7_init_17 : decode cX7_init 17 = .ok (.putfield 15, 3) := by decide +kernel
theorem dX7_init_20 : decode cX7_init 20 = .ok (.aload_n 0, 1) := by decide +kernel
theorem dX7_init_21 : decode cX7_init 21 = .ok (.bipush 24, 2) := by decide +kernel
theorem dX7_init_23 : decode cX7_init 23 = .ok (.newarray .int, 2) := by decide +kernel
theorem dX7_init_25 : decode cX7_init 25 = .ok (.putfield 18, 3) := by decide +kernel
theorem dX7_init_28 : decode cX7_init 28 = .ok (.aload_n 0, 1) := by decide +kernel
theorem dX7_init_29 : decode cX7_init 29 = .ok (.bipush 24, 2) := by decide +kernel
theorem dX7_init_31 : decode cX7_init 31 = .ok (.newarray .int, 2) := by decide +kernel
theorem dX7_init_33 : decode cX7_init 33 = .ok (.putfield 21, 3) := by decide +kernel
theorem dX7_init_36 : decode cX7_init 36 = .ok (.aload_n 0, 1) := by decide +kernel
theorem dX7_init_37 : decode cX7_init 37 = .ok (.bipush 24, 2) := by decide +kernel
theorem dX7_init_39 : decode cX7_init 39 = .ok (.newarray .boolean, 2) := by decide +kernel
theorem dX7_init_41 : decode cX7_init 41 = .ok (.putfield 24, 3) := by decide +kernel
theorem dX7_init_44 : decode cX7_init 44 = .ok (.aload_n 0, 1) := by decide +kernel
theorem dX7_init_45 : decode cX7_init 45 = .ok (.bipush 16, 2) := by decide +kernel
theorem dX7_init_47 : decode cX7_init 47 = .ok (.newarray .int, 2) := by decide +kernel
theorem dX7_init_49 : decode cX7_init 49 = .ok (.putfield 28, 3) := by decide +kernel
theorem dX7_init_52 : decode cX7_init 52 = .ok (.aload_n 0, 1) := by decide +kernel
theorem dX7_init_53 : decode cX7_init 53 = .ok (.getfield 15, 3) := by decide +kernel
theorem dX7_init_56 : decode cX7_init 56 = .ok (.iconst (-1), 1) := by decide +kernel
theorem dX7_init_57 : decode cX7_init 57 = .ok (.invokestatic 31, 3) := by decide +kernel
theorem dX7_init_60 : decode cX7_init 60 = .ok (.aload_n 0, 1) := by decide +kernel
theorem dX7_init_61 : decode cX7_init 61 = .ok (.getfield 18, 3) := by decide +kernel
theorem dX7_init_64 : decode cX7_init 64 = .ok (.iconst (-1), 1) := by decide +kernel
theorem dX7_init_65 : decode cX7_init 65 = .ok (.invokestatic 31, 3) := by decide +kernel
theorem dX7_init_68 : decode cX7_init 68 = .ok (.aload_n 0, 1) := by decide +kernel
theorem dX7_init_69 : decode cX7_init 69 = .ok (.getfield 21, 3) := by decide +kernel
theorem dX7_init_72 : decode cX7_init 72 = .ok (.iconst (-1), 1) := by decide +kernel
theorem dX7_init_73 : decode cX7_init 73 = .ok (.invokestatic 31, 3) := by decide +kernel
theorem dX7_init_76 : decode cX7_init 76 = .ok (.return_, 1) := by decide +kernel
theorem dX7_hasBox_0 : decode cX7_hasBox 0 = .ok (.iload_n 1, 1) := by decide +kernel
theorem dX7_hasBox_1 : decode cX7_hasBox 1 = .ok (.ifCond .lt 22, 3) := by decide +kernel
theorem dX7_hasBox_4 : decode cX7_hasBox 4 = .ok (.iload_n 1, 1) := by decide +kernel
theorem dX7_hasBox_5 : decode cX7_hasBox 5 = .ok (.bipush 16, 2) := by decide +kernel
theorem dX7_hasBox_7 : decode cX7_hasBox 7 = .ok (.if_icmp .ge 16, 3) := by decide +kernel
theorem dX7_hasBox_10 : decode cX7_hasBox 10 = .ok (.aload_n 0, 1) := by decide +kernel
theorem dX7_hasBox_11 : decode cX7_hasBox 11 = .ok (.getfield 9, 3) := by decide +kernel
theorem dX7_hasBox_14 : decode cX7_hasBox 14 = .ok (.iload_n 1, 1) := by decide +kernel
theorem dX7_hasBox_15 : decode cX7_hasBox 15 = .ok (.iaload, 1) := by decide +kernel
theorem dX7_hasBox_16 : decode cX7_hasBox 16 = .ok (.ifCond .le 7, 3) := by decide +kernel
theorem dX7_hasBox_19 : decode cX7_hasBox 19 = .ok (.iconst 1, 1) := by decide +kernel
theorem dX7_hasBox_20 : decode cX7_hasBox 20 = .ok (.goto 4, 3) := by decide +kernel
theorem dX7_hasBox_23 : decode cX7_hasBox 23 = .ok (.iconst 0, 1) := by decide +kernel
theorem dX7_hasBox_24 : decode cX7_hasBox 24 = .ok (.ireturn, 1) := by decide +kernel
theorem dX7_hasArrow_0 : decode cX7_hasArrow 0 = .ok (.iload_n 1, 1) := by decide +kernel
theorem dX7_hasArrow_1 : decode cX7_hasArrow 1 = .ok (.ifCond .lt 23, 3) := by decide +kernel
theorem dX7_hasArrow_4 : decode cX7_hasArrow 4 = .ok (.iload_n 1, 1) := by decide +kernel
theorem dX7_hasArrow_5 : decode cX7_hasArrow 5 = .ok (.bipush 24, 2) := by decide +kernel
theorem dX7_hasArrow_7 : decode cX7_hasArrow 7 = .ok (.if_icmp .ge 17, 3) := by decide +kernel
theorem dX7_hasArrow_10 : decode cX7_hasArrow 10 = .ok (.aload_n 0, 1) := by decide +kernel
theorem dX7_hasArrow_11 : decode cX7_hasArrow 11 = .ok (.getfield 18, 3) := by decide +kernel
theorem dX7_hasArrow_14 : decode cX7_hasArrow 14 = .ok (.iload_n 1, 1) := by decide +kernel
theorem dX7_hasArrow_15 : decode cX7_hasArrow 15 = .ok (.iaload, 1) := by decide +kernel
theorem dX7_hasArrow_16 : decode cX7_hasArrow 16 = .ok (.iconst (-1), 1) := by decide +kernel
theorem dX7_hasArrow_17 : decode cX7_hasArrow 17 = .ok (.if_icmp .eq 7, 3) := by decide +kernel
theorem dX7_hasArrow_20 : decode cX7_hasArrow 20 = .ok (.iconst 1, 1) := by decide +kernel
theorem dX7_hasArrow_21 : decode cX7_hasArrow 21 = .ok (.goto 4, 3) := by decide +kernel
theorem dX7_hasArrow_24 : decode cX7_hasArrow 24 = .ok (.iconst 0, 1) := by decide +kernel
theorem dX7_hasArrow_25 : decode cX7_hasArrow 25 = .ok (.ireturn, 1) := by decide +kernel
theorem dX7_putBox_0 : decode cX7_putBox 0 = .ok (.iload_n 1, 1) := by decide +kernel
theorem dX7_putBox_1 : decode cX7_putBox 1 = .ok (.ifCond .lt 16, 3) := by decide +kernel
theorem dX7_putBox_4 : decode cX7_putBox 4 = .ok (.iload_n 1, 1) := by decide +kernel
theorem dX7_putBox_5 : decode cX7_putBox 5 = .ok (.bipush 16, 2) := by decide +kernel
theorem dX7_putBox_7 : decode cX7_putBox 7 = .ok (.if_icmp .ge 10, 3) := by decide +kernel
theorem dX7_putBox_10 : decode cX7_putBox 10 = .ok (.aload_n 0, 1) := by decide +kernel
theorem dX7_putBox_11 : decode cX7_putBox 11 = .ok (.getfield 9, 3) := by decide +kernel
theorem dX7_putBox_14 : decode cX7_putBox 14 = .ok (.iload_n 1, 1) := by decide +kernel
theorem dX7_putBox_15 : decode cX7_putBox 15 = .ok (.iload_n 2, 1) := by decide +kernel
theorem dX7_putBox_16 : decode cX7_putBox 16 = .ok (.iastore, 1) := by decide +kernel
theorem dX7_putBox_17 : decode cX7_putBox 17 = .ok (.return_, 1) := by decide +kernel
set_option maxRecDepth 20000 in
theorem ggX7_takeBox_X7_hasBox : GoodIn wsX7_takeBox wsX7_hasBox := goodIn_r _ [9, 1, 32, 33, 34, 35, 36, 37] (by decide +kernel) (by decide +kernel)
set_option maxRecDepth 20000 in
theorem gX7_takeBox_X7_hasBox : GoodIn wsX7_takeBox (wsV RX7 37 RX7 yX7_hasBox wsX7_hasBox) := goodIn_app (goodIn_of _ (by decide +kernel)) ggX7_takeBox_X7_hasBox
set_option maxRecDepth 20000 in
theorem ggX7_takeBox_X7_turnArrows : GoodIn wsX7_takeBox wsX7_turnArrows := goodIn_r _ [13, 14, 15, 4, 3, 16, 17, 18, 19, 20, 21, 22, 8, 23, 24, 25, 26, 27, 5, 6, 7, 9, 1, 28, 29, 30, 31, 32, 33, 34, 35, 36, 37] (by decide +kernel) (by decide +kernel)
set_option maxRecDepth 20000 in
theorem gX7_takeBox_X7_turnArrows : GoodIn wsX7_takeBox (wsV RX7 41 RX7 yX7_turnArrows wsX7_turnArrows) := goodIn_app (goodIn_of _ (by decide +kernel)) ggX7_takeBox_X7_turnArrows
theorem dX7_takeBox_0 : decode cX7_takeBox 0 = .ok (.aload_n 0, 1) := by decide +kernel
theorem dX7_takeBox_1 : decode cX7_takeBox 1 = .ok (.iload_n 1, 1) := by decide +kernel
theorem dX7_takeBox_2 : decode cX7_takeBox 2 = .ok (.invokevirtual 37, 3) := by decide +kernel
theorem dX7_takeBox_5 : decode cX7_takeBox 5 = .ok (.ifCond .ne 4, 3) := by decide +kernel
theorem dX7_takeBox_8 : decode cX7_takeBox 8 = .ok (.return_, 1) := by decide +kernel
theorem dX7_takeBox_9 : decode cX7_takeBox 9 = .ok (.aload_n 0, 1) := by decide +kernel
theorem dX7_takeBox_10 : decode cX7_takeBox 10 = .ok (.getfield 9, 3) := by decide +kernel
theorem dX7_takeBox_13 : decode cX7_takeBox 13 = .ok (.iload_n 1, 1) := by decide +kernel
theorem dX7_takeBox_14 : decode cX7_takeBox 14 = .ok (.iconst 0, 1) := by decide +kernel
theorem dX7_takeBox_15 : decode cX7_takeBox 15 = .ok (.iastore, 1) := by decide +kernel
theorem dX7_takeBox_16 : decode cX7_takeBox 16 = .ok (.aload_n 0, 1) := by decide +kernel
theorem dX7_takeBox_17 : decode cX7_takeBox 17 = .ok (.getfield 15, 3) := by decide +kernel
theorem dX7_takeBox_20 : decode cX7_takeBox 20 = .ok (.iload_n 1, 1) := by decide +kernel
theorem dX7_takeBox_21 : decode cX7_takeBox 21 = .ok (.iconst (-1), 1) := by decide +kernel
theorem dX7_takeBox_22 : decode cX7_takeBox 22 = .ok (.iastore, 1) := by decide +kernel
theorem dX7_takeBox_23 : decode cX7_takeBox 23 = .ok (.iconst 0, 1) := by decide +kernel
theorem dX7_takeBox_24 : decode cX7_takeBox 24 = .ok (.istore_n 2, 1) := by decide +kernel
theorem dX7_takeBox_25 : decode cX7_takeBox 25 = .ok (.iload_n 2, 1) := by decide +kernel
theorem dX7_takeBox_26 : decode cX7_takeBox 26 = .ok (.bipush 24, 2) := by decide +kernel
theorem dX7_takeBox_28 : decode cX7_takeBox 28 = .ok (.if_icmp .ge 43, 3) := by decide +kernel
theorem dX7_takeBox_31 : decode cX7_takeBox 31 = .ok (.aload_n 0, 1) := by decide +kernel
theorem dX7_takeBox_32 : decode cX7_takeBox 32 = .ok (.getfield 18, 3) := by decide +kernel
theorem dX7_takeBox_35 : decode cX7_takeBox 35 = .ok (.iload_n 2, 1) := by decide +kernel
theorem dX7_takeBox_36 : decode cX7_takeBox 36 = .ok (.iaload, 1) := by decide +kernel
theorem dX7_takeBox_37 : decode cX7_takeBox 37 = .ok (.iload_n 1, 1) := by decide +kernel
theorem dX7_takeBox_38 : decode cX7_takeBox 38 = .ok (.if_icmp .eq 13, 3) := by decide +kernel
theorem dX7_takeBox_41 : decode cX7_takeBox 41 = .ok (.aload_n 0, 1) := by decide +kernel
theorem dX7_takeBox_42 : decode cX7_takeBox 42 = .ok (.getfield 21, 3) := by decide +kernel
theorem dX7_takeBox_45 : decode cX7_takeBox 45 = .ok (.iload_n 2, 1) := by decide +kernel
theorem dX7_takeBox_46 : decode cX7_takeBox 46 = .ok (.iaload, 1) := by decide +kernel
theorem dX7_takeBox_47 : decode cX7_takeBox 47 = .ok (.iload_n 1, 1) := by decide +kernel
theorem dX7_takeBox_48 : decode cX7_takeBox 48 = .ok (.if_icmp .ne 17, 3) := by decide +kernel
theorem dX7_takeBox_51 : decode cX7_takeBox 51 = .ok (.aload_n 0, 1) := by decide +kernel
theorem dX7_takeBox_52 : decode cX7_takeBox 52 = .ok (.getfield 18, 3) := by decide +kernel
theorem dX7_takeBox_55 : decode cX7_takeBox 55 = .ok (.iload_n 2, 1) := by decide +kernel
theorem dX7_takeBox_56 : decode cX7_takeBox 56 = .ok (.iconst (-1), 1) := by decide +kernel
theorem dX7_takeBox_57 : decode cX7_takeBox 57 = .ok (.iastore, 1) := by decide +kernel
theorem dX7_takeBox_58 : decode cX7_takeBox 58 = .ok (.aload_n 0, 1) := by decide +kernel
theorem dX7_takeBox_59 : decode cX7_takeBox 59 = .ok (.getfield 21, 3) := by decide +kernel
theorem dX7_takeBox_62 : decode cX7_takeBox 62 = .ok (.iload_n 2, 1) := by decide +kernel
theorem dX7_takeBox_63 : decode cX7_takeBox 63 = .ok (.iconst (-1), 1) := by decide +kernel
theorem dX7_takeBox_64 : decode cX7_takeBox 64 = .ok (.iastore, 1) := by decide +kernel
theorem dX7_takeBox_65 : decode cX7_takeBox 65 = .ok (.iinc 2 1, 3) := by decide +kernel
theorem dX7_takeBox_68 : decode cX7_takeBox 68 = .ok (.goto (-43), 3) := by decide +kernel
theorem dX7_takeBox_71 : decode cX7_takeBox 71 = .ok (.aload_n 0, 1) := by decide +kernel
theorem dX7_takeBox_72 : decode cX7_takeBox 72 = .ok (.invokevirtual 41, 3) := by decide +kernel
theorem dX7_takeBox_75 : decode cX7_takeBox 75 = .ok (.return_, 1) := by decide +kernel
set_option maxRecDepth 20000 in
theorem ggX7_putArrow_X7_hasBox : GoodIn wsX7_putArrow wsX7_hasBox := goodIn_r _ [7, 8, 31, 32, 33, 34, 35, 36] (by decide +kernel) (by decide +kernel)
set_option maxRecDepth 20000 in
theorem gX7_putArrow_X7_hasBox : GoodIn wsX7_putArrow (wsV RX7 37 RX7 yX7_hasBox wsX7_hasBox) := goodIn_app (goodIn_of _ (by decide +kernel)) ggX7_putArrow_X7_hasBox
set_option maxRecDepth 20000 in
theorem ggX7_putArrow_X7_turnArrows : GoodIn wsX7_putArrow wsX7_turnArrows := goodIn_r _ [12, 13, 14, 2, 1, 15, 16, 17, 18, 19, 20, 21, 6, 22, 23, 24, 25, 26, 3, 4, 5, 7, 8, 27, 28, 29, 30, 31, 32, 33, 34, 35, 36] (by decide +kernel) (by decide +kernel)
set_option maxRecDepth 20000 in
theorem gX7_putArrow_X7_turnArrows : GoodIn wsX7_putArrow (wsV RX7 41 RX7 yX7_turnArrows wsX7_turnArrows) := goodIn_app (goodIn_of _ (by decide +kernel)) ggX7_putArrow_X7_turnArrows
theorem dX7_putArrow_0 : decode cX7_putArrow 0 = .ok (.iload_n 1, 1) := by decide +kernel
theorem dX7_putArrow_1 : decode cX7_putArrow 1 = .ok (.ifCond .lt 43, 3) := by decide +kernel
theorem dX7_putArrow_4 : decode cX7_putArrow 4 = .ok (.iload_n 1, 1) := by decide +kernel
theorem dX7_putArrow_5 : decode cX7_putArrow 5 = .ok (.bipush 24, 2) := by decide +kernel
theorem dX7_putArrow_7 : decode cX7_putArrow 7 = .ok (.if_icmp .ge 37, 3) := by decide +kernel
theorem dX7_putArrow_10 : decode cX7_putArrow 10 = .ok (.aload_n 0, 1) := by decide +kernel
theorem dX7_putArrow_11 : decode cX7_putArrow 11 = .ok (.iload_n 2, 1) := by decide +kernel
theorem dX7_putArrow_12 : decode cX7_putArrow 12 = .ok (.invokevirtual 37, 3) := by decide +kernel
theorem dX7_putArrow_15 : decode cX7_putArrow 15 = .ok (.ifCond .eq 29, 3) := by decide +kernel
theorem dX7_putArrow_18 : decode cX7_putArrow 18 = .ok (.aload_n 0, 1) := by decide +kernel
theorem dX7_putArrow_19 : decode cX7_putArrow 19 = .ok (.iload_n 3, 1) := by decide +kernel
theorem dX7_putArrow_20 : decode cX7_putArrow 20 = .ok (.invokevirtual 37, 3) := by decide +kernel
theorem dX7_putArrow_23 : decode cX7_putArrow 23 = .ok (.ifCond .eq 21, 3) := by decide +kernel
theorem dX7_putArrow_26 : decode cX7_putArrow 26 = .ok (.aload_n 0, 1) := by decide +kernel
theorem dX7_putArrow_27 : decode cX7_putArrow 27 = .ok (.getfield 18, 3) := by decide +kernel
theorem dX7_putArrow_30 : decode cX7_putArrow 30 = .ok (.iload_n 1, 1) := by decide +kernel
theorem dX7_putArrow_31 : decode cX7_putArrow 31 = .ok (.iload_n 2, 1) := by decide +kernel
theorem dX7_putArrow_32 : decode cX7_putArrow 32 = .ok (.iastore, 1) := by decide +kernel
theorem dX7_putArrow_33 : decode cX7_putArrow 33 = .ok (.aload_n 0, 1) := by decide +kernel
theorem dX7_putArrow_34 : decode cX7_putArrow 34 = .ok (.getfield 21, 3) := by decide +kernel
theorem dX7_putArrow_37 : decode cX7_putArrow 37 = .ok (.iload_n 1, 1) := by decide +kernel
theorem dX7_putArrow_38 : decode cX7_putArrow 38 = .ok (.iload_n 3, 1) := by decide +kernel
theorem dX7_putArrow_39 : decode cX7_putArrow 39 = .ok (.iastore, 1) := by decide +kernel
theorem dX7_putArrow_40 : decode cX7_putArrow 40 = .ok (.aload_n 0, 1) := by decide +kernel
theorem dX7_putArrow_41 : decode cX7_putArrow 41 = .ok (.invokevirtual 41, 3) := by decide +kernel
theorem dX7_putArrow_44 : decode cX7_putArrow 44 = .ok (.return_, 1) := by decide +kernel
set_option maxRecDepth 20000 in
theorem ggX7_takeArrow_X7_hasArrow : GoodIn wsX7_takeArrow wsX7_hasArrow := goodIn_r _ [7, 1, 31, 32, 33, 34, 35, 36] (by decide +kernel) (by decide +kernel)
set_option maxRecDepth 20000 in
theorem gX7_takeArrow_X7_hasArrow : GoodIn wsX7_takeArrow (wsV RX7 44 RX7 yX7_hasArrow wsX7_hasArrow) := goodIn_app (goodIn_of _ (by decide +kernel)) ggX7_takeArrow_X7_hasArrow
set_option maxRecDepth 20000 in
theorem ggX7_takeArrow_X7_turnArrows : GoodIn wsX7_takeArrow wsX7_turnArrows := goodIn_r _ [11, 12, 13, 2, 1, 14, 15, 16, 17, 3, 4, 5, 6, 7, 18, 19, 20, 21, 22, 23, 24, 25, 26, 27, 28, 29, 30, 31, 32, 33, 34, 35, 36] (by decide +kernel) (by decide +kernel)
set_option maxRecDepth 20000 in
theorem gX7_takeArrow_X7_turnArrows : GoodIn wsX7_takeArrow (wsV RX7 41 RX7 yX7_turnArrows wsX7_turnArrows) := goodIn_app (goodIn_of _ (by decide +kernel)) ggX7_takeArrow_X7_turnArrows
theorem dX7_takeArrow_0 : decode cX7_takeArrow 0 = .ok (.aload_n 0, 1) := by decide +kernel
theorem dX7_takeArrow_1 : decode cX7_takeArrow 1 = .ok (.iload_n 1, 1) := by decide +kernel
theorem dX7_takeArrow_2 : decode cX7_takeArrow 2 = .ok (.invokevirtual 44, 3) := by decide +kernel
theorem dX7_takeArrow_5 : decode cX7_takeArrow 5 = .ok (.ifCond .eq 21, 3) := by decide +kernel
theorem dX7_takeArrow_8 : decode cX7_takeArrow 8 = .ok (.aload_n 0, 1) := by decide +kernel
theorem dX7_takeArrow_9 : decode cX7_takeArrow 9 = .ok (.getfield 18, 3) := by decide +kernel
theorem dX7_takeArrow_12 : decode cX7_takeArrow 12 = .ok (.iload_n 1, 1) := by decide +kernel
theorem dX7_takeArrow_13 : decode cX7_takeArrow 13 = .ok (.iconst (-1), 1) := by decide +kernel
theorem dX7_takeArrow_14 : decode cX7_takeArrow 14 = .ok (.iastore, 1) := by decide +kernel
theorem dX7_takeArrow_15 : decode cX7_takeArrow 15 = .ok (.aload_n 0, 1) := by decide +kernel
theorem dX7_takeArrow_16 : decode cX7_takeArrow 16 = .ok (.getfield 21, 3) := by decide +kernel
theorem dX7_takeArrow_19 : decode cX7_takeArrow 19 = .ok (.iload_n 1, 1) := by decide +kernel
theorem dX7_takeArrow_20 : decode cX7_takeArrow 20 = .ok (.iconst (-1), 1) := by decide +kernel
theorem dX7_takeArrow_21 : decode cX7_takeArrow 21 = .ok (.iastore, 1) := by decide +kernel
theorem dX7_takeArrow_22 : decode cX7_takeArrow 22 = .ok (.aload_n 0, 1) := by decide +kernel
theorem dX7_takeArrow_23 : decode cX7_takeArrow 23 = .ok (.invokevirtual 41, 3) := by decide +kernel
theorem dX7_takeArrow_26 : decode cX7_takeArrow 26 = .ok (.return_, 1) := by decide +kernel
set_option maxRecDepth 20000 in
theorem ggX7_pinBox_X7_hasBox : GoodIn wsX7_pinBox wsX7_hasBox := goodIn_r _ [6, 7, 8, 9, 10, 11, 12, 13] (by decide +kernel) (by decide +kernel)
set_option maxRecDepth 20000 in
theorem gX7_pinBox_X7_hasBox : GoodIn wsX7_pinBox (wsV RX7 37 RX7 yX7_hasBox wsX7_hasBox) := goodIn_app (goodIn_of _ (by decide +kernel)) ggX7_pinBox_X7_hasBox
theorem dX7_pinBox_0 : decode cX7_pinBox 0 = .ok (.aload_n 0, 1) := by decide +kernel
theorem dX7_pinBox_1 : decode cX7_pinBox 1 = .ok (.iload_n 1, 1) := by decide +kernel
theorem dX7_pinBox_2 : decode cX7_pinBox 2 = .ok (.invokevirtual 37, 3) := by decide +kernel
theorem dX7_pinBox_5 : decode cX7_pinBox 5 = .ok (.ifCond .eq 10, 3) := by decide +kernel
theorem dX7_pinBox_8 : decode cX7_pinBox 8 = .ok (.aload_n 0, 1) := by decide +kernel
theorem dX7_pinBox_9 : decode cX7_pinBox 9 = .ok (.getfield 15, 3) := by decide +kernel
theorem dX7_pinBox_12 : decode cX7_pinBox 12 = .ok (.iload_n 1, 1) := by decide +kernel
theorem dX7_pinBox_13 : decode cX7_pinBox 13 = .ok (.iload_n 2, 1) := by decide +kernel
theorem dX7_pinBox_14 : decode cX7_pinBox 14 = .ok (.iastore, 1) := by decide +kernel
theorem dX7_pinBox_15 : decode cX7_pinBox 15 = .ok (.return_, 1) := by decide +kernel
set_option maxRecDepth 20000 in
theorem ggX7_isPinned_X7_hasBox : GoodIn wsX7_isPinned wsX7_hasBox := goodIn_r _ [6, 7, 8, 9, 10, 11, 12, 13] (by decide +kernel) (by decide +kernel)
set_option maxRecDepth 20000 in
theorem gX7_isPinned_X7_hasBox : GoodIn wsX7_isPinned (wsV RX7 37 RX7 yX7_hasBox wsX7_hasBox) := goodIn_app (goodIn_of _ (by decide +kernel)) ggX7_isPinned_X7_hasBox
theorem dX7_isPinned_0 : decode cX7_isPinned 0 = .ok (.aload_n 0, 1) := by decide +kernel
theorem dX7_isPinned_1 : decode cX7_isPinned 1 = .ok (.iload_n 1, 1) := by decide +kernel
theorem dX7_isPinned_2 : decode cX7_isPinned 2 = .ok (.invokevirtual 37, 3) := by decide +kernel
theorem dX7_isPinned_5 : decode cX7_isPinned 5 = .ok (.ifCond .eq 17, 3) := by decide +kernel
theorem dX7_isPinned_8 : decode cX7_isPinned 8 = .ok (.aload_n 0, 1) := by decide +kernel
theorem dX7_isPinned_9 : decode cX7_isPinned 9 = .ok (.getfield 15, 3) := by decide +kernel
theorem dX7_isPinned_12 : decode cX7_isPinned 12 = .ok (.iload_n 1, 1) := by decide +kernel
theorem dX7_isPinned_13 : decode cX7_isPinned 13 = .ok (.iaload, 1) := by decide +kernel
theorem dX7_isPinned_14 : decode cX7_isPinned 14 = .ok (.iconst (-1), 1) := by decide +kernel
theorem dX7_isPinned_15 : decode cX7_isPinned 15 = .ok (.if_icmp .eq 7, 3) := by decide +kernel
theorem dX7_isPinned_18 : decode cX7_isPinned 18 = .ok (.iconst 1, 1) := by decide +kernel
theorem dX7_isPinned_19 : decode cX7_isPinned 19 = .ok (.goto 4, 3) := by decide +kernel
theorem dX7_isPinned_22 : decode cX7_isPinned 22 = .ok (.iconst 0, 1) := by decide +kernel
theorem dX7_isPinned_23 : decode cX7_isPinned 23 = .ok (.ireturn, 1) := by decide +kernel
set_option maxRecDepth 20000 in
theorem ggX7_pinOf_X7_hasBox : GoodIn wsX7_pinOf wsX7_hasBox := goodIn_r _ [6, 7, 8, 9, 10, 11, 12, 13] (by decide +kernel) (by decide +kernel)
set_option maxRecDepth 20000 in
theorem gX7_pinOf_X7_hasBox : GoodIn wsX7_pinOf (wsV RX7 37 RX7 yX7_hasBox wsX7_hasBox) := goodIn_app (goodIn_of _ (by decide +kernel)) ggX7_pinOf_X7_hasBox
theorem dX7_pinOf_0 : decode cX7_pinOf 0 = .ok (.aload_n 0, 1) := by decide +kernel
theorem dX7_pinOf_1 : decode cX7_pinOf 1 = .ok (.iload_n 1, 1) := by decide +kernel
theorem dX7_pinOf_2 : decode cX7_pinOf 2 = .ok (.invokevirtual 37, 3) := by decide +kernel
theorem dX7_pinOf_5 : decode cX7_pinOf 5 = .ok (.ifCond .eq 12, 3) := by decide +kernel
theorem dX7_pinOf_8 : decode cX7_pinOf 8 = .ok (.aload_n 0, 1) := by decide +kernel
theorem dX7_pinOf_9 : decode cX7_pinOf 9 = .ok (.getfield 15, 3) := by decide +kernel
theorem dX7_pinOf_12 : decode cX7_pinOf 12 = .ok (.iload_n 1, 1) := by decide +kernel
theorem dX7_pinOf_13 : decode cX7_pinOf 13 = .ok (.iaload, 1) := by decide +kernel
theorem dX7_pinOf_14 : decode cX7_pinOf 14 = .ok (.goto 4, 3) := by decide +kernel
theorem dX7_pinOf_17 : decode cX7_pinOf 17 = .ok (.iconst (-1), 1) := by decide +kernel
theorem dX7_pinOf_18 : decode cX7_pinOf 18 = .ok (.ireturn, 1) := by decide +kernel
set_option maxRecDepth 20000 in
theorem ggX7_isTurned_X7_hasArrow : GoodIn wsX7_isTurned wsX7_hasArrow := goodIn_r _ [6, 7, 8, 9, 10, 11, 12, 13] (by decide +kernel) (by decide +kernel)
set_option maxRecDepth 20000 in
theorem gX7_isTurned_X7_hasArrow : GoodIn wsX7_isTurned (wsV RX7 44 RX7 yX7_hasArrow wsX7_hasArrow) := goodIn_app (goodIn_of _ (by decide +kernel)) ggX7_isTurned_X7_hasArrow
theorem dX7_isTurned_0 : decode cX7_isTurned 0 = .ok (.aload_n 0, 1) := by decide +kernel
theorem dX7_isTurned_1 : decode cX7_isTurned 1 = .ok (.iload_n 1, 1) := by decide +kernel
theorem dX7_isTurned_2 : decode cX7_isTurned 2 = .ok (.invokevirtual 44, 3) := by decide +kernel
theorem dX7_isTurned_5 : decode cX7_isTurned 5 = .ok (.ifCond .eq 16, 3) := by decide +kernel
theorem dX7_isTurned_8 : decode cX7_isTurned 8 = .ok (.aload_n 0, 1) := by decide +kernel
theorem dX7_isTurned_9 : decode cX7_isTurned 9 = .ok (.getfield 24, 3) := by decide +kernel
theorem dX7_isTurned_12 : decode cX7_isTurned 12 = .ok (.iload_n 1, 1) := by decide +kernel
theorem dX7_isTurned_13 : decode cX7_isTurned 13 = .ok (.baload, 1) := by decide +kernel
theorem dX7_isTurned_14 : decode cX7_isTurned 14 = .ok (.ifCond .eq 7, 3) := by decide +kernel
theorem dX7_isTurned_17 : decode cX7_isTurned 17 = .ok (.iconst 1, 1) := by decide +kernel
theorem dX7_isTurned_18 : decode cX7_isTurned 18 = .ok (.goto 4, 3) := by decide +kernel
theorem dX7_isTurned_21 : decode cX7_isTurned 21 = .ok (.iconst 0, 1) := by decide +kernel
theorem dX7_isTurned_22 : decode cX7_isTurned 22 = .ok (.ireturn, 1) := by decide +kernel
set_option maxRecDepth 20000 in
theorem ggX7_upperBox_X7_hasArrow : GoodIn wsX7_upperBox wsX7_hasArrow := goodIn_r _ [8, 3, 9, 10, 11, 12, 13, 14] (by decide +kernel) (by decide +kernel)
set_option maxRecDepth 20000 in
theorem gX7_upperBox_X7_hasArrow : GoodIn wsX7_upperBox (wsV RX7 44 RX7 yX7_hasArrow wsX7_hasArrow) := goodIn_app (goodIn_of _ (by decide +kernel)) ggX7_upperBox_X7_hasArrow
theorem dX7_upperBox_0 : decode cX7_upperBox 0 = .ok (.aload_n 0, 1) := by decide +kernel
theorem dX7_upperBox_1 : decode cX7_upperBox 1 = .ok (.iload_n 1, 1) := by decide +kernel
theorem dX7_upperBox_2 : decode cX7_upperBox 2 = .ok (.invokevirtual 44, 3) := by decide +kernel
theorem dX7_upperBox_5 : decode cX7_upperBox 5 = .ok (.ifCond .ne 7, 3) := by decide +kernel
theorem dX7_upperBox_8 : decode cX7_upperBox 8 = .ok (.iconst (-1), 1) := by decide +kernel
theorem dX7_upperBox_9 : decode cX7_upperBox 9 = .ok (.goto 27, 3) := by decide +kernel
theorem dX7_upperBox_12 : decode cX7_upperBox 12 = .ok (.aload_n 0, 1) := by decide +kernel
theorem dX7_upperBox_13 : decode cX7_upperBox 13 = .ok (.getfield 24, 3) := by decide +kernel
theorem dX7_upperBox_16 : decode cX7_upperBox 16 = .ok (.iload_n 1, 1) := by decide +kernel
theorem dX7_upperBox_17 : decode cX7_upperBox 17 = .ok (.baload, 1) := by decide +kernel
theorem dX7_upperBox_18 : decode cX7_upperBox 18 = .ok (.ifCond .eq 12, 3) := by decide +kernel
theorem dX7_upperBox_21 : decode cX7_upperBox 21 = .ok (.aload_n 0, 1) := by decide +kernel
theorem dX7_upperBox_22 : decode cX7_upperBox 22 = .ok (.getfield 21, 3) := by decide +kernel
theorem dX7_upperBox_25 : decode cX7_upperBox 25 = .ok (.iload_n 1, 1) := by decide +kernel
theorem dX7_upperBox_26 : decode cX7_upperBox 26 = .ok (.iaload, 1) := by decide +kernel
theorem dX7_upperBox_27 : decode cX7_upperBox 27 = .ok (.goto 9, 3) := by decide +kernel
theorem dX7_upperBox_30 : decode cX7_upperBox 30 = .ok (.aload_n 0, 1) := by decide +kernel
theorem dX7_upperBox_31 : decode cX7_upperBox 31 = .ok (.getfield 18, 3) := by decide +kernel
theorem dX7_upperBox_34 : decode cX7_upperBox 34 = .ok (.iload_n 1, 1) := by decide +kernel
theorem dX7_upperBox_35 : decode cX7_upperBox 35 = .ok (.iaload, 1) := by decide +kernel
theorem dX7_upperBox_36 : decode cX7_upperBox 36 = .ok (.ireturn, 1) := by decide +kernel
set_option maxRecDepth 20000 in
theorem ggX7_lowerBox_X7_hasArrow : GoodIn wsX7_lowerBox wsX7_hasArrow := goodIn_r _ [8, 2, 9, 10, 11, 12, 13, 14] (by decide +kernel) (by decide +kernel)
set_option maxRecDepth 20000 in
theorem gX7_lowerBox_X7_hasArrow : GoodIn wsX7_lowerBox (wsV RX7 44 RX7 yX7_hasArrow wsX7_hasArrow) := goodIn_app (goodIn_of _ (by decide +kernel)) ggX7_lowerBox_X7_hasArrow
theorem dX7_lowerBox_0 : decode cX7_lowerBox 0 = .ok (.aload_n 0, 1) := by decide +kernel
theorem dX7_lowerBox_1 : decode cX7_lowerBox 1 = .ok (.iload_n 1, 1) := by decide +kernel
theorem dX7_lowerBox_2 : decode cX7_lowerBox 2 = .ok (.invokevirtual 44, 3) := by decide +kernel
theorem dX7_lowerBox_5 : decode cX7_lowerBox 5 = .ok (.ifCond .ne 7, 3) := by decide +kernel
theorem dX7_lowerBox_8 : decode cX7_lowerBox 8 = .ok (.iconst (-1), 1) := by decide +kernel
theorem dX7_lowerBox_9 : decode cX7_lowerBox 9 = .ok (.goto 27, 3) := by decide +kernel
theorem dX7_lowerBox_12 : decode cX7_lowerBox 12 = .ok (.aload_n 0, 1) := by decide +kernel
theorem dX7_lowerBox_13 : decode cX7_lowerBox 13 = .ok (.getfield 24, 3) := by decide +kernel
theorem dX7_lowerBox_16 : decode cX7_lowerBox 16 = .ok (.iload_n 1, 1) := by decide +kernel
theorem dX7_lowerBox_17 : decode cX7_lowerBox 17 = .ok (.baload, 1) := by decide +kernel
theorem dX7_lowerBox_18 : decode cX7_lowerBox 18 = .ok (.ifCond .eq 12, 3) := by decide +kernel
theorem dX7_lowerBox_21 : decode cX7_lowerBox 21 = .ok (.aload_n 0, 1) := by decide +kernel
theorem dX7_lowerBox_22 : decode cX7_lowerBox 22 = .ok (.getfield 18, 3) := by decide +kernel
theorem dX7_lowerBox_25 : decode cX7_lowerBox 25 = .ok (.iload_n 1, 1) := by decide +kernel
theorem dX7_lowerBox_26 : decode cX7_lowerBox 26 = .ok (.iaload, 1) := by decide +kernel
theorem dX7_lowerBox_27 : decode cX7_lowerBox 27 = .ok (.goto 9, 3) := by decide +kernel
theorem dX7_lowerBox_30 : decode cX7_lowerBox 30 = .ok (.aload_n 0, 1) := by decide +kernel
theorem dX7_lowerBox_31 : decode cX7_lowerBox 31 = .ok (.getfield 21, 3) := by decide +kernel
theorem dX7_lowerBox_34 : decode cX7_lowerBox 34 = .ok (.iload_n 1, 1) := by decide +kernel
theorem dX7_lowerBox_35 : decode cX7_lowerBox 35 = .ok (.iaload, 1) := by decide +kernel
theorem dX7_lowerBox_36 : decode cX7_lowerBox 36 = .ok (.ireturn, 1) := by decide +kernel
set_option maxRecDepth 20000 in
theorem ggX7_widthOf_X7_hasBox : GoodIn wsX7_widthOf wsX7_hasBox := goodIn_r _ [6, 1, 7, 8, 9, 10, 11, 12] (by decide +kernel) (by decide +kernel)
set_option maxRecDepth 20000 in
theorem gX7_widthOf_X7_hasBox : GoodIn wsX7_widthOf (wsV RX7 37 RX7 yX7_hasBox wsX7_hasBox) := goodIn_app (goodIn_of _ (by decide +kernel)) ggX7_widthOf_X7_hasBox
theorem dX7_widthOf_0 : decode cX7_widthOf 0 = .ok (.aload_n 0, 1) := by decide +kernel
theorem dX7_widthOf_1 : decode cX7_widthOf 1 = .ok (.iload_n 1, 1) := by decide +kernel
theorem dX7_widthOf_2 : decode cX7_widthOf 2 = .ok (.invokevirtual 37, 3) := by decide +kernel
theorem dX7_widthOf_5 : decode cX7_widthOf 5 = .ok (.ifCond .eq 12, 3) := by decide +kernel
theorem dX7_widthOf_8 : decode cX7_widthOf 8 = .ok (.aload_n 0, 1) := by decide +kernel
theorem dX7_widthOf_9 : decode cX7_widthOf 9 = .ok (.getfield 9, 3) := by decide +kernel
theorem dX7_widthOf_12 : decode cX7_widthOf 12 = .ok (.iload_n 1, 1) := by decide +kernel
theorem dX7_widthOf_13 : decode cX7_widthOf 13 = .ok (.iaload, 1) := by decide +kernel
theorem dX7_widthOf_14 : decode cX7_widthOf 14 = .ok (.goto 4, 3) := by decide +kernel
theorem dX7_widthOf_17 : decode cX7_widthOf 17 = .ok (.iconst 1, 1) := by decide +kernel
theorem dX7_widthOf_18 : decode cX7_widthOf 18 = .ok (.ireturn, 1) := by decide +kernel
set_option maxRecDepth 20000 in
theorem ggX7_boxes_X7_hasBox : GoodIn wsX7_boxes wsX7_hasBox := goodIn_r _ [5, 6, 7, 8, 9, 10, 11, 12] (by decide +kernel) (by decide +kernel)
set_option maxRecDepth 20000 in
theorem gX7_boxes_X7_hasBox : GoodIn wsX7_boxes (wsV RX7 37 RX7 yX7_hasBox wsX7_hasBox) := goodIn_app (goodIn_of _ (by decide +kernel)) ggX7_boxes_X7_hasBox
theorem dX7_boxes_0 : decode cX7_boxes 0 = .ok (.iconst 0, 1) := by decide +kernel
theorem dX7_boxes_1 : decode cX7_boxes 1 = .ok (.istore_n 1, 1) := by decide +kernel
theorem dX7_boxes_2 : decode cX7_boxes 2 = .ok (.iconst 0, 1) := by decide +kernel
theorem dX7_boxes_3 : decode cX7_boxes 3 = .ok (.istore_n 2, 1) := by decide +kernel
theorem dX7_boxes_4 : decode cX7_boxes 4 = .ok (.iload_n 2, 1) := by decide +kernel
theorem dX7_boxes_5 : decode cX7_boxes 5 = .ok (.bipush 16, 2) := by decide +kernel
theorem dX7_boxes_7 : decode cX7_boxes 7 = .ok (.if_icmp .ge 20, 3) := by decide +kernel
theorem dX7_boxes_10 : decode cX7_boxes 10 = .ok (.aload_n 0, 1) := by decide +kernel
theorem dX7_boxes_11 : decode cX7_boxes 11 = .ok (.iload_n 2, 1) := by decide +kernel
theorem dX7_boxes_12 : decode cX7_boxes 12 = .ok (.invokevirtual 37, 3) := by decide +kernel
theorem dX7_boxes_15 : decode cX7_boxes 15 = .ok (.ifCond .eq 6, 3) := by decide +kernel
theorem dX7_boxes_18 : decode cX7_boxes 18 = .ok (.iinc 1 1, 3) := by decide +kernel
theorem dX7_boxes_21 : decode cX7_boxes 21 = .ok (.iinc 2 1, 3) := by decide +kernel
theorem dX7_boxes_24 : decode cX7_boxes 24 = .ok (.goto (-20), 3) := by decide +kernel
theorem dX7_boxes_27 : decode cX7_boxes 27 = .ok (.iload_n 1, 1) := by decide +kernel
theorem dX7_boxes_28 : decode cX7_boxes 28 = .ok (.ireturn, 1) := by decide +kernel
set_option maxRecDepth 20000 in
theorem ggX7_arrows_X7_hasArrow : GoodIn wsX7_arrows wsX7_hasArrow := goodIn_r _ [5, 6, 7, 8, 9, 10, 11, 12] (by decide +kernel) (by decide +kernel)
set_option maxRecDepth 20000 in
theorem gX7_arrows_X7_hasArrow : GoodIn wsX7_arrows (wsV RX7 44 RX7 yX7_hasArrow wsX7_hasArrow) := goodIn_app (goodIn_of _ (by decide +kernel)) ggX7_arrows_X7_hasArrow
theorem dX7_arrows_0 : decode cX7_arrows 0 = .ok (.iconst 0, 1) := by decide +kernel
theorem dX7_arrows_1 : decode cX7_arrows 1 = .ok (.istore_n 1, 1) := by decide +kernel
theorem dX7_arrows_2 : decode cX7_arrows 2 = .ok (.iconst 0, 1) := by decide +kernel
theorem dX7_arrows_3 : decode cX7_arrows 3 = .ok (.istore_n 2, 1) := by decide +kernel
theorem dX7_arrows_4 : decode cX7_arrows 4 = .ok (.iload_n 2, 1) := by decide +kernel
theorem dX7_arrows_5 : decode cX7_arrows 5 = .ok (.bipush 24, 2) := by decide +kernel
theorem dX7_arrows_7 : decode cX7_arrows 7 = .ok (.if_icmp .ge 20, 3) := by decide +kernel
theorem dX7_arrows_10 : decode cX7_arrows 10 = .ok (.aload_n 0, 1) := by decide +kernel
theorem dX7_arrows_11 : decode cX7_arrows 11 = .ok (.iload_n 2, 1) := by decide +kernel
theorem dX7_arrows_12 : decode cX7_arrows 12 = .ok (.invokevirtual 44, 3) := by decide +kernel
theorem dX7_arrows_15 : decode cX7_arrows 15 = .ok (.ifCond .eq 6, 3) := by decide +kernel
theorem dX7_arrows_18 : decode cX7_arrows 18 = .ok (.iinc 1 1, 3) := by decide +kernel
theorem dX7_arrows_21 : decode cX7_arrows 21 = .ok (.iinc 2 1, 3) := by decide +kernel
theorem dX7_arrows_24 : decode cX7_arrows 24 = .ok (.goto (-20), 3) := by decide +kernel
theorem dX7_arrows_27 : decode cX7_arrows 27 = .ok (.iload_n 1, 1) := by decide +kernel
theorem dX7_arrows_28 : decode cX7_arrows 28 = .ok (.ireturn, 1) := by decide +kernel
set_option maxRecDepth 20000 in
theorem ggX7_turnedArrows_X7_isTurned : GoodIn wsX7_turnedArrows wsX7_isTurned := goodIn_r _ [5, 6, 7, 8, 9, 4, 10, 11, 12, 13, 14, 15, 16, 17] (by decide +kernel) (by decide +kernel)
set_option maxRecDepth 20000 in
theorem gX7_turnedArrows_X7_isTurned : GoodIn wsX7_turnedArrows (wsV RX7 47 RX7 yX7_isTurned wsX7_isTurned) := goodIn_app (goodIn_of _ (by decide +kernel)) ggX7_turnedArrows_X7_isTurned
theorem dX7_turnedArrows_0 : decode cX7_turnedArrows 0 = .ok (.iconst 0, 1) := by decide +kernel
theorem dX7_turnedArrows_1 : decode cX7_turnedArrows 1 = .ok (.istore_n 1, 1) := by decide +kernel
theorem dX7_turnedArrows_2 : decode cX7_turnedArrows 2 = .ok (.iconst 0, 1) := by decide +kernel
theorem dX7_turnedArrows_3 : decode cX7_turnedArrows 3 = .ok (.istore_n 2, 1) := by decide +kernel
theorem dX7_turnedArrows_4 : decode cX7_turnedArrows 4 = .ok (.iload_n 2, 1) := by decide +kernel
theorem dX7_turnedArrows_5 : decode cX7_turnedArrows 5 = .ok (.bipush 24, 2) := by decide +kernel
theorem dX7_turnedArrows_7 : decode cX7_turnedArrows 7 = .ok (.if_icmp .ge 20, 3) := by decide +kernel
theorem dX7_turnedArrows_10 : decode cX7_turnedArrows 10 = .ok (.aload_n 0, 1) := by decide +kernel
theorem dX7_turnedArrows_11 : decode cX7_turnedArrows 11 = .ok (.iload_n 2, 1) := by decide +kernel
theorem dX7_turnedArrows_12 : decode cX7_turnedArrows 12 = .ok (.invokevirtual 47, 3) := by decide +kernel
theorem dX7_turnedArrows_15 : decode cX7_turnedArrows 15 = .ok (.ifCond .eq 6, 3) := by decide +kernel
theorem dX7_turnedArrows_18 : decode cX7_turnedArrows 18 = .ok (.iinc 1 1, 3) := by decide +kernel
theorem dX7_turnedArrows_21 : decode cX7_turnedArrows 21 = .ok (.iinc 2 1, 3) := by decide +kernel
theorem dX7_turnedArrows_24 : decode cX7_turnedArrows 24 = .ok (.goto (-20), 3) := by decide +kernel
theorem dX7_turnedArrows_27 : decode cX7_turnedArrows 27 = .ok (.iload_n 1, 1) := by decide +kernel
theorem dX7_turnedArrows_28 : decode cX7_turnedArrows 28 = .ok (.ireturn, 1) := by decide +kernel
set_option maxRecDepth 20000 in
theorem ggX7_turnArrows_J7_fill_53178 : GoodIn wsX7_turnArrows wsJ7_fill_53178 := goodIn_r _ [8] (by decide +kernel) (by decide +kernel)
set_option maxRecDepth 20000 in
theorem gX7_turnArrows_J7_fill_53178 : GoodIn wsX7_turnArrows (va_wsS RX7 31 yJ7_fill_53178 wsJ7_fill_53178) := goodIn_app (goodIn_of _ (by decide +kernel)) ggX7_turnArrows_J7_fill_53178
set_option maxRecDepth 20000 in
theorem ggX7_turnArrows_X7_hasArrow : GoodIn wsX7_turnArrows wsX7_hasArrow := goodIn_r _ [13, 4, 27, 28, 29, 30, 31, 32] (by decide +kernel) (by decide +kernel)
set_option maxRecDepth 20000 in
theorem gX7_turnArrows_X7_hasArrow : GoodIn wsX7_turnArrows (wsV RX7 44 RX7 yX7_hasArrow wsX7_hasArrow) := goodIn_app (goodIn_of _ (by decide +kernel)) ggX7_turnArrows_X7_hasArrow
set_option maxRecDepth 20000 in
theorem ggX7_turnArrows_X7_reaches : GoodIn wsX7_turnArrows wsX7_reaches := goodIn_r _ [17, 1, 18, 19, 20, 12, 21, 22, 27, 28, 29, 30, 31, 32] (by decide +kernel) (by decide +kernel)
set_option maxRecDepth 20000 in
theorem gX7_turnArrows_X7_reaches : GoodIn wsX7_turnArrows (wsV RX7 50 RX7 yX7_reaches wsX7_reaches) := goodIn_app (goodIn_of _ (by decide +kernel)) ggX7_turnArrows_X7_reaches
set_option maxRecDepth 20000 in
theorem ggX7_turnArrows_X7_keepArrow : GoodIn wsX7_turnArrows wsX7_keepArrow := goodIn_r _ [26, 1, 18, 19, 20, 12, 21, 22, 14, 15, 16, 17, 27, 28, 29, 30, 31, 32] (by decide +kernel) (by decide +kernel)
set_option maxRecDepth 20000 in
theorem gX7_turnArrows_X7_keepArrow : GoodIn wsX7_turnArrows (wsV RX7 54 RX7 yX7_keepArrow wsX7_keepArrow) := goodIn_app (goodIn_of _ (by decide +kernel)) ggX7_turnArrows_X7_keepArrow
theorem dX7_turnArrows_0 : decode cX7_turnArrows 0 = .ok (.aload_n 0, 1) := by decide +kernel
theorem dX7_turnArrows_1 : decode cX7_turnArrows 1 = .ok (.getfield 28, 3) := by decide +kernel
theorem dX7_turnArrows_4 : decode cX7_turnArrows 4 = .ok (.iconst 0, 1) := by decide +kernel
theorem dX7_turnArrows_5 : decode cX7_turnArrows 5 = .ok (.invokestatic 31, 3) := by decide +kernel
theorem dX7_turnArrows_8 : decode cX7_turnArrows 8 = .ok (.iconst 0, 1) := by decide +kernel
theorem dX7_turnArrows_9 : decode cX7_turnArrows 9 = .ok (.istore_n 1, 1) := by decide +kernel
theorem dX7_turnArrows_10 : decode cX7_turnArrows 10 = .ok (.iload_n 1, 1) := by decide +kernel
theorem dX7_turnArrows_11 : decode cX7_turnArrows 11 = .ok (.bipush 24, 2) := by decide +kernel
theorem dX7_turnArrows_13 : decode cX7_turnArrows 13 = .ok (.if_icmp .ge 80, 3) := by decide +kernel
theorem dX7_turnArrows_16 : decode cX7_turnArrows 16 = .ok (.aload_n 0, 1) := by decide +kernel
theorem dX7_turnArrows_17 : decode cX7_turnArrows 17 = .ok (.getfield 24, 3) := by decide +kernel
theorem dX7_turnArrows_20 : decode cX7_turnArrows 20 = .ok (.iload_n 1, 1) := by decide +kernel
theorem dX7_turnArrows_21 : decode cX7_turnArrows 21 = .ok (.aload_n 0, 1) := by decide +kernel
theorem dX7_turnArrows_22 : decode cX7_turnArrows 22 = .ok (.iload_n 1, 1) := by decide +kernel
theorem dX7_turnArrows_23 : decode cX7_turnArrows 23 = .ok (.invokevirtual 44, 3) := by decide +kernel
theorem dX7_turnArrows_26 : decode cX7_turnArrows 26 = .ok (.ifCond .eq 26, 3) := by decide +kernel
theorem dX7_turnArrows_29 : decode cX7_turnArrows 29 = .ok (.aload_n 0, 1) := by decide +kernel
theorem dX7_turnArrows_30 : decode cX7_turnArrows 30 = .ok (.aload_n 0, 1) := by decide +kernel
theorem dX7_turnArrows_31 : decode cX7_turnArrows 31 = .ok (.getfield 21, 3) := by decide +kernel
theorem dX7_turnArrows_34 : decode cX7_turnArrows 34 = .ok (.iload_n 1, 1) := by decide +kernel
theorem dX7_turnArrows_35 : decode cX7_turnArrows 35 = .ok (.iaload, 1) := by decide +kernel
theorem dX7_turnArrows_36 : decode cX7_turnArrows 36 = .ok (.aload_n 0, 1) := by decide +kernel
theorem dX7_turnArrows_37 : decode cX7_turnArrows 37 = .ok (.getfield 18, 3) := by decide +kernel
theorem dX7_turnArrows_40 : decode cX7_turnArrows 40 = .ok (.iload_n 1, 1) := by decide +kernel
theorem dX7_turnArrows_41 : decode cX7_turnArrows 41 = .ok (.iaload, 1) := by decide +kernel
theorem dX7_turnArrows_42 : decode cX7_turnArrows 42 = .ok (.invokevirtual 50, 3) := by decide +kernel
theorem dX7_turnArrows_45 : decode cX7_turnArrows 45 = .ok (.ifCond .eq 7, 3) := by decide +kernel
theorem dX7_turnArrows_48 : decode cX7_turnArrows 48 = .ok (.iconst 1, 1) := by decide +kernel
theorem dX7_turnArrows_49 : decode cX7_turnArrows 49 = .ok (.goto 4, 3) := by decide +kernel
theorem dX7_turnArrows_52 : decode cX7_turnArrows 52 = .ok (.iconst 0, 1) := by decide +kernel
theorem dX7_turnArrows_53 : decode cX7_turnArrows 53 = .ok (.bastore, 1) := by decide +kernel
theorem dX7_turnArrows_54 : decode cX7_turnArrows 54 = .ok (.aload_n 0, 1) := by decide +kernel
theorem dX7_turnArrows_55 : decode cX7_turnArrows 55 = .ok (.iload_n 1, 1) := by decide +kernel
theorem dX7_turnArrows_56 : decode cX7_turnArrows 56 = .ok (.invokevirtual 44, 3) := by decide +kernel
theorem dX7_turnArrows_59 : decode cX7_turnArrows 59 = .ok (.ifCond .eq 28, 3) := by decide +kernel
theorem dX7_turnArrows_62 : decode cX7_turnArrows 62 = .ok (.aload_n 0, 1) := by decide +kernel
theorem dX7_turnArrows_63 : decode cX7_turnArrows 63 = .ok (.getfield 24, 3) := by decide +kernel
theorem dX7_turnArrows_66 : decode cX7_turnArrows 66 = .ok (.iload_n 1, 1) := by decide +kernel
theorem dX7_turnArrows_67 : decode cX7_turnArrows 67 = .ok (.baload, 1) := by decide +kernel
theorem dX7_turnArrows_68 : decode cX7_turnArrows 68 = .ok (.ifCond .ne 19, 3) := by decide +kernel
theorem dX7_turnArrows_71 : decode cX7_turnArrows 71 = .ok (.aload_n 0, 1) := by decide +kernel
theorem dX7_turnArrows_72 : decode cX7_turnArrows 72 = .ok (.aload_n 0, 1) := by decide +kernel
theorem dX7_turnArrows_73 : decode cX7_turnArrows 73 = .ok (.getfield 18, 3) := by decide +kernel
theorem dX7_turnArrows_76 : decode cX7_turnArrows 76 = .ok (.iload_n 1, 1) := by decide +kernel
theorem dX7_turnArrows_77 : decode cX7_turnArrows 77 = .ok (.iaload, 1) := by decide +kernel
theorem dX7_turnArrows_78 : decode cX7_turnArrows 78 = .ok (.aload_n 0, 1) := by decide +kernel
theorem dX7_turnArrows_79 : decode cX7_turnArrows 79 = .ok (.getfield 21, 3) := by decide +kernel
theorem dX7_turnArrows_82 : decode cX7_turnArrows 82 = .ok (.iload_n 1, 1) := by decide +kernel
theorem dX7_turnArrows_83 : decode cX7_turnArrows 83 = .ok (.iaload, 1) := by decide +kernel
theorem dX7_turnArrows_84 : decode cX7_turnArrows 84 = .ok (.invokevirtual 54, 3) := by decide +kernel
theorem dX7_turnArrows_87 : decode cX7_turnArrows 87 = .ok (.iinc 1 1, 3) := by decide +kernel
theorem dX7_turnArrows_90 : decode cX7_turnArrows 90 = .ok (.goto (-80), 3) := by decide +kernel
theorem dX7_turnArrows_93 : decode cX7_turnArrows 93 = .ok (.return_, 1) := by decide +kernel
set_option maxRecDepth 20000 in
theorem ggX7_reaches_X7_hasBox : GoodIn wsX7_reaches wsX7_hasBox := goodIn_r _ [6, 7, 8, 9, 10, 11, 12, 13] (by decide +kernel) (by decide +kernel)
set_option maxRecDepth 20000 in
theorem gX7_reaches_X7_hasBox : GoodIn wsX7_reaches (wsV RX7 37 RX7 yX7_hasBox wsX7_hasBox) := goodIn_app (goodIn_of _ (by decide +kernel)) ggX7_reaches_X7_hasBox
theorem dX7_reaches_0 : decode cX7_reaches 0 = .ok (.aload_n 0, 1) := by decide +kernel
theorem dX7_reaches_1 : decode cX7_reaches 1 = .ok (.iload_n 1, 1) := by decide +kernel
theorem dX7_reaches_2 : decode cX7_reaches 2 = .ok (.invokevirtual 37, 3) := by decide +kernel
theorem dX7_reaches_5 : decode cX7_reaches 5 = .ok (.ifCond .eq 20, 3) := by decide +kernel
theorem dX7_reaches_8 : decode cX7_reaches 8 = .ok (.aload_n 0, 1) := by decide +kernel
theorem dX7_reaches_9 : decode cX7_reaches 9 = .ok (.getfield 28, 3) := by decide +kernel
theorem dX7_reaches_12 : decode cX7_reaches 12 = .ok (.iload_n 1, 1) := by decide +kernel
theorem dX7_reaches_13 : decode cX7_reaches 13 = .ok (.iaload, 1) := by decide +kernel
theorem dX7_reaches_14 : decode cX7_reaches 14 = .ok (.iload_n 2, 1) := by decide +kernel
theorem dX7_reaches_15 : decode cX7_reaches 15 = .ok (.ishr, 1) := by decide +kernel
theorem dX7_reaches_16 : decode cX7_reaches 16 = .ok (.iconst 1, 1) := by decide +kernel
theorem dX7_reaches_17 : decode cX7_reaches 17 = .ok (.iand, 1) := by decide +kernel
theorem dX7_reaches_18 : decode cX7_reaches 18 = .ok (.ifCond .eq 7, 3) := by decide +kernel
theorem dX7_reaches_21 : decode cX7_reaches 21 = .ok (.iconst 1, 1) := by decide +kernel
theorem dX7_reaches_22 : decode cX7_reaches 22 = .ok (.goto 4, 3) := by decide +kernel
theorem dX7_reaches_25 : decode cX7_reaches 25 = .ok (.iconst 0, 1) := by decide +kernel
theorem dX7_reaches_26 : decode cX7_reaches 26 = .ok (.ireturn, 1) := by decide +kernel
set_option maxRecDepth 20000 in
theorem ggX7_keepArrow_X7_hasBox : GoodIn wsX7_keepArrow wsX7_hasBox := goodIn_r _ [6, 7, 12, 13, 14, 15, 16, 17] (by decide +kernel) (by decide +kernel)
set_option maxRecDepth 20000 in
theorem gX7_keepArrow_X7_hasBox : GoodIn wsX7_keepArrow (wsV RX7 37 RX7 yX7_hasBox wsX7_hasBox) := goodIn_app (goodIn_of _ (by decide +kernel)) ggX7_keepArrow_X7_hasBox
set_option maxRecDepth 20000 in
theorem ggX7_keepArrow_X7_reaches : GoodIn wsX7_keepArrow wsX7_reaches := goodIn_r _ [11, 1, 2, 3, 4, 5, 6, 7, 12, 13, 14, 15, 16, 17] (by decide +kernel) (by decide +kernel)
set_option maxRecDepth 20000 in
theorem gX7_keepArrow_X7_reaches : GoodIn wsX7_keepArrow (wsV RX7 50 RX7 yX7_reaches wsX7_reaches) := goodIn_app (goodIn_of _ (by decide +kernel)) ggX7_keepArrow_X7_reaches
theorem dX7_keepArrow_0 : decode cX7_keepArrow 0 = .ok (.aload_n 0, 1) := by decide +kernel
theorem dX7_keepArrow_1 : decode cX7_keepArrow 1 = .ok (.iload_n 2, 1) := by decide +kernel
theorem dX7_keepArrow_2 : decode cX7_keepArrow 2 = .ok (.invokevirtual 37, 3) := by decide +kernel
theorem dX7_keepArrow_5 : decode cX7_keepArrow 5 = .ok (.ifCond .ne 4, 3) := by decide +kernel
theorem dX7_keepArrow_8 : decode cX7_keepArrow 8 = .ok (.return_, 1) := by decide +kernel
theorem dX7_keepArrow_9 : decode cX7_keepArrow 9 = .ok (.aload_n 0, 1) := by decide +kernel
theorem dX7_keepArrow_10 : decode cX7_keepArrow 10 = .ok (.getfield 28, 3) := by decide +kernel
theorem dX7_keepArrow_13 : decode cX7_keepArrow 13 = .ok (.iload_n 2, 1) := by decide +kernel
theorem dX7_keepArrow_14 : decode cX7_keepArrow 14 = .ok (.iaload, 1) := by decide +kernel
theorem dX7_keepArrow_15 : decode cX7_keepArrow 15 = .ok (.iconst 1, 1) := by decide +kernel
theorem dX7_keepArrow_16 : decode cX7_keepArrow 16 = .ok (.iload_n 2, 1) := by decide +kernel
theorem dX7_keepArrow_17 : decode cX7_keepArrow 17 = .ok (.ishl, 1) := by decide +kernel
theorem dX7_keepArrow_18 : decode cX7_keepArrow 18 = .ok (.ior, 1) := by decide +kernel
theorem dX7_keepArrow_19 : decode cX7_keepArrow 19 = .ok (.istore_n 3, 1) := by decide +kernel
theorem dX7_keepArrow_20 : decode cX7_keepArrow 20 = .ok (.iconst 0, 1) := by decide +kernel
theorem dX7_keepArrow_21 : decode cX7_keepArrow 21 = .ok (.istore 4, 2) := by decide +kernel
theorem dX7_keepArrow_23 : decode cX7_keepArrow 23 = .ok (.iload 4, 2) := by decide +kernel
theorem dX7_keepArrow_25 : decode cX7_keepArrow 25 = .ok (.bipush 16, 2) := by decide +kernel
theorem dX7_keepArrow_27 : decode cX7_keepArrow 27 = .ok (.if_icmp .ge 36, 3) := by decide +kernel
theorem dX7_keepArrow_30 : decode cX7_keepArrow 30 = .ok (.iload 4, 2) := by decide +kernel
theorem dX7_keepArrow_32 : decode cX7_keepArrow 32 = .ok (.iload_n 1, 1) := by decide +kernel
theorem dX7_keepArrow_33 : decode cX7_keepArrow 33 = .ok (.if_icmp .eq 13, 3) := by decide +kernel
theorem dX7_keepArrow_36 : decode cX7_keepArrow 36 = .ok (.aload_n 0, 1) := by decide +kernel
theorem dX7_keepArrow_37 : decode cX7_keepArrow 37 = .ok (.iload 4, 2) := by decide +kernel
theorem dX7_keepArrow_39 : decode cX7_keepArrow 39 = .ok (.iload_n 1, 1) := by decide +kernel
theorem dX7_keepArrow_40 : decode cX7_keepArrow 40 = .ok (.invokevirtual 50, 3) := by decide +kernel
theorem dX7_keepArrow_43 : decode cX7_keepArrow 43 = .ok (.ifCond .eq 14, 3) := by decide +kernel
theorem dX7_keepArrow_46 : decode cX7_keepArrow 46 = .ok (.aload_n 0, 1) := by decide +kernel
theorem dX7_keepArrow_47 : decode cX7_keepArrow 47 = .ok (.getfield 28, 3) := by decide +kernel
theorem dX7_keepArrow_50 : decode cX7_keepArrow 50 = .ok (.iload 4, 2) := by decide +kernel
theorem dX7_keepArrow_52 : decode cX7_keepArrow 52 = .ok (.dup2, 1) := by decide +kernel
theorem dX7_keepArrow_53 : decode cX7_keepArrow 53 = .ok (.iaload, 1) := by decide +kernel
theorem dX7_keepArrow_54 : decode cX7_keepArrow 54 = .ok (.iload_n 3, 1) := by decide +kernel
theorem dX7_keepArrow_55 : decode cX7_keepArrow 55 = .ok (.ior, 1) := by decide +kernel
theorem dX7_keepArrow_56 : decode cX7_keepArrow 56 = .ok (.iastore, 1) := by decide +kernel
theorem dX7_keepArrow_57 : decode cX7_keepArrow 57 = .ok (.iinc 4 1, 3) := by decide +kernel
theorem dX7_keepArrow_60 : decode cX7_keepArrow 60 = .ok (.goto (-37), 3) := by decide +kernel
theorem dX7_keepArrow_63 : decode cX7_keepArrow 63 = .ok (.return_, 1) := by decide +kernel
theorem dX8_init_0 : decode cX8_init 0 = .ok (.aload_n 0, 1) := by decide +kernel
theorem dX8_init_1 : decode cX8_init 1 = .ok (.invokespecial 3, 3) := by decide +kernel
theorem dX8_init_4 : decode cX8_init 4 = .ok (.aload_n 0, 1) := by decide +kernel
theorem dX8_init_5 : decode cX8_init 5 = .ok (.sipush 576, 3) := by decide +kernel
theorem dX8_init_8 : decode cX8_init 8 = .ok (.newarray .int, 2) := by decide +kernel
theorem dX8_init_10 : decode cX8_init 10 = .ok (.putfield 9, 3) := by decide +kernel
theorem dX8_init_13 : decode cX8_init 13 = .ok (.aload_n 0, 1) := by decide +kernel
theorem dX8_init_14 : decode cX8_init 14 = .ok (.bipush 24, 2) := by decide +kernel
theorem dX8_init_16 : decode cX8_init 16 = .ok (.newarray .int, 2) := by decide +kernel
theorem dX8_init_18 : decode cX8_init 18 = .ok (.putfield 15, 3) := by decide +kernel
theorem dX8_init_21 : decode cX8_init 21 = .ok (.aload_n 0, 1) := by decide +kernel
theorem dX8_init_22 : decode cX8_init 22 = .ok (.bipush 24, 2) := by decide +kernel
theorem dX8_init_24 : decode cX8_init 24 = .ok (.newarray .int, 2) := by decide +kernel
theorem dX8_init_26 : decode cX8_init 26 = .ok (.putfield 18, 3) := by decide +kernel
theorem dX8_init_29 : decode cX8_init 29 = .ok (.aload_n 0, 1) := by decide +kernel
theorem dX8_init_30 : decode cX8_init 30 = .ok (.bipush 24, 2) := by decide +kernel
theorem dX8_init_32 : decode cX8_init 32 = .ok (.newarray .int, 2) := by decide +kernel
theorem dX8_init_34 : decode cX8_init 34 = .ok (.putfield 21, 3) := by decide +kernel
theorem dX8_init_37 : decode cX8_init 37 = .ok (.aload_n 0, 1) := by decide +kernel
theorem dX8_init_38 : decode cX8_init 38 = .ok (.bipush 24, 2) := by decide +kernel
theorem dX8_init_40 : decode cX8_init 40 = .ok (.newarray .int, 2) := by decide +kernel
theorem dX8_init_42 : decode cX8_init 42 = .ok (.putfield 24, 3) := by decide +kernel
theorem dX8_init_45 : decode cX8_init 45 = .ok (.aload_n 0, 1) := by decide +kernel
theorem dX8_init_46 : decode cX8_init 46 = .ok (.bipush 24, 2) := by decide +kernel
theorem dX8_init_48 : decode cX8_init 48 = .ok (.newarray .int, 2) := by decide +kernel
theorem dX8_init_50 : decode cX8_init 50 = .ok (.putfield 27, 3) := by decide +kernel
theorem dX8_init_53 : decode cX8_init 53 = .ok (.aload_n 0, 1) := by decide +kernel
theorem dX8_init_54 : decode cX8_init 54 = .ok (.aload_n 1, 1) := by decide +kernel
theorem dX8_init_55 : decode cX8_init 55 = .ok (.putfield 30, 3) := by decide +kernel
theorem dX8_init_58 : decode cX8_init 58 = .ok (.aload_n 0, 1) := by decide +kernel
theorem dX8_init_59 : decode cX8_init 59 = .ok (.aload_n 2, 1) := by decide +kernel
theorem dX8_init_60 : decode cX8_init 60 = .ok (.putfield 34, 3) := by decide +kernel
theorem dX8_init_63 : decode cX8_init 63 = .ok (.return_, 1) := by decide +kernel
set_option maxRecDepth 20000 in
theorem ggX8_share_J7_fill_53178 : GoodIn wsX8_share wsJ7_fill_53178 := goodIn_r _ [6] (by decide +kernel) (by decide +kernel)
set_option maxRecDepth 20000 in
theorem gX8_share_J7_fill_53178 : GoodIn wsX8_share (va_wsS RX8 38 yJ7_fill_53178 wsJ7_fill_53178) := goodIn_app (goodIn_of _ (by decide +kernel)) ggX8_share_J7_fill_53178
set_option maxRecDepth 20000 in
theorem ggX8_share_X4_layers : GoodIn wsX8_share wsX4_layers := goodIn_r _ [11, 12, 88, 89, 90, 91, 92] (by decide +kernel) (by decide +kernel)
set_option maxRecDepth 20000 in
theorem gX8_share_X4_layers : GoodIn wsX8_share (wsV RX8 44 RX4 yX4_layers wsX4_layers) := goodIn_app (goodIn_of _ (by decide +kernel)) ggX8_share_X4_layers
set_option maxRecDepth 20000 in
theorem ggX8_share_X8_gatherParts : GoodIn wsX8_share wsX8_gatherParts := goodIn_r _ [17, 18, 19, 20, 21, 22, 23, 24, 25, 26, 27, 28, 29, 30, 31, 32, 33, 34, 35, 36, 37, 38, 39, 40, 41, 42, 43, 44, 45, 46, 47, 48, 49, 50, 51, 52, 53, 54, 55, 56, 57, 58, 59, 60, 61, 62, 63, 64, 65, 66, 67, 68, 16, 69, 70, 71, 72, 73, 74, 80, 81, 82, 83, 84, 85, 86, 87, 93, 94, 95, 96, 97, 98, 99, 100, 101, 102, 103, 104, 105, 106, 107] (by decide +kernel) (by decide +kernel)
set_option maxRecDepth 20000 in
theorem gX8_share_X8_gatherParts : GoodIn wsX8_share (wsV RX8 50 RX8 yX8_gatherParts wsX8_gatherParts) := goodIn_app (goodIn_of _ (by decide +kernel)) ggX8_share_X8_gatherParts
set_option maxRecDepth 20000 in
theorem ggX8_share_X8_shareGap : GoodIn wsX8_share wsX8_shareGap := goodIn_r _ [78, 2, 79, 24, 26, 27, 21, 28, 25, 29, 1, 80, 81, 82, 83, 84, 85, 86, 87] (by decide +kernel) (by decide +kernel)
set_option maxRecDepth 20000 in
theorem gX8_share_X8_shareGap : GoodIn wsX8_share (wsV RX8 54 RX8 yX8_shareGap wsX8_shareGap) := goodIn_app (goodIn_of _ (by decide +kernel)) ggX8_share_X8_shareGap
theorem dX8_share_0 : decode cX8_share 0 = .ok (.aload_n 0, 1) := by decide +kernel
theorem dX8_share_1 : decode cX8_share 1 = .ok (.getfield 9, 3) := by decide +kernel
theorem dX8_share_4 : decode cX8_share 4 = .ok (.iconst (-1), 1) := by decide +kernel
theorem dX8_share_5 : decode cX8_share 5 = .ok (.invokestatic 38, 3) := by decide +kernel
theorem dX8_share_8 : decode cX8_share 8 = .ok (.aload_n 0, 1) := by decide +kernel
theorem dX8_share_9 : decode cX8_share 9 = .ok (.getfield 15, 3) := by decide +kernel
theorem dX8_share_12 : decode cX8_share 12 = .ok (.iconst 0, 1) := by decide +kernel
theorem dX8_share_13 : decode cX8_share 13 = .ok (.invokestatic 38, 3) := by decide +kernel
theorem dX8_share_16 : decode cX8_share 16 = .ok (.iconst 0, 1) := by decide +kernel
theorem dX8_share_17 : decode cX8_share 17 = .ok (.istore_n 2, 1) := by decide +kernel
theorem dX8_share_18 : decode cX8_share 18 = .ok (.iload_n 2, 1) := by decide +kernel
theorem dX8_share_19 : decode cX8_share 19 = .ok (.aload_n 1, 1) := by decide +kernel
theorem dX8_share_20 : decode cX8_share 20 = .ok (.invokevirtual 44, 3) := by decide +kernel
theorem dX8_share_23 : decode cX8_share 23 = .ok (.iconst 1, 1) := by decide +kernel
theorem dX8_share_24 : decode cX8_share 24 = .ok (.isub, 1) := by decide +kernel
theorem dX8_share_25 : decode cX8_share 25 = .ok (.if_icmp .ge 19, 3) := by decide +kernel
theorem dX8_share_28 : decode cX8_share 28 = .ok (.aload_n 0, 1) := by decide +kernel
theorem dX8_share_29 : decode cX8_share 29 = .ok (.iload_n 2, 1) := by decide +kernel
theorem dX8_share_30 : decode cX8_share 30 = .ok (.aload_n 0, 1) := by decide +kernel
theorem dX8_share_31 : decode cX8_share 31 = .ok (.iload_n 2, 1) := by decide +kernel
theorem dX8_share_32 : decode cX8_share 32 = .ok (.invokevirtual 50, 3) := by decide +kernel
theorem dX8_share_35 : decode cX8_share 35 = .ok (.invokevirtual 54, 3) := by decide +kernel
theorem dX8_share_38 : decode cX8_share 38 = .ok (.iinc 2 1, 3) := by decide +kernel
theorem dX8_share_41 : decode cX8_share 41 = .ok (.goto (-23), 3) := by decide +kernel
theorem dX8_share_44 : decode cX8_share 44 = .ok (.return_, 1) := by decide +kernel
theorem dX8_trackOf_0 : decode cX8_trackOf 0 = .ok (.iload_n 1, 1) := by decide +kernel
theorem dX8_trackOf_1 : decode cX8_trackOf 1 = .ok (.ifCond .lt 23, 3) := by decide +kernel
theorem dX8_trackOf_4 : decode cX8_trackOf 4 = .ok (.iload_n 1, 1) := by decide +kernel
theorem dX8_trackOf_5 : decode cX8_trackOf 5 = .ok (.bipush 24, 2) := by decide +kernel
theorem dX8_trackOf_7 : decode cX8_trackOf 7 = .ok (.if_icmp .ge 17, 3) := by decide +kernel
theorem dX8_trackOf_10 : decode cX8_trackOf 10 = .ok (.iload_n 2, 1) := by decide +kernel
theorem dX8_trackOf_11 : decode cX8_trackOf 11 = .ok (.ifCond .lt 13, 3) := by decide +kernel
theorem dX8_trackOf_14 : decode cX8_trackOf 14 = .ok (.iload_n 2, 1) := by decide +kernel
theorem dX8_trackOf_15 : decode cX8_trackOf 15 = .ok (.bipush 24, 2) := by decide +kernel
theorem dX8_trackOf_17 : decode cX8_trackOf 17 = .ok (.if_icmp .ge 7, 3) := by decide +kernel
theorem dX8_trackOf_20 : decode cX8_trackOf 20 = .ok (.iconst 1, 1) := by decide +kernel
theorem dX8_trackOf_21 : decode cX8_trackOf 21 = .ok (.goto 4, 3) := by decide +kernel
theorem dX8_trackOf_24 : decode cX8_trackOf 24 = .ok (.iconst 0, 1) := by decide +kernel
theorem dX8_trackOf_25 : decode cX8_trackOf 25 = .ok (.istore_n 3, 1) := by decide +kernel
theorem dX8_trackOf_26 : decode cX8_trackOf 26 = .ok (.iload_n 3, 1) := by decide +kernel
theorem dX8_trackOf_27 : decode cX8_trackOf 27 = .ok (.ifCond .eq 17, 3) := by decide +kernel
theorem dX8_trackOf_30 : decode cX8_trackOf 30 = .ok (.aload_n 0, 1) := by decide +kernel
theorem dX8_trackOf_31 : decode cX8_trackOf 31 = .ok (.getfield 9, 3) := by decide +kernel
theorem dX8_trackOf_34 : decode cX8_trackOf 34 = .ok (.iload_n 2, 1) := by decide +kernel
theorem dX8_trackOf_35 : decode cX8_trackOf 35 = .ok (.bipush 24, 2) := by decide +kernel
theorem dX8_trackOf_37 : decode cX8_trackOf 37 = .ok (.imul, 1) := by decide +kernel
theorem dX8_trackOf_38 : decode cX8_trackOf 38 = .ok (.iload_n 1, 1) := by decide +kernel
theorem dX8_trackOf_39 : decode cX8_trackOf 39 = .ok (.iadd, 1) := by decide +kernel
theorem dX8_trackOf_40 : decode cX8_trackOf 40 = .ok (.iaload, 1) := by decide +kernel
theorem dX8_trackOf_41 : decode cX8_trackOf 41 = .ok (.goto 4, 3) := by decide +kernel
theorem dX8_trackOf_44 : decode cX8_trackOf 44 = .ok (.iconst (-1), 1) := by decide +kernel
theorem dX8_trackOf_45 : decode cX8_trackOf 45 = .ok (.ireturn, 1) := by decide +kernel
theorem dX8_tracksIn_0 : decode cX8_tracksIn 0 = .ok (.iload_n 1, 1) := by decide +kernel
theorem dX8_tracksIn_1 : decode cX8_tracksIn 1 = .ok (.ifCond .lt 18, 3) := by decide +kernel
theorem dX8_tracksIn_4 : decode cX8_tracksIn 4 = .ok (.iload_n 1, 1) := by decide +kernel
theorem dX8_tracksIn_5 : decode cX8_tracksIn 5 = .ok (.bipush 24, 2) := by decide +kernel
theorem dX8_tracksIn_7 : decode cX8_tracksIn 7 = .ok (.if_icmp .ge 12, 3) := by decide +kernel
theorem dX8_tracksIn_10 : decode cX8_tracksIn 10 = .ok (.aload_n 0, 1) := by decide +kernel
theorem dX8_tracksIn_11 : decode cX8_tracksIn 11 = .ok (.getfield 15, 3) := by decide +kernel
theorem dX8_tracksIn_14 : decode cX8_tracksIn 14 = .ok (.iload_n 1, 1) := by decide +kernel
theorem dX8_tracksIn_15 : decode cX8_tracksIn 15 = .ok (.iaload, 1) := by decide +kernel
theorem dX8_tracksIn_16 : decode cX8_tracksIn 16 = .ok (.goto 4, 3) := by decide +kernel
theorem dX8_tracksIn_19 : decode cX8_tracksIn 19 = .ok (.iconst 0, 1) := by decide +kernel
theorem dX8_tracksIn_20 : decode cX8_tracksIn 20 = .ok (.ireturn, 1) := by decide +kernel
theorem dX8_mostTracks_0 : decode cX8_mostTracks 0 = .ok (.iconst 0, 1) := by decide +kernel
theorem dX8_mostTracks_1 : decode cX8_mostTracks 1 = .ok (.istore_n 1, 1) := by decide +kernel
theorem dX8_mostTracks_2 : decode cX8_mostTracks 2 = .ok (.iconst 0, 1) := by decide +kernel
theorem dX8_mostTracks_3 : decode cX8_mostTracks 3 = .ok (.istore_n 2, 1) := by decide +kernel
theorem dX8_mostTracks_4 : decode cX8_mostTracks 4 = .ok (.iload_n 2, 1) := by decide +kernel
theorem dX8_mostTracks_5 : decode cX8_mostTracks 5 = .ok (.bipush 24, 2) := by decide +kernel
theorem dX8_mostTracks_7 : decode cX8_mostTracks 7 = .ok (.if_icmp .ge 20, 3) := by decide +kernel
theorem dX8_mostTracks_10 : decode cX8_mostTracks 10 = .ok (.iload_n 1, 1) := by decide +kernel
theorem dX8_mostTracks_11 : decode cX8_mostTracks 11 = .ok (.aload_n 0, 1) := by decide +kernel
theorem dX8_mostTracks_12 : decode cX8_mostTracks 12 = .ok (.getfield 15, 3) := by decide +kernel
theorem dX8_mostTracks_15 : decode cX8_mostTracks 15 = .ok (.iload_n 2, 1) := by decide +kernel
theorem dX8_mostTracks_16 : decode cX8_mostTracks 16 = .ok (.iaload, 1) := by decide +kernel
theorem dX8_mostTracks_17 : decode cX8_mostTracks 17 = .ok (.invokestatic 58, 3) := by decide +kernel
theorem dX8_mostTracks_20 : decode cX8_mostTracks 20 = .ok (.istore_n 1, 1) := by decide +kernel
theorem dX8_mostTracks_21 : decode cX8_mostTracks 21 = .ok (.iinc 2 1, 3) := by decide +kernel
theorem dX8_mostTracks_24 : decode cX8_mostTracks 24 = .ok (.goto (-20), 3) := by decide +kernel
theorem dX8_mostTracks_27 : decode cX8_mostTracks 27 = .ok (.iload_n 1, 1) := by decide +kernel
theorem dX8_mostTracks_28 : decode cX8_mostTracks 28 = .ok (.ireturn, 1) := by decide +kernel
set_option maxRecDepth 20000 in
theorem ggX8_gatherParts_X6_sizeOf : GoodIn wsX8_gatherParts wsX6_sizeOf := goodIn_r _ [17, 18, 67, 68, 69, 70] (by decide +kernel) (by decide +kernel)
set_option maxRecDepth 20000 in
theorem gX8_gatherParts_X6_sizeOf : GoodIn wsX8_gatherParts (wsV RX8 64 RX6 yX6_sizeOf wsX6_sizeOf) := goodIn_app (goodIn_of _ (by decide +kernel)) ggX8_gatherParts_X6_sizeOf
set_option maxRecDepth 20000 in
theorem ggX8_gatherParts_X6_endOf : GoodIn wsX8_gatherParts wsX6_endOf := goodIn_r _ [22, 18, 23, 24, 67, 68, 69, 70] (by decide +kernel) (by decide +kernel)
set_option maxRecDepth 20000 in
theorem gX8_gatherParts_X6_endOf : GoodIn wsX8_gatherParts (wsV RX8 72 RX6 yX6_endOf wsX6_endOf) := goodIn_app (goodIn_of _ (by decide +kernel)) ggX8_gatherParts_X6_endOf
set_option maxRecDepth 20000 in
theorem ggX8_gatherParts_X1_middleOf : GoodIn wsX8_gatherParts wsX1_middleOf := goodIn_r _ [29, 30, 31, 32, 33, 28, 34, 35, 36, 37, 38, 39, 40, 41, 42, 43, 44, 45, 46, 47, 48, 71, 72, 73, 74, 75, 76, 77, 78, 79, 80, 81] (by decide +kernel) (by decide +kernel)
set_option maxRecDepth 20000 in
theorem gX8_gatherParts_X1_middleOf : GoodIn wsX8_gatherParts (wsV RX8 76 RX1 yX1_middleOf wsX1_middleOf) := goodIn_app (goodIn_of _ (by decide +kernel)) ggX8_gatherParts_X1_middleOf
set_option maxRecDepth 20000 in
theorem ggX8_gatherParts_X8_openSpot : GoodIn wsX8_gatherParts wsX8_openSpot := goodIn_r _ [53, 7, 8, 12, 59, 60, 61, 62, 63, 64, 65, 66] (by decide +kernel) (by decide +kernel)
set_option maxRecDepth 20000 in
theorem gX8_gatherParts_X8_openSpot : GoodIn wsX8_gatherParts (wsV RX8 81 RX8 yX8_openSpot wsX8_openSpot) := goodIn_app (goodIn_of _ (by decide +kernel)) ggX8_gatherParts_X8_openSpot
set_option maxRecDepth 20000 in
theorem ggX8_gatherParts_X6_arrowOf : GoodIn wsX8_gatherParts wsX6_arrowOf := goodIn_r _ [57, 18, 58, 67, 68, 69, 70] (by decide +kernel) (by decide +kernel)
set_option maxRecDepth 20000 in
theorem gX8_gatherParts_X6_arrowOf : GoodIn wsX8_gatherParts (wsV RX8 84 RX6 yX6_arrowOf wsX6_arrowOf) := goodIn_app (goodIn_of _ (by decide +kernel)) ggX8_gatherParts_X6_arrowOf
theorem dX8_gatherParts_0 : decode cX8_gatherParts 0 = .ok (.iconst 0, 1) := by decide +kernel
theorem dX8_gatherParts_1 : decode cX8_gatherParts 1 = .ok (.istore_n 2, 1) := by decide +kernel
theorem dX8_gatherParts_2 : decode cX8_gatherParts 2 = .ok (.aload_n 0, 1) := by decide +kernel
theorem dX8_gatherParts_3 : decode cX8_gatherParts 3 = .ok (.getfield 30, 3) := by decide +kernel
theorem dX8_gatherParts_6 : decode cX8_gatherParts 6 = .ok (.iload_n 1, 1) := by decide +kernel
theorem dX8_gatherParts_7 : decode cX8_gatherParts 7 = .ok (.invokevirtual 64, 3) := by decide +kernel
theorem dX8_gatherParts_10 : decode cX8_gatherParts 10 = .ok (.bipush 24, 2) := by decide +kernel
theorem dX8_gatherParts_12 : decode cX8_gatherParts 12 = .ok (.invokestatic 69, 3) := by decide +kernel
theorem dX8_gatherParts_15 : decode cX8_gatherParts 15 = .ok (.istore_n 3, 1) := by decide +kernel
theorem dX8_gatherParts_16 : decode cX8_gatherParts 16 = .ok (.iconst 0, 1) := by decide +kernel
theorem dX8_gatherParts_17 : decode cX8_gatherParts 17 = .ok (.istore 4, 2) := by decide +kernel
theorem dX8_gatherParts_19 : decode cX8_gatherParts 19 = .ok (.iload 4, 2) := by decide +kernel
theorem dX8_gatherParts_21 : decode cX8_gatherParts 21 = .ok (.iload_n 3, 1) := by decide +kernel
theorem dX8_gatherParts_22 : decode cX8_gatherParts 22 = .ok (.if_icmp .ge 122, 3) := by decide +kernel
theorem dX8_gatherParts_25 : decode cX8_gatherParts 25 = .ok (.aload_n 0, 1) := by decide +kernel
theorem dX8_gatherParts_26 : decode cX8_gatherParts 26 = .ok (.getfield 34, 3) := by decide +kernel
theorem dX8_gatherParts_29 : decode cX8_gatherParts 29 = .ok (.iload_n 1, 1) := by decide +kernel
theorem dX8_gatherParts_30 : decode cX8_gatherParts 30 = .ok (.aload_n 0, 1) := by decide +kernel
theorem dX8_gatherParts_31 : decode cX8_gatherParts 31 = .ok (.getfield 30, 3) := by decide +kernel
theorem dX8_gatherParts_34 : decode cX8_gatherParts 34 = .ok (.iload_n 1, 1) := by decide +kernel
theorem dX8_gatherParts_35 : decode cX8_gatherParts 35 = .ok (.iload 4, 2) := by decide +kernel
theorem dX8_gatherParts_37 : decode cX8_gatherParts 37 = .ok (.iconst 1, 1) := by decide +kernel
theorem dX8_gatherParts_38 : decode cX8_gatherParts 38 = .ok (.invokevirtual 72, 3) := by decide +kernel
theorem dX8_gatherParts_41 : decode cX8_gatherParts 41 = .ok (.invokevirtual 76, 3) := by decide +kernel
theorem dX8_gatherParts_44 : decode cX8_gatherParts 44 = .ok (.istore 5, 2) := by decide +kernel
theorem dX8_gatherParts_46 : decode cX8_gatherParts 46 = .ok (.aload_n 0, 1) := by decide +kernel
theorem dX8_gatherParts_47 : decode cX8_gatherParts 47 = .ok (.getfield 34, 3) := by decide +kernel
theorem dX8_gatherParts_50 : decode cX8_gatherParts 50 = .ok (.iload_n 1, 1) := by decide +kernel
theorem dX8_gatherParts_51 : decode cX8_gatherParts 51 = .ok (.iconst 1, 1) := by decide +kernel
theorem dX8_gatherParts_52 : decode cX8_gatherParts 52 = .ok (.iadd, 1) := by decide +kernel
theorem dX8_gatherParts_53 : decode cX8_gatherParts 53 = .ok (.aload_n 0, 1) := by decide +kernel
theorem dX8_gatherParts_54 : decode cX8_gatherParts 54 = .ok (.getfield 30, 3) := by decide +kernel
theorem dX8_gatherParts_57 : decode cX8_gatherParts 57 = .ok (.iload_n 1, 1) := by decide +kernel
theorem dX8_gatherParts_58 : decode cX8_gatherParts 58 = .ok (.iload 4, 2) := by decide +kernel
theorem dX8_gatherParts_60 : decode cX8_gatherParts 60 = .ok (.iconst 0, 1) := by decide +kernel
theorem dX8_gatherParts_61 : decode cX8_gatherParts 61 = .ok (.invokevirtual 72, 3) := by decide +kernel
theorem dX8_gatherParts_64 : decode cX8_gatherParts 64 = .ok (.invokevirtual 76, 3) := by decide +kernel
theorem dX8_gatherParts_67 : decode cX8_gatherParts 67 = .ok (.istore 6, 2) := by decide +kernel
theorem dX8_gatherParts_69 : decode cX8_gatherParts 69 = .ok (.iload 5, 2) := by decide +kernel
theorem dX8_gatherParts_71 : decode cX8_gatherParts 71 = .ok (.iload 6, 2) := by decide +kernel
theorem dX8_gatherParts_73 : decode cX8_gatherParts 73 = .ok (.if_icmp .eq 65, 3) := by decide +kernel
theorem dX8_gatherParts_76 : decode cX8_gatherParts 76 = .ok (.aload_n 0, 1) := by decide +kernel
theorem dX8_gatherParts_77 : decode cX8_gatherParts 77 = .ok (.iload_n 2, 1) := by decide +kernel
theorem dX8_gatherParts_78 : decode cX8_gatherParts 78 = .ok (.iload 5, 2) := by decide +kernel
theorem dX8_gatherParts_80 : decode cX8_gatherParts 80 = .ok (.iload 6, 2) := by decide +kernel
theorem dX8_gatherParts_82 : decode cX8_gatherParts 82 = .ok (.invokestatic 69, 3) := by decide +kernel
theorem dX8_gatherParts_85 : decode cX8_gatherParts 85 = .ok (.invokevirtual 81, 3) := by decide +kernel
theorem dX8_gatherParts_88 : decode cX8_gatherParts 88 = .ok (.istore 7, 2) := by decide +kernel
theorem dX8_gatherParts_90 : decode cX8_gatherParts 90 = .ok (.aload_n 0, 1) := by decide +kernel
theorem dX8_gatherParts_91 : decode cX8_gatherParts 91 = .ok (.getfield 18, 3) := by decide +kernel
theorem dX8_gatherParts_94 : decode cX8_gatherParts 94 = .ok (.iload 7, 2) := by decide +kernel
theorem dX8_gatherParts_96 : decode cX8_gatherParts 96 = .ok (.iload 5, 2) := by decide +kernel
theorem dX8_gatherParts_98 : decode cX8_gatherParts 98 = .ok (.iload 6, 2) := by decide +kernel
theorem dX8_gatherParts_100 : decode cX8_gatherParts 100 = .ok (.invokestatic 69, 3) := by decide +kernel
theorem dX8_gatherParts_103 : decode cX8_gatherParts 103 = .ok (.iastore, 1) := by decide +kernel
theorem dX8_gatherParts_104 : decode cX8_gatherParts 104 = .ok (.aload_n 0, 1) := by decide +kernel
theorem dX8_gatherParts_105 : decode cX8_gatherParts 105 = .ok (.getfield 21, 3) := by decide +kernel
theorem dX8_gatherParts_108 : decode cX8_gatherParts 108 = .ok (.iload 7, 2) := by decide +kernel
theorem dX8_gatherParts_110 : decode cX8_gatherParts 110 = .ok (.iload 5, 2) := by decide +kernel
theorem dX8_gatherParts_112 : decode cX8_gatherParts 112 = .ok (.iload 6, 2) := by decide +kernel
theorem dX8_gatherParts_114 : decode cX8_gatherParts 114 = .ok (.invokestatic 58, 3) := by decide +kernel
theorem dX8_gatherParts_117 : decode cX8_gatherParts 117 = .ok (.iastore, 1) := by decide +kernel
theorem dX8_gatherParts_118 : decode cX8_gatherParts 118 = .ok (.aload_n 0, 1) := by decide +kernel
theorem dX8_gatherParts_119 : decode cX8_gatherParts 119 = .ok (.getfield 24, 3) := by decide +kernel
theorem dX8_gatherParts_122 : decode cX8_gatherParts 122 = .ok (.iload 7, 2) := by decide +kernel
theorem dX8_gatherParts_124 : decode cX8_gatherParts 124 = .ok (.aload_n 0, 1) := by decide +kernel
theorem dX8_gatherParts_125 : decode cX8_gatherParts 125 = .ok (.getfield 30, 3) := by decide +kernel
theorem dX8_gatherParts_128 : decode cX8_gatherParts 128 = .ok (.iload_n 1, 1) := by decide +kernel
theorem dX8_gatherParts_129 : decode cX8_gatherParts 129 = .ok (.iload 4, 2) := by decide +kernel
theorem dX8_gatherParts_131 : decode cX8_gatherParts 131 = .ok (.invokevirtual 84, 3) := by decide +kernel
theorem dX8_gatherParts_134 : decode cX8_gatherParts 134 = .ok (.iastore, 1) := by decide +kernel
theorem dX8_gatherParts_135 : decode cX8_gatherParts 135 = .ok (.iinc 2 1, 3) := by decide +kernel
theorem dX8_gatherParts_138 : decode cX8_gatherParts 138 = .ok (.iinc 4 1, 3) := by decide +kernel
theorem dX8_gatherParts_141 : decode cX8_gatherParts 141 = .ok (.goto (-122), 3) := by decide +kernel
theorem dX8_gatherParts_144 : decode cX8_gatherParts 144 = .ok (.iload_n 2, 1) := by decide +kernel
theorem dX8_gatherParts_145 : decode cX8_gatherParts 145 = .ok (.ireturn, 1) := by decide +kernel
theorem dX8_openSpot_0 : decode cX8_openSpot 0 = .ok (.iload_n 1, 1) := by decide +kernel
theorem dX8_openSpot_1 : decode cX8_openSpot 1 = .ok (.istore_n 3, 1) := by decide +kernel
theorem dX8_openSpot_2 : decode cX8_openSpot 2 = .ok (.iload_n 3, 1) := by decide +kernel
theorem dX8_openSpot_3 : decode cX8_openSpot 3 = .ok (.ifCond .le 63, 3) := by decide +kernel
theorem dX8_openSpot_6 : decode cX8_openSpot 6 = .ok (.aload_n 0, 1) := by decide +kernel
theorem dX8_openSpot_7 : decode cX8_openSpot 7 = .ok (.getfield 18, 3) := by decide +kernel
theorem dX8_openSpot_10 : decode cX8_openSpot 10 = .ok (.iload_n 3, 1) := by decide +kernel
theorem dX8_openSpot_11 : decode cX8_openSpot 11 = .ok (.iconst 1, 1) := by decide +kernel
theorem dX8_openSpot_12 : decode cX8_openSpot 12 = .ok (.isub, 1) := by decide +kernel
theorem dX8_openSpot_13 : decode cX8_openSpot 13 = .ok (.iaload, 1) := by decide +kernel
theorem dX8_openSpot_14 : decode cX8_openSpot 14 = .ok (.iload_n 2, 1) := by decide +kernel
theorem dX8_openSpot_15 : decode cX8_openSpot 15 = .ok (.if_icmp .le 51, 3) := by decide +kernel
theorem dX8_openSpot_18 : decode cX8_openSpot 18 = .ok (.aload_n 0, 1) := by decide +kernel
theorem dX8_openSpot_19 : decode cX8_openSpot 19 = .ok (.getfield 18, 3) := by decide +kernel
theorem dX8_openSpot_22 : decode cX8_openSpot 22 = .ok (.iload_n 3, 1) := by decide +kernel
theorem dX8_openSpot_23 : decode cX8_openSpot 23 = .ok (.aload_n 0, 1) := by decide +kernel
theorem dX8_openSpot_24 : decode cX8_openSpot 24 = .ok (.getfield 18, 3) := by decide +kernel
theorem dX8_openSpot_27 : decode cX8_openSpot 27 = .ok (.iload_n 3, 1) := by decide +kernel
theorem dX8_openSpot_28 : decode cX8_openSpot 28 = .ok (.iconst 1, 1) := by decide +kernel
theorem dX8_openSpot_29 : decode cX8_openSpot 29 = .ok (.isub, 1) := by decide +kernel
theorem dX8_openSpot_30 : decode cX8_openSpot 30 = .ok (.iaload, 1) := by decide +kernel
theorem dX8_openSpot_31 : decode cX8_openSpot 31 = .ok (.iastore, 1) := by decide +kernel
theorem dX8_openSpot_32 : decode cX8_openSpot 32 = .ok (.aload_n 0, 1) := by decide +kernel
theorem dX8_openSpot_33 : decode cX8_openSpot 33 = .ok (.getfield 21, 3) := by decide +kernel
theorem dX8_openSpot_36 : decode cX8_openSpot 36 = .ok (.iload_n 3, 1) := by decide +kernel
theorem dX8_openSpot_37 : decode cX8_openSpot 37 = .ok (.aload_n 0, 1) := by decide +kernel
theorem dX8_openSpot_38 : decode cX8_openSpot 38 = .ok (.getfield 21, 3) := by decide +kernel
theorem dX8_openSpot_41 : decode cX8_openSpot 41 = .ok (.iload_n 3, 1) := by decide +kernel
theorem dX8_openSpot_42 : decode cX8_openSpot 42 = .ok (.iconst 1, 1) := by decide +kernel
theorem dX8_openSpot_43 : decode cX8_openSpot 43 = .ok (.isub, 1) := by decide +kernel
theorem dX8_openSpot_44 : decode cX8_openSpot 44 = .ok (.iaload, 1) := by decide +kernel
theorem dX8_openSpot_45 : decode cX8_openSpot 45 = .ok (.iastore, 1) := by decide +kernel
theorem dX8_openSpot_46 : decode cX8_openSpot 46 = .ok (.aload_n 0, 1) := by decide +kernel
theorem dX8_openSpot_47 : decode cX8_openSpot 47 = .ok (.getfield 24, 3) := by decide +kernel
theorem dX8_openSpot_50 : decode cX8_openSpot 50 = .ok (.iload_n 3, 1) := by decide +kernel
theorem dX8_openSpot_51 : decode cX8_openSpot 51 = .ok (.aload_n 0, 1) := by decide +kernel
theorem dX8_openSpot_52 : decode cX8_openSpot 52 = .ok (.getfield 24, 3) := by decide +kernel
theorem dX8_openSpot_55 : decode cX8_openSpot 55 = .ok (.iload_n 3, 1) := by decide +kernel
theorem dX8_openSpot_56 : decode cX8_openSpot 56 = .ok (.iconst 1, 1) := by decide +kernel
theorem dX8_openSpot_57 : decode cX8_openSpot 57 = .ok (.isub, 1) := by decide +kernel
theorem dX8_openSpot_58 : decode cX8_openSpot 58 = .ok (.iaload, 1) := by decide +kernel
theorem dX8_openSpot_59 : decode cX8_openSpot 59 = .ok (.iastore, 1) := by decide +kernel
theorem dX8_openSpot_60 : decode cX8_openSpot 60 = .ok (.iinc 3 (-1), 3) := by decide +kernel
theorem dX8_openSpot_63 : decode cX8_openSpot 63 = .ok (.goto (-61), 3) := by decide +kernel
theorem dX8_openSpot_66 : decode cX8_openSpot 66 = .ok (.iload_n 3, 1) := by decide +kernel
theorem dX8_openSpot_67 : decode cX8_openSpot 67 = .ok (.ireturn, 1) := by decide +kernel
theorem dX8_shareGap_0 : decode cX8_shareGap 0 = .ok (.iload_n 1, 1) := by decide +kernel
theorem dX8_shareGap_1 : decode cX8_shareGap 1 = .ok (.ifCond .lt 9, 3) := by decide +kernel
theorem dX8_shareGap_4 : decode cX8_shareGap 4 = .ok (.iload_n 1, 1) := by decide +kernel
theorem dX8_shareGap_5 : decode cX8_shareGap 5 = .ok (.bipush 24, 2) := by decide +kernel
theorem dX8_shareGap_7 : decode cX8_shareGap 7 = .ok (.if_icmp .lt 4, 3) := by decide +kernel
theorem dX8_shareGap_10 : decode cX8_shareGap 10 = .ok (.return_, 1) := by decide +kernel
theorem dX8_shareGap_11 : decode cX8_shareGap 11 = .ok (.iconst 0, 1) := by decide +kernel
theorem dX8_shareGap_12 : decode cX8_shareGap 12 = .ok (.istore_n 3, 1) := by decide +kernel
theorem dX8_shareGap_13 : decode cX8_shareGap 13 = .ok (.iload_n 3, 1) := by decide +kernel
theorem dX8_shareGap_14 : decode cX8_shareGap 14 = .ok (.iload_n 2, 1) := by decide +kernel
theorem dX8_shareGap_15 : decode cX8_shareGap 15 = .ok (.if_icmp .ge 115, 3) := by decide +kernel
theorem dX8_shareGap_18 : decode cX8_shareGap 18 = .ok (.iconst 0, 1) := by decide +kernel
theorem dX8_shareGap_19 : decode cX8_shareGap 19 = .ok (.istore 4, 2) := by decide +kernel
theorem dX8_shareGap_21 : decode cX8_shareGap 21 = .ok (.iload 4, 2) := by decide +kernel
theorem dX8_shareGap_23 : decode cX8_shareGap 23 = .ok (.aload_n 0, 1) := by decide +kernel
theorem dX8_shareGap_24 : decode cX8_shareGap 24 = .ok (.getfield 15, 3) := by decide +kernel
theorem dX8_shareGap_27 : decode cX8_shareGap 27 = .ok (.iload_n 1, 1) := by decide +kernel
theorem dX8_shareGap_28 : decode cX8_shareGap 28 = .ok (.iaload, 1) := by decide +kernel
theorem dX8_shareGap_29 : decode cX8_shareGap 29 = .ok (.if_icmp .ge 25, 3) := by decide +kernel
theorem dX8_shareGap_32 : decode cX8_shareGap 32 = .ok (.aload_n 0, 1) := by decide +kernel
theorem dX8_shareGap_33 : decode cX8_shareGap 33 = .ok (.getfield 27, 3) := by decide +kernel
theorem dX8_shareGap_36 : decode cX8_shareGap 36 = .ok (.iload 4, 2) := by decide +kernel
theorem dX8_shareGap_38 : decode cX8_shareGap 38 = .ok (.iaload, 1) := by decide +kernel
theorem dX8_shareGap_39 : decode cX8_shareGap 39 = .ok (.aload_n 0, 1) := by decide +kernel
theorem dX8_shareGap_40 : decode cX8_shareGap 40 = .ok (.getfield 18, 3) := by decide +kernel
theorem dX8_shareGap_43 : decode cX8_shareGap 43 = .ok (.iload_n 3, 1) := by decide +kernel
theorem dX8_shareGap_44 : decode cX8_shareGap 44 = .ok (.iaload, 1) := by decide +kernel
theorem dX8_shareGap_45 : decode cX8_shareGap 45 = .ok (.if_icmp .lt 9, 3) := by decide +kernel
theorem dX8_shareGap_48 : decode cX8_shareGap 48 = .ok (.iinc 4 1, 3) := by decide +kernel
theorem dX8_shareGap_51 : decode cX8_shareGap 51 = .ok (.goto (-30), 3) := by decide +kernel
theorem dX8_shareGap_54 : decode cX8_shareGap 54 = .ok (.aload_n 0, 1) := by decide +kernel
theorem dX8_shareGap_55 : decode cX8_shareGap 55 = .ok (.getfield 15, 3) := by decide +kernel
theorem dX8_shareGap_58 : decode cX8_shareGap 58 = .ok (.iload_n 1, 1) := by decide +kernel
theorem dX8_shareGap_59 : decode cX8_shareGap 59 = .ok (.aload_n 0, 1) := by decide +kernel
theorem dX8_shareGap_60 : decode cX8_shareGap 60 = .ok (.getfield 15, 3) := by decide +kernel
theorem dX8_shareGap_63 : decode cX8_shareGap 63 = .ok (.iload_n 1, 1) := by decide +kernel
theorem dX8_shareGap_64 : decode cX8_shareGap 64 = .ok (.iaload, 1) := by decide +kernel
theorem dX8_shareGap_65 : decode cX8_shareGap 65 = .ok (.iload 4, 2) := by decide +kernel
theorem dX8_shareGap_67 : decode cX8_shareGap 67 = .ok (.iconst 1, 1) := by decide +kernel
theorem dX8_shareGap_68 : decode cX8_shareGap 68 = .ok (.iadd, 1) := by decide +kernel
theorem dX8_shareGap_69 : decode cX8_shareGap 69 = .ok (.invokestatic 58, 3) := by decide +kernel
theorem dX8_shareGap_72 : decode cX8_shareGap 72 = .ok (.iastore, 1) := by decide +kernel
theorem dX8_shareGap_73 : decode cX8_shareGap 73 = .ok (.aload_n 0, 1) := by decide +kernel
theorem dX8_shareGap_74 : decode cX8_shareGap 74 = .ok (.getfield 27, 3) := by decide +kernel
theorem dX8_shareGap_77 : decode cX8_shareGap 77 = .ok (.iload 4, 2) := by decide +kernel
theorem dX8_shareGap_79 : decode cX8_shareGap 79 = .ok (.aload_n 0, 1) := by decide +kernel
theorem dX8_shareGap_80 : decode cX8_shareGap 80 = .ok (.getfield 21, 3) := by decide +kernel
theorem dX8_shareGap_83 : decode cX8_shareGap 83 = .ok (.iload_n 3, 1) := by decide +kernel
theorem dX8_shareGap_84 : decode cX8_shareGap 84 = .ok (.iaload, 1) := by decide +kernel
theorem dX8_shareGap_85 : decode cX8_shareGap 85 = .ok (.iastore, 1) := by decide +kernel
theorem dX8_shareGap_86 : decode cX8_shareGap 86 = .ok (.aload_n 0, 1) := by decide +kernel
theorem dX8_shareGap_87 : decode cX8_shareGap 87 = .ok (.getfield 24, 3) := by decide +kernel
theorem dX8_shareGap_90 : decode cX8_shareGap 90 = .ok (.iload_n 3, 1) := by decide +kernel
theorem dX8_shareGap_91 : decode cX8_shareGap 91 = .ok (.iaload, 1) := by decide +kernel
theorem dX8_shareGap_92 : decode cX8_shareGap 92 = .ok (.ifCond .lt 32, 3) := by decide +kernel
theorem dX8_shareGap_95 : decode cX8_shareGap 95 = .ok (.aload_n 0, 1) := by decide +kernel
theorem dX8_shareGap_96 : decode cX8_shareGap 96 = .ok (.getfield 24, 3) := by decide +kernel
theorem dX8_shareGap_99 : decode cX8_shareGap 99 = .ok (.iload_n 3, 1) := by decide +kernel
theorem dX8_shareGap_100 : decode cX8_shareGap 100 = .ok (.iaload, 1) := by decide +kernel
theorem dX8_shareGap_101 : decode cX8_shareGap 101 = .ok (.bipush 24, 2) := by decide +kernel
theorem dX8_shareGap_103 : decode cX8_shareGap 103 = .ok (.if_icmp .ge 21, 3) := by decide +kernel
theorem dX8_shareGap_106 : decode cX8_shareGap 106 = .ok (.aload_n 0, 1) := by decide +kernel
theorem dX8_shareGap_107 : decode cX8_shareGap 107 = .ok (.getfield 9, 3) := by decide +kernel
theorem dX8_shareGap_110 : decode cX8_shareGap 110 = .ok (.iload_n 1, 1) := by decide +kernel
theorem dX8_shareGap_111 : decode cX8_shareGap 111 = .ok (.bipush 24, 2) := by decide +kernel
theorem dX8_shareGap_113 : decode cX8_shareGap 113 = .ok (.imul, 1) := by decide +kernel
theorem dX8_shareGap_114 : decode cX8_shareGap 114 = .ok (.aload_n 0, 1) := by decide +kernel
theorem dX8_shareGap_115 : decode cX8_shareGap 115 = .ok (.getfield 24, 3) := by decide +kernel
theorem dX8_shareGap_118 : decode cX8_shareGap 118 = .ok (.iload_n 3, 1) := by decide +kernel
theorem dX8_shareGap_119 : decode cX8_shareGap 119 = .ok (.iaload, 1) := by decide +kernel
theorem dX8_shareGap_120 : decode cX8_shareGap 120 = .ok (.iadd, 1) := by decide +kernel
theorem dX8_shareGap_121 : decode cX8_shareGap 121 = .ok (.iload 4, 2) := by decide +kernel
theorem dX8_shareGap_123 : decode cX8_shareGap 123 = .ok (.iastore, 1) := by decide +kernel
theorem dX8_shareGap_124 : decode cX8_shareGap 124 = .ok (.iinc 3 1, 3) := by decide +kernel
theorem dX8_shareGap_127 : decode cX8_shareGap 127 = .ok (.goto (-114), 3) := by decide +kernel
theorem dX8_shareGap_130 : decode cX8_shareGap 130 = .ok (.return_, 1) := by decide +kernel
set_option maxRecDepth 20000 in
theorem ggX9_init_X7_init : GoodIn wsX9_init wsX7_init := goodIn_r _ [41, 42, 2, 3, 43, 44, 45, 46, 47, 48, 49, 50, 51, 52, 53, 54, 151, 152, 153, 154, 155, 156] (by decide +kernel) (by decide +kernel)
set_option maxRecDepth 20000 in
theorem gX9_init_X7_init : GoodIn wsX9_init (wsX7_init) := ggX9_init_X7_init
set_option maxRecDepth 20000 in
theorem ggX9_init_X3_init : GoodIn wsX9_init wsX3_init := goodIn_r _ [57, 58, 2, 3, 43, 59, 60, 61, 62, 63, 64, 52, 53, 54, 168, 169, 170, 171, 172] (by decide +kernel) (by decide +kernel)
set_option maxRecDepth 20000 in
theorem gX9_init_X3_init : GoodIn wsX9_init (wsX3_init) := ggX9_init_X3_init
set_option maxRecDepth 20000 in
theorem ggX9_init_X6_init : GoodIn wsX9_init wsX6_init := goodIn_r _ [66, 67, 2, 3, 43, 68, 69, 70, 71, 173, 174, 175, 176] (by decide +kernel) (by decide +kernel)
set_option maxRecDepth 20000 in
theorem gX9_init_X6_init_n27 : GoodIn wsX9_init (wsX6_init) := ggX9_init_X6_init
set_option maxRecDepth 20000 in
theorem ggX9_init_X2_init : GoodIn wsX9_init wsX2_init := goodIn_r _ [74, 75, 2, 3, 43, 76, 77, 78, 177, 178, 179] (by decide +kernel) (by decide +kernel)
set_option maxRecDepth 20000 in
theorem gX9_init_X2_init : GoodIn wsX9_init (wsX2_init) := ggX9_init_X2_init
set_option maxRecDepth 20000 in
theorem ggX9_init_X5_init : GoodIn wsX9_init wsX5_init := goodIn_r _ [81, 82, 2, 3, 43, 83, 84, 85, 86, 87, 88, 89, 90, 91, 92, 93, 94, 95, 96, 97, 98, 99, 100, 101, 102, 103, 104, 105, 48, 106, 107, 108, 109, 110, 111, 180, 181, 182, 183, 184, 185, 186, 187, 188, 189, 190, 191, 210, 211, 212, 213, 214, 215, 216, 217, 218, 219] (by decide +kernel) (by decide +kernel)
set_option maxRecDepth 20000 in
theorem gX9_init_X5_init : GoodIn wsX9_init (wsX5_init) := ggX9_init_X5_init
set_option maxRecDepth 20000 in
theorem ggX9_init_X1_init : GoodIn wsX9_init wsX1_init := goodIn_r _ [114, 115, 2, 3, 43, 116, 117, 118, 119, 120, 192, 193, 194, 195, 196] (by decide +kernel) (by decide +kernel)
set_option maxRecDepth 20000 in
theorem gX9_init_X1_init : GoodIn wsX9_init (wsX1_init) := ggX9_init_X1_init
set_option maxRecDepth 20000 in
theorem ggX9_init_X8_init : GoodIn wsX9_init wsX8_init := goodIn_r _ [123, 124, 2, 3, 43, 125, 126, 127, 128, 129, 130, 131, 132, 197, 198, 199, 200, 201, 202, 203, 204] (by decide +kernel) (by decide +kernel)
set_option maxRecDepth 20000 in
theorem gX9_init_X8_init : GoodIn wsX9_init (wsX8_init) := ggX9_init_X8_init
set_option maxRecDepth 20000 in
theorem ggX9_init_X4_init : GoodIn wsX9_init wsX4_init := goodIn_r _ [135, 136, 2, 3, 43, 137, 138, 139, 140, 141, 142, 143, 34, 144, 145, 146, 147, 148, 149, 150, 52, 53, 54, 205, 206, 207, 208, 209] (by decide +kernel) (by decide +kernel)
set_option maxRecDepth 20000 in
theorem gX9_init_X4_init : GoodIn wsX9_init (wsX4_init) := ggX9_init_X4_init
theorem dX9_init_0 : decode cX9_init 0 = .ok (.aload_n 0, 1) := by decide +kernel
theorem dX9_init_1 : decode cX9_init 1 = .ok (.invokespecial 3, 3) := by decide +kernel
theorem dX9_init_4 : decode cX9_init 4 = .ok (.aload_n 0, 1) := by decide +kernel
theorem dX9_init_5 : decode cX9_init 5 = .ok (.new 9, 3) := by decide +kernel
theorem dX9_init_8 : decode cX9_init 8 = .ok (.dup, 1) := by decide +kernel
theorem dX9_init_9 : decode cX9_init 9 = .ok (.invokespecial 11, 3) := by decide +kernel
theorem dX9_init_12 : decode cX9_init 12 = .ok (.putfield 12, 3) := by decide +kernel
theorem dX9_init_15 : decode cX9_init 15 = .ok (.aload_n 0, 1) := by decide +kernel
theorem dX9_init_16 : decode cX9_init 16 = .ok (.new 16, 3) := by decide +kernel
theorem dX9_init_19 : decode cX9_init 19 = .ok (.dup, 1) := by decide +kernel
theorem dX9_init_20 : decode cX9_init 20 = .ok (.aload_n 0, 1) := by decide +kernel
theorem dX9_init_21 : decode cX9_init 21 = .ok (.getfield 12, 3) := by decide +kernel
theorem dX9_init_24 : decode cX9_init 24 = .ok (.invokespecial 18, 3) := by decide +kernel
theorem dX9_init_27 : decode cX9_init 27 = .ok (.putfield 21, 3) := by decide +kernel
theorem dX9_init_30 : decode cX9_init 30 = .ok (.aload_n 0, 1) := by decide +kernel
theorem dX9_init_31 : decode cX9_init 31 = .ok (.new 25, 3) := by decide +kernel
theorem dX9_init_34 : decode cX9_init 34 = .ok (.dup, 1) := by decide +kernel
theorem dX9_init_35 : decode cX9_init 35 = .ok (.invokespecial 27, 3) := by decide +kernel
theorem dX9_init_38 : decode cX9_init 38 = .ok (.putfield 28, 3) := by decide +kernel
theorem dX9_init_41 : decode cX9_init 41 = .ok (.aload_n 0, 1) := by decide +kernel
theorem dX9_init_42 : decode cX9_init 42 = .ok (.new 32, 3) := by decide +kernel
theorem dX9_init_45 : decode cX9_init 45 = .ok (.dup, 1) := by decide +kernel
theorem dX9_init_46 : decode cX9_init 46 = .ok (.aload_n 0, 1) := by decide +kernel
theorem dX9_init_47 : decode cX9_init 47 = .ok (.getfield 28, 3) := by decide +kernel
theorem dX9_init_50 : decode cX9_init 50 = .ok (.invokespecial 34, 3) := by decide +kernel
theorem dX9_init_53 : decode cX9_init 53 = .ok (.putfield 37, 3) := by decide +kernel
theorem dX9_init_56 : decode cX9_init 56 = .ok (.aload_n 0, 1) := by decide +kernel
theorem dX9_init_57 : decode cX9_init 57 = .ok (.new 41, 3) := by decide +kernel
theorem dX9_init_60 : decode cX9_init 60 = .ok (.dup, 1) := by decide +kernel
theorem dX9_init_61 : decode cX9_init 61 = .ok (.aload_n 0, 1) := by decide +kernel
theorem dX9_init_62 : decode cX9_init 62 = .ok (.getfield 28, 3) := by decide +kernel
theorem dX9_init_65 : decode cX9_init 65 = .ok (.aload_n 0, 1) := by decide +kernel
theorem dX9_init_66 : decode cX9_init 66 = .ok (.getfield 37, 3) := by decide +kernel
theorem dX9_init_69 : decode cX9_init 69 = .ok (.invokespecial 43, 3) := by decide +kernel
theorem dX9_init_72 : decode cX9_init 72 = .ok (.putfield 46, 3) := by decide +kernel
theorem dX9_init_75 : decode cX9_init 75 = .ok (.aload_n 0, 1) := by decide +kernel
theorem dX9_init_76 : decode cX9_init 76 = .ok (.new 50, 3) := by decide +kernel
theorem dX9_init_79 : decode cX9_init 79 = .ok (.dup, 1) := by decide +kernel
theorem dX9_init_80 : decode cX9_init 80 = .ok (.aload_n 0, 1) := by decide +kernel
theorem dX9_init_81 : decode cX9_init 81 = .ok (.getfield 12, 3) := by decide +kernel
theorem dX9_init_84 : decode cX9_init 84 = .ok (.aload_n 0, 1) := by decide +kernel
theorem dX9_init_85 : decode cX9_init 85 = .ok (.getfield 28, 3) := by decide +kernel
theorem dX9_init_88 : decode cX9_init 88 = .ok (.invokespecial 52, 3) := by decide +kernel
theorem dX9_init_91 : decode cX9_init 91 = .ok (.putfield 55, 3) := by decide +kernel
theorem dX9_init_94 : decode cX9_init 94 = .ok (.aload_n 0, 1) := by decide +kernel
theorem dX9_init_95 : decode cX9_init 95 = .ok (.new 59, 3) := by decide +kernel
theorem dX9_init_98 : decode cX9_init 98 = .ok (.dup, 1) := by decide +kernel
theorem dX9_init_99 : decode cX9_init 99 = .ok (.aload_n 0, 1) := by decide +kernel
theorem dX9_init_100 : decode cX9_init 100 = .ok (.getfield 28, 3) := by decide +kernel
theorem dX9_init_103 : decode cX9_init 103 = .ok (.aload_n 0, 1) := by decide +kernel
theorem dX9_init_104 : decode cX9_init 104 = .ok (.getfield 55, 3) := by decide +kernel
theorem dX9_init_107 : decode cX9_init 107 = .ok (.invokespecial 61, 3) := by decide +kernel
theorem dX9_init_110 : decode cX9_init 110 = .ok (.putfield 64, 3) := by decide +kernel
theorem dX9_init_113 : decode cX9_init 113 = .ok (.aload_n 0, 1) := by decide +kernel
theorem dX9_init_114 : decode cX9_init 114 = .ok (.new 68, 3) := by decide +kernel
theorem dX9_init_117 : decode cX9_init 117 = .ok (.dup, 1) := by decide +kernel
theorem dX9_init_118 : decode cX9_init 118 = .ok (.invokespecial 70, 3) := by decide +kernel
theorem dX9_init_121 : decode cX9_init 121 = .ok (.putfield 71, 3) := by decide +kernel
theorem dX9_init_124 : decode cX9_init 124 = .ok (.aload_n 0, 1) := by decide +kernel
theorem dX9_init_125 : decode cX9_init 125 = .ok (.new 68, 3) := by decide +kernel
theorem dX9_init_128 : decode cX9_init 128 = .ok (.dup, 1) := by decide +kernel
theorem dX9_init_129 : decode cX9_init 129 = .ok (.invokespecial 70, 3) := by decide +kernel
theorem dX9_init_132 : decode cX9_init 132 = .ok (.putfield 75, 3) := by decide +kernel
theorem dX9_init_135 : decode cX9_init 135 = .ok (.aload_n 0, 1) := by decide +kernel
theorem dX9_init_136 : decode cX9_init 136 = .ok (.new 68, 3) := by decide +kernel
theorem dX9_init_139 : decode cX9_init 139 = .ok (.dup, 1) := by decide +kernel
theorem dX9_init_140 : decode cX9_init 140 = .ok (.invokespecial 70, 3) := by decide +kernel
theorem dX9_init_143 : decode cX9_init 143 = .ok (.putfield 78, 3) := by decide +kernel
theorem dX9_init_146 : decode cX9_init 146 = .ok (.aload_n 0, 1) := by decide +kernel
theorem dX9_init_147 : decode cX9_init 147 = .ok (.iconst 0, 1) := by decide +kernel
theorem dX9_init_148 : decode cX9_init 148 = .ok (.putfield 81, 3) := by decide +kernel
theorem dX9_init_151 : decode cX9_init 151 = .ok (.return_, 1) := by decide +kernel
set_option maxRecDepth 20000 in
theorem ggX9_box_X9_needBoxNumber : GoodIn wsX9_box wsX9_needBoxNumber := goodIn_ca (goodIn_r _ [8, 1, 2] (by decide +kernel) (by decide +kernel)) (goodIn_sub (fun _ h => List.mem_cons_of_mem _ (List.mem_append_right _ h)) (by decide +kernel))
set_option maxRecDepth 20000 in
theorem gX9_box_X9_needBoxNumber : GoodIn wsX9_box (va_wsS RX9 85 yX9_needBoxNumber wsX9_needBoxNumber) := goodIn_app (goodIn_of _ (by decide +kernel)) ggX9_box_X9_needBoxNumber
set_option maxRecDepth 20000 in
theorem ggX9_box_X7_putBox : GoodIn wsX9_box wsX7_putBox := goodIn_r _ [13, 14, 26, 27, 28, 29, 30, 31] (by decide +kernel) (by decide +kernel)
set_option maxRecDepth 20000 in
theorem gX9_box_X7_putBox : GoodIn wsX9_box (wsV RX9 96 RX7 yX7_putBox wsX7_putBox) := goodIn_app (goodIn_of _ (by decide +kernel)) ggX9_box_X7_putBox
theorem dX9_box_0 : decode cX9_box 0 = .ok (.iload_n 1, 1) := by decide +kernel
theorem dX9_box_1 : decode cX9_box 1 = .ok (.invokestatic 85, 3) := by decide +kernel
theorem dX9_box_4 : decode cX9_box 4 = .ok (.iload_n 2, 1) := by decide +kernel
theorem dX9_box_5 : decode cX9_box 5 = .ok (.iconst 1, 1) := by decide +kernel
theorem dX9_box_6 : decode cX9_box 6 = .ok (.if_icmp .lt 9, 3) := by decide +kernel
theorem dX9_box_9 : decode cX9_box 9 = .ok (.iload_n 2, 1) := by decide +kernel
theorem dX9_box_10 : decode cX9_box 10 = .ok (.bipush 50, 2) := by decide +kernel
theorem dX9_box_12 : decode cX9_box 12 = .ok (.if_icmp .le 13, 3) := by decide +kernel
theorem dX9_box_15 : decode cX9_box 15 = .ok (.new 89, 3) := by decide +kernel
theorem dX9_box_18 : decode cX9_box 18 = .ok (.dup, 1) := by decide +kernel
theorem dX9_box_19 : decode cX9_box 19 = .ok (.ldc 91, 2) := by decide +kernel
theorem dX9_box_21 : decode cX9_box 21 = .ok (.invokespecial 93, 3) := by decide +kernel
theorem dX9_box_24 : decode cX9_box 24 = .ok (.athrow, 1) := by decide +kernel
theorem dX9_box_25 : decode cX9_box 25 = .ok (.aload_n 0, 1) := by decide +kernel
theorem dX9_box_26 : decode cX9_box 26 = .ok (.getfield 12, 3) := by decide +kernel
theorem dX9_box_29 : decode cX9_box 29 = .ok (.iload_n 1, 1) := by decide +kernel
theorem dX9_box_30 : decode cX9_box 30 = .ok (.iload_n 2, 1) := by decide +kernel
theorem dX9_box_31 : decode cX9_box 31 = .ok (.invokevirtual 96, 3) := by decide +kernel
theorem dX9_box_34 : decode cX9_box 34 = .ok (.aload_n 0, 1) := by decide +kernel
theorem dX9_box_35 : decode cX9_box 35 = .ok (.iconst 0, 1) := by decide +kernel
theorem dX9_box_36 : decode cX9_box 36 = .ok (.putfield 81, 3) := by decide +kernel
theorem dX9_box_39 : decode cX9_box 39 = .ok (.return_, 1) := by decide +kernel
set_option maxRecDepth 20000 in
theorem ggX9_remove_X9_needBoxNumber : GoodIn wsX9_remove wsX9_needBoxNumber := goodIn_ca (goodIn_r _ [6, 7, 8] (by decide +kernel) (by decide +kernel)) (goodIn_sub (fun _ h => List.mem_cons_of_mem _ (List.mem_append_right _ h)) (by decide +kernel))
set_option maxRecDepth 20000 in
theorem gX9_remove_X9_needBoxNumber : GoodIn wsX9_remove (va_wsS RX9 85 yX9_needBoxNumber wsX9_needBoxNumber) := goodIn_app (goodIn_of _ (by decide +kernel)) ggX9_remove_X9_needBoxNumber
set_option maxRecDepth 20000 in
theorem ggX9_remove_X7_hasBox : GoodIn wsX9_remove wsX7_hasBox := goodIn_r _ [13, 14, 56, 57, 58, 59, 60, 61] (by decide +kernel) (by decide +kernel)
set_option maxRecDepth 20000 in
theorem gX9_remove_X7_hasBox : GoodIn wsX9_remove (wsV RX9 100 RX7 yX7_hasBox wsX7_hasBox) := goodIn_app (goodIn_of _ (by decide +kernel)) ggX9_remove_X7_hasBox
set_option maxRecDepth 20000 in
theorem ggX9_remove_X7_takeBox : GoodIn wsX9_remove wsX7_takeBox := goodIn_r _ [18, 14, 19, 20, 21, 22, 10, 11, 12, 13, 23, 24, 25, 26, 27, 28, 29, 30, 31, 32, 33, 34, 35, 36, 37, 38, 39, 40, 41, 42, 43, 44, 56, 57, 58, 59, 60, 61] (by decide +kernel) (by decide +kernel)
set_option maxRecDepth 20000 in
theorem gX9_remove_X7_takeBox : GoodIn wsX9_remove (wsV RX9 104 RX7 yX7_takeBox wsX7_takeBox) := goodIn_app (goodIn_of _ (by decide +kernel)) ggX9_remove_X7_takeBox
theorem dX9_remove_0 : decode cX9_remove 0 = .ok (.iload_n 1, 1) := by decide +kernel
theorem dX9_remove_1 : decode cX9_remove 1 = .ok (.invokestatic 85, 3) := by decide +kernel
theorem dX9_remove_4 : decode cX9_remove 4 = .ok (.aload_n 0, 1) := by decide +kernel
theorem dX9_remove_5 : decode cX9_remove 5 = .ok (.getfield 12, 3) := by decide +kernel
theorem dX9_remove_8 : decode cX9_remove 8 = .ok (.iload_n 1, 1) := by decide +kernel
theorem dX9_remove_9 : decode cX9_remove 9 = .ok (.invokevirtual 100, 3) := by decide +kernel
theorem dX9_remove_12 : decode cX9_remove 12 = .ok (.ifCond .ne 5, 3) := by decide +kernel
theorem dX9_remove_15 : decode cX9_remove 15 = .ok (.iconst 0, 1) := by decide +kernel
theorem dX9_remove_16 : decode cX9_remove 16 = .ok (.ireturn, 1) := by decide +kernel
theorem dX9_remove_17 : decode cX9_remove 17 = .ok (.aload_n 0, 1) := by decide +kernel
theorem dX9_remove_18 : decode cX9_remove 18 = .ok (.getfield 12, 3) := by decide +kernel
theorem dX9_remove_21 : decode cX9_remove 21 = .ok (.iload_n 1, 1) := by decide +kernel
theorem dX9_remove_22 : decode cX9_remove 22 = .ok (.invokevirtual 104, 3) := by decide +kernel
theorem dX9_remove_25 : decode cX9_remove 25 = .ok (.aload_n 0, 1) := by decide +kernel
theorem dX9_remove_26 : decode cX9_remove 26 = .ok (.iconst 0, 1) := by decide +kernel
theorem dX9_remove_27 : decode cX9_remove 27 = .ok (.putfield 81, 3) := by decide +kernel
theorem dX9_remove_30 : decode cX9_remove 30 = .ok (.iconst 1, 1) := by decide +kernel
theorem dX9_remove_31 : decode cX9_remove 31 = .ok (.ireturn, 1) := by decide +kernel
set_option maxRecDepth 20000 in
theorem ggX9_arrow_X9_needArrowNumber : GoodIn wsX9_arrow wsX9_needArrowNumber := goodIn_ca (goodIn_r _ [8, 1, 2] (by decide +kernel) (by decide +kernel)) (goodIn_sub (fun _ h => List.mem_cons_of_mem _ (List.mem_append_right _ h)) (by decide +kernel))
set_option maxRecDepth 20000 in
theorem gX9_arrow_X9_needArrowNumber : GoodIn wsX9_arrow (va_wsS RX9 107 yX9_needArrowNumber wsX9_needArrowNumber) := goodIn_app (goodIn_of _ (by decide +kernel)) ggX9_arrow_X9_needArrowNumber
set_option maxRecDepth 20000 in
theorem ggX9_arrow_X9_needBox : GoodIn wsX9_arrow wsX9_needBox := goodIn_ca (goodIn_r _ [12, 1, 2, 3, 13, 14, 15, 16, 17, 18, 48, 49, 50, 51, 52, 53, 54, 55, 56, 57, 58, 59, 60, 61, 62, 63, 64] (by decide +kernel) (by decide +kernel)) (goodIn_sub (fun _ h => List.mem_cons_of_mem _ (List.mem_append_right _ h)) (by decide +kernel))
set_option maxRecDepth 20000 in
theorem gX9_arrow_X9_needBox : GoodIn wsX9_arrow (wsV RX9 110 RX9 yX9_needBox wsX9_needBox) := goodIn_app (goodIn_of _ (by decide +kernel)) ggX9_arrow_X9_needBox
set_option maxRecDepth 20000 in
theorem ggX9_arrow_X7_putArrow : GoodIn wsX9_arrow wsX7_putArrow := goodIn_r _ [22, 23, 24, 25, 14, 15, 16, 17, 18, 26, 27, 28, 29, 30, 31, 32, 33, 34, 35, 36, 37, 38, 39, 40, 41, 42, 43, 44, 45, 46, 47, 59, 60, 61, 62, 63, 64] (by decide +kernel) (by decide +kernel)
set_option maxRecDepth 20000 in
theorem gX9_arrow_X7_putArrow : GoodIn wsX9_arrow (wsV RX9 115 RX7 yX7_putArrow wsX7_putArrow) := goodIn_app (goodIn_of _ (by decide +kernel)) ggX9_arrow_X7_putArrow
theorem dX9_arrow_0 : decode cX9_arrow 0 = .ok (.iload_n 1, 1) := by decide +kernel
theorem dX9_arrow_1 : decode cX9_arrow 1 = .ok (.invokestatic 107, 3) := by decide +kernel
theorem dX9_arrow_4 : decode cX9_arrow 4 = .ok (.aload_n 0, 1) := by decide +kernel
theorem dX9_arrow_5 : decode cX9_arrow 5 = .ok (.iload_n 2, 1) := by decide +kernel
theorem dX9_arrow_6 : decode cX9_arrow 6 = .ok (.invokevirtual 110, 3) := by decide +kernel
theorem dX9_arrow_9 : decode cX9_arrow 9 = .ok (.aload_n 0, 1) := by decide +kernel
theorem dX9_arrow_10 : decode cX9_arrow 10 = .ok (.iload_n 3, 1) := by decide +kernel
theorem dX9_arrow_11 : decode cX9_arrow 11 = .ok (.invokevirtual 110, 3) := by decide +kernel
theorem dX9_arrow_14 : decode cX9_arrow 14 = .ok (.iload_n 2, 1) := by decide +kernel
theorem dX9_arrow_15 : decode cX9_arrow 15 = .ok (.iload_n 3, 1) := by decide +kernel
theorem dX9_arrow_16 : decode cX9_arrow 16 = .ok (.if_icmp .ne 13, 3) := by decide +kernel
theorem dX9_arrow_19 : decode cX9_arrow 19 = .ok (.new 89, 3) := by decide +kernel
theorem dX9_arrow_22 : decode cX9_arrow 22 = .ok (.dup, 1) := by decide +kernel
theorem dX9_arrow_23 : decode cX9_arrow 23 = .ok (.ldc 113, 2) := by decide +kernel
theorem dX9_arrow_25 : decode cX9_arrow 25 = .ok (.invokespecial 93, 3) := by decide +kernel
theorem dX9_arrow_28 : decode cX9_arrow 28 = .ok (.athrow, 1) := by decide +kernel
theorem dX9_arrow_29 : decode cX9_arrow 29 = .ok (.aload_n 0, 1) := by decide +kernel
theorem dX9_arrow_30 : decode cX9_arrow 30 = .ok (.getfield 12, 3) := by decide +kernel
theorem dX9_arrow_33 : decode cX9_arrow 33 = .ok (.iload_n 1, 1) := by decide +kernel
theorem dX9_arrow_34 : decode cX9_arrow 34 = .ok (.iload_n 2, 1) := by decide +kernel
theorem dX9_arrow_35 : decode cX9_arrow 35 = .ok (.iload_n 3, 1) := by decide +kernel
theorem dX9_arrow_36 : decode cX9_arrow 36 = .ok (.invokevirtual 115, 3) := by decide +kernel
theorem dX9_arrow_39 : decode cX9_arrow 39 = .ok (.aload_n 0, 1) := by decide +kernel
theorem dX9_arrow_40 : decode cX9_arrow 40 = .ok (.iconst 0, 1) := by decide +kernel
theorem dX9_arrow_41 : decode cX9_arrow 41 = .ok (.putfield 81, 3) := by decide +kernel
theorem dX9_arrow_44 : decode cX9_arrow 44 = .ok (.return_, 1) := by decide +kernel
set_option maxRecDepth 20000 in
theorem ggX9_drop_X9_needArrowNumber : GoodIn wsX9_drop wsX9_needArrowNumber := goodIn_ca (goodIn_r _ [6, 7, 8] (by decide +kernel) (by decide +kernel)) (goodIn_sub (fun _ h => List.mem_cons_of_mem _ (List.mem_append_right _ h)) (by decide +kernel))
set_option maxRecDepth 20000 in
theorem gX9_drop_X9_needArrowNumber : GoodIn wsX9_drop (va_wsS RX9 107 yX9_needArrowNumber wsX9_needArrowNumber) := goodIn_app (goodIn_of _ (by decide +kernel)) ggX9_drop_X9_needArrowNumber
set_option maxRecDepth 20000 in
theorem ggX9_drop_X7_hasArrow : GoodIn wsX9_drop wsX7_hasArrow := goodIn_r _ [13, 14, 55, 56, 57, 58, 59, 60] (by decide +kernel) (by decide +kernel)
set_option maxRecDepth 20000 in
theorem gX9_drop_X7_hasArrow : GoodIn wsX9_drop (wsV RX9 119 RX7 yX7_hasArrow wsX7_hasArrow) := goodIn_app (goodIn_of _ (by decide +kernel)) ggX9_drop_X7_hasArrow
set_option maxRecDepth 20000 in
theorem ggX9_drop_X7_takeArrow : GoodIn wsX9_drop wsX7_takeArrow := goodIn_r _ [18, 14, 19, 20, 10, 11, 12, 13, 21, 22, 23, 24, 25, 26, 27, 28, 29, 30, 31, 32, 33, 34, 35, 36, 37, 38, 39, 40, 41, 42, 43, 55, 56, 57, 58, 59, 60] (by decide +kernel) (by decide +kernel)
set_option maxRecDepth 20000 in
theorem gX9_drop_X7_takeArrow : GoodIn wsX9_drop (wsV RX9 122 RX7 yX7_takeArrow wsX7_takeArrow) := goodIn_app (goodIn_of _ (by decide +kernel)) ggX9_drop_X7_takeArrow
theorem dX9_drop_0 : decode cX9_drop 0 = .ok (.iload_n 1, 1) := by decide +kernel
theorem dX9_drop_1 : decode cX9_drop 1 = .ok (.invokestatic 107, 3) := by decide +kernel
theorem dX9_drop_4 : decode cX9_drop 4 = .ok (.aload_n 0, 1) := by decide +kernel
theorem dX9_drop_5 : decode cX9_drop 5 = .ok (.getfield 12, 3) := by decide +kernel
theorem dX9_drop_8 : decode cX9_drop 8 = .ok (.iload_n 1, 1) := by decide +kernel
theorem dX9_drop_9 : decode cX9_drop 9 = .ok (.invokevirtual 119, 3) := by decide +kernel
theorem dX9_drop_12 : decode cX9_drop 12 = .ok (.ifCond .ne 5, 3) := by decide +kernel
theorem dX9_drop_15 : decode cX9_drop 15 = .ok (.iconst 0, 1) := by decide +kernel
theorem dX9_drop_16 : decode cX9_drop 16 = .ok (.ireturn, 1) := by decide +kernel
theorem dX9_drop_17 : decode cX9_drop 17 = .ok (.aload_n 0, 1) := by decide +kernel
theorem dX9_drop_18 : decode cX9_drop 18 = .ok (.getfield 12, 3) := by decide +kernel
theorem dX9_drop_21 : decode cX9_drop 21 = .ok (.iload_n 1, 1) := by decide +kernel
theorem dX9_drop_22 : decode cX9_drop 22 = .ok (.invokevirtual 122, 3) := by decide +kernel
theorem dX9_drop_25 : decode cX9_drop 25 = .ok (.aload_n 0, 1) := by decide +kernel
theorem dX9_drop_26 : decode cX9_drop 26 = .ok (.iconst 0, 1) := by decide +kernel
theorem dX9_drop_27 : decode cX9_drop 27 = .ok (.putfield 81, 3) := by decide +kernel
theorem dX9_drop_30 : decode cX9_drop 30 = .ok (.iconst 1, 1) := by decide +kernel
theorem dX9_drop_31 : decode cX9_drop 31 = .ok (.ireturn, 1) := by decide +kernel
set_option maxRecDepth 20000 in
theorem ggX9_pin_X9_needBox : GoodIn wsX9_pin wsX9_needBox := goodIn_ca (goodIn_r _ [9, 1, 2, 3, 10, 11, 12, 13, 14, 15, 22, 23, 24, 25, 26, 27, 28, 29, 30, 31, 32, 33, 34, 35, 36, 37, 38] (by decide +kernel) (by decide +kernel)) (goodIn_sub (fun _ h => List.mem_cons_of_mem _ (List.mem_append_right _ h)) (by decide +kernel))
set_option maxRecDepth 20000 in
theorem gX9_pin_X9_needBox : GoodIn wsX9_pin (wsV RX9 110 RX9 yX9_needBox wsX9_needBox) := goodIn_app (goodIn_of _ (by decide +kernel)) ggX9_pin_X9_needBox
set_option maxRecDepth 20000 in
theorem ggX9_pin_X7_pinBox : GoodIn wsX9_pin wsX7_pinBox := goodIn_r _ [19, 20, 21, 11, 12, 13, 14, 15, 33, 34, 35, 36, 37, 38] (by decide +kernel) (by decide +kernel)
set_option maxRecDepth 20000 in
theorem gX9_pin_X7_pinBox : GoodIn wsX9_pin (wsV RX9 127 RX7 yX7_pinBox wsX7_pinBox) := goodIn_app (goodIn_of _ (by decide +kernel)) ggX9_pin_X7_pinBox
theorem dX9_pin_0 : decode cX9_pin 0 = .ok (.aload_n 0, 1) := by decide +kernel
theorem dX9_pin_1 : decode cX9_pin 1 = .ok (.iload_n 1, 1) := by decide +kernel
theorem dX9_pin_2 : decode cX9_pin 2 = .ok (.invokevirtual 110, 3) := by decide +kernel
theorem dX9_pin_5 : decode cX9_pin 5 = .ok (.iload_n 2, 1) := by decide +kernel
theorem dX9_pin_6 : decode cX9_pin 6 = .ok (.iconst (-1), 1) := by decide +kernel
theorem dX9_pin_7 : decode cX9_pin 7 = .ok (.if_icmp .lt 9, 3) := by decide +kernel
theorem dX9_pin_10 : decode cX9_pin 10 = .ok (.iload_n 2, 1) := by decide +kernel
theorem dX9_pin_11 : decode cX9_pin 11 = .ok (.bipush 8, 2) := by decide +kernel
theorem dX9_pin_13 : decode cX9_pin 13 = .ok (.if_icmp .le 13, 3) := by decide +kernel
theorem dX9_pin_16 : decode cX9_pin 16 = .ok (.new 89, 3) := by decide +kernel
theorem dX9_pin_19 : decode cX9_pin 19 = .ok (.dup, 1) := by decide +kernel
theorem dX9_pin_20 : decode cX9_pin 20 = .ok (.ldc 125, 2) := by decide +kernel
theorem dX9_pin_22 : decode cX9_pin 22 = .ok (.invokespecial 93, 3) := by decide +kernel
theorem dX9_pin_25 : decode cX9_pin 25 = .ok (.athrow, 1) := by decide +kernel
theorem dX9_pin_26 : decode cX9_pin 26 = .ok (.aload_n 0, 1) := by decide +kernel
theorem dX9_pin_27 : decode cX9_pin 27 = .ok (.getfield 12, 3) := by decide +kernel
theorem dX9_pin_30 : decode cX9_pin 30 = .ok (.iload_n 1, 1) := by decide +kernel
theorem dX9_pin_31 : decode cX9_pin 31 = .ok (.iload_n 2, 1) := by decide +kernel
theorem dX9_pin_32 : decode cX9_pin 32 = .ok (.invokevirtual 127, 3) := by decide +kernel
theorem dX9_pin_35 : decode cX9_pin 35 = .ok (.aload_n 0, 1) := by decide +kernel
theorem dX9_pin_36 : decode cX9_pin 36 = .ok (.iconst 0, 1) := by decide +kernel
theorem dX9_pin_37 : decode cX9_pin 37 = .ok (.putfield 81, 3) := by decide +kernel
theorem dX9_pin_40 : decode cX9_pin 40 = .ok (.return_, 1) := by decide +kernel
set_option maxRecDepth 20000 in
theorem ggX9_draw_X9_needRounds : GoodIn wsX9_draw wsX9_needRounds := goodIn_ca (goodIn_r _ [7, 8, 9] (by decide +kernel) (by decide +kernel)) (goodIn_sub (fun _ h => List.mem_cons_of_mem _ (List.mem_append_right _ h)) (by decide +kernel))
set_option maxRecDepth 20000 in
theorem gX9_draw_X9_needRounds : GoodIn wsX9_draw (va_wsS RX9 130 yX9_needRounds wsX9_needRounds) := goodIn_app (goodIn_of _ (by decide +kernel)) ggX9_draw_X9_needRounds
set_option maxRecDepth 20000 in
theorem ggX9_draw_X9_prepare : GoodIn wsX9_draw wsX9_prepare := goodIn_r _ [13, 14, 2, 15, 16, 17, 18, 19, 20, 21, 22, 23, 24, 25, 26, 27, 28, 29, 30, 31, 32, 33, 34, 35, 36, 37, 38, 39, 40, 41, 42, 43, 44, 45, 46, 47, 48, 49, 50, 51, 52, 53, 54, 55, 56, 57, 58, 59, 60, 61, 62, 63, 64, 65, 66, 67, 68, 69, 70, 71, 72, 73, 74, 75, 76, 77, 78, 79, 80, 81, 82, 83, 84, 85, 86, 87, 88, 89, 90, 91, 92, 93, 94, 95, 96, 97, 98, 99, 100, 101, 102, 103, 104, 105, 106, 107, 108, 109, 110, 111, 112, 113, 114, 115, 116, 417, 418, 419, 420, 421, 422, 423, 424, 425, 426, 427, 428, 429, 430, 431, 432, 433, 434, 435, 436, 437, 438, 439, 440, 441, 442] (by decide +kernel) (by decide +kernel)
set_option maxRecDepth 20000 in
theorem gX9_draw_X9_prepare : GoodIn wsX9_draw (wsV RX9 133 RX9 yX9_prepare wsX9_prepare) := goodIn_app (goodIn_of _ (by decide +kernel)) ggX9_draw_X9_prepare
set_option maxRecDepth 20000 in
theorem ggX9_draw_X4_startFirst : GoodIn wsX9_draw wsX4_startFirst := goodIn_r _ [121, 122, 123, 124, 19, 125, 70, 126, 127, 128, 120, 129, 130, 131, 73, 132, 133, 134, 135, 136, 137, 101, 102, 103, 138, 139, 140, 141, 142, 143, 144, 145, 25, 27, 28, 29, 30, 31, 32, 62, 63, 64, 65, 26, 90, 91, 92, 93, 79, 86, 87, 88, 89, 80, 146, 147, 148, 149, 150, 151, 152, 153, 154, 155, 156, 157, 158, 159, 160, 161, 162, 428, 429, 430, 431, 432, 443, 444, 445, 446, 447, 433, 434, 435, 436, 437, 438] (by decide +kernel) (by decide +kernel)
set_option maxRecDepth 20000 in
theorem gX9_draw_X4_startFirst : GoodIn wsX9_draw (wsV RX9 137 RX4 yX4_startFirst wsX4_startFirst) := goodIn_app (goodIn_of _ (by decide +kernel)) ggX9_draw_X4_startFirst
set_option maxRecDepth 20000 in
theorem ggX9_draw_X5_improve : GoodIn wsX9_draw wsX5_improve := goodIn_r _ [167, 168, 169, 170, 171, 166, 172, 173, 174, 175, 120, 176, 133, 177, 178, 179, 180, 181, 182, 183, 184, 185, 186, 187, 188, 189, 131, 73, 132, 190, 191, 192, 193, 194, 97, 195, 99, 196, 197, 198, 199, 115, 116, 200, 147, 148, 149, 135, 201, 202, 203, 204, 205, 206, 207, 208, 101, 102, 103, 209, 210, 211, 212, 213, 214, 215, 216, 217, 218, 160, 161, 162, 134, 219, 220, 221, 222, 158, 159, 223, 224, 225, 226, 227, 228, 229, 230, 231, 232, 233, 234, 235, 236, 237, 238, 239, 240, 241, 242, 243, 244, 245, 246, 247, 248, 249, 250, 251, 155, 156, 157, 136, 252, 253, 254, 255, 256, 257, 258, 259, 260, 261, 262, 263, 264, 265, 266, 267, 268, 269, 270, 271, 272, 273, 274, 275, 276, 277, 278, 279, 280, 281, 282, 283, 284, 285, 286, 287, 288, 289, 290, 291, 292, 293, 294, 295, 296, 297, 298, 299, 300, 301, 302, 448, 449, 450, 451, 452, 453, 454, 455, 456, 457, 458, 459, 443, 444, 445, 446, 447, 439, 440, 441, 442, 460, 461, 462, 463, 464, 465, 466, 467, 468, 469, 470, 471, 472] (by decide +kernel) (by decide +kernel)
set_option maxRecDepth 20000 in
theorem gX9_draw_X5_improve : GoodIn wsX9_draw (wsV RX9 141 RX5 yX5_improve wsX5_improve) := goodIn_app (goodIn_of _ (by decide +kernel)) ggX9_draw_X5_improve
set_option maxRecDepth 20000 in
theorem ggX9_draw_X9_takeFresh : GoodIn wsX9_draw wsX9_takeFresh := goodIn_r _ [306, 307, 1, 417, 418, 419, 420, 421, 422, 423, 424, 425, 426, 427] (by decide +kernel) (by decide +kernel)
set_option maxRecDepth 20000 in
theorem gX9_draw_X9_takeFresh : GoodIn wsX9_draw (wsV RX9 145 RX9 yX9_takeFresh wsX9_takeFresh) := goodIn_app (goodIn_of _ (by decide +kernel)) ggX9_draw_X9_takeFresh
set_option maxRecDepth 20000 in
theorem ggX9_draw_X9_finish : GoodIn wsX9_draw wsX9_finish := goodIn_r _ [311, 312, 307, 313, 14, 314, 315, 316, 317, 318, 319, 174, 175, 120, 176, 133, 320, 321, 322, 323, 324, 160, 161, 162, 134, 325, 220, 221, 222, 158, 159, 326, 327, 328, 329, 330, 331, 332, 333, 334, 335, 336, 337, 338, 339, 340, 341, 342, 343, 344, 345, 30, 346, 32, 38, 28, 29, 31, 347, 348, 349, 350, 351, 352, 353, 354, 101, 102, 103, 355, 193, 194, 97, 195, 99, 356, 197, 198, 199, 115, 116, 357, 358, 359, 360, 361, 362, 363, 364, 365, 366, 72, 73, 74, 367, 368, 369, 370, 371, 372, 373, 374, 375, 376, 131, 132, 377, 378, 379, 380, 381, 382, 383, 384, 385, 386, 387, 388, 389, 390, 391, 392, 393, 394, 395, 396, 397, 398, 399, 400, 401, 402, 403, 404, 405, 406, 407, 408, 409, 410, 411, 114, 412, 413, 414, 415, 416, 417, 418, 419, 420, 421, 422, 423, 424, 425, 426, 427, 443, 444, 445, 446, 447, 473, 474, 475, 476, 477, 433, 434, 435, 436, 437, 438, 439, 440, 441, 442, 478, 479, 480, 481, 482, 483, 484, 485] (by decide +kernel) (by decide +kernel)
set_option maxRecDepth 20000 in
theorem gX9_draw_X9_finish : GoodIn wsX9_draw (wsV RX9 148 RX9 yX9_finish wsX9_finish) := goodIn_app (goodIn_of _ (by decide +kernel)) ggX9_draw_X9_finish
theorem dX9_draw_0 : decode cX9_draw 0 = .ok (.iload_n 1, 1) := by decide +kernel
theorem dX9_draw_1 : decode cX9_draw 1 = .ok (.invokestatic 130, 3) := by decide +kernel
theorem dX9_draw_4 : decode cX9_draw 4 = .ok (.aload_n 0, 1) := by decide +kernel
theorem dX9_draw_5 : decode cX9_draw 5 = .ok (.invokevirtual 133, 3) := by decide +kernel
theorem dX9_draw_8 : decode cX9_draw 8 = .ok (.ifCond .ne 5, 3) := by decide +kernel
theorem dX9_draw_11 : decode cX9_draw 11 = .ok (.iconst 0, 1) := by decide +kernel
theorem dX9_draw_12 : decode cX9_draw 12 = .ok (.ireturn, 1) := by decide +kernel
theorem dX9_draw_13 : decode cX9_draw 13 = .ok (.aload_n 0, 1) := by decide +kernel
theorem dX9_draw_14 : decode cX9_draw 14 = .ok (.getfield 75, 3) := by decide +kernel
theorem dX9_draw_17 : decode cX9_draw 17 = .ok (.aload_n 0, 1) := by decide +kernel
theorem dX9_draw_18 : decode cX9_draw 18 = .ok (.getfield 21, 3) := by decide +kernel
theorem dX9_draw_21 : decode cX9_draw 21 = .ok (.invokevirtual 137, 3) := by decide +kernel
theorem dX9_draw_24 : decode cX9_draw 24 = .ok (.aload_n 0, 1) := by decide +kernel
theorem dX9_draw_25 : decode cX9_draw 25 = .ok (.getfield 46, 3) := by decide +kernel
theorem dX9_draw_28 : decode cX9_draw 28 = .ok (.aload_n 0, 1) := by decide +kernel
theorem dX9_draw_29 : decode cX9_draw 29 = .ok (.getfield 75, 3) := by decide +kernel
theorem dX9_draw_32 : decode cX9_draw 32 = .ok (.iload_n 1, 1) := by decide +kernel
theorem dX9_draw_33 : decode cX9_draw 33 = .ok (.invokevirtual 141, 3) := by decide +kernel
theorem dX9_draw_36 : decode cX9_draw 36 = .ok (.aload_n 0, 1) := by decide +kernel
theorem dX9_draw_37 : decode cX9_draw 37 = .ok (.invokevirtual 145, 3) := by decide +kernel
theorem dX9_draw_40 : decode cX9_draw 40 = .ok (.aload_n 0, 1) := by decide +kernel
theorem dX9_draw_41 : decode cX9_draw 41 = .ok (.invokevirtual 148, 3) := by decide +kernel
theorem dX9_draw_44 : decode cX9_draw 44 = .ok (.iconst 1, 1) := by decide +kernel
theorem dX9_draw_45 : decode cX9_draw 45 = .ok (.ireturn, 1) := by decide +kernel
set_option maxRecDepth 20000 in
theorem ggX9_redraw_X9_needRounds : GoodIn wsX9_redraw wsX9_needRounds := goodIn_ca (goodIn_r _ [13, 1, 2] (by decide +kernel) (by decide +kernel)) (goodIn_sub (fun _ h => List.mem_cons_of_mem _ (List.mem_append_right _ h)) (by decide +kernel))
set_option maxRecDepth 20000 in
theorem gX9_redraw_X9_needRounds : GoodIn wsX9_redraw (va_wsS RX9 130 yX9_needRounds wsX9_needRounds) := goodIn_app (goodIn_of _ (by decide +kernel)) ggX9_redraw_X9_needRounds
set_option maxRecDepth 20000 in
theorem ggX9_redraw_X9_prepare : GoodIn wsX9_redraw wsX9_prepare := goodIn_r _ [17, 18, 5, 19, 20, 21, 22, 23, 24, 25, 26, 27, 28, 29, 30, 31, 32, 33, 34, 35, 36, 37, 38, 39, 40, 41, 42, 43, 44, 45, 46, 47, 48, 49, 50, 51, 52, 53, 54, 55, 56, 57, 58, 59, 60, 61, 62, 63, 64, 65, 66, 67, 68, 69, 70, 71, 72, 73, 74, 75, 76, 77, 78, 79, 80, 81, 82, 83, 84, 85, 86, 87, 88, 89, 90, 91, 92, 93, 94, 95, 96, 97, 98, 99, 100, 101, 102, 103, 104, 105, 106, 107, 108, 109, 110, 111, 112, 113, 114, 115, 116, 117, 118, 119, 120, 452, 453, 454, 455, 456, 457, 458, 459, 460, 461, 462, 463, 464, 465, 466, 467, 468, 469, 470, 471, 472, 473, 474, 475, 476, 477] (by decide +kernel) (by decide +kernel)
set_option maxRecDepth 20000 in
theorem gX9_redraw_X9_prepare : GoodIn wsX9_redraw (wsV RX9 133 RX9 yX9_prepare wsX9_prepare) := goodIn_app (goodIn_of _ (by decide +kernel)) ggX9_redraw_X9_prepare
set_option maxRecDepth 20000 in
theorem ggX9_redraw_X4_startFirst : GoodIn wsX9_redraw wsX4_startFirst := goodIn_r _ [125, 126, 127, 128, 23, 129, 74, 130, 131, 132, 124, 133, 134, 135, 77, 136, 137, 138, 139, 140, 141, 105, 106, 107, 142, 143, 144, 145, 146, 147, 148, 149, 29, 31, 32, 33, 34, 35, 36, 66, 67, 68, 69, 30, 94, 95, 96, 97, 83, 90, 91, 92, 93, 84, 150, 151, 152, 153, 154, 155, 156, 157, 158, 159, 160, 161, 162, 163, 164, 165, 166, 463, 464, 465, 466, 467, 478, 479, 480, 481, 482, 468, 469, 470, 471, 472, 473] (by decide +kernel) (by decide +kernel)
set_option maxRecDepth 20000 in
theorem gX9_redraw_X4_startFirst : GoodIn wsX9_redraw (wsV RX9 137 RX4 yX4_startFirst wsX4_startFirst) := goodIn_app (goodIn_of _ (by decide +kernel)) ggX9_redraw_X4_startFirst
set_option maxRecDepth 20000 in
theorem ggX9_redraw_X5_improve : GoodIn wsX9_redraw wsX5_improve := goodIn_r _ [171, 172, 173, 174, 175, 170, 176, 177, 178, 179, 124, 180, 137, 181, 182, 183, 184, 185, 186, 187, 188, 189, 190, 191, 192, 193, 135, 77, 136, 194, 195, 196, 197, 198, 101, 199, 103, 200, 201, 202, 203, 119, 120, 204, 151, 152, 153, 139, 205, 206, 207, 208, 209, 210, 211, 212, 105, 106, 107, 213, 214, 215, 216, 217, 218, 219, 220, 221, 222, 164, 165, 166, 138, 223, 224, 225, 226, 162, 163, 227, 228, 229, 230, 231, 232, 233, 234, 235, 236, 237, 238, 239, 240, 241, 242, 243, 244, 245, 246, 247, 248, 249, 250, 251, 252, 253, 254, 255, 159, 160, 161, 140, 256, 257, 258, 259, 260, 261, 262, 263, 264, 265, 266, 267, 268, 269, 270, 271, 272, 273, 274, 275, 276, 277, 278, 279, 280, 281, 282, 283, 284, 285, 286, 287, 288, 289, 290, 291, 292, 293, 294, 295, 296, 297, 298, 299, 300, 301, 302, 303, 304, 305, 306, 483, 484, 485, 486, 487, 488, 489, 490, 491, 492, 493, 494, 478, 479, 480, 481, 482, 474, 475, 476, 477, 495, 496, 497, 498, 499, 500, 501, 502, 503, 504, 505, 506, 507] (by decide +kernel) (by decide +kernel)
set_option maxRecDepth 20000 in
theorem gX9_redraw_X5_improve : GoodIn wsX9_redraw (wsV RX9 141 RX5 yX5_improve wsX5_improve) := goodIn_app (goodIn_of _ (by decide +kernel)) ggX9_redraw_X5_improve
set_option maxRecDepth 20000 in
theorem ggX9_redraw_X4_startLike : GoodIn wsX9_redraw wsX4_startLike := goodIn_r _ [310, 137, 126, 127, 128, 23, 129, 74, 130, 131, 132, 124, 133, 134, 135, 77, 136, 138, 139, 140, 141, 105, 106, 107, 163, 164, 165, 166, 311, 224, 225, 226, 162, 146, 147, 148, 149, 29, 31, 32, 33, 34, 35, 36, 66, 67, 68, 69, 30, 94, 95, 96, 97, 83, 90, 91, 92, 93, 84, 154, 155, 156, 157, 158, 159, 160, 161, 142, 143, 144, 145, 150, 151, 152, 153, 478, 479, 480, 481, 482, 463, 464, 465, 466, 467, 468, 469, 470, 471, 472, 473] (by decide +kernel) (by decide +kernel)
set_option maxRecDepth 20000 in
theorem gX9_redraw_X4_startLike : GoodIn wsX9_redraw (wsV RX9 154 RX4 yX4_startLike wsX4_startLike) := goodIn_app (goodIn_of _ (by decide +kernel)) ggX9_redraw_X4_startLike
set_option maxRecDepth 20000 in
theorem ggX9_redraw_X2_inAll : GoodIn wsX9_redraw wsX2_inAll := goodIn_r _ [315, 316, 178, 179, 124, 180, 137, 236, 237, 238, 234, 239, 240, 241, 135, 77, 136, 242, 243, 244, 197, 198, 101, 199, 103, 245, 201, 202, 203, 119, 120, 246, 151, 152, 153, 139, 247, 248, 249, 250, 478, 479, 480, 481, 482, 495, 496, 497, 474, 475, 476, 477] (by decide +kernel) (by decide +kernel)
set_option maxRecDepth 20000 in
theorem gX9_redraw_X2_inAll : GoodIn wsX9_redraw (wsV RX9 158 RX2 yX2_inAll wsX2_inAll) := goodIn_app (goodIn_of _ (by decide +kernel)) ggX9_redraw_X2_inAll
set_option maxRecDepth 20000 in
theorem ggX9_redraw_X9_movedBoxes : GoodIn wsX9_redraw wsX9_movedBoxes := goodIn_r _ [320, 321, 8, 322, 32, 33, 34, 35, 36, 323, 324, 325, 124, 326, 327, 328, 329, 330, 140, 331, 332, 333, 334, 150, 151, 152, 153, 139, 452, 453, 454, 455, 456, 457, 458, 459, 460, 461, 462, 468, 469, 470, 471, 472, 473, 478, 479, 480, 481, 482] (by decide +kernel) (by decide +kernel)
set_option maxRecDepth 20000 in
theorem gX9_redraw_X9_movedBoxes : GoodIn wsX9_redraw (wsV RX9 162 RX9 yX9_movedBoxes wsX9_movedBoxes) := goodIn_app (goodIn_of _ (by decide +kernel)) ggX9_redraw_X9_movedBoxes
set_option maxRecDepth 20000 in
theorem ggX9_redraw_X9_takeFresh : GoodIn wsX9_redraw wsX9_takeFresh := goodIn_r _ [338, 8, 4, 452, 453, 454, 455, 456, 457, 458, 459, 460, 461, 462] (by decide +kernel) (by decide +kernel)
set_option maxRecDepth 20000 in
theorem gX9_redraw_X9_takeFresh : GoodIn wsX9_redraw (wsV RX9 145 RX9 yX9_takeFresh wsX9_takeFresh) := goodIn_app (goodIn_of _ (by decide +kernel)) ggX9_redraw_X9_takeFresh
set_option maxRecDepth 20000 in
theorem ggX9_redraw_X9_takeKept : GoodIn wsX9_redraw wsX9_takeKept := goodIn_r _ [342, 8, 7, 452, 453, 454, 455, 456, 457, 458, 459, 460, 461, 462] (by decide +kernel) (by decide +kernel)
set_option maxRecDepth 20000 in
theorem gX9_redraw_X9_takeKept : GoodIn wsX9_redraw (wsV RX9 165 RX9 yX9_takeKept wsX9_takeKept) := goodIn_app (goodIn_of _ (by decide +kernel)) ggX9_redraw_X9_takeKept
set_option maxRecDepth 20000 in
theorem ggX9_redraw_X9_finish : GoodIn wsX9_redraw wsX9_finish := goodIn_r _ [346, 347, 8, 348, 18, 349, 350, 351, 352, 353, 354, 178, 179, 124, 180, 137, 355, 356, 357, 358, 359, 164, 165, 166, 138, 360, 224, 225, 226, 162, 163, 361, 362, 363, 364, 365, 366, 367, 368, 369, 370, 371, 372, 373, 374, 375, 376, 377, 378, 379, 380, 34, 381, 36, 42, 32, 33, 35, 382, 383, 384, 385, 386, 387, 388, 389, 105, 106, 107, 390, 197, 198, 101, 199, 103, 391, 201, 202, 203, 119, 120, 392, 393, 394, 395, 396, 397, 398, 399, 400, 401, 76, 77, 78, 402, 403, 404, 405, 406, 407, 408, 409, 410, 411, 135, 136, 412, 413, 414, 415, 416, 417, 418, 419, 420, 421, 422, 423, 424, 425, 426, 427, 428, 429, 430, 431, 432, 433, 434, 435, 436, 437, 438, 439, 440, 441, 442, 443, 444, 445, 446, 118, 447, 448, 449, 450, 451, 452, 453, 454, 455, 456, 457, 458, 459, 460, 461, 462, 478, 479, 480, 481, 482, 508, 509, 510, 511, 512, 468, 469, 470, 471, 472, 473, 474, 475, 476, 477, 513, 514, 515, 516, 517, 518, 519, 520] (by decide +kernel) (by decide +kernel)
set_option maxRecDepth 20000 in
theorem gX9_redraw_X9_finish : GoodIn wsX9_redraw (wsV RX9 148 RX9 yX9_finish wsX9_finish) := goodIn_app (goodIn_of _ (by decide +kernel)) ggX9_redraw_X9_finish
theorem dX9_redraw_0 : decode cX9_redraw 0 = .ok (.iload_n 1, 1) := by decide +kernel
theorem dX9_redraw_1 : decode cX9_redraw 1 = .ok (.invokestatic 130, 3) := by decide +kernel
theorem dX9_redraw_4 : decode cX9_redraw 4 = .ok (.iload_n 2, 1) := by decide +kernel
theorem dX9_redraw_5 : decode cX9_redraw 5 = .ok (.ifCond .lt 9, 3) := by decide +kernel
theorem dX9_redraw_8 : decode cX9_redraw 8 = .ok (.iload_n 2, 1) := by decide +kernel
theorem dX9_redraw_9 : decode cX9_redraw 9 = .ok (.ldc 151, 2) := by decide +kernel
theorem dX9_redraw_11 : decode cX9_redraw 11 = .ok (.if_icmp .le 13, 3) := by decide +kernel
theorem dX9_redraw_14 : decode cX9_redraw 14 = .ok (.new 89, 3) := by decide +kernel
theorem dX9_redraw_17 : decode cX9_redraw 17 = .ok (.dup, 1) := by decide +kernel
theorem dX9_redraw_18 : decode cX9_redraw 18 = .ok (.ldc 152, 2) := by decide +kernel
theorem dX9_redraw_20 : decode cX9_redraw 20 = .ok (.invokespecial 93, 3) := by decide +kernel
theorem dX9_redraw_23 : decode cX9_redraw 23 = .ok (.athrow, 1) := by decide +kernel
theorem dX9_redraw_24 : decode cX9_redraw 24 = .ok (.aload_n 0, 1) := by decide +kernel
theorem dX9_redraw_25 : decode cX9_redraw 25 = .ok (.invokevirtual 133, 3) := by decide +kernel
theorem dX9_redraw_28 : decode cX9_redraw 28 = .ok (.ifCond .ne 5, 3) := by decide +kernel
theorem dX9_redraw_31 : decode cX9_redraw 31 = .ok (.iconst (-1), 1) := by decide +kernel
theorem dX9_redraw_32 : decode cX9_redraw 32 = .ok (.ireturn, 1) := by decide +kernel
theorem dX9_redraw_33 : decode cX9_redraw 33 = .ok (.aload_n 0, 1) := by decide +kernel
theorem dX9_redraw_34 : decode cX9_redraw 34 = .ok (.getfield 75, 3) := by decide +kernel
theorem dX9_redraw_37 : decode cX9_redraw 37 = .ok (.aload_n 0, 1) := by decide +kernel
theorem dX9_redraw_38 : decode cX9_redraw 38 = .ok (.getfield 21, 3) := by decide +kernel
theorem dX9_redraw_41 : decode cX9_redraw 41 = .ok (.invokevirtual 137, 3) := by decide +kernel
theorem dX9_redraw_44 : decode cX9_redraw 44 = .ok (.aload_n 0, 1) := by decide +kernel
theorem dX9_redraw_45 : decode cX9_redraw 45 = .ok (.getfield 46, 3) := by decide +kernel
theorem dX9_redraw_48 : decode cX9_redraw 48 = .ok (.aload_n 0, 1) := by decide +kernel
theorem dX9_redraw_49 : decode cX9_redraw 49 = .ok (.getfield 75, 3) := by decide +kernel
theorem dX9_redraw_52 : decode cX9_redraw 52 = .ok (.iload_n 1, 1) := by decide +kernel
theorem dX9_redraw_53 : decode cX9_redraw 53 = .ok (.invokevirtual 141, 3) := by decide +kernel
theorem dX9_redraw_56 : decode cX9_redraw 56 = .ok (.aload_n 0, 1) := by decide +kernel
theorem dX9_redraw_57 : decode cX9_redraw 57 = .ok (.getfield 78, 3) := by decide +kernel
theorem dX9_redraw_60 : decode cX9_redraw 60 = .ok (.aload_n 0, 1) := by decide +kernel
theorem dX9_redraw_61 : decode cX9_redraw 61 = .ok (.getfield 71, 3) := by decide +kernel
theorem dX9_redraw_64 : decode cX9_redraw 64 = .ok (.aload_n 0, 1) := by decide +kernel
theorem dX9_redraw_65 : decode cX9_redraw 65 = .ok (.getfield 21, 3) := by decide +kernel
theorem dX9_redraw_68 : decode cX9_redraw 68 = .ok (.invokevirtual 154, 3) := by decide +kernel
theorem dX9_redraw_71 : decode cX9_redraw 71 = .ok (.aload_n 0, 1) := by decide +kernel
theorem dX9_redraw_72 : decode cX9_redraw 72 = .ok (.getfield 37, 3) := by decide +kernel
theorem dX9_redraw_75 : decode cX9_redraw 75 = .ok (.aload_n 0, 1) := by decide +kernel
theorem dX9_redraw_76 : decode cX9_redraw 76 = .ok (.getfield 78, 3) := by decide +kernel
theorem dX9_redraw_79 : decode cX9_redraw 79 = .ok (.invokevirtual 158, 3) := by decide +kernel
theorem dX9_redraw_82 : decode cX9_redraw 82 = .ok (.aload_n 0, 1) := by decide +kernel
theorem dX9_redraw_83 : decode cX9_redraw 83 = .ok (.getfield 37, 3) := by decide +kernel
theorem dX9_redraw_86 : decode cX9_redraw 86 = .ok (.aload_n 0, 1) := by decide +kernel
theorem dX9_redraw_87 : decode cX9_redraw 87 = .ok (.getfield 75, 3) := by decide +kernel
theorem dX9_redraw_90 : decode cX9_redraw 90 = .ok (.invokevirtual 158, 3) := by decide +kernel
theorem dX9_redraw_93 : decode cX9_redraw 93 = .ok (.isub, 1) := by decide +kernel
theorem dX9_redraw_94 : decode cX9_redraw 94 = .ok (.iload_n 2, 1) := by decide +kernel
theorem dX9_redraw_95 : decode cX9_redraw 95 = .ok (.if_icmp .le 7, 3) := by decide +kernel
theorem dX9_redraw_98 : decode cX9_redraw 98 = .ok (.iconst 1, 1) := by decide +kernel
theorem dX9_redraw_99 : decode cX9_redraw 99 = .ok (.goto 4, 3) := by decide +kernel
theorem dX9_redraw_102 : decode cX9_redraw 102 = .ok (.iconst 0, 1) := by decide +kernel
theorem dX9_redraw_103 : decode cX9_redraw 103 = .ok (.istore_n 3, 1) := by decide +kernel
theorem dX9_redraw_104 : decode cX9_redraw 104 = .ok (.aload_n 0, 1) := by decide +kernel
theorem dX9_redraw_105 : decode cX9_redraw 105 = .ok (.iload_n 3, 1) := by decide +kernel
theorem dX9_redraw_106 : decode cX9_redraw 106 = .ok (.ifCond .eq 10, 3) := by decide +kernel
theorem dX9_redraw_109 : decode cX9_redraw 109 = .ok (.aload_n 0, 1) := by decide +kernel
theorem dX9_redraw_110 : decode cX9_redraw 110 = .ok (.getfield 75, 3) := by decide +kernel
theorem dX9_redraw_113 : decode cX9_redraw 113 = .ok (.goto 7, 3) := by decide +kernel
theorem dX9_redraw_116 : decode cX9_redraw 116 = .ok (.aload_n 0, 1) := by decide +kernel
theorem dX9_redraw_117 : decode cX9_redraw 117 = .ok (.getfield 78, 3) := by decide +kernel
theorem dX9_redraw_120 : decode cX9_redraw 120 = .ok (.invokevirtual 162, 3) := by decide +kernel
theorem dX9_redraw_123 : decode cX9_redraw 123 = .ok (.istore 4, 2) := by decide +kernel
theorem dX9_redraw_125 : decode cX9_redraw 125 = .ok (.iload_n 3, 1) := by decide +kernel
theorem dX9_redraw_126 : decode cX9_redraw 126 = .ok (.ifCond .eq 10, 3) := by decide +kernel
theorem dX9_redraw_129 : decode cX9_redraw 129 = .ok (.aload_n 0, 1) := by decide +kernel
theorem dX9_redraw_130 : decode cX9_redraw 130 = .ok (.invokevirtual 145, 3) := by decide +kernel
theorem dX9_redraw_133 : decode cX9_redraw 133 = .ok (.goto 7, 3) := by decide +kernel
theorem dX9_redraw_136 : decode cX9_redraw 136 = .ok (.aload_n 0, 1) := by decide +kernel
theorem dX9_redraw_137 : decode cX9_redraw 137 = .ok (.invokevirtual 165, 3) := by decide +kernel
theorem dX9_redraw_140 : decode cX9_redraw 140 = .ok (.aload_n 0, 1) := by decide +kernel
theorem dX9_redraw_141 : decode cX9_redraw 141 = .ok (.invokevirtual 148, 3) := by decide +kernel
theorem dX9_redraw_144 : decode cX9_redraw 144 = .ok (.iload 4, 2) := by decide +kernel
theorem dX9_redraw_146 : decode cX9_redraw 146 = .ok (.ireturn, 1) := by decide +kernel
set_option maxRecDepth 20000 in
theorem ggX9_at_X9_needBoxNumber : GoodIn wsX9_at wsX9_needBoxNumber := goodIn_ca (goodIn_r _ [9, 10, 11] (by decide +kernel) (by decide +kernel)) (goodIn_sub (fun _ h => List.mem_cons_of_mem _ (List.mem_append_right _ h)) (by decide +kernel))
set_option maxRecDepth 20000 in
theorem gX9_at_X9_needBoxNumber : GoodIn wsX9_at (va_wsS RX9 85 yX9_needBoxNumber wsX9_needBoxNumber) := goodIn_app (goodIn_of _ (by decide +kernel)) ggX9_at_X9_needBoxNumber
set_option maxRecDepth 20000 in
theorem ggX9_at_X9_needWhat : GoodIn wsX9_at wsX9_needWhat := goodIn_ca (goodIn_r _ [14, 10, 11] (by decide +kernel) (by decide +kernel)) (goodIn_sub (fun _ h => List.mem_cons_of_mem _ (List.mem_append_right _ h)) (by decide +kernel))
set_option maxRecDepth 20000 in
theorem gX9_at_X9_needWhat : GoodIn wsX9_at (va_wsS RX9 168 yX9_needWhat wsX9_needWhat) := goodIn_app (goodIn_of _ (by decide +kernel)) ggX9_at_X9_needWhat
set_option maxRecDepth 20000 in
theorem ggX9_at_X7_hasBox : GoodIn wsX9_at wsX7_hasBox := goodIn_r _ [19, 20, 53, 54, 55, 56, 57, 58] (by decide +kernel) (by decide +kernel)
set_option maxRecDepth 20000 in
theorem gX9_at_X7_hasBox : GoodIn wsX9_at (wsV RX9 100 RX7 yX7_hasBox wsX7_hasBox) := goodIn_app (goodIn_of _ (by decide +kernel)) ggX9_at_X7_hasBox
set_option maxRecDepth 20000 in
theorem ggX9_at_X3_layerOf : GoodIn wsX9_at wsX3_layerOf := goodIn_r _ [25, 26, 59, 60, 61, 62, 63] (by decide +kernel) (by decide +kernel)
set_option maxRecDepth 20000 in
theorem gX9_at_X3_layerOf : GoodIn wsX9_at (wsV RX9 171 RX3 yX3_layerOf wsX3_layerOf) := goodIn_app (goodIn_of _ (by decide +kernel)) ggX9_at_X3_layerOf
set_option maxRecDepth 20000 in
theorem ggX9_at_X4_placeIn : GoodIn wsX9_at wsX4_placeIn := goodIn_r _ [31, 32, 64, 65, 66, 67, 68] (by decide +kernel) (by decide +kernel)
set_option maxRecDepth 20000 in
theorem gX9_at_X4_placeIn : GoodIn wsX9_at (wsV RX9 175 RX4 yX4_placeIn wsX4_placeIn) := goodIn_app (goodIn_of _ (by decide +kernel)) ggX9_at_X4_placeIn
set_option maxRecDepth 20000 in
theorem ggX9_at_X1_leftOf : GoodIn wsX9_at wsX1_leftOf := goodIn_r _ [37, 38, 39, 40, 36, 41, 69, 70, 71, 72, 73] (by decide +kernel) (by decide +kernel)
set_option maxRecDepth 20000 in
theorem gX9_at_X1_leftOf : GoodIn wsX9_at (wsV RX9 179 RX1 yX1_leftOf wsX1_leftOf) := goodIn_app (goodIn_of _ (by decide +kernel)) ggX9_at_X1_leftOf
theorem dX9_at_0 : decode cX9_at 0 = .ok (.iload_n 1, 1) := by decide +kernel
theorem dX9_at_1 : decode cX9_at 1 = .ok (.invokestatic 85, 3) := by decide +kernel
theorem dX9_at_4 : decode cX9_at 4 = .ok (.iload_n 2, 1) := by decide +kernel
theorem dX9_at_5 : decode cX9_at 5 = .ok (.iconst 2, 1) := by decide +kernel
theorem dX9_at_6 : decode cX9_at 6 = .ok (.invokestatic 168, 3) := by decide +kernel
theorem dX9_at_9 : decode cX9_at 9 = .ok (.aload_n 0, 1) := by decide +kernel
theorem dX9_at_10 : decode cX9_at 10 = .ok (.getfield 81, 3) := by decide +kernel
theorem dX9_at_13 : decode cX9_at 13 = .ok (.ifCond .eq 14, 3) := by decide +kernel
theorem dX9_at_16 : decode cX9_at 16 = .ok (.aload_n 0, 1) := by decide +kernel
theorem dX9_at_17 : decode cX9_at 17 = .ok (.getfield 12, 3) := by decide +kernel
theorem dX9_at_20 : decode cX9_at 20 = .ok (.iload_n 1, 1) := by decide +kernel
theorem dX9_at_21 : decode cX9_at 21 = .ok (.invokevirtual 100, 3) := by decide +kernel
theorem dX9_at_24 : decode cX9_at 24 = .ok (.ifCond .ne 5, 3) := by decide +kernel
theorem dX9_at_27 : decode cX9_at 27 = .ok (.iconst (-1), 1) := by decide +kernel
theorem dX9_at_28 : decode cX9_at 28 = .ok (.ireturn, 1) := by decide +kernel
theorem dX9_at_29 : decode cX9_at 29 = .ok (.aload_n 0, 1) := by decide +kernel
theorem dX9_at_30 : decode cX9_at 30 = .ok (.getfield 21, 3) := by decide +kernel
theorem dX9_at_33 : decode cX9_at 33 = .ok (.iload_n 1, 1) := by decide +kernel
theorem dX9_at_34 : decode cX9_at 34 = .ok (.invokevirtual 171, 3) := by decide +kernel
theorem dX9_at_37 : decode cX9_at 37 = .ok (.istore_n 3, 1) := by decide +kernel
theorem dX9_at_38 : decode cX9_at 38 = .ok (.iload_n 2, 1) := by decide +kernel
theorem dX9_at_39 : decode cX9_at 39 = .ok (.lookupswitch 37 #[(0, 25), (1, 27)], 25) := by decide +kernel
theorem dX9_at_64 : decode cX9_at 64 = .ok (.iload_n 3, 1) := by decide +kernel
theorem dX9_at_65 : decode cX9_at 65 = .ok (.ireturn, 1) := by decide +kernel
theorem dX9_at_66 : decode cX9_at 66 = .ok (.aload_n 0, 1) := by decide +kernel
theorem dX9_at_67 : decode cX9_at 67 = .ok (.getfield 71, 3) := by decide +kernel
theorem dX9_at_70 : decode cX9_at 70 = .ok (.iload_n 3, 1) := by decide +kernel
theorem dX9_at_71 : decode cX9_at 71 = .ok (.iload_n 1, 1) := by decide +kernel
theorem dX9_at_72 : decode cX9_at 72 = .ok (.invokevirtual 175, 3) := by decide +kernel
theorem dX9_at_75 : decode cX9_at 75 = .ok (.ireturn, 1) := by decide +kernel
theorem dX9_at_76 : decode cX9_at 76 = .ok (.aload_n 0, 1) := by decide +kernel
theorem dX9_at_77 : decode cX9_at 77 = .ok (.getfield 55, 3) := by decide +kernel
theorem dX9_at_80 : decode cX9_at 80 = .ok (.iload_n 3, 1) := by decide +kernel
theorem dX9_at_81 : decode cX9_at 81 = .ok (.iload_n 1, 1) := by decide +kernel
theorem dX9_at_82 : decode cX9_at 82 = .ok (.invokevirtual 179, 3) := by decide +kernel
theorem dX9_at_85 : decode cX9_at 85 = .ok (.ireturn, 1) := by decide +kernel
set_option maxRecDepth 20000 in
theorem ggX9_reversed_X9_needArrowNumber : GoodIn wsX9_reversed wsX9_needArrowNumber := goodIn_ca (goodIn_r _ [5, 6, 7] (by decide +kernel) (by decide +kernel)) (goodIn_sub (fun _ h => List.mem_cons_of_mem _ (List.mem_append_right _ h)) (by decide +kernel))
set_option maxRecDepth 20000 in
theorem gX9_reversed_X9_needArrowNumber : GoodIn wsX9_reversed (va_wsS RX9 107 yX9_needArrowNumber wsX9_needArrowNumber) := goodIn_app (goodIn_of _ (by decide +kernel)) ggX9_reversed_X9_needArrowNumber
set_option maxRecDepth 20000 in
theorem ggX9_reversed_X7_hasArrow : GoodIn wsX9_reversed wsX7_hasArrow := goodIn_r _ [12, 13, 31, 32, 33, 34, 35, 36] (by decide +kernel) (by decide +kernel)
set_option maxRecDepth 20000 in
theorem gX9_reversed_X7_hasArrow : GoodIn wsX9_reversed (wsV RX9 119 RX7 yX7_hasArrow wsX7_hasArrow) := goodIn_app (goodIn_of _ (by decide +kernel)) ggX9_reversed_X7_hasArrow
set_option maxRecDepth 20000 in
theorem ggX9_reversed_X7_isTurned : GoodIn wsX9_reversed wsX7_isTurned := goodIn_r _ [17, 18, 19, 9, 10, 11, 12, 13, 31, 32, 33, 34, 35, 36] (by decide +kernel) (by decide +kernel)
set_option maxRecDepth 20000 in
theorem gX9_reversed_X7_isTurned : GoodIn wsX9_reversed (wsV RX9 182 RX7 yX7_isTurned wsX7_isTurned) := goodIn_app (goodIn_of _ (by decide +kernel)) ggX9_reversed_X7_isTurned
theorem dX9_reversed_0 : decode cX9_reversed 0 = .ok (.iload_n 1, 1) := by decide +kernel
theorem dX9_reversed_1 : decode cX9_reversed 1 = .ok (.invokestatic 107, 3) := by decide +kernel
theorem dX9_reversed_4 : decode cX9_reversed 4 = .ok (.aload_n 0, 1) := by decide +kernel
theorem dX9_reversed_5 : decode cX9_reversed 5 = .ok (.getfield 12, 3) := by decide +kernel
theorem dX9_reversed_8 : decode cX9_reversed 8 = .ok (.iload_n 1, 1) := by decide +kernel
theorem dX9_reversed_9 : decode cX9_reversed 9 = .ok (.invokevirtual 119, 3) := by decide +kernel
theorem dX9_reversed_12 : decode cX9_reversed 12 = .ok (.ifCond .ne 5, 3) := by decide +kernel
theorem dX9_reversed_15 : decode cX9_reversed 15 = .ok (.iconst (-1), 1) := by decide +kernel
theorem dX9_reversed_16 : decode cX9_reversed 16 = .ok (.ireturn, 1) := by decide +kernel
theorem dX9_reversed_17 : decode cX9_reversed 17 = .ok (.aload_n 0, 1) := by decide +kernel
theorem dX9_reversed_18 : decode cX9_reversed 18 = .ok (.getfield 12, 3) := by decide +kernel
theorem dX9_reversed_21 : decode cX9_reversed 21 = .ok (.iload_n 1, 1) := by decide +kernel
theorem dX9_reversed_22 : decode cX9_reversed 22 = .ok (.invokevirtual 182, 3) := by decide +kernel
theorem dX9_reversed_25 : decode cX9_reversed 25 = .ok (.ifCond .eq 7, 3) := by decide +kernel
theorem dX9_reversed_28 : decode cX9_reversed 28 = .ok (.iconst 1, 1) := by decide +kernel
theorem dX9_reversed_29 : decode cX9_reversed 29 = .ok (.goto 4, 3) := by decide +kernel
theorem dX9_reversed_32 : decode cX9_reversed 32 = .ok (.iconst 0, 1) := by decide +kernel
theorem dX9_reversed_33 : decode cX9_reversed 33 = .ok (.ireturn, 1) := by decide +kernel
set_option maxRecDepth 20000 in
theorem ggX9_item_X4_itemIn : GoodIn wsX9_item wsX4_itemIn := goodIn_r _ [7, 8, 9, 10, 11, 6, 12, 13, 14, 26, 27, 28, 29, 30] (by decide +kernel) (by decide +kernel)
set_option maxRecDepth 20000 in
theorem gX9_item_X4_itemIn : GoodIn wsX9_item (wsV RX9 185 RX4 yX4_itemIn wsX4_itemIn) := goodIn_app (goodIn_of _ (by decide +kernel)) ggX9_item_X4_itemIn
theorem dX9_item_0 : decode cX9_item 0 = .ok (.aload_n 0, 1) := by decide +kernel
theorem dX9_item_1 : decode cX9_item 1 = .ok (.getfield 81, 3) := by decide +kernel
theorem dX9_item_4 : decode cX9_item 4 = .ok (.ifCond .ne 5, 3) := by decide +kernel
theorem dX9_item_7 : decode cX9_item 7 = .ok (.iconst (-1), 1) := by decide +kernel
theorem dX9_item_8 : decode cX9_item 8 = .ok (.ireturn, 1) := by decide +kernel
theorem dX9_item_9 : decode cX9_item 9 = .ok (.aload_n 0, 1) := by decide +kernel
theorem dX9_item_10 : decode cX9_item 10 = .ok (.getfield 71, 3) := by decide +kernel
theorem dX9_item_13 : decode cX9_item 13 = .ok (.iload_n 1, 1) := by decide +kernel
theorem dX9_item_14 : decode cX9_item 14 = .ok (.iload_n 2, 1) := by decide +kernel
theorem dX9_item_15 : decode cX9_item 15 = .ok (.invokevirtual 185, 3) := by decide +kernel
theorem dX9_item_18 : decode cX9_item 18 = .ok (.istore_n 3, 1) := by decide +kernel
theorem dX9_item_19 : decode cX9_item 19 = .ok (.iload_n 3, 1) := by decide +kernel
theorem dX9_item_20 : decode cX9_item 20 = .ok (.bipush 16, 2) := by decide +kernel
theorem dX9_item_22 : decode cX9_item 22 = .ok (.if_icmp .ge 7, 3) := by decide +kernel
theorem dX9_item_25 : decode cX9_item 25 = .ok (.iload_n 3, 1) := by decide +kernel
theorem dX9_item_26 : decode cX9_item 26 = .ok (.goto 10, 3) := by decide +kernel
theorem dX9_item_29 : decode cX9_item 29 = .ok (.bipush 100, 2) := by decide +kernel
theorem dX9_item_31 : decode cX9_item 31 = .ok (.iload_n 3, 1) := by decide +kernel
theorem dX9_item_32 : decode cX9_item 32 = .ok (.iadd, 1) := by decide +kernel
theorem dX9_item_33 : decode cX9_item 33 = .ok (.bipush 16, 2) := by decide +kernel
theorem dX9_item_35 : decode cX9_item 35 = .ok (.isub, 1) := by decide +kernel
theorem dX9_item_36 : decode cX9_item 36 = .ok (.ireturn, 1) := by decide +kernel
set_option maxRecDepth 20000 in
theorem ggX9_piece_X9_needArrowNumber : GoodIn wsX9_piece wsX9_needArrowNumber := goodIn_ca (goodIn_r _ [8, 9, 10] (by decide +kernel) (by decide +kernel)) (goodIn_sub (fun _ h => List.mem_cons_of_mem _ (List.mem_append_right _ h)) (by decide +kernel))
set_option maxRecDepth 20000 in
theorem gX9_piece_X9_needArrowNumber : GoodIn wsX9_piece (va_wsS RX9 107 yX9_needArrowNumber wsX9_needArrowNumber) := goodIn_app (goodIn_of _ (by decide +kernel)) ggX9_piece_X9_needArrowNumber
set_option maxRecDepth 20000 in
theorem ggX9_piece_X9_needWhat : GoodIn wsX9_piece wsX9_needWhat := goodIn_ca (goodIn_r _ [13, 9, 10] (by decide +kernel) (by decide +kernel)) (goodIn_sub (fun _ h => List.mem_cons_of_mem _ (List.mem_append_right _ h)) (by decide +kernel))
set_option maxRecDepth 20000 in
theorem gX9_piece_X9_needWhat : GoodIn wsX9_piece (va_wsS RX9 168 yX9_needWhat wsX9_needWhat) := goodIn_app (goodIn_of _ (by decide +kernel)) ggX9_piece_X9_needWhat
set_option maxRecDepth 20000 in
theorem ggX9_piece_X3_hasPiece : GoodIn wsX9_piece wsX3_hasPiece := goodIn_r _ [18, 19, 20, 21, 17, 22, 23, 24, 25, 26, 27, 28, 90, 91, 92, 93, 94] (by decide +kernel) (by decide +kernel)
set_option maxRecDepth 20000 in
theorem gX9_piece_X3_hasPiece : GoodIn wsX9_piece (wsV RX9 188 RX3 yX3_hasPiece wsX3_hasPiece) := goodIn_app (goodIn_of _ (by decide +kernel)) ggX9_piece_X3_hasPiece
set_option maxRecDepth 20000 in
theorem ggX9_piece_X3_itemOf : GoodIn wsX9_piece wsX3_itemOf := goodIn_r _ [32, 33, 19, 20, 21, 17, 22, 23, 34, 35, 36, 37, 38, 39, 40, 41, 42, 43, 44, 45, 24, 25, 26, 27, 28, 46, 47, 48, 49, 90, 91, 92, 93, 94, 95, 96, 97, 98, 99, 100] (by decide +kernel) (by decide +kernel)
set_option maxRecDepth 20000 in
theorem gX9_piece_X3_itemOf : GoodIn wsX9_piece (wsV RX9 192 RX3 yX3_itemOf wsX3_itemOf) := goodIn_app (goodIn_of _ (by decide +kernel)) ggX9_piece_X3_itemOf
set_option maxRecDepth 20000 in
theorem ggX9_piece_X1_middleOf : GoodIn wsX9_piece wsX1_middleOf := goodIn_r _ [54, 55, 56, 57, 58, 53, 59, 60, 61, 62, 63, 64, 65, 66, 37, 67, 68, 69, 70, 71, 72, 101, 102, 103, 104, 105, 95, 96, 97, 98, 99, 100] (by decide +kernel) (by decide +kernel)
set_option maxRecDepth 20000 in
theorem gX9_piece_X1_middleOf : GoodIn wsX9_piece (wsV RX9 195 RX1 yX1_middleOf wsX1_middleOf) := goodIn_app (goodIn_of _ (by decide +kernel)) ggX9_piece_X1_middleOf
set_option maxRecDepth 20000 in
theorem ggX9_piece_X8_trackOf : GoodIn wsX9_piece wsX8_trackOf := goodIn_r _ [77, 78, 106, 107, 108, 109, 110, 111, 112, 113] (by decide +kernel) (by decide +kernel)
set_option maxRecDepth 20000 in
theorem gX9_piece_X8_trackOf : GoodIn wsX9_piece (wsV RX9 198 RX8 yX8_trackOf wsX8_trackOf) := goodIn_app (goodIn_of _ (by decide +kernel)) ggX9_piece_X8_trackOf
theorem dX9_piece_0 : decode cX9_piece 0 = .ok (.iload_n 1, 1) := by decide +kernel
theorem dX9_piece_1 : decode cX9_piece 1 = .ok (.invokestatic 107, 3) := by decide +kernel
theorem dX9_piece_4 : decode cX9_piece 4 = .ok (.iload_n 3, 1) := by decide +kernel
theorem dX9_piece_5 : decode cX9_piece 5 = .ok (.iconst 2, 1) := by decide +kernel
theorem dX9_piece_6 : decode cX9_piece 6 = .ok (.invokestatic 168, 3) := by decide +kernel
theorem dX9_piece_9 : decode cX9_piece 9 = .ok (.aload_n 0, 1) := by decide +kernel
theorem dX9_piece_10 : decode cX9_piece 10 = .ok (.getfield 81, 3) := by decide +kernel
theorem dX9_piece_13 : decode cX9_piece 13 = .ok (.ifCond .eq 15, 3) := by decide +kernel
theorem dX9_piece_16 : decode cX9_piece 16 = .ok (.aload_n 0, 1) := by decide +kernel
theorem dX9_piece_17 : decode cX9_piece 17 = .ok (.getfield 21, 3) := by decide +kernel
theorem dX9_piece_20 : decode cX9_piece 20 = .ok (.iload_n 1, 1) := by decide +kernel
theorem dX9_piece_21 : decode cX9_piece 21 = .ok (.iload_n 2, 1) := by decide +kernel
theorem dX9_piece_22 : decode cX9_piece 22 = .ok (.invokevirtual 188, 3) := by decide +kernel
theorem dX9_piece_25 : decode cX9_piece 25 = .ok (.ifCond .ne 5, 3) := by decide +kernel
theorem dX9_piece_28 : decode cX9_piece 28 = .ok (.iconst (-1), 1) := by decide +kernel
theorem dX9_piece_29 : decode cX9_piece 29 = .ok (.ireturn, 1) := by decide +kernel
theorem dX9_piece_30 : decode cX9_piece 30 = .ok (.iload_n 3, 1) := by decide +kernel
theorem dX9_piece_31 : decode cX9_piece 31 = .ok (.lookupswitch 65 #[(0, 25), (1, 43)], 25) := by decide +kernel
theorem dX9_piece_56 : decode cX9_piece 56 = .ok (.aload_n 0, 1) := by decide +kernel
theorem dX9_piece_57 : decode cX9_piece 57 = .ok (.getfield 55, 3) := by decide +kernel
theorem dX9_piece_60 : decode cX9_piece 60 = .ok (.iload_n 2, 1) := by decide +kernel
theorem dX9_piece_61 : decode cX9_piece 61 = .ok (.aload_n 0, 1) := by decide +kernel
theorem dX9_piece_62 : decode cX9_piece 62 = .ok (.getfield 21, 3) := by decide +kernel
theorem dX9_piece_65 : decode cX9_piece 65 = .ok (.iload_n 1, 1) := by decide +kernel
theorem dX9_piece_66 : decode cX9_piece 66 = .ok (.iload_n 2, 1) := by decide +kernel
theorem dX9_piece_67 : decode cX9_piece 67 = .ok (.invokevirtual 192, 3) := by decide +kernel
theorem dX9_piece_70 : decode cX9_piece 70 = .ok (.invokevirtual 195, 3) := by decide +kernel
theorem dX9_piece_73 : decode cX9_piece 73 = .ok (.ireturn, 1) := by decide +kernel
theorem dX9_piece_74 : decode cX9_piece 74 = .ok (.aload_n 0, 1) := by decide +kernel
theorem dX9_piece_75 : decode cX9_piece 75 = .ok (.getfield 55, 3) := by decide +kernel
theorem dX9_piece_78 : decode cX9_piece 78 = .ok (.iload_n 2, 1) := by decide +kernel
theorem dX9_piece_79 : decode cX9_piece 79 = .ok (.iconst 1, 1) := by decide +kernel
theorem dX9_piece_80 : decode cX9_piece 80 = .ok (.iadd, 1) := by decide +kernel
theorem dX9_piece_81 : decode cX9_piece 81 = .ok (.aload_n 0, 1) := by decide +kernel
theorem dX9_piece_82 : decode cX9_piece 82 = .ok (.getfield 21, 3) := by decide +kernel
theorem dX9_piece_85 : decode cX9_piece 85 = .ok (.iload_n 1, 1) := by decide +kernel
theorem dX9_piece_86 : decode cX9_piece 86 = .ok (.iload_n 2, 1) := by decide +kernel
theorem dX9_piece_87 : decode cX9_piece 87 = .ok (.iconst 1, 1) := by decide +kernel
theorem dX9_piece_88 : decode cX9_piece 88 = .ok (.iadd, 1) := by decide +kernel
theorem dX9_piece_89 : decode cX9_piece 89 = .ok (.invokevirtual 192, 3) := by decide +kernel
theorem dX9_piece_92 : decode cX9_piece 92 = .ok (.invokevirtual 195, 3) := by decide +kernel
theorem dX9_piece_95 : decode cX9_piece 95 = .ok (.ireturn, 1) := by decide +kernel
theorem dX9_piece_96 : decode cX9_piece 96 = .ok (.aload_n 0, 1) := by decide +kernel
theorem dX9_piece_97 : decode cX9_piece 97 = .ok (.getfield 64, 3) := by decide +kernel
theorem dX9_piece_100 : decode cX9_piece 100 = .ok (.iload_n 1, 1) := by decide +kernel
theorem dX9_piece_101 : decode cX9_piece 101 = .ok (.iload_n 2, 1) := by decide +kernel
theorem dX9_piece_102 : decode cX9_piece 102 = .ok (.invokevirtual 198, 3) := by decide +kernel
theorem dX9_piece_105 : decode cX9_piece 105 = .ok (.ireturn, 1) := by decide +kernel
set_option maxRecDepth 20000 in
theorem ggX9_between_X9_needWhat : GoodIn wsX9_between wsX9_needWhat := goodIn_ca (goodIn_r _ [9, 10, 11] (by decide +kernel) (by decide +kernel)) (goodIn_sub (fun _ h => List.mem_cons_of_mem _ (List.mem_append_right _ h)) (by decide +kernel))
set_option maxRecDepth 20000 in
theorem gX9_between_X9_needWhat : GoodIn wsX9_between (va_wsS RX9 168 yX9_needWhat wsX9_needWhat) := goodIn_app (goodIn_of _ (by decide +kernel)) ggX9_between_X9_needWhat
set_option maxRecDepth 20000 in
theorem ggX9_between_X3_layers : GoodIn wsX9_between wsX3_layers := goodIn_r _ [16, 17, 69, 70, 71, 72, 73] (by decide +kernel) (by decide +kernel)
set_option maxRecDepth 20000 in
theorem gX9_between_X3_layers : GoodIn wsX9_between (wsV RX9 201 RX3 yX3_layers wsX3_layers) := goodIn_app (goodIn_of _ (by decide +kernel)) ggX9_between_X3_layers
set_option maxRecDepth 20000 in
theorem ggX9_between_X2_inGap : GoodIn wsX9_between wsX2_inGap := goodIn_r _ [22, 23, 24, 25, 26, 27, 28, 29, 30, 31, 32, 33, 34, 35, 36, 37, 38, 39, 40, 41, 42, 43, 44, 45, 46, 47, 48, 49, 50, 51, 74, 75, 76, 77, 78, 79, 80, 81, 82, 83, 84, 85] (by decide +kernel) (by decide +kernel)
set_option maxRecDepth 20000 in
theorem gX9_between_X2_inGap : GoodIn wsX9_between (wsV RX9 205 RX2 yX2_inGap wsX2_inGap) := goodIn_app (goodIn_of _ (by decide +kernel)) ggX9_between_X2_inGap
set_option maxRecDepth 20000 in
theorem ggX9_between_X8_tracksIn : GoodIn wsX9_between wsX8_tracksIn := goodIn_r _ [56, 57, 86, 87, 88, 89, 90, 91, 92, 93] (by decide +kernel) (by decide +kernel)
set_option maxRecDepth 20000 in
theorem gX9_between_X8_tracksIn : GoodIn wsX9_between (wsV RX9 209 RX8 yX8_tracksIn wsX8_tracksIn) := goodIn_app (goodIn_of _ (by decide +kernel)) ggX9_between_X8_tracksIn
theorem dX9_between_0 : decode cX9_between 0 = .ok (.iload_n 2, 1) := by decide +kernel
theorem dX9_between_1 : decode cX9_between 1 = .ok (.iconst 1, 1) := by decide +kernel
theorem dX9_between_2 : decode cX9_between 2 = .ok (.invokestatic 168, 3) := by decide +kernel
theorem dX9_between_5 : decode cX9_between 5 = .ok (.aload_n 0, 1) := by decide +kernel
theorem dX9_between_6 : decode cX9_between 6 = .ok (.getfield 81, 3) := by decide +kernel
theorem dX9_between_9 : decode cX9_between 9 = .ok (.ifCond .eq 20, 3) := by decide +kernel
theorem dX9_between_12 : decode cX9_between 12 = .ok (.iload_n 1, 1) := by decide +kernel
theorem dX9_between_13 : decode cX9_between 13 = .ok (.ifCond .lt 16, 3) := by decide +kernel
theorem dX9_between_16 : decode cX9_between 16 = .ok (.iload_n 1, 1) := by decide +kernel
theorem dX9_between_17 : decode cX9_between 17 = .ok (.aload_n 0, 1) := by decide +kernel
theorem dX9_between_18 : decode cX9_between 18 = .ok (.getfield 21, 3) := by decide +kernel
theorem dX9_between_21 : decode cX9_between 21 = .ok (.invokevirtual 201, 3) := by decide +kernel
theorem dX9_between_24 : decode cX9_between 24 = .ok (.iconst 1, 1) := by decide +kernel
theorem dX9_between_25 : decode cX9_between 25 = .ok (.isub, 1) := by decide +kernel
theorem dX9_between_26 : decode cX9_between 26 = .ok (.if_icmp .lt 5, 3) := by decide +kernel
theorem dX9_between_29 : decode cX9_between 29 = .ok (.iconst (-1), 1) := by decide +kernel
theorem dX9_between_30 : decode cX9_between 30 = .ok (.ireturn, 1) := by decide +kernel
theorem dX9_between_31 : decode cX9_between 31 = .ok (.iload_n 2, 1) := by decide +kernel
theorem dX9_between_32 : decode cX9_between 32 = .ok (.ifCond .ne 18, 3) := by decide +kernel
theorem dX9_between_35 : decode cX9_between 35 = .ok (.aload_n 0, 1) := by decide +kernel
theorem dX9_between_36 : decode cX9_between 36 = .ok (.getfield 37, 3) := by decide +kernel
theorem dX9_between_39 : decode cX9_between 39 = .ok (.aload_n 0, 1) := by decide +kernel
theorem dX9_between_40 : decode cX9_between 40 = .ok (.getfield 71, 3) := by decide +kernel
theorem dX9_between_43 : decode cX9_between 43 = .ok (.iload_n 1, 1) := by decide +kernel
theorem dX9_between_44 : decode cX9_between 44 = .ok (.invokevirtual 205, 3) := by decide +kernel
theorem dX9_between_47 : decode cX9_between 47 = .ok (.goto 11, 3) := by decide +kernel
theorem dX9_between_50 : decode cX9_between 50 = .ok (.aload_n 0, 1) := by decide +kernel
theorem dX9_between_51 : decode cX9_between 51 = .ok (.getfield 64, 3) := by decide +kernel
theorem dX9_between_54 : decode cX9_between 54 = .ok (.iload_n 1, 1) := by decide +kernel
theorem dX9_between_55 : decode cX9_between 55 = .ok (.invokevirtual 209, 3) := by decide +kernel
theorem dX9_between_58 : decode cX9_between 58 = .ok (.ireturn, 1) := by decide +kernel
set_option maxRecDepth 20000 in
theorem ggX9_count_X7_boxes : GoodIn wsX9_count wsX7_boxes := goodIn_r _ [7, 8, 9, 10, 6, 11, 12, 149, 150, 151, 152, 153, 154] (by decide +kernel) (by decide +kernel)
set_option maxRecDepth 20000 in
theorem gX9_count_X7_boxes : GoodIn wsX9_count (wsV RX9 212 RX7 yX7_boxes wsX7_boxes) := goodIn_app (goodIn_of _ (by decide +kernel)) ggX9_count_X7_boxes
set_option maxRecDepth 20000 in
theorem ggX9_count_X7_arrows : GoodIn wsX9_count wsX7_arrows := goodIn_r _ [16, 17, 18, 19, 6, 20, 21, 149, 150, 151, 152, 153, 154] (by decide +kernel) (by decide +kernel)
set_option maxRecDepth 20000 in
theorem gX9_count_X7_arrows : GoodIn wsX9_count (wsV RX9 215 RX7 yX7_arrows wsX7_arrows) := goodIn_app (goodIn_of _ (by decide +kernel)) ggX9_count_X7_arrows
set_option maxRecDepth 20000 in
theorem ggX9_count_X7_turnedArrows : GoodIn wsX9_count wsX7_turnedArrows := goodIn_r _ [25, 26, 27, 28, 6, 29, 30, 17, 18, 19, 20, 21, 149, 150, 151, 152, 153, 154] (by decide +kernel) (by decide +kernel)
set_option maxRecDepth 20000 in
theorem gX9_count_X7_turnedArrows : GoodIn wsX9_count (wsV RX9 218 RX7 yX7_turnedArrows wsX7_turnedArrows) := goodIn_app (goodIn_of _ (by decide +kernel)) ggX9_count_X7_turnedArrows
set_option maxRecDepth 20000 in
theorem ggX9_count_X9_toldSum : GoodIn wsX9_count wsX9_toldSum := goodIn_r _ [35, 36, 37, 38, 39, 40, 41, 42, 43, 44, 45, 46, 47, 48, 49, 50, 51, 52, 53, 54, 55, 56, 57, 58, 59, 60, 61, 62, 63, 64, 65, 66, 67, 68, 69, 70, 71, 72, 73, 74, 75, 76, 77, 78, 79, 80, 81, 82, 83, 84, 85, 86, 87, 88, 89, 90, 91, 92, 93, 94, 95, 96, 97, 98, 99, 100, 101, 102, 103, 104, 105, 106, 107, 108, 109, 110, 111, 112, 113, 114, 115, 116, 117, 118, 119, 120, 121, 122, 123, 124, 125, 126, 127, 128, 129, 6, 130, 12, 8, 9, 10, 11, 131, 132, 133, 134, 135, 136, 137, 138, 139, 140, 141, 142, 143, 144, 145, 146, 147, 148, 155, 156, 157, 158, 159, 160, 161, 162, 163, 164, 165, 166, 167, 168, 169, 170, 171, 172, 173, 174, 175, 176, 149, 150, 151, 152, 153, 154, 177, 178, 179, 180, 181, 182, 183, 184] (by decide +kernel) (by decide +kernel)
set_option maxRecDepth 20000 in
theorem gX9_count_X9_toldSum : GoodIn wsX9_count (wsV RX9 221 RX9 yX9_toldSum wsX9_toldSum) := goodIn_app (goodIn_of _ (by decide +kernel)) ggX9_count_X9_toldSum
theorem dX9_count_0 : decode cX9_count 0 = .ok (.iload_n 1, 1) := by decide +kernel
theorem dX9_count_1 : decode cX9_count 1 = .ok (.tableswitch 51 0 2 #[27, 35, 43], 27) := by decide +kernel
theorem dX9_count_28 : decode cX9_count 28 = .ok (.aload_n 0, 1) := by decide +kernel
theorem dX9_count_29 : decode cX9_count 29 = .ok (.getfield 12, 3) := by decide +kernel
theorem dX9_count_32 : decode cX9_count 32 = .ok (.invokevirtual 212, 3) := by decide +kernel
theorem dX9_count_35 : decode cX9_count 35 = .ok (.ireturn, 1) := by decide +kernel
theorem dX9_count_36 : decode cX9_count 36 = .ok (.aload_n 0, 1) := by decide +kernel
theorem dX9_count_37 : decode cX9_count 37 = .ok (.getfield 12, 3) := by decide +kernel
theorem dX9_count_40 : decode cX9_count 40 = .ok (.invokevirtual 215, 3) := by decide +kernel
theorem dX9_count_43 : decode cX9_count 43 = .ok (.ireturn, 1) := by decide +kernel
theorem dX9_count_44 : decode cX9_count 44 = .ok (.aload_n 0, 1) := by decide +kernel
theorem dX9_count_45 : decode cX9_count 45 = .ok (.getfield 12, 3) := by decide +kernel
theorem dX9_count_48 : decode cX9_count 48 = .ok (.invokevirtual 218, 3) := by decide +kernel
theorem dX9_count_51 : decode cX9_count 51 = .ok (.ireturn, 1) := by decide +kernel
theorem dX9_count_52 : decode cX9_count 52 = .ok (.aload_n 0, 1) := by decide +kernel
theorem dX9_count_53 : decode cX9_count 53 = .ok (.getfield 81, 3) := by decide +kernel
theorem dX9_count_56 : decode cX9_count 56 = .ok (.ifCond .eq 11, 3) := by decide +kernel
theorem dX9_count_59 : decode cX9_count 59 = .ok (.aload_n 0, 1) := by decide +kernel
theorem dX9_count_60 : decode cX9_count 60 = .ok (.iload_n 1, 1) := by decide +kernel
theorem dX9_count_61 : decode cX9_count 61 = .ok (.invokevirtual 221, 3) := by decide +kernel
theorem dX9_count_64 : decode cX9_count 64 = .ok (.goto 4, 3) := by decide +kernel
theorem dX9_count_67 : decode cX9_count 67 = .ok (.iconst (-1), 1) := by decide +kernel
theorem dX9_count_68 : decode cX9_count 68 = .ok (.ireturn, 1) := by decide +kernel
set_option maxRecDepth 20000 in
theorem ggX9_toldSum_X3_layers : GoodIn wsX9_toldSum wsX3_layers := goodIn_r _ [10, 11, 120, 121, 122, 123, 124] (by decide +kernel) (by decide +kernel)
set_option maxRecDepth 20000 in
theorem gX9_toldSum_X3_layers : GoodIn wsX9_toldSum (wsV RX9 201 RX3 yX3_layers wsX3_layers) := goodIn_app (goodIn_of _ (by decide +kernel)) ggX9_toldSum_X3_layers
set_option maxRecDepth 20000 in
theorem ggX9_toldSum_X4_items : GoodIn wsX9_toldSum wsX4_items := goodIn_r _ [16, 17, 18, 19, 20, 15, 21, 22, 125, 126, 127, 128, 129] (by decide +kernel) (by decide +kernel)
set_option maxRecDepth 20000 in
theorem gX9_toldSum_X4_items : GoodIn wsX9_toldSum (wsV RX9 224 RX4 yX4_items wsX4_items) := goodIn_app (goodIn_of _ (by decide +kernel)) ggX9_toldSum_X4_items
set_option maxRecDepth 20000 in
theorem ggX9_toldSum_X2_inAll : GoodIn wsX9_toldSum wsX2_inAll := goodIn_r _ [27, 28, 29, 30, 15, 31, 17, 32, 33, 34, 26, 35, 36, 37, 38, 39, 40, 41, 42, 43, 44, 45, 46, 47, 48, 49, 50, 51, 52, 53, 54, 55, 56, 57, 58, 59, 60, 61, 62, 63, 125, 126, 127, 128, 129, 130, 131, 132, 133, 134, 135, 136] (by decide +kernel) (by decide +kernel)
set_option maxRecDepth 20000 in
theorem gX9_toldSum_X2_inAll : GoodIn wsX9_toldSum (wsV RX9 158 RX2 yX2_inAll wsX2_inAll) := goodIn_app (goodIn_of _ (by decide +kernel)) ggX9_toldSum_X2_inAll
set_option maxRecDepth 20000 in
theorem ggX9_toldSum_X1_greatestEnd : GoodIn wsX9_toldSum wsX1_greatestEnd := goodIn_r _ [68, 69, 70, 39, 71, 72, 29, 30, 15, 31, 17, 73, 19, 20, 21, 22, 74, 75, 76, 77, 78, 18, 79, 80, 81, 67, 82, 83, 84, 85, 86, 87, 88, 89, 90, 91, 92, 93, 94, 95, 96, 97, 98, 99, 100, 101, 125, 126, 127, 128, 129, 137, 138, 139, 140, 141, 142, 143, 144, 145, 146, 147] (by decide +kernel) (by decide +kernel)
set_option maxRecDepth 20000 in
theorem gX9_toldSum_X1_greatestEnd : GoodIn wsX9_toldSum (wsV RX9 227 RX1 yX1_greatestEnd wsX1_greatestEnd) := goodIn_app (goodIn_of _ (by decide +kernel)) ggX9_toldSum_X1_greatestEnd
set_option maxRecDepth 20000 in
theorem ggX9_toldSum_X8_mostTracks : GoodIn wsX9_toldSum wsX8_mostTracks := goodIn_r _ [106, 107, 108, 70, 39, 71, 148, 149, 150, 151, 152, 153, 154, 155] (by decide +kernel) (by decide +kernel)
set_option maxRecDepth 20000 in
theorem gX9_toldSum_X8_mostTracks : GoodIn wsX9_toldSum (wsV RX9 230 RX8 yX8_mostTracks wsX8_mostTracks) := goodIn_app (goodIn_of _ (by decide +kernel)) ggX9_toldSum_X8_mostTracks
theorem dX9_toldSum_0 : decode cX9_toldSum 0 = .ok (.iload_n 1, 1) := by decide +kernel
theorem dX9_toldSum_1 : decode cX9_toldSum 1 = .ok (.tableswitch 83 3 7 #[35, 43, 51, 63, 75], 35) := by decide +kernel
theorem dX9_toldSum_36 : decode cX9_toldSum 36 = .ok (.aload_n 0, 1) := by decide +kernel
theorem dX9_toldSum_37 : decode cX9_toldSum 37 = .ok (.getfield 21, 3) := by decide +kernel
