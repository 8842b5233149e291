theorem dX10_pass_172 : decode cX10_pass 172 = .ok (.iload 4, 2) := by decide +kernel
theorem dX10_pass_174 : decode cX10_pass 174 = .ok (.iadd, 1) := by decide +kernel
theorem dX10_pass_175 : decode cX10_pass 175 = .ok (.iaload, 1) := by decide +kernel
theorem dX10_pass_176 : decode cX10_pass 176 = .ok (.goto 15, 3) := by decide +kernel
theorem dX10_pass_179 : decode cX10_pass 179 = .ok (.iload 6, 2) := by decide +kernel
theorem dX10_pass_181 : decode cX10_pass 181 = .ok (.iload 5, 2) := by decide +kernel
theorem dX10_pass_183 : decode cX10_pass 183 = .ok (.invokestatic 161, 3) := by decide +kernel
theorem dX10_pass_186 : decode cX10_pass 186 = .ok (.iload 7, 2) := by decide +kernel
theorem dX10_pass_188 : decode cX10_pass 188 = .ok (.iconst 2, 1) := by decide +kernel
theorem dX10_pass_189 : decode cX10_pass 189 = .ok (.idiv, 1) := by decide +kernel
theorem dX10_pass_190 : decode cX10_pass 190 = .ok (.isub, 1) := by decide +kernel
theorem dX10_pass_191 : decode cX10_pass 191 = .ok (.istore 8, 2) := by decide +kernel
theorem dX10_pass_193 : decode cX10_pass 193 = .ok (.iload 4, 2) := by decide +kernel
theorem dX10_pass_195 : decode cX10_pass 195 = .ok (.ifCond .le 16, 3) := by decide +kernel
theorem dX10_pass_198 : decode cX10_pass 198 = .ok (.iload 8, 2) := by decide +kernel
theorem dX10_pass_200 : decode cX10_pass 200 = .ok (.iload_n 3, 1) := by decide +kernel
theorem dX10_pass_201 : decode cX10_pass 201 = .ok (.iconst 4, 1) := by decide +kernel
theorem dX10_pass_202 : decode cX10_pass 202 = .ok (.iadd, 1) := by decide +kernel
theorem dX10_pass_203 : decode cX10_pass 203 = .ok (.if_icmp .ge 8, 3) := by decide +kernel
theorem dX10_pass_206 : decode cX10_pass 206 = .ok (.iload_n 3, 1) := by decide +kernel
theorem dX10_pass_207 : decode cX10_pass 207 = .ok (.iconst 4, 1) := by decide +kernel
theorem dX10_pass_208 : decode cX10_pass 208 = .ok (.iadd, 1) := by decide +kernel
theorem dX10_pass_209 : decode cX10_pass 209 = .ok (.istore 8, 2) := by decide +kernel
theorem dX10_pass_211 : decode cX10_pass 211 = .ok (.aload_n 0, 1) := by decide +kernel
theorem dX10_pass_212 : decode cX10_pass 212 = .ok (.getfield 47, 3) := by decide +kernel
theorem dX10_pass_215 : decode cX10_pass 215 = .ok (.bipush 40, 2) := by decide +kernel
theorem dX10_pass_217 : decode cX10_pass 217 = .ok (.iload_n 1, 1) := by decide +kernel
theorem dX10_pass_218 : decode cX10_pass 218 = .ok (.imul, 1) := by decide +kernel
theorem dX10_pass_219 : decode cX10_pass 219 = .ok (.iload 4, 2) := by decide +kernel
theorem dX10_pass_221 : decode cX10_pass 221 = .ok (.iadd, 1) := by decide +kernel
theorem dX10_pass_222 : decode cX10_pass 222 = .ok (.iload 8, 2) := by decide +kernel
theorem dX10_pass_224 : decode cX10_pass 224 = .ok (.iastore, 1) := by decide +kernel
theorem dX10_pass_225 : decode cX10_pass 225 = .ok (.iload 8, 2) := by decide +kernel
theorem dX10_pass_227 : decode cX10_pass 227 = .ok (.iload 7, 2) := by decide +kernel
theorem dX10_pass_229 : decode cX10_pass 229 = .ok (.iadd, 1) := by decide +kernel
theorem dX10_pass_230 : decode cX10_pass 230 = .ok (.istore_n 3, 1) := by decide +kernel
theorem dX10_pass_231 : decode cX10_pass 231 = .ok (.iinc 4 1, 3) := by decide +kernel
theorem dX10_pass_234 : decode cX10_pass 234 = .ok (.goto (-229), 3) := by decide +kernel
theorem dX10_pass_237 : decode cX10_pass 237 = .ok (.return_, 1) := by decide +kernel
set_option maxRecDepth 20000 in
theorem ggX10_straighten_X10_item0 : GoodIn wsX10_straighten wsX10_item0 := goodIn_r _ [8, 9, 53, 54, 55, 56, 57, 58, 59, 60, 61, 62, 63, 64, 65, 66, 67, 68, 69, 70, 71, 72, 73, 74, 75, 76] (by decide +kernel) (by decide +kernel)
set_option maxRecDepth 20000 in
theorem gX10_straighten_X10_item0 : GoodIn wsX10_straighten (wsV RX10 106 RX10 yX10_item0 wsX10_item0) := goodIn_app (goodIn_of _ (by decide +kernel)) ggX10_straighten_X10_item0
set_option maxRecDepth 20000 in
theorem ggX10_straighten_X10_widthOf : GoodIn wsX10_straighten wsX10_widthOf := goodIn_r _ [13, 14, 53, 54, 55, 56, 57, 58, 59, 60, 61, 62, 63, 64, 65, 66, 67, 68, 69, 70, 71, 72, 73, 74, 75, 76] (by decide +kernel) (by decide +kernel)
set_option maxRecDepth 20000 in
theorem gX10_straighten_X10_widthOf : GoodIn wsX10_straighten (wsV RX10 155 RX10 yX10_widthOf wsX10_widthOf) := goodIn_app (goodIn_of _ (by decide +kernel)) ggX10_straighten_X10_widthOf
set_option maxRecDepth 20000 in
theorem ggX10_straighten_X10_pass : GoodIn wsX10_straighten wsX10_pass := goodIn_r _ [18, 2, 3, 19, 20, 21, 7, 22, 23, 24, 25, 26, 27, 28, 29, 30, 31, 32, 33, 34, 35, 36, 37, 38, 39, 40, 41, 42, 43, 44, 45, 46, 47, 48, 49, 4, 5, 6, 8, 9, 10, 11, 12, 13, 14, 50, 51, 52, 53, 54, 55, 56, 57, 58, 59, 60, 61, 62, 63, 64, 65, 66, 67, 68, 69, 70, 71, 72, 73, 74, 75, 76] (by decide +kernel) (by decide +kernel)
set_option maxRecDepth 20000 in
theorem gX10_straighten_X10_pass : GoodIn wsX10_straighten (wsV RX10 164 RX10 yX10_pass wsX10_pass) := goodIn_app (goodIn_of _ (by decide +kernel)) ggX10_straighten_X10_pass
theorem dX10_straighten_0 : decode cX10_straighten 0 = .ok (.iconst 0, 1) := by decide +kernel
theorem dX10_straighten_1 : decode cX10_straighten 1 = .ok (.istore_n 1, 1) := by decide +kernel
theorem dX10_straighten_2 : decode cX10_straighten 2 = .ok (.iload_n 1, 1) := by decide +kernel
theorem dX10_straighten_3 : decode cX10_straighten 3 = .ok (.aload_n 0, 1) := by decide +kernel
theorem dX10_straighten_4 : decode cX10_straighten 4 = .ok (.getfield 103, 3) := by decide +kernel
theorem dX10_straighten_7 : decode cX10_straighten 7 = .ok (.if_icmp .ge 56, 3) := by decide +kernel
theorem dX10_straighten_10 : decode cX10_straighten 10 = .ok (.iconst 0, 1) := by decide +kernel
theorem dX10_straighten_11 : decode cX10_straighten 11 = .ok (.istore_n 2, 1) := by decide +kernel
theorem dX10_straighten_12 : decode cX10_straighten 12 = .ok (.iconst 0, 1) := by decide +kernel
theorem dX10_straighten_13 : decode cX10_straighten 13 = .ok (.istore_n 3, 1) := by decide +kernel
theorem dX10_straighten_14 : decode cX10_straighten 14 = .ok (.iload_n 3, 1) := by decide +kernel
theorem dX10_straighten_15 : decode cX10_straighten 15 = .ok (.aload_n 0, 1) := by decide +kernel
theorem dX10_straighten_16 : decode cX10_straighten 16 = .ok (.getfield 35, 3) := by decide +kernel
theorem dX10_straighten_19 : decode cX10_straighten 19 = .ok (.iload_n 1, 1) := by decide +kernel
theorem dX10_straighten_20 : decode cX10_straighten 20 = .ok (.iaload, 1) := by decide +kernel
theorem dX10_straighten_21 : decode cX10_straighten 21 = .ok (.if_icmp .ge 36, 3) := by decide +kernel
theorem dX10_straighten_24 : decode cX10_straighten 24 = .ok (.aload_n 0, 1) := by decide +kernel
theorem dX10_straighten_25 : decode cX10_straighten 25 = .ok (.getfield 47, 3) := by decide +kernel
theorem dX10_straighten_28 : decode cX10_straighten 28 = .ok (.bipush 40, 2) := by decide +kernel
theorem dX10_straighten_30 : decode cX10_straighten 30 = .ok (.iload_n 1, 1) := by decide +kernel
theorem dX10_straighten_31 : decode cX10_straighten 31 = .ok (.imul, 1) := by decide +kernel
theorem dX10_straighten_32 : decode cX10_straighten 32 = .ok (.iload_n 3, 1) := by decide +kernel
theorem dX10_straighten_33 : decode cX10_straighten 33 = .ok (.iadd, 1) := by decide +kernel
theorem dX10_straighten_34 : decode cX10_straighten 34 = .ok (.iload_n 2, 1) := by decide +kernel
theorem dX10_straighten_35 : decode cX10_straighten 35 = .ok (.iastore, 1) := by decide +kernel
theorem dX10_straighten_36 : decode cX10_straighten 36 = .ok (.iload_n 2, 1) := by decide +kernel
theorem dX10_straighten_37 : decode cX10_straighten 37 = .ok (.aload_n 0, 1) := by decide +kernel
theorem dX10_straighten_38 : decode cX10_straighten 38 = .ok (.aload_n 0, 1) := by decide +kernel
theorem dX10_straighten_39 : decode cX10_straighten 39 = .ok (.iload_n 1, 1) := by decide +kernel
theorem dX10_straighten_40 : decode cX10_straighten 40 = .ok (.iload_n 3, 1) := by decide +kernel
theorem dX10_straighten_41 : decode cX10_straighten 41 = .ok (.invokevirtual 106, 3) := by decide +kernel
theorem dX10_straighten_44 : decode cX10_straighten 44 = .ok (.invokevirtual 155, 3) := by decide +kernel
theorem dX10_straighten_47 : decode cX10_straighten 47 = .ok (.iconst 4, 1) := by decide +kernel
theorem dX10_straighten_48 : decode cX10_straighten 48 = .ok (.iadd, 1) := by decide +kernel
theorem dX10_straighten_49 : decode cX10_straighten 49 = .ok (.iadd, 1) := by decide +kernel
theorem dX10_straighten_50 : decode cX10_straighten 50 = .ok (.istore_n 2, 1) := by decide +kernel
theorem dX10_straighten_51 : decode cX10_straighten 51 = .ok (.iinc 3 1, 3) := by decide +kernel
theorem dX10_straighten_54 : decode cX10_straighten 54 = .ok (.goto (-40), 3) := by decide +kernel
theorem dX10_straighten_57 : decode cX10_straighten 57 = .ok (.iinc 1 1, 3) := by decide +kernel
theorem dX10_straighten_60 : decode cX10_straighten 60 = .ok (.goto (-58), 3) := by decide +kernel
theorem dX10_straighten_63 : decode cX10_straighten 63 = .ok (.iconst 0, 1) := by decide +kernel
theorem dX10_straighten_64 : decode cX10_straighten 64 = .ok (.istore_n 1, 1) := by decide +kernel
theorem dX10_straighten_65 : decode cX10_straighten 65 = .ok (.iload_n 1, 1) := by decide +kernel
theorem dX10_straighten_66 : decode cX10_straighten 66 = .ok (.iconst 4, 1) := by decide +kernel
theorem dX10_straighten_67 : decode cX10_straighten 67 = .ok (.if_icmp .ge 58, 3) := by decide +kernel
theorem dX10_straighten_70 : decode cX10_straighten 70 = .ok (.iconst 0, 1) := by decide +kernel
theorem dX10_straighten_71 : decode cX10_straighten 71 = .ok (.istore_n 2, 1) := by decide +kernel
theorem dX10_straighten_72 : decode cX10_straighten 72 = .ok (.iload_n 2, 1) := by decide +kernel
theorem dX10_straighten_73 : decode cX10_straighten 73 = .ok (.aload_n 0, 1) := by decide +kernel
theorem dX10_straighten_74 : decode cX10_straighten 74 = .ok (.getfield 103, 3) := by decide +kernel
theorem dX10_straighten_77 : decode cX10_straighten 77 = .ok (.if_icmp .ge 42, 3) := by decide +kernel
theorem dX10_straighten_80 : decode cX10_straighten 80 = .ok (.aload_n 0, 1) := by decide +kernel
theorem dX10_straighten_81 : decode cX10_straighten 81 = .ok (.iload_n 1, 1) := by decide +kernel
theorem dX10_straighten_82 : decode cX10_straighten 82 = .ok (.iconst 2, 1) := by decide +kernel
theorem dX10_straighten_83 : decode cX10_straighten 83 = .ok (.irem, 1) := by decide +kernel
theorem dX10_straighten_84 : decode cX10_straighten 84 = .ok (.ifCond .ne 7, 3) := by decide +kernel
theorem dX10_straighten_87 : decode cX10_straighten 87 = .ok (.iload_n 2, 1) := by decide +kernel
theorem dX10_straighten_88 : decode cX10_straighten 88 = .ok (.goto 11, 3) := by decide +kernel
theorem dX10_straighten_91 : decode cX10_straighten 91 = .ok (.aload_n 0, 1) := by decide +kernel
theorem dX10_straighten_92 : decode cX10_straighten 92 = .ok (.getfield 103, 3) := by decide +kernel
theorem dX10_straighten_95 : decode cX10_straighten 95 = .ok (.iconst 1, 1) := by decide +kernel
theorem dX10_straighten_96 : decode cX10_straighten 96 = .ok (.isub, 1) := by decide +kernel
theorem dX10_straighten_97 : decode cX10_straighten 97 = .ok (.iload_n 2, 1) := by decide +kernel
theorem dX10_straighten_98 : decode cX10_straighten 98 = .ok (.isub, 1) := by decide +kernel
theorem dX10_straighten_99 : decode cX10_straighten 99 = .ok (.iload_n 1, 1) := by decide +kernel
theorem dX10_straighten_100 : decode cX10_straighten 100 = .ok (.iconst 2, 1) := by decide +kernel
theorem dX10_straighten_101 : decode cX10_straighten 101 = .ok (.irem, 1) := by decide +kernel
theorem dX10_straighten_102 : decode cX10_straighten 102 = .ok (.ifCond .ne 7, 3) := by decide +kernel
theorem dX10_straighten_105 : decode cX10_straighten 105 = .ok (.iconst 1, 1) := by decide +kernel
theorem dX10_straighten_106 : decode cX10_straighten 106 = .ok (.goto 4, 3) := by decide +kernel
theorem dX10_straighten_109 : decode cX10_straighten 109 = .ok (.iconst 0, 1) := by decide +kernel
theorem dX10_straighten_110 : decode cX10_straighten 110 = .ok (.invokevirtual 164, 3) := by decide +kernel
theorem dX10_straighten_113 : decode cX10_straighten 113 = .ok (.iinc 2 1, 3) := by decide +kernel
theorem dX10_straighten_116 : decode cX10_straighten 116 = .ok (.goto (-44), 3) := by decide +kernel
theorem dX10_straighten_119 : decode cX10_straighten 119 = .ok (.iinc 1 1, 3) := by decide +kernel
theorem dX10_straighten_122 : decode cX10_straighten 122 = .ok (.goto (-57), 3) := by decide +kernel
theorem dX10_straighten_125 : decode cX10_straighten 125 = .ok (.iconst 0, 1) := by decide +kernel
theorem dX10_straighten_126 : decode cX10_straighten 126 = .ok (.istore_n 1, 1) := by decide +kernel
theorem dX10_straighten_127 : decode cX10_straighten 127 = .ok (.iconst 0, 1) := by decide +kernel
theorem dX10_straighten_128 : decode cX10_straighten 128 = .ok (.istore_n 2, 1) := by decide +kernel
theorem dX10_straighten_129 : decode cX10_straighten 129 = .ok (.iconst 0, 1) := by decide +kernel
theorem dX10_straighten_130 : decode cX10_straighten 130 = .ok (.istore_n 3, 1) := by decide +kernel
theorem dX10_straighten_131 : decode cX10_straighten 131 = .ok (.iload_n 3, 1) := by decide +kernel
theorem dX10_straighten_132 : decode cX10_straighten 132 = .ok (.aload_n 0, 1) := by decide +kernel
theorem dX10_straighten_133 : decode cX10_straighten 133 = .ok (.getfield 103, 3) := by decide +kernel
theorem dX10_straighten_136 : decode cX10_straighten 136 = .ok (.if_icmp .ge 64, 3) := by decide +kernel
theorem dX10_straighten_139 : decode cX10_straighten 139 = .ok (.iconst 0, 1) := by decide +kernel
theorem dX10_straighten_140 : decode cX10_straighten 140 = .ok (.istore 4, 2) := by decide +kernel
theorem dX10_straighten_142 : decode cX10_straighten 142 = .ok (.iload 4, 2) := by decide +kernel
theorem dX10_straighten_144 : decode cX10_straighten 144 = .ok (.aload_n 0, 1) := by decide +kernel
theorem dX10_straighten_145 : decode cX10_straighten 145 = .ok (.getfield 35, 3) := by decide +kernel
theorem dX10_straighten_148 : decode cX10_straighten 148 = .ok (.iload_n 3, 1) := by decide +kernel
theorem dX10_straighten_149 : decode cX10_straighten 149 = .ok (.iaload, 1) := by decide +kernel
theorem dX10_straighten_150 : decode cX10_straighten 150 = .ok (.if_icmp .ge 44, 3) := by decide +kernel
theorem dX10_straighten_153 : decode cX10_straighten 153 = .ok (.iload_n 1, 1) := by decide +kernel
theorem dX10_straighten_154 : decode cX10_straighten 154 = .ok (.ifCond .eq 19, 3) := by decide +kernel
theorem dX10_straighten_157 : decode cX10_straighten 157 = .ok (.aload_n 0, 1) := by decide +kernel
theorem dX10_straighten_158 : decode cX10_straighten 158 = .ok (.getfield 47, 3) := by decide +kernel
theorem dX10_straighten_161 : decode cX10_straighten 161 = .ok (.bipush 40, 2) := by decide +kernel
theorem dX10_straighten_163 : decode cX10_straighten 163 = .ok (.iload_n 3, 1) := by decide +kernel
theorem dX10_straighten_164 : decode cX10_straighten 164 = .ok (.imul, 1) := by decide +kernel
theorem dX10_straighten_165 : decode cX10_straighten 165 = .ok (.iload 4, 2) := by decide +kernel
theorem dX10_straighten_167 : decode cX10_straighten 167 = .ok (.iadd, 1) := by decide +kernel
theorem dX10_straighten_168 : decode cX10_straighten 168 = .ok (.iaload, 1) := by decide +kernel
theorem dX10_straighten_169 : decode cX10_straighten 169 = .ok (.iload_n 2, 1) := by decide +kernel
theorem dX10_straighten_170 : decode cX10_straighten 170 = .ok (.if_icmp .ge 16, 3) := by decide +kernel
theorem dX10_straighten_173 : decode cX10_straighten 173 = .ok (.aload_n 0, 1) := by decide +kernel
theorem dX10_straighten_174 : decode cX10_straighten 174 = .ok (.getfield 47, 3) := by decide +kernel
theorem dX10_straighten_177 : decode cX10_straighten 177 = .ok (.bipush 40, 2) := by decide +kernel
theorem dX10_straighten_179 : decode cX10_straighten 179 = .ok (.iload_n 3, 1) := by decide +kernel
theorem dX10_straighten_180 : decode cX10_straighten 180 = .ok (.imul, 1) := by decide +kernel
theorem dX10_straighten_181 : decode cX10_straighten 181 = .ok (.iload 4, 2) := by decide +kernel
theorem dX10_straighten_183 : decode cX10_straighten 183 = .ok (.iadd, 1) := by decide +kernel
theorem dX10_straighten_184 : decode cX10_straighten 184 = .ok (.iaload, 1) := by decide +kernel
theorem dX10_straighten_185 : decode cX10_straighten 185 = .ok (.istore_n 2, 1) := by decide +kernel
theorem dX10_straighten_186 : decode cX10_straighten 186 = .ok (.iconst 1, 1) := by decide +kernel
theorem dX10_straighten_187 : decode cX10_straighten 187 = .ok (.istore_n 1, 1) := by decide +kernel
theorem dX10_straighten_188 : decode cX10_straighten 188 = .ok (.iinc 4 1, 3) := by decide +kernel
theorem dX10_straighten_191 : decode cX10_straighten 191 = .ok (.goto (-49), 3) := by decide +kernel
theorem dX10_straighten_194 : decode cX10_straighten 194 = .ok (.iinc 3 1, 3) := by decide +kernel
theorem dX10_straighten_197 : decode cX10_straighten 197 = .ok (.goto (-66), 3) := by decide +kernel
theorem dX10_straighten_200 : decode cX10_straighten 200 = .ok (.iconst 0, 1) := by decide +kernel
theorem dX10_straighten_201 : decode cX10_straighten 201 = .ok (.istore_n 3, 1) := by decide +kernel
theorem dX10_straighten_202 : decode cX10_straighten 202 = .ok (.iload_n 3, 1) := by decide +kernel
theorem dX10_straighten_203 : decode cX10_straighten 203 = .ok (.aload_n 0, 1) := by decide +kernel
theorem dX10_straighten_204 : decode cX10_straighten 204 = .ok (.getfield 103, 3) := by decide +kernel
theorem dX10_straighten_207 : decode cX10_straighten 207 = .ok (.if_icmp .ge 45, 3) := by decide +kernel
theorem dX10_straighten_210 : decode cX10_straighten 210 = .ok (.iconst 0, 1) := by decide +kernel
theorem dX10_straighten_211 : decode cX10_straighten 211 = .ok (.istore 4, 2) := by decide +kernel
theorem dX10_straighten_213 : decode cX10_straighten 213 = .ok (.iload 4, 2) := by decide +kernel
theorem dX10_straighten_215 : decode cX10_straighten 215 = .ok (.aload_n 0, 1) := by decide +kernel
theorem dX10_straighten_216 : decode cX10_straighten 216 = .ok (.getfield 35, 3) := by decide +kernel
theorem dX10_straighten_219 : decode cX10_straighten 219 = .ok (.iload_n 3, 1) := by decide +kernel
theorem dX10_straighten_220 : decode cX10_straighten 220 = .ok (.iaload, 1) := by decide +kernel
theorem dX10_straighten_221 : decode cX10_straighten 221 = .ok (.if_icmp .ge 25, 3) := by decide +kernel
theorem dX10_straighten_224 : decode cX10_straighten 224 = .ok (.aload_n 0, 1) := by decide +kernel
theorem dX10_straighten_225 : decode cX10_straighten 225 = .ok (.getfield 47, 3) := by decide +kernel
theorem dX10_straighten_228 : decode cX10_straighten 228 = .ok (.bipush 40, 2) := by decide +kernel
theorem dX10_straighten_230 : decode cX10_straighten 230 = .ok (.iload_n 3, 1) := by decide +kernel
theorem dX10_straighten_231 : decode cX10_straighten 231 = .ok (.imul, 1) := by decide +kernel
theorem dX10_straighten_232 : decode cX10_straighten 232 = .ok (.iload 4, 2) := by decide +kernel
theorem dX10_straighten_234 : decode cX10_straighten 234 = .ok (.iadd, 1) := by decide +kernel
theorem dX10_straighten_235 : decode cX10_straighten 235 = .ok (.dup2, 1) := by decide +kernel
theorem dX10_straighten_236 : decode cX10_straighten 236 = .ok (.iaload, 1) := by decide +kernel
theorem dX10_straighten_237 : decode cX10_straighten 237 = .ok (.iload_n 2, 1) := by decide +kernel
theorem dX10_straighten_238 : decode cX10_straighten 238 = .ok (.isub, 1) := by decide +kernel
theorem dX10_straighten_239 : decode cX10_straighten 239 = .ok (.iastore, 1) := by decide +kernel
theorem dX10_straighten_240 : decode cX10_straighten 240 = .ok (.iinc 4 1, 3) := by decide +kernel
theorem dX10_straighten_243 : decode cX10_straighten 243 = .ok (.goto (-30), 3) := by decide +kernel
theorem dX10_straighten_246 : decode cX10_straighten 246 = .ok (.iinc 3 1, 3) := by decide +kernel
theorem dX10_straighten_249 : decode cX10_straighten 249 = .ok (.goto (-47), 3) := by decide +kernel
theorem dX10_straighten_252 : decode cX10_straighten 252 = .ok (.return_, 1) := by decide +kernel
set_option maxRecDepth 20000 in
theorem ggX10_made_X10_straighten : GoodIn wsX10_made wsX10_straighten := goodIn_r _ [13, 14, 15, 16, 17, 18, 19, 12, 20, 21, 22, 23, 24, 25, 26, 27, 28, 29, 30, 31, 32, 33, 34, 35, 4, 36, 37, 38, 39, 40, 41, 42, 43, 44, 45, 46, 47, 48, 49, 50, 6, 8, 51, 52, 53, 54, 55, 56, 57, 58, 59, 60, 61, 66, 67, 68, 69, 70, 71, 72, 73, 74, 75, 76, 77, 78, 79, 80, 81, 82, 83, 84, 85, 86, 87, 88, 89] (by decide +kernel) (by decide +kernel)
set_option maxRecDepth 20000 in
theorem gX10_made_X10_straighten : GoodIn wsX10_made (wsV RX10 167 RX10 yX10_straighten wsX10_straighten) := goodIn_app (goodIn_of _ (by decide +kernel)) ggX10_made_X10_straighten
set_option maxRecDepth 20000 in
theorem ggX10_made_X10_hasDummy : GoodIn wsX10_made wsX10_hasDummy := goodIn_r _ [65, 35, 4, 36, 37, 38, 12, 39, 40, 41, 42, 43, 44, 45, 46, 66, 67, 68, 69, 70, 71, 72, 73, 74, 75, 76, 77, 78, 79, 80, 81, 82, 83, 84, 85, 86, 87, 88, 89] (by decide +kernel) (by decide +kernel)
set_option maxRecDepth 20000 in
theorem gX10_made_X10_hasDummy : GoodIn wsX10_made (wsV RX10 114 RX10 yX10_hasDummy wsX10_hasDummy) := goodIn_app (goodIn_of _ (by decide +kernel)) ggX10_made_X10_hasDummy
theorem dX10_made_0 : decode cX10_made 0 = .ok (.aload_n 0, 1) := by decide +kernel
theorem dX10_made_1 : decode cX10_made 1 = .ok (.invokevirtual 167, 3) := by decide +kernel
theorem dX10_made_4 : decode cX10_made 4 = .ok (.aload_n 0, 1) := by decide +kernel
theorem dX10_made_5 : decode cX10_made 5 = .ok (.iconst 1, 1) := by decide +kernel
theorem dX10_made_6 : decode cX10_made 6 = .ok (.putfield 82, 3) := by decide +kernel
theorem dX10_made_9 : decode cX10_made 9 = .ok (.iconst 0, 1) := by decide +kernel
theorem dX10_made_10 : decode cX10_made 10 = .ok (.istore_n 1, 1) := by decide +kernel
theorem dX10_made_11 : decode cX10_made 11 = .ok (.iload_n 1, 1) := by decide +kernel
theorem dX10_made_12 : decode cX10_made 12 = .ok (.bipush 16, 2) := by decide +kernel
theorem dX10_made_14 : decode cX10_made 14 = .ok (.if_icmp .ge 46, 3) := by decide +kernel
theorem dX10_made_17 : decode cX10_made 17 = .ok (.aload_n 0, 1) := by decide +kernel
theorem dX10_made_18 : decode cX10_made 18 = .ok (.getfield 50, 3) := by decide +kernel
theorem dX10_made_21 : decode cX10_made 21 = .ok (.iload_n 1, 1) := by decide +kernel
theorem dX10_made_22 : decode cX10_made 22 = .ok (.aload_n 0, 1) := by decide +kernel
theorem dX10_made_23 : decode cX10_made 23 = .ok (.getfield 7, 3) := by decide +kernel
theorem dX10_made_26 : decode cX10_made 26 = .ok (.iload_n 1, 1) := by decide +kernel
theorem dX10_made_27 : decode cX10_made 27 = .ok (.baload, 1) := by decide +kernel
theorem dX10_made_28 : decode cX10_made 28 = .ok (.ifCond .eq 12, 3) := by decide +kernel
theorem dX10_made_31 : decode cX10_made 31 = .ok (.aload_n 0, 1) := by decide +kernel
theorem dX10_made_32 : decode cX10_made 32 = .ok (.getfield 32, 3) := by decide +kernel
theorem dX10_made_35 : decode cX10_made 35 = .ok (.iload_n 1, 1) := by decide +kernel
theorem dX10_made_36 : decode cX10_made 36 = .ok (.iaload, 1) := by decide +kernel
theorem dX10_made_37 : decode cX10_made 37 = .ok (.goto 4, 3) := by decide +kernel
theorem dX10_made_40 : decode cX10_made 40 = .ok (.iconst (-1), 1) := by decide +kernel
theorem dX10_made_41 : decode cX10_made 41 = .ok (.iastore, 1) := by decide +kernel
theorem dX10_made_42 : decode cX10_made 42 = .ok (.aload_n 0, 1) := by decide +kernel
theorem dX10_made_43 : decode cX10_made 43 = .ok (.getfield 53, 3) := by decide +kernel
theorem dX10_made_46 : decode cX10_made 46 = .ok (.iload_n 1, 1) := by decide +kernel
theorem dX10_made_47 : decode cX10_made 47 = .ok (.aload_n 0, 1) := by decide +kernel
theorem dX10_made_48 : decode cX10_made 48 = .ok (.getfield 41, 3) := by decide +kernel
theorem dX10_made_51 : decode cX10_made 51 = .ok (.iload_n 1, 1) := by decide +kernel
theorem dX10_made_52 : decode cX10_made 52 = .ok (.iaload, 1) := by decide +kernel
theorem dX10_made_53 : decode cX10_made 53 = .ok (.iastore, 1) := by decide +kernel
theorem dX10_made_54 : decode cX10_made 54 = .ok (.iinc 1 1, 3) := by decide +kernel
theorem dX10_made_57 : decode cX10_made 57 = .ok (.goto (-46), 3) := by decide +kernel
theorem dX10_made_60 : decode cX10_made 60 = .ok (.iconst 0, 1) := by decide +kernel
theorem dX10_made_61 : decode cX10_made 61 = .ok (.istore_n 1, 1) := by decide +kernel
theorem dX10_made_62 : decode cX10_made 62 = .ok (.iload_n 1, 1) := by decide +kernel
theorem dX10_made_63 : decode cX10_made 63 = .ok (.sipush 576, 3) := by decide +kernel
theorem dX10_made_66 : decode cX10_made 66 = .ok (.if_icmp .ge 40, 3) := by decide +kernel
theorem dX10_made_69 : decode cX10_made 69 = .ok (.aload_n 0, 1) := by decide +kernel
theorem dX10_made_70 : decode cX10_made 70 = .ok (.getfield 56, 3) := by decide +kernel
theorem dX10_made_73 : decode cX10_made 73 = .ok (.iload_n 1, 1) := by decide +kernel
theorem dX10_made_74 : decode cX10_made 74 = .ok (.aload_n 0, 1) := by decide +kernel
theorem dX10_made_75 : decode cX10_made 75 = .ok (.iload_n 1, 1) := by decide +kernel
theorem dX10_made_76 : decode cX10_made 76 = .ok (.bipush 24, 2) := by decide +kernel
theorem dX10_made_78 : decode cX10_made 78 = .ok (.idiv, 1) := by decide +kernel
theorem dX10_made_79 : decode cX10_made 79 = .ok (.iload_n 1, 1) := by decide +kernel
theorem dX10_made_80 : decode cX10_made 80 = .ok (.bipush 24, 2) := by decide +kernel
theorem dX10_made_82 : decode cX10_made 82 = .ok (.irem, 1) := by decide +kernel
theorem dX10_made_83 : decode cX10_made 83 = .ok (.invokevirtual 114, 3) := by decide +kernel
theorem dX10_made_86 : decode cX10_made 86 = .ok (.ifCond .eq 12, 3) := by decide +kernel
theorem dX10_made_89 : decode cX10_made 89 = .ok (.aload_n 0, 1) := by decide +kernel
theorem dX10_made_90 : decode cX10_made 90 = .ok (.getfield 44, 3) := by decide +kernel
theorem dX10_made_93 : decode cX10_made 93 = .ok (.iload_n 1, 1) := by decide +kernel
theorem dX10_made_94 : decode cX10_made 94 = .ok (.iaload, 1) := by decide +kernel
theorem dX10_made_95 : decode cX10_made 95 = .ok (.goto 4, 3) := by decide +kernel
theorem dX10_made_98 : decode cX10_made 98 = .ok (.iconst (-1), 1) := by decide +kernel
theorem dX10_made_99 : decode cX10_made 99 = .ok (.iastore, 1) := by decide +kernel
theorem dX10_made_100 : decode cX10_made 100 = .ok (.iinc 1 1, 3) := by decide +kernel
theorem dX10_made_103 : decode cX10_made 103 = .ok (.goto (-41), 3) := by decide +kernel
theorem dX10_made_106 : decode cX10_made 106 = .ok (.return_, 1) := by decide +kernel
set_option maxRecDepth 20000 in
theorem ggX10_draw_X10_in : GoodIn wsX10_draw wsX10_in := goodIn_r _ [6] (by decide +kernel) (by decide +kernel)
set_option maxRecDepth 20000 in
theorem gX10_draw_X10_in : GoodIn wsX10_draw (va_wsS RX10 78 yX10_in wsX10_in) := goodIn_app (goodIn_of _ (by decide +kernel)) ggX10_draw_X10_in
set_option maxRecDepth 20000 in
theorem ggX10_draw_X10_layOut : GoodIn wsX10_draw wsX10_layOut := goodIn_r _ [10, 11, 12, 13, 14, 15, 16, 17, 18, 5, 19, 20, 21, 22, 23, 24, 25, 26, 27, 28, 29, 30, 31, 32, 33, 34, 35, 127, 128, 129, 130, 131, 132, 133, 134, 135, 136, 137, 138, 139, 140, 141, 142, 143, 144, 145, 146, 147, 148, 149, 150] (by decide +kernel) (by decide +kernel)
set_option maxRecDepth 20000 in
theorem gX10_draw_X10_layOut : GoodIn wsX10_draw (wsV RX10 170 RX10 yX10_layOut wsX10_layOut) := goodIn_app (goodIn_of _ (by decide +kernel)) ggX10_draw_X10_layOut
set_option maxRecDepth 20000 in
theorem ggX10_draw_X10_drawOrders : GoodIn wsX10_draw wsX10_drawOrders := goodIn_r _ [39, 14, 40, 41, 42, 5, 43, 44, 15, 11, 45, 46, 47, 48, 49, 50, 51, 52, 53, 13, 32, 33, 34, 35, 20, 21, 22, 28, 29, 30, 31, 54, 55, 56, 57, 58, 59, 60, 61, 62, 63, 64, 65, 66, 67, 68, 69, 70, 71, 72, 73, 74, 75, 76, 77, 78, 79, 80, 81, 82, 83, 84, 85, 86, 87, 88, 89, 90, 91, 92, 93, 94, 95, 96, 97, 98, 127, 128, 129, 130, 131, 132, 133, 134, 135, 136, 137, 138, 139, 140, 141, 142, 143, 144, 145, 146, 147, 148, 149, 150] (by decide +kernel) (by decide +kernel)
set_option maxRecDepth 20000 in
theorem gX10_draw_X10_drawOrders : GoodIn wsX10_draw (wsV RX10 174 RX10 yX10_drawOrders wsX10_drawOrders) := goodIn_app (goodIn_of _ (by decide +kernel)) ggX10_draw_X10_drawOrders
set_option maxRecDepth 20000 in
theorem ggX10_draw_X10_made : GoodIn wsX10_draw wsX10_made := goodIn_r _ [102, 2, 103, 15, 11, 104, 58, 105, 59, 106, 107, 108, 5, 109, 14, 44, 110, 60, 61, 62, 63, 49, 111, 112, 113, 114, 115, 116, 117, 118, 119, 74, 75, 76, 77, 13, 32, 33, 34, 35, 20, 21, 22, 28, 29, 30, 31, 82, 83, 84, 85, 78, 79, 80, 81, 120, 121, 122, 123, 124, 125, 126, 50, 51, 52, 53, 127, 128, 129, 130, 131, 132, 133, 134, 135, 136, 137, 138, 139, 140, 141, 142, 143, 144, 145, 146, 147, 148, 149, 150] (by decide +kernel) (by decide +kernel)
set_option maxRecDepth 20000 in
theorem gX10_draw_X10_made : GoodIn wsX10_draw (wsV RX10 177 RX10 yX10_made wsX10_made) := goodIn_app (goodIn_of _ (by decide +kernel)) ggX10_draw_X10_made
theorem dX10_draw_0 : decode cX10_draw 0 = .ok (.aload_n 0, 1) := by decide +kernel
theorem dX10_draw_1 : decode cX10_draw 1 = .ok (.iload_n 1, 1) := by decide +kernel
theorem dX10_draw_2 : decode cX10_draw 2 = .ok (.iconst 0, 1) := by decide +kernel
theorem dX10_draw_3 : decode cX10_draw 3 = .ok (.iconst 4, 1) := by decide +kernel
theorem dX10_draw_4 : decode cX10_draw 4 = .ok (.invokestatic 78, 3) := by decide +kernel
theorem dX10_draw_7 : decode cX10_draw 7 = .ok (.ifCond .eq 7, 3) := by decide +kernel
theorem dX10_draw_10 : decode cX10_draw 10 = .ok (.iconst 0, 1) := by decide +kernel
theorem dX10_draw_11 : decode cX10_draw 11 = .ok (.goto 4, 3) := by decide +kernel
theorem dX10_draw_14 : decode cX10_draw 14 = .ok (.iconst 1, 1) := by decide +kernel
theorem dX10_draw_15 : decode cX10_draw 15 = .ok (.putfield 74, 3) := by decide +kernel
theorem dX10_draw_18 : decode cX10_draw 18 = .ok (.aload_n 0, 1) := by decide +kernel
theorem dX10_draw_19 : decode cX10_draw 19 = .ok (.getfield 74, 3) := by decide +kernel
theorem dX10_draw_22 : decode cX10_draw 22 = .ok (.ifCond .le 5, 3) := by decide +kernel
theorem dX10_draw_25 : decode cX10_draw 25 = .ok (.iconst 0, 1) := by decide +kernel
theorem dX10_draw_26 : decode cX10_draw 26 = .ok (.ireturn, 1) := by decide +kernel
theorem dX10_draw_27 : decode cX10_draw 27 = .ok (.aload_n 0, 1) := by decide +kernel
theorem dX10_draw_28 : decode cX10_draw 28 = .ok (.iconst 0, 1) := by decide +kernel
theorem dX10_draw_29 : decode cX10_draw 29 = .ok (.putfield 82, 3) := by decide +kernel
theorem dX10_draw_32 : decode cX10_draw 32 = .ok (.aload_n 0, 1) := by decide +kernel
theorem dX10_draw_33 : decode cX10_draw 33 = .ok (.invokevirtual 170, 3) := by decide +kernel
theorem dX10_draw_36 : decode cX10_draw 36 = .ok (.ifCond .ne 5, 3) := by decide +kernel
theorem dX10_draw_39 : decode cX10_draw 39 = .ok (.iconst 0, 1) := by decide +kernel
theorem dX10_draw_40 : decode cX10_draw 40 = .ok (.ireturn, 1) := by decide +kernel
theorem dX10_draw_41 : decode cX10_draw 41 = .ok (.aload_n 0, 1) := by decide +kernel
theorem dX10_draw_42 : decode cX10_draw 42 = .ok (.iload_n 1, 1) := by decide +kernel
theorem dX10_draw_43 : decode cX10_draw 43 = .ok (.invokevirtual 174, 3) := by decide +kernel
theorem dX10_draw_46 : decode cX10_draw 46 = .ok (.aload_n 0, 1) := by decide +kernel
theorem dX10_draw_47 : decode cX10_draw 47 = .ok (.invokevirtual 177, 3) := by decide +kernel
theorem dX10_draw_50 : decode cX10_draw 50 = .ok (.iconst 1, 1) := by decide +kernel
theorem dX10_draw_51 : decode cX10_draw 51 = .ok (.ireturn, 1) := by decide +kernel
set_option maxRecDepth 20000 in
theorem ggX10_redraw_X10_in : GoodIn wsX10_redraw wsX10_in := goodIn_r _ [15] (by decide +kernel) (by decide +kernel)
set_option maxRecDepth 20000 in
theorem gX10_redraw_X10_in : GoodIn wsX10_redraw (va_wsS RX10 78 yX10_in wsX10_in) := goodIn_app (goodIn_of _ (by decide +kernel)) ggX10_redraw_X10_in
set_option maxRecDepth 20000 in
theorem ggX10_redraw_X10_layOut : GoodIn wsX10_redraw wsX10_layOut := goodIn_r _ [19, 9, 20, 21, 6, 7, 22, 23, 24, 14, 25, 26, 27, 28, 29, 30, 31, 32, 33, 34, 35, 36, 37, 38, 39, 40, 41, 141, 142, 143, 144, 145, 146, 147, 148, 149, 150, 151, 152, 153, 154, 155, 156, 157, 158, 159, 160, 161, 162, 163, 164] (by decide +kernel) (by decide +kernel)
set_option maxRecDepth 20000 in
theorem gX10_redraw_X10_layOut : GoodIn wsX10_redraw (wsV RX10 170 RX10 yX10_layOut wsX10_layOut) := goodIn_app (goodIn_of _ (by decide +kernel)) ggX10_redraw_X10_layOut
set_option maxRecDepth 20000 in
theorem ggX10_redraw_X10_oldOrders : GoodIn wsX10_redraw wsX10_oldOrders := goodIn_r _ [45, 6, 46, 47, 5, 48, 49, 50, 14, 51, 7, 9, 52, 53, 54, 55, 56, 57, 58, 59, 21, 38, 39, 40, 41, 26, 27, 28, 34, 35, 36, 37, 60, 61, 62, 63, 11, 64, 65, 66, 67, 68, 69, 70, 71, 72, 73, 8, 10, 141, 142, 143, 144, 145, 146, 147, 148, 149, 150, 151, 152, 153, 154, 155, 156, 157, 158, 159, 160, 161, 162, 163, 164] (by decide +kernel) (by decide +kernel)
set_option maxRecDepth 20000 in
theorem gX10_redraw_X10_oldOrders : GoodIn wsX10_redraw (wsV RX10 181 RX10 yX10_oldOrders wsX10_oldOrders) := goodIn_app (goodIn_of _ (by decide +kernel)) ggX10_redraw_X10_oldOrders
set_option maxRecDepth 20000 in
theorem ggX10_redraw_X10_allCrossings : GoodIn wsX10_redraw wsX10_allCrossings := goodIn_r _ [77, 6, 78, 79, 80, 14, 81, 82, 83, 84, 85, 21, 9, 38, 39, 40, 41, 26, 27, 28, 34, 35, 36, 37, 86, 87, 88, 89, 11, 64, 90, 91, 92, 93, 141, 142, 143, 144, 145, 146, 147, 148, 149, 150, 151, 152, 153, 154, 155, 156, 157, 158, 159, 160, 161, 162, 163, 164] (by decide +kernel) (by decide +kernel)
set_option maxRecDepth 20000 in
theorem gX10_redraw_X10_allCrossings : GoodIn wsX10_redraw (wsV RX10 184 RX10 yX10_allCrossings wsX10_allCrossings) := goodIn_app (goodIn_of _ (by decide +kernel)) ggX10_redraw_X10_allCrossings
set_option maxRecDepth 20000 in
theorem ggX10_redraw_X10_drawOrders : GoodIn wsX10_redraw wsX10_drawOrders := goodIn_r _ [97, 6, 48, 49, 50, 14, 51, 46, 7, 9, 52, 53, 54, 55, 5, 56, 57, 58, 59, 21, 38, 39, 40, 41, 26, 27, 28, 34, 35, 36, 37, 60, 61, 62, 63, 11, 64, 65, 66, 67, 68, 98, 99, 100, 101, 102, 47, 78, 79, 80, 81, 82, 83, 84, 85, 86, 87, 88, 89, 90, 91, 92, 93, 103, 104, 105, 106, 107, 108, 109, 110, 111, 112, 113, 114, 115, 141, 142, 143, 144, 145, 146, 147, 148, 149, 150, 151, 152, 153, 154, 155, 156, 157, 158, 159, 160, 161, 162, 163, 164] (by decide +kernel) (by decide +kernel)
set_option maxRecDepth 20000 in
theorem gX10_redraw_X10_drawOrders : GoodIn wsX10_redraw (wsV RX10 174 RX10 yX10_drawOrders wsX10_drawOrders) := goodIn_app (goodIn_of _ (by decide +kernel)) ggX10_redraw_X10_drawOrders
set_option maxRecDepth 20000 in
theorem ggX10_redraw_X10_note : GoodIn wsX10_redraw wsX10_note := goodIn_r _ [63, 46, 11, 64, 65, 66, 67, 14, 68, 5, 141, 142, 143, 144, 145, 146, 147, 148, 149, 150, 151, 152, 153, 154, 155, 156, 157, 158, 159, 160, 161, 162, 163, 164] (by decide +kernel) (by decide +kernel)
set_option maxRecDepth 20000 in
theorem gX10_redraw_X10_note : GoodIn wsX10_redraw (wsV RX10 118 RX10 yX10_note wsX10_note) := goodIn_app (goodIn_of _ (by decide +kernel)) ggX10_redraw_X10_note
set_option maxRecDepth 20000 in
theorem ggX10_redraw_X10_made : GoodIn wsX10_redraw wsX10_made := goodIn_r _ [119, 3, 8, 7, 9, 10, 11, 73, 64, 120, 121, 122, 14, 123, 6, 46, 124, 65, 66, 67, 68, 5, 125, 126, 127, 128, 129, 130, 131, 132, 133, 82, 83, 84, 85, 21, 38, 39, 40, 41, 26, 27, 28, 34, 35, 36, 37, 90, 91, 92, 93, 86, 87, 88, 89, 134, 135, 136, 137, 138, 139, 140, 56, 57, 58, 59, 141, 142, 143, 144, 145, 146, 147, 148, 149, 150, 151, 152, 153, 154, 155, 156, 157, 158, 159, 160, 161, 162, 163, 164] (by decide +kernel) (by decide +kernel)
set_option maxRecDepth 20000 in
theorem gX10_redraw_X10_made : GoodIn wsX10_redraw (wsV RX10 177 RX10 yX10_made wsX10_made) := goodIn_app (goodIn_of _ (by decide +kernel)) ggX10_redraw_X10_made
theorem dX10_redraw_0 : decode cX10_redraw 0 = .ok (.aload_n 0, 1) := by decide +kernel
theorem dX10_redraw_1 : decode cX10_redraw 1 = .ok (.iload_n 1, 1) := by decide +kernel
theorem dX10_redraw_2 : decode cX10_redraw 2 = .ok (.iconst 0, 1) := by decide +kernel
theorem dX10_redraw_3 : decode cX10_redraw 3 = .ok (.iconst 4, 1) := by decide +kernel
theorem dX10_redraw_4 : decode cX10_redraw 4 = .ok (.invokestatic 78, 3) := by decide +kernel
theorem dX10_redraw_7 : decode cX10_redraw 7 = .ok (.ifCond .eq 17, 3) := by decide +kernel
theorem dX10_redraw_10 : decode cX10_redraw 10 = .ok (.iload_n 2, 1) := by decide +kernel
theorem dX10_redraw_11 : decode cX10_redraw 11 = .ok (.iconst 0, 1) := by decide +kernel
theorem dX10_redraw_12 : decode cX10_redraw 12 = .ok (.ldc 180, 2) := by decide +kernel
theorem dX10_redraw_14 : decode cX10_redraw 14 = .ok (.invokestatic 78, 3) := by decide +kernel
theorem dX10_redraw_17 : decode cX10_redraw 17 = .ok (.ifCond .eq 7, 3) := by decide +kernel
theorem dX10_redraw_20 : decode cX10_redraw 20 = .ok (.iconst 0, 1) := by decide +kernel
theorem dX10_redraw_21 : decode cX10_redraw 21 = .ok (.goto 4, 3) := by decide +kernel
theorem dX10_redraw_24 : decode cX10_redraw 24 = .ok (.iconst 1, 1) := by decide +kernel
theorem dX10_redraw_25 : decode cX10_redraw 25 = .ok (.putfield 74, 3) := by decide +kernel
theorem dX10_redraw_28 : decode cX10_redraw 28 = .ok (.aload_n 0, 1) := by decide +kernel
theorem dX10_redraw_29 : decode cX10_redraw 29 = .ok (.getfield 74, 3) := by decide +kernel
theorem dX10_redraw_32 : decode cX10_redraw 32 = .ok (.ifCond .le 5, 3) := by decide +kernel
theorem dX10_redraw_35 : decode cX10_redraw 35 = .ok (.iconst 0, 1) := by decide +kernel
theorem dX10_redraw_36 : decode cX10_redraw 36 = .ok (.ireturn, 1) := by decide +kernel
theorem dX10_redraw_37 : decode cX10_redraw 37 = .ok (.aload_n 0, 1) := by decide +kernel
theorem dX10_redraw_38 : decode cX10_redraw 38 = .ok (.iconst 0, 1) := by decide +kernel
theorem dX10_redraw_39 : decode cX10_redraw 39 = .ok (.putfield 82, 3) := by decide +kernel
theorem dX10_redraw_42 : decode cX10_redraw 42 = .ok (.aload_n 0, 1) := by decide +kernel
theorem dX10_redraw_43 : decode cX10_redraw 43 = .ok (.invokevirtual 170, 3) := by decide +kernel
theorem dX10_redraw_46 : decode cX10_redraw 46 = .ok (.ifCond .ne 5, 3) := by decide +kernel
theorem dX10_redraw_49 : decode cX10_redraw 49 = .ok (.iconst (-1), 1) := by decide +kernel
theorem dX10_redraw_50 : decode cX10_redraw 50 = .ok (.ireturn, 1) := by decide +kernel
theorem dX10_redraw_51 : decode cX10_redraw 51 = .ok (.aload_n 0, 1) := by decide +kernel
theorem dX10_redraw_52 : decode cX10_redraw 52 = .ok (.invokevirtual 181, 3) := by decide +kernel
theorem dX10_redraw_55 : decode cX10_redraw 55 = .ok (.aload_n 0, 1) := by decide +kernel
theorem dX10_redraw_56 : decode cX10_redraw 56 = .ok (.invokevirtual 184, 3) := by decide +kernel
theorem dX10_redraw_59 : decode cX10_redraw 59 = .ok (.istore_n 3, 1) := by decide +kernel
theorem dX10_redraw_60 : decode cX10_redraw 60 = .ok (.iconst 0, 1) := by decide +kernel
theorem dX10_redraw_61 : decode cX10_redraw 61 = .ok (.istore 4, 2) := by decide +kernel
theorem dX10_redraw_63 : decode cX10_redraw 63 = .ok (.iload 4, 2) := by decide +kernel
theorem dX10_redraw_65 : decode cX10_redraw 65 = .ok (.sipush 960, 3) := by decide +kernel
theorem dX10_redraw_68 : decode cX10_redraw 68 = .ok (.if_icmp .ge 23, 3) := by decide +kernel
theorem dX10_redraw_71 : decode cX10_redraw 71 = .ok (.aload_n 0, 1) := by decide +kernel
theorem dX10_redraw_72 : decode cX10_redraw 72 = .ok (.getfield 59, 3) := by decide +kernel
theorem dX10_redraw_75 : decode cX10_redraw 75 = .ok (.iload 4, 2) := by decide +kernel
theorem dX10_redraw_77 : decode cX10_redraw 77 = .ok (.aload_n 0, 1) := by decide +kernel
theorem dX10_redraw_78 : decode cX10_redraw 78 = .ok (.getfield 38, 3) := by decide +kernel
theorem dX10_redraw_81 : decode cX10_redraw 81 = .ok (.iload 4, 2) := by decide +kernel
theorem dX10_redraw_83 : decode cX10_redraw 83 = .ok (.iaload, 1) := by decide +kernel
theorem dX10_redraw_84 : decode cX10_redraw 84 = .ok (.iastore, 1) := by decide +kernel
theorem dX10_redraw_85 : decode cX10_redraw 85 = .ok (.iinc 4 1, 3) := by decide +kernel
theorem dX10_redraw_88 : decode cX10_redraw 88 = .ok (.goto (-25), 3) := by decide +kernel
theorem dX10_redraw_91 : decode cX10_redraw 91 = .ok (.aload_n 0, 1) := by decide +kernel
theorem dX10_redraw_92 : decode cX10_redraw 92 = .ok (.iload_n 1, 1) := by decide +kernel
theorem dX10_redraw_93 : decode cX10_redraw 93 = .ok (.invokevirtual 174, 3) := by decide +kernel
theorem dX10_redraw_96 : decode cX10_redraw 96 = .ok (.iload_n 3, 1) := by decide +kernel
theorem dX10_redraw_97 : decode cX10_redraw 97 = .ok (.aload_n 0, 1) := by decide +kernel
theorem dX10_redraw_98 : decode cX10_redraw 98 = .ok (.invokevirtual 184, 3) := by decide +kernel
theorem dX10_redraw_101 : decode cX10_redraw 101 = .ok (.iload_n 2, 1) := by decide +kernel
theorem dX10_redraw_102 : decode cX10_redraw 102 = .ok (.iadd, 1) := by decide +kernel
theorem dX10_redraw_103 : decode cX10_redraw 103 = .ok (.if_icmp .gt 58, 3) := by decide +kernel
theorem dX10_redraw_106 : decode cX10_redraw 106 = .ok (.iconst 0, 1) := by decide +kernel
theorem dX10_redraw_107 : decode cX10_redraw 107 = .ok (.istore 4, 2) := by decide +kernel
theorem dX10_redraw_109 : decode cX10_redraw 109 = .ok (.iload 4, 2) := by decide +kernel
theorem dX10_redraw_111 : decode cX10_redraw 111 = .ok (.sipush 960, 3) := by decide +kernel
theorem dX10_redraw_114 : decode cX10_redraw 114 = .ok (.if_icmp .ge 23, 3) := by decide +kernel
theorem dX10_redraw_117 : decode cX10_redraw 117 = .ok (.aload_n 0, 1) := by decide +kernel
theorem dX10_redraw_118 : decode cX10_redraw 118 = .ok (.getfield 38, 3) := by decide +kernel
theorem dX10_redraw_121 : decode cX10_redraw 121 = .ok (.iload 4, 2) := by decide +kernel
theorem dX10_redraw_123 : decode cX10_redraw 123 = .ok (.aload_n 0, 1) := by decide +kernel
theorem dX10_redraw_124 : decode cX10_redraw 124 = .ok (.getfield 59, 3) := by decide +kernel
theorem dX10_redraw_127 : decode cX10_redraw 127 = .ok (.iload 4, 2) := by decide +kernel
theorem dX10_redraw_129 : decode cX10_redraw 129 = .ok (.iaload, 1) := by decide +kernel
theorem dX10_redraw_130 : decode cX10_redraw 130 = .ok (.iastore, 1) := by decide +kernel
theorem dX10_redraw_131 : decode cX10_redraw 131 = .ok (.iinc 4 1, 3) := by decide +kernel
theorem dX10_redraw_134 : decode cX10_redraw 134 = .ok (.goto (-25), 3) := by decide +kernel
theorem dX10_redraw_137 : decode cX10_redraw 137 = .ok (.iconst 0, 1) := by decide +kernel
theorem dX10_redraw_138 : decode cX10_redraw 138 = .ok (.istore 4, 2) := by decide +kernel
theorem dX10_redraw_140 : decode cX10_redraw 140 = .ok (.iload 4, 2) := by decide +kernel
theorem dX10_redraw_142 : decode cX10_redraw 142 = .ok (.aload_n 0, 1) := by decide +kernel
theorem dX10_redraw_143 : decode cX10_redraw 143 = .ok (.getfield 103, 3) := by decide +kernel
theorem dX10_redraw_146 : decode cX10_redraw 146 = .ok (.if_icmp .ge 15, 3) := by decide +kernel
theorem dX10_redraw_149 : decode cX10_redraw 149 = .ok (.aload_n 0, 1) := by decide +kernel
theorem dX10_redraw_150 : decode cX10_redraw 150 = .ok (.iload 4, 2) := by decide +kernel
theorem dX10_redraw_152 : decode cX10_redraw 152 = .ok (.invokevirtual 118, 3) := by decide +kernel
theorem dX10_redraw_155 : decode cX10_redraw 155 = .ok (.iinc 4 1, 3) := by decide +kernel
theorem dX10_redraw_158 : decode cX10_redraw 158 = .ok (.goto (-18), 3) := by decide +kernel
theorem dX10_redraw_161 : decode cX10_redraw 161 = .ok (.iconst 0, 1) := by decide +kernel
theorem dX10_redraw_162 : decode cX10_redraw 162 = .ok (.istore 4, 2) := by decide +kernel
theorem dX10_redraw_164 : decode cX10_redraw 164 = .ok (.iconst 0, 1) := by decide +kernel
theorem dX10_redraw_165 : decode cX10_redraw 165 = .ok (.istore 5, 2) := by decide +kernel
theorem dX10_redraw_167 : decode cX10_redraw 167 = .ok (.iload 5, 2) := by decide +kernel
theorem dX10_redraw_169 : decode cX10_redraw 169 = .ok (.bipush 16, 2) := by decide +kernel
theorem dX10_redraw_171 : decode cX10_redraw 171 = .ok (.if_icmp .ge 66, 3) := by decide +kernel
theorem dX10_redraw_174 : decode cX10_redraw 174 = .ok (.aload_n 0, 1) := by decide +kernel
theorem dX10_redraw_175 : decode cX10_redraw 175 = .ok (.getfield 7, 3) := by decide +kernel
theorem dX10_redraw_178 : decode cX10_redraw 178 = .ok (.iload 5, 2) := by decide +kernel
theorem dX10_redraw_180 : decode cX10_redraw 180 = .ok (.baload, 1) := by decide +kernel
theorem dX10_redraw_181 : decode cX10_redraw 181 = .ok (.ifCond .eq 50, 3) := by decide +kernel
theorem dX10_redraw_184 : decode cX10_redraw 184 = .ok (.aload_n 0, 1) := by decide +kernel
theorem dX10_redraw_185 : decode cX10_redraw 185 = .ok (.getfield 50, 3) := by decide +kernel
theorem dX10_redraw_188 : decode cX10_redraw 188 = .ok (.iload 5, 2) := by decide +kernel
theorem dX10_redraw_190 : decode cX10_redraw 190 = .ok (.iaload, 1) := by decide +kernel
theorem dX10_redraw_191 : decode cX10_redraw 191 = .ok (.ifCond .lt 40, 3) := by decide +kernel
theorem dX10_redraw_194 : decode cX10_redraw 194 = .ok (.aload_n 0, 1) := by decide +kernel
theorem dX10_redraw_195 : decode cX10_redraw 195 = .ok (.getfield 50, 3) := by decide +kernel
theorem dX10_redraw_198 : decode cX10_redraw 198 = .ok (.iload 5, 2) := by decide +kernel
theorem dX10_redraw_200 : decode cX10_redraw 200 = .ok (.iaload, 1) := by decide +kernel
theorem dX10_redraw_201 : decode cX10_redraw 201 = .ok (.aload_n 0, 1) := by decide +kernel
theorem dX10_redraw_202 : decode cX10_redraw 202 = .ok (.getfield 32, 3) := by decide +kernel
theorem dX10_redraw_205 : decode cX10_redraw 205 = .ok (.iload 5, 2) := by decide +kernel
theorem dX10_redraw_207 : decode cX10_redraw 207 = .ok (.iaload, 1) := by decide +kernel
theorem dX10_redraw_208 : decode cX10_redraw 208 = .ok (.if_icmp .ne 20, 3) := by decide +kernel
theorem dX10_redraw_211 : decode cX10_redraw 211 = .ok (.aload_n 0, 1) := by decide +kernel
theorem dX10_redraw_212 : decode cX10_redraw 212 = .ok (.getfield 53, 3) := by decide +kernel
theorem dX10_redraw_215 : decode cX10_redraw 215 = .ok (.iload 5, 2) := by decide +kernel
theorem dX10_redraw_217 : decode cX10_redraw 217 = .ok (.iaload, 1) := by decide +kernel
theorem dX10_redraw_218 : decode cX10_redraw 218 = .ok (.aload_n 0, 1) := by decide +kernel
theorem dX10_redraw_219 : decode cX10_redraw 219 = .ok (.getfield 41, 3) := by decide +kernel
theorem dX10_redraw_222 : decode cX10_redraw 222 = .ok (.iload 5, 2) := by decide +kernel
theorem dX10_redraw_224 : decode cX10_redraw 224 = .ok (.iaload, 1) := by decide +kernel
theorem dX10_redraw_225 : decode cX10_redraw 225 = .ok (.if_icmp .eq 6, 3) := by decide +kernel
theorem dX10_redraw_228 : decode cX10_redraw 228 = .ok (.iinc 4 1, 3) := by decide +kernel
theorem dX10_redraw_231 : decode cX10_redraw 231 = .ok (.iinc 5 1, 3) := by decide +kernel
theorem dX10_redraw_234 : decode cX10_redraw 234 = .ok (.goto (-67), 3) := by decide +kernel
theorem dX10_redraw_237 : decode cX10_redraw 237 = .ok (.aload_n 0, 1) := by decide +kernel
theorem dX10_redraw_238 : decode cX10_redraw 238 = .ok (.invokevirtual 177, 3) := by decide +kernel
theorem dX10_redraw_241 : decode cX10_redraw 241 = .ok (.iload 4, 2) := by decide +kernel
theorem dX10_redraw_243 : decode cX10_redraw 243 = .ok (.ireturn, 1) := by decide +kernel
set_option maxRecDepth 20000 in
theorem ggX10_at_X10_in : GoodIn wsX10_at wsX10_in := goodIn_r _ [10] (by decide +kernel) (by decide +kernel)
set_option maxRecDepth 20000 in
theorem gX10_at_X10_in : GoodIn wsX10_at (va_wsS RX10 78 yX10_in wsX10_in) := goodIn_app (goodIn_of _ (by decide +kernel)) ggX10_at_X10_in
theorem dX10_at_0 : decode cX10_at 0 = .ok (.aload_n 0, 1) := by decide +kernel
theorem dX10_at_1 : decode cX10_at 1 = .ok (.iload_n 1, 1) := by decide +kernel
theorem dX10_at_2 : decode cX10_at 2 = .ok (.iconst 0, 1) := by decide +kernel
theorem dX10_at_3 : decode cX10_at 3 = .ok (.bipush 15, 2) := by decide +kernel
theorem dX10_at_5 : decode cX10_at 5 = .ok (.invokestatic 78, 3) := by decide +kernel
theorem dX10_at_8 : decode cX10_at 8 = .ok (.ifCond .eq 16, 3) := by decide +kernel
theorem dX10_at_11 : decode cX10_at 11 = .ok (.iload_n 2, 1) := by decide +kernel
theorem dX10_at_12 : decode cX10_at 12 = .ok (.iconst 0, 1) := by decide +kernel
theorem dX10_at_13 : decode cX10_at 13 = .ok (.iconst 2, 1) := by decide +kernel
theorem dX10_at_14 : decode cX10_at 14 = .ok (.invokestatic 78, 3) := by decide +kernel
theorem dX10_at_17 : decode cX10_at 17 = .ok (.ifCond .eq 7, 3) := by decide +kernel
theorem dX10_at_20 : decode cX10_at 20 = .ok (.iconst 0, 1) := by decide +kernel
theorem dX10_at_21 : decode cX10_at 21 = .ok (.goto 4, 3) := by decide +kernel
theorem dX10_at_24 : decode cX10_at 24 = .ok (.iconst 1, 1) := by decide +kernel
theorem dX10_at_25 : decode cX10_at 25 = .ok (.putfield 74, 3) := by decide +kernel
theorem dX10_at_28 : decode cX10_at 28 = .ok (.aload_n 0, 1) := by decide +kernel
theorem dX10_at_29 : decode cX10_at 29 = .ok (.getfield 74, 3) := by decide +kernel
theorem dX10_at_32 : decode cX10_at 32 = .ok (.ifCond .le 5, 3) := by decide +kernel
theorem dX10_at_35 : decode cX10_at 35 = .ok (.iconst 0, 1) := by decide +kernel
theorem dX10_at_36 : decode cX10_at 36 = .ok (.ireturn, 1) := by decide +kernel
theorem dX10_at_37 : decode cX10_at 37 = .ok (.aload_n 0, 1) := by decide +kernel
theorem dX10_at_38 : decode cX10_at 38 = .ok (.getfield 82, 3) := by decide +kernel
theorem dX10_at_41 : decode cX10_at 41 = .ok (.ifCond .eq 12, 3) := by decide +kernel
theorem dX10_at_44 : decode cX10_at 44 = .ok (.aload_n 0, 1) := by decide +kernel
theorem dX10_at_45 : decode cX10_at 45 = .ok (.getfield 7, 3) := by decide +kernel
theorem dX10_at_48 : decode cX10_at 48 = .ok (.iload_n 1, 1) := by decide +kernel
theorem dX10_at_49 : decode cX10_at 49 = .ok (.baload, 1) := by decide +kernel
theorem dX10_at_50 : decode cX10_at 50 = .ok (.ifCond .ne 5, 3) := by decide +kernel
theorem dX10_at_53 : decode cX10_at 53 = .ok (.iconst (-1), 1) := by decide +kernel
theorem dX10_at_54 : decode cX10_at 54 = .ok (.ireturn, 1) := by decide +kernel
theorem dX10_at_55 : decode cX10_at 55 = .ok (.iload_n 2, 1) := by decide +kernel
theorem dX10_at_56 : decode cX10_at 56 = .ok (.ifCond .ne 12, 3) := by decide +kernel
theorem dX10_at_59 : decode cX10_at 59 = .ok (.aload_n 0, 1) := by decide +kernel
theorem dX10_at_60 : decode cX10_at 60 = .ok (.getfield 32, 3) := by decide +kernel
theorem dX10_at_63 : decode cX10_at 63 = .ok (.iload_n 1, 1) := by decide +kernel
theorem dX10_at_64 : decode cX10_at 64 = .ok (.iaload, 1) := by decide +kernel
theorem dX10_at_65 : decode cX10_at 65 = .ok (.goto 38, 3) := by decide +kernel
theorem dX10_at_68 : decode cX10_at 68 = .ok (.iload_n 2, 1) := by decide +kernel
theorem dX10_at_69 : decode cX10_at 69 = .ok (.iconst 1, 1) := by decide +kernel
theorem dX10_at_70 : decode cX10_at 70 = .ok (.if_icmp .ne 12, 3) := by decide +kernel
theorem dX10_at_73 : decode cX10_at 73 = .ok (.aload_n 0, 1) := by decide +kernel
theorem dX10_at_74 : decode cX10_at 74 = .ok (.getfield 41, 3) := by decide +kernel
theorem dX10_at_77 : decode cX10_at 77 = .ok (.iload_n 1, 1) := by decide +kernel
theorem dX10_at_78 : decode cX10_at 78 = .ok (.iaload, 1) := by decide +kernel
theorem dX10_at_79 : decode cX10_at 79 = .ok (.goto 24, 3) := by decide +kernel
theorem dX10_at_82 : decode cX10_at 82 = .ok (.aload_n 0, 1) := by decide +kernel
theorem dX10_at_83 : decode cX10_at 83 = .ok (.getfield 47, 3) := by decide +kernel
theorem dX10_at_86 : decode cX10_at 86 = .ok (.bipush 40, 2) := by decide +kernel
theorem dX10_at_88 : decode cX10_at 88 = .ok (.aload_n 0, 1) := by decide +kernel
theorem dX10_at_89 : decode cX10_at 89 = .ok (.getfield 32, 3) := by decide +kernel
theorem dX10_at_92 : decode cX10_at 92 = .ok (.iload_n 1, 1) := by decide +kernel
theorem dX10_at_93 : decode cX10_at 93 = .ok (.iaload, 1) := by decide +kernel
theorem dX10_at_94 : decode cX10_at 94 = .ok (.imul, 1) := by decide +kernel
theorem dX10_at_95 : decode cX10_at 95 = .ok (.aload_n 0, 1) := by decide +kernel
theorem dX10_at_96 : decode cX10_at 96 = .ok (.getfield 41, 3) := by decide +kernel
theorem dX10_at_99 : decode cX10_at 99 = .ok (.iload_n 1, 1) := by decide +kernel
theorem dX10_at_100 : decode cX10_at 100 = .ok (.iaload, 1) := by decide +kernel
theorem dX10_at_101 : decode cX10_at 101 = .ok (.iadd, 1) := by decide +kernel
theorem dX10_at_102 : decode cX10_at 102 = .ok (.iaload, 1) := by decide +kernel
theorem dX10_at_103 : decode cX10_at 103 = .ok (.ireturn, 1) := by decide +kernel
set_option maxRecDepth 20000 in
theorem ggX10_reversed_X10_in : GoodIn wsX10_reversed wsX10_in := goodIn_r _ [7] (by decide +kernel) (by decide +kernel)
set_option maxRecDepth 20000 in
theorem gX10_reversed_X10_in : GoodIn wsX10_reversed (va_wsS RX10 78 yX10_in wsX10_in) := goodIn_app (goodIn_of _ (by decide +kernel)) ggX10_reversed_X10_in
set_option maxRecDepth 20000 in
theorem ggX10_reversed_X10_turn : GoodIn wsX10_reversed wsX10_turn := goodIn_r _ [11, 3, 2, 12, 13, 14, 15, 16, 6, 17, 18, 19, 20, 21, 22, 23, 24, 25, 26, 27, 28, 29, 30, 31, 32, 33, 34, 35, 36, 37, 38, 39, 40, 41, 42] (by decide +kernel) (by decide +kernel)
set_option maxRecDepth 20000 in
theorem gX10_reversed_X10_turn : GoodIn wsX10_reversed (wsV RX10 93 RX10 yX10_turn wsX10_turn) := goodIn_app (goodIn_of _ (by decide +kernel)) ggX10_reversed_X10_turn
theorem dX10_reversed_0 : decode cX10_reversed 0 = .ok (.aload_n 0, 1) := by decide +kernel
theorem dX10_reversed_1 : decode cX10_reversed 1 = .ok (.iload_n 1, 1) := by decide +kernel
theorem dX10_reversed_2 : decode cX10_reversed 2 = .ok (.iconst 0, 1) := by decide +kernel
theorem dX10_reversed_3 : decode cX10_reversed 3 = .ok (.bipush 23, 2) := by decide +kernel
theorem dX10_reversed_5 : decode cX10_reversed 5 = .ok (.invokestatic 78, 3) := by decide +kernel
theorem dX10_reversed_8 : decode cX10_reversed 8 = .ok (.ifCond .eq 7, 3) := by decide +kernel
theorem dX10_reversed_11 : decode cX10_reversed 11 = .ok (.iconst 0, 1) := by decide +kernel
theorem dX10_reversed_12 : decode cX10_reversed 12 = .ok (.goto 4, 3) := by decide +kernel
theorem dX10_reversed_15 : decode cX10_reversed 15 = .ok (.iconst 1, 1) := by decide +kernel
theorem dX10_reversed_16 : decode cX10_reversed 16 = .ok (.putfield 74, 3) := by decide +kernel
theorem dX10_reversed_19 : decode cX10_reversed 19 = .ok (.aload_n 0, 1) := by decide +kernel
theorem dX10_reversed_20 : decode cX10_reversed 20 = .ok (.getfield 74, 3) := by decide +kernel
theorem dX10_reversed_23 : decode cX10_reversed 23 = .ok (.ifCond .le 5, 3) := by decide +kernel
theorem dX10_reversed_26 : decode cX10_reversed 26 = .ok (.iconst 0, 1) := by decide +kernel
theorem dX10_reversed_27 : decode cX10_reversed 27 = .ok (.ireturn, 1) := by decide +kernel
theorem dX10_reversed_28 : decode cX10_reversed 28 = .ok (.aload_n 0, 1) := by decide +kernel
theorem dX10_reversed_29 : decode cX10_reversed 29 = .ok (.invokevirtual 93, 3) := by decide +kernel
theorem dX10_reversed_32 : decode cX10_reversed 32 = .ok (.aload_n 0, 1) := by decide +kernel
theorem dX10_reversed_33 : decode cX10_reversed 33 = .ok (.getfield 20, 3) := by decide +kernel
theorem dX10_reversed_36 : decode cX10_reversed 36 = .ok (.iload_n 1, 1) := by decide +kernel
theorem dX10_reversed_37 : decode cX10_reversed 37 = .ok (.baload, 1) := by decide +kernel
theorem dX10_reversed_38 : decode cX10_reversed 38 = .ok (.ifCond .ne 7, 3) := by decide +kernel
theorem dX10_reversed_41 : decode cX10_reversed 41 = .ok (.iconst (-1), 1) := by decide +kernel
theorem dX10_reversed_42 : decode cX10_reversed 42 = .ok (.goto 17, 3) := by decide +kernel
theorem dX10_reversed_45 : decode cX10_reversed 45 = .ok (.aload_n 0, 1) := by decide +kernel
theorem dX10_reversed_46 : decode cX10_reversed 46 = .ok (.getfield 29, 3) := by decide +kernel
theorem dX10_reversed_49 : decode cX10_reversed 49 = .ok (.iload_n 1, 1) := by decide +kernel
theorem dX10_reversed_50 : decode cX10_reversed 50 = .ok (.baload, 1) := by decide +kernel
theorem dX10_reversed_51 : decode cX10_reversed 51 = .ok (.ifCond .eq 7, 3) := by decide +kernel
theorem dX10_reversed_54 : decode cX10_reversed 54 = .ok (.iconst 1, 1) := by decide +kernel
theorem dX10_reversed_55 : decode cX10_reversed 55 = .ok (.goto 4, 3) := by decide +kernel
theorem dX10_reversed_58 : decode cX10_reversed 58 = .ok (.iconst 0, 1) := by decide +kernel
theorem dX10_reversed_59 : decode cX10_reversed 59 = .ok (.ireturn, 1) := by decide +kernel
set_option maxRecDepth 20000 in
theorem ggX10_item_X10_in : GoodIn wsX10_item wsX10_in := goodIn_r _ [8] (by decide +kernel) (by decide +kernel)
set_option maxRecDepth 20000 in
theorem gX10_item_X10_in : GoodIn wsX10_item (va_wsS RX10 78 yX10_in wsX10_in) := goodIn_app (goodIn_of _ (by decide +kernel)) ggX10_item_X10_in
set_option maxRecDepth 20000 in
theorem ggX10_item_X10_item0 : GoodIn wsX10_item wsX10_item0 := goodIn_r _ [12, 13, 14, 15, 16, 17, 18, 19, 20, 21, 22, 23, 24, 25, 26, 27, 28, 29, 30, 31, 32, 33, 34, 35, 36, 37] (by decide +kernel) (by decide +kernel)
set_option maxRecDepth 20000 in
theorem gX10_item_X10_item0 : GoodIn wsX10_item (wsV RX10 106 RX10 yX10_item0 wsX10_item0) := goodIn_app (goodIn_of _ (by decide +kernel)) ggX10_item_X10_item0
theorem dX10_item_0 : decode cX10_item 0 = .ok (.aload_n 0, 1) := by decide +kernel
theorem dX10_item_1 : decode cX10_item 1 = .ok (.iconst 0, 1) := by decide +kernel
theorem dX10_item_2 : decode cX10_item 2 = .ok (.putfield 74, 3) := by decide +kernel
theorem dX10_item_5 : decode cX10_item 5 = .ok (.aload_n 0, 1) := by decide +kernel
theorem dX10_item_6 : decode cX10_item 6 = .ok (.getfield 82, 3) := by decide +kernel
theorem dX10_item_9 : decode cX10_item 9 = .ok (.ifCond .eq 42, 3) := by decide +kernel
theorem dX10_item_12 : decode cX10_item 12 = .ok (.iload_n 1, 1) := by decide +kernel
theorem dX10_item_13 : decode cX10_item 13 = .ok (.iconst 0, 1) := by decide +kernel
theorem dX10_item_14 : decode cX10_item 14 = .ok (.aload_n 0, 1) := by decide +kernel
theorem dX10_item_15 : decode cX10_item 15 = .ok (.getfield 103, 3) := by decide +kernel
theorem dX10_item_18 : decode cX10_item 18 = .ok (.iconst 1, 1) := by decide +kernel
theorem dX10_item_19 : decode cX10_item 19 = .ok (.isub, 1) := by decide +kernel
theorem dX10_item_20 : decode cX10_item 20 = .ok (.invokestatic 78, 3) := by decide +kernel
theorem dX10_item_23 : decode cX10_item 23 = .ok (.ifCond .eq 28, 3) := by decide +kernel
theorem dX10_item_26 : decode cX10_item 26 = .ok (.iload_n 2, 1) := by decide +kernel
theorem dX10_item_27 : decode cX10_item 27 = .ok (.iconst 0, 1) := by decide +kernel
theorem dX10_item_28 : decode cX10_item 28 = .ok (.aload_n 0, 1) := by decide +kernel
theorem dX10_item_29 : decode cX10_item 29 = .ok (.getfield 35, 3) := by decide +kernel
theorem dX10_item_32 : decode cX10_item 32 = .ok (.iload_n 1, 1) := by decide +kernel
theorem dX10_item_33 : decode cX10_item 33 = .ok (.iaload, 1) := by decide +kernel
theorem dX10_item_34 : decode cX10_item 34 = .ok (.iconst 1, 1) := by decide +kernel
theorem dX10_item_35 : decode cX10_item 35 = .ok (.isub, 1) := by decide +kernel
theorem dX10_item_36 : decode cX10_item 36 = .ok (.invokestatic 78, 3) := by decide +kernel
theorem dX10_item_39 : decode cX10_item 39 = .ok (.ifCond .eq 12, 3) := by decide +kernel
theorem dX10_item_42 : decode cX10_item 42 = .ok (.aload_n 0, 1) := by decide +kernel
theorem dX10_item_43 : decode cX10_item 43 = .ok (.iload_n 1, 1) := by decide +kernel
theorem dX10_item_44 : decode cX10_item 44 = .ok (.iload_n 2, 1) := by decide +kernel
theorem dX10_item_45 : decode cX10_item 45 = .ok (.invokevirtual 106, 3) := by decide +kernel
theorem dX10_item_48 : decode cX10_item 48 = .ok (.goto 4, 3) := by decide +kernel
theorem dX10_item_51 : decode cX10_item 51 = .ok (.iconst (-1), 1) := by decide +kernel
theorem dX10_item_52 : decode cX10_item 52 = .ok (.ireturn, 1) := by decide +kernel
set_option maxRecDepth 20000 in
theorem ggX10_left_X10_upperPlace : GoodIn wsX10_left wsX10_upperPlace := goodIn_r _ [5, 6, 7, 8, 9, 10, 11, 4, 12, 13, 14, 15, 39, 40, 41, 42, 43, 44, 45, 46, 47, 48, 49, 50, 51, 52, 53, 54, 55, 56, 57, 58, 59, 60, 61, 62] (by decide +kernel) (by decide +kernel)
set_option maxRecDepth 20000 in
theorem gX10_left_X10_upperPlace : GoodIn wsX10_left (wsV RX10 131 RX10 yX10_upperPlace wsX10_upperPlace) := goodIn_app (goodIn_of _ (by decide +kernel)) ggX10_left_X10_upperPlace
set_option maxRecDepth 20000 in
theorem ggX10_left_X10_middle : GoodIn wsX10_left wsX10_middle := goodIn_r _ [19, 20, 21, 22, 23, 4, 24, 25, 26, 27, 28, 29, 30, 39, 40, 41, 42, 43, 44, 45, 46, 47, 48, 49, 50, 51, 52, 53, 54, 55, 56, 57, 58, 59, 60, 61, 62] (by decide +kernel) (by decide +kernel)
set_option maxRecDepth 20000 in
theorem gX10_left_X10_middle : GoodIn wsX10_left (wsV RX10 158 RX10 yX10_middle wsX10_middle) := goodIn_app (goodIn_of _ (by decide +kernel)) ggX10_left_X10_middle
set_option maxRecDepth 20000 in
theorem ggX10_left_X10_lowerPlace : GoodIn wsX10_left wsX10_lowerPlace := goodIn_r _ [34, 6, 7, 8, 35, 36, 37, 4, 38, 13, 15, 14, 39, 40, 41, 42, 43, 44, 45, 46, 47, 48, 49, 50, 51, 52, 53, 54, 55, 56, 57, 58, 59, 60, 61, 62] (by decide +kernel) (by decide +kernel)
set_option maxRecDepth 20000 in
theorem gX10_left_X10_lowerPlace : GoodIn wsX10_left (wsV RX10 134 RX10 yX10_lowerPlace wsX10_lowerPlace) := goodIn_app (goodIn_of _ (by decide +kernel)) ggX10_left_X10_lowerPlace
theorem dX10_left_0 : decode cX10_left 0 = .ok (.aload_n 0, 1) := by decide +kernel
theorem dX10_left_1 : decode cX10_left 1 = .ok (.iload_n 2, 1) := by decide +kernel
theorem dX10_left_2 : decode cX10_left 2 = .ok (.aload_n 0, 1) := by decide +kernel
theorem dX10_left_3 : decode cX10_left 3 = .ok (.iload_n 1, 1) := by decide +kernel
theorem dX10_left_4 : decode cX10_left 4 = .ok (.iload_n 2, 1) := by decide +kernel
theorem dX10_left_5 : decode cX10_left 5 = .ok (.invokevirtual 131, 3) := by decide +kernel
theorem dX10_left_8 : decode cX10_left 8 = .ok (.invokevirtual 158, 3) := by decide +kernel
theorem dX10_left_11 : decode cX10_left 11 = .ok (.istore_n 3, 1) := by decide +kernel
theorem dX10_left_12 : decode cX10_left 12 = .ok (.aload_n 0, 1) := by decide +kernel
theorem dX10_left_13 : decode cX10_left 13 = .ok (.iload_n 2, 1) := by decide +kernel
theorem dX10_left_14 : decode cX10_left 14 = .ok (.iconst 1, 1) := by decide +kernel
theorem dX10_left_15 : decode cX10_left 15 = .ok (.iadd, 1) := by decide +kernel
theorem dX10_left_16 : decode cX10_left 16 = .ok (.aload_n 0, 1) := by decide +kernel
theorem dX10_left_17 : decode cX10_left 17 = .ok (.iload_n 1, 1) := by decide +kernel
theorem dX10_left_18 : decode cX10_left 18 = .ok (.iload_n 2, 1) := by decide +kernel
theorem dX10_left_19 : decode cX10_left 19 = .ok (.invokevirtual 134, 3) := by decide +kernel
theorem dX10_left_22 : decode cX10_left 22 = .ok (.invokevirtual 158, 3) := by decide +kernel
theorem dX10_left_25 : decode cX10_left 25 = .ok (.istore 4, 2) := by decide +kernel
theorem dX10_left_27 : decode cX10_left 27 = .ok (.iload_n 3, 1) := by decide +kernel
theorem dX10_left_28 : decode cX10_left 28 = .ok (.iload 4, 2) := by decide +kernel
theorem dX10_left_30 : decode cX10_left 30 = .ok (.if_icmp .ge 7, 3) := by decide +kernel
theorem dX10_left_33 : decode cX10_left 33 = .ok (.iload_n 3, 1) := by decide +kernel
theorem dX10_left_34 : decode cX10_left 34 = .ok (.goto 5, 3) := by decide +kernel
theorem dX10_left_37 : decode cX10_left 37 = .ok (.iload 4, 2) := by decide +kernel
theorem dX10_left_39 : decode cX10_left 39 = .ok (.ireturn, 1) := by decide +kernel
set_option maxRecDepth 20000 in
theorem ggX10_right_X10_upperPlace : GoodIn wsX10_right wsX10_upperPlace := goodIn_r _ [5, 6, 7, 8, 9, 10, 11, 4, 12, 13, 14, 15, 39, 40, 41, 42, 43, 44, 45, 46, 47, 48, 49, 50, 51, 52, 53, 54, 55, 56, 57, 58, 59, 60, 61, 62] (by decide +kernel) (by decide +kernel)
set_option maxRecDepth 20000 in
theorem gX10_right_X10_upperPlace : GoodIn wsX10_right (wsV RX10 131 RX10 yX10_upperPlace wsX10_upperPlace) := goodIn_app (goodIn_of _ (by decide +kernel)) ggX10_right_X10_upperPlace
set_option maxRecDepth 20000 in
theorem ggX10_right_X10_middle : GoodIn wsX10_right wsX10_middle := goodIn_r _ [19, 20, 21, 22, 23, 4, 24, 25, 26, 27, 28, 29, 30, 39, 40, 41, 42, 43, 44, 45, 46, 47, 48, 49, 50, 51, 52, 53, 54, 55, 56, 57, 58, 59, 60, 61, 62] (by decide +kernel) (by decide +kernel)
set_option maxRecDepth 20000 in
theorem gX10_right_X10_middle : GoodIn wsX10_right (wsV RX10 158 RX10 yX10_middle wsX10_middle) := goodIn_app (goodIn_of _ (by decide +kernel)) ggX10_right_X10_middle
set_option maxRecDepth 20000 in
theorem ggX10_right_X10_lowerPlace : GoodIn wsX10_right wsX10_lowerPlace := goodIn_r _ [34, 6, 7, 8, 35, 36, 37, 4, 38, 13, 15, 14, 39, 40, 41, 42, 43, 44, 45, 46, 47, 48, 49, 50, 51, 52, 53, 54, 55, 56, 57, 58, 59, 60, 61, 62] (by decide +kernel) (by decide +kernel)
set_option maxRecDepth 20000 in
theorem gX10_right_X10_lowerPlace : GoodIn wsX10_right (wsV RX10 134 RX10 yX10_lowerPlace wsX10_lowerPlace) := goodIn_app (goodIn_of _ (by decide +kernel)) ggX10_right_X10_lowerPlace
theorem dX10_right_0 : decode cX10_right 0 = .ok (.aload_n 0, 1) := by decide +kernel
theorem dX10_right_1 : decode cX10_right 1 = .ok (.iload_n 2, 1) := by decide +kernel
theorem dX10_right_2 : decode cX10_right 2 = .ok (.aload_n 0, 1) := by decide +kernel
theorem dX10_right_3 : decode cX10_right 3 = .ok (.iload_n 1, 1) := by decide +kernel
theorem dX10_right_4 : decode cX10_right 4 = .ok (.iload_n 2, 1) := by decide +kernel
theorem dX10_right_5 : decode cX10_right 5 = .ok (.invokevirtual 131, 3) := by decide +kernel
theorem dX10_right_8 : decode cX10_right 8 = .ok (.invokevirtual 158, 3) := by decide +kernel
theorem dX10_right_11 : decode cX10_right 11 = .ok (.istore_n 3, 1) := by decide +kernel
theorem dX10_right_12 : decode cX10_right 12 = .ok (.aload_n 0, 1) := by decide +kernel
theorem dX10_right_13 : decode cX10_right 13 = .ok (.iload_n 2, 1) := by decide +kernel
theorem dX10_right_14 : decode cX10_right 14 = .ok (.iconst 1, 1) := by decide +kernel
theorem dX10_right_15 : decode cX10_right 15 = .ok (.iadd, 1) := by decide +kernel
theorem dX10_right_16 : decode cX10_right 16 = .ok (.aload_n 0, 1) := by decide +kernel
theorem dX10_right_17 : decode cX10_right 17 = .ok (.iload_n 1, 1) := by decide +kernel
theorem dX10_right_18 : decode cX10_right 18 = .ok (.iload_n 2, 1) := by decide +kernel
theorem dX10_right_19 : decode cX10_right 19 = .ok (.invokevirtual 134, 3) := by decide +kernel
theorem dX10_right_22 : decode cX10_right 22 = .ok (.invokevirtual 158, 3) := by decide +kernel
theorem dX10_right_25 : decode cX10_right 25 = .ok (.istore 4, 2) := by decide +kernel
theorem dX10_right_27 : decode cX10_right 27 = .ok (.iload_n 3, 1) := by decide +kernel
theorem dX10_right_28 : decode cX10_right 28 = .ok (.iload 4, 2) := by decide +kernel
theorem dX10_right_30 : decode cX10_right 30 = .ok (.if_icmp .ge 8, 3) := by decide +kernel
theorem dX10_right_33 : decode cX10_right 33 = .ok (.iload 4, 2) := by decide +kernel
theorem dX10_right_35 : decode cX10_right 35 = .ok (.goto 4, 3) := by decide +kernel
theorem dX10_right_38 : decode cX10_right 38 = .ok (.iload_n 3, 1) := by decide +kernel
theorem dX10_right_39 : decode cX10_right 39 = .ok (.ireturn, 1) := by decide +kernel
set_option maxRecDepth 20000 in
theorem ggX10_track_X10_hasPiece : GoodIn wsX10_track wsX10_hasPiece := goodIn_r _ [6, 7, 8, 9, 10, 11, 5, 12, 13, 14, 15, 16, 17, 18, 19, 53, 54, 55, 56, 57, 58, 59, 60, 61, 62, 63, 64, 65, 66, 67, 68, 69, 70, 71, 72, 73, 74, 75, 76] (by decide +kernel) (by decide +kernel)
set_option maxRecDepth 20000 in
theorem gX10_track_X10_hasPiece : GoodIn wsX10_track (wsV RX10 128 RX10 yX10_hasPiece wsX10_hasPiece) := goodIn_app (goodIn_of _ (by decide +kernel)) ggX10_track_X10_hasPiece
set_option maxRecDepth 20000 in
theorem ggX10_track_X10_left : GoodIn wsX10_track wsX10_left := goodIn_r _ [23, 24, 25, 26, 5, 27, 8, 28, 29, 9, 10, 11, 12, 13, 14, 15, 30, 31, 32, 33, 34, 35, 36, 37, 38, 39, 40, 41, 42, 43, 44, 45, 46, 47, 48, 16, 17, 18, 19, 53, 54, 55, 56, 57, 58, 59, 60, 61, 62, 63, 64, 65, 66, 67, 68, 69, 70, 71, 72, 73, 74, 75, 76] (by decide +kernel) (by decide +kernel)
set_option maxRecDepth 20000 in
theorem gX10_track_X10_left : GoodIn wsX10_track (wsV RX10 188 RX10 yX10_left wsX10_left) := goodIn_app (goodIn_of _ (by decide +kernel)) ggX10_track_X10_left
set_option maxRecDepth 20000 in
theorem ggX10_track_X10_right : GoodIn wsX10_track wsX10_right := goodIn_r _ [52, 24, 25, 26, 5, 27, 8, 28, 29, 9, 10, 11, 12, 13, 14, 15, 30, 31, 32, 33, 34, 35, 36, 37, 38, 39, 40, 41, 42, 43, 44, 45, 46, 47, 48, 16, 17, 18, 19, 53, 54, 55, 56, 57, 58, 59, 60, 61, 62, 63, 64, 65, 66, 67, 68, 69, 70, 71, 72, 73, 74, 75, 76] (by decide +kernel) (by decide +kernel)
set_option maxRecDepth 20000 in
theorem gX10_track_X10_right : GoodIn wsX10_track (wsV RX10 191 RX10 yX10_right wsX10_right) := goodIn_app (goodIn_of _ (by decide +kernel)) ggX10_track_X10_right
theorem dX10_track_0 : decode cX10_track 0 = .ok (.iconst 0, 1) := by decide +kernel
theorem dX10_track_1 : decode cX10_track 1 = .ok (.istore_n 3, 1) := by decide +kernel
theorem dX10_track_2 : decode cX10_track 2 = .ok (.iconst (-1), 1) := by decide +kernel
theorem dX10_track_3 : decode cX10_track 3 = .ok (.istore 4, 2) := by decide +kernel
theorem dX10_track_5 : decode cX10_track 5 = .ok (.iconst (-1), 1) := by decide +kernel
theorem dX10_track_6 : decode cX10_track 6 = .ok (.istore 5, 2) := by decide +kernel
theorem dX10_track_8 : decode cX10_track 8 = .ok (.iconst (-1), 1) := by decide +kernel
theorem dX10_track_9 : decode cX10_track 9 = .ok (.istore 6, 2) := by decide +kernel
theorem dX10_track_11 : decode cX10_track 11 = .ok (.iconst 1, 1) := by decide +kernel
theorem dX10_track_12 : decode cX10_track 12 = .ok (.istore 7, 2) := by decide +kernel
theorem dX10_track_14 : decode cX10_track 14 = .ok (.iload 7, 2) := by decide +kernel
theorem dX10_track_16 : decode cX10_track 16 = .ok (.ifCond .eq 216, 3) := by decide +kernel
theorem dX10_track_19 : decode cX10_track 19 = .ok (.iconst (-1), 1) := by decide +kernel
theorem dX10_track_20 : decode cX10_track 20 = .ok (.istore 8, 2) := by decide +kernel
theorem dX10_track_22 : decode cX10_track 22 = .ok (.iconst 0, 1) := by decide +kernel
theorem dX10_track_23 : decode cX10_track 23 = .ok (.istore 9, 2) := by decide +kernel
theorem dX10_track_25 : decode cX10_track 25 = .ok (.iload 9, 2) := by decide +kernel
theorem dX10_track_27 : decode cX10_track 27 = .ok (.bipush 24, 2) := by decide +kernel
theorem dX10_track_29 : decode cX10_track 29 = .ok (.if_icmp .ge 102, 3) := by decide +kernel
theorem dX10_track_32 : decode cX10_track 32 = .ok (.aload_n 0, 1) := by decide +kernel
theorem dX10_track_33 : decode cX10_track 33 = .ok (.iload 9, 2) := by decide +kernel
theorem dX10_track_35 : decode cX10_track 35 = .ok (.iload_n 2, 1) := by decide +kernel
theorem dX10_track_36 : decode cX10_track 36 = .ok (.invokevirtual 128, 3) := by decide +kernel
theorem dX10_track_39 : decode cX10_track 39 = .ok (.ifCond .eq 86, 3) := by decide +kernel
theorem dX10_track_42 : decode cX10_track 42 = .ok (.aload_n 0, 1) := by decide +kernel
theorem dX10_track_43 : decode cX10_track 43 = .ok (.iload 9, 2) := by decide +kernel
theorem dX10_track_45 : decode cX10_track 45 = .ok (.iload_n 2, 1) := by decide +kernel
theorem dX10_track_46 : decode cX10_track 46 = .ok (.invokevirtual 188, 3) := by decide +kernel
theorem dX10_track_49 : decode cX10_track 49 = .ok (.aload_n 0, 1) := by decide +kernel
theorem dX10_track_50 : decode cX10_track 50 = .ok (.iload 9, 2) := by decide +kernel
theorem dX10_track_52 : decode cX10_track 52 = .ok (.iload_n 2, 1) := by decide +kernel
theorem dX10_track_53 : decode cX10_track 53 = .ok (.invokevirtual 191, 3) := by decide +kernel
theorem dX10_track_56 : decode cX10_track 56 = .ok (.if_icmp .ne 6, 3) := by decide +kernel
theorem dX10_track_59 : decode cX10_track 59 = .ok (.goto 66, 3) := by decide +kernel
theorem dX10_track_62 : decode cX10_track 62 = .ok (.aload_n 0, 1) := by decide +kernel
theorem dX10_track_63 : decode cX10_track 63 = .ok (.iload 9, 2) := by decide +kernel
theorem dX10_track_65 : decode cX10_track 65 = .ok (.iload_n 2, 1) := by decide +kernel
theorem dX10_track_66 : decode cX10_track 66 = .ok (.invokevirtual 188, 3) := by decide +kernel
theorem dX10_track_69 : decode cX10_track 69 = .ok (.istore 10, 2) := by decide +kernel
theorem dX10_track_71 : decode cX10_track 71 = .ok (.iload 10, 2) := by decide +kernel
theorem dX10_track_73 : decode cX10_track 73 = .ok (.iload 5, 2) := by decide +kernel
theorem dX10_track_75 : decode cX10_track 75 = .ok (.if_icmp .gt 17, 3) := by decide +kernel
theorem dX10_track_78 : decode cX10_track 78 = .ok (.iload 10, 2) := by decide +kernel
theorem dX10_track_80 : decode cX10_track 80 = .ok (.iload 5, 2) := by decide +kernel
theorem dX10_track_82 : decode cX10_track 82 = .ok (.if_icmp .ne 14, 3) := by decide +kernel
theorem dX10_track_85 : decode cX10_track 85 = .ok (.iload 9, 2) := by decide +kernel
theorem dX10_track_87 : decode cX10_track 87 = .ok (.iload 6, 2) := by decide +kernel
theorem dX10_track_89 : decode cX10_track 89 = .ok (.if_icmp .le 7, 3) := by decide +kernel
theorem dX10_track_92 : decode cX10_track 92 = .ok (.iconst 1, 1) := by decide +kernel
theorem dX10_track_93 : decode cX10_track 93 = .ok (.goto 4, 3) := by decide +kernel
theorem dX10_track_96 : decode cX10_track 96 = .ok (.iconst 0, 1) := by decide +kernel
theorem dX10_track_97 : decode cX10_track 97 = .ok (.istore 11, 2) := by decide +kernel
theorem dX10_track_99 : decode cX10_track 99 = .ok (.iload 11, 2) := by decide +kernel
theorem dX10_track_101 : decode cX10_track 101 = .ok (.ifCond .eq 24, 3) := by decide +kernel
theorem dX10_track_104 : decode cX10_track 104 = .ok (.iload 8, 2) := by decide +kernel
theorem dX10_track_106 : decode cX10_track 106 = .ok (.ifCond .lt 15, 3) := by decide +kernel
theorem dX10_track_109 : decode cX10_track 109 = .ok (.iload 10, 2) := by decide +kernel
theorem dX10_track_111 : decode cX10_track 111 = .ok (.aload_n 0, 1) := by decide +kernel
theorem dX10_track_112 : decode cX10_track 112 = .ok (.iload 8, 2) := by decide +kernel
theorem dX10_track_114 : decode cX10_track 114 = .ok (.iload_n 2, 1) := by decide +kernel
theorem dX10_track_115 : decode cX10_track 115 = .ok (.invokevirtual 188, 3) := by decide +kernel
theorem dX10_track_118 : decode cX10_track 118 = .ok (.if_icmp .ge 7, 3) := by decide +kernel
theorem dX10_track_121 : decode cX10_track 121 = .ok (.iload 9, 2) := by decide +kernel
theorem dX10_track_123 : decode cX10_track 123 = .ok (.istore 8, 2) := by decide +kernel
theorem dX10_track_125 : decode cX10_track 125 = .ok (.iinc 9 1, 3) := by decide +kernel
theorem dX10_track_128 : decode cX10_track 128 = .ok (.goto (-103), 3) := by decide +kernel
theorem dX10_track_131 : decode cX10_track 131 = .ok (.iload 8, 2) := by decide +kernel
theorem dX10_track_133 : decode cX10_track 133 = .ok (.ifCond .lt 7, 3) := by decide +kernel
theorem dX10_track_136 : decode cX10_track 136 = .ok (.iconst 1, 1) := by decide +kernel
theorem dX10_track_137 : decode cX10_track 137 = .ok (.goto 4, 3) := by decide +kernel
theorem dX10_track_140 : decode cX10_track 140 = .ok (.iconst 0, 1) := by decide +kernel
theorem dX10_track_141 : decode cX10_track 141 = .ok (.istore 7, 2) := by decide +kernel
theorem dX10_track_143 : decode cX10_track 143 = .ok (.iload 7, 2) := by decide +kernel
theorem dX10_track_145 : decode cX10_track 145 = .ok (.ifCond .ne 6, 3) := by decide +kernel
theorem dX10_track_148 : decode cX10_track 148 = .ok (.goto (-134), 3) := by decide +kernel
theorem dX10_track_151 : decode cX10_track 151 = .ok (.iconst 0, 1) := by decide +kernel
theorem dX10_track_152 : decode cX10_track 152 = .ok (.istore 9, 2) := by decide +kernel
theorem dX10_track_154 : decode cX10_track 154 = .ok (.iload 9, 2) := by decide +kernel
theorem dX10_track_156 : decode cX10_track 156 = .ok (.iload_n 3, 1) := by decide +kernel
theorem dX10_track_157 : decode cX10_track 157 = .ok (.if_icmp .ge 26, 3) := by decide +kernel
theorem dX10_track_160 : decode cX10_track 160 = .ok (.aload_n 0, 1) := by decide +kernel
theorem dX10_track_161 : decode cX10_track 161 = .ok (.getfield 65, 3) := by decide +kernel
theorem dX10_track_164 : decode cX10_track 164 = .ok (.iload 9, 2) := by decide +kernel
theorem dX10_track_166 : decode cX10_track 166 = .ok (.iaload, 1) := by decide +kernel
theorem dX10_track_167 : decode cX10_track 167 = .ok (.aload_n 0, 1) := by decide +kernel
theorem dX10_track_168 : decode cX10_track 168 = .ok (.iload 8, 2) := by decide +kernel
theorem dX10_track_170 : decode cX10_track 170 = .ok (.iload_n 2, 1) := by decide +kernel
theorem dX10_track_171 : decode cX10_track 171 = .ok (.invokevirtual 188, 3) := by decide +kernel
theorem dX10_track_174 : decode cX10_track 174 = .ok (.if_icmp .lt 9, 3) := by decide +kernel
theorem dX10_track_177 : decode cX10_track 177 = .ok (.iinc 9 1, 3) := by decide +kernel
theorem dX10_track_180 : decode cX10_track 180 = .ok (.goto (-26), 3) := by decide +kernel
theorem dX10_track_183 : decode cX10_track 183 = .ok (.iload 9, 2) := by decide +kernel
theorem dX10_track_185 : decode cX10_track 185 = .ok (.iload_n 3, 1) := by decide +kernel
theorem dX10_track_186 : decode cX10_track 186 = .ok (.if_icmp .ne 6, 3) := by decide +kernel
theorem dX10_track_189 : decode cX10_track 189 = .ok (.iinc 3 1, 3) := by decide +kernel
theorem dX10_track_192 : decode cX10_track 192 = .ok (.aload_n 0, 1) := by decide +kernel
theorem dX10_track_193 : decode cX10_track 193 = .ok (.getfield 65, 3) := by decide +kernel
theorem dX10_track_196 : decode cX10_track 196 = .ok (.iload 9, 2) := by decide +kernel
theorem dX10_track_198 : decode cX10_track 198 = .ok (.aload_n 0, 1) := by decide +kernel
theorem dX10_track_199 : decode cX10_track 199 = .ok (.iload 8, 2) := by decide +kernel
theorem dX10_track_201 : decode cX10_track 201 = .ok (.iload_n 2, 1) := by decide +kernel
theorem dX10_track_202 : decode cX10_track 202 = .ok (.invokevirtual 191, 3) := by decide +kernel
theorem dX10_track_205 : decode cX10_track 205 = .ok (.iastore, 1) := by decide +kernel
theorem dX10_track_206 : decode cX10_track 206 = .ok (.iload 8, 2) := by decide +kernel
theorem dX10_track_208 : decode cX10_track 208 = .ok (.iload_n 1, 1) := by decide +kernel
theorem dX10_track_209 : decode cX10_track 209 = .ok (.if_icmp .ne 7, 3) := by decide +kernel
theorem dX10_track_212 : decode cX10_track 212 = .ok (.iload 9, 2) := by decide +kernel
theorem dX10_track_214 : decode cX10_track 214 = .ok (.istore 4, 2) := by decide +kernel
theorem dX10_track_216 : decode cX10_track 216 = .ok (.aload_n 0, 1) := by decide +kernel
theorem dX10_track_217 : decode cX10_track 217 = .ok (.iload 8, 2) := by decide +kernel
theorem dX10_track_219 : decode cX10_track 219 = .ok (.iload_n 2, 1) := by decide +kernel
theorem dX10_track_220 : decode cX10_track 220 = .ok (.invokevirtual 188, 3) := by decide +kernel
theorem dX10_track_223 : decode cX10_track 223 = .ok (.istore 5, 2) := by decide +kernel
theorem dX10_track_225 : decode cX10_track 225 = .ok (.iload 8, 2) := by decide +kernel
theorem dX10_track_227 : decode cX10_track 227 = .ok (.istore 6, 2) := by decide +kernel
theorem dX10_track_229 : decode cX10_track 229 = .ok (.goto (-215), 3) := by decide +kernel
theorem dX10_track_232 : decode cX10_track 232 = .ok (.iload_n 1, 1) := by decide +kernel
theorem dX10_track_233 : decode cX10_track 233 = .ok (.ifCond .ge 7, 3) := by decide +kernel
theorem dX10_track_236 : decode cX10_track 236 = .ok (.iload_n 3, 1) := by decide +kernel
theorem dX10_track_237 : decode cX10_track 237 = .ok (.goto 5, 3) := by decide +kernel
theorem dX10_track_240 : decode cX10_track 240 = .ok (.iload 4, 2) := by decide +kernel
theorem dX10_track_242 : decode cX10_track 242 = .ok (.ireturn, 1) := by decide +kernel
set_option maxRecDepth 20000 in
theorem ggX10_piece_X10_in : GoodIn wsX10_piece wsX10_in := goodIn_r _ [6] (by decide +kernel) (by decide +kernel)
set_option maxRecDepth 20000 in
theorem gX10_piece_X10_in : GoodIn wsX10_piece (va_wsS RX10 78 yX10_in wsX10_in) := goodIn_app (goodIn_of _ (by decide +kernel)) ggX10_piece_X10_in
set_option maxRecDepth 20000 in
theorem ggX10_piece_X10_hasPiece : GoodIn wsX10_piece wsX10_hasPiece := goodIn_r _ [10, 11, 12, 13, 14, 15, 5, 16, 17, 18, 19, 20, 21, 22, 23, 62, 63, 64, 65, 66, 67, 68, 69, 70, 71, 72, 73, 74, 75, 76, 77, 78, 79, 80, 81, 82, 83, 84, 85] (by decide +kernel) (by decide +kernel)
set_option maxRecDepth 20000 in
theorem gX10_piece_X10_hasPiece : GoodIn wsX10_piece (wsV RX10 128 RX10 yX10_hasPiece wsX10_hasPiece) := goodIn_app (goodIn_of _ (by decide +kernel)) ggX10_piece_X10_hasPiece
set_option maxRecDepth 20000 in
theorem ggX10_piece_X10_track : GoodIn wsX10_piece wsX10_track := goodIn_r _ [27, 28, 7, 8, 9, 5, 10, 11, 12, 13, 14, 15, 16, 17, 18, 19, 20, 21, 22, 23, 29, 30, 31, 32, 33, 34, 35, 36, 37, 38, 39, 40, 41, 42, 43, 44, 45, 46, 47, 48, 49, 50, 51, 52, 53, 54, 55, 56, 57, 58, 59, 60, 61, 62, 63, 64, 65, 66, 67, 68, 69, 70, 71, 72, 73, 74, 75, 76, 77, 78, 79, 80, 81, 82, 83, 84, 85] (by decide +kernel) (by decide +kernel)
set_option maxRecDepth 20000 in
theorem gX10_piece_X10_track : GoodIn wsX10_piece (wsV RX10 194 RX10 yX10_track wsX10_track) := goodIn_app (goodIn_of _ (by decide +kernel)) ggX10_piece_X10_track
set_option maxRecDepth 20000 in
theorem ggX10_piece_X10_upperPlace : GoodIn wsX10_piece wsX10_upperPlace := goodIn_r _ [36, 12, 37, 38, 13, 14, 15, 5, 16, 17, 18, 19, 62, 63, 64, 65, 66, 67, 68, 69, 70, 71, 72, 73, 74, 75, 76, 77, 78, 79, 80, 81, 82, 83, 84, 85] (by decide +kernel) (by decide +kernel)
set_option maxRecDepth 20000 in
theorem gX10_piece_X10_upperPlace : GoodIn wsX10_piece (wsV RX10 131 RX10 yX10_upperPlace wsX10_upperPlace) := goodIn_app (goodIn_of _ (by decide +kernel)) ggX10_piece_X10_upperPlace
set_option maxRecDepth 20000 in
theorem ggX10_piece_X10_middle : GoodIn wsX10_piece wsX10_middle := goodIn_r _ [42, 43, 44, 45, 46, 5, 47, 48, 49, 50, 51, 52, 53, 62, 63, 64, 65, 66, 67, 68, 69, 70, 71, 72, 73, 74, 75, 76, 77, 78, 79, 80, 81, 82, 83, 84, 85] (by decide +kernel) (by decide +kernel)
set_option maxRecDepth 20000 in
theorem gX10_piece_X10_middle : GoodIn wsX10_piece (wsV RX10 158 RX10 yX10_middle wsX10_middle) := goodIn_app (goodIn_of _ (by decide +kernel)) ggX10_piece_X10_middle
set_option maxRecDepth 20000 in
theorem ggX10_piece_X10_lowerPlace : GoodIn wsX10_piece wsX10_lowerPlace := goodIn_r _ [57, 12, 37, 38, 20, 21, 22, 5, 23, 17, 19, 18, 62, 63, 64, 65, 66, 67, 68, 69, 70, 71, 72, 73, 74, 75, 76, 77, 78, 79, 80, 81, 82, 83, 84, 85] (by decide +kernel) (by decide +kernel)
set_option maxRecDepth 20000 in
theorem gX10_piece_X10_lowerPlace : GoodIn wsX10_piece (wsV RX10 134 RX10 yX10_lowerPlace wsX10_lowerPlace) := goodIn_app (goodIn_of _ (by decide +kernel)) ggX10_piece_X10_lowerPlace
theorem dX10_piece_0 : decode cX10_piece 0 = .ok (.aload_n 0, 1) := by decide +kernel
theorem dX10_piece_1 : decode cX10_piece 1 = .ok (.iload_n 1, 1) := by decide +kernel
theorem dX10_piece_2 : decode cX10_piece 2 = .ok (.iconst 0, 1) := by decide +kernel
theorem dX10_piece_3 : decode cX10_piece 3 = .ok (.bipush 23, 2) := by decide +kernel
theorem dX10_piece_5 : decode cX10_piece 5 = .ok (.invokestatic 78, 3) := by decide +kernel
theorem dX10_piece_8 : decode cX10_piece 8 = .ok (.ifCond .eq 16, 3) := by decide +kernel
theorem dX10_piece_11 : decode cX10_piece 11 = .ok (.iload_n 3, 1) := by decide +kernel
theorem dX10_piece_12 : decode cX10_piece 12 = .ok (.iconst 0, 1) := by decide +kernel
theorem dX10_piece_13 : decode cX10_piece 13 = .ok (.iconst 2, 1) := by decide +kernel
theorem dX10_piece_14 : decode cX10_piece 14 = .ok (.invokestatic 78, 3) := by decide +kernel
theorem dX10_piece_17 : decode cX10_piece 17 = .ok (.ifCond .eq 7, 3) := by decide +kernel
theorem dX10_piece_20 : decode cX10_piece 20 = .ok (.iconst 0, 1) := by decide +kernel
theorem dX10_piece_21 : decode cX10_piece 21 = .ok (.goto 4, 3) := by decide +kernel
theorem dX10_piece_24 : decode cX10_piece 24 = .ok (.iconst 1, 1) := by decide +kernel
theorem dX10_piece_25 : decode cX10_piece 25 = .ok (.putfield 74, 3) := by decide +kernel
theorem dX10_piece_28 : decode cX10_piece 28 = .ok (.aload_n 0, 1) := by decide +kernel
theorem dX10_piece_29 : decode cX10_piece 29 = .ok (.getfield 74, 3) := by decide +kernel
theorem dX10_piece_32 : decode cX10_piece 32 = .ok (.ifCond .le 5, 3) := by decide +kernel
theorem dX10_piece_35 : decode cX10_piece 35 = .ok (.iconst 0, 1) := by decide +kernel
theorem dX10_piece_36 : decode cX10_piece 36 = .ok (.ireturn, 1) := by decide +kernel
theorem dX10_piece_37 : decode cX10_piece 37 = .ok (.aload_n 0, 1) := by decide +kernel
theorem dX10_piece_38 : decode cX10_piece 38 = .ok (.getfield 82, 3) := by decide +kernel
theorem dX10_piece_41 : decode cX10_piece 41 = .ok (.ifCond .eq 12, 3) := by decide +kernel
theorem dX10_piece_44 : decode cX10_piece 44 = .ok (.aload_n 0, 1) := by decide +kernel
theorem dX10_piece_45 : decode cX10_piece 45 = .ok (.iload_n 1, 1) := by decide +kernel
theorem dX10_piece_46 : decode cX10_piece 46 = .ok (.iload_n 2, 1) := by decide +kernel
theorem dX10_piece_47 : decode cX10_piece 47 = .ok (.invokevirtual 128, 3) := by decide +kernel
theorem dX10_piece_50 : decode cX10_piece 50 = .ok (.ifCond .ne 5, 3) := by decide +kernel
theorem dX10_piece_53 : decode cX10_piece 53 = .ok (.iconst (-1), 1) := by decide +kernel
theorem dX10_piece_54 : decode cX10_piece 54 = .ok (.ireturn, 1) := by decide +kernel
theorem dX10_piece_55 : decode cX10_piece 55 = .ok (.iload_n 3, 1) := by decide +kernel
theorem dX10_piece_56 : decode cX10_piece 56 = .ok (.iconst 2, 1) := by decide +kernel
theorem dX10_piece_57 : decode cX10_piece 57 = .ok (.if_icmp .ne 10, 3) := by decide +kernel
theorem dX10_piece_60 : decode cX10_piece 60 = .ok (.aload_n 0, 1) := by decide +kernel
theorem dX10_piece_61 : decode cX10_piece 61 = .ok (.iload_n 1, 1) := by decide +kernel
theorem dX10_piece_62 : decode cX10_piece 62 = .ok (.iload_n 2, 1) := by decide +kernel
theorem dX10_piece_63 : decode cX10_piece 63 = .ok (.invokevirtual 194, 3) := by decide +kernel
theorem dX10_piece_66 : decode cX10_piece 66 = .ok (.ireturn, 1) := by decide +kernel
theorem dX10_piece_67 : decode cX10_piece 67 = .ok (.iload_n 3, 1) := by decide +kernel
theorem dX10_piece_68 : decode cX10_piece 68 = .ok (.ifCond .ne 17, 3) := by decide +kernel
theorem dX10_piece_71 : decode cX10_piece 71 = .ok (.aload_n 0, 1) := by decide +kernel
theorem dX10_piece_72 : decode cX10_piece 72 = .ok (.iload_n 2, 1) := by decide +kernel
theorem dX10_piece_73 : decode cX10_piece 73 = .ok (.aload_n 0, 1) := by decide +kernel
theorem dX10_piece_74 : decode cX10_piece 74 = .ok (.iload_n 1, 1) := by decide +kernel
theorem dX10_piece_75 : decode cX10_piece 75 = .ok (.iload_n 2, 1) := by decide +kernel
theorem dX10_piece_76 : decode cX10_piece 76 = .ok (.invokevirtual 131, 3) := by decide +kernel
theorem dX10_piece_79 : decode cX10_piece 79 = .ok (.invokevirtual 158, 3) := by decide +kernel
theorem dX10_piece_82 : decode cX10_piece 82 = .ok (.goto 16, 3) := by decide +kernel
theorem dX10_piece_85 : decode cX10_piece 85 = .ok (.aload_n 0, 1) := by decide +kernel
theorem dX10_piece_86 : decode cX10_piece 86 = .ok (.iload_n 2, 1) := by decide +kernel
theorem dX10_piece_87 : decode cX10_piece 87 = .ok (.iconst 1, 1) := by decide +kernel
theorem dX10_piece_88 : decode cX10_piece 88 = .ok (.iadd, 1) := by decide +kernel
theorem dX10_piece_89 : decode cX10_piece 89 = .ok (.aload_n 0, 1) := by decide +kernel
theorem dX10_piece_90 : decode cX10_piece 90 = .ok (.iload_n 1, 1) := by decide +kernel
theorem dX10_piece_91 : decode cX10_piece 91 = .ok (.iload_n 2, 1) := by decide +kernel
theorem dX10_piece_92 : decode cX10_piece 92 = .ok (.invokevirtual 134, 3) := by decide +kernel
theorem dX10_piece_95 : decode cX10_piece 95 = .ok (.invokevirtual 158, 3) := by decide +kernel
theorem dX10_piece_98 : decode cX10_piece 98 = .ok (.ireturn, 1) := by decide +kernel
set_option maxRecDepth 20000 in
theorem ggX10_between_X10_in : GoodIn wsX10_between wsX10_in := goodIn_r _ [7] (by decide +kernel) (by decide +kernel)
set_option maxRecDepth 20000 in
theorem gX10_between_X10_in : GoodIn wsX10_between (va_wsS RX10 78 yX10_in wsX10_in) := goodIn_app (goodIn_of _ (by decide +kernel)) ggX10_between_X10_in
set_option maxRecDepth 20000 in
theorem ggX10_between_X10_crossings : GoodIn wsX10_between wsX10_crossings := goodIn_r _ [11, 3, 12, 13, 14, 6, 15, 16, 17, 18, 19, 20, 21, 22, 23, 24, 25, 26, 27, 28, 29, 30, 31, 32, 33, 34, 35, 36, 37, 38, 67, 68, 69, 70, 71, 72, 73, 74, 75, 76, 77, 78, 79, 80, 81, 82, 83, 84, 85, 86, 87, 88, 89, 90] (by decide +kernel) (by decide +kernel)
set_option maxRecDepth 20000 in
theorem gX10_between_X10_crossings : GoodIn wsX10_between (wsV RX10 137 RX10 yX10_crossings wsX10_crossings) := goodIn_app (goodIn_of _ (by decide +kernel)) ggX10_between_X10_crossings
set_option maxRecDepth 20000 in
theorem ggX10_between_X10_track : GoodIn wsX10_between wsX10_track := goodIn_r _ [42, 43, 12, 13, 14, 6, 15, 16, 17, 18, 19, 20, 21, 22, 23, 24, 25, 26, 27, 28, 44, 45, 46, 47, 29, 30, 31, 32, 33, 34, 48, 49, 50, 51, 52, 53, 54, 55, 56, 57, 58, 59, 60, 61, 62, 35, 36, 37, 38, 63, 64, 65, 66, 67, 68, 69, 70, 71, 72, 73, 74, 75, 76, 77, 78, 79, 80, 81, 82, 83, 84, 85, 86, 87, 88, 89, 90] (by decide +kernel) (by decide +kernel)
set_option maxRecDepth 20000 in
theorem gX10_between_X10_track : GoodIn wsX10_between (wsV RX10 194 RX10 yX10_track wsX10_track) := goodIn_app (goodIn_of _ (by decide +kernel)) ggX10_between_X10_track
theorem dX10_between_0 : decode cX10_between 0 = .ok (.aload_n 0, 1) := by decide +kernel
theorem dX10_between_1 : decode cX10_between 1 = .ok (.iload_n 2, 1) := by decide +kernel
theorem dX10_between_2 : decode cX10_between 2 = .ok (.iconst 0, 1) := by decide +kernel
theorem dX10_between_3 : decode cX10_between 3 = .ok (.iconst 1, 1) := by decide +kernel
theorem dX10_between_4 : decode cX10_between 4 = .ok (.invokestatic 78, 3) := by decide +kernel
theorem dX10_between_7 : decode cX10_between 7 = .ok (.ifCond .eq 7, 3) := by decide +kernel
theorem dX10_between_10 : decode cX10_between 10 = .ok (.iconst 0, 1) := by decide +kernel
theorem dX10_between_11 : decode cX10_between 11 = .ok (.goto 4, 3) := by decide +kernel
theorem dX10_between_14 : decode cX10_between 14 = .ok (.iconst 1, 1) := by decide +kernel
theorem dX10_between_15 : decode cX10_between 15 = .ok (.putfield 74, 3) := by decide +kernel
theorem dX10_between_18 : decode cX10_between 18 = .ok (.aload_n 0, 1) := by decide +kernel
theorem dX10_between_19 : decode cX10_between 19 = .ok (.getfield 74, 3) := by decide +kernel
theorem dX10_between_22 : decode cX10_between 22 = .ok (.ifCond .le 5, 3) := by decide +kernel
theorem dX10_between_25 : decode cX10_between 25 = .ok (.iconst 0, 1) := by decide +kernel
theorem dX10_between_26 : decode cX10_between 26 = .ok (.ireturn, 1) := by decide +kernel
theorem dX10_between_27 : decode cX10_between 27 = .ok (.aload_n 0, 1) := by decide +kernel
theorem dX10_between_28 : decode cX10_between 28 = .ok (.getfield 82, 3) := by decide +kernel
theorem dX10_between_31 : decode cX10_between 31 = .ok (.ifCond .eq 17, 3) := by decide +kernel
theorem dX10_between_34 : decode cX10_between 34 = .ok (.iload_n 1, 1) := by decide +kernel
theorem dX10_between_35 : decode cX10_between 35 = .ok (.iconst 0, 1) := by decide +kernel
theorem dX10_between_36 : decode cX10_between 36 = .ok (.aload_n 0, 1) := by decide +kernel
theorem dX10_between_37 : decode cX10_between 37 = .ok (.getfield 103, 3) := by decide +kernel
theorem dX10_between_40 : decode cX10_between 40 = .ok (.iconst 2, 1) := by decide +kernel
theorem dX10_between_41 : decode cX10_between 41 = .ok (.isub, 1) := by decide +kernel
theorem dX10_between_42 : decode cX10_between 42 = .ok (.invokestatic 78, 3) := by decide +kernel
theorem dX10_between_45 : decode cX10_between 45 = .ok (.ifCond .ne 5, 3) := by decide +kernel
theorem dX10_between_48 : decode cX10_between 48 = .ok (.iconst (-1), 1) := by decide +kernel
theorem dX10_between_49 : decode cX10_between 49 = .ok (.ireturn, 1) := by decide +kernel
theorem dX10_between_50 : decode cX10_between 50 = .ok (.iload_n 2, 1) := by decide +kernel
theorem dX10_between_51 : decode cX10_between 51 = .ok (.ifCond .ne 11, 3) := by decide +kernel
theorem dX10_between_54 : decode cX10_between 54 = .ok (.aload_n 0, 1) := by decide +kernel
theorem dX10_between_55 : decode cX10_between 55 = .ok (.iload_n 1, 1) := by decide +kernel
theorem dX10_between_56 : decode cX10_between 56 = .ok (.invokevirtual 137, 3) := by decide +kernel
theorem dX10_between_59 : decode cX10_between 59 = .ok (.goto 9, 3) := by decide +kernel
theorem dX10_between_62 : decode cX10_between 62 = .ok (.aload_n 0, 1) := by decide +kernel
theorem dX10_between_63 : decode cX10_between 63 = .ok (.iconst (-1), 1) := by decide +kernel
theorem dX10_between_64 : decode cX10_between 64 = .ok (.iload_n 1, 1) := by decide +kernel
theorem dX10_between_65 : decode cX10_between 65 = .ok (.invokevirtual 194, 3) := by decide +kernel
theorem dX10_between_68 : decode cX10_between 68 = .ok (.ireturn, 1) := by decide +kernel
set_option maxRecDepth 20000 in
theorem ggX10_count_X10_turn : GoodIn wsX10_count wsX10_turn := goodIn_r _ [10, 4, 3, 11, 12, 13, 14, 15, 9, 16, 17, 82, 83, 84, 85, 86, 87, 88, 89, 90, 91, 92, 93, 94, 95, 96, 97, 98, 99, 100, 101, 102, 103, 104, 105] (by decide +kernel) (by decide +kernel)
set_option maxRecDepth 20000 in
theorem gX10_count_X10_turn : GoodIn wsX10_count (wsV RX10 93 RX10 yX10_turn wsX10_turn) := goodIn_app (goodIn_of _ (by decide +kernel)) ggX10_count_X10_turn
set_option maxRecDepth 20000 in
theorem ggX10_count_X10_in : GoodIn wsX10_count wsX10_in := goodIn_r _ [20] (by decide +kernel) (by decide +kernel)
set_option maxRecDepth 20000 in
theorem gX10_count_X10_in : GoodIn wsX10_count (va_wsS RX10 78 yX10_in wsX10_in) := goodIn_app (goodIn_of _ (by decide +kernel)) ggX10_count_X10_in
set_option maxRecDepth 20000 in
theorem ggX10_count_X10_drawn : GoodIn wsX10_count wsX10_drawn := goodIn_r _ [24, 25, 26, 27, 28, 29, 30, 9, 31, 32, 33, 34, 35, 3, 36, 37, 38, 39, 40, 4, 11, 12, 41, 42, 43, 44, 45, 46, 47, 48, 49, 50, 51, 52, 53, 54, 55, 56, 57, 58, 59, 60, 61, 62, 63, 64, 65, 66, 67, 68, 69, 70, 71, 72, 73, 74, 75, 76, 77, 78, 79, 80, 81, 82, 83, 84, 85, 86, 87, 88, 89, 90, 91, 92, 93, 94, 95, 96, 97, 98, 99, 100, 101, 102, 103, 104, 105] (by decide +kernel) (by decide +kernel)
set_option maxRecDepth 20000 in
theorem gX10_count_X10_drawn : GoodIn wsX10_count (wsV RX10 197 RX10 yX10_drawn wsX10_drawn) := goodIn_app (goodIn_of _ (by decide +kernel)) ggX10_count_X10_drawn
theorem dX10_count_0 : decode cX10_count 0 = .ok (.aload_n 0, 1) := by decide +kernel
theorem dX10_count_1 : decode cX10_count 1 = .ok (.iconst 0, 1) := by decide +kernel
theorem dX10_count_2 : decode cX10_count 2 = .ok (.putfield 74, 3) := by decide +kernel
theorem dX10_count_5 : decode cX10_count 5 = .ok (.iconst 0, 1) := by decide +kernel
theorem dX10_count_6 : decode cX10_count 6 = .ok (.istore_n 2, 1) := by decide +kernel
theorem dX10_count_7 : decode cX10_count 7 = .ok (.iload_n 1, 1) := by decide +kernel
theorem dX10_count_8 : decode cX10_count 8 = .ok (.tableswitch 131 0 2 #[28, 61, 94], 28) := by decide +kernel
theorem dX10_count_36 : decode cX10_count 36 = .ok (.iconst 0, 1) := by decide +kernel
theorem dX10_count_37 : decode cX10_count 37 = .ok (.istore_n 3, 1) := by decide +kernel
theorem dX10_count_38 : decode cX10_count 38 = .ok (.iload_n 3, 1) := by decide +kernel
theorem dX10_count_39 : decode cX10_count 39 = .ok (.bipush 16, 2) := by decide +kernel
theorem dX10_count_41 : decode cX10_count 41 = .ok (.if_icmp .ge 26, 3) := by decide +kernel
theorem dX10_count_44 : decode cX10_count 44 = .ok (.iload_n 2, 1) := by decide +kernel
theorem dX10_count_45 : decode cX10_count 45 = .ok (.aload_n 0, 1) := by decide +kernel
theorem dX10_count_46 : decode cX10_count 46 = .ok (.getfield 7, 3) := by decide +kernel
theorem dX10_count_49 : decode cX10_count 49 = .ok (.iload_n 3, 1) := by decide +kernel
theorem dX10_count_50 : decode cX10_count 50 = .ok (.baload, 1) := by decide +kernel
theorem dX10_count_51 : decode cX10_count 51 = .ok (.ifCond .eq 7, 3) := by decide +kernel
theorem dX10_count_54 : decode cX10_count 54 = .ok (.iconst 1, 1) := by decide +kernel
theorem dX10_count_55 : decode cX10_count 55 = .ok (.goto 4, 3) := by decide +kernel
theorem dX10_count_58 : decode cX10_count 58 = .ok (.iconst 0, 1) := by decide +kernel
theorem dX10_count_59 : decode cX10_count 59 = .ok (.iadd, 1) := by decide +kernel
theorem dX10_count_60 : decode cX10_count 60 = .ok (.istore_n 2, 1) := by decide +kernel
theorem dX10_count_61 : decode cX10_count 61 = .ok (.iinc 3 1, 3) := by decide +kernel
theorem dX10_count_64 : decode cX10_count 64 = .ok (.goto (-26), 3) := by decide +kernel
theorem dX10_count_67 : decode cX10_count 67 = .ok (.iload_n 2, 1) := by decide +kernel
theorem dX10_count_68 : decode cX10_count 68 = .ok (.ireturn, 1) := by decide +kernel
theorem dX10_count_69 : decode cX10_count 69 = .ok (.iconst 0, 1) := by decide +kernel
theorem dX10_count_70 : decode cX10_count 70 = .ok (.istore_n 3, 1) := by decide +kernel
theorem dX10_count_71 : decode cX10_count 71 = .ok (.iload_n 3, 1) := by decide +kernel
theorem dX10_count_72 : decode cX10_count 72 = .ok (.bipush 24, 2) := by decide +kernel
theorem dX10_count_74 : decode cX10_count 74 = .ok (.if_icmp .ge 26, 3) := by decide +kernel
theorem dX10_count_77 : decode cX10_count 77 = .ok (.iload_n 2, 1) := by decide +kernel
theorem dX10_count_78 : decode cX10_count 78 = .ok (.aload_n 0, 1) := by decide +kernel
theorem dX10_count_79 : decode cX10_count 79 = .ok (.getfield 20, 3) := by decide +kernel
theorem dX10_count_82 : decode cX10_count 82 = .ok (.iload_n 3, 1) := by decide +kernel
theorem dX10_count_83 : decode cX10_count 83 = .ok (.baload, 1) := by decide +kernel
theorem dX10_count_84 : decode cX10_count 84 = .ok (.ifCond .eq 7, 3) := by decide +kernel
theorem dX10_count_87 : decode cX10_count 87 = .ok (.iconst 1, 1) := by decide +kernel
theorem dX10_count_88 : decode cX10_count 88 = .ok (.goto 4, 3) := by decide +kernel
theorem dX10_count_91 : decode cX10_count 91 = .ok (.iconst 0, 1) := by decide +kernel
theorem dX10_count_92 : decode cX10_count 92 = .ok (.iadd, 1) := by decide +kernel
theorem dX10_count_93 : decode cX10_count 93 = .ok (.istore_n 2, 1) := by decide +kernel
theorem dX10_count_94 : decode cX10_count 94 = .ok (.iinc 3 1, 3) := by decide +kernel
theorem dX10_count_97 : decode cX10_count 97 = .ok (.goto (-26), 3) := by decide +kernel
theorem dX10_count_100 : decode cX10_count 100 = .ok (.iload_n 2, 1) := by decide +kernel
theorem dX10_count_101 : decode cX10_count 101 = .ok (.ireturn, 1) := by decide +kernel
theorem dX10_count_102 : decode cX10_count 102 = .ok (.aload_n 0, 1) := by decide +kernel
theorem dX10_count_103 : decode cX10_count 103 = .ok (.invokevirtual 93, 3) := by decide +kernel
theorem dX10_count_106 : decode cX10_count 106 = .ok (.iconst 0, 1) := by decide +kernel
theorem dX10_count_107 : decode cX10_count 107 = .ok (.istore_n 3, 1) := by decide +kernel
theorem dX10_count_108 : decode cX10_count 108 = .ok (.iload_n 3, 1) := by decide +kernel
theorem dX10_count_109 : decode cX10_count 109 = .ok (.bipush 24, 2) := by decide +kernel
theorem dX10_count_111 : decode cX10_count 111 = .ok (.if_icmp .ge 26, 3) := by decide +kernel
theorem dX10_count_114 : decode cX10_count 114 = .ok (.iload_n 2, 1) := by decide +kernel
theorem dX10_count_115 : decode cX10_count 115 = .ok (.aload_n 0, 1) := by decide +kernel
theorem dX10_count_116 : decode cX10_count 116 = .ok (.getfield 29, 3) := by decide +kernel
theorem dX10_count_119 : decode cX10_count 119 = .ok (.iload_n 3, 1) := by decide +kernel
theorem dX10_count_120 : decode cX10_count 120 = .ok (.baload, 1) := by decide +kernel
theorem dX10_count_121 : decode cX10_count 121 = .ok (.ifCond .eq 7, 3) := by decide +kernel
theorem dX10_count_124 : decode cX10_count 124 = .ok (.iconst 1, 1) := by decide +kernel
theorem dX10_count_125 : decode cX10_count 125 = .ok (.goto 4, 3) := by decide +kernel
theorem dX10_count_128 : decode cX10_count 128 = .ok (.iconst 0, 1) := by decide +kernel
theorem dX10_count_129 : decode cX10_count 129 = .ok (.iadd, 1) := by decide +kernel
theorem dX10_count_130 : decode cX10_count 130 = .ok (.istore_n 2, 1) := by decide +kernel
theorem dX10_count_131 : decode cX10_count 131 = .ok (.iinc 3 1, 3) := by decide +kernel
theorem dX10_count_134 : decode cX10_count 134 = .ok (.goto (-26), 3) := by decide +kernel
theorem dX10_count_137 : decode cX10_count 137 = .ok (.iload_n 2, 1) := by decide +kernel
theorem dX10_count_138 : decode cX10_count 138 = .ok (.ireturn, 1) := by decide +kernel
theorem dX10_count_139 : decode cX10_count 139 = .ok (.iload_n 1, 1) := by decide +kernel
theorem dX10_count_140 : decode cX10_count 140 = .ok (.iconst 3, 1) := by decide +kernel
theorem dX10_count_141 : decode cX10_count 141 = .ok (.bipush 7, 2) := by decide +kernel
theorem dX10_count_143 : decode cX10_count 143 = .ok (.invokestatic 78, 3) := by decide +kernel
theorem dX10_count_146 : decode cX10_count 146 = .ok (.ifCond .eq 18, 3) := by decide +kernel
theorem dX10_count_149 : decode cX10_count 149 = .ok (.aload_n 0, 1) := by decide +kernel
theorem dX10_count_150 : decode cX10_count 150 = .ok (.getfield 82, 3) := by decide +kernel
theorem dX10_count_153 : decode cX10_count 153 = .ok (.ifCond .eq 11, 3) := by decide +kernel
theorem dX10_count_156 : decode cX10_count 156 = .ok (.aload_n 0, 1) := by decide +kernel
theorem dX10_count_157 : decode cX10_count 157 = .ok (.iload_n 1, 1) := by decide +kernel
theorem dX10_count_158 : decode cX10_count 158 = .ok (.invokevirtual 197, 3) := by decide +kernel
theorem dX10_count_161 : decode cX10_count 161 = .ok (.goto 4, 3) := by decide +kernel
theorem dX10_count_164 : decode cX10_count 164 = .ok (.iconst (-1), 1) := by decide +kernel
theorem dX10_count_165 : decode cX10_count 165 = .ok (.ireturn, 1) := by decide +kernel
set_option maxRecDepth 20000 in
theorem ggX10_drawn_X10_crossings : GoodIn wsX10_drawn wsX10_crossings := goodIn_r _ [8, 1, 9, 10, 11, 7, 12, 13, 14, 15, 16, 17, 18, 19, 20, 21, 22, 23, 24, 25, 26, 27, 28, 29, 30, 31, 32, 33, 34, 35, 63, 64, 65, 66, 67, 68, 69, 70, 71, 72, 73, 74, 75, 76, 77, 78, 79, 80, 81, 82, 83, 84, 85, 86] (by decide +kernel) (by decide +kernel)
set_option maxRecDepth 20000 in
theorem gX10_drawn_X10_crossings : GoodIn wsX10_drawn (wsV RX10 137 RX10 yX10_crossings wsX10_crossings) := goodIn_app (goodIn_of _ (by decide +kernel)) ggX10_drawn_X10_crossings
set_option maxRecDepth 20000 in
theorem ggX10_drawn_X10_item0 : GoodIn wsX10_drawn wsX10_item0 := goodIn_r _ [39, 40, 63, 64, 65, 66, 67, 68, 69, 70, 71, 72, 73, 74, 75, 76, 77, 78, 79, 80, 81, 82, 83, 84, 85, 86] (by decide +kernel) (by decide +kernel)
set_option maxRecDepth 20000 in
theorem gX10_drawn_X10_item0 : GoodIn wsX10_drawn (wsV RX10 106 RX10 yX10_item0 wsX10_item0) := goodIn_app (goodIn_of _ (by decide +kernel)) ggX10_drawn_X10_item0
set_option maxRecDepth 20000 in
theorem ggX10_drawn_X10_widthOf : GoodIn wsX10_drawn wsX10_widthOf := goodIn_r _ [44, 45, 63, 64, 65, 66, 67, 68, 69, 70, 71, 72, 73, 74, 75, 76, 77, 78, 79, 80, 81, 82, 83, 84, 85, 86] (by decide +kernel) (by decide +kernel)
set_option maxRecDepth 20000 in
theorem gX10_drawn_X10_widthOf : GoodIn wsX10_drawn (wsV RX10 155 RX10 yX10_widthOf wsX10_widthOf) := goodIn_app (goodIn_of _ (by decide +kernel)) ggX10_drawn_X10_widthOf
set_option maxRecDepth 20000 in
theorem ggX10_drawn_X10_track : GoodIn wsX10_drawn wsX10_track := goodIn_r _ [49, 50, 9, 10, 11, 7, 12, 13, 14, 15, 16, 17, 18, 19, 20, 21, 22, 23, 24, 25, 51, 52, 53, 54, 26, 27, 28, 29, 30, 31, 55, 56, 57, 58, 3, 36, 37, 38, 39, 40, 41, 42, 43, 44, 45, 32, 33, 34, 35, 59, 60, 61, 62, 63, 64, 65, 66, 67, 68, 69, 70, 71, 72, 73, 74, 75, 76, 77, 78, 79, 80, 81, 82, 83, 84, 85, 86] (by decide +kernel) (by decide +kernel)
set_option maxRecDepth 20000 in
theorem gX10_drawn_X10_track : GoodIn wsX10_drawn (wsV RX10 194 RX10 yX10_track wsX10_track) := goodIn_app (goodIn_of _ (by decide +kernel)) ggX10_drawn_X10_track
theorem dX10_drawn_0 : decode cX10_drawn 0 = .ok (.iconst 0, 1) := by decide +kernel
theorem dX10_drawn_1 : decode cX10_drawn 1 = .ok (.istore_n 2, 1) := by decide +kernel
theorem dX10_drawn_2 : decode cX10_drawn 2 = .ok (.iconst 0, 1) := by decide +kernel
theorem dX10_drawn_3 : decode cX10_drawn 3 = .ok (.istore_n 3, 1) := by decide +kernel
theorem dX10_drawn_4 : decode cX10_drawn 4 = .ok (.iload_n 3, 1) := by decide +kernel
theorem dX10_drawn_5 : decode cX10_drawn 5 = .ok (.aload_n 0, 1) := by decide +kernel
theorem dX10_drawn_6 : decode cX10_drawn 6 = .ok (.getfield 103, 3) := by decide +kernel
theorem dX10_drawn_9 : decode cX10_drawn 9 = .ok (.if_icmp .ge 137, 3) := by decide +kernel
theorem dX10_drawn_12 : decode cX10_drawn 12 = .ok (.iload_n 1, 1) := by decide +kernel
theorem dX10_drawn_13 : decode cX10_drawn 13 = .ok (.iconst 4, 1) := by decide +kernel
theorem dX10_drawn_14 : decode cX10_drawn 14 = .ok (.if_icmp .ne 12, 3) := by decide +kernel
theorem dX10_drawn_17 : decode cX10_drawn 17 = .ok (.iload_n 2, 1) := by decide +kernel
theorem dX10_drawn_18 : decode cX10_drawn 18 = .ok (.aload_n 0, 1) := by decide +kernel
theorem dX10_drawn_19 : decode cX10_drawn 19 = .ok (.getfield 35, 3) := by decide +kernel
theorem dX10_drawn_22 : decode cX10_drawn 22 = .ok (.iload_n 3, 1) := by decide +kernel
theorem dX10_drawn_23 : decode cX10_drawn 23 = .ok (.iaload, 1) := by decide +kernel
theorem dX10_drawn_24 : decode cX10_drawn 24 = .ok (.iadd, 1) := by decide +kernel
theorem dX10_drawn_25 : decode cX10_drawn 25 = .ok (.istore_n 2, 1) := by decide +kernel
theorem dX10_drawn_26 : decode cX10_drawn 26 = .ok (.iload_n 1, 1) := by decide +kernel
theorem dX10_drawn_27 : decode cX10_drawn 27 = .ok (.iconst 5, 1) := by decide +kernel
theorem dX10_drawn_28 : decode cX10_drawn 28 = .ok (.if_icmp .ne 11, 3) := by decide +kernel
theorem dX10_drawn_31 : decode cX10_drawn 31 = .ok (.iload_n 2, 1) := by decide +kernel
theorem dX10_drawn_32 : decode cX10_drawn 32 = .ok (.aload_n 0, 1) := by decide +kernel
theorem dX10_drawn_33 : decode cX10_drawn 33 = .ok (.iload_n 3, 1) := by decide +kernel
theorem dX10_drawn_34 : decode cX10_drawn 34 = .ok (.invokevirtual 137, 3) := by decide +kernel
theorem dX10_drawn_37 : decode cX10_drawn 37 = .ok (.iadd, 1) := by decide +kernel
theorem dX10_drawn_38 : decode cX10_drawn 38 = .ok (.istore_n 2, 1) := by decide +kernel
theorem dX10_drawn_39 : decode cX10_drawn 39 = .ok (.iload_n 1, 1) := by decide +kernel
theorem dX10_drawn_40 : decode cX10_drawn 40 = .ok (.bipush 6, 2) := by decide +kernel
theorem dX10_drawn_42 : decode cX10_drawn 42 = .ok (.if_icmp .ne 61, 3) := by decide +kernel
theorem dX10_drawn_45 : decode cX10_drawn 45 = .ok (.aload_n 0, 1) := by decide +kernel
theorem dX10_drawn_46 : decode cX10_drawn 46 = .ok (.getfield 35, 3) := by decide +kernel
theorem dX10_drawn_49 : decode cX10_drawn 49 = .ok (.iload_n 3, 1) := by decide +kernel
theorem dX10_drawn_50 : decode cX10_drawn 50 = .ok (.iaload, 1) := by decide +kernel
theorem dX10_drawn_51 : decode cX10_drawn 51 = .ok (.ifCond .le 52, 3) := by decide +kernel
theorem dX10_drawn_54 : decode cX10_drawn 54 = .ok (.aload_n 0, 1) := by decide +kernel
theorem dX10_drawn_55 : decode cX10_drawn 55 = .ok (.getfield 35, 3) := by decide +kernel
theorem dX10_drawn_58 : decode cX10_drawn 58 = .ok (.iload_n 3, 1) := by decide +kernel
theorem dX10_drawn_59 : decode cX10_drawn 59 = .ok (.iaload, 1) := by decide +kernel
theorem dX10_drawn_60 : decode cX10_drawn 60 = .ok (.iconst 1, 1) := by decide +kernel
theorem dX10_drawn_61 : decode cX10_drawn 61 = .ok (.isub, 1) := by decide +kernel
theorem dX10_drawn_62 : decode cX10_drawn 62 = .ok (.istore 4, 2) := by decide +kernel
theorem dX10_drawn_64 : decode cX10_drawn 64 = .ok (.aload_n 0, 1) := by decide +kernel
theorem dX10_drawn_65 : decode cX10_drawn 65 = .ok (.getfield 47, 3) := by decide +kernel
theorem dX10_drawn_68 : decode cX10_drawn 68 = .ok (.bipush 40, 2) := by decide +kernel
theorem dX10_drawn_70 : decode cX10_drawn 70 = .ok (.iload_n 3, 1) := by decide +kernel
theorem dX10_drawn_71 : decode cX10_drawn 71 = .ok (.imul, 1) := by decide +kernel
theorem dX10_drawn_72 : decode cX10_drawn 72 = .ok (.iload 4, 2) := by decide +kernel
theorem dX10_drawn_74 : decode cX10_drawn 74 = .ok (.iadd, 1) := by decide +kernel
theorem dX10_drawn_75 : decode cX10_drawn 75 = .ok (.iaload, 1) := by decide +kernel
theorem dX10_drawn_76 : decode cX10_drawn 76 = .ok (.aload_n 0, 1) := by decide +kernel
theorem dX10_drawn_77 : decode cX10_drawn 77 = .ok (.aload_n 0, 1) := by decide +kernel
theorem dX10_drawn_78 : decode cX10_drawn 78 = .ok (.iload_n 3, 1) := by decide +kernel
theorem dX10_drawn_79 : decode cX10_drawn 79 = .ok (.iload 4, 2) := by decide +kernel
theorem dX10_drawn_81 : decode cX10_drawn 81 = .ok (.invokevirtual 106, 3) := by decide +kernel
theorem dX10_drawn_84 : decode cX10_drawn 84 = .ok (.invokevirtual 155, 3) := by decide +kernel
theorem dX10_drawn_87 : decode cX10_drawn 87 = .ok (.iadd, 1) := by decide +kernel
theorem dX10_drawn_88 : decode cX10_drawn 88 = .ok (.istore 5, 2) := by decide +kernel
theorem dX10_drawn_90 : decode cX10_drawn 90 = .ok (.iload 5, 2) := by decide +kernel
theorem dX10_drawn_92 : decode cX10_drawn 92 = .ok (.iload_n 2, 1) := by decide +kernel
theorem dX10_drawn_93 : decode cX10_drawn 93 = .ok (.if_icmp .le 8, 3) := by decide +kernel
theorem dX10_drawn_96 : decode cX10_drawn 96 = .ok (.iload 5, 2) := by decide +kernel
theorem dX10_drawn_98 : decode cX10_drawn 98 = .ok (.goto 4, 3) := by decide +kernel
theorem dX10_drawn_101 : decode cX10_drawn 101 = .ok (.iload_n 2, 1) := by decide +kernel
theorem dX10_drawn_102 : decode cX10_drawn 102 = .ok (.istore_n 2, 1) := by decide +kernel
theorem dX10_drawn_103 : decode cX10_drawn 103 = .ok (.iload_n 1, 1) := by decide +kernel
theorem dX10_drawn_104 : decode cX10_drawn 104 = .ok (.bipush 7, 2) := by decide +kernel
theorem dX10_drawn_106 : decode cX10_drawn 106 = .ok (.if_icmp .ne 34, 3) := by decide +kernel
theorem dX10_drawn_109 : decode cX10_drawn 109 = .ok (.iload_n 3, 1) := by decide +kernel
theorem dX10_drawn_110 : decode cX10_drawn 110 = .ok (.iconst 1, 1) := by decide +kernel
theorem dX10_drawn_111 : decode cX10_drawn 111 = .ok (.iadd, 1) := by decide +kernel
theorem dX10_drawn_112 : decode cX10_drawn 112 = .ok (.aload_n 0, 1) := by decide +kernel
theorem dX10_drawn_113 : decode cX10_drawn 113 = .ok (.getfield 103, 3) := by decide +kernel
theorem dX10_drawn_116 : decode cX10_drawn 116 = .ok (.if_icmp .ge 24, 3) := by decide +kernel
theorem dX10_drawn_119 : decode cX10_drawn 119 = .ok (.aload_n 0, 1) := by decide +kernel
theorem dX10_drawn_120 : decode cX10_drawn 120 = .ok (.iconst (-1), 1) := by decide +kernel
theorem dX10_drawn_121 : decode cX10_drawn 121 = .ok (.iload_n 3, 1) := by decide +kernel
theorem dX10_drawn_122 : decode cX10_drawn 122 = .ok (.invokevirtual 194, 3) := by decide +kernel
theorem dX10_drawn_125 : decode cX10_drawn 125 = .ok (.istore 4, 2) := by decide +kernel
theorem dX10_drawn_127 : decode cX10_drawn 127 = .ok (.iload 4, 2) := by decide +kernel
theorem dX10_drawn_129 : decode cX10_drawn 129 = .ok (.iload_n 2, 1) := by decide +kernel
theorem dX10_drawn_130 : decode cX10_drawn 130 = .ok (.if_icmp .le 8, 3) := by decide +kernel
theorem dX10_drawn_133 : decode cX10_drawn 133 = .ok (.iload 4, 2) := by decide +kernel
theorem dX10_drawn_135 : decode cX10_drawn 135 = .ok (.goto 4, 3) := by decide +kernel
theorem dX10_drawn_138 : decode cX10_drawn 138 = .ok (.iload_n 2, 1) := by decide +kernel
theorem dX10_drawn_139 : decode cX10_drawn 139 = .ok (.istore_n 2, 1) := by decide +kernel
theorem dX10_drawn_140 : decode cX10_drawn 140 = .ok (.iinc 3 1, 3) := by decide +kernel
theorem dX10_drawn_143 : decode cX10_drawn 143 = .ok (.goto (-139), 3) := by decide +kernel
theorem dX10_drawn_146 : decode cX10_drawn 146 = .ok (.iload_n 1, 1) := by decide +kernel
theorem dX10_drawn_147 : decode cX10_drawn 147 = .ok (.iconst 3, 1) := by decide +kernel
theorem dX10_drawn_148 : decode cX10_drawn 148 = .ok (.if_icmp .ne 10, 3) := by decide +kernel
theorem dX10_drawn_151 : decode cX10_drawn 151 = .ok (.aload_n 0, 1) := by decide +kernel
theorem dX10_drawn_152 : decode cX10_drawn 152 = .ok (.getfield 103, 3) := by decide +kernel
theorem dX10_drawn_155 : decode cX10_drawn 155 = .ok (.goto 4, 3) := by decide +kernel
theorem dX10_drawn_158 : decode cX10_drawn 158 = .ok (.iload_n 2, 1) := by decide +kernel
theorem dX10_drawn_159 : decode cX10_drawn 159 = .ok (.ireturn, 1) := by decide +kernel
theorem dJ6_compare_7cf53_0 : decode cJ6_compare_7cf53 0 = .ok (.iload_n 0, 1) := by decide +kernel
theorem dJ6_compare_7cf53_1 : decode cJ6_compare_7cf53 1 = .ok (.iload_n 1, 1) := by decide +kernel
theorem dJ6_compare_7cf53_2 : decode cJ6_compare_7cf53 2 = .ok (.if_icmp .ge 7, 3) := by decide +kernel
theorem dJ6_compare_7cf53_5 : decode cJ6_compare_7cf53 5 = .ok (.iconst (-1), 1) := by decide +kernel
theorem dJ6_compare_7cf53_6 : decode cJ6_compare_7cf53 6 = .ok (.goto 13, 3) := by decide +kernel
theorem dJ6_compare_7cf53_9 : decode cJ6_compare_7cf53 9 = .ok (.iload_n 0, 1) := by decide +kernel
theorem dJ6_compare_7cf53_10 : decode cJ6_compare_7cf53 10 = .ok (.iload_n 1, 1) := by decide +kernel
theorem dJ6_compare_7cf53_11 : decode cJ6_compare_7cf53 11 = .ok (.if_icmp .ne 7, 3) := by decide +kernel
theorem dJ6_compare_7cf53_14 : decode cJ6_compare_7cf53 14 = .ok (.iconst 0, 1) := by decide +kernel
theorem dJ6_compare_7cf53_15 : decode cJ6_compare_7cf53 15 = .ok (.goto 4, 3) := by decide +kernel
theorem dJ6_compare_7cf53_18 : decode cJ6_compare_7cf53 18 = .ok (.iconst 1, 1) := by decide +kernel
theorem dJ6_compare_7cf53_19 : decode cJ6_compare_7cf53 19 = .ok (.ireturn, 1) := by decide +kernel
theorem dJ9_max_7cf53_0 : decode cJ9_max_7cf53 0 = .ok (.iload_n 0, 1) := by decide +kernel
theorem dJ9_max_7cf53_1 : decode cJ9_max_7cf53 1 = .ok (.iload_n 1, 1) := by decide +kernel
theorem dJ9_max_7cf53_2 : decode cJ9_max_7cf53 2 = .ok (.if_icmp .lt 7, 3) := by decide +kernel
theorem dJ9_max_7cf53_5 : decode cJ9_max_7cf53 5 = .ok (.iload_n 0, 1) := by decide +kernel
theorem dJ9_max_7cf53_6 : decode cJ9_max_7cf53 6 = .ok (.goto 4, 3) := by decide +kernel
theorem dJ9_max_7cf53_9 : decode cJ9_max_7cf53 9 = .ok (.iload_n 1, 1) := by decide +kernel
theorem dJ9_max_7cf53_10 : decode cJ9_max_7cf53 10 = .ok (.ireturn, 1) := by decide +kernel
theorem dJ9_min_7cf53_0 : decode cJ9_min_7cf53 0 = .ok (.iload_n 0, 1) := by decide +kernel
theorem dJ9_min_7cf53_1 : decode cJ9_min_7cf53 1 = .ok (.iload_n 1, 1) := by decide +kernel
theorem dJ9_min_7cf53_2 : decode cJ9_min_7cf53 2 = .ok (.if_icmp .gt 7, 3) := by decide +kernel
theorem dJ9_min_7cf53_5 : decode cJ9_min_7cf53 5 = .ok (.iload_n 0, 1) := by decide +kernel
theorem dJ9_min_7cf53_6 : decode cJ9_min_7cf53 6 = .ok (.goto 4, 3) := by decide +kernel
theorem dJ9_min_7cf53_9 : decode cJ9_min_7cf53 9 = .ok (.iload_n 1, 1) := by decide +kernel
theorem dJ9_min_7cf53_10 : decode cJ9_min_7cf53 10 = .ok (.ireturn, 1) := by decide +kernel
theorem dJ7_fill_53178_0 : decode cJ7_fill_53178 0 = .ok (.iconst 0, 1) := by decide +kernel
theorem dJ7_fill_53178_1 : decode cJ7_fill_53178 1 = .ok (.istore_n 2, 1) := by decide +kernel
theorem dJ7_fill_53178_2 : decode cJ7_fill_53178 2 = .ok (.aload_n 0, 1) := by decide +kernel
theorem dJ7_fill_53178_3 : decode cJ7_fill_53178 3 = .ok (.arraylength, 1) := by decide +kernel
theorem dJ7_fill_53178_4 : decode cJ7_fill_53178 4 = .ok (.istore_n 3, 1) := by decide +kernel
theorem dJ7_fill_53178_5 : decode cJ7_fill_53178 5 = .ok (.iload_n 2, 1) := by decide +kernel
theorem dJ7_fill_53178_6 : decode cJ7_fill_53178 6 = .ok (.iload_n 3, 1) := by decide +kernel
theorem dJ7_fill_53178_7 : decode cJ7_fill_53178 7 = .ok (.if_icmp .ge 13, 3) := by decide +kernel
theorem dJ7_fill_53178_10 : decode cJ7_fill_53178 10 = .ok (.aload_n 0, 1) := by decide +kernel
theorem dJ7_fill_53178_11 : decode cJ7_fill_53178 11 = .ok (.iload_n 2, 1) := by decide +kernel
theorem dJ7_fill_53178_12 : decode cJ7_fill_53178 12 = .ok (.iload_n 1, 1) := by decide +kernel
theorem dJ7_fill_53178_13 : decode cJ7_fill_53178 13 = .ok (.iastore, 1) := by decide +kernel
theorem dJ7_fill_53178_14 : decode cJ7_fill_53178 14 = .ok (.iinc 2 1, 3) := by decide +kernel
theorem dJ7_fill_53178_17 : decode cJ7_fill_53178 17 = .ok (.goto (-12), 3) := by decide +kernel
theorem dJ7_fill_53178_20 : decode cJ7_fill_53178 20 = .ok (.return_, 1) := by decide +kernel
