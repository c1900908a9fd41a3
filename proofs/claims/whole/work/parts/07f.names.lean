theorem dX7_end_135 : decode cX7_end 135 = .ok (.iconst 0, 1) := by decide +kernel
theorem dX7_end_136 : decode cX7_end 136 = .ok (.istore 4, 2) := by decide +kernel
theorem dX7_end_138 : decode cX7_end 138 = .ok (.iload 4, 2) := by decide +kernel
theorem dX7_end_140 : decode cX7_end 140 = .ok (.aload_n 0, 1) := by decide +kernel
theorem dX7_end_141 : decode cX7_end 141 = .ok (.getfield 111, 3) := by decide +kernel
theorem dX7_end_144 : decode cX7_end 144 = .ok (.if_icmp .ge 150, 3) := by decide +kernel
theorem dX7_end_147 : decode cX7_end 147 = .ok (.iload_n 2, 1) := by decide +kernel
theorem dX7_end_148 : decode cX7_end 148 = .ok (.iload 4, 2) := by decide +kernel
theorem dX7_end_150 : decode cX7_end 150 = .ok (.invokestatic 125, 3) := by decide +kernel
theorem dX7_end_153 : decode cX7_end 153 = .ok (.ifCond .eq 135, 3) := by decide +kernel
theorem dX7_end_156 : decode cX7_end 156 = .ok (.aload_n 0, 1) := by decide +kernel
theorem dX7_end_157 : decode cX7_end 157 = .ok (.getfield 54, 3) := by decide +kernel
theorem dX7_end_160 : decode cX7_end 160 = .ok (.iload 4, 2) := by decide +kernel
theorem dX7_end_162 : decode cX7_end 162 = .ok (.iload_n 3, 1) := by decide +kernel
theorem dX7_end_163 : decode cX7_end 163 = .ok (.iastore, 1) := by decide +kernel
theorem dX7_end_164 : decode cX7_end 164 = .ok (.aload_n 0, 1) := by decide +kernel
theorem dX7_end_165 : decode cX7_end 165 = .ok (.iload 4, 2) := by decide +kernel
theorem dX7_end_167 : decode cX7_end 167 = .ok (.invokevirtual 170, 3) := by decide +kernel
theorem dX7_end_170 : decode cX7_end 170 = .ok (.istore 5, 2) := by decide +kernel
theorem dX7_end_172 : decode cX7_end 172 = .ok (.aload_n 0, 1) := by decide +kernel
theorem dX7_end_173 : decode cX7_end 173 = .ok (.iload 4, 2) := by decide +kernel
theorem dX7_end_175 : decode cX7_end 175 = .ok (.ldc2_w 192, 3) := by decide +kernel
theorem dX7_end_178 : decode cX7_end 178 = .ok (.iload_n 2, 1) := by decide +kernel
theorem dX7_end_179 : decode cX7_end 179 = .ok (.i2l, 1) := by decide +kernel
theorem dX7_end_180 : decode cX7_end 180 = .ok (.lconst 0, 1) := by decide +kernel
theorem dX7_end_181 : decode cX7_end 181 = .ok (.lconst 0, 1) := by decide +kernel
theorem dX7_end_182 : decode cX7_end 182 = .ok (.lconst 0, 1) := by decide +kernel
theorem dX7_end_183 : decode cX7_end 183 = .ok (.aload_n 0, 1) := by decide +kernel
theorem dX7_end_184 : decode cX7_end 184 = .ok (.getfield 75, 3) := by decide +kernel
theorem dX7_end_187 : decode cX7_end 187 = .ok (.iload_n 1, 1) := by decide +kernel
theorem dX7_end_188 : decode cX7_end 188 = .ok (.iaload, 1) := by decide +kernel
theorem dX7_end_189 : decode cX7_end 189 = .ok (.i2l, 1) := by decide +kernel
theorem dX7_end_190 : decode cX7_end 190 = .ok (.invokevirtual 140, 3) := by decide +kernel
theorem dX7_end_193 : decode cX7_end 193 = .ok (.iconst 0, 1) := by decide +kernel
theorem dX7_end_194 : decode cX7_end 194 = .ok (.istore 6, 2) := by decide +kernel
theorem dX7_end_196 : decode cX7_end 196 = .ok (.aload_n 0, 1) := by decide +kernel
theorem dX7_end_197 : decode cX7_end 197 = .ok (.getfield 51, 3) := by decide +kernel
theorem dX7_end_200 : decode cX7_end 200 = .ok (.iload 4, 2) := by decide +kernel
theorem dX7_end_202 : decode cX7_end 202 = .ok (.iaload, 1) := by decide +kernel
theorem dX7_end_203 : decode cX7_end 203 = .ok (.iconst 1, 1) := by decide +kernel
theorem dX7_end_204 : decode cX7_end 204 = .ok (.iadd, 1) := by decide +kernel
theorem dX7_end_205 : decode cX7_end 205 = .ok (.istore 7, 2) := by decide +kernel
theorem dX7_end_207 : decode cX7_end 207 = .ok (.iload 7, 2) := by decide +kernel
theorem dX7_end_209 : decode cX7_end 209 = .ok (.aload_n 0, 1) := by decide +kernel
theorem dX7_end_210 : decode cX7_end 210 = .ok (.getfield 87, 3) := by decide +kernel
theorem dX7_end_213 : decode cX7_end 213 = .ok (.iload_n 1, 1) := by decide +kernel
theorem dX7_end_214 : decode cX7_end 214 = .ok (.iaload, 1) := by decide +kernel
theorem dX7_end_215 : decode cX7_end 215 = .ok (.if_icmp .gt 73, 3) := by decide +kernel
theorem dX7_end_218 : decode cX7_end 218 = .ok (.aload_n 0, 1) := by decide +kernel
theorem dX7_end_219 : decode cX7_end 219 = .ok (.iload 4, 2) := by decide +kernel
theorem dX7_end_221 : decode cX7_end 221 = .ok (.iload 7, 2) := by decide +kernel
theorem dX7_end_223 : decode cX7_end 223 = .ok (.invokevirtual 129, 3) := by decide +kernel
theorem dX7_end_226 : decode cX7_end 226 = .ok (.istore 8, 2) := by decide +kernel
theorem dX7_end_228 : decode cX7_end 228 = .ok (.iload 6, 2) := by decide +kernel
theorem dX7_end_230 : decode cX7_end 230 = .ok (.ifCond .ne 8, 3) := by decide +kernel
theorem dX7_end_233 : decode cX7_end 233 = .ok (.iload 8, 2) := by decide +kernel
theorem dX7_end_235 : decode cX7_end 235 = .ok (.ifCond .ne 7, 3) := by decide +kernel
theorem dX7_end_238 : decode cX7_end 238 = .ok (.iconst 1, 1) := by decide +kernel
theorem dX7_end_239 : decode cX7_end 239 = .ok (.goto 4, 3) := by decide +kernel
theorem dX7_end_242 : decode cX7_end 242 = .ok (.iconst 0, 1) := by decide +kernel
theorem dX7_end_243 : decode cX7_end 243 = .ok (.istore 6, 2) := by decide +kernel
theorem dX7_end_245 : decode cX7_end 245 = .ok (.iload 8, 2) := by decide +kernel
theorem dX7_end_247 : decode cX7_end 247 = .ok (.ifCond .eq 35, 3) := by decide +kernel
theorem dX7_end_250 : decode cX7_end 250 = .ok (.iload 6, 2) := by decide +kernel
theorem dX7_end_252 : decode cX7_end 252 = .ok (.ifCond .eq 21, 3) := by decide +kernel
theorem dX7_end_255 : decode cX7_end 255 = .ok (.iload_n 2, 1) := by decide +kernel
theorem dX7_end_256 : decode cX7_end 256 = .ok (.aload_n 0, 1) := by decide +kernel
theorem dX7_end_257 : decode cX7_end 257 = .ok (.getfield 90, 3) := by decide +kernel
theorem dX7_end_260 : decode cX7_end 260 = .ok (.iload_n 1, 1) := by decide +kernel
theorem dX7_end_261 : decode cX7_end 261 = .ok (.iload 7, 2) := by decide +kernel
theorem dX7_end_263 : decode cX7_end 263 = .ok (.invokestatic 121, 3) := by decide +kernel
theorem dX7_end_266 : decode cX7_end 266 = .ok (.iaload, 1) := by decide +kernel
theorem dX7_end_267 : decode cX7_end 267 = .ok (.invokestatic 125, 3) := by decide +kernel
theorem dX7_end_270 : decode cX7_end 270 = .ok (.ifCond .eq 12, 3) := by decide +kernel
theorem dX7_end_273 : decode cX7_end 273 = .ok (.aload_n 0, 1) := by decide +kernel
theorem dX7_end_274 : decode cX7_end 274 = .ok (.iload 4, 2) := by decide +kernel
theorem dX7_end_276 : decode cX7_end 276 = .ok (.iload 7, 2) := by decide +kernel
theorem dX7_end_278 : decode cX7_end 278 = .ok (.iconst 0, 1) := by decide +kernel
theorem dX7_end_279 : decode cX7_end 279 = .ok (.invokevirtual 148, 3) := by decide +kernel
theorem dX7_end_282 : decode cX7_end 282 = .ok (.iinc 7 1, 3) := by decide +kernel
theorem dX7_end_285 : decode cX7_end 285 = .ok (.goto (-78), 3) := by decide +kernel
theorem dX7_end_288 : decode cX7_end 288 = .ok (.iinc 4 1, 3) := by decide +kernel
theorem dX7_end_291 : decode cX7_end 291 = .ok (.goto (-153), 3) := by decide +kernel
theorem dX7_end_294 : decode cX7_end 294 = .ok (.return_, 1) := by decide +kernel
set_option maxRecDepth 20000 in
theorem ggX7_share_X7_voter : GoodIn wsX7_share wsX7_voter := goodIn_r _ [14, 2, 1, 15, 16, 13, 17, 18, 19, 20, 27, 28, 29, 30, 31, 32, 33, 34, 35, 36, 37, 38, 39, 40, 41, 42, 43, 44, 45, 46, 47, 48, 49, 50, 51, 52, 53, 54, 55, 56, 57, 58, 59, 60, 61, 62] (by decide +kernel) (by decide +kernel)
set_option maxRecDepth 20000 in
theorem gX7_share_X7_voter : GoodIn wsX7_share (wsV RX7 180 RX7 yX7_voter wsX7_voter) := goodIn_app (goodIn_of _ (by decide +kernel)) ggX7_share_X7_voter
set_option maxRecDepth 20000 in
theorem ggX7_share_X7_isIn : GoodIn wsX7_share wsX7_isIn := goodIn_r _ [20] (by decide +kernel) (by decide +kernel)
set_option maxRecDepth 20000 in
theorem gX7_share_X7_isIn : GoodIn wsX7_share (va_wsS RX7 125 yX7_isIn wsX7_isIn) := goodIn_app (goodIn_of _ (by decide +kernel)) ggX7_share_X7_isIn
set_option maxRecDepth 20000 in
theorem ggX7_share_X7_apply : GoodIn wsX7_share wsX7_apply := goodIn_r _ [24, 9, 3, 8, 25, 26, 4, 27, 28, 29, 30, 31, 32, 33, 34, 35, 36, 37, 38, 39, 40, 41, 42, 43, 44, 45, 46, 47, 48, 49, 50, 51, 52, 53, 54, 55, 56, 57, 58, 59, 60, 61, 62] (by decide +kernel) (by decide +kernel)
set_option maxRecDepth 20000 in
theorem gX7_share_X7_apply : GoodIn wsX7_share (wsV RX7 144 RX7 yX7_apply wsX7_apply) := goodIn_app (goodIn_of _ (by decide +kernel)) ggX7_share_X7_apply
theorem dX7_share_0 : decode cX7_share 0 = .ok (.aload_n 0, 1) := by decide +kernel
theorem dX7_share_1 : decode cX7_share 1 = .ok (.getfield 33, 3) := by decide +kernel
theorem dX7_share_4 : decode cX7_share 4 = .ok (.aload_n 0, 1) := by decide +kernel
theorem dX7_share_5 : decode cX7_share 5 = .ok (.iload_n 1, 1) := by decide +kernel
theorem dX7_share_6 : decode cX7_share 6 = .ok (.invokevirtual 180, 3) := by decide +kernel
theorem dX7_share_9 : decode cX7_share 9 = .ok (.iaload, 1) := by decide +kernel
theorem dX7_share_10 : decode cX7_share 10 = .ok (.istore_n 2, 1) := by decide +kernel
theorem dX7_share_11 : decode cX7_share 11 = .ok (.aload_n 0, 1) := by decide +kernel
theorem dX7_share_12 : decode cX7_share 12 = .ok (.iload_n 1, 1) := by decide +kernel
theorem dX7_share_13 : decode cX7_share 13 = .ok (.invokevirtual 180, 3) := by decide +kernel
theorem dX7_share_16 : decode cX7_share 16 = .ok (.istore_n 3, 1) := by decide +kernel
theorem dX7_share_17 : decode cX7_share 17 = .ok (.aload_n 0, 1) := by decide +kernel
theorem dX7_share_18 : decode cX7_share 18 = .ok (.getfield 111, 3) := by decide +kernel
theorem dX7_share_21 : decode cX7_share 21 = .ok (.iconst 1, 1) := by decide +kernel
theorem dX7_share_22 : decode cX7_share 22 = .ok (.isub, 1) := by decide +kernel
theorem dX7_share_23 : decode cX7_share 23 = .ok (.istore 4, 2) := by decide +kernel
theorem dX7_share_25 : decode cX7_share 25 = .ok (.iload 4, 2) := by decide +kernel
theorem dX7_share_27 : decode cX7_share 27 = .ok (.ifCond .lt 52, 3) := by decide +kernel
theorem dX7_share_30 : decode cX7_share 30 = .ok (.iload_n 1, 1) := by decide +kernel
theorem dX7_share_31 : decode cX7_share 31 = .ok (.iload 4, 2) := by decide +kernel
theorem dX7_share_33 : decode cX7_share 33 = .ok (.invokestatic 125, 3) := by decide +kernel
theorem dX7_share_36 : decode cX7_share 36 = .ok (.ifCond .eq 35, 3) := by decide +kernel
theorem dX7_share_39 : decode cX7_share 39 = .ok (.aload_n 0, 1) := by decide +kernel
theorem dX7_share_40 : decode cX7_share 40 = .ok (.getfield 33, 3) := by decide +kernel
theorem dX7_share_43 : decode cX7_share 43 = .ok (.iload 4, 2) := by decide +kernel
theorem dX7_share_45 : decode cX7_share 45 = .ok (.iaload, 1) := by decide +kernel
theorem dX7_share_46 : decode cX7_share 46 = .ok (.iload_n 2, 1) := by decide +kernel
theorem dX7_share_47 : decode cX7_share 47 = .ok (.if_icmp .ne 24, 3) := by decide +kernel
theorem dX7_share_50 : decode cX7_share 50 = .ok (.aload_n 0, 1) := by decide +kernel
theorem dX7_share_51 : decode cX7_share 51 = .ok (.getfield 27, 3) := by decide +kernel
theorem dX7_share_54 : decode cX7_share 54 = .ok (.iload 4, 2) := by decide +kernel
theorem dX7_share_56 : decode cX7_share 56 = .ok (.iaload, 1) := by decide +kernel
theorem dX7_share_57 : decode cX7_share 57 = .ok (.aload_n 0, 1) := by decide +kernel
theorem dX7_share_58 : decode cX7_share 58 = .ok (.getfield 27, 3) := by decide +kernel
theorem dX7_share_61 : decode cX7_share 61 = .ok (.iload_n 3, 1) := by decide +kernel
theorem dX7_share_62 : decode cX7_share 62 = .ok (.iaload, 1) := by decide +kernel
theorem dX7_share_63 : decode cX7_share 63 = .ok (.if_icmp .lt 8, 3) := by decide +kernel
theorem dX7_share_66 : decode cX7_share 66 = .ok (.iload 4, 2) := by decide +kernel
theorem dX7_share_68 : decode cX7_share 68 = .ok (.goto 4, 3) := by decide +kernel
theorem dX7_share_71 : decode cX7_share 71 = .ok (.iload_n 3, 1) := by decide +kernel
theorem dX7_share_72 : decode cX7_share 72 = .ok (.istore_n 3, 1) := by decide +kernel
theorem dX7_share_73 : decode cX7_share 73 = .ok (.iinc 4 (-1), 3) := by decide +kernel
theorem dX7_share_76 : decode cX7_share 76 = .ok (.goto (-51), 3) := by decide +kernel
theorem dX7_share_79 : decode cX7_share 79 = .ok (.aload_n 0, 1) := by decide +kernel
theorem dX7_share_80 : decode cX7_share 80 = .ok (.getfield 69, 3) := by decide +kernel
theorem dX7_share_83 : decode cX7_share 83 = .ok (.iload_n 3, 1) := by decide +kernel
theorem dX7_share_84 : decode cX7_share 84 = .ok (.iaload, 1) := by decide +kernel
theorem dX7_share_85 : decode cX7_share 85 = .ok (.iconst 1, 1) := by decide +kernel
theorem dX7_share_86 : decode cX7_share 86 = .ok (.iadd, 1) := by decide +kernel
theorem dX7_share_87 : decode cX7_share 87 = .ok (.istore 4, 2) := by decide +kernel
theorem dX7_share_89 : decode cX7_share 89 = .ok (.iload 4, 2) := by decide +kernel
theorem dX7_share_91 : decode cX7_share 91 = .ok (.bipush 100, 2) := by decide +kernel
theorem dX7_share_93 : decode cX7_share 93 = .ok (.if_icmp .gt 114, 3) := by decide +kernel
theorem dX7_share_96 : decode cX7_share 96 = .ok (.iconst (-1), 1) := by decide +kernel
theorem dX7_share_97 : decode cX7_share 97 = .ok (.istore 5, 2) := by decide +kernel
theorem dX7_share_99 : decode cX7_share 99 = .ok (.iconst 0, 1) := by decide +kernel
theorem dX7_share_100 : decode cX7_share 100 = .ok (.istore 6, 2) := by decide +kernel
theorem dX7_share_102 : decode cX7_share 102 = .ok (.iload 6, 2) := by decide +kernel
theorem dX7_share_104 : decode cX7_share 104 = .ok (.aload_n 0, 1) := by decide +kernel
theorem dX7_share_105 : decode cX7_share 105 = .ok (.getfield 111, 3) := by decide +kernel
theorem dX7_share_108 : decode cX7_share 108 = .ok (.if_icmp .ge 54, 3) := by decide +kernel
theorem dX7_share_111 : decode cX7_share 111 = .ok (.iload_n 1, 1) := by decide +kernel
theorem dX7_share_112 : decode cX7_share 112 = .ok (.iload 6, 2) := by decide +kernel
theorem dX7_share_114 : decode cX7_share 114 = .ok (.invokestatic 125, 3) := by decide +kernel
theorem dX7_share_117 : decode cX7_share 117 = .ok (.ifCond .eq 35, 3) := by decide +kernel
theorem dX7_share_120 : decode cX7_share 120 = .ok (.aload_n 0, 1) := by decide +kernel
theorem dX7_share_121 : decode cX7_share 121 = .ok (.getfield 33, 3) := by decide +kernel
theorem dX7_share_124 : decode cX7_share 124 = .ok (.iload 6, 2) := by decide +kernel
theorem dX7_share_126 : decode cX7_share 126 = .ok (.iaload, 1) := by decide +kernel
theorem dX7_share_127 : decode cX7_share 127 = .ok (.iload_n 2, 1) := by decide +kernel
theorem dX7_share_128 : decode cX7_share 128 = .ok (.if_icmp .ne 24, 3) := by decide +kernel
theorem dX7_share_131 : decode cX7_share 131 = .ok (.aload_n 0, 1) := by decide +kernel
theorem dX7_share_132 : decode cX7_share 132 = .ok (.getfield 60, 3) := by decide +kernel
theorem dX7_share_135 : decode cX7_share 135 = .ok (.bipush 101, 2) := by decide +kernel
theorem dX7_share_137 : decode cX7_share 137 = .ok (.iload 6, 2) := by decide +kernel
theorem dX7_share_139 : decode cX7_share 139 = .ok (.imul, 1) := by decide +kernel
theorem dX7_share_140 : decode cX7_share 140 = .ok (.iload 4, 2) := by decide +kernel
theorem dX7_share_142 : decode cX7_share 142 = .ok (.iadd, 1) := by decide +kernel
theorem dX7_share_143 : decode cX7_share 143 = .ok (.baload, 1) := by decide +kernel
theorem dX7_share_144 : decode cX7_share 144 = .ok (.ifCond .eq 8, 3) := by decide +kernel
theorem dX7_share_147 : decode cX7_share 147 = .ok (.iload 6, 2) := by decide +kernel
theorem dX7_share_149 : decode cX7_share 149 = .ok (.goto 5, 3) := by decide +kernel
theorem dX7_share_152 : decode cX7_share 152 = .ok (.iload 5, 2) := by decide +kernel
theorem dX7_share_154 : decode cX7_share 154 = .ok (.istore 5, 2) := by decide +kernel
theorem dX7_share_156 : decode cX7_share 156 = .ok (.iinc 6 1, 3) := by decide +kernel
theorem dX7_share_159 : decode cX7_share 159 = .ok (.goto (-57), 3) := by decide +kernel
theorem dX7_share_162 : decode cX7_share 162 = .ok (.iload 5, 2) := by decide +kernel
theorem dX7_share_164 : decode cX7_share 164 = .ok (.iconst (-1), 1) := by decide +kernel
theorem dX7_share_165 : decode cX7_share 165 = .ok (.if_icmp .eq 36, 3) := by decide +kernel
theorem dX7_share_168 : decode cX7_share 168 = .ok (.aload_n 0, 1) := by decide +kernel
theorem dX7_share_169 : decode cX7_share 169 = .ok (.iload_n 3, 1) := by decide +kernel
theorem dX7_share_170 : decode cX7_share 170 = .ok (.iload 4, 2) := by decide +kernel
theorem dX7_share_172 : decode cX7_share 172 = .ok (.aload_n 0, 1) := by decide +kernel
theorem dX7_share_173 : decode cX7_share 173 = .ok (.getfield 63, 3) := by decide +kernel
theorem dX7_share_176 : decode cX7_share 176 = .ok (.bipush 101, 2) := by decide +kernel
theorem dX7_share_178 : decode cX7_share 178 = .ok (.iload 5, 2) := by decide +kernel
theorem dX7_share_180 : decode cX7_share 180 = .ok (.imul, 1) := by decide +kernel
theorem dX7_share_181 : decode cX7_share 181 = .ok (.iload 4, 2) := by decide +kernel
theorem dX7_share_183 : decode cX7_share 183 = .ok (.iadd, 1) := by decide +kernel
theorem dX7_share_184 : decode cX7_share 184 = .ok (.iaload, 1) := by decide +kernel
theorem dX7_share_185 : decode cX7_share 185 = .ok (.aload_n 0, 1) := by decide +kernel
theorem dX7_share_186 : decode cX7_share 186 = .ok (.getfield 66, 3) := by decide +kernel
theorem dX7_share_189 : decode cX7_share 189 = .ok (.bipush 101, 2) := by decide +kernel
theorem dX7_share_191 : decode cX7_share 191 = .ok (.iload 5, 2) := by decide +kernel
theorem dX7_share_193 : decode cX7_share 193 = .ok (.imul, 1) := by decide +kernel
theorem dX7_share_194 : decode cX7_share 194 = .ok (.iload 4, 2) := by decide +kernel
theorem dX7_share_196 : decode cX7_share 196 = .ok (.iadd, 1) := by decide +kernel
theorem dX7_share_197 : decode cX7_share 197 = .ok (.laload, 1) := by decide +kernel
theorem dX7_share_198 : decode cX7_share 198 = .ok (.invokevirtual 144, 3) := by decide +kernel
theorem dX7_share_201 : decode cX7_share 201 = .ok (.iinc 4 1, 3) := by decide +kernel
theorem dX7_share_204 : decode cX7_share 204 = .ok (.goto (-115), 3) := by decide +kernel
theorem dX7_share_207 : decode cX7_share 207 = .ok (.iconst 0, 1) := by decide +kernel
theorem dX7_share_208 : decode cX7_share 208 = .ok (.istore 4, 2) := by decide +kernel
theorem dX7_share_210 : decode cX7_share 210 = .ok (.iload 4, 2) := by decide +kernel
theorem dX7_share_212 : decode cX7_share 212 = .ok (.aload_n 0, 1) := by decide +kernel
theorem dX7_share_213 : decode cX7_share 213 = .ok (.getfield 111, 3) := by decide +kernel
theorem dX7_share_216 : decode cX7_share 216 = .ok (.if_icmp .ge 91, 3) := by decide +kernel
theorem dX7_share_219 : decode cX7_share 219 = .ok (.iload_n 1, 1) := by decide +kernel
theorem dX7_share_220 : decode cX7_share 220 = .ok (.iload 4, 2) := by decide +kernel
theorem dX7_share_222 : decode cX7_share 222 = .ok (.invokestatic 125, 3) := by decide +kernel
theorem dX7_share_225 : decode cX7_share 225 = .ok (.ifCond .eq 76, 3) := by decide +kernel
theorem dX7_share_228 : decode cX7_share 228 = .ok (.iload 4, 2) := by decide +kernel
theorem dX7_share_230 : decode cX7_share 230 = .ok (.iload_n 3, 1) := by decide +kernel
theorem dX7_share_231 : decode cX7_share 231 = .ok (.if_icmp .eq 70, 3) := by decide +kernel
theorem dX7_share_234 : decode cX7_share 234 = .ok (.aload_n 0, 1) := by decide +kernel
theorem dX7_share_235 : decode cX7_share 235 = .ok (.getfield 27, 3) := by decide +kernel
theorem dX7_share_238 : decode cX7_share 238 = .ok (.iload 4, 2) := by decide +kernel
theorem dX7_share_240 : decode cX7_share 240 = .ok (.aload_n 0, 1) := by decide +kernel
theorem dX7_share_241 : decode cX7_share 241 = .ok (.getfield 27, 3) := by decide +kernel
theorem dX7_share_244 : decode cX7_share 244 = .ok (.iload_n 3, 1) := by decide +kernel
theorem dX7_share_245 : decode cX7_share 245 = .ok (.iaload, 1) := by decide +kernel
theorem dX7_share_246 : decode cX7_share 246 = .ok (.iastore, 1) := by decide +kernel
theorem dX7_share_247 : decode cX7_share 247 = .ok (.aload_n 0, 1) := by decide +kernel
theorem dX7_share_248 : decode cX7_share 248 = .ok (.getfield 30, 3) := by decide +kernel
theorem dX7_share_251 : decode cX7_share 251 = .ok (.iload 4, 2) := by decide +kernel
theorem dX7_share_253 : decode cX7_share 253 = .ok (.aload_n 0, 1) := by decide +kernel
theorem dX7_share_254 : decode cX7_share 254 = .ok (.getfield 30, 3) := by decide +kernel
theorem dX7_share_257 : decode cX7_share 257 = .ok (.iload_n 3, 1) := by decide +kernel
theorem dX7_share_258 : decode cX7_share 258 = .ok (.laload, 1) := by decide +kernel
theorem dX7_share_259 : decode cX7_share 259 = .ok (.lastore, 1) := by decide +kernel
theorem dX7_share_260 : decode cX7_share 260 = .ok (.iconst 0, 1) := by decide +kernel
theorem dX7_share_261 : decode cX7_share 261 = .ok (.istore 5, 2) := by decide +kernel
theorem dX7_share_263 : decode cX7_share 263 = .ok (.iload 5, 2) := by decide +kernel
theorem dX7_share_265 : decode cX7_share 265 = .ok (.bipush 16, 2) := by decide +kernel
theorem dX7_share_267 : decode cX7_share 267 = .ok (.if_icmp .ge 34, 3) := by decide +kernel
theorem dX7_share_270 : decode cX7_share 270 = .ok (.aload_n 0, 1) := by decide +kernel
theorem dX7_share_271 : decode cX7_share 271 = .ok (.getfield 23, 3) := by decide +kernel
theorem dX7_share_274 : decode cX7_share 274 = .ok (.bipush 16, 2) := by decide +kernel
theorem dX7_share_276 : decode cX7_share 276 = .ok (.iload 4, 2) := by decide +kernel
theorem dX7_share_278 : decode cX7_share 278 = .ok (.imul, 1) := by decide +kernel
theorem dX7_share_279 : decode cX7_share 279 = .ok (.iload 5, 2) := by decide +kernel
theorem dX7_share_281 : decode cX7_share 281 = .ok (.iadd, 1) := by decide +kernel
theorem dX7_share_282 : decode cX7_share 282 = .ok (.aload_n 0, 1) := by decide +kernel
theorem dX7_share_283 : decode cX7_share 283 = .ok (.getfield 23, 3) := by decide +kernel
theorem dX7_share_286 : decode cX7_share 286 = .ok (.bipush 16, 2) := by decide +kernel
theorem dX7_share_288 : decode cX7_share 288 = .ok (.iload_n 3, 1) := by decide +kernel
theorem dX7_share_289 : decode cX7_share 289 = .ok (.imul, 1) := by decide +kernel
theorem dX7_share_290 : decode cX7_share 290 = .ok (.iload 5, 2) := by decide +kernel
theorem dX7_share_292 : decode cX7_share 292 = .ok (.iadd, 1) := by decide +kernel
theorem dX7_share_293 : decode cX7_share 293 = .ok (.laload, 1) := by decide +kernel
theorem dX7_share_294 : decode cX7_share 294 = .ok (.lastore, 1) := by decide +kernel
theorem dX7_share_295 : decode cX7_share 295 = .ok (.iinc 5 1, 3) := by decide +kernel
theorem dX7_share_298 : decode cX7_share 298 = .ok (.goto (-35), 3) := by decide +kernel
theorem dX7_share_301 : decode cX7_share 301 = .ok (.iinc 4 1, 3) := by decide +kernel
theorem dX7_share_304 : decode cX7_share 304 = .ok (.goto (-94), 3) := by decide +kernel
theorem dX7_share_307 : decode cX7_share 307 = .ok (.return_, 1) := by decide +kernel
theorem dX7_forget_0 : decode cX7_forget 0 = .ok (.aload_n 0, 1) := by decide +kernel
theorem dX7_forget_1 : decode cX7_forget 1 = .ok (.getfield 69, 3) := by decide +kernel
theorem dX7_forget_4 : decode cX7_forget 4 = .ok (.iload_n 1, 1) := by decide +kernel
theorem dX7_forget_5 : decode cX7_forget 5 = .ok (.iconst 0, 1) := by decide +kernel
theorem dX7_forget_6 : decode cX7_forget 6 = .ok (.iastore, 1) := by decide +kernel
theorem dX7_forget_7 : decode cX7_forget 7 = .ok (.iconst 0, 1) := by decide +kernel
theorem dX7_forget_8 : decode cX7_forget 8 = .ok (.istore_n 2, 1) := by decide +kernel
theorem dX7_forget_9 : decode cX7_forget 9 = .ok (.iload_n 2, 1) := by decide +kernel
theorem dX7_forget_10 : decode cX7_forget 10 = .ok (.bipush 100, 2) := by decide +kernel
theorem dX7_forget_12 : decode cX7_forget 12 = .ok (.if_icmp .gt 21, 3) := by decide +kernel
theorem dX7_forget_15 : decode cX7_forget 15 = .ok (.aload_n 0, 1) := by decide +kernel
theorem dX7_forget_16 : decode cX7_forget 16 = .ok (.getfield 60, 3) := by decide +kernel
theorem dX7_forget_19 : decode cX7_forget 19 = .ok (.bipush 101, 2) := by decide +kernel
theorem dX7_forget_21 : decode cX7_forget 21 = .ok (.iload_n 1, 1) := by decide +kernel
theorem dX7_forget_22 : decode cX7_forget 22 = .ok (.imul, 1) := by decide +kernel
theorem dX7_forget_23 : decode cX7_forget 23 = .ok (.iload_n 2, 1) := by decide +kernel
theorem dX7_forget_24 : decode cX7_forget 24 = .ok (.iadd, 1) := by decide +kernel
theorem dX7_forget_25 : decode cX7_forget 25 = .ok (.iconst 0, 1) := by decide +kernel
theorem dX7_forget_26 : decode cX7_forget 26 = .ok (.bastore, 1) := by decide +kernel
theorem dX7_forget_27 : decode cX7_forget 27 = .ok (.iinc 2 1, 3) := by decide +kernel
theorem dX7_forget_30 : decode cX7_forget 30 = .ok (.goto (-21), 3) := by decide +kernel
theorem dX7_forget_33 : decode cX7_forget 33 = .ok (.return_, 1) := by decide +kernel
set_option maxRecDepth 20000 in
theorem ggX7_freeSlot_X7_of : GoodIn wsX7_freeSlot wsX7_of := goodIn_r _ [6, 1, 7, 8, 9, 5, 10, 11, 12, 13, 14, 15, 16, 17, 18, 19, 20, 21, 22, 23, 24, 25, 26, 27, 28, 29, 30, 31, 32, 33, 34, 35, 36, 37, 38, 39, 40, 41, 42, 43, 44, 45, 46] (by decide +kernel) (by decide +kernel)
set_option maxRecDepth 20000 in
theorem gX7_freeSlot_X7_of : GoodIn wsX7_freeSlot (wsV RX7 186 RX7 yX7_of wsX7_of) := goodIn_app (goodIn_of _ (by decide +kernel)) ggX7_freeSlot_X7_of
theorem dX7_freeSlot_0 : decode cX7_freeSlot 0 = .ok (.iconst 0, 1) := by decide +kernel
theorem dX7_freeSlot_1 : decode cX7_freeSlot 1 = .ok (.istore_n 1, 1) := by decide +kernel
theorem dX7_freeSlot_2 : decode cX7_freeSlot 2 = .ok (.aload_n 0, 1) := by decide +kernel
theorem dX7_freeSlot_3 : decode cX7_freeSlot 3 = .ok (.iconst 1, 1) := by decide +kernel
theorem dX7_freeSlot_4 : decode cX7_freeSlot 4 = .ok (.aload_n 0, 1) := by decide +kernel
theorem dX7_freeSlot_5 : decode cX7_freeSlot 5 = .ok (.getfield 111, 3) := by decide +kernel
theorem dX7_freeSlot_8 : decode cX7_freeSlot 8 = .ok (.ishl, 1) := by decide +kernel
theorem dX7_freeSlot_9 : decode cX7_freeSlot 9 = .ok (.iconst 1, 1) := by decide +kernel
theorem dX7_freeSlot_10 : decode cX7_freeSlot 10 = .ok (.isub, 1) := by decide +kernel
theorem dX7_freeSlot_11 : decode cX7_freeSlot 11 = .ok (.iload_n 1, 1) := by decide +kernel
theorem dX7_freeSlot_12 : decode cX7_freeSlot 12 = .ok (.invokevirtual 186, 3) := by decide +kernel
theorem dX7_freeSlot_15 : decode cX7_freeSlot 15 = .ok (.ifCond .eq 9, 3) := by decide +kernel
theorem dX7_freeSlot_18 : decode cX7_freeSlot 18 = .ok (.iinc 1 1, 3) := by decide +kernel
theorem dX7_freeSlot_21 : decode cX7_freeSlot 21 = .ok (.goto (-19), 3) := by decide +kernel
theorem dX7_freeSlot_24 : decode cX7_freeSlot 24 = .ok (.iload_n 1, 1) := by decide +kernel
theorem dX7_freeSlot_25 : decode cX7_freeSlot 25 = .ok (.ireturn, 1) := by decide +kernel
set_option maxRecDepth 20000 in
theorem ggX7_form_X7_isIn : GoodIn wsX7_form wsX7_isIn := goodIn_r _ [18] (by decide +kernel) (by decide +kernel)
set_option maxRecDepth 20000 in
theorem gX7_form_X7_isIn : GoodIn wsX7_form (va_wsS RX7 125 yX7_isIn wsX7_isIn) := goodIn_app (goodIn_of _ (by decide +kernel)) ggX7_form_X7_isIn
set_option maxRecDepth 20000 in
theorem ggX7_form_X7_freeSlot : GoodIn wsX7_form wsX7_freeSlot := goodIn_r _ [22, 1, 23, 24, 25, 17, 26, 9, 15, 16, 18, 42, 43, 44, 45, 46, 47, 48, 49, 50, 51, 52, 53, 54, 55, 56, 57, 58, 59, 60, 61, 62, 63, 64, 65, 66, 67, 68, 69, 70, 71, 72, 73, 74, 75, 76, 77] (by decide +kernel) (by decide +kernel)
set_option maxRecDepth 20000 in
theorem gX7_form_X7_freeSlot : GoodIn wsX7_form (wsV RX7 194 RX7 yX7_freeSlot wsX7_freeSlot) := goodIn_app (goodIn_of _ (by decide +kernel)) ggX7_form_X7_freeSlot
set_option maxRecDepth 20000 in
theorem ggX7_form_X7_least : GoodIn wsX7_form wsX7_least := goodIn_r _ [29, 15, 16, 17, 18] (by decide +kernel) (by decide +kernel)
set_option maxRecDepth 20000 in
theorem gX7_form_X7_least : GoodIn wsX7_form (va_wsS RX7 177 yX7_least wsX7_least) := goodIn_app (goodIn_of _ (by decide +kernel)) ggX7_form_X7_least
set_option maxRecDepth 20000 in
theorem ggX7_form_X7_forget : GoodIn wsX7_form wsX7_forget := goodIn_r _ [33, 34, 35, 42, 43, 44, 45, 46, 47, 48, 49, 50, 51, 52, 53, 54, 55, 56, 57, 58, 59, 60, 61, 62, 63, 64, 65, 66, 67, 68, 69, 70, 71, 72, 73, 74, 75, 76, 77] (by decide +kernel) (by decide +kernel)
set_option maxRecDepth 20000 in
theorem gX7_form_X7_forget : GoodIn wsX7_form (wsV RX7 198 RX7 yX7_forget wsX7_forget) := goodIn_app (goodIn_of _ (by decide +kernel)) ggX7_form_X7_forget
set_option maxRecDepth 20000 in
theorem ggX7_form_X7_tell : GoodIn wsX7_form wsX7_tell := goodIn_r _ [39, 40, 41, 42, 43, 44, 45, 46, 47, 48, 49, 50, 51, 52, 53, 54, 55, 56, 57, 58, 59, 60, 61, 62, 63, 64, 65, 66, 67, 68, 69, 70, 71, 72, 73, 74, 75, 76, 77] (by decide +kernel) (by decide +kernel)
set_option maxRecDepth 20000 in
theorem gX7_form_X7_tell : GoodIn wsX7_form (wsV RX7 140 RX7 yX7_tell wsX7_tell) := goodIn_app (goodIn_of _ (by decide +kernel)) ggX7_form_X7_tell
theorem dX7_form_0 : decode cX7_form 0 = .ok (.iconst 0, 1) := by decide +kernel
theorem dX7_form_1 : decode cX7_form 1 = .ok (.istore_n 3, 1) := by decide +kernel
theorem dX7_form_2 : decode cX7_form 2 = .ok (.iconst 0, 1) := by decide +kernel
theorem dX7_form_3 : decode cX7_form 3 = .ok (.istore 4, 2) := by decide +kernel
theorem dX7_form_5 : decode cX7_form 5 = .ok (.iload 4, 2) := by decide +kernel
theorem dX7_form_7 : decode cX7_form 7 = .ok (.aload_n 0, 1) := by decide +kernel
theorem dX7_form_8 : decode cX7_form 8 = .ok (.getfield 111, 3) := by decide +kernel
theorem dX7_form_11 : decode cX7_form 11 = .ok (.if_icmp .ge 41, 3) := by decide +kernel
theorem dX7_form_14 : decode cX7_form 14 = .ok (.iload_n 1, 1) := by decide +kernel
theorem dX7_form_15 : decode cX7_form 15 = .ok (.iload 4, 2) := by decide +kernel
theorem dX7_form_17 : decode cX7_form 17 = .ok (.invokestatic 125, 3) := by decide +kernel
theorem dX7_form_20 : decode cX7_form 20 = .ok (.ifCond .eq 24, 3) := by decide +kernel
theorem dX7_form_23 : decode cX7_form 23 = .ok (.aload_n 0, 1) := by decide +kernel
theorem dX7_form_24 : decode cX7_form 24 = .ok (.getfield 20, 3) := by decide +kernel
theorem dX7_form_27 : decode cX7_form 27 = .ok (.iload 4, 2) := by decide +kernel
theorem dX7_form_29 : decode cX7_form 29 = .ok (.iaload, 1) := by decide +kernel
theorem dX7_form_30 : decode cX7_form 30 = .ok (.iload_n 3, 1) := by decide +kernel
theorem dX7_form_31 : decode cX7_form 31 = .ok (.if_icmp .le 13, 3) := by decide +kernel
theorem dX7_form_34 : decode cX7_form 34 = .ok (.aload_n 0, 1) := by decide +kernel
theorem dX7_form_35 : decode cX7_form 35 = .ok (.getfield 20, 3) := by decide +kernel
theorem dX7_form_38 : decode cX7_form 38 = .ok (.iload 4, 2) := by decide +kernel
theorem dX7_form_40 : decode cX7_form 40 = .ok (.iaload, 1) := by decide +kernel
theorem dX7_form_41 : decode cX7_form 41 = .ok (.goto 4, 3) := by decide +kernel
theorem dX7_form_44 : decode cX7_form 44 = .ok (.iload_n 3, 1) := by decide +kernel
theorem dX7_form_45 : decode cX7_form 45 = .ok (.istore_n 3, 1) := by decide +kernel
theorem dX7_form_46 : decode cX7_form 46 = .ok (.iinc 4 1, 3) := by decide +kernel
theorem dX7_form_49 : decode cX7_form 49 = .ok (.goto (-44), 3) := by decide +kernel
theorem dX7_form_52 : decode cX7_form 52 = .ok (.iinc 3 1, 3) := by decide +kernel
theorem dX7_form_55 : decode cX7_form 55 = .ok (.aload_n 0, 1) := by decide +kernel
theorem dX7_form_56 : decode cX7_form 56 = .ok (.invokevirtual 194, 3) := by decide +kernel
theorem dX7_form_59 : decode cX7_form 59 = .ok (.istore 4, 2) := by decide +kernel
theorem dX7_form_61 : decode cX7_form 61 = .ok (.aload_n 0, 1) := by decide +kernel
theorem dX7_form_62 : decode cX7_form 62 = .ok (.getfield 75, 3) := by decide +kernel
theorem dX7_form_65 : decode cX7_form 65 = .ok (.iload 4, 2) := by decide +kernel
theorem dX7_form_67 : decode cX7_form 67 = .ok (.iload_n 3, 1) := by decide +kernel
theorem dX7_form_68 : decode cX7_form 68 = .ok (.iastore, 1) := by decide +kernel
theorem dX7_form_69 : decode cX7_form 69 = .ok (.aload_n 0, 1) := by decide +kernel
theorem dX7_form_70 : decode cX7_form 70 = .ok (.getfield 78, 3) := by decide +kernel
theorem dX7_form_73 : decode cX7_form 73 = .ok (.iload 4, 2) := by decide +kernel
theorem dX7_form_75 : decode cX7_form 75 = .ok (.iload_n 1, 1) := by decide +kernel
theorem dX7_form_76 : decode cX7_form 76 = .ok (.iastore, 1) := by decide +kernel
theorem dX7_form_77 : decode cX7_form 77 = .ok (.aload_n 0, 1) := by decide +kernel
theorem dX7_form_78 : decode cX7_form 78 = .ok (.getfield 81, 3) := by decide +kernel
theorem dX7_form_81 : decode cX7_form 81 = .ok (.iload 4, 2) := by decide +kernel
theorem dX7_form_83 : decode cX7_form 83 = .ok (.iconst 0, 1) := by decide +kernel
theorem dX7_form_84 : decode cX7_form 84 = .ok (.bastore, 1) := by decide +kernel
theorem dX7_form_85 : decode cX7_form 85 = .ok (.aload_n 0, 1) := by decide +kernel
theorem dX7_form_86 : decode cX7_form 86 = .ok (.getfield 84, 3) := by decide +kernel
theorem dX7_form_89 : decode cX7_form 89 = .ok (.iload 4, 2) := by decide +kernel
theorem dX7_form_91 : decode cX7_form 91 = .ok (.iload_n 1, 1) := by decide +kernel
theorem dX7_form_92 : decode cX7_form 92 = .ok (.invokestatic 177, 3) := by decide +kernel
theorem dX7_form_95 : decode cX7_form 95 = .ok (.iastore, 1) := by decide +kernel
theorem dX7_form_96 : decode cX7_form 96 = .ok (.aload_n 0, 1) := by decide +kernel
theorem dX7_form_97 : decode cX7_form 97 = .ok (.getfield 87, 3) := by decide +kernel
theorem dX7_form_100 : decode cX7_form 100 = .ok (.iload 4, 2) := by decide +kernel
theorem dX7_form_102 : decode cX7_form 102 = .ok (.iconst 0, 1) := by decide +kernel
theorem dX7_form_103 : decode cX7_form 103 = .ok (.iastore, 1) := by decide +kernel
theorem dX7_form_104 : decode cX7_form 104 = .ok (.iconst 0, 1) := by decide +kernel
theorem dX7_form_105 : decode cX7_form 105 = .ok (.istore 5, 2) := by decide +kernel
theorem dX7_form_107 : decode cX7_form 107 = .ok (.iload 5, 2) := by decide +kernel
theorem dX7_form_109 : decode cX7_form 109 = .ok (.aload_n 0, 1) := by decide +kernel
theorem dX7_form_110 : decode cX7_form 110 = .ok (.getfield 111, 3) := by decide +kernel
theorem dX7_form_113 : decode cX7_form 113 = .ok (.if_icmp .ge 135, 3) := by decide +kernel
theorem dX7_form_116 : decode cX7_form 116 = .ok (.aload_n 0, 1) := by decide +kernel
theorem dX7_form_117 : decode cX7_form 117 = .ok (.getfield 108, 3) := by decide +kernel
theorem dX7_form_120 : decode cX7_form 120 = .ok (.bipush 8, 2) := by decide +kernel
theorem dX7_form_122 : decode cX7_form 122 = .ok (.iload 4, 2) := by decide +kernel
theorem dX7_form_124 : decode cX7_form 124 = .ok (.imul, 1) := by decide +kernel
theorem dX7_form_125 : decode cX7_form 125 = .ok (.iload 5, 2) := by decide +kernel
theorem dX7_form_127 : decode cX7_form 127 = .ok (.iadd, 1) := by decide +kernel
theorem dX7_form_128 : decode cX7_form 128 = .ok (.iconst 0, 1) := by decide +kernel
theorem dX7_form_129 : decode cX7_form 129 = .ok (.iastore, 1) := by decide +kernel
theorem dX7_form_130 : decode cX7_form 130 = .ok (.iload_n 1, 1) := by decide +kernel
theorem dX7_form_131 : decode cX7_form 131 = .ok (.iload 5, 2) := by decide +kernel
theorem dX7_form_133 : decode cX7_form 133 = .ok (.invokestatic 125, 3) := by decide +kernel
theorem dX7_form_136 : decode cX7_form 136 = .ok (.ifCond .eq 106, 3) := by decide +kernel
theorem dX7_form_139 : decode cX7_form 139 = .ok (.aload_n 0, 1) := by decide +kernel
theorem dX7_form_140 : decode cX7_form 140 = .ok (.getfield 17, 3) := by decide +kernel
theorem dX7_form_143 : decode cX7_form 143 = .ok (.iload 5, 2) := by decide +kernel
theorem dX7_form_145 : decode cX7_form 145 = .ok (.iload 4, 2) := by decide +kernel
theorem dX7_form_147 : decode cX7_form 147 = .ok (.iastore, 1) := by decide +kernel
theorem dX7_form_148 : decode cX7_form 148 = .ok (.aload_n 0, 1) := by decide +kernel
theorem dX7_form_149 : decode cX7_form 149 = .ok (.getfield 20, 3) := by decide +kernel
theorem dX7_form_152 : decode cX7_form 152 = .ok (.iload 5, 2) := by decide +kernel
theorem dX7_form_154 : decode cX7_form 154 = .ok (.iload_n 3, 1) := by decide +kernel
theorem dX7_form_155 : decode cX7_form 155 = .ok (.iastore, 1) := by decide +kernel
theorem dX7_form_156 : decode cX7_form 156 = .ok (.aload_n 0, 1) := by decide +kernel
theorem dX7_form_157 : decode cX7_form 157 = .ok (.getfield 51, 3) := by decide +kernel
theorem dX7_form_160 : decode cX7_form 160 = .ok (.iload 5, 2) := by decide +kernel
theorem dX7_form_162 : decode cX7_form 162 = .ok (.iconst 0, 1) := by decide +kernel
theorem dX7_form_163 : decode cX7_form 163 = .ok (.iastore, 1) := by decide +kernel
theorem dX7_form_164 : decode cX7_form 164 = .ok (.aload_n 0, 1) := by decide +kernel
theorem dX7_form_165 : decode cX7_form 165 = .ok (.getfield 54, 3) := by decide +kernel
theorem dX7_form_168 : decode cX7_form 168 = .ok (.iload 5, 2) := by decide +kernel
theorem dX7_form_170 : decode cX7_form 170 = .ok (.iconst 0, 1) := by decide +kernel
theorem dX7_form_171 : decode cX7_form 171 = .ok (.iastore, 1) := by decide +kernel
theorem dX7_form_172 : decode cX7_form 172 = .ok (.aload_n 0, 1) := by decide +kernel
theorem dX7_form_173 : decode cX7_form 173 = .ok (.getfield 33, 3) := by decide +kernel
theorem dX7_form_176 : decode cX7_form 176 = .ok (.iload 5, 2) := by decide +kernel
theorem dX7_form_178 : decode cX7_form 178 = .ok (.iload_n 2, 1) := by decide +kernel
theorem dX7_form_179 : decode cX7_form 179 = .ok (.ifCond .eq 7, 3) := by decide +kernel
theorem dX7_form_182 : decode cX7_form 182 = .ok (.iload_n 3, 1) := by decide +kernel
theorem dX7_form_183 : decode cX7_form 183 = .ok (.goto 10, 3) := by decide +kernel
theorem dX7_form_186 : decode cX7_form 186 = .ok (.aload_n 0, 1) := by decide +kernel
theorem dX7_form_187 : decode cX7_form 187 = .ok (.getfield 33, 3) := by decide +kernel
theorem dX7_form_190 : decode cX7_form 190 = .ok (.iload 5, 2) := by decide +kernel
theorem dX7_form_192 : decode cX7_form 192 = .ok (.iaload, 1) := by decide +kernel
theorem dX7_form_193 : decode cX7_form 193 = .ok (.iastore, 1) := by decide +kernel
theorem dX7_form_194 : decode cX7_form 194 = .ok (.aload_n 0, 1) := by decide +kernel
theorem dX7_form_195 : decode cX7_form 195 = .ok (.getfield 36, 3) := by decide +kernel
theorem dX7_form_198 : decode cX7_form 198 = .ok (.iload 5, 2) := by decide +kernel
theorem dX7_form_200 : decode cX7_form 200 = .ok (.iload_n 2, 1) := by decide +kernel
theorem dX7_form_201 : decode cX7_form 201 = .ok (.ifCond .eq 7, 3) := by decide +kernel
theorem dX7_form_204 : decode cX7_form 204 = .ok (.iload_n 1, 1) := by decide +kernel
theorem dX7_form_205 : decode cX7_form 205 = .ok (.goto 10, 3) := by decide +kernel
theorem dX7_form_208 : decode cX7_form 208 = .ok (.aload_n 0, 1) := by decide +kernel
theorem dX7_form_209 : decode cX7_form 209 = .ok (.getfield 36, 3) := by decide +kernel
theorem dX7_form_212 : decode cX7_form 212 = .ok (.iload 5, 2) := by decide +kernel
theorem dX7_form_214 : decode cX7_form 214 = .ok (.iaload, 1) := by decide +kernel
theorem dX7_form_215 : decode cX7_form 215 = .ok (.iastore, 1) := by decide +kernel
theorem dX7_form_216 : decode cX7_form 216 = .ok (.iload_n 2, 1) := by decide +kernel
theorem dX7_form_217 : decode cX7_form 217 = .ok (.ifCond .eq 9, 3) := by decide +kernel
theorem dX7_form_220 : decode cX7_form 220 = .ok (.aload_n 0, 1) := by decide +kernel
theorem dX7_form_221 : decode cX7_form 221 = .ok (.iload 5, 2) := by decide +kernel
theorem dX7_form_223 : decode cX7_form 223 = .ok (.invokevirtual 198, 3) := by decide +kernel
theorem dX7_form_226 : decode cX7_form 226 = .ok (.aload_n 0, 1) := by decide +kernel
theorem dX7_form_227 : decode cX7_form 227 = .ok (.iload 5, 2) := by decide +kernel
theorem dX7_form_229 : decode cX7_form 229 = .ok (.ldc2_w 201, 3) := by decide +kernel
theorem dX7_form_232 : decode cX7_form 232 = .ok (.iload_n 1, 1) := by decide +kernel
theorem dX7_form_233 : decode cX7_form 233 = .ok (.i2l, 1) := by decide +kernel
theorem dX7_form_234 : decode cX7_form 234 = .ok (.lconst 0, 1) := by decide +kernel
theorem dX7_form_235 : decode cX7_form 235 = .ok (.lconst 0, 1) := by decide +kernel
theorem dX7_form_236 : decode cX7_form 236 = .ok (.lconst 0, 1) := by decide +kernel
theorem dX7_form_237 : decode cX7_form 237 = .ok (.iload_n 3, 1) := by decide +kernel
theorem dX7_form_238 : decode cX7_form 238 = .ok (.i2l, 1) := by decide +kernel
theorem dX7_form_239 : decode cX7_form 239 = .ok (.invokevirtual 140, 3) := by decide +kernel
theorem dX7_form_242 : decode cX7_form 242 = .ok (.iinc 5 1, 3) := by decide +kernel
theorem dX7_form_245 : decode cX7_form 245 = .ok (.goto (-138), 3) := by decide +kernel
theorem dX7_form_248 : decode cX7_form 248 = .ok (.iload_n 3, 1) := by decide +kernel
theorem dX7_form_249 : decode cX7_form 249 = .ok (.ireturn, 1) := by decide +kernel
set_option maxRecDepth 20000 in
theorem ggX7_gather_X7_noNode : GoodIn wsX7_gather wsX7_noNode := goodIn_r _ [7, 8, 124, 125, 126, 127, 128, 129, 130, 131, 132, 133, 134, 135, 136, 137, 138, 139, 140, 141, 142, 143, 144, 145, 146, 147, 148, 149, 150, 151, 152, 153, 154, 155, 156, 157, 158, 159] (by decide +kernel) (by decide +kernel)
set_option maxRecDepth 20000 in
theorem gX7_gather_X7_noNode : GoodIn wsX7_gather (wsV RX7 132 RX7 yX7_noNode wsX7_noNode) := goodIn_app (goodIn_of _ (by decide +kernel)) ggX7_gather_X7_noNode
set_option maxRecDepth 20000 in
theorem ggX7_gather_X7_together : GoodIn wsX7_gather wsX7_together := goodIn_r _ [12, 8, 1, 13, 124, 125, 126, 127, 128, 129, 130, 131, 132, 133, 134, 135, 136, 137, 138, 139, 140, 141, 142, 143, 144, 145, 146, 147, 148, 149, 150, 151, 152, 153, 154, 155, 156, 157, 158, 159] (by decide +kernel) (by decide +kernel)
set_option maxRecDepth 20000 in
theorem gX7_gather_X7_together : GoodIn wsX7_gather (wsV RX7 203 RX7 yX7_together wsX7_together) := goodIn_app (goodIn_of _ (by decide +kernel)) ggX7_gather_X7_together
set_option maxRecDepth 20000 in
theorem ggX7_gather_X7_isWhole : GoodIn wsX7_gather wsX7_isWhole := goodIn_r _ [17, 18, 19, 20, 8, 21, 22, 6, 23, 24, 25, 26, 124, 125, 126, 127, 128, 129, 130, 131, 132, 133, 134, 135, 136, 137, 138, 139, 140, 141, 142, 143, 144, 145, 146, 147, 148, 149, 150, 151, 152, 153, 154, 155, 156, 157, 158, 159] (by decide +kernel) (by decide +kernel)
set_option maxRecDepth 20000 in
theorem gX7_gather_X7_isWhole : GoodIn wsX7_gather (wsV RX7 206 RX7 yX7_isWhole wsX7_isWhole) := goodIn_app (goodIn_of _ (by decide +kernel)) ggX7_gather_X7_isWhole
set_option maxRecDepth 20000 in
theorem ggX7_gather_X7_isPrimary : GoodIn wsX7_gather wsX7_isPrimary := goodIn_r _ [30, 31, 32, 33, 34, 6, 35, 8, 36, 21, 22, 23, 24, 25, 26, 37, 38, 39, 124, 125, 126, 127, 128, 129, 130, 131, 132, 133, 134, 135, 136, 137, 138, 139, 140, 141, 142, 143, 144, 145, 146, 147, 148, 149, 150, 151, 152, 153, 154, 155, 156, 157, 158, 159] (by decide +kernel) (by decide +kernel)
set_option maxRecDepth 20000 in
theorem gX7_gather_X7_isPrimary : GoodIn wsX7_gather (wsV RX7 209 RX7 yX7_isPrimary wsX7_isPrimary) := goodIn_app (goodIn_of _ (by decide +kernel)) ggX7_gather_X7_isPrimary
set_option maxRecDepth 20000 in
theorem ggX7_gather_X7_nextRing : GoodIn wsX7_gather wsX7_nextRing := goodIn_r _ [43, 44, 45, 46, 6, 47, 8, 18, 24, 25, 26, 48, 49, 50, 51, 52, 19, 21, 22, 23, 124, 125, 126, 127, 128, 129, 130, 131, 132, 133, 134, 135, 136, 137, 138, 139, 140, 141, 142, 143, 144, 145, 146, 147, 148, 149, 150, 151, 152, 153, 154, 155, 156, 157, 158, 159] (by decide +kernel) (by decide +kernel)
set_option maxRecDepth 20000 in
theorem gX7_gather_X7_nextRing : GoodIn wsX7_gather (wsV RX7 212 RX7 yX7_nextRing wsX7_nextRing) := goodIn_app (goodIn_of _ (by decide +kernel)) ggX7_gather_X7_nextRing
set_option maxRecDepth 20000 in
theorem ggX7_gather_X7_of : GoodIn wsX7_gather wsX7_of := goodIn_r _ [47, 8, 18, 24, 25, 6, 26, 124, 125, 126, 127, 128, 129, 130, 131, 132, 133, 134, 135, 136, 137, 138, 139, 140, 141, 142, 143, 144, 145, 146, 147, 148, 149, 150, 151, 152, 153, 154, 155, 156, 157, 158, 159] (by decide +kernel) (by decide +kernel)
set_option maxRecDepth 20000 in
theorem gX7_gather_X7_of : GoodIn wsX7_gather (wsV RX7 186 RX7 yX7_of wsX7_of) := goodIn_app (goodIn_of _ (by decide +kernel)) ggX7_gather_X7_of
set_option maxRecDepth 20000 in
theorem ggX7_gather_X7_end : GoodIn wsX7_gather wsX7_end := goodIn_r _ [56, 8, 57, 58, 59, 60, 52, 61, 62, 24, 25, 6, 26, 63, 64, 65, 66, 67, 68, 69, 18, 70, 36, 71, 72, 73, 74, 75, 76, 77, 78, 79, 80, 81, 82, 83, 84, 85, 86, 87, 88, 89, 90, 91, 92, 93, 94, 95, 96, 97, 98, 99, 100, 101, 102, 103, 124, 125, 126, 127, 128, 129, 130, 131, 132, 133, 134, 135, 136, 137, 138, 139, 140, 141, 142, 143, 144, 145, 146, 147, 148, 149, 150, 151, 152, 153, 154, 155, 156, 157, 158, 159] (by decide +kernel) (by decide +kernel)
set_option maxRecDepth 20000 in
theorem gX7_gather_X7_end : GoodIn wsX7_gather (wsV RX7 215 RX7 yX7_end wsX7_end) := goodIn_app (goodIn_of _ (by decide +kernel)) ggX7_gather_X7_end
set_option maxRecDepth 20000 in
theorem ggX7_gather_X7_share : GoodIn wsX7_gather wsX7_share := goodIn_r _ [107, 36, 8, 99, 103, 71, 72, 74, 100, 98, 32, 33, 34, 6, 35, 21, 22, 23, 24, 25, 26, 94, 95, 96, 97, 101, 102, 124, 125, 126, 127, 128, 129, 130, 131, 132, 133, 134, 135, 136, 137, 138, 139, 140, 141, 142, 143, 144, 145, 146, 147, 148, 149, 150, 151, 152, 153, 154, 155, 156, 157, 158, 159] (by decide +kernel) (by decide +kernel)
set_option maxRecDepth 20000 in
theorem gX7_gather_X7_share : GoodIn wsX7_gather (wsV RX7 218 RX7 yX7_share wsX7_share) := goodIn_app (goodIn_of _ (by decide +kernel)) ggX7_gather_X7_share
set_option maxRecDepth 20000 in
theorem ggX7_gather_X7_form : GoodIn wsX7_gather wsX7_form := goodIn_r _ [111, 8, 112, 52, 19, 20, 113, 58, 114, 18, 61, 57, 36, 31, 115, 24, 25, 6, 26, 116, 117, 118, 119, 44, 45, 46, 47, 21, 22, 23, 120, 121, 122, 123, 103, 71, 88, 89, 90, 91, 92, 93, 124, 125, 126, 127, 128, 129, 130, 131, 132, 133, 134, 135, 136, 137, 138, 139, 140, 141, 142, 143, 144, 145, 146, 147, 148, 149, 150, 151, 152, 153, 154, 155, 156, 157, 158, 159] (by decide +kernel) (by decide +kernel)
set_option maxRecDepth 20000 in
theorem gX7_gather_X7_form : GoodIn wsX7_gather (wsV RX7 221 RX7 yX7_form wsX7_form) := goodIn_app (goodIn_of _ (by decide +kernel)) ggX7_gather_X7_form
theorem dX7_gather_0 : decode cX7_gather 0 = .ok (.aload_n 0, 1) := by decide +kernel
theorem dX7_gather_1 : decode cX7_gather 1 = .ok (.aload_n 0, 1) := by decide +kernel
theorem dX7_gather_2 : decode cX7_gather 2 = .ok (.iload_n 1, 1) := by decide +kernel
theorem dX7_gather_3 : decode cX7_gather 3 = .ok (.invokevirtual 132, 3) := by decide +kernel
theorem dX7_gather_6 : decode cX7_gather 6 = .ok (.ifCond .eq 7, 3) := by decide +kernel
theorem dX7_gather_9 : decode cX7_gather 9 = .ok (.iconst 1, 1) := by decide +kernel
theorem dX7_gather_10 : decode cX7_gather 10 = .ok (.goto 17, 3) := by decide +kernel
theorem dX7_gather_13 : decode cX7_gather 13 = .ok (.aload_n 0, 1) := by decide +kernel
theorem dX7_gather_14 : decode cX7_gather 14 = .ok (.getfield 7, 3) := by decide +kernel
theorem dX7_gather_17 : decode cX7_gather 17 = .ok (.iload_n 1, 1) := by decide +kernel
theorem dX7_gather_18 : decode cX7_gather 18 = .ok (.baload, 1) := by decide +kernel
theorem dX7_gather_19 : decode cX7_gather 19 = .ok (.ifCond .eq 7, 3) := by decide +kernel
theorem dX7_gather_22 : decode cX7_gather 22 = .ok (.iconst 0, 1) := by decide +kernel
theorem dX7_gather_23 : decode cX7_gather 23 = .ok (.goto 4, 3) := by decide +kernel
theorem dX7_gather_26 : decode cX7_gather 26 = .ok (.iconst 2, 1) := by decide +kernel
theorem dX7_gather_27 : decode cX7_gather 27 = .ok (.putfield 118, 3) := by decide +kernel
theorem dX7_gather_30 : decode cX7_gather 30 = .ok (.aload_n 0, 1) := by decide +kernel
theorem dX7_gather_31 : decode cX7_gather 31 = .ok (.getfield 118, 3) := by decide +kernel
theorem dX7_gather_34 : decode cX7_gather 34 = .ok (.ifCond .le 5, 3) := by decide +kernel
theorem dX7_gather_37 : decode cX7_gather 37 = .ok (.iconst 0, 1) := by decide +kernel
theorem dX7_gather_38 : decode cX7_gather 38 = .ok (.ireturn, 1) := by decide +kernel
theorem dX7_gather_39 : decode cX7_gather 39 = .ok (.aload_n 0, 1) := by decide +kernel
theorem dX7_gather_40 : decode cX7_gather 40 = .ok (.iload_n 1, 1) := by decide +kernel
theorem dX7_gather_41 : decode cX7_gather 41 = .ok (.invokevirtual 203, 3) := by decide +kernel
theorem dX7_gather_44 : decode cX7_gather 44 = .ok (.istore_n 2, 1) := by decide +kernel
theorem dX7_gather_45 : decode cX7_gather 45 = .ok (.aload_n 0, 1) := by decide +kernel
theorem dX7_gather_46 : decode cX7_gather 46 = .ok (.iload_n 2, 1) := by decide +kernel
theorem dX7_gather_47 : decode cX7_gather 47 = .ok (.invokevirtual 206, 3) := by decide +kernel
theorem dX7_gather_50 : decode cX7_gather 50 = .ok (.ifCond .eq 5, 3) := by decide +kernel
theorem dX7_gather_53 : decode cX7_gather 53 = .ok (.iconst 0, 1) := by decide +kernel
theorem dX7_gather_54 : decode cX7_gather 54 = .ok (.ireturn, 1) := by decide +kernel
theorem dX7_gather_55 : decode cX7_gather 55 = .ok (.aload_n 0, 1) := by decide +kernel
theorem dX7_gather_56 : decode cX7_gather 56 = .ok (.iload_n 2, 1) := by decide +kernel
theorem dX7_gather_57 : decode cX7_gather 57 = .ok (.invokevirtual 209, 3) := by decide +kernel
theorem dX7_gather_60 : decode cX7_gather 60 = .ok (.istore_n 3, 1) := by decide +kernel
theorem dX7_gather_61 : decode cX7_gather 61 = .ok (.aload_n 0, 1) := by decide +kernel
theorem dX7_gather_62 : decode cX7_gather 62 = .ok (.iload_n 2, 1) := by decide +kernel
theorem dX7_gather_63 : decode cX7_gather 63 = .ok (.iconst (-1), 1) := by decide +kernel
theorem dX7_gather_64 : decode cX7_gather 64 = .ok (.invokevirtual 212, 3) := by decide +kernel
theorem dX7_gather_67 : decode cX7_gather 67 = .ok (.istore 4, 2) := by decide +kernel
theorem dX7_gather_69 : decode cX7_gather 69 = .ok (.iload 4, 2) := by decide +kernel
theorem dX7_gather_71 : decode cX7_gather 71 = .ok (.iconst (-1), 1) := by decide +kernel
theorem dX7_gather_72 : decode cX7_gather 72 = .ok (.if_icmp .eq 28, 3) := by decide +kernel
theorem dX7_gather_75 : decode cX7_gather 75 = .ok (.aload_n 0, 1) := by decide +kernel
theorem dX7_gather_76 : decode cX7_gather 76 = .ok (.iload 4, 2) := by decide +kernel
theorem dX7_gather_78 : decode cX7_gather 78 = .ok (.aload_n 0, 1) := by decide +kernel
theorem dX7_gather_79 : decode cX7_gather 79 = .ok (.iload_n 2, 1) := by decide +kernel
theorem dX7_gather_80 : decode cX7_gather 80 = .ok (.iload 4, 2) := by decide +kernel
theorem dX7_gather_82 : decode cX7_gather 82 = .ok (.invokevirtual 186, 3) := by decide +kernel
theorem dX7_gather_85 : decode cX7_gather 85 = .ok (.invokevirtual 215, 3) := by decide +kernel
theorem dX7_gather_88 : decode cX7_gather 88 = .ok (.aload_n 0, 1) := by decide +kernel
theorem dX7_gather_89 : decode cX7_gather 89 = .ok (.iload_n 2, 1) := by decide +kernel
theorem dX7_gather_90 : decode cX7_gather 90 = .ok (.iload 4, 2) := by decide +kernel
theorem dX7_gather_92 : decode cX7_gather 92 = .ok (.invokevirtual 212, 3) := by decide +kernel
theorem dX7_gather_95 : decode cX7_gather 95 = .ok (.istore 4, 2) := by decide +kernel
theorem dX7_gather_97 : decode cX7_gather 97 = .ok (.goto (-28), 3) := by decide +kernel
theorem dX7_gather_100 : decode cX7_gather 100 = .ok (.iload_n 3, 1) := by decide +kernel
theorem dX7_gather_101 : decode cX7_gather 101 = .ok (.ifCond .eq 8, 3) := by decide +kernel
theorem dX7_gather_104 : decode cX7_gather 104 = .ok (.aload_n 0, 1) := by decide +kernel
theorem dX7_gather_105 : decode cX7_gather 105 = .ok (.iload_n 2, 1) := by decide +kernel
theorem dX7_gather_106 : decode cX7_gather 106 = .ok (.invokevirtual 218, 3) := by decide +kernel
theorem dX7_gather_109 : decode cX7_gather 109 = .ok (.aload_n 0, 1) := by decide +kernel
theorem dX7_gather_110 : decode cX7_gather 110 = .ok (.iload_n 2, 1) := by decide +kernel
theorem dX7_gather_111 : decode cX7_gather 111 = .ok (.iload_n 3, 1) := by decide +kernel
theorem dX7_gather_112 : decode cX7_gather 112 = .ok (.invokevirtual 221, 3) := by decide +kernel
theorem dX7_gather_115 : decode cX7_gather 115 = .ok (.ireturn, 1) := by decide +kernel
set_option maxRecDepth 20000 in
theorem ggX7_part_X7_noNode : GoodIn wsX7_part wsX7_noNode := goodIn_r _ [7, 8, 9, 10, 11, 12, 13, 14, 15, 16, 17, 18, 19, 20, 21, 22, 23, 24, 25, 26, 27, 28, 29, 30, 31, 32, 33, 34, 35, 36, 37, 38, 39, 40, 41, 42, 43, 44] (by decide +kernel) (by decide +kernel)
set_option maxRecDepth 20000 in
theorem gX7_part_X7_noNode : GoodIn wsX7_part (wsV RX7 132 RX7 yX7_noNode wsX7_noNode) := goodIn_app (goodIn_of _ (by decide +kernel)) ggX7_part_X7_noNode
theorem dX7_part_0 : decode cX7_part 0 = .ok (.aload_n 0, 1) := by decide +kernel
theorem dX7_part_1 : decode cX7_part 1 = .ok (.aload_n 0, 1) := by decide +kernel
theorem dX7_part_2 : decode cX7_part 2 = .ok (.iload_n 1, 1) := by decide +kernel
theorem dX7_part_3 : decode cX7_part 3 = .ok (.invokevirtual 132, 3) := by decide +kernel
theorem dX7_part_6 : decode cX7_part 6 = .ok (.ifCond .eq 7, 3) := by decide +kernel
theorem dX7_part_9 : decode cX7_part 9 = .ok (.iconst 1, 1) := by decide +kernel
theorem dX7_part_10 : decode cX7_part 10 = .ok (.goto 18, 3) := by decide +kernel
theorem dX7_part_13 : decode cX7_part 13 = .ok (.iload_n 2, 1) := by decide +kernel
theorem dX7_part_14 : decode cX7_part 14 = .ok (.ifCond .lt 9, 3) := by decide +kernel
theorem dX7_part_17 : decode cX7_part 17 = .ok (.iload_n 2, 1) := by decide +kernel
theorem dX7_part_18 : decode cX7_part 18 = .ok (.bipush 7, 2) := by decide +kernel
theorem dX7_part_20 : decode cX7_part 20 = .ok (.if_icmp .le 7, 3) := by decide +kernel
theorem dX7_part_23 : decode cX7_part 23 = .ok (.iconst 2, 1) := by decide +kernel
theorem dX7_part_24 : decode cX7_part 24 = .ok (.goto 4, 3) := by decide +kernel
theorem dX7_part_27 : decode cX7_part 27 = .ok (.iconst 0, 1) := by decide +kernel
theorem dX7_part_28 : decode cX7_part 28 = .ok (.putfield 118, 3) := by decide +kernel
theorem dX7_part_31 : decode cX7_part 31 = .ok (.aload_n 0, 1) := by decide +kernel
theorem dX7_part_32 : decode cX7_part 32 = .ok (.getfield 118, 3) := by decide +kernel
theorem dX7_part_35 : decode cX7_part 35 = .ok (.ifCond .ne 10, 3) := by decide +kernel
theorem dX7_part_38 : decode cX7_part 38 = .ok (.aload_n 0, 1) := by decide +kernel
theorem dX7_part_39 : decode cX7_part 39 = .ok (.getfield 13, 3) := by decide +kernel
theorem dX7_part_42 : decode cX7_part 42 = .ok (.iload_n 1, 1) := by decide +kernel
theorem dX7_part_43 : decode cX7_part 43 = .ok (.iload_n 2, 1) := by decide +kernel
theorem dX7_part_44 : decode cX7_part 44 = .ok (.iastore, 1) := by decide +kernel
theorem dX7_part_45 : decode cX7_part 45 = .ok (.return_, 1) := by decide +kernel
set_option maxRecDepth 20000 in
theorem ggX7_crash_X7_noNode : GoodIn wsX7_crash wsX7_noNode := goodIn_r _ [10, 11, 17, 18, 19, 20, 21, 22, 23, 24, 25, 26, 27, 28, 29, 30, 31, 32, 33, 34, 35, 36, 37, 38, 39, 40, 41, 42, 43, 44, 45, 46, 47, 48, 49, 50, 51, 52] (by decide +kernel) (by decide +kernel)
set_option maxRecDepth 20000 in
theorem gX7_crash_X7_noNode : GoodIn wsX7_crash (wsV RX7 132 RX7 yX7_noNode wsX7_noNode) := goodIn_app (goodIn_of _ (by decide +kernel)) ggX7_crash_X7_noNode
set_option maxRecDepth 20000 in
theorem ggX7_crash_X7_holds : GoodIn wsX7_crash wsX7_holds := goodIn_r _ [15, 1, 4, 3, 16, 17, 18, 19, 20, 21, 22, 23, 24, 25, 26, 27, 28, 29, 30, 31, 32, 33, 34, 35, 36, 37, 38, 39, 40, 41, 42, 43, 44, 45, 46, 47, 48, 49, 50, 51, 52] (by decide +kernel) (by decide +kernel)
set_option maxRecDepth 20000 in
theorem gX7_crash_X7_holds : GoodIn wsX7_crash (wsV RX7 160 RX7 yX7_holds wsX7_holds) := goodIn_app (goodIn_of _ (by decide +kernel)) ggX7_crash_X7_holds
theorem dX7_crash_0 : decode cX7_crash 0 = .ok (.aload_n 0, 1) := by decide +kernel
theorem dX7_crash_1 : decode cX7_crash 1 = .ok (.aload_n 0, 1) := by decide +kernel
theorem dX7_crash_2 : decode cX7_crash 2 = .ok (.iload_n 1, 1) := by decide +kernel
theorem dX7_crash_3 : decode cX7_crash 3 = .ok (.invokevirtual 132, 3) := by decide +kernel
theorem dX7_crash_6 : decode cX7_crash 6 = .ok (.ifCond .eq 7, 3) := by decide +kernel
theorem dX7_crash_9 : decode cX7_crash 9 = .ok (.iconst 1, 1) := by decide +kernel
theorem dX7_crash_10 : decode cX7_crash 10 = .ok (.goto 17, 3) := by decide +kernel
theorem dX7_crash_13 : decode cX7_crash 13 = .ok (.aload_n 0, 1) := by decide +kernel
theorem dX7_crash_14 : decode cX7_crash 14 = .ok (.getfield 7, 3) := by decide +kernel
theorem dX7_crash_17 : decode cX7_crash 17 = .ok (.iload_n 1, 1) := by decide +kernel
theorem dX7_crash_18 : decode cX7_crash 18 = .ok (.baload, 1) := by decide +kernel
theorem dX7_crash_19 : decode cX7_crash 19 = .ok (.ifCond .eq 7, 3) := by decide +kernel
theorem dX7_crash_22 : decode cX7_crash 22 = .ok (.iconst 0, 1) := by decide +kernel
theorem dX7_crash_23 : decode cX7_crash 23 = .ok (.goto 4, 3) := by decide +kernel
theorem dX7_crash_26 : decode cX7_crash 26 = .ok (.iconst 2, 1) := by decide +kernel
theorem dX7_crash_27 : decode cX7_crash 27 = .ok (.putfield 118, 3) := by decide +kernel
theorem dX7_crash_30 : decode cX7_crash 30 = .ok (.aload_n 0, 1) := by decide +kernel
theorem dX7_crash_31 : decode cX7_crash 31 = .ok (.getfield 118, 3) := by decide +kernel
theorem dX7_crash_34 : decode cX7_crash 34 = .ok (.ifCond .ne 44, 3) := by decide +kernel
theorem dX7_crash_37 : decode cX7_crash 37 = .ok (.aload_n 0, 1) := by decide +kernel
theorem dX7_crash_38 : decode cX7_crash 38 = .ok (.iload_n 1, 1) := by decide +kernel
theorem dX7_crash_39 : decode cX7_crash 39 = .ok (.invokevirtual 160, 3) := by decide +kernel
theorem dX7_crash_42 : decode cX7_crash 42 = .ok (.ifCond .eq 15, 3) := by decide +kernel
theorem dX7_crash_45 : decode cX7_crash 45 = .ok (.aload_n 0, 1) := by decide +kernel
theorem dX7_crash_46 : decode cX7_crash 46 = .ok (.getfield 81, 3) := by decide +kernel
theorem dX7_crash_49 : decode cX7_crash 49 = .ok (.aload_n 0, 1) := by decide +kernel
theorem dX7_crash_50 : decode cX7_crash 50 = .ok (.getfield 17, 3) := by decide +kernel
theorem dX7_crash_53 : decode cX7_crash 53 = .ok (.iload_n 1, 1) := by decide +kernel
theorem dX7_crash_54 : decode cX7_crash 54 = .ok (.iaload, 1) := by decide +kernel
theorem dX7_crash_55 : decode cX7_crash 55 = .ok (.iconst 1, 1) := by decide +kernel
theorem dX7_crash_56 : decode cX7_crash 56 = .ok (.bastore, 1) := by decide +kernel
theorem dX7_crash_57 : decode cX7_crash 57 = .ok (.aload_n 0, 1) := by decide +kernel
theorem dX7_crash_58 : decode cX7_crash 58 = .ok (.getfield 7, 3) := by decide +kernel
theorem dX7_crash_61 : decode cX7_crash 61 = .ok (.iload_n 1, 1) := by decide +kernel
theorem dX7_crash_62 : decode cX7_crash 62 = .ok (.iconst 0, 1) := by decide +kernel
theorem dX7_crash_63 : decode cX7_crash 63 = .ok (.bastore, 1) := by decide +kernel
theorem dX7_crash_64 : decode cX7_crash 64 = .ok (.aload_n 0, 1) := by decide +kernel
theorem dX7_crash_65 : decode cX7_crash 65 = .ok (.getfield 17, 3) := by decide +kernel
theorem dX7_crash_68 : decode cX7_crash 68 = .ok (.iload_n 1, 1) := by decide +kernel
theorem dX7_crash_69 : decode cX7_crash 69 = .ok (.iconst (-1), 1) := by decide +kernel
theorem dX7_crash_70 : decode cX7_crash 70 = .ok (.iastore, 1) := by decide +kernel
theorem dX7_crash_71 : decode cX7_crash 71 = .ok (.aload_n 0, 1) := by decide +kernel
theorem dX7_crash_72 : decode cX7_crash 72 = .ok (.getfield 39, 3) := by decide +kernel
theorem dX7_crash_75 : decode cX7_crash 75 = .ok (.iload_n 1, 1) := by decide +kernel
theorem dX7_crash_76 : decode cX7_crash 76 = .ok (.iconst 0, 1) := by decide +kernel
theorem dX7_crash_77 : decode cX7_crash 77 = .ok (.iastore, 1) := by decide +kernel
theorem dX7_crash_78 : decode cX7_crash 78 = .ok (.return_, 1) := by decide +kernel
set_option maxRecDepth 20000 in
theorem ggX7_restart_X7_noNode : GoodIn wsX7_restart wsX7_noNode := goodIn_r _ [7, 8, 9, 10, 11, 12, 13, 14, 15, 16, 17, 18, 19, 20, 21, 22, 23, 24, 25, 26, 27, 28, 29, 30, 31, 32, 33, 34, 35, 36, 37, 38, 39, 40, 41, 42, 43, 44] (by decide +kernel) (by decide +kernel)
set_option maxRecDepth 20000 in
theorem gX7_restart_X7_noNode : GoodIn wsX7_restart (wsV RX7 132 RX7 yX7_noNode wsX7_noNode) := goodIn_app (goodIn_of _ (by decide +kernel)) ggX7_restart_X7_noNode
theorem dX7_restart_0 : decode cX7_restart 0 = .ok (.aload_n 0, 1) := by decide +kernel
theorem dX7_restart_1 : decode cX7_restart 1 = .ok (.aload_n 0, 1) := by decide +kernel
theorem dX7_restart_2 : decode cX7_restart 2 = .ok (.iload_n 1, 1) := by decide +kernel
theorem dX7_restart_3 : decode cX7_restart 3 = .ok (.invokevirtual 132, 3) := by decide +kernel
theorem dX7_restart_6 : decode cX7_restart 6 = .ok (.ifCond .eq 7, 3) := by decide +kernel
theorem dX7_restart_9 : decode cX7_restart 9 = .ok (.iconst 1, 1) := by decide +kernel
theorem dX7_restart_10 : decode cX7_restart 10 = .ok (.goto 17, 3) := by decide +kernel
theorem dX7_restart_13 : decode cX7_restart 13 = .ok (.aload_n 0, 1) := by decide +kernel
theorem dX7_restart_14 : decode cX7_restart 14 = .ok (.getfield 7, 3) := by decide +kernel
theorem dX7_restart_17 : decode cX7_restart 17 = .ok (.iload_n 1, 1) := by decide +kernel
theorem dX7_restart_18 : decode cX7_restart 18 = .ok (.baload, 1) := by decide +kernel
theorem dX7_restart_19 : decode cX7_restart 19 = .ok (.ifCond .eq 7, 3) := by decide +kernel
theorem dX7_restart_22 : decode cX7_restart 22 = .ok (.iconst 2, 1) := by decide +kernel
theorem dX7_restart_23 : decode cX7_restart 23 = .ok (.goto 4, 3) := by decide +kernel
theorem dX7_restart_26 : decode cX7_restart 26 = .ok (.iconst 0, 1) := by decide +kernel
theorem dX7_restart_27 : decode cX7_restart 27 = .ok (.putfield 118, 3) := by decide +kernel
theorem dX7_restart_30 : decode cX7_restart 30 = .ok (.aload_n 0, 1) := by decide +kernel
theorem dX7_restart_31 : decode cX7_restart 31 = .ok (.getfield 118, 3) := by decide +kernel
theorem dX7_restart_34 : decode cX7_restart 34 = .ok (.ifCond .ne 10, 3) := by decide +kernel
theorem dX7_restart_37 : decode cX7_restart 37 = .ok (.aload_n 0, 1) := by decide +kernel
theorem dX7_restart_38 : decode cX7_restart 38 = .ok (.getfield 7, 3) := by decide +kernel
theorem dX7_restart_41 : decode cX7_restart 41 = .ok (.iload_n 1, 1) := by decide +kernel
theorem dX7_restart_42 : decode cX7_restart 42 = .ok (.iconst 1, 1) := by decide +kernel
theorem dX7_restart_43 : decode cX7_restart 43 = .ok (.bastore, 1) := by decide +kernel
theorem dX7_restart_44 : decode cX7_restart 44 = .ok (.return_, 1) := by decide +kernel
set_option maxRecDepth 20000 in
theorem ggX7_about_X7_noNode : GoodIn wsX7_about wsX7_noNode := goodIn_r _ [19, 20, 43, 44, 45, 46, 47, 48, 49, 50, 51, 52, 53, 54, 55, 56, 57, 58, 59, 60, 61, 62, 63, 64, 65, 66, 67, 68, 69, 70, 71, 72, 73, 74, 75, 76, 77, 78] (by decide +kernel) (by decide +kernel)
set_option maxRecDepth 20000 in
theorem gX7_about_X7_noNode : GoodIn wsX7_about (wsV RX7 132 RX7 yX7_noNode wsX7_noNode) := goodIn_app (goodIn_of _ (by decide +kernel)) ggX7_about_X7_noNode
set_option maxRecDepth 20000 in
theorem ggX7_about_X7_full : GoodIn wsX7_about wsX7_full := goodIn_r _ [24, 25, 2, 26, 27, 28, 18, 29, 30, 31, 32, 33, 34, 35, 36, 43, 44, 45, 46, 47, 48, 49, 50, 51, 52, 53, 54, 55, 56, 57, 58, 59, 60, 61, 62, 63, 64, 65, 66, 67, 68, 69, 70, 71, 72, 73, 74, 75, 76, 77, 78] (by decide +kernel) (by decide +kernel)
set_option maxRecDepth 20000 in
theorem gX7_about_X7_full : GoodIn wsX7_about (wsV RX7 163 RX7 yX7_full wsX7_full) := goodIn_app (goodIn_of _ (by decide +kernel)) ggX7_about_X7_full
set_option maxRecDepth 20000 in
theorem ggX7_about_X7_holds : GoodIn wsX7_about wsX7_holds := goodIn_r _ [40, 3, 2, 41, 42, 43, 44, 45, 46, 47, 48, 49, 50, 51, 52, 53, 54, 55, 56, 57, 58, 59, 60, 61, 62, 63, 64, 65, 66, 67, 68, 69, 70, 71, 72, 73, 74, 75, 76, 77, 78] (by decide +kernel) (by decide +kernel)
set_option maxRecDepth 20000 in
theorem gX7_about_X7_holds : GoodIn wsX7_about (wsV RX7 160 RX7 yX7_holds wsX7_holds) := goodIn_app (goodIn_of _ (by decide +kernel)) ggX7_about_X7_holds
theorem dX7_about_0 : decode cX7_about 0 = .ok (.aload_n 0, 1) := by decide +kernel
theorem dX7_about_1 : decode cX7_about 1 = .ok (.aload_n 0, 1) := by decide +kernel
theorem dX7_about_2 : decode cX7_about 2 = .ok (.iload_n 1, 1) := by decide +kernel
theorem dX7_about_3 : decode cX7_about 3 = .ok (.invokevirtual 132, 3) := by decide +kernel
theorem dX7_about_6 : decode cX7_about 6 = .ok (.ifCond .eq 7, 3) := by decide +kernel
theorem dX7_about_9 : decode cX7_about 9 = .ok (.iconst 1, 1) := by decide +kernel
theorem dX7_about_10 : decode cX7_about 10 = .ok (.goto 18, 3) := by decide +kernel
theorem dX7_about_13 : decode cX7_about 13 = .ok (.iload_n 2, 1) := by decide +kernel
theorem dX7_about_14 : decode cX7_about 14 = .ok (.ifCond .lt 9, 3) := by decide +kernel
theorem dX7_about_17 : decode cX7_about 17 = .ok (.iload_n 2, 1) := by decide +kernel
theorem dX7_about_18 : decode cX7_about 18 = .ok (.bipush 13, 2) := by decide +kernel
theorem dX7_about_20 : decode cX7_about 20 = .ok (.if_icmp .le 7, 3) := by decide +kernel
theorem dX7_about_23 : decode cX7_about 23 = .ok (.iconst 2, 1) := by decide +kernel
theorem dX7_about_24 : decode cX7_about 24 = .ok (.goto 4, 3) := by decide +kernel
theorem dX7_about_27 : decode cX7_about 27 = .ok (.iconst 0, 1) := by decide +kernel
theorem dX7_about_28 : decode cX7_about 28 = .ok (.putfield 118, 3) := by decide +kernel
theorem dX7_about_31 : decode cX7_about 31 = .ok (.aload_n 0, 1) := by decide +kernel
theorem dX7_about_32 : decode cX7_about 32 = .ok (.getfield 118, 3) := by decide +kernel
theorem dX7_about_35 : decode cX7_about 35 = .ok (.ifCond .le 5, 3) := by decide +kernel
theorem dX7_about_38 : decode cX7_about 38 = .ok (.iconst 0, 1) := by decide +kernel
theorem dX7_about_39 : decode cX7_about 39 = .ok (.ireturn, 1) := by decide +kernel
theorem dX7_about_40 : decode cX7_about 40 = .ok (.aload_n 0, 1) := by decide +kernel
theorem dX7_about_41 : decode cX7_about 41 = .ok (.getfield 17, 3) := by decide +kernel
theorem dX7_about_44 : decode cX7_about 44 = .ok (.iload_n 1, 1) := by decide +kernel
theorem dX7_about_45 : decode cX7_about 45 = .ok (.iaload, 1) := by decide +kernel
theorem dX7_about_46 : decode cX7_about 46 = .ok (.istore_n 3, 1) := by decide +kernel
theorem dX7_about_47 : decode cX7_about 47 = .ok (.iload_n 3, 1) := by decide +kernel
theorem dX7_about_48 : decode cX7_about 48 = .ok (.iconst (-1), 1) := by decide +kernel
theorem dX7_about_49 : decode cX7_about 49 = .ok (.if_icmp .eq 7, 3) := by decide +kernel
theorem dX7_about_52 : decode cX7_about 52 = .ok (.iconst 1, 1) := by decide +kernel
theorem dX7_about_53 : decode cX7_about 53 = .ok (.goto 4, 3) := by decide +kernel
theorem dX7_about_56 : decode cX7_about 56 = .ok (.iconst 0, 1) := by decide +kernel
theorem dX7_about_57 : decode cX7_about 57 = .ok (.istore 4, 2) := by decide +kernel
theorem dX7_about_59 : decode cX7_about 59 = .ok (.iload_n 2, 1) := by decide +kernel
theorem dX7_about_60 : decode cX7_about 60 = .ok (.iconst 4, 1) := by decide +kernel
theorem dX7_about_61 : decode cX7_about 61 = .ok (.if_icmp .ge 68, 3) := by decide +kernel
theorem dX7_about_64 : decode cX7_about 64 = .ok (.iload_n 2, 1) := by decide +kernel
theorem dX7_about_65 : decode cX7_about 65 = .ok (.ifCond .ne 20, 3) := by decide +kernel
theorem dX7_about_68 : decode cX7_about 68 = .ok (.aload_n 0, 1) := by decide +kernel
theorem dX7_about_69 : decode cX7_about 69 = .ok (.getfield 7, 3) := by decide +kernel
theorem dX7_about_72 : decode cX7_about 72 = .ok (.iload_n 1, 1) := by decide +kernel
theorem dX7_about_73 : decode cX7_about 73 = .ok (.baload, 1) := by decide +kernel
theorem dX7_about_74 : decode cX7_about 74 = .ok (.ifCond .eq 7, 3) := by decide +kernel
theorem dX7_about_77 : decode cX7_about 77 = .ok (.iconst 1, 1) := by decide +kernel
theorem dX7_about_78 : decode cX7_about 78 = .ok (.goto 50, 3) := by decide +kernel
theorem dX7_about_81 : decode cX7_about 81 = .ok (.iconst 0, 1) := by decide +kernel
theorem dX7_about_82 : decode cX7_about 82 = .ok (.goto 46, 3) := by decide +kernel
theorem dX7_about_85 : decode cX7_about 85 = .ok (.iload_n 2, 1) := by decide +kernel
theorem dX7_about_86 : decode cX7_about 86 = .ok (.iconst 1, 1) := by decide +kernel
theorem dX7_about_87 : decode cX7_about 87 = .ok (.if_icmp .ne 12, 3) := by decide +kernel
theorem dX7_about_90 : decode cX7_about 90 = .ok (.aload_n 0, 1) := by decide +kernel
theorem dX7_about_91 : decode cX7_about 91 = .ok (.getfield 13, 3) := by decide +kernel
theorem dX7_about_94 : decode cX7_about 94 = .ok (.iload_n 1, 1) := by decide +kernel
theorem dX7_about_95 : decode cX7_about 95 = .ok (.iaload, 1) := by decide +kernel
theorem dX7_about_96 : decode cX7_about 96 = .ok (.goto 32, 3) := by decide +kernel
theorem dX7_about_99 : decode cX7_about 99 = .ok (.iload 4, 2) := by decide +kernel
theorem dX7_about_101 : decode cX7_about 101 = .ok (.ifCond .ne 7, 3) := by decide +kernel
theorem dX7_about_104 : decode cX7_about 104 = .ok (.iconst 0, 1) := by decide +kernel
theorem dX7_about_105 : decode cX7_about 105 = .ok (.goto 23, 3) := by decide +kernel
theorem dX7_about_108 : decode cX7_about 108 = .ok (.iload_n 2, 1) := by decide +kernel
theorem dX7_about_109 : decode cX7_about 109 = .ok (.iconst 2, 1) := by decide +kernel
theorem dX7_about_110 : decode cX7_about 110 = .ok (.if_icmp .ne 12, 3) := by decide +kernel
theorem dX7_about_113 : decode cX7_about 113 = .ok (.aload_n 0, 1) := by decide +kernel
theorem dX7_about_114 : decode cX7_about 114 = .ok (.getfield 75, 3) := by decide +kernel
theorem dX7_about_117 : decode cX7_about 117 = .ok (.iload_n 3, 1) := by decide +kernel
theorem dX7_about_118 : decode cX7_about 118 = .ok (.iaload, 1) := by decide +kernel
theorem dX7_about_119 : decode cX7_about 119 = .ok (.goto 9, 3) := by decide +kernel
theorem dX7_about_122 : decode cX7_about 122 = .ok (.aload_n 0, 1) := by decide +kernel
theorem dX7_about_123 : decode cX7_about 123 = .ok (.getfield 78, 3) := by decide +kernel
theorem dX7_about_126 : decode cX7_about 126 = .ok (.iload_n 3, 1) := by decide +kernel
theorem dX7_about_127 : decode cX7_about 127 = .ok (.iaload, 1) := by decide +kernel
theorem dX7_about_128 : decode cX7_about 128 = .ok (.ireturn, 1) := by decide +kernel
theorem dX7_about_129 : decode cX7_about 129 = .ok (.iload_n 2, 1) := by decide +kernel
theorem dX7_about_130 : decode cX7_about 130 = .ok (.bipush 8, 2) := by decide +kernel
theorem dX7_about_132 : decode cX7_about 132 = .ok (.if_icmp .ge 61, 3) := by decide +kernel
theorem dX7_about_135 : decode cX7_about 135 = .ok (.iload_n 2, 1) := by decide +kernel
theorem dX7_about_136 : decode cX7_about 136 = .ok (.iconst 4, 1) := by decide +kernel
theorem dX7_about_137 : decode cX7_about 137 = .ok (.if_icmp .ne 12, 3) := by decide +kernel
theorem dX7_about_140 : decode cX7_about 140 = .ok (.aload_n 0, 1) := by decide +kernel
theorem dX7_about_141 : decode cX7_about 141 = .ok (.getfield 39, 3) := by decide +kernel
theorem dX7_about_144 : decode cX7_about 144 = .ok (.iload_n 1, 1) := by decide +kernel
theorem dX7_about_145 : decode cX7_about 145 = .ok (.iaload, 1) := by decide +kernel
theorem dX7_about_146 : decode cX7_about 146 = .ok (.goto 46, 3) := by decide +kernel
theorem dX7_about_149 : decode cX7_about 149 = .ok (.iload 4, 2) := by decide +kernel
theorem dX7_about_151 : decode cX7_about 151 = .ok (.ifCond .ne 7, 3) := by decide +kernel
theorem dX7_about_154 : decode cX7_about 154 = .ok (.iconst 0, 1) := by decide +kernel
theorem dX7_about_155 : decode cX7_about 155 = .ok (.goto 37, 3) := by decide +kernel
theorem dX7_about_158 : decode cX7_about 158 = .ok (.iload_n 2, 1) := by decide +kernel
theorem dX7_about_159 : decode cX7_about 159 = .ok (.iconst 5, 1) := by decide +kernel
theorem dX7_about_160 : decode cX7_about 160 = .ok (.if_icmp .ne 11, 3) := by decide +kernel
theorem dX7_about_163 : decode cX7_about 163 = .ok (.aload_n 0, 1) := by decide +kernel
theorem dX7_about_164 : decode cX7_about 164 = .ok (.iload_n 1, 1) := by decide +kernel
theorem dX7_about_165 : decode cX7_about 165 = .ok (.invokevirtual 163, 3) := by decide +kernel
theorem dX7_about_168 : decode cX7_about 168 = .ok (.goto 24, 3) := by decide +kernel
theorem dX7_about_171 : decode cX7_about 171 = .ok (.iload_n 2, 1) := by decide +kernel
theorem dX7_about_172 : decode cX7_about 172 = .ok (.bipush 6, 2) := by decide +kernel
theorem dX7_about_174 : decode cX7_about 174 = .ok (.if_icmp .ne 12, 3) := by decide +kernel
theorem dX7_about_177 : decode cX7_about 177 = .ok (.aload_n 0, 1) := by decide +kernel
theorem dX7_about_178 : decode cX7_about 178 = .ok (.getfield 51, 3) := by decide +kernel
theorem dX7_about_181 : decode cX7_about 181 = .ok (.iload_n 1, 1) := by decide +kernel
theorem dX7_about_182 : decode cX7_about 182 = .ok (.iaload, 1) := by decide +kernel
theorem dX7_about_183 : decode cX7_about 183 = .ok (.goto 9, 3) := by decide +kernel
theorem dX7_about_186 : decode cX7_about 186 = .ok (.aload_n 0, 1) := by decide +kernel
theorem dX7_about_187 : decode cX7_about 187 = .ok (.getfield 54, 3) := by decide +kernel
theorem dX7_about_190 : decode cX7_about 190 = .ok (.iload_n 1, 1) := by decide +kernel
theorem dX7_about_191 : decode cX7_about 191 = .ok (.iaload, 1) := by decide +kernel
theorem dX7_about_192 : decode cX7_about 192 = .ok (.ireturn, 1) := by decide +kernel
theorem dX7_about_193 : decode cX7_about 193 = .ok (.iload_n 2, 1) := by decide +kernel
theorem dX7_about_194 : decode cX7_about 194 = .ok (.bipush 12, 2) := by decide +kernel
theorem dX7_about_196 : decode cX7_about 196 = .ok (.if_icmp .ge 55, 3) := by decide +kernel
theorem dX7_about_199 : decode cX7_about 199 = .ok (.iload_n 2, 1) := by decide +kernel
theorem dX7_about_200 : decode cX7_about 200 = .ok (.bipush 8, 2) := by decide +kernel
theorem dX7_about_202 : decode cX7_about 202 = .ok (.if_icmp .ne 12, 3) := by decide +kernel
theorem dX7_about_205 : decode cX7_about 205 = .ok (.aload_n 0, 1) := by decide +kernel
theorem dX7_about_206 : decode cX7_about 206 = .ok (.getfield 27, 3) := by decide +kernel
theorem dX7_about_209 : decode cX7_about 209 = .ok (.iload_n 1, 1) := by decide +kernel
theorem dX7_about_210 : decode cX7_about 210 = .ok (.iaload, 1) := by decide +kernel
theorem dX7_about_211 : decode cX7_about 211 = .ok (.goto 39, 3) := by decide +kernel
theorem dX7_about_214 : decode cX7_about 214 = .ok (.iload_n 2, 1) := by decide +kernel
theorem dX7_about_215 : decode cX7_about 215 = .ok (.bipush 9, 2) := by decide +kernel
theorem dX7_about_217 : decode cX7_about 217 = .ok (.if_icmp .ne 12, 3) := by decide +kernel
theorem dX7_about_220 : decode cX7_about 220 = .ok (.aload_n 0, 1) := by decide +kernel
theorem dX7_about_221 : decode cX7_about 221 = .ok (.getfield 33, 3) := by decide +kernel
theorem dX7_about_224 : decode cX7_about 224 = .ok (.iload_n 1, 1) := by decide +kernel
theorem dX7_about_225 : decode cX7_about 225 = .ok (.iaload, 1) := by decide +kernel
theorem dX7_about_226 : decode cX7_about 226 = .ok (.goto 24, 3) := by decide +kernel
theorem dX7_about_229 : decode cX7_about 229 = .ok (.iload_n 2, 1) := by decide +kernel
theorem dX7_about_230 : decode cX7_about 230 = .ok (.bipush 10, 2) := by decide +kernel
theorem dX7_about_232 : decode cX7_about 232 = .ok (.if_icmp .ne 12, 3) := by decide +kernel
theorem dX7_about_235 : decode cX7_about 235 = .ok (.aload_n 0, 1) := by decide +kernel
theorem dX7_about_236 : decode cX7_about 236 = .ok (.getfield 36, 3) := by decide +kernel
theorem dX7_about_239 : decode cX7_about 239 = .ok (.iload_n 1, 1) := by decide +kernel
theorem dX7_about_240 : decode cX7_about 240 = .ok (.iaload, 1) := by decide +kernel
theorem dX7_about_241 : decode cX7_about 241 = .ok (.goto 9, 3) := by decide +kernel
theorem dX7_about_244 : decode cX7_about 244 = .ok (.aload_n 0, 1) := by decide +kernel
theorem dX7_about_245 : decode cX7_about 245 = .ok (.getfield 20, 3) := by decide +kernel
theorem dX7_about_248 : decode cX7_about 248 = .ok (.iload_n 1, 1) := by decide +kernel
theorem dX7_about_249 : decode cX7_about 249 = .ok (.iaload, 1) := by decide +kernel
theorem dX7_about_250 : decode cX7_about 250 = .ok (.ireturn, 1) := by decide +kernel
theorem dX7_about_251 : decode cX7_about 251 = .ok (.iload_n 2, 1) := by decide +kernel
theorem dX7_about_252 : decode cX7_about 252 = .ok (.bipush 12, 2) := by decide +kernel
theorem dX7_about_254 : decode cX7_about 254 = .ok (.if_icmp .ne 19, 3) := by decide +kernel
theorem dX7_about_257 : decode cX7_about 257 = .ok (.aload_n 0, 1) := by decide +kernel
theorem dX7_about_258 : decode cX7_about 258 = .ok (.iload_n 1, 1) := by decide +kernel
theorem dX7_about_259 : decode cX7_about 259 = .ok (.invokevirtual 160, 3) := by decide +kernel
theorem dX7_about_262 : decode cX7_about 262 = .ok (.ifCond .eq 7, 3) := by decide +kernel
theorem dX7_about_265 : decode cX7_about 265 = .ok (.iconst 1, 1) := by decide +kernel
theorem dX7_about_266 : decode cX7_about 266 = .ok (.goto 13, 3) := by decide +kernel
theorem dX7_about_269 : decode cX7_about 269 = .ok (.iconst 0, 1) := by decide +kernel
theorem dX7_about_270 : decode cX7_about 270 = .ok (.goto 9, 3) := by decide +kernel
theorem dX7_about_273 : decode cX7_about 273 = .ok (.aload_n 0, 1) := by decide +kernel
theorem dX7_about_274 : decode cX7_about 274 = .ok (.getfield 57, 3) := by decide +kernel
theorem dX7_about_277 : decode cX7_about 277 = .ok (.iload_n 1, 1) := by decide +kernel
theorem dX7_about_278 : decode cX7_about 278 = .ok (.iaload, 1) := by decide +kernel
theorem dX7_about_279 : decode cX7_about 279 = .ok (.ireturn, 1) := by decide +kernel
set_option maxRecDepth 20000 in
theorem ggX7_table_X7_noNode : GoodIn wsX7_table wsX7_noNode := goodIn_r _ [7, 8, 9, 10, 11, 12, 13, 14, 15, 16, 17, 18, 19, 20, 21, 22, 23, 24, 25, 26, 27, 28, 29, 30, 31, 32, 33, 34, 35, 36, 37, 38, 39, 40, 41, 42, 43, 44] (by decide +kernel) (by decide +kernel)
set_option maxRecDepth 20000 in
theorem gX7_table_X7_noNode : GoodIn wsX7_table (wsV RX7 132 RX7 yX7_noNode wsX7_noNode) := goodIn_app (goodIn_of _ (by decide +kernel)) ggX7_table_X7_noNode
theorem dX7_table_0 : decode cX7_table 0 = .ok (.aload_n 0, 1) := by decide +kernel
theorem dX7_table_1 : decode cX7_table 1 = .ok (.aload_n 0, 1) := by decide +kernel
theorem dX7_table_2 : decode cX7_table 2 = .ok (.iload_n 1, 1) := by decide +kernel
theorem dX7_table_3 : decode cX7_table 3 = .ok (.invokevirtual 132, 3) := by decide +kernel
theorem dX7_table_6 : decode cX7_table 6 = .ok (.ifCond .ne 13, 3) := by decide +kernel
theorem dX7_table_9 : decode cX7_table 9 = .ok (.iload_n 2, 1) := by decide +kernel
theorem dX7_table_10 : decode cX7_table 10 = .ok (.ifCond .lt 9, 3) := by decide +kernel
theorem dX7_table_13 : decode cX7_table 13 = .ok (.iload_n 2, 1) := by decide +kernel
theorem dX7_table_14 : decode cX7_table 14 = .ok (.bipush 16, 2) := by decide +kernel
theorem dX7_table_16 : decode cX7_table 16 = .ok (.if_icmp .lt 7, 3) := by decide +kernel
theorem dX7_table_19 : decode cX7_table 19 = .ok (.iconst 1, 1) := by decide +kernel
theorem dX7_table_20 : decode cX7_table 20 = .ok (.goto 4, 3) := by decide +kernel
theorem dX7_table_23 : decode cX7_table 23 = .ok (.iconst 0, 1) := by decide +kernel
theorem dX7_table_24 : decode cX7_table 24 = .ok (.putfield 118, 3) := by decide +kernel
theorem dX7_table_27 : decode cX7_table 27 = .ok (.aload_n 0, 1) := by decide +kernel
theorem dX7_table_28 : decode cX7_table 28 = .ok (.getfield 118, 3) := by decide +kernel
theorem dX7_table_31 : decode cX7_table 31 = .ok (.ifCond .le 7, 3) := by decide +kernel
theorem dX7_table_34 : decode cX7_table 34 = .ok (.lconst 0, 1) := by decide +kernel
theorem dX7_table_35 : decode cX7_table 35 = .ok (.goto 14, 3) := by decide +kernel
theorem dX7_table_38 : decode cX7_table 38 = .ok (.aload_n 0, 1) := by decide +kernel
theorem dX7_table_39 : decode cX7_table 39 = .ok (.getfield 23, 3) := by decide +kernel
theorem dX7_table_42 : decode cX7_table 42 = .ok (.bipush 16, 2) := by decide +kernel
theorem dX7_table_44 : decode cX7_table 44 = .ok (.iload_n 1, 1) := by decide +kernel
theorem dX7_table_45 : decode cX7_table 45 = .ok (.imul, 1) := by decide +kernel
theorem dX7_table_46 : decode cX7_table 46 = .ok (.iload_n 2, 1) := by decide +kernel
theorem dX7_table_47 : decode cX7_table 47 = .ok (.iadd, 1) := by decide +kernel
theorem dX7_table_48 : decode cX7_table 48 = .ok (.laload, 1) := by decide +kernel
theorem dX7_table_49 : decode cX7_table 49 = .ok (.lreturn, 1) := by decide +kernel
set_option maxRecDepth 20000 in
theorem ggX7_mark_X7_noNode : GoodIn wsX7_mark wsX7_noNode := goodIn_r _ [7, 8, 9, 10, 11, 12, 13, 14, 15, 16, 17, 18, 19, 20, 21, 22, 23, 24, 25, 26, 27, 28, 29, 30, 31, 32, 33, 34, 35, 36, 37, 38, 39, 40, 41, 42, 43, 44] (by decide +kernel) (by decide +kernel)
set_option maxRecDepth 20000 in
theorem gX7_mark_X7_noNode : GoodIn wsX7_mark (wsV RX7 132 RX7 yX7_noNode wsX7_noNode) := goodIn_app (goodIn_of _ (by decide +kernel)) ggX7_mark_X7_noNode
theorem dX7_mark_0 : decode cX7_mark 0 = .ok (.aload_n 0, 1) := by decide +kernel
theorem dX7_mark_1 : decode cX7_mark 1 = .ok (.aload_n 0, 1) := by decide +kernel
theorem dX7_mark_2 : decode cX7_mark 2 = .ok (.iload_n 1, 1) := by decide +kernel
theorem dX7_mark_3 : decode cX7_mark 3 = .ok (.invokevirtual 132, 3) := by decide +kernel
theorem dX7_mark_6 : decode cX7_mark 6 = .ok (.ifCond .eq 7, 3) := by decide +kernel
theorem dX7_mark_9 : decode cX7_mark 9 = .ok (.iconst 1, 1) := by decide +kernel
theorem dX7_mark_10 : decode cX7_mark 10 = .ok (.goto 4, 3) := by decide +kernel
theorem dX7_mark_13 : decode cX7_mark 13 = .ok (.iconst 0, 1) := by decide +kernel
theorem dX7_mark_14 : decode cX7_mark 14 = .ok (.putfield 118, 3) := by decide +kernel
theorem dX7_mark_17 : decode cX7_mark 17 = .ok (.aload_n 0, 1) := by decide +kernel
theorem dX7_mark_18 : decode cX7_mark 18 = .ok (.getfield 118, 3) := by decide +kernel
theorem dX7_mark_21 : decode cX7_mark 21 = .ok (.ifCond .le 7, 3) := by decide +kernel
theorem dX7_mark_24 : decode cX7_mark 24 = .ok (.lconst 0, 1) := by decide +kernel
theorem dX7_mark_25 : decode cX7_mark 25 = .ok (.goto 9, 3) := by decide +kernel
theorem dX7_mark_28 : decode cX7_mark 28 = .ok (.aload_n 0, 1) := by decide +kernel
theorem dX7_mark_29 : decode cX7_mark 29 = .ok (.getfield 30, 3) := by decide +kernel
theorem dX7_mark_32 : decode cX7_mark 32 = .ok (.iload_n 1, 1) := by decide +kernel
theorem dX7_mark_33 : decode cX7_mark 33 = .ok (.laload, 1) := by decide +kernel
