theorem dX7_comes_19 : decode cX7_comes 19 = .ok (.getfield 7, 3) := by decide +kernel
theorem dX7_comes_22 : decode cX7_comes 22 = .ok (.iload 4, 2) := by decide +kernel
theorem dX7_comes_24 : decode cX7_comes 24 = .ok (.baload, 1) := by decide +kernel
theorem dX7_comes_25 : decode cX7_comes 25 = .ok (.ifCond .eq 51, 3) := by decide +kernel
theorem dX7_comes_28 : decode cX7_comes 28 = .ok (.aload_n 0, 1) := by decide +kernel
theorem dX7_comes_29 : decode cX7_comes 29 = .ok (.getfield 13, 3) := by decide +kernel
theorem dX7_comes_32 : decode cX7_comes 32 = .ok (.iload 4, 2) := by decide +kernel
theorem dX7_comes_34 : decode cX7_comes 34 = .ok (.iaload, 1) := by decide +kernel
theorem dX7_comes_35 : decode cX7_comes 35 = .ok (.aload_n 0, 1) := by decide +kernel
theorem dX7_comes_36 : decode cX7_comes 36 = .ok (.getfield 13, 3) := by decide +kernel
theorem dX7_comes_39 : decode cX7_comes 39 = .ok (.iload_n 1, 1) := by decide +kernel
theorem dX7_comes_40 : decode cX7_comes 40 = .ok (.iaload, 1) := by decide +kernel
theorem dX7_comes_41 : decode cX7_comes 41 = .ok (.if_icmp .ne 35, 3) := by decide +kernel
theorem dX7_comes_44 : decode cX7_comes 44 = .ok (.aload_n 0, 1) := by decide +kernel
theorem dX7_comes_45 : decode cX7_comes 45 = .ok (.getfield 17, 3) := by decide +kernel
theorem dX7_comes_48 : decode cX7_comes 48 = .ok (.iload 4, 2) := by decide +kernel
theorem dX7_comes_50 : decode cX7_comes 50 = .ok (.iaload, 1) := by decide +kernel
theorem dX7_comes_51 : decode cX7_comes 51 = .ok (.aload_n 0, 1) := by decide +kernel
theorem dX7_comes_52 : decode cX7_comes 52 = .ok (.getfield 17, 3) := by decide +kernel
theorem dX7_comes_55 : decode cX7_comes 55 = .ok (.iload_n 1, 1) := by decide +kernel
theorem dX7_comes_56 : decode cX7_comes 56 = .ok (.iaload, 1) := by decide +kernel
theorem dX7_comes_57 : decode cX7_comes 57 = .ok (.if_icmp .ne 19, 3) := by decide +kernel
theorem dX7_comes_60 : decode cX7_comes 60 = .ok (.iload_n 3, 1) := by decide +kernel
theorem dX7_comes_61 : decode cX7_comes 61 = .ok (.iload 4, 2) := by decide +kernel
theorem dX7_comes_63 : decode cX7_comes 63 = .ok (.invokestatic 125, 3) := by decide +kernel
theorem dX7_comes_66 : decode cX7_comes 66 = .ok (.ifCond .ne 10, 3) := by decide +kernel
theorem dX7_comes_69 : decode cX7_comes 69 = .ok (.aload_n 0, 1) := by decide +kernel
theorem dX7_comes_70 : decode cX7_comes 70 = .ok (.iload 4, 2) := by decide +kernel
theorem dX7_comes_72 : decode cX7_comes 72 = .ok (.iload_n 2, 1) := by decide +kernel
theorem dX7_comes_73 : decode cX7_comes 73 = .ok (.invokevirtual 152, 3) := by decide +kernel
theorem dX7_comes_76 : decode cX7_comes 76 = .ok (.iinc 4 1, 3) := by decide +kernel
theorem dX7_comes_79 : decode cX7_comes 79 = .ok (.goto (-76), 3) := by decide +kernel
theorem dX7_comes_82 : decode cX7_comes 82 = .ok (.return_, 1) := by decide +kernel
set_option maxRecDepth 20000 in
theorem ggX7_give_X7_place : GoodIn wsX7_give wsX7_place := goodIn_r _ [17] (by decide +kernel) (by decide +kernel)
set_option maxRecDepth 20000 in
theorem gX7_give_X7_place : GoodIn wsX7_give (va_wsS RX7 121 yX7_place wsX7_place) := goodIn_app (goodIn_of _ (by decide +kernel)) ggX7_give_X7_place
set_option maxRecDepth 20000 in
theorem ggX7_give_X7_gets : GoodIn wsX7_give wsX7_gets := goodIn_r _ [21, 1, 12, 10, 22, 23, 24, 25, 6, 26, 8, 14, 15, 16, 17, 37, 38, 39, 40, 41, 42, 43, 44, 45, 46, 47, 48, 49, 50, 51, 52, 53, 54, 55, 56, 57, 58, 59, 60, 61, 62, 63, 64, 65, 66, 67, 68, 69, 70, 71, 72] (by decide +kernel) (by decide +kernel)
set_option maxRecDepth 20000 in
theorem gX7_give_X7_gets : GoodIn wsX7_give (wsV RX7 152 RX7 yX7_gets wsX7_gets) := goodIn_app (goodIn_of _ (by decide +kernel)) ggX7_give_X7_gets
set_option maxRecDepth 20000 in
theorem ggX7_give_X7_comes : GoodIn wsX7_give wsX7_comes := goodIn_r _ [30, 31, 32, 33, 1, 34, 35, 16, 36, 18, 19, 20, 21, 12, 10, 22, 23, 24, 25, 6, 26, 8, 14, 15, 17, 37, 38, 39, 40, 41, 42, 43, 44, 45, 46, 47, 48, 49, 50, 51, 52, 53, 54, 55, 56, 57, 58, 59, 60, 61, 62, 63, 64, 65, 66, 67, 68, 69, 70, 71, 72] (by decide +kernel) (by decide +kernel)
set_option maxRecDepth 20000 in
theorem gX7_give_X7_comes : GoodIn wsX7_give (wsV RX7 156 RX7 yX7_comes wsX7_comes) := goodIn_app (goodIn_of _ (by decide +kernel)) ggX7_give_X7_comes
theorem dX7_give_0 : decode cX7_give 0 = .ok (.aload_n 0, 1) := by decide +kernel
theorem dX7_give_1 : decode cX7_give 1 = .ok (.getfield 17, 3) := by decide +kernel
theorem dX7_give_4 : decode cX7_give 4 = .ok (.iload_n 1, 1) := by decide +kernel
theorem dX7_give_5 : decode cX7_give 5 = .ok (.iaload, 1) := by decide +kernel
theorem dX7_give_6 : decode cX7_give 6 = .ok (.istore_n 3, 1) := by decide +kernel
theorem dX7_give_7 : decode cX7_give 7 = .ok (.iconst 0, 1) := by decide +kernel
theorem dX7_give_8 : decode cX7_give 8 = .ok (.istore 4, 2) := by decide +kernel
theorem dX7_give_10 : decode cX7_give 10 = .ok (.iload 4, 2) := by decide +kernel
theorem dX7_give_12 : decode cX7_give 12 = .ok (.aload_n 0, 1) := by decide +kernel
theorem dX7_give_13 : decode cX7_give 13 = .ok (.getfield 115, 3) := by decide +kernel
theorem dX7_give_16 : decode cX7_give 16 = .ok (.if_icmp .ge 157, 3) := by decide +kernel
theorem dX7_give_19 : decode cX7_give 19 = .ok (.iload 4, 2) := by decide +kernel
theorem dX7_give_21 : decode cX7_give 21 = .ok (.aload_n 0, 1) := by decide +kernel
theorem dX7_give_22 : decode cX7_give 22 = .ok (.getfield 39, 3) := by decide +kernel
theorem dX7_give_25 : decode cX7_give 25 = .ok (.iload_n 1, 1) := by decide +kernel
theorem dX7_give_26 : decode cX7_give 26 = .ok (.iaload, 1) := by decide +kernel
theorem dX7_give_27 : decode cX7_give 27 = .ok (.if_icmp .ge 146, 3) := by decide +kernel
theorem dX7_give_30 : decode cX7_give 30 = .ok (.aload_n 0, 1) := by decide +kernel
theorem dX7_give_31 : decode cX7_give 31 = .ok (.getfield 87, 3) := by decide +kernel
theorem dX7_give_34 : decode cX7_give 34 = .ok (.iload_n 3, 1) := by decide +kernel
theorem dX7_give_35 : decode cX7_give 35 = .ok (.iaload, 1) := by decide +kernel
theorem dX7_give_36 : decode cX7_give 36 = .ok (.bipush 100, 2) := by decide +kernel
theorem dX7_give_38 : decode cX7_give 38 = .ok (.if_icmp .ge 135, 3) := by decide +kernel
theorem dX7_give_41 : decode cX7_give 41 = .ok (.aload_n 0, 1) := by decide +kernel
theorem dX7_give_42 : decode cX7_give 42 = .ok (.getfield 87, 3) := by decide +kernel
theorem dX7_give_45 : decode cX7_give 45 = .ok (.iload_n 3, 1) := by decide +kernel
theorem dX7_give_46 : decode cX7_give 46 = .ok (.dup2, 1) := by decide +kernel
theorem dX7_give_47 : decode cX7_give 47 = .ok (.iaload, 1) := by decide +kernel
theorem dX7_give_48 : decode cX7_give 48 = .ok (.iconst 1, 1) := by decide +kernel
theorem dX7_give_49 : decode cX7_give 49 = .ok (.iadd, 1) := by decide +kernel
theorem dX7_give_50 : decode cX7_give 50 = .ok (.iastore, 1) := by decide +kernel
theorem dX7_give_51 : decode cX7_give 51 = .ok (.iload_n 3, 1) := by decide +kernel
theorem dX7_give_52 : decode cX7_give 52 = .ok (.aload_n 0, 1) := by decide +kernel
theorem dX7_give_53 : decode cX7_give 53 = .ok (.getfield 87, 3) := by decide +kernel
theorem dX7_give_56 : decode cX7_give 56 = .ok (.iload_n 3, 1) := by decide +kernel
theorem dX7_give_57 : decode cX7_give 57 = .ok (.iaload, 1) := by decide +kernel
theorem dX7_give_58 : decode cX7_give 58 = .ok (.invokestatic 121, 3) := by decide +kernel
theorem dX7_give_61 : decode cX7_give 61 = .ok (.istore 5, 2) := by decide +kernel
theorem dX7_give_63 : decode cX7_give 63 = .ok (.aload_n 0, 1) := by decide +kernel
theorem dX7_give_64 : decode cX7_give 64 = .ok (.getfield 90, 3) := by decide +kernel
theorem dX7_give_67 : decode cX7_give 67 = .ok (.iload 5, 2) := by decide +kernel
theorem dX7_give_69 : decode cX7_give 69 = .ok (.iload_n 1, 1) := by decide +kernel
theorem dX7_give_70 : decode cX7_give 70 = .ok (.iastore, 1) := by decide +kernel
theorem dX7_give_71 : decode cX7_give 71 = .ok (.aload_n 0, 1) := by decide +kernel
theorem dX7_give_72 : decode cX7_give 72 = .ok (.getfield 93, 3) := by decide +kernel
theorem dX7_give_75 : decode cX7_give 75 = .ok (.iload 5, 2) := by decide +kernel
theorem dX7_give_77 : decode cX7_give 77 = .ok (.aload_n 0, 1) := by decide +kernel
theorem dX7_give_78 : decode cX7_give 78 = .ok (.getfield 42, 3) := by decide +kernel
theorem dX7_give_81 : decode cX7_give 81 = .ok (.bipush 12, 2) := by decide +kernel
theorem dX7_give_83 : decode cX7_give 83 = .ok (.iload_n 1, 1) := by decide +kernel
theorem dX7_give_84 : decode cX7_give 84 = .ok (.imul, 1) := by decide +kernel
theorem dX7_give_85 : decode cX7_give 85 = .ok (.iload 4, 2) := by decide +kernel
theorem dX7_give_87 : decode cX7_give 87 = .ok (.iadd, 1) := by decide +kernel
theorem dX7_give_88 : decode cX7_give 88 = .ok (.iaload, 1) := by decide +kernel
theorem dX7_give_89 : decode cX7_give 89 = .ok (.iastore, 1) := by decide +kernel
theorem dX7_give_90 : decode cX7_give 90 = .ok (.aload_n 0, 1) := by decide +kernel
theorem dX7_give_91 : decode cX7_give 91 = .ok (.getfield 96, 3) := by decide +kernel
theorem dX7_give_94 : decode cX7_give 94 = .ok (.iload 5, 2) := by decide +kernel
theorem dX7_give_96 : decode cX7_give 96 = .ok (.aload_n 0, 1) := by decide +kernel
theorem dX7_give_97 : decode cX7_give 97 = .ok (.getfield 45, 3) := by decide +kernel
theorem dX7_give_100 : decode cX7_give 100 = .ok (.bipush 12, 2) := by decide +kernel
theorem dX7_give_102 : decode cX7_give 102 = .ok (.iload_n 1, 1) := by decide +kernel
theorem dX7_give_103 : decode cX7_give 103 = .ok (.imul, 1) := by decide +kernel
theorem dX7_give_104 : decode cX7_give 104 = .ok (.iload 4, 2) := by decide +kernel
theorem dX7_give_106 : decode cX7_give 106 = .ok (.iadd, 1) := by decide +kernel
theorem dX7_give_107 : decode cX7_give 107 = .ok (.laload, 1) := by decide +kernel
theorem dX7_give_108 : decode cX7_give 108 = .ok (.lastore, 1) := by decide +kernel
theorem dX7_give_109 : decode cX7_give 109 = .ok (.aload_n 0, 1) := by decide +kernel
theorem dX7_give_110 : decode cX7_give 110 = .ok (.getfield 99, 3) := by decide +kernel
theorem dX7_give_113 : decode cX7_give 113 = .ok (.iload 5, 2) := by decide +kernel
theorem dX7_give_115 : decode cX7_give 115 = .ok (.aload_n 0, 1) := by decide +kernel
theorem dX7_give_116 : decode cX7_give 116 = .ok (.getfield 48, 3) := by decide +kernel
theorem dX7_give_119 : decode cX7_give 119 = .ok (.bipush 12, 2) := by decide +kernel
theorem dX7_give_121 : decode cX7_give 121 = .ok (.iload_n 1, 1) := by decide +kernel
theorem dX7_give_122 : decode cX7_give 122 = .ok (.imul, 1) := by decide +kernel
theorem dX7_give_123 : decode cX7_give 123 = .ok (.iload 4, 2) := by decide +kernel
theorem dX7_give_125 : decode cX7_give 125 = .ok (.iadd, 1) := by decide +kernel
theorem dX7_give_126 : decode cX7_give 126 = .ok (.baload, 1) := by decide +kernel
theorem dX7_give_127 : decode cX7_give 127 = .ok (.bastore, 1) := by decide +kernel
theorem dX7_give_128 : decode cX7_give 128 = .ok (.aload_n 0, 1) := by decide +kernel
theorem dX7_give_129 : decode cX7_give 129 = .ok (.getfield 102, 3) := by decide +kernel
theorem dX7_give_132 : decode cX7_give 132 = .ok (.iload 5, 2) := by decide +kernel
theorem dX7_give_134 : decode cX7_give 134 = .ok (.iconst 0, 1) := by decide +kernel
theorem dX7_give_135 : decode cX7_give 135 = .ok (.iastore, 1) := by decide +kernel
theorem dX7_give_136 : decode cX7_give 136 = .ok (.aload_n 0, 1) := by decide +kernel
theorem dX7_give_137 : decode cX7_give 137 = .ok (.getfield 105, 3) := by decide +kernel
theorem dX7_give_140 : decode cX7_give 140 = .ok (.iload 5, 2) := by decide +kernel
theorem dX7_give_142 : decode cX7_give 142 = .ok (.iconst 0, 1) := by decide +kernel
theorem dX7_give_143 : decode cX7_give 143 = .ok (.bastore, 1) := by decide +kernel
theorem dX7_give_144 : decode cX7_give 144 = .ok (.aload_n 0, 1) := by decide +kernel
theorem dX7_give_145 : decode cX7_give 145 = .ok (.iload_n 1, 1) := by decide +kernel
theorem dX7_give_146 : decode cX7_give 146 = .ok (.aload_n 0, 1) := by decide +kernel
theorem dX7_give_147 : decode cX7_give 147 = .ok (.getfield 87, 3) := by decide +kernel
theorem dX7_give_150 : decode cX7_give 150 = .ok (.iload_n 3, 1) := by decide +kernel
theorem dX7_give_151 : decode cX7_give 151 = .ok (.iaload, 1) := by decide +kernel
theorem dX7_give_152 : decode cX7_give 152 = .ok (.invokevirtual 152, 3) := by decide +kernel
theorem dX7_give_155 : decode cX7_give 155 = .ok (.aload_n 0, 1) := by decide +kernel
theorem dX7_give_156 : decode cX7_give 156 = .ok (.iload_n 1, 1) := by decide +kernel
theorem dX7_give_157 : decode cX7_give 157 = .ok (.aload_n 0, 1) := by decide +kernel
theorem dX7_give_158 : decode cX7_give 158 = .ok (.getfield 87, 3) := by decide +kernel
theorem dX7_give_161 : decode cX7_give 161 = .ok (.iload_n 3, 1) := by decide +kernel
theorem dX7_give_162 : decode cX7_give 162 = .ok (.iaload, 1) := by decide +kernel
theorem dX7_give_163 : decode cX7_give 163 = .ok (.iload_n 2, 1) := by decide +kernel
theorem dX7_give_164 : decode cX7_give 164 = .ok (.invokevirtual 156, 3) := by decide +kernel
theorem dX7_give_167 : decode cX7_give 167 = .ok (.iinc 4 1, 3) := by decide +kernel
theorem dX7_give_170 : decode cX7_give 170 = .ok (.goto (-160), 3) := by decide +kernel
theorem dX7_give_173 : decode cX7_give 173 = .ok (.aload_n 0, 1) := by decide +kernel
theorem dX7_give_174 : decode cX7_give 174 = .ok (.getfield 39, 3) := by decide +kernel
theorem dX7_give_177 : decode cX7_give 177 = .ok (.iload_n 1, 1) := by decide +kernel
theorem dX7_give_178 : decode cX7_give 178 = .ok (.aload_n 0, 1) := by decide +kernel
theorem dX7_give_179 : decode cX7_give 179 = .ok (.getfield 39, 3) := by decide +kernel
theorem dX7_give_182 : decode cX7_give 182 = .ok (.iload_n 1, 1) := by decide +kernel
theorem dX7_give_183 : decode cX7_give 183 = .ok (.iaload, 1) := by decide +kernel
theorem dX7_give_184 : decode cX7_give 184 = .ok (.iload 4, 2) := by decide +kernel
theorem dX7_give_186 : decode cX7_give 186 = .ok (.isub, 1) := by decide +kernel
theorem dX7_give_187 : decode cX7_give 187 = .ok (.iastore, 1) := by decide +kernel
theorem dX7_give_188 : decode cX7_give 188 = .ok (.iconst 0, 1) := by decide +kernel
theorem dX7_give_189 : decode cX7_give 189 = .ok (.istore 5, 2) := by decide +kernel
theorem dX7_give_191 : decode cX7_give 191 = .ok (.iload 5, 2) := by decide +kernel
theorem dX7_give_193 : decode cX7_give 193 = .ok (.aload_n 0, 1) := by decide +kernel
theorem dX7_give_194 : decode cX7_give 194 = .ok (.getfield 39, 3) := by decide +kernel
theorem dX7_give_197 : decode cX7_give 197 = .ok (.iload_n 1, 1) := by decide +kernel
theorem dX7_give_198 : decode cX7_give 198 = .ok (.iaload, 1) := by decide +kernel
theorem dX7_give_199 : decode cX7_give 199 = .ok (.if_icmp .ge 69, 3) := by decide +kernel
theorem dX7_give_202 : decode cX7_give 202 = .ok (.bipush 12, 2) := by decide +kernel
theorem dX7_give_204 : decode cX7_give 204 = .ok (.iload_n 1, 1) := by decide +kernel
theorem dX7_give_205 : decode cX7_give 205 = .ok (.imul, 1) := by decide +kernel
theorem dX7_give_206 : decode cX7_give 206 = .ok (.iload 5, 2) := by decide +kernel
theorem dX7_give_208 : decode cX7_give 208 = .ok (.iadd, 1) := by decide +kernel
theorem dX7_give_209 : decode cX7_give 209 = .ok (.istore 6, 2) := by decide +kernel
theorem dX7_give_211 : decode cX7_give 211 = .ok (.aload_n 0, 1) := by decide +kernel
theorem dX7_give_212 : decode cX7_give 212 = .ok (.getfield 42, 3) := by decide +kernel
theorem dX7_give_215 : decode cX7_give 215 = .ok (.iload 6, 2) := by decide +kernel
theorem dX7_give_217 : decode cX7_give 217 = .ok (.aload_n 0, 1) := by decide +kernel
theorem dX7_give_218 : decode cX7_give 218 = .ok (.getfield 42, 3) := by decide +kernel
theorem dX7_give_221 : decode cX7_give 221 = .ok (.iload 6, 2) := by decide +kernel
theorem dX7_give_223 : decode cX7_give 223 = .ok (.iload 4, 2) := by decide +kernel
theorem dX7_give_225 : decode cX7_give 225 = .ok (.iadd, 1) := by decide +kernel
theorem dX7_give_226 : decode cX7_give 226 = .ok (.iaload, 1) := by decide +kernel
theorem dX7_give_227 : decode cX7_give 227 = .ok (.iastore, 1) := by decide +kernel
theorem dX7_give_228 : decode cX7_give 228 = .ok (.aload_n 0, 1) := by decide +kernel
theorem dX7_give_229 : decode cX7_give 229 = .ok (.getfield 45, 3) := by decide +kernel
theorem dX7_give_232 : decode cX7_give 232 = .ok (.iload 6, 2) := by decide +kernel
theorem dX7_give_234 : decode cX7_give 234 = .ok (.aload_n 0, 1) := by decide +kernel
theorem dX7_give_235 : decode cX7_give 235 = .ok (.getfield 45, 3) := by decide +kernel
theorem dX7_give_238 : decode cX7_give 238 = .ok (.iload 6, 2) := by decide +kernel
theorem dX7_give_240 : decode cX7_give 240 = .ok (.iload 4, 2) := by decide +kernel
theorem dX7_give_242 : decode cX7_give 242 = .ok (.iadd, 1) := by decide +kernel
theorem dX7_give_243 : decode cX7_give 243 = .ok (.laload, 1) := by decide +kernel
theorem dX7_give_244 : decode cX7_give 244 = .ok (.lastore, 1) := by decide +kernel
theorem dX7_give_245 : decode cX7_give 245 = .ok (.aload_n 0, 1) := by decide +kernel
theorem dX7_give_246 : decode cX7_give 246 = .ok (.getfield 48, 3) := by decide +kernel
theorem dX7_give_249 : decode cX7_give 249 = .ok (.iload 6, 2) := by decide +kernel
theorem dX7_give_251 : decode cX7_give 251 = .ok (.aload_n 0, 1) := by decide +kernel
theorem dX7_give_252 : decode cX7_give 252 = .ok (.getfield 48, 3) := by decide +kernel
theorem dX7_give_255 : decode cX7_give 255 = .ok (.iload 6, 2) := by decide +kernel
theorem dX7_give_257 : decode cX7_give 257 = .ok (.iload 4, 2) := by decide +kernel
theorem dX7_give_259 : decode cX7_give 259 = .ok (.iadd, 1) := by decide +kernel
theorem dX7_give_260 : decode cX7_give 260 = .ok (.baload, 1) := by decide +kernel
theorem dX7_give_261 : decode cX7_give 261 = .ok (.bastore, 1) := by decide +kernel
theorem dX7_give_262 : decode cX7_give 262 = .ok (.iinc 5 1, 3) := by decide +kernel
theorem dX7_give_265 : decode cX7_give 265 = .ok (.goto (-74), 3) := by decide +kernel
theorem dX7_give_268 : decode cX7_give 268 = .ok (.return_, 1) := by decide +kernel
set_option maxRecDepth 20000 in
theorem ggX7_goesOn_X7_isIn : GoodIn wsX7_goesOn wsX7_isIn := goodIn_r _ [10] (by decide +kernel) (by decide +kernel)
set_option maxRecDepth 20000 in
theorem gX7_goesOn_X7_isIn : GoodIn wsX7_goesOn (va_wsS RX7 125 yX7_isIn wsX7_isIn) := goodIn_app (goodIn_of _ (by decide +kernel)) ggX7_goesOn_X7_isIn
theorem dX7_goesOn_0 : decode cX7_goesOn 0 = .ok (.aload_n 0, 1) := by decide +kernel
theorem dX7_goesOn_1 : decode cX7_goesOn 1 = .ok (.getfield 17, 3) := by decide +kernel
theorem dX7_goesOn_4 : decode cX7_goesOn 4 = .ok (.iload_n 1, 1) := by decide +kernel
theorem dX7_goesOn_5 : decode cX7_goesOn 5 = .ok (.iaload, 1) := by decide +kernel
theorem dX7_goesOn_6 : decode cX7_goesOn 6 = .ok (.istore_n 2, 1) := by decide +kernel
theorem dX7_goesOn_7 : decode cX7_goesOn 7 = .ok (.iload_n 1, 1) := by decide +kernel
theorem dX7_goesOn_8 : decode cX7_goesOn 8 = .ok (.istore_n 3, 1) := by decide +kernel
theorem dX7_goesOn_9 : decode cX7_goesOn 9 = .ok (.iload_n 3, 1) := by decide +kernel
theorem dX7_goesOn_10 : decode cX7_goesOn 10 = .ok (.iconst 1, 1) := by decide +kernel
theorem dX7_goesOn_11 : decode cX7_goesOn 11 = .ok (.iadd, 1) := by decide +kernel
theorem dX7_goesOn_12 : decode cX7_goesOn 12 = .ok (.bipush 8, 2) := by decide +kernel
theorem dX7_goesOn_14 : decode cX7_goesOn 14 = .ok (.irem, 1) := by decide +kernel
theorem dX7_goesOn_15 : decode cX7_goesOn 15 = .ok (.istore_n 3, 1) := by decide +kernel
theorem dX7_goesOn_16 : decode cX7_goesOn 16 = .ok (.aload_n 0, 1) := by decide +kernel
theorem dX7_goesOn_17 : decode cX7_goesOn 17 = .ok (.getfield 78, 3) := by decide +kernel
theorem dX7_goesOn_20 : decode cX7_goesOn 20 = .ok (.iload_n 2, 1) := by decide +kernel
theorem dX7_goesOn_21 : decode cX7_goesOn 21 = .ok (.iaload, 1) := by decide +kernel
theorem dX7_goesOn_22 : decode cX7_goesOn 22 = .ok (.iload_n 3, 1) := by decide +kernel
theorem dX7_goesOn_23 : decode cX7_goesOn 23 = .ok (.invokestatic 125, 3) := by decide +kernel
theorem dX7_goesOn_26 : decode cX7_goesOn 26 = .ok (.ifCond .eq (-17), 3) := by decide +kernel
theorem dX7_goesOn_29 : decode cX7_goesOn 29 = .ok (.aload_n 0, 1) := by decide +kernel
theorem dX7_goesOn_30 : decode cX7_goesOn 30 = .ok (.getfield 7, 3) := by decide +kernel
theorem dX7_goesOn_33 : decode cX7_goesOn 33 = .ok (.iload_n 3, 1) := by decide +kernel
theorem dX7_goesOn_34 : decode cX7_goesOn 34 = .ok (.baload, 1) := by decide +kernel
theorem dX7_goesOn_35 : decode cX7_goesOn 35 = .ok (.ifCond .eq 32, 3) := by decide +kernel
theorem dX7_goesOn_38 : decode cX7_goesOn 38 = .ok (.aload_n 0, 1) := by decide +kernel
theorem dX7_goesOn_39 : decode cX7_goesOn 39 = .ok (.getfield 13, 3) := by decide +kernel
theorem dX7_goesOn_42 : decode cX7_goesOn 42 = .ok (.iload_n 3, 1) := by decide +kernel
theorem dX7_goesOn_43 : decode cX7_goesOn 43 = .ok (.iaload, 1) := by decide +kernel
theorem dX7_goesOn_44 : decode cX7_goesOn 44 = .ok (.aload_n 0, 1) := by decide +kernel
theorem dX7_goesOn_45 : decode cX7_goesOn 45 = .ok (.getfield 13, 3) := by decide +kernel
theorem dX7_goesOn_48 : decode cX7_goesOn 48 = .ok (.iload_n 1, 1) := by decide +kernel
theorem dX7_goesOn_49 : decode cX7_goesOn 49 = .ok (.iaload, 1) := by decide +kernel
theorem dX7_goesOn_50 : decode cX7_goesOn 50 = .ok (.if_icmp .ne 17, 3) := by decide +kernel
theorem dX7_goesOn_53 : decode cX7_goesOn 53 = .ok (.aload_n 0, 1) := by decide +kernel
theorem dX7_goesOn_54 : decode cX7_goesOn 54 = .ok (.getfield 17, 3) := by decide +kernel
theorem dX7_goesOn_57 : decode cX7_goesOn 57 = .ok (.iload_n 3, 1) := by decide +kernel
theorem dX7_goesOn_58 : decode cX7_goesOn 58 = .ok (.iaload, 1) := by decide +kernel
theorem dX7_goesOn_59 : decode cX7_goesOn 59 = .ok (.iload_n 2, 1) := by decide +kernel
theorem dX7_goesOn_60 : decode cX7_goesOn 60 = .ok (.if_icmp .ne 7, 3) := by decide +kernel
theorem dX7_goesOn_63 : decode cX7_goesOn 63 = .ok (.iconst 1, 1) := by decide +kernel
theorem dX7_goesOn_64 : decode cX7_goesOn 64 = .ok (.goto 4, 3) := by decide +kernel
theorem dX7_goesOn_67 : decode cX7_goesOn 67 = .ok (.iconst 0, 1) := by decide +kernel
theorem dX7_goesOn_68 : decode cX7_goesOn 68 = .ok (.istore 4, 2) := by decide +kernel
theorem dX7_goesOn_70 : decode cX7_goesOn 70 = .ok (.aload_n 0, 1) := by decide +kernel
theorem dX7_goesOn_71 : decode cX7_goesOn 71 = .ok (.getfield 81, 3) := by decide +kernel
theorem dX7_goesOn_74 : decode cX7_goesOn 74 = .ok (.iload_n 2, 1) := by decide +kernel
theorem dX7_goesOn_75 : decode cX7_goesOn 75 = .ok (.iload 4, 2) := by decide +kernel
theorem dX7_goesOn_77 : decode cX7_goesOn 77 = .ok (.ifCond .ne 7, 3) := by decide +kernel
theorem dX7_goesOn_80 : decode cX7_goesOn 80 = .ok (.iconst 1, 1) := by decide +kernel
theorem dX7_goesOn_81 : decode cX7_goesOn 81 = .ok (.goto 4, 3) := by decide +kernel
theorem dX7_goesOn_84 : decode cX7_goesOn 84 = .ok (.iconst 0, 1) := by decide +kernel
theorem dX7_goesOn_85 : decode cX7_goesOn 85 = .ok (.bastore, 1) := by decide +kernel
theorem dX7_goesOn_86 : decode cX7_goesOn 86 = .ok (.aload_n 0, 1) := by decide +kernel
theorem dX7_goesOn_87 : decode cX7_goesOn 87 = .ok (.getfield 84, 3) := by decide +kernel
theorem dX7_goesOn_90 : decode cX7_goesOn 90 = .ok (.iload_n 2, 1) := by decide +kernel
theorem dX7_goesOn_91 : decode cX7_goesOn 91 = .ok (.iload_n 3, 1) := by decide +kernel
theorem dX7_goesOn_92 : decode cX7_goesOn 92 = .ok (.iastore, 1) := by decide +kernel
theorem dX7_goesOn_93 : decode cX7_goesOn 93 = .ok (.return_, 1) := by decide +kernel
set_option maxRecDepth 20000 in
theorem ggX7_pass_X7_noNode : GoodIn wsX7_pass wsX7_noNode := goodIn_r _ [13, 6, 92, 93, 94, 95, 96, 97, 98, 99, 100, 101, 102, 103, 104, 105, 106, 107, 108, 109, 110, 111, 112, 113, 114, 115, 116, 117, 118, 119, 120, 121, 122, 123, 124, 125, 126, 127] (by decide +kernel) (by decide +kernel)
set_option maxRecDepth 20000 in
theorem gX7_pass_X7_noNode : GoodIn wsX7_pass (wsV RX7 132 RX7 yX7_noNode wsX7_noNode) := goodIn_app (goodIn_of _ (by decide +kernel)) ggX7_pass_X7_noNode
set_option maxRecDepth 20000 in
theorem ggX7_pass_X7_holds : GoodIn wsX7_pass wsX7_holds := goodIn_r _ [17, 18, 2, 19, 20, 92, 93, 94, 95, 96, 97, 98, 99, 100, 101, 102, 103, 104, 105, 106, 107, 108, 109, 110, 111, 112, 113, 114, 115, 116, 117, 118, 119, 120, 121, 122, 123, 124, 125, 126, 127] (by decide +kernel) (by decide +kernel)
set_option maxRecDepth 20000 in
theorem gX7_pass_X7_holds : GoodIn wsX7_pass (wsV RX7 160 RX7 yX7_holds wsX7_holds) := goodIn_app (goodIn_of _ (by decide +kernel)) ggX7_pass_X7_holds
set_option maxRecDepth 20000 in
theorem ggX7_pass_X7_full : GoodIn wsX7_pass wsX7_full := goodIn_r _ [24, 4, 2, 25, 26, 27, 12, 28, 29, 30, 31, 32, 33, 34, 35, 92, 93, 94, 95, 96, 97, 98, 99, 100, 101, 102, 103, 104, 105, 106, 107, 108, 109, 110, 111, 112, 113, 114, 115, 116, 117, 118, 119, 120, 121, 122, 123, 124, 125, 126, 127] (by decide +kernel) (by decide +kernel)
set_option maxRecDepth 20000 in
theorem gX7_pass_X7_full : GoodIn wsX7_pass (wsV RX7 163 RX7 yX7_full wsX7_full) := goodIn_app (goodIn_of _ (by decide +kernel)) ggX7_pass_X7_full
set_option maxRecDepth 20000 in
theorem ggX7_pass_X7_place : GoodIn wsX7_pass wsX7_place := goodIn_r _ [32] (by decide +kernel) (by decide +kernel)
set_option maxRecDepth 20000 in
theorem gX7_pass_X7_place : GoodIn wsX7_pass (va_wsS RX7 121 yX7_place wsX7_place) := goodIn_app (goodIn_of _ (by decide +kernel)) ggX7_pass_X7_place
set_option maxRecDepth 20000 in
theorem ggX7_pass_X7_hasPlace : GoodIn wsX7_pass wsX7_hasPlace := goodIn_r _ [28, 29, 2, 30, 31, 12, 32, 33, 34, 35, 92, 93, 94, 95, 96, 97, 98, 99, 100, 101, 102, 103, 104, 105, 106, 107, 108, 109, 110, 111, 112, 113, 114, 115, 116, 117, 118, 119, 120, 121, 122, 123, 124, 125, 126, 127] (by decide +kernel) (by decide +kernel)
set_option maxRecDepth 20000 in
theorem gX7_pass_X7_hasPlace : GoodIn wsX7_pass (wsV RX7 129 RX7 yX7_hasPlace wsX7_hasPlace) := goodIn_app (goodIn_of _ (by decide +kernel)) ggX7_pass_X7_hasPlace
set_option maxRecDepth 20000 in
theorem ggX7_pass_X7_comes : GoodIn wsX7_pass wsX7_comes := goodIn_r _ [39, 6, 18, 40, 2, 33, 34, 12, 35, 41, 42, 43, 44, 29, 45, 46, 47, 48, 49, 50, 51, 52, 30, 31, 32, 92, 93, 94, 95, 96, 97, 98, 99, 100, 101, 102, 103, 104, 105, 106, 107, 108, 109, 110, 111, 112, 113, 114, 115, 116, 117, 118, 119, 120, 121, 122, 123, 124, 125, 126, 127] (by decide +kernel) (by decide +kernel)
set_option maxRecDepth 20000 in
theorem gX7_pass_X7_comes : GoodIn wsX7_pass (wsV RX7 156 RX7 yX7_comes wsX7_comes) := goodIn_app (goodIn_of _ (by decide +kernel)) ggX7_pass_X7_comes
set_option maxRecDepth 20000 in
theorem ggX7_pass_X7_give : GoodIn wsX7_pass wsX7_give := goodIn_r _ [56, 2, 57, 58, 4, 59, 50, 60, 52, 61, 45, 62, 29, 5, 30, 31, 12, 32, 41, 42, 43, 44, 46, 47, 48, 49, 51, 36, 37, 38, 39, 6, 18, 40, 33, 34, 35, 92, 93, 94, 95, 96, 97, 98, 99, 100, 101, 102, 103, 104, 105, 106, 107, 108, 109, 110, 111, 112, 113, 114, 115, 116, 117, 118, 119, 120, 121, 122, 123, 124, 125, 126, 127] (by decide +kernel) (by decide +kernel)
set_option maxRecDepth 20000 in
theorem gX7_pass_X7_give : GoodIn wsX7_pass (wsV RX7 167 RX7 yX7_give wsX7_give) := goodIn_app (goodIn_of _ (by decide +kernel)) ggX7_pass_X7_give
set_option maxRecDepth 20000 in
theorem ggX7_pass_X7_isIn : GoodIn wsX7_pass wsX7_isIn := goodIn_r _ [35] (by decide +kernel) (by decide +kernel)
set_option maxRecDepth 20000 in
theorem gX7_pass_X7_isIn : GoodIn wsX7_pass (va_wsS RX7 125 yX7_isIn wsX7_isIn) := goodIn_app (goodIn_of _ (by decide +kernel)) ggX7_pass_X7_isIn
set_option maxRecDepth 20000 in
theorem ggX7_pass_X7_deliverAll : GoodIn wsX7_pass wsX7_deliverAll := goodIn_r _ [66, 67, 4, 2, 45, 8, 25, 26, 27, 12, 28, 29, 30, 31, 32, 33, 34, 35, 68, 69, 70, 71, 59, 50, 52, 47, 46, 72, 73, 74, 75, 76, 77, 78, 79, 80, 81, 82, 83, 84, 85, 86, 87, 92, 93, 94, 95, 96, 97, 98, 99, 100, 101, 102, 103, 104, 105, 106, 107, 108, 109, 110, 111, 112, 113, 114, 115, 116, 117, 118, 119, 120, 121, 122, 123, 124, 125, 126, 127] (by decide +kernel) (by decide +kernel)
set_option maxRecDepth 20000 in
theorem gX7_pass_X7_deliverAll : GoodIn wsX7_pass (wsV RX7 170 RX7 yX7_deliverAll wsX7_deliverAll) := goodIn_app (goodIn_of _ (by decide +kernel)) ggX7_pass_X7_deliverAll
set_option maxRecDepth 20000 in
theorem ggX7_pass_X7_goesOn : GoodIn wsX7_pass wsX7_goesOn := goodIn_r _ [91, 2, 7, 18, 40, 19, 20, 33, 34, 12, 35, 92, 93, 94, 95, 96, 97, 98, 99, 100, 101, 102, 103, 104, 105, 106, 107, 108, 109, 110, 111, 112, 113, 114, 115, 116, 117, 118, 119, 120, 121, 122, 123, 124, 125, 126, 127] (by decide +kernel) (by decide +kernel)
set_option maxRecDepth 20000 in
theorem gX7_pass_X7_goesOn : GoodIn wsX7_pass (wsV RX7 173 RX7 yX7_goesOn wsX7_goesOn) := goodIn_app (goodIn_of _ (by decide +kernel)) ggX7_pass_X7_goesOn
theorem dX7_pass_0 : decode cX7_pass 0 = .ok (.aload_n 0, 1) := by decide +kernel
theorem dX7_pass_1 : decode cX7_pass 1 = .ok (.aload_n 0, 1) := by decide +kernel
theorem dX7_pass_2 : decode cX7_pass 2 = .ok (.iload_n 1, 1) := by decide +kernel
theorem dX7_pass_3 : decode cX7_pass 3 = .ok (.invokevirtual 132, 3) := by decide +kernel
theorem dX7_pass_6 : decode cX7_pass 6 = .ok (.ifCond .eq 7, 3) := by decide +kernel
theorem dX7_pass_9 : decode cX7_pass 9 = .ok (.iconst 1, 1) := by decide +kernel
theorem dX7_pass_10 : decode cX7_pass 10 = .ok (.goto 16, 3) := by decide +kernel
theorem dX7_pass_13 : decode cX7_pass 13 = .ok (.aload_n 0, 1) := by decide +kernel
theorem dX7_pass_14 : decode cX7_pass 14 = .ok (.iload_n 1, 1) := by decide +kernel
theorem dX7_pass_15 : decode cX7_pass 15 = .ok (.invokevirtual 160, 3) := by decide +kernel
theorem dX7_pass_18 : decode cX7_pass 18 = .ok (.ifCond .eq 7, 3) := by decide +kernel
theorem dX7_pass_21 : decode cX7_pass 21 = .ok (.iconst 0, 1) := by decide +kernel
theorem dX7_pass_22 : decode cX7_pass 22 = .ok (.goto 4, 3) := by decide +kernel
theorem dX7_pass_25 : decode cX7_pass 25 = .ok (.iconst 2, 1) := by decide +kernel
theorem dX7_pass_26 : decode cX7_pass 26 = .ok (.putfield 118, 3) := by decide +kernel
theorem dX7_pass_29 : decode cX7_pass 29 = .ok (.aload_n 0, 1) := by decide +kernel
theorem dX7_pass_30 : decode cX7_pass 30 = .ok (.getfield 118, 3) := by decide +kernel
theorem dX7_pass_33 : decode cX7_pass 33 = .ok (.ifCond .le 5, 3) := by decide +kernel
theorem dX7_pass_36 : decode cX7_pass 36 = .ok (.iconst 0, 1) := by decide +kernel
theorem dX7_pass_37 : decode cX7_pass 37 = .ok (.ireturn, 1) := by decide +kernel
theorem dX7_pass_38 : decode cX7_pass 38 = .ok (.aload_n 0, 1) := by decide +kernel
theorem dX7_pass_39 : decode cX7_pass 39 = .ok (.getfield 17, 3) := by decide +kernel
theorem dX7_pass_42 : decode cX7_pass 42 = .ok (.iload_n 1, 1) := by decide +kernel
theorem dX7_pass_43 : decode cX7_pass 43 = .ok (.iaload, 1) := by decide +kernel
theorem dX7_pass_44 : decode cX7_pass 44 = .ok (.istore_n 3, 1) := by decide +kernel
theorem dX7_pass_45 : decode cX7_pass 45 = .ok (.aload_n 0, 1) := by decide +kernel
theorem dX7_pass_46 : decode cX7_pass 46 = .ok (.getfield 108, 3) := by decide +kernel
theorem dX7_pass_49 : decode cX7_pass 49 = .ok (.bipush 8, 2) := by decide +kernel
theorem dX7_pass_51 : decode cX7_pass 51 = .ok (.iload_n 3, 1) := by decide +kernel
theorem dX7_pass_52 : decode cX7_pass 52 = .ok (.imul, 1) := by decide +kernel
theorem dX7_pass_53 : decode cX7_pass 53 = .ok (.iload_n 1, 1) := by decide +kernel
theorem dX7_pass_54 : decode cX7_pass 54 = .ok (.iadd, 1) := by decide +kernel
theorem dX7_pass_55 : decode cX7_pass 55 = .ok (.aload_n 0, 1) := by decide +kernel
theorem dX7_pass_56 : decode cX7_pass 56 = .ok (.iload_n 1, 1) := by decide +kernel
theorem dX7_pass_57 : decode cX7_pass 57 = .ok (.invokevirtual 163, 3) := by decide +kernel
theorem dX7_pass_60 : decode cX7_pass 60 = .ok (.iastore, 1) := by decide +kernel
theorem dX7_pass_61 : decode cX7_pass 61 = .ok (.iconst 1, 1) := by decide +kernel
theorem dX7_pass_62 : decode cX7_pass 62 = .ok (.istore 4, 2) := by decide +kernel
theorem dX7_pass_64 : decode cX7_pass 64 = .ok (.iload 4, 2) := by decide +kernel
theorem dX7_pass_66 : decode cX7_pass 66 = .ok (.aload_n 0, 1) := by decide +kernel
theorem dX7_pass_67 : decode cX7_pass 67 = .ok (.getfield 87, 3) := by decide +kernel
theorem dX7_pass_70 : decode cX7_pass 70 = .ok (.iload_n 3, 1) := by decide +kernel
theorem dX7_pass_71 : decode cX7_pass 71 = .ok (.iaload, 1) := by decide +kernel
theorem dX7_pass_72 : decode cX7_pass 72 = .ok (.if_icmp .gt 53, 3) := by decide +kernel
theorem dX7_pass_75 : decode cX7_pass 75 = .ok (.iload_n 3, 1) := by decide +kernel
theorem dX7_pass_76 : decode cX7_pass 76 = .ok (.iload 4, 2) := by decide +kernel
theorem dX7_pass_78 : decode cX7_pass 78 = .ok (.invokestatic 121, 3) := by decide +kernel
theorem dX7_pass_81 : decode cX7_pass 81 = .ok (.istore 5, 2) := by decide +kernel
theorem dX7_pass_83 : decode cX7_pass 83 = .ok (.aload_n 0, 1) := by decide +kernel
theorem dX7_pass_84 : decode cX7_pass 84 = .ok (.getfield 105, 3) := by decide +kernel
theorem dX7_pass_87 : decode cX7_pass 87 = .ok (.iload 5, 2) := by decide +kernel
theorem dX7_pass_89 : decode cX7_pass 89 = .ok (.baload, 1) := by decide +kernel
theorem dX7_pass_90 : decode cX7_pass 90 = .ok (.ifCond .eq 29, 3) := by decide +kernel
theorem dX7_pass_93 : decode cX7_pass 93 = .ok (.aload_n 0, 1) := by decide +kernel
theorem dX7_pass_94 : decode cX7_pass 94 = .ok (.iload_n 1, 1) := by decide +kernel
theorem dX7_pass_95 : decode cX7_pass 95 = .ok (.iload 4, 2) := by decide +kernel
theorem dX7_pass_97 : decode cX7_pass 97 = .ok (.invokevirtual 129, 3) := by decide +kernel
theorem dX7_pass_100 : decode cX7_pass 100 = .ok (.ifCond .eq 19, 3) := by decide +kernel
theorem dX7_pass_103 : decode cX7_pass 103 = .ok (.aload_n 0, 1) := by decide +kernel
theorem dX7_pass_104 : decode cX7_pass 104 = .ok (.getfield 105, 3) := by decide +kernel
theorem dX7_pass_107 : decode cX7_pass 107 = .ok (.iload 5, 2) := by decide +kernel
theorem dX7_pass_109 : decode cX7_pass 109 = .ok (.iconst 0, 1) := by decide +kernel
theorem dX7_pass_110 : decode cX7_pass 110 = .ok (.bastore, 1) := by decide +kernel
theorem dX7_pass_111 : decode cX7_pass 111 = .ok (.aload_n 0, 1) := by decide +kernel
theorem dX7_pass_112 : decode cX7_pass 112 = .ok (.iload_n 1, 1) := by decide +kernel
theorem dX7_pass_113 : decode cX7_pass 113 = .ok (.iload 4, 2) := by decide +kernel
theorem dX7_pass_115 : decode cX7_pass 115 = .ok (.iload_n 2, 1) := by decide +kernel
theorem dX7_pass_116 : decode cX7_pass 116 = .ok (.invokevirtual 156, 3) := by decide +kernel
theorem dX7_pass_119 : decode cX7_pass 119 = .ok (.iinc 4 1, 3) := by decide +kernel
theorem dX7_pass_122 : decode cX7_pass 122 = .ok (.goto (-58), 3) := by decide +kernel
theorem dX7_pass_125 : decode cX7_pass 125 = .ok (.aload_n 0, 1) := by decide +kernel
theorem dX7_pass_126 : decode cX7_pass 126 = .ok (.iload_n 1, 1) := by decide +kernel
theorem dX7_pass_127 : decode cX7_pass 127 = .ok (.iload_n 2, 1) := by decide +kernel
theorem dX7_pass_128 : decode cX7_pass 128 = .ok (.invokevirtual 167, 3) := by decide +kernel
theorem dX7_pass_131 : decode cX7_pass 131 = .ok (.aload_n 0, 1) := by decide +kernel
theorem dX7_pass_132 : decode cX7_pass 132 = .ok (.getfield 108, 3) := by decide +kernel
theorem dX7_pass_135 : decode cX7_pass 135 = .ok (.bipush 8, 2) := by decide +kernel
theorem dX7_pass_137 : decode cX7_pass 137 = .ok (.iload_n 3, 1) := by decide +kernel
theorem dX7_pass_138 : decode cX7_pass 138 = .ok (.imul, 1) := by decide +kernel
theorem dX7_pass_139 : decode cX7_pass 139 = .ok (.iload_n 1, 1) := by decide +kernel
theorem dX7_pass_140 : decode cX7_pass 140 = .ok (.iadd, 1) := by decide +kernel
theorem dX7_pass_141 : decode cX7_pass 141 = .ok (.aload_n 0, 1) := by decide +kernel
theorem dX7_pass_142 : decode cX7_pass 142 = .ok (.iload_n 1, 1) := by decide +kernel
theorem dX7_pass_143 : decode cX7_pass 143 = .ok (.invokevirtual 163, 3) := by decide +kernel
theorem dX7_pass_146 : decode cX7_pass 146 = .ok (.iastore, 1) := by decide +kernel
theorem dX7_pass_147 : decode cX7_pass 147 = .ok (.bipush 100, 2) := by decide +kernel
theorem dX7_pass_149 : decode cX7_pass 149 = .ok (.istore 4, 2) := by decide +kernel
theorem dX7_pass_151 : decode cX7_pass 151 = .ok (.iconst 0, 1) := by decide +kernel
theorem dX7_pass_152 : decode cX7_pass 152 = .ok (.istore 5, 2) := by decide +kernel
theorem dX7_pass_154 : decode cX7_pass 154 = .ok (.iload 5, 2) := by decide +kernel
theorem dX7_pass_156 : decode cX7_pass 156 = .ok (.aload_n 0, 1) := by decide +kernel
theorem dX7_pass_157 : decode cX7_pass 157 = .ok (.getfield 111, 3) := by decide +kernel
theorem dX7_pass_160 : decode cX7_pass 160 = .ok (.if_icmp .ge 53, 3) := by decide +kernel
theorem dX7_pass_163 : decode cX7_pass 163 = .ok (.aload_n 0, 1) := by decide +kernel
theorem dX7_pass_164 : decode cX7_pass 164 = .ok (.getfield 108, 3) := by decide +kernel
theorem dX7_pass_167 : decode cX7_pass 167 = .ok (.bipush 8, 2) := by decide +kernel
theorem dX7_pass_169 : decode cX7_pass 169 = .ok (.iload_n 3, 1) := by decide +kernel
theorem dX7_pass_170 : decode cX7_pass 170 = .ok (.imul, 1) := by decide +kernel
theorem dX7_pass_171 : decode cX7_pass 171 = .ok (.iload 5, 2) := by decide +kernel
theorem dX7_pass_173 : decode cX7_pass 173 = .ok (.iadd, 1) := by decide +kernel
theorem dX7_pass_174 : decode cX7_pass 174 = .ok (.iaload, 1) := by decide +kernel
theorem dX7_pass_175 : decode cX7_pass 175 = .ok (.istore 6, 2) := by decide +kernel
theorem dX7_pass_177 : decode cX7_pass 177 = .ok (.aload_n 0, 1) := by decide +kernel
theorem dX7_pass_178 : decode cX7_pass 178 = .ok (.getfield 78, 3) := by decide +kernel
theorem dX7_pass_181 : decode cX7_pass 181 = .ok (.iload_n 3, 1) := by decide +kernel
theorem dX7_pass_182 : decode cX7_pass 182 = .ok (.iaload, 1) := by decide +kernel
theorem dX7_pass_183 : decode cX7_pass 183 = .ok (.iload 5, 2) := by decide +kernel
theorem dX7_pass_185 : decode cX7_pass 185 = .ok (.invokestatic 125, 3) := by decide +kernel
theorem dX7_pass_188 : decode cX7_pass 188 = .ok (.ifCond .eq 15, 3) := by decide +kernel
theorem dX7_pass_191 : decode cX7_pass 191 = .ok (.iload 6, 2) := by decide +kernel
theorem dX7_pass_193 : decode cX7_pass 193 = .ok (.iload 4, 2) := by decide +kernel
theorem dX7_pass_195 : decode cX7_pass 195 = .ok (.if_icmp .ge 8, 3) := by decide +kernel
theorem dX7_pass_198 : decode cX7_pass 198 = .ok (.iload 6, 2) := by decide +kernel
theorem dX7_pass_200 : decode cX7_pass 200 = .ok (.goto 5, 3) := by decide +kernel
theorem dX7_pass_203 : decode cX7_pass 203 = .ok (.iload 4, 2) := by decide +kernel
theorem dX7_pass_205 : decode cX7_pass 205 = .ok (.istore 4, 2) := by decide +kernel
theorem dX7_pass_207 : decode cX7_pass 207 = .ok (.iinc 5 1, 3) := by decide +kernel
theorem dX7_pass_210 : decode cX7_pass 210 = .ok (.goto (-56), 3) := by decide +kernel
theorem dX7_pass_213 : decode cX7_pass 213 = .ok (.aload_n 0, 1) := by decide +kernel
theorem dX7_pass_214 : decode cX7_pass 214 = .ok (.getfield 54, 3) := by decide +kernel
theorem dX7_pass_217 : decode cX7_pass 217 = .ok (.iload_n 1, 1) := by decide +kernel
theorem dX7_pass_218 : decode cX7_pass 218 = .ok (.iload 4, 2) := by decide +kernel
theorem dX7_pass_220 : decode cX7_pass 220 = .ok (.aload_n 0, 1) := by decide +kernel
theorem dX7_pass_221 : decode cX7_pass 221 = .ok (.getfield 54, 3) := by decide +kernel
theorem dX7_pass_224 : decode cX7_pass 224 = .ok (.iload_n 1, 1) := by decide +kernel
theorem dX7_pass_225 : decode cX7_pass 225 = .ok (.iaload, 1) := by decide +kernel
theorem dX7_pass_226 : decode cX7_pass 226 = .ok (.if_icmp .le 8, 3) := by decide +kernel
theorem dX7_pass_229 : decode cX7_pass 229 = .ok (.iload 4, 2) := by decide +kernel
theorem dX7_pass_231 : decode cX7_pass 231 = .ok (.goto 9, 3) := by decide +kernel
theorem dX7_pass_234 : decode cX7_pass 234 = .ok (.aload_n 0, 1) := by decide +kernel
theorem dX7_pass_235 : decode cX7_pass 235 = .ok (.getfield 54, 3) := by decide +kernel
theorem dX7_pass_238 : decode cX7_pass 238 = .ok (.iload_n 1, 1) := by decide +kernel
theorem dX7_pass_239 : decode cX7_pass 239 = .ok (.iaload, 1) := by decide +kernel
theorem dX7_pass_240 : decode cX7_pass 240 = .ok (.iastore, 1) := by decide +kernel
theorem dX7_pass_241 : decode cX7_pass 241 = .ok (.iconst 1, 1) := by decide +kernel
theorem dX7_pass_242 : decode cX7_pass 242 = .ok (.istore 5, 2) := by decide +kernel
theorem dX7_pass_244 : decode cX7_pass 244 = .ok (.iload 5, 2) := by decide +kernel
theorem dX7_pass_246 : decode cX7_pass 246 = .ok (.aload_n 0, 1) := by decide +kernel
theorem dX7_pass_247 : decode cX7_pass 247 = .ok (.getfield 87, 3) := by decide +kernel
theorem dX7_pass_250 : decode cX7_pass 250 = .ok (.iload_n 3, 1) := by decide +kernel
theorem dX7_pass_251 : decode cX7_pass 251 = .ok (.iaload, 1) := by decide +kernel
theorem dX7_pass_252 : decode cX7_pass 252 = .ok (.if_icmp .gt 38, 3) := by decide +kernel
theorem dX7_pass_255 : decode cX7_pass 255 = .ok (.aload_n 0, 1) := by decide +kernel
theorem dX7_pass_256 : decode cX7_pass 256 = .ok (.getfield 105, 3) := by decide +kernel
theorem dX7_pass_259 : decode cX7_pass 259 = .ok (.iload_n 3, 1) := by decide +kernel
theorem dX7_pass_260 : decode cX7_pass 260 = .ok (.iload 5, 2) := by decide +kernel
theorem dX7_pass_262 : decode cX7_pass 262 = .ok (.invokestatic 121, 3) := by decide +kernel
theorem dX7_pass_265 : decode cX7_pass 265 = .ok (.dup2, 1) := by decide +kernel
theorem dX7_pass_266 : decode cX7_pass 266 = .ok (.baload, 1) := by decide +kernel
theorem dX7_pass_267 : decode cX7_pass 267 = .ok (.aload_n 0, 1) := by decide +kernel
theorem dX7_pass_268 : decode cX7_pass 268 = .ok (.iload_n 1, 1) := by decide +kernel
theorem dX7_pass_269 : decode cX7_pass 269 = .ok (.iload 5, 2) := by decide +kernel
theorem dX7_pass_271 : decode cX7_pass 271 = .ok (.invokevirtual 129, 3) := by decide +kernel
theorem dX7_pass_274 : decode cX7_pass 274 = .ok (.ifCond .ne 7, 3) := by decide +kernel
theorem dX7_pass_277 : decode cX7_pass 277 = .ok (.iconst 1, 1) := by decide +kernel
theorem dX7_pass_278 : decode cX7_pass 278 = .ok (.goto 4, 3) := by decide +kernel
theorem dX7_pass_281 : decode cX7_pass 281 = .ok (.iconst 0, 1) := by decide +kernel
theorem dX7_pass_282 : decode cX7_pass 282 = .ok (.ior, 1) := by decide +kernel
theorem dX7_pass_283 : decode cX7_pass 283 = .ok (.bastore, 1) := by decide +kernel
theorem dX7_pass_284 : decode cX7_pass 284 = .ok (.iinc 5 1, 3) := by decide +kernel
theorem dX7_pass_287 : decode cX7_pass 287 = .ok (.goto (-43), 3) := by decide +kernel
theorem dX7_pass_290 : decode cX7_pass 290 = .ok (.aload_n 0, 1) := by decide +kernel
theorem dX7_pass_291 : decode cX7_pass 291 = .ok (.iload_n 1, 1) := by decide +kernel
theorem dX7_pass_292 : decode cX7_pass 292 = .ok (.invokevirtual 170, 3) := by decide +kernel
theorem dX7_pass_295 : decode cX7_pass 295 = .ok (.istore 5, 2) := by decide +kernel
theorem dX7_pass_297 : decode cX7_pass 297 = .ok (.aload_n 0, 1) := by decide +kernel
theorem dX7_pass_298 : decode cX7_pass 298 = .ok (.iload_n 1, 1) := by decide +kernel
theorem dX7_pass_299 : decode cX7_pass 299 = .ok (.invokevirtual 173, 3) := by decide +kernel
theorem dX7_pass_302 : decode cX7_pass 302 = .ok (.iload 5, 2) := by decide +kernel
theorem dX7_pass_304 : decode cX7_pass 304 = .ok (.ireturn, 1) := by decide +kernel
theorem dX7_together_0 : decode cX7_together 0 = .ok (.iconst 0, 1) := by decide +kernel
theorem dX7_together_1 : decode cX7_together 1 = .ok (.istore_n 2, 1) := by decide +kernel
theorem dX7_together_2 : decode cX7_together 2 = .ok (.iconst 0, 1) := by decide +kernel
theorem dX7_together_3 : decode cX7_together 3 = .ok (.istore_n 3, 1) := by decide +kernel
theorem dX7_together_4 : decode cX7_together 4 = .ok (.iload_n 3, 1) := by decide +kernel
theorem dX7_together_5 : decode cX7_together 5 = .ok (.aload_n 0, 1) := by decide +kernel
theorem dX7_together_6 : decode cX7_together 6 = .ok (.getfield 111, 3) := by decide +kernel
theorem dX7_together_9 : decode cX7_together 9 = .ok (.if_icmp .ge 43, 3) := by decide +kernel
theorem dX7_together_12 : decode cX7_together 12 = .ok (.aload_n 0, 1) := by decide +kernel
theorem dX7_together_13 : decode cX7_together 13 = .ok (.getfield 7, 3) := by decide +kernel
theorem dX7_together_16 : decode cX7_together 16 = .ok (.iload_n 3, 1) := by decide +kernel
theorem dX7_together_17 : decode cX7_together 17 = .ok (.baload, 1) := by decide +kernel
theorem dX7_together_18 : decode cX7_together 18 = .ok (.ifCond .eq 26, 3) := by decide +kernel
theorem dX7_together_21 : decode cX7_together 21 = .ok (.aload_n 0, 1) := by decide +kernel
theorem dX7_together_22 : decode cX7_together 22 = .ok (.getfield 13, 3) := by decide +kernel
theorem dX7_together_25 : decode cX7_together 25 = .ok (.iload_n 3, 1) := by decide +kernel
theorem dX7_together_26 : decode cX7_together 26 = .ok (.iaload, 1) := by decide +kernel
theorem dX7_together_27 : decode cX7_together 27 = .ok (.aload_n 0, 1) := by decide +kernel
theorem dX7_together_28 : decode cX7_together 28 = .ok (.getfield 13, 3) := by decide +kernel
theorem dX7_together_31 : decode cX7_together 31 = .ok (.iload_n 1, 1) := by decide +kernel
theorem dX7_together_32 : decode cX7_together 32 = .ok (.iaload, 1) := by decide +kernel
theorem dX7_together_33 : decode cX7_together 33 = .ok (.if_icmp .ne 11, 3) := by decide +kernel
theorem dX7_together_36 : decode cX7_together 36 = .ok (.iload_n 2, 1) := by decide +kernel
theorem dX7_together_37 : decode cX7_together 37 = .ok (.iconst 1, 1) := by decide +kernel
theorem dX7_together_38 : decode cX7_together 38 = .ok (.iload_n 3, 1) := by decide +kernel
theorem dX7_together_39 : decode cX7_together 39 = .ok (.ishl, 1) := by decide +kernel
theorem dX7_together_40 : decode cX7_together 40 = .ok (.ior, 1) := by decide +kernel
theorem dX7_together_41 : decode cX7_together 41 = .ok (.goto 4, 3) := by decide +kernel
theorem dX7_together_44 : decode cX7_together 44 = .ok (.iload_n 2, 1) := by decide +kernel
theorem dX7_together_45 : decode cX7_together 45 = .ok (.istore_n 2, 1) := by decide +kernel
theorem dX7_together_46 : decode cX7_together 46 = .ok (.iinc 3 1, 3) := by decide +kernel
theorem dX7_together_49 : decode cX7_together 49 = .ok (.goto (-45), 3) := by decide +kernel
theorem dX7_together_52 : decode cX7_together 52 = .ok (.iload_n 2, 1) := by decide +kernel
theorem dX7_together_53 : decode cX7_together 53 = .ok (.ireturn, 1) := by decide +kernel
theorem dX7_count_0 : decode cX7_count 0 = .ok (.iconst 0, 1) := by decide +kernel
theorem dX7_count_1 : decode cX7_count 1 = .ok (.istore_n 1, 1) := by decide +kernel
theorem dX7_count_2 : decode cX7_count 2 = .ok (.iconst 0, 1) := by decide +kernel
theorem dX7_count_3 : decode cX7_count 3 = .ok (.istore_n 2, 1) := by decide +kernel
theorem dX7_count_4 : decode cX7_count 4 = .ok (.iload_n 2, 1) := by decide +kernel
theorem dX7_count_5 : decode cX7_count 5 = .ok (.bipush 8, 2) := by decide +kernel
theorem dX7_count_7 : decode cX7_count 7 = .ok (.if_icmp .ge 17, 3) := by decide +kernel
theorem dX7_count_10 : decode cX7_count 10 = .ok (.iload_n 1, 1) := by decide +kernel
theorem dX7_count_11 : decode cX7_count 11 = .ok (.iload_n 0, 1) := by decide +kernel
theorem dX7_count_12 : decode cX7_count 12 = .ok (.iload_n 2, 1) := by decide +kernel
theorem dX7_count_13 : decode cX7_count 13 = .ok (.ishr, 1) := by decide +kernel
theorem dX7_count_14 : decode cX7_count 14 = .ok (.iconst 1, 1) := by decide +kernel
theorem dX7_count_15 : decode cX7_count 15 = .ok (.iand, 1) := by decide +kernel
theorem dX7_count_16 : decode cX7_count 16 = .ok (.iadd, 1) := by decide +kernel
theorem dX7_count_17 : decode cX7_count 17 = .ok (.istore_n 1, 1) := by decide +kernel
theorem dX7_count_18 : decode cX7_count 18 = .ok (.iinc 2 1, 3) := by decide +kernel
theorem dX7_count_21 : decode cX7_count 21 = .ok (.goto (-17), 3) := by decide +kernel
theorem dX7_count_24 : decode cX7_count 24 = .ok (.iload_n 1, 1) := by decide +kernel
theorem dX7_count_25 : decode cX7_count 25 = .ok (.ireturn, 1) := by decide +kernel
set_option maxRecDepth 20000 in
theorem ggX7_least_X7_isIn : GoodIn wsX7_least wsX7_isIn := goodIn_r _ [4] (by decide +kernel) (by decide +kernel)
set_option maxRecDepth 20000 in
theorem gX7_least_X7_isIn : GoodIn wsX7_least (va_wsS RX7 125 yX7_isIn wsX7_isIn) := goodIn_app (goodIn_of _ (by decide +kernel)) ggX7_least_X7_isIn
theorem dX7_least_0 : decode cX7_least 0 = .ok (.iconst 0, 1) := by decide +kernel
theorem dX7_least_1 : decode cX7_least 1 = .ok (.istore_n 1, 1) := by decide +kernel
theorem dX7_least_2 : decode cX7_least 2 = .ok (.iload_n 0, 1) := by decide +kernel
theorem dX7_least_3 : decode cX7_least 3 = .ok (.iload_n 1, 1) := by decide +kernel
theorem dX7_least_4 : decode cX7_least 4 = .ok (.invokestatic 125, 3) := by decide +kernel
theorem dX7_least_7 : decode cX7_least 7 = .ok (.ifCond .ne 9, 3) := by decide +kernel
theorem dX7_least_10 : decode cX7_least 10 = .ok (.iinc 1 1, 3) := by decide +kernel
theorem dX7_least_13 : decode cX7_least 13 = .ok (.goto (-11), 3) := by decide +kernel
theorem dX7_least_16 : decode cX7_least 16 = .ok (.iload_n 1, 1) := by decide +kernel
theorem dX7_least_17 : decode cX7_least 17 = .ok (.ireturn, 1) := by decide +kernel
set_option maxRecDepth 20000 in
theorem ggX7_isWhole_X7_least : GoodIn wsX7_isWhole wsX7_least := goodIn_r _ [8, 9, 10, 7, 11] (by decide +kernel) (by decide +kernel)
set_option maxRecDepth 20000 in
theorem gX7_isWhole_X7_least : GoodIn wsX7_isWhole (va_wsS RX7 177 yX7_least wsX7_least) := goodIn_app (goodIn_of _ (by decide +kernel)) ggX7_isWhole_X7_least
set_option maxRecDepth 20000 in
theorem ggX7_isWhole_X7_isIn : GoodIn wsX7_isWhole wsX7_isIn := goodIn_r _ [11] (by decide +kernel) (by decide +kernel)
set_option maxRecDepth 20000 in
theorem gX7_isWhole_X7_isIn : GoodIn wsX7_isWhole (va_wsS RX7 125 yX7_isIn wsX7_isIn) := goodIn_app (goodIn_of _ (by decide +kernel)) ggX7_isWhole_X7_isIn
theorem dX7_isWhole_0 : decode cX7_isWhole 0 = .ok (.aload_n 0, 1) := by decide +kernel
theorem dX7_isWhole_1 : decode cX7_isWhole 1 = .ok (.getfield 17, 3) := by decide +kernel
theorem dX7_isWhole_4 : decode cX7_isWhole 4 = .ok (.iload_n 1, 1) := by decide +kernel
theorem dX7_isWhole_5 : decode cX7_isWhole 5 = .ok (.invokestatic 177, 3) := by decide +kernel
theorem dX7_isWhole_8 : decode cX7_isWhole 8 = .ok (.iaload, 1) := by decide +kernel
theorem dX7_isWhole_9 : decode cX7_isWhole 9 = .ok (.istore_n 2, 1) := by decide +kernel
theorem dX7_isWhole_10 : decode cX7_isWhole 10 = .ok (.iload_n 2, 1) := by decide +kernel
theorem dX7_isWhole_11 : decode cX7_isWhole 11 = .ok (.iconst (-1), 1) := by decide +kernel
theorem dX7_isWhole_12 : decode cX7_isWhole 12 = .ok (.if_icmp .eq 26, 3) := by decide +kernel
theorem dX7_isWhole_15 : decode cX7_isWhole 15 = .ok (.aload_n 0, 1) := by decide +kernel
theorem dX7_isWhole_16 : decode cX7_isWhole 16 = .ok (.getfield 78, 3) := by decide +kernel
theorem dX7_isWhole_19 : decode cX7_isWhole 19 = .ok (.iload_n 2, 1) := by decide +kernel
theorem dX7_isWhole_20 : decode cX7_isWhole 20 = .ok (.iaload, 1) := by decide +kernel
theorem dX7_isWhole_21 : decode cX7_isWhole 21 = .ok (.iload_n 1, 1) := by decide +kernel
theorem dX7_isWhole_22 : decode cX7_isWhole 22 = .ok (.if_icmp .ne 16, 3) := by decide +kernel
theorem dX7_isWhole_25 : decode cX7_isWhole 25 = .ok (.aload_n 0, 1) := by decide +kernel
theorem dX7_isWhole_26 : decode cX7_isWhole 26 = .ok (.getfield 81, 3) := by decide +kernel
theorem dX7_isWhole_29 : decode cX7_isWhole 29 = .ok (.iload_n 2, 1) := by decide +kernel
theorem dX7_isWhole_30 : decode cX7_isWhole 30 = .ok (.baload, 1) := by decide +kernel
theorem dX7_isWhole_31 : decode cX7_isWhole 31 = .ok (.ifCond .ne 7, 3) := by decide +kernel
theorem dX7_isWhole_34 : decode cX7_isWhole 34 = .ok (.iconst 1, 1) := by decide +kernel
theorem dX7_isWhole_35 : decode cX7_isWhole 35 = .ok (.goto 4, 3) := by decide +kernel
theorem dX7_isWhole_38 : decode cX7_isWhole 38 = .ok (.iconst 0, 1) := by decide +kernel
theorem dX7_isWhole_39 : decode cX7_isWhole 39 = .ok (.istore_n 3, 1) := by decide +kernel
theorem dX7_isWhole_40 : decode cX7_isWhole 40 = .ok (.iconst 0, 1) := by decide +kernel
theorem dX7_isWhole_41 : decode cX7_isWhole 41 = .ok (.istore 4, 2) := by decide +kernel
theorem dX7_isWhole_43 : decode cX7_isWhole 43 = .ok (.iload 4, 2) := by decide +kernel
theorem dX7_isWhole_45 : decode cX7_isWhole 45 = .ok (.aload_n 0, 1) := by decide +kernel
theorem dX7_isWhole_46 : decode cX7_isWhole 46 = .ok (.getfield 111, 3) := by decide +kernel
theorem dX7_isWhole_49 : decode cX7_isWhole 49 = .ok (.if_icmp .ge 39, 3) := by decide +kernel
theorem dX7_isWhole_52 : decode cX7_isWhole 52 = .ok (.iload_n 3, 1) := by decide +kernel
theorem dX7_isWhole_53 : decode cX7_isWhole 53 = .ok (.ifCond .eq 35, 3) := by decide +kernel
theorem dX7_isWhole_56 : decode cX7_isWhole 56 = .ok (.iload_n 1, 1) := by decide +kernel
theorem dX7_isWhole_57 : decode cX7_isWhole 57 = .ok (.iload 4, 2) := by decide +kernel
theorem dX7_isWhole_59 : decode cX7_isWhole 59 = .ok (.invokestatic 125, 3) := by decide +kernel
theorem dX7_isWhole_62 : decode cX7_isWhole 62 = .ok (.ifCond .eq 14, 3) := by decide +kernel
theorem dX7_isWhole_65 : decode cX7_isWhole 65 = .ok (.aload_n 0, 1) := by decide +kernel
theorem dX7_isWhole_66 : decode cX7_isWhole 66 = .ok (.getfield 17, 3) := by decide +kernel
theorem dX7_isWhole_69 : decode cX7_isWhole 69 = .ok (.iload 4, 2) := by decide +kernel
theorem dX7_isWhole_71 : decode cX7_isWhole 71 = .ok (.iaload, 1) := by decide +kernel
theorem dX7_isWhole_72 : decode cX7_isWhole 72 = .ok (.iload_n 2, 1) := by decide +kernel
theorem dX7_isWhole_73 : decode cX7_isWhole 73 = .ok (.if_icmp .ne 7, 3) := by decide +kernel
theorem dX7_isWhole_76 : decode cX7_isWhole 76 = .ok (.iconst 1, 1) := by decide +kernel
theorem dX7_isWhole_77 : decode cX7_isWhole 77 = .ok (.goto 4, 3) := by decide +kernel
theorem dX7_isWhole_80 : decode cX7_isWhole 80 = .ok (.iconst 0, 1) := by decide +kernel
theorem dX7_isWhole_81 : decode cX7_isWhole 81 = .ok (.istore_n 3, 1) := by decide +kernel
theorem dX7_isWhole_82 : decode cX7_isWhole 82 = .ok (.iinc 4 1, 3) := by decide +kernel
theorem dX7_isWhole_85 : decode cX7_isWhole 85 = .ok (.goto (-42), 3) := by decide +kernel
theorem dX7_isWhole_88 : decode cX7_isWhole 88 = .ok (.iload_n 3, 1) := by decide +kernel
theorem dX7_isWhole_89 : decode cX7_isWhole 89 = .ok (.ireturn, 1) := by decide +kernel
set_option maxRecDepth 20000 in
theorem ggX7_voter_X7_least : GoodIn wsX7_voter wsX7_least := goodIn_r _ [6, 7, 8, 5, 9] (by decide +kernel) (by decide +kernel)
set_option maxRecDepth 20000 in
theorem gX7_voter_X7_least : GoodIn wsX7_voter (va_wsS RX7 177 yX7_least wsX7_least) := goodIn_app (goodIn_of _ (by decide +kernel)) ggX7_voter_X7_least
set_option maxRecDepth 20000 in
theorem ggX7_voter_X7_isIn : GoodIn wsX7_voter wsX7_isIn := goodIn_r _ [9] (by decide +kernel) (by decide +kernel)
set_option maxRecDepth 20000 in
theorem gX7_voter_X7_isIn : GoodIn wsX7_voter (va_wsS RX7 125 yX7_isIn wsX7_isIn) := goodIn_app (goodIn_of _ (by decide +kernel)) ggX7_voter_X7_isIn
theorem dX7_voter_0 : decode cX7_voter 0 = .ok (.iload_n 1, 1) := by decide +kernel
theorem dX7_voter_1 : decode cX7_voter 1 = .ok (.invokestatic 177, 3) := by decide +kernel
theorem dX7_voter_4 : decode cX7_voter 4 = .ok (.istore_n 2, 1) := by decide +kernel
theorem dX7_voter_5 : decode cX7_voter 5 = .ok (.iconst 0, 1) := by decide +kernel
theorem dX7_voter_6 : decode cX7_voter 6 = .ok (.istore_n 3, 1) := by decide +kernel
theorem dX7_voter_7 : decode cX7_voter 7 = .ok (.iload_n 3, 1) := by decide +kernel
theorem dX7_voter_8 : decode cX7_voter 8 = .ok (.aload_n 0, 1) := by decide +kernel
theorem dX7_voter_9 : decode cX7_voter 9 = .ok (.getfield 111, 3) := by decide +kernel
theorem dX7_voter_12 : decode cX7_voter 12 = .ok (.if_icmp .ge 38, 3) := by decide +kernel
theorem dX7_voter_15 : decode cX7_voter 15 = .ok (.iload_n 1, 1) := by decide +kernel
theorem dX7_voter_16 : decode cX7_voter 16 = .ok (.iload_n 3, 1) := by decide +kernel
theorem dX7_voter_17 : decode cX7_voter 17 = .ok (.invokestatic 125, 3) := by decide +kernel
theorem dX7_voter_20 : decode cX7_voter 20 = .ok (.ifCond .eq 22, 3) := by decide +kernel
theorem dX7_voter_23 : decode cX7_voter 23 = .ok (.aload_n 0, 1) := by decide +kernel
theorem dX7_voter_24 : decode cX7_voter 24 = .ok (.getfield 33, 3) := by decide +kernel
theorem dX7_voter_27 : decode cX7_voter 27 = .ok (.iload_n 3, 1) := by decide +kernel
theorem dX7_voter_28 : decode cX7_voter 28 = .ok (.iaload, 1) := by decide +kernel
theorem dX7_voter_29 : decode cX7_voter 29 = .ok (.aload_n 0, 1) := by decide +kernel
theorem dX7_voter_30 : decode cX7_voter 30 = .ok (.getfield 33, 3) := by decide +kernel
theorem dX7_voter_33 : decode cX7_voter 33 = .ok (.iload_n 2, 1) := by decide +kernel
theorem dX7_voter_34 : decode cX7_voter 34 = .ok (.iaload, 1) := by decide +kernel
theorem dX7_voter_35 : decode cX7_voter 35 = .ok (.if_icmp .le 7, 3) := by decide +kernel
theorem dX7_voter_38 : decode cX7_voter 38 = .ok (.iload_n 3, 1) := by decide +kernel
theorem dX7_voter_39 : decode cX7_voter 39 = .ok (.goto 4, 3) := by decide +kernel
theorem dX7_voter_42 : decode cX7_voter 42 = .ok (.iload_n 2, 1) := by decide +kernel
theorem dX7_voter_43 : decode cX7_voter 43 = .ok (.istore_n 2, 1) := by decide +kernel
theorem dX7_voter_44 : decode cX7_voter 44 = .ok (.iinc 3 1, 3) := by decide +kernel
theorem dX7_voter_47 : decode cX7_voter 47 = .ok (.goto (-40), 3) := by decide +kernel
theorem dX7_voter_50 : decode cX7_voter 50 = .ok (.iload_n 2, 1) := by decide +kernel
theorem dX7_voter_51 : decode cX7_voter 51 = .ok (.ireturn, 1) := by decide +kernel
set_option maxRecDepth 20000 in
theorem ggX7_isPrimary_X7_voter : GoodIn wsX7_isPrimary wsX7_voter := goodIn_r _ [6, 7, 8, 9, 10, 5, 11, 12, 13, 14, 18, 19, 20, 21, 22, 23, 24, 25, 26, 27, 28, 29, 30, 31, 32, 33, 34, 35, 36, 37, 38, 39, 40, 41, 42, 43, 44, 45, 46, 47, 48, 49, 50, 51, 52, 53] (by decide +kernel) (by decide +kernel)
set_option maxRecDepth 20000 in
theorem gX7_isPrimary_X7_voter : GoodIn wsX7_isPrimary (wsV RX7 180 RX7 yX7_voter wsX7_voter) := goodIn_app (goodIn_of _ (by decide +kernel)) ggX7_isPrimary_X7_voter
set_option maxRecDepth 20000 in
theorem ggX7_isPrimary_X7_count : GoodIn wsX7_isPrimary wsX7_count := goodIn_r _ [17] (by decide +kernel) (by decide +kernel)
set_option maxRecDepth 20000 in
theorem gX7_isPrimary_X7_count : GoodIn wsX7_isPrimary (va_wsS RX7 183 yX7_count wsX7_count) := goodIn_app (goodIn_of _ (by decide +kernel)) ggX7_isPrimary_X7_count
set_option maxRecDepth 20000 in
theorem ggX7_isPrimary_X7_least : GoodIn wsX7_isPrimary wsX7_least := goodIn_r _ [11, 12, 13, 5, 14] (by decide +kernel) (by decide +kernel)
set_option maxRecDepth 20000 in
theorem gX7_isPrimary_X7_least : GoodIn wsX7_isPrimary (va_wsS RX7 177 yX7_least wsX7_least) := goodIn_app (goodIn_of _ (by decide +kernel)) ggX7_isPrimary_X7_least
set_option maxRecDepth 20000 in
theorem ggX7_isPrimary_X7_isIn : GoodIn wsX7_isPrimary wsX7_isIn := goodIn_r _ [14] (by decide +kernel) (by decide +kernel)
set_option maxRecDepth 20000 in
theorem gX7_isPrimary_X7_isIn : GoodIn wsX7_isPrimary (va_wsS RX7 125 yX7_isIn wsX7_isIn) := goodIn_app (goodIn_of _ (by decide +kernel)) ggX7_isPrimary_X7_isIn
theorem dX7_isPrimary_0 : decode cX7_isPrimary 0 = .ok (.aload_n 0, 1) := by decide +kernel
theorem dX7_isPrimary_1 : decode cX7_isPrimary 1 = .ok (.getfield 36, 3) := by decide +kernel
theorem dX7_isPrimary_4 : decode cX7_isPrimary 4 = .ok (.aload_n 0, 1) := by decide +kernel
theorem dX7_isPrimary_5 : decode cX7_isPrimary 5 = .ok (.iload_n 1, 1) := by decide +kernel
theorem dX7_isPrimary_6 : decode cX7_isPrimary 6 = .ok (.invokevirtual 180, 3) := by decide +kernel
theorem dX7_isPrimary_9 : decode cX7_isPrimary 9 = .ok (.iaload, 1) := by decide +kernel
theorem dX7_isPrimary_10 : decode cX7_isPrimary 10 = .ok (.istore_n 2, 1) := by decide +kernel
theorem dX7_isPrimary_11 : decode cX7_isPrimary 11 = .ok (.iconst 2, 1) := by decide +kernel
theorem dX7_isPrimary_12 : decode cX7_isPrimary 12 = .ok (.iload_n 2, 1) := by decide +kernel
theorem dX7_isPrimary_13 : decode cX7_isPrimary 13 = .ok (.iload_n 1, 1) := by decide +kernel
theorem dX7_isPrimary_14 : decode cX7_isPrimary 14 = .ok (.iand, 1) := by decide +kernel
theorem dX7_isPrimary_15 : decode cX7_isPrimary 15 = .ok (.invokestatic 183, 3) := by decide +kernel
theorem dX7_isPrimary_18 : decode cX7_isPrimary 18 = .ok (.imul, 1) := by decide +kernel
theorem dX7_isPrimary_19 : decode cX7_isPrimary 19 = .ok (.istore_n 3, 1) := by decide +kernel
theorem dX7_isPrimary_20 : decode cX7_isPrimary 20 = .ok (.iload_n 3, 1) := by decide +kernel
theorem dX7_isPrimary_21 : decode cX7_isPrimary 21 = .ok (.iload_n 2, 1) := by decide +kernel
theorem dX7_isPrimary_22 : decode cX7_isPrimary 22 = .ok (.invokestatic 183, 3) := by decide +kernel
theorem dX7_isPrimary_25 : decode cX7_isPrimary 25 = .ok (.if_icmp .gt 22, 3) := by decide +kernel
theorem dX7_isPrimary_28 : decode cX7_isPrimary 28 = .ok (.iload_n 3, 1) := by decide +kernel
theorem dX7_isPrimary_29 : decode cX7_isPrimary 29 = .ok (.iload_n 2, 1) := by decide +kernel
theorem dX7_isPrimary_30 : decode cX7_isPrimary 30 = .ok (.invokestatic 183, 3) := by decide +kernel
theorem dX7_isPrimary_33 : decode cX7_isPrimary 33 = .ok (.if_icmp .ne 18, 3) := by decide +kernel
theorem dX7_isPrimary_36 : decode cX7_isPrimary 36 = .ok (.iload_n 1, 1) := by decide +kernel
theorem dX7_isPrimary_37 : decode cX7_isPrimary 37 = .ok (.iload_n 2, 1) := by decide +kernel
theorem dX7_isPrimary_38 : decode cX7_isPrimary 38 = .ok (.invokestatic 177, 3) := by decide +kernel
theorem dX7_isPrimary_41 : decode cX7_isPrimary 41 = .ok (.invokestatic 125, 3) := by decide +kernel
theorem dX7_isPrimary_44 : decode cX7_isPrimary 44 = .ok (.ifCond .eq 7, 3) := by decide +kernel
theorem dX7_isPrimary_47 : decode cX7_isPrimary 47 = .ok (.iconst 1, 1) := by decide +kernel
theorem dX7_isPrimary_48 : decode cX7_isPrimary 48 = .ok (.goto 4, 3) := by decide +kernel
theorem dX7_isPrimary_51 : decode cX7_isPrimary 51 = .ok (.iconst 0, 1) := by decide +kernel
theorem dX7_isPrimary_52 : decode cX7_isPrimary 52 = .ok (.ireturn, 1) := by decide +kernel
set_option maxRecDepth 20000 in
theorem ggX7_of_X7_isIn : GoodIn wsX7_of wsX7_isIn := goodIn_r _ [6] (by decide +kernel) (by decide +kernel)
set_option maxRecDepth 20000 in
theorem gX7_of_X7_isIn : GoodIn wsX7_of (va_wsS RX7 125 yX7_isIn wsX7_isIn) := goodIn_app (goodIn_of _ (by decide +kernel)) ggX7_of_X7_isIn
theorem dX7_of_0 : decode cX7_of 0 = .ok (.iconst 0, 1) := by decide +kernel
theorem dX7_of_1 : decode cX7_of 1 = .ok (.istore_n 3, 1) := by decide +kernel
theorem dX7_of_2 : decode cX7_of 2 = .ok (.iconst 0, 1) := by decide +kernel
theorem dX7_of_3 : decode cX7_of 3 = .ok (.istore 4, 2) := by decide +kernel
theorem dX7_of_5 : decode cX7_of 5 = .ok (.iload 4, 2) := by decide +kernel
theorem dX7_of_7 : decode cX7_of 7 = .ok (.aload_n 0, 1) := by decide +kernel
theorem dX7_of_8 : decode cX7_of 8 = .ok (.getfield 111, 3) := by decide +kernel
theorem dX7_of_11 : decode cX7_of 11 = .ok (.if_icmp .ge 40, 3) := by decide +kernel
theorem dX7_of_14 : decode cX7_of 14 = .ok (.iload_n 1, 1) := by decide +kernel
theorem dX7_of_15 : decode cX7_of 15 = .ok (.iload 4, 2) := by decide +kernel
theorem dX7_of_17 : decode cX7_of 17 = .ok (.invokestatic 125, 3) := by decide +kernel
theorem dX7_of_20 : decode cX7_of 20 = .ok (.ifCond .eq 23, 3) := by decide +kernel
theorem dX7_of_23 : decode cX7_of 23 = .ok (.aload_n 0, 1) := by decide +kernel
theorem dX7_of_24 : decode cX7_of 24 = .ok (.getfield 17, 3) := by decide +kernel
theorem dX7_of_27 : decode cX7_of 27 = .ok (.iload 4, 2) := by decide +kernel
theorem dX7_of_29 : decode cX7_of 29 = .ok (.iaload, 1) := by decide +kernel
theorem dX7_of_30 : decode cX7_of 30 = .ok (.iload_n 2, 1) := by decide +kernel
theorem dX7_of_31 : decode cX7_of 31 = .ok (.if_icmp .ne 12, 3) := by decide +kernel
theorem dX7_of_34 : decode cX7_of 34 = .ok (.iload_n 3, 1) := by decide +kernel
theorem dX7_of_35 : decode cX7_of 35 = .ok (.iconst 1, 1) := by decide +kernel
theorem dX7_of_36 : decode cX7_of 36 = .ok (.iload 4, 2) := by decide +kernel
theorem dX7_of_38 : decode cX7_of 38 = .ok (.ishl, 1) := by decide +kernel
theorem dX7_of_39 : decode cX7_of 39 = .ok (.ior, 1) := by decide +kernel
theorem dX7_of_40 : decode cX7_of 40 = .ok (.goto 4, 3) := by decide +kernel
theorem dX7_of_43 : decode cX7_of 43 = .ok (.iload_n 3, 1) := by decide +kernel
theorem dX7_of_44 : decode cX7_of 44 = .ok (.istore_n 3, 1) := by decide +kernel
theorem dX7_of_45 : decode cX7_of 45 = .ok (.iinc 4 1, 3) := by decide +kernel
theorem dX7_of_48 : decode cX7_of 48 = .ok (.goto (-43), 3) := by decide +kernel
theorem dX7_of_51 : decode cX7_of 51 = .ok (.iload_n 3, 1) := by decide +kernel
theorem dX7_of_52 : decode cX7_of 52 = .ok (.ireturn, 1) := by decide +kernel
set_option maxRecDepth 20000 in
theorem ggX7_nextRing_X7_of : GoodIn wsX7_nextRing wsX7_of := goodIn_r _ [5, 6, 7, 8, 9, 4, 10, 20, 21, 22, 23, 24, 25, 26, 27, 28, 29, 30, 31, 32, 33, 34, 35, 36, 37, 38, 39, 40, 41, 42, 43, 44, 45, 46, 47, 48, 49, 50, 51, 52, 53, 54, 55] (by decide +kernel) (by decide +kernel)
set_option maxRecDepth 20000 in
theorem gX7_nextRing_X7_of : GoodIn wsX7_nextRing (wsV RX7 186 RX7 yX7_of wsX7_of) := goodIn_app (goodIn_of _ (by decide +kernel)) ggX7_nextRing_X7_of
set_option maxRecDepth 20000 in
theorem ggX7_nextRing_X7_isBefore : GoodIn wsX7_nextRing wsX7_isBefore := goodIn_r _ [14, 15, 16, 17, 18, 4, 19, 8, 9, 10, 20, 21, 22, 23, 24, 25, 26, 27, 28, 29, 30, 31, 32, 33, 34, 35, 36, 37, 38, 39, 40, 41, 42, 43, 44, 45, 46, 47, 48, 49, 50, 51, 52, 53, 54, 55] (by decide +kernel) (by decide +kernel)
set_option maxRecDepth 20000 in
theorem gX7_nextRing_X7_isBefore : GoodIn wsX7_nextRing (wsV RX7 189 RX7 yX7_isBefore wsX7_isBefore) := goodIn_app (goodIn_of _ (by decide +kernel)) ggX7_nextRing_X7_isBefore
theorem dX7_nextRing_0 : decode cX7_nextRing 0 = .ok (.iconst (-1), 1) := by decide +kernel
theorem dX7_nextRing_1 : decode cX7_nextRing 1 = .ok (.istore_n 3, 1) := by decide +kernel
theorem dX7_nextRing_2 : decode cX7_nextRing 2 = .ok (.iconst 0, 1) := by decide +kernel
theorem dX7_nextRing_3 : decode cX7_nextRing 3 = .ok (.istore 4, 2) := by decide +kernel
theorem dX7_nextRing_5 : decode cX7_nextRing 5 = .ok (.iload 4, 2) := by decide +kernel
theorem dX7_nextRing_7 : decode cX7_nextRing 7 = .ok (.bipush 16, 2) := by decide +kernel
theorem dX7_nextRing_9 : decode cX7_nextRing 9 = .ok (.if_icmp .ge 52, 3) := by decide +kernel
theorem dX7_nextRing_12 : decode cX7_nextRing 12 = .ok (.aload_n 0, 1) := by decide +kernel
theorem dX7_nextRing_13 : decode cX7_nextRing 13 = .ok (.iload_n 1, 1) := by decide +kernel
theorem dX7_nextRing_14 : decode cX7_nextRing 14 = .ok (.iload 4, 2) := by decide +kernel
theorem dX7_nextRing_16 : decode cX7_nextRing 16 = .ok (.invokevirtual 186, 3) := by decide +kernel
theorem dX7_nextRing_19 : decode cX7_nextRing 19 = .ok (.ifCond .eq 36, 3) := by decide +kernel
theorem dX7_nextRing_22 : decode cX7_nextRing 22 = .ok (.iload_n 2, 1) := by decide +kernel
theorem dX7_nextRing_23 : decode cX7_nextRing 23 = .ok (.iconst (-1), 1) := by decide +kernel
theorem dX7_nextRing_24 : decode cX7_nextRing 24 = .ok (.if_icmp .eq 13, 3) := by decide +kernel
theorem dX7_nextRing_27 : decode cX7_nextRing 27 = .ok (.aload_n 0, 1) := by decide +kernel
theorem dX7_nextRing_28 : decode cX7_nextRing 28 = .ok (.iload_n 2, 1) := by decide +kernel
theorem dX7_nextRing_29 : decode cX7_nextRing 29 = .ok (.iload 4, 2) := by decide +kernel
theorem dX7_nextRing_31 : decode cX7_nextRing 31 = .ok (.invokevirtual 189, 3) := by decide +kernel
theorem dX7_nextRing_34 : decode cX7_nextRing 34 = .ok (.ifCond .eq 21, 3) := by decide +kernel
theorem dX7_nextRing_37 : decode cX7_nextRing 37 = .ok (.iload_n 3, 1) := by decide +kernel
theorem dX7_nextRing_38 : decode cX7_nextRing 38 = .ok (.iconst (-1), 1) := by decide +kernel
theorem dX7_nextRing_39 : decode cX7_nextRing 39 = .ok (.if_icmp .eq 13, 3) := by decide +kernel
theorem dX7_nextRing_42 : decode cX7_nextRing 42 = .ok (.aload_n 0, 1) := by decide +kernel
theorem dX7_nextRing_43 : decode cX7_nextRing 43 = .ok (.iload 4, 2) := by decide +kernel
theorem dX7_nextRing_45 : decode cX7_nextRing 45 = .ok (.iload_n 3, 1) := by decide +kernel
theorem dX7_nextRing_46 : decode cX7_nextRing 46 = .ok (.invokevirtual 189, 3) := by decide +kernel
theorem dX7_nextRing_49 : decode cX7_nextRing 49 = .ok (.ifCond .eq 6, 3) := by decide +kernel
theorem dX7_nextRing_52 : decode cX7_nextRing 52 = .ok (.iload 4, 2) := by decide +kernel
theorem dX7_nextRing_54 : decode cX7_nextRing 54 = .ok (.istore_n 3, 1) := by decide +kernel
theorem dX7_nextRing_55 : decode cX7_nextRing 55 = .ok (.iinc 4 1, 3) := by decide +kernel
theorem dX7_nextRing_58 : decode cX7_nextRing 58 = .ok (.goto (-53), 3) := by decide +kernel
theorem dX7_nextRing_61 : decode cX7_nextRing 61 = .ok (.iload_n 3, 1) := by decide +kernel
theorem dX7_nextRing_62 : decode cX7_nextRing 62 = .ok (.ireturn, 1) := by decide +kernel
set_option maxRecDepth 20000 in
theorem ggX7_isBefore_X7_least : GoodIn wsX7_isBefore wsX7_least := goodIn_r _ [6, 7, 8, 5, 9] (by decide +kernel) (by decide +kernel)
set_option maxRecDepth 20000 in
theorem gX7_isBefore_X7_least : GoodIn wsX7_isBefore (va_wsS RX7 177 yX7_least wsX7_least) := goodIn_app (goodIn_of _ (by decide +kernel)) ggX7_isBefore_X7_least
theorem dX7_isBefore_0 : decode cX7_isBefore 0 = .ok (.aload_n 0, 1) := by decide +kernel
theorem dX7_isBefore_1 : decode cX7_isBefore 1 = .ok (.getfield 75, 3) := by decide +kernel
theorem dX7_isBefore_4 : decode cX7_isBefore 4 = .ok (.iload_n 1, 1) := by decide +kernel
theorem dX7_isBefore_5 : decode cX7_isBefore 5 = .ok (.iaload, 1) := by decide +kernel
theorem dX7_isBefore_6 : decode cX7_isBefore 6 = .ok (.aload_n 0, 1) := by decide +kernel
theorem dX7_isBefore_7 : decode cX7_isBefore 7 = .ok (.getfield 75, 3) := by decide +kernel
theorem dX7_isBefore_10 : decode cX7_isBefore 10 = .ok (.iload_n 2, 1) := by decide +kernel
theorem dX7_isBefore_11 : decode cX7_isBefore 11 = .ok (.iaload, 1) := by decide +kernel
theorem dX7_isBefore_12 : decode cX7_isBefore 12 = .ok (.if_icmp .lt 39, 3) := by decide +kernel
theorem dX7_isBefore_15 : decode cX7_isBefore 15 = .ok (.aload_n 0, 1) := by decide +kernel
theorem dX7_isBefore_16 : decode cX7_isBefore 16 = .ok (.getfield 75, 3) := by decide +kernel
theorem dX7_isBefore_19 : decode cX7_isBefore 19 = .ok (.iload_n 1, 1) := by decide +kernel
theorem dX7_isBefore_20 : decode cX7_isBefore 20 = .ok (.iaload, 1) := by decide +kernel
theorem dX7_isBefore_21 : decode cX7_isBefore 21 = .ok (.aload_n 0, 1) := by decide +kernel
theorem dX7_isBefore_22 : decode cX7_isBefore 22 = .ok (.getfield 75, 3) := by decide +kernel
theorem dX7_isBefore_25 : decode cX7_isBefore 25 = .ok (.iload_n 2, 1) := by decide +kernel
theorem dX7_isBefore_26 : decode cX7_isBefore 26 = .ok (.iaload, 1) := by decide +kernel
theorem dX7_isBefore_27 : decode cX7_isBefore 27 = .ok (.if_icmp .ne 28, 3) := by decide +kernel
theorem dX7_isBefore_30 : decode cX7_isBefore 30 = .ok (.aload_n 0, 1) := by decide +kernel
theorem dX7_isBefore_31 : decode cX7_isBefore 31 = .ok (.getfield 78, 3) := by decide +kernel
theorem dX7_isBefore_34 : decode cX7_isBefore 34 = .ok (.iload_n 1, 1) := by decide +kernel
theorem dX7_isBefore_35 : decode cX7_isBefore 35 = .ok (.iaload, 1) := by decide +kernel
theorem dX7_isBefore_36 : decode cX7_isBefore 36 = .ok (.invokestatic 177, 3) := by decide +kernel
theorem dX7_isBefore_39 : decode cX7_isBefore 39 = .ok (.aload_n 0, 1) := by decide +kernel
theorem dX7_isBefore_40 : decode cX7_isBefore 40 = .ok (.getfield 78, 3) := by decide +kernel
theorem dX7_isBefore_43 : decode cX7_isBefore 43 = .ok (.iload_n 2, 1) := by decide +kernel
theorem dX7_isBefore_44 : decode cX7_isBefore 44 = .ok (.iaload, 1) := by decide +kernel
theorem dX7_isBefore_45 : decode cX7_isBefore 45 = .ok (.invokestatic 177, 3) := by decide +kernel
theorem dX7_isBefore_48 : decode cX7_isBefore 48 = .ok (.if_icmp .ge 7, 3) := by decide +kernel
theorem dX7_isBefore_51 : decode cX7_isBefore 51 = .ok (.iconst 1, 1) := by decide +kernel
theorem dX7_isBefore_52 : decode cX7_isBefore 52 = .ok (.goto 4, 3) := by decide +kernel
theorem dX7_isBefore_55 : decode cX7_isBefore 55 = .ok (.iconst 0, 1) := by decide +kernel
theorem dX7_isBefore_56 : decode cX7_isBefore 56 = .ok (.ireturn, 1) := by decide +kernel
set_option maxRecDepth 20000 in
theorem ggX7_end_X7_isIn : GoodIn wsX7_end wsX7_isIn := goodIn_r _ [12] (by decide +kernel) (by decide +kernel)
set_option maxRecDepth 20000 in
theorem gX7_end_X7_isIn : GoodIn wsX7_end (va_wsS RX7 125 yX7_isIn wsX7_isIn) := goodIn_app (goodIn_of _ (by decide +kernel)) ggX7_end_X7_isIn
set_option maxRecDepth 20000 in
theorem ggX7_end_X7_place : GoodIn wsX7_end wsX7_place := goodIn_r _ [15] (by decide +kernel) (by decide +kernel)
set_option maxRecDepth 20000 in
theorem gX7_end_X7_place : GoodIn wsX7_end (va_wsS RX7 121 yX7_place wsX7_place) := goodIn_app (goodIn_of _ (by decide +kernel)) ggX7_end_X7_place
set_option maxRecDepth 20000 in
theorem ggX7_end_X7_gets : GoodIn wsX7_end wsX7_gets := goodIn_r _ [19, 20, 4, 21, 22, 6, 23, 24, 25, 26, 27, 13, 14, 11, 15, 56, 57, 58, 59, 60, 61, 62, 63, 64, 65, 66, 67, 68, 69, 70, 71, 72, 73, 74, 75, 76, 77, 78, 79, 80, 81, 82, 83, 84, 85, 86, 87, 88, 89, 90, 91] (by decide +kernel) (by decide +kernel)
set_option maxRecDepth 20000 in
theorem gX7_end_X7_gets : GoodIn wsX7_end (wsV RX7 152 RX7 yX7_gets wsX7_gets) := goodIn_app (goodIn_of _ (by decide +kernel)) ggX7_end_X7_gets
set_option maxRecDepth 20000 in
theorem ggX7_end_X7_deliverAll : GoodIn wsX7_end wsX7_deliverAll := goodIn_r _ [31, 7, 3, 20, 21, 2, 32, 33, 34, 11, 35, 4, 13, 14, 15, 9, 10, 12, 36, 37, 38, 39, 8, 25, 27, 6, 22, 40, 41, 42, 43, 44, 45, 46, 47, 48, 49, 50, 51, 52, 53, 54, 55, 56, 57, 58, 59, 60, 61, 62, 63, 64, 65, 66, 67, 68, 69, 70, 71, 72, 73, 74, 75, 76, 77, 78, 79, 80, 81, 82, 83, 84, 85, 86, 87, 88, 89, 90, 91] (by decide +kernel) (by decide +kernel)
set_option maxRecDepth 20000 in
theorem gX7_end_X7_deliverAll : GoodIn wsX7_end (wsV RX7 170 RX7 yX7_deliverAll wsX7_deliverAll) := goodIn_app (goodIn_of _ (by decide +kernel)) ggX7_end_X7_deliverAll
set_option maxRecDepth 20000 in
theorem ggX7_end_X7_tell : GoodIn wsX7_end wsX7_tell := goodIn_r _ [43, 44, 45, 56, 57, 58, 59, 60, 61, 62, 63, 64, 65, 66, 67, 68, 69, 70, 71, 72, 73, 74, 75, 76, 77, 78, 79, 80, 81, 82, 83, 84, 85, 86, 87, 88, 89, 90, 91] (by decide +kernel) (by decide +kernel)
set_option maxRecDepth 20000 in
theorem gX7_end_X7_tell : GoodIn wsX7_end (wsV RX7 140 RX7 yX7_tell wsX7_tell) := goodIn_app (goodIn_of _ (by decide +kernel)) ggX7_end_X7_tell
set_option maxRecDepth 20000 in
theorem ggX7_end_X7_hasPlace : GoodIn wsX7_end wsX7_hasPlace := goodIn_r _ [35, 4, 20, 13, 14, 11, 15, 9, 10, 12, 56, 57, 58, 59, 60, 61, 62, 63, 64, 65, 66, 67, 68, 69, 70, 71, 72, 73, 74, 75, 76, 77, 78, 79, 80, 81, 82, 83, 84, 85, 86, 87, 88, 89, 90, 91] (by decide +kernel) (by decide +kernel)
set_option maxRecDepth 20000 in
theorem gX7_end_X7_hasPlace : GoodIn wsX7_end (wsV RX7 129 RX7 yX7_hasPlace wsX7_hasPlace) := goodIn_app (goodIn_of _ (by decide +kernel)) ggX7_end_X7_hasPlace
set_option maxRecDepth 20000 in
theorem ggX7_end_X7_deliver : GoodIn wsX7_end wsX7_deliver := goodIn_r _ [39, 20, 8, 25, 27, 6, 21, 22, 13, 14, 11, 15, 40, 41, 42, 43, 44, 45, 46, 47, 48, 49, 50, 51, 52, 53, 54, 55, 56, 57, 58, 59, 60, 61, 62, 63, 64, 65, 66, 67, 68, 69, 70, 71, 72, 73, 74, 75, 76, 77, 78, 79, 80, 81, 82, 83, 84, 85, 86, 87, 88, 89, 90, 91] (by decide +kernel) (by decide +kernel)
set_option maxRecDepth 20000 in
theorem gX7_end_X7_deliver : GoodIn wsX7_end (wsV RX7 148 RX7 yX7_deliver wsX7_deliver) := goodIn_app (goodIn_of _ (by decide +kernel)) ggX7_end_X7_deliver
theorem dX7_end_0 : decode cX7_end 0 = .ok (.iconst 0, 1) := by decide +kernel
theorem dX7_end_1 : decode cX7_end 1 = .ok (.istore_n 3, 1) := by decide +kernel
theorem dX7_end_2 : decode cX7_end 2 = .ok (.iconst 0, 1) := by decide +kernel
theorem dX7_end_3 : decode cX7_end 3 = .ok (.istore 4, 2) := by decide +kernel
theorem dX7_end_5 : decode cX7_end 5 = .ok (.iload 4, 2) := by decide +kernel
theorem dX7_end_7 : decode cX7_end 7 = .ok (.aload_n 0, 1) := by decide +kernel
theorem dX7_end_8 : decode cX7_end 8 = .ok (.getfield 111, 3) := by decide +kernel
theorem dX7_end_11 : decode cX7_end 11 = .ok (.if_icmp .ge 41, 3) := by decide +kernel
theorem dX7_end_14 : decode cX7_end 14 = .ok (.iload_n 2, 1) := by decide +kernel
theorem dX7_end_15 : decode cX7_end 15 = .ok (.iload 4, 2) := by decide +kernel
theorem dX7_end_17 : decode cX7_end 17 = .ok (.invokestatic 125, 3) := by decide +kernel
theorem dX7_end_20 : decode cX7_end 20 = .ok (.ifCond .eq 24, 3) := by decide +kernel
theorem dX7_end_23 : decode cX7_end 23 = .ok (.aload_n 0, 1) := by decide +kernel
theorem dX7_end_24 : decode cX7_end 24 = .ok (.getfield 54, 3) := by decide +kernel
theorem dX7_end_27 : decode cX7_end 27 = .ok (.iload 4, 2) := by decide +kernel
theorem dX7_end_29 : decode cX7_end 29 = .ok (.iaload, 1) := by decide +kernel
theorem dX7_end_30 : decode cX7_end 30 = .ok (.iload_n 3, 1) := by decide +kernel
theorem dX7_end_31 : decode cX7_end 31 = .ok (.if_icmp .le 13, 3) := by decide +kernel
theorem dX7_end_34 : decode cX7_end 34 = .ok (.aload_n 0, 1) := by decide +kernel
theorem dX7_end_35 : decode cX7_end 35 = .ok (.getfield 54, 3) := by decide +kernel
theorem dX7_end_38 : decode cX7_end 38 = .ok (.iload 4, 2) := by decide +kernel
theorem dX7_end_40 : decode cX7_end 40 = .ok (.iaload, 1) := by decide +kernel
theorem dX7_end_41 : decode cX7_end 41 = .ok (.goto 4, 3) := by decide +kernel
theorem dX7_end_44 : decode cX7_end 44 = .ok (.iload_n 3, 1) := by decide +kernel
theorem dX7_end_45 : decode cX7_end 45 = .ok (.istore_n 3, 1) := by decide +kernel
theorem dX7_end_46 : decode cX7_end 46 = .ok (.iinc 4 1, 3) := by decide +kernel
theorem dX7_end_49 : decode cX7_end 49 = .ok (.goto (-44), 3) := by decide +kernel
theorem dX7_end_52 : decode cX7_end 52 = .ok (.iconst 1, 1) := by decide +kernel
theorem dX7_end_53 : decode cX7_end 53 = .ok (.istore 4, 2) := by decide +kernel
theorem dX7_end_55 : decode cX7_end 55 = .ok (.iload 4, 2) := by decide +kernel
theorem dX7_end_57 : decode cX7_end 57 = .ok (.aload_n 0, 1) := by decide +kernel
theorem dX7_end_58 : decode cX7_end 58 = .ok (.getfield 87, 3) := by decide +kernel
theorem dX7_end_61 : decode cX7_end 61 = .ok (.iload_n 1, 1) := by decide +kernel
theorem dX7_end_62 : decode cX7_end 62 = .ok (.iaload, 1) := by decide +kernel
theorem dX7_end_63 : decode cX7_end 63 = .ok (.if_icmp .gt 72, 3) := by decide +kernel
theorem dX7_end_66 : decode cX7_end 66 = .ok (.aload_n 0, 1) := by decide +kernel
theorem dX7_end_67 : decode cX7_end 67 = .ok (.getfield 102, 3) := by decide +kernel
theorem dX7_end_70 : decode cX7_end 70 = .ok (.iload_n 1, 1) := by decide +kernel
theorem dX7_end_71 : decode cX7_end 71 = .ok (.iload 4, 2) := by decide +kernel
theorem dX7_end_73 : decode cX7_end 73 = .ok (.invokestatic 121, 3) := by decide +kernel
theorem dX7_end_76 : decode cX7_end 76 = .ok (.iaload, 1) := by decide +kernel
theorem dX7_end_77 : decode cX7_end 77 = .ok (.iload_n 2, 1) := by decide +kernel
theorem dX7_end_78 : decode cX7_end 78 = .ok (.iand, 1) := by decide +kernel
theorem dX7_end_79 : decode cX7_end 79 = .ok (.ifCond .eq 7, 3) := by decide +kernel
theorem dX7_end_82 : decode cX7_end 82 = .ok (.iconst 1, 1) := by decide +kernel
theorem dX7_end_83 : decode cX7_end 83 = .ok (.goto 4, 3) := by decide +kernel
theorem dX7_end_86 : decode cX7_end 86 = .ok (.iconst 0, 1) := by decide +kernel
theorem dX7_end_87 : decode cX7_end 87 = .ok (.istore 5, 2) := by decide +kernel
theorem dX7_end_89 : decode cX7_end 89 = .ok (.iconst 0, 1) := by decide +kernel
theorem dX7_end_90 : decode cX7_end 90 = .ok (.istore 6, 2) := by decide +kernel
theorem dX7_end_92 : decode cX7_end 92 = .ok (.iload 6, 2) := by decide +kernel
theorem dX7_end_94 : decode cX7_end 94 = .ok (.aload_n 0, 1) := by decide +kernel
theorem dX7_end_95 : decode cX7_end 95 = .ok (.getfield 111, 3) := by decide +kernel
theorem dX7_end_98 : decode cX7_end 98 = .ok (.if_icmp .ge 31, 3) := by decide +kernel
theorem dX7_end_101 : decode cX7_end 101 = .ok (.iload 5, 2) := by decide +kernel
theorem dX7_end_103 : decode cX7_end 103 = .ok (.ifCond .eq 26, 3) := by decide +kernel
theorem dX7_end_106 : decode cX7_end 106 = .ok (.iload_n 2, 1) := by decide +kernel
theorem dX7_end_107 : decode cX7_end 107 = .ok (.iload 6, 2) := by decide +kernel
theorem dX7_end_109 : decode cX7_end 109 = .ok (.invokestatic 125, 3) := by decide +kernel
theorem dX7_end_112 : decode cX7_end 112 = .ok (.ifCond .eq 11, 3) := by decide +kernel
theorem dX7_end_115 : decode cX7_end 115 = .ok (.aload_n 0, 1) := by decide +kernel
theorem dX7_end_116 : decode cX7_end 116 = .ok (.iload 6, 2) := by decide +kernel
theorem dX7_end_118 : decode cX7_end 118 = .ok (.iload 4, 2) := by decide +kernel
theorem dX7_end_120 : decode cX7_end 120 = .ok (.invokevirtual 152, 3) := by decide +kernel
theorem dX7_end_123 : decode cX7_end 123 = .ok (.iinc 6 1, 3) := by decide +kernel
theorem dX7_end_126 : decode cX7_end 126 = .ok (.goto (-34), 3) := by decide +kernel
theorem dX7_end_129 : decode cX7_end 129 = .ok (.iinc 4 1, 3) := by decide +kernel
theorem dX7_end_132 : decode cX7_end 132 = .ok (.goto (-77), 3) := by decide +kernel
