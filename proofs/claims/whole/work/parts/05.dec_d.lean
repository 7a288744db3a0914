theorem dX8_looksFrom_0 : decode cX8_looksFrom 0 = .ok (.aload_n 0, 1) := by decide +kernel
theorem dX8_looksFrom_1 : decode cX8_looksFrom 1 = .ok (.aload_n 0, 1) := by decide +kernel
theorem dX8_looksFrom_2 : decode cX8_looksFrom 2 = .ok (.getfield 94, 3) := by decide +kernel
theorem dX8_looksFrom_5 : decode cX8_looksFrom 5 = .ok (.invokevirtual 226, 3) := by decide +kernel
theorem dX8_looksFrom_8 : decode cX8_looksFrom 8 = .ok (.iconst 0, 1) := by decide +kernel
theorem dX8_looksFrom_9 : decode cX8_looksFrom 9 = .ok (.istore_n 3, 1) := by decide +kernel
theorem dX8_looksFrom_10 : decode cX8_looksFrom 10 = .ok (.iload_n 3, 1) := by decide +kernel
theorem dX8_looksFrom_11 : decode cX8_looksFrom 11 = .ok (.aload_n 0, 1) := by decide +kernel
theorem dX8_looksFrom_12 : decode cX8_looksFrom 12 = .ok (.getfield 94, 3) := by decide +kernel
theorem dX8_looksFrom_15 : decode cX8_looksFrom 15 = .ok (.if_icmp .ge 51, 3) := by decide +kernel
theorem dX8_looksFrom_18 : decode cX8_looksFrom 18 = .ok (.aload_n 0, 1) := by decide +kernel
theorem dX8_looksFrom_19 : decode cX8_looksFrom 19 = .ok (.getfield 38, 3) := by decide +kernel
theorem dX8_looksFrom_22 : decode cX8_looksFrom 22 = .ok (.sipush 4200, 3) := by decide +kernel
theorem dX8_looksFrom_25 : decode cX8_looksFrom 25 = .ok (.iload_n 3, 1) := by decide +kernel
theorem dX8_looksFrom_26 : decode cX8_looksFrom 26 = .ok (.iadd, 1) := by decide +kernel
theorem dX8_looksFrom_27 : decode cX8_looksFrom 27 = .ok (.iload_n 3, 1) := by decide +kernel
theorem dX8_looksFrom_28 : decode cX8_looksFrom 28 = .ok (.iload_n 1, 1) := by decide +kernel
theorem dX8_looksFrom_29 : decode cX8_looksFrom 29 = .ok (.if_icmp .ne 7, 3) := by decide +kernel
theorem dX8_looksFrom_32 : decode cX8_looksFrom 32 = .ok (.iconst 0, 1) := by decide +kernel
theorem dX8_looksFrom_33 : decode cX8_looksFrom 33 = .ok (.goto 5, 3) := by decide +kernel
theorem dX8_looksFrom_36 : decode cX8_looksFrom 36 = .ok (.ldc 240, 2) := by decide +kernel
theorem dX8_looksFrom_38 : decode cX8_looksFrom 38 = .ok (.iastore, 1) := by decide +kernel
theorem dX8_looksFrom_39 : decode cX8_looksFrom 39 = .ok (.aload_n 0, 1) := by decide +kernel
theorem dX8_looksFrom_40 : decode cX8_looksFrom 40 = .ok (.getfield 41, 3) := by decide +kernel
theorem dX8_looksFrom_43 : decode cX8_looksFrom 43 = .ok (.sipush 4200, 3) := by decide +kernel
theorem dX8_looksFrom_46 : decode cX8_looksFrom 46 = .ok (.iload_n 3, 1) := by decide +kernel
theorem dX8_looksFrom_47 : decode cX8_looksFrom 47 = .ok (.iadd, 1) := by decide +kernel
theorem dX8_looksFrom_48 : decode cX8_looksFrom 48 = .ok (.iload_n 3, 1) := by decide +kernel
theorem dX8_looksFrom_49 : decode cX8_looksFrom 49 = .ok (.iload_n 1, 1) := by decide +kernel
theorem dX8_looksFrom_50 : decode cX8_looksFrom 50 = .ok (.if_icmp .ne 7, 3) := by decide +kernel
theorem dX8_looksFrom_53 : decode cX8_looksFrom 53 = .ok (.iconst 0, 1) := by decide +kernel
theorem dX8_looksFrom_54 : decode cX8_looksFrom 54 = .ok (.goto 5, 3) := by decide +kernel
theorem dX8_looksFrom_57 : decode cX8_looksFrom 57 = .ok (.ldc 240, 2) := by decide +kernel
theorem dX8_looksFrom_59 : decode cX8_looksFrom 59 = .ok (.iastore, 1) := by decide +kernel
theorem dX8_looksFrom_60 : decode cX8_looksFrom 60 = .ok (.iinc 3 1, 3) := by decide +kernel
theorem dX8_looksFrom_63 : decode cX8_looksFrom 63 = .ok (.goto (-53), 3) := by decide +kernel
theorem dX8_looksFrom_66 : decode cX8_looksFrom 66 = .ok (.sipush 599, 3) := by decide +kernel
theorem dX8_looksFrom_69 : decode cX8_looksFrom 69 = .ok (.istore_n 3, 1) := by decide +kernel
theorem dX8_looksFrom_70 : decode cX8_looksFrom 70 = .ok (.iload_n 3, 1) := by decide +kernel
theorem dX8_looksFrom_71 : decode cX8_looksFrom 71 = .ok (.ifCond .lt 240, 3) := by decide +kernel
theorem dX8_looksFrom_74 : decode cX8_looksFrom 74 = .ok (.iconst 0, 1) := by decide +kernel
theorem dX8_looksFrom_75 : decode cX8_looksFrom 75 = .ok (.istore 4, 2) := by decide +kernel
theorem dX8_looksFrom_77 : decode cX8_looksFrom 77 = .ok (.iload 4, 2) := by decide +kernel
theorem dX8_looksFrom_79 : decode cX8_looksFrom 79 = .ok (.aload_n 0, 1) := by decide +kernel
theorem dX8_looksFrom_80 : decode cX8_looksFrom 80 = .ok (.getfield 94, 3) := by decide +kernel
theorem dX8_looksFrom_83 : decode cX8_looksFrom 83 = .ok (.if_icmp .ge 222, 3) := by decide +kernel
theorem dX8_looksFrom_86 : decode cX8_looksFrom 86 = .ok (.aload_n 0, 1) := by decide +kernel
theorem dX8_looksFrom_87 : decode cX8_looksFrom 87 = .ok (.getfield 38, 3) := by decide +kernel
theorem dX8_looksFrom_90 : decode cX8_looksFrom 90 = .ok (.bipush 7, 2) := by decide +kernel
theorem dX8_looksFrom_92 : decode cX8_looksFrom 92 = .ok (.iload_n 3, 1) := by decide +kernel
theorem dX8_looksFrom_93 : decode cX8_looksFrom 93 = .ok (.iconst 1, 1) := by decide +kernel
theorem dX8_looksFrom_94 : decode cX8_looksFrom 94 = .ok (.iadd, 1) := by decide +kernel
theorem dX8_looksFrom_95 : decode cX8_looksFrom 95 = .ok (.imul, 1) := by decide +kernel
theorem dX8_looksFrom_96 : decode cX8_looksFrom 96 = .ok (.iload 4, 2) := by decide +kernel
theorem dX8_looksFrom_98 : decode cX8_looksFrom 98 = .ok (.iadd, 1) := by decide +kernel
theorem dX8_looksFrom_99 : decode cX8_looksFrom 99 = .ok (.iaload, 1) := by decide +kernel
theorem dX8_looksFrom_100 : decode cX8_looksFrom 100 = .ok (.iconst 1, 1) := by decide +kernel
theorem dX8_looksFrom_101 : decode cX8_looksFrom 101 = .ok (.iadd, 1) := by decide +kernel
theorem dX8_looksFrom_102 : decode cX8_looksFrom 102 = .ok (.istore 5, 2) := by decide +kernel
theorem dX8_looksFrom_104 : decode cX8_looksFrom 104 = .ok (.aload_n 0, 1) := by decide +kernel
theorem dX8_looksFrom_105 : decode cX8_looksFrom 105 = .ok (.getfield 41, 3) := by decide +kernel
theorem dX8_looksFrom_108 : decode cX8_looksFrom 108 = .ok (.bipush 7, 2) := by decide +kernel
theorem dX8_looksFrom_110 : decode cX8_looksFrom 110 = .ok (.iload_n 3, 1) := by decide +kernel
theorem dX8_looksFrom_111 : decode cX8_looksFrom 111 = .ok (.iconst 1, 1) := by decide +kernel
theorem dX8_looksFrom_112 : decode cX8_looksFrom 112 = .ok (.iadd, 1) := by decide +kernel
theorem dX8_looksFrom_113 : decode cX8_looksFrom 113 = .ok (.imul, 1) := by decide +kernel
theorem dX8_looksFrom_114 : decode cX8_looksFrom 114 = .ok (.iload 4, 2) := by decide +kernel
theorem dX8_looksFrom_116 : decode cX8_looksFrom 116 = .ok (.iadd, 1) := by decide +kernel
theorem dX8_looksFrom_117 : decode cX8_looksFrom 117 = .ok (.iaload, 1) := by decide +kernel
theorem dX8_looksFrom_118 : decode cX8_looksFrom 118 = .ok (.istore 6, 2) := by decide +kernel
theorem dX8_looksFrom_120 : decode cX8_looksFrom 120 = .ok (.iconst 0, 1) := by decide +kernel
theorem dX8_looksFrom_121 : decode cX8_looksFrom 121 = .ok (.istore 7, 2) := by decide +kernel
theorem dX8_looksFrom_123 : decode cX8_looksFrom 123 = .ok (.iload 7, 2) := by decide +kernel
theorem dX8_looksFrom_125 : decode cX8_looksFrom 125 = .ok (.aload_n 0, 1) := by decide +kernel
theorem dX8_looksFrom_126 : decode cX8_looksFrom 126 = .ok (.getfield 94, 3) := by decide +kernel
theorem dX8_looksFrom_129 : decode cX8_looksFrom 129 = .ok (.if_icmp .ge 98, 3) := by decide +kernel
theorem dX8_looksFrom_132 : decode cX8_looksFrom 132 = .ok (.iload 7, 2) := by decide +kernel
theorem dX8_looksFrom_134 : decode cX8_looksFrom 134 = .ok (.iload 4, 2) := by decide +kernel
theorem dX8_looksFrom_136 : decode cX8_looksFrom 136 = .ok (.if_icmp .eq 85, 3) := by decide +kernel
theorem dX8_looksFrom_139 : decode cX8_looksFrom 139 = .ok (.aload_n 0, 1) := by decide +kernel
theorem dX8_looksFrom_140 : decode cX8_looksFrom 140 = .ok (.iload 4, 2) := by decide +kernel
theorem dX8_looksFrom_142 : decode cX8_looksFrom 142 = .ok (.iload 7, 2) := by decide +kernel
theorem dX8_looksFrom_144 : decode cX8_looksFrom 144 = .ok (.iload_n 2, 1) := by decide +kernel
theorem dX8_looksFrom_145 : decode cX8_looksFrom 145 = .ok (.iload_n 3, 1) := by decide +kernel
theorem dX8_looksFrom_146 : decode cX8_looksFrom 146 = .ok (.iadd, 1) := by decide +kernel
theorem dX8_looksFrom_147 : decode cX8_looksFrom 147 = .ok (.invokevirtual 223, 3) := by decide +kernel
theorem dX8_looksFrom_150 : decode cX8_looksFrom 150 = .ok (.ifCond .eq 71, 3) := by decide +kernel
theorem dX8_looksFrom_153 : decode cX8_looksFrom 153 = .ok (.aload_n 0, 1) := by decide +kernel
theorem dX8_looksFrom_154 : decode cX8_looksFrom 154 = .ok (.getfield 38, 3) := by decide +kernel
theorem dX8_looksFrom_157 : decode cX8_looksFrom 157 = .ok (.bipush 7, 2) := by decide +kernel
theorem dX8_looksFrom_159 : decode cX8_looksFrom 159 = .ok (.iload_n 3, 1) := by decide +kernel
theorem dX8_looksFrom_160 : decode cX8_looksFrom 160 = .ok (.iconst 1, 1) := by decide +kernel
theorem dX8_looksFrom_161 : decode cX8_looksFrom 161 = .ok (.iadd, 1) := by decide +kernel
theorem dX8_looksFrom_162 : decode cX8_looksFrom 162 = .ok (.imul, 1) := by decide +kernel
theorem dX8_looksFrom_163 : decode cX8_looksFrom 163 = .ok (.iload 7, 2) := by decide +kernel
theorem dX8_looksFrom_165 : decode cX8_looksFrom 165 = .ok (.iadd, 1) := by decide +kernel
theorem dX8_looksFrom_166 : decode cX8_looksFrom 166 = .ok (.iaload, 1) := by decide +kernel
theorem dX8_looksFrom_167 : decode cX8_looksFrom 167 = .ok (.iconst 1, 1) := by decide +kernel
theorem dX8_looksFrom_168 : decode cX8_looksFrom 168 = .ok (.iadd, 1) := by decide +kernel
theorem dX8_looksFrom_169 : decode cX8_looksFrom 169 = .ok (.istore 8, 2) := by decide +kernel
theorem dX8_looksFrom_171 : decode cX8_looksFrom 171 = .ok (.iload 8, 2) := by decide +kernel
theorem dX8_looksFrom_173 : decode cX8_looksFrom 173 = .ok (.iload 5, 2) := by decide +kernel
theorem dX8_looksFrom_175 : decode cX8_looksFrom 175 = .ok (.if_icmp .ge 8, 3) := by decide +kernel
theorem dX8_looksFrom_178 : decode cX8_looksFrom 178 = .ok (.iload 8, 2) := by decide +kernel
theorem dX8_looksFrom_180 : decode cX8_looksFrom 180 = .ok (.goto 5, 3) := by decide +kernel
theorem dX8_looksFrom_183 : decode cX8_looksFrom 183 = .ok (.iload 5, 2) := by decide +kernel
theorem dX8_looksFrom_185 : decode cX8_looksFrom 185 = .ok (.istore 5, 2) := by decide +kernel
theorem dX8_looksFrom_187 : decode cX8_looksFrom 187 = .ok (.aload_n 0, 1) := by decide +kernel
theorem dX8_looksFrom_188 : decode cX8_looksFrom 188 = .ok (.getfield 41, 3) := by decide +kernel
theorem dX8_looksFrom_191 : decode cX8_looksFrom 191 = .ok (.bipush 7, 2) := by decide +kernel
theorem dX8_looksFrom_193 : decode cX8_looksFrom 193 = .ok (.iload_n 3, 1) := by decide +kernel
theorem dX8_looksFrom_194 : decode cX8_looksFrom 194 = .ok (.iconst 1, 1) := by decide +kernel
theorem dX8_looksFrom_195 : decode cX8_looksFrom 195 = .ok (.iadd, 1) := by decide +kernel
theorem dX8_looksFrom_196 : decode cX8_looksFrom 196 = .ok (.imul, 1) := by decide +kernel
theorem dX8_looksFrom_197 : decode cX8_looksFrom 197 = .ok (.iload 7, 2) := by decide +kernel
theorem dX8_looksFrom_199 : decode cX8_looksFrom 199 = .ok (.iadd, 1) := by decide +kernel
theorem dX8_looksFrom_200 : decode cX8_looksFrom 200 = .ok (.iaload, 1) := by decide +kernel
theorem dX8_looksFrom_201 : decode cX8_looksFrom 201 = .ok (.iconst 1, 1) := by decide +kernel
theorem dX8_looksFrom_202 : decode cX8_looksFrom 202 = .ok (.iadd, 1) := by decide +kernel
theorem dX8_looksFrom_203 : decode cX8_looksFrom 203 = .ok (.istore 8, 2) := by decide +kernel
theorem dX8_looksFrom_205 : decode cX8_looksFrom 205 = .ok (.iload 8, 2) := by decide +kernel
theorem dX8_looksFrom_207 : decode cX8_looksFrom 207 = .ok (.iload 6, 2) := by decide +kernel
theorem dX8_looksFrom_209 : decode cX8_looksFrom 209 = .ok (.if_icmp .ge 8, 3) := by decide +kernel
theorem dX8_looksFrom_212 : decode cX8_looksFrom 212 = .ok (.iload 8, 2) := by decide +kernel
theorem dX8_looksFrom_214 : decode cX8_looksFrom 214 = .ok (.goto 5, 3) := by decide +kernel
theorem dX8_looksFrom_217 : decode cX8_looksFrom 217 = .ok (.iload 6, 2) := by decide +kernel
theorem dX8_looksFrom_219 : decode cX8_looksFrom 219 = .ok (.istore 6, 2) := by decide +kernel
theorem dX8_looksFrom_221 : decode cX8_looksFrom 221 = .ok (.iinc 7 1, 3) := by decide +kernel
theorem dX8_looksFrom_224 : decode cX8_looksFrom 224 = .ok (.goto (-101), 3) := by decide +kernel
theorem dX8_looksFrom_227 : decode cX8_looksFrom 227 = .ok (.aload_n 0, 1) := by decide +kernel
theorem dX8_looksFrom_228 : decode cX8_looksFrom 228 = .ok (.getfield 38, 3) := by decide +kernel
theorem dX8_looksFrom_231 : decode cX8_looksFrom 231 = .ok (.bipush 7, 2) := by decide +kernel
theorem dX8_looksFrom_233 : decode cX8_looksFrom 233 = .ok (.iload_n 3, 1) := by decide +kernel
theorem dX8_looksFrom_234 : decode cX8_looksFrom 234 = .ok (.imul, 1) := by decide +kernel
theorem dX8_looksFrom_235 : decode cX8_looksFrom 235 = .ok (.iload 4, 2) := by decide +kernel
theorem dX8_looksFrom_237 : decode cX8_looksFrom 237 = .ok (.iadd, 1) := by decide +kernel
theorem dX8_looksFrom_238 : decode cX8_looksFrom 238 = .ok (.iload 4, 2) := by decide +kernel
theorem dX8_looksFrom_240 : decode cX8_looksFrom 240 = .ok (.iload_n 1, 1) := by decide +kernel
theorem dX8_looksFrom_241 : decode cX8_looksFrom 241 = .ok (.if_icmp .ne 7, 3) := by decide +kernel
theorem dX8_looksFrom_244 : decode cX8_looksFrom 244 = .ok (.iconst 0, 1) := by decide +kernel
theorem dX8_looksFrom_245 : decode cX8_looksFrom 245 = .ok (.goto 17, 3) := by decide +kernel
theorem dX8_looksFrom_248 : decode cX8_looksFrom 248 = .ok (.iload 5, 2) := by decide +kernel
theorem dX8_looksFrom_250 : decode cX8_looksFrom 250 = .ok (.ldc 240, 2) := by decide +kernel
theorem dX8_looksFrom_252 : decode cX8_looksFrom 252 = .ok (.if_icmp .ge 8, 3) := by decide +kernel
theorem dX8_looksFrom_255 : decode cX8_looksFrom 255 = .ok (.iload 5, 2) := by decide +kernel
theorem dX8_looksFrom_257 : decode cX8_looksFrom 257 = .ok (.goto 5, 3) := by decide +kernel
theorem dX8_looksFrom_260 : decode cX8_looksFrom 260 = .ok (.ldc 240, 2) := by decide +kernel
theorem dX8_looksFrom_262 : decode cX8_looksFrom 262 = .ok (.iastore, 1) := by decide +kernel
theorem dX8_looksFrom_263 : decode cX8_looksFrom 263 = .ok (.aload_n 0, 1) := by decide +kernel
theorem dX8_looksFrom_264 : decode cX8_looksFrom 264 = .ok (.getfield 41, 3) := by decide +kernel
theorem dX8_looksFrom_267 : decode cX8_looksFrom 267 = .ok (.bipush 7, 2) := by decide +kernel
theorem dX8_looksFrom_269 : decode cX8_looksFrom 269 = .ok (.iload_n 3, 1) := by decide +kernel
theorem dX8_looksFrom_270 : decode cX8_looksFrom 270 = .ok (.imul, 1) := by decide +kernel
theorem dX8_looksFrom_271 : decode cX8_looksFrom 271 = .ok (.iload 4, 2) := by decide +kernel
theorem dX8_looksFrom_273 : decode cX8_looksFrom 273 = .ok (.iadd, 1) := by decide +kernel
theorem dX8_looksFrom_274 : decode cX8_looksFrom 274 = .ok (.iload 4, 2) := by decide +kernel
theorem dX8_looksFrom_276 : decode cX8_looksFrom 276 = .ok (.iload_n 1, 1) := by decide +kernel
theorem dX8_looksFrom_277 : decode cX8_looksFrom 277 = .ok (.if_icmp .ne 7, 3) := by decide +kernel
theorem dX8_looksFrom_280 : decode cX8_looksFrom 280 = .ok (.iconst 0, 1) := by decide +kernel
theorem dX8_looksFrom_281 : decode cX8_looksFrom 281 = .ok (.goto 17, 3) := by decide +kernel
theorem dX8_looksFrom_284 : decode cX8_looksFrom 284 = .ok (.iload 6, 2) := by decide +kernel
theorem dX8_looksFrom_286 : decode cX8_looksFrom 286 = .ok (.ldc 240, 2) := by decide +kernel
theorem dX8_looksFrom_288 : decode cX8_looksFrom 288 = .ok (.if_icmp .ge 8, 3) := by decide +kernel
theorem dX8_looksFrom_291 : decode cX8_looksFrom 291 = .ok (.iload 6, 2) := by decide +kernel
theorem dX8_looksFrom_293 : decode cX8_looksFrom 293 = .ok (.goto 5, 3) := by decide +kernel
theorem dX8_looksFrom_296 : decode cX8_looksFrom 296 = .ok (.ldc 240, 2) := by decide +kernel
theorem dX8_looksFrom_298 : decode cX8_looksFrom 298 = .ok (.iastore, 1) := by decide +kernel
theorem dX8_looksFrom_299 : decode cX8_looksFrom 299 = .ok (.iinc 4 1, 3) := by decide +kernel
theorem dX8_looksFrom_302 : decode cX8_looksFrom 302 = .ok (.goto (-225), 3) := by decide +kernel
theorem dX8_looksFrom_305 : decode cX8_looksFrom 305 = .ok (.iinc 3 (-1), 3) := by decide +kernel
theorem dX8_looksFrom_308 : decode cX8_looksFrom 308 = .ok (.goto (-238), 3) := by decide +kernel
theorem dX8_looksFrom_311 : decode cX8_looksFrom 311 = .ok (.return_, 1) := by decide +kernel
set_option maxRecDepth 20000 in
theorem ggX8_soonest_X8_isPq : GoodIn wsX8_soonest wsX8_isPq := goodIn_r _ [7, 8, 9, 10, 6, 11, 12, 13, 14, 15, 103, 104, 105, 106, 107, 108, 109, 110, 111, 112, 113, 114, 115, 116, 117, 118, 119, 120, 121, 122, 123, 124, 125, 126, 127, 128, 129, 130, 131, 132, 133, 134, 135, 136, 137, 138, 139, 140, 141, 142, 143, 144, 145, 146, 147, 148, 149, 150] (by decide +kernel) (by decide +kernel)
set_option maxRecDepth 20000 in
theorem gX8_soonest_X8_isPq : GoodIn wsX8_soonest (wsV RX8 220 RX8 yX8_isPq wsX8_isPq) := goodIn_app (goodIn_of _ (by decide +kernel)) ggX8_soonest_X8_isPq
set_option maxRecDepth 20000 in
theorem ggX8_soonest_X8_isStep : GoodIn wsX8_soonest wsX8_isStep := goodIn_r _ [18, 19, 13, 14, 6, 15] (by decide +kernel) (by decide +kernel)
set_option maxRecDepth 20000 in
theorem gX8_soonest_X8_isStep : GoodIn wsX8_soonest (va_wsS RX8 153 yX8_isStep wsX8_isStep) := goodIn_app (goodIn_of _ (by decide +kernel)) ggX8_soonest_X8_isStep
set_option maxRecDepth 20000 in
theorem ggX8_soonest_X8_looksFrom : GoodIn wsX8_soonest wsX8_looksFrom := goodIn_r _ [23, 12, 1, 2, 24, 25, 26, 27, 6, 28, 29, 30, 31, 32, 33, 34, 35, 36, 37, 38, 39, 40, 41, 42, 43, 44, 45, 46, 47, 48, 49, 50, 51, 52, 53, 54, 55, 56, 57, 58, 59, 60, 61, 62, 63, 64, 65, 66, 67, 68, 69, 70, 71, 72, 73, 74, 75, 76, 77, 78, 79, 80, 81, 82, 83, 84, 85, 86, 87, 88, 89, 90, 91, 92, 93, 94, 95, 96, 97, 98, 99, 100, 101, 102, 103, 104, 105, 106, 107, 108, 109, 110, 111, 112, 113, 114, 115, 116, 117, 118, 119, 120, 121, 122, 123, 124, 125, 126, 127, 128, 129, 130, 131, 132, 133, 134, 135, 136, 137, 138, 139, 140, 141, 142, 143, 144, 145, 146, 147, 148, 149, 150] (by decide +kernel) (by decide +kernel)
set_option maxRecDepth 20000 in
theorem gX8_soonest_X8_looksFrom : GoodIn wsX8_soonest (wsV RX8 241 RX8 yX8_looksFrom wsX8_looksFrom) := goodIn_app (goodIn_of _ (by decide +kernel)) ggX8_soonest_X8_looksFrom
theorem dX8_soonest_0 : decode cX8_soonest 0 = .ok (.aload_n 0, 1) := by decide +kernel
theorem dX8_soonest_1 : decode cX8_soonest 1 = .ok (.iload_n 1, 1) := by decide +kernel
theorem dX8_soonest_2 : decode cX8_soonest 2 = .ok (.invokevirtual 220, 3) := by decide +kernel
theorem dX8_soonest_5 : decode cX8_soonest 5 = .ok (.ifCond .eq 10, 3) := by decide +kernel
theorem dX8_soonest_8 : decode cX8_soonest 8 = .ok (.iload_n 2, 1) := by decide +kernel
theorem dX8_soonest_9 : decode cX8_soonest 9 = .ok (.invokestatic 153, 3) := by decide +kernel
theorem dX8_soonest_12 : decode cX8_soonest 12 = .ok (.ifCond .ne 5, 3) := by decide +kernel
theorem dX8_soonest_15 : decode cX8_soonest 15 = .ok (.iconst (-1), 1) := by decide +kernel
theorem dX8_soonest_16 : decode cX8_soonest 16 = .ok (.ireturn, 1) := by decide +kernel
theorem dX8_soonest_17 : decode cX8_soonest 17 = .ok (.aload_n 0, 1) := by decide +kernel
theorem dX8_soonest_18 : decode cX8_soonest 18 = .ok (.iload_n 1, 1) := by decide +kernel
theorem dX8_soonest_19 : decode cX8_soonest 19 = .ok (.bipush 10, 2) := by decide +kernel
theorem dX8_soonest_21 : decode cX8_soonest 21 = .ok (.irem, 1) := by decide +kernel
theorem dX8_soonest_22 : decode cX8_soonest 22 = .ok (.iload_n 2, 1) := by decide +kernel
theorem dX8_soonest_23 : decode cX8_soonest 23 = .ok (.invokevirtual 241, 3) := by decide +kernel
theorem dX8_soonest_26 : decode cX8_soonest 26 = .ok (.aload_n 0, 1) := by decide +kernel
theorem dX8_soonest_27 : decode cX8_soonest 27 = .ok (.getfield 38, 3) := by decide +kernel
theorem dX8_soonest_30 : decode cX8_soonest 30 = .ok (.iload_n 1, 1) := by decide +kernel
theorem dX8_soonest_31 : decode cX8_soonest 31 = .ok (.bipush 10, 2) := by decide +kernel
theorem dX8_soonest_33 : decode cX8_soonest 33 = .ok (.idiv, 1) := by decide +kernel
theorem dX8_soonest_34 : decode cX8_soonest 34 = .ok (.iaload, 1) := by decide +kernel
theorem dX8_soonest_35 : decode cX8_soonest 35 = .ok (.istore_n 3, 1) := by decide +kernel
theorem dX8_soonest_36 : decode cX8_soonest 36 = .ok (.iload_n 3, 1) := by decide +kernel
theorem dX8_soonest_37 : decode cX8_soonest 37 = .ok (.ldc 240, 2) := by decide +kernel
theorem dX8_soonest_39 : decode cX8_soonest 39 = .ok (.if_icmp .ge 7, 3) := by decide +kernel
theorem dX8_soonest_42 : decode cX8_soonest 42 = .ok (.iload_n 3, 1) := by decide +kernel
theorem dX8_soonest_43 : decode cX8_soonest 43 = .ok (.goto 5, 3) := by decide +kernel
theorem dX8_soonest_46 : decode cX8_soonest 46 = .ok (.bipush (-2), 2) := by decide +kernel
theorem dX8_soonest_48 : decode cX8_soonest 48 = .ok (.ireturn, 1) := by decide +kernel
set_option maxRecDepth 20000 in
theorem ggX8_hands_X8_isPq : GoodIn wsX8_hands wsX8_isPq := goodIn_r _ [7, 8, 9, 10, 6, 11, 12, 13, 14, 15, 103, 104, 105, 106, 107, 108, 109, 110, 111, 112, 113, 114, 115, 116, 117, 118, 119, 120, 121, 122, 123, 124, 125, 126, 127, 128, 129, 130, 131, 132, 133, 134, 135, 136, 137, 138, 139, 140, 141, 142, 143, 144, 145, 146, 147, 148, 149, 150] (by decide +kernel) (by decide +kernel)
set_option maxRecDepth 20000 in
theorem gX8_hands_X8_isPq : GoodIn wsX8_hands (wsV RX8 220 RX8 yX8_isPq wsX8_isPq) := goodIn_app (goodIn_of _ (by decide +kernel)) ggX8_hands_X8_isPq
set_option maxRecDepth 20000 in
theorem ggX8_hands_X8_isStep : GoodIn wsX8_hands wsX8_isStep := goodIn_r _ [18, 19, 13, 14, 6, 15] (by decide +kernel) (by decide +kernel)
set_option maxRecDepth 20000 in
theorem gX8_hands_X8_isStep : GoodIn wsX8_hands (va_wsS RX8 153 yX8_isStep wsX8_isStep) := goodIn_app (goodIn_of _ (by decide +kernel)) ggX8_hands_X8_isStep
set_option maxRecDepth 20000 in
theorem ggX8_hands_X8_looksFrom : GoodIn wsX8_hands wsX8_looksFrom := goodIn_r _ [23, 12, 24, 2, 1, 25, 26, 27, 6, 28, 29, 30, 31, 32, 33, 34, 35, 36, 37, 38, 39, 40, 41, 42, 43, 44, 45, 46, 47, 48, 49, 50, 51, 52, 53, 54, 55, 56, 57, 58, 59, 60, 61, 62, 63, 64, 65, 66, 67, 68, 69, 70, 71, 72, 73, 74, 75, 76, 77, 78, 79, 80, 81, 82, 83, 84, 85, 86, 87, 88, 89, 90, 91, 92, 93, 94, 95, 96, 97, 98, 99, 100, 101, 102, 103, 104, 105, 106, 107, 108, 109, 110, 111, 112, 113, 114, 115, 116, 117, 118, 119, 120, 121, 122, 123, 124, 125, 126, 127, 128, 129, 130, 131, 132, 133, 134, 135, 136, 137, 138, 139, 140, 141, 142, 143, 144, 145, 146, 147, 148, 149, 150] (by decide +kernel) (by decide +kernel)
set_option maxRecDepth 20000 in
theorem gX8_hands_X8_looksFrom : GoodIn wsX8_hands (wsV RX8 241 RX8 yX8_looksFrom wsX8_looksFrom) := goodIn_app (goodIn_of _ (by decide +kernel)) ggX8_hands_X8_looksFrom
theorem dX8_hands_0 : decode cX8_hands 0 = .ok (.aload_n 0, 1) := by decide +kernel
theorem dX8_hands_1 : decode cX8_hands 1 = .ok (.iload_n 1, 1) := by decide +kernel
theorem dX8_hands_2 : decode cX8_hands 2 = .ok (.invokevirtual 220, 3) := by decide +kernel
theorem dX8_hands_5 : decode cX8_hands 5 = .ok (.ifCond .eq 10, 3) := by decide +kernel
theorem dX8_hands_8 : decode cX8_hands 8 = .ok (.iload_n 2, 1) := by decide +kernel
theorem dX8_hands_9 : decode cX8_hands 9 = .ok (.invokestatic 153, 3) := by decide +kernel
theorem dX8_hands_12 : decode cX8_hands 12 = .ok (.ifCond .ne 5, 3) := by decide +kernel
theorem dX8_hands_15 : decode cX8_hands 15 = .ok (.iconst (-1), 1) := by decide +kernel
theorem dX8_hands_16 : decode cX8_hands 16 = .ok (.ireturn, 1) := by decide +kernel
theorem dX8_hands_17 : decode cX8_hands 17 = .ok (.aload_n 0, 1) := by decide +kernel
theorem dX8_hands_18 : decode cX8_hands 18 = .ok (.iload_n 1, 1) := by decide +kernel
theorem dX8_hands_19 : decode cX8_hands 19 = .ok (.bipush 10, 2) := by decide +kernel
theorem dX8_hands_21 : decode cX8_hands 21 = .ok (.irem, 1) := by decide +kernel
theorem dX8_hands_22 : decode cX8_hands 22 = .ok (.iload_n 2, 1) := by decide +kernel
theorem dX8_hands_23 : decode cX8_hands 23 = .ok (.invokevirtual 241, 3) := by decide +kernel
theorem dX8_hands_26 : decode cX8_hands 26 = .ok (.aload_n 0, 1) := by decide +kernel
theorem dX8_hands_27 : decode cX8_hands 27 = .ok (.getfield 41, 3) := by decide +kernel
theorem dX8_hands_30 : decode cX8_hands 30 = .ok (.iload_n 1, 1) := by decide +kernel
theorem dX8_hands_31 : decode cX8_hands 31 = .ok (.bipush 10, 2) := by decide +kernel
theorem dX8_hands_33 : decode cX8_hands 33 = .ok (.idiv, 1) := by decide +kernel
theorem dX8_hands_34 : decode cX8_hands 34 = .ok (.iaload, 1) := by decide +kernel
theorem dX8_hands_35 : decode cX8_hands 35 = .ok (.istore_n 3, 1) := by decide +kernel
theorem dX8_hands_36 : decode cX8_hands 36 = .ok (.iload_n 3, 1) := by decide +kernel
theorem dX8_hands_37 : decode cX8_hands 37 = .ok (.ldc 240, 2) := by decide +kernel
theorem dX8_hands_39 : decode cX8_hands 39 = .ok (.if_icmp .ge 7, 3) := by decide +kernel
theorem dX8_hands_42 : decode cX8_hands 42 = .ok (.iload_n 3, 1) := by decide +kernel
theorem dX8_hands_43 : decode cX8_hands 43 = .ok (.goto 5, 3) := by decide +kernel
theorem dX8_hands_46 : decode cX8_hands 46 = .ok (.bipush (-2), 2) := by decide +kernel
theorem dX8_hands_48 : decode cX8_hands 48 = .ok (.ireturn, 1) := by decide +kernel
set_option maxRecDepth 20000 in
theorem ggX8_wayTo_X8_sawAt : GoodIn wsX8_wayTo wsX8_sawAt := goodIn_r _ [9, 10, 11, 16, 17, 18, 19, 20, 21, 22, 23, 24, 25, 26, 27, 28, 29, 30, 31, 32, 33, 34, 35, 36, 37, 38, 39, 40, 41, 42, 43, 44, 45, 46, 47, 48, 49, 50, 51, 52, 53, 54, 55, 56, 57, 58, 59, 60, 61, 62, 63] (by decide +kernel) (by decide +kernel)
set_option maxRecDepth 20000 in
theorem gX8_wayTo_X8_sawAt : GoodIn wsX8_wayTo (wsV RX8 223 RX8 yX8_sawAt wsX8_sawAt) := goodIn_app (goodIn_of _ (by decide +kernel)) ggX8_wayTo_X8_sawAt
set_option maxRecDepth 20000 in
theorem ggX8_wayTo_X8_nextOf : GoodIn wsX8_wayTo wsX8_nextOf := goodIn_r _ [15, 2, 3, 5, 6, 7, 8, 9, 10, 11, 16, 17, 18, 19, 20, 21, 22, 23, 24, 25, 26, 27, 28, 29, 30, 31, 32, 33, 34, 35, 36, 37, 38, 39, 40, 41, 42, 43, 44, 45, 46, 47, 48, 49, 50, 51, 52, 53, 54, 55, 56, 57, 58, 59, 60, 61, 62, 63] (by decide +kernel) (by decide +kernel)
set_option maxRecDepth 20000 in
theorem gX8_wayTo_X8_nextOf : GoodIn wsX8_wayTo (wsV RX8 245 RX8 yX8_nextOf wsX8_nextOf) := goodIn_app (goodIn_of _ (by decide +kernel)) ggX8_wayTo_X8_nextOf
theorem dX8_wayTo_0 : decode cX8_wayTo 0 = .ok (.aload_n 0, 1) := by decide +kernel
theorem dX8_wayTo_1 : decode cX8_wayTo 1 = .ok (.getfield 38, 3) := by decide +kernel
theorem dX8_wayTo_4 : decode cX8_wayTo 4 = .ok (.iload_n 1, 1) := by decide +kernel
theorem dX8_wayTo_5 : decode cX8_wayTo 5 = .ok (.iaload, 1) := by decide +kernel
theorem dX8_wayTo_6 : decode cX8_wayTo 6 = .ok (.istore 5, 2) := by decide +kernel
theorem dX8_wayTo_8 : decode cX8_wayTo 8 = .ok (.iconst 0, 1) := by decide +kernel
theorem dX8_wayTo_9 : decode cX8_wayTo 9 = .ok (.istore 6, 2) := by decide +kernel
theorem dX8_wayTo_11 : decode cX8_wayTo 11 = .ok (.iload 6, 2) := by decide +kernel
theorem dX8_wayTo_13 : decode cX8_wayTo 13 = .ok (.aload_n 0, 1) := by decide +kernel
theorem dX8_wayTo_14 : decode cX8_wayTo 14 = .ok (.getfield 94, 3) := by decide +kernel
theorem dX8_wayTo_17 : decode cX8_wayTo 17 = .ok (.if_icmp .ge 34, 3) := by decide +kernel
theorem dX8_wayTo_20 : decode cX8_wayTo 20 = .ok (.aload_n 0, 1) := by decide +kernel
theorem dX8_wayTo_21 : decode cX8_wayTo 21 = .ok (.getfield 44, 3) := by decide +kernel
theorem dX8_wayTo_24 : decode cX8_wayTo 24 = .ok (.bipush 7, 2) := by decide +kernel
theorem dX8_wayTo_26 : decode cX8_wayTo 26 = .ok (.iload 5, 2) := by decide +kernel
theorem dX8_wayTo_28 : decode cX8_wayTo 28 = .ok (.imul, 1) := by decide +kernel
theorem dX8_wayTo_29 : decode cX8_wayTo 29 = .ok (.iload 6, 2) := by decide +kernel
theorem dX8_wayTo_31 : decode cX8_wayTo 31 = .ok (.iadd, 1) := by decide +kernel
theorem dX8_wayTo_32 : decode cX8_wayTo 32 = .ok (.iload 6, 2) := by decide +kernel
theorem dX8_wayTo_34 : decode cX8_wayTo 34 = .ok (.iload_n 2, 1) := by decide +kernel
theorem dX8_wayTo_35 : decode cX8_wayTo 35 = .ok (.if_icmp .ne 7, 3) := by decide +kernel
theorem dX8_wayTo_38 : decode cX8_wayTo 38 = .ok (.iconst 0, 1) := by decide +kernel
theorem dX8_wayTo_39 : decode cX8_wayTo 39 = .ok (.goto 5, 3) := by decide +kernel
theorem dX8_wayTo_42 : decode cX8_wayTo 42 = .ok (.ldc 240, 2) := by decide +kernel
theorem dX8_wayTo_44 : decode cX8_wayTo 44 = .ok (.iastore, 1) := by decide +kernel
theorem dX8_wayTo_45 : decode cX8_wayTo 45 = .ok (.iinc 6 1, 3) := by decide +kernel
theorem dX8_wayTo_48 : decode cX8_wayTo 48 = .ok (.goto (-37), 3) := by decide +kernel
theorem dX8_wayTo_51 : decode cX8_wayTo 51 = .ok (.iload 5, 2) := by decide +kernel
theorem dX8_wayTo_53 : decode cX8_wayTo 53 = .ok (.iconst 1, 1) := by decide +kernel
theorem dX8_wayTo_54 : decode cX8_wayTo 54 = .ok (.isub, 1) := by decide +kernel
theorem dX8_wayTo_55 : decode cX8_wayTo 55 = .ok (.istore 6, 2) := by decide +kernel
theorem dX8_wayTo_57 : decode cX8_wayTo 57 = .ok (.iload 6, 2) := by decide +kernel
theorem dX8_wayTo_59 : decode cX8_wayTo 59 = .ok (.ifCond .lt 139, 3) := by decide +kernel
theorem dX8_wayTo_62 : decode cX8_wayTo 62 = .ok (.iconst 0, 1) := by decide +kernel
theorem dX8_wayTo_63 : decode cX8_wayTo 63 = .ok (.istore 7, 2) := by decide +kernel
theorem dX8_wayTo_65 : decode cX8_wayTo 65 = .ok (.iload 7, 2) := by decide +kernel
theorem dX8_wayTo_67 : decode cX8_wayTo 67 = .ok (.aload_n 0, 1) := by decide +kernel
theorem dX8_wayTo_68 : decode cX8_wayTo 68 = .ok (.getfield 94, 3) := by decide +kernel
theorem dX8_wayTo_71 : decode cX8_wayTo 71 = .ok (.if_icmp .ge 121, 3) := by decide +kernel
theorem dX8_wayTo_74 : decode cX8_wayTo 74 = .ok (.aload_n 0, 1) := by decide +kernel
theorem dX8_wayTo_75 : decode cX8_wayTo 75 = .ok (.getfield 44, 3) := by decide +kernel
theorem dX8_wayTo_78 : decode cX8_wayTo 78 = .ok (.bipush 7, 2) := by decide +kernel
theorem dX8_wayTo_80 : decode cX8_wayTo 80 = .ok (.iload 6, 2) := by decide +kernel
theorem dX8_wayTo_82 : decode cX8_wayTo 82 = .ok (.iconst 1, 1) := by decide +kernel
theorem dX8_wayTo_83 : decode cX8_wayTo 83 = .ok (.iadd, 1) := by decide +kernel
theorem dX8_wayTo_84 : decode cX8_wayTo 84 = .ok (.imul, 1) := by decide +kernel
theorem dX8_wayTo_85 : decode cX8_wayTo 85 = .ok (.iload 7, 2) := by decide +kernel
theorem dX8_wayTo_87 : decode cX8_wayTo 87 = .ok (.iadd, 1) := by decide +kernel
theorem dX8_wayTo_88 : decode cX8_wayTo 88 = .ok (.iaload, 1) := by decide +kernel
theorem dX8_wayTo_89 : decode cX8_wayTo 89 = .ok (.istore 8, 2) := by decide +kernel
theorem dX8_wayTo_91 : decode cX8_wayTo 91 = .ok (.iconst 0, 1) := by decide +kernel
theorem dX8_wayTo_92 : decode cX8_wayTo 92 = .ok (.istore 9, 2) := by decide +kernel
theorem dX8_wayTo_94 : decode cX8_wayTo 94 = .ok (.iload 9, 2) := by decide +kernel
theorem dX8_wayTo_96 : decode cX8_wayTo 96 = .ok (.aload_n 0, 1) := by decide +kernel
theorem dX8_wayTo_97 : decode cX8_wayTo 97 = .ok (.getfield 94, 3) := by decide +kernel
theorem dX8_wayTo_100 : decode cX8_wayTo 100 = .ok (.if_icmp .ge 71, 3) := by decide +kernel
theorem dX8_wayTo_103 : decode cX8_wayTo 103 = .ok (.iload 9, 2) := by decide +kernel
theorem dX8_wayTo_105 : decode cX8_wayTo 105 = .ok (.iload 7, 2) := by decide +kernel
theorem dX8_wayTo_107 : decode cX8_wayTo 107 = .ok (.if_icmp .eq 38, 3) := by decide +kernel
theorem dX8_wayTo_110 : decode cX8_wayTo 110 = .ok (.aload_n 0, 1) := by decide +kernel
theorem dX8_wayTo_111 : decode cX8_wayTo 111 = .ok (.iload 7, 2) := by decide +kernel
theorem dX8_wayTo_113 : decode cX8_wayTo 113 = .ok (.iload 9, 2) := by decide +kernel
theorem dX8_wayTo_115 : decode cX8_wayTo 115 = .ok (.iload_n 3, 1) := by decide +kernel
theorem dX8_wayTo_116 : decode cX8_wayTo 116 = .ok (.iload 6, 2) := by decide +kernel
theorem dX8_wayTo_118 : decode cX8_wayTo 118 = .ok (.iadd, 1) := by decide +kernel
theorem dX8_wayTo_119 : decode cX8_wayTo 119 = .ok (.invokevirtual 223, 3) := by decide +kernel
theorem dX8_wayTo_122 : decode cX8_wayTo 122 = .ok (.ifCond .eq 23, 3) := by decide +kernel
theorem dX8_wayTo_125 : decode cX8_wayTo 125 = .ok (.aload_n 0, 1) := by decide +kernel
theorem dX8_wayTo_126 : decode cX8_wayTo 126 = .ok (.getfield 44, 3) := by decide +kernel
theorem dX8_wayTo_129 : decode cX8_wayTo 129 = .ok (.bipush 7, 2) := by decide +kernel
theorem dX8_wayTo_131 : decode cX8_wayTo 131 = .ok (.iload 6, 2) := by decide +kernel
theorem dX8_wayTo_133 : decode cX8_wayTo 133 = .ok (.iconst 1, 1) := by decide +kernel
theorem dX8_wayTo_134 : decode cX8_wayTo 134 = .ok (.iadd, 1) := by decide +kernel
theorem dX8_wayTo_135 : decode cX8_wayTo 135 = .ok (.imul, 1) := by decide +kernel
theorem dX8_wayTo_136 : decode cX8_wayTo 136 = .ok (.iload 9, 2) := by decide +kernel
theorem dX8_wayTo_138 : decode cX8_wayTo 138 = .ok (.iadd, 1) := by decide +kernel
theorem dX8_wayTo_139 : decode cX8_wayTo 139 = .ok (.iaload, 1) := by decide +kernel
theorem dX8_wayTo_140 : decode cX8_wayTo 140 = .ok (.iconst 1, 1) := by decide +kernel
theorem dX8_wayTo_141 : decode cX8_wayTo 141 = .ok (.iadd, 1) := by decide +kernel
theorem dX8_wayTo_142 : decode cX8_wayTo 142 = .ok (.goto 5, 3) := by decide +kernel
theorem dX8_wayTo_145 : decode cX8_wayTo 145 = .ok (.ldc 240, 2) := by decide +kernel
theorem dX8_wayTo_147 : decode cX8_wayTo 147 = .ok (.istore 10, 2) := by decide +kernel
theorem dX8_wayTo_149 : decode cX8_wayTo 149 = .ok (.iload 10, 2) := by decide +kernel
theorem dX8_wayTo_151 : decode cX8_wayTo 151 = .ok (.iload 8, 2) := by decide +kernel
theorem dX8_wayTo_153 : decode cX8_wayTo 153 = .ok (.if_icmp .ge 8, 3) := by decide +kernel
theorem dX8_wayTo_156 : decode cX8_wayTo 156 = .ok (.iload 10, 2) := by decide +kernel
theorem dX8_wayTo_158 : decode cX8_wayTo 158 = .ok (.goto 5, 3) := by decide +kernel
theorem dX8_wayTo_161 : decode cX8_wayTo 161 = .ok (.iload 8, 2) := by decide +kernel
theorem dX8_wayTo_163 : decode cX8_wayTo 163 = .ok (.istore 8, 2) := by decide +kernel
theorem dX8_wayTo_165 : decode cX8_wayTo 165 = .ok (.iinc 9 1, 3) := by decide +kernel
theorem dX8_wayTo_168 : decode cX8_wayTo 168 = .ok (.goto (-74), 3) := by decide +kernel
theorem dX8_wayTo_171 : decode cX8_wayTo 171 = .ok (.aload_n 0, 1) := by decide +kernel
theorem dX8_wayTo_172 : decode cX8_wayTo 172 = .ok (.getfield 44, 3) := by decide +kernel
theorem dX8_wayTo_175 : decode cX8_wayTo 175 = .ok (.bipush 7, 2) := by decide +kernel
theorem dX8_wayTo_177 : decode cX8_wayTo 177 = .ok (.iload 6, 2) := by decide +kernel
theorem dX8_wayTo_179 : decode cX8_wayTo 179 = .ok (.imul, 1) := by decide +kernel
theorem dX8_wayTo_180 : decode cX8_wayTo 180 = .ok (.iload 7, 2) := by decide +kernel
theorem dX8_wayTo_182 : decode cX8_wayTo 182 = .ok (.iadd, 1) := by decide +kernel
theorem dX8_wayTo_183 : decode cX8_wayTo 183 = .ok (.iload 8, 2) := by decide +kernel
theorem dX8_wayTo_185 : decode cX8_wayTo 185 = .ok (.iastore, 1) := by decide +kernel
theorem dX8_wayTo_186 : decode cX8_wayTo 186 = .ok (.iinc 7 1, 3) := by decide +kernel
theorem dX8_wayTo_189 : decode cX8_wayTo 189 = .ok (.goto (-124), 3) := by decide +kernel
theorem dX8_wayTo_192 : decode cX8_wayTo 192 = .ok (.iinc 6 (-1), 3) := by decide +kernel
theorem dX8_wayTo_195 : decode cX8_wayTo 195 = .ok (.goto (-138), 3) := by decide +kernel
theorem dX8_wayTo_198 : decode cX8_wayTo 198 = .ok (.iload_n 1, 1) := by decide +kernel
theorem dX8_wayTo_199 : decode cX8_wayTo 199 = .ok (.istore 6, 2) := by decide +kernel
theorem dX8_wayTo_201 : decode cX8_wayTo 201 = .ok (.iconst 0, 1) := by decide +kernel
theorem dX8_wayTo_202 : decode cX8_wayTo 202 = .ok (.istore 7, 2) := by decide +kernel
theorem dX8_wayTo_204 : decode cX8_wayTo 204 = .ok (.iload 7, 2) := by decide +kernel
theorem dX8_wayTo_206 : decode cX8_wayTo 206 = .ok (.iload 4, 2) := by decide +kernel
theorem dX8_wayTo_208 : decode cX8_wayTo 208 = .ok (.if_icmp .ge 20, 3) := by decide +kernel
theorem dX8_wayTo_211 : decode cX8_wayTo 211 = .ok (.aload_n 0, 1) := by decide +kernel
theorem dX8_wayTo_212 : decode cX8_wayTo 212 = .ok (.iload 6, 2) := by decide +kernel
theorem dX8_wayTo_214 : decode cX8_wayTo 214 = .ok (.iload_n 3, 1) := by decide +kernel
theorem dX8_wayTo_215 : decode cX8_wayTo 215 = .ok (.iload 7, 2) := by decide +kernel
theorem dX8_wayTo_217 : decode cX8_wayTo 217 = .ok (.invokevirtual 245, 3) := by decide +kernel
theorem dX8_wayTo_220 : decode cX8_wayTo 220 = .ok (.istore 6, 2) := by decide +kernel
theorem dX8_wayTo_222 : decode cX8_wayTo 222 = .ok (.iinc 7 1, 3) := by decide +kernel
theorem dX8_wayTo_225 : decode cX8_wayTo 225 = .ok (.goto (-21), 3) := by decide +kernel
theorem dX8_wayTo_228 : decode cX8_wayTo 228 = .ok (.iload 6, 2) := by decide +kernel
theorem dX8_wayTo_230 : decode cX8_wayTo 230 = .ok (.ireturn, 1) := by decide +kernel
set_option maxRecDepth 20000 in
theorem ggX8_nextOf_X8_sawAt : GoodIn wsX8_nextOf wsX8_sawAt := goodIn_r _ [7, 8, 9, 10, 11, 12, 13, 14, 15, 16, 17, 18, 19, 20, 21, 22, 23, 24, 25, 26, 27, 28, 29, 30, 31, 32, 33, 34, 35, 36, 37, 38, 39, 40, 41, 42, 43, 44, 45, 46, 47, 48, 49, 50, 51, 52, 53, 54, 55, 56, 57] (by decide +kernel) (by decide +kernel)
set_option maxRecDepth 20000 in
theorem gX8_nextOf_X8_sawAt : GoodIn wsX8_nextOf (wsV RX8 223 RX8 yX8_sawAt wsX8_sawAt) := goodIn_app (goodIn_of _ (by decide +kernel)) ggX8_nextOf_X8_sawAt
theorem dX8_nextOf_0 : decode cX8_nextOf 0 = .ok (.iconst 0, 1) := by decide +kernel
theorem dX8_nextOf_1 : decode cX8_nextOf 1 = .ok (.istore 4, 2) := by decide +kernel
theorem dX8_nextOf_3 : decode cX8_nextOf 3 = .ok (.iload 4, 2) := by decide +kernel
theorem dX8_nextOf_5 : decode cX8_nextOf 5 = .ok (.aload_n 0, 1) := by decide +kernel
theorem dX8_nextOf_6 : decode cX8_nextOf 6 = .ok (.getfield 94, 3) := by decide +kernel
theorem dX8_nextOf_9 : decode cX8_nextOf 9 = .ok (.if_icmp .ge 87, 3) := by decide +kernel
theorem dX8_nextOf_12 : decode cX8_nextOf 12 = .ok (.iload 4, 2) := by decide +kernel
theorem dX8_nextOf_14 : decode cX8_nextOf 14 = .ok (.iload_n 1, 1) := by decide +kernel
theorem dX8_nextOf_15 : decode cX8_nextOf 15 = .ok (.if_icmp .eq 16, 3) := by decide +kernel
theorem dX8_nextOf_18 : decode cX8_nextOf 18 = .ok (.aload_n 0, 1) := by decide +kernel
theorem dX8_nextOf_19 : decode cX8_nextOf 19 = .ok (.iload_n 1, 1) := by decide +kernel
theorem dX8_nextOf_20 : decode cX8_nextOf 20 = .ok (.iload 4, 2) := by decide +kernel
theorem dX8_nextOf_22 : decode cX8_nextOf 22 = .ok (.iload_n 2, 1) := by decide +kernel
theorem dX8_nextOf_23 : decode cX8_nextOf 23 = .ok (.iload_n 3, 1) := by decide +kernel
theorem dX8_nextOf_24 : decode cX8_nextOf 24 = .ok (.iadd, 1) := by decide +kernel
theorem dX8_nextOf_25 : decode cX8_nextOf 25 = .ok (.invokevirtual 223, 3) := by decide +kernel
theorem dX8_nextOf_28 : decode cX8_nextOf 28 = .ok (.ifCond .eq 7, 3) := by decide +kernel
theorem dX8_nextOf_31 : decode cX8_nextOf 31 = .ok (.iconst 1, 1) := by decide +kernel
theorem dX8_nextOf_32 : decode cX8_nextOf 32 = .ok (.goto 4, 3) := by decide +kernel
theorem dX8_nextOf_35 : decode cX8_nextOf 35 = .ok (.iconst 0, 1) := by decide +kernel
theorem dX8_nextOf_36 : decode cX8_nextOf 36 = .ok (.istore 5, 2) := by decide +kernel
theorem dX8_nextOf_38 : decode cX8_nextOf 38 = .ok (.iload 4, 2) := by decide +kernel
theorem dX8_nextOf_40 : decode cX8_nextOf 40 = .ok (.iload_n 1, 1) := by decide +kernel
theorem dX8_nextOf_41 : decode cX8_nextOf 41 = .ok (.if_icmp .ne 7, 3) := by decide +kernel
theorem dX8_nextOf_44 : decode cX8_nextOf 44 = .ok (.iconst 0, 1) := by decide +kernel
theorem dX8_nextOf_45 : decode cX8_nextOf 45 = .ok (.goto 4, 3) := by decide +kernel
theorem dX8_nextOf_48 : decode cX8_nextOf 48 = .ok (.iconst 1, 1) := by decide +kernel
theorem dX8_nextOf_49 : decode cX8_nextOf 49 = .ok (.istore 6, 2) := by decide +kernel
theorem dX8_nextOf_51 : decode cX8_nextOf 51 = .ok (.iload 5, 2) := by decide +kernel
theorem dX8_nextOf_53 : decode cX8_nextOf 53 = .ok (.ifCond .eq 37, 3) := by decide +kernel
theorem dX8_nextOf_56 : decode cX8_nextOf 56 = .ok (.aload_n 0, 1) := by decide +kernel
theorem dX8_nextOf_57 : decode cX8_nextOf 57 = .ok (.getfield 44, 3) := by decide +kernel
theorem dX8_nextOf_60 : decode cX8_nextOf 60 = .ok (.bipush 7, 2) := by decide +kernel
theorem dX8_nextOf_62 : decode cX8_nextOf 62 = .ok (.iload_n 3, 1) := by decide +kernel
theorem dX8_nextOf_63 : decode cX8_nextOf 63 = .ok (.iconst 1, 1) := by decide +kernel
theorem dX8_nextOf_64 : decode cX8_nextOf 64 = .ok (.iadd, 1) := by decide +kernel
theorem dX8_nextOf_65 : decode cX8_nextOf 65 = .ok (.imul, 1) := by decide +kernel
theorem dX8_nextOf_66 : decode cX8_nextOf 66 = .ok (.iload 4, 2) := by decide +kernel
theorem dX8_nextOf_68 : decode cX8_nextOf 68 = .ok (.iadd, 1) := by decide +kernel
theorem dX8_nextOf_69 : decode cX8_nextOf 69 = .ok (.iaload, 1) := by decide +kernel
theorem dX8_nextOf_70 : decode cX8_nextOf 70 = .ok (.iload 6, 2) := by decide +kernel
theorem dX8_nextOf_72 : decode cX8_nextOf 72 = .ok (.iadd, 1) := by decide +kernel
theorem dX8_nextOf_73 : decode cX8_nextOf 73 = .ok (.aload_n 0, 1) := by decide +kernel
theorem dX8_nextOf_74 : decode cX8_nextOf 74 = .ok (.getfield 44, 3) := by decide +kernel
theorem dX8_nextOf_77 : decode cX8_nextOf 77 = .ok (.bipush 7, 2) := by decide +kernel
theorem dX8_nextOf_79 : decode cX8_nextOf 79 = .ok (.iload_n 3, 1) := by decide +kernel
theorem dX8_nextOf_80 : decode cX8_nextOf 80 = .ok (.imul, 1) := by decide +kernel
theorem dX8_nextOf_81 : decode cX8_nextOf 81 = .ok (.iload_n 1, 1) := by decide +kernel
theorem dX8_nextOf_82 : decode cX8_nextOf 82 = .ok (.iadd, 1) := by decide +kernel
theorem dX8_nextOf_83 : decode cX8_nextOf 83 = .ok (.iaload, 1) := by decide +kernel
theorem dX8_nextOf_84 : decode cX8_nextOf 84 = .ok (.if_icmp .ne 6, 3) := by decide +kernel
theorem dX8_nextOf_87 : decode cX8_nextOf 87 = .ok (.iload 4, 2) := by decide +kernel
theorem dX8_nextOf_89 : decode cX8_nextOf 89 = .ok (.ireturn, 1) := by decide +kernel
theorem dX8_nextOf_90 : decode cX8_nextOf 90 = .ok (.iinc 4 1, 3) := by decide +kernel
theorem dX8_nextOf_93 : decode cX8_nextOf 93 = .ok (.goto (-90), 3) := by decide +kernel
theorem dX8_nextOf_96 : decode cX8_nextOf 96 = .ok (.iconst (-1), 1) := by decide +kernel
theorem dX8_nextOf_97 : decode cX8_nextOf 97 = .ok (.ireturn, 1) := by decide +kernel
set_option maxRecDepth 20000 in
theorem ggX8_way_X8_isPq : GoodIn wsX8_way wsX8_isPq := goodIn_r _ [7, 8, 9, 10, 6, 11, 12, 13, 14, 15, 112, 113, 114, 115, 116, 117, 118, 119, 120, 121, 122, 123, 124, 125, 126, 127, 128, 129, 130, 131, 132, 133, 134, 135, 136, 137, 138, 139, 140, 141, 142, 143, 144, 145, 146, 147, 148, 149, 150, 151, 152, 153, 154, 155, 156, 157, 158, 159] (by decide +kernel) (by decide +kernel)
set_option maxRecDepth 20000 in
theorem gX8_way_X8_isPq : GoodIn wsX8_way (wsV RX8 220 RX8 yX8_isPq wsX8_isPq) := goodIn_app (goodIn_of _ (by decide +kernel)) ggX8_way_X8_isPq
set_option maxRecDepth 20000 in
theorem ggX8_way_X8_isStep : GoodIn wsX8_way wsX8_isStep := goodIn_r _ [18, 19, 13, 14, 6, 15] (by decide +kernel) (by decide +kernel)
set_option maxRecDepth 20000 in
theorem gX8_way_X8_isStep : GoodIn wsX8_way (va_wsS RX8 153 yX8_isStep wsX8_isStep) := goodIn_app (goodIn_of _ (by decide +kernel)) ggX8_way_X8_isStep
set_option maxRecDepth 20000 in
theorem ggX8_way_X8_looksFrom : GoodIn wsX8_way wsX8_looksFrom := goodIn_r _ [23, 12, 1, 2, 24, 25, 26, 27, 6, 28, 29, 30, 31, 32, 33, 34, 35, 36, 37, 38, 39, 40, 41, 42, 43, 44, 45, 46, 47, 48, 49, 50, 51, 52, 53, 54, 55, 56, 57, 58, 59, 60, 61, 62, 63, 64, 65, 66, 67, 68, 69, 70, 71, 72, 73, 74, 75, 76, 77, 78, 79, 80, 81, 82, 83, 84, 85, 86, 87, 88, 89, 90, 91, 92, 93, 94, 95, 96, 97, 98, 99, 100, 101, 102, 112, 113, 114, 115, 116, 117, 118, 119, 120, 121, 122, 123, 124, 125, 126, 127, 128, 129, 130, 131, 132, 133, 134, 135, 136, 137, 138, 139, 140, 141, 142, 143, 144, 145, 146, 147, 148, 149, 150, 151, 152, 153, 154, 155, 156, 157, 158, 159] (by decide +kernel) (by decide +kernel)
set_option maxRecDepth 20000 in
theorem gX8_way_X8_looksFrom : GoodIn wsX8_way (wsV RX8 241 RX8 yX8_looksFrom wsX8_looksFrom) := goodIn_app (goodIn_of _ (by decide +kernel)) ggX8_way_X8_looksFrom
set_option maxRecDepth 20000 in
theorem ggX8_way_X8_wayTo : GoodIn wsX8_way wsX8_wayTo := goodIn_r _ [106, 1, 12, 107, 2, 99, 100, 101, 6, 102, 30, 29, 108, 109, 110, 111, 112, 113, 114, 115, 116, 117, 118, 119, 120, 121, 122, 123, 124, 125, 126, 127, 128, 129, 130, 131, 132, 133, 134, 135, 136, 137, 138, 139, 140, 141, 142, 143, 144, 145, 146, 147, 148, 149, 150, 151, 152, 153, 154, 155, 156, 157, 158, 159] (by decide +kernel) (by decide +kernel)
set_option maxRecDepth 20000 in
theorem gX8_way_X8_wayTo : GoodIn wsX8_way (wsV RX8 249 RX8 yX8_wayTo wsX8_wayTo) := goodIn_app (goodIn_of _ (by decide +kernel)) ggX8_way_X8_wayTo
theorem dX8_way_0 : decode cX8_way 0 = .ok (.aload_n 0, 1) := by decide +kernel
theorem dX8_way_1 : decode cX8_way 1 = .ok (.iload_n 1, 1) := by decide +kernel
theorem dX8_way_2 : decode cX8_way 2 = .ok (.invokevirtual 220, 3) := by decide +kernel
theorem dX8_way_5 : decode cX8_way 5 = .ok (.ifCond .eq 14, 3) := by decide +kernel
theorem dX8_way_8 : decode cX8_way 8 = .ok (.iload_n 2, 1) := by decide +kernel
theorem dX8_way_9 : decode cX8_way 9 = .ok (.invokestatic 153, 3) := by decide +kernel
theorem dX8_way_12 : decode cX8_way 12 = .ok (.ifCond .eq 7, 3) := by decide +kernel
theorem dX8_way_15 : decode cX8_way 15 = .ok (.iload_n 3, 1) := by decide +kernel
theorem dX8_way_16 : decode cX8_way 16 = .ok (.ifCond .ge 5, 3) := by decide +kernel
theorem dX8_way_19 : decode cX8_way 19 = .ok (.iconst (-1), 1) := by decide +kernel
theorem dX8_way_20 : decode cX8_way 20 = .ok (.ireturn, 1) := by decide +kernel
theorem dX8_way_21 : decode cX8_way 21 = .ok (.aload_n 0, 1) := by decide +kernel
theorem dX8_way_22 : decode cX8_way 22 = .ok (.iload_n 1, 1) := by decide +kernel
theorem dX8_way_23 : decode cX8_way 23 = .ok (.bipush 10, 2) := by decide +kernel
theorem dX8_way_25 : decode cX8_way 25 = .ok (.irem, 1) := by decide +kernel
theorem dX8_way_26 : decode cX8_way 26 = .ok (.iload_n 2, 1) := by decide +kernel
theorem dX8_way_27 : decode cX8_way 27 = .ok (.invokevirtual 241, 3) := by decide +kernel
theorem dX8_way_30 : decode cX8_way 30 = .ok (.aload_n 0, 1) := by decide +kernel
theorem dX8_way_31 : decode cX8_way 31 = .ok (.getfield 38, 3) := by decide +kernel
theorem dX8_way_34 : decode cX8_way 34 = .ok (.iload_n 1, 1) := by decide +kernel
theorem dX8_way_35 : decode cX8_way 35 = .ok (.bipush 10, 2) := by decide +kernel
theorem dX8_way_37 : decode cX8_way 37 = .ok (.idiv, 1) := by decide +kernel
theorem dX8_way_38 : decode cX8_way 38 = .ok (.iaload, 1) := by decide +kernel
theorem dX8_way_39 : decode cX8_way 39 = .ok (.istore 4, 2) := by decide +kernel
theorem dX8_way_41 : decode cX8_way 41 = .ok (.iload 4, 2) := by decide +kernel
theorem dX8_way_43 : decode cX8_way 43 = .ok (.ldc 240, 2) := by decide +kernel
theorem dX8_way_45 : decode cX8_way 45 = .ok (.if_icmp .ne 6, 3) := by decide +kernel
theorem dX8_way_48 : decode cX8_way 48 = .ok (.bipush (-2), 2) := by decide +kernel
theorem dX8_way_50 : decode cX8_way 50 = .ok (.ireturn, 1) := by decide +kernel
theorem dX8_way_51 : decode cX8_way 51 = .ok (.iload_n 3, 1) := by decide +kernel
theorem dX8_way_52 : decode cX8_way 52 = .ok (.iload 4, 2) := by decide +kernel
theorem dX8_way_54 : decode cX8_way 54 = .ok (.if_icmp .le 7, 3) := by decide +kernel
theorem dX8_way_57 : decode cX8_way 57 = .ok (.iconst (-1), 1) := by decide +kernel
theorem dX8_way_58 : decode cX8_way 58 = .ok (.goto 17, 3) := by decide +kernel
theorem dX8_way_61 : decode cX8_way 61 = .ok (.aload_n 0, 1) := by decide +kernel
theorem dX8_way_62 : decode cX8_way 62 = .ok (.iload_n 1, 1) := by decide +kernel
theorem dX8_way_63 : decode cX8_way 63 = .ok (.bipush 10, 2) := by decide +kernel
theorem dX8_way_65 : decode cX8_way 65 = .ok (.idiv, 1) := by decide +kernel
theorem dX8_way_66 : decode cX8_way 66 = .ok (.iload_n 1, 1) := by decide +kernel
theorem dX8_way_67 : decode cX8_way 67 = .ok (.bipush 10, 2) := by decide +kernel
theorem dX8_way_69 : decode cX8_way 69 = .ok (.irem, 1) := by decide +kernel
theorem dX8_way_70 : decode cX8_way 70 = .ok (.iload_n 2, 1) := by decide +kernel
theorem dX8_way_71 : decode cX8_way 71 = .ok (.iload_n 3, 1) := by decide +kernel
theorem dX8_way_72 : decode cX8_way 72 = .ok (.invokevirtual 249, 3) := by decide +kernel
theorem dX8_way_75 : decode cX8_way 75 = .ok (.ireturn, 1) := by decide +kernel
set_option maxRecDepth 20000 in
theorem ggX8_waitOf_X8_asksSights : GoodIn wsX8_waitOf wsX8_asksSights := goodIn_r _ [9, 10, 11, 12, 13, 14, 8, 15, 16, 17, 18, 19, 20, 21, 22, 23, 24, 25, 26, 27, 28, 29, 30, 31, 32, 33, 34, 35, 36, 37, 38, 39, 40, 41, 42, 43, 44, 45, 46, 47, 48, 49, 50, 51, 52, 53, 54, 55, 56, 57, 58, 59, 60, 61, 62, 63, 64, 65, 66, 67, 68, 69, 70, 71, 72, 73, 74, 75, 76, 77, 78, 79, 88, 89, 90, 91, 92, 93, 94, 95, 96, 97, 98, 99, 100, 101, 102, 103, 104, 105, 106, 107, 108, 109, 110, 111, 112, 113, 114, 115, 116, 117, 118, 119, 120, 121, 122, 123, 124, 125, 126, 127, 128, 129, 130, 131, 132, 133, 134, 135] (by decide +kernel) (by decide +kernel)
set_option maxRecDepth 20000 in
theorem gX8_waitOf_X8_asksSights : GoodIn wsX8_waitOf (wsV RX8 226 RX8 yX8_asksSights wsX8_asksSights) := goodIn_app (goodIn_of _ (by decide +kernel)) ggX8_waitOf_X8_asksSights
set_option maxRecDepth 20000 in
theorem ggX8_waitOf_X8_roundOf : GoodIn wsX8_waitOf wsX8_roundOf := goodIn_r _ [83, 16, 17, 18, 8, 19, 88, 89, 90, 91, 92, 93, 94, 95, 96, 97, 98, 99, 100, 101, 102, 103, 104, 105, 106, 107, 108, 109, 110, 111, 112, 113, 114, 115, 116, 117, 118, 119, 120, 121, 122, 123, 124, 125, 126, 127, 128, 129, 130, 131, 132, 133, 134, 135] (by decide +kernel) (by decide +kernel)
set_option maxRecDepth 20000 in
theorem gX8_waitOf_X8_roundOf : GoodIn wsX8_waitOf (wsV RX8 149 RX8 yX8_roundOf wsX8_roundOf) := goodIn_app (goodIn_of _ (by decide +kernel)) ggX8_waitOf_X8_roundOf
set_option maxRecDepth 20000 in
theorem ggX8_waitOf_X8_sawAt : GoodIn wsX8_waitOf wsX8_sawAt := goodIn_r _ [87, 11, 10, 88, 89, 90, 91, 92, 93, 94, 95, 96, 97, 98, 99, 100, 101, 102, 103, 104, 105, 106, 107, 108, 109, 110, 111, 112, 113, 114, 115, 116, 117, 118, 119, 120, 121, 122, 123, 124, 125, 126, 127, 128, 129, 130, 131, 132, 133, 134, 135] (by decide +kernel) (by decide +kernel)
set_option maxRecDepth 20000 in
theorem gX8_waitOf_X8_sawAt : GoodIn wsX8_waitOf (wsV RX8 223 RX8 yX8_sawAt wsX8_sawAt) := goodIn_app (goodIn_of _ (by decide +kernel)) ggX8_waitOf_X8_sawAt
theorem dX8_waitOf_0 : decode cX8_waitOf 0 = .ok (.aload_n 0, 1) := by decide +kernel
theorem dX8_waitOf_1 : decode cX8_waitOf 1 = .ok (.iload_n 3, 1) := by decide +kernel
theorem dX8_waitOf_2 : decode cX8_waitOf 2 = .ok (.invokevirtual 226, 3) := by decide +kernel
theorem dX8_waitOf_5 : decode cX8_waitOf 5 = .ok (.aload_n 0, 1) := by decide +kernel
theorem dX8_waitOf_6 : decode cX8_waitOf 6 = .ok (.iload_n 3, 1) := by decide +kernel
theorem dX8_waitOf_7 : decode cX8_waitOf 7 = .ok (.invokevirtual 149, 3) := by decide +kernel
theorem dX8_waitOf_10 : decode cX8_waitOf 10 = .ok (.istore 4, 2) := by decide +kernel
theorem dX8_waitOf_12 : decode cX8_waitOf 12 = .ok (.iconst 0, 1) := by decide +kernel
theorem dX8_waitOf_13 : decode cX8_waitOf 13 = .ok (.istore 5, 2) := by decide +kernel
theorem dX8_waitOf_15 : decode cX8_waitOf 15 = .ok (.iload 5, 2) := by decide +kernel
theorem dX8_waitOf_17 : decode cX8_waitOf 17 = .ok (.iload_n 3, 1) := by decide +kernel
theorem dX8_waitOf_18 : decode cX8_waitOf 18 = .ok (.if_icmp .ge 28, 3) := by decide +kernel
theorem dX8_waitOf_21 : decode cX8_waitOf 21 = .ok (.aload_n 0, 1) := by decide +kernel
theorem dX8_waitOf_22 : decode cX8_waitOf 22 = .ok (.getfield 50, 3) := by decide +kernel
theorem dX8_waitOf_25 : decode cX8_waitOf 25 = .ok (.iload 5, 2) := by decide +kernel
theorem dX8_waitOf_27 : decode cX8_waitOf 27 = .ok (.iload 5, 2) := by decide +kernel
theorem dX8_waitOf_29 : decode cX8_waitOf 29 = .ok (.iload_n 2, 1) := by decide +kernel
theorem dX8_waitOf_30 : decode cX8_waitOf 30 = .ok (.if_icmp .ne 7, 3) := by decide +kernel
theorem dX8_waitOf_33 : decode cX8_waitOf 33 = .ok (.iconst 0, 1) := by decide +kernel
theorem dX8_waitOf_34 : decode cX8_waitOf 34 = .ok (.goto 5, 3) := by decide +kernel
theorem dX8_waitOf_37 : decode cX8_waitOf 37 = .ok (.ldc 240, 2) := by decide +kernel
theorem dX8_waitOf_39 : decode cX8_waitOf 39 = .ok (.iastore, 1) := by decide +kernel
theorem dX8_waitOf_40 : decode cX8_waitOf 40 = .ok (.iinc 5 1, 3) := by decide +kernel
theorem dX8_waitOf_43 : decode cX8_waitOf 43 = .ok (.goto (-28), 3) := by decide +kernel
theorem dX8_waitOf_46 : decode cX8_waitOf 46 = .ok (.iconst 0, 1) := by decide +kernel
theorem dX8_waitOf_47 : decode cX8_waitOf 47 = .ok (.istore 5, 2) := by decide +kernel
theorem dX8_waitOf_49 : decode cX8_waitOf 49 = .ok (.iload 4, 2) := by decide +kernel
theorem dX8_waitOf_51 : decode cX8_waitOf 51 = .ok (.sipush 600, 3) := by decide +kernel
theorem dX8_waitOf_54 : decode cX8_waitOf 54 = .ok (.iadd, 1) := by decide +kernel
theorem dX8_waitOf_55 : decode cX8_waitOf 55 = .ok (.istore 6, 2) := by decide +kernel
theorem dX8_waitOf_57 : decode cX8_waitOf 57 = .ok (.iload 6, 2) := by decide +kernel
theorem dX8_waitOf_59 : decode cX8_waitOf 59 = .ok (.ifCond .lt 194, 3) := by decide +kernel
theorem dX8_waitOf_62 : decode cX8_waitOf 62 = .ok (.iconst 0, 1) := by decide +kernel
theorem dX8_waitOf_63 : decode cX8_waitOf 63 = .ok (.istore 7, 2) := by decide +kernel
theorem dX8_waitOf_65 : decode cX8_waitOf 65 = .ok (.iload 7, 2) := by decide +kernel
theorem dX8_waitOf_67 : decode cX8_waitOf 67 = .ok (.iload_n 3, 1) := by decide +kernel
theorem dX8_waitOf_68 : decode cX8_waitOf 68 = .ok (.if_icmp .ge 118, 3) := by decide +kernel
theorem dX8_waitOf_71 : decode cX8_waitOf 71 = .ok (.aload_n 0, 1) := by decide +kernel
theorem dX8_waitOf_72 : decode cX8_waitOf 72 = .ok (.getfield 50, 3) := by decide +kernel
theorem dX8_waitOf_75 : decode cX8_waitOf 75 = .ok (.iload 7, 2) := by decide +kernel
theorem dX8_waitOf_77 : decode cX8_waitOf 77 = .ok (.iaload, 1) := by decide +kernel
theorem dX8_waitOf_78 : decode cX8_waitOf 78 = .ok (.iconst 1, 1) := by decide +kernel
theorem dX8_waitOf_79 : decode cX8_waitOf 79 = .ok (.iadd, 1) := by decide +kernel
theorem dX8_waitOf_80 : decode cX8_waitOf 80 = .ok (.istore 8, 2) := by decide +kernel
theorem dX8_waitOf_82 : decode cX8_waitOf 82 = .ok (.iconst 0, 1) := by decide +kernel
theorem dX8_waitOf_83 : decode cX8_waitOf 83 = .ok (.istore 9, 2) := by decide +kernel
theorem dX8_waitOf_85 : decode cX8_waitOf 85 = .ok (.iload 9, 2) := by decide +kernel
theorem dX8_waitOf_87 : decode cX8_waitOf 87 = .ok (.iload_n 3, 1) := by decide +kernel
theorem dX8_waitOf_88 : decode cX8_waitOf 88 = .ok (.if_icmp .ge 61, 3) := by decide +kernel
theorem dX8_waitOf_91 : decode cX8_waitOf 91 = .ok (.iload 9, 2) := by decide +kernel
theorem dX8_waitOf_93 : decode cX8_waitOf 93 = .ok (.iload 7, 2) := by decide +kernel
theorem dX8_waitOf_95 : decode cX8_waitOf 95 = .ok (.if_icmp .eq 28, 3) := by decide +kernel
theorem dX8_waitOf_98 : decode cX8_waitOf 98 = .ok (.aload_n 0, 1) := by decide +kernel
theorem dX8_waitOf_99 : decode cX8_waitOf 99 = .ok (.iload 7, 2) := by decide +kernel
theorem dX8_waitOf_101 : decode cX8_waitOf 101 = .ok (.iload 9, 2) := by decide +kernel
theorem dX8_waitOf_103 : decode cX8_waitOf 103 = .ok (.iload 6, 2) := by decide +kernel
theorem dX8_waitOf_105 : decode cX8_waitOf 105 = .ok (.invokevirtual 223, 3) := by decide +kernel
theorem dX8_waitOf_108 : decode cX8_waitOf 108 = .ok (.ifCond .eq 15, 3) := by decide +kernel
theorem dX8_waitOf_111 : decode cX8_waitOf 111 = .ok (.aload_n 0, 1) := by decide +kernel
theorem dX8_waitOf_112 : decode cX8_waitOf 112 = .ok (.getfield 50, 3) := by decide +kernel
theorem dX8_waitOf_115 : decode cX8_waitOf 115 = .ok (.iload 9, 2) := by decide +kernel
theorem dX8_waitOf_117 : decode cX8_waitOf 117 = .ok (.iaload, 1) := by decide +kernel
theorem dX8_waitOf_118 : decode cX8_waitOf 118 = .ok (.iconst 1, 1) := by decide +kernel
theorem dX8_waitOf_119 : decode cX8_waitOf 119 = .ok (.iadd, 1) := by decide +kernel
theorem dX8_waitOf_120 : decode cX8_waitOf 120 = .ok (.goto 5, 3) := by decide +kernel
theorem dX8_waitOf_123 : decode cX8_waitOf 123 = .ok (.ldc 240, 2) := by decide +kernel
theorem dX8_waitOf_125 : decode cX8_waitOf 125 = .ok (.istore 10, 2) := by decide +kernel
theorem dX8_waitOf_127 : decode cX8_waitOf 127 = .ok (.iload 10, 2) := by decide +kernel
theorem dX8_waitOf_129 : decode cX8_waitOf 129 = .ok (.iload 8, 2) := by decide +kernel
theorem dX8_waitOf_131 : decode cX8_waitOf 131 = .ok (.if_icmp .ge 8, 3) := by decide +kernel
theorem dX8_waitOf_134 : decode cX8_waitOf 134 = .ok (.iload 10, 2) := by decide +kernel
theorem dX8_waitOf_136 : decode cX8_waitOf 136 = .ok (.goto 5, 3) := by decide +kernel
theorem dX8_waitOf_139 : decode cX8_waitOf 139 = .ok (.iload 8, 2) := by decide +kernel
theorem dX8_waitOf_141 : decode cX8_waitOf 141 = .ok (.istore 8, 2) := by decide +kernel
theorem dX8_waitOf_143 : decode cX8_waitOf 143 = .ok (.iinc 9 1, 3) := by decide +kernel
theorem dX8_waitOf_146 : decode cX8_waitOf 146 = .ok (.goto (-61), 3) := by decide +kernel
theorem dX8_waitOf_149 : decode cX8_waitOf 149 = .ok (.aload_n 0, 1) := by decide +kernel
theorem dX8_waitOf_150 : decode cX8_waitOf 150 = .ok (.getfield 47, 3) := by decide +kernel
theorem dX8_waitOf_153 : decode cX8_waitOf 153 = .ok (.iload 7, 2) := by decide +kernel
theorem dX8_waitOf_155 : decode cX8_waitOf 155 = .ok (.iload 7, 2) := by decide +kernel
theorem dX8_waitOf_157 : decode cX8_waitOf 157 = .ok (.iload_n 2, 1) := by decide +kernel
theorem dX8_waitOf_158 : decode cX8_waitOf 158 = .ok (.if_icmp .ne 7, 3) := by decide +kernel
theorem dX8_waitOf_161 : decode cX8_waitOf 161 = .ok (.iconst 0, 1) := by decide +kernel
theorem dX8_waitOf_162 : decode cX8_waitOf 162 = .ok (.goto 17, 3) := by decide +kernel
theorem dX8_waitOf_165 : decode cX8_waitOf 165 = .ok (.iload 8, 2) := by decide +kernel
theorem dX8_waitOf_167 : decode cX8_waitOf 167 = .ok (.ldc 240, 2) := by decide +kernel
theorem dX8_waitOf_169 : decode cX8_waitOf 169 = .ok (.if_icmp .ge 8, 3) := by decide +kernel
theorem dX8_waitOf_172 : decode cX8_waitOf 172 = .ok (.iload 8, 2) := by decide +kernel
theorem dX8_waitOf_174 : decode cX8_waitOf 174 = .ok (.goto 5, 3) := by decide +kernel
theorem dX8_waitOf_177 : decode cX8_waitOf 177 = .ok (.ldc 240, 2) := by decide +kernel
theorem dX8_waitOf_179 : decode cX8_waitOf 179 = .ok (.iastore, 1) := by decide +kernel
theorem dX8_waitOf_180 : decode cX8_waitOf 180 = .ok (.iinc 7 1, 3) := by decide +kernel
theorem dX8_waitOf_183 : decode cX8_waitOf 183 = .ok (.goto (-118), 3) := by decide +kernel
theorem dX8_waitOf_186 : decode cX8_waitOf 186 = .ok (.iconst 0, 1) := by decide +kernel
theorem dX8_waitOf_187 : decode cX8_waitOf 187 = .ok (.istore 7, 2) := by decide +kernel
theorem dX8_waitOf_189 : decode cX8_waitOf 189 = .ok (.iload 7, 2) := by decide +kernel
theorem dX8_waitOf_191 : decode cX8_waitOf 191 = .ok (.iload_n 3, 1) := by decide +kernel
theorem dX8_waitOf_192 : decode cX8_waitOf 192 = .ok (.if_icmp .ge 23, 3) := by decide +kernel
theorem dX8_waitOf_195 : decode cX8_waitOf 195 = .ok (.aload_n 0, 1) := by decide +kernel
theorem dX8_waitOf_196 : decode cX8_waitOf 196 = .ok (.getfield 50, 3) := by decide +kernel
theorem dX8_waitOf_199 : decode cX8_waitOf 199 = .ok (.iload 7, 2) := by decide +kernel
theorem dX8_waitOf_201 : decode cX8_waitOf 201 = .ok (.aload_n 0, 1) := by decide +kernel
theorem dX8_waitOf_202 : decode cX8_waitOf 202 = .ok (.getfield 47, 3) := by decide +kernel
theorem dX8_waitOf_205 : decode cX8_waitOf 205 = .ok (.iload 7, 2) := by decide +kernel
theorem dX8_waitOf_207 : decode cX8_waitOf 207 = .ok (.iaload, 1) := by decide +kernel
theorem dX8_waitOf_208 : decode cX8_waitOf 208 = .ok (.iastore, 1) := by decide +kernel
theorem dX8_waitOf_209 : decode cX8_waitOf 209 = .ok (.iinc 7 1, 3) := by decide +kernel
theorem dX8_waitOf_212 : decode cX8_waitOf 212 = .ok (.goto (-23), 3) := by decide +kernel
theorem dX8_waitOf_215 : decode cX8_waitOf 215 = .ok (.iload 6, 2) := by decide +kernel
theorem dX8_waitOf_217 : decode cX8_waitOf 217 = .ok (.iload 4, 2) := by decide +kernel
theorem dX8_waitOf_219 : decode cX8_waitOf 219 = .ok (.if_icmp .ge 28, 3) := by decide +kernel
theorem dX8_waitOf_222 : decode cX8_waitOf 222 = .ok (.aload_n 0, 1) := by decide +kernel
theorem dX8_waitOf_223 : decode cX8_waitOf 223 = .ok (.getfield 47, 3) := by decide +kernel
theorem dX8_waitOf_226 : decode cX8_waitOf 226 = .ok (.iload_n 1, 1) := by decide +kernel
theorem dX8_waitOf_227 : decode cX8_waitOf 227 = .ok (.iaload, 1) := by decide +kernel
theorem dX8_waitOf_228 : decode cX8_waitOf 228 = .ok (.iload 5, 2) := by decide +kernel
theorem dX8_waitOf_230 : decode cX8_waitOf 230 = .ok (.if_icmp .lt 17, 3) := by decide +kernel
theorem dX8_waitOf_233 : decode cX8_waitOf 233 = .ok (.aload_n 0, 1) := by decide +kernel
theorem dX8_waitOf_234 : decode cX8_waitOf 234 = .ok (.getfield 47, 3) := by decide +kernel
theorem dX8_waitOf_237 : decode cX8_waitOf 237 = .ok (.iload_n 1, 1) := by decide +kernel
theorem dX8_waitOf_238 : decode cX8_waitOf 238 = .ok (.iaload, 1) := by decide +kernel
theorem dX8_waitOf_239 : decode cX8_waitOf 239 = .ok (.istore 5, 2) := by decide +kernel
theorem dX8_waitOf_241 : decode cX8_waitOf 241 = .ok (.aload_n 0, 1) := by decide +kernel
theorem dX8_waitOf_242 : decode cX8_waitOf 242 = .ok (.iload 6, 2) := by decide +kernel
theorem dX8_waitOf_244 : decode cX8_waitOf 244 = .ok (.putfield 253, 3) := by decide +kernel
theorem dX8_waitOf_247 : decode cX8_waitOf 247 = .ok (.iinc 6 (-1), 3) := by decide +kernel
theorem dX8_waitOf_250 : decode cX8_waitOf 250 = .ok (.goto (-193), 3) := by decide +kernel
theorem dX8_waitOf_253 : decode cX8_waitOf 253 = .ok (.iload 5, 2) := by decide +kernel
theorem dX8_waitOf_255 : decode cX8_waitOf 255 = .ok (.sipush 600, 3) := by decide +kernel
theorem dX8_waitOf_258 : decode cX8_waitOf 258 = .ok (.if_icmp .le 8, 3) := by decide +kernel
theorem dX8_waitOf_261 : decode cX8_waitOf 261 = .ok (.bipush (-2), 2) := by decide +kernel
theorem dX8_waitOf_263 : decode cX8_waitOf 263 = .ok (.goto 5, 3) := by decide +kernel
theorem dX8_waitOf_266 : decode cX8_waitOf 266 = .ok (.iload 5, 2) := by decide +kernel
theorem dX8_waitOf_268 : decode cX8_waitOf 268 = .ok (.ireturn, 1) := by decide +kernel
set_option maxRecDepth 20000 in
theorem ggX8_waits_X8_isPq : GoodIn wsX8_waits wsX8_isPq := goodIn_r _ [7, 8, 9, 10, 6, 11, 1, 12, 13, 14, 104, 105, 106, 107, 108, 109, 110, 111, 112, 113, 114, 115, 116, 117, 118, 119, 120, 121, 122, 123, 124, 125, 126, 127, 128, 129, 130, 131, 132, 133, 134, 135, 136, 137, 138, 139, 140, 141, 142, 143, 144, 145, 146, 147, 148, 149, 150, 151] (by decide +kernel) (by decide +kernel)
set_option maxRecDepth 20000 in
theorem gX8_waits_X8_isPq : GoodIn wsX8_waits (wsV RX8 220 RX8 yX8_isPq wsX8_isPq) := goodIn_app (goodIn_of _ (by decide +kernel)) ggX8_waits_X8_isPq
set_option maxRecDepth 20000 in
theorem ggX8_waits_X8_within : GoodIn wsX8_waits wsX8_within := goodIn_r _ [14] (by decide +kernel) (by decide +kernel)
set_option maxRecDepth 20000 in
theorem gX8_waits_X8_within : GoodIn wsX8_waits (va_wsS RX8 97 yX8_within wsX8_within) := goodIn_app (goodIn_of _ (by decide +kernel)) ggX8_waits_X8_within
set_option maxRecDepth 20000 in
theorem ggX8_waits_X8_waitOf : GoodIn wsX8_waits wsX8_waitOf := goodIn_r _ [18, 19, 20, 21, 2, 22, 23, 24, 6, 25, 26, 27, 28, 29, 30, 31, 32, 33, 34, 35, 36, 37, 38, 39, 40, 41, 42, 43, 44, 45, 46, 47, 48, 49, 50, 51, 52, 53, 54, 55, 56, 57, 58, 59, 60, 61, 62, 63, 64, 65, 66, 67, 68, 69, 70, 71, 72, 73, 74, 75, 76, 77, 78, 79, 80, 81, 82, 83, 84, 85, 86, 87, 88, 89, 90, 91, 92, 93, 94, 95, 96, 97, 98, 99, 100, 101, 102, 103, 104, 105, 106, 107, 108, 109, 110, 111, 112, 113, 114, 115, 116, 117, 118, 119, 120, 121, 122, 123, 124, 125, 126, 127, 128, 129, 130, 131, 132, 133, 134, 135, 136, 137, 138, 139, 140, 141, 142, 143, 144, 145, 146, 147, 148, 149, 150, 151] (by decide +kernel) (by decide +kernel)
set_option maxRecDepth 20000 in
theorem gX8_waits_X8_waitOf : GoodIn wsX8_waits (wsV RX8 256 RX8 yX8_waitOf wsX8_waitOf) := goodIn_app (goodIn_of _ (by decide +kernel)) ggX8_waits_X8_waitOf
theorem dX8_waits_0 : decode cX8_waits 0 = .ok (.aload_n 0, 1) := by decide +kernel
theorem dX8_waits_1 : decode cX8_waits 1 = .ok (.iload_n 1, 1) := by decide +kernel
theorem dX8_waits_2 : decode cX8_waits 2 = .ok (.invokevirtual 220, 3) := by decide +kernel
theorem dX8_waits_5 : decode cX8_waits 5 = .ok (.ifCond .eq 13, 3) := by decide +kernel
theorem dX8_waits_8 : decode cX8_waits 8 = .ok (.iload_n 2, 1) := by decide +kernel
theorem dX8_waits_9 : decode cX8_waits 9 = .ok (.i2l, 1) := by decide +kernel
theorem dX8_waits_10 : decode cX8_waits 10 = .ok (.lconst 0, 1) := by decide +kernel
theorem dX8_waits_11 : decode cX8_waits 11 = .ok (.lconst 1, 1) := by decide +kernel
theorem dX8_waits_12 : decode cX8_waits 12 = .ok (.invokestatic 97, 3) := by decide +kernel
theorem dX8_waits_15 : decode cX8_waits 15 = .ok (.ifCond .ne 5, 3) := by decide +kernel
theorem dX8_waits_18 : decode cX8_waits 18 = .ok (.iconst (-1), 1) := by decide +kernel
theorem dX8_waits_19 : decode cX8_waits 19 = .ok (.ireturn, 1) := by decide +kernel
theorem dX8_waits_20 : decode cX8_waits 20 = .ok (.aload_n 0, 1) := by decide +kernel
theorem dX8_waits_21 : decode cX8_waits 21 = .ok (.iload_n 1, 1) := by decide +kernel
theorem dX8_waits_22 : decode cX8_waits 22 = .ok (.bipush 10, 2) := by decide +kernel
theorem dX8_waits_24 : decode cX8_waits 24 = .ok (.idiv, 1) := by decide +kernel
theorem dX8_waits_25 : decode cX8_waits 25 = .ok (.iload_n 1, 1) := by decide +kernel
theorem dX8_waits_26 : decode cX8_waits 26 = .ok (.bipush 10, 2) := by decide +kernel
theorem dX8_waits_28 : decode cX8_waits 28 = .ok (.irem, 1) := by decide +kernel
theorem dX8_waits_29 : decode cX8_waits 29 = .ok (.aload_n 0, 1) := by decide +kernel
theorem dX8_waits_30 : decode cX8_waits 30 = .ok (.getfield 94, 3) := by decide +kernel
theorem dX8_waits_33 : decode cX8_waits 33 = .ok (.invokevirtual 256, 3) := by decide +kernel
theorem dX8_waits_36 : decode cX8_waits 36 = .ok (.istore_n 3, 1) := by decide +kernel
theorem dX8_waits_37 : decode cX8_waits 37 = .ok (.iload_n 2, 1) := by decide +kernel
theorem dX8_waits_38 : decode cX8_waits 38 = .ok (.ifCond .eq 7, 3) := by decide +kernel
theorem dX8_waits_41 : decode cX8_waits 41 = .ok (.iload_n 3, 1) := by decide +kernel
theorem dX8_waits_42 : decode cX8_waits 42 = .ok (.ifCond .ge 7, 3) := by decide +kernel
theorem dX8_waits_45 : decode cX8_waits 45 = .ok (.iload_n 3, 1) := by decide +kernel
theorem dX8_waits_46 : decode cX8_waits 46 = .ok (.goto 7, 3) := by decide +kernel
theorem dX8_waits_49 : decode cX8_waits 49 = .ok (.aload_n 0, 1) := by decide +kernel
theorem dX8_waits_50 : decode cX8_waits 50 = .ok (.getfield 253, 3) := by decide +kernel
theorem dX8_waits_53 : decode cX8_waits 53 = .ok (.ireturn, 1) := by decide +kernel
set_option maxRecDepth 20000 in
theorem ggX8_relay_X8_isPq : GoodIn wsX8_relay wsX8_isPq := goodIn_r _ [7, 8, 9, 10, 6, 11, 2, 12, 13, 14, 109, 110, 111, 112, 113, 114, 115, 116, 117, 118, 119, 120, 121, 122, 123, 124, 125, 126, 127, 128, 129, 130, 131, 132, 133, 134, 135, 136, 137, 138, 139, 140, 141, 142, 143, 144, 145, 146, 147, 148, 149, 150, 151, 152, 153, 154, 155, 156] (by decide +kernel) (by decide +kernel)
set_option maxRecDepth 20000 in
theorem gX8_relay_X8_isPq : GoodIn wsX8_relay (wsV RX8 220 RX8 yX8_isPq wsX8_isPq) := goodIn_app (goodIn_of _ (by decide +kernel)) ggX8_relay_X8_isPq
set_option maxRecDepth 20000 in
theorem ggX8_relay_X8_isOne : GoodIn wsX8_relay wsX8_isOne := goodIn_r _ [17, 18, 19, 12, 13, 6, 14] (by decide +kernel) (by decide +kernel)
set_option maxRecDepth 20000 in
theorem gX8_relay_X8_isOne : GoodIn wsX8_relay (va_wsS RX8 111 yX8_isOne wsX8_isOne) := goodIn_app (goodIn_of _ (by decide +kernel)) ggX8_relay_X8_isOne
set_option maxRecDepth 20000 in
theorem ggX8_relay_X8_within : GoodIn wsX8_relay wsX8_within := goodIn_r _ [14] (by decide +kernel) (by decide +kernel)
set_option maxRecDepth 20000 in
theorem gX8_relay_X8_within : GoodIn wsX8_relay (va_wsS RX8 97 yX8_within wsX8_within) := goodIn_app (goodIn_of _ (by decide +kernel)) ggX8_relay_X8_within
set_option maxRecDepth 20000 in
theorem ggX8_relay_X8_waitOf : GoodIn wsX8_relay wsX8_waitOf := goodIn_r _ [23, 24, 25, 26, 27, 28, 29, 30, 6, 31, 32, 33, 34, 35, 36, 37, 1, 38, 39, 40, 41, 42, 43, 44, 45, 46, 47, 48, 49, 50, 51, 52, 53, 54, 55, 56, 57, 58, 59, 60, 61, 62, 63, 64, 65, 66, 67, 68, 69, 70, 71, 72, 73, 74, 75, 76, 77, 78, 79, 80, 81, 82, 83, 84, 85, 86, 87, 88, 89, 90, 91, 92, 93, 94, 95, 96, 97, 98, 99, 100, 101, 102, 103, 104, 105, 106, 107, 108, 109, 110, 111, 112, 113, 114, 115, 116, 117, 118, 119, 120, 121, 122, 123, 124, 125, 126, 127, 128, 129, 130, 131, 132, 133, 134, 135, 136, 137, 138, 139, 140, 141, 142, 143, 144, 145, 146, 147, 148, 149, 150, 151, 152, 153, 154, 155, 156] (by decide +kernel) (by decide +kernel)
set_option maxRecDepth 20000 in
theorem gX8_relay_X8_waitOf : GoodIn wsX8_relay (wsV RX8 256 RX8 yX8_waitOf wsX8_waitOf) := goodIn_app (goodIn_of _ (by decide +kernel)) ggX8_relay_X8_waitOf
theorem dX8_relay_0 : decode cX8_relay 0 = .ok (.aload_n 0, 1) := by decide +kernel
theorem dX8_relay_1 : decode cX8_relay 1 = .ok (.iload_n 1, 1) := by decide +kernel
theorem dX8_relay_2 : decode cX8_relay 2 = .ok (.invokevirtual 220, 3) := by decide +kernel
theorem dX8_relay_5 : decode cX8_relay 5 = .ok (.ifCond .eq 34, 3) := by decide +kernel
theorem dX8_relay_8 : decode cX8_relay 8 = .ok (.iload_n 2, 1) := by decide +kernel
theorem dX8_relay_9 : decode cX8_relay 9 = .ok (.ifCond .lt 30, 3) := by decide +kernel
theorem dX8_relay_12 : decode cX8_relay 12 = .ok (.iload_n 2, 1) := by decide +kernel
theorem dX8_relay_13 : decode cX8_relay 13 = .ok (.bipush 10, 2) := by decide +kernel
theorem dX8_relay_15 : decode cX8_relay 15 = .ok (.idiv, 1) := by decide +kernel
theorem dX8_relay_16 : decode cX8_relay 16 = .ok (.i2l, 1) := by decide +kernel
theorem dX8_relay_17 : decode cX8_relay 17 = .ok (.lconst 0, 1) := by decide +kernel
theorem dX8_relay_18 : decode cX8_relay 18 = .ok (.iload_n 2, 1) := by decide +kernel
theorem dX8_relay_19 : decode cX8_relay 19 = .ok (.bipush 10, 2) := by decide +kernel
theorem dX8_relay_21 : decode cX8_relay 21 = .ok (.irem, 1) := by decide +kernel
theorem dX8_relay_22 : decode cX8_relay 22 = .ok (.i2l, 1) := by decide +kernel
theorem dX8_relay_23 : decode cX8_relay 23 = .ok (.invokestatic 111, 3) := by decide +kernel
theorem dX8_relay_26 : decode cX8_relay 26 = .ok (.ifCond .eq 13, 3) := by decide +kernel
theorem dX8_relay_29 : decode cX8_relay 29 = .ok (.iload_n 3, 1) := by decide +kernel
theorem dX8_relay_30 : decode cX8_relay 30 = .ok (.i2l, 1) := by decide +kernel
theorem dX8_relay_31 : decode cX8_relay 31 = .ok (.lconst 0, 1) := by decide +kernel
theorem dX8_relay_32 : decode cX8_relay 32 = .ok (.lconst 1, 1) := by decide +kernel
theorem dX8_relay_33 : decode cX8_relay 33 = .ok (.invokestatic 97, 3) := by decide +kernel
theorem dX8_relay_36 : decode cX8_relay 36 = .ok (.ifCond .ne 5, 3) := by decide +kernel
theorem dX8_relay_39 : decode cX8_relay 39 = .ok (.iconst (-1), 1) := by decide +kernel
theorem dX8_relay_40 : decode cX8_relay 40 = .ok (.ireturn, 1) := by decide +kernel
theorem dX8_relay_41 : decode cX8_relay 41 = .ok (.aload_n 0, 1) := by decide +kernel
theorem dX8_relay_42 : decode cX8_relay 42 = .ok (.getfield 9, 3) := by decide +kernel
theorem dX8_relay_45 : decode cX8_relay 45 = .ok (.aload_n 0, 1) := by decide +kernel
theorem dX8_relay_46 : decode cX8_relay 46 = .ok (.getfield 94, 3) := by decide +kernel
theorem dX8_relay_49 : decode cX8_relay 49 = .ok (.iaload, 1) := by decide +kernel
theorem dX8_relay_50 : decode cX8_relay 50 = .ok (.istore 4, 2) := by decide +kernel
theorem dX8_relay_52 : decode cX8_relay 52 = .ok (.aload_n 0, 1) := by decide +kernel
theorem dX8_relay_53 : decode cX8_relay 53 = .ok (.getfield 9, 3) := by decide +kernel
theorem dX8_relay_56 : decode cX8_relay 56 = .ok (.bipush 7, 2) := by decide +kernel
theorem dX8_relay_58 : decode cX8_relay 58 = .ok (.aload_n 0, 1) := by decide +kernel
theorem dX8_relay_59 : decode cX8_relay 59 = .ok (.getfield 94, 3) := by decide +kernel
theorem dX8_relay_62 : decode cX8_relay 62 = .ok (.iadd, 1) := by decide +kernel
theorem dX8_relay_63 : decode cX8_relay 63 = .ok (.iaload, 1) := by decide +kernel
theorem dX8_relay_64 : decode cX8_relay 64 = .ok (.istore 5, 2) := by decide +kernel
theorem dX8_relay_66 : decode cX8_relay 66 = .ok (.aload_n 0, 1) := by decide +kernel
theorem dX8_relay_67 : decode cX8_relay 67 = .ok (.getfield 9, 3) := by decide +kernel
theorem dX8_relay_70 : decode cX8_relay 70 = .ok (.bipush 14, 2) := by decide +kernel
theorem dX8_relay_72 : decode cX8_relay 72 = .ok (.aload_n 0, 1) := by decide +kernel
theorem dX8_relay_73 : decode cX8_relay 73 = .ok (.getfield 94, 3) := by decide +kernel
theorem dX8_relay_76 : decode cX8_relay 76 = .ok (.iadd, 1) := by decide +kernel
theorem dX8_relay_77 : decode cX8_relay 77 = .ok (.iaload, 1) := by decide +kernel
theorem dX8_relay_78 : decode cX8_relay 78 = .ok (.istore 6, 2) := by decide +kernel
theorem dX8_relay_80 : decode cX8_relay 80 = .ok (.aload_n 0, 1) := by decide +kernel
theorem dX8_relay_81 : decode cX8_relay 81 = .ok (.getfield 9, 3) := by decide +kernel
theorem dX8_relay_84 : decode cX8_relay 84 = .ok (.aload_n 0, 1) := by decide +kernel
theorem dX8_relay_85 : decode cX8_relay 85 = .ok (.getfield 94, 3) := by decide +kernel
theorem dX8_relay_88 : decode cX8_relay 88 = .ok (.iload_n 2, 1) := by decide +kernel
theorem dX8_relay_89 : decode cX8_relay 89 = .ok (.bipush 10, 2) := by decide +kernel
theorem dX8_relay_91 : decode cX8_relay 91 = .ok (.idiv, 1) := by decide +kernel
theorem dX8_relay_92 : decode cX8_relay 92 = .ok (.iastore, 1) := by decide +kernel
theorem dX8_relay_93 : decode cX8_relay 93 = .ok (.aload_n 0, 1) := by decide +kernel
theorem dX8_relay_94 : decode cX8_relay 94 = .ok (.getfield 9, 3) := by decide +kernel
theorem dX8_relay_97 : decode cX8_relay 97 = .ok (.bipush 14, 2) := by decide +kernel
theorem dX8_relay_99 : decode cX8_relay 99 = .ok (.aload_n 0, 1) := by decide +kernel
theorem dX8_relay_100 : decode cX8_relay 100 = .ok (.getfield 94, 3) := by decide +kernel
theorem dX8_relay_103 : decode cX8_relay 103 = .ok (.iadd, 1) := by decide +kernel
theorem dX8_relay_104 : decode cX8_relay 104 = .ok (.iload_n 2, 1) := by decide +kernel
theorem dX8_relay_105 : decode cX8_relay 105 = .ok (.bipush 10, 2) := by decide +kernel
theorem dX8_relay_107 : decode cX8_relay 107 = .ok (.irem, 1) := by decide +kernel
theorem dX8_relay_108 : decode cX8_relay 108 = .ok (.iastore, 1) := by decide +kernel
theorem dX8_relay_109 : decode cX8_relay 109 = .ok (.bipush (-2), 2) := by decide +kernel
theorem dX8_relay_111 : decode cX8_relay 111 = .ok (.istore 7, 2) := by decide +kernel
theorem dX8_relay_113 : decode cX8_relay 113 = .ok (.bipush (-2), 2) := by decide +kernel
theorem dX8_relay_115 : decode cX8_relay 115 = .ok (.istore 8, 2) := by decide +kernel
theorem dX8_relay_117 : decode cX8_relay 117 = .ok (.iconst 0, 1) := by decide +kernel
theorem dX8_relay_118 : decode cX8_relay 118 = .ok (.istore 9, 2) := by decide +kernel
theorem dX8_relay_120 : decode cX8_relay 120 = .ok (.iload 9, 2) := by decide +kernel
theorem dX8_relay_122 : decode cX8_relay 122 = .ok (.iload_n 2, 1) := by decide +kernel
theorem dX8_relay_123 : decode cX8_relay 123 = .ok (.bipush 10, 2) := by decide +kernel
theorem dX8_relay_125 : decode cX8_relay 125 = .ok (.idiv, 1) := by decide +kernel
theorem dX8_relay_126 : decode cX8_relay 126 = .ok (.if_icmp .ge 68, 3) := by decide +kernel
theorem dX8_relay_129 : decode cX8_relay 129 = .ok (.aload_n 0, 1) := by decide +kernel
theorem dX8_relay_130 : decode cX8_relay 130 = .ok (.getfield 9, 3) := by decide +kernel
theorem dX8_relay_133 : decode cX8_relay 133 = .ok (.bipush 7, 2) := by decide +kernel
theorem dX8_relay_135 : decode cX8_relay 135 = .ok (.aload_n 0, 1) := by decide +kernel
theorem dX8_relay_136 : decode cX8_relay 136 = .ok (.getfield 94, 3) := by decide +kernel
theorem dX8_relay_139 : decode cX8_relay 139 = .ok (.iadd, 1) := by decide +kernel
theorem dX8_relay_140 : decode cX8_relay 140 = .ok (.iload 9, 2) := by decide +kernel
theorem dX8_relay_142 : decode cX8_relay 142 = .ok (.iastore, 1) := by decide +kernel
theorem dX8_relay_143 : decode cX8_relay 143 = .ok (.aload_n 0, 1) := by decide +kernel
theorem dX8_relay_144 : decode cX8_relay 144 = .ok (.iload_n 1, 1) := by decide +kernel
theorem dX8_relay_145 : decode cX8_relay 145 = .ok (.bipush 10, 2) := by decide +kernel
theorem dX8_relay_147 : decode cX8_relay 147 = .ok (.idiv, 1) := by decide +kernel
theorem dX8_relay_148 : decode cX8_relay 148 = .ok (.iload_n 1, 1) := by decide +kernel
theorem dX8_relay_149 : decode cX8_relay 149 = .ok (.bipush 10, 2) := by decide +kernel
theorem dX8_relay_151 : decode cX8_relay 151 = .ok (.irem, 1) := by decide +kernel
theorem dX8_relay_152 : decode cX8_relay 152 = .ok (.aload_n 0, 1) := by decide +kernel
theorem dX8_relay_153 : decode cX8_relay 153 = .ok (.getfield 94, 3) := by decide +kernel
theorem dX8_relay_156 : decode cX8_relay 156 = .ok (.iconst 1, 1) := by decide +kernel
theorem dX8_relay_157 : decode cX8_relay 157 = .ok (.iadd, 1) := by decide +kernel
theorem dX8_relay_158 : decode cX8_relay 158 = .ok (.invokevirtual 256, 3) := by decide +kernel
theorem dX8_relay_161 : decode cX8_relay 161 = .ok (.istore 10, 2) := by decide +kernel
theorem dX8_relay_163 : decode cX8_relay 163 = .ok (.iload 10, 2) := by decide +kernel
theorem dX8_relay_165 : decode cX8_relay 165 = .ok (.ifCond .lt 23, 3) := by decide +kernel
theorem dX8_relay_168 : decode cX8_relay 168 = .ok (.iload 7, 2) := by decide +kernel
theorem dX8_relay_170 : decode cX8_relay 170 = .ok (.ifCond .lt 10, 3) := by decide +kernel
theorem dX8_relay_173 : decode cX8_relay 173 = .ok (.iload 10, 2) := by decide +kernel
theorem dX8_relay_175 : decode cX8_relay 175 = .ok (.iload 8, 2) := by decide +kernel
theorem dX8_relay_177 : decode cX8_relay 177 = .ok (.if_icmp .ge 11, 3) := by decide +kernel
theorem dX8_relay_180 : decode cX8_relay 180 = .ok (.iload 9, 2) := by decide +kernel
theorem dX8_relay_182 : decode cX8_relay 182 = .ok (.istore 7, 2) := by decide +kernel
theorem dX8_relay_184 : decode cX8_relay 184 = .ok (.iload 10, 2) := by decide +kernel
theorem dX8_relay_186 : decode cX8_relay 186 = .ok (.istore 8, 2) := by decide +kernel
theorem dX8_relay_188 : decode cX8_relay 188 = .ok (.iinc 9 1, 3) := by decide +kernel
theorem dX8_relay_191 : decode cX8_relay 191 = .ok (.goto (-71), 3) := by decide +kernel
theorem dX8_relay_194 : decode cX8_relay 194 = .ok (.aload_n 0, 1) := by decide +kernel
theorem dX8_relay_195 : decode cX8_relay 195 = .ok (.getfield 9, 3) := by decide +kernel
theorem dX8_relay_198 : decode cX8_relay 198 = .ok (.aload_n 0, 1) := by decide +kernel
theorem dX8_relay_199 : decode cX8_relay 199 = .ok (.getfield 94, 3) := by decide +kernel
theorem dX8_relay_202 : decode cX8_relay 202 = .ok (.iload 4, 2) := by decide +kernel
theorem dX8_relay_204 : decode cX8_relay 204 = .ok (.iastore, 1) := by decide +kernel
theorem dX8_relay_205 : decode cX8_relay 205 = .ok (.aload_n 0, 1) := by decide +kernel
theorem dX8_relay_206 : decode cX8_relay 206 = .ok (.getfield 9, 3) := by decide +kernel
theorem dX8_relay_209 : decode cX8_relay 209 = .ok (.bipush 7, 2) := by decide +kernel
theorem dX8_relay_211 : decode cX8_relay 211 = .ok (.aload_n 0, 1) := by decide +kernel
theorem dX8_relay_212 : decode cX8_relay 212 = .ok (.getfield 94, 3) := by decide +kernel
theorem dX8_relay_215 : decode cX8_relay 215 = .ok (.iadd, 1) := by decide +kernel
theorem dX8_relay_216 : decode cX8_relay 216 = .ok (.iload 5, 2) := by decide +kernel
theorem dX8_relay_218 : decode cX8_relay 218 = .ok (.iastore, 1) := by decide +kernel
theorem dX8_relay_219 : decode cX8_relay 219 = .ok (.aload_n 0, 1) := by decide +kernel
theorem dX8_relay_220 : decode cX8_relay 220 = .ok (.getfield 9, 3) := by decide +kernel
theorem dX8_relay_223 : decode cX8_relay 223 = .ok (.bipush 14, 2) := by decide +kernel
theorem dX8_relay_225 : decode cX8_relay 225 = .ok (.aload_n 0, 1) := by decide +kernel
theorem dX8_relay_226 : decode cX8_relay 226 = .ok (.getfield 94, 3) := by decide +kernel
theorem dX8_relay_229 : decode cX8_relay 229 = .ok (.iadd, 1) := by decide +kernel
theorem dX8_relay_230 : decode cX8_relay 230 = .ok (.iload 6, 2) := by decide +kernel
theorem dX8_relay_232 : decode cX8_relay 232 = .ok (.iastore, 1) := by decide +kernel
theorem dX8_relay_233 : decode cX8_relay 233 = .ok (.iload_n 3, 1) := by decide +kernel
theorem dX8_relay_234 : decode cX8_relay 234 = .ok (.ifCond .ne 8, 3) := by decide +kernel
theorem dX8_relay_237 : decode cX8_relay 237 = .ok (.iload 7, 2) := by decide +kernel
theorem dX8_relay_239 : decode cX8_relay 239 = .ok (.goto 5, 3) := by decide +kernel
theorem dX8_relay_242 : decode cX8_relay 242 = .ok (.iload 8, 2) := by decide +kernel
theorem dX8_relay_244 : decode cX8_relay 244 = .ok (.ireturn, 1) := by decide +kernel
theorem dX8_power_0 : decode cX8_power 0 = .ok (.lconst 1, 1) := by decide +kernel
theorem dX8_power_1 : decode cX8_power 1 = .ok (.lstore_n 3, 1) := by decide +kernel
theorem dX8_power_2 : decode cX8_power 2 = .ok (.iconst 0, 1) := by decide +kernel
theorem dX8_power_3 : decode cX8_power 3 = .ok (.istore 5, 2) := by decide +kernel
theorem dX8_power_5 : decode cX8_power 5 = .ok (.iload 5, 2) := by decide +kernel
theorem dX8_power_7 : decode cX8_power 7 = .ok (.iload_n 2, 1) := by decide +kernel
theorem dX8_power_8 : decode cX8_power 8 = .ok (.if_icmp .ge 13, 3) := by decide +kernel
theorem dX8_power_11 : decode cX8_power 11 = .ok (.lload_n 3, 1) := by decide +kernel
theorem dX8_power_12 : decode cX8_power 12 = .ok (.lload_n 0, 1) := by decide +kernel
theorem dX8_power_13 : decode cX8_power 13 = .ok (.lmul, 1) := by decide +kernel
theorem dX8_power_14 : decode cX8_power 14 = .ok (.lstore_n 3, 1) := by decide +kernel
theorem dX8_power_15 : decode cX8_power 15 = .ok (.iinc 5 1, 3) := by decide +kernel
theorem dX8_power_18 : decode cX8_power 18 = .ok (.goto (-13), 3) := by decide +kernel
theorem dX8_power_21 : decode cX8_power 21 = .ok (.lload_n 3, 1) := by decide +kernel
theorem dX8_power_22 : decode cX8_power 22 = .ok (.lreturn, 1) := by decide +kernel
set_option maxRecDepth 20000 in
theorem ggX8_safe_X8_isPq : GoodIn wsX8_safe wsX8_isPq := goodIn_r _ [12, 13, 14, 15, 11, 16, 17, 18, 19, 20, 118, 119, 120, 121, 122, 123, 124, 125, 126, 127, 128, 129, 130, 131, 132, 133, 134, 135, 136, 137, 138, 139, 140, 141, 142, 143, 144, 145, 146, 147, 148, 149, 150, 151, 152, 153, 154, 155, 156, 157, 158, 159, 160, 161, 162, 163, 164, 165] (by decide +kernel) (by decide +kernel)
set_option maxRecDepth 20000 in
theorem gX8_safe_X8_isPq : GoodIn wsX8_safe (wsV RX8 220 RX8 yX8_isPq wsX8_isPq) := goodIn_app (goodIn_of _ (by decide +kernel)) ggX8_safe_X8_isPq
set_option maxRecDepth 20000 in
theorem ggX8_safe_X8_isStep : GoodIn wsX8_safe wsX8_isStep := goodIn_r _ [23, 24, 18, 19, 11, 20] (by decide +kernel) (by decide +kernel)
set_option maxRecDepth 20000 in
theorem gX8_safe_X8_isStep : GoodIn wsX8_safe (va_wsS RX8 153 yX8_isStep wsX8_isStep) := goodIn_app (goodIn_of _ (by decide +kernel)) ggX8_safe_X8_isStep
set_option maxRecDepth 20000 in
theorem ggX8_safe_X8_within : GoodIn wsX8_safe wsX8_within := goodIn_r _ [20] (by decide +kernel) (by decide +kernel)
set_option maxRecDepth 20000 in
theorem gX8_safe_X8_within : GoodIn wsX8_safe (va_wsS RX8 97 yX8_within wsX8_within) := goodIn_app (goodIn_of _ (by decide +kernel)) ggX8_safe_X8_within
set_option maxRecDepth 20000 in
theorem ggX8_safe_X8_looksFrom : GoodIn wsX8_safe wsX8_looksFrom := goodIn_r _ [28, 17, 3, 4, 29, 30, 31, 32, 11, 33, 34, 35, 36, 37, 38, 39, 7, 40, 41, 42, 43, 44, 45, 46, 47, 48, 49, 50, 51, 52, 53, 54, 55, 56, 57, 58, 59, 60, 61, 62, 63, 64, 65, 66, 67, 68, 69, 70, 71, 72, 73, 74, 75, 76, 77, 78, 79, 80, 81, 82, 83, 84, 85, 86, 87, 88, 89, 90, 91, 92, 93, 94, 95, 96, 97, 98, 99, 100, 101, 102, 103, 104, 105, 106, 118, 119, 120, 121, 122, 123, 124, 125, 126, 127, 128, 129, 130, 131, 132, 133, 134, 135, 136, 137, 138, 139, 140, 141, 142, 143, 144, 145, 146, 147, 148, 149, 150, 151, 152, 153, 154, 155, 156, 157, 158, 159, 160, 161, 162, 163, 164, 165] (by decide +kernel) (by decide +kernel)
set_option maxRecDepth 20000 in
theorem gX8_safe_X8_looksFrom : GoodIn wsX8_safe (wsV RX8 241 RX8 yX8_looksFrom wsX8_looksFrom) := goodIn_app (goodIn_of _ (by decide +kernel)) ggX8_safe_X8_looksFrom
set_option maxRecDepth 20000 in
theorem ggX8_safe_X8_wayTo : GoodIn wsX8_safe wsX8_wayTo := goodIn_r _ [110, 3, 17, 5, 4, 103, 104, 105, 11, 106, 35, 34, 111, 112, 113, 114, 118, 119, 120, 121, 122, 123, 124, 125, 126, 127, 128, 129, 130, 131, 132, 133, 134, 135, 136, 137, 138, 139, 140, 141, 142, 143, 144, 145, 146, 147, 148, 149, 150, 151, 152, 153, 154, 155, 156, 157, 158, 159, 160, 161, 162, 163, 164, 165] (by decide +kernel) (by decide +kernel)
set_option maxRecDepth 20000 in
theorem gX8_safe_X8_wayTo : GoodIn wsX8_safe (wsV RX8 249 RX8 yX8_wayTo wsX8_wayTo) := goodIn_app (goodIn_of _ (by decide +kernel)) ggX8_safe_X8_wayTo
set_option maxRecDepth 20000 in
theorem ggX8_safe_X8_power : GoodIn wsX8_safe wsX8_power := goodIn_r _ [117] (by decide +kernel) (by decide +kernel)
set_option maxRecDepth 20000 in
theorem gX8_safe_X8_power : GoodIn wsX8_safe (va_wsS RX8 265 yX8_power wsX8_power) := goodIn_app (goodIn_of _ (by decide +kernel)) ggX8_safe_X8_power
theorem dX8_safe_0 : decode cX8_safe 0 = .ok (.aload_n 0, 1) := by decide +kernel
theorem dX8_safe_1 : decode cX8_safe 1 = .ok (.iload_n 1, 1) := by decide +kernel
theorem dX8_safe_2 : decode cX8_safe 2 = .ok (.invokevirtual 220, 3) := by decide +kernel
theorem dX8_safe_5 : decode cX8_safe 5 = .ok (.ifCond .eq 37, 3) := by decide +kernel
theorem dX8_safe_8 : decode cX8_safe 8 = .ok (.iload_n 2, 1) := by decide +kernel
theorem dX8_safe_9 : decode cX8_safe 9 = .ok (.invokestatic 153, 3) := by decide +kernel
theorem dX8_safe_12 : decode cX8_safe 12 = .ok (.ifCond .eq 30, 3) := by decide +kernel
theorem dX8_safe_15 : decode cX8_safe 15 = .ok (.iload_n 3, 1) := by decide +kernel
theorem dX8_safe_16 : decode cX8_safe 16 = .ok (.ifCond .lt 26, 3) := by decide +kernel
theorem dX8_safe_19 : decode cX8_safe 19 = .ok (.iload_n 3, 1) := by decide +kernel
theorem dX8_safe_20 : decode cX8_safe 20 = .ok (.bipush 10, 2) := by decide +kernel
theorem dX8_safe_22 : decode cX8_safe 22 = .ok (.idiv, 1) := by decide +kernel
theorem dX8_safe_23 : decode cX8_safe 23 = .ok (.i2l, 1) := by decide +kernel
theorem dX8_safe_24 : decode cX8_safe 24 = .ok (.lconst 1, 1) := by decide +kernel
theorem dX8_safe_25 : decode cX8_safe 25 = .ok (.ldc2_w 259, 3) := by decide +kernel
theorem dX8_safe_28 : decode cX8_safe 28 = .ok (.invokestatic 97, 3) := by decide +kernel
theorem dX8_safe_31 : decode cX8_safe 31 = .ok (.ifCond .eq 11, 3) := by decide +kernel
theorem dX8_safe_34 : decode cX8_safe 34 = .ok (.iload_n 3, 1) := by decide +kernel
theorem dX8_safe_35 : decode cX8_safe 35 = .ok (.bipush 10, 2) := by decide +kernel
theorem dX8_safe_37 : decode cX8_safe 37 = .ok (.irem, 1) := by decide +kernel
theorem dX8_safe_38 : decode cX8_safe 38 = .ok (.iconst 1, 1) := by decide +kernel
theorem dX8_safe_39 : decode cX8_safe 39 = .ok (.if_icmp .le 7, 3) := by decide +kernel
theorem dX8_safe_42 : decode cX8_safe 42 = .ok (.ldc2_w 263, 3) := by decide +kernel
theorem dX8_safe_45 : decode cX8_safe 45 = .ok (.lreturn, 1) := by decide +kernel
theorem dX8_safe_46 : decode cX8_safe 46 = .ok (.aload_n 0, 1) := by decide +kernel
theorem dX8_safe_47 : decode cX8_safe 47 = .ok (.iload_n 1, 1) := by decide +kernel
theorem dX8_safe_48 : decode cX8_safe 48 = .ok (.bipush 10, 2) := by decide +kernel
theorem dX8_safe_50 : decode cX8_safe 50 = .ok (.irem, 1) := by decide +kernel
theorem dX8_safe_51 : decode cX8_safe 51 = .ok (.iload_n 2, 1) := by decide +kernel
theorem dX8_safe_52 : decode cX8_safe 52 = .ok (.invokevirtual 241, 3) := by decide +kernel
theorem dX8_safe_55 : decode cX8_safe 55 = .ok (.aload_n 0, 1) := by decide +kernel
theorem dX8_safe_56 : decode cX8_safe 56 = .ok (.getfield 38, 3) := by decide +kernel
theorem dX8_safe_59 : decode cX8_safe 59 = .ok (.iload_n 1, 1) := by decide +kernel
theorem dX8_safe_60 : decode cX8_safe 60 = .ok (.bipush 10, 2) := by decide +kernel
theorem dX8_safe_62 : decode cX8_safe 62 = .ok (.idiv, 1) := by decide +kernel
theorem dX8_safe_63 : decode cX8_safe 63 = .ok (.iaload, 1) := by decide +kernel
theorem dX8_safe_64 : decode cX8_safe 64 = .ok (.ldc 240, 2) := by decide +kernel
theorem dX8_safe_66 : decode cX8_safe 66 = .ok (.if_icmp .ne 7, 3) := by decide +kernel
theorem dX8_safe_69 : decode cX8_safe 69 = .ok (.ldc2_w 263, 3) := by decide +kernel
theorem dX8_safe_72 : decode cX8_safe 72 = .ok (.lreturn, 1) := by decide +kernel
theorem dX8_safe_73 : decode cX8_safe 73 = .ok (.aload_n 0, 1) := by decide +kernel
theorem dX8_safe_74 : decode cX8_safe 74 = .ok (.iload_n 1, 1) := by decide +kernel
theorem dX8_safe_75 : decode cX8_safe 75 = .ok (.bipush 10, 2) := by decide +kernel
theorem dX8_safe_77 : decode cX8_safe 77 = .ok (.idiv, 1) := by decide +kernel
theorem dX8_safe_78 : decode cX8_safe 78 = .ok (.iload_n 1, 1) := by decide +kernel
theorem dX8_safe_79 : decode cX8_safe 79 = .ok (.bipush 10, 2) := by decide +kernel
theorem dX8_safe_81 : decode cX8_safe 81 = .ok (.irem, 1) := by decide +kernel
theorem dX8_safe_82 : decode cX8_safe 82 = .ok (.iload_n 2, 1) := by decide +kernel
theorem dX8_safe_83 : decode cX8_safe 83 = .ok (.iconst 0, 1) := by decide +kernel
theorem dX8_safe_84 : decode cX8_safe 84 = .ok (.invokevirtual 249, 3) := by decide +kernel
theorem dX8_safe_87 : decode cX8_safe 87 = .ok (.pop, 1) := by decide +kernel
theorem dX8_safe_88 : decode cX8_safe 88 = .ok (.aload_n 0, 1) := by decide +kernel
theorem dX8_safe_89 : decode cX8_safe 89 = .ok (.getfield 44, 3) := by decide +kernel
theorem dX8_safe_92 : decode cX8_safe 92 = .ok (.iload_n 1, 1) := by decide +kernel
theorem dX8_safe_93 : decode cX8_safe 93 = .ok (.bipush 10, 2) := by decide +kernel
theorem dX8_safe_95 : decode cX8_safe 95 = .ok (.idiv, 1) := by decide +kernel
theorem dX8_safe_96 : decode cX8_safe 96 = .ok (.iaload, 1) := by decide +kernel
theorem dX8_safe_97 : decode cX8_safe 97 = .ok (.istore 4, 2) := by decide +kernel
theorem dX8_safe_99 : decode cX8_safe 99 = .ok (.ldc2_w 107, 3) := by decide +kernel
theorem dX8_safe_102 : decode cX8_safe 102 = .ok (.iload 4, 2) := by decide +kernel
theorem dX8_safe_104 : decode cX8_safe 104 = .ok (.invokestatic 265, 3) := by decide +kernel
theorem dX8_safe_107 : decode cX8_safe 107 = .ok (.lstore 5, 2) := by decide +kernel
theorem dX8_safe_109 : decode cX8_safe 109 = .ok (.lload 5, 2) := by decide +kernel
theorem dX8_safe_111 : decode cX8_safe 111 = .ok (.bipush 12, 2) := by decide +kernel
theorem dX8_safe_113 : decode cX8_safe 113 = .ok (.aload_n 0, 1) := by decide +kernel
theorem dX8_safe_114 : decode cX8_safe 114 = .ok (.getfield 9, 3) := by decide +kernel
theorem dX8_safe_117 : decode cX8_safe 117 = .ok (.bipush 22, 2) := by decide +kernel
theorem dX8_safe_119 : decode cX8_safe 119 = .ok (.iaload, 1) := by decide +kernel
theorem dX8_safe_120 : decode cX8_safe 120 = .ok (.isub, 1) := by decide +kernel
theorem dX8_safe_121 : decode cX8_safe 121 = .ok (.i2l, 1) := by decide +kernel
theorem dX8_safe_122 : decode cX8_safe 122 = .ok (.iload 4, 2) := by decide +kernel
theorem dX8_safe_124 : decode cX8_safe 124 = .ok (.invokestatic 265, 3) := by decide +kernel
theorem dX8_safe_127 : decode cX8_safe 127 = .ok (.lsub, 1) := by decide +kernel
theorem dX8_safe_128 : decode cX8_safe 128 = .ok (.lstore 7, 2) := by decide +kernel
theorem dX8_safe_130 : decode cX8_safe 130 = .ok (.iload_n 3, 1) := by decide +kernel
theorem dX8_safe_131 : decode cX8_safe 131 = .ok (.bipush 10, 2) := by decide +kernel
theorem dX8_safe_133 : decode cX8_safe 133 = .ok (.idiv, 1) := by decide +kernel
theorem dX8_safe_134 : decode cX8_safe 134 = .ok (.iconst 1, 1) := by decide +kernel
theorem dX8_safe_135 : decode cX8_safe 135 = .ok (.if_icmp .ne 11, 3) := by decide +kernel
theorem dX8_safe_138 : decode cX8_safe 138 = .ok (.lload 5, 2) := by decide +kernel
theorem dX8_safe_140 : decode cX8_safe 140 = .ok (.lload 7, 2) := by decide +kernel
theorem dX8_safe_142 : decode cX8_safe 142 = .ok (.lsub, 1) := by decide +kernel
theorem dX8_safe_143 : decode cX8_safe 143 = .ok (.goto 14, 3) := by decide +kernel
theorem dX8_safe_146 : decode cX8_safe 146 = .ok (.lload 5, 2) := by decide +kernel
theorem dX8_safe_148 : decode cX8_safe 148 = .ok (.lload 5, 2) := by decide +kernel
theorem dX8_safe_150 : decode cX8_safe 150 = .ok (.lmul, 1) := by decide +kernel
theorem dX8_safe_151 : decode cX8_safe 151 = .ok (.lload 7, 2) := by decide +kernel
theorem dX8_safe_153 : decode cX8_safe 153 = .ok (.lload 7, 2) := by decide +kernel
theorem dX8_safe_155 : decode cX8_safe 155 = .ok (.lmul, 1) := by decide +kernel
theorem dX8_safe_156 : decode cX8_safe 156 = .ok (.lsub, 1) := by decide +kernel
theorem dX8_safe_157 : decode cX8_safe 157 = .ok (.lstore 9, 2) := by decide +kernel
theorem dX8_safe_159 : decode cX8_safe 159 = .ok (.iload_n 3, 1) := by decide +kernel
theorem dX8_safe_160 : decode cX8_safe 160 = .ok (.bipush 10, 2) := by decide +kernel
theorem dX8_safe_162 : decode cX8_safe 162 = .ok (.idiv, 1) := by decide +kernel
theorem dX8_safe_163 : decode cX8_safe 163 = .ok (.iconst 1, 1) := by decide +kernel
theorem dX8_safe_164 : decode cX8_safe 164 = .ok (.if_icmp .ne 8, 3) := by decide +kernel
theorem dX8_safe_167 : decode cX8_safe 167 = .ok (.lload 5, 2) := by decide +kernel
theorem dX8_safe_169 : decode cX8_safe 169 = .ok (.goto 8, 3) := by decide +kernel
theorem dX8_safe_172 : decode cX8_safe 172 = .ok (.lload 5, 2) := by decide +kernel
theorem dX8_safe_174 : decode cX8_safe 174 = .ok (.lload 5, 2) := by decide +kernel
theorem dX8_safe_176 : decode cX8_safe 176 = .ok (.lmul, 1) := by decide +kernel
theorem dX8_safe_177 : decode cX8_safe 177 = .ok (.lstore 11, 2) := by decide +kernel
theorem dX8_safe_179 : decode cX8_safe 179 = .ok (.lload 9, 2) := by decide +kernel
theorem dX8_safe_181 : decode cX8_safe 181 = .ok (.lstore 13, 2) := by decide +kernel
theorem dX8_safe_183 : decode cX8_safe 183 = .ok (.lload 11, 2) := by decide +kernel
theorem dX8_safe_185 : decode cX8_safe 185 = .ok (.lstore 15, 2) := by decide +kernel
theorem dX8_safe_187 : decode cX8_safe 187 = .ok (.lload 15, 2) := by decide +kernel
theorem dX8_safe_189 : decode cX8_safe 189 = .ok (.lconst 0, 1) := by decide +kernel
theorem dX8_safe_190 : decode cX8_safe 190 = .ok (.lcmp, 1) := by decide +kernel
theorem dX8_safe_191 : decode cX8_safe 191 = .ok (.ifCond .eq 21, 3) := by decide +kernel
theorem dX8_safe_194 : decode cX8_safe 194 = .ok (.lload 13, 2) := by decide +kernel
theorem dX8_safe_196 : decode cX8_safe 196 = .ok (.lload 15, 2) := by decide +kernel
theorem dX8_safe_198 : decode cX8_safe 198 = .ok (.lrem, 1) := by decide +kernel
theorem dX8_safe_199 : decode cX8_safe 199 = .ok (.lstore 17, 2) := by decide +kernel
theorem dX8_safe_201 : decode cX8_safe 201 = .ok (.lload 15, 2) := by decide +kernel
theorem dX8_safe_203 : decode cX8_safe 203 = .ok (.lstore 13, 2) := by decide +kernel
theorem dX8_safe_205 : decode cX8_safe 205 = .ok (.lload 17, 2) := by decide +kernel
theorem dX8_safe_207 : decode cX8_safe 207 = .ok (.lstore 15, 2) := by decide +kernel
theorem dX8_safe_209 : decode cX8_safe 209 = .ok (.goto (-22), 3) := by decide +kernel
theorem dX8_safe_212 : decode cX8_safe 212 = .ok (.iload_n 3, 1) := by decide +kernel
theorem dX8_safe_213 : decode cX8_safe 213 = .ok (.bipush 10, 2) := by decide +kernel
theorem dX8_safe_215 : decode cX8_safe 215 = .ok (.irem, 1) := by decide +kernel
theorem dX8_safe_216 : decode cX8_safe 216 = .ok (.ifCond .ne 11, 3) := by decide +kernel
theorem dX8_safe_219 : decode cX8_safe 219 = .ok (.lload 9, 2) := by decide +kernel
theorem dX8_safe_221 : decode cX8_safe 221 = .ok (.lload 13, 2) := by decide +kernel
theorem dX8_safe_223 : decode cX8_safe 223 = .ok (.ldiv, 1) := by decide +kernel
theorem dX8_safe_224 : decode cX8_safe 224 = .ok (.goto 8, 3) := by decide +kernel
theorem dX8_safe_227 : decode cX8_safe 227 = .ok (.lload 11, 2) := by decide +kernel
theorem dX8_safe_229 : decode cX8_safe 229 = .ok (.lload 13, 2) := by decide +kernel
theorem dX8_safe_231 : decode cX8_safe 231 = .ok (.ldiv, 1) := by decide +kernel
theorem dX8_safe_232 : decode cX8_safe 232 = .ok (.lreturn, 1) := by decide +kernel
set_option maxRecDepth 20000 in
theorem ggX8_bookIs_X8_isShelf : GoodIn wsX8_bookIs wsX8_isShelf := goodIn_r _ [5, 6, 7, 8, 4, 9] (by decide +kernel) (by decide +kernel)
set_option maxRecDepth 20000 in
theorem gX8_bookIs_X8_isShelf : GoodIn wsX8_bookIs (va_wsS RX8 118 yX8_isShelf wsX8_isShelf) := goodIn_app (goodIn_of _ (by decide +kernel)) ggX8_bookIs_X8_isShelf
theorem dX8_bookIs_0 : decode cX8_bookIs 0 = .ok (.iload_n 1, 1) := by decide +kernel
theorem dX8_bookIs_1 : decode cX8_bookIs 1 = .ok (.invokestatic 118, 3) := by decide +kernel
theorem dX8_bookIs_4 : decode cX8_bookIs 4 = .ok (.ifCond .ne 7, 3) := by decide +kernel
theorem dX8_bookIs_7 : decode cX8_bookIs 7 = .ok (.iconst (-1), 1) := by decide +kernel
theorem dX8_bookIs_8 : decode cX8_bookIs 8 = .ok (.goto 34, 3) := by decide +kernel
theorem dX8_bookIs_11 : decode cX8_bookIs 11 = .ok (.aload_n 0, 1) := by decide +kernel
theorem dX8_bookIs_12 : decode cX8_bookIs 12 = .ok (.getfield 71, 3) := by decide +kernel
theorem dX8_bookIs_15 : decode cX8_bookIs 15 = .ok (.iload_n 1, 1) := by decide +kernel
theorem dX8_bookIs_16 : decode cX8_bookIs 16 = .ok (.iaload, 1) := by decide +kernel
theorem dX8_bookIs_17 : decode cX8_bookIs 17 = .ok (.ifCond .ge 8, 3) := by decide +kernel
theorem dX8_bookIs_20 : decode cX8_bookIs 20 = .ok (.bipush (-11), 2) := by decide +kernel
theorem dX8_bookIs_22 : decode cX8_bookIs 22 = .ok (.goto 20, 3) := by decide +kernel
theorem dX8_bookIs_25 : decode cX8_bookIs 25 = .ok (.aload_n 0, 1) := by decide +kernel
theorem dX8_bookIs_26 : decode cX8_bookIs 26 = .ok (.getfield 71, 3) := by decide +kernel
theorem dX8_bookIs_29 : decode cX8_bookIs 29 = .ok (.iload_n 1, 1) := by decide +kernel
theorem dX8_bookIs_30 : decode cX8_bookIs 30 = .ok (.iaload, 1) := by decide +kernel
theorem dX8_bookIs_31 : decode cX8_bookIs 31 = .ok (.bipush 51, 2) := by decide +kernel
theorem dX8_bookIs_33 : decode cX8_bookIs 33 = .ok (.if_icmp .ne 7, 3) := by decide +kernel
theorem dX8_bookIs_36 : decode cX8_bookIs 36 = .ok (.iconst 1, 1) := by decide +kernel
theorem dX8_bookIs_37 : decode cX8_bookIs 37 = .ok (.goto 5, 3) := by decide +kernel
theorem dX8_bookIs_40 : decode cX8_bookIs 40 = .ok (.bipush (-12), 2) := by decide +kernel
theorem dX8_bookIs_42 : decode cX8_bookIs 42 = .ok (.ireturn, 1) := by decide +kernel
set_option maxRecDepth 20000 in
theorem ggX8_isSo_X8_isPq : GoodIn wsX8_isSo wsX8_isPq := goodIn_r _ [6, 7, 8, 9, 5, 10, 11, 12, 13, 14, 76, 77, 78, 79, 80, 81, 82, 83, 84, 85, 86, 87, 88, 89, 90, 91, 92, 93, 94, 95, 96, 97, 98, 99, 100, 101, 102, 103, 104, 105, 106, 107, 108, 109, 110, 111, 112, 113, 114, 115, 116, 117, 118, 119, 120, 121, 122, 123] (by decide +kernel) (by decide +kernel)
set_option maxRecDepth 20000 in
theorem gX8_isSo_X8_isPq : GoodIn wsX8_isSo (wsV RX8 220 RX8 yX8_isPq wsX8_isPq) := goodIn_app (goodIn_of _ (by decide +kernel)) ggX8_isSo_X8_isPq
set_option maxRecDepth 20000 in
theorem ggX8_isSo_X8_within : GoodIn wsX8_isSo wsX8_within := goodIn_r _ [14] (by decide +kernel) (by decide +kernel)
set_option maxRecDepth 20000 in
theorem gX8_isSo_X8_within : GoodIn wsX8_isSo (va_wsS RX8 97 yX8_within wsX8_within) := goodIn_app (goodIn_of _ (by decide +kernel)) ggX8_isSo_X8_within
set_option maxRecDepth 20000 in
theorem ggX8_isSo_X8_doSee : GoodIn wsX8_isSo wsX8_doSee := goodIn_r _ [18, 19, 20, 21, 22, 23, 24, 5, 25, 26, 27, 28, 29, 30, 31, 32, 33, 34, 35, 36, 37, 38, 39, 40, 41, 42, 43, 44, 45, 46, 47, 48, 49, 50, 51, 52, 53, 54, 55, 56, 57, 58, 59, 60, 61, 62, 63, 64, 65, 66, 67, 68, 69, 70, 71, 72, 73, 74, 75, 76, 77, 78, 79, 80, 81, 82, 83, 84, 85, 86, 87, 88, 89, 90, 91, 92, 93, 94, 95, 96, 97, 98, 99, 100, 101, 102, 103, 104, 105, 106, 107, 108, 109, 110, 111, 112, 113, 114, 115, 116, 117, 118, 119, 120, 121, 122, 123] (by decide +kernel) (by decide +kernel)
set_option maxRecDepth 20000 in
theorem gX8_isSo_X8_doSee : GoodIn wsX8_isSo (wsV RX8 216 RX8 yX8_doSee wsX8_doSee) := goodIn_app (goodIn_of _ (by decide +kernel)) ggX8_isSo_X8_doSee
theorem dX8_isSo_0 : decode cX8_isSo 0 = .ok (.aload_n 0, 1) := by decide +kernel
theorem dX8_isSo_1 : decode cX8_isSo 1 = .ok (.getfield 77, 3) := by decide +kernel
theorem dX8_isSo_4 : decode cX8_isSo 4 = .ok (.iload_n 1, 1) := by decide +kernel
theorem dX8_isSo_5 : decode cX8_isSo 5 = .ok (.laload, 1) := by decide +kernel
theorem dX8_isSo_6 : decode cX8_isSo 6 = .ok (.lstore_n 2, 1) := by decide +kernel
theorem dX8_isSo_7 : decode cX8_isSo 7 = .ok (.aload_n 0, 1) := by decide +kernel
theorem dX8_isSo_8 : decode cX8_isSo 8 = .ok (.getfield 77, 3) := by decide +kernel
theorem dX8_isSo_11 : decode cX8_isSo 11 = .ok (.iload_n 1, 1) := by decide +kernel
theorem dX8_isSo_12 : decode cX8_isSo 12 = .ok (.iconst 1, 1) := by decide +kernel
theorem dX8_isSo_13 : decode cX8_isSo 13 = .ok (.iadd, 1) := by decide +kernel
theorem dX8_isSo_14 : decode cX8_isSo 14 = .ok (.laload, 1) := by decide +kernel
theorem dX8_isSo_15 : decode cX8_isSo 15 = .ok (.lstore 4, 2) := by decide +kernel
theorem dX8_isSo_17 : decode cX8_isSo 17 = .ok (.aload_n 0, 1) := by decide +kernel
theorem dX8_isSo_18 : decode cX8_isSo 18 = .ok (.getfield 77, 3) := by decide +kernel
theorem dX8_isSo_21 : decode cX8_isSo 21 = .ok (.iload_n 1, 1) := by decide +kernel
theorem dX8_isSo_22 : decode cX8_isSo 22 = .ok (.iconst 2, 1) := by decide +kernel
theorem dX8_isSo_23 : decode cX8_isSo 23 = .ok (.iadd, 1) := by decide +kernel
theorem dX8_isSo_24 : decode cX8_isSo 24 = .ok (.laload, 1) := by decide +kernel
theorem dX8_isSo_25 : decode cX8_isSo 25 = .ok (.lstore 6, 2) := by decide +kernel
theorem dX8_isSo_27 : decode cX8_isSo 27 = .ok (.lload_n 2, 1) := by decide +kernel
theorem dX8_isSo_28 : decode cX8_isSo 28 = .ok (.lconst 0, 1) := by decide +kernel
theorem dX8_isSo_29 : decode cX8_isSo 29 = .ok (.lcmp, 1) := by decide +kernel
theorem dX8_isSo_30 : decode cX8_isSo 30 = .ok (.ifCond .lt 60, 3) := by decide +kernel
theorem dX8_isSo_33 : decode cX8_isSo 33 = .ok (.aload_n 0, 1) := by decide +kernel
theorem dX8_isSo_34 : decode cX8_isSo 34 = .ok (.lload 4, 2) := by decide +kernel
theorem dX8_isSo_36 : decode cX8_isSo 36 = .ok (.l2i, 1) := by decide +kernel
theorem dX8_isSo_37 : decode cX8_isSo 37 = .ok (.invokevirtual 220, 3) := by decide +kernel
theorem dX8_isSo_40 : decode cX8_isSo 40 = .ok (.ifCond .eq 50, 3) := by decide +kernel
theorem dX8_isSo_43 : decode cX8_isSo 43 = .ok (.lload 6, 2) := by decide +kernel
theorem dX8_isSo_45 : decode cX8_isSo 45 = .ok (.lconst 0, 1) := by decide +kernel
theorem dX8_isSo_46 : decode cX8_isSo 46 = .ok (.lconst 1, 1) := by decide +kernel
theorem dX8_isSo_47 : decode cX8_isSo 47 = .ok (.invokestatic 97, 3) := by decide +kernel
theorem dX8_isSo_50 : decode cX8_isSo 50 = .ok (.ifCond .eq 40, 3) := by decide +kernel
theorem dX8_isSo_53 : decode cX8_isSo 53 = .ok (.aload_n 0, 1) := by decide +kernel
theorem dX8_isSo_54 : decode cX8_isSo 54 = .ok (.lload 4, 2) := by decide +kernel
theorem dX8_isSo_56 : decode cX8_isSo 56 = .ok (.l2i, 1) := by decide +kernel
theorem dX8_isSo_57 : decode cX8_isSo 57 = .ok (.bipush 10, 2) := by decide +kernel
theorem dX8_isSo_59 : decode cX8_isSo 59 = .ok (.idiv, 1) := by decide +kernel
theorem dX8_isSo_60 : decode cX8_isSo 60 = .ok (.lload 4, 2) := by decide +kernel
theorem dX8_isSo_62 : decode cX8_isSo 62 = .ok (.l2i, 1) := by decide +kernel
theorem dX8_isSo_63 : decode cX8_isSo 63 = .ok (.bipush 10, 2) := by decide +kernel
theorem dX8_isSo_65 : decode cX8_isSo 65 = .ok (.irem, 1) := by decide +kernel
theorem dX8_isSo_66 : decode cX8_isSo 66 = .ok (.lload_n 2, 1) := by decide +kernel
theorem dX8_isSo_67 : decode cX8_isSo 67 = .ok (.l2i, 1) := by decide +kernel
theorem dX8_isSo_68 : decode cX8_isSo 68 = .ok (.invokevirtual 216, 3) := by decide +kernel
theorem dX8_isSo_71 : decode cX8_isSo 71 = .ok (.lload 6, 2) := by decide +kernel
theorem dX8_isSo_73 : decode cX8_isSo 73 = .ok (.lconst 1, 1) := by decide +kernel
theorem dX8_isSo_74 : decode cX8_isSo 74 = .ok (.lcmp, 1) := by decide +kernel
theorem dX8_isSo_75 : decode cX8_isSo 75 = .ok (.ifCond .ne 7, 3) := by decide +kernel
theorem dX8_isSo_78 : decode cX8_isSo 78 = .ok (.iconst 1, 1) := by decide +kernel
theorem dX8_isSo_79 : decode cX8_isSo 79 = .ok (.goto 4, 3) := by decide +kernel
theorem dX8_isSo_82 : decode cX8_isSo 82 = .ok (.iconst 0, 1) := by decide +kernel
theorem dX8_isSo_83 : decode cX8_isSo 83 = .ok (.if_icmp .ne 7, 3) := by decide +kernel
theorem dX8_isSo_86 : decode cX8_isSo 86 = .ok (.iconst 1, 1) := by decide +kernel
theorem dX8_isSo_87 : decode cX8_isSo 87 = .ok (.goto 4, 3) := by decide +kernel
theorem dX8_isSo_90 : decode cX8_isSo 90 = .ok (.iconst 0, 1) := by decide +kernel
theorem dX8_isSo_91 : decode cX8_isSo 91 = .ok (.ireturn, 1) := by decide +kernel
set_option maxRecDepth 20000 in
theorem ggX8_firstFalse_X8_isSo : GoodIn wsX8_firstFalse wsX8_isSo := goodIn_r _ [6, 7, 8, 9, 10, 5, 11, 12, 13, 14, 15, 16, 17, 18, 19, 20, 21, 22, 23, 24, 25, 26, 27, 28, 29, 30, 31, 32, 33, 34, 35, 36, 37, 38, 39, 40, 41, 42, 43, 44, 45, 46, 47, 48, 49, 50, 51, 52, 53, 54, 55, 56, 57, 58, 59, 60, 61, 62, 63, 64, 65, 66, 67, 68, 69, 70, 71, 72, 73, 74, 75, 76, 77, 78, 79, 80, 81, 82, 83, 84, 85, 86, 87, 88, 89, 90, 91, 92, 93, 94, 95, 96, 97, 98, 99, 100, 101, 102, 103, 104, 105, 106, 107, 108, 109, 110, 111, 112, 113, 114, 115, 116, 117, 118, 119, 120, 121, 122, 123, 124, 125, 126, 127, 128] (by decide +kernel) (by decide +kernel)
set_option maxRecDepth 20000 in
theorem gX8_firstFalse_X8_isSo : GoodIn wsX8_firstFalse (wsV RX8 269 RX8 yX8_isSo wsX8_isSo) := goodIn_app (goodIn_of _ (by decide +kernel)) ggX8_firstFalse_X8_isSo
theorem dX8_firstFalse_0 : decode cX8_firstFalse 0 = .ok (.iconst 0, 1) := by decide +kernel
theorem dX8_firstFalse_1 : decode cX8_firstFalse 1 = .ok (.istore_n 2, 1) := by decide +kernel
theorem dX8_firstFalse_2 : decode cX8_firstFalse 2 = .ok (.iconst 3, 1) := by decide +kernel
theorem dX8_firstFalse_3 : decode cX8_firstFalse 3 = .ok (.iload_n 2, 1) := by decide +kernel
theorem dX8_firstFalse_4 : decode cX8_firstFalse 4 = .ok (.imul, 1) := by decide +kernel
theorem dX8_firstFalse_5 : decode cX8_firstFalse 5 = .ok (.aload_n 0, 1) := by decide +kernel
theorem dX8_firstFalse_6 : decode cX8_firstFalse 6 = .ok (.getfield 74, 3) := by decide +kernel
theorem dX8_firstFalse_9 : decode cX8_firstFalse 9 = .ok (.iload_n 1, 1) := by decide +kernel
theorem dX8_firstFalse_10 : decode cX8_firstFalse 10 = .ok (.iaload, 1) := by decide +kernel
theorem dX8_firstFalse_11 : decode cX8_firstFalse 11 = .ok (.if_icmp .ge 40, 3) := by decide +kernel
theorem dX8_firstFalse_14 : decode cX8_firstFalse 14 = .ok (.iconst 3, 1) := by decide +kernel
theorem dX8_firstFalse_15 : decode cX8_firstFalse 15 = .ok (.iload_n 2, 1) := by decide +kernel
theorem dX8_firstFalse_16 : decode cX8_firstFalse 16 = .ok (.imul, 1) := by decide +kernel
theorem dX8_firstFalse_17 : decode cX8_firstFalse 17 = .ok (.iconst 2, 1) := by decide +kernel
theorem dX8_firstFalse_18 : decode cX8_firstFalse 18 = .ok (.iadd, 1) := by decide +kernel
theorem dX8_firstFalse_19 : decode cX8_firstFalse 19 = .ok (.aload_n 0, 1) := by decide +kernel
theorem dX8_firstFalse_20 : decode cX8_firstFalse 20 = .ok (.getfield 74, 3) := by decide +kernel
theorem dX8_firstFalse_23 : decode cX8_firstFalse 23 = .ok (.iload_n 1, 1) := by decide +kernel
theorem dX8_firstFalse_24 : decode cX8_firstFalse 24 = .ok (.iaload, 1) := by decide +kernel
theorem dX8_firstFalse_25 : decode cX8_firstFalse 25 = .ok (.if_icmp .ge 18, 3) := by decide +kernel
theorem dX8_firstFalse_28 : decode cX8_firstFalse 28 = .ok (.aload_n 0, 1) := by decide +kernel
theorem dX8_firstFalse_29 : decode cX8_firstFalse 29 = .ok (.bipush 60, 2) := by decide +kernel
theorem dX8_firstFalse_31 : decode cX8_firstFalse 31 = .ok (.iload_n 1, 1) := by decide +kernel
theorem dX8_firstFalse_32 : decode cX8_firstFalse 32 = .ok (.imul, 1) := by decide +kernel
theorem dX8_firstFalse_33 : decode cX8_firstFalse 33 = .ok (.iconst 3, 1) := by decide +kernel
theorem dX8_firstFalse_34 : decode cX8_firstFalse 34 = .ok (.iload_n 2, 1) := by decide +kernel
theorem dX8_firstFalse_35 : decode cX8_firstFalse 35 = .ok (.imul, 1) := by decide +kernel
theorem dX8_firstFalse_36 : decode cX8_firstFalse 36 = .ok (.iadd, 1) := by decide +kernel
theorem dX8_firstFalse_37 : decode cX8_firstFalse 37 = .ok (.invokevirtual 269, 3) := by decide +kernel
theorem dX8_firstFalse_40 : decode cX8_firstFalse 40 = .ok (.ifCond .ne 5, 3) := by decide +kernel
theorem dX8_firstFalse_43 : decode cX8_firstFalse 43 = .ok (.iload_n 2, 1) := by decide +kernel
theorem dX8_firstFalse_44 : decode cX8_firstFalse 44 = .ok (.ireturn, 1) := by decide +kernel
theorem dX8_firstFalse_45 : decode cX8_firstFalse 45 = .ok (.iinc 2 1, 3) := by decide +kernel
theorem dX8_firstFalse_48 : decode cX8_firstFalse 48 = .ok (.goto (-46), 3) := by decide +kernel
theorem dX8_firstFalse_51 : decode cX8_firstFalse 51 = .ok (.bipush (-2), 2) := by decide +kernel
theorem dX8_firstFalse_53 : decode cX8_firstFalse 53 = .ok (.ireturn, 1) := by decide +kernel
set_option maxRecDepth 20000 in
theorem ggX8_judge_X8_bookIs : GoodIn wsX8_judge wsX8_bookIs := goodIn_r _ [5, 6, 7, 8, 4, 9, 10, 11, 12, 13, 94, 95, 96, 97, 98, 99, 100, 101, 102, 103, 104, 105, 106, 107, 108, 109, 110, 111, 112, 113, 114, 115, 116, 117, 118, 119, 120, 121, 122, 123, 124, 125, 126, 127, 128, 129, 130, 131, 132, 133, 134, 135, 136, 137, 138, 139, 140, 141] (by decide +kernel) (by decide +kernel)
set_option maxRecDepth 20000 in
theorem gX8_judge_X8_bookIs : GoodIn wsX8_judge (wsV RX8 272 RX8 yX8_bookIs wsX8_bookIs) := goodIn_app (goodIn_of _ (by decide +kernel)) ggX8_judge_X8_bookIs
set_option maxRecDepth 20000 in
theorem ggX8_judge_X8_firstFalse : GoodIn wsX8_judge wsX8_firstFalse := goodIn_r _ [17, 18, 19, 20, 21, 4, 22, 23, 24, 25, 26, 27, 28, 29, 30, 31, 32, 11, 12, 13, 33, 34, 35, 36, 37, 38, 39, 40, 41, 42, 43, 44, 45, 46, 47, 48, 49, 50, 51, 52, 53, 54, 55, 56, 57, 58, 59, 60, 61, 62, 63, 64, 65, 66, 67, 68, 69, 70, 71, 72, 73, 74, 75, 76, 77, 78, 79, 80, 81, 82, 83, 84, 85, 86, 87, 88, 89, 90, 91, 92, 93, 94, 95, 96, 97, 98, 99, 100, 101, 102, 103, 104, 105, 106, 107, 108, 109, 110, 111, 112, 113, 114, 115, 116, 117, 118, 119, 120, 121, 122, 123, 124, 125, 126, 127, 128, 129, 130, 131, 132, 133, 134, 135, 136, 137, 138, 139, 140, 141] (by decide +kernel) (by decide +kernel)
set_option maxRecDepth 20000 in
theorem gX8_judge_X8_firstFalse : GoodIn wsX8_judge (wsV RX8 275 RX8 yX8_firstFalse wsX8_firstFalse) := goodIn_app (goodIn_of _ (by decide +kernel)) ggX8_judge_X8_firstFalse
theorem dX8_judge_0 : decode cX8_judge 0 = .ok (.aload_n 0, 1) := by decide +kernel
theorem dX8_judge_1 : decode cX8_judge 1 = .ok (.iload_n 1, 1) := by decide +kernel
theorem dX8_judge_2 : decode cX8_judge 2 = .ok (.invokevirtual 272, 3) := by decide +kernel
theorem dX8_judge_5 : decode cX8_judge 5 = .ok (.ifCond .ge 11, 3) := by decide +kernel
theorem dX8_judge_8 : decode cX8_judge 8 = .ok (.aload_n 0, 1) := by decide +kernel
theorem dX8_judge_9 : decode cX8_judge 9 = .ok (.iload_n 1, 1) := by decide +kernel
theorem dX8_judge_10 : decode cX8_judge 10 = .ok (.invokevirtual 272, 3) := by decide +kernel
theorem dX8_judge_13 : decode cX8_judge 13 = .ok (.goto 8, 3) := by decide +kernel
theorem dX8_judge_16 : decode cX8_judge 16 = .ok (.aload_n 0, 1) := by decide +kernel
theorem dX8_judge_17 : decode cX8_judge 17 = .ok (.iload_n 1, 1) := by decide +kernel
theorem dX8_judge_18 : decode cX8_judge 18 = .ok (.invokevirtual 275, 3) := by decide +kernel
theorem dX8_judge_21 : decode cX8_judge 21 = .ok (.ireturn, 1) := by decide +kernel
set_option maxRecDepth 20000 in
theorem ggX8_startsBy_X8_firstFalse : GoodIn wsX8_startsBy wsX8_firstFalse := goodIn_r _ [8, 9, 10, 11, 12, 7, 13, 14, 15, 16, 17, 18, 19, 20, 21, 22, 23, 24, 25, 26, 27, 28, 29, 30, 31, 1, 32, 33, 34, 35, 36, 37, 38, 39, 40, 41, 42, 43, 44, 45, 46, 47, 48, 49, 50, 51, 52, 53, 54, 55, 56, 57, 58, 59, 60, 61, 62, 63, 64, 65, 66, 67, 68, 69, 70, 71, 72, 73, 74, 75, 76, 77, 78, 79, 80, 81, 82, 83, 84, 85, 86, 87, 88, 89, 90, 91, 92, 93, 94, 95, 96, 97, 98, 99, 100, 101, 102, 103, 104, 105, 106, 107, 108, 109, 110, 111, 112, 113, 114, 115, 116, 117, 118, 119, 120, 121, 122, 123, 124, 125, 126, 127, 128, 129, 130, 131, 132, 133, 134] (by decide +kernel) (by decide +kernel)
set_option maxRecDepth 20000 in
theorem gX8_startsBy_X8_firstFalse : GoodIn wsX8_startsBy (wsV RX8 275 RX8 yX8_firstFalse wsX8_firstFalse) := goodIn_app (goodIn_of _ (by decide +kernel)) ggX8_startsBy_X8_firstFalse
theorem dX8_startsBy_0 : decode cX8_startsBy 0 = .ok (.aload_n 0, 1) := by decide +kernel
theorem dX8_startsBy_1 : decode cX8_startsBy 1 = .ok (.getfield 9, 3) := by decide +kernel
theorem dX8_startsBy_4 : decode cX8_startsBy 4 = .ok (.bipush 7, 2) := by decide +kernel
theorem dX8_startsBy_6 : decode cX8_startsBy 6 = .ok (.iload_n 2, 1) := by decide +kernel
theorem dX8_startsBy_7 : decode cX8_startsBy 7 = .ok (.iadd, 1) := by decide +kernel
theorem dX8_startsBy_8 : decode cX8_startsBy 8 = .ok (.iaload, 1) := by decide +kernel
theorem dX8_startsBy_9 : decode cX8_startsBy 9 = .ok (.istore_n 3, 1) := by decide +kernel
theorem dX8_startsBy_10 : decode cX8_startsBy 10 = .ok (.iconst 0, 1) := by decide +kernel
theorem dX8_startsBy_11 : decode cX8_startsBy 11 = .ok (.istore 4, 2) := by decide +kernel
theorem dX8_startsBy_13 : decode cX8_startsBy 13 = .ok (.aload_n 0, 1) := by decide +kernel
theorem dX8_startsBy_14 : decode cX8_startsBy 14 = .ok (.bipush (-2), 2) := by decide +kernel
theorem dX8_startsBy_16 : decode cX8_startsBy 16 = .ok (.putfield 278, 3) := by decide +kernel
theorem dX8_startsBy_19 : decode cX8_startsBy 19 = .ok (.aload_n 0, 1) := by decide +kernel
theorem dX8_startsBy_20 : decode cX8_startsBy 20 = .ok (.bipush (-2), 2) := by decide +kernel
theorem dX8_startsBy_22 : decode cX8_startsBy 22 = .ok (.putfield 281, 3) := by decide +kernel
theorem dX8_startsBy_25 : decode cX8_startsBy 25 = .ok (.iconst 0, 1) := by decide +kernel
theorem dX8_startsBy_26 : decode cX8_startsBy 26 = .ok (.istore 5, 2) := by decide +kernel
theorem dX8_startsBy_28 : decode cX8_startsBy 28 = .ok (.iload 5, 2) := by decide +kernel
theorem dX8_startsBy_30 : decode cX8_startsBy 30 = .ok (.aload_n 0, 1) := by decide +kernel
theorem dX8_startsBy_31 : decode cX8_startsBy 31 = .ok (.getfield 9, 3) := by decide +kernel
theorem dX8_startsBy_34 : decode cX8_startsBy 34 = .ok (.iload_n 2, 1) := by decide +kernel
theorem dX8_startsBy_35 : decode cX8_startsBy 35 = .ok (.iaload, 1) := by decide +kernel
theorem dX8_startsBy_36 : decode cX8_startsBy 36 = .ok (.if_icmp .ge 77, 3) := by decide +kernel
theorem dX8_startsBy_39 : decode cX8_startsBy 39 = .ok (.aload_n 0, 1) := by decide +kernel
theorem dX8_startsBy_40 : decode cX8_startsBy 40 = .ok (.getfield 9, 3) := by decide +kernel
theorem dX8_startsBy_43 : decode cX8_startsBy 43 = .ok (.bipush 7, 2) := by decide +kernel
theorem dX8_startsBy_45 : decode cX8_startsBy 45 = .ok (.iload_n 2, 1) := by decide +kernel
theorem dX8_startsBy_46 : decode cX8_startsBy 46 = .ok (.iadd, 1) := by decide +kernel
theorem dX8_startsBy_47 : decode cX8_startsBy 47 = .ok (.iload 5, 2) := by decide +kernel
theorem dX8_startsBy_49 : decode cX8_startsBy 49 = .ok (.iastore, 1) := by decide +kernel
theorem dX8_startsBy_50 : decode cX8_startsBy 50 = .ok (.aload_n 0, 1) := by decide +kernel
theorem dX8_startsBy_51 : decode cX8_startsBy 51 = .ok (.iload_n 1, 1) := by decide +kernel
theorem dX8_startsBy_52 : decode cX8_startsBy 52 = .ok (.invokevirtual 275, 3) := by decide +kernel
theorem dX8_startsBy_55 : decode cX8_startsBy 55 = .ok (.bipush (-2), 2) := by decide +kernel
theorem dX8_startsBy_57 : decode cX8_startsBy 57 = .ok (.if_icmp .ne 50, 3) := by decide +kernel
theorem dX8_startsBy_60 : decode cX8_startsBy 60 = .ok (.aload_n 0, 1) := by decide +kernel
theorem dX8_startsBy_61 : decode cX8_startsBy 61 = .ok (.iload 4, 2) := by decide +kernel
theorem dX8_startsBy_63 : decode cX8_startsBy 63 = .ok (.ifCond .ne 8, 3) := by decide +kernel
theorem dX8_startsBy_66 : decode cX8_startsBy 66 = .ok (.iload 5, 2) := by decide +kernel
theorem dX8_startsBy_68 : decode cX8_startsBy 68 = .ok (.goto 7, 3) := by decide +kernel
theorem dX8_startsBy_71 : decode cX8_startsBy 71 = .ok (.aload_n 0, 1) := by decide +kernel
theorem dX8_startsBy_72 : decode cX8_startsBy 72 = .ok (.getfield 278, 3) := by decide +kernel
theorem dX8_startsBy_75 : decode cX8_startsBy 75 = .ok (.putfield 278, 3) := by decide +kernel
theorem dX8_startsBy_78 : decode cX8_startsBy 78 = .ok (.aload_n 0, 1) := by decide +kernel
theorem dX8_startsBy_79 : decode cX8_startsBy 79 = .ok (.iload 5, 2) := by decide +kernel
theorem dX8_startsBy_81 : decode cX8_startsBy 81 = .ok (.iload_n 3, 1) := by decide +kernel
theorem dX8_startsBy_82 : decode cX8_startsBy 82 = .ok (.aload_n 0, 1) := by decide +kernel
theorem dX8_startsBy_83 : decode cX8_startsBy 83 = .ok (.getfield 9, 3) := by decide +kernel
theorem dX8_startsBy_86 : decode cX8_startsBy 86 = .ok (.iload_n 2, 1) := by decide +kernel
theorem dX8_startsBy_87 : decode cX8_startsBy 87 = .ok (.iaload, 1) := by decide +kernel
theorem dX8_startsBy_88 : decode cX8_startsBy 88 = .ok (.irem, 1) := by decide +kernel
theorem dX8_startsBy_89 : decode cX8_startsBy 89 = .ok (.if_icmp .eq 8, 3) := by decide +kernel
theorem dX8_startsBy_92 : decode cX8_startsBy 92 = .ok (.iload 5, 2) := by decide +kernel
theorem dX8_startsBy_94 : decode cX8_startsBy 94 = .ok (.goto 7, 3) := by decide +kernel
theorem dX8_startsBy_97 : decode cX8_startsBy 97 = .ok (.aload_n 0, 1) := by decide +kernel
theorem dX8_startsBy_98 : decode cX8_startsBy 98 = .ok (.getfield 281, 3) := by decide +kernel
theorem dX8_startsBy_101 : decode cX8_startsBy 101 = .ok (.putfield 281, 3) := by decide +kernel
theorem dX8_startsBy_104 : decode cX8_startsBy 104 = .ok (.iinc 4 1, 3) := by decide +kernel
theorem dX8_startsBy_107 : decode cX8_startsBy 107 = .ok (.iinc 5 1, 3) := by decide +kernel
theorem dX8_startsBy_110 : decode cX8_startsBy 110 = .ok (.goto (-82), 3) := by decide +kernel
theorem dX8_startsBy_113 : decode cX8_startsBy 113 = .ok (.aload_n 0, 1) := by decide +kernel
theorem dX8_startsBy_114 : decode cX8_startsBy 114 = .ok (.getfield 9, 3) := by decide +kernel
theorem dX8_startsBy_117 : decode cX8_startsBy 117 = .ok (.bipush 7, 2) := by decide +kernel
theorem dX8_startsBy_119 : decode cX8_startsBy 119 = .ok (.iload_n 2, 1) := by decide +kernel
theorem dX8_startsBy_120 : decode cX8_startsBy 120 = .ok (.iadd, 1) := by decide +kernel
theorem dX8_startsBy_121 : decode cX8_startsBy 121 = .ok (.iload_n 3, 1) := by decide +kernel
theorem dX8_startsBy_122 : decode cX8_startsBy 122 = .ok (.iastore, 1) := by decide +kernel
theorem dX8_startsBy_123 : decode cX8_startsBy 123 = .ok (.iload 4, 2) := by decide +kernel
theorem dX8_startsBy_125 : decode cX8_startsBy 125 = .ok (.ireturn, 1) := by decide +kernel
set_option maxRecDepth 20000 in
theorem ggX8_stepped_X8_isShelf : GoodIn wsX8_stepped wsX8_isShelf := goodIn_r _ [5, 6, 7, 8, 4, 9] (by decide +kernel) (by decide +kernel)
set_option maxRecDepth 20000 in
theorem gX8_stepped_X8_isShelf : GoodIn wsX8_stepped (va_wsS RX8 118 yX8_isShelf wsX8_isShelf) := goodIn_app (goodIn_of _ (by decide +kernel)) ggX8_stepped_X8_isShelf
set_option maxRecDepth 20000 in
theorem ggX8_stepped_X8_isWorld : GoodIn wsX8_stepped wsX8_isWorld := goodIn_r _ [13, 14, 7, 8, 4, 9, 100, 101, 102, 103, 104, 105, 106, 107, 108, 109, 110, 111, 112, 113, 114, 115, 116, 117, 118, 119, 120, 121, 122, 123, 124, 125, 126, 127, 128, 129, 130, 131, 132, 133, 134, 135, 136, 137, 138, 139, 140, 141, 142, 143, 144, 145, 146, 147] (by decide +kernel) (by decide +kernel)
set_option maxRecDepth 20000 in
theorem gX8_stepped_X8_isWorld : GoodIn wsX8_stepped (wsV RX8 101 RX8 yX8_isWorld wsX8_isWorld) := goodIn_app (goodIn_of _ (by decide +kernel)) ggX8_stepped_X8_isWorld
set_option maxRecDepth 20000 in
theorem ggX8_stepped_X8_within : GoodIn wsX8_stepped wsX8_within := goodIn_r _ [9] (by decide +kernel) (by decide +kernel)
set_option maxRecDepth 20000 in
theorem gX8_stepped_X8_within : GoodIn wsX8_stepped (va_wsS RX8 97 yX8_within wsX8_within) := goodIn_app (goodIn_of _ (by decide +kernel)) ggX8_stepped_X8_within
set_option maxRecDepth 20000 in
theorem ggX8_stepped_X8_bookIs : GoodIn wsX8_stepped wsX8_bookIs := goodIn_r _ [18, 19, 2, 3, 4, 5, 6, 7, 8, 9, 100, 101, 102, 103, 104, 105, 106, 107, 108, 109, 110, 111, 112, 113, 114, 115, 116, 117, 118, 119, 120, 121, 122, 123, 124, 125, 126, 127, 128, 129, 130, 131, 132, 133, 134, 135, 136, 137, 138, 139, 140, 141, 142, 143, 144, 145, 146, 147] (by decide +kernel) (by decide +kernel)
set_option maxRecDepth 20000 in
theorem gX8_stepped_X8_bookIs : GoodIn wsX8_stepped (wsV RX8 272 RX8 yX8_bookIs wsX8_bookIs) := goodIn_app (goodIn_of _ (by decide +kernel)) ggX8_stepped_X8_bookIs
set_option maxRecDepth 20000 in
theorem ggX8_stepped_X8_startsBy : GoodIn wsX8_stepped wsX8_startsBy := goodIn_r _ [23, 24, 1, 25, 26, 27, 28, 4, 29, 30, 31, 32, 33, 34, 35, 36, 37, 38, 39, 10, 11, 12, 13, 14, 7, 8, 9, 40, 41, 42, 43, 44, 45, 46, 47, 48, 49, 50, 51, 52, 53, 54, 55, 56, 57, 58, 59, 60, 61, 62, 63, 64, 65, 66, 67, 68, 69, 70, 71, 72, 73, 74, 75, 76, 77, 78, 79, 80, 81, 82, 83, 84, 85, 86, 87, 88, 89, 90, 91, 92, 93, 94, 95, 96, 97, 98, 99, 100, 101, 102, 103, 104, 105, 106, 107, 108, 109, 110, 111, 112, 113, 114, 115, 116, 117, 118, 119, 120, 121, 122, 123, 124, 125, 126, 127, 128, 129, 130, 131, 132, 133, 134, 135, 136, 137, 138, 139, 140, 141, 142, 143, 144, 145, 146, 147] (by decide +kernel) (by decide +kernel)
set_option maxRecDepth 20000 in
theorem gX8_stepped_X8_startsBy : GoodIn wsX8_stepped (wsV RX8 284 RX8 yX8_startsBy wsX8_startsBy) := goodIn_app (goodIn_of _ (by decide +kernel)) ggX8_stepped_X8_startsBy
theorem dX8_stepped_0 : decode cX8_stepped 0 = .ok (.iload_n 1, 1) := by decide +kernel
theorem dX8_stepped_1 : decode cX8_stepped 1 = .ok (.invokestatic 118, 3) := by decide +kernel
theorem dX8_stepped_4 : decode cX8_stepped 4 = .ok (.ifCond .eq 21, 3) := by decide +kernel
theorem dX8_stepped_7 : decode cX8_stepped 7 = .ok (.aload_n 0, 1) := by decide +kernel
theorem dX8_stepped_8 : decode cX8_stepped 8 = .ok (.iload_n 2, 1) := by decide +kernel
theorem dX8_stepped_9 : decode cX8_stepped 9 = .ok (.invokevirtual 101, 3) := by decide +kernel
theorem dX8_stepped_12 : decode cX8_stepped 12 = .ok (.ifCond .eq 13, 3) := by decide +kernel
theorem dX8_stepped_15 : decode cX8_stepped 15 = .ok (.iload_n 3, 1) := by decide +kernel
theorem dX8_stepped_16 : decode cX8_stepped 16 = .ok (.i2l, 1) := by decide +kernel
theorem dX8_stepped_17 : decode cX8_stepped 17 = .ok (.lconst 0, 1) := by decide +kernel
theorem dX8_stepped_18 : decode cX8_stepped 18 = .ok (.lconst 1, 1) := by decide +kernel
theorem dX8_stepped_19 : decode cX8_stepped 19 = .ok (.invokestatic 97, 3) := by decide +kernel
theorem dX8_stepped_22 : decode cX8_stepped 22 = .ok (.ifCond .ne 5, 3) := by decide +kernel
theorem dX8_stepped_25 : decode cX8_stepped 25 = .ok (.iconst (-1), 1) := by decide +kernel
theorem dX8_stepped_26 : decode cX8_stepped 26 = .ok (.ireturn, 1) := by decide +kernel
theorem dX8_stepped_27 : decode cX8_stepped 27 = .ok (.aload_n 0, 1) := by decide +kernel
theorem dX8_stepped_28 : decode cX8_stepped 28 = .ok (.iload_n 1, 1) := by decide +kernel
theorem dX8_stepped_29 : decode cX8_stepped 29 = .ok (.invokevirtual 272, 3) := by decide +kernel
theorem dX8_stepped_32 : decode cX8_stepped 32 = .ok (.ifCond .ge 9, 3) := by decide +kernel
theorem dX8_stepped_35 : decode cX8_stepped 35 = .ok (.aload_n 0, 1) := by decide +kernel
theorem dX8_stepped_36 : decode cX8_stepped 36 = .ok (.iload_n 1, 1) := by decide +kernel
theorem dX8_stepped_37 : decode cX8_stepped 37 = .ok (.invokevirtual 272, 3) := by decide +kernel
theorem dX8_stepped_40 : decode cX8_stepped 40 = .ok (.ireturn, 1) := by decide +kernel
theorem dX8_stepped_41 : decode cX8_stepped 41 = .ok (.aload_n 0, 1) := by decide +kernel
theorem dX8_stepped_42 : decode cX8_stepped 42 = .ok (.iload_n 1, 1) := by decide +kernel
theorem dX8_stepped_43 : decode cX8_stepped 43 = .ok (.iload_n 2, 1) := by decide +kernel
theorem dX8_stepped_44 : decode cX8_stepped 44 = .ok (.invokevirtual 284, 3) := by decide +kernel
theorem dX8_stepped_47 : decode cX8_stepped 47 = .ok (.istore 4, 2) := by decide +kernel
theorem dX8_stepped_49 : decode cX8_stepped 49 = .ok (.iload_n 3, 1) := by decide +kernel
theorem dX8_stepped_50 : decode cX8_stepped 50 = .ok (.ifCond .ne 8, 3) := by decide +kernel
theorem dX8_stepped_53 : decode cX8_stepped 53 = .ok (.iload 4, 2) := by decide +kernel
theorem dX8_stepped_55 : decode cX8_stepped 55 = .ok (.goto 7, 3) := by decide +kernel
theorem dX8_stepped_58 : decode cX8_stepped 58 = .ok (.aload_n 0, 1) := by decide +kernel
theorem dX8_stepped_59 : decode cX8_stepped 59 = .ok (.getfield 278, 3) := by decide +kernel
theorem dX8_stepped_62 : decode cX8_stepped 62 = .ok (.ireturn, 1) := by decide +kernel
set_option maxRecDepth 20000 in
theorem ggX8_whose_X8_bookIs : GoodIn wsX8_whose wsX8_bookIs := goodIn_r _ [7, 8, 9, 10, 6, 11, 12, 13, 14, 15, 100, 101, 102, 103, 104, 105, 106, 107, 108, 109, 110, 111, 112, 113, 114, 115, 116, 117, 118, 119, 120, 121, 122, 123, 124, 125, 126, 127, 128, 129, 130, 131, 132, 133, 134, 135, 136, 137, 138, 139, 140, 141, 142, 143, 144, 145, 146, 147] (by decide +kernel) (by decide +kernel)
set_option maxRecDepth 20000 in
theorem gX8_whose_X8_bookIs : GoodIn wsX8_whose (wsV RX8 272 RX8 yX8_bookIs wsX8_bookIs) := goodIn_app (goodIn_of _ (by decide +kernel)) ggX8_whose_X8_bookIs
set_option maxRecDepth 20000 in
theorem ggX8_whose_X8_startsBy : GoodIn wsX8_whose wsX8_startsBy := goodIn_r _ [19, 20, 21, 2, 22, 23, 24, 6, 25, 26, 27, 28, 29, 30, 31, 32, 33, 34, 35, 36, 37, 38, 39, 1, 13, 14, 15, 40, 41, 42, 43, 44, 45, 46, 47, 48, 49, 50, 51, 52, 53, 54, 55, 56, 57, 58, 59, 60, 61, 62, 63, 64, 65, 66, 67, 68, 69, 70, 71, 72, 73, 74, 75, 76, 77, 78, 79, 80, 81, 82, 83, 84, 85, 86, 87, 88, 89, 90, 91, 92, 93, 94, 95, 96, 97, 98, 99, 100, 101, 102, 103, 104, 105, 106, 107, 108, 109, 110, 111, 112, 113, 114, 115, 116, 117, 118, 119, 120, 121, 122, 123, 124, 125, 126, 127, 128, 129, 130, 131, 132, 133, 134, 135, 136, 137, 138, 139, 140, 141, 142, 143, 144, 145, 146, 147] (by decide +kernel) (by decide +kernel)
set_option maxRecDepth 20000 in
theorem gX8_whose_X8_startsBy : GoodIn wsX8_whose (wsV RX8 284 RX8 yX8_startsBy wsX8_startsBy) := goodIn_app (goodIn_of _ (by decide +kernel)) ggX8_whose_X8_startsBy
theorem dX8_whose_0 : decode cX8_whose 0 = .ok (.aload_n 0, 1) := by decide +kernel
theorem dX8_whose_1 : decode cX8_whose 1 = .ok (.iload_n 1, 1) := by decide +kernel
theorem dX8_whose_2 : decode cX8_whose 2 = .ok (.invokevirtual 272, 3) := by decide +kernel
theorem dX8_whose_5 : decode cX8_whose 5 = .ok (.ifCond .ge 9, 3) := by decide +kernel
theorem dX8_whose_8 : decode cX8_whose 8 = .ok (.aload_n 0, 1) := by decide +kernel
theorem dX8_whose_9 : decode cX8_whose 9 = .ok (.iload_n 1, 1) := by decide +kernel
theorem dX8_whose_10 : decode cX8_whose 10 = .ok (.invokevirtual 272, 3) := by decide +kernel
theorem dX8_whose_13 : decode cX8_whose 13 = .ok (.ireturn, 1) := by decide +kernel
theorem dX8_whose_14 : decode cX8_whose 14 = .ok (.iconst 0, 1) := by decide +kernel
theorem dX8_whose_15 : decode cX8_whose 15 = .ok (.istore_n 2, 1) := by decide +kernel
theorem dX8_whose_16 : decode cX8_whose 16 = .ok (.iconst 0, 1) := by decide +kernel
theorem dX8_whose_17 : decode cX8_whose 17 = .ok (.istore_n 3, 1) := by decide +kernel
theorem dX8_whose_18 : decode cX8_whose 18 = .ok (.iload_n 3, 1) := by decide +kernel
theorem dX8_whose_19 : decode cX8_whose 19 = .ok (.aload_n 0, 1) := by decide +kernel
theorem dX8_whose_20 : decode cX8_whose 20 = .ok (.getfield 94, 3) := by decide +kernel
theorem dX8_whose_23 : decode cX8_whose 23 = .ok (.if_icmp .ge 33, 3) := by decide +kernel
theorem dX8_whose_26 : decode cX8_whose 26 = .ok (.aload_n 0, 1) := by decide +kernel
theorem dX8_whose_27 : decode cX8_whose 27 = .ok (.iload_n 1, 1) := by decide +kernel
theorem dX8_whose_28 : decode cX8_whose 28 = .ok (.iload_n 3, 1) := by decide +kernel
theorem dX8_whose_29 : decode cX8_whose 29 = .ok (.invokevirtual 284, 3) := by decide +kernel
theorem dX8_whose_32 : decode cX8_whose 32 = .ok (.pop, 1) := by decide +kernel
theorem dX8_whose_33 : decode cX8_whose 33 = .ok (.iload_n 2, 1) := by decide +kernel
theorem dX8_whose_34 : decode cX8_whose 34 = .ok (.aload_n 0, 1) := by decide +kernel
theorem dX8_whose_35 : decode cX8_whose 35 = .ok (.getfield 281, 3) := by decide +kernel
theorem dX8_whose_38 : decode cX8_whose 38 = .ok (.ifCond .lt 9, 3) := by decide +kernel
theorem dX8_whose_41 : decode cX8_whose 41 = .ok (.iconst 1, 1) := by decide +kernel
theorem dX8_whose_42 : decode cX8_whose 42 = .ok (.iload_n 3, 1) := by decide +kernel
theorem dX8_whose_43 : decode cX8_whose 43 = .ok (.ishl, 1) := by decide +kernel
theorem dX8_whose_44 : decode cX8_whose 44 = .ok (.goto 4, 3) := by decide +kernel
theorem dX8_whose_47 : decode cX8_whose 47 = .ok (.iconst 0, 1) := by decide +kernel
theorem dX8_whose_48 : decode cX8_whose 48 = .ok (.ior, 1) := by decide +kernel
theorem dX8_whose_49 : decode cX8_whose 49 = .ok (.istore_n 2, 1) := by decide +kernel
theorem dX8_whose_50 : decode cX8_whose 50 = .ok (.iinc 3 1, 3) := by decide +kernel
theorem dX8_whose_53 : decode cX8_whose 53 = .ok (.goto (-35), 3) := by decide +kernel
theorem dX8_whose_56 : decode cX8_whose 56 = .ok (.iload_n 2, 1) := by decide +kernel
theorem dX8_whose_57 : decode cX8_whose 57 = .ok (.ireturn, 1) := by decide +kernel
set_option maxRecDepth 20000 in
theorem ggX8_send_X8_isPq : GoodIn wsX8_send wsX8_isPq := goodIn_r _ [7, 8, 9, 10, 6, 11, 12, 13, 14, 15, 16, 17, 18, 19, 20, 21, 22, 23, 24, 25, 26, 27, 28, 29, 30, 31, 32, 33, 34, 35, 36, 37, 38, 39, 40, 41, 42, 43, 44, 45, 46, 47, 48, 49, 50, 51, 52, 53, 54, 55, 56, 57, 58, 59, 60, 61, 62, 63] (by decide +kernel) (by decide +kernel)
set_option maxRecDepth 20000 in
theorem gX8_send_X8_isPq : GoodIn wsX8_send (wsV RX8 220 RX8 yX8_isPq wsX8_isPq) := goodIn_app (goodIn_of _ (by decide +kernel)) ggX8_send_X8_isPq
theorem dX8_send_0 : decode cX8_send 0 = .ok (.aload_n 0, 1) := by decide +kernel
theorem dX8_send_1 : decode cX8_send 1 = .ok (.iload_n 1, 1) := by decide +kernel
theorem dX8_send_2 : decode cX8_send 2 = .ok (.invokevirtual 220, 3) := by decide +kernel
theorem dX8_send_5 : decode cX8_send 5 = .ok (.ifCond .ne 5, 3) := by decide +kernel
theorem dX8_send_8 : decode cX8_send 8 = .ok (.iconst (-1), 1) := by decide +kernel
theorem dX8_send_9 : decode cX8_send 9 = .ok (.ireturn, 1) := by decide +kernel
theorem dX8_send_10 : decode cX8_send 10 = .ok (.aload_n 0, 1) := by decide +kernel
theorem dX8_send_11 : decode cX8_send 11 = .ok (.getfield 146, 3) := by decide +kernel
theorem dX8_send_14 : decode cX8_send 14 = .ok (.bipush 10, 2) := by decide +kernel
theorem dX8_send_16 : decode cX8_send 16 = .ok (.if_icmp .ne 6, 3) := by decide +kernel
theorem dX8_send_19 : decode cX8_send 19 = .ok (.bipush (-3), 2) := by decide +kernel
theorem dX8_send_21 : decode cX8_send 21 = .ok (.ireturn, 1) := by decide +kernel
theorem dX8_send_22 : decode cX8_send 22 = .ok (.aload_n 0, 1) := by decide +kernel
theorem dX8_send_23 : decode cX8_send 23 = .ok (.getfield 53, 3) := by decide +kernel
theorem dX8_send_26 : decode cX8_send 26 = .ok (.iconst 4, 1) := by decide +kernel
theorem dX8_send_27 : decode cX8_send 27 = .ok (.aload_n 0, 1) := by decide +kernel
theorem dX8_send_28 : decode cX8_send 28 = .ok (.getfield 146, 3) := by decide +kernel
theorem dX8_send_31 : decode cX8_send 31 = .ok (.imul, 1) := by decide +kernel
theorem dX8_send_32 : decode cX8_send 32 = .ok (.iload_n 1, 1) := by decide +kernel
theorem dX8_send_33 : decode cX8_send 33 = .ok (.bipush 10, 2) := by decide +kernel
theorem dX8_send_35 : decode cX8_send 35 = .ok (.idiv, 1) := by decide +kernel
theorem dX8_send_36 : decode cX8_send 36 = .ok (.iastore, 1) := by decide +kernel
theorem dX8_send_37 : decode cX8_send 37 = .ok (.aload_n 0, 1) := by decide +kernel
theorem dX8_send_38 : decode cX8_send 38 = .ok (.getfield 53, 3) := by decide +kernel
theorem dX8_send_41 : decode cX8_send 41 = .ok (.iconst 4, 1) := by decide +kernel
theorem dX8_send_42 : decode cX8_send 42 = .ok (.aload_n 0, 1) := by decide +kernel
theorem dX8_send_43 : decode cX8_send 43 = .ok (.getfield 146, 3) := by decide +kernel
theorem dX8_send_46 : decode cX8_send 46 = .ok (.imul, 1) := by decide +kernel
theorem dX8_send_47 : decode cX8_send 47 = .ok (.iconst 1, 1) := by decide +kernel
theorem dX8_send_48 : decode cX8_send 48 = .ok (.iadd, 1) := by decide +kernel
theorem dX8_send_49 : decode cX8_send 49 = .ok (.iload_n 1, 1) := by decide +kernel
theorem dX8_send_50 : decode cX8_send 50 = .ok (.bipush 10, 2) := by decide +kernel
theorem dX8_send_52 : decode cX8_send 52 = .ok (.irem, 1) := by decide +kernel
theorem dX8_send_53 : decode cX8_send 53 = .ok (.iastore, 1) := by decide +kernel
theorem dX8_send_54 : decode cX8_send 54 = .ok (.aload_n 0, 1) := by decide +kernel
theorem dX8_send_55 : decode cX8_send 55 = .ok (.getfield 53, 3) := by decide +kernel
theorem dX8_send_58 : decode cX8_send 58 = .ok (.iconst 4, 1) := by decide +kernel
theorem dX8_send_59 : decode cX8_send 59 = .ok (.aload_n 0, 1) := by decide +kernel
theorem dX8_send_60 : decode cX8_send 60 = .ok (.getfield 146, 3) := by decide +kernel
theorem dX8_send_63 : decode cX8_send 63 = .ok (.imul, 1) := by decide +kernel
theorem dX8_send_64 : decode cX8_send 64 = .ok (.iconst 2, 1) := by decide +kernel
theorem dX8_send_65 : decode cX8_send 65 = .ok (.iadd, 1) := by decide +kernel
theorem dX8_send_66 : decode cX8_send 66 = .ok (.iload_n 1, 1) := by decide +kernel
theorem dX8_send_67 : decode cX8_send 67 = .ok (.bipush 10, 2) := by decide +kernel
theorem dX8_send_69 : decode cX8_send 69 = .ok (.idiv, 1) := by decide +kernel
theorem dX8_send_70 : decode cX8_send 70 = .ok (.iastore, 1) := by decide +kernel
theorem dX8_send_71 : decode cX8_send 71 = .ok (.aload_n 0, 1) := by decide +kernel
theorem dX8_send_72 : decode cX8_send 72 = .ok (.getfield 53, 3) := by decide +kernel
theorem dX8_send_75 : decode cX8_send 75 = .ok (.iconst 4, 1) := by decide +kernel
theorem dX8_send_76 : decode cX8_send 76 = .ok (.aload_n 0, 1) := by decide +kernel
theorem dX8_send_77 : decode cX8_send 77 = .ok (.getfield 146, 3) := by decide +kernel
theorem dX8_send_80 : decode cX8_send 80 = .ok (.imul, 1) := by decide +kernel
theorem dX8_send_81 : decode cX8_send 81 = .ok (.iconst 3, 1) := by decide +kernel
theorem dX8_send_82 : decode cX8_send 82 = .ok (.iadd, 1) := by decide +kernel
theorem dX8_send_83 : decode cX8_send 83 = .ok (.bipush (-2), 2) := by decide +kernel
theorem dX8_send_85 : decode cX8_send 85 = .ok (.iastore, 1) := by decide +kernel
theorem dX8_send_86 : decode cX8_send 86 = .ok (.aload_n 0, 1) := by decide +kernel
theorem dX8_send_87 : decode cX8_send 87 = .ok (.dup, 1) := by decide +kernel
theorem dX8_send_88 : decode cX8_send 88 = .ok (.getfield 146, 3) := by decide +kernel
theorem dX8_send_91 : decode cX8_send 91 = .ok (.iconst 1, 1) := by decide +kernel
theorem dX8_send_92 : decode cX8_send 92 = .ok (.iadd, 1) := by decide +kernel
theorem dX8_send_93 : decode cX8_send 93 = .ok (.putfield 146, 3) := by decide +kernel
theorem dX8_send_96 : decode cX8_send 96 = .ok (.aload_n 0, 1) := by decide +kernel
theorem dX8_send_97 : decode cX8_send 97 = .ok (.getfield 146, 3) := by decide +kernel
theorem dX8_send_100 : decode cX8_send 100 = .ok (.iconst 1, 1) := by decide +kernel
theorem dX8_send_101 : decode cX8_send 101 = .ok (.isub, 1) := by decide +kernel
theorem dX8_send_102 : decode cX8_send 102 = .ok (.ireturn, 1) := by decide +kernel
set_option maxRecDepth 20000 in
theorem ggX8_goesOn1_X8_looksFrom : GoodIn wsX8_goesOn1 wsX8_looksFrom := goodIn_r _ [13, 14, 3, 4, 15, 16, 17, 18, 12, 19, 20, 21, 22, 23, 24, 25, 8, 26, 27, 28, 29, 30, 31, 32, 33, 34, 35, 36, 37, 38, 39, 40, 41, 42, 43, 44, 45, 46, 47, 48, 49, 50, 51, 52, 53, 54, 55, 56, 57, 58, 59, 60, 61, 62, 63, 64, 65, 66, 67, 68, 69, 70, 71, 72, 73, 74, 75, 76, 77, 78, 79, 80, 81, 82, 83, 84, 85, 86, 87, 88, 89, 90, 91, 92, 102, 103, 104, 105, 106, 107, 108, 109, 110, 111, 112, 113, 114, 115, 116, 117, 118, 119, 120, 121, 122, 123, 124, 125, 126, 127, 128, 129, 130, 131, 132, 133, 134, 135, 136, 137, 138, 139, 140, 141, 142, 143, 144, 145, 146, 147, 148, 149] (by decide +kernel) (by decide +kernel)
set_option maxRecDepth 20000 in
theorem gX8_goesOn1_X8_looksFrom : GoodIn wsX8_goesOn1 (wsV RX8 241 RX8 yX8_looksFrom wsX8_looksFrom) := goodIn_app (goodIn_of _ (by decide +kernel)) ggX8_goesOn1_X8_looksFrom
set_option maxRecDepth 20000 in
theorem ggX8_goesOn1_X8_wayTo : GoodIn wsX8_goesOn1 wsX8_wayTo := goodIn_r _ [96, 3, 14, 97, 4, 89, 90, 91, 12, 92, 21, 20, 98, 99, 100, 101, 102, 103, 104, 105, 106, 107, 108, 109, 110, 111, 112, 113, 114, 115, 116, 117, 118, 119, 120, 121, 122, 123, 124, 125, 126, 127, 128, 129, 130, 131, 132, 133, 134, 135, 136, 137, 138, 139, 140, 141, 142, 143, 144, 145, 146, 147, 148, 149] (by decide +kernel) (by decide +kernel)
set_option maxRecDepth 20000 in
theorem gX8_goesOn1_X8_wayTo : GoodIn wsX8_goesOn1 (wsV RX8 249 RX8 yX8_wayTo wsX8_wayTo) := goodIn_app (goodIn_of _ (by decide +kernel)) ggX8_goesOn1_X8_wayTo
theorem dX8_goesOn1_0 : decode cX8_goesOn1 0 = .ok (.aload_n 0, 1) := by decide +kernel
theorem dX8_goesOn1_1 : decode cX8_goesOn1 1 = .ok (.getfield 53, 3) := by decide +kernel
theorem dX8_goesOn1_4 : decode cX8_goesOn1 4 = .ok (.iconst 4, 1) := by decide +kernel
theorem dX8_goesOn1_5 : decode cX8_goesOn1 5 = .ok (.iload_n 1, 1) := by decide +kernel
theorem dX8_goesOn1_6 : decode cX8_goesOn1 6 = .ok (.imul, 1) := by decide +kernel
theorem dX8_goesOn1_7 : decode cX8_goesOn1 7 = .ok (.iconst 2, 1) := by decide +kernel
theorem dX8_goesOn1_8 : decode cX8_goesOn1 8 = .ok (.iadd, 1) := by decide +kernel
theorem dX8_goesOn1_9 : decode cX8_goesOn1 9 = .ok (.iaload, 1) := by decide +kernel
theorem dX8_goesOn1_10 : decode cX8_goesOn1 10 = .ok (.istore_n 2, 1) := by decide +kernel
theorem dX8_goesOn1_11 : decode cX8_goesOn1 11 = .ok (.aload_n 0, 1) := by decide +kernel
theorem dX8_goesOn1_12 : decode cX8_goesOn1 12 = .ok (.getfield 53, 3) := by decide +kernel
theorem dX8_goesOn1_15 : decode cX8_goesOn1 15 = .ok (.iconst 4, 1) := by decide +kernel
theorem dX8_goesOn1_16 : decode cX8_goesOn1 16 = .ok (.iload_n 1, 1) := by decide +kernel
theorem dX8_goesOn1_17 : decode cX8_goesOn1 17 = .ok (.imul, 1) := by decide +kernel
theorem dX8_goesOn1_18 : decode cX8_goesOn1 18 = .ok (.iconst 1, 1) := by decide +kernel
theorem dX8_goesOn1_19 : decode cX8_goesOn1 19 = .ok (.iadd, 1) := by decide +kernel
theorem dX8_goesOn1_20 : decode cX8_goesOn1 20 = .ok (.iaload, 1) := by decide +kernel
theorem dX8_goesOn1_21 : decode cX8_goesOn1 21 = .ok (.istore_n 3, 1) := by decide +kernel
theorem dX8_goesOn1_22 : decode cX8_goesOn1 22 = .ok (.iload_n 2, 1) := by decide +kernel
theorem dX8_goesOn1_23 : decode cX8_goesOn1 23 = .ok (.ifCond .lt 8, 3) := by decide +kernel
theorem dX8_goesOn1_26 : decode cX8_goesOn1 26 = .ok (.iload_n 2, 1) := by decide +kernel
theorem dX8_goesOn1_27 : decode cX8_goesOn1 27 = .ok (.iload_n 3, 1) := by decide +kernel
theorem dX8_goesOn1_28 : decode cX8_goesOn1 28 = .ok (.if_icmp .ne 5, 3) := by decide +kernel
theorem dX8_goesOn1_31 : decode cX8_goesOn1 31 = .ok (.iconst 0, 1) := by decide +kernel
theorem dX8_goesOn1_32 : decode cX8_goesOn1 32 = .ok (.ireturn, 1) := by decide +kernel
theorem dX8_goesOn1_33 : decode cX8_goesOn1 33 = .ok (.aload_n 0, 1) := by decide +kernel
theorem dX8_goesOn1_34 : decode cX8_goesOn1 34 = .ok (.iload_n 3, 1) := by decide +kernel
theorem dX8_goesOn1_35 : decode cX8_goesOn1 35 = .ok (.aload_n 0, 1) := by decide +kernel
theorem dX8_goesOn1_36 : decode cX8_goesOn1 36 = .ok (.getfield 131, 3) := by decide +kernel
theorem dX8_goesOn1_39 : decode cX8_goesOn1 39 = .ok (.invokevirtual 241, 3) := by decide +kernel
theorem dX8_goesOn1_42 : decode cX8_goesOn1 42 = .ok (.aload_n 0, 1) := by decide +kernel
theorem dX8_goesOn1_43 : decode cX8_goesOn1 43 = .ok (.getfield 38, 3) := by decide +kernel
theorem dX8_goesOn1_46 : decode cX8_goesOn1 46 = .ok (.iload_n 2, 1) := by decide +kernel
theorem dX8_goesOn1_47 : decode cX8_goesOn1 47 = .ok (.iaload, 1) := by decide +kernel
theorem dX8_goesOn1_48 : decode cX8_goesOn1 48 = .ok (.ldc 240, 2) := by decide +kernel
theorem dX8_goesOn1_50 : decode cX8_goesOn1 50 = .ok (.if_icmp .ne 5, 3) := by decide +kernel
theorem dX8_goesOn1_53 : decode cX8_goesOn1 53 = .ok (.iconst 0, 1) := by decide +kernel
theorem dX8_goesOn1_54 : decode cX8_goesOn1 54 = .ok (.ireturn, 1) := by decide +kernel
theorem dX8_goesOn1_55 : decode cX8_goesOn1 55 = .ok (.aload_n 0, 1) := by decide +kernel
theorem dX8_goesOn1_56 : decode cX8_goesOn1 56 = .ok (.iload_n 2, 1) := by decide +kernel
theorem dX8_goesOn1_57 : decode cX8_goesOn1 57 = .ok (.iload_n 3, 1) := by decide +kernel
theorem dX8_goesOn1_58 : decode cX8_goesOn1 58 = .ok (.aload_n 0, 1) := by decide +kernel
theorem dX8_goesOn1_59 : decode cX8_goesOn1 59 = .ok (.getfield 131, 3) := by decide +kernel
theorem dX8_goesOn1_62 : decode cX8_goesOn1 62 = .ok (.iconst 1, 1) := by decide +kernel
theorem dX8_goesOn1_63 : decode cX8_goesOn1 63 = .ok (.invokevirtual 249, 3) := by decide +kernel
theorem dX8_goesOn1_66 : decode cX8_goesOn1 66 = .ok (.istore 4, 2) := by decide +kernel
theorem dX8_goesOn1_68 : decode cX8_goesOn1 68 = .ok (.iload 4, 2) := by decide +kernel
theorem dX8_goesOn1_70 : decode cX8_goesOn1 70 = .ok (.iload_n 2, 1) := by decide +kernel
theorem dX8_goesOn1_71 : decode cX8_goesOn1 71 = .ok (.if_icmp .ne 5, 3) := by decide +kernel
theorem dX8_goesOn1_74 : decode cX8_goesOn1 74 = .ok (.iconst 0, 1) := by decide +kernel
theorem dX8_goesOn1_75 : decode cX8_goesOn1 75 = .ok (.ireturn, 1) := by decide +kernel
theorem dX8_goesOn1_76 : decode cX8_goesOn1 76 = .ok (.aload_n 0, 1) := by decide +kernel
theorem dX8_goesOn1_77 : decode cX8_goesOn1 77 = .ok (.aload_n 0, 1) := by decide +kernel
theorem dX8_goesOn1_78 : decode cX8_goesOn1 78 = .ok (.getfield 287, 3) := by decide +kernel
theorem dX8_goesOn1_81 : decode cX8_goesOn1 81 = .ok (.ldc_w 290, 3) := by decide +kernel
theorem dX8_goesOn1_84 : decode cX8_goesOn1 84 = .ok (.imul, 1) := by decide +kernel
theorem dX8_goesOn1_85 : decode cX8_goesOn1 85 = .ok (.sipush 12345, 3) := by decide +kernel
theorem dX8_goesOn1_88 : decode cX8_goesOn1 88 = .ok (.iadd, 1) := by decide +kernel
theorem dX8_goesOn1_89 : decode cX8_goesOn1 89 = .ok (.putfield 287, 3) := by decide +kernel
theorem dX8_goesOn1_92 : decode cX8_goesOn1 92 = .ok (.aload_n 0, 1) := by decide +kernel
theorem dX8_goesOn1_93 : decode cX8_goesOn1 93 = .ok (.getfield 56, 3) := by decide +kernel
theorem dX8_goesOn1_96 : decode cX8_goesOn1 96 = .ok (.iload_n 2, 1) := by decide +kernel
theorem dX8_goesOn1_97 : decode cX8_goesOn1 97 = .ok (.dup2, 1) := by decide +kernel
theorem dX8_goesOn1_98 : decode cX8_goesOn1 98 = .ok (.iaload, 1) := by decide +kernel
theorem dX8_goesOn1_99 : decode cX8_goesOn1 99 = .ok (.iconst 1, 1) := by decide +kernel
theorem dX8_goesOn1_100 : decode cX8_goesOn1 100 = .ok (.iadd, 1) := by decide +kernel
theorem dX8_goesOn1_101 : decode cX8_goesOn1 101 = .ok (.iastore, 1) := by decide +kernel
theorem dX8_goesOn1_102 : decode cX8_goesOn1 102 = .ok (.aload_n 0, 1) := by decide +kernel
theorem dX8_goesOn1_103 : decode cX8_goesOn1 103 = .ok (.getfield 287, 3) := by decide +kernel
theorem dX8_goesOn1_106 : decode cX8_goesOn1 106 = .ok (.bipush 8, 2) := by decide +kernel
theorem dX8_goesOn1_108 : decode cX8_goesOn1 108 = .ok (.iushr, 1) := by decide +kernel
theorem dX8_goesOn1_109 : decode cX8_goesOn1 109 = .ok (.bipush 12, 2) := by decide +kernel
theorem dX8_goesOn1_111 : decode cX8_goesOn1 111 = .ok (.irem, 1) := by decide +kernel
theorem dX8_goesOn1_112 : decode cX8_goesOn1 112 = .ok (.aload_n 0, 1) := by decide +kernel
theorem dX8_goesOn1_113 : decode cX8_goesOn1 113 = .ok (.getfield 9, 3) := by decide +kernel
theorem dX8_goesOn1_116 : decode cX8_goesOn1 116 = .ok (.bipush 22, 2) := by decide +kernel
theorem dX8_goesOn1_118 : decode cX8_goesOn1 118 = .ok (.iaload, 1) := by decide +kernel
theorem dX8_goesOn1_119 : decode cX8_goesOn1 119 = .ok (.if_icmp .ge 7, 3) := by decide +kernel
theorem dX8_goesOn1_122 : decode cX8_goesOn1 122 = .ok (.iconst 1, 1) := by decide +kernel
theorem dX8_goesOn1_123 : decode cX8_goesOn1 123 = .ok (.goto 4, 3) := by decide +kernel
theorem dX8_goesOn1_126 : decode cX8_goesOn1 126 = .ok (.iconst 0, 1) := by decide +kernel
theorem dX8_goesOn1_127 : decode cX8_goesOn1 127 = .ok (.istore 5, 2) := by decide +kernel
theorem dX8_goesOn1_129 : decode cX8_goesOn1 129 = .ok (.aload_n 0, 1) := by decide +kernel
theorem dX8_goesOn1_130 : decode cX8_goesOn1 130 = .ok (.getfield 53, 3) := by decide +kernel
theorem dX8_goesOn1_133 : decode cX8_goesOn1 133 = .ok (.iconst 4, 1) := by decide +kernel
theorem dX8_goesOn1_134 : decode cX8_goesOn1 134 = .ok (.iload_n 1, 1) := by decide +kernel
theorem dX8_goesOn1_135 : decode cX8_goesOn1 135 = .ok (.imul, 1) := by decide +kernel
theorem dX8_goesOn1_136 : decode cX8_goesOn1 136 = .ok (.iconst 2, 1) := by decide +kernel
theorem dX8_goesOn1_137 : decode cX8_goesOn1 137 = .ok (.iadd, 1) := by decide +kernel
theorem dX8_goesOn1_138 : decode cX8_goesOn1 138 = .ok (.iload 5, 2) := by decide +kernel
theorem dX8_goesOn1_140 : decode cX8_goesOn1 140 = .ok (.ifCond .eq 8, 3) := by decide +kernel
theorem dX8_goesOn1_143 : decode cX8_goesOn1 143 = .ok (.bipush (-2), 2) := by decide +kernel
theorem dX8_goesOn1_145 : decode cX8_goesOn1 145 = .ok (.goto 5, 3) := by decide +kernel
theorem dX8_goesOn1_148 : decode cX8_goesOn1 148 = .ok (.iload 4, 2) := by decide +kernel
theorem dX8_goesOn1_150 : decode cX8_goesOn1 150 = .ok (.iastore, 1) := by decide +kernel
theorem dX8_goesOn1_151 : decode cX8_goesOn1 151 = .ok (.iload 5, 2) := by decide +kernel
theorem dX8_goesOn1_153 : decode cX8_goesOn1 153 = .ok (.ifCond .ne 9, 3) := by decide +kernel
theorem dX8_goesOn1_156 : decode cX8_goesOn1 156 = .ok (.iload 4, 2) := by decide +kernel
theorem dX8_goesOn1_158 : decode cX8_goesOn1 158 = .ok (.iload_n 3, 1) := by decide +kernel
theorem dX8_goesOn1_159 : decode cX8_goesOn1 159 = .ok (.if_icmp .eq 5, 3) := by decide +kernel
theorem dX8_goesOn1_162 : decode cX8_goesOn1 162 = .ok (.iconst 0, 1) := by decide +kernel
theorem dX8_goesOn1_163 : decode cX8_goesOn1 163 = .ok (.ireturn, 1) := by decide +kernel
theorem dX8_goesOn1_164 : decode cX8_goesOn1 164 = .ok (.aload_n 0, 1) := by decide +kernel
theorem dX8_goesOn1_165 : decode cX8_goesOn1 165 = .ok (.getfield 53, 3) := by decide +kernel
theorem dX8_goesOn1_168 : decode cX8_goesOn1 168 = .ok (.iconst 4, 1) := by decide +kernel
theorem dX8_goesOn1_169 : decode cX8_goesOn1 169 = .ok (.iload_n 1, 1) := by decide +kernel
theorem dX8_goesOn1_170 : decode cX8_goesOn1 170 = .ok (.imul, 1) := by decide +kernel
theorem dX8_goesOn1_171 : decode cX8_goesOn1 171 = .ok (.iconst 3, 1) := by decide +kernel
theorem dX8_goesOn1_172 : decode cX8_goesOn1 172 = .ok (.iadd, 1) := by decide +kernel
theorem dX8_goesOn1_173 : decode cX8_goesOn1 173 = .ok (.aload_n 0, 1) := by decide +kernel
theorem dX8_goesOn1_174 : decode cX8_goesOn1 174 = .ok (.getfield 131, 3) := by decide +kernel
theorem dX8_goesOn1_177 : decode cX8_goesOn1 177 = .ok (.iconst 1, 1) := by decide +kernel
theorem dX8_goesOn1_178 : decode cX8_goesOn1 178 = .ok (.iadd, 1) := by decide +kernel
theorem dX8_goesOn1_179 : decode cX8_goesOn1 179 = .ok (.iastore, 1) := by decide +kernel
theorem dX8_goesOn1_180 : decode cX8_goesOn1 180 = .ok (.iconst 1, 1) := by decide +kernel
theorem dX8_goesOn1_181 : decode cX8_goesOn1 181 = .ok (.ireturn, 1) := by decide +kernel
set_option maxRecDepth 20000 in
theorem ggX8_go_X8_within : GoodIn wsX8_go wsX8_within := goodIn_r _ [8] (by decide +kernel) (by decide +kernel)
set_option maxRecDepth 20000 in
theorem gX8_go_X8_within : GoodIn wsX8_go (va_wsS RX8 97 yX8_within wsX8_within) := goodIn_app (goodIn_of _ (by decide +kernel)) ggX8_go_X8_within
set_option maxRecDepth 20000 in
theorem ggX8_go_X8_goesOn1 : GoodIn wsX8_go wsX8_goesOn1 := goodIn_r _ [12, 13, 4, 14, 15, 2, 16, 17, 18, 19, 20, 21, 7, 22, 23, 24, 25, 26, 27, 28, 29, 30, 31, 32, 33, 34, 35, 36, 37, 38, 39, 40, 41, 42, 43, 44, 45, 46, 47, 48, 49, 50, 51, 52, 53, 54, 55, 56, 57, 58, 59, 60, 61, 62, 63, 64, 65, 66, 67, 68, 69, 70, 71, 72, 73, 74, 75, 76, 77, 78, 79, 80, 81, 82, 83, 84, 85, 86, 87, 88, 89, 90, 91, 92, 93, 94, 95, 96, 97, 98, 99, 100, 101, 102, 103, 104, 105, 106, 107, 108, 109, 110, 111, 112, 113, 114, 115, 116, 117, 118, 119, 120, 121, 122, 123, 124, 125, 126, 127, 128, 129, 130, 131, 132, 133, 134, 135, 136, 137, 138, 139, 140, 141, 142, 143, 144, 145, 146, 147, 148, 149, 150, 151, 152, 153, 154, 155, 156, 157, 158] (by decide +kernel) (by decide +kernel)
set_option maxRecDepth 20000 in
theorem gX8_go_X8_goesOn1 : GoodIn wsX8_go (wsV RX8 293 RX8 yX8_goesOn1 wsX8_goesOn1) := goodIn_app (goodIn_of _ (by decide +kernel)) ggX8_go_X8_goesOn1
theorem dX8_go_0 : decode cX8_go 0 = .ok (.iload_n 2, 1) := by decide +kernel
theorem dX8_go_1 : decode cX8_go 1 = .ok (.i2l, 1) := by decide +kernel
theorem dX8_go_2 : decode cX8_go 2 = .ok (.lconst 1, 1) := by decide +kernel
theorem dX8_go_3 : decode cX8_go 3 = .ok (.ldc2_w 291, 3) := by decide +kernel
theorem dX8_go_6 : decode cX8_go 6 = .ok (.invokestatic 97, 3) := by decide +kernel
theorem dX8_go_9 : decode cX8_go 9 = .ok (.ifCond .ne 5, 3) := by decide +kernel
theorem dX8_go_12 : decode cX8_go 12 = .ok (.iconst (-1), 1) := by decide +kernel
theorem dX8_go_13 : decode cX8_go 13 = .ok (.ireturn, 1) := by decide +kernel
theorem dX8_go_14 : decode cX8_go 14 = .ok (.aload_n 0, 1) := by decide +kernel
theorem dX8_go_15 : decode cX8_go 15 = .ok (.iload_n 1, 1) := by decide +kernel
theorem dX8_go_16 : decode cX8_go 16 = .ok (.putfield 287, 3) := by decide +kernel
theorem dX8_go_19 : decode cX8_go 19 = .ok (.iconst 0, 1) := by decide +kernel
theorem dX8_go_20 : decode cX8_go 20 = .ok (.istore_n 3, 1) := by decide +kernel
theorem dX8_go_21 : decode cX8_go 21 = .ok (.iconst 0, 1) := by decide +kernel
theorem dX8_go_22 : decode cX8_go 22 = .ok (.istore 4, 2) := by decide +kernel
theorem dX8_go_24 : decode cX8_go 24 = .ok (.iload 4, 2) := by decide +kernel
theorem dX8_go_26 : decode cX8_go 26 = .ok (.iload_n 2, 1) := by decide +kernel
theorem dX8_go_27 : decode cX8_go 27 = .ok (.if_icmp .ge 54, 3) := by decide +kernel
theorem dX8_go_30 : decode cX8_go 30 = .ok (.iconst 0, 1) := by decide +kernel
theorem dX8_go_31 : decode cX8_go 31 = .ok (.istore 5, 2) := by decide +kernel
theorem dX8_go_33 : decode cX8_go 33 = .ok (.iload 5, 2) := by decide +kernel
theorem dX8_go_35 : decode cX8_go 35 = .ok (.aload_n 0, 1) := by decide +kernel
theorem dX8_go_36 : decode cX8_go 36 = .ok (.getfield 146, 3) := by decide +kernel
theorem dX8_go_39 : decode cX8_go 39 = .ok (.if_icmp .ge 26, 3) := by decide +kernel
theorem dX8_go_42 : decode cX8_go 42 = .ok (.iload_n 3, 1) := by decide +kernel
theorem dX8_go_43 : decode cX8_go 43 = .ok (.aload_n 0, 1) := by decide +kernel
theorem dX8_go_44 : decode cX8_go 44 = .ok (.iload 5, 2) := by decide +kernel
theorem dX8_go_46 : decode cX8_go 46 = .ok (.invokevirtual 293, 3) := by decide +kernel
theorem dX8_go_49 : decode cX8_go 49 = .ok (.ifCond .eq 7, 3) := by decide +kernel
theorem dX8_go_52 : decode cX8_go 52 = .ok (.iconst 1, 1) := by decide +kernel
theorem dX8_go_53 : decode cX8_go 53 = .ok (.goto 4, 3) := by decide +kernel
theorem dX8_go_56 : decode cX8_go 56 = .ok (.iconst 0, 1) := by decide +kernel
theorem dX8_go_57 : decode cX8_go 57 = .ok (.iadd, 1) := by decide +kernel
theorem dX8_go_58 : decode cX8_go 58 = .ok (.istore_n 3, 1) := by decide +kernel
theorem dX8_go_59 : decode cX8_go 59 = .ok (.iinc 5 1, 3) := by decide +kernel
theorem dX8_go_62 : decode cX8_go 62 = .ok (.goto (-29), 3) := by decide +kernel
theorem dX8_go_65 : decode cX8_go 65 = .ok (.aload_n 0, 1) := by decide +kernel
theorem dX8_go_66 : decode cX8_go 66 = .ok (.dup, 1) := by decide +kernel
theorem dX8_go_67 : decode cX8_go 67 = .ok (.getfield 131, 3) := by decide +kernel
theorem dX8_go_70 : decode cX8_go 70 = .ok (.iconst 1, 1) := by decide +kernel
theorem dX8_go_71 : decode cX8_go 71 = .ok (.iadd, 1) := by decide +kernel
theorem dX8_go_72 : decode cX8_go 72 = .ok (.putfield 131, 3) := by decide +kernel
theorem dX8_go_75 : decode cX8_go 75 = .ok (.iinc 4 1, 3) := by decide +kernel
theorem dX8_go_78 : decode cX8_go 78 = .ok (.goto (-54), 3) := by decide +kernel
theorem dX8_go_81 : decode cX8_go 81 = .ok (.iload_n 3, 1) := by decide +kernel
theorem dX8_go_82 : decode cX8_go 82 = .ok (.ireturn, 1) := by decide +kernel
theorem dX8_draws_0 : decode cX8_draws 0 = .ok (.aload_n 0, 1) := by decide +kernel
theorem dX8_draws_1 : decode cX8_draws 1 = .ok (.aload_n 0, 1) := by decide +kernel
theorem dX8_draws_2 : decode cX8_draws 2 = .ok (.getfield 287, 3) := by decide +kernel
theorem dX8_draws_5 : decode cX8_draws 5 = .ok (.ldc_w 290, 3) := by decide +kernel
theorem dX8_draws_8 : decode cX8_draws 8 = .ok (.imul, 1) := by decide +kernel
theorem dX8_draws_9 : decode cX8_draws 9 = .ok (.sipush 12345, 3) := by decide +kernel
theorem dX8_draws_12 : decode cX8_draws 12 = .ok (.iadd, 1) := by decide +kernel
theorem dX8_draws_13 : decode cX8_draws 13 = .ok (.putfield 287, 3) := by decide +kernel
theorem dX8_draws_16 : decode cX8_draws 16 = .ok (.aload_n 0, 1) := by decide +kernel
theorem dX8_draws_17 : decode cX8_draws 17 = .ok (.getfield 287, 3) := by decide +kernel
theorem dX8_draws_20 : decode cX8_draws 20 = .ok (.bipush 8, 2) := by decide +kernel
theorem dX8_draws_22 : decode cX8_draws 22 = .ok (.iushr, 1) := by decide +kernel
theorem dX8_draws_23 : decode cX8_draws 23 = .ok (.iload_n 1, 1) := by decide +kernel
theorem dX8_draws_24 : decode cX8_draws 24 = .ok (.irem, 1) := by decide +kernel
theorem dX8_draws_25 : decode cX8_draws 25 = .ok (.ireturn, 1) := by decide +kernel
set_option maxRecDepth 20000 in
theorem ggX8_drawn_X8_within : GoodIn wsX8_drawn wsX8_within := goodIn_r _ [9] (by decide +kernel) (by decide +kernel)
set_option maxRecDepth 20000 in
theorem gX8_drawn_X8_within : GoodIn wsX8_drawn (va_wsS RX8 97 yX8_within wsX8_within) := goodIn_app (goodIn_of _ (by decide +kernel)) ggX8_drawn_X8_within
set_option maxRecDepth 20000 in
theorem ggX8_drawn_X8_roundOf : GoodIn wsX8_drawn wsX8_roundOf := goodIn_r _ [13, 14, 15, 16, 8, 17, 102, 103, 104, 105, 106, 107, 108, 109, 110, 111, 112, 113, 114, 115, 116, 117, 118, 119, 120, 121, 122, 123, 124, 125, 126, 127, 128, 129, 130, 131, 132, 133, 134, 135, 136, 137, 138, 139, 140, 141, 142, 143, 144, 145, 146, 147, 148, 149] (by decide +kernel) (by decide +kernel)
set_option maxRecDepth 20000 in
theorem gX8_drawn_X8_roundOf : GoodIn wsX8_drawn (wsV RX8 149 RX8 yX8_roundOf wsX8_roundOf) := goodIn_app (goodIn_of _ (by decide +kernel)) ggX8_drawn_X8_roundOf
set_option maxRecDepth 20000 in
theorem ggX8_drawn_X8_draws : GoodIn wsX8_drawn wsX8_draws := goodIn_r _ [21, 3, 22, 102, 103, 104, 105, 106, 107, 108, 109, 110, 111, 112, 113, 114, 115, 116, 117, 118, 119, 120, 121, 122, 123, 124, 125, 126, 127, 128, 129, 130, 131, 132, 133, 134, 135, 136, 137, 138, 139, 140, 141, 142, 143, 144, 145, 146, 147, 148, 149] (by decide +kernel) (by decide +kernel)
set_option maxRecDepth 20000 in
theorem gX8_drawn_X8_draws : GoodIn wsX8_drawn (wsV RX8 298 RX8 yX8_draws wsX8_draws) := goodIn_app (goodIn_of _ (by decide +kernel)) ggX8_drawn_X8_draws
set_option maxRecDepth 20000 in
theorem ggX8_drawn_X8_looksFrom : GoodIn wsX8_drawn wsX8_looksFrom := goodIn_r _ [26, 2, 4, 5, 27, 28, 29, 30, 8, 31, 32, 33, 34, 35, 36, 37, 14, 15, 16, 17, 38, 39, 40, 41, 42, 43, 44, 45, 46, 47, 48, 49, 50, 51, 52, 53, 54, 55, 56, 57, 58, 59, 60, 61, 62, 63, 64, 65, 66, 67, 68, 69, 70, 71, 72, 73, 74, 75, 76, 77, 78, 79, 80, 81, 82, 83, 84, 85, 86, 87, 88, 89, 90, 91, 92, 93, 94, 95, 96, 97, 98, 99, 100, 101, 102, 103, 104, 105, 106, 107, 108, 109, 110, 111, 112, 113, 114, 115, 116, 117, 118, 119, 120, 121, 122, 123, 124, 125, 126, 127, 128, 129, 130, 131, 132, 133, 134, 135, 136, 137, 138, 139, 140, 141, 142, 143, 144, 145, 146, 147, 148, 149] (by decide +kernel) (by decide +kernel)
set_option maxRecDepth 20000 in
theorem gX8_drawn_X8_looksFrom : GoodIn wsX8_drawn (wsV RX8 241 RX8 yX8_looksFrom wsX8_looksFrom) := goodIn_app (goodIn_of _ (by decide +kernel)) ggX8_drawn_X8_looksFrom
theorem dX8_drawn_0 : decode cX8_drawn 0 = .ok (.iload_n 2, 1) := by decide +kernel
theorem dX8_drawn_1 : decode cX8_drawn 1 = .ok (.i2l, 1) := by decide +kernel
theorem dX8_drawn_2 : decode cX8_drawn 2 = .ok (.lconst 1, 1) := by decide +kernel
theorem dX8_drawn_3 : decode cX8_drawn 3 = .ok (.ldc2_w 296, 3) := by decide +kernel
theorem dX8_drawn_6 : decode cX8_drawn 6 = .ok (.invokestatic 97, 3) := by decide +kernel
theorem dX8_drawn_9 : decode cX8_drawn 9 = .ok (.ifCond .eq 13, 3) := by decide +kernel
theorem dX8_drawn_12 : decode cX8_drawn 12 = .ok (.iload_n 3, 1) := by decide +kernel
theorem dX8_drawn_13 : decode cX8_drawn 13 = .ok (.i2l, 1) := by decide +kernel
theorem dX8_drawn_14 : decode cX8_drawn 14 = .ok (.lconst 0, 1) := by decide +kernel
theorem dX8_drawn_15 : decode cX8_drawn 15 = .ok (.lconst 1, 1) := by decide +kernel
theorem dX8_drawn_16 : decode cX8_drawn 16 = .ok (.invokestatic 97, 3) := by decide +kernel
theorem dX8_drawn_19 : decode cX8_drawn 19 = .ok (.ifCond .ne 5, 3) := by decide +kernel
theorem dX8_drawn_22 : decode cX8_drawn 22 = .ok (.iconst (-1), 1) := by decide +kernel
theorem dX8_drawn_23 : decode cX8_drawn 23 = .ok (.ireturn, 1) := by decide +kernel
theorem dX8_drawn_24 : decode cX8_drawn 24 = .ok (.aload_n 0, 1) := by decide +kernel
theorem dX8_drawn_25 : decode cX8_drawn 25 = .ok (.getfield 94, 3) := by decide +kernel
theorem dX8_drawn_28 : decode cX8_drawn 28 = .ok (.iconst 2, 1) := by decide +kernel
theorem dX8_drawn_29 : decode cX8_drawn 29 = .ok (.if_icmp .ge 6, 3) := by decide +kernel
theorem dX8_drawn_32 : decode cX8_drawn 32 = .ok (.bipush (-5), 2) := by decide +kernel
theorem dX8_drawn_34 : decode cX8_drawn 34 = .ok (.ireturn, 1) := by decide +kernel
theorem dX8_drawn_35 : decode cX8_drawn 35 = .ok (.aload_n 0, 1) := by decide +kernel
theorem dX8_drawn_36 : decode cX8_drawn 36 = .ok (.iload_n 1, 1) := by decide +kernel
theorem dX8_drawn_37 : decode cX8_drawn 37 = .ok (.putfield 287, 3) := by decide +kernel
theorem dX8_drawn_40 : decode cX8_drawn 40 = .ok (.iconst 0, 1) := by decide +kernel
theorem dX8_drawn_41 : decode cX8_drawn 41 = .ok (.istore 4, 2) := by decide +kernel
theorem dX8_drawn_43 : decode cX8_drawn 43 = .ok (.iconst 0, 1) := by decide +kernel
theorem dX8_drawn_44 : decode cX8_drawn 44 = .ok (.istore 5, 2) := by decide +kernel
theorem dX8_drawn_46 : decode cX8_drawn 46 = .ok (.aload_n 0, 1) := by decide +kernel
theorem dX8_drawn_47 : decode cX8_drawn 47 = .ok (.aload_n 0, 1) := by decide +kernel
theorem dX8_drawn_48 : decode cX8_drawn 48 = .ok (.getfield 94, 3) := by decide +kernel
theorem dX8_drawn_51 : decode cX8_drawn 51 = .ok (.invokevirtual 149, 3) := by decide +kernel
theorem dX8_drawn_54 : decode cX8_drawn 54 = .ok (.istore 6, 2) := by decide +kernel
theorem dX8_drawn_56 : decode cX8_drawn 56 = .ok (.iconst 0, 1) := by decide +kernel
theorem dX8_drawn_57 : decode cX8_drawn 57 = .ok (.istore 7, 2) := by decide +kernel
theorem dX8_drawn_59 : decode cX8_drawn 59 = .ok (.iload 7, 2) := by decide +kernel
theorem dX8_drawn_61 : decode cX8_drawn 61 = .ok (.iload_n 2, 1) := by decide +kernel
theorem dX8_drawn_62 : decode cX8_drawn 62 = .ok (.if_icmp .ge 118, 3) := by decide +kernel
theorem dX8_drawn_65 : decode cX8_drawn 65 = .ok (.aload_n 0, 1) := by decide +kernel
theorem dX8_drawn_66 : decode cX8_drawn 66 = .ok (.iload 6, 2) := by decide +kernel
theorem dX8_drawn_68 : decode cX8_drawn 68 = .ok (.invokevirtual 298, 3) := by decide +kernel
theorem dX8_drawn_71 : decode cX8_drawn 71 = .ok (.istore 8, 2) := by decide +kernel
theorem dX8_drawn_73 : decode cX8_drawn 73 = .ok (.aload_n 0, 1) := by decide +kernel
theorem dX8_drawn_74 : decode cX8_drawn 74 = .ok (.aload_n 0, 1) := by decide +kernel
theorem dX8_drawn_75 : decode cX8_drawn 75 = .ok (.getfield 94, 3) := by decide +kernel
theorem dX8_drawn_78 : decode cX8_drawn 78 = .ok (.invokevirtual 298, 3) := by decide +kernel
theorem dX8_drawn_81 : decode cX8_drawn 81 = .ok (.istore 9, 2) := by decide +kernel
theorem dX8_drawn_83 : decode cX8_drawn 83 = .ok (.aload_n 0, 1) := by decide +kernel
theorem dX8_drawn_84 : decode cX8_drawn 84 = .ok (.aload_n 0, 1) := by decide +kernel
theorem dX8_drawn_85 : decode cX8_drawn 85 = .ok (.getfield 94, 3) := by decide +kernel
theorem dX8_drawn_88 : decode cX8_drawn 88 = .ok (.invokevirtual 298, 3) := by decide +kernel
theorem dX8_drawn_91 : decode cX8_drawn 91 = .ok (.istore 10, 2) := by decide +kernel
theorem dX8_drawn_93 : decode cX8_drawn 93 = .ok (.iload 10, 2) := by decide +kernel
theorem dX8_drawn_95 : decode cX8_drawn 95 = .ok (.iload 9, 2) := by decide +kernel
theorem dX8_drawn_97 : decode cX8_drawn 97 = .ok (.if_icmp .ne 15, 3) := by decide +kernel
theorem dX8_drawn_100 : decode cX8_drawn 100 = .ok (.iload 10, 2) := by decide +kernel
theorem dX8_drawn_102 : decode cX8_drawn 102 = .ok (.iconst 1, 1) := by decide +kernel
theorem dX8_drawn_103 : decode cX8_drawn 103 = .ok (.iadd, 1) := by decide +kernel
theorem dX8_drawn_104 : decode cX8_drawn 104 = .ok (.aload_n 0, 1) := by decide +kernel
theorem dX8_drawn_105 : decode cX8_drawn 105 = .ok (.getfield 94, 3) := by decide +kernel
theorem dX8_drawn_108 : decode cX8_drawn 108 = .ok (.irem, 1) := by decide +kernel
theorem dX8_drawn_109 : decode cX8_drawn 109 = .ok (.goto 5, 3) := by decide +kernel
theorem dX8_drawn_112 : decode cX8_drawn 112 = .ok (.iload 10, 2) := by decide +kernel
theorem dX8_drawn_114 : decode cX8_drawn 114 = .ok (.istore 10, 2) := by decide +kernel
theorem dX8_drawn_116 : decode cX8_drawn 116 = .ok (.aload_n 0, 1) := by decide +kernel
theorem dX8_drawn_117 : decode cX8_drawn 117 = .ok (.iload 10, 2) := by decide +kernel
theorem dX8_drawn_119 : decode cX8_drawn 119 = .ok (.iload 8, 2) := by decide +kernel
theorem dX8_drawn_121 : decode cX8_drawn 121 = .ok (.invokevirtual 241, 3) := by decide +kernel
theorem dX8_drawn_124 : decode cX8_drawn 124 = .ok (.iload 4, 2) := by decide +kernel
theorem dX8_drawn_126 : decode cX8_drawn 126 = .ok (.aload_n 0, 1) := by decide +kernel
theorem dX8_drawn_127 : decode cX8_drawn 127 = .ok (.getfield 38, 3) := by decide +kernel
theorem dX8_drawn_130 : decode cX8_drawn 130 = .ok (.iload 9, 2) := by decide +kernel
theorem dX8_drawn_132 : decode cX8_drawn 132 = .ok (.iaload, 1) := by decide +kernel
theorem dX8_drawn_133 : decode cX8_drawn 133 = .ok (.ldc 240, 2) := by decide +kernel
theorem dX8_drawn_135 : decode cX8_drawn 135 = .ok (.if_icmp .ge 13, 3) := by decide +kernel
theorem dX8_drawn_138 : decode cX8_drawn 138 = .ok (.aload_n 0, 1) := by decide +kernel
theorem dX8_drawn_139 : decode cX8_drawn 139 = .ok (.getfield 38, 3) := by decide +kernel
theorem dX8_drawn_142 : decode cX8_drawn 142 = .ok (.iload 9, 2) := by decide +kernel
theorem dX8_drawn_144 : decode cX8_drawn 144 = .ok (.iaload, 1) := by decide +kernel
theorem dX8_drawn_145 : decode cX8_drawn 145 = .ok (.goto 4, 3) := by decide +kernel
theorem dX8_drawn_148 : decode cX8_drawn 148 = .ok (.iconst 0, 1) := by decide +kernel
theorem dX8_drawn_149 : decode cX8_drawn 149 = .ok (.iadd, 1) := by decide +kernel
theorem dX8_drawn_150 : decode cX8_drawn 150 = .ok (.istore 4, 2) := by decide +kernel
theorem dX8_drawn_152 : decode cX8_drawn 152 = .ok (.iload 5, 2) := by decide +kernel
theorem dX8_drawn_154 : decode cX8_drawn 154 = .ok (.aload_n 0, 1) := by decide +kernel
theorem dX8_drawn_155 : decode cX8_drawn 155 = .ok (.getfield 38, 3) := by decide +kernel
theorem dX8_drawn_158 : decode cX8_drawn 158 = .ok (.iload 9, 2) := by decide +kernel
theorem dX8_drawn_160 : decode cX8_drawn 160 = .ok (.iaload, 1) := by decide +kernel
theorem dX8_drawn_161 : decode cX8_drawn 161 = .ok (.ldc 240, 2) := by decide +kernel
theorem dX8_drawn_163 : decode cX8_drawn 163 = .ok (.if_icmp .ge 7, 3) := by decide +kernel
theorem dX8_drawn_166 : decode cX8_drawn 166 = .ok (.iconst 0, 1) := by decide +kernel
theorem dX8_drawn_167 : decode cX8_drawn 167 = .ok (.goto 4, 3) := by decide +kernel
theorem dX8_drawn_170 : decode cX8_drawn 170 = .ok (.iconst 1, 1) := by decide +kernel
theorem dX8_drawn_171 : decode cX8_drawn 171 = .ok (.iadd, 1) := by decide +kernel
theorem dX8_drawn_172 : decode cX8_drawn 172 = .ok (.istore 5, 2) := by decide +kernel
theorem dX8_drawn_174 : decode cX8_drawn 174 = .ok (.iinc 7 1, 3) := by decide +kernel
theorem dX8_drawn_177 : decode cX8_drawn 177 = .ok (.goto (-118), 3) := by decide +kernel
theorem dX8_drawn_180 : decode cX8_drawn 180 = .ok (.iload_n 3, 1) := by decide +kernel
theorem dX8_drawn_181 : decode cX8_drawn 181 = .ok (.ifCond .ne 8, 3) := by decide +kernel
theorem dX8_drawn_184 : decode cX8_drawn 184 = .ok (.iload 4, 2) := by decide +kernel
theorem dX8_drawn_186 : decode cX8_drawn 186 = .ok (.goto 5, 3) := by decide +kernel
theorem dX8_drawn_189 : decode cX8_drawn 189 = .ok (.iload 5, 2) := by decide +kernel
theorem dX8_drawn_191 : decode cX8_drawn 191 = .ok (.ireturn, 1) := by decide +kernel
theorem dX8_cameMany_0 : decode cX8_cameMany 0 = .ok (.iconst 0, 1) := by decide +kernel
theorem dX8_cameMany_1 : decode cX8_cameMany 1 = .ok (.istore_n 1, 1) := by decide +kernel
theorem dX8_cameMany_2 : decode cX8_cameMany 2 = .ok (.iconst 0, 1) := by decide +kernel
theorem dX8_cameMany_3 : decode cX8_cameMany 3 = .ok (.istore_n 2, 1) := by decide +kernel
theorem dX8_cameMany_4 : decode cX8_cameMany 4 = .ok (.iload_n 2, 1) := by decide +kernel
theorem dX8_cameMany_5 : decode cX8_cameMany 5 = .ok (.aload_n 0, 1) := by decide +kernel
theorem dX8_cameMany_6 : decode cX8_cameMany 6 = .ok (.getfield 146, 3) := by decide +kernel
theorem dX8_cameMany_9 : decode cX8_cameMany 9 = .ok (.if_icmp .ge 30, 3) := by decide +kernel
theorem dX8_cameMany_12 : decode cX8_cameMany 12 = .ok (.iload_n 1, 1) := by decide +kernel
theorem dX8_cameMany_13 : decode cX8_cameMany 13 = .ok (.aload_n 0, 1) := by decide +kernel
theorem dX8_cameMany_14 : decode cX8_cameMany 14 = .ok (.getfield 53, 3) := by decide +kernel
theorem dX8_cameMany_17 : decode cX8_cameMany 17 = .ok (.iconst 4, 1) := by decide +kernel
theorem dX8_cameMany_18 : decode cX8_cameMany 18 = .ok (.iload_n 2, 1) := by decide +kernel
theorem dX8_cameMany_19 : decode cX8_cameMany 19 = .ok (.imul, 1) := by decide +kernel
theorem dX8_cameMany_20 : decode cX8_cameMany 20 = .ok (.iconst 3, 1) := by decide +kernel
theorem dX8_cameMany_21 : decode cX8_cameMany 21 = .ok (.iadd, 1) := by decide +kernel
theorem dX8_cameMany_22 : decode cX8_cameMany 22 = .ok (.iaload, 1) := by decide +kernel
theorem dX8_cameMany_23 : decode cX8_cameMany 23 = .ok (.ifCond .lt 7, 3) := by decide +kernel
theorem dX8_cameMany_26 : decode cX8_cameMany 26 = .ok (.iconst 1, 1) := by decide +kernel
theorem dX8_cameMany_27 : decode cX8_cameMany 27 = .ok (.goto 4, 3) := by decide +kernel
theorem dX8_cameMany_30 : decode cX8_cameMany 30 = .ok (.iconst 0, 1) := by decide +kernel
theorem dX8_cameMany_31 : decode cX8_cameMany 31 = .ok (.iadd, 1) := by decide +kernel
theorem dX8_cameMany_32 : decode cX8_cameMany 32 = .ok (.istore_n 1, 1) := by decide +kernel
theorem dX8_cameMany_33 : decode cX8_cameMany 33 = .ok (.iinc 2 1, 3) := by decide +kernel
theorem dX8_cameMany_36 : decode cX8_cameMany 36 = .ok (.goto (-32), 3) := by decide +kernel
theorem dX8_cameMany_39 : decode cX8_cameMany 39 = .ok (.iload_n 1, 1) := by decide +kernel
theorem dX8_cameMany_40 : decode cX8_cameMany 40 = .ok (.ireturn, 1) := by decide +kernel
theorem dX8_image_0 : decode cX8_image 0 = .ok (.aload_n 0, 1) := by decide +kernel
theorem dX8_image_1 : decode cX8_image 1 = .ok (.iconst 1, 1) := by decide +kernel
theorem dX8_image_2 : decode cX8_image 2 = .ok (.putfield 301, 3) := by decide +kernel
theorem dX8_image_5 : decode cX8_image 5 = .ok (.aload_n 0, 1) := by decide +kernel
theorem dX8_image_6 : decode cX8_image 6 = .ok (.aload_n 0, 1) := by decide +kernel
theorem dX8_image_7 : decode cX8_image 7 = .ok (.getfield 94, 3) := by decide +kernel
theorem dX8_image_10 : decode cX8_image 10 = .ok (.putfield 305, 3) := by decide +kernel
theorem dX8_image_13 : decode cX8_image 13 = .ok (.aload_n 0, 1) := by decide +kernel
theorem dX8_image_14 : decode cX8_image 14 = .ok (.aload_n 0, 1) := by decide +kernel
theorem dX8_image_15 : decode cX8_image 15 = .ok (.getfield 131, 3) := by decide +kernel
theorem dX8_image_18 : decode cX8_image 18 = .ok (.putfield 308, 3) := by decide +kernel
theorem dX8_image_21 : decode cX8_image 21 = .ok (.aload_n 0, 1) := by decide +kernel
theorem dX8_image_22 : decode cX8_image 22 = .ok (.aload_n 0, 1) := by decide +kernel
theorem dX8_image_23 : decode cX8_image 23 = .ok (.getfield 146, 3) := by decide +kernel
theorem dX8_image_26 : decode cX8_image 26 = .ok (.putfield 311, 3) := by decide +kernel
theorem dX8_image_29 : decode cX8_image 29 = .ok (.iconst 0, 1) := by decide +kernel
theorem dX8_image_30 : decode cX8_image 30 = .ok (.istore_n 1, 1) := by decide +kernel
theorem dX8_image_31 : decode cX8_image 31 = .ok (.iload_n 1, 1) := by decide +kernel
theorem dX8_image_32 : decode cX8_image 32 = .ok (.bipush 40, 2) := by decide +kernel
theorem dX8_image_34 : decode cX8_image 34 = .ok (.if_icmp .ge 21, 3) := by decide +kernel
theorem dX8_image_37 : decode cX8_image 37 = .ok (.aload_n 0, 1) := by decide +kernel
theorem dX8_image_38 : decode cX8_image 38 = .ok (.getfield 59, 3) := by decide +kernel
theorem dX8_image_41 : decode cX8_image 41 = .ok (.iload_n 1, 1) := by decide +kernel
theorem dX8_image_42 : decode cX8_image 42 = .ok (.aload_n 0, 1) := by decide +kernel
theorem dX8_image_43 : decode cX8_image 43 = .ok (.getfield 53, 3) := by decide +kernel
theorem dX8_image_46 : decode cX8_image 46 = .ok (.iload_n 1, 1) := by decide +kernel
theorem dX8_image_47 : decode cX8_image 47 = .ok (.iaload, 1) := by decide +kernel
theorem dX8_image_48 : decode cX8_image 48 = .ok (.iastore, 1) := by decide +kernel
theorem dX8_image_49 : decode cX8_image 49 = .ok (.iinc 1 1, 3) := by decide +kernel
theorem dX8_image_52 : decode cX8_image 52 = .ok (.goto (-21), 3) := by decide +kernel
theorem dX8_image_55 : decode cX8_image 55 = .ok (.iconst 0, 1) := by decide +kernel
theorem dX8_image_56 : decode cX8_image 56 = .ok (.istore_n 1, 1) := by decide +kernel
theorem dX8_image_57 : decode cX8_image 57 = .ok (.iload_n 1, 1) := by decide +kernel
theorem dX8_image_58 : decode cX8_image 58 = .ok (.bipush 6, 2) := by decide +kernel
theorem dX8_image_60 : decode cX8_image 60 = .ok (.if_icmp .ge 21, 3) := by decide +kernel
theorem dX8_image_63 : decode cX8_image 63 = .ok (.aload_n 0, 1) := by decide +kernel
theorem dX8_image_64 : decode cX8_image 64 = .ok (.getfield 62, 3) := by decide +kernel
theorem dX8_image_67 : decode cX8_image 67 = .ok (.iload_n 1, 1) := by decide +kernel
theorem dX8_image_68 : decode cX8_image 68 = .ok (.aload_n 0, 1) := by decide +kernel
theorem dX8_image_69 : decode cX8_image 69 = .ok (.getfield 56, 3) := by decide +kernel
theorem dX8_image_72 : decode cX8_image 72 = .ok (.iload_n 1, 1) := by decide +kernel
theorem dX8_image_73 : decode cX8_image 73 = .ok (.iaload, 1) := by decide +kernel
theorem dX8_image_74 : decode cX8_image 74 = .ok (.iastore, 1) := by decide +kernel
theorem dX8_image_75 : decode cX8_image 75 = .ok (.iinc 1 1, 3) := by decide +kernel
theorem dX8_image_78 : decode cX8_image 78 = .ok (.goto (-21), 3) := by decide +kernel
theorem dX8_image_81 : decode cX8_image 81 = .ok (.aload_n 0, 1) := by decide +kernel
theorem dX8_image_82 : decode cX8_image 82 = .ok (.getfield 131, 3) := by decide +kernel
theorem dX8_image_85 : decode cX8_image 85 = .ok (.ireturn, 1) := by decide +kernel
theorem dX8_back_0 : decode cX8_back 0 = .ok (.aload_n 0, 1) := by decide +kernel
theorem dX8_back_1 : decode cX8_back 1 = .ok (.getfield 301, 3) := by decide +kernel
theorem dX8_back_4 : decode cX8_back 4 = .ok (.ifCond .ne 6, 3) := by decide +kernel
theorem dX8_back_7 : decode cX8_back 7 = .ok (.bipush (-5), 2) := by decide +kernel
theorem dX8_back_9 : decode cX8_back 9 = .ok (.ireturn, 1) := by decide +kernel
theorem dX8_back_10 : decode cX8_back 10 = .ok (.aload_n 0, 1) := by decide +kernel
theorem dX8_back_11 : decode cX8_back 11 = .ok (.aload_n 0, 1) := by decide +kernel
theorem dX8_back_12 : decode cX8_back 12 = .ok (.getfield 308, 3) := by decide +kernel
theorem dX8_back_15 : decode cX8_back 15 = .ok (.putfield 131, 3) := by decide +kernel
theorem dX8_back_18 : decode cX8_back 18 = .ok (.aload_n 0, 1) := by decide +kernel
theorem dX8_back_19 : decode cX8_back 19 = .ok (.aload_n 0, 1) := by decide +kernel
theorem dX8_back_20 : decode cX8_back 20 = .ok (.getfield 311, 3) := by decide +kernel
theorem dX8_back_23 : decode cX8_back 23 = .ok (.putfield 146, 3) := by decide +kernel
theorem dX8_back_26 : decode cX8_back 26 = .ok (.iconst 0, 1) := by decide +kernel
theorem dX8_back_27 : decode cX8_back 27 = .ok (.istore_n 1, 1) := by decide +kernel
theorem dX8_back_28 : decode cX8_back 28 = .ok (.iload_n 1, 1) := by decide +kernel
theorem dX8_back_29 : decode cX8_back 29 = .ok (.bipush 40, 2) := by decide +kernel
theorem dX8_back_31 : decode cX8_back 31 = .ok (.if_icmp .ge 21, 3) := by decide +kernel
theorem dX8_back_34 : decode cX8_back 34 = .ok (.aload_n 0, 1) := by decide +kernel
theorem dX8_back_35 : decode cX8_back 35 = .ok (.getfield 53, 3) := by decide +kernel
theorem dX8_back_38 : decode cX8_back 38 = .ok (.iload_n 1, 1) := by decide +kernel
theorem dX8_back_39 : decode cX8_back 39 = .ok (.aload_n 0, 1) := by decide +kernel
theorem dX8_back_40 : decode cX8_back 40 = .ok (.getfield 59, 3) := by decide +kernel
theorem dX8_back_43 : decode cX8_back 43 = .ok (.iload_n 1, 1) := by decide +kernel
theorem dX8_back_44 : decode cX8_back 44 = .ok (.iaload, 1) := by decide +kernel
theorem dX8_back_45 : decode cX8_back 45 = .ok (.iastore, 1) := by decide +kernel
theorem dX8_back_46 : decode cX8_back 46 = .ok (.iinc 1 1, 3) := by decide +kernel
theorem dX8_back_49 : decode cX8_back 49 = .ok (.goto (-21), 3) := by decide +kernel
theorem dX8_back_52 : decode cX8_back 52 = .ok (.iconst 0, 1) := by decide +kernel
theorem dX8_back_53 : decode cX8_back 53 = .ok (.istore_n 1, 1) := by decide +kernel
theorem dX8_back_54 : decode cX8_back 54 = .ok (.iload_n 1, 1) := by decide +kernel
theorem dX8_back_55 : decode cX8_back 55 = .ok (.bipush 6, 2) := by decide +kernel
theorem dX8_back_57 : decode cX8_back 57 = .ok (.if_icmp .ge 33, 3) := by decide +kernel
theorem dX8_back_60 : decode cX8_back 60 = .ok (.aload_n 0, 1) := by decide +kernel
theorem dX8_back_61 : decode cX8_back 61 = .ok (.getfield 56, 3) := by decide +kernel
theorem dX8_back_64 : decode cX8_back 64 = .ok (.iload_n 1, 1) := by decide +kernel
theorem dX8_back_65 : decode cX8_back 65 = .ok (.iload_n 1, 1) := by decide +kernel
theorem dX8_back_66 : decode cX8_back 66 = .ok (.aload_n 0, 1) := by decide +kernel
theorem dX8_back_67 : decode cX8_back 67 = .ok (.getfield 305, 3) := by decide +kernel
theorem dX8_back_70 : decode cX8_back 70 = .ok (.if_icmp .ge 12, 3) := by decide +kernel
theorem dX8_back_73 : decode cX8_back 73 = .ok (.aload_n 0, 1) := by decide +kernel
theorem dX8_back_74 : decode cX8_back 74 = .ok (.getfield 62, 3) := by decide +kernel
theorem dX8_back_77 : decode cX8_back 77 = .ok (.iload_n 1, 1) := by decide +kernel
theorem dX8_back_78 : decode cX8_back 78 = .ok (.iaload, 1) := by decide +kernel
theorem dX8_back_79 : decode cX8_back 79 = .ok (.goto 4, 3) := by decide +kernel
theorem dX8_back_82 : decode cX8_back 82 = .ok (.iconst 0, 1) := by decide +kernel
theorem dX8_back_83 : decode cX8_back 83 = .ok (.iastore, 1) := by decide +kernel
theorem dX8_back_84 : decode cX8_back 84 = .ok (.iinc 1 1, 3) := by decide +kernel
theorem dX8_back_87 : decode cX8_back 87 = .ok (.goto (-33), 3) := by decide +kernel
theorem dX8_back_90 : decode cX8_back 90 = .ok (.aload_n 0, 1) := by decide +kernel
theorem dX8_back_91 : decode cX8_back 91 = .ok (.getfield 131, 3) := by decide +kernel
theorem dX8_back_94 : decode cX8_back 94 = .ok (.ireturn, 1) := by decide +kernel
set_option maxRecDepth 20000 in
theorem ggX8_isBody_X8_within : GoodIn wsX8_isBody wsX8_within := goodIn_r _ [5] (by decide +kernel) (by decide +kernel)
set_option maxRecDepth 20000 in
theorem gX8_isBody_X8_within : GoodIn wsX8_isBody (va_wsS RX8 97 yX8_within wsX8_within) := goodIn_app (goodIn_of _ (by decide +kernel)) ggX8_isBody_X8_within
theorem dX8_isBody_0 : decode cX8_isBody 0 = .ok (.iload_n 1, 1) := by decide +kernel
theorem dX8_isBody_1 : decode cX8_isBody 1 = .ok (.i2l, 1) := by decide +kernel
theorem dX8_isBody_2 : decode cX8_isBody 2 = .ok (.lconst 0, 1) := by decide +kernel
theorem dX8_isBody_3 : decode cX8_isBody 3 = .ok (.aload_n 0, 1) := by decide +kernel
theorem dX8_isBody_4 : decode cX8_isBody 4 = .ok (.getfield 314, 3) := by decide +kernel
theorem dX8_isBody_7 : decode cX8_isBody 7 = .ok (.iconst 1, 1) := by decide +kernel
theorem dX8_isBody_8 : decode cX8_isBody 8 = .ok (.isub, 1) := by decide +kernel
theorem dX8_isBody_9 : decode cX8_isBody 9 = .ok (.i2l, 1) := by decide +kernel
theorem dX8_isBody_10 : decode cX8_isBody 10 = .ok (.invokestatic 97, 3) := by decide +kernel
theorem dX8_isBody_13 : decode cX8_isBody 13 = .ok (.ireturn, 1) := by decide +kernel
theorem dX8_kindOf_0 : decode cX8_kindOf 0 = .ok (.aload_n 0, 1) := by decide +kernel
theorem dX8_kindOf_1 : decode cX8_kindOf 1 = .ok (.getfield 65, 3) := by decide +kernel
theorem dX8_kindOf_4 : decode cX8_kindOf 4 = .ok (.iload_n 1, 1) := by decide +kernel
theorem dX8_kindOf_5 : decode cX8_kindOf 5 = .ok (.iaload, 1) := by decide +kernel
theorem dX8_kindOf_6 : decode cX8_kindOf 6 = .ok (.ireturn, 1) := by decide +kernel
set_option maxRecDepth 20000 in
theorem ggX8_body_X8_within : GoodIn wsX8_body wsX8_within := goodIn_r _ [7] (by decide +kernel) (by decide +kernel)
set_option maxRecDepth 20000 in
theorem gX8_body_X8_within : GoodIn wsX8_body (va_wsS RX8 97 yX8_within wsX8_within) := goodIn_app (goodIn_of _ (by decide +kernel)) ggX8_body_X8_within
theorem dX8_body_0 : decode cX8_body 0 = .ok (.iload_n 1, 1) := by decide +kernel
theorem dX8_body_1 : decode cX8_body 1 = .ok (.i2l, 1) := by decide +kernel
theorem dX8_body_2 : decode cX8_body 2 = .ok (.lconst 0, 1) := by decide +kernel
theorem dX8_body_3 : decode cX8_body 3 = .ok (.ldc2_w 317, 3) := by decide +kernel
theorem dX8_body_6 : decode cX8_body 6 = .ok (.invokestatic 97, 3) := by decide +kernel
theorem dX8_body_9 : decode cX8_body 9 = .ok (.ifCond .ne 5, 3) := by decide +kernel
theorem dX8_body_12 : decode cX8_body 12 = .ok (.iconst (-1), 1) := by decide +kernel
theorem dX8_body_13 : decode cX8_body 13 = .ok (.ireturn, 1) := by decide +kernel
theorem dX8_body_14 : decode cX8_body 14 = .ok (.aload_n 0, 1) := by decide +kernel
theorem dX8_body_15 : decode cX8_body 15 = .ok (.getfield 314, 3) := by decide +kernel
theorem dX8_body_18 : decode cX8_body 18 = .ok (.bipush 50, 2) := by decide +kernel
theorem dX8_body_20 : decode cX8_body 20 = .ok (.if_icmp .ne 6, 3) := by decide +kernel
theorem dX8_body_23 : decode cX8_body 23 = .ok (.bipush (-3), 2) := by decide +kernel
theorem dX8_body_25 : decode cX8_body 25 = .ok (.ireturn, 1) := by decide +kernel
theorem dX8_body_26 : decode cX8_body 26 = .ok (.aload_n 0, 1) := by decide +kernel
theorem dX8_body_27 : decode cX8_body 27 = .ok (.getfield 65, 3) := by decide +kernel
theorem dX8_body_30 : decode cX8_body 30 = .ok (.aload_n 0, 1) := by decide +kernel
theorem dX8_body_31 : decode cX8_body 31 = .ok (.getfield 314, 3) := by decide +kernel
theorem dX8_body_34 : decode cX8_body 34 = .ok (.iload_n 1, 1) := by decide +kernel
theorem dX8_body_35 : decode cX8_body 35 = .ok (.iastore, 1) := by decide +kernel
theorem dX8_body_36 : decode cX8_body 36 = .ok (.aload_n 0, 1) := by decide +kernel
theorem dX8_body_37 : decode cX8_body 37 = .ok (.dup, 1) := by decide +kernel
theorem dX8_body_38 : decode cX8_body 38 = .ok (.getfield 314, 3) := by decide +kernel
theorem dX8_body_41 : decode cX8_body 41 = .ok (.iconst 1, 1) := by decide +kernel
theorem dX8_body_42 : decode cX8_body 42 = .ok (.iadd, 1) := by decide +kernel
theorem dX8_body_43 : decode cX8_body 43 = .ok (.putfield 314, 3) := by decide +kernel
theorem dX8_body_46 : decode cX8_body 46 = .ok (.aload_n 0, 1) := by decide +kernel
theorem dX8_body_47 : decode cX8_body 47 = .ok (.getfield 314, 3) := by decide +kernel
theorem dX8_body_50 : decode cX8_body 50 = .ok (.iconst 1, 1) := by decide +kernel
theorem dX8_body_51 : decode cX8_body 51 = .ok (.isub, 1) := by decide +kernel
theorem dX8_body_52 : decode cX8_body 52 = .ok (.ireturn, 1) := by decide +kernel
theorem dX8_above_0 : decode cX8_above 0 = .ok (.iload_n 0, 1) := by decide +kernel
theorem dX8_above_1 : decode cX8_above 1 = .ok (.iconst 3, 1) := by decide +kernel
theorem dX8_above_2 : decode cX8_above 2 = .ok (.if_icmp .ne 7, 3) := by decide +kernel
theorem dX8_above_5 : decode cX8_above 5 = .ok (.iconst 2, 1) := by decide +kernel
theorem dX8_above_6 : decode cX8_above 6 = .ok (.goto 32, 3) := by decide +kernel
theorem dX8_above_9 : decode cX8_above 9 = .ok (.iload_n 0, 1) := by decide +kernel
theorem dX8_above_10 : decode cX8_above 10 = .ok (.iconst 4, 1) := by decide +kernel
theorem dX8_above_11 : decode cX8_above 11 = .ok (.if_icmp .ne 7, 3) := by decide +kernel
theorem dX8_above_14 : decode cX8_above 14 = .ok (.iconst 1, 1) := by decide +kernel
theorem dX8_above_15 : decode cX8_above 15 = .ok (.goto 23, 3) := by decide +kernel
theorem dX8_above_18 : decode cX8_above 18 = .ok (.iload_n 0, 1) := by decide +kernel
theorem dX8_above_19 : decode cX8_above 19 = .ok (.iconst 5, 1) := by decide +kernel
theorem dX8_above_20 : decode cX8_above 20 = .ok (.if_icmp .ne 7, 3) := by decide +kernel
theorem dX8_above_23 : decode cX8_above 23 = .ok (.iconst 3, 1) := by decide +kernel
theorem dX8_above_24 : decode cX8_above 24 = .ok (.goto 14, 3) := by decide +kernel
theorem dX8_above_27 : decode cX8_above 27 = .ok (.iload_n 0, 1) := by decide +kernel
theorem dX8_above_28 : decode cX8_above 28 = .ok (.bipush 7, 2) := by decide +kernel
theorem dX8_above_30 : decode cX8_above 30 = .ok (.if_icmp .ne 7, 3) := by decide +kernel
theorem dX8_above_33 : decode cX8_above 33 = .ok (.iconst 4, 1) := by decide +kernel
theorem dX8_above_34 : decode cX8_above 34 = .ok (.goto 4, 3) := by decide +kernel
theorem dX8_above_37 : decode cX8_above 37 = .ok (.iconst 0, 1) := by decide +kernel
theorem dX8_above_38 : decode cX8_above 38 = .ok (.ireturn, 1) := by decide +kernel
theorem dX8_begins_0 : decode cX8_begins 0 = .ok (.aload_n 0, 1) := by decide +kernel
theorem dX8_begins_1 : decode cX8_begins 1 = .ok (.getfield 319, 3) := by decide +kernel
theorem dX8_begins_4 : decode cX8_begins 4 = .ok (.bipush 24, 2) := by decide +kernel
theorem dX8_begins_6 : decode cX8_begins 6 = .ok (.if_icmp .ge 13, 3) := by decide +kernel
theorem dX8_begins_9 : decode cX8_begins 9 = .ok (.aload_n 0, 1) := by decide +kernel
theorem dX8_begins_10 : decode cX8_begins 10 = .ok (.getfield 68, 3) := by decide +kernel
theorem dX8_begins_13 : decode cX8_begins 13 = .ok (.aload_n 0, 1) := by decide +kernel
theorem dX8_begins_14 : decode cX8_begins 14 = .ok (.getfield 319, 3) := by decide +kernel
theorem dX8_begins_17 : decode cX8_begins 17 = .ok (.iload_n 1, 1) := by decide +kernel
theorem dX8_begins_18 : decode cX8_begins 18 = .ok (.iastore, 1) := by decide +kernel
theorem dX8_begins_19 : decode cX8_begins 19 = .ok (.aload_n 0, 1) := by decide +kernel
theorem dX8_begins_20 : decode cX8_begins 20 = .ok (.dup, 1) := by decide +kernel
theorem dX8_begins_21 : decode cX8_begins 21 = .ok (.getfield 319, 3) := by decide +kernel
theorem dX8_begins_24 : decode cX8_begins 24 = .ok (.iconst 1, 1) := by decide +kernel
theorem dX8_begins_25 : decode cX8_begins 25 = .ok (.iadd, 1) := by decide +kernel
theorem dX8_begins_26 : decode cX8_begins 26 = .ok (.putfield 319, 3) := by decide +kernel
theorem dX8_begins_29 : decode cX8_begins 29 = .ok (.return_, 1) := by decide +kernel
set_option maxRecDepth 20000 in
theorem ggX8_seesAs_X8_begins : GoodIn wsX8_seesAs wsX8_begins := goodIn_r _ [6, 7, 8, 12, 13, 14, 15, 16, 17, 18, 19, 20, 21, 22, 23, 24, 25, 26, 27, 28, 29, 30, 31, 32, 33, 34, 35, 36, 37, 38, 39, 40, 41, 42, 43, 44, 45, 46, 47, 48, 49, 50, 51, 52, 53, 54, 55, 56, 57, 58, 59] (by decide +kernel) (by decide +kernel)
set_option maxRecDepth 20000 in
theorem gX8_seesAs_X8_begins : GoodIn wsX8_seesAs (wsV RX8 322 RX8 yX8_begins wsX8_begins) := goodIn_app (goodIn_of _ (by decide +kernel)) ggX8_seesAs_X8_begins
set_option maxRecDepth 20000 in
theorem ggX8_seesAs_X8_seesAs : GoodIn wsX8_seesAs wsX8_seesAs := goodIn_r _ [0, 1, 2, 3, 4, 5, 6, 7, 8, 9, 10, 11, 12, 13, 14, 15, 16, 17, 18, 19, 20, 21, 22, 23, 24, 25, 26, 27, 28, 29, 30, 31, 32, 33, 34, 35, 36, 37, 38, 39, 40, 41, 42, 43, 44, 45, 46, 47, 48, 49, 50, 51, 52, 53, 54, 55, 56, 57, 58, 59] (by decide +kernel) (by decide +kernel)
set_option maxRecDepth 20000 in
theorem gX8_seesAs_X8_seesAs : GoodIn wsX8_seesAs (wsV RX8 325 RX8 yX8_seesAs wsX8_seesAs) := goodIn_app (goodIn_of _ (by decide +kernel)) ggX8_seesAs_X8_seesAs
theorem dX8_seesAs_0 : decode cX8_seesAs 0 = .ok (.iload_n 1, 1) := by decide +kernel
theorem dX8_seesAs_1 : decode cX8_seesAs 1 = .ok (.iconst 1, 1) := by decide +kernel
theorem dX8_seesAs_2 : decode cX8_seesAs 2 = .ok (.if_icmp .eq 14, 3) := by decide +kernel
theorem dX8_seesAs_5 : decode cX8_seesAs 5 = .ok (.iload_n 1, 1) := by decide +kernel
theorem dX8_seesAs_6 : decode cX8_seesAs 6 = .ok (.iconst 4, 1) := by decide +kernel
theorem dX8_seesAs_7 : decode cX8_seesAs 7 = .ok (.if_icmp .eq 9, 3) := by decide +kernel
theorem dX8_seesAs_10 : decode cX8_seesAs 10 = .ok (.iload_n 1, 1) := by decide +kernel
theorem dX8_seesAs_11 : decode cX8_seesAs 11 = .ok (.bipush 7, 2) := by decide +kernel
theorem dX8_seesAs_13 : decode cX8_seesAs 13 = .ok (.if_icmp .ne 18, 3) := by decide +kernel
theorem dX8_seesAs_16 : decode cX8_seesAs 16 = .ok (.aload_n 0, 1) := by decide +kernel
theorem dX8_seesAs_17 : decode cX8_seesAs 17 = .ok (.bipush 20, 2) := by decide +kernel
theorem dX8_seesAs_19 : decode cX8_seesAs 19 = .ok (.invokevirtual 322, 3) := by decide +kernel
theorem dX8_seesAs_22 : decode cX8_seesAs 22 = .ok (.aload_n 0, 1) := by decide +kernel
theorem dX8_seesAs_23 : decode cX8_seesAs 23 = .ok (.iconst 0, 1) := by decide +kernel
theorem dX8_seesAs_24 : decode cX8_seesAs 24 = .ok (.iload_n 2, 1) := by decide +kernel
theorem dX8_seesAs_25 : decode cX8_seesAs 25 = .ok (.invokevirtual 325, 3) := by decide +kernel
theorem dX8_seesAs_28 : decode cX8_seesAs 28 = .ok (.iconst 3, 1) := by decide +kernel
theorem dX8_seesAs_29 : decode cX8_seesAs 29 = .ok (.iadd, 1) := by decide +kernel
theorem dX8_seesAs_30 : decode cX8_seesAs 30 = .ok (.ireturn, 1) := by decide +kernel
theorem dX8_seesAs_31 : decode cX8_seesAs 31 = .ok (.iload_n 1, 1) := by decide +kernel
theorem dX8_seesAs_32 : decode cX8_seesAs 32 = .ok (.bipush 6, 2) := by decide +kernel
theorem dX8_seesAs_34 : decode cX8_seesAs 34 = .ok (.if_icmp .ne 18, 3) := by decide +kernel
theorem dX8_seesAs_37 : decode cX8_seesAs 37 = .ok (.aload_n 0, 1) := by decide +kernel
theorem dX8_seesAs_38 : decode cX8_seesAs 38 = .ok (.bipush 70, 2) := by decide +kernel
theorem dX8_seesAs_40 : decode cX8_seesAs 40 = .ok (.invokevirtual 322, 3) := by decide +kernel
theorem dX8_seesAs_43 : decode cX8_seesAs 43 = .ok (.aload_n 0, 1) := by decide +kernel
theorem dX8_seesAs_44 : decode cX8_seesAs 44 = .ok (.iconst 0, 1) := by decide +kernel
theorem dX8_seesAs_45 : decode cX8_seesAs 45 = .ok (.iload_n 2, 1) := by decide +kernel
theorem dX8_seesAs_46 : decode cX8_seesAs 46 = .ok (.invokevirtual 325, 3) := by decide +kernel
theorem dX8_seesAs_49 : decode cX8_seesAs 49 = .ok (.iconst 2, 1) := by decide +kernel
theorem dX8_seesAs_50 : decode cX8_seesAs 50 = .ok (.imul, 1) := by decide +kernel
theorem dX8_seesAs_51 : decode cX8_seesAs 51 = .ok (.ireturn, 1) := by decide +kernel
theorem dX8_seesAs_52 : decode cX8_seesAs 52 = .ok (.aload_n 0, 1) := by decide +kernel
theorem dX8_seesAs_53 : decode cX8_seesAs 53 = .ok (.iconst 1, 1) := by decide +kernel
theorem dX8_seesAs_54 : decode cX8_seesAs 54 = .ok (.invokevirtual 322, 3) := by decide +kernel
theorem dX8_seesAs_57 : decode cX8_seesAs 57 = .ok (.iload_n 2, 1) := by decide +kernel
theorem dX8_seesAs_58 : decode cX8_seesAs 58 = .ok (.aload_n 0, 1) := by decide +kernel
theorem dX8_seesAs_59 : decode cX8_seesAs 59 = .ok (.getfield 328, 3) := by decide +kernel
theorem dX8_seesAs_62 : decode cX8_seesAs 62 = .ok (.iadd, 1) := by decide +kernel
theorem dX8_seesAs_63 : decode cX8_seesAs 63 = .ok (.ireturn, 1) := by decide +kernel
set_option maxRecDepth 20000 in
theorem ggX8_sendsAs_X8_begins : GoodIn wsX8_sendsAs wsX8_begins := goodIn_r _ [6, 7, 8, 21, 22, 23, 24, 25, 26, 27, 28, 29, 30, 31, 32, 33, 34, 35, 36, 37, 38, 39, 40, 41, 42, 43, 44, 45, 46, 47, 48, 49, 50, 51, 52, 53, 54, 55, 56, 57, 58, 59, 60, 61, 62, 63, 64, 65, 66, 67, 68] (by decide +kernel) (by decide +kernel)
set_option maxRecDepth 20000 in
theorem gX8_sendsAs_X8_begins : GoodIn wsX8_sendsAs (wsV RX8 322 RX8 yX8_begins wsX8_begins) := goodIn_app (goodIn_of _ (by decide +kernel)) ggX8_sendsAs_X8_begins
set_option maxRecDepth 20000 in
theorem ggX8_sendsAs_X8_sendsAs : GoodIn wsX8_sendsAs wsX8_sendsAs := goodIn_r _ [0, 1, 2, 3, 4, 5, 6, 7, 8, 9, 10, 11, 12, 13, 14, 15, 16, 17, 18, 19, 20, 21, 22, 23, 24, 25, 26, 27, 28, 29, 30, 31, 32, 33, 34, 35, 36, 37, 38, 39, 40, 41, 42, 43, 44, 45, 46, 47, 48, 49, 50, 51, 52, 53, 54, 55, 56, 57, 58, 59, 60, 61, 62, 63, 64, 65, 66, 67, 68] (by decide +kernel) (by decide +kernel)
set_option maxRecDepth 20000 in
theorem gX8_sendsAs_X8_sendsAs : GoodIn wsX8_sendsAs (wsV RX8 331 RX8 yX8_sendsAs wsX8_sendsAs) := goodIn_app (goodIn_of _ (by decide +kernel)) ggX8_sendsAs_X8_sendsAs
set_option maxRecDepth 20000 in
theorem ggX8_sendsAs_X8_turnsAs : GoodIn wsX8_sendsAs wsX8_turnsAs := goodIn_r _ [15, 1, 16, 2, 3, 4, 5, 6, 7, 8, 12, 13, 14, 17, 18, 19, 20, 21, 22, 23, 24, 25, 26, 27, 28, 29, 30, 31, 32, 33, 34, 35, 36, 37, 38, 39, 40, 41, 42, 43, 44, 45, 46, 47, 48, 49, 50, 51, 52, 53, 54, 55, 56, 57, 58, 59, 60, 61, 62, 63, 64, 65, 66, 67, 68] (by decide +kernel) (by decide +kernel)
set_option maxRecDepth 20000 in
theorem gX8_sendsAs_X8_turnsAs : GoodIn wsX8_sendsAs (wsV RX8 337 RX8 yX8_turnsAs wsX8_turnsAs) := goodIn_app (goodIn_of _ (by decide +kernel)) ggX8_sendsAs_X8_turnsAs
set_option maxRecDepth 20000 in
theorem ggX8_sendsAs_X8_seesAs : GoodIn wsX8_sendsAs wsX8_seesAs := goodIn_r _ [20, 16, 2, 3, 4, 5, 6, 7, 8, 17, 18, 19, 21, 22, 23, 24, 25, 26, 27, 28, 29, 30, 31, 32, 33, 34, 35, 36, 37, 38, 39, 40, 41, 42, 43, 44, 45, 46, 47, 48, 49, 50, 51, 52, 53, 54, 55, 56, 57, 58, 59, 60, 61, 62, 63, 64, 65, 66, 67, 68] (by decide +kernel) (by decide +kernel)
set_option maxRecDepth 20000 in
theorem gX8_sendsAs_X8_seesAs : GoodIn wsX8_sendsAs (wsV RX8 325 RX8 yX8_seesAs wsX8_seesAs) := goodIn_app (goodIn_of _ (by decide +kernel)) ggX8_sendsAs_X8_seesAs
theorem dX8_sendsAs_0 : decode cX8_sendsAs 0 = .ok (.iload_n 1, 1) := by decide +kernel
theorem dX8_sendsAs_1 : decode cX8_sendsAs 1 = .ok (.iconst 3, 1) := by decide +kernel
theorem dX8_sendsAs_2 : decode cX8_sendsAs 2 = .ok (.if_icmp .eq 8, 3) := by decide +kernel
theorem dX8_sendsAs_5 : decode cX8_sendsAs 5 = .ok (.iload_n 1, 1) := by decide +kernel
theorem dX8_sendsAs_6 : decode cX8_sendsAs 6 = .ok (.iconst 5, 1) := by decide +kernel
theorem dX8_sendsAs_7 : decode cX8_sendsAs 7 = .ok (.if_icmp .ne 18, 3) := by decide +kernel
theorem dX8_sendsAs_10 : decode cX8_sendsAs 10 = .ok (.aload_n 0, 1) := by decide +kernel
theorem dX8_sendsAs_11 : decode cX8_sendsAs 11 = .ok (.bipush 41, 2) := by decide +kernel
theorem dX8_sendsAs_13 : decode cX8_sendsAs 13 = .ok (.invokevirtual 322, 3) := by decide +kernel
theorem dX8_sendsAs_16 : decode cX8_sendsAs 16 = .ok (.aload_n 0, 1) := by decide +kernel
theorem dX8_sendsAs_17 : decode cX8_sendsAs 17 = .ok (.iconst 2, 1) := by decide +kernel
theorem dX8_sendsAs_18 : decode cX8_sendsAs 18 = .ok (.iload_n 2, 1) := by decide +kernel
theorem dX8_sendsAs_19 : decode cX8_sendsAs 19 = .ok (.iconst 1, 1) := by decide +kernel
theorem dX8_sendsAs_20 : decode cX8_sendsAs 20 = .ok (.iadd, 1) := by decide +kernel
theorem dX8_sendsAs_21 : decode cX8_sendsAs 21 = .ok (.invokevirtual 331, 3) := by decide +kernel
theorem dX8_sendsAs_24 : decode cX8_sendsAs 24 = .ok (.ireturn, 1) := by decide +kernel
theorem dX8_sendsAs_25 : decode cX8_sendsAs 25 = .ok (.iload_n 1, 1) := by decide +kernel
theorem dX8_sendsAs_26 : decode cX8_sendsAs 26 = .ok (.iconst 2, 1) := by decide +kernel
theorem dX8_sendsAs_27 : decode cX8_sendsAs 27 = .ok (.if_icmp .ne 17, 3) := by decide +kernel
theorem dX8_sendsAs_30 : decode cX8_sendsAs 30 = .ok (.aload_n 0, 1) := by decide +kernel
theorem dX8_sendsAs_31 : decode cX8_sendsAs 31 = .ok (.bipush 30, 2) := by decide +kernel
theorem dX8_sendsAs_33 : decode cX8_sendsAs 33 = .ok (.invokevirtual 322, 3) := by decide +kernel
theorem dX8_sendsAs_36 : decode cX8_sendsAs 36 = .ok (.aload_n 0, 1) := by decide +kernel
theorem dX8_sendsAs_37 : decode cX8_sendsAs 37 = .ok (.iconst 0, 1) := by decide +kernel
theorem dX8_sendsAs_38 : decode cX8_sendsAs 38 = .ok (.iload_n 2, 1) := by decide +kernel
theorem dX8_sendsAs_39 : decode cX8_sendsAs 39 = .ok (.invokevirtual 331, 3) := by decide +kernel
theorem dX8_sendsAs_42 : decode cX8_sendsAs 42 = .ok (.ineg, 1) := by decide +kernel
theorem dX8_sendsAs_43 : decode cX8_sendsAs 43 = .ok (.ireturn, 1) := by decide +kernel
theorem dX8_sendsAs_44 : decode cX8_sendsAs 44 = .ok (.iload_n 1, 1) := by decide +kernel
theorem dX8_sendsAs_45 : decode cX8_sendsAs 45 = .ok (.bipush 7, 2) := by decide +kernel
theorem dX8_sendsAs_47 : decode cX8_sendsAs 47 = .ok (.if_icmp .ne 28, 3) := by decide +kernel
theorem dX8_sendsAs_50 : decode cX8_sendsAs 50 = .ok (.aload_n 0, 1) := by decide +kernel
theorem dX8_sendsAs_51 : decode cX8_sendsAs 51 = .ok (.bipush 80, 2) := by decide +kernel
theorem dX8_sendsAs_53 : decode cX8_sendsAs 53 = .ok (.invokevirtual 322, 3) := by decide +kernel
theorem dX8_sendsAs_56 : decode cX8_sendsAs 56 = .ok (.aload_n 0, 1) := by decide +kernel
theorem dX8_sendsAs_57 : decode cX8_sendsAs 57 = .ok (.iconst 4, 1) := by decide +kernel
theorem dX8_sendsAs_58 : decode cX8_sendsAs 58 = .ok (.iload_n 2, 1) := by decide +kernel
theorem dX8_sendsAs_59 : decode cX8_sendsAs 59 = .ok (.invokevirtual 331, 3) := by decide +kernel
theorem dX8_sendsAs_62 : decode cX8_sendsAs 62 = .ok (.istore_n 3, 1) := by decide +kernel
theorem dX8_sendsAs_63 : decode cX8_sendsAs 63 = .ok (.iload_n 3, 1) := by decide +kernel
theorem dX8_sendsAs_64 : decode cX8_sendsAs 64 = .ok (.aload_n 0, 1) := by decide +kernel
theorem dX8_sendsAs_65 : decode cX8_sendsAs 65 = .ok (.aload_n 0, 1) := by decide +kernel
theorem dX8_sendsAs_66 : decode cX8_sendsAs 66 = .ok (.getfield 334, 3) := by decide +kernel
theorem dX8_sendsAs_69 : decode cX8_sendsAs 69 = .ok (.iconst 2, 1) := by decide +kernel
theorem dX8_sendsAs_70 : decode cX8_sendsAs 70 = .ok (.invokevirtual 337, 3) := by decide +kernel
theorem dX8_sendsAs_73 : decode cX8_sendsAs 73 = .ok (.iadd, 1) := by decide +kernel
theorem dX8_sendsAs_74 : decode cX8_sendsAs 74 = .ok (.ireturn, 1) := by decide +kernel
theorem dX8_sendsAs_75 : decode cX8_sendsAs 75 = .ok (.aload_n 0, 1) := by decide +kernel
theorem dX8_sendsAs_76 : decode cX8_sendsAs 76 = .ok (.bipush 10, 2) := by decide +kernel
theorem dX8_sendsAs_78 : decode cX8_sendsAs 78 = .ok (.invokevirtual 322, 3) := by decide +kernel
theorem dX8_sendsAs_81 : decode cX8_sendsAs 81 = .ok (.aload_n 0, 1) := by decide +kernel
theorem dX8_sendsAs_82 : decode cX8_sendsAs 82 = .ok (.aload_n 0, 1) := by decide +kernel
theorem dX8_sendsAs_83 : decode cX8_sendsAs 83 = .ok (.getfield 334, 3) := by decide +kernel
theorem dX8_sendsAs_86 : decode cX8_sendsAs 86 = .ok (.iload_n 2, 1) := by decide +kernel
theorem dX8_sendsAs_87 : decode cX8_sendsAs 87 = .ok (.invokevirtual 325, 3) := by decide +kernel
theorem dX8_sendsAs_90 : decode cX8_sendsAs 90 = .ok (.iconst 2, 1) := by decide +kernel
theorem dX8_sendsAs_91 : decode cX8_sendsAs 91 = .ok (.imul, 1) := by decide +kernel
theorem dX8_sendsAs_92 : decode cX8_sendsAs 92 = .ok (.ireturn, 1) := by decide +kernel
set_option maxRecDepth 20000 in
theorem ggX8_turnsAs_X8_begins : GoodIn wsX8_turnsAs wsX8_begins := goodIn_r _ [7, 8, 9, 17, 18, 19, 20, 21, 22, 23, 24, 25, 26, 27, 28, 29, 30, 31, 32, 33, 34, 35, 36, 37, 38, 39, 40, 41, 42, 43, 44, 45, 46, 47, 48, 49, 50, 51, 52, 53, 54, 55, 56, 57, 58, 59, 60, 61, 62, 63, 64] (by decide +kernel) (by decide +kernel)
set_option maxRecDepth 20000 in
theorem gX8_turnsAs_X8_begins : GoodIn wsX8_turnsAs (wsV RX8 322 RX8 yX8_begins wsX8_begins) := goodIn_app (goodIn_of _ (by decide +kernel)) ggX8_turnsAs_X8_begins
set_option maxRecDepth 20000 in
theorem ggX8_turnsAs_X8_turnsAs : GoodIn wsX8_turnsAs wsX8_turnsAs := goodIn_r _ [0, 1, 2, 3, 4, 5, 6, 7, 8, 9, 10, 11, 12, 13, 14, 15, 16, 17, 18, 19, 20, 21, 22, 23, 24, 25, 26, 27, 28, 29, 30, 31, 32, 33, 34, 35, 36, 37, 38, 39, 40, 41, 42, 43, 44, 45, 46, 47, 48, 49, 50, 51, 52, 53, 54, 55, 56, 57, 58, 59, 60, 61, 62, 63, 64] (by decide +kernel) (by decide +kernel)
set_option maxRecDepth 20000 in
theorem gX8_turnsAs_X8_turnsAs : GoodIn wsX8_turnsAs (wsV RX8 337 RX8 yX8_turnsAs wsX8_turnsAs) := goodIn_app (goodIn_of _ (by decide +kernel)) ggX8_turnsAs_X8_turnsAs
set_option maxRecDepth 20000 in
theorem ggX8_turnsAs_X8_seesAs : GoodIn wsX8_turnsAs wsX8_seesAs := goodIn_r _ [16, 2, 3, 4, 5, 6, 7, 8, 9, 13, 14, 15, 17, 18, 19, 20, 21, 22, 23, 24, 25, 26, 27, 28, 29, 30, 31, 32, 33, 34, 35, 36, 37, 38, 39, 40, 41, 42, 43, 44, 45, 46, 47, 48, 49, 50, 51, 52, 53, 54, 55, 56, 57, 58, 59, 60, 61, 62, 63, 64] (by decide +kernel) (by decide +kernel)
set_option maxRecDepth 20000 in
theorem gX8_turnsAs_X8_seesAs : GoodIn wsX8_turnsAs (wsV RX8 325 RX8 yX8_seesAs wsX8_seesAs) := goodIn_app (goodIn_of _ (by decide +kernel)) ggX8_turnsAs_X8_seesAs
theorem dX8_turnsAs_0 : decode cX8_turnsAs 0 = .ok (.iload_n 1, 1) := by decide +kernel
theorem dX8_turnsAs_1 : decode cX8_turnsAs 1 = .ok (.iconst 3, 1) := by decide +kernel
theorem dX8_turnsAs_2 : decode cX8_turnsAs 2 = .ok (.if_icmp .eq 8, 3) := by decide +kernel
theorem dX8_turnsAs_5 : decode cX8_turnsAs 5 = .ok (.iload_n 1, 1) := by decide +kernel
theorem dX8_turnsAs_6 : decode cX8_turnsAs 6 = .ok (.iconst 5, 1) := by decide +kernel
theorem dX8_turnsAs_7 : decode cX8_turnsAs 7 = .ok (.if_icmp .ne 18, 3) := by decide +kernel
theorem dX8_turnsAs_10 : decode cX8_turnsAs 10 = .ok (.aload_n 0, 1) := by decide +kernel
theorem dX8_turnsAs_11 : decode cX8_turnsAs 11 = .ok (.bipush 40, 2) := by decide +kernel
theorem dX8_turnsAs_13 : decode cX8_turnsAs 13 = .ok (.invokevirtual 322, 3) := by decide +kernel
theorem dX8_turnsAs_16 : decode cX8_turnsAs 16 = .ok (.aload_n 0, 1) := by decide +kernel
theorem dX8_turnsAs_17 : decode cX8_turnsAs 17 = .ok (.iconst 2, 1) := by decide +kernel
theorem dX8_turnsAs_18 : decode cX8_turnsAs 18 = .ok (.iload_n 2, 1) := by decide +kernel
theorem dX8_turnsAs_19 : decode cX8_turnsAs 19 = .ok (.invokevirtual 337, 3) := by decide +kernel
theorem dX8_turnsAs_22 : decode cX8_turnsAs 22 = .ok (.iconst 3, 1) := by decide +kernel
theorem dX8_turnsAs_23 : decode cX8_turnsAs 23 = .ok (.imul, 1) := by decide +kernel
theorem dX8_turnsAs_24 : decode cX8_turnsAs 24 = .ok (.ireturn, 1) := by decide +kernel
theorem dX8_turnsAs_25 : decode cX8_turnsAs 25 = .ok (.iload_n 1, 1) := by decide +kernel
theorem dX8_turnsAs_26 : decode cX8_turnsAs 26 = .ok (.iconst 4, 1) := by decide +kernel
theorem dX8_turnsAs_27 : decode cX8_turnsAs 27 = .ok (.if_icmp .eq 9, 3) := by decide +kernel
theorem dX8_turnsAs_30 : decode cX8_turnsAs 30 = .ok (.iload_n 1, 1) := by decide +kernel
theorem dX8_turnsAs_31 : decode cX8_turnsAs 31 = .ok (.bipush 7, 2) := by decide +kernel
theorem dX8_turnsAs_33 : decode cX8_turnsAs 33 = .ok (.if_icmp .ne 28, 3) := by decide +kernel
theorem dX8_turnsAs_36 : decode cX8_turnsAs 36 = .ok (.aload_n 0, 1) := by decide +kernel
theorem dX8_turnsAs_37 : decode cX8_turnsAs 37 = .ok (.bipush 50, 2) := by decide +kernel
theorem dX8_turnsAs_39 : decode cX8_turnsAs 39 = .ok (.invokevirtual 322, 3) := by decide +kernel
theorem dX8_turnsAs_42 : decode cX8_turnsAs 42 = .ok (.aload_n 0, 1) := by decide +kernel
theorem dX8_turnsAs_43 : decode cX8_turnsAs 43 = .ok (.iconst 1, 1) := by decide +kernel
theorem dX8_turnsAs_44 : decode cX8_turnsAs 44 = .ok (.iload_n 2, 1) := by decide +kernel
theorem dX8_turnsAs_45 : decode cX8_turnsAs 45 = .ok (.invokevirtual 337, 3) := by decide +kernel
theorem dX8_turnsAs_48 : decode cX8_turnsAs 48 = .ok (.istore_n 3, 1) := by decide +kernel
theorem dX8_turnsAs_49 : decode cX8_turnsAs 49 = .ok (.iload_n 3, 1) := by decide +kernel
theorem dX8_turnsAs_50 : decode cX8_turnsAs 50 = .ok (.aload_n 0, 1) := by decide +kernel
theorem dX8_turnsAs_51 : decode cX8_turnsAs 51 = .ok (.aload_n 0, 1) := by decide +kernel
theorem dX8_turnsAs_52 : decode cX8_turnsAs 52 = .ok (.getfield 334, 3) := by decide +kernel
theorem dX8_turnsAs_55 : decode cX8_turnsAs 55 = .ok (.iconst 2, 1) := by decide +kernel
theorem dX8_turnsAs_56 : decode cX8_turnsAs 56 = .ok (.invokevirtual 325, 3) := by decide +kernel
theorem dX8_turnsAs_59 : decode cX8_turnsAs 59 = .ok (.isub, 1) := by decide +kernel
theorem dX8_turnsAs_60 : decode cX8_turnsAs 60 = .ok (.ireturn, 1) := by decide +kernel
theorem dX8_turnsAs_61 : decode cX8_turnsAs 61 = .ok (.aload_n 0, 1) := by decide +kernel
theorem dX8_turnsAs_62 : decode cX8_turnsAs 62 = .ok (.bipush 11, 2) := by decide +kernel
theorem dX8_turnsAs_64 : decode cX8_turnsAs 64 = .ok (.invokevirtual 322, 3) := by decide +kernel
theorem dX8_turnsAs_67 : decode cX8_turnsAs 67 = .ok (.iload_n 2, 1) := by decide +kernel
theorem dX8_turnsAs_68 : decode cX8_turnsAs 68 = .ok (.aload_n 0, 1) := by decide +kernel
theorem dX8_turnsAs_69 : decode cX8_turnsAs 69 = .ok (.getfield 328, 3) := by decide +kernel
theorem dX8_turnsAs_72 : decode cX8_turnsAs 72 = .ok (.ixor, 1) := by decide +kernel
theorem dX8_turnsAs_73 : decode cX8_turnsAs 73 = .ok (.ireturn, 1) := by decide +kernel
set_option maxRecDepth 20000 in
theorem ggX8_tellsAs_X8_begins : GoodIn wsX8_tellsAs wsX8_begins := goodIn_r _ [6, 7, 8, 25, 26, 27, 28, 29, 30, 31, 32, 33, 34, 35, 36, 37, 38, 39, 40, 41, 42, 43, 44, 45, 46, 47, 48, 49, 50, 51, 52, 53, 54, 55, 56, 57, 58, 59, 60, 61, 62, 63, 64, 65, 66, 67, 68, 69, 70, 71, 72] (by decide +kernel) (by decide +kernel)
set_option maxRecDepth 20000 in
theorem gX8_tellsAs_X8_begins : GoodIn wsX8_tellsAs (wsV RX8 322 RX8 yX8_begins wsX8_begins) := goodIn_app (goodIn_of _ (by decide +kernel)) ggX8_tellsAs_X8_begins
set_option maxRecDepth 20000 in
theorem ggX8_tellsAs_X8_tellsAs : GoodIn wsX8_tellsAs wsX8_tellsAs := goodIn_r _ [0, 1, 2, 3, 4, 5, 6, 7, 8, 9, 10, 11, 12, 13, 14, 15, 16, 17, 18, 19, 20, 21, 22, 23, 24, 25, 26, 27, 28, 29, 30, 31, 32, 33, 34, 35, 36, 37, 38, 39, 40, 41, 42, 43, 44, 45, 46, 47, 48, 49, 50, 51, 52, 53, 54, 55, 56, 57, 58, 59, 60, 61, 62, 63, 64, 65, 66, 67, 68, 69, 70, 71, 72] (by decide +kernel) (by decide +kernel)
set_option maxRecDepth 20000 in
theorem gX8_tellsAs_X8_tellsAs : GoodIn wsX8_tellsAs (wsV RX8 340 RX8 yX8_tellsAs wsX8_tellsAs) := goodIn_app (goodIn_of _ (by decide +kernel)) ggX8_tellsAs_X8_tellsAs
set_option maxRecDepth 20000 in
theorem ggX8_tellsAs_X8_sendsAs : GoodIn wsX8_tellsAs wsX8_sendsAs := goodIn_r _ [15, 1, 2, 3, 4, 5, 6, 7, 8, 12, 13, 14, 16, 17, 18, 19, 20, 21, 22, 23, 24, 25, 26, 27, 28, 29, 30, 31, 32, 33, 34, 35, 36, 37, 38, 39, 40, 41, 42, 43, 44, 45, 46, 47, 48, 49, 50, 51, 52, 53, 54, 55, 56, 57, 58, 59, 60, 61, 62, 63, 64, 65, 66, 67, 68, 69, 70, 71, 72] (by decide +kernel) (by decide +kernel)
set_option maxRecDepth 20000 in
theorem gX8_tellsAs_X8_sendsAs : GoodIn wsX8_tellsAs (wsV RX8 331 RX8 yX8_sendsAs wsX8_sendsAs) := goodIn_app (goodIn_of _ (by decide +kernel)) ggX8_tellsAs_X8_sendsAs
set_option maxRecDepth 20000 in
theorem ggX8_tellsAs_X8_turnsAs : GoodIn wsX8_tellsAs wsX8_turnsAs := goodIn_r _ [19, 1, 20, 2, 3, 4, 5, 6, 7, 8, 16, 17, 18, 21, 22, 23, 24, 25, 26, 27, 28, 29, 30, 31, 32, 33, 34, 35, 36, 37, 38, 39, 40, 41, 42, 43, 44, 45, 46, 47, 48, 49, 50, 51, 52, 53, 54, 55, 56, 57, 58, 59, 60, 61, 62, 63, 64, 65, 66, 67, 68, 69, 70, 71, 72] (by decide +kernel) (by decide +kernel)
set_option maxRecDepth 20000 in
theorem gX8_tellsAs_X8_turnsAs : GoodIn wsX8_tellsAs (wsV RX8 337 RX8 yX8_turnsAs wsX8_turnsAs) := goodIn_app (goodIn_of _ (by decide +kernel)) ggX8_tellsAs_X8_turnsAs
theorem dX8_tellsAs_0 : decode cX8_tellsAs 0 = .ok (.iload_n 1, 1) := by decide +kernel
theorem dX8_tellsAs_1 : decode cX8_tellsAs 1 = .ok (.iconst 5, 1) := by decide +kernel
theorem dX8_tellsAs_2 : decode cX8_tellsAs 2 = .ok (.if_icmp .ne 18, 3) := by decide +kernel
theorem dX8_tellsAs_5 : decode cX8_tellsAs 5 = .ok (.aload_n 0, 1) := by decide +kernel
theorem dX8_tellsAs_6 : decode cX8_tellsAs 6 = .ok (.bipush 60, 2) := by decide +kernel
theorem dX8_tellsAs_8 : decode cX8_tellsAs 8 = .ok (.invokevirtual 322, 3) := by decide +kernel
theorem dX8_tellsAs_11 : decode cX8_tellsAs 11 = .ok (.aload_n 0, 1) := by decide +kernel
theorem dX8_tellsAs_12 : decode cX8_tellsAs 12 = .ok (.iconst 3, 1) := by decide +kernel
theorem dX8_tellsAs_13 : decode cX8_tellsAs 13 = .ok (.iload_n 2, 1) := by decide +kernel
theorem dX8_tellsAs_14 : decode cX8_tellsAs 14 = .ok (.invokevirtual 340, 3) := by decide +kernel
theorem dX8_tellsAs_17 : decode cX8_tellsAs 17 = .ok (.iconst 5, 1) := by decide +kernel
theorem dX8_tellsAs_18 : decode cX8_tellsAs 18 = .ok (.ixor, 1) := by decide +kernel
theorem dX8_tellsAs_19 : decode cX8_tellsAs 19 = .ok (.ireturn, 1) := by decide +kernel
theorem dX8_tellsAs_20 : decode cX8_tellsAs 20 = .ok (.iload_n 1, 1) := by decide +kernel
theorem dX8_tellsAs_21 : decode cX8_tellsAs 21 = .ok (.bipush 7, 2) := by decide +kernel
theorem dX8_tellsAs_23 : decode cX8_tellsAs 23 = .ok (.if_icmp .ne 18, 3) := by decide +kernel
theorem dX8_tellsAs_26 : decode cX8_tellsAs 26 = .ok (.aload_n 0, 1) := by decide +kernel
theorem dX8_tellsAs_27 : decode cX8_tellsAs 27 = .ok (.bipush 81, 2) := by decide +kernel
theorem dX8_tellsAs_29 : decode cX8_tellsAs 29 = .ok (.invokevirtual 322, 3) := by decide +kernel
theorem dX8_tellsAs_32 : decode cX8_tellsAs 32 = .ok (.aload_n 0, 1) := by decide +kernel
theorem dX8_tellsAs_33 : decode cX8_tellsAs 33 = .ok (.iconst 4, 1) := by decide +kernel
theorem dX8_tellsAs_34 : decode cX8_tellsAs 34 = .ok (.iload_n 2, 1) := by decide +kernel
theorem dX8_tellsAs_35 : decode cX8_tellsAs 35 = .ok (.invokevirtual 340, 3) := by decide +kernel
theorem dX8_tellsAs_38 : decode cX8_tellsAs 38 = .ok (.iconst 1, 1) := by decide +kernel
theorem dX8_tellsAs_39 : decode cX8_tellsAs 39 = .ok (.isub, 1) := by decide +kernel
theorem dX8_tellsAs_40 : decode cX8_tellsAs 40 = .ok (.ireturn, 1) := by decide +kernel
theorem dX8_tellsAs_41 : decode cX8_tellsAs 41 = .ok (.aload_n 0, 1) := by decide +kernel
theorem dX8_tellsAs_42 : decode cX8_tellsAs 42 = .ok (.iconst 2, 1) := by decide +kernel
theorem dX8_tellsAs_43 : decode cX8_tellsAs 43 = .ok (.invokevirtual 322, 3) := by decide +kernel
theorem dX8_tellsAs_46 : decode cX8_tellsAs 46 = .ok (.aload_n 0, 1) := by decide +kernel
theorem dX8_tellsAs_47 : decode cX8_tellsAs 47 = .ok (.aload_n 0, 1) := by decide +kernel
theorem dX8_tellsAs_48 : decode cX8_tellsAs 48 = .ok (.getfield 334, 3) := by decide +kernel
theorem dX8_tellsAs_51 : decode cX8_tellsAs 51 = .ok (.iload_n 2, 1) := by decide +kernel
theorem dX8_tellsAs_52 : decode cX8_tellsAs 52 = .ok (.invokevirtual 331, 3) := by decide +kernel
theorem dX8_tellsAs_55 : decode cX8_tellsAs 55 = .ok (.istore_n 3, 1) := by decide +kernel
theorem dX8_tellsAs_56 : decode cX8_tellsAs 56 = .ok (.iload_n 3, 1) := by decide +kernel
theorem dX8_tellsAs_57 : decode cX8_tellsAs 57 = .ok (.aload_n 0, 1) := by decide +kernel
theorem dX8_tellsAs_58 : decode cX8_tellsAs 58 = .ok (.aload_n 0, 1) := by decide +kernel
theorem dX8_tellsAs_59 : decode cX8_tellsAs 59 = .ok (.getfield 334, 3) := by decide +kernel
theorem dX8_tellsAs_62 : decode cX8_tellsAs 62 = .ok (.iconst 1, 1) := by decide +kernel
theorem dX8_tellsAs_63 : decode cX8_tellsAs 63 = .ok (.invokevirtual 337, 3) := by decide +kernel
theorem dX8_tellsAs_66 : decode cX8_tellsAs 66 = .ok (.isub, 1) := by decide +kernel
theorem dX8_tellsAs_67 : decode cX8_tellsAs 67 = .ok (.ireturn, 1) := by decide +kernel
set_option maxRecDepth 20000 in
theorem ggX8_act_X8_isBody : GoodIn wsX8_act wsX8_isBody := goodIn_r _ [9, 10, 11, 12, 8, 13, 35, 36, 37, 38, 39, 40, 41, 42, 43, 44, 45, 46, 47, 48, 49, 50, 51, 52, 53, 54, 55, 56, 57, 58, 59, 60, 61, 62, 63, 64, 65, 66, 67, 68, 69, 70, 71, 72, 73, 74, 75, 76, 77, 78, 79, 80, 81, 82] (by decide +kernel) (by decide +kernel)
set_option maxRecDepth 20000 in
theorem gX8_act_X8_isBody : GoodIn wsX8_act (wsV RX8 343 RX8 yX8_isBody wsX8_isBody) := goodIn_app (goodIn_of _ (by decide +kernel)) ggX8_act_X8_isBody
set_option maxRecDepth 20000 in
theorem ggX8_act_X8_seesAs : GoodIn wsX8_act wsX8_seesAs := goodIn_r _ [17, 4, 18, 19, 20, 8, 21, 1, 22, 14, 15, 16, 35, 36, 37, 38, 39, 40, 41, 42, 43, 44, 45, 46, 47, 48, 49, 50, 51, 52, 53, 54, 55, 56, 57, 58, 59, 60, 61, 62, 63, 64, 65, 66, 67, 68, 69, 70, 71, 72, 73, 74, 75, 76, 77, 78, 79, 80, 81, 82] (by decide +kernel) (by decide +kernel)
set_option maxRecDepth 20000 in
theorem gX8_act_X8_seesAs : GoodIn wsX8_act (wsV RX8 325 RX8 yX8_seesAs wsX8_seesAs) := goodIn_app (goodIn_of _ (by decide +kernel)) ggX8_act_X8_seesAs
set_option maxRecDepth 20000 in
theorem ggX8_act_X8_sendsAs : GoodIn wsX8_act wsX8_sendsAs := goodIn_r _ [26, 3, 18, 19, 20, 8, 21, 1, 22, 23, 24, 25, 27, 28, 29, 30, 4, 14, 15, 16, 17, 35, 36, 37, 38, 39, 40, 41, 42, 43, 44, 45, 46, 47, 48, 49, 50, 51, 52, 53, 54, 55, 56, 57, 58, 59, 60, 61, 62, 63, 64, 65, 66, 67, 68, 69, 70, 71, 72, 73, 74, 75, 76, 77, 78, 79, 80, 81, 82] (by decide +kernel) (by decide +kernel)
set_option maxRecDepth 20000 in
theorem gX8_act_X8_sendsAs : GoodIn wsX8_act (wsV RX8 331 RX8 yX8_sendsAs wsX8_sendsAs) := goodIn_app (goodIn_of _ (by decide +kernel)) ggX8_act_X8_sendsAs
set_option maxRecDepth 20000 in
theorem ggX8_act_X8_turnsAs : GoodIn wsX8_act wsX8_turnsAs := goodIn_r _ [30, 3, 4, 18, 19, 20, 8, 21, 1, 22, 27, 28, 29, 14, 15, 16, 17, 35, 36, 37, 38, 39, 40, 41, 42, 43, 44, 45, 46, 47, 48, 49, 50, 51, 52, 53, 54, 55, 56, 57, 58, 59, 60, 61, 62, 63, 64, 65, 66, 67, 68, 69, 70, 71, 72, 73, 74, 75, 76, 77, 78, 79, 80, 81, 82] (by decide +kernel) (by decide +kernel)
set_option maxRecDepth 20000 in
theorem gX8_act_X8_turnsAs : GoodIn wsX8_act (wsV RX8 337 RX8 yX8_turnsAs wsX8_turnsAs) := goodIn_app (goodIn_of _ (by decide +kernel)) ggX8_act_X8_turnsAs
set_option maxRecDepth 20000 in
theorem ggX8_act_X8_tellsAs : GoodIn wsX8_act wsX8_tellsAs := goodIn_r _ [34, 3, 18, 19, 20, 8, 21, 1, 22, 31, 32, 33, 23, 24, 25, 26, 27, 28, 29, 30, 4, 14, 15, 16, 17, 35, 36, 37, 38, 39, 40, 41, 42, 43, 44, 45, 46, 47, 48, 49, 50, 51, 52, 53, 54, 55, 56, 57, 58, 59, 60, 61, 62, 63, 64, 65, 66, 67, 68, 69, 70, 71, 72, 73, 74, 75, 76, 77, 78, 79, 80, 81, 82] (by decide +kernel) (by decide +kernel)
set_option maxRecDepth 20000 in
theorem gX8_act_X8_tellsAs : GoodIn wsX8_act (wsV RX8 340 RX8 yX8_tellsAs wsX8_tellsAs) := goodIn_app (goodIn_of _ (by decide +kernel)) ggX8_act_X8_tellsAs
theorem dX8_act_0 : decode cX8_act 0 = .ok (.aload_n 0, 1) := by decide +kernel
theorem dX8_act_1 : decode cX8_act 1 = .ok (.iconst 0, 1) := by decide +kernel
theorem dX8_act_2 : decode cX8_act 2 = .ok (.putfield 319, 3) := by decide +kernel
theorem dX8_act_5 : decode cX8_act 5 = .ok (.aload_n 0, 1) := by decide +kernel
theorem dX8_act_6 : decode cX8_act 6 = .ok (.iload_n 1, 1) := by decide +kernel
theorem dX8_act_7 : decode cX8_act 7 = .ok (.invokevirtual 343, 3) := by decide +kernel
theorem dX8_act_10 : decode cX8_act 10 = .ok (.ifCond .ne 5, 3) := by decide +kernel
theorem dX8_act_13 : decode cX8_act 13 = .ok (.iconst 0, 1) := by decide +kernel
theorem dX8_act_14 : decode cX8_act 14 = .ok (.ireturn, 1) := by decide +kernel
theorem dX8_act_15 : decode cX8_act 15 = .ok (.aload_n 0, 1) := by decide +kernel
theorem dX8_act_16 : decode cX8_act 16 = .ok (.aload_n 0, 1) := by decide +kernel
theorem dX8_act_17 : decode cX8_act 17 = .ok (.getfield 65, 3) := by decide +kernel
theorem dX8_act_20 : decode cX8_act 20 = .ok (.iload_n 1, 1) := by decide +kernel
theorem dX8_act_21 : decode cX8_act 21 = .ok (.iaload, 1) := by decide +kernel
theorem dX8_act_22 : decode cX8_act 22 = .ok (.putfield 334, 3) := by decide +kernel
theorem dX8_act_25 : decode cX8_act 25 = .ok (.aload_n 0, 1) := by decide +kernel
theorem dX8_act_26 : decode cX8_act 26 = .ok (.iload_n 1, 1) := by decide +kernel
theorem dX8_act_27 : decode cX8_act 27 = .ok (.putfield 328, 3) := by decide +kernel
theorem dX8_act_30 : decode cX8_act 30 = .ok (.iload_n 2, 1) := by decide +kernel
theorem dX8_act_31 : decode cX8_act 31 = .ok (.tableswitch 69 0 3 #[29, 39, 49, 59], 29) := by decide +kernel
theorem dX8_act_60 : decode cX8_act 60 = .ok (.aload_n 0, 1) := by decide +kernel
theorem dX8_act_61 : decode cX8_act 61 = .ok (.aload_n 0, 1) := by decide +kernel
theorem dX8_act_62 : decode cX8_act 62 = .ok (.getfield 334, 3) := by decide +kernel
theorem dX8_act_65 : decode cX8_act 65 = .ok (.iload_n 3, 1) := by decide +kernel
theorem dX8_act_66 : decode cX8_act 66 = .ok (.invokevirtual 325, 3) := by decide +kernel
theorem dX8_act_69 : decode cX8_act 69 = .ok (.ireturn, 1) := by decide +kernel
theorem dX8_act_70 : decode cX8_act 70 = .ok (.aload_n 0, 1) := by decide +kernel
theorem dX8_act_71 : decode cX8_act 71 = .ok (.aload_n 0, 1) := by decide +kernel
theorem dX8_act_72 : decode cX8_act 72 = .ok (.getfield 334, 3) := by decide +kernel
theorem dX8_act_75 : decode cX8_act 75 = .ok (.iload_n 3, 1) := by decide +kernel
theorem dX8_act_76 : decode cX8_act 76 = .ok (.invokevirtual 331, 3) := by decide +kernel
theorem dX8_act_79 : decode cX8_act 79 = .ok (.ireturn, 1) := by decide +kernel
theorem dX8_act_80 : decode cX8_act 80 = .ok (.aload_n 0, 1) := by decide +kernel
theorem dX8_act_81 : decode cX8_act 81 = .ok (.aload_n 0, 1) := by decide +kernel
theorem dX8_act_82 : decode cX8_act 82 = .ok (.getfield 334, 3) := by decide +kernel
theorem dX8_act_85 : decode cX8_act 85 = .ok (.iload_n 3, 1) := by decide +kernel
theorem dX8_act_86 : decode cX8_act 86 = .ok (.invokevirtual 337, 3) := by decide +kernel
theorem dX8_act_89 : decode cX8_act 89 = .ok (.ireturn, 1) := by decide +kernel
theorem dX8_act_90 : decode cX8_act 90 = .ok (.aload_n 0, 1) := by decide +kernel
theorem dX8_act_91 : decode cX8_act 91 = .ok (.aload_n 0, 1) := by decide +kernel
theorem dX8_act_92 : decode cX8_act 92 = .ok (.getfield 334, 3) := by decide +kernel
theorem dX8_act_95 : decode cX8_act 95 = .ok (.iload_n 3, 1) := by decide +kernel
theorem dX8_act_96 : decode cX8_act 96 = .ok (.invokevirtual 340, 3) := by decide +kernel
theorem dX8_act_99 : decode cX8_act 99 = .ok (.ireturn, 1) := by decide +kernel
theorem dX8_act_100 : decode cX8_act 100 = .ok (.iconst 0, 1) := by decide +kernel
theorem dX8_act_101 : decode cX8_act 101 = .ok (.ireturn, 1) := by decide +kernel
theorem dX8_trace_0 : decode cX8_trace 0 = .ok (.iload_n 1, 1) := by decide +kernel
theorem dX8_trace_1 : decode cX8_trace 1 = .ok (.ifCond .lt 26, 3) := by decide +kernel
theorem dX8_trace_4 : decode cX8_trace 4 = .ok (.iload_n 1, 1) := by decide +kernel
theorem dX8_trace_5 : decode cX8_trace 5 = .ok (.aload_n 0, 1) := by decide +kernel
theorem dX8_trace_6 : decode cX8_trace 6 = .ok (.getfield 319, 3) := by decide +kernel
theorem dX8_trace_9 : decode cX8_trace 9 = .ok (.if_icmp .ge 18, 3) := by decide +kernel
theorem dX8_trace_12 : decode cX8_trace 12 = .ok (.iload_n 1, 1) := by decide +kernel
theorem dX8_trace_13 : decode cX8_trace 13 = .ok (.bipush 24, 2) := by decide +kernel
theorem dX8_trace_15 : decode cX8_trace 15 = .ok (.if_icmp .ge 12, 3) := by decide +kernel
theorem dX8_trace_18 : decode cX8_trace 18 = .ok (.aload_n 0, 1) := by decide +kernel
theorem dX8_trace_19 : decode cX8_trace 19 = .ok (.getfield 68, 3) := by decide +kernel
theorem dX8_trace_22 : decode cX8_trace 22 = .ok (.iload_n 1, 1) := by decide +kernel
theorem dX8_trace_23 : decode cX8_trace 23 = .ok (.iaload, 1) := by decide +kernel
theorem dX8_trace_24 : decode cX8_trace 24 = .ok (.goto 4, 3) := by decide +kernel
theorem dX8_trace_27 : decode cX8_trace 27 = .ok (.iconst (-1), 1) := by decide +kernel
theorem dX8_trace_28 : decode cX8_trace 28 = .ok (.ireturn, 1) := by decide +kernel
set_option maxRecDepth 20000 in
theorem ggX8_isShelf_X8_within : GoodIn wsX8_isShelf wsX8_within := goodIn_r _ [5] (by decide +kernel) (by decide +kernel)
set_option maxRecDepth 20000 in
theorem gX8_isShelf_X8_within : GoodIn wsX8_isShelf (va_wsS RX8 97 yX8_within wsX8_within) := goodIn_app (goodIn_of _ (by decide +kernel)) ggX8_isShelf_X8_within
theorem dX8_isShelf_0 : decode cX8_isShelf 0 = .ok (.iload_n 0, 1) := by decide +kernel
theorem dX8_isShelf_1 : decode cX8_isShelf 1 = .ok (.i2l, 1) := by decide +kernel
theorem dX8_isShelf_2 : decode cX8_isShelf 2 = .ok (.lconst 0, 1) := by decide +kernel
theorem dX8_isShelf_3 : decode cX8_isShelf 3 = .ok (.ldc2_w 346, 3) := by decide +kernel
theorem dX8_isShelf_6 : decode cX8_isShelf 6 = .ok (.invokestatic 97, 3) := by decide +kernel
theorem dX8_isShelf_9 : decode cX8_isShelf 9 = .ok (.ireturn, 1) := by decide +kernel
set_option maxRecDepth 20000 in
theorem ggX8_keep_X8_isShelf : GoodIn wsX8_keep wsX8_isShelf := goodIn_r _ [6, 7, 8, 9, 5, 10] (by decide +kernel) (by decide +kernel)
set_option maxRecDepth 20000 in
theorem gX8_keep_X8_isShelf : GoodIn wsX8_keep (va_wsS RX8 118 yX8_isShelf wsX8_isShelf) := goodIn_app (goodIn_of _ (by decide +kernel)) ggX8_keep_X8_isShelf
set_option maxRecDepth 20000 in
theorem ggX8_keep_X8_isBody : GoodIn wsX8_keep wsX8_isBody := goodIn_r _ [14, 15, 8, 9, 5, 10, 16, 17, 18, 19, 20, 21, 22, 23, 24, 25, 26, 27, 28, 29, 30, 31, 32, 33, 34, 35, 36, 37, 38, 39, 40, 41, 42, 43, 44, 45, 46, 47, 48, 49, 50, 51, 52, 53, 54, 55, 56, 57, 58, 59, 60, 61, 62, 63] (by decide +kernel) (by decide +kernel)
set_option maxRecDepth 20000 in
theorem gX8_keep_X8_isBody : GoodIn wsX8_keep (wsV RX8 343 RX8 yX8_isBody wsX8_isBody) := goodIn_app (goodIn_of _ (by decide +kernel)) ggX8_keep_X8_isBody
theorem dX8_keep_0 : decode cX8_keep 0 = .ok (.iload_n 1, 1) := by decide +kernel
theorem dX8_keep_1 : decode cX8_keep 1 = .ok (.invokestatic 118, 3) := by decide +kernel
theorem dX8_keep_4 : decode cX8_keep 4 = .ok (.ifCond .eq 16, 3) := by decide +kernel
theorem dX8_keep_7 : decode cX8_keep 7 = .ok (.iload_n 2, 1) := by decide +kernel
theorem dX8_keep_8 : decode cX8_keep 8 = .ok (.iconst (-1), 1) := by decide +kernel
theorem dX8_keep_9 : decode cX8_keep 9 = .ok (.if_icmp .eq 13, 3) := by decide +kernel
theorem dX8_keep_12 : decode cX8_keep 12 = .ok (.aload_n 0, 1) := by decide +kernel
theorem dX8_keep_13 : decode cX8_keep 13 = .ok (.iload_n 2, 1) := by decide +kernel
theorem dX8_keep_14 : decode cX8_keep 14 = .ok (.invokevirtual 343, 3) := by decide +kernel
theorem dX8_keep_17 : decode cX8_keep 17 = .ok (.ifCond .ne 5, 3) := by decide +kernel
theorem dX8_keep_20 : decode cX8_keep 20 = .ok (.iconst (-1), 1) := by decide +kernel
theorem dX8_keep_21 : decode cX8_keep 21 = .ok (.ireturn, 1) := by decide +kernel
theorem dX8_keep_22 : decode cX8_keep 22 = .ok (.aload_n 0, 1) := by decide +kernel
theorem dX8_keep_23 : decode cX8_keep 23 = .ok (.getfield 71, 3) := by decide +kernel
theorem dX8_keep_26 : decode cX8_keep 26 = .ok (.iload_n 1, 1) := by decide +kernel
theorem dX8_keep_27 : decode cX8_keep 27 = .ok (.iload_n 2, 1) := by decide +kernel
theorem dX8_keep_28 : decode cX8_keep 28 = .ok (.iastore, 1) := by decide +kernel
theorem dX8_keep_29 : decode cX8_keep 29 = .ok (.aload_n 0, 1) := by decide +kernel
theorem dX8_keep_30 : decode cX8_keep 30 = .ok (.getfield 74, 3) := by decide +kernel
theorem dX8_keep_33 : decode cX8_keep 33 = .ok (.iload_n 1, 1) := by decide +kernel
theorem dX8_keep_34 : decode cX8_keep 34 = .ok (.iconst 0, 1) := by decide +kernel
theorem dX8_keep_35 : decode cX8_keep 35 = .ok (.iastore, 1) := by decide +kernel
theorem dX8_keep_36 : decode cX8_keep 36 = .ok (.iconst 1, 1) := by decide +kernel
theorem dX8_keep_37 : decode cX8_keep 37 = .ok (.ireturn, 1) := by decide +kernel
set_option maxRecDepth 20000 in
theorem ggX8_row_X8_isShelf : GoodIn wsX8_row wsX8_isShelf := goodIn_r _ [8, 9, 10, 11, 7, 12] (by decide +kernel) (by decide +kernel)
set_option maxRecDepth 20000 in
theorem gX8_row_X8_isShelf : GoodIn wsX8_row (va_wsS RX8 118 yX8_isShelf wsX8_isShelf) := goodIn_app (goodIn_of _ (by decide +kernel)) ggX8_row_X8_isShelf
set_option maxRecDepth 20000 in
theorem ggX8_row_X8_within : GoodIn wsX8_row wsX8_within := goodIn_r _ [12] (by decide +kernel) (by decide +kernel)
set_option maxRecDepth 20000 in
theorem gX8_row_X8_within : GoodIn wsX8_row (va_wsS RX8 97 yX8_within wsX8_within) := goodIn_app (goodIn_of _ (by decide +kernel)) ggX8_row_X8_within
theorem dX8_row_0 : decode cX8_row 0 = .ok (.iload_n 1, 1) := by decide +kernel
theorem dX8_row_1 : decode cX8_row 1 = .ok (.invokestatic 118, 3) := by decide +kernel
theorem dX8_row_4 : decode cX8_row 4 = .ok (.ifCond .eq 21, 3) := by decide +kernel
theorem dX8_row_7 : decode cX8_row 7 = .ok (.iload_n 2, 1) := by decide +kernel
theorem dX8_row_8 : decode cX8_row 8 = .ok (.i2l, 1) := by decide +kernel
theorem dX8_row_9 : decode cX8_row 9 = .ok (.lconst 0, 1) := by decide +kernel
theorem dX8_row_10 : decode cX8_row 10 = .ok (.ldc2_w 137, 3) := by decide +kernel
theorem dX8_row_13 : decode cX8_row 13 = .ok (.invokestatic 97, 3) := by decide +kernel
theorem dX8_row_16 : decode cX8_row 16 = .ok (.ifCond .eq 9, 3) := by decide +kernel
theorem dX8_row_19 : decode cX8_row 19 = .ok (.iload_n 3, 1) := by decide +kernel
theorem dX8_row_20 : decode cX8_row 20 = .ok (.bipush 60, 2) := by decide +kernel
theorem dX8_row_22 : decode cX8_row 22 = .ok (.if_icmp .le 5, 3) := by decide +kernel
theorem dX8_row_25 : decode cX8_row 25 = .ok (.iconst (-1), 1) := by decide +kernel
theorem dX8_row_26 : decode cX8_row 26 = .ok (.ireturn, 1) := by decide +kernel
theorem dX8_row_27 : decode cX8_row 27 = .ok (.iload_n 3, 1) := by decide +kernel
theorem dX8_row_28 : decode cX8_row 28 = .ok (.ifCond .ge 6, 3) := by decide +kernel
theorem dX8_row_31 : decode cX8_row 31 = .ok (.bipush (-14), 2) := by decide +kernel
theorem dX8_row_33 : decode cX8_row 33 = .ok (.ireturn, 1) := by decide +kernel
theorem dX8_row_34 : decode cX8_row 34 = .ok (.aload_n 0, 1) := by decide +kernel
theorem dX8_row_35 : decode cX8_row 35 = .ok (.getfield 71, 3) := by decide +kernel
theorem dX8_row_38 : decode cX8_row 38 = .ok (.iload_n 1, 1) := by decide +kernel
theorem dX8_row_39 : decode cX8_row 39 = .ok (.bipush 50, 2) := by decide +kernel
theorem dX8_row_41 : decode cX8_row 41 = .ok (.iload_n 2, 1) := by decide +kernel
theorem dX8_row_42 : decode cX8_row 42 = .ok (.iadd, 1) := by decide +kernel
theorem dX8_row_43 : decode cX8_row 43 = .ok (.iastore, 1) := by decide +kernel
theorem dX8_row_44 : decode cX8_row 44 = .ok (.aload_n 0, 1) := by decide +kernel
theorem dX8_row_45 : decode cX8_row 45 = .ok (.getfield 74, 3) := by decide +kernel
theorem dX8_row_48 : decode cX8_row 48 = .ok (.iload_n 1, 1) := by decide +kernel
theorem dX8_row_49 : decode cX8_row 49 = .ok (.iload_n 3, 1) := by decide +kernel
theorem dX8_row_50 : decode cX8_row 50 = .ok (.iastore, 1) := by decide +kernel
theorem dX8_row_51 : decode cX8_row 51 = .ok (.bipush 60, 2) := by decide +kernel
theorem dX8_row_53 : decode cX8_row 53 = .ok (.iload_n 1, 1) := by decide +kernel
theorem dX8_row_54 : decode cX8_row 54 = .ok (.imul, 1) := by decide +kernel
theorem dX8_row_55 : decode cX8_row 55 = .ok (.istore 4, 2) := by decide +kernel
theorem dX8_row_57 : decode cX8_row 57 = .ok (.iload 4, 2) := by decide +kernel
theorem dX8_row_59 : decode cX8_row 59 = .ok (.bipush 60, 2) := by decide +kernel
theorem dX8_row_61 : decode cX8_row 61 = .ok (.iload_n 1, 1) := by decide +kernel
theorem dX8_row_62 : decode cX8_row 62 = .ok (.imul, 1) := by decide +kernel
theorem dX8_row_63 : decode cX8_row 63 = .ok (.bipush 60, 2) := by decide +kernel
theorem dX8_row_65 : decode cX8_row 65 = .ok (.iadd, 1) := by decide +kernel
theorem dX8_row_66 : decode cX8_row 66 = .ok (.if_icmp .ge 17, 3) := by decide +kernel
theorem dX8_row_69 : decode cX8_row 69 = .ok (.aload_n 0, 1) := by decide +kernel
theorem dX8_row_70 : decode cX8_row 70 = .ok (.getfield 77, 3) := by decide +kernel
theorem dX8_row_73 : decode cX8_row 73 = .ok (.iload 4, 2) := by decide +kernel
theorem dX8_row_75 : decode cX8_row 75 = .ok (.lconst 0, 1) := by decide +kernel
theorem dX8_row_76 : decode cX8_row 76 = .ok (.lastore, 1) := by decide +kernel
theorem dX8_row_77 : decode cX8_row 77 = .ok (.iinc 4 1, 3) := by decide +kernel
theorem dX8_row_80 : decode cX8_row 80 = .ok (.goto (-23), 3) := by decide +kernel
theorem dX8_row_83 : decode cX8_row 83 = .ok (.iconst 1, 1) := by decide +kernel
theorem dX8_row_84 : decode cX8_row 84 = .ok (.ireturn, 1) := by decide +kernel
set_option maxRecDepth 20000 in
theorem ggX8_refusal_X8_isShelf : GoodIn wsX8_refusal wsX8_isShelf := goodIn_r _ [6, 7, 8, 9, 5, 10] (by decide +kernel) (by decide +kernel)
set_option maxRecDepth 20000 in
theorem gX8_refusal_X8_isShelf : GoodIn wsX8_refusal (va_wsS RX8 118 yX8_isShelf wsX8_isShelf) := goodIn_app (goodIn_of _ (by decide +kernel)) ggX8_refusal_X8_isShelf
theorem dX8_refusal_0 : decode cX8_refusal 0 = .ok (.iload_n 1, 1) := by decide +kernel
theorem dX8_refusal_1 : decode cX8_refusal 1 = .ok (.invokestatic 118, 3) := by decide +kernel
theorem dX8_refusal_4 : decode cX8_refusal 4 = .ok (.ifCond .ne 5, 3) := by decide +kernel
theorem dX8_refusal_7 : decode cX8_refusal 7 = .ok (.iconst (-1), 1) := by decide +kernel
theorem dX8_refusal_8 : decode cX8_refusal 8 = .ok (.ireturn, 1) := by decide +kernel
theorem dX8_refusal_9 : decode cX8_refusal 9 = .ok (.aload_n 0, 1) := by decide +kernel
theorem dX8_refusal_10 : decode cX8_refusal 10 = .ok (.getfield 71, 3) := by decide +kernel
theorem dX8_refusal_13 : decode cX8_refusal 13 = .ok (.iload_n 1, 1) := by decide +kernel
theorem dX8_refusal_14 : decode cX8_refusal 14 = .ok (.iaload, 1) := by decide +kernel
theorem dX8_refusal_15 : decode cX8_refusal 15 = .ok (.ifCond .ge 6, 3) := by decide +kernel
theorem dX8_refusal_18 : decode cX8_refusal 18 = .ok (.bipush (-11), 2) := by decide +kernel
theorem dX8_refusal_20 : decode cX8_refusal 20 = .ok (.ireturn, 1) := by decide +kernel
theorem dX8_refusal_21 : decode cX8_refusal 21 = .ok (.aload_n 0, 1) := by decide +kernel
theorem dX8_refusal_22 : decode cX8_refusal 22 = .ok (.getfield 71, 3) := by decide +kernel
theorem dX8_refusal_25 : decode cX8_refusal 25 = .ok (.iload_n 1, 1) := by decide +kernel
theorem dX8_refusal_26 : decode cX8_refusal 26 = .ok (.iaload, 1) := by decide +kernel
theorem dX8_refusal_27 : decode cX8_refusal 27 = .ok (.bipush 50, 2) := by decide +kernel
theorem dX8_refusal_29 : decode cX8_refusal 29 = .ok (.if_icmp .ge 6, 3) := by decide +kernel
theorem dX8_refusal_32 : decode cX8_refusal 32 = .ok (.bipush (-12), 2) := by decide +kernel
theorem dX8_refusal_34 : decode cX8_refusal 34 = .ok (.ireturn, 1) := by decide +kernel
theorem dX8_refusal_35 : decode cX8_refusal 35 = .ok (.iload_n 2, 1) := by decide +kernel
theorem dX8_refusal_36 : decode cX8_refusal 36 = .ok (.ifCond .lt 17, 3) := by decide +kernel
theorem dX8_refusal_39 : decode cX8_refusal 39 = .ok (.iload_n 2, 1) := by decide +kernel
theorem dX8_refusal_40 : decode cX8_refusal 40 = .ok (.aload_n 0, 1) := by decide +kernel
theorem dX8_refusal_41 : decode cX8_refusal 41 = .ok (.getfield 74, 3) := by decide +kernel
theorem dX8_refusal_44 : decode cX8_refusal 44 = .ok (.iload_n 1, 1) := by decide +kernel
theorem dX8_refusal_45 : decode cX8_refusal 45 = .ok (.iaload, 1) := by decide +kernel
theorem dX8_refusal_46 : decode cX8_refusal 46 = .ok (.if_icmp .ge 7, 3) := by decide +kernel
theorem dX8_refusal_49 : decode cX8_refusal 49 = .ok (.iconst 0, 1) := by decide +kernel
theorem dX8_refusal_50 : decode cX8_refusal 50 = .ok (.goto 5, 3) := by decide +kernel
theorem dX8_refusal_53 : decode cX8_refusal 53 = .ok (.bipush (-13), 2) := by decide +kernel
theorem dX8_refusal_55 : decode cX8_refusal 55 = .ok (.ireturn, 1) := by decide +kernel
theorem dX8_asSort_0 : decode cX8_asSort 0 = .ok (.iload_n 0, 1) := by decide +kernel
theorem dX8_asSort_1 : decode cX8_asSort 1 = .ok (.ifCond .ne 10, 3) := by decide +kernel
theorem dX8_asSort_4 : decode cX8_asSort 4 = .ok (.lload_n 1, 1) := by decide +kernel
theorem dX8_asSort_5 : decode cX8_asSort 5 = .ok (.l2i, 1) := by decide +kernel
theorem dX8_asSort_6 : decode cX8_asSort 6 = .ok (.i2b, 1) := by decide +kernel
theorem dX8_asSort_7 : decode cX8_asSort 7 = .ok (.i2l, 1) := by decide +kernel
theorem dX8_asSort_8 : decode cX8_asSort 8 = .ok (.goto 46, 3) := by decide +kernel
theorem dX8_asSort_11 : decode cX8_asSort 11 = .ok (.iload_n 0, 1) := by decide +kernel
theorem dX8_asSort_12 : decode cX8_asSort 12 = .ok (.iconst 1, 1) := by decide +kernel
theorem dX8_asSort_13 : decode cX8_asSort 13 = .ok (.if_icmp .ne 10, 3) := by decide +kernel
theorem dX8_asSort_16 : decode cX8_asSort 16 = .ok (.lload_n 1, 1) := by decide +kernel
theorem dX8_asSort_17 : decode cX8_asSort 17 = .ok (.l2i, 1) := by decide +kernel
theorem dX8_asSort_18 : decode cX8_asSort 18 = .ok (.i2s, 1) := by decide +kernel
theorem dX8_asSort_19 : decode cX8_asSort 19 = .ok (.i2l, 1) := by decide +kernel
theorem dX8_asSort_20 : decode cX8_asSort 20 = .ok (.goto 34, 3) := by decide +kernel
theorem dX8_asSort_23 : decode cX8_asSort 23 = .ok (.iload_n 0, 1) := by decide +kernel
theorem dX8_asSort_24 : decode cX8_asSort 24 = .ok (.iconst 2, 1) := by decide +kernel
theorem dX8_asSort_25 : decode cX8_asSort 25 = .ok (.if_icmp .ne 9, 3) := by decide +kernel
theorem dX8_asSort_28 : decode cX8_asSort 28 = .ok (.lload_n 1, 1) := by decide +kernel
theorem dX8_asSort_29 : decode cX8_asSort 29 = .ok (.l2i, 1) := by decide +kernel
theorem dX8_asSort_30 : decode cX8_asSort 30 = .ok (.i2l, 1) := by decide +kernel
theorem dX8_asSort_31 : decode cX8_asSort 31 = .ok (.goto 23, 3) := by decide +kernel
theorem dX8_asSort_34 : decode cX8_asSort 34 = .ok (.iload_n 0, 1) := by decide +kernel
theorem dX8_asSort_35 : decode cX8_asSort 35 = .ok (.iconst 4, 1) := by decide +kernel
theorem dX8_asSort_36 : decode cX8_asSort 36 = .ok (.if_icmp .ne 17, 3) := by decide +kernel
theorem dX8_asSort_39 : decode cX8_asSort 39 = .ok (.lload_n 1, 1) := by decide +kernel
theorem dX8_asSort_40 : decode cX8_asSort 40 = .ok (.lconst 0, 1) := by decide +kernel
theorem dX8_asSort_41 : decode cX8_asSort 41 = .ok (.lcmp, 1) := by decide +kernel
theorem dX8_asSort_42 : decode cX8_asSort 42 = .ok (.ifCond .eq 7, 3) := by decide +kernel
theorem dX8_asSort_45 : decode cX8_asSort 45 = .ok (.lconst 1, 1) := by decide +kernel
theorem dX8_asSort_46 : decode cX8_asSort 46 = .ok (.goto 8, 3) := by decide +kernel
theorem dX8_asSort_49 : decode cX8_asSort 49 = .ok (.lconst 0, 1) := by decide +kernel
theorem dX8_asSort_50 : decode cX8_asSort 50 = .ok (.goto 4, 3) := by decide +kernel
theorem dX8_asSort_53 : decode cX8_asSort 53 = .ok (.lload_n 1, 1) := by decide +kernel
theorem dX8_asSort_54 : decode cX8_asSort 54 = .ok (.lreturn, 1) := by decide +kernel
set_option maxRecDepth 20000 in
theorem ggX8_put_X8_refusal : GoodIn wsX8_put wsX8_refusal := goodIn_r _ [7, 2, 8, 9, 10, 6, 11, 12, 13, 14, 15, 19, 20, 21, 22, 23, 24, 25, 26, 27, 28, 29, 30, 31, 32, 33, 34, 35, 36, 37, 38, 39, 40, 41, 42, 43, 44, 45, 46, 47, 48, 49, 50, 51, 52, 53, 54, 55, 56, 57, 58, 59, 60, 61, 62, 63, 64, 65, 66] (by decide +kernel) (by decide +kernel)
set_option maxRecDepth 20000 in
theorem gX8_put_X8_refusal : GoodIn wsX8_put (wsV RX8 348 RX8 yX8_refusal wsX8_refusal) := goodIn_app (goodIn_of _ (by decide +kernel)) ggX8_put_X8_refusal
set_option maxRecDepth 20000 in
theorem ggX8_put_X8_asSort : GoodIn wsX8_put wsX8_asSort := goodIn_r _ [18] (by decide +kernel) (by decide +kernel)
set_option maxRecDepth 20000 in
theorem gX8_put_X8_asSort : GoodIn wsX8_put (va_wsS RX8 351 yX8_asSort wsX8_asSort) := goodIn_app (goodIn_of _ (by decide +kernel)) ggX8_put_X8_asSort
theorem dX8_put_0 : decode cX8_put 0 = .ok (.aload_n 0, 1) := by decide +kernel
theorem dX8_put_1 : decode cX8_put 1 = .ok (.iload_n 1, 1) := by decide +kernel
theorem dX8_put_2 : decode cX8_put 2 = .ok (.iload_n 2, 1) := by decide +kernel
theorem dX8_put_3 : decode cX8_put 3 = .ok (.invokevirtual 348, 3) := by decide +kernel
theorem dX8_put_6 : decode cX8_put 6 = .ok (.istore 5, 2) := by decide +kernel
theorem dX8_put_8 : decode cX8_put 8 = .ok (.iload 5, 2) := by decide +kernel
theorem dX8_put_10 : decode cX8_put 10 = .ok (.ifCond .ne 27, 3) := by decide +kernel
theorem dX8_put_13 : decode cX8_put 13 = .ok (.aload_n 0, 1) := by decide +kernel
theorem dX8_put_14 : decode cX8_put 14 = .ok (.getfield 77, 3) := by decide +kernel
theorem dX8_put_17 : decode cX8_put 17 = .ok (.bipush 60, 2) := by decide +kernel
theorem dX8_put_19 : decode cX8_put 19 = .ok (.iload_n 1, 1) := by decide +kernel
theorem dX8_put_20 : decode cX8_put 20 = .ok (.imul, 1) := by decide +kernel
theorem dX8_put_21 : decode cX8_put 21 = .ok (.iload_n 2, 1) := by decide +kernel
theorem dX8_put_22 : decode cX8_put 22 = .ok (.iadd, 1) := by decide +kernel
theorem dX8_put_23 : decode cX8_put 23 = .ok (.aload_n 0, 1) := by decide +kernel
theorem dX8_put_24 : decode cX8_put 24 = .ok (.getfield 71, 3) := by decide +kernel
theorem dX8_put_27 : decode cX8_put 27 = .ok (.iload_n 1, 1) := by decide +kernel
theorem dX8_put_28 : decode cX8_put 28 = .ok (.iaload, 1) := by decide +kernel
theorem dX8_put_29 : decode cX8_put 29 = .ok (.bipush 50, 2) := by decide +kernel
theorem dX8_put_31 : decode cX8_put 31 = .ok (.isub, 1) := by decide +kernel
theorem dX8_put_32 : decode cX8_put 32 = .ok (.lload_n 3, 1) := by decide +kernel
theorem dX8_put_33 : decode cX8_put 33 = .ok (.invokestatic 351, 3) := by decide +kernel
theorem dX8_put_36 : decode cX8_put 36 = .ok (.lastore, 1) := by decide +kernel
theorem dX8_put_37 : decode cX8_put 37 = .ok (.iload 5, 2) := by decide +kernel
theorem dX8_put_39 : decode cX8_put 39 = .ok (.ifCond .ne 7, 3) := by decide +kernel
theorem dX8_put_42 : decode cX8_put 42 = .ok (.iconst 1, 1) := by decide +kernel
theorem dX8_put_43 : decode cX8_put 43 = .ok (.goto 5, 3) := by decide +kernel
theorem dX8_put_46 : decode cX8_put 46 = .ok (.iload 5, 2) := by decide +kernel
theorem dX8_put_48 : decode cX8_put 48 = .ok (.ireturn, 1) := by decide +kernel
set_option maxRecDepth 20000 in
theorem ggX8_element_X8_refusal : GoodIn wsX8_element wsX8_refusal := goodIn_r _ [7, 8, 9, 10, 11, 6, 12, 13, 14, 15, 16, 17, 18, 19, 20, 21, 22, 23, 24, 25, 26, 27, 28, 29, 30, 31, 32, 33, 34, 35, 36, 37, 38, 39, 40, 41, 42, 43, 44, 45, 46, 47, 48, 49, 50, 51, 52, 53, 54, 55, 56, 57, 58, 59, 60, 61, 62, 63, 64] (by decide +kernel) (by decide +kernel)
set_option maxRecDepth 20000 in
theorem gX8_element_X8_refusal : GoodIn wsX8_element (wsV RX8 348 RX8 yX8_refusal wsX8_refusal) := goodIn_app (goodIn_of _ (by decide +kernel)) ggX8_element_X8_refusal
theorem dX8_element_0 : decode cX8_element 0 = .ok (.aload_n 0, 1) := by decide +kernel
theorem dX8_element_1 : decode cX8_element 1 = .ok (.iload_n 1, 1) := by decide +kernel
theorem dX8_element_2 : decode cX8_element 2 = .ok (.iload_n 2, 1) := by decide +kernel
theorem dX8_element_3 : decode cX8_element 3 = .ok (.invokevirtual 348, 3) := by decide +kernel
theorem dX8_element_6 : decode cX8_element 6 = .ok (.ifCond .eq 9, 3) := by decide +kernel
theorem dX8_element_9 : decode cX8_element 9 = .ok (.ldc2_w 263, 3) := by decide +kernel
theorem dX8_element_12 : decode cX8_element 12 = .ok (.goto 14, 3) := by decide +kernel
theorem dX8_element_15 : decode cX8_element 15 = .ok (.aload_n 0, 1) := by decide +kernel
theorem dX8_element_16 : decode cX8_element 16 = .ok (.getfield 77, 3) := by decide +kernel
theorem dX8_element_19 : decode cX8_element 19 = .ok (.bipush 60, 2) := by decide +kernel
theorem dX8_element_21 : decode cX8_element 21 = .ok (.iload_n 1, 1) := by decide +kernel
theorem dX8_element_22 : decode cX8_element 22 = .ok (.imul, 1) := by decide +kernel
theorem dX8_element_23 : decode cX8_element 23 = .ok (.iload_n 2, 1) := by decide +kernel
theorem dX8_element_24 : decode cX8_element 24 = .ok (.iadd, 1) := by decide +kernel
theorem dX8_element_25 : decode cX8_element 25 = .ok (.laload, 1) := by decide +kernel
theorem dX8_element_26 : decode cX8_element 26 = .ok (.lreturn, 1) := by decide +kernel
set_option maxRecDepth 20000 in
theorem ggX8_shift_X8_isShelf : GoodIn wsX8_shift wsX8_isShelf := goodIn_r _ [8, 9, 10, 11, 7, 12] (by decide +kernel) (by decide +kernel)
set_option maxRecDepth 20000 in
theorem gX8_shift_X8_isShelf : GoodIn wsX8_shift (va_wsS RX8 118 yX8_isShelf wsX8_isShelf) := goodIn_app (goodIn_of _ (by decide +kernel)) ggX8_shift_X8_isShelf
theorem dX8_shift_0 : decode cX8_shift 0 = .ok (.iload_n 1, 1) := by decide +kernel
theorem dX8_shift_1 : decode cX8_shift 1 = .ok (.invokestatic 118, 3) := by decide +kernel
theorem dX8_shift_4 : decode cX8_shift 4 = .ok (.ifCond .eq 10, 3) := by decide +kernel
theorem dX8_shift_7 : decode cX8_shift 7 = .ok (.iload_n 3, 1) := by decide +kernel
theorem dX8_shift_8 : decode cX8_shift 8 = .ok (.invokestatic 118, 3) := by decide +kernel
theorem dX8_shift_11 : decode cX8_shift 11 = .ok (.ifCond .ne 5, 3) := by decide +kernel
theorem dX8_shift_14 : decode cX8_shift 14 = .ok (.iconst (-1), 1) := by decide +kernel
theorem dX8_shift_15 : decode cX8_shift 15 = .ok (.ireturn, 1) := by decide +kernel
theorem dX8_shift_16 : decode cX8_shift 16 = .ok (.aload_n 0, 1) := by decide +kernel
theorem dX8_shift_17 : decode cX8_shift 17 = .ok (.getfield 71, 3) := by decide +kernel
theorem dX8_shift_20 : decode cX8_shift 20 = .ok (.iload_n 1, 1) := by decide +kernel
theorem dX8_shift_21 : decode cX8_shift 21 = .ok (.iaload, 1) := by decide +kernel
theorem dX8_shift_22 : decode cX8_shift 22 = .ok (.ifCond .lt 12, 3) := by decide +kernel
theorem dX8_shift_25 : decode cX8_shift 25 = .ok (.aload_n 0, 1) := by decide +kernel
theorem dX8_shift_26 : decode cX8_shift 26 = .ok (.getfield 71, 3) := by decide +kernel
theorem dX8_shift_29 : decode cX8_shift 29 = .ok (.iload_n 3, 1) := by decide +kernel
theorem dX8_shift_30 : decode cX8_shift 30 = .ok (.iaload, 1) := by decide +kernel
theorem dX8_shift_31 : decode cX8_shift 31 = .ok (.ifCond .ge 6, 3) := by decide +kernel
theorem dX8_shift_34 : decode cX8_shift 34 = .ok (.bipush (-11), 2) := by decide +kernel
theorem dX8_shift_36 : decode cX8_shift 36 = .ok (.ireturn, 1) := by decide +kernel
theorem dX8_shift_37 : decode cX8_shift 37 = .ok (.aload_n 0, 1) := by decide +kernel
theorem dX8_shift_38 : decode cX8_shift 38 = .ok (.getfield 71, 3) := by decide +kernel
theorem dX8_shift_41 : decode cX8_shift 41 = .ok (.iload_n 1, 1) := by decide +kernel
theorem dX8_shift_42 : decode cX8_shift 42 = .ok (.iaload, 1) := by decide +kernel
theorem dX8_shift_43 : decode cX8_shift 43 = .ok (.bipush 50, 2) := by decide +kernel
theorem dX8_shift_45 : decode cX8_shift 45 = .ok (.if_icmp .lt 18, 3) := by decide +kernel
theorem dX8_shift_48 : decode cX8_shift 48 = .ok (.aload_n 0, 1) := by decide +kernel
theorem dX8_shift_49 : decode cX8_shift 49 = .ok (.getfield 71, 3) := by decide +kernel
theorem dX8_shift_52 : decode cX8_shift 52 = .ok (.iload_n 1, 1) := by decide +kernel
theorem dX8_shift_53 : decode cX8_shift 53 = .ok (.iaload, 1) := by decide +kernel
theorem dX8_shift_54 : decode cX8_shift 54 = .ok (.aload_n 0, 1) := by decide +kernel
theorem dX8_shift_55 : decode cX8_shift 55 = .ok (.getfield 71, 3) := by decide +kernel
theorem dX8_shift_58 : decode cX8_shift 58 = .ok (.iload_n 3, 1) := by decide +kernel
theorem dX8_shift_59 : decode cX8_shift 59 = .ok (.iaload, 1) := by decide +kernel
theorem dX8_shift_60 : decode cX8_shift 60 = .ok (.if_icmp .eq 6, 3) := by decide +kernel
theorem dX8_shift_63 : decode cX8_shift 63 = .ok (.bipush (-12), 2) := by decide +kernel
theorem dX8_shift_65 : decode cX8_shift 65 = .ok (.ireturn, 1) := by decide +kernel
theorem dX8_shift_66 : decode cX8_shift 66 = .ok (.iload 5, 2) := by decide +kernel
theorem dX8_shift_68 : decode cX8_shift 68 = .ok (.ifCond .lt 39, 3) := by decide +kernel
theorem dX8_shift_71 : decode cX8_shift 71 = .ok (.iload_n 2, 1) := by decide +kernel
theorem dX8_shift_72 : decode cX8_shift 72 = .ok (.ifCond .lt 35, 3) := by decide +kernel
theorem dX8_shift_75 : decode cX8_shift 75 = .ok (.iload 4, 2) := by decide +kernel
theorem dX8_shift_77 : decode cX8_shift 77 = .ok (.ifCond .lt 30, 3) := by decide +kernel
theorem dX8_shift_80 : decode cX8_shift 80 = .ok (.iload_n 2, 1) := by decide +kernel
theorem dX8_shift_81 : decode cX8_shift 81 = .ok (.aload_n 0, 1) := by decide +kernel
theorem dX8_shift_82 : decode cX8_shift 82 = .ok (.getfield 74, 3) := by decide +kernel
theorem dX8_shift_85 : decode cX8_shift 85 = .ok (.iload_n 1, 1) := by decide +kernel
theorem dX8_shift_86 : decode cX8_shift 86 = .ok (.iaload, 1) := by decide +kernel
theorem dX8_shift_87 : decode cX8_shift 87 = .ok (.iload 5, 2) := by decide +kernel
theorem dX8_shift_89 : decode cX8_shift 89 = .ok (.isub, 1) := by decide +kernel
theorem dX8_shift_90 : decode cX8_shift 90 = .ok (.if_icmp .gt 17, 3) := by decide +kernel
theorem dX8_shift_93 : decode cX8_shift 93 = .ok (.iload 4, 2) := by decide +kernel
theorem dX8_shift_95 : decode cX8_shift 95 = .ok (.aload_n 0, 1) := by decide +kernel
theorem dX8_shift_96 : decode cX8_shift 96 = .ok (.getfield 74, 3) := by decide +kernel
theorem dX8_shift_99 : decode cX8_shift 99 = .ok (.iload_n 3, 1) := by decide +kernel
theorem dX8_shift_100 : decode cX8_shift 100 = .ok (.iaload, 1) := by decide +kernel
theorem dX8_shift_101 : decode cX8_shift 101 = .ok (.iload 5, 2) := by decide +kernel
theorem dX8_shift_103 : decode cX8_shift 103 = .ok (.isub, 1) := by decide +kernel
theorem dX8_shift_104 : decode cX8_shift 104 = .ok (.if_icmp .le 6, 3) := by decide +kernel
theorem dX8_shift_107 : decode cX8_shift 107 = .ok (.bipush (-13), 2) := by decide +kernel
theorem dX8_shift_109 : decode cX8_shift 109 = .ok (.ireturn, 1) := by decide +kernel
theorem dX8_shift_110 : decode cX8_shift 110 = .ok (.iconst 0, 1) := by decide +kernel
theorem dX8_shift_111 : decode cX8_shift 111 = .ok (.istore 6, 2) := by decide +kernel
theorem dX8_shift_113 : decode cX8_shift 113 = .ok (.iload 6, 2) := by decide +kernel
theorem dX8_shift_115 : decode cX8_shift 115 = .ok (.iload 5, 2) := by decide +kernel
theorem dX8_shift_117 : decode cX8_shift 117 = .ok (.if_icmp .ge 30, 3) := by decide +kernel
theorem dX8_shift_120 : decode cX8_shift 120 = .ok (.aload_n 0, 1) := by decide +kernel
theorem dX8_shift_121 : decode cX8_shift 121 = .ok (.getfield 81, 3) := by decide +kernel
theorem dX8_shift_124 : decode cX8_shift 124 = .ok (.iload 6, 2) := by decide +kernel
theorem dX8_shift_126 : decode cX8_shift 126 = .ok (.aload_n 0, 1) := by decide +kernel
theorem dX8_shift_127 : decode cX8_shift 127 = .ok (.getfield 77, 3) := by decide +kernel
theorem dX8_shift_130 : decode cX8_shift 130 = .ok (.bipush 60, 2) := by decide +kernel
theorem dX8_shift_132 : decode cX8_shift 132 = .ok (.iload_n 1, 1) := by decide +kernel
theorem dX8_shift_133 : decode cX8_shift 133 = .ok (.imul, 1) := by decide +kernel
theorem dX8_shift_134 : decode cX8_shift 134 = .ok (.iload_n 2, 1) := by decide +kernel
theorem dX8_shift_135 : decode cX8_shift 135 = .ok (.iadd, 1) := by decide +kernel
theorem dX8_shift_136 : decode cX8_shift 136 = .ok (.iload 6, 2) := by decide +kernel
theorem dX8_shift_138 : decode cX8_shift 138 = .ok (.iadd, 1) := by decide +kernel
theorem dX8_shift_139 : decode cX8_shift 139 = .ok (.laload, 1) := by decide +kernel
theorem dX8_shift_140 : decode cX8_shift 140 = .ok (.lastore, 1) := by decide +kernel
theorem dX8_shift_141 : decode cX8_shift 141 = .ok (.iinc 6 1, 3) := by decide +kernel
theorem dX8_shift_144 : decode cX8_shift 144 = .ok (.goto (-31), 3) := by decide +kernel
theorem dX8_shift_147 : decode cX8_shift 147 = .ok (.iconst 0, 1) := by decide +kernel
theorem dX8_shift_148 : decode cX8_shift 148 = .ok (.istore 6, 2) := by decide +kernel
theorem dX8_shift_150 : decode cX8_shift 150 = .ok (.iload 6, 2) := by decide +kernel
theorem dX8_shift_152 : decode cX8_shift 152 = .ok (.iload 5, 2) := by decide +kernel
theorem dX8_shift_154 : decode cX8_shift 154 = .ok (.if_icmp .ge 31, 3) := by decide +kernel
theorem dX8_shift_157 : decode cX8_shift 157 = .ok (.aload_n 0, 1) := by decide +kernel
theorem dX8_shift_158 : decode cX8_shift 158 = .ok (.getfield 77, 3) := by decide +kernel
theorem dX8_shift_161 : decode cX8_shift 161 = .ok (.bipush 60, 2) := by decide +kernel
theorem dX8_shift_163 : decode cX8_shift 163 = .ok (.iload_n 3, 1) := by decide +kernel
theorem dX8_shift_164 : decode cX8_shift 164 = .ok (.imul, 1) := by decide +kernel
theorem dX8_shift_165 : decode cX8_shift 165 = .ok (.iload 4, 2) := by decide +kernel
theorem dX8_shift_167 : decode cX8_shift 167 = .ok (.iadd, 1) := by decide +kernel
theorem dX8_shift_168 : decode cX8_shift 168 = .ok (.iload 6, 2) := by decide +kernel
theorem dX8_shift_170 : decode cX8_shift 170 = .ok (.iadd, 1) := by decide +kernel
theorem dX8_shift_171 : decode cX8_shift 171 = .ok (.aload_n 0, 1) := by decide +kernel
theorem dX8_shift_172 : decode cX8_shift 172 = .ok (.getfield 81, 3) := by decide +kernel
theorem dX8_shift_175 : decode cX8_shift 175 = .ok (.iload 6, 2) := by decide +kernel
theorem dX8_shift_177 : decode cX8_shift 177 = .ok (.laload, 1) := by decide +kernel
theorem dX8_shift_178 : decode cX8_shift 178 = .ok (.lastore, 1) := by decide +kernel
theorem dX8_shift_179 : decode cX8_shift 179 = .ok (.iinc 6 1, 3) := by decide +kernel
theorem dX8_shift_182 : decode cX8_shift 182 = .ok (.goto (-32), 3) := by decide +kernel
theorem dX8_shift_185 : decode cX8_shift 185 = .ok (.iload 5, 2) := by decide +kernel
theorem dX8_shift_187 : decode cX8_shift 187 = .ok (.ireturn, 1) := by decide +kernel
set_option maxRecDepth 20000 in
theorem ggX8_taken_X8_isShelf : GoodIn wsX8_taken wsX8_isShelf := goodIn_r _ [6, 7, 8, 9, 5, 10] (by decide +kernel) (by decide +kernel)
set_option maxRecDepth 20000 in
theorem gX8_taken_X8_isShelf : GoodIn wsX8_taken (va_wsS RX8 118 yX8_isShelf wsX8_isShelf) := goodIn_app (goodIn_of _ (by decide +kernel)) ggX8_taken_X8_isShelf
set_option maxRecDepth 20000 in
theorem ggX8_taken_X8_within : GoodIn wsX8_taken wsX8_within := goodIn_r _ [10] (by decide +kernel) (by decide +kernel)
set_option maxRecDepth 20000 in
theorem gX8_taken_X8_within : GoodIn wsX8_taken (va_wsS RX8 97 yX8_within wsX8_within) := goodIn_app (goodIn_of _ (by decide +kernel)) ggX8_taken_X8_within
set_option maxRecDepth 20000 in
theorem ggX8_taken_X8_kindOf : GoodIn wsX8_taken wsX8_kindOf := goodIn_r _ [14, 15, 19, 20, 21, 22, 23, 24, 25, 26, 27, 28, 29, 30, 31, 32, 33, 34, 35, 36, 37, 38, 39, 40, 41, 42, 43, 44, 45, 46, 47, 48, 49, 50, 51, 52, 53, 54, 55, 56, 57, 58, 59, 60, 61, 62, 63, 64, 65, 66] (by decide +kernel) (by decide +kernel)
set_option maxRecDepth 20000 in
theorem gX8_taken_X8_kindOf : GoodIn wsX8_taken (wsV RX8 355 RX8 yX8_kindOf wsX8_kindOf) := goodIn_app (goodIn_of _ (by decide +kernel)) ggX8_taken_X8_kindOf
set_option maxRecDepth 20000 in
theorem ggX8_taken_X8_above : GoodIn wsX8_taken wsX8_above := goodIn_r _ [18] (by decide +kernel) (by decide +kernel)
set_option maxRecDepth 20000 in
theorem gX8_taken_X8_above : GoodIn wsX8_taken (va_wsS RX8 358 yX8_above wsX8_above) := goodIn_app (goodIn_of _ (by decide +kernel)) ggX8_taken_X8_above
theorem dX8_taken_0 : decode cX8_taken 0 = .ok (.iload_n 1, 1) := by decide +kernel
theorem dX8_taken_1 : decode cX8_taken 1 = .ok (.invokestatic 118, 3) := by decide +kernel
theorem dX8_taken_4 : decode cX8_taken 4 = .ok (.ifCond .eq 15, 3) := by decide +kernel
theorem dX8_taken_7 : decode cX8_taken 7 = .ok (.iload_n 2, 1) := by decide +kernel
theorem dX8_taken_8 : decode cX8_taken 8 = .ok (.i2l, 1) := by decide +kernel
theorem dX8_taken_9 : decode cX8_taken 9 = .ok (.lconst 0, 1) := by decide +kernel
theorem dX8_taken_10 : decode cX8_taken 10 = .ok (.ldc2_w 317, 3) := by decide +kernel
theorem dX8_taken_13 : decode cX8_taken 13 = .ok (.invokestatic 97, 3) := by decide +kernel
theorem dX8_taken_16 : decode cX8_taken 16 = .ok (.ifCond .ne 5, 3) := by decide +kernel
theorem dX8_taken_19 : decode cX8_taken 19 = .ok (.iconst (-1), 1) := by decide +kernel
theorem dX8_taken_20 : decode cX8_taken 20 = .ok (.ireturn, 1) := by decide +kernel
theorem dX8_taken_21 : decode cX8_taken 21 = .ok (.aload_n 0, 1) := by decide +kernel
theorem dX8_taken_22 : decode cX8_taken 22 = .ok (.getfield 71, 3) := by decide +kernel
theorem dX8_taken_25 : decode cX8_taken 25 = .ok (.iload_n 1, 1) := by decide +kernel
theorem dX8_taken_26 : decode cX8_taken 26 = .ok (.iaload, 1) := by decide +kernel
theorem dX8_taken_27 : decode cX8_taken 27 = .ok (.ifCond .ge 6, 3) := by decide +kernel
theorem dX8_taken_30 : decode cX8_taken 30 = .ok (.bipush (-11), 2) := by decide +kernel
theorem dX8_taken_32 : decode cX8_taken 32 = .ok (.ireturn, 1) := by decide +kernel
theorem dX8_taken_33 : decode cX8_taken 33 = .ok (.aload_n 0, 1) := by decide +kernel
theorem dX8_taken_34 : decode cX8_taken 34 = .ok (.getfield 71, 3) := by decide +kernel
theorem dX8_taken_37 : decode cX8_taken 37 = .ok (.iload_n 1, 1) := by decide +kernel
theorem dX8_taken_38 : decode cX8_taken 38 = .ok (.iaload, 1) := by decide +kernel
theorem dX8_taken_39 : decode cX8_taken 39 = .ok (.bipush 50, 2) := by decide +kernel
theorem dX8_taken_41 : decode cX8_taken 41 = .ok (.if_icmp .lt 6, 3) := by decide +kernel
theorem dX8_taken_44 : decode cX8_taken 44 = .ok (.bipush (-12), 2) := by decide +kernel
theorem dX8_taken_46 : decode cX8_taken 46 = .ok (.ireturn, 1) := by decide +kernel
theorem dX8_taken_47 : decode cX8_taken 47 = .ok (.aload_n 0, 1) := by decide +kernel
theorem dX8_taken_48 : decode cX8_taken 48 = .ok (.aload_n 0, 1) := by decide +kernel
theorem dX8_taken_49 : decode cX8_taken 49 = .ok (.getfield 71, 3) := by decide +kernel
theorem dX8_taken_52 : decode cX8_taken 52 = .ok (.iload_n 1, 1) := by decide +kernel
theorem dX8_taken_53 : decode cX8_taken 53 = .ok (.iaload, 1) := by decide +kernel
theorem dX8_taken_54 : decode cX8_taken 54 = .ok (.invokevirtual 355, 3) := by decide +kernel
theorem dX8_taken_57 : decode cX8_taken 57 = .ok (.istore_n 3, 1) := by decide +kernel
theorem dX8_taken_58 : decode cX8_taken 58 = .ok (.iload_n 3, 1) := by decide +kernel
theorem dX8_taken_59 : decode cX8_taken 59 = .ok (.iload_n 2, 1) := by decide +kernel
theorem dX8_taken_60 : decode cX8_taken 60 = .ok (.if_icmp .eq 15, 3) := by decide +kernel
theorem dX8_taken_63 : decode cX8_taken 63 = .ok (.iload_n 3, 1) := by decide +kernel
theorem dX8_taken_64 : decode cX8_taken 64 = .ok (.ifCond .le 11, 3) := by decide +kernel
theorem dX8_taken_67 : decode cX8_taken 67 = .ok (.iload_n 3, 1) := by decide +kernel
theorem dX8_taken_68 : decode cX8_taken 68 = .ok (.invokestatic 358, 3) := by decide +kernel
theorem dX8_taken_71 : decode cX8_taken 71 = .ok (.istore_n 3, 1) := by decide +kernel
theorem dX8_taken_72 : decode cX8_taken 72 = .ok (.goto (-14), 3) := by decide +kernel
theorem dX8_taken_75 : decode cX8_taken 75 = .ok (.iload_n 3, 1) := by decide +kernel
theorem dX8_taken_76 : decode cX8_taken 76 = .ok (.iload_n 2, 1) := by decide +kernel
theorem dX8_taken_77 : decode cX8_taken 77 = .ok (.if_icmp .ne 16, 3) := by decide +kernel
theorem dX8_taken_80 : decode cX8_taken 80 = .ok (.aload_n 0, 1) := by decide +kernel
theorem dX8_taken_81 : decode cX8_taken 81 = .ok (.aload_n 0, 1) := by decide +kernel
theorem dX8_taken_82 : decode cX8_taken 82 = .ok (.getfield 71, 3) := by decide +kernel
theorem dX8_taken_85 : decode cX8_taken 85 = .ok (.iload_n 1, 1) := by decide +kernel
theorem dX8_taken_86 : decode cX8_taken 86 = .ok (.iaload, 1) := by decide +kernel
theorem dX8_taken_87 : decode cX8_taken 87 = .ok (.invokevirtual 355, 3) := by decide +kernel
theorem dX8_taken_90 : decode cX8_taken 90 = .ok (.goto 5, 3) := by decide +kernel
theorem dX8_taken_93 : decode cX8_taken 93 = .ok (.bipush (-12), 2) := by decide +kernel
theorem dX8_taken_95 : decode cX8_taken 95 = .ok (.ireturn, 1) := by decide +kernel
set_option maxRecDepth 20000 in
theorem ggX8_count_X8_cameMany : GoodIn wsX8_count wsX8_cameMany := goodIn_r _ [11, 2, 12, 13, 14, 15, 16, 17, 18, 19, 20, 21, 22, 23, 24, 25, 26, 27, 28, 29, 30, 31, 32, 33, 34, 35, 36, 37, 38, 39, 40, 41, 42, 43, 44, 45, 46, 47, 48, 49, 50, 51, 52, 53, 54, 55, 56, 57, 58, 59, 60] (by decide +kernel) (by decide +kernel)
set_option maxRecDepth 20000 in
theorem gX8_count_X8_cameMany : GoodIn wsX8_count (wsV RX8 361 RX8 yX8_cameMany wsX8_cameMany) := goodIn_app (goodIn_of _ (by decide +kernel)) ggX8_count_X8_cameMany
theorem dX8_count_0 : decode cX8_count 0 = .ok (.iload_n 1, 1) := by decide +kernel
theorem dX8_count_1 : decode cX8_count 1 = .ok (.tableswitch 78 0 6 #[43, 48, 53, 58, 63, 68, 73], 43) := by decide +kernel
theorem dX8_count_44 : decode cX8_count 44 = .ok (.aload_n 0, 1) := by decide +kernel
theorem dX8_count_45 : decode cX8_count 45 = .ok (.getfield 94, 3) := by decide +kernel
theorem dX8_count_48 : decode cX8_count 48 = .ok (.ireturn, 1) := by decide +kernel
theorem dX8_count_49 : decode cX8_count 49 = .ok (.aload_n 0, 1) := by decide +kernel
theorem dX8_count_50 : decode cX8_count 50 = .ok (.getfield 146, 3) := by decide +kernel
theorem dX8_count_53 : decode cX8_count 53 = .ok (.ireturn, 1) := by decide +kernel
theorem dX8_count_54 : decode cX8_count 54 = .ok (.aload_n 0, 1) := by decide +kernel
theorem dX8_count_55 : decode cX8_count 55 = .ok (.invokevirtual 361, 3) := by decide +kernel
theorem dX8_count_58 : decode cX8_count 58 = .ok (.ireturn, 1) := by decide +kernel
theorem dX8_count_59 : decode cX8_count 59 = .ok (.aload_n 0, 1) := by decide +kernel
theorem dX8_count_60 : decode cX8_count 60 = .ok (.getfield 161, 3) := by decide +kernel
theorem dX8_count_63 : decode cX8_count 63 = .ok (.ireturn, 1) := by decide +kernel
theorem dX8_count_64 : decode cX8_count 64 = .ok (.aload_n 0, 1) := by decide +kernel
theorem dX8_count_65 : decode cX8_count 65 = .ok (.getfield 88, 3) := by decide +kernel
theorem dX8_count_68 : decode cX8_count 68 = .ok (.ireturn, 1) := by decide +kernel
theorem dX8_count_69 : decode cX8_count 69 = .ok (.aload_n 0, 1) := by decide +kernel
theorem dX8_count_70 : decode cX8_count 70 = .ok (.getfield 314, 3) := by decide +kernel
theorem dX8_count_73 : decode cX8_count 73 = .ok (.ireturn, 1) := by decide +kernel
theorem dX8_count_74 : decode cX8_count 74 = .ok (.aload_n 0, 1) := by decide +kernel
theorem dX8_count_75 : decode cX8_count 75 = .ok (.getfield 319, 3) := by decide +kernel
theorem dX8_count_78 : decode cX8_count 78 = .ok (.ireturn, 1) := by decide +kernel
theorem dX8_count_79 : decode cX8_count 79 = .ok (.iconst (-1), 1) := by decide +kernel
theorem dX8_count_80 : decode cX8_count 80 = .ok (.ireturn, 1) := by decide +kernel
