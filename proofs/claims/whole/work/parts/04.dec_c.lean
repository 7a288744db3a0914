theorem dX8_within_0 : decode cX8_within 0 = .ok (.lload_n 0, 1) := by decide +kernel
theorem dX8_within_1 : decode cX8_within 1 = .ok (.lload_n 2, 1) := by decide +kernel
theorem dX8_within_2 : decode cX8_within 2 = .ok (.lcmp, 1) := by decide +kernel
theorem dX8_within_3 : decode cX8_within 3 = .ok (.ifCond .lt 14, 3) := by decide +kernel
theorem dX8_within_6 : decode cX8_within 6 = .ok (.lload_n 0, 1) := by decide +kernel
theorem dX8_within_7 : decode cX8_within 7 = .ok (.lload 4, 2) := by decide +kernel
theorem dX8_within_9 : decode cX8_within 9 = .ok (.lcmp, 1) := by decide +kernel
theorem dX8_within_10 : decode cX8_within 10 = .ok (.ifCond .gt 7, 3) := by decide +kernel
theorem dX8_within_13 : decode cX8_within 13 = .ok (.iconst 1, 1) := by decide +kernel
theorem dX8_within_14 : decode cX8_within 14 = .ok (.goto 4, 3) := by decide +kernel
theorem dX8_within_17 : decode cX8_within 17 = .ok (.iconst 0, 1) := by decide +kernel
theorem dX8_within_18 : decode cX8_within 18 = .ok (.ireturn, 1) := by decide +kernel
theorem dX8_isIn_0 : decode cX8_isIn 0 = .ok (.iload_n 0, 1) := by decide +kernel
theorem dX8_isIn_1 : decode cX8_isIn 1 = .ok (.iload_n 1, 1) := by decide +kernel
theorem dX8_isIn_2 : decode cX8_isIn 2 = .ok (.ishr, 1) := by decide +kernel
theorem dX8_isIn_3 : decode cX8_isIn 3 = .ok (.iconst 1, 1) := by decide +kernel
theorem dX8_isIn_4 : decode cX8_isIn 4 = .ok (.iand, 1) := by decide +kernel
theorem dX8_isIn_5 : decode cX8_isIn 5 = .ok (.iconst 1, 1) := by decide +kernel
theorem dX8_isIn_6 : decode cX8_isIn 6 = .ok (.if_icmp .ne 7, 3) := by decide +kernel
theorem dX8_isIn_9 : decode cX8_isIn 9 = .ok (.iconst 1, 1) := by decide +kernel
theorem dX8_isIn_10 : decode cX8_isIn 10 = .ok (.goto 4, 3) := by decide +kernel
theorem dX8_isIn_13 : decode cX8_isIn 13 = .ok (.iconst 0, 1) := by decide +kernel
theorem dX8_isIn_14 : decode cX8_isIn 14 = .ok (.ireturn, 1) := by decide +kernel
theorem dX8_init_0 : decode cX8_init 0 = .ok (.aload_n 0, 1) := by decide +kernel
theorem dX8_init_1 : decode cX8_init 1 = .ok (.invokespecial 3, 3) := by decide +kernel
theorem dX8_init_4 : decode cX8_init 4 = .ok (.aload_n 0, 1) := by decide +kernel
theorem dX8_init_5 : decode cX8_init 5 = .ok (.bipush 23, 2) := by decide +kernel
theorem dX8_init_7 : decode cX8_init 7 = .ok (.newarray .int, 2) := by decide +kernel
theorem dX8_init_9 : decode cX8_init 9 = .ok (.putfield 9, 3) := by decide +kernel
theorem dX8_init_12 : decode cX8_init 12 = .ok (.aload_n 0, 1) := by decide +kernel
theorem dX8_init_13 : decode cX8_init 13 = .ok (.bipush 40, 2) := by decide +kernel
theorem dX8_init_15 : decode cX8_init 15 = .ok (.newarray .int, 2) := by decide +kernel
theorem dX8_init_17 : decode cX8_init 17 = .ok (.putfield 13, 3) := by decide +kernel
theorem dX8_init_20 : decode cX8_init 20 = .ok (.aload_n 0, 1) := by decide +kernel
theorem dX8_init_21 : decode cX8_init 21 = .ok (.bipush 40, 2) := by decide +kernel
theorem dX8_init_23 : decode cX8_init 23 = .ok (.newarray .int, 2) := by decide +kernel
theorem dX8_init_25 : decode cX8_init 25 = .ok (.putfield 16, 3) := by decide +kernel
theorem dX8_init_28 : decode cX8_init 28 = .ok (.aload_n 0, 1) := by decide +kernel
theorem dX8_init_29 : decode cX8_init 29 = .ok (.bipush 40, 2) := by decide +kernel
theorem dX8_init_31 : decode cX8_init 31 = .ok (.newarray .int, 2) := by decide +kernel
theorem dX8_init_33 : decode cX8_init 33 = .ok (.putfield 19, 3) := by decide +kernel
theorem dX8_init_36 : decode cX8_init 36 = .ok (.aload_n 0, 1) := by decide +kernel
theorem dX8_init_37 : decode cX8_init 37 = .ok (.bipush 120, 2) := by decide +kernel
theorem dX8_init_39 : decode cX8_init 39 = .ok (.newarray .int, 2) := by decide +kernel
theorem dX8_init_41 : decode cX8_init 41 = .ok (.putfield 22, 3) := by decide +kernel
theorem dX8_init_44 : decode cX8_init 44 = .ok (.aload_n 0, 1) := by decide +kernel
theorem dX8_init_45 : decode cX8_init 45 = .ok (.bipush 120, 2) := by decide +kernel
theorem dX8_init_47 : decode cX8_init 47 = .ok (.newarray .int, 2) := by decide +kernel
theorem dX8_init_49 : decode cX8_init 49 = .ok (.putfield 25, 3) := by decide +kernel
theorem dX8_init_52 : decode cX8_init 52 = .ok (.aload_n 0, 1) := by decide +kernel
theorem dX8_init_53 : decode cX8_init 53 = .ok (.bipush 6, 2) := by decide +kernel
theorem dX8_init_55 : decode cX8_init 55 = .ok (.newarray .int, 2) := by decide +kernel
theorem dX8_init_57 : decode cX8_init 57 = .ok (.putfield 28, 3) := by decide +kernel
theorem dX8_init_60 : decode cX8_init 60 = .ok (.aload_n 0, 1) := by decide +kernel
theorem dX8_init_61 : decode cX8_init 61 = .ok (.sipush 6468, 3) := by decide +kernel
theorem dX8_init_64 : decode cX8_init 64 = .ok (.newarray .boolean, 2) := by decide +kernel
theorem dX8_init_66 : decode cX8_init 66 = .ok (.putfield 31, 3) := by decide +kernel
theorem dX8_init_69 : decode cX8_init 69 = .ok (.aload_n 0, 1) := by decide +kernel
theorem dX8_init_70 : decode cX8_init 70 = .ok (.bipush 49, 2) := by decide +kernel
theorem dX8_init_72 : decode cX8_init 72 = .ok (.newarray .int, 2) := by decide +kernel
theorem dX8_init_74 : decode cX8_init 74 = .ok (.putfield 35, 3) := by decide +kernel
theorem dX8_init_77 : decode cX8_init 77 = .ok (.aload_n 0, 1) := by decide +kernel
theorem dX8_init_78 : decode cX8_init 78 = .ok (.sipush 4207, 3) := by decide +kernel
theorem dX8_init_81 : decode cX8_init 81 = .ok (.newarray .int, 2) := by decide +kernel
theorem dX8_init_83 : decode cX8_init 83 = .ok (.putfield 38, 3) := by decide +kernel
theorem dX8_init_86 : decode cX8_init 86 = .ok (.aload_n 0, 1) := by decide +kernel
theorem dX8_init_87 : decode cX8_init 87 = .ok (.sipush 4207, 3) := by decide +kernel
theorem dX8_init_90 : decode cX8_init 90 = .ok (.newarray .int, 2) := by decide +kernel
theorem dX8_init_92 : decode cX8_init 92 = .ok (.putfield 41, 3) := by decide +kernel
theorem dX8_init_95 : decode cX8_init 95 = .ok (.aload_n 0, 1) := by decide +kernel
theorem dX8_init_96 : decode cX8_init 96 = .ok (.sipush 4207, 3) := by decide +kernel
theorem dX8_init_99 : decode cX8_init 99 = .ok (.newarray .int, 2) := by decide +kernel
theorem dX8_init_101 : decode cX8_init 101 = .ok (.putfield 44, 3) := by decide +kernel
theorem dX8_init_104 : decode cX8_init 104 = .ok (.aload_n 0, 1) := by decide +kernel
theorem dX8_init_105 : decode cX8_init 105 = .ok (.bipush 7, 2) := by decide +kernel
theorem dX8_init_107 : decode cX8_init 107 = .ok (.newarray .int, 2) := by decide +kernel
theorem dX8_init_109 : decode cX8_init 109 = .ok (.putfield 47, 3) := by decide +kernel
theorem dX8_init_112 : decode cX8_init 112 = .ok (.aload_n 0, 1) := by decide +kernel
theorem dX8_init_113 : decode cX8_init 113 = .ok (.bipush 7, 2) := by decide +kernel
theorem dX8_init_115 : decode cX8_init 115 = .ok (.newarray .int, 2) := by decide +kernel
theorem dX8_init_117 : decode cX8_init 117 = .ok (.putfield 50, 3) := by decide +kernel
theorem dX8_init_120 : decode cX8_init 120 = .ok (.aload_n 0, 1) := by decide +kernel
theorem dX8_init_121 : decode cX8_init 121 = .ok (.bipush 40, 2) := by decide +kernel
theorem dX8_init_123 : decode cX8_init 123 = .ok (.newarray .int, 2) := by decide +kernel
theorem dX8_init_125 : decode cX8_init 125 = .ok (.putfield 53, 3) := by decide +kernel
theorem dX8_init_128 : decode cX8_init 128 = .ok (.aload_n 0, 1) := by decide +kernel
theorem dX8_init_129 : decode cX8_init 129 = .ok (.bipush 6, 2) := by decide +kernel
theorem dX8_init_131 : decode cX8_init 131 = .ok (.newarray .int, 2) := by decide +kernel
theorem dX8_init_133 : decode cX8_init 133 = .ok (.putfield 56, 3) := by decide +kernel
theorem dX8_init_136 : decode cX8_init 136 = .ok (.aload_n 0, 1) := by decide +kernel
theorem dX8_init_137 : decode cX8_init 137 = .ok (.bipush 40, 2) := by decide +kernel
theorem dX8_init_139 : decode cX8_init 139 = .ok (.newarray .int, 2) := by decide +kernel
theorem dX8_init_141 : decode cX8_init 141 = .ok (.putfield 59, 3) := by decide +kernel
theorem dX8_init_144 : decode cX8_init 144 = .ok (.aload_n 0, 1) := by decide +kernel
theorem dX8_init_145 : decode cX8_init 145 = .ok (.bipush 6, 2) := by decide +kernel
theorem dX8_init_147 : decode cX8_init 147 = .ok (.newarray .int, 2) := by decide +kernel
theorem dX8_init_149 : decode cX8_init 149 = .ok (.putfield 62, 3) := by decide +kernel
theorem dX8_init_152 : decode cX8_init 152 = .ok (.aload_n 0, 1) := by decide +kernel
theorem dX8_init_153 : decode cX8_init 153 = .ok (.bipush 50, 2) := by decide +kernel
theorem dX8_init_155 : decode cX8_init 155 = .ok (.newarray .int, 2) := by decide +kernel
theorem dX8_init_157 : decode cX8_init 157 = .ok (.putfield 65, 3) := by decide +kernel
theorem dX8_init_160 : decode cX8_init 160 = .ok (.aload_n 0, 1) := by decide +kernel
theorem dX8_init_161 : decode cX8_init 161 = .ok (.bipush 24, 2) := by decide +kernel
theorem dX8_init_163 : decode cX8_init 163 = .ok (.newarray .int, 2) := by decide +kernel
theorem dX8_init_165 : decode cX8_init 165 = .ok (.putfield 68, 3) := by decide +kernel
theorem dX8_init_168 : decode cX8_init 168 = .ok (.aload_n 0, 1) := by decide +kernel
theorem dX8_init_169 : decode cX8_init 169 = .ok (.bipush 6, 2) := by decide +kernel
theorem dX8_init_171 : decode cX8_init 171 = .ok (.newarray .int, 2) := by decide +kernel
theorem dX8_init_173 : decode cX8_init 173 = .ok (.putfield 71, 3) := by decide +kernel
theorem dX8_init_176 : decode cX8_init 176 = .ok (.aload_n 0, 1) := by decide +kernel
theorem dX8_init_177 : decode cX8_init 177 = .ok (.bipush 6, 2) := by decide +kernel
theorem dX8_init_179 : decode cX8_init 179 = .ok (.newarray .int, 2) := by decide +kernel
theorem dX8_init_181 : decode cX8_init 181 = .ok (.putfield 74, 3) := by decide +kernel
theorem dX8_init_184 : decode cX8_init 184 = .ok (.aload_n 0, 1) := by decide +kernel
theorem dX8_init_185 : decode cX8_init 185 = .ok (.sipush 360, 3) := by decide +kernel
theorem dX8_init_188 : decode cX8_init 188 = .ok (.newarray .long, 2) := by decide +kernel
theorem dX8_init_190 : decode cX8_init 190 = .ok (.putfield 77, 3) := by decide +kernel
theorem dX8_init_193 : decode cX8_init 193 = .ok (.aload_n 0, 1) := by decide +kernel
theorem dX8_init_194 : decode cX8_init 194 = .ok (.bipush 60, 2) := by decide +kernel
theorem dX8_init_196 : decode cX8_init 196 = .ok (.newarray .long, 2) := by decide +kernel
theorem dX8_init_198 : decode cX8_init 198 = .ok (.putfield 81, 3) := by decide +kernel
theorem dX8_init_201 : decode cX8_init 201 = .ok (.iconst 0, 1) := by decide +kernel
theorem dX8_init_202 : decode cX8_init 202 = .ok (.istore_n 1, 1) := by decide +kernel
theorem dX8_init_203 : decode cX8_init 203 = .ok (.iload_n 1, 1) := by decide +kernel
theorem dX8_init_204 : decode cX8_init 204 = .ok (.bipush 6, 2) := by decide +kernel
theorem dX8_init_206 : decode cX8_init 206 = .ok (.if_icmp .ge 16, 3) := by decide +kernel
theorem dX8_init_209 : decode cX8_init 209 = .ok (.aload_n 0, 1) := by decide +kernel
theorem dX8_init_210 : decode cX8_init 210 = .ok (.getfield 71, 3) := by decide +kernel
theorem dX8_init_213 : decode cX8_init 213 = .ok (.iload_n 1, 1) := by decide +kernel
theorem dX8_init_214 : decode cX8_init 214 = .ok (.iconst (-1), 1) := by decide +kernel
theorem dX8_init_215 : decode cX8_init 215 = .ok (.iastore, 1) := by decide +kernel
theorem dX8_init_216 : decode cX8_init 216 = .ok (.iinc 1 1, 3) := by decide +kernel
theorem dX8_init_219 : decode cX8_init 219 = .ok (.goto (-16), 3) := by decide +kernel
theorem dX8_init_222 : decode cX8_init 222 = .ok (.aload_n 0, 1) := by decide +kernel
theorem dX8_init_223 : decode cX8_init 223 = .ok (.iconst (-1), 1) := by decide +kernel
theorem dX8_init_224 : decode cX8_init 224 = .ok (.putfield 84, 3) := by decide +kernel
theorem dX8_init_227 : decode cX8_init 227 = .ok (.aload_n 0, 1) := by decide +kernel
theorem dX8_init_228 : decode cX8_init 228 = .ok (.getfield 9, 3) := by decide +kernel
theorem dX8_init_231 : decode cX8_init 231 = .ok (.bipush 21, 2) := by decide +kernel
theorem dX8_init_233 : decode cX8_init 233 = .ok (.bipush 30, 2) := by decide +kernel
theorem dX8_init_235 : decode cX8_init 235 = .ok (.iastore, 1) := by decide +kernel
theorem dX8_init_236 : decode cX8_init 236 = .ok (.return_, 1) := by decide +kernel
theorem dX8_becomes_0 : decode cX8_becomes 0 = .ok (.aload_n 0, 1) := by decide +kernel
theorem dX8_becomes_1 : decode cX8_becomes 1 = .ok (.getfield 9, 3) := by decide +kernel
theorem dX8_becomes_4 : decode cX8_becomes 4 = .ok (.iload_n 1, 1) := by decide +kernel
theorem dX8_becomes_5 : decode cX8_becomes 5 = .ok (.iaload, 1) := by decide +kernel
theorem dX8_becomes_6 : decode cX8_becomes 6 = .ok (.istore_n 3, 1) := by decide +kernel
theorem dX8_becomes_7 : decode cX8_becomes 7 = .ok (.iload_n 3, 1) := by decide +kernel
theorem dX8_becomes_8 : decode cX8_becomes 8 = .ok (.iload_n 2, 1) := by decide +kernel
theorem dX8_becomes_9 : decode cX8_becomes 9 = .ok (.if_icmp .ne 5, 3) := by decide +kernel
theorem dX8_becomes_12 : decode cX8_becomes 12 = .ok (.iload_n 3, 1) := by decide +kernel
theorem dX8_becomes_13 : decode cX8_becomes 13 = .ok (.ireturn, 1) := by decide +kernel
theorem dX8_becomes_14 : decode cX8_becomes 14 = .ok (.aload_n 0, 1) := by decide +kernel
theorem dX8_becomes_15 : decode cX8_becomes 15 = .ok (.getfield 88, 3) := by decide +kernel
theorem dX8_becomes_18 : decode cX8_becomes 18 = .ok (.bipush 40, 2) := by decide +kernel
theorem dX8_becomes_20 : decode cX8_becomes 20 = .ok (.if_icmp .ne 77, 3) := by decide +kernel
theorem dX8_becomes_23 : decode cX8_becomes 23 = .ok (.iconst 1, 1) := by decide +kernel
theorem dX8_becomes_24 : decode cX8_becomes 24 = .ok (.istore 4, 2) := by decide +kernel
theorem dX8_becomes_26 : decode cX8_becomes 26 = .ok (.iload 4, 2) := by decide +kernel
theorem dX8_becomes_28 : decode cX8_becomes 28 = .ok (.bipush 40, 2) := by decide +kernel
theorem dX8_becomes_30 : decode cX8_becomes 30 = .ok (.if_icmp .ge 57, 3) := by decide +kernel
theorem dX8_becomes_33 : decode cX8_becomes 33 = .ok (.aload_n 0, 1) := by decide +kernel
theorem dX8_becomes_34 : decode cX8_becomes 34 = .ok (.getfield 13, 3) := by decide +kernel
theorem dX8_becomes_37 : decode cX8_becomes 37 = .ok (.iload 4, 2) := by decide +kernel
theorem dX8_becomes_39 : decode cX8_becomes 39 = .ok (.iconst 1, 1) := by decide +kernel
theorem dX8_becomes_40 : decode cX8_becomes 40 = .ok (.isub, 1) := by decide +kernel
theorem dX8_becomes_41 : decode cX8_becomes 41 = .ok (.aload_n 0, 1) := by decide +kernel
theorem dX8_becomes_42 : decode cX8_becomes 42 = .ok (.getfield 13, 3) := by decide +kernel
theorem dX8_becomes_45 : decode cX8_becomes 45 = .ok (.iload 4, 2) := by decide +kernel
theorem dX8_becomes_47 : decode cX8_becomes 47 = .ok (.iaload, 1) := by decide +kernel
theorem dX8_becomes_48 : decode cX8_becomes 48 = .ok (.iastore, 1) := by decide +kernel
theorem dX8_becomes_49 : decode cX8_becomes 49 = .ok (.aload_n 0, 1) := by decide +kernel
theorem dX8_becomes_50 : decode cX8_becomes 50 = .ok (.getfield 16, 3) := by decide +kernel
theorem dX8_becomes_53 : decode cX8_becomes 53 = .ok (.iload 4, 2) := by decide +kernel
theorem dX8_becomes_55 : decode cX8_becomes 55 = .ok (.iconst 1, 1) := by decide +kernel
theorem dX8_becomes_56 : decode cX8_becomes 56 = .ok (.isub, 1) := by decide +kernel
theorem dX8_becomes_57 : decode cX8_becomes 57 = .ok (.aload_n 0, 1) := by decide +kernel
theorem dX8_becomes_58 : decode cX8_becomes 58 = .ok (.getfield 16, 3) := by decide +kernel
theorem dX8_becomes_61 : decode cX8_becomes 61 = .ok (.iload 4, 2) := by decide +kernel
theorem dX8_becomes_63 : decode cX8_becomes 63 = .ok (.iaload, 1) := by decide +kernel
theorem dX8_becomes_64 : decode cX8_becomes 64 = .ok (.iastore, 1) := by decide +kernel
theorem dX8_becomes_65 : decode cX8_becomes 65 = .ok (.aload_n 0, 1) := by decide +kernel
theorem dX8_becomes_66 : decode cX8_becomes 66 = .ok (.getfield 19, 3) := by decide +kernel
theorem dX8_becomes_69 : decode cX8_becomes 69 = .ok (.iload 4, 2) := by decide +kernel
theorem dX8_becomes_71 : decode cX8_becomes 71 = .ok (.iconst 1, 1) := by decide +kernel
theorem dX8_becomes_72 : decode cX8_becomes 72 = .ok (.isub, 1) := by decide +kernel
theorem dX8_becomes_73 : decode cX8_becomes 73 = .ok (.aload_n 0, 1) := by decide +kernel
theorem dX8_becomes_74 : decode cX8_becomes 74 = .ok (.getfield 19, 3) := by decide +kernel
theorem dX8_becomes_77 : decode cX8_becomes 77 = .ok (.iload 4, 2) := by decide +kernel
theorem dX8_becomes_79 : decode cX8_becomes 79 = .ok (.iaload, 1) := by decide +kernel
theorem dX8_becomes_80 : decode cX8_becomes 80 = .ok (.iastore, 1) := by decide +kernel
theorem dX8_becomes_81 : decode cX8_becomes 81 = .ok (.iinc 4 1, 3) := by decide +kernel
theorem dX8_becomes_84 : decode cX8_becomes 84 = .ok (.goto (-58), 3) := by decide +kernel
theorem dX8_becomes_87 : decode cX8_becomes 87 = .ok (.aload_n 0, 1) := by decide +kernel
theorem dX8_becomes_88 : decode cX8_becomes 88 = .ok (.dup, 1) := by decide +kernel
theorem dX8_becomes_89 : decode cX8_becomes 89 = .ok (.getfield 88, 3) := by decide +kernel
theorem dX8_becomes_92 : decode cX8_becomes 92 = .ok (.iconst 1, 1) := by decide +kernel
theorem dX8_becomes_93 : decode cX8_becomes 93 = .ok (.isub, 1) := by decide +kernel
theorem dX8_becomes_94 : decode cX8_becomes 94 = .ok (.putfield 88, 3) := by decide +kernel
theorem dX8_becomes_97 : decode cX8_becomes 97 = .ok (.aload_n 0, 1) := by decide +kernel
theorem dX8_becomes_98 : decode cX8_becomes 98 = .ok (.getfield 13, 3) := by decide +kernel
theorem dX8_becomes_101 : decode cX8_becomes 101 = .ok (.aload_n 0, 1) := by decide +kernel
theorem dX8_becomes_102 : decode cX8_becomes 102 = .ok (.getfield 88, 3) := by decide +kernel
theorem dX8_becomes_105 : decode cX8_becomes 105 = .ok (.iload_n 1, 1) := by decide +kernel
theorem dX8_becomes_106 : decode cX8_becomes 106 = .ok (.iastore, 1) := by decide +kernel
theorem dX8_becomes_107 : decode cX8_becomes 107 = .ok (.aload_n 0, 1) := by decide +kernel
theorem dX8_becomes_108 : decode cX8_becomes 108 = .ok (.getfield 16, 3) := by decide +kernel
theorem dX8_becomes_111 : decode cX8_becomes 111 = .ok (.aload_n 0, 1) := by decide +kernel
theorem dX8_becomes_112 : decode cX8_becomes 112 = .ok (.getfield 88, 3) := by decide +kernel
theorem dX8_becomes_115 : decode cX8_becomes 115 = .ok (.iload_n 3, 1) := by decide +kernel
theorem dX8_becomes_116 : decode cX8_becomes 116 = .ok (.iastore, 1) := by decide +kernel
theorem dX8_becomes_117 : decode cX8_becomes 117 = .ok (.aload_n 0, 1) := by decide +kernel
theorem dX8_becomes_118 : decode cX8_becomes 118 = .ok (.getfield 19, 3) := by decide +kernel
theorem dX8_becomes_121 : decode cX8_becomes 121 = .ok (.aload_n 0, 1) := by decide +kernel
theorem dX8_becomes_122 : decode cX8_becomes 122 = .ok (.getfield 88, 3) := by decide +kernel
theorem dX8_becomes_125 : decode cX8_becomes 125 = .ok (.iload_n 2, 1) := by decide +kernel
theorem dX8_becomes_126 : decode cX8_becomes 126 = .ok (.iastore, 1) := by decide +kernel
theorem dX8_becomes_127 : decode cX8_becomes 127 = .ok (.aload_n 0, 1) := by decide +kernel
theorem dX8_becomes_128 : decode cX8_becomes 128 = .ok (.dup, 1) := by decide +kernel
theorem dX8_becomes_129 : decode cX8_becomes 129 = .ok (.getfield 88, 3) := by decide +kernel
theorem dX8_becomes_132 : decode cX8_becomes 132 = .ok (.iconst 1, 1) := by decide +kernel
theorem dX8_becomes_133 : decode cX8_becomes 133 = .ok (.iadd, 1) := by decide +kernel
theorem dX8_becomes_134 : decode cX8_becomes 134 = .ok (.putfield 88, 3) := by decide +kernel
theorem dX8_becomes_137 : decode cX8_becomes 137 = .ok (.aload_n 0, 1) := by decide +kernel
theorem dX8_becomes_138 : decode cX8_becomes 138 = .ok (.aload_n 0, 1) := by decide +kernel
theorem dX8_becomes_139 : decode cX8_becomes 139 = .ok (.getfield 88, 3) := by decide +kernel
theorem dX8_becomes_142 : decode cX8_becomes 142 = .ok (.putfield 91, 3) := by decide +kernel
theorem dX8_becomes_145 : decode cX8_becomes 145 = .ok (.aload_n 0, 1) := by decide +kernel
theorem dX8_becomes_146 : decode cX8_becomes 146 = .ok (.getfield 9, 3) := by decide +kernel
theorem dX8_becomes_149 : decode cX8_becomes 149 = .ok (.iload_n 1, 1) := by decide +kernel
theorem dX8_becomes_150 : decode cX8_becomes 150 = .ok (.iload_n 2, 1) := by decide +kernel
theorem dX8_becomes_151 : decode cX8_becomes 151 = .ok (.iastore, 1) := by decide +kernel
theorem dX8_becomes_152 : decode cX8_becomes 152 = .ok (.iload_n 3, 1) := by decide +kernel
theorem dX8_becomes_153 : decode cX8_becomes 153 = .ok (.ireturn, 1) := by decide +kernel
theorem dX8_undo_0 : decode cX8_undo 0 = .ok (.aload_n 0, 1) := by decide +kernel
theorem dX8_undo_1 : decode cX8_undo 1 = .ok (.getfield 88, 3) := by decide +kernel
theorem dX8_undo_4 : decode cX8_undo 4 = .ok (.ifCond .ne 6, 3) := by decide +kernel
theorem dX8_undo_7 : decode cX8_undo 7 = .ok (.bipush (-5), 2) := by decide +kernel
theorem dX8_undo_9 : decode cX8_undo 9 = .ok (.ireturn, 1) := by decide +kernel
theorem dX8_undo_10 : decode cX8_undo 10 = .ok (.aload_n 0, 1) := by decide +kernel
theorem dX8_undo_11 : decode cX8_undo 11 = .ok (.dup, 1) := by decide +kernel
theorem dX8_undo_12 : decode cX8_undo 12 = .ok (.getfield 88, 3) := by decide +kernel
theorem dX8_undo_15 : decode cX8_undo 15 = .ok (.iconst 1, 1) := by decide +kernel
theorem dX8_undo_16 : decode cX8_undo 16 = .ok (.isub, 1) := by decide +kernel
theorem dX8_undo_17 : decode cX8_undo 17 = .ok (.putfield 88, 3) := by decide +kernel
theorem dX8_undo_20 : decode cX8_undo 20 = .ok (.aload_n 0, 1) := by decide +kernel
theorem dX8_undo_21 : decode cX8_undo 21 = .ok (.getfield 9, 3) := by decide +kernel
theorem dX8_undo_24 : decode cX8_undo 24 = .ok (.aload_n 0, 1) := by decide +kernel
theorem dX8_undo_25 : decode cX8_undo 25 = .ok (.getfield 13, 3) := by decide +kernel
theorem dX8_undo_28 : decode cX8_undo 28 = .ok (.aload_n 0, 1) := by decide +kernel
theorem dX8_undo_29 : decode cX8_undo 29 = .ok (.getfield 88, 3) := by decide +kernel
theorem dX8_undo_32 : decode cX8_undo 32 = .ok (.iaload, 1) := by decide +kernel
theorem dX8_undo_33 : decode cX8_undo 33 = .ok (.aload_n 0, 1) := by decide +kernel
theorem dX8_undo_34 : decode cX8_undo 34 = .ok (.getfield 16, 3) := by decide +kernel
theorem dX8_undo_37 : decode cX8_undo 37 = .ok (.aload_n 0, 1) := by decide +kernel
theorem dX8_undo_38 : decode cX8_undo 38 = .ok (.getfield 88, 3) := by decide +kernel
theorem dX8_undo_41 : decode cX8_undo 41 = .ok (.iaload, 1) := by decide +kernel
theorem dX8_undo_42 : decode cX8_undo 42 = .ok (.iastore, 1) := by decide +kernel
theorem dX8_undo_43 : decode cX8_undo 43 = .ok (.aload_n 0, 1) := by decide +kernel
theorem dX8_undo_44 : decode cX8_undo 44 = .ok (.getfield 88, 3) := by decide +kernel
theorem dX8_undo_47 : decode cX8_undo 47 = .ok (.ireturn, 1) := by decide +kernel
theorem dX8_redo_0 : decode cX8_redo 0 = .ok (.aload_n 0, 1) := by decide +kernel
theorem dX8_redo_1 : decode cX8_redo 1 = .ok (.getfield 88, 3) := by decide +kernel
theorem dX8_redo_4 : decode cX8_redo 4 = .ok (.aload_n 0, 1) := by decide +kernel
theorem dX8_redo_5 : decode cX8_redo 5 = .ok (.getfield 91, 3) := by decide +kernel
theorem dX8_redo_8 : decode cX8_redo 8 = .ok (.if_icmp .ne 6, 3) := by decide +kernel
theorem dX8_redo_11 : decode cX8_redo 11 = .ok (.bipush (-5), 2) := by decide +kernel
theorem dX8_redo_13 : decode cX8_redo 13 = .ok (.ireturn, 1) := by decide +kernel
theorem dX8_redo_14 : decode cX8_redo 14 = .ok (.aload_n 0, 1) := by decide +kernel
theorem dX8_redo_15 : decode cX8_redo 15 = .ok (.getfield 9, 3) := by decide +kernel
theorem dX8_redo_18 : decode cX8_redo 18 = .ok (.aload_n 0, 1) := by decide +kernel
theorem dX8_redo_19 : decode cX8_redo 19 = .ok (.getfield 13, 3) := by decide +kernel
theorem dX8_redo_22 : decode cX8_redo 22 = .ok (.aload_n 0, 1) := by decide +kernel
theorem dX8_redo_23 : decode cX8_redo 23 = .ok (.getfield 88, 3) := by decide +kernel
theorem dX8_redo_26 : decode cX8_redo 26 = .ok (.iaload, 1) := by decide +kernel
theorem dX8_redo_27 : decode cX8_redo 27 = .ok (.aload_n 0, 1) := by decide +kernel
theorem dX8_redo_28 : decode cX8_redo 28 = .ok (.getfield 19, 3) := by decide +kernel
theorem dX8_redo_31 : decode cX8_redo 31 = .ok (.aload_n 0, 1) := by decide +kernel
theorem dX8_redo_32 : decode cX8_redo 32 = .ok (.getfield 88, 3) := by decide +kernel
theorem dX8_redo_35 : decode cX8_redo 35 = .ok (.iaload, 1) := by decide +kernel
theorem dX8_redo_36 : decode cX8_redo 36 = .ok (.iastore, 1) := by decide +kernel
theorem dX8_redo_37 : decode cX8_redo 37 = .ok (.aload_n 0, 1) := by decide +kernel
theorem dX8_redo_38 : decode cX8_redo 38 = .ok (.dup, 1) := by decide +kernel
theorem dX8_redo_39 : decode cX8_redo 39 = .ok (.getfield 88, 3) := by decide +kernel
theorem dX8_redo_42 : decode cX8_redo 42 = .ok (.iconst 1, 1) := by decide +kernel
theorem dX8_redo_43 : decode cX8_redo 43 = .ok (.iadd, 1) := by decide +kernel
theorem dX8_redo_44 : decode cX8_redo 44 = .ok (.putfield 88, 3) := by decide +kernel
theorem dX8_redo_47 : decode cX8_redo 47 = .ok (.aload_n 0, 1) := by decide +kernel
theorem dX8_redo_48 : decode cX8_redo 48 = .ok (.getfield 91, 3) := by decide +kernel
theorem dX8_redo_51 : decode cX8_redo 51 = .ok (.aload_n 0, 1) := by decide +kernel
theorem dX8_redo_52 : decode cX8_redo 52 = .ok (.getfield 88, 3) := by decide +kernel
theorem dX8_redo_55 : decode cX8_redo 55 = .ok (.isub, 1) := by decide +kernel
theorem dX8_redo_56 : decode cX8_redo 56 = .ok (.ireturn, 1) := by decide +kernel
set_option maxRecDepth 20000 in
theorem ggX8_isWorld_X8_within : GoodIn wsX8_isWorld wsX8_within := goodIn_r _ [5] (by decide +kernel) (by decide +kernel)
set_option maxRecDepth 20000 in
theorem gX8_isWorld_X8_within : GoodIn wsX8_isWorld (va_wsS RX8 97 yX8_within wsX8_within) := goodIn_app (goodIn_of _ (by decide +kernel)) ggX8_isWorld_X8_within
theorem dX8_isWorld_0 : decode cX8_isWorld 0 = .ok (.iload_n 1, 1) := by decide +kernel
theorem dX8_isWorld_1 : decode cX8_isWorld 1 = .ok (.i2l, 1) := by decide +kernel
theorem dX8_isWorld_2 : decode cX8_isWorld 2 = .ok (.lconst 0, 1) := by decide +kernel
theorem dX8_isWorld_3 : decode cX8_isWorld 3 = .ok (.aload_n 0, 1) := by decide +kernel
theorem dX8_isWorld_4 : decode cX8_isWorld 4 = .ok (.getfield 94, 3) := by decide +kernel
theorem dX8_isWorld_7 : decode cX8_isWorld 7 = .ok (.iconst 1, 1) := by decide +kernel
theorem dX8_isWorld_8 : decode cX8_isWorld 8 = .ok (.isub, 1) := by decide +kernel
theorem dX8_isWorld_9 : decode cX8_isWorld 9 = .ok (.i2l, 1) := by decide +kernel
theorem dX8_isWorld_10 : decode cX8_isWorld 10 = .ok (.invokestatic 97, 3) := by decide +kernel
theorem dX8_isWorld_13 : decode cX8_isWorld 13 = .ok (.ireturn, 1) := by decide +kernel
set_option maxRecDepth 20000 in
theorem ggX8_isPq_X8_isWorld : GoodIn wsX8_isPq wsX8_isWorld := goodIn_r _ [5, 6, 7, 8, 4, 9, 10, 11, 12, 13, 14, 15, 16, 17, 18, 19, 20, 21, 22, 23, 24, 25, 26, 27, 28, 29, 30, 31, 32, 33, 34, 35, 36, 37, 38, 39, 40, 41, 42, 43, 44, 45, 46, 47, 48, 49, 50, 51, 52, 53, 54, 55, 56, 57] (by decide +kernel) (by decide +kernel)
set_option maxRecDepth 20000 in
theorem gX8_isPq_X8_isWorld : GoodIn wsX8_isPq (wsV RX8 101 RX8 yX8_isWorld wsX8_isWorld) := goodIn_app (goodIn_of _ (by decide +kernel)) ggX8_isPq_X8_isWorld
theorem dX8_isPq_0 : decode cX8_isPq 0 = .ok (.iload_n 1, 1) := by decide +kernel
theorem dX8_isPq_1 : decode cX8_isPq 1 = .ok (.ifCond .lt 40, 3) := by decide +kernel
theorem dX8_isPq_4 : decode cX8_isPq 4 = .ok (.aload_n 0, 1) := by decide +kernel
theorem dX8_isPq_5 : decode cX8_isPq 5 = .ok (.iload_n 1, 1) := by decide +kernel
theorem dX8_isPq_6 : decode cX8_isPq 6 = .ok (.bipush 10, 2) := by decide +kernel
theorem dX8_isPq_8 : decode cX8_isPq 8 = .ok (.idiv, 1) := by decide +kernel
theorem dX8_isPq_9 : decode cX8_isPq 9 = .ok (.invokevirtual 101, 3) := by decide +kernel
theorem dX8_isPq_12 : decode cX8_isPq 12 = .ok (.ifCond .eq 29, 3) := by decide +kernel
theorem dX8_isPq_15 : decode cX8_isPq 15 = .ok (.aload_n 0, 1) := by decide +kernel
theorem dX8_isPq_16 : decode cX8_isPq 16 = .ok (.iload_n 1, 1) := by decide +kernel
theorem dX8_isPq_17 : decode cX8_isPq 17 = .ok (.bipush 10, 2) := by decide +kernel
theorem dX8_isPq_19 : decode cX8_isPq 19 = .ok (.irem, 1) := by decide +kernel
theorem dX8_isPq_20 : decode cX8_isPq 20 = .ok (.invokevirtual 101, 3) := by decide +kernel
theorem dX8_isPq_23 : decode cX8_isPq 23 = .ok (.ifCond .eq 18, 3) := by decide +kernel
theorem dX8_isPq_26 : decode cX8_isPq 26 = .ok (.iload_n 1, 1) := by decide +kernel
theorem dX8_isPq_27 : decode cX8_isPq 27 = .ok (.bipush 10, 2) := by decide +kernel
theorem dX8_isPq_29 : decode cX8_isPq 29 = .ok (.idiv, 1) := by decide +kernel
theorem dX8_isPq_30 : decode cX8_isPq 30 = .ok (.iload_n 1, 1) := by decide +kernel
theorem dX8_isPq_31 : decode cX8_isPq 31 = .ok (.bipush 10, 2) := by decide +kernel
theorem dX8_isPq_33 : decode cX8_isPq 33 = .ok (.irem, 1) := by decide +kernel
theorem dX8_isPq_34 : decode cX8_isPq 34 = .ok (.if_icmp .eq 7, 3) := by decide +kernel
theorem dX8_isPq_37 : decode cX8_isPq 37 = .ok (.iconst 1, 1) := by decide +kernel
theorem dX8_isPq_38 : decode cX8_isPq 38 = .ok (.goto 4, 3) := by decide +kernel
theorem dX8_isPq_41 : decode cX8_isPq 41 = .ok (.iconst 0, 1) := by decide +kernel
theorem dX8_isPq_42 : decode cX8_isPq 42 = .ok (.ireturn, 1) := by decide +kernel
set_option maxRecDepth 20000 in
theorem ggX8_isStep_X8_within : GoodIn wsX8_isStep wsX8_within := goodIn_r _ [5] (by decide +kernel) (by decide +kernel)
set_option maxRecDepth 20000 in
theorem gX8_isStep_X8_within : GoodIn wsX8_isStep (va_wsS RX8 97 yX8_within wsX8_within) := goodIn_app (goodIn_of _ (by decide +kernel)) ggX8_isStep_X8_within
theorem dX8_isStep_0 : decode cX8_isStep 0 = .ok (.iload_n 0, 1) := by decide +kernel
theorem dX8_isStep_1 : decode cX8_isStep 1 = .ok (.i2l, 1) := by decide +kernel
theorem dX8_isStep_2 : decode cX8_isStep 2 = .ok (.lconst 0, 1) := by decide +kernel
theorem dX8_isStep_3 : decode cX8_isStep 3 = .ok (.ldc2_w 105, 3) := by decide +kernel
theorem dX8_isStep_6 : decode cX8_isStep 6 = .ok (.invokestatic 97, 3) := by decide +kernel
theorem dX8_isStep_9 : decode cX8_isStep 9 = .ok (.ireturn, 1) := by decide +kernel
set_option maxRecDepth 20000 in
theorem ggX8_isOne_X8_within : GoodIn wsX8_isOne wsX8_within := goodIn_r _ [6] (by decide +kernel) (by decide +kernel)
set_option maxRecDepth 20000 in
theorem gX8_isOne_X8_within : GoodIn wsX8_isOne (va_wsS RX8 97 yX8_within wsX8_within) := goodIn_app (goodIn_of _ (by decide +kernel)) ggX8_isOne_X8_within
theorem dX8_isOne_0 : decode cX8_isOne 0 = .ok (.lload_n 0, 1) := by decide +kernel
theorem dX8_isOne_1 : decode cX8_isOne 1 = .ok (.lconst 1, 1) := by decide +kernel
theorem dX8_isOne_2 : decode cX8_isOne 2 = .ok (.ldc2_w 107, 3) := by decide +kernel
theorem dX8_isOne_5 : decode cX8_isOne 5 = .ok (.invokestatic 97, 3) := by decide +kernel
theorem dX8_isOne_8 : decode cX8_isOne 8 = .ok (.ifCond .eq 30, 3) := by decide +kernel
theorem dX8_isOne_11 : decode cX8_isOne 11 = .ok (.lload_n 2, 1) := by decide +kernel
theorem dX8_isOne_12 : decode cX8_isOne 12 = .ok (.lconst 0, 1) := by decide +kernel
theorem dX8_isOne_13 : decode cX8_isOne 13 = .ok (.lload_n 0, 1) := by decide +kernel
theorem dX8_isOne_14 : decode cX8_isOne 14 = .ok (.lconst 1, 1) := by decide +kernel
theorem dX8_isOne_15 : decode cX8_isOne 15 = .ok (.lsub, 1) := by decide +kernel
theorem dX8_isOne_16 : decode cX8_isOne 16 = .ok (.invokestatic 97, 3) := by decide +kernel
theorem dX8_isOne_19 : decode cX8_isOne 19 = .ok (.ifCond .eq 19, 3) := by decide +kernel
theorem dX8_isOne_22 : decode cX8_isOne 22 = .ok (.lload 4, 2) := by decide +kernel
theorem dX8_isOne_24 : decode cX8_isOne 24 = .ok (.lconst 1, 1) := by decide +kernel
theorem dX8_isOne_25 : decode cX8_isOne 25 = .ok (.ldc2_w 109, 3) := by decide +kernel
theorem dX8_isOne_28 : decode cX8_isOne 28 = .ok (.invokestatic 97, 3) := by decide +kernel
theorem dX8_isOne_31 : decode cX8_isOne 31 = .ok (.ifCond .eq 7, 3) := by decide +kernel
theorem dX8_isOne_34 : decode cX8_isOne 34 = .ok (.iconst 1, 1) := by decide +kernel
theorem dX8_isOne_35 : decode cX8_isOne 35 = .ok (.goto 4, 3) := by decide +kernel
theorem dX8_isOne_38 : decode cX8_isOne 38 = .ok (.iconst 0, 1) := by decide +kernel
theorem dX8_isOne_39 : decode cX8_isOne 39 = .ok (.ireturn, 1) := by decide +kernel
theorem dX8_adds_0 : decode cX8_adds 0 = .ok (.aload_n 0, 1) := by decide +kernel
theorem dX8_adds_1 : decode cX8_adds 1 = .ok (.getfield 9, 3) := by decide +kernel
theorem dX8_adds_4 : decode cX8_adds 4 = .ok (.aload_n 0, 1) := by decide +kernel
theorem dX8_adds_5 : decode cX8_adds 5 = .ok (.getfield 94, 3) := by decide +kernel
theorem dX8_adds_8 : decode cX8_adds 8 = .ok (.iload_n 1, 1) := by decide +kernel
theorem dX8_adds_9 : decode cX8_adds 9 = .ok (.iastore, 1) := by decide +kernel
theorem dX8_adds_10 : decode cX8_adds 10 = .ok (.aload_n 0, 1) := by decide +kernel
theorem dX8_adds_11 : decode cX8_adds 11 = .ok (.getfield 9, 3) := by decide +kernel
theorem dX8_adds_14 : decode cX8_adds 14 = .ok (.bipush 7, 2) := by decide +kernel
theorem dX8_adds_16 : decode cX8_adds 16 = .ok (.aload_n 0, 1) := by decide +kernel
theorem dX8_adds_17 : decode cX8_adds 17 = .ok (.getfield 94, 3) := by decide +kernel
theorem dX8_adds_20 : decode cX8_adds 20 = .ok (.iadd, 1) := by decide +kernel
theorem dX8_adds_21 : decode cX8_adds 21 = .ok (.iload_n 2, 1) := by decide +kernel
theorem dX8_adds_22 : decode cX8_adds 22 = .ok (.iastore, 1) := by decide +kernel
theorem dX8_adds_23 : decode cX8_adds 23 = .ok (.aload_n 0, 1) := by decide +kernel
theorem dX8_adds_24 : decode cX8_adds 24 = .ok (.getfield 9, 3) := by decide +kernel
theorem dX8_adds_27 : decode cX8_adds 27 = .ok (.bipush 14, 2) := by decide +kernel
theorem dX8_adds_29 : decode cX8_adds 29 = .ok (.aload_n 0, 1) := by decide +kernel
theorem dX8_adds_30 : decode cX8_adds 30 = .ok (.getfield 94, 3) := by decide +kernel
theorem dX8_adds_33 : decode cX8_adds 33 = .ok (.iadd, 1) := by decide +kernel
theorem dX8_adds_34 : decode cX8_adds 34 = .ok (.iload_n 3, 1) := by decide +kernel
theorem dX8_adds_35 : decode cX8_adds 35 = .ok (.iastore, 1) := by decide +kernel
theorem dX8_adds_36 : decode cX8_adds 36 = .ok (.aload_n 0, 1) := by decide +kernel
theorem dX8_adds_37 : decode cX8_adds 37 = .ok (.dup, 1) := by decide +kernel
theorem dX8_adds_38 : decode cX8_adds 38 = .ok (.getfield 94, 3) := by decide +kernel
theorem dX8_adds_41 : decode cX8_adds 41 = .ok (.iconst 1, 1) := by decide +kernel
theorem dX8_adds_42 : decode cX8_adds 42 = .ok (.iadd, 1) := by decide +kernel
theorem dX8_adds_43 : decode cX8_adds 43 = .ok (.putfield 94, 3) := by decide +kernel
theorem dX8_adds_46 : decode cX8_adds 46 = .ok (.return_, 1) := by decide +kernel
set_option maxRecDepth 20000 in
theorem ggX8_world_X8_isOne : GoodIn wsX8_world wsX8_isOne := goodIn_r _ [5, 6, 7, 8, 9, 4, 10] (by decide +kernel) (by decide +kernel)
set_option maxRecDepth 20000 in
theorem gX8_world_X8_isOne : GoodIn wsX8_world (va_wsS RX8 111 yX8_isOne wsX8_isOne) := goodIn_app (goodIn_of _ (by decide +kernel)) ggX8_world_X8_isOne
set_option maxRecDepth 20000 in
theorem ggX8_world_X8_adds : GoodIn wsX8_world wsX8_adds := goodIn_r _ [14, 15, 1, 16, 17, 18, 19, 20, 21, 22, 23, 24, 25, 26, 27, 28, 29, 30, 31, 32, 33, 34, 35, 36, 37, 38, 39, 40, 41, 42, 43, 44, 45, 46, 47, 48, 49, 50, 51, 52, 53, 54, 55, 56, 57, 58, 59, 60, 61, 62, 63] (by decide +kernel) (by decide +kernel)
set_option maxRecDepth 20000 in
theorem gX8_world_X8_adds : GoodIn wsX8_world (wsV RX8 114 RX8 yX8_adds wsX8_adds) := goodIn_app (goodIn_of _ (by decide +kernel)) ggX8_world_X8_adds
theorem dX8_world_0 : decode cX8_world 0 = .ok (.iload_n 1, 1) := by decide +kernel
theorem dX8_world_1 : decode cX8_world 1 = .ok (.ifCond .lt 21, 3) := by decide +kernel
theorem dX8_world_4 : decode cX8_world 4 = .ok (.iload_n 1, 1) := by decide +kernel
theorem dX8_world_5 : decode cX8_world 5 = .ok (.bipush 100, 2) := by decide +kernel
theorem dX8_world_7 : decode cX8_world 7 = .ok (.idiv, 1) := by decide +kernel
theorem dX8_world_8 : decode cX8_world 8 = .ok (.i2l, 1) := by decide +kernel
theorem dX8_world_9 : decode cX8_world 9 = .ok (.iload_n 1, 1) := by decide +kernel
theorem dX8_world_10 : decode cX8_world 10 = .ok (.bipush 100, 2) := by decide +kernel
theorem dX8_world_12 : decode cX8_world 12 = .ok (.irem, 1) := by decide +kernel
theorem dX8_world_13 : decode cX8_world 13 = .ok (.i2l, 1) := by decide +kernel
theorem dX8_world_14 : decode cX8_world 14 = .ok (.iload_n 2, 1) := by decide +kernel
theorem dX8_world_15 : decode cX8_world 15 = .ok (.i2l, 1) := by decide +kernel
theorem dX8_world_16 : decode cX8_world 16 = .ok (.invokestatic 111, 3) := by decide +kernel
theorem dX8_world_19 : decode cX8_world 19 = .ok (.ifCond .ne 5, 3) := by decide +kernel
theorem dX8_world_22 : decode cX8_world 22 = .ok (.iconst (-1), 1) := by decide +kernel
theorem dX8_world_23 : decode cX8_world 23 = .ok (.ireturn, 1) := by decide +kernel
theorem dX8_world_24 : decode cX8_world 24 = .ok (.aload_n 0, 1) := by decide +kernel
theorem dX8_world_25 : decode cX8_world 25 = .ok (.getfield 94, 3) := by decide +kernel
theorem dX8_world_28 : decode cX8_world 28 = .ok (.bipush 6, 2) := by decide +kernel
theorem dX8_world_30 : decode cX8_world 30 = .ok (.if_icmp .ne 6, 3) := by decide +kernel
theorem dX8_world_33 : decode cX8_world 33 = .ok (.bipush (-3), 2) := by decide +kernel
theorem dX8_world_35 : decode cX8_world 35 = .ok (.ireturn, 1) := by decide +kernel
theorem dX8_world_36 : decode cX8_world 36 = .ok (.aload_n 0, 1) := by decide +kernel
theorem dX8_world_37 : decode cX8_world 37 = .ok (.iload_n 1, 1) := by decide +kernel
theorem dX8_world_38 : decode cX8_world 38 = .ok (.bipush 100, 2) := by decide +kernel
theorem dX8_world_40 : decode cX8_world 40 = .ok (.idiv, 1) := by decide +kernel
theorem dX8_world_41 : decode cX8_world 41 = .ok (.iload_n 1, 1) := by decide +kernel
theorem dX8_world_42 : decode cX8_world 42 = .ok (.bipush 100, 2) := by decide +kernel
theorem dX8_world_44 : decode cX8_world 44 = .ok (.irem, 1) := by decide +kernel
theorem dX8_world_45 : decode cX8_world 45 = .ok (.iload_n 2, 1) := by decide +kernel
theorem dX8_world_46 : decode cX8_world 46 = .ok (.invokevirtual 114, 3) := by decide +kernel
theorem dX8_world_49 : decode cX8_world 49 = .ok (.aload_n 0, 1) := by decide +kernel
theorem dX8_world_50 : decode cX8_world 50 = .ok (.getfield 94, 3) := by decide +kernel
theorem dX8_world_53 : decode cX8_world 53 = .ok (.iconst 1, 1) := by decide +kernel
theorem dX8_world_54 : decode cX8_world 54 = .ok (.isub, 1) := by decide +kernel
theorem dX8_world_55 : decode cX8_world 55 = .ok (.ireturn, 1) := by decide +kernel
set_option maxRecDepth 20000 in
theorem ggX8_worlds_X8_isShelf : GoodIn wsX8_worlds wsX8_isShelf := goodIn_r _ [9, 10, 11, 12, 8, 13] (by decide +kernel) (by decide +kernel)
set_option maxRecDepth 20000 in
theorem gX8_worlds_X8_isShelf : GoodIn wsX8_worlds (va_wsS RX8 118 yX8_isShelf wsX8_isShelf) := goodIn_app (goodIn_of _ (by decide +kernel)) ggX8_worlds_X8_isShelf
set_option maxRecDepth 20000 in
theorem ggX8_worlds_X8_within : GoodIn wsX8_worlds wsX8_within := goodIn_r _ [13] (by decide +kernel) (by decide +kernel)
set_option maxRecDepth 20000 in
theorem gX8_worlds_X8_within : GoodIn wsX8_worlds (va_wsS RX8 97 yX8_within wsX8_within) := goodIn_app (goodIn_of _ (by decide +kernel)) ggX8_worlds_X8_within
set_option maxRecDepth 20000 in
theorem ggX8_worlds_X8_isOne : GoodIn wsX8_worlds wsX8_isOne := goodIn_r _ [16, 17, 18, 11, 12, 8, 13] (by decide +kernel) (by decide +kernel)
set_option maxRecDepth 20000 in
theorem gX8_worlds_X8_isOne : GoodIn wsX8_worlds (va_wsS RX8 111 yX8_isOne wsX8_isOne) := goodIn_app (goodIn_of _ (by decide +kernel)) ggX8_worlds_X8_isOne
set_option maxRecDepth 20000 in
theorem ggX8_worlds_X8_adds : GoodIn wsX8_worlds wsX8_adds := goodIn_r _ [22, 23, 4, 24, 25, 26, 27, 28, 29, 30, 31, 32, 33, 34, 35, 36, 37, 38, 39, 40, 41, 42, 43, 44, 45, 46, 47, 48, 49, 50, 51, 52, 53, 54, 55, 56, 57, 58, 59, 60, 61, 62, 63, 64, 65, 66, 67, 68, 69, 70, 71] (by decide +kernel) (by decide +kernel)
set_option maxRecDepth 20000 in
theorem gX8_worlds_X8_adds : GoodIn wsX8_worlds (wsV RX8 114 RX8 yX8_adds wsX8_adds) := goodIn_app (goodIn_of _ (by decide +kernel)) ggX8_worlds_X8_adds
theorem dX8_worlds_0 : decode cX8_worlds 0 = .ok (.iload_n 1, 1) := by decide +kernel
theorem dX8_worlds_1 : decode cX8_worlds 1 = .ok (.invokestatic 118, 3) := by decide +kernel
theorem dX8_worlds_4 : decode cX8_worlds 4 = .ok (.ifCond .eq 15, 3) := by decide +kernel
theorem dX8_worlds_7 : decode cX8_worlds 7 = .ok (.iload_n 3, 1) := by decide +kernel
theorem dX8_worlds_8 : decode cX8_worlds 8 = .ok (.i2l, 1) := by decide +kernel
theorem dX8_worlds_9 : decode cX8_worlds 9 = .ok (.lconst 1, 1) := by decide +kernel
theorem dX8_worlds_10 : decode cX8_worlds 10 = .ok (.ldc2_w 121, 3) := by decide +kernel
theorem dX8_worlds_13 : decode cX8_worlds 13 = .ok (.invokestatic 97, 3) := by decide +kernel
theorem dX8_worlds_16 : decode cX8_worlds 16 = .ok (.ifCond .ne 5, 3) := by decide +kernel
theorem dX8_worlds_19 : decode cX8_worlds 19 = .ok (.iconst (-1), 1) := by decide +kernel
theorem dX8_worlds_20 : decode cX8_worlds 20 = .ok (.ireturn, 1) := by decide +kernel
theorem dX8_worlds_21 : decode cX8_worlds 21 = .ok (.aload_n 0, 1) := by decide +kernel
theorem dX8_worlds_22 : decode cX8_worlds 22 = .ok (.getfield 71, 3) := by decide +kernel
theorem dX8_worlds_25 : decode cX8_worlds 25 = .ok (.iload_n 1, 1) := by decide +kernel
theorem dX8_worlds_26 : decode cX8_worlds 26 = .ok (.iaload, 1) := by decide +kernel
theorem dX8_worlds_27 : decode cX8_worlds 27 = .ok (.ifCond .lt 17, 3) := by decide +kernel
theorem dX8_worlds_30 : decode cX8_worlds 30 = .ok (.aload_n 0, 1) := by decide +kernel
theorem dX8_worlds_31 : decode cX8_worlds 31 = .ok (.getfield 71, 3) := by decide +kernel
theorem dX8_worlds_34 : decode cX8_worlds 34 = .ok (.iload_n 1, 1) := by decide +kernel
theorem dX8_worlds_35 : decode cX8_worlds 35 = .ok (.iaload, 1) := by decide +kernel
theorem dX8_worlds_36 : decode cX8_worlds 36 = .ok (.bipush 50, 2) := by decide +kernel
theorem dX8_worlds_38 : decode cX8_worlds 38 = .ok (.if_icmp .eq 6, 3) := by decide +kernel
theorem dX8_worlds_41 : decode cX8_worlds 41 = .ok (.bipush (-12), 2) := by decide +kernel
theorem dX8_worlds_43 : decode cX8_worlds 43 = .ok (.ireturn, 1) := by decide +kernel
theorem dX8_worlds_44 : decode cX8_worlds 44 = .ok (.iconst 0, 1) := by decide +kernel
theorem dX8_worlds_45 : decode cX8_worlds 45 = .ok (.istore 4, 2) := by decide +kernel
theorem dX8_worlds_47 : decode cX8_worlds 47 = .ok (.aload_n 0, 1) := by decide +kernel
theorem dX8_worlds_48 : decode cX8_worlds 48 = .ok (.getfield 71, 3) := by decide +kernel
theorem dX8_worlds_51 : decode cX8_worlds 51 = .ok (.iload_n 1, 1) := by decide +kernel
theorem dX8_worlds_52 : decode cX8_worlds 52 = .ok (.iaload, 1) := by decide +kernel
theorem dX8_worlds_53 : decode cX8_worlds 53 = .ok (.bipush 50, 2) := by decide +kernel
theorem dX8_worlds_55 : decode cX8_worlds 55 = .ok (.if_icmp .ne 11, 3) := by decide +kernel
theorem dX8_worlds_58 : decode cX8_worlds 58 = .ok (.iload_n 2, 1) := by decide +kernel
theorem dX8_worlds_59 : decode cX8_worlds 59 = .ok (.ifCond .lt 7, 3) := by decide +kernel
theorem dX8_worlds_62 : decode cX8_worlds 62 = .ok (.iconst 1, 1) := by decide +kernel
theorem dX8_worlds_63 : decode cX8_worlds 63 = .ok (.goto 4, 3) := by decide +kernel
theorem dX8_worlds_66 : decode cX8_worlds 66 = .ok (.iconst 0, 1) := by decide +kernel
theorem dX8_worlds_67 : decode cX8_worlds 67 = .ok (.istore 5, 2) := by decide +kernel
theorem dX8_worlds_69 : decode cX8_worlds 69 = .ok (.iload 5, 2) := by decide +kernel
theorem dX8_worlds_71 : decode cX8_worlds 71 = .ok (.ifCond .eq 141, 3) := by decide +kernel
theorem dX8_worlds_74 : decode cX8_worlds 74 = .ok (.iload 4, 2) := by decide +kernel
theorem dX8_worlds_76 : decode cX8_worlds 76 = .ok (.iload_n 3, 1) := by decide +kernel
theorem dX8_worlds_77 : decode cX8_worlds 77 = .ok (.if_icmp .ge 135, 3) := by decide +kernel
theorem dX8_worlds_80 : decode cX8_worlds 80 = .ok (.iload_n 2, 1) := by decide +kernel
theorem dX8_worlds_81 : decode cX8_worlds 81 = .ok (.aload_n 0, 1) := by decide +kernel
theorem dX8_worlds_82 : decode cX8_worlds 82 = .ok (.getfield 74, 3) := by decide +kernel
theorem dX8_worlds_85 : decode cX8_worlds 85 = .ok (.iload_n 1, 1) := by decide +kernel
theorem dX8_worlds_86 : decode cX8_worlds 86 = .ok (.iaload, 1) := by decide +kernel
theorem dX8_worlds_87 : decode cX8_worlds 87 = .ok (.iconst 3, 1) := by decide +kernel
theorem dX8_worlds_88 : decode cX8_worlds 88 = .ok (.isub, 1) := by decide +kernel
theorem dX8_worlds_89 : decode cX8_worlds 89 = .ok (.iconst 3, 1) := by decide +kernel
theorem dX8_worlds_90 : decode cX8_worlds 90 = .ok (.iload 4, 2) := by decide +kernel
theorem dX8_worlds_92 : decode cX8_worlds 92 = .ok (.imul, 1) := by decide +kernel
theorem dX8_worlds_93 : decode cX8_worlds 93 = .ok (.isub, 1) := by decide +kernel
theorem dX8_worlds_94 : decode cX8_worlds 94 = .ok (.if_icmp .gt 16, 3) := by decide +kernel
theorem dX8_worlds_97 : decode cX8_worlds 97 = .ok (.aload_n 0, 1) := by decide +kernel
theorem dX8_worlds_98 : decode cX8_worlds 98 = .ok (.getfield 94, 3) := by decide +kernel
theorem dX8_worlds_101 : decode cX8_worlds 101 = .ok (.bipush 6, 2) := by decide +kernel
theorem dX8_worlds_103 : decode cX8_worlds 103 = .ok (.if_icmp .ge 7, 3) := by decide +kernel
theorem dX8_worlds_106 : decode cX8_worlds 106 = .ok (.iconst 1, 1) := by decide +kernel
theorem dX8_worlds_107 : decode cX8_worlds 107 = .ok (.goto 4, 3) := by decide +kernel
theorem dX8_worlds_110 : decode cX8_worlds 110 = .ok (.iconst 0, 1) := by decide +kernel
theorem dX8_worlds_111 : decode cX8_worlds 111 = .ok (.istore 5, 2) := by decide +kernel
theorem dX8_worlds_113 : decode cX8_worlds 113 = .ok (.bipush 60, 2) := by decide +kernel
theorem dX8_worlds_115 : decode cX8_worlds 115 = .ok (.iload_n 1, 1) := by decide +kernel
theorem dX8_worlds_116 : decode cX8_worlds 116 = .ok (.imul, 1) := by decide +kernel
theorem dX8_worlds_117 : decode cX8_worlds 117 = .ok (.iload_n 2, 1) := by decide +kernel
theorem dX8_worlds_118 : decode cX8_worlds 118 = .ok (.iadd, 1) := by decide +kernel
theorem dX8_worlds_119 : decode cX8_worlds 119 = .ok (.iconst 3, 1) := by decide +kernel
theorem dX8_worlds_120 : decode cX8_worlds 120 = .ok (.iload 4, 2) := by decide +kernel
theorem dX8_worlds_122 : decode cX8_worlds 122 = .ok (.imul, 1) := by decide +kernel
theorem dX8_worlds_123 : decode cX8_worlds 123 = .ok (.iadd, 1) := by decide +kernel
theorem dX8_worlds_124 : decode cX8_worlds 124 = .ok (.istore 6, 2) := by decide +kernel
theorem dX8_worlds_126 : decode cX8_worlds 126 = .ok (.iload 5, 2) := by decide +kernel
theorem dX8_worlds_128 : decode cX8_worlds 128 = .ok (.ifCond .eq 38, 3) := by decide +kernel
theorem dX8_worlds_131 : decode cX8_worlds 131 = .ok (.aload_n 0, 1) := by decide +kernel
theorem dX8_worlds_132 : decode cX8_worlds 132 = .ok (.getfield 77, 3) := by decide +kernel
theorem dX8_worlds_135 : decode cX8_worlds 135 = .ok (.iload 6, 2) := by decide +kernel
theorem dX8_worlds_137 : decode cX8_worlds 137 = .ok (.laload, 1) := by decide +kernel
theorem dX8_worlds_138 : decode cX8_worlds 138 = .ok (.aload_n 0, 1) := by decide +kernel
theorem dX8_worlds_139 : decode cX8_worlds 139 = .ok (.getfield 77, 3) := by decide +kernel
theorem dX8_worlds_142 : decode cX8_worlds 142 = .ok (.iload 6, 2) := by decide +kernel
theorem dX8_worlds_144 : decode cX8_worlds 144 = .ok (.iconst 1, 1) := by decide +kernel
theorem dX8_worlds_145 : decode cX8_worlds 145 = .ok (.iadd, 1) := by decide +kernel
theorem dX8_worlds_146 : decode cX8_worlds 146 = .ok (.laload, 1) := by decide +kernel
theorem dX8_worlds_147 : decode cX8_worlds 147 = .ok (.aload_n 0, 1) := by decide +kernel
theorem dX8_worlds_148 : decode cX8_worlds 148 = .ok (.getfield 77, 3) := by decide +kernel
theorem dX8_worlds_151 : decode cX8_worlds 151 = .ok (.iload 6, 2) := by decide +kernel
theorem dX8_worlds_153 : decode cX8_worlds 153 = .ok (.iconst 2, 1) := by decide +kernel
theorem dX8_worlds_154 : decode cX8_worlds 154 = .ok (.iadd, 1) := by decide +kernel
theorem dX8_worlds_155 : decode cX8_worlds 155 = .ok (.laload, 1) := by decide +kernel
theorem dX8_worlds_156 : decode cX8_worlds 156 = .ok (.invokestatic 111, 3) := by decide +kernel
theorem dX8_worlds_159 : decode cX8_worlds 159 = .ok (.ifCond .eq 7, 3) := by decide +kernel
theorem dX8_worlds_162 : decode cX8_worlds 162 = .ok (.iconst 1, 1) := by decide +kernel
theorem dX8_worlds_163 : decode cX8_worlds 163 = .ok (.goto 4, 3) := by decide +kernel
theorem dX8_worlds_166 : decode cX8_worlds 166 = .ok (.iconst 0, 1) := by decide +kernel
theorem dX8_worlds_167 : decode cX8_worlds 167 = .ok (.istore 5, 2) := by decide +kernel
theorem dX8_worlds_169 : decode cX8_worlds 169 = .ok (.iload 5, 2) := by decide +kernel
theorem dX8_worlds_171 : decode cX8_worlds 171 = .ok (.ifCond .eq 38, 3) := by decide +kernel
theorem dX8_worlds_174 : decode cX8_worlds 174 = .ok (.aload_n 0, 1) := by decide +kernel
theorem dX8_worlds_175 : decode cX8_worlds 175 = .ok (.aload_n 0, 1) := by decide +kernel
theorem dX8_worlds_176 : decode cX8_worlds 176 = .ok (.getfield 77, 3) := by decide +kernel
theorem dX8_worlds_179 : decode cX8_worlds 179 = .ok (.iload 6, 2) := by decide +kernel
theorem dX8_worlds_181 : decode cX8_worlds 181 = .ok (.laload, 1) := by decide +kernel
theorem dX8_worlds_182 : decode cX8_worlds 182 = .ok (.l2i, 1) := by decide +kernel
theorem dX8_worlds_183 : decode cX8_worlds 183 = .ok (.aload_n 0, 1) := by decide +kernel
theorem dX8_worlds_184 : decode cX8_worlds 184 = .ok (.getfield 77, 3) := by decide +kernel
theorem dX8_worlds_187 : decode cX8_worlds 187 = .ok (.iload 6, 2) := by decide +kernel
theorem dX8_worlds_189 : decode cX8_worlds 189 = .ok (.iconst 1, 1) := by decide +kernel
theorem dX8_worlds_190 : decode cX8_worlds 190 = .ok (.iadd, 1) := by decide +kernel
theorem dX8_worlds_191 : decode cX8_worlds 191 = .ok (.laload, 1) := by decide +kernel
theorem dX8_worlds_192 : decode cX8_worlds 192 = .ok (.l2i, 1) := by decide +kernel
theorem dX8_worlds_193 : decode cX8_worlds 193 = .ok (.aload_n 0, 1) := by decide +kernel
theorem dX8_worlds_194 : decode cX8_worlds 194 = .ok (.getfield 77, 3) := by decide +kernel
theorem dX8_worlds_197 : decode cX8_worlds 197 = .ok (.iload 6, 2) := by decide +kernel
theorem dX8_worlds_199 : decode cX8_worlds 199 = .ok (.iconst 2, 1) := by decide +kernel
theorem dX8_worlds_200 : decode cX8_worlds 200 = .ok (.iadd, 1) := by decide +kernel
theorem dX8_worlds_201 : decode cX8_worlds 201 = .ok (.laload, 1) := by decide +kernel
theorem dX8_worlds_202 : decode cX8_worlds 202 = .ok (.l2i, 1) := by decide +kernel
theorem dX8_worlds_203 : decode cX8_worlds 203 = .ok (.invokevirtual 114, 3) := by decide +kernel
theorem dX8_worlds_206 : decode cX8_worlds 206 = .ok (.iinc 4 1, 3) := by decide +kernel
theorem dX8_worlds_209 : decode cX8_worlds 209 = .ok (.goto (-140), 3) := by decide +kernel
theorem dX8_worlds_212 : decode cX8_worlds 212 = .ok (.iload 4, 2) := by decide +kernel
theorem dX8_worlds_214 : decode cX8_worlds 214 = .ok (.ireturn, 1) := by decide +kernel
set_option maxRecDepth 20000 in
theorem ggX8_mend_X8_isWorld : GoodIn wsX8_mend wsX8_isWorld := goodIn_r _ [10, 11, 12, 13, 9, 14, 24, 25, 26, 27, 28, 29, 30, 31, 32, 33, 34, 35, 36, 37, 38, 39, 40, 41, 42, 43, 44, 45, 46, 47, 48, 49, 50, 51, 52, 53, 54, 55, 56, 57, 58, 59, 60, 61, 62, 63, 64, 65, 66, 67, 68, 69, 70, 71] (by decide +kernel) (by decide +kernel)
set_option maxRecDepth 20000 in
theorem gX8_mend_X8_isWorld : GoodIn wsX8_mend (wsV RX8 101 RX8 yX8_isWorld wsX8_isWorld) := goodIn_app (goodIn_of _ (by decide +kernel)) ggX8_mend_X8_isWorld
set_option maxRecDepth 20000 in
theorem ggX8_mend_X8_within : GoodIn wsX8_mend wsX8_within := goodIn_r _ [14] (by decide +kernel) (by decide +kernel)
set_option maxRecDepth 20000 in
theorem gX8_mend_X8_within : GoodIn wsX8_mend (va_wsS RX8 97 yX8_within wsX8_within) := goodIn_app (goodIn_of _ (by decide +kernel)) ggX8_mend_X8_within
set_option maxRecDepth 20000 in
theorem ggX8_mend_X8_becomes : GoodIn wsX8_mend wsX8_becomes := goodIn_r _ [18, 2, 19, 20, 21, 22, 23, 24, 25, 26, 27, 28, 29, 30, 31, 32, 33, 34, 35, 36, 37, 38, 39, 40, 41, 42, 43, 44, 45, 46, 47, 48, 49, 50, 51, 52, 53, 54, 55, 56, 57, 58, 59, 60, 61, 62, 63, 64, 65, 66, 67, 68, 69, 70, 71] (by decide +kernel) (by decide +kernel)
set_option maxRecDepth 20000 in
theorem gX8_mend_X8_becomes : GoodIn wsX8_mend (wsV RX8 123 RX8 yX8_becomes wsX8_becomes) := goodIn_app (goodIn_of _ (by decide +kernel)) ggX8_mend_X8_becomes
theorem dX8_mend_0 : decode cX8_mend 0 = .ok (.iload_n 2, 1) := by decide +kernel
theorem dX8_mend_1 : decode cX8_mend 1 = .ok (.tableswitch 196 0 4 #[35, 66, 106, 140, 168], 35) := by decide +kernel
theorem dX8_mend_36 : decode cX8_mend 36 = .ok (.aload_n 0, 1) := by decide +kernel
theorem dX8_mend_37 : decode cX8_mend 37 = .ok (.iload_n 1, 1) := by decide +kernel
theorem dX8_mend_38 : decode cX8_mend 38 = .ok (.invokevirtual 101, 3) := by decide +kernel
theorem dX8_mend_41 : decode cX8_mend 41 = .ok (.ifCond .eq 24, 3) := by decide +kernel
theorem dX8_mend_44 : decode cX8_mend 44 = .ok (.iload_n 3, 1) := by decide +kernel
theorem dX8_mend_45 : decode cX8_mend 45 = .ok (.i2l, 1) := by decide +kernel
theorem dX8_mend_46 : decode cX8_mend 46 = .ok (.lconst 1, 1) := by decide +kernel
theorem dX8_mend_47 : decode cX8_mend 47 = .ok (.ldc2_w 107, 3) := by decide +kernel
theorem dX8_mend_50 : decode cX8_mend 50 = .ok (.invokestatic 97, 3) := by decide +kernel
theorem dX8_mend_53 : decode cX8_mend 53 = .ok (.ifCond .eq 12, 3) := by decide +kernel
theorem dX8_mend_56 : decode cX8_mend 56 = .ok (.aload_n 0, 1) := by decide +kernel
theorem dX8_mend_57 : decode cX8_mend 57 = .ok (.iload_n 1, 1) := by decide +kernel
theorem dX8_mend_58 : decode cX8_mend 58 = .ok (.iload_n 3, 1) := by decide +kernel
theorem dX8_mend_59 : decode cX8_mend 59 = .ok (.invokevirtual 123, 3) := by decide +kernel
theorem dX8_mend_62 : decode cX8_mend 62 = .ok (.goto 4, 3) := by decide +kernel
theorem dX8_mend_65 : decode cX8_mend 65 = .ok (.iconst (-1), 1) := by decide +kernel
theorem dX8_mend_66 : decode cX8_mend 66 = .ok (.ireturn, 1) := by decide +kernel
theorem dX8_mend_67 : decode cX8_mend 67 = .ok (.aload_n 0, 1) := by decide +kernel
theorem dX8_mend_68 : decode cX8_mend 68 = .ok (.iload_n 1, 1) := by decide +kernel
theorem dX8_mend_69 : decode cX8_mend 69 = .ok (.invokevirtual 101, 3) := by decide +kernel
theorem dX8_mend_72 : decode cX8_mend 72 = .ok (.ifCond .eq 33, 3) := by decide +kernel
theorem dX8_mend_75 : decode cX8_mend 75 = .ok (.iload_n 3, 1) := by decide +kernel
theorem dX8_mend_76 : decode cX8_mend 76 = .ok (.i2l, 1) := by decide +kernel
theorem dX8_mend_77 : decode cX8_mend 77 = .ok (.lconst 0, 1) := by decide +kernel
theorem dX8_mend_78 : decode cX8_mend 78 = .ok (.aload_n 0, 1) := by decide +kernel
theorem dX8_mend_79 : decode cX8_mend 79 = .ok (.getfield 9, 3) := by decide +kernel
theorem dX8_mend_82 : decode cX8_mend 82 = .ok (.iload_n 1, 1) := by decide +kernel
theorem dX8_mend_83 : decode cX8_mend 83 = .ok (.iaload, 1) := by decide +kernel
theorem dX8_mend_84 : decode cX8_mend 84 = .ok (.iconst 1, 1) := by decide +kernel
theorem dX8_mend_85 : decode cX8_mend 85 = .ok (.isub, 1) := by decide +kernel
theorem dX8_mend_86 : decode cX8_mend 86 = .ok (.i2l, 1) := by decide +kernel
theorem dX8_mend_87 : decode cX8_mend 87 = .ok (.invokestatic 97, 3) := by decide +kernel
theorem dX8_mend_90 : decode cX8_mend 90 = .ok (.ifCond .eq 15, 3) := by decide +kernel
theorem dX8_mend_93 : decode cX8_mend 93 = .ok (.aload_n 0, 1) := by decide +kernel
theorem dX8_mend_94 : decode cX8_mend 94 = .ok (.bipush 7, 2) := by decide +kernel
theorem dX8_mend_96 : decode cX8_mend 96 = .ok (.iload_n 1, 1) := by decide +kernel
theorem dX8_mend_97 : decode cX8_mend 97 = .ok (.iadd, 1) := by decide +kernel
theorem dX8_mend_98 : decode cX8_mend 98 = .ok (.iload_n 3, 1) := by decide +kernel
theorem dX8_mend_99 : decode cX8_mend 99 = .ok (.invokevirtual 123, 3) := by decide +kernel
theorem dX8_mend_102 : decode cX8_mend 102 = .ok (.goto 4, 3) := by decide +kernel
theorem dX8_mend_105 : decode cX8_mend 105 = .ok (.iconst (-1), 1) := by decide +kernel
theorem dX8_mend_106 : decode cX8_mend 106 = .ok (.ireturn, 1) := by decide +kernel
theorem dX8_mend_107 : decode cX8_mend 107 = .ok (.aload_n 0, 1) := by decide +kernel
theorem dX8_mend_108 : decode cX8_mend 108 = .ok (.iload_n 1, 1) := by decide +kernel
theorem dX8_mend_109 : decode cX8_mend 109 = .ok (.invokevirtual 101, 3) := by decide +kernel
theorem dX8_mend_112 : decode cX8_mend 112 = .ok (.ifCond .eq 27, 3) := by decide +kernel
theorem dX8_mend_115 : decode cX8_mend 115 = .ok (.iload_n 3, 1) := by decide +kernel
theorem dX8_mend_116 : decode cX8_mend 116 = .ok (.i2l, 1) := by decide +kernel
theorem dX8_mend_117 : decode cX8_mend 117 = .ok (.lconst 1, 1) := by decide +kernel
theorem dX8_mend_118 : decode cX8_mend 118 = .ok (.ldc2_w 109, 3) := by decide +kernel
theorem dX8_mend_121 : decode cX8_mend 121 = .ok (.invokestatic 97, 3) := by decide +kernel
theorem dX8_mend_124 : decode cX8_mend 124 = .ok (.ifCond .eq 15, 3) := by decide +kernel
theorem dX8_mend_127 : decode cX8_mend 127 = .ok (.aload_n 0, 1) := by decide +kernel
theorem dX8_mend_128 : decode cX8_mend 128 = .ok (.bipush 14, 2) := by decide +kernel
theorem dX8_mend_130 : decode cX8_mend 130 = .ok (.iload_n 1, 1) := by decide +kernel
theorem dX8_mend_131 : decode cX8_mend 131 = .ok (.iadd, 1) := by decide +kernel
theorem dX8_mend_132 : decode cX8_mend 132 = .ok (.iload_n 3, 1) := by decide +kernel
theorem dX8_mend_133 : decode cX8_mend 133 = .ok (.invokevirtual 123, 3) := by decide +kernel
theorem dX8_mend_136 : decode cX8_mend 136 = .ok (.goto 4, 3) := by decide +kernel
theorem dX8_mend_139 : decode cX8_mend 139 = .ok (.iconst (-1), 1) := by decide +kernel
theorem dX8_mend_140 : decode cX8_mend 140 = .ok (.ireturn, 1) := by decide +kernel
theorem dX8_mend_141 : decode cX8_mend 141 = .ok (.iload_n 1, 1) := by decide +kernel
theorem dX8_mend_142 : decode cX8_mend 142 = .ok (.ifCond .ne 25, 3) := by decide +kernel
theorem dX8_mend_145 : decode cX8_mend 145 = .ok (.iload_n 3, 1) := by decide +kernel
theorem dX8_mend_146 : decode cX8_mend 146 = .ok (.i2l, 1) := by decide +kernel
theorem dX8_mend_147 : decode cX8_mend 147 = .ok (.lconst 0, 1) := by decide +kernel
theorem dX8_mend_148 : decode cX8_mend 148 = .ok (.ldc2_w 127, 3) := by decide +kernel
theorem dX8_mend_151 : decode cX8_mend 151 = .ok (.invokestatic 97, 3) := by decide +kernel
theorem dX8_mend_154 : decode cX8_mend 154 = .ok (.ifCond .eq 13, 3) := by decide +kernel
theorem dX8_mend_157 : decode cX8_mend 157 = .ok (.aload_n 0, 1) := by decide +kernel
theorem dX8_mend_158 : decode cX8_mend 158 = .ok (.bipush 21, 2) := by decide +kernel
theorem dX8_mend_160 : decode cX8_mend 160 = .ok (.iload_n 3, 1) := by decide +kernel
theorem dX8_mend_161 : decode cX8_mend 161 = .ok (.invokevirtual 123, 3) := by decide +kernel
theorem dX8_mend_164 : decode cX8_mend 164 = .ok (.goto 4, 3) := by decide +kernel
theorem dX8_mend_167 : decode cX8_mend 167 = .ok (.iconst (-1), 1) := by decide +kernel
theorem dX8_mend_168 : decode cX8_mend 168 = .ok (.ireturn, 1) := by decide +kernel
theorem dX8_mend_169 : decode cX8_mend 169 = .ok (.iload_n 1, 1) := by decide +kernel
theorem dX8_mend_170 : decode cX8_mend 170 = .ok (.ifCond .ne 25, 3) := by decide +kernel
theorem dX8_mend_173 : decode cX8_mend 173 = .ok (.iload_n 3, 1) := by decide +kernel
theorem dX8_mend_174 : decode cX8_mend 174 = .ok (.i2l, 1) := by decide +kernel
theorem dX8_mend_175 : decode cX8_mend 175 = .ok (.lconst 0, 1) := by decide +kernel
theorem dX8_mend_176 : decode cX8_mend 176 = .ok (.ldc2_w 129, 3) := by decide +kernel
theorem dX8_mend_179 : decode cX8_mend 179 = .ok (.invokestatic 97, 3) := by decide +kernel
theorem dX8_mend_182 : decode cX8_mend 182 = .ok (.ifCond .eq 13, 3) := by decide +kernel
theorem dX8_mend_185 : decode cX8_mend 185 = .ok (.aload_n 0, 1) := by decide +kernel
theorem dX8_mend_186 : decode cX8_mend 186 = .ok (.bipush 22, 2) := by decide +kernel
theorem dX8_mend_188 : decode cX8_mend 188 = .ok (.iload_n 3, 1) := by decide +kernel
theorem dX8_mend_189 : decode cX8_mend 189 = .ok (.invokevirtual 123, 3) := by decide +kernel
theorem dX8_mend_192 : decode cX8_mend 192 = .ok (.goto 4, 3) := by decide +kernel
theorem dX8_mend_195 : decode cX8_mend 195 = .ok (.iconst (-1), 1) := by decide +kernel
theorem dX8_mend_196 : decode cX8_mend 196 = .ok (.ireturn, 1) := by decide +kernel
theorem dX8_mend_197 : decode cX8_mend 197 = .ok (.iconst (-1), 1) := by decide +kernel
theorem dX8_mend_198 : decode cX8_mend 198 = .ok (.ireturn, 1) := by decide +kernel
set_option maxRecDepth 20000 in
theorem ggX8_ofWorld_X8_placeAt : GoodIn wsX8_ofWorld wsX8_placeAt := goodIn_r _ [8, 3, 9, 10, 11, 12, 13, 14, 15, 16, 17, 18, 19, 20, 21, 22, 23, 24, 25, 26, 27, 28, 29, 30, 31, 32, 33, 34, 35, 36, 37, 38, 39, 40, 41, 42, 43, 44, 45, 46, 47, 48, 49, 50, 51, 52, 53, 54, 55, 56] (by decide +kernel) (by decide +kernel)
set_option maxRecDepth 20000 in
theorem gX8_ofWorld_X8_placeAt : GoodIn wsX8_ofWorld (wsV RX8 134 RX8 yX8_placeAt wsX8_placeAt) := goodIn_app (goodIn_of _ (by decide +kernel)) ggX8_ofWorld_X8_placeAt
theorem dX8_ofWorld_0 : decode cX8_ofWorld 0 = .ok (.iload_n 2, 1) := by decide +kernel
theorem dX8_ofWorld_1 : decode cX8_ofWorld 1 = .ok (.iconst 3, 1) := by decide +kernel
theorem dX8_ofWorld_2 : decode cX8_ofWorld 2 = .ok (.if_icmp .ne 15, 3) := by decide +kernel
theorem dX8_ofWorld_5 : decode cX8_ofWorld 5 = .ok (.aload_n 0, 1) := by decide +kernel
theorem dX8_ofWorld_6 : decode cX8_ofWorld 6 = .ok (.iload_n 1, 1) := by decide +kernel
theorem dX8_ofWorld_7 : decode cX8_ofWorld 7 = .ok (.aload_n 0, 1) := by decide +kernel
theorem dX8_ofWorld_8 : decode cX8_ofWorld 8 = .ok (.getfield 131, 3) := by decide +kernel
theorem dX8_ofWorld_11 : decode cX8_ofWorld 11 = .ok (.invokevirtual 134, 3) := by decide +kernel
theorem dX8_ofWorld_14 : decode cX8_ofWorld 14 = .ok (.goto 28, 3) := by decide +kernel
theorem dX8_ofWorld_17 : decode cX8_ofWorld 17 = .ok (.iload_n 2, 1) := by decide +kernel
theorem dX8_ofWorld_18 : decode cX8_ofWorld 18 = .ok (.iconst 4, 1) := by decide +kernel
theorem dX8_ofWorld_19 : decode cX8_ofWorld 19 = .ok (.if_icmp .ne 12, 3) := by decide +kernel
theorem dX8_ofWorld_22 : decode cX8_ofWorld 22 = .ok (.aload_n 0, 1) := by decide +kernel
theorem dX8_ofWorld_23 : decode cX8_ofWorld 23 = .ok (.getfield 56, 3) := by decide +kernel
theorem dX8_ofWorld_26 : decode cX8_ofWorld 26 = .ok (.iload_n 1, 1) := by decide +kernel
theorem dX8_ofWorld_27 : decode cX8_ofWorld 27 = .ok (.iaload, 1) := by decide +kernel
theorem dX8_ofWorld_28 : decode cX8_ofWorld 28 = .ok (.goto 14, 3) := by decide +kernel
theorem dX8_ofWorld_31 : decode cX8_ofWorld 31 = .ok (.aload_n 0, 1) := by decide +kernel
theorem dX8_ofWorld_32 : decode cX8_ofWorld 32 = .ok (.getfield 9, 3) := by decide +kernel
theorem dX8_ofWorld_35 : decode cX8_ofWorld 35 = .ok (.bipush 7, 2) := by decide +kernel
theorem dX8_ofWorld_37 : decode cX8_ofWorld 37 = .ok (.iload_n 2, 1) := by decide +kernel
theorem dX8_ofWorld_38 : decode cX8_ofWorld 38 = .ok (.imul, 1) := by decide +kernel
theorem dX8_ofWorld_39 : decode cX8_ofWorld 39 = .ok (.iload_n 1, 1) := by decide +kernel
theorem dX8_ofWorld_40 : decode cX8_ofWorld 40 = .ok (.iadd, 1) := by decide +kernel
theorem dX8_ofWorld_41 : decode cX8_ofWorld 41 = .ok (.iaload, 1) := by decide +kernel
theorem dX8_ofWorld_42 : decode cX8_ofWorld 42 = .ok (.ireturn, 1) := by decide +kernel
set_option maxRecDepth 20000 in
theorem ggX8_of_X8_within : GoodIn wsX8_of wsX8_within := goodIn_r _ [12] (by decide +kernel) (by decide +kernel)
set_option maxRecDepth 20000 in
theorem gX8_of_X8_within : GoodIn wsX8_of (va_wsS RX8 97 yX8_within wsX8_within) := goodIn_app (goodIn_of _ (by decide +kernel)) ggX8_of_X8_within
set_option maxRecDepth 20000 in
theorem ggX8_of_X8_isWorld : GoodIn wsX8_of wsX8_isWorld := goodIn_r _ [16, 8, 9, 10, 11, 12, 33, 34, 35, 36, 37, 38, 39, 40, 41, 42, 43, 44, 45, 46, 47, 48, 49, 50, 51, 52, 53, 54, 55, 56, 57, 58, 59, 60, 61, 62, 63, 64, 65, 66, 67, 68, 69, 70, 71, 72, 73, 74, 75, 76, 77, 78, 79, 80] (by decide +kernel) (by decide +kernel)
set_option maxRecDepth 20000 in
theorem gX8_of_X8_isWorld : GoodIn wsX8_of (wsV RX8 101 RX8 yX8_isWorld wsX8_isWorld) := goodIn_app (goodIn_of _ (by decide +kernel)) ggX8_of_X8_isWorld
set_option maxRecDepth 20000 in
theorem ggX8_of_X8_ofWorld : GoodIn wsX8_of wsX8_ofWorld := goodIn_r _ [20, 7, 21, 6, 22, 23, 24, 11, 25, 33, 34, 35, 36, 37, 38, 39, 40, 41, 42, 43, 44, 45, 46, 47, 48, 49, 50, 51, 52, 53, 54, 55, 56, 57, 58, 59, 60, 61, 62, 63, 64, 65, 66, 67, 68, 69, 70, 71, 72, 73, 74, 75, 76, 77, 78, 79, 80] (by decide +kernel) (by decide +kernel)
set_option maxRecDepth 20000 in
theorem gX8_of_X8_ofWorld : GoodIn wsX8_of (wsV RX8 139 RX8 yX8_ofWorld wsX8_ofWorld) := goodIn_app (goodIn_of _ (by decide +kernel)) ggX8_of_X8_ofWorld
set_option maxRecDepth 20000 in
theorem ggX8_of_X8_roundOf : GoodIn wsX8_of wsX8_roundOf := goodIn_r _ [29, 6, 30, 31, 11, 32, 33, 34, 35, 36, 37, 38, 39, 40, 41, 42, 43, 44, 45, 46, 47, 48, 49, 50, 51, 52, 53, 54, 55, 56, 57, 58, 59, 60, 61, 62, 63, 64, 65, 66, 67, 68, 69, 70, 71, 72, 73, 74, 75, 76, 77, 78, 79, 80] (by decide +kernel) (by decide +kernel)
set_option maxRecDepth 20000 in
theorem gX8_of_X8_roundOf : GoodIn wsX8_of (wsV RX8 149 RX8 yX8_roundOf wsX8_roundOf) := goodIn_app (goodIn_of _ (by decide +kernel)) ggX8_of_X8_roundOf
theorem dX8_of_0 : decode cX8_of 0 = .ok (.iload_n 2, 1) := by decide +kernel
theorem dX8_of_1 : decode cX8_of 1 = .ok (.i2l, 1) := by decide +kernel
theorem dX8_of_2 : decode cX8_of 2 = .ok (.lconst 0, 1) := by decide +kernel
theorem dX8_of_3 : decode cX8_of 3 = .ok (.ldc2_w 137, 3) := by decide +kernel
theorem dX8_of_6 : decode cX8_of 6 = .ok (.invokestatic 97, 3) := by decide +kernel
theorem dX8_of_9 : decode cX8_of 9 = .ok (.ifCond .eq 22, 3) := by decide +kernel
theorem dX8_of_12 : decode cX8_of 12 = .ok (.aload_n 0, 1) := by decide +kernel
theorem dX8_of_13 : decode cX8_of 13 = .ok (.iload_n 1, 1) := by decide +kernel
theorem dX8_of_14 : decode cX8_of 14 = .ok (.invokevirtual 101, 3) := by decide +kernel
theorem dX8_of_17 : decode cX8_of 17 = .ok (.ifCond .eq 12, 3) := by decide +kernel
theorem dX8_of_20 : decode cX8_of 20 = .ok (.aload_n 0, 1) := by decide +kernel
theorem dX8_of_21 : decode cX8_of 21 = .ok (.iload_n 1, 1) := by decide +kernel
theorem dX8_of_22 : decode cX8_of 22 = .ok (.iload_n 2, 1) := by decide +kernel
theorem dX8_of_23 : decode cX8_of 23 = .ok (.invokevirtual 139, 3) := by decide +kernel
theorem dX8_of_26 : decode cX8_of 26 = .ok (.goto 4, 3) := by decide +kernel
theorem dX8_of_29 : decode cX8_of 29 = .ok (.iconst (-1), 1) := by decide +kernel
theorem dX8_of_30 : decode cX8_of 30 = .ok (.ireturn, 1) := by decide +kernel
theorem dX8_of_31 : decode cX8_of 31 = .ok (.iload_n 2, 1) := by decide +kernel
theorem dX8_of_32 : decode cX8_of 32 = .ok (.i2l, 1) := by decide +kernel
theorem dX8_of_33 : decode cX8_of 33 = .ok (.ldc2_w 142, 3) := by decide +kernel
theorem dX8_of_36 : decode cX8_of 36 = .ok (.ldc2_w 144, 3) := by decide +kernel
theorem dX8_of_39 : decode cX8_of 39 = .ok (.invokestatic 97, 3) := by decide +kernel
theorem dX8_of_42 : decode cX8_of 42 = .ok (.ifCond .eq 37, 3) := by decide +kernel
theorem dX8_of_45 : decode cX8_of 45 = .ok (.iload_n 1, 1) := by decide +kernel
theorem dX8_of_46 : decode cX8_of 46 = .ok (.i2l, 1) := by decide +kernel
theorem dX8_of_47 : decode cX8_of 47 = .ok (.lconst 0, 1) := by decide +kernel
theorem dX8_of_48 : decode cX8_of 48 = .ok (.aload_n 0, 1) := by decide +kernel
theorem dX8_of_49 : decode cX8_of 49 = .ok (.getfield 146, 3) := by decide +kernel
theorem dX8_of_52 : decode cX8_of 52 = .ok (.iconst 1, 1) := by decide +kernel
theorem dX8_of_53 : decode cX8_of 53 = .ok (.isub, 1) := by decide +kernel
theorem dX8_of_54 : decode cX8_of 54 = .ok (.i2l, 1) := by decide +kernel
theorem dX8_of_55 : decode cX8_of 55 = .ok (.invokestatic 97, 3) := by decide +kernel
theorem dX8_of_58 : decode cX8_of 58 = .ok (.ifCond .eq 19, 3) := by decide +kernel
theorem dX8_of_61 : decode cX8_of 61 = .ok (.aload_n 0, 1) := by decide +kernel
theorem dX8_of_62 : decode cX8_of 62 = .ok (.getfield 53, 3) := by decide +kernel
theorem dX8_of_65 : decode cX8_of 65 = .ok (.iconst 4, 1) := by decide +kernel
theorem dX8_of_66 : decode cX8_of 66 = .ok (.iload_n 1, 1) := by decide +kernel
theorem dX8_of_67 : decode cX8_of 67 = .ok (.imul, 1) := by decide +kernel
theorem dX8_of_68 : decode cX8_of 68 = .ok (.iload_n 2, 1) := by decide +kernel
theorem dX8_of_69 : decode cX8_of 69 = .ok (.iadd, 1) := by decide +kernel
theorem dX8_of_70 : decode cX8_of 70 = .ok (.bipush 10, 2) := by decide +kernel
theorem dX8_of_72 : decode cX8_of 72 = .ok (.isub, 1) := by decide +kernel
theorem dX8_of_73 : decode cX8_of 73 = .ok (.iaload, 1) := by decide +kernel
theorem dX8_of_74 : decode cX8_of 74 = .ok (.goto 4, 3) := by decide +kernel
theorem dX8_of_77 : decode cX8_of 77 = .ok (.iconst (-1), 1) := by decide +kernel
theorem dX8_of_78 : decode cX8_of 78 = .ok (.ireturn, 1) := by decide +kernel
theorem dX8_of_79 : decode cX8_of 79 = .ok (.iload_n 1, 1) := by decide +kernel
theorem dX8_of_80 : decode cX8_of 80 = .ok (.ifCond .eq 5, 3) := by decide +kernel
theorem dX8_of_83 : decode cX8_of 83 = .ok (.iconst (-1), 1) := by decide +kernel
theorem dX8_of_84 : decode cX8_of 84 = .ok (.ireturn, 1) := by decide +kernel
theorem dX8_of_85 : decode cX8_of 85 = .ok (.iload_n 2, 1) := by decide +kernel
theorem dX8_of_86 : decode cX8_of 86 = .ok (.tableswitch 57 20 23 #[30, 30, 43, 48], 30) := by decide +kernel
theorem dX8_of_116 : decode cX8_of 116 = .ok (.aload_n 0, 1) := by decide +kernel
theorem dX8_of_117 : decode cX8_of 117 = .ok (.getfield 9, 3) := by decide +kernel
theorem dX8_of_120 : decode cX8_of 120 = .ok (.bipush 21, 2) := by decide +kernel
theorem dX8_of_122 : decode cX8_of 122 = .ok (.iload_n 2, 1) := by decide +kernel
theorem dX8_of_123 : decode cX8_of 123 = .ok (.iadd, 1) := by decide +kernel
theorem dX8_of_124 : decode cX8_of 124 = .ok (.bipush 20, 2) := by decide +kernel
theorem dX8_of_126 : decode cX8_of 126 = .ok (.isub, 1) := by decide +kernel
theorem dX8_of_127 : decode cX8_of 127 = .ok (.iaload, 1) := by decide +kernel
theorem dX8_of_128 : decode cX8_of 128 = .ok (.ireturn, 1) := by decide +kernel
theorem dX8_of_129 : decode cX8_of 129 = .ok (.aload_n 0, 1) := by decide +kernel
theorem dX8_of_130 : decode cX8_of 130 = .ok (.getfield 131, 3) := by decide +kernel
theorem dX8_of_133 : decode cX8_of 133 = .ok (.ireturn, 1) := by decide +kernel
theorem dX8_of_134 : decode cX8_of 134 = .ok (.aload_n 0, 1) := by decide +kernel
theorem dX8_of_135 : decode cX8_of 135 = .ok (.aload_n 0, 1) := by decide +kernel
theorem dX8_of_136 : decode cX8_of 136 = .ok (.getfield 94, 3) := by decide +kernel
theorem dX8_of_139 : decode cX8_of 139 = .ok (.invokevirtual 149, 3) := by decide +kernel
theorem dX8_of_142 : decode cX8_of 142 = .ok (.ireturn, 1) := by decide +kernel
theorem dX8_of_143 : decode cX8_of 143 = .ok (.iconst (-1), 1) := by decide +kernel
theorem dX8_of_144 : decode cX8_of 144 = .ok (.ireturn, 1) := by decide +kernel
theorem dX8_placeAt_0 : decode cX8_placeAt 0 = .ok (.iload_n 2, 1) := by decide +kernel
theorem dX8_placeAt_1 : decode cX8_placeAt 1 = .ok (.aload_n 0, 1) := by decide +kernel
theorem dX8_placeAt_2 : decode cX8_placeAt 2 = .ok (.getfield 9, 3) := by decide +kernel
theorem dX8_placeAt_5 : decode cX8_placeAt 5 = .ok (.bipush 7, 2) := by decide +kernel
theorem dX8_placeAt_7 : decode cX8_placeAt 7 = .ok (.iload_n 1, 1) := by decide +kernel
theorem dX8_placeAt_8 : decode cX8_placeAt 8 = .ok (.iadd, 1) := by decide +kernel
theorem dX8_placeAt_9 : decode cX8_placeAt 9 = .ok (.iaload, 1) := by decide +kernel
theorem dX8_placeAt_10 : decode cX8_placeAt 10 = .ok (.iadd, 1) := by decide +kernel
theorem dX8_placeAt_11 : decode cX8_placeAt 11 = .ok (.aload_n 0, 1) := by decide +kernel
theorem dX8_placeAt_12 : decode cX8_placeAt 12 = .ok (.getfield 9, 3) := by decide +kernel
theorem dX8_placeAt_15 : decode cX8_placeAt 15 = .ok (.iload_n 1, 1) := by decide +kernel
theorem dX8_placeAt_16 : decode cX8_placeAt 16 = .ok (.iaload, 1) := by decide +kernel
theorem dX8_placeAt_17 : decode cX8_placeAt 17 = .ok (.irem, 1) := by decide +kernel
theorem dX8_placeAt_18 : decode cX8_placeAt 18 = .ok (.sipush 360, 3) := by decide +kernel
theorem dX8_placeAt_21 : decode cX8_placeAt 21 = .ok (.imul, 1) := by decide +kernel
theorem dX8_placeAt_22 : decode cX8_placeAt 22 = .ok (.aload_n 0, 1) := by decide +kernel
theorem dX8_placeAt_23 : decode cX8_placeAt 23 = .ok (.getfield 9, 3) := by decide +kernel
theorem dX8_placeAt_26 : decode cX8_placeAt 26 = .ok (.iload_n 1, 1) := by decide +kernel
theorem dX8_placeAt_27 : decode cX8_placeAt 27 = .ok (.iaload, 1) := by decide +kernel
theorem dX8_placeAt_28 : decode cX8_placeAt 28 = .ok (.idiv, 1) := by decide +kernel
theorem dX8_placeAt_29 : decode cX8_placeAt 29 = .ok (.ireturn, 1) := by decide +kernel
set_option maxRecDepth 20000 in
theorem ggX8_place_X8_isWorld : GoodIn wsX8_place wsX8_isWorld := goodIn_r _ [5, 6, 7, 8, 4, 9, 19, 20, 21, 22, 23, 24, 25, 26, 27, 28, 29, 30, 31, 32, 33, 34, 35, 36, 37, 38, 39, 40, 41, 42, 43, 44, 45, 46, 47, 48, 49, 50, 51, 52, 53, 54, 55, 56, 57, 58, 59, 60, 61, 62, 63, 64, 65, 66] (by decide +kernel) (by decide +kernel)
set_option maxRecDepth 20000 in
theorem gX8_place_X8_isWorld : GoodIn wsX8_place (wsV RX8 101 RX8 yX8_isWorld wsX8_isWorld) := goodIn_app (goodIn_of _ (by decide +kernel)) ggX8_place_X8_isWorld
set_option maxRecDepth 20000 in
theorem ggX8_place_X8_isStep : GoodIn wsX8_place wsX8_isStep := goodIn_r _ [12, 13, 7, 8, 4, 9] (by decide +kernel) (by decide +kernel)
set_option maxRecDepth 20000 in
theorem gX8_place_X8_isStep : GoodIn wsX8_place (va_wsS RX8 153 yX8_isStep wsX8_isStep) := goodIn_app (goodIn_of _ (by decide +kernel)) ggX8_place_X8_isStep
set_option maxRecDepth 20000 in
theorem ggX8_place_X8_placeAt : GoodIn wsX8_place wsX8_placeAt := goodIn_r _ [17, 18, 19, 20, 21, 22, 23, 24, 25, 26, 27, 28, 29, 30, 31, 32, 33, 34, 35, 36, 37, 38, 39, 40, 41, 42, 43, 44, 45, 46, 47, 48, 49, 50, 51, 52, 53, 54, 55, 56, 57, 58, 59, 60, 61, 62, 63, 64, 65, 66] (by decide +kernel) (by decide +kernel)
set_option maxRecDepth 20000 in
theorem gX8_place_X8_placeAt : GoodIn wsX8_place (wsV RX8 134 RX8 yX8_placeAt wsX8_placeAt) := goodIn_app (goodIn_of _ (by decide +kernel)) ggX8_place_X8_placeAt
theorem dX8_place_0 : decode cX8_place 0 = .ok (.aload_n 0, 1) := by decide +kernel
theorem dX8_place_1 : decode cX8_place 1 = .ok (.iload_n 1, 1) := by decide +kernel
theorem dX8_place_2 : decode cX8_place 2 = .ok (.invokevirtual 101, 3) := by decide +kernel
theorem dX8_place_5 : decode cX8_place 5 = .ok (.ifCond .eq 19, 3) := by decide +kernel
theorem dX8_place_8 : decode cX8_place 8 = .ok (.iload_n 2, 1) := by decide +kernel
theorem dX8_place_9 : decode cX8_place 9 = .ok (.invokestatic 153, 3) := by decide +kernel
theorem dX8_place_12 : decode cX8_place 12 = .ok (.ifCond .eq 12, 3) := by decide +kernel
theorem dX8_place_15 : decode cX8_place 15 = .ok (.aload_n 0, 1) := by decide +kernel
theorem dX8_place_16 : decode cX8_place 16 = .ok (.iload_n 1, 1) := by decide +kernel
theorem dX8_place_17 : decode cX8_place 17 = .ok (.iload_n 2, 1) := by decide +kernel
theorem dX8_place_18 : decode cX8_place 18 = .ok (.invokevirtual 134, 3) := by decide +kernel
theorem dX8_place_21 : decode cX8_place 21 = .ok (.goto 4, 3) := by decide +kernel
theorem dX8_place_24 : decode cX8_place 24 = .ok (.iconst (-1), 1) := by decide +kernel
theorem dX8_place_25 : decode cX8_place 25 = .ok (.ireturn, 1) := by decide +kernel
theorem dX8_common_0 : decode cX8_common 0 = .ok (.iload_n 0, 1) := by decide +kernel
theorem dX8_common_1 : decode cX8_common 1 = .ok (.istore_n 2, 1) := by decide +kernel
theorem dX8_common_2 : decode cX8_common 2 = .ok (.iload_n 1, 1) := by decide +kernel
theorem dX8_common_3 : decode cX8_common 3 = .ok (.istore_n 3, 1) := by decide +kernel
theorem dX8_common_4 : decode cX8_common 4 = .ok (.iload_n 3, 1) := by decide +kernel
theorem dX8_common_5 : decode cX8_common 5 = .ok (.ifCond .eq 16, 3) := by decide +kernel
theorem dX8_common_8 : decode cX8_common 8 = .ok (.iload_n 2, 1) := by decide +kernel
theorem dX8_common_9 : decode cX8_common 9 = .ok (.iload_n 3, 1) := by decide +kernel
theorem dX8_common_10 : decode cX8_common 10 = .ok (.irem, 1) := by decide +kernel
theorem dX8_common_11 : decode cX8_common 11 = .ok (.istore 4, 2) := by decide +kernel
theorem dX8_common_13 : decode cX8_common 13 = .ok (.iload_n 3, 1) := by decide +kernel
theorem dX8_common_14 : decode cX8_common 14 = .ok (.istore_n 2, 1) := by decide +kernel
theorem dX8_common_15 : decode cX8_common 15 = .ok (.iload 4, 2) := by decide +kernel
theorem dX8_common_17 : decode cX8_common 17 = .ok (.istore_n 3, 1) := by decide +kernel
theorem dX8_common_18 : decode cX8_common 18 = .ok (.goto (-14), 3) := by decide +kernel
theorem dX8_common_21 : decode cX8_common 21 = .ok (.iload_n 2, 1) := by decide +kernel
theorem dX8_common_22 : decode cX8_common 22 = .ok (.ireturn, 1) := by decide +kernel
set_option maxRecDepth 20000 in
theorem ggX8_roundOf_X8_common : GoodIn wsX8_roundOf wsX8_common := goodIn_r _ [5] (by decide +kernel) (by decide +kernel)
set_option maxRecDepth 20000 in
theorem gX8_roundOf_X8_common : GoodIn wsX8_roundOf (va_wsS RX8 156 yX8_common wsX8_common) := goodIn_app (goodIn_of _ (by decide +kernel)) ggX8_roundOf_X8_common
theorem dX8_roundOf_0 : decode cX8_roundOf 0 = .ok (.iconst 1, 1) := by decide +kernel
theorem dX8_roundOf_1 : decode cX8_roundOf 1 = .ok (.istore_n 2, 1) := by decide +kernel
theorem dX8_roundOf_2 : decode cX8_roundOf 2 = .ok (.iconst 0, 1) := by decide +kernel
theorem dX8_roundOf_3 : decode cX8_roundOf 3 = .ok (.istore_n 3, 1) := by decide +kernel
theorem dX8_roundOf_4 : decode cX8_roundOf 4 = .ok (.iload_n 3, 1) := by decide +kernel
theorem dX8_roundOf_5 : decode cX8_roundOf 5 = .ok (.iload_n 1, 1) := by decide +kernel
theorem dX8_roundOf_6 : decode cX8_roundOf 6 = .ok (.if_icmp .ge 29, 3) := by decide +kernel
theorem dX8_roundOf_9 : decode cX8_roundOf 9 = .ok (.iload_n 2, 1) := by decide +kernel
theorem dX8_roundOf_10 : decode cX8_roundOf 10 = .ok (.iload_n 2, 1) := by decide +kernel
theorem dX8_roundOf_11 : decode cX8_roundOf 11 = .ok (.aload_n 0, 1) := by decide +kernel
theorem dX8_roundOf_12 : decode cX8_roundOf 12 = .ok (.getfield 9, 3) := by decide +kernel
theorem dX8_roundOf_15 : decode cX8_roundOf 15 = .ok (.iload_n 3, 1) := by decide +kernel
theorem dX8_roundOf_16 : decode cX8_roundOf 16 = .ok (.iaload, 1) := by decide +kernel
theorem dX8_roundOf_17 : decode cX8_roundOf 17 = .ok (.invokestatic 156, 3) := by decide +kernel
theorem dX8_roundOf_20 : decode cX8_roundOf 20 = .ok (.idiv, 1) := by decide +kernel
theorem dX8_roundOf_21 : decode cX8_roundOf 21 = .ok (.aload_n 0, 1) := by decide +kernel
theorem dX8_roundOf_22 : decode cX8_roundOf 22 = .ok (.getfield 9, 3) := by decide +kernel
theorem dX8_roundOf_25 : decode cX8_roundOf 25 = .ok (.iload_n 3, 1) := by decide +kernel
theorem dX8_roundOf_26 : decode cX8_roundOf 26 = .ok (.iaload, 1) := by decide +kernel
theorem dX8_roundOf_27 : decode cX8_roundOf 27 = .ok (.imul, 1) := by decide +kernel
theorem dX8_roundOf_28 : decode cX8_roundOf 28 = .ok (.istore_n 2, 1) := by decide +kernel
theorem dX8_roundOf_29 : decode cX8_roundOf 29 = .ok (.iinc 3 1, 3) := by decide +kernel
theorem dX8_roundOf_32 : decode cX8_roundOf 32 = .ok (.goto (-28), 3) := by decide +kernel
theorem dX8_roundOf_35 : decode cX8_roundOf 35 = .ok (.iload_n 2, 1) := by decide +kernel
theorem dX8_roundOf_36 : decode cX8_roundOf 36 = .ok (.ireturn, 1) := by decide +kernel
set_option maxRecDepth 20000 in
theorem ggX8_roundOfTwo_X8_common : GoodIn wsX8_roundOfTwo wsX8_common := goodIn_r _ [5] (by decide +kernel) (by decide +kernel)
set_option maxRecDepth 20000 in
theorem gX8_roundOfTwo_X8_common : GoodIn wsX8_roundOfTwo (va_wsS RX8 156 yX8_common wsX8_common) := goodIn_app (goodIn_of _ (by decide +kernel)) ggX8_roundOfTwo_X8_common
theorem dX8_roundOfTwo_0 : decode cX8_roundOfTwo 0 = .ok (.aload_n 0, 1) := by decide +kernel
theorem dX8_roundOfTwo_1 : decode cX8_roundOfTwo 1 = .ok (.getfield 9, 3) := by decide +kernel
theorem dX8_roundOfTwo_4 : decode cX8_roundOfTwo 4 = .ok (.iload_n 1, 1) := by decide +kernel
theorem dX8_roundOfTwo_5 : decode cX8_roundOfTwo 5 = .ok (.iaload, 1) := by decide +kernel
theorem dX8_roundOfTwo_6 : decode cX8_roundOfTwo 6 = .ok (.aload_n 0, 1) := by decide +kernel
theorem dX8_roundOfTwo_7 : decode cX8_roundOfTwo 7 = .ok (.getfield 9, 3) := by decide +kernel
theorem dX8_roundOfTwo_10 : decode cX8_roundOfTwo 10 = .ok (.iload_n 1, 1) := by decide +kernel
theorem dX8_roundOfTwo_11 : decode cX8_roundOfTwo 11 = .ok (.iaload, 1) := by decide +kernel
theorem dX8_roundOfTwo_12 : decode cX8_roundOfTwo 12 = .ok (.aload_n 0, 1) := by decide +kernel
theorem dX8_roundOfTwo_13 : decode cX8_roundOfTwo 13 = .ok (.getfield 9, 3) := by decide +kernel
theorem dX8_roundOfTwo_16 : decode cX8_roundOfTwo 16 = .ok (.iload_n 2, 1) := by decide +kernel
theorem dX8_roundOfTwo_17 : decode cX8_roundOfTwo 17 = .ok (.iaload, 1) := by decide +kernel
theorem dX8_roundOfTwo_18 : decode cX8_roundOfTwo 18 = .ok (.invokestatic 156, 3) := by decide +kernel
theorem dX8_roundOfTwo_21 : decode cX8_roundOfTwo 21 = .ok (.idiv, 1) := by decide +kernel
theorem dX8_roundOfTwo_22 : decode cX8_roundOfTwo 22 = .ok (.aload_n 0, 1) := by decide +kernel
theorem dX8_roundOfTwo_23 : decode cX8_roundOfTwo 23 = .ok (.getfield 9, 3) := by decide +kernel
theorem dX8_roundOfTwo_26 : decode cX8_roundOfTwo 26 = .ok (.iload_n 2, 1) := by decide +kernel
theorem dX8_roundOfTwo_27 : decode cX8_roundOfTwo 27 = .ok (.iaload, 1) := by decide +kernel
theorem dX8_roundOfTwo_28 : decode cX8_roundOfTwo 28 = .ok (.imul, 1) := by decide +kernel
theorem dX8_roundOfTwo_29 : decode cX8_roundOfTwo 29 = .ok (.ireturn, 1) := by decide +kernel
set_option maxRecDepth 20000 in
theorem ggX8_feed_X8_within : GoodIn wsX8_feed wsX8_within := goodIn_r _ [7] (by decide +kernel) (by decide +kernel)
set_option maxRecDepth 20000 in
theorem gX8_feed_X8_within : GoodIn wsX8_feed (va_wsS RX8 97 yX8_within wsX8_within) := goodIn_app (goodIn_of _ (by decide +kernel)) ggX8_feed_X8_within
theorem dX8_feed_0 : decode cX8_feed 0 = .ok (.iload_n 1, 1) := by decide +kernel
theorem dX8_feed_1 : decode cX8_feed 1 = .ok (.i2l, 1) := by decide +kernel
theorem dX8_feed_2 : decode cX8_feed 2 = .ok (.lconst 0, 1) := by decide +kernel
theorem dX8_feed_3 : decode cX8_feed 3 = .ok (.ldc2_w 159, 3) := by decide +kernel
theorem dX8_feed_6 : decode cX8_feed 6 = .ok (.invokestatic 97, 3) := by decide +kernel
theorem dX8_feed_9 : decode cX8_feed 9 = .ok (.ifCond .ne 5, 3) := by decide +kernel
theorem dX8_feed_12 : decode cX8_feed 12 = .ok (.iconst (-1), 1) := by decide +kernel
theorem dX8_feed_13 : decode cX8_feed 13 = .ok (.ireturn, 1) := by decide +kernel
theorem dX8_feed_14 : decode cX8_feed 14 = .ok (.aload_n 0, 1) := by decide +kernel
theorem dX8_feed_15 : decode cX8_feed 15 = .ok (.getfield 161, 3) := by decide +kernel
theorem dX8_feed_18 : decode cX8_feed 18 = .ok (.bipush 120, 2) := by decide +kernel
theorem dX8_feed_20 : decode cX8_feed 20 = .ok (.if_icmp .ne 6, 3) := by decide +kernel
theorem dX8_feed_23 : decode cX8_feed 23 = .ok (.bipush (-3), 2) := by decide +kernel
theorem dX8_feed_25 : decode cX8_feed 25 = .ok (.ireturn, 1) := by decide +kernel
theorem dX8_feed_26 : decode cX8_feed 26 = .ok (.aload_n 0, 1) := by decide +kernel
theorem dX8_feed_27 : decode cX8_feed 27 = .ok (.getfield 22, 3) := by decide +kernel
theorem dX8_feed_30 : decode cX8_feed 30 = .ok (.aload_n 0, 1) := by decide +kernel
theorem dX8_feed_31 : decode cX8_feed 31 = .ok (.getfield 161, 3) := by decide +kernel
theorem dX8_feed_34 : decode cX8_feed 34 = .ok (.iload_n 1, 1) := by decide +kernel
theorem dX8_feed_35 : decode cX8_feed 35 = .ok (.iastore, 1) := by decide +kernel
theorem dX8_feed_36 : decode cX8_feed 36 = .ok (.aload_n 0, 1) := by decide +kernel
theorem dX8_feed_37 : decode cX8_feed 37 = .ok (.dup, 1) := by decide +kernel
theorem dX8_feed_38 : decode cX8_feed 38 = .ok (.getfield 161, 3) := by decide +kernel
theorem dX8_feed_41 : decode cX8_feed 41 = .ok (.iconst 1, 1) := by decide +kernel
theorem dX8_feed_42 : decode cX8_feed 42 = .ok (.iadd, 1) := by decide +kernel
theorem dX8_feed_43 : decode cX8_feed 43 = .ok (.putfield 161, 3) := by decide +kernel
theorem dX8_feed_46 : decode cX8_feed 46 = .ok (.aload_n 0, 1) := by decide +kernel
theorem dX8_feed_47 : decode cX8_feed 47 = .ok (.getfield 161, 3) := by decide +kernel
theorem dX8_feed_50 : decode cX8_feed 50 = .ok (.ireturn, 1) := by decide +kernel
theorem dX8_byteAt_0 : decode cX8_byteAt 0 = .ok (.aload_n 0, 1) := by decide +kernel
theorem dX8_byteAt_1 : decode cX8_byteAt 1 = .ok (.getfield 164, 3) := by decide +kernel
theorem dX8_byteAt_4 : decode cX8_byteAt 4 = .ok (.aload_n 0, 1) := by decide +kernel
theorem dX8_byteAt_5 : decode cX8_byteAt 5 = .ok (.getfield 167, 3) := by decide +kernel
theorem dX8_byteAt_8 : decode cX8_byteAt 8 = .ok (.if_icmp .ge 39, 3) := by decide +kernel
theorem dX8_byteAt_11 : decode cX8_byteAt 11 = .ok (.aload_n 0, 1) := by decide +kernel
theorem dX8_byteAt_12 : decode cX8_byteAt 12 = .ok (.getfield 170, 3) := by decide +kernel
theorem dX8_byteAt_15 : decode cX8_byteAt 15 = .ok (.ifCond .ge 15, 3) := by decide +kernel
theorem dX8_byteAt_18 : decode cX8_byteAt 18 = .ok (.aload_n 0, 1) := by decide +kernel
theorem dX8_byteAt_19 : decode cX8_byteAt 19 = .ok (.getfield 22, 3) := by decide +kernel
theorem dX8_byteAt_22 : decode cX8_byteAt 22 = .ok (.aload_n 0, 1) := by decide +kernel
theorem dX8_byteAt_23 : decode cX8_byteAt 23 = .ok (.getfield 164, 3) := by decide +kernel
theorem dX8_byteAt_26 : decode cX8_byteAt 26 = .ok (.iaload, 1) := by decide +kernel
theorem dX8_byteAt_27 : decode cX8_byteAt 27 = .ok (.goto 21, 3) := by decide +kernel
theorem dX8_byteAt_30 : decode cX8_byteAt 30 = .ok (.aload_n 0, 1) := by decide +kernel
theorem dX8_byteAt_31 : decode cX8_byteAt 31 = .ok (.getfield 25, 3) := by decide +kernel
theorem dX8_byteAt_34 : decode cX8_byteAt 34 = .ok (.aload_n 0, 1) := by decide +kernel
theorem dX8_byteAt_35 : decode cX8_byteAt 35 = .ok (.getfield 170, 3) := by decide +kernel
theorem dX8_byteAt_38 : decode cX8_byteAt 38 = .ok (.aload_n 0, 1) := by decide +kernel
theorem dX8_byteAt_39 : decode cX8_byteAt 39 = .ok (.getfield 164, 3) := by decide +kernel
theorem dX8_byteAt_42 : decode cX8_byteAt 42 = .ok (.iadd, 1) := by decide +kernel
theorem dX8_byteAt_43 : decode cX8_byteAt 43 = .ok (.iaload, 1) := by decide +kernel
theorem dX8_byteAt_44 : decode cX8_byteAt 44 = .ok (.goto 4, 3) := by decide +kernel
theorem dX8_byteAt_47 : decode cX8_byteAt 47 = .ok (.iconst 0, 1) := by decide +kernel
theorem dX8_byteAt_48 : decode cX8_byteAt 48 = .ok (.ireturn, 1) := by decide +kernel
theorem dX8_wrong_0 : decode cX8_wrong 0 = .ok (.aload_n 0, 1) := by decide +kernel
theorem dX8_wrong_1 : decode cX8_wrong 1 = .ok (.aload_n 0, 1) := by decide +kernel
theorem dX8_wrong_2 : decode cX8_wrong 2 = .ok (.getfield 173, 3) := by decide +kernel
theorem dX8_wrong_5 : decode cX8_wrong 5 = .ok (.ifCond .ge 10, 3) := by decide +kernel
theorem dX8_wrong_8 : decode cX8_wrong 8 = .ok (.aload_n 0, 1) := by decide +kernel
theorem dX8_wrong_9 : decode cX8_wrong 9 = .ok (.getfield 164, 3) := by decide +kernel
theorem dX8_wrong_12 : decode cX8_wrong 12 = .ok (.goto 7, 3) := by decide +kernel
theorem dX8_wrong_15 : decode cX8_wrong 15 = .ok (.aload_n 0, 1) := by decide +kernel
theorem dX8_wrong_16 : decode cX8_wrong 16 = .ok (.getfield 173, 3) := by decide +kernel
theorem dX8_wrong_19 : decode cX8_wrong 19 = .ok (.putfield 173, 3) := by decide +kernel
theorem dX8_wrong_22 : decode cX8_wrong 22 = .ok (.iconst 0, 1) := by decide +kernel
theorem dX8_wrong_23 : decode cX8_wrong 23 = .ok (.ireturn, 1) := by decide +kernel
set_option maxRecDepth 20000 in
theorem ggX8_takes_X8_byteAt : GoodIn wsX8_takes wsX8_byteAt := goodIn_r _ [7, 2, 8, 9, 10, 11, 12, 13, 14, 15, 16, 17, 18, 19, 20, 21, 22, 23, 24, 25, 26, 27, 28, 29, 30, 31, 32, 33, 34, 35, 36, 37, 38, 39, 40, 41, 42, 43, 44, 45, 46, 47, 48, 49, 50, 51, 52, 53, 54, 55, 56, 57, 58, 59] (by decide +kernel) (by decide +kernel)
set_option maxRecDepth 20000 in
theorem gX8_takes_X8_byteAt : GoodIn wsX8_takes (wsV RX8 176 RX8 yX8_byteAt wsX8_byteAt) := goodIn_app (goodIn_of _ (by decide +kernel)) ggX8_takes_X8_byteAt
theorem dX8_takes_0 : decode cX8_takes 0 = .ok (.aload_n 0, 1) := by decide +kernel
theorem dX8_takes_1 : decode cX8_takes 1 = .ok (.getfield 173, 3) := by decide +kernel
theorem dX8_takes_4 : decode cX8_takes 4 = .ok (.ifCond .ge 11, 3) := by decide +kernel
theorem dX8_takes_7 : decode cX8_takes 7 = .ok (.aload_n 0, 1) := by decide +kernel
theorem dX8_takes_8 : decode cX8_takes 8 = .ok (.invokevirtual 176, 3) := by decide +kernel
theorem dX8_takes_11 : decode cX8_takes 11 = .ok (.iload_n 1, 1) := by decide +kernel
theorem dX8_takes_12 : decode cX8_takes 12 = .ok (.if_icmp .eq 5, 3) := by decide +kernel
theorem dX8_takes_15 : decode cX8_takes 15 = .ok (.iconst 0, 1) := by decide +kernel
theorem dX8_takes_16 : decode cX8_takes 16 = .ok (.ireturn, 1) := by decide +kernel
theorem dX8_takes_17 : decode cX8_takes 17 = .ok (.aload_n 0, 1) := by decide +kernel
theorem dX8_takes_18 : decode cX8_takes 18 = .ok (.dup, 1) := by decide +kernel
theorem dX8_takes_19 : decode cX8_takes 19 = .ok (.getfield 164, 3) := by decide +kernel
theorem dX8_takes_22 : decode cX8_takes 22 = .ok (.iconst 1, 1) := by decide +kernel
theorem dX8_takes_23 : decode cX8_takes 23 = .ok (.iadd, 1) := by decide +kernel
theorem dX8_takes_24 : decode cX8_takes 24 = .ok (.putfield 164, 3) := by decide +kernel
theorem dX8_takes_27 : decode cX8_takes 27 = .ok (.iconst 1, 1) := by decide +kernel
theorem dX8_takes_28 : decode cX8_takes 28 = .ok (.ireturn, 1) := by decide +kernel
set_option maxRecDepth 20000 in
theorem ggX8_either_X8_both : GoodIn wsX8_either wsX8_both := goodIn_r _ [19, 20, 21, 22, 4, 5, 6, 7, 8, 9, 10, 11, 12, 13, 14, 15, 16, 17, 18, 23, 24, 25, 26, 0, 1, 2, 3, 27, 28, 29, 30, 31, 32, 33, 34, 35, 36, 37, 38, 39, 40, 41, 42, 43, 44, 45, 46, 47, 48, 49, 50, 51, 52, 53, 54, 55, 56, 57, 58, 59, 60, 61, 62, 63, 64, 65, 66, 67, 68, 69, 70, 71, 72, 73, 74, 75, 76, 77, 78, 79, 80, 81, 82, 83, 84, 85, 86, 87, 88, 89, 90, 91, 92, 93, 94, 95] (by decide +kernel) (by decide +kernel)
set_option maxRecDepth 20000 in
theorem gX8_either_X8_both : GoodIn wsX8_either (wsV RX8 180 RX8 yX8_both wsX8_both) := goodIn_app (goodIn_of _ (by decide +kernel)) ggX8_either_X8_both
set_option maxRecDepth 20000 in
theorem ggX8_either_X8_takes : GoodIn wsX8_either wsX8_takes := goodIn_r _ [8, 9, 10, 11, 12, 13, 4, 14, 15, 16, 17, 18, 48, 49, 50, 51, 52, 53, 54, 55, 56, 57, 58, 59, 60, 61, 62, 63, 64, 65, 66, 67, 68, 69, 70, 71, 72, 73, 74, 75, 76, 77, 78, 79, 80, 81, 82, 83, 84, 85, 86, 87, 88, 89, 90, 91, 92, 93, 94, 95] (by decide +kernel) (by decide +kernel)
set_option maxRecDepth 20000 in
theorem gX8_either_X8_takes : GoodIn wsX8_either (wsV RX8 183 RX8 yX8_takes wsX8_takes) := goodIn_app (goodIn_of _ (by decide +kernel)) ggX8_either_X8_takes
theorem dX8_either_0 : decode cX8_either 0 = .ok (.aload_n 0, 1) := by decide +kernel
theorem dX8_either_1 : decode cX8_either 1 = .ok (.invokevirtual 180, 3) := by decide +kernel
theorem dX8_either_4 : decode cX8_either 4 = .ok (.istore_n 1, 1) := by decide +kernel
theorem dX8_either_5 : decode cX8_either 5 = .ok (.aload_n 0, 1) := by decide +kernel
theorem dX8_either_6 : decode cX8_either 6 = .ok (.bipush 124, 2) := by decide +kernel
theorem dX8_either_8 : decode cX8_either 8 = .ok (.invokevirtual 183, 3) := by decide +kernel
theorem dX8_either_11 : decode cX8_either 11 = .ok (.ifCond .eq 25, 3) := by decide +kernel
theorem dX8_either_14 : decode cX8_either 14 = .ok (.aload_n 0, 1) := by decide +kernel
theorem dX8_either_15 : decode cX8_either 15 = .ok (.invokevirtual 180, 3) := by decide +kernel
theorem dX8_either_18 : decode cX8_either 18 = .ok (.istore_n 2, 1) := by decide +kernel
theorem dX8_either_19 : decode cX8_either 19 = .ok (.iload_n 1, 1) := by decide +kernel
theorem dX8_either_20 : decode cX8_either 20 = .ok (.ifCond .ne 7, 3) := by decide +kernel
theorem dX8_either_23 : decode cX8_either 23 = .ok (.iload_n 2, 1) := by decide +kernel
theorem dX8_either_24 : decode cX8_either 24 = .ok (.ifCond .eq 7, 3) := by decide +kernel
theorem dX8_either_27 : decode cX8_either 27 = .ok (.iconst 1, 1) := by decide +kernel
theorem dX8_either_28 : decode cX8_either 28 = .ok (.goto 4, 3) := by decide +kernel
theorem dX8_either_31 : decode cX8_either 31 = .ok (.iconst 0, 1) := by decide +kernel
theorem dX8_either_32 : decode cX8_either 32 = .ok (.istore_n 1, 1) := by decide +kernel
theorem dX8_either_33 : decode cX8_either 33 = .ok (.goto (-28), 3) := by decide +kernel
theorem dX8_either_36 : decode cX8_either 36 = .ok (.iload_n 1, 1) := by decide +kernel
theorem dX8_either_37 : decode cX8_either 37 = .ok (.ireturn, 1) := by decide +kernel
set_option maxRecDepth 20000 in
theorem ggX8_both_X8_compared : GoodIn wsX8_both wsX8_compared := goodIn_r _ [19, 9, 10, 20, 21, 22, 4, 11, 12, 13, 14, 15, 16, 17, 18, 0, 1, 2, 3, 5, 6, 7, 8, 23, 24, 25, 26, 27, 28, 29, 30, 31, 32, 33, 34, 35, 36, 37, 38, 39, 40, 41, 42, 43, 44, 45, 46, 47, 48, 49, 50, 51, 52, 53, 54, 55, 56, 57, 58, 59, 60, 61, 62, 63, 64, 65, 66, 67, 68, 69, 70, 71, 72, 73, 74, 75, 76, 77, 78, 79, 80, 81, 82, 83, 84, 85, 86, 87, 88, 89, 90, 91, 92, 93, 94, 95] (by decide +kernel) (by decide +kernel)
set_option maxRecDepth 20000 in
theorem gX8_both_X8_compared : GoodIn wsX8_both (wsV RX8 186 RX8 yX8_compared wsX8_compared) := goodIn_app (goodIn_of _ (by decide +kernel)) ggX8_both_X8_compared
set_option maxRecDepth 20000 in
theorem ggX8_both_X8_takes : GoodIn wsX8_both wsX8_takes := goodIn_r _ [8, 9, 10, 11, 12, 13, 4, 14, 15, 16, 17, 18, 48, 49, 50, 51, 52, 53, 54, 55, 56, 57, 58, 59, 60, 61, 62, 63, 64, 65, 66, 67, 68, 69, 70, 71, 72, 73, 74, 75, 76, 77, 78, 79, 80, 81, 82, 83, 84, 85, 86, 87, 88, 89, 90, 91, 92, 93, 94, 95] (by decide +kernel) (by decide +kernel)
set_option maxRecDepth 20000 in
theorem gX8_both_X8_takes : GoodIn wsX8_both (wsV RX8 183 RX8 yX8_takes wsX8_takes) := goodIn_app (goodIn_of _ (by decide +kernel)) ggX8_both_X8_takes
theorem dX8_both_0 : decode cX8_both 0 = .ok (.aload_n 0, 1) := by decide +kernel
theorem dX8_both_1 : decode cX8_both 1 = .ok (.invokevirtual 186, 3) := by decide +kernel
theorem dX8_both_4 : decode cX8_both 4 = .ok (.istore_n 1, 1) := by decide +kernel
theorem dX8_both_5 : decode cX8_both 5 = .ok (.aload_n 0, 1) := by decide +kernel
theorem dX8_both_6 : decode cX8_both 6 = .ok (.bipush 38, 2) := by decide +kernel
theorem dX8_both_8 : decode cX8_both 8 = .ok (.invokevirtual 183, 3) := by decide +kernel
theorem dX8_both_11 : decode cX8_both 11 = .ok (.ifCond .eq 25, 3) := by decide +kernel
theorem dX8_both_14 : decode cX8_both 14 = .ok (.aload_n 0, 1) := by decide +kernel
theorem dX8_both_15 : decode cX8_both 15 = .ok (.invokevirtual 186, 3) := by decide +kernel
theorem dX8_both_18 : decode cX8_both 18 = .ok (.istore_n 2, 1) := by decide +kernel
theorem dX8_both_19 : decode cX8_both 19 = .ok (.iload_n 1, 1) := by decide +kernel
theorem dX8_both_20 : decode cX8_both 20 = .ok (.ifCond .eq 11, 3) := by decide +kernel
theorem dX8_both_23 : decode cX8_both 23 = .ok (.iload_n 2, 1) := by decide +kernel
theorem dX8_both_24 : decode cX8_both 24 = .ok (.ifCond .eq 7, 3) := by decide +kernel
theorem dX8_both_27 : decode cX8_both 27 = .ok (.iconst 1, 1) := by decide +kernel
theorem dX8_both_28 : decode cX8_both 28 = .ok (.goto 4, 3) := by decide +kernel
theorem dX8_both_31 : decode cX8_both 31 = .ok (.iconst 0, 1) := by decide +kernel
theorem dX8_both_32 : decode cX8_both 32 = .ok (.istore_n 1, 1) := by decide +kernel
theorem dX8_both_33 : decode cX8_both 33 = .ok (.goto (-28), 3) := by decide +kernel
theorem dX8_both_36 : decode cX8_both 36 = .ok (.iload_n 1, 1) := by decide +kernel
theorem dX8_both_37 : decode cX8_both 37 = .ok (.ireturn, 1) := by decide +kernel
set_option maxRecDepth 20000 in
theorem ggX8_compared_X8_sums : GoodIn wsX8_compared wsX8_sums := goodIn_r _ [44, 1, 2, 45, 46, 47, 6, 7, 8, 9, 10, 11, 12, 13, 14, 15, 16, 17, 18, 19, 20, 21, 22, 0, 3, 4, 5, 23, 24, 25, 26, 27, 28, 29, 30, 31, 32, 33, 34, 35, 36, 37, 38, 39, 40, 41, 42, 43, 48, 49, 50, 51, 52, 53, 54, 55, 56, 57, 58, 59, 60, 61, 62, 63, 64, 65, 66, 67, 68, 69, 70, 71, 72, 73, 74, 75, 76, 77, 78, 79, 80, 81, 82, 83, 84, 85, 86, 87, 88, 89, 90, 91, 92, 93, 94, 95] (by decide +kernel) (by decide +kernel)
set_option maxRecDepth 20000 in
theorem gX8_compared_X8_sums : GoodIn wsX8_compared (wsV RX8 189 RX8 yX8_sums wsX8_sums) := goodIn_app (goodIn_of _ (by decide +kernel)) ggX8_compared_X8_sums
set_option maxRecDepth 20000 in
theorem ggX8_compared_X8_byteAt : GoodIn wsX8_compared wsX8_byteAt := goodIn_r _ [10, 2, 11, 12, 13, 14, 48, 49, 50, 51, 52, 53, 54, 55, 56, 57, 58, 59, 60, 61, 62, 63, 64, 65, 66, 67, 68, 69, 70, 71, 72, 73, 74, 75, 76, 77, 78, 79, 80, 81, 82, 83, 84, 85, 86, 87, 88, 89, 90, 91, 92, 93, 94, 95] (by decide +kernel) (by decide +kernel)
set_option maxRecDepth 20000 in
theorem gX8_compared_X8_byteAt : GoodIn wsX8_compared (wsV RX8 176 RX8 yX8_byteAt wsX8_byteAt) := goodIn_app (goodIn_of _ (by decide +kernel)) ggX8_compared_X8_byteAt
theorem dX8_compared_0 : decode cX8_compared 0 = .ok (.aload_n 0, 1) := by decide +kernel
theorem dX8_compared_1 : decode cX8_compared 1 = .ok (.invokevirtual 189, 3) := by decide +kernel
theorem dX8_compared_4 : decode cX8_compared 4 = .ok (.istore_n 1, 1) := by decide +kernel
theorem dX8_compared_5 : decode cX8_compared 5 = .ok (.aload_n 0, 1) := by decide +kernel
theorem dX8_compared_6 : decode cX8_compared 6 = .ok (.invokevirtual 176, 3) := by decide +kernel
theorem dX8_compared_9 : decode cX8_compared 9 = .ok (.istore_n 2, 1) := by decide +kernel
theorem dX8_compared_10 : decode cX8_compared 10 = .ok (.aload_n 0, 1) := by decide +kernel
theorem dX8_compared_11 : decode cX8_compared 11 = .ok (.getfield 173, 3) := by decide +kernel
theorem dX8_compared_14 : decode cX8_compared 14 = .ok (.ifCond .ge 21, 3) := by decide +kernel
theorem dX8_compared_17 : decode cX8_compared 17 = .ok (.iload_n 2, 1) := by decide +kernel
theorem dX8_compared_18 : decode cX8_compared 18 = .ok (.bipush 60, 2) := by decide +kernel
theorem dX8_compared_20 : decode cX8_compared 20 = .ok (.if_icmp .eq 17, 3) := by decide +kernel
theorem dX8_compared_23 : decode cX8_compared 23 = .ok (.iload_n 2, 1) := by decide +kernel
theorem dX8_compared_24 : decode cX8_compared 24 = .ok (.bipush 61, 2) := by decide +kernel
theorem dX8_compared_26 : decode cX8_compared 26 = .ok (.if_icmp .eq 11, 3) := by decide +kernel
theorem dX8_compared_29 : decode cX8_compared 29 = .ok (.iload_n 2, 1) := by decide +kernel
theorem dX8_compared_30 : decode cX8_compared 30 = .ok (.bipush 62, 2) := by decide +kernel
theorem dX8_compared_32 : decode cX8_compared 32 = .ok (.if_icmp .eq 5, 3) := by decide +kernel
theorem dX8_compared_35 : decode cX8_compared 35 = .ok (.iload_n 1, 1) := by decide +kernel
theorem dX8_compared_36 : decode cX8_compared 36 = .ok (.ireturn, 1) := by decide +kernel
theorem dX8_compared_37 : decode cX8_compared 37 = .ok (.aload_n 0, 1) := by decide +kernel
theorem dX8_compared_38 : decode cX8_compared 38 = .ok (.dup, 1) := by decide +kernel
theorem dX8_compared_39 : decode cX8_compared 39 = .ok (.getfield 164, 3) := by decide +kernel
theorem dX8_compared_42 : decode cX8_compared 42 = .ok (.iconst 1, 1) := by decide +kernel
theorem dX8_compared_43 : decode cX8_compared 43 = .ok (.iadd, 1) := by decide +kernel
theorem dX8_compared_44 : decode cX8_compared 44 = .ok (.putfield 164, 3) := by decide +kernel
theorem dX8_compared_47 : decode cX8_compared 47 = .ok (.aload_n 0, 1) := by decide +kernel
theorem dX8_compared_48 : decode cX8_compared 48 = .ok (.invokevirtual 189, 3) := by decide +kernel
theorem dX8_compared_51 : decode cX8_compared 51 = .ok (.istore_n 3, 1) := by decide +kernel
theorem dX8_compared_52 : decode cX8_compared 52 = .ok (.iload_n 2, 1) := by decide +kernel
theorem dX8_compared_53 : decode cX8_compared 53 = .ok (.bipush 60, 2) := by decide +kernel
theorem dX8_compared_55 : decode cX8_compared 55 = .ok (.if_icmp .ne 11, 3) := by decide +kernel
theorem dX8_compared_58 : decode cX8_compared 58 = .ok (.iload_n 1, 1) := by decide +kernel
theorem dX8_compared_59 : decode cX8_compared 59 = .ok (.iload_n 3, 1) := by decide +kernel
theorem dX8_compared_60 : decode cX8_compared 60 = .ok (.if_icmp .ge 29, 3) := by decide +kernel
theorem dX8_compared_63 : decode cX8_compared 63 = .ok (.goto 22, 3) := by decide +kernel
theorem dX8_compared_66 : decode cX8_compared 66 = .ok (.iload_n 2, 1) := by decide +kernel
theorem dX8_compared_67 : decode cX8_compared 67 = .ok (.bipush 61, 2) := by decide +kernel
theorem dX8_compared_69 : decode cX8_compared 69 = .ok (.if_icmp .ne 11, 3) := by decide +kernel
theorem dX8_compared_72 : decode cX8_compared 72 = .ok (.iload_n 1, 1) := by decide +kernel
theorem dX8_compared_73 : decode cX8_compared 73 = .ok (.iload_n 3, 1) := by decide +kernel
theorem dX8_compared_74 : decode cX8_compared 74 = .ok (.if_icmp .ne 15, 3) := by decide +kernel
theorem dX8_compared_77 : decode cX8_compared 77 = .ok (.goto 8, 3) := by decide +kernel
theorem dX8_compared_80 : decode cX8_compared 80 = .ok (.iload_n 1, 1) := by decide +kernel
theorem dX8_compared_81 : decode cX8_compared 81 = .ok (.iload_n 3, 1) := by decide +kernel
theorem dX8_compared_82 : decode cX8_compared 82 = .ok (.if_icmp .le 7, 3) := by decide +kernel
theorem dX8_compared_85 : decode cX8_compared 85 = .ok (.iconst 1, 1) := by decide +kernel
theorem dX8_compared_86 : decode cX8_compared 86 = .ok (.goto 4, 3) := by decide +kernel
theorem dX8_compared_89 : decode cX8_compared 89 = .ok (.iconst 0, 1) := by decide +kernel
theorem dX8_compared_90 : decode cX8_compared 90 = .ok (.ireturn, 1) := by decide +kernel
set_option maxRecDepth 20000 in
theorem ggX8_sums_X8_product : GoodIn wsX8_sums wsX8_product := goodIn_r _ [47, 1, 2, 41, 42, 43, 6, 7, 8, 9, 10, 11, 12, 13, 14, 15, 16, 17, 18, 19, 20, 21, 22, 23, 24, 25, 26, 27, 28, 29, 30, 31, 32, 33, 34, 35, 36, 37, 38, 39, 40, 44, 45, 46, 0, 3, 4, 5, 48, 49, 50, 51, 52, 53, 54, 55, 56, 57, 58, 59, 60, 61, 62, 63, 64, 65, 66, 67, 68, 69, 70, 71, 72, 73, 74, 75, 76, 77, 78, 79, 80, 81, 82, 83, 84, 85, 86, 87, 88, 89, 90, 91, 92, 93, 94, 95] (by decide +kernel) (by decide +kernel)
set_option maxRecDepth 20000 in
theorem gX8_sums_X8_product : GoodIn wsX8_sums (wsV RX8 192 RX8 yX8_product wsX8_product) := goodIn_app (goodIn_of _ (by decide +kernel)) ggX8_sums_X8_product
set_option maxRecDepth 20000 in
theorem ggX8_sums_X8_byteAt : GoodIn wsX8_sums wsX8_byteAt := goodIn_r _ [10, 2, 11, 12, 13, 14, 48, 49, 50, 51, 52, 53, 54, 55, 56, 57, 58, 59, 60, 61, 62, 63, 64, 65, 66, 67, 68, 69, 70, 71, 72, 73, 74, 75, 76, 77, 78, 79, 80, 81, 82, 83, 84, 85, 86, 87, 88, 89, 90, 91, 92, 93, 94, 95] (by decide +kernel) (by decide +kernel)
set_option maxRecDepth 20000 in
theorem gX8_sums_X8_byteAt : GoodIn wsX8_sums (wsV RX8 176 RX8 yX8_byteAt wsX8_byteAt) := goodIn_app (goodIn_of _ (by decide +kernel)) ggX8_sums_X8_byteAt
theorem dX8_sums_0 : decode cX8_sums 0 = .ok (.aload_n 0, 1) := by decide +kernel
theorem dX8_sums_1 : decode cX8_sums 1 = .ok (.invokevirtual 192, 3) := by decide +kernel
theorem dX8_sums_4 : decode cX8_sums 4 = .ok (.istore_n 1, 1) := by decide +kernel
theorem dX8_sums_5 : decode cX8_sums 5 = .ok (.aload_n 0, 1) := by decide +kernel
theorem dX8_sums_6 : decode cX8_sums 6 = .ok (.getfield 173, 3) := by decide +kernel
theorem dX8_sums_9 : decode cX8_sums 9 = .ok (.ifCond .ge 68, 3) := by decide +kernel
theorem dX8_sums_12 : decode cX8_sums 12 = .ok (.aload_n 0, 1) := by decide +kernel
theorem dX8_sums_13 : decode cX8_sums 13 = .ok (.invokevirtual 176, 3) := by decide +kernel
theorem dX8_sums_16 : decode cX8_sums 16 = .ok (.bipush 43, 2) := by decide +kernel
theorem dX8_sums_18 : decode cX8_sums 18 = .ok (.if_icmp .eq 12, 3) := by decide +kernel
theorem dX8_sums_21 : decode cX8_sums 21 = .ok (.aload_n 0, 1) := by decide +kernel
theorem dX8_sums_22 : decode cX8_sums 22 = .ok (.invokevirtual 176, 3) := by decide +kernel
theorem dX8_sums_25 : decode cX8_sums 25 = .ok (.bipush 45, 2) := by decide +kernel
theorem dX8_sums_27 : decode cX8_sums 27 = .ok (.if_icmp .ne 50, 3) := by decide +kernel
theorem dX8_sums_30 : decode cX8_sums 30 = .ok (.aload_n 0, 1) := by decide +kernel
theorem dX8_sums_31 : decode cX8_sums 31 = .ok (.invokevirtual 176, 3) := by decide +kernel
theorem dX8_sums_34 : decode cX8_sums 34 = .ok (.bipush 43, 2) := by decide +kernel
theorem dX8_sums_36 : decode cX8_sums 36 = .ok (.if_icmp .ne 7, 3) := by decide +kernel
theorem dX8_sums_39 : decode cX8_sums 39 = .ok (.iconst 1, 1) := by decide +kernel
theorem dX8_sums_40 : decode cX8_sums 40 = .ok (.goto 4, 3) := by decide +kernel
theorem dX8_sums_43 : decode cX8_sums 43 = .ok (.iconst 0, 1) := by decide +kernel
theorem dX8_sums_44 : decode cX8_sums 44 = .ok (.istore_n 2, 1) := by decide +kernel
theorem dX8_sums_45 : decode cX8_sums 45 = .ok (.aload_n 0, 1) := by decide +kernel
theorem dX8_sums_46 : decode cX8_sums 46 = .ok (.dup, 1) := by decide +kernel
theorem dX8_sums_47 : decode cX8_sums 47 = .ok (.getfield 164, 3) := by decide +kernel
theorem dX8_sums_50 : decode cX8_sums 50 = .ok (.iconst 1, 1) := by decide +kernel
theorem dX8_sums_51 : decode cX8_sums 51 = .ok (.iadd, 1) := by decide +kernel
theorem dX8_sums_52 : decode cX8_sums 52 = .ok (.putfield 164, 3) := by decide +kernel
theorem dX8_sums_55 : decode cX8_sums 55 = .ok (.aload_n 0, 1) := by decide +kernel
theorem dX8_sums_56 : decode cX8_sums 56 = .ok (.invokevirtual 192, 3) := by decide +kernel
theorem dX8_sums_59 : decode cX8_sums 59 = .ok (.istore_n 3, 1) := by decide +kernel
theorem dX8_sums_60 : decode cX8_sums 60 = .ok (.iload_n 2, 1) := by decide +kernel
theorem dX8_sums_61 : decode cX8_sums 61 = .ok (.ifCond .eq 9, 3) := by decide +kernel
theorem dX8_sums_64 : decode cX8_sums 64 = .ok (.iload_n 1, 1) := by decide +kernel
theorem dX8_sums_65 : decode cX8_sums 65 = .ok (.iload_n 3, 1) := by decide +kernel
theorem dX8_sums_66 : decode cX8_sums 66 = .ok (.iadd, 1) := by decide +kernel
theorem dX8_sums_67 : decode cX8_sums 67 = .ok (.goto 6, 3) := by decide +kernel
theorem dX8_sums_70 : decode cX8_sums 70 = .ok (.iload_n 1, 1) := by decide +kernel
theorem dX8_sums_71 : decode cX8_sums 71 = .ok (.iload_n 3, 1) := by decide +kernel
theorem dX8_sums_72 : decode cX8_sums 72 = .ok (.isub, 1) := by decide +kernel
theorem dX8_sums_73 : decode cX8_sums 73 = .ok (.istore_n 1, 1) := by decide +kernel
theorem dX8_sums_74 : decode cX8_sums 74 = .ok (.goto (-69), 3) := by decide +kernel
theorem dX8_sums_77 : decode cX8_sums 77 = .ok (.iload_n 1, 1) := by decide +kernel
theorem dX8_sums_78 : decode cX8_sums 78 = .ok (.ireturn, 1) := by decide +kernel
set_option maxRecDepth 20000 in
theorem ggX8_product_X8_one : GoodIn wsX8_product wsX8_one := goodIn_r _ [31, 1, 32, 2, 33, 7, 8, 9, 6, 10, 11, 12, 13, 14, 34, 35, 36, 37, 38, 39, 40, 3, 4, 5, 19, 20, 21, 22, 41, 42, 43, 15, 16, 17, 18, 23, 24, 25, 26, 27, 28, 29, 30, 0, 44, 45, 46, 47, 48, 49, 50, 51, 52, 53, 54, 55, 56, 57, 58, 59, 60, 61, 62, 63, 64, 65, 66, 67, 68, 69, 70, 71, 72, 73, 74, 75, 76, 77, 78, 79, 80, 81, 82, 83, 84, 85, 86, 87, 88, 89, 90, 91, 92, 93, 94, 95] (by decide +kernel) (by decide +kernel)
set_option maxRecDepth 20000 in
theorem gX8_product_X8_one : GoodIn wsX8_product (wsV RX8 195 RX8 yX8_one wsX8_one) := goodIn_app (goodIn_of _ (by decide +kernel)) ggX8_product_X8_one
set_option maxRecDepth 20000 in
theorem ggX8_product_X8_byteAt : GoodIn wsX8_product wsX8_byteAt := goodIn_r _ [10, 2, 11, 12, 13, 14, 48, 49, 50, 51, 52, 53, 54, 55, 56, 57, 58, 59, 60, 61, 62, 63, 64, 65, 66, 67, 68, 69, 70, 71, 72, 73, 74, 75, 76, 77, 78, 79, 80, 81, 82, 83, 84, 85, 86, 87, 88, 89, 90, 91, 92, 93, 94, 95] (by decide +kernel) (by decide +kernel)
set_option maxRecDepth 20000 in
theorem gX8_product_X8_byteAt : GoodIn wsX8_product (wsV RX8 176 RX8 yX8_byteAt wsX8_byteAt) := goodIn_app (goodIn_of _ (by decide +kernel)) ggX8_product_X8_byteAt
theorem dX8_product_0 : decode cX8_product 0 = .ok (.aload_n 0, 1) := by decide +kernel
theorem dX8_product_1 : decode cX8_product 1 = .ok (.invokevirtual 195, 3) := by decide +kernel
theorem dX8_product_4 : decode cX8_product 4 = .ok (.istore_n 1, 1) := by decide +kernel
theorem dX8_product_5 : decode cX8_product 5 = .ok (.aload_n 0, 1) := by decide +kernel
theorem dX8_product_6 : decode cX8_product 6 = .ok (.invokevirtual 176, 3) := by decide +kernel
theorem dX8_product_9 : decode cX8_product 9 = .ok (.istore_n 2, 1) := by decide +kernel
theorem dX8_product_10 : decode cX8_product 10 = .ok (.aload_n 0, 1) := by decide +kernel
theorem dX8_product_11 : decode cX8_product 11 = .ok (.getfield 173, 3) := by decide +kernel
theorem dX8_product_14 : decode cX8_product 14 = .ok (.ifCond .ge 80, 3) := by decide +kernel
theorem dX8_product_17 : decode cX8_product 17 = .ok (.iload_n 2, 1) := by decide +kernel
theorem dX8_product_18 : decode cX8_product 18 = .ok (.bipush 42, 2) := by decide +kernel
theorem dX8_product_20 : decode cX8_product 20 = .ok (.if_icmp .eq 15, 3) := by decide +kernel
theorem dX8_product_23 : decode cX8_product 23 = .ok (.iload_n 2, 1) := by decide +kernel
theorem dX8_product_24 : decode cX8_product 24 = .ok (.bipush 47, 2) := by decide +kernel
theorem dX8_product_26 : decode cX8_product 26 = .ok (.if_icmp .eq 9, 3) := by decide +kernel
theorem dX8_product_29 : decode cX8_product 29 = .ok (.iload_n 2, 1) := by decide +kernel
theorem dX8_product_30 : decode cX8_product 30 = .ok (.bipush 37, 2) := by decide +kernel
theorem dX8_product_32 : decode cX8_product 32 = .ok (.if_icmp .ne 62, 3) := by decide +kernel
theorem dX8_product_35 : decode cX8_product 35 = .ok (.aload_n 0, 1) := by decide +kernel
theorem dX8_product_36 : decode cX8_product 36 = .ok (.dup, 1) := by decide +kernel
theorem dX8_product_37 : decode cX8_product 37 = .ok (.getfield 164, 3) := by decide +kernel
theorem dX8_product_40 : decode cX8_product 40 = .ok (.iconst 1, 1) := by decide +kernel
theorem dX8_product_41 : decode cX8_product 41 = .ok (.iadd, 1) := by decide +kernel
theorem dX8_product_42 : decode cX8_product 42 = .ok (.putfield 164, 3) := by decide +kernel
theorem dX8_product_45 : decode cX8_product 45 = .ok (.aload_n 0, 1) := by decide +kernel
theorem dX8_product_46 : decode cX8_product 46 = .ok (.invokevirtual 195, 3) := by decide +kernel
theorem dX8_product_49 : decode cX8_product 49 = .ok (.istore_n 3, 1) := by decide +kernel
theorem dX8_product_50 : decode cX8_product 50 = .ok (.iload_n 2, 1) := by decide +kernel
theorem dX8_product_51 : decode cX8_product 51 = .ok (.bipush 42, 2) := by decide +kernel
theorem dX8_product_53 : decode cX8_product 53 = .ok (.if_icmp .ne 9, 3) := by decide +kernel
theorem dX8_product_56 : decode cX8_product 56 = .ok (.iload_n 1, 1) := by decide +kernel
theorem dX8_product_57 : decode cX8_product 57 = .ok (.iload_n 3, 1) := by decide +kernel
theorem dX8_product_58 : decode cX8_product 58 = .ok (.imul, 1) := by decide +kernel
theorem dX8_product_59 : decode cX8_product 59 = .ok (.goto 26, 3) := by decide +kernel
theorem dX8_product_62 : decode cX8_product 62 = .ok (.iload_n 3, 1) := by decide +kernel
theorem dX8_product_63 : decode cX8_product 63 = .ok (.ifCond .ne 7, 3) := by decide +kernel
theorem dX8_product_66 : decode cX8_product 66 = .ok (.iconst 0, 1) := by decide +kernel
theorem dX8_product_67 : decode cX8_product 67 = .ok (.goto 18, 3) := by decide +kernel
theorem dX8_product_70 : decode cX8_product 70 = .ok (.iload_n 2, 1) := by decide +kernel
theorem dX8_product_71 : decode cX8_product 71 = .ok (.bipush 47, 2) := by decide +kernel
theorem dX8_product_73 : decode cX8_product 73 = .ok (.if_icmp .ne 9, 3) := by decide +kernel
theorem dX8_product_76 : decode cX8_product 76 = .ok (.iload_n 1, 1) := by decide +kernel
theorem dX8_product_77 : decode cX8_product 77 = .ok (.iload_n 3, 1) := by decide +kernel
theorem dX8_product_78 : decode cX8_product 78 = .ok (.idiv, 1) := by decide +kernel
theorem dX8_product_79 : decode cX8_product 79 = .ok (.goto 6, 3) := by decide +kernel
theorem dX8_product_82 : decode cX8_product 82 = .ok (.iload_n 1, 1) := by decide +kernel
theorem dX8_product_83 : decode cX8_product 83 = .ok (.iload_n 3, 1) := by decide +kernel
theorem dX8_product_84 : decode cX8_product 84 = .ok (.irem, 1) := by decide +kernel
theorem dX8_product_85 : decode cX8_product 85 = .ok (.istore_n 1, 1) := by decide +kernel
theorem dX8_product_86 : decode cX8_product 86 = .ok (.aload_n 0, 1) := by decide +kernel
theorem dX8_product_87 : decode cX8_product 87 = .ok (.invokevirtual 176, 3) := by decide +kernel
theorem dX8_product_90 : decode cX8_product 90 = .ok (.istore_n 2, 1) := by decide +kernel
theorem dX8_product_91 : decode cX8_product 91 = .ok (.goto (-81), 3) := by decide +kernel
theorem dX8_product_94 : decode cX8_product 94 = .ok (.iload_n 1, 1) := by decide +kernel
theorem dX8_product_95 : decode cX8_product 95 = .ok (.ireturn, 1) := by decide +kernel
theorem dX8_nameOf_0 : decode cX8_nameOf 0 = .ok (.iload_n 0, 1) := by decide +kernel
theorem dX8_nameOf_1 : decode cX8_nameOf 1 = .ok (.tableswitch 99 97 114 #[95, 97, 99, 87, 99, 99, 99, 93, 99, 99, 99, 99, 99, 99, 99, 99, 91, 89], 87) := by decide +kernel
theorem dX8_nameOf_88 : decode cX8_nameOf 88 = .ok (.iconst 0, 1) := by decide +kernel
theorem dX8_nameOf_89 : decode cX8_nameOf 89 = .ok (.ireturn, 1) := by decide +kernel
theorem dX8_nameOf_90 : decode cX8_nameOf 90 = .ok (.iconst 1, 1) := by decide +kernel
theorem dX8_nameOf_91 : decode cX8_nameOf 91 = .ok (.ireturn, 1) := by decide +kernel
theorem dX8_nameOf_92 : decode cX8_nameOf 92 = .ok (.iconst 2, 1) := by decide +kernel
theorem dX8_nameOf_93 : decode cX8_nameOf 93 = .ok (.ireturn, 1) := by decide +kernel
theorem dX8_nameOf_94 : decode cX8_nameOf 94 = .ok (.iconst 3, 1) := by decide +kernel
theorem dX8_nameOf_95 : decode cX8_nameOf 95 = .ok (.ireturn, 1) := by decide +kernel
theorem dX8_nameOf_96 : decode cX8_nameOf 96 = .ok (.iconst 4, 1) := by decide +kernel
theorem dX8_nameOf_97 : decode cX8_nameOf 97 = .ok (.ireturn, 1) := by decide +kernel
theorem dX8_nameOf_98 : decode cX8_nameOf 98 = .ok (.iconst 5, 1) := by decide +kernel
theorem dX8_nameOf_99 : decode cX8_nameOf 99 = .ok (.ireturn, 1) := by decide +kernel
theorem dX8_nameOf_100 : decode cX8_nameOf 100 = .ok (.iconst (-1), 1) := by decide +kernel
theorem dX8_nameOf_101 : decode cX8_nameOf 101 = .ok (.ireturn, 1) := by decide +kernel
set_option maxRecDepth 20000 in
theorem ggX8_one_X8_byteAt : GoodIn wsX8_one wsX8_byteAt := goodIn_r _ [9, 3, 10, 11, 12, 13, 48, 49, 50, 51, 52, 53, 54, 55, 56, 57, 58, 59, 60, 61, 62, 63, 64, 65, 66, 67, 68, 69, 70, 71, 72, 73, 74, 75, 76, 77, 78, 79, 80, 81, 82, 83, 84, 85, 86, 87, 88, 89, 90, 91, 92, 93, 94, 95] (by decide +kernel) (by decide +kernel)
set_option maxRecDepth 20000 in
theorem gX8_one_X8_byteAt : GoodIn wsX8_one (wsV RX8 176 RX8 yX8_byteAt wsX8_byteAt) := goodIn_app (goodIn_of _ (by decide +kernel)) ggX8_one_X8_byteAt
set_option maxRecDepth 20000 in
theorem ggX8_one_X8_wrong : GoodIn wsX8_one wsX8_wrong := goodIn_r _ [17, 1, 3, 48, 49, 50, 51, 52, 53, 54, 55, 56, 57, 58, 59, 60, 61, 62, 63, 64, 65, 66, 67, 68, 69, 70, 71, 72, 73, 74, 75, 76, 77, 78, 79, 80, 81, 82, 83, 84, 85, 86, 87, 88, 89, 90, 91, 92, 93, 94, 95] (by decide +kernel) (by decide +kernel)
set_option maxRecDepth 20000 in
theorem gX8_one_X8_wrong : GoodIn wsX8_one (wsV RX8 201 RX8 yX8_wrong wsX8_wrong) := goodIn_app (goodIn_of _ (by decide +kernel)) ggX8_one_X8_wrong
set_option maxRecDepth 20000 in
theorem ggX8_one_X8_either : GoodIn wsX8_one wsX8_either := goodIn_r _ [39, 40, 41, 42, 8, 24, 25, 26, 27, 1, 3, 5, 6, 7, 9, 10, 11, 12, 13, 31, 32, 33, 34, 35, 36, 37, 38, 0, 2, 4, 14, 15, 16, 17, 18, 19, 20, 21, 22, 23, 28, 29, 30, 43, 44, 45, 46, 47, 48, 49, 50, 51, 52, 53, 54, 55, 56, 57, 58, 59, 60, 61, 62, 63, 64, 65, 66, 67, 68, 69, 70, 71, 72, 73, 74, 75, 76, 77, 78, 79, 80, 81, 82, 83, 84, 85, 86, 87, 88, 89, 90, 91, 92, 93, 94, 95] (by decide +kernel) (by decide +kernel)
set_option maxRecDepth 20000 in
theorem gX8_one_X8_either : GoodIn wsX8_one (wsV RX8 204 RX8 yX8_either wsX8_either) := goodIn_app (goodIn_of _ (by decide +kernel)) ggX8_one_X8_either
set_option maxRecDepth 20000 in
theorem ggX8_one_X8_one : GoodIn wsX8_one wsX8_one := goodIn_r _ [0, 1, 2, 3, 4, 5, 6, 7, 8, 9, 10, 11, 12, 13, 14, 15, 16, 17, 18, 19, 20, 21, 22, 23, 24, 25, 26, 27, 28, 29, 30, 31, 32, 33, 34, 35, 36, 37, 38, 39, 40, 41, 42, 43, 44, 45, 46, 47, 48, 49, 50, 51, 52, 53, 54, 55, 56, 57, 58, 59, 60, 61, 62, 63, 64, 65, 66, 67, 68, 69, 70, 71, 72, 73, 74, 75, 76, 77, 78, 79, 80, 81, 82, 83, 84, 85, 86, 87, 88, 89, 90, 91, 92, 93, 94, 95] (by decide +kernel) (by decide +kernel)
set_option maxRecDepth 20000 in
theorem gX8_one_X8_one : GoodIn wsX8_one (wsV RX8 195 RX8 yX8_one wsX8_one) := goodIn_app (goodIn_of _ (by decide +kernel)) ggX8_one_X8_one
set_option maxRecDepth 20000 in
theorem ggX8_one_X8_takes : GoodIn wsX8_one wsX8_takes := goodIn_r _ [27, 1, 3, 5, 6, 7, 8, 9, 10, 11, 12, 13, 48, 49, 50, 51, 52, 53, 54, 55, 56, 57, 58, 59, 60, 61, 62, 63, 64, 65, 66, 67, 68, 69, 70, 71, 72, 73, 74, 75, 76, 77, 78, 79, 80, 81, 82, 83, 84, 85, 86, 87, 88, 89, 90, 91, 92, 93, 94, 95] (by decide +kernel) (by decide +kernel)
set_option maxRecDepth 20000 in
theorem gX8_one_X8_takes : GoodIn wsX8_one (wsV RX8 183 RX8 yX8_takes wsX8_takes) := goodIn_app (goodIn_of _ (by decide +kernel)) ggX8_one_X8_takes
set_option maxRecDepth 20000 in
theorem ggX8_one_X8_nameOf : GoodIn wsX8_one wsX8_nameOf := goodIn_r _ [30] (by decide +kernel) (by decide +kernel)
set_option maxRecDepth 20000 in
theorem gX8_one_X8_nameOf : GoodIn wsX8_one (va_wsS RX8 207 yX8_nameOf wsX8_nameOf) := goodIn_app (goodIn_of _ (by decide +kernel)) ggX8_one_X8_nameOf
theorem dX8_one_0 : decode cX8_one 0 = .ok (.aload_n 0, 1) := by decide +kernel
theorem dX8_one_1 : decode cX8_one 1 = .ok (.getfield 173, 3) := by decide +kernel
theorem dX8_one_4 : decode cX8_one 4 = .ok (.ifCond .lt 5, 3) := by decide +kernel
theorem dX8_one_7 : decode cX8_one 7 = .ok (.iconst 0, 1) := by decide +kernel
theorem dX8_one_8 : decode cX8_one 8 = .ok (.ireturn, 1) := by decide +kernel
theorem dX8_one_9 : decode cX8_one 9 = .ok (.aload_n 0, 1) := by decide +kernel
theorem dX8_one_10 : decode cX8_one 10 = .ok (.invokevirtual 176, 3) := by decide +kernel
theorem dX8_one_13 : decode cX8_one 13 = .ok (.istore_n 1, 1) := by decide +kernel
theorem dX8_one_14 : decode cX8_one 14 = .ok (.iload_n 1, 1) := by decide +kernel
theorem dX8_one_15 : decode cX8_one 15 = .ok (.bipush 33, 2) := by decide +kernel
theorem dX8_one_17 : decode cX8_one 17 = .ok (.if_icmp .eq 15, 3) := by decide +kernel
theorem dX8_one_20 : decode cX8_one 20 = .ok (.iload_n 1, 1) := by decide +kernel
theorem dX8_one_21 : decode cX8_one 21 = .ok (.bipush 45, 2) := by decide +kernel
theorem dX8_one_23 : decode cX8_one 23 = .ok (.if_icmp .eq 9, 3) := by decide +kernel
theorem dX8_one_26 : decode cX8_one 26 = .ok (.iload_n 1, 1) := by decide +kernel
theorem dX8_one_27 : decode cX8_one 27 = .ok (.bipush 40, 2) := by decide +kernel
theorem dX8_one_29 : decode cX8_one 29 = .ok (.if_icmp .ne 116, 3) := by decide +kernel
theorem dX8_one_32 : decode cX8_one 32 = .ok (.aload_n 0, 1) := by decide +kernel
theorem dX8_one_33 : decode cX8_one 33 = .ok (.getfield 198, 3) := by decide +kernel
theorem dX8_one_36 : decode cX8_one 36 = .ok (.bipush 6, 2) := by decide +kernel
theorem dX8_one_38 : decode cX8_one 38 = .ok (.if_icmp .ne 8, 3) := by decide +kernel
theorem dX8_one_41 : decode cX8_one 41 = .ok (.aload_n 0, 1) := by decide +kernel
theorem dX8_one_42 : decode cX8_one 42 = .ok (.invokevirtual 201, 3) := by decide +kernel
theorem dX8_one_45 : decode cX8_one 45 = .ok (.ireturn, 1) := by decide +kernel
theorem dX8_one_46 : decode cX8_one 46 = .ok (.aload_n 0, 1) := by decide +kernel
theorem dX8_one_47 : decode cX8_one 47 = .ok (.dup, 1) := by decide +kernel
theorem dX8_one_48 : decode cX8_one 48 = .ok (.getfield 198, 3) := by decide +kernel
theorem dX8_one_51 : decode cX8_one 51 = .ok (.iconst 1, 1) := by decide +kernel
theorem dX8_one_52 : decode cX8_one 52 = .ok (.iadd, 1) := by decide +kernel
theorem dX8_one_53 : decode cX8_one 53 = .ok (.putfield 198, 3) := by decide +kernel
theorem dX8_one_56 : decode cX8_one 56 = .ok (.aload_n 0, 1) := by decide +kernel
theorem dX8_one_57 : decode cX8_one 57 = .ok (.dup, 1) := by decide +kernel
theorem dX8_one_58 : decode cX8_one 58 = .ok (.getfield 164, 3) := by decide +kernel
theorem dX8_one_61 : decode cX8_one 61 = .ok (.iconst 1, 1) := by decide +kernel
theorem dX8_one_62 : decode cX8_one 62 = .ok (.iadd, 1) := by decide +kernel
theorem dX8_one_63 : decode cX8_one 63 = .ok (.putfield 164, 3) := by decide +kernel
theorem dX8_one_66 : decode cX8_one 66 = .ok (.iload_n 1, 1) := by decide +kernel
theorem dX8_one_67 : decode cX8_one 67 = .ok (.bipush 40, 2) := by decide +kernel
theorem dX8_one_69 : decode cX8_one 69 = .ok (.if_icmp .ne 10, 3) := by decide +kernel
theorem dX8_one_72 : decode cX8_one 72 = .ok (.aload_n 0, 1) := by decide +kernel
theorem dX8_one_73 : decode cX8_one 73 = .ok (.invokevirtual 204, 3) := by decide +kernel
theorem dX8_one_76 : decode cX8_one 76 = .ok (.goto 7, 3) := by decide +kernel
theorem dX8_one_79 : decode cX8_one 79 = .ok (.aload_n 0, 1) := by decide +kernel
theorem dX8_one_80 : decode cX8_one 80 = .ok (.invokevirtual 195, 3) := by decide +kernel
theorem dX8_one_83 : decode cX8_one 83 = .ok (.istore_n 2, 1) := by decide +kernel
theorem dX8_one_84 : decode cX8_one 84 = .ok (.iload_n 1, 1) := by decide +kernel
theorem dX8_one_85 : decode cX8_one 85 = .ok (.bipush 40, 2) := by decide +kernel
theorem dX8_one_87 : decode cX8_one 87 = .ok (.if_icmp .ne 17, 3) := by decide +kernel
theorem dX8_one_90 : decode cX8_one 90 = .ok (.aload_n 0, 1) := by decide +kernel
theorem dX8_one_91 : decode cX8_one 91 = .ok (.bipush 41, 2) := by decide +kernel
theorem dX8_one_93 : decode cX8_one 93 = .ok (.invokevirtual 183, 3) := by decide +kernel
theorem dX8_one_96 : decode cX8_one 96 = .ok (.ifCond .ne 8, 3) := by decide +kernel
theorem dX8_one_99 : decode cX8_one 99 = .ok (.aload_n 0, 1) := by decide +kernel
theorem dX8_one_100 : decode cX8_one 100 = .ok (.invokevirtual 201, 3) := by decide +kernel
theorem dX8_one_103 : decode cX8_one 103 = .ok (.ireturn, 1) := by decide +kernel
theorem dX8_one_104 : decode cX8_one 104 = .ok (.aload_n 0, 1) := by decide +kernel
theorem dX8_one_105 : decode cX8_one 105 = .ok (.dup, 1) := by decide +kernel
theorem dX8_one_106 : decode cX8_one 106 = .ok (.getfield 198, 3) := by decide +kernel
theorem dX8_one_109 : decode cX8_one 109 = .ok (.iconst 1, 1) := by decide +kernel
theorem dX8_one_110 : decode cX8_one 110 = .ok (.isub, 1) := by decide +kernel
theorem dX8_one_111 : decode cX8_one 111 = .ok (.putfield 198, 3) := by decide +kernel
theorem dX8_one_114 : decode cX8_one 114 = .ok (.iload_n 1, 1) := by decide +kernel
theorem dX8_one_115 : decode cX8_one 115 = .ok (.bipush 40, 2) := by decide +kernel
theorem dX8_one_117 : decode cX8_one 117 = .ok (.if_icmp .ne 7, 3) := by decide +kernel
theorem dX8_one_120 : decode cX8_one 120 = .ok (.iload_n 2, 1) := by decide +kernel
theorem dX8_one_121 : decode cX8_one 121 = .ok (.goto 23, 3) := by decide +kernel
theorem dX8_one_124 : decode cX8_one 124 = .ok (.iload_n 1, 1) := by decide +kernel
theorem dX8_one_125 : decode cX8_one 125 = .ok (.bipush 45, 2) := by decide +kernel
theorem dX8_one_127 : decode cX8_one 127 = .ok (.if_icmp .ne 8, 3) := by decide +kernel
theorem dX8_one_130 : decode cX8_one 130 = .ok (.iload_n 2, 1) := by decide +kernel
theorem dX8_one_131 : decode cX8_one 131 = .ok (.ineg, 1) := by decide +kernel
theorem dX8_one_132 : decode cX8_one 132 = .ok (.goto 12, 3) := by decide +kernel
theorem dX8_one_135 : decode cX8_one 135 = .ok (.iload_n 2, 1) := by decide +kernel
theorem dX8_one_136 : decode cX8_one 136 = .ok (.ifCond .ne 7, 3) := by decide +kernel
theorem dX8_one_139 : decode cX8_one 139 = .ok (.iconst 1, 1) := by decide +kernel
theorem dX8_one_140 : decode cX8_one 140 = .ok (.goto 4, 3) := by decide +kernel
theorem dX8_one_143 : decode cX8_one 143 = .ok (.iconst 0, 1) := by decide +kernel
theorem dX8_one_144 : decode cX8_one 144 = .ok (.ireturn, 1) := by decide +kernel
theorem dX8_one_145 : decode cX8_one 145 = .ok (.iload_n 1, 1) := by decide +kernel
theorem dX8_one_146 : decode cX8_one 146 = .ok (.invokestatic 207, 3) := by decide +kernel
theorem dX8_one_149 : decode cX8_one 149 = .ok (.istore_n 2, 1) := by decide +kernel
theorem dX8_one_150 : decode cX8_one 150 = .ok (.iload_n 2, 1) := by decide +kernel
theorem dX8_one_151 : decode cX8_one 151 = .ok (.ifCond .lt 20, 3) := by decide +kernel
theorem dX8_one_154 : decode cX8_one 154 = .ok (.aload_n 0, 1) := by decide +kernel
theorem dX8_one_155 : decode cX8_one 155 = .ok (.dup, 1) := by decide +kernel
theorem dX8_one_156 : decode cX8_one 156 = .ok (.getfield 164, 3) := by decide +kernel
theorem dX8_one_159 : decode cX8_one 159 = .ok (.iconst 1, 1) := by decide +kernel
theorem dX8_one_160 : decode cX8_one 160 = .ok (.iadd, 1) := by decide +kernel
theorem dX8_one_161 : decode cX8_one 161 = .ok (.putfield 164, 3) := by decide +kernel
theorem dX8_one_164 : decode cX8_one 164 = .ok (.aload_n 0, 1) := by decide +kernel
theorem dX8_one_165 : decode cX8_one 165 = .ok (.getfield 28, 3) := by decide +kernel
theorem dX8_one_168 : decode cX8_one 168 = .ok (.iload_n 2, 1) := by decide +kernel
theorem dX8_one_169 : decode cX8_one 169 = .ok (.iaload, 1) := by decide +kernel
theorem dX8_one_170 : decode cX8_one 170 = .ok (.ireturn, 1) := by decide +kernel
theorem dX8_one_171 : decode cX8_one 171 = .ok (.iconst 0, 1) := by decide +kernel
theorem dX8_one_172 : decode cX8_one 172 = .ok (.istore_n 3, 1) := by decide +kernel
theorem dX8_one_173 : decode cX8_one 173 = .ok (.iconst 0, 1) := by decide +kernel
theorem dX8_one_174 : decode cX8_one 174 = .ok (.istore 4, 2) := by decide +kernel
theorem dX8_one_176 : decode cX8_one 176 = .ok (.iload 4, 2) := by decide +kernel
theorem dX8_one_178 : decode cX8_one 178 = .ok (.iconst 4, 1) := by decide +kernel
theorem dX8_one_179 : decode cX8_one 179 = .ok (.if_icmp .ge 50, 3) := by decide +kernel
theorem dX8_one_182 : decode cX8_one 182 = .ok (.aload_n 0, 1) := by decide +kernel
theorem dX8_one_183 : decode cX8_one 183 = .ok (.invokevirtual 176, 3) := by decide +kernel
theorem dX8_one_186 : decode cX8_one 186 = .ok (.bipush 48, 2) := by decide +kernel
theorem dX8_one_188 : decode cX8_one 188 = .ok (.if_icmp .lt 41, 3) := by decide +kernel
theorem dX8_one_191 : decode cX8_one 191 = .ok (.aload_n 0, 1) := by decide +kernel
theorem dX8_one_192 : decode cX8_one 192 = .ok (.invokevirtual 176, 3) := by decide +kernel
theorem dX8_one_195 : decode cX8_one 195 = .ok (.bipush 57, 2) := by decide +kernel
theorem dX8_one_197 : decode cX8_one 197 = .ok (.if_icmp .gt 32, 3) := by decide +kernel
theorem dX8_one_200 : decode cX8_one 200 = .ok (.bipush 10, 2) := by decide +kernel
theorem dX8_one_202 : decode cX8_one 202 = .ok (.iload_n 3, 1) := by decide +kernel
theorem dX8_one_203 : decode cX8_one 203 = .ok (.imul, 1) := by decide +kernel
theorem dX8_one_204 : decode cX8_one 204 = .ok (.aload_n 0, 1) := by decide +kernel
theorem dX8_one_205 : decode cX8_one 205 = .ok (.invokevirtual 176, 3) := by decide +kernel
theorem dX8_one_208 : decode cX8_one 208 = .ok (.iadd, 1) := by decide +kernel
theorem dX8_one_209 : decode cX8_one 209 = .ok (.bipush 48, 2) := by decide +kernel
theorem dX8_one_211 : decode cX8_one 211 = .ok (.isub, 1) := by decide +kernel
theorem dX8_one_212 : decode cX8_one 212 = .ok (.istore_n 3, 1) := by decide +kernel
theorem dX8_one_213 : decode cX8_one 213 = .ok (.iinc 4 1, 3) := by decide +kernel
theorem dX8_one_216 : decode cX8_one 216 = .ok (.aload_n 0, 1) := by decide +kernel
theorem dX8_one_217 : decode cX8_one 217 = .ok (.dup, 1) := by decide +kernel
theorem dX8_one_218 : decode cX8_one 218 = .ok (.getfield 164, 3) := by decide +kernel
theorem dX8_one_221 : decode cX8_one 221 = .ok (.iconst 1, 1) := by decide +kernel
theorem dX8_one_222 : decode cX8_one 222 = .ok (.iadd, 1) := by decide +kernel
theorem dX8_one_223 : decode cX8_one 223 = .ok (.putfield 164, 3) := by decide +kernel
theorem dX8_one_226 : decode cX8_one 226 = .ok (.goto (-50), 3) := by decide +kernel
theorem dX8_one_229 : decode cX8_one 229 = .ok (.iload 4, 2) := by decide +kernel
theorem dX8_one_231 : decode cX8_one 231 = .ok (.ifCond .ne 10, 3) := by decide +kernel
theorem dX8_one_234 : decode cX8_one 234 = .ok (.aload_n 0, 1) := by decide +kernel
theorem dX8_one_235 : decode cX8_one 235 = .ok (.invokevirtual 201, 3) := by decide +kernel
theorem dX8_one_238 : decode cX8_one 238 = .ok (.goto 4, 3) := by decide +kernel
theorem dX8_one_241 : decode cX8_one 241 = .ok (.iload_n 3, 1) := by decide +kernel
theorem dX8_one_242 : decode cX8_one 242 = .ok (.ireturn, 1) := by decide +kernel
set_option maxRecDepth 20000 in
theorem ggX8_workOut_X8_either : GoodIn wsX8_workOut wsX8_either := goodIn_r _ [10, 11, 12, 13, 9, 14, 15, 16, 17, 4, 2, 18, 19, 20, 21, 3, 1, 22, 23, 24, 25, 26, 27, 28, 29, 30, 31, 32, 5, 33, 34, 35, 36, 37, 6, 7, 8, 38, 39, 40, 41, 42, 43, 44, 45, 46, 47, 48, 49, 50, 51, 52, 53, 54, 55, 56, 57, 58, 59, 60, 61, 62, 63, 64, 65, 66, 67, 68, 69, 70, 71, 72, 73, 74, 75, 76, 77, 78, 79, 80, 81, 82, 83, 84, 85, 86, 87, 88, 89, 90, 91, 92, 93, 94, 95, 96] (by decide +kernel) (by decide +kernel)
set_option maxRecDepth 20000 in
theorem gX8_workOut_X8_either : GoodIn wsX8_workOut (wsV RX8 204 RX8 yX8_either wsX8_either) := goodIn_app (goodIn_of _ (by decide +kernel)) ggX8_workOut_X8_either
set_option maxRecDepth 20000 in
theorem ggX8_workOut_X8_takes : GoodIn wsX8_workOut wsX8_takes := goodIn_r _ [17, 4, 2, 18, 19, 20, 9, 21, 3, 1, 22, 23, 49, 50, 51, 52, 53, 54, 55, 56, 57, 58, 59, 60, 61, 62, 63, 64, 65, 66, 67, 68, 69, 70, 71, 72, 73, 74, 75, 76, 77, 78, 79, 80, 81, 82, 83, 84, 85, 86, 87, 88, 89, 90, 91, 92, 93, 94, 95, 96] (by decide +kernel) (by decide +kernel)
set_option maxRecDepth 20000 in
theorem gX8_workOut_X8_takes : GoodIn wsX8_workOut (wsV RX8 183 RX8 yX8_takes wsX8_takes) := goodIn_app (goodIn_of _ (by decide +kernel)) ggX8_workOut_X8_takes
set_option maxRecDepth 20000 in
theorem ggX8_workOut_X8_wrong : GoodIn wsX8_workOut wsX8_wrong := goodIn_r _ [37, 4, 2, 49, 50, 51, 52, 53, 54, 55, 56, 57, 58, 59, 60, 61, 62, 63, 64, 65, 66, 67, 68, 69, 70, 71, 72, 73, 74, 75, 76, 77, 78, 79, 80, 81, 82, 83, 84, 85, 86, 87, 88, 89, 90, 91, 92, 93, 94, 95, 96] (by decide +kernel) (by decide +kernel)
set_option maxRecDepth 20000 in
theorem gX8_workOut_X8_wrong : GoodIn wsX8_workOut (wsV RX8 201 RX8 yX8_wrong wsX8_wrong) := goodIn_app (goodIn_of _ (by decide +kernel)) ggX8_workOut_X8_wrong
theorem dX8_workOut_0 : decode cX8_workOut 0 = .ok (.aload_n 0, 1) := by decide +kernel
theorem dX8_workOut_1 : decode cX8_workOut 1 = .ok (.iload_n 1, 1) := by decide +kernel
theorem dX8_workOut_2 : decode cX8_workOut 2 = .ok (.putfield 170, 3) := by decide +kernel
theorem dX8_workOut_5 : decode cX8_workOut 5 = .ok (.aload_n 0, 1) := by decide +kernel
theorem dX8_workOut_6 : decode cX8_workOut 6 = .ok (.iconst 0, 1) := by decide +kernel
theorem dX8_workOut_7 : decode cX8_workOut 7 = .ok (.putfield 164, 3) := by decide +kernel
theorem dX8_workOut_10 : decode cX8_workOut 10 = .ok (.aload_n 0, 1) := by decide +kernel
theorem dX8_workOut_11 : decode cX8_workOut 11 = .ok (.iload_n 2, 1) := by decide +kernel
theorem dX8_workOut_12 : decode cX8_workOut 12 = .ok (.putfield 167, 3) := by decide +kernel
theorem dX8_workOut_15 : decode cX8_workOut 15 = .ok (.aload_n 0, 1) := by decide +kernel
theorem dX8_workOut_16 : decode cX8_workOut 16 = .ok (.iconst (-1), 1) := by decide +kernel
theorem dX8_workOut_17 : decode cX8_workOut 17 = .ok (.putfield 173, 3) := by decide +kernel
theorem dX8_workOut_20 : decode cX8_workOut 20 = .ok (.aload_n 0, 1) := by decide +kernel
theorem dX8_workOut_21 : decode cX8_workOut 21 = .ok (.iconst 0, 1) := by decide +kernel
theorem dX8_workOut_22 : decode cX8_workOut 22 = .ok (.putfield 198, 3) := by decide +kernel
theorem dX8_workOut_25 : decode cX8_workOut 25 = .ok (.iconst 0, 1) := by decide +kernel
theorem dX8_workOut_26 : decode cX8_workOut 26 = .ok (.istore_n 3, 1) := by decide +kernel
theorem dX8_workOut_27 : decode cX8_workOut 27 = .ok (.iconst 0, 1) := by decide +kernel
theorem dX8_workOut_28 : decode cX8_workOut 28 = .ok (.istore 4, 2) := by decide +kernel
theorem dX8_workOut_30 : decode cX8_workOut 30 = .ok (.iconst 1, 1) := by decide +kernel
theorem dX8_workOut_31 : decode cX8_workOut 31 = .ok (.istore 5, 2) := by decide +kernel
theorem dX8_workOut_33 : decode cX8_workOut 33 = .ok (.iload 5, 2) := by decide +kernel
theorem dX8_workOut_35 : decode cX8_workOut 35 = .ok (.ifCond .eq 72, 3) := by decide +kernel
theorem dX8_workOut_38 : decode cX8_workOut 38 = .ok (.aload_n 0, 1) := by decide +kernel
theorem dX8_workOut_39 : decode cX8_workOut 39 = .ok (.invokevirtual 204, 3) := by decide +kernel
theorem dX8_workOut_42 : decode cX8_workOut 42 = .ok (.istore 6, 2) := by decide +kernel
theorem dX8_workOut_44 : decode cX8_workOut 44 = .ok (.iconst 1, 1) := by decide +kernel
theorem dX8_workOut_45 : decode cX8_workOut 45 = .ok (.istore 7, 2) := by decide +kernel
theorem dX8_workOut_47 : decode cX8_workOut 47 = .ok (.aload_n 0, 1) := by decide +kernel
theorem dX8_workOut_48 : decode cX8_workOut 48 = .ok (.bipush 63, 2) := by decide +kernel
theorem dX8_workOut_50 : decode cX8_workOut 50 = .ok (.invokevirtual 183, 3) := by decide +kernel
theorem dX8_workOut_53 : decode cX8_workOut 53 = .ok (.ifCond .eq 21, 3) := by decide +kernel
theorem dX8_workOut_56 : decode cX8_workOut 56 = .ok (.iload 6, 2) := by decide +kernel
theorem dX8_workOut_58 : decode cX8_workOut 58 = .ok (.ifCond .eq 7, 3) := by decide +kernel
theorem dX8_workOut_61 : decode cX8_workOut 61 = .ok (.iconst 1, 1) := by decide +kernel
theorem dX8_workOut_62 : decode cX8_workOut 62 = .ok (.goto 4, 3) := by decide +kernel
theorem dX8_workOut_65 : decode cX8_workOut 65 = .ok (.iconst 0, 1) := by decide +kernel
theorem dX8_workOut_66 : decode cX8_workOut 66 = .ok (.istore 7, 2) := by decide +kernel
theorem dX8_workOut_68 : decode cX8_workOut 68 = .ok (.aload_n 0, 1) := by decide +kernel
theorem dX8_workOut_69 : decode cX8_workOut 69 = .ok (.invokevirtual 204, 3) := by decide +kernel
theorem dX8_workOut_72 : decode cX8_workOut 72 = .ok (.istore 6, 2) := by decide +kernel
theorem dX8_workOut_74 : decode cX8_workOut 74 = .ok (.aload_n 0, 1) := by decide +kernel
theorem dX8_workOut_75 : decode cX8_workOut 75 = .ok (.getfield 173, 3) := by decide +kernel
theorem dX8_workOut_78 : decode cX8_workOut 78 = .ok (.ifCond .ge 18, 3) := by decide +kernel
theorem dX8_workOut_81 : decode cX8_workOut 81 = .ok (.iload 7, 2) := by decide +kernel
theorem dX8_workOut_83 : decode cX8_workOut 83 = .ok (.ifCond .eq 13, 3) := by decide +kernel
theorem dX8_workOut_86 : decode cX8_workOut 86 = .ok (.iload_n 3, 1) := by decide +kernel
theorem dX8_workOut_87 : decode cX8_workOut 87 = .ok (.ifCond .ne 9, 3) := by decide +kernel
theorem dX8_workOut_90 : decode cX8_workOut 90 = .ok (.iconst 1, 1) := by decide +kernel
theorem dX8_workOut_91 : decode cX8_workOut 91 = .ok (.istore_n 3, 1) := by decide +kernel
theorem dX8_workOut_92 : decode cX8_workOut 92 = .ok (.iload 6, 2) := by decide +kernel
theorem dX8_workOut_94 : decode cX8_workOut 94 = .ok (.istore 4, 2) := by decide +kernel
theorem dX8_workOut_96 : decode cX8_workOut 96 = .ok (.aload_n 0, 1) := by decide +kernel
theorem dX8_workOut_97 : decode cX8_workOut 97 = .ok (.bipush 59, 2) := by decide +kernel
theorem dX8_workOut_99 : decode cX8_workOut 99 = .ok (.invokevirtual 183, 3) := by decide +kernel
theorem dX8_workOut_102 : decode cX8_workOut 102 = .ok (.istore 5, 2) := by decide +kernel
theorem dX8_workOut_104 : decode cX8_workOut 104 = .ok (.goto (-71), 3) := by decide +kernel
theorem dX8_workOut_107 : decode cX8_workOut 107 = .ok (.aload_n 0, 1) := by decide +kernel
theorem dX8_workOut_108 : decode cX8_workOut 108 = .ok (.getfield 173, 3) := by decide +kernel
theorem dX8_workOut_111 : decode cX8_workOut 111 = .ok (.ifCond .ge 19, 3) := by decide +kernel
theorem dX8_workOut_114 : decode cX8_workOut 114 = .ok (.aload_n 0, 1) := by decide +kernel
theorem dX8_workOut_115 : decode cX8_workOut 115 = .ok (.getfield 164, 3) := by decide +kernel
theorem dX8_workOut_118 : decode cX8_workOut 118 = .ok (.aload_n 0, 1) := by decide +kernel
theorem dX8_workOut_119 : decode cX8_workOut 119 = .ok (.getfield 167, 3) := by decide +kernel
theorem dX8_workOut_122 : decode cX8_workOut 122 = .ok (.if_icmp .ge 8, 3) := by decide +kernel
theorem dX8_workOut_125 : decode cX8_workOut 125 = .ok (.aload_n 0, 1) := by decide +kernel
theorem dX8_workOut_126 : decode cX8_workOut 126 = .ok (.invokevirtual 201, 3) := by decide +kernel
theorem dX8_workOut_129 : decode cX8_workOut 129 = .ok (.ireturn, 1) := by decide +kernel
theorem dX8_workOut_130 : decode cX8_workOut 130 = .ok (.iload 4, 2) := by decide +kernel
theorem dX8_workOut_132 : decode cX8_workOut 132 = .ok (.ireturn, 1) := by decide +kernel
set_option maxRecDepth 20000 in
theorem ggX8_law_X8_workOut : GoodIn wsX8_law wsX8_workOut := goodIn_r _ [10, 11, 12, 13, 2, 14, 15, 16, 17, 9, 18, 19, 20, 21, 22, 23, 24, 25, 26, 27, 28, 29, 4, 3, 30, 31, 32, 33, 34, 35, 36, 37, 38, 39, 40, 41, 42, 43, 44, 45, 46, 47, 48, 49, 50, 51, 52, 53, 54, 55, 56, 57, 58, 59, 60, 61, 62, 63, 64, 65, 66, 67, 68, 69, 70, 71, 72, 73, 74, 75, 76, 77, 78, 79, 80, 81, 82, 83, 84, 85, 86, 87, 88, 89, 90, 91, 92, 93, 94, 95, 96, 97, 98, 99, 100, 101, 102] (by decide +kernel) (by decide +kernel)
set_option maxRecDepth 20000 in
theorem gX8_law_X8_workOut : GoodIn wsX8_law (wsV RX8 210 RX8 yX8_workOut wsX8_workOut) := goodIn_app (goodIn_of _ (by decide +kernel)) ggX8_law_X8_workOut
theorem dX8_law_0 : decode cX8_law 0 = .ok (.aload_n 0, 1) := by decide +kernel
theorem dX8_law_1 : decode cX8_law 1 = .ok (.iconst (-1), 1) := by decide +kernel
theorem dX8_law_2 : decode cX8_law 2 = .ok (.aload_n 0, 1) := by decide +kernel
theorem dX8_law_3 : decode cX8_law 3 = .ok (.getfield 161, 3) := by decide +kernel
theorem dX8_law_6 : decode cX8_law 6 = .ok (.invokevirtual 210, 3) := by decide +kernel
theorem dX8_law_9 : decode cX8_law 9 = .ok (.istore_n 1, 1) := by decide +kernel
theorem dX8_law_10 : decode cX8_law 10 = .ok (.aload_n 0, 1) := by decide +kernel
theorem dX8_law_11 : decode cX8_law 11 = .ok (.getfield 161, 3) := by decide +kernel
theorem dX8_law_14 : decode cX8_law 14 = .ok (.istore_n 2, 1) := by decide +kernel
theorem dX8_law_15 : decode cX8_law 15 = .ok (.aload_n 0, 1) := by decide +kernel
theorem dX8_law_16 : decode cX8_law 16 = .ok (.iconst 0, 1) := by decide +kernel
theorem dX8_law_17 : decode cX8_law 17 = .ok (.putfield 161, 3) := by decide +kernel
theorem dX8_law_20 : decode cX8_law 20 = .ok (.aload_n 0, 1) := by decide +kernel
theorem dX8_law_21 : decode cX8_law 21 = .ok (.getfield 173, 3) := by decide +kernel
theorem dX8_law_24 : decode cX8_law 24 = .ok (.ifCond .lt 11, 3) := by decide +kernel
theorem dX8_law_27 : decode cX8_law 27 = .ok (.bipush (-100), 2) := by decide +kernel
theorem dX8_law_29 : decode cX8_law 29 = .ok (.aload_n 0, 1) := by decide +kernel
theorem dX8_law_30 : decode cX8_law 30 = .ok (.getfield 173, 3) := by decide +kernel
theorem dX8_law_33 : decode cX8_law 33 = .ok (.isub, 1) := by decide +kernel
theorem dX8_law_34 : decode cX8_law 34 = .ok (.ireturn, 1) := by decide +kernel
theorem dX8_law_35 : decode cX8_law 35 = .ok (.iconst 0, 1) := by decide +kernel
theorem dX8_law_36 : decode cX8_law 36 = .ok (.istore_n 3, 1) := by decide +kernel
theorem dX8_law_37 : decode cX8_law 37 = .ok (.iload_n 3, 1) := by decide +kernel
theorem dX8_law_38 : decode cX8_law 38 = .ok (.iload_n 2, 1) := by decide +kernel
theorem dX8_law_39 : decode cX8_law 39 = .ok (.if_icmp .ge 21, 3) := by decide +kernel
theorem dX8_law_42 : decode cX8_law 42 = .ok (.aload_n 0, 1) := by decide +kernel
theorem dX8_law_43 : decode cX8_law 43 = .ok (.getfield 25, 3) := by decide +kernel
theorem dX8_law_46 : decode cX8_law 46 = .ok (.iload_n 3, 1) := by decide +kernel
theorem dX8_law_47 : decode cX8_law 47 = .ok (.aload_n 0, 1) := by decide +kernel
theorem dX8_law_48 : decode cX8_law 48 = .ok (.getfield 22, 3) := by decide +kernel
theorem dX8_law_51 : decode cX8_law 51 = .ok (.iload_n 3, 1) := by decide +kernel
theorem dX8_law_52 : decode cX8_law 52 = .ok (.iaload, 1) := by decide +kernel
theorem dX8_law_53 : decode cX8_law 53 = .ok (.iastore, 1) := by decide +kernel
theorem dX8_law_54 : decode cX8_law 54 = .ok (.iinc 3 1, 3) := by decide +kernel
theorem dX8_law_57 : decode cX8_law 57 = .ok (.goto (-20), 3) := by decide +kernel
theorem dX8_law_60 : decode cX8_law 60 = .ok (.aload_n 0, 1) := by decide +kernel
theorem dX8_law_61 : decode cX8_law 61 = .ok (.iload_n 2, 1) := by decide +kernel
theorem dX8_law_62 : decode cX8_law 62 = .ok (.putfield 84, 3) := by decide +kernel
theorem dX8_law_65 : decode cX8_law 65 = .ok (.iconst 1, 1) := by decide +kernel
theorem dX8_law_66 : decode cX8_law 66 = .ok (.ireturn, 1) := by decide +kernel
set_option maxRecDepth 20000 in
theorem ggX8_doSee_X8_placeAt : GoodIn wsX8_doSee wsX8_placeAt := goodIn_r _ [8, 2, 59, 60, 61, 62, 63, 64, 65, 66, 67, 68, 69, 70, 71, 72, 73, 74, 75, 76, 77, 78, 79, 80, 81, 82, 83, 84, 85, 86, 87, 88, 89, 90, 91, 92, 93, 94, 95, 96, 97, 98, 99, 100, 101, 102, 103, 104, 105, 106] (by decide +kernel) (by decide +kernel)
set_option maxRecDepth 20000 in
theorem gX8_doSee_X8_placeAt : GoodIn wsX8_doSee (wsV RX8 134 RX8 yX8_placeAt wsX8_placeAt) := goodIn_app (goodIn_of _ (by decide +kernel)) ggX8_doSee_X8_placeAt
set_option maxRecDepth 20000 in
theorem ggX8_doSee_X8_workOut : GoodIn wsX8_doSee wsX8_workOut := goodIn_r _ [12, 13, 14, 15, 16, 17, 18, 19, 20, 7, 21, 22, 23, 24, 25, 26, 27, 28, 29, 30, 31, 32, 33, 34, 35, 36, 37, 38, 39, 40, 41, 42, 43, 3, 44, 45, 46, 47, 48, 49, 50, 51, 52, 53, 54, 55, 56, 57, 58, 59, 60, 61, 62, 63, 64, 65, 66, 67, 68, 69, 70, 71, 72, 73, 74, 75, 76, 77, 78, 79, 80, 81, 82, 83, 84, 85, 86, 87, 88, 89, 90, 91, 92, 93, 94, 95, 96, 97, 98, 99, 100, 101, 102, 103, 104, 105, 106] (by decide +kernel) (by decide +kernel)
set_option maxRecDepth 20000 in
theorem gX8_doSee_X8_workOut : GoodIn wsX8_doSee (wsV RX8 210 RX8 yX8_workOut wsX8_workOut) := goodIn_app (goodIn_of _ (by decide +kernel)) ggX8_doSee_X8_workOut
theorem dX8_doSee_0 : decode cX8_doSee 0 = .ok (.iload_n 1, 1) := by decide +kernel
theorem dX8_doSee_1 : decode cX8_doSee 1 = .ok (.iload_n 2, 1) := by decide +kernel
theorem dX8_doSee_2 : decode cX8_doSee 2 = .ok (.if_icmp .ge 7, 3) := by decide +kernel
theorem dX8_doSee_5 : decode cX8_doSee 5 = .ok (.iload_n 1, 1) := by decide +kernel
theorem dX8_doSee_6 : decode cX8_doSee 6 = .ok (.goto 4, 3) := by decide +kernel
theorem dX8_doSee_9 : decode cX8_doSee 9 = .ok (.iload_n 2, 1) := by decide +kernel
theorem dX8_doSee_10 : decode cX8_doSee 10 = .ok (.istore 4, 2) := by decide +kernel
theorem dX8_doSee_12 : decode cX8_doSee 12 = .ok (.iload_n 1, 1) := by decide +kernel
theorem dX8_doSee_13 : decode cX8_doSee 13 = .ok (.iload_n 2, 1) := by decide +kernel
theorem dX8_doSee_14 : decode cX8_doSee 14 = .ok (.if_icmp .ge 7, 3) := by decide +kernel
theorem dX8_doSee_17 : decode cX8_doSee 17 = .ok (.iload_n 2, 1) := by decide +kernel
theorem dX8_doSee_18 : decode cX8_doSee 18 = .ok (.goto 4, 3) := by decide +kernel
theorem dX8_doSee_21 : decode cX8_doSee 21 = .ok (.iload_n 1, 1) := by decide +kernel
theorem dX8_doSee_22 : decode cX8_doSee 22 = .ok (.istore 5, 2) := by decide +kernel
theorem dX8_doSee_24 : decode cX8_doSee 24 = .ok (.aload_n 0, 1) := by decide +kernel
theorem dX8_doSee_25 : decode cX8_doSee 25 = .ok (.iload 4, 2) := by decide +kernel
theorem dX8_doSee_27 : decode cX8_doSee 27 = .ok (.iload_n 3, 1) := by decide +kernel
theorem dX8_doSee_28 : decode cX8_doSee 28 = .ok (.invokevirtual 134, 3) := by decide +kernel
theorem dX8_doSee_31 : decode cX8_doSee 31 = .ok (.istore 6, 2) := by decide +kernel
theorem dX8_doSee_33 : decode cX8_doSee 33 = .ok (.aload_n 0, 1) := by decide +kernel
theorem dX8_doSee_34 : decode cX8_doSee 34 = .ok (.iload 5, 2) := by decide +kernel
theorem dX8_doSee_36 : decode cX8_doSee 36 = .ok (.iload_n 3, 1) := by decide +kernel
theorem dX8_doSee_37 : decode cX8_doSee 37 = .ok (.invokevirtual 134, 3) := by decide +kernel
theorem dX8_doSee_40 : decode cX8_doSee 40 = .ok (.istore 7, 2) := by decide +kernel
theorem dX8_doSee_42 : decode cX8_doSee 42 = .ok (.iload 6, 2) := by decide +kernel
theorem dX8_doSee_44 : decode cX8_doSee 44 = .ok (.iload 7, 2) := by decide +kernel
theorem dX8_doSee_46 : decode cX8_doSee 46 = .ok (.if_icmp .le 11, 3) := by decide +kernel
theorem dX8_doSee_49 : decode cX8_doSee 49 = .ok (.iload 6, 2) := by decide +kernel
theorem dX8_doSee_51 : decode cX8_doSee 51 = .ok (.iload 7, 2) := by decide +kernel
theorem dX8_doSee_53 : decode cX8_doSee 53 = .ok (.isub, 1) := by decide +kernel
theorem dX8_doSee_54 : decode cX8_doSee 54 = .ok (.goto 8, 3) := by decide +kernel
theorem dX8_doSee_57 : decode cX8_doSee 57 = .ok (.iload 7, 2) := by decide +kernel
theorem dX8_doSee_59 : decode cX8_doSee 59 = .ok (.iload 6, 2) := by decide +kernel
theorem dX8_doSee_61 : decode cX8_doSee 61 = .ok (.isub, 1) := by decide +kernel
theorem dX8_doSee_62 : decode cX8_doSee 62 = .ok (.istore 8, 2) := by decide +kernel
theorem dX8_doSee_64 : decode cX8_doSee 64 = .ok (.iload 8, 2) := by decide +kernel
theorem dX8_doSee_66 : decode cX8_doSee 66 = .ok (.sipush 180, 3) := by decide +kernel
theorem dX8_doSee_69 : decode cX8_doSee 69 = .ok (.if_icmp .le 12, 3) := by decide +kernel
theorem dX8_doSee_72 : decode cX8_doSee 72 = .ok (.sipush 360, 3) := by decide +kernel
theorem dX8_doSee_75 : decode cX8_doSee 75 = .ok (.iload 8, 2) := by decide +kernel
theorem dX8_doSee_77 : decode cX8_doSee 77 = .ok (.isub, 1) := by decide +kernel
theorem dX8_doSee_78 : decode cX8_doSee 78 = .ok (.goto 5, 3) := by decide +kernel
theorem dX8_doSee_81 : decode cX8_doSee 81 = .ok (.iload 8, 2) := by decide +kernel
theorem dX8_doSee_83 : decode cX8_doSee 83 = .ok (.istore 9, 2) := by decide +kernel
theorem dX8_doSee_85 : decode cX8_doSee 85 = .ok (.aload_n 0, 1) := by decide +kernel
theorem dX8_doSee_86 : decode cX8_doSee 86 = .ok (.getfield 84, 3) := by decide +kernel
theorem dX8_doSee_89 : decode cX8_doSee 89 = .ok (.ifCond .ge 25, 3) := by decide +kernel
theorem dX8_doSee_92 : decode cX8_doSee 92 = .ok (.iload 9, 2) := by decide +kernel
theorem dX8_doSee_94 : decode cX8_doSee 94 = .ok (.aload_n 0, 1) := by decide +kernel
theorem dX8_doSee_95 : decode cX8_doSee 95 = .ok (.getfield 9, 3) := by decide +kernel
theorem dX8_doSee_98 : decode cX8_doSee 98 = .ok (.bipush 21, 2) := by decide +kernel
theorem dX8_doSee_100 : decode cX8_doSee 100 = .ok (.iaload, 1) := by decide +kernel
theorem dX8_doSee_101 : decode cX8_doSee 101 = .ok (.iadd, 1) := by decide +kernel
theorem dX8_doSee_102 : decode cX8_doSee 102 = .ok (.sipush 180, 3) := by decide +kernel
theorem dX8_doSee_105 : decode cX8_doSee 105 = .ok (.if_icmp .gt 7, 3) := by decide +kernel
theorem dX8_doSee_108 : decode cX8_doSee 108 = .ok (.iconst 1, 1) := by decide +kernel
theorem dX8_doSee_109 : decode cX8_doSee 109 = .ok (.goto 4, 3) := by decide +kernel
theorem dX8_doSee_112 : decode cX8_doSee 112 = .ok (.iconst 0, 1) := by decide +kernel
theorem dX8_doSee_113 : decode cX8_doSee 113 = .ok (.ireturn, 1) := by decide +kernel
theorem dX8_doSee_114 : decode cX8_doSee 114 = .ok (.aload_n 0, 1) := by decide +kernel
theorem dX8_doSee_115 : decode cX8_doSee 115 = .ok (.getfield 28, 3) := by decide +kernel
theorem dX8_doSee_118 : decode cX8_doSee 118 = .ok (.iconst 0, 1) := by decide +kernel
theorem dX8_doSee_119 : decode cX8_doSee 119 = .ok (.iload 9, 2) := by decide +kernel
theorem dX8_doSee_121 : decode cX8_doSee 121 = .ok (.iastore, 1) := by decide +kernel
theorem dX8_doSee_122 : decode cX8_doSee 122 = .ok (.aload_n 0, 1) := by decide +kernel
theorem dX8_doSee_123 : decode cX8_doSee 123 = .ok (.getfield 28, 3) := by decide +kernel
theorem dX8_doSee_126 : decode cX8_doSee 126 = .ok (.iconst 1, 1) := by decide +kernel
theorem dX8_doSee_127 : decode cX8_doSee 127 = .ok (.aload_n 0, 1) := by decide +kernel
theorem dX8_doSee_128 : decode cX8_doSee 128 = .ok (.getfield 9, 3) := by decide +kernel
theorem dX8_doSee_131 : decode cX8_doSee 131 = .ok (.bipush 14, 2) := by decide +kernel
theorem dX8_doSee_133 : decode cX8_doSee 133 = .ok (.iload 4, 2) := by decide +kernel
theorem dX8_doSee_135 : decode cX8_doSee 135 = .ok (.iadd, 1) := by decide +kernel
theorem dX8_doSee_136 : decode cX8_doSee 136 = .ok (.iaload, 1) := by decide +kernel
theorem dX8_doSee_137 : decode cX8_doSee 137 = .ok (.iastore, 1) := by decide +kernel
theorem dX8_doSee_138 : decode cX8_doSee 138 = .ok (.aload_n 0, 1) := by decide +kernel
theorem dX8_doSee_139 : decode cX8_doSee 139 = .ok (.getfield 28, 3) := by decide +kernel
theorem dX8_doSee_142 : decode cX8_doSee 142 = .ok (.iconst 2, 1) := by decide +kernel
theorem dX8_doSee_143 : decode cX8_doSee 143 = .ok (.aload_n 0, 1) := by decide +kernel
theorem dX8_doSee_144 : decode cX8_doSee 144 = .ok (.getfield 9, 3) := by decide +kernel
theorem dX8_doSee_147 : decode cX8_doSee 147 = .ok (.bipush 14, 2) := by decide +kernel
theorem dX8_doSee_149 : decode cX8_doSee 149 = .ok (.iload 5, 2) := by decide +kernel
theorem dX8_doSee_151 : decode cX8_doSee 151 = .ok (.iadd, 1) := by decide +kernel
theorem dX8_doSee_152 : decode cX8_doSee 152 = .ok (.iaload, 1) := by decide +kernel
theorem dX8_doSee_153 : decode cX8_doSee 153 = .ok (.iastore, 1) := by decide +kernel
theorem dX8_doSee_154 : decode cX8_doSee 154 = .ok (.aload_n 0, 1) := by decide +kernel
theorem dX8_doSee_155 : decode cX8_doSee 155 = .ok (.getfield 28, 3) := by decide +kernel
theorem dX8_doSee_158 : decode cX8_doSee 158 = .ok (.iconst 3, 1) := by decide +kernel
theorem dX8_doSee_159 : decode cX8_doSee 159 = .ok (.aload_n 0, 1) := by decide +kernel
theorem dX8_doSee_160 : decode cX8_doSee 160 = .ok (.getfield 9, 3) := by decide +kernel
theorem dX8_doSee_163 : decode cX8_doSee 163 = .ok (.bipush 21, 2) := by decide +kernel
theorem dX8_doSee_165 : decode cX8_doSee 165 = .ok (.iaload, 1) := by decide +kernel
theorem dX8_doSee_166 : decode cX8_doSee 166 = .ok (.iastore, 1) := by decide +kernel
theorem dX8_doSee_167 : decode cX8_doSee 167 = .ok (.aload_n 0, 1) := by decide +kernel
theorem dX8_doSee_168 : decode cX8_doSee 168 = .ok (.getfield 28, 3) := by decide +kernel
theorem dX8_doSee_171 : decode cX8_doSee 171 = .ok (.iconst 4, 1) := by decide +kernel
theorem dX8_doSee_172 : decode cX8_doSee 172 = .ok (.iload 6, 2) := by decide +kernel
theorem dX8_doSee_174 : decode cX8_doSee 174 = .ok (.iastore, 1) := by decide +kernel
theorem dX8_doSee_175 : decode cX8_doSee 175 = .ok (.aload_n 0, 1) := by decide +kernel
theorem dX8_doSee_176 : decode cX8_doSee 176 = .ok (.getfield 28, 3) := by decide +kernel
theorem dX8_doSee_179 : decode cX8_doSee 179 = .ok (.iconst 5, 1) := by decide +kernel
theorem dX8_doSee_180 : decode cX8_doSee 180 = .ok (.iload 7, 2) := by decide +kernel
theorem dX8_doSee_182 : decode cX8_doSee 182 = .ok (.iastore, 1) := by decide +kernel
theorem dX8_doSee_183 : decode cX8_doSee 183 = .ok (.aload_n 0, 1) := by decide +kernel
theorem dX8_doSee_184 : decode cX8_doSee 184 = .ok (.iconst 0, 1) := by decide +kernel
theorem dX8_doSee_185 : decode cX8_doSee 185 = .ok (.aload_n 0, 1) := by decide +kernel
theorem dX8_doSee_186 : decode cX8_doSee 186 = .ok (.getfield 84, 3) := by decide +kernel
theorem dX8_doSee_189 : decode cX8_doSee 189 = .ok (.invokevirtual 210, 3) := by decide +kernel
theorem dX8_doSee_192 : decode cX8_doSee 192 = .ok (.ifCond .eq 7, 3) := by decide +kernel
theorem dX8_doSee_195 : decode cX8_doSee 195 = .ok (.iconst 1, 1) := by decide +kernel
theorem dX8_doSee_196 : decode cX8_doSee 196 = .ok (.goto 4, 3) := by decide +kernel
theorem dX8_doSee_199 : decode cX8_doSee 199 = .ok (.iconst 0, 1) := by decide +kernel
theorem dX8_doSee_200 : decode cX8_doSee 200 = .ok (.ireturn, 1) := by decide +kernel
set_option maxRecDepth 20000 in
theorem ggX8_asksSights_X8_roundOfTwo : GoodIn wsX8_asksSights wsX8_roundOfTwo := goodIn_r _ [7, 8, 9, 10, 6, 11, 72, 73, 74, 75, 76, 77, 78, 79, 80, 81, 82, 83, 84, 85, 86, 87, 88, 89, 90, 91, 92, 93, 94, 95, 96, 97, 98, 99, 100, 101, 102, 103, 104, 105, 106, 107, 108, 109, 110, 111, 112, 113, 114, 115, 116, 117, 118, 119] (by decide +kernel) (by decide +kernel)
set_option maxRecDepth 20000 in
theorem gX8_asksSights_X8_roundOfTwo : GoodIn wsX8_asksSights (wsV RX8 213 RX8 yX8_roundOfTwo wsX8_roundOfTwo) := goodIn_app (goodIn_of _ (by decide +kernel)) ggX8_asksSights_X8_roundOfTwo
set_option maxRecDepth 20000 in
theorem ggX8_asksSights_X8_doSee : GoodIn wsX8_asksSights wsX8_doSee := goodIn_r _ [15, 16, 8, 17, 18, 19, 20, 6, 21, 22, 23, 24, 25, 26, 27, 28, 29, 30, 31, 32, 33, 34, 35, 36, 37, 38, 39, 40, 41, 42, 43, 44, 45, 46, 47, 48, 49, 50, 51, 52, 53, 54, 55, 56, 57, 58, 59, 60, 61, 62, 63, 64, 65, 66, 67, 68, 69, 70, 71, 72, 73, 74, 75, 76, 77, 78, 79, 80, 81, 82, 83, 84, 85, 86, 87, 88, 89, 90, 91, 92, 93, 94, 95, 96, 97, 98, 99, 100, 101, 102, 103, 104, 105, 106, 107, 108, 109, 110, 111, 112, 113, 114, 115, 116, 117, 118, 119] (by decide +kernel) (by decide +kernel)
set_option maxRecDepth 20000 in
theorem gX8_asksSights_X8_doSee : GoodIn wsX8_asksSights (wsV RX8 216 RX8 yX8_doSee wsX8_doSee) := goodIn_app (goodIn_of _ (by decide +kernel)) ggX8_asksSights_X8_doSee
theorem dX8_asksSights_0 : decode cX8_asksSights 0 = .ok (.iconst 0, 1) := by decide +kernel
theorem dX8_asksSights_1 : decode cX8_asksSights 1 = .ok (.istore_n 2, 1) := by decide +kernel
theorem dX8_asksSights_2 : decode cX8_asksSights 2 = .ok (.iload_n 2, 1) := by decide +kernel
theorem dX8_asksSights_3 : decode cX8_asksSights 3 = .ok (.iload_n 1, 1) := by decide +kernel
theorem dX8_asksSights_4 : decode cX8_asksSights 4 = .ok (.if_icmp .ge 92, 3) := by decide +kernel
theorem dX8_asksSights_7 : decode cX8_asksSights 7 = .ok (.iload_n 2, 1) := by decide +kernel
theorem dX8_asksSights_8 : decode cX8_asksSights 8 = .ok (.iconst 1, 1) := by decide +kernel
theorem dX8_asksSights_9 : decode cX8_asksSights 9 = .ok (.iadd, 1) := by decide +kernel
theorem dX8_asksSights_10 : decode cX8_asksSights 10 = .ok (.istore_n 3, 1) := by decide +kernel
theorem dX8_asksSights_11 : decode cX8_asksSights 11 = .ok (.iload_n 3, 1) := by decide +kernel
theorem dX8_asksSights_12 : decode cX8_asksSights 12 = .ok (.iload_n 1, 1) := by decide +kernel
theorem dX8_asksSights_13 : decode cX8_asksSights 13 = .ok (.if_icmp .ge 77, 3) := by decide +kernel
theorem dX8_asksSights_16 : decode cX8_asksSights 16 = .ok (.aload_n 0, 1) := by decide +kernel
theorem dX8_asksSights_17 : decode cX8_asksSights 17 = .ok (.getfield 35, 3) := by decide +kernel
theorem dX8_asksSights_20 : decode cX8_asksSights 20 = .ok (.bipush 7, 2) := by decide +kernel
theorem dX8_asksSights_22 : decode cX8_asksSights 22 = .ok (.iload_n 2, 1) := by decide +kernel
theorem dX8_asksSights_23 : decode cX8_asksSights 23 = .ok (.imul, 1) := by decide +kernel
theorem dX8_asksSights_24 : decode cX8_asksSights 24 = .ok (.iload_n 3, 1) := by decide +kernel
theorem dX8_asksSights_25 : decode cX8_asksSights 25 = .ok (.iadd, 1) := by decide +kernel
theorem dX8_asksSights_26 : decode cX8_asksSights 26 = .ok (.aload_n 0, 1) := by decide +kernel
theorem dX8_asksSights_27 : decode cX8_asksSights 27 = .ok (.iload_n 2, 1) := by decide +kernel
theorem dX8_asksSights_28 : decode cX8_asksSights 28 = .ok (.iload_n 3, 1) := by decide +kernel
theorem dX8_asksSights_29 : decode cX8_asksSights 29 = .ok (.invokevirtual 213, 3) := by decide +kernel
theorem dX8_asksSights_32 : decode cX8_asksSights 32 = .ok (.iastore, 1) := by decide +kernel
theorem dX8_asksSights_33 : decode cX8_asksSights 33 = .ok (.iconst 0, 1) := by decide +kernel
theorem dX8_asksSights_34 : decode cX8_asksSights 34 = .ok (.istore 4, 2) := by decide +kernel
theorem dX8_asksSights_36 : decode cX8_asksSights 36 = .ok (.iload 4, 2) := by decide +kernel
theorem dX8_asksSights_38 : decode cX8_asksSights 38 = .ok (.aload_n 0, 1) := by decide +kernel
theorem dX8_asksSights_39 : decode cX8_asksSights 39 = .ok (.getfield 35, 3) := by decide +kernel
theorem dX8_asksSights_42 : decode cX8_asksSights 42 = .ok (.bipush 7, 2) := by decide +kernel
theorem dX8_asksSights_44 : decode cX8_asksSights 44 = .ok (.iload_n 2, 1) := by decide +kernel
theorem dX8_asksSights_45 : decode cX8_asksSights 45 = .ok (.imul, 1) := by decide +kernel
theorem dX8_asksSights_46 : decode cX8_asksSights 46 = .ok (.iload_n 3, 1) := by decide +kernel
theorem dX8_asksSights_47 : decode cX8_asksSights 47 = .ok (.iadd, 1) := by decide +kernel
theorem dX8_asksSights_48 : decode cX8_asksSights 48 = .ok (.iaload, 1) := by decide +kernel
theorem dX8_asksSights_49 : decode cX8_asksSights 49 = .ok (.if_icmp .ge 35, 3) := by decide +kernel
theorem dX8_asksSights_52 : decode cX8_asksSights 52 = .ok (.aload_n 0, 1) := by decide +kernel
theorem dX8_asksSights_53 : decode cX8_asksSights 53 = .ok (.getfield 31, 3) := by decide +kernel
theorem dX8_asksSights_56 : decode cX8_asksSights 56 = .ok (.sipush 132, 3) := by decide +kernel
theorem dX8_asksSights_59 : decode cX8_asksSights 59 = .ok (.bipush 7, 2) := by decide +kernel
theorem dX8_asksSights_61 : decode cX8_asksSights 61 = .ok (.iload_n 2, 1) := by decide +kernel
theorem dX8_asksSights_62 : decode cX8_asksSights 62 = .ok (.imul, 1) := by decide +kernel
theorem dX8_asksSights_63 : decode cX8_asksSights 63 = .ok (.iload_n 3, 1) := by decide +kernel
theorem dX8_asksSights_64 : decode cX8_asksSights 64 = .ok (.iadd, 1) := by decide +kernel
theorem dX8_asksSights_65 : decode cX8_asksSights 65 = .ok (.imul, 1) := by decide +kernel
theorem dX8_asksSights_66 : decode cX8_asksSights 66 = .ok (.iload 4, 2) := by decide +kernel
theorem dX8_asksSights_68 : decode cX8_asksSights 68 = .ok (.iadd, 1) := by decide +kernel
theorem dX8_asksSights_69 : decode cX8_asksSights 69 = .ok (.aload_n 0, 1) := by decide +kernel
theorem dX8_asksSights_70 : decode cX8_asksSights 70 = .ok (.iload_n 2, 1) := by decide +kernel
theorem dX8_asksSights_71 : decode cX8_asksSights 71 = .ok (.iload_n 3, 1) := by decide +kernel
theorem dX8_asksSights_72 : decode cX8_asksSights 72 = .ok (.iload 4, 2) := by decide +kernel
theorem dX8_asksSights_74 : decode cX8_asksSights 74 = .ok (.invokevirtual 216, 3) := by decide +kernel
theorem dX8_asksSights_77 : decode cX8_asksSights 77 = .ok (.bastore, 1) := by decide +kernel
theorem dX8_asksSights_78 : decode cX8_asksSights 78 = .ok (.iinc 4 1, 3) := by decide +kernel
theorem dX8_asksSights_81 : decode cX8_asksSights 81 = .ok (.goto (-45), 3) := by decide +kernel
theorem dX8_asksSights_84 : decode cX8_asksSights 84 = .ok (.iinc 3 1, 3) := by decide +kernel
theorem dX8_asksSights_87 : decode cX8_asksSights 87 = .ok (.goto (-76), 3) := by decide +kernel
theorem dX8_asksSights_90 : decode cX8_asksSights 90 = .ok (.iinc 2 1, 3) := by decide +kernel
theorem dX8_asksSights_93 : decode cX8_asksSights 93 = .ok (.goto (-91), 3) := by decide +kernel
theorem dX8_asksSights_96 : decode cX8_asksSights 96 = .ok (.return_, 1) := by decide +kernel
theorem dX8_sawAt_0 : decode cX8_sawAt 0 = .ok (.iload_n 1, 1) := by decide +kernel
theorem dX8_sawAt_1 : decode cX8_sawAt 1 = .ok (.iload_n 2, 1) := by decide +kernel
theorem dX8_sawAt_2 : decode cX8_sawAt 2 = .ok (.if_icmp .ge 12, 3) := by decide +kernel
theorem dX8_sawAt_5 : decode cX8_sawAt 5 = .ok (.bipush 7, 2) := by decide +kernel
theorem dX8_sawAt_7 : decode cX8_sawAt 7 = .ok (.iload_n 1, 1) := by decide +kernel
theorem dX8_sawAt_8 : decode cX8_sawAt 8 = .ok (.imul, 1) := by decide +kernel
theorem dX8_sawAt_9 : decode cX8_sawAt 9 = .ok (.iload_n 2, 1) := by decide +kernel
theorem dX8_sawAt_10 : decode cX8_sawAt 10 = .ok (.iadd, 1) := by decide +kernel
theorem dX8_sawAt_11 : decode cX8_sawAt 11 = .ok (.goto 9, 3) := by decide +kernel
theorem dX8_sawAt_14 : decode cX8_sawAt 14 = .ok (.bipush 7, 2) := by decide +kernel
theorem dX8_sawAt_16 : decode cX8_sawAt 16 = .ok (.iload_n 2, 1) := by decide +kernel
theorem dX8_sawAt_17 : decode cX8_sawAt 17 = .ok (.imul, 1) := by decide +kernel
theorem dX8_sawAt_18 : decode cX8_sawAt 18 = .ok (.iload_n 1, 1) := by decide +kernel
theorem dX8_sawAt_19 : decode cX8_sawAt 19 = .ok (.iadd, 1) := by decide +kernel
theorem dX8_sawAt_20 : decode cX8_sawAt 20 = .ok (.istore 4, 2) := by decide +kernel
theorem dX8_sawAt_22 : decode cX8_sawAt 22 = .ok (.aload_n 0, 1) := by decide +kernel
theorem dX8_sawAt_23 : decode cX8_sawAt 23 = .ok (.getfield 31, 3) := by decide +kernel
theorem dX8_sawAt_26 : decode cX8_sawAt 26 = .ok (.sipush 132, 3) := by decide +kernel
theorem dX8_sawAt_29 : decode cX8_sawAt 29 = .ok (.iload 4, 2) := by decide +kernel
theorem dX8_sawAt_31 : decode cX8_sawAt 31 = .ok (.imul, 1) := by decide +kernel
theorem dX8_sawAt_32 : decode cX8_sawAt 32 = .ok (.iload_n 3, 1) := by decide +kernel
theorem dX8_sawAt_33 : decode cX8_sawAt 33 = .ok (.aload_n 0, 1) := by decide +kernel
theorem dX8_sawAt_34 : decode cX8_sawAt 34 = .ok (.getfield 35, 3) := by decide +kernel
theorem dX8_sawAt_37 : decode cX8_sawAt 37 = .ok (.iload 4, 2) := by decide +kernel
theorem dX8_sawAt_39 : decode cX8_sawAt 39 = .ok (.iaload, 1) := by decide +kernel
theorem dX8_sawAt_40 : decode cX8_sawAt 40 = .ok (.irem, 1) := by decide +kernel
theorem dX8_sawAt_41 : decode cX8_sawAt 41 = .ok (.iadd, 1) := by decide +kernel
theorem dX8_sawAt_42 : decode cX8_sawAt 42 = .ok (.baload, 1) := by decide +kernel
theorem dX8_sawAt_43 : decode cX8_sawAt 43 = .ok (.ireturn, 1) := by decide +kernel
set_option maxRecDepth 20000 in
theorem ggX8_sees_X8_isPq : GoodIn wsX8_sees wsX8_isPq := goodIn_r _ [5, 6, 7, 8, 4, 9, 10, 11, 12, 13, 79, 80, 81, 82, 83, 84, 85, 86, 87, 88, 89, 90, 91, 92, 93, 94, 95, 96, 97, 98, 99, 100, 101, 102, 103, 104, 105, 106, 107, 108, 109, 110, 111, 112, 113, 114, 115, 116, 117, 118, 119, 120, 121, 122, 123, 124, 125, 126] (by decide +kernel) (by decide +kernel)
set_option maxRecDepth 20000 in
theorem gX8_sees_X8_isPq : GoodIn wsX8_sees (wsV RX8 220 RX8 yX8_isPq wsX8_isPq) := goodIn_app (goodIn_of _ (by decide +kernel)) ggX8_sees_X8_isPq
set_option maxRecDepth 20000 in
theorem ggX8_sees_X8_isStep : GoodIn wsX8_sees wsX8_isStep := goodIn_r _ [16, 17, 11, 12, 4, 13] (by decide +kernel) (by decide +kernel)
set_option maxRecDepth 20000 in
theorem gX8_sees_X8_isStep : GoodIn wsX8_sees (va_wsS RX8 153 yX8_isStep wsX8_isStep) := goodIn_app (goodIn_of _ (by decide +kernel)) ggX8_sees_X8_isStep
set_option maxRecDepth 20000 in
theorem ggX8_sees_X8_doSee : GoodIn wsX8_sees wsX8_doSee := goodIn_r _ [21, 22, 23, 24, 25, 26, 27, 4, 28, 29, 30, 31, 32, 33, 34, 35, 36, 37, 38, 39, 40, 41, 42, 43, 44, 45, 46, 47, 48, 49, 50, 51, 52, 53, 54, 55, 56, 57, 58, 59, 60, 61, 62, 63, 64, 65, 66, 67, 68, 69, 70, 71, 72, 73, 74, 75, 76, 77, 78, 79, 80, 81, 82, 83, 84, 85, 86, 87, 88, 89, 90, 91, 92, 93, 94, 95, 96, 97, 98, 99, 100, 101, 102, 103, 104, 105, 106, 107, 108, 109, 110, 111, 112, 113, 114, 115, 116, 117, 118, 119, 120, 121, 122, 123, 124, 125, 126] (by decide +kernel) (by decide +kernel)
set_option maxRecDepth 20000 in
theorem gX8_sees_X8_doSee : GoodIn wsX8_sees (wsV RX8 216 RX8 yX8_doSee wsX8_doSee) := goodIn_app (goodIn_of _ (by decide +kernel)) ggX8_sees_X8_doSee
theorem dX8_sees_0 : decode cX8_sees 0 = .ok (.aload_n 0, 1) := by decide +kernel
theorem dX8_sees_1 : decode cX8_sees 1 = .ok (.iload_n 1, 1) := by decide +kernel
theorem dX8_sees_2 : decode cX8_sees 2 = .ok (.invokevirtual 220, 3) := by decide +kernel
theorem dX8_sees_5 : decode cX8_sees 5 = .ok (.ifCond .eq 34, 3) := by decide +kernel
theorem dX8_sees_8 : decode cX8_sees 8 = .ok (.iload_n 2, 1) := by decide +kernel
theorem dX8_sees_9 : decode cX8_sees 9 = .ok (.invokestatic 153, 3) := by decide +kernel
theorem dX8_sees_12 : decode cX8_sees 12 = .ok (.ifCond .eq 27, 3) := by decide +kernel
theorem dX8_sees_15 : decode cX8_sees 15 = .ok (.aload_n 0, 1) := by decide +kernel
theorem dX8_sees_16 : decode cX8_sees 16 = .ok (.iload_n 1, 1) := by decide +kernel
theorem dX8_sees_17 : decode cX8_sees 17 = .ok (.bipush 10, 2) := by decide +kernel
theorem dX8_sees_19 : decode cX8_sees 19 = .ok (.idiv, 1) := by decide +kernel
theorem dX8_sees_20 : decode cX8_sees 20 = .ok (.iload_n 1, 1) := by decide +kernel
theorem dX8_sees_21 : decode cX8_sees 21 = .ok (.bipush 10, 2) := by decide +kernel
theorem dX8_sees_23 : decode cX8_sees 23 = .ok (.irem, 1) := by decide +kernel
theorem dX8_sees_24 : decode cX8_sees 24 = .ok (.iload_n 2, 1) := by decide +kernel
theorem dX8_sees_25 : decode cX8_sees 25 = .ok (.invokevirtual 216, 3) := by decide +kernel
theorem dX8_sees_28 : decode cX8_sees 28 = .ok (.ifCond .eq 7, 3) := by decide +kernel
theorem dX8_sees_31 : decode cX8_sees 31 = .ok (.iconst 1, 1) := by decide +kernel
theorem dX8_sees_32 : decode cX8_sees 32 = .ok (.goto 8, 3) := by decide +kernel
theorem dX8_sees_35 : decode cX8_sees 35 = .ok (.iconst 0, 1) := by decide +kernel
theorem dX8_sees_36 : decode cX8_sees 36 = .ok (.goto 4, 3) := by decide +kernel
theorem dX8_sees_39 : decode cX8_sees 39 = .ok (.iconst (-1), 1) := by decide +kernel
theorem dX8_sees_40 : decode cX8_sees 40 = .ok (.ireturn, 1) := by decide +kernel
set_option maxRecDepth 20000 in
theorem ggX8_sights_X8_isPq : GoodIn wsX8_sights wsX8_isPq := goodIn_r _ [5, 6, 7, 8, 4, 9, 10, 11, 12, 13, 82, 83, 84, 85, 86, 87, 88, 89, 90, 91, 92, 93, 94, 95, 96, 97, 98, 99, 100, 101, 102, 103, 104, 105, 106, 107, 108, 109, 110, 111, 112, 113, 114, 115, 116, 117, 118, 119, 120, 121, 122, 123, 124, 125, 126, 127, 128, 129] (by decide +kernel) (by decide +kernel)
set_option maxRecDepth 20000 in
theorem gX8_sights_X8_isPq : GoodIn wsX8_sights (wsV RX8 220 RX8 yX8_isPq wsX8_isPq) := goodIn_app (goodIn_of _ (by decide +kernel)) ggX8_sights_X8_isPq
set_option maxRecDepth 20000 in
theorem ggX8_sights_X8_within : GoodIn wsX8_sights wsX8_within := goodIn_r _ [13] (by decide +kernel) (by decide +kernel)
set_option maxRecDepth 20000 in
theorem gX8_sights_X8_within : GoodIn wsX8_sights (va_wsS RX8 97 yX8_within wsX8_within) := goodIn_app (goodIn_of _ (by decide +kernel)) ggX8_sights_X8_within
set_option maxRecDepth 20000 in
theorem ggX8_sights_X8_roundOfTwo : GoodIn wsX8_sights wsX8_roundOfTwo := goodIn_r _ [17, 18, 19, 20, 4, 21, 82, 83, 84, 85, 86, 87, 88, 89, 90, 91, 92, 93, 94, 95, 96, 97, 98, 99, 100, 101, 102, 103, 104, 105, 106, 107, 108, 109, 110, 111, 112, 113, 114, 115, 116, 117, 118, 119, 120, 121, 122, 123, 124, 125, 126, 127, 128, 129] (by decide +kernel) (by decide +kernel)
set_option maxRecDepth 20000 in
theorem gX8_sights_X8_roundOfTwo : GoodIn wsX8_sights (wsV RX8 213 RX8 yX8_roundOfTwo wsX8_roundOfTwo) := goodIn_app (goodIn_of _ (by decide +kernel)) ggX8_sights_X8_roundOfTwo
set_option maxRecDepth 20000 in
theorem ggX8_sights_X8_doSee : GoodIn wsX8_sights wsX8_doSee := goodIn_r _ [25, 26, 18, 27, 28, 29, 30, 4, 31, 32, 33, 34, 35, 36, 37, 38, 39, 40, 41, 42, 43, 44, 45, 46, 47, 48, 49, 50, 51, 52, 53, 54, 55, 56, 57, 58, 59, 60, 61, 62, 63, 64, 65, 66, 67, 68, 69, 70, 71, 72, 73, 74, 75, 76, 77, 78, 79, 80, 81, 82, 83, 84, 85, 86, 87, 88, 89, 90, 91, 92, 93, 94, 95, 96, 97, 98, 99, 100, 101, 102, 103, 104, 105, 106, 107, 108, 109, 110, 111, 112, 113, 114, 115, 116, 117, 118, 119, 120, 121, 122, 123, 124, 125, 126, 127, 128, 129] (by decide +kernel) (by decide +kernel)
set_option maxRecDepth 20000 in
theorem gX8_sights_X8_doSee : GoodIn wsX8_sights (wsV RX8 216 RX8 yX8_doSee wsX8_doSee) := goodIn_app (goodIn_of _ (by decide +kernel)) ggX8_sights_X8_doSee
set_option maxRecDepth 20000 in
theorem ggX8_sights_X8_common : GoodIn wsX8_sights wsX8_common := goodIn_r _ [21] (by decide +kernel) (by decide +kernel)
set_option maxRecDepth 20000 in
theorem gX8_sights_X8_common : GoodIn wsX8_sights (va_wsS RX8 156 yX8_common wsX8_common) := goodIn_app (goodIn_of _ (by decide +kernel)) ggX8_sights_X8_common
theorem dX8_sights_0 : decode cX8_sights 0 = .ok (.aload_n 0, 1) := by decide +kernel
theorem dX8_sights_1 : decode cX8_sights 1 = .ok (.iload_n 1, 1) := by decide +kernel
theorem dX8_sights_2 : decode cX8_sights 2 = .ok (.invokevirtual 220, 3) := by decide +kernel
theorem dX8_sights_5 : decode cX8_sights 5 = .ok (.ifCond .eq 13, 3) := by decide +kernel
theorem dX8_sights_8 : decode cX8_sights 8 = .ok (.iload_n 2, 1) := by decide +kernel
theorem dX8_sights_9 : decode cX8_sights 9 = .ok (.i2l, 1) := by decide +kernel
theorem dX8_sights_10 : decode cX8_sights 10 = .ok (.lconst 0, 1) := by decide +kernel
theorem dX8_sights_11 : decode cX8_sights 11 = .ok (.lconst 1, 1) := by decide +kernel
theorem dX8_sights_12 : decode cX8_sights 12 = .ok (.invokestatic 97, 3) := by decide +kernel
theorem dX8_sights_15 : decode cX8_sights 15 = .ok (.ifCond .ne 5, 3) := by decide +kernel
theorem dX8_sights_18 : decode cX8_sights 18 = .ok (.iconst (-1), 1) := by decide +kernel
theorem dX8_sights_19 : decode cX8_sights 19 = .ok (.ireturn, 1) := by decide +kernel
theorem dX8_sights_20 : decode cX8_sights 20 = .ok (.aload_n 0, 1) := by decide +kernel
theorem dX8_sights_21 : decode cX8_sights 21 = .ok (.iload_n 1, 1) := by decide +kernel
theorem dX8_sights_22 : decode cX8_sights 22 = .ok (.bipush 10, 2) := by decide +kernel
theorem dX8_sights_24 : decode cX8_sights 24 = .ok (.idiv, 1) := by decide +kernel
theorem dX8_sights_25 : decode cX8_sights 25 = .ok (.iload_n 1, 1) := by decide +kernel
theorem dX8_sights_26 : decode cX8_sights 26 = .ok (.bipush 10, 2) := by decide +kernel
theorem dX8_sights_28 : decode cX8_sights 28 = .ok (.irem, 1) := by decide +kernel
theorem dX8_sights_29 : decode cX8_sights 29 = .ok (.invokevirtual 213, 3) := by decide +kernel
theorem dX8_sights_32 : decode cX8_sights 32 = .ok (.istore_n 3, 1) := by decide +kernel
theorem dX8_sights_33 : decode cX8_sights 33 = .ok (.iconst 0, 1) := by decide +kernel
theorem dX8_sights_34 : decode cX8_sights 34 = .ok (.istore 4, 2) := by decide +kernel
theorem dX8_sights_36 : decode cX8_sights 36 = .ok (.iconst 0, 1) := by decide +kernel
theorem dX8_sights_37 : decode cX8_sights 37 = .ok (.istore 5, 2) := by decide +kernel
theorem dX8_sights_39 : decode cX8_sights 39 = .ok (.iload 5, 2) := by decide +kernel
theorem dX8_sights_41 : decode cX8_sights 41 = .ok (.iload_n 3, 1) := by decide +kernel
theorem dX8_sights_42 : decode cX8_sights 42 = .ok (.if_icmp .ge 36, 3) := by decide +kernel
theorem dX8_sights_45 : decode cX8_sights 45 = .ok (.iload 4, 2) := by decide +kernel
theorem dX8_sights_47 : decode cX8_sights 47 = .ok (.aload_n 0, 1) := by decide +kernel
theorem dX8_sights_48 : decode cX8_sights 48 = .ok (.iload_n 1, 1) := by decide +kernel
theorem dX8_sights_49 : decode cX8_sights 49 = .ok (.bipush 10, 2) := by decide +kernel
theorem dX8_sights_51 : decode cX8_sights 51 = .ok (.idiv, 1) := by decide +kernel
theorem dX8_sights_52 : decode cX8_sights 52 = .ok (.iload_n 1, 1) := by decide +kernel
theorem dX8_sights_53 : decode cX8_sights 53 = .ok (.bipush 10, 2) := by decide +kernel
theorem dX8_sights_55 : decode cX8_sights 55 = .ok (.irem, 1) := by decide +kernel
theorem dX8_sights_56 : decode cX8_sights 56 = .ok (.iload 5, 2) := by decide +kernel
theorem dX8_sights_58 : decode cX8_sights 58 = .ok (.invokevirtual 216, 3) := by decide +kernel
theorem dX8_sights_61 : decode cX8_sights 61 = .ok (.ifCond .eq 7, 3) := by decide +kernel
theorem dX8_sights_64 : decode cX8_sights 64 = .ok (.iconst 1, 1) := by decide +kernel
theorem dX8_sights_65 : decode cX8_sights 65 = .ok (.goto 4, 3) := by decide +kernel
theorem dX8_sights_68 : decode cX8_sights 68 = .ok (.iconst 0, 1) := by decide +kernel
theorem dX8_sights_69 : decode cX8_sights 69 = .ok (.iadd, 1) := by decide +kernel
theorem dX8_sights_70 : decode cX8_sights 70 = .ok (.istore 4, 2) := by decide +kernel
theorem dX8_sights_72 : decode cX8_sights 72 = .ok (.iinc 5 1, 3) := by decide +kernel
theorem dX8_sights_75 : decode cX8_sights 75 = .ok (.goto (-36), 3) := by decide +kernel
theorem dX8_sights_78 : decode cX8_sights 78 = .ok (.iload_n 3, 1) := by decide +kernel
theorem dX8_sights_79 : decode cX8_sights 79 = .ok (.iload 4, 2) := by decide +kernel
theorem dX8_sights_81 : decode cX8_sights 81 = .ok (.invokestatic 156, 3) := by decide +kernel
theorem dX8_sights_84 : decode cX8_sights 84 = .ok (.istore 5, 2) := by decide +kernel
theorem dX8_sights_86 : decode cX8_sights 86 = .ok (.iload 4, 2) := by decide +kernel
theorem dX8_sights_88 : decode cX8_sights 88 = .ok (.ifCond .ne 7, 3) := by decide +kernel
theorem dX8_sights_91 : decode cX8_sights 91 = .ok (.iload_n 2, 1) := by decide +kernel
theorem dX8_sights_92 : decode cX8_sights 92 = .ok (.goto 19, 3) := by decide +kernel
theorem dX8_sights_95 : decode cX8_sights 95 = .ok (.iload_n 2, 1) := by decide +kernel
theorem dX8_sights_96 : decode cX8_sights 96 = .ok (.ifCond .ne 11, 3) := by decide +kernel
theorem dX8_sights_99 : decode cX8_sights 99 = .ok (.iload 4, 2) := by decide +kernel
theorem dX8_sights_101 : decode cX8_sights 101 = .ok (.iload 5, 2) := by decide +kernel
theorem dX8_sights_103 : decode cX8_sights 103 = .ok (.idiv, 1) := by decide +kernel
theorem dX8_sights_104 : decode cX8_sights 104 = .ok (.goto 7, 3) := by decide +kernel
theorem dX8_sights_107 : decode cX8_sights 107 = .ok (.iload_n 3, 1) := by decide +kernel
theorem dX8_sights_108 : decode cX8_sights 108 = .ok (.iload 5, 2) := by decide +kernel
theorem dX8_sights_110 : decode cX8_sights 110 = .ok (.idiv, 1) := by decide +kernel
theorem dX8_sights_111 : decode cX8_sights 111 = .ok (.ireturn, 1) := by decide +kernel
set_option maxRecDepth 20000 in
theorem ggX8_blind_X8_isPq : GoodIn wsX8_blind wsX8_isPq := goodIn_r _ [5, 6, 7, 8, 4, 9, 10, 11, 12, 13, 82, 83, 84, 85, 86, 87, 88, 89, 90, 91, 92, 93, 94, 95, 96, 97, 98, 99, 100, 101, 102, 103, 104, 105, 106, 107, 108, 109, 110, 111, 112, 113, 114, 115, 116, 117, 118, 119, 120, 121, 122, 123, 124, 125, 126, 127, 128, 129] (by decide +kernel) (by decide +kernel)
set_option maxRecDepth 20000 in
theorem gX8_blind_X8_isPq : GoodIn wsX8_blind (wsV RX8 220 RX8 yX8_isPq wsX8_isPq) := goodIn_app (goodIn_of _ (by decide +kernel)) ggX8_blind_X8_isPq
set_option maxRecDepth 20000 in
theorem ggX8_blind_X8_roundOfTwo : GoodIn wsX8_blind wsX8_roundOfTwo := goodIn_r _ [17, 18, 19, 20, 4, 21, 82, 83, 84, 85, 86, 87, 88, 89, 90, 91, 92, 93, 94, 95, 96, 97, 98, 99, 100, 101, 102, 103, 104, 105, 106, 107, 108, 109, 110, 111, 112, 113, 114, 115, 116, 117, 118, 119, 120, 121, 122, 123, 124, 125, 126, 127, 128, 129] (by decide +kernel) (by decide +kernel)
set_option maxRecDepth 20000 in
theorem gX8_blind_X8_roundOfTwo : GoodIn wsX8_blind (wsV RX8 213 RX8 yX8_roundOfTwo wsX8_roundOfTwo) := goodIn_app (goodIn_of _ (by decide +kernel)) ggX8_blind_X8_roundOfTwo
set_option maxRecDepth 20000 in
theorem ggX8_blind_X8_doSee : GoodIn wsX8_blind wsX8_doSee := goodIn_r _ [25, 26, 18, 27, 28, 29, 30, 4, 31, 32, 33, 34, 35, 36, 37, 38, 39, 40, 41, 42, 43, 44, 45, 46, 47, 48, 49, 50, 51, 52, 53, 54, 55, 56, 57, 58, 59, 60, 61, 62, 63, 64, 65, 66, 67, 68, 69, 70, 71, 72, 73, 74, 75, 76, 77, 78, 79, 80, 81, 82, 83, 84, 85, 86, 87, 88, 89, 90, 91, 92, 93, 94, 95, 96, 97, 98, 99, 100, 101, 102, 103, 104, 105, 106, 107, 108, 109, 110, 111, 112, 113, 114, 115, 116, 117, 118, 119, 120, 121, 122, 123, 124, 125, 126, 127, 128, 129] (by decide +kernel) (by decide +kernel)
set_option maxRecDepth 20000 in
theorem gX8_blind_X8_doSee : GoodIn wsX8_blind (wsV RX8 216 RX8 yX8_doSee wsX8_doSee) := goodIn_app (goodIn_of _ (by decide +kernel)) ggX8_blind_X8_doSee
theorem dX8_blind_0 : decode cX8_blind 0 = .ok (.aload_n 0, 1) := by decide +kernel
theorem dX8_blind_1 : decode cX8_blind 1 = .ok (.iload_n 1, 1) := by decide +kernel
theorem dX8_blind_2 : decode cX8_blind 2 = .ok (.invokevirtual 220, 3) := by decide +kernel
theorem dX8_blind_5 : decode cX8_blind 5 = .ok (.ifCond .ne 5, 3) := by decide +kernel
theorem dX8_blind_8 : decode cX8_blind 8 = .ok (.iconst (-1), 1) := by decide +kernel
theorem dX8_blind_9 : decode cX8_blind 9 = .ok (.ireturn, 1) := by decide +kernel
theorem dX8_blind_10 : decode cX8_blind 10 = .ok (.aload_n 0, 1) := by decide +kernel
theorem dX8_blind_11 : decode cX8_blind 11 = .ok (.iload_n 1, 1) := by decide +kernel
theorem dX8_blind_12 : decode cX8_blind 12 = .ok (.bipush 10, 2) := by decide +kernel
theorem dX8_blind_14 : decode cX8_blind 14 = .ok (.idiv, 1) := by decide +kernel
theorem dX8_blind_15 : decode cX8_blind 15 = .ok (.iload_n 1, 1) := by decide +kernel
theorem dX8_blind_16 : decode cX8_blind 16 = .ok (.bipush 10, 2) := by decide +kernel
theorem dX8_blind_18 : decode cX8_blind 18 = .ok (.irem, 1) := by decide +kernel
theorem dX8_blind_19 : decode cX8_blind 19 = .ok (.invokevirtual 213, 3) := by decide +kernel
theorem dX8_blind_22 : decode cX8_blind 22 = .ok (.istore_n 2, 1) := by decide +kernel
theorem dX8_blind_23 : decode cX8_blind 23 = .ok (.iconst 0, 1) := by decide +kernel
theorem dX8_blind_24 : decode cX8_blind 24 = .ok (.istore_n 3, 1) := by decide +kernel
theorem dX8_blind_25 : decode cX8_blind 25 = .ok (.iconst 0, 1) := by decide +kernel
theorem dX8_blind_26 : decode cX8_blind 26 = .ok (.istore 4, 2) := by decide +kernel
theorem dX8_blind_28 : decode cX8_blind 28 = .ok (.iconst 0, 1) := by decide +kernel
theorem dX8_blind_29 : decode cX8_blind 29 = .ok (.istore 5, 2) := by decide +kernel
theorem dX8_blind_31 : decode cX8_blind 31 = .ok (.iload 5, 2) := by decide +kernel
theorem dX8_blind_33 : decode cX8_blind 33 = .ok (.iconst 2, 1) := by decide +kernel
theorem dX8_blind_34 : decode cX8_blind 34 = .ok (.iload_n 2, 1) := by decide +kernel
theorem dX8_blind_35 : decode cX8_blind 35 = .ok (.imul, 1) := by decide +kernel
theorem dX8_blind_36 : decode cX8_blind 36 = .ok (.if_icmp .ge 49, 3) := by decide +kernel
theorem dX8_blind_39 : decode cX8_blind 39 = .ok (.aload_n 0, 1) := by decide +kernel
theorem dX8_blind_40 : decode cX8_blind 40 = .ok (.iload_n 1, 1) := by decide +kernel
theorem dX8_blind_41 : decode cX8_blind 41 = .ok (.bipush 10, 2) := by decide +kernel
theorem dX8_blind_43 : decode cX8_blind 43 = .ok (.idiv, 1) := by decide +kernel
theorem dX8_blind_44 : decode cX8_blind 44 = .ok (.iload_n 1, 1) := by decide +kernel
theorem dX8_blind_45 : decode cX8_blind 45 = .ok (.bipush 10, 2) := by decide +kernel
theorem dX8_blind_47 : decode cX8_blind 47 = .ok (.irem, 1) := by decide +kernel
theorem dX8_blind_48 : decode cX8_blind 48 = .ok (.iload 5, 2) := by decide +kernel
theorem dX8_blind_50 : decode cX8_blind 50 = .ok (.invokevirtual 216, 3) := by decide +kernel
theorem dX8_blind_53 : decode cX8_blind 53 = .ok (.ifCond .eq 7, 3) := by decide +kernel
theorem dX8_blind_56 : decode cX8_blind 56 = .ok (.iconst 0, 1) := by decide +kernel
theorem dX8_blind_57 : decode cX8_blind 57 = .ok (.goto 7, 3) := by decide +kernel
theorem dX8_blind_60 : decode cX8_blind 60 = .ok (.iload 4, 2) := by decide +kernel
theorem dX8_blind_62 : decode cX8_blind 62 = .ok (.iconst 1, 1) := by decide +kernel
theorem dX8_blind_63 : decode cX8_blind 63 = .ok (.iadd, 1) := by decide +kernel
theorem dX8_blind_64 : decode cX8_blind 64 = .ok (.istore 4, 2) := by decide +kernel
theorem dX8_blind_66 : decode cX8_blind 66 = .ok (.iload 4, 2) := by decide +kernel
theorem dX8_blind_68 : decode cX8_blind 68 = .ok (.iload_n 3, 1) := by decide +kernel
theorem dX8_blind_69 : decode cX8_blind 69 = .ok (.if_icmp .le 8, 3) := by decide +kernel
theorem dX8_blind_72 : decode cX8_blind 72 = .ok (.iload 4, 2) := by decide +kernel
theorem dX8_blind_74 : decode cX8_blind 74 = .ok (.goto 4, 3) := by decide +kernel
theorem dX8_blind_77 : decode cX8_blind 77 = .ok (.iload_n 3, 1) := by decide +kernel
theorem dX8_blind_78 : decode cX8_blind 78 = .ok (.istore_n 3, 1) := by decide +kernel
theorem dX8_blind_79 : decode cX8_blind 79 = .ok (.iinc 5 1, 3) := by decide +kernel
theorem dX8_blind_82 : decode cX8_blind 82 = .ok (.goto (-51), 3) := by decide +kernel
theorem dX8_blind_85 : decode cX8_blind 85 = .ok (.iload_n 3, 1) := by decide +kernel
theorem dX8_blind_86 : decode cX8_blind 86 = .ok (.iconst 2, 1) := by decide +kernel
theorem dX8_blind_87 : decode cX8_blind 87 = .ok (.iload_n 2, 1) := by decide +kernel
theorem dX8_blind_88 : decode cX8_blind 88 = .ok (.imul, 1) := by decide +kernel
theorem dX8_blind_89 : decode cX8_blind 89 = .ok (.if_icmp .ne 8, 3) := by decide +kernel
theorem dX8_blind_92 : decode cX8_blind 92 = .ok (.bipush (-2), 2) := by decide +kernel
theorem dX8_blind_94 : decode cX8_blind 94 = .ok (.goto 4, 3) := by decide +kernel
theorem dX8_blind_97 : decode cX8_blind 97 = .ok (.iload_n 3, 1) := by decide +kernel
theorem dX8_blind_98 : decode cX8_blind 98 = .ok (.ireturn, 1) := by decide +kernel
set_option maxRecDepth 20000 in
theorem ggX8_allSee_X8_sawAt : GoodIn wsX8_allSee wsX8_sawAt := goodIn_r _ [6, 7, 8, 9, 10, 11, 12, 13, 14, 15, 16, 17, 18, 19, 20, 21, 22, 23, 24, 25, 26, 27, 28, 29, 30, 31, 32, 33, 34, 35, 36, 37, 38, 39, 40, 41, 42, 43, 44, 45, 46, 47, 48, 49, 50, 51, 52, 53, 54, 55, 56] (by decide +kernel) (by decide +kernel)
set_option maxRecDepth 20000 in
theorem gX8_allSee_X8_sawAt : GoodIn wsX8_allSee (wsV RX8 223 RX8 yX8_sawAt wsX8_sawAt) := goodIn_app (goodIn_of _ (by decide +kernel)) ggX8_allSee_X8_sawAt
theorem dX8_allSee_0 : decode cX8_allSee 0 = .ok (.iconst 0, 1) := by decide +kernel
theorem dX8_allSee_1 : decode cX8_allSee 1 = .ok (.istore_n 2, 1) := by decide +kernel
theorem dX8_allSee_2 : decode cX8_allSee 2 = .ok (.iload_n 2, 1) := by decide +kernel
theorem dX8_allSee_3 : decode cX8_allSee 3 = .ok (.aload_n 0, 1) := by decide +kernel
theorem dX8_allSee_4 : decode cX8_allSee 4 = .ok (.getfield 94, 3) := by decide +kernel
theorem dX8_allSee_7 : decode cX8_allSee 7 = .ok (.if_icmp .ge 39, 3) := by decide +kernel
theorem dX8_allSee_10 : decode cX8_allSee 10 = .ok (.iload_n 2, 1) := by decide +kernel
theorem dX8_allSee_11 : decode cX8_allSee 11 = .ok (.iconst 1, 1) := by decide +kernel
theorem dX8_allSee_12 : decode cX8_allSee 12 = .ok (.iadd, 1) := by decide +kernel
theorem dX8_allSee_13 : decode cX8_allSee 13 = .ok (.istore_n 3, 1) := by decide +kernel
theorem dX8_allSee_14 : decode cX8_allSee 14 = .ok (.iload_n 3, 1) := by decide +kernel
theorem dX8_allSee_15 : decode cX8_allSee 15 = .ok (.aload_n 0, 1) := by decide +kernel
theorem dX8_allSee_16 : decode cX8_allSee 16 = .ok (.getfield 94, 3) := by decide +kernel
theorem dX8_allSee_19 : decode cX8_allSee 19 = .ok (.if_icmp .ge 21, 3) := by decide +kernel
theorem dX8_allSee_22 : decode cX8_allSee 22 = .ok (.aload_n 0, 1) := by decide +kernel
theorem dX8_allSee_23 : decode cX8_allSee 23 = .ok (.iload_n 2, 1) := by decide +kernel
theorem dX8_allSee_24 : decode cX8_allSee 24 = .ok (.iload_n 3, 1) := by decide +kernel
theorem dX8_allSee_25 : decode cX8_allSee 25 = .ok (.iload_n 1, 1) := by decide +kernel
theorem dX8_allSee_26 : decode cX8_allSee 26 = .ok (.invokevirtual 223, 3) := by decide +kernel
theorem dX8_allSee_29 : decode cX8_allSee 29 = .ok (.ifCond .ne 5, 3) := by decide +kernel
theorem dX8_allSee_32 : decode cX8_allSee 32 = .ok (.iconst 0, 1) := by decide +kernel
theorem dX8_allSee_33 : decode cX8_allSee 33 = .ok (.ireturn, 1) := by decide +kernel
theorem dX8_allSee_34 : decode cX8_allSee 34 = .ok (.iinc 3 1, 3) := by decide +kernel
theorem dX8_allSee_37 : decode cX8_allSee 37 = .ok (.goto (-23), 3) := by decide +kernel
theorem dX8_allSee_40 : decode cX8_allSee 40 = .ok (.iinc 2 1, 3) := by decide +kernel
theorem dX8_allSee_43 : decode cX8_allSee 43 = .ok (.goto (-41), 3) := by decide +kernel
theorem dX8_allSee_46 : decode cX8_allSee 46 = .ok (.iconst 1, 1) := by decide +kernel
theorem dX8_allSee_47 : decode cX8_allSee 47 = .ok (.ireturn, 1) := by decide +kernel
set_option maxRecDepth 20000 in
theorem ggX8_next_X8_isPq : GoodIn wsX8_next wsX8_isPq := goodIn_r _ [6, 7, 8, 9, 5, 10, 1, 11, 12, 13, 104, 105, 106, 107, 108, 109, 110, 111, 112, 113, 114, 115, 116, 117, 118, 119, 120, 121, 122, 123, 124, 125, 126, 127, 128, 129, 130, 131, 132, 133, 134, 135, 136, 137, 138, 139, 140, 141, 142, 143, 144, 145, 146, 147, 148, 149, 150, 151] (by decide +kernel) (by decide +kernel)
set_option maxRecDepth 20000 in
theorem gX8_next_X8_isPq : GoodIn wsX8_next (wsV RX8 220 RX8 yX8_isPq wsX8_isPq) := goodIn_app (goodIn_of _ (by decide +kernel)) ggX8_next_X8_isPq
set_option maxRecDepth 20000 in
theorem ggX8_next_X8_isStep : GoodIn wsX8_next wsX8_isStep := goodIn_r _ [16, 17, 11, 12, 5, 13] (by decide +kernel) (by decide +kernel)
set_option maxRecDepth 20000 in
theorem gX8_next_X8_isStep : GoodIn wsX8_next (va_wsS RX8 153 yX8_isStep wsX8_isStep) := goodIn_app (goodIn_of _ (by decide +kernel)) ggX8_next_X8_isStep
set_option maxRecDepth 20000 in
theorem ggX8_next_X8_asksSights : GoodIn wsX8_next wsX8_asksSights := goodIn_r _ [21, 22, 23, 24, 25, 26, 5, 27, 28, 29, 30, 31, 32, 33, 34, 35, 36, 37, 38, 39, 40, 41, 42, 43, 44, 45, 46, 47, 48, 49, 50, 51, 52, 53, 54, 55, 56, 57, 58, 59, 60, 61, 62, 63, 64, 65, 66, 67, 68, 69, 70, 71, 72, 73, 74, 75, 76, 77, 78, 79, 80, 81, 82, 83, 84, 85, 86, 87, 88, 89, 90, 91, 104, 105, 106, 107, 108, 109, 110, 111, 112, 113, 114, 115, 116, 117, 118, 119, 120, 121, 122, 123, 124, 125, 126, 127, 128, 129, 130, 131, 132, 133, 134, 135, 136, 137, 138, 139, 140, 141, 142, 143, 144, 145, 146, 147, 148, 149, 150, 151] (by decide +kernel) (by decide +kernel)
set_option maxRecDepth 20000 in
theorem gX8_next_X8_asksSights : GoodIn wsX8_next (wsV RX8 226 RX8 yX8_asksSights wsX8_asksSights) := goodIn_app (goodIn_of _ (by decide +kernel)) ggX8_next_X8_asksSights
set_option maxRecDepth 20000 in
theorem ggX8_next_X8_roundOf : GoodIn wsX8_next wsX8_roundOf := goodIn_r _ [95, 28, 29, 30, 5, 31, 104, 105, 106, 107, 108, 109, 110, 111, 112, 113, 114, 115, 116, 117, 118, 119, 120, 121, 122, 123, 124, 125, 126, 127, 128, 129, 130, 131, 132, 133, 134, 135, 136, 137, 138, 139, 140, 141, 142, 143, 144, 145, 146, 147, 148, 149, 150, 151] (by decide +kernel) (by decide +kernel)
set_option maxRecDepth 20000 in
theorem gX8_next_X8_roundOf : GoodIn wsX8_next (wsV RX8 149 RX8 yX8_roundOf wsX8_roundOf) := goodIn_app (goodIn_of _ (by decide +kernel)) ggX8_next_X8_roundOf
set_option maxRecDepth 20000 in
theorem ggX8_next_X8_allSee : GoodIn wsX8_next wsX8_allSee := goodIn_r _ [99, 1, 100, 101, 102, 5, 103, 23, 22, 104, 105, 106, 107, 108, 109, 110, 111, 112, 113, 114, 115, 116, 117, 118, 119, 120, 121, 122, 123, 124, 125, 126, 127, 128, 129, 130, 131, 132, 133, 134, 135, 136, 137, 138, 139, 140, 141, 142, 143, 144, 145, 146, 147, 148, 149, 150, 151] (by decide +kernel) (by decide +kernel)
set_option maxRecDepth 20000 in
theorem gX8_next_X8_allSee : GoodIn wsX8_next (wsV RX8 230 RX8 yX8_allSee wsX8_allSee) := goodIn_app (goodIn_of _ (by decide +kernel)) ggX8_next_X8_allSee
set_option maxRecDepth 20000 in
theorem ggX8_next_X8_sawAt : GoodIn wsX8_next wsX8_sawAt := goodIn_r _ [103, 23, 22, 104, 105, 106, 107, 108, 109, 110, 111, 112, 113, 114, 115, 116, 117, 118, 119, 120, 121, 122, 123, 124, 125, 126, 127, 128, 129, 130, 131, 132, 133, 134, 135, 136, 137, 138, 139, 140, 141, 142, 143, 144, 145, 146, 147, 148, 149, 150, 151] (by decide +kernel) (by decide +kernel)
set_option maxRecDepth 20000 in
theorem gX8_next_X8_sawAt : GoodIn wsX8_next (wsV RX8 223 RX8 yX8_sawAt wsX8_sawAt) := goodIn_app (goodIn_of _ (by decide +kernel)) ggX8_next_X8_sawAt
theorem dX8_next_0 : decode cX8_next 0 = .ok (.iload_n 1, 1) := by decide +kernel
theorem dX8_next_1 : decode cX8_next 1 = .ok (.iconst (-1), 1) := by decide +kernel
theorem dX8_next_2 : decode cX8_next 2 = .ok (.if_icmp .eq 11, 3) := by decide +kernel
theorem dX8_next_5 : decode cX8_next 5 = .ok (.aload_n 0, 1) := by decide +kernel
theorem dX8_next_6 : decode cX8_next 6 = .ok (.iload_n 1, 1) := by decide +kernel
theorem dX8_next_7 : decode cX8_next 7 = .ok (.invokevirtual 220, 3) := by decide +kernel
theorem dX8_next_10 : decode cX8_next 10 = .ok (.ifCond .eq 10, 3) := by decide +kernel
theorem dX8_next_13 : decode cX8_next 13 = .ok (.iload_n 2, 1) := by decide +kernel
theorem dX8_next_14 : decode cX8_next 14 = .ok (.invokestatic 153, 3) := by decide +kernel
theorem dX8_next_17 : decode cX8_next 17 = .ok (.ifCond .ne 5, 3) := by decide +kernel
theorem dX8_next_20 : decode cX8_next 20 = .ok (.iconst (-1), 1) := by decide +kernel
theorem dX8_next_21 : decode cX8_next 21 = .ok (.ireturn, 1) := by decide +kernel
theorem dX8_next_22 : decode cX8_next 22 = .ok (.aload_n 0, 1) := by decide +kernel
theorem dX8_next_23 : decode cX8_next 23 = .ok (.aload_n 0, 1) := by decide +kernel
theorem dX8_next_24 : decode cX8_next 24 = .ok (.getfield 94, 3) := by decide +kernel
theorem dX8_next_27 : decode cX8_next 27 = .ok (.invokevirtual 226, 3) := by decide +kernel
theorem dX8_next_30 : decode cX8_next 30 = .ok (.aload_n 0, 1) := by decide +kernel
theorem dX8_next_31 : decode cX8_next 31 = .ok (.aload_n 0, 1) := by decide +kernel
theorem dX8_next_32 : decode cX8_next 32 = .ok (.getfield 94, 3) := by decide +kernel
theorem dX8_next_35 : decode cX8_next 35 = .ok (.invokevirtual 149, 3) := by decide +kernel
theorem dX8_next_38 : decode cX8_next 38 = .ok (.istore_n 3, 1) := by decide +kernel
theorem dX8_next_39 : decode cX8_next 39 = .ok (.iconst 0, 1) := by decide +kernel
theorem dX8_next_40 : decode cX8_next 40 = .ok (.istore 4, 2) := by decide +kernel
theorem dX8_next_42 : decode cX8_next 42 = .ok (.iload 4, 2) := by decide +kernel
theorem dX8_next_44 : decode cX8_next 44 = .ok (.iload_n 3, 1) := by decide +kernel
theorem dX8_next_45 : decode cX8_next 45 = .ok (.if_icmp .ge 51, 3) := by decide +kernel
theorem dX8_next_48 : decode cX8_next 48 = .ok (.iload_n 1, 1) := by decide +kernel
theorem dX8_next_49 : decode cX8_next 49 = .ok (.ifCond .ge 17, 3) := by decide +kernel
theorem dX8_next_52 : decode cX8_next 52 = .ok (.aload_n 0, 1) := by decide +kernel
theorem dX8_next_53 : decode cX8_next 53 = .ok (.iload_n 2, 1) := by decide +kernel
theorem dX8_next_54 : decode cX8_next 54 = .ok (.iload 4, 2) := by decide +kernel
theorem dX8_next_56 : decode cX8_next 56 = .ok (.iadd, 1) := by decide +kernel
theorem dX8_next_57 : decode cX8_next 57 = .ok (.invokevirtual 230, 3) := by decide +kernel
theorem dX8_next_60 : decode cX8_next 60 = .ok (.ifCond .eq 30, 3) := by decide +kernel
theorem dX8_next_63 : decode cX8_next 63 = .ok (.goto 22, 3) := by decide +kernel
theorem dX8_next_66 : decode cX8_next 66 = .ok (.aload_n 0, 1) := by decide +kernel
theorem dX8_next_67 : decode cX8_next 67 = .ok (.iload_n 1, 1) := by decide +kernel
theorem dX8_next_68 : decode cX8_next 68 = .ok (.bipush 10, 2) := by decide +kernel
theorem dX8_next_70 : decode cX8_next 70 = .ok (.idiv, 1) := by decide +kernel
theorem dX8_next_71 : decode cX8_next 71 = .ok (.iload_n 1, 1) := by decide +kernel
theorem dX8_next_72 : decode cX8_next 72 = .ok (.bipush 10, 2) := by decide +kernel
theorem dX8_next_74 : decode cX8_next 74 = .ok (.irem, 1) := by decide +kernel
theorem dX8_next_75 : decode cX8_next 75 = .ok (.iload_n 2, 1) := by decide +kernel
theorem dX8_next_76 : decode cX8_next 76 = .ok (.iload 4, 2) := by decide +kernel
theorem dX8_next_78 : decode cX8_next 78 = .ok (.iadd, 1) := by decide +kernel
theorem dX8_next_79 : decode cX8_next 79 = .ok (.invokevirtual 223, 3) := by decide +kernel
theorem dX8_next_82 : decode cX8_next 82 = .ok (.ifCond .eq 8, 3) := by decide +kernel
theorem dX8_next_85 : decode cX8_next 85 = .ok (.iload_n 2, 1) := by decide +kernel
theorem dX8_next_86 : decode cX8_next 86 = .ok (.iload 4, 2) := by decide +kernel
theorem dX8_next_88 : decode cX8_next 88 = .ok (.iadd, 1) := by decide +kernel
theorem dX8_next_89 : decode cX8_next 89 = .ok (.ireturn, 1) := by decide +kernel
theorem dX8_next_90 : decode cX8_next 90 = .ok (.iinc 4 1, 3) := by decide +kernel
theorem dX8_next_93 : decode cX8_next 93 = .ok (.goto (-51), 3) := by decide +kernel
theorem dX8_next_96 : decode cX8_next 96 = .ok (.bipush (-2), 2) := by decide +kernel
theorem dX8_next_98 : decode cX8_next 98 = .ok (.ireturn, 1) := by decide +kernel
set_option maxRecDepth 20000 in
theorem ggX8_all_X8_asksSights : GoodIn wsX8_all wsX8_asksSights := goodIn_r _ [6, 7, 8, 9, 10, 11, 5, 12, 13, 14, 15, 16, 17, 18, 19, 20, 21, 22, 23, 24, 25, 26, 27, 28, 29, 30, 31, 32, 33, 34, 35, 36, 37, 38, 39, 40, 41, 42, 43, 44, 45, 46, 47, 48, 49, 50, 51, 52, 53, 54, 55, 56, 57, 58, 59, 60, 61, 62, 63, 64, 65, 66, 67, 68, 69, 70, 71, 72, 73, 74, 75, 76, 89, 90, 91, 92, 93, 94, 95, 96, 97, 98, 99, 100, 101, 102, 103, 104, 105, 106, 107, 108, 109, 110, 111, 112, 113, 114, 115, 116, 117, 118, 119, 120, 121, 122, 123, 124, 125, 126, 127, 128, 129, 130, 131, 132, 133, 134, 135, 136] (by decide +kernel) (by decide +kernel)
set_option maxRecDepth 20000 in
theorem gX8_all_X8_asksSights : GoodIn wsX8_all (wsV RX8 226 RX8 yX8_asksSights wsX8_asksSights) := goodIn_app (goodIn_of _ (by decide +kernel)) ggX8_all_X8_asksSights
set_option maxRecDepth 20000 in
theorem ggX8_all_X8_roundOf : GoodIn wsX8_all wsX8_roundOf := goodIn_r _ [80, 13, 14, 15, 5, 16, 89, 90, 91, 92, 93, 94, 95, 96, 97, 98, 99, 100, 101, 102, 103, 104, 105, 106, 107, 108, 109, 110, 111, 112, 113, 114, 115, 116, 117, 118, 119, 120, 121, 122, 123, 124, 125, 126, 127, 128, 129, 130, 131, 132, 133, 134, 135, 136] (by decide +kernel) (by decide +kernel)
set_option maxRecDepth 20000 in
theorem gX8_all_X8_roundOf : GoodIn wsX8_all (wsV RX8 149 RX8 yX8_roundOf wsX8_roundOf) := goodIn_app (goodIn_of _ (by decide +kernel)) ggX8_all_X8_roundOf
set_option maxRecDepth 20000 in
theorem ggX8_all_X8_allSee : GoodIn wsX8_all wsX8_allSee := goodIn_r _ [84, 1, 85, 86, 87, 5, 88, 8, 7, 89, 90, 91, 92, 93, 94, 95, 96, 97, 98, 99, 100, 101, 102, 103, 104, 105, 106, 107, 108, 109, 110, 111, 112, 113, 114, 115, 116, 117, 118, 119, 120, 121, 122, 123, 124, 125, 126, 127, 128, 129, 130, 131, 132, 133, 134, 135, 136] (by decide +kernel) (by decide +kernel)
set_option maxRecDepth 20000 in
theorem gX8_all_X8_allSee : GoodIn wsX8_all (wsV RX8 230 RX8 yX8_allSee wsX8_allSee) := goodIn_app (goodIn_of _ (by decide +kernel)) ggX8_all_X8_allSee
theorem dX8_all_0 : decode cX8_all 0 = .ok (.aload_n 0, 1) := by decide +kernel
theorem dX8_all_1 : decode cX8_all 1 = .ok (.aload_n 0, 1) := by decide +kernel
theorem dX8_all_2 : decode cX8_all 2 = .ok (.getfield 94, 3) := by decide +kernel
theorem dX8_all_5 : decode cX8_all 5 = .ok (.invokevirtual 226, 3) := by decide +kernel
theorem dX8_all_8 : decode cX8_all 8 = .ok (.aload_n 0, 1) := by decide +kernel
theorem dX8_all_9 : decode cX8_all 9 = .ok (.aload_n 0, 1) := by decide +kernel
theorem dX8_all_10 : decode cX8_all 10 = .ok (.getfield 94, 3) := by decide +kernel
theorem dX8_all_13 : decode cX8_all 13 = .ok (.invokevirtual 149, 3) := by decide +kernel
theorem dX8_all_16 : decode cX8_all 16 = .ok (.istore_n 1, 1) := by decide +kernel
theorem dX8_all_17 : decode cX8_all 17 = .ok (.iconst 0, 1) := by decide +kernel
theorem dX8_all_18 : decode cX8_all 18 = .ok (.istore_n 2, 1) := by decide +kernel
theorem dX8_all_19 : decode cX8_all 19 = .ok (.iconst 0, 1) := by decide +kernel
theorem dX8_all_20 : decode cX8_all 20 = .ok (.istore_n 3, 1) := by decide +kernel
theorem dX8_all_21 : decode cX8_all 21 = .ok (.iload_n 3, 1) := by decide +kernel
theorem dX8_all_22 : decode cX8_all 22 = .ok (.iload_n 1, 1) := by decide +kernel
theorem dX8_all_23 : decode cX8_all 23 = .ok (.if_icmp .ge 25, 3) := by decide +kernel
theorem dX8_all_26 : decode cX8_all 26 = .ok (.iload_n 2, 1) := by decide +kernel
theorem dX8_all_27 : decode cX8_all 27 = .ok (.aload_n 0, 1) := by decide +kernel
theorem dX8_all_28 : decode cX8_all 28 = .ok (.iload_n 3, 1) := by decide +kernel
theorem dX8_all_29 : decode cX8_all 29 = .ok (.invokevirtual 230, 3) := by decide +kernel
theorem dX8_all_32 : decode cX8_all 32 = .ok (.ifCond .eq 7, 3) := by decide +kernel
theorem dX8_all_35 : decode cX8_all 35 = .ok (.iconst 1, 1) := by decide +kernel
theorem dX8_all_36 : decode cX8_all 36 = .ok (.goto 4, 3) := by decide +kernel
theorem dX8_all_39 : decode cX8_all 39 = .ok (.iconst 0, 1) := by decide +kernel
theorem dX8_all_40 : decode cX8_all 40 = .ok (.iadd, 1) := by decide +kernel
theorem dX8_all_41 : decode cX8_all 41 = .ok (.istore_n 2, 1) := by decide +kernel
theorem dX8_all_42 : decode cX8_all 42 = .ok (.iinc 3 1, 3) := by decide +kernel
theorem dX8_all_45 : decode cX8_all 45 = .ok (.goto (-24), 3) := by decide +kernel
theorem dX8_all_48 : decode cX8_all 48 = .ok (.iload_n 2, 1) := by decide +kernel
theorem dX8_all_49 : decode cX8_all 49 = .ok (.ireturn, 1) := by decide +kernel
set_option maxRecDepth 20000 in
theorem ggX8_joinedAt_X8_isIn : GoodIn wsX8_joinedAt wsX8_isIn := goodIn_r _ [5] (by decide +kernel) (by decide +kernel)
set_option maxRecDepth 20000 in
theorem gX8_joinedAt_X8_isIn : GoodIn wsX8_joinedAt (va_wsS RX8 233 yX8_isIn wsX8_isIn) := goodIn_app (goodIn_of _ (by decide +kernel)) ggX8_joinedAt_X8_isIn
set_option maxRecDepth 20000 in
theorem ggX8_joinedAt_X8_sawAt : GoodIn wsX8_joinedAt wsX8_sawAt := goodIn_r _ [9, 10, 11, 12, 13, 14, 15, 16, 17, 18, 19, 20, 21, 22, 23, 24, 25, 26, 27, 28, 29, 30, 31, 32, 33, 34, 35, 36, 37, 38, 39, 40, 41, 42, 43, 44, 45, 46, 47, 48, 49, 50, 51, 52, 53, 54, 55, 56, 57, 58, 59] (by decide +kernel) (by decide +kernel)
set_option maxRecDepth 20000 in
theorem gX8_joinedAt_X8_sawAt : GoodIn wsX8_joinedAt (wsV RX8 223 RX8 yX8_sawAt wsX8_sawAt) := goodIn_app (goodIn_of _ (by decide +kernel)) ggX8_joinedAt_X8_sawAt
theorem dX8_joinedAt_0 : decode cX8_joinedAt 0 = .ok (.iconst 1, 1) := by decide +kernel
theorem dX8_joinedAt_1 : decode cX8_joinedAt 1 = .ok (.iload_n 1, 1) := by decide +kernel
theorem dX8_joinedAt_2 : decode cX8_joinedAt 2 = .ok (.ishl, 1) := by decide +kernel
theorem dX8_joinedAt_3 : decode cX8_joinedAt 3 = .ok (.istore_n 3, 1) := by decide +kernel
theorem dX8_joinedAt_4 : decode cX8_joinedAt 4 = .ok (.iconst 1, 1) := by decide +kernel
theorem dX8_joinedAt_5 : decode cX8_joinedAt 5 = .ok (.istore 4, 2) := by decide +kernel
theorem dX8_joinedAt_7 : decode cX8_joinedAt 7 = .ok (.iload 4, 2) := by decide +kernel
theorem dX8_joinedAt_9 : decode cX8_joinedAt 9 = .ok (.ifCond .eq 119, 3) := by decide +kernel
theorem dX8_joinedAt_12 : decode cX8_joinedAt 12 = .ok (.iload_n 3, 1) := by decide +kernel
theorem dX8_joinedAt_13 : decode cX8_joinedAt 13 = .ok (.istore 5, 2) := by decide +kernel
theorem dX8_joinedAt_15 : decode cX8_joinedAt 15 = .ok (.iconst 0, 1) := by decide +kernel
theorem dX8_joinedAt_16 : decode cX8_joinedAt 16 = .ok (.istore 6, 2) := by decide +kernel
theorem dX8_joinedAt_18 : decode cX8_joinedAt 18 = .ok (.iload 6, 2) := by decide +kernel
theorem dX8_joinedAt_20 : decode cX8_joinedAt 20 = .ok (.aload_n 0, 1) := by decide +kernel
theorem dX8_joinedAt_21 : decode cX8_joinedAt 21 = .ok (.getfield 94, 3) := by decide +kernel
theorem dX8_joinedAt_24 : decode cX8_joinedAt 24 = .ok (.if_icmp .ge 88, 3) := by decide +kernel
theorem dX8_joinedAt_27 : decode cX8_joinedAt 27 = .ok (.iload 6, 2) := by decide +kernel
theorem dX8_joinedAt_29 : decode cX8_joinedAt 29 = .ok (.iconst 1, 1) := by decide +kernel
theorem dX8_joinedAt_30 : decode cX8_joinedAt 30 = .ok (.iadd, 1) := by decide +kernel
theorem dX8_joinedAt_31 : decode cX8_joinedAt 31 = .ok (.istore 7, 2) := by decide +kernel
theorem dX8_joinedAt_33 : decode cX8_joinedAt 33 = .ok (.iload 7, 2) := by decide +kernel
theorem dX8_joinedAt_35 : decode cX8_joinedAt 35 = .ok (.aload_n 0, 1) := by decide +kernel
theorem dX8_joinedAt_36 : decode cX8_joinedAt 36 = .ok (.getfield 94, 3) := by decide +kernel
theorem dX8_joinedAt_39 : decode cX8_joinedAt 39 = .ok (.if_icmp .ge 67, 3) := by decide +kernel
theorem dX8_joinedAt_42 : decode cX8_joinedAt 42 = .ok (.iload_n 3, 1) := by decide +kernel
theorem dX8_joinedAt_43 : decode cX8_joinedAt 43 = .ok (.iload 6, 2) := by decide +kernel
theorem dX8_joinedAt_45 : decode cX8_joinedAt 45 = .ok (.invokestatic 233, 3) := by decide +kernel
theorem dX8_joinedAt_48 : decode cX8_joinedAt 48 = .ok (.ifCond .ne 12, 3) := by decide +kernel
theorem dX8_joinedAt_51 : decode cX8_joinedAt 51 = .ok (.iload_n 3, 1) := by decide +kernel
theorem dX8_joinedAt_52 : decode cX8_joinedAt 52 = .ok (.iload 7, 2) := by decide +kernel
theorem dX8_joinedAt_54 : decode cX8_joinedAt 54 = .ok (.invokestatic 233, 3) := by decide +kernel
theorem dX8_joinedAt_57 : decode cX8_joinedAt 57 = .ok (.ifCond .eq 19, 3) := by decide +kernel
theorem dX8_joinedAt_60 : decode cX8_joinedAt 60 = .ok (.aload_n 0, 1) := by decide +kernel
theorem dX8_joinedAt_61 : decode cX8_joinedAt 61 = .ok (.iload 6, 2) := by decide +kernel
theorem dX8_joinedAt_63 : decode cX8_joinedAt 63 = .ok (.iload 7, 2) := by decide +kernel
theorem dX8_joinedAt_65 : decode cX8_joinedAt 65 = .ok (.iload_n 2, 1) := by decide +kernel
theorem dX8_joinedAt_66 : decode cX8_joinedAt 66 = .ok (.invokevirtual 223, 3) := by decide +kernel
theorem dX8_joinedAt_69 : decode cX8_joinedAt 69 = .ok (.ifCond .eq 7, 3) := by decide +kernel
theorem dX8_joinedAt_72 : decode cX8_joinedAt 72 = .ok (.iconst 1, 1) := by decide +kernel
theorem dX8_joinedAt_73 : decode cX8_joinedAt 73 = .ok (.goto 4, 3) := by decide +kernel
theorem dX8_joinedAt_76 : decode cX8_joinedAt 76 = .ok (.iconst 0, 1) := by decide +kernel
theorem dX8_joinedAt_77 : decode cX8_joinedAt 77 = .ok (.istore 8, 2) := by decide +kernel
theorem dX8_joinedAt_79 : decode cX8_joinedAt 79 = .ok (.iload_n 3, 1) := by decide +kernel
theorem dX8_joinedAt_80 : decode cX8_joinedAt 80 = .ok (.iload 8, 2) := by decide +kernel
theorem dX8_joinedAt_82 : decode cX8_joinedAt 82 = .ok (.ifCond .eq 15, 3) := by decide +kernel
theorem dX8_joinedAt_85 : decode cX8_joinedAt 85 = .ok (.iconst 1, 1) := by decide +kernel
theorem dX8_joinedAt_86 : decode cX8_joinedAt 86 = .ok (.iload 6, 2) := by decide +kernel
theorem dX8_joinedAt_88 : decode cX8_joinedAt 88 = .ok (.ishl, 1) := by decide +kernel
theorem dX8_joinedAt_89 : decode cX8_joinedAt 89 = .ok (.iconst 1, 1) := by decide +kernel
theorem dX8_joinedAt_90 : decode cX8_joinedAt 90 = .ok (.iload 7, 2) := by decide +kernel
theorem dX8_joinedAt_92 : decode cX8_joinedAt 92 = .ok (.ishl, 1) := by decide +kernel
theorem dX8_joinedAt_93 : decode cX8_joinedAt 93 = .ok (.ior, 1) := by decide +kernel
theorem dX8_joinedAt_94 : decode cX8_joinedAt 94 = .ok (.goto 4, 3) := by decide +kernel
theorem dX8_joinedAt_97 : decode cX8_joinedAt 97 = .ok (.iconst 0, 1) := by decide +kernel
theorem dX8_joinedAt_98 : decode cX8_joinedAt 98 = .ok (.ior, 1) := by decide +kernel
theorem dX8_joinedAt_99 : decode cX8_joinedAt 99 = .ok (.istore_n 3, 1) := by decide +kernel
theorem dX8_joinedAt_100 : decode cX8_joinedAt 100 = .ok (.iinc 7 1, 3) := by decide +kernel
theorem dX8_joinedAt_103 : decode cX8_joinedAt 103 = .ok (.goto (-70), 3) := by decide +kernel
theorem dX8_joinedAt_106 : decode cX8_joinedAt 106 = .ok (.iinc 6 1, 3) := by decide +kernel
theorem dX8_joinedAt_109 : decode cX8_joinedAt 109 = .ok (.goto (-91), 3) := by decide +kernel
theorem dX8_joinedAt_112 : decode cX8_joinedAt 112 = .ok (.iload_n 3, 1) := by decide +kernel
theorem dX8_joinedAt_113 : decode cX8_joinedAt 113 = .ok (.iload 5, 2) := by decide +kernel
theorem dX8_joinedAt_115 : decode cX8_joinedAt 115 = .ok (.if_icmp .eq 7, 3) := by decide +kernel
theorem dX8_joinedAt_118 : decode cX8_joinedAt 118 = .ok (.iconst 1, 1) := by decide +kernel
theorem dX8_joinedAt_119 : decode cX8_joinedAt 119 = .ok (.goto 4, 3) := by decide +kernel
theorem dX8_joinedAt_122 : decode cX8_joinedAt 122 = .ok (.iconst 0, 1) := by decide +kernel
theorem dX8_joinedAt_123 : decode cX8_joinedAt 123 = .ok (.istore 4, 2) := by decide +kernel
theorem dX8_joinedAt_125 : decode cX8_joinedAt 125 = .ok (.goto (-118), 3) := by decide +kernel
theorem dX8_joinedAt_128 : decode cX8_joinedAt 128 = .ok (.iload_n 3, 1) := by decide +kernel
theorem dX8_joinedAt_129 : decode cX8_joinedAt 129 = .ok (.ireturn, 1) := by decide +kernel
set_option maxRecDepth 20000 in
theorem ggX8_joined_X8_isWorld : GoodIn wsX8_joined wsX8_isWorld := goodIn_r _ [6, 1, 7, 8, 5, 9, 99, 100, 101, 102, 103, 104, 105, 106, 107, 108, 109, 110, 111, 112, 113, 114, 115, 116, 117, 118, 119, 120, 121, 122, 123, 124, 125, 126, 127, 128, 129, 130, 131, 132, 133, 134, 135, 136, 137, 138, 139, 140, 141, 142, 143, 144, 145, 146] (by decide +kernel) (by decide +kernel)
set_option maxRecDepth 20000 in
theorem gX8_joined_X8_isWorld : GoodIn wsX8_joined (wsV RX8 101 RX8 yX8_isWorld wsX8_isWorld) := goodIn_app (goodIn_of _ (by decide +kernel)) ggX8_joined_X8_isWorld
set_option maxRecDepth 20000 in
theorem ggX8_joined_X8_isStep : GoodIn wsX8_joined wsX8_isStep := goodIn_r _ [12, 13, 7, 8, 5, 9] (by decide +kernel) (by decide +kernel)
set_option maxRecDepth 20000 in
theorem gX8_joined_X8_isStep : GoodIn wsX8_joined (va_wsS RX8 153 yX8_isStep wsX8_isStep) := goodIn_app (goodIn_of _ (by decide +kernel)) ggX8_joined_X8_isStep
set_option maxRecDepth 20000 in
theorem ggX8_joined_X8_asksSights : GoodIn wsX8_joined wsX8_asksSights := goodIn_r _ [17, 18, 19, 20, 21, 22, 5, 23, 24, 25, 26, 27, 28, 29, 30, 31, 32, 33, 34, 35, 36, 37, 38, 39, 40, 41, 42, 43, 44, 45, 46, 47, 48, 49, 50, 51, 52, 53, 54, 55, 56, 57, 58, 59, 60, 61, 62, 63, 64, 65, 66, 67, 68, 69, 70, 71, 72, 73, 74, 75, 76, 77, 78, 79, 80, 81, 82, 83, 84, 85, 86, 87, 99, 100, 101, 102, 103, 104, 105, 106, 107, 108, 109, 110, 111, 112, 113, 114, 115, 116, 117, 118, 119, 120, 121, 122, 123, 124, 125, 126, 127, 128, 129, 130, 131, 132, 133, 134, 135, 136, 137, 138, 139, 140, 141, 142, 143, 144, 145, 146] (by decide +kernel) (by decide +kernel)
set_option maxRecDepth 20000 in
theorem gX8_joined_X8_asksSights : GoodIn wsX8_joined (wsV RX8 226 RX8 yX8_asksSights wsX8_asksSights) := goodIn_app (goodIn_of _ (by decide +kernel)) ggX8_joined_X8_asksSights
set_option maxRecDepth 20000 in
theorem ggX8_joined_X8_joinedAt : GoodIn wsX8_joined wsX8_joinedAt := goodIn_r _ [91, 1, 92, 93, 5, 94, 95, 96, 97, 98, 19, 18, 99, 100, 101, 102, 103, 104, 105, 106, 107, 108, 109, 110, 111, 112, 113, 114, 115, 116, 117, 118, 119, 120, 121, 122, 123, 124, 125, 126, 127, 128, 129, 130, 131, 132, 133, 134, 135, 136, 137, 138, 139, 140, 141, 142, 143, 144, 145, 146] (by decide +kernel) (by decide +kernel)
set_option maxRecDepth 20000 in
theorem gX8_joined_X8_joinedAt : GoodIn wsX8_joined (wsV RX8 237 RX8 yX8_joinedAt wsX8_joinedAt) := goodIn_app (goodIn_of _ (by decide +kernel)) ggX8_joined_X8_joinedAt
theorem dX8_joined_0 : decode cX8_joined 0 = .ok (.aload_n 0, 1) := by decide +kernel
theorem dX8_joined_1 : decode cX8_joined 1 = .ok (.iload_n 1, 1) := by decide +kernel
theorem dX8_joined_2 : decode cX8_joined 2 = .ok (.invokevirtual 101, 3) := by decide +kernel
theorem dX8_joined_5 : decode cX8_joined 5 = .ok (.ifCond .eq 10, 3) := by decide +kernel
theorem dX8_joined_8 : decode cX8_joined 8 = .ok (.iload_n 2, 1) := by decide +kernel
theorem dX8_joined_9 : decode cX8_joined 9 = .ok (.invokestatic 153, 3) := by decide +kernel
theorem dX8_joined_12 : decode cX8_joined 12 = .ok (.ifCond .ne 5, 3) := by decide +kernel
theorem dX8_joined_15 : decode cX8_joined 15 = .ok (.iconst (-1), 1) := by decide +kernel
theorem dX8_joined_16 : decode cX8_joined 16 = .ok (.ireturn, 1) := by decide +kernel
theorem dX8_joined_17 : decode cX8_joined 17 = .ok (.aload_n 0, 1) := by decide +kernel
theorem dX8_joined_18 : decode cX8_joined 18 = .ok (.aload_n 0, 1) := by decide +kernel
theorem dX8_joined_19 : decode cX8_joined 19 = .ok (.getfield 94, 3) := by decide +kernel
theorem dX8_joined_22 : decode cX8_joined 22 = .ok (.invokevirtual 226, 3) := by decide +kernel
theorem dX8_joined_25 : decode cX8_joined 25 = .ok (.aload_n 0, 1) := by decide +kernel
theorem dX8_joined_26 : decode cX8_joined 26 = .ok (.iload_n 1, 1) := by decide +kernel
theorem dX8_joined_27 : decode cX8_joined 27 = .ok (.iload_n 2, 1) := by decide +kernel
theorem dX8_joined_28 : decode cX8_joined 28 = .ok (.invokevirtual 237, 3) := by decide +kernel
theorem dX8_joined_31 : decode cX8_joined 31 = .ok (.ireturn, 1) := by decide +kernel
set_option maxRecDepth 20000 in
theorem ggX8_lasts_X8_isPq : GoodIn wsX8_lasts wsX8_isPq := goodIn_r _ [6, 7, 8, 9, 5, 10, 1, 11, 12, 13, 107, 108, 109, 110, 111, 112, 113, 114, 115, 116, 117, 118, 119, 120, 121, 122, 123, 124, 125, 126, 127, 128, 129, 130, 131, 132, 133, 134, 135, 136, 137, 138, 139, 140, 141, 142, 143, 144, 145, 146, 147, 148, 149, 150, 151, 152, 153, 154] (by decide +kernel) (by decide +kernel)
set_option maxRecDepth 20000 in
theorem gX8_lasts_X8_isPq : GoodIn wsX8_lasts (wsV RX8 220 RX8 yX8_isPq wsX8_isPq) := goodIn_app (goodIn_of _ (by decide +kernel)) ggX8_lasts_X8_isPq
set_option maxRecDepth 20000 in
theorem ggX8_lasts_X8_isStep : GoodIn wsX8_lasts wsX8_isStep := goodIn_r _ [16, 17, 11, 12, 5, 13] (by decide +kernel) (by decide +kernel)
set_option maxRecDepth 20000 in
theorem gX8_lasts_X8_isStep : GoodIn wsX8_lasts (va_wsS RX8 153 yX8_isStep wsX8_isStep) := goodIn_app (goodIn_of _ (by decide +kernel)) ggX8_lasts_X8_isStep
set_option maxRecDepth 20000 in
theorem ggX8_lasts_X8_asksSights : GoodIn wsX8_lasts wsX8_asksSights := goodIn_r _ [21, 22, 23, 24, 25, 26, 5, 27, 28, 29, 30, 31, 32, 33, 34, 35, 36, 37, 38, 39, 40, 41, 42, 43, 44, 45, 46, 47, 48, 49, 50, 51, 52, 53, 54, 55, 56, 57, 58, 59, 60, 61, 62, 63, 64, 65, 66, 67, 68, 69, 70, 71, 72, 73, 74, 75, 76, 77, 78, 79, 80, 81, 82, 83, 84, 85, 86, 87, 88, 89, 90, 91, 107, 108, 109, 110, 111, 112, 113, 114, 115, 116, 117, 118, 119, 120, 121, 122, 123, 124, 125, 126, 127, 128, 129, 130, 131, 132, 133, 134, 135, 136, 137, 138, 139, 140, 141, 142, 143, 144, 145, 146, 147, 148, 149, 150, 151, 152, 153, 154] (by decide +kernel) (by decide +kernel)
set_option maxRecDepth 20000 in
theorem gX8_lasts_X8_asksSights : GoodIn wsX8_lasts (wsV RX8 226 RX8 yX8_asksSights wsX8_asksSights) := goodIn_app (goodIn_of _ (by decide +kernel)) ggX8_lasts_X8_asksSights
set_option maxRecDepth 20000 in
theorem ggX8_lasts_X8_roundOf : GoodIn wsX8_lasts wsX8_roundOf := goodIn_r _ [95, 28, 29, 30, 5, 31, 107, 108, 109, 110, 111, 112, 113, 114, 115, 116, 117, 118, 119, 120, 121, 122, 123, 124, 125, 126, 127, 128, 129, 130, 131, 132, 133, 134, 135, 136, 137, 138, 139, 140, 141, 142, 143, 144, 145, 146, 147, 148, 149, 150, 151, 152, 153, 154] (by decide +kernel) (by decide +kernel)
set_option maxRecDepth 20000 in
theorem gX8_lasts_X8_roundOf : GoodIn wsX8_lasts (wsV RX8 149 RX8 yX8_roundOf wsX8_roundOf) := goodIn_app (goodIn_of _ (by decide +kernel)) ggX8_lasts_X8_roundOf
set_option maxRecDepth 20000 in
theorem ggX8_lasts_X8_joinedAt : GoodIn wsX8_lasts wsX8_joinedAt := goodIn_r _ [99, 1, 100, 101, 5, 102, 103, 104, 105, 106, 23, 22, 107, 108, 109, 110, 111, 112, 113, 114, 115, 116, 117, 118, 119, 120, 121, 122, 123, 124, 125, 126, 127, 128, 129, 130, 131, 132, 133, 134, 135, 136, 137, 138, 139, 140, 141, 142, 143, 144, 145, 146, 147, 148, 149, 150, 151, 152, 153, 154] (by decide +kernel) (by decide +kernel)
set_option maxRecDepth 20000 in
theorem gX8_lasts_X8_joinedAt : GoodIn wsX8_lasts (wsV RX8 237 RX8 yX8_joinedAt wsX8_joinedAt) := goodIn_app (goodIn_of _ (by decide +kernel)) ggX8_lasts_X8_joinedAt
set_option maxRecDepth 20000 in
theorem ggX8_lasts_X8_isIn : GoodIn wsX8_lasts wsX8_isIn := goodIn_r _ [102] (by decide +kernel) (by decide +kernel)
set_option maxRecDepth 20000 in
theorem gX8_lasts_X8_isIn : GoodIn wsX8_lasts (va_wsS RX8 233 yX8_isIn wsX8_isIn) := goodIn_app (goodIn_of _ (by decide +kernel)) ggX8_lasts_X8_isIn
theorem dX8_lasts_0 : decode cX8_lasts 0 = .ok (.aload_n 0, 1) := by decide +kernel
theorem dX8_lasts_1 : decode cX8_lasts 1 = .ok (.iload_n 1, 1) := by decide +kernel
theorem dX8_lasts_2 : decode cX8_lasts 2 = .ok (.invokevirtual 220, 3) := by decide +kernel
theorem dX8_lasts_5 : decode cX8_lasts 5 = .ok (.ifCond .eq 10, 3) := by decide +kernel
theorem dX8_lasts_8 : decode cX8_lasts 8 = .ok (.iload_n 2, 1) := by decide +kernel
theorem dX8_lasts_9 : decode cX8_lasts 9 = .ok (.invokestatic 153, 3) := by decide +kernel
theorem dX8_lasts_12 : decode cX8_lasts 12 = .ok (.ifCond .ne 5, 3) := by decide +kernel
theorem dX8_lasts_15 : decode cX8_lasts 15 = .ok (.iconst (-1), 1) := by decide +kernel
theorem dX8_lasts_16 : decode cX8_lasts 16 = .ok (.ireturn, 1) := by decide +kernel
theorem dX8_lasts_17 : decode cX8_lasts 17 = .ok (.aload_n 0, 1) := by decide +kernel
theorem dX8_lasts_18 : decode cX8_lasts 18 = .ok (.aload_n 0, 1) := by decide +kernel
theorem dX8_lasts_19 : decode cX8_lasts 19 = .ok (.getfield 94, 3) := by decide +kernel
theorem dX8_lasts_22 : decode cX8_lasts 22 = .ok (.invokevirtual 226, 3) := by decide +kernel
theorem dX8_lasts_25 : decode cX8_lasts 25 = .ok (.aload_n 0, 1) := by decide +kernel
theorem dX8_lasts_26 : decode cX8_lasts 26 = .ok (.aload_n 0, 1) := by decide +kernel
theorem dX8_lasts_27 : decode cX8_lasts 27 = .ok (.getfield 94, 3) := by decide +kernel
theorem dX8_lasts_30 : decode cX8_lasts 30 = .ok (.invokevirtual 149, 3) := by decide +kernel
theorem dX8_lasts_33 : decode cX8_lasts 33 = .ok (.istore_n 3, 1) := by decide +kernel
theorem dX8_lasts_34 : decode cX8_lasts 34 = .ok (.iconst 0, 1) := by decide +kernel
theorem dX8_lasts_35 : decode cX8_lasts 35 = .ok (.istore 4, 2) := by decide +kernel
theorem dX8_lasts_37 : decode cX8_lasts 37 = .ok (.iload 4, 2) := by decide +kernel
theorem dX8_lasts_39 : decode cX8_lasts 39 = .ok (.iload_n 3, 1) := by decide +kernel
theorem dX8_lasts_40 : decode cX8_lasts 40 = .ok (.if_icmp .ge 34, 3) := by decide +kernel
theorem dX8_lasts_43 : decode cX8_lasts 43 = .ok (.aload_n 0, 1) := by decide +kernel
theorem dX8_lasts_44 : decode cX8_lasts 44 = .ok (.iload_n 1, 1) := by decide +kernel
theorem dX8_lasts_45 : decode cX8_lasts 45 = .ok (.bipush 10, 2) := by decide +kernel
theorem dX8_lasts_47 : decode cX8_lasts 47 = .ok (.idiv, 1) := by decide +kernel
theorem dX8_lasts_48 : decode cX8_lasts 48 = .ok (.iload_n 2, 1) := by decide +kernel
theorem dX8_lasts_49 : decode cX8_lasts 49 = .ok (.iload 4, 2) := by decide +kernel
theorem dX8_lasts_51 : decode cX8_lasts 51 = .ok (.iadd, 1) := by decide +kernel
theorem dX8_lasts_52 : decode cX8_lasts 52 = .ok (.invokevirtual 237, 3) := by decide +kernel
theorem dX8_lasts_55 : decode cX8_lasts 55 = .ok (.iload_n 1, 1) := by decide +kernel
theorem dX8_lasts_56 : decode cX8_lasts 56 = .ok (.bipush 10, 2) := by decide +kernel
theorem dX8_lasts_58 : decode cX8_lasts 58 = .ok (.irem, 1) := by decide +kernel
theorem dX8_lasts_59 : decode cX8_lasts 59 = .ok (.invokestatic 233, 3) := by decide +kernel
theorem dX8_lasts_62 : decode cX8_lasts 62 = .ok (.ifCond .ne 6, 3) := by decide +kernel
theorem dX8_lasts_65 : decode cX8_lasts 65 = .ok (.iload 4, 2) := by decide +kernel
theorem dX8_lasts_67 : decode cX8_lasts 67 = .ok (.ireturn, 1) := by decide +kernel
theorem dX8_lasts_68 : decode cX8_lasts 68 = .ok (.iinc 4 1, 3) := by decide +kernel
theorem dX8_lasts_71 : decode cX8_lasts 71 = .ok (.goto (-34), 3) := by decide +kernel
theorem dX8_lasts_74 : decode cX8_lasts 74 = .ok (.bipush (-2), 2) := by decide +kernel
theorem dX8_lasts_76 : decode cX8_lasts 76 = .ok (.ireturn, 1) := by decide +kernel
set_option maxRecDepth 20000 in
theorem ggX8_unheard_X8_isPq : GoodIn wsX8_unheard wsX8_isPq := goodIn_r _ [6, 7, 8, 9, 5, 10, 1, 11, 12, 13, 100, 101, 102, 103, 104, 105, 106, 107, 108, 109, 110, 111, 112, 113, 114, 115, 116, 117, 118, 119, 120, 121, 122, 123, 124, 125, 126, 127, 128, 129, 130, 131, 132, 133, 134, 135, 136, 137, 138, 139, 140, 141, 142, 143, 144, 145, 146, 147] (by decide +kernel) (by decide +kernel)
set_option maxRecDepth 20000 in
theorem gX8_unheard_X8_isPq : GoodIn wsX8_unheard (wsV RX8 220 RX8 yX8_isPq wsX8_isPq) := goodIn_app (goodIn_of _ (by decide +kernel)) ggX8_unheard_X8_isPq
set_option maxRecDepth 20000 in
theorem ggX8_unheard_X8_isWorld : GoodIn wsX8_unheard wsX8_isWorld := goodIn_r _ [10, 1, 11, 12, 5, 13, 100, 101, 102, 103, 104, 105, 106, 107, 108, 109, 110, 111, 112, 113, 114, 115, 116, 117, 118, 119, 120, 121, 122, 123, 124, 125, 126, 127, 128, 129, 130, 131, 132, 133, 134, 135, 136, 137, 138, 139, 140, 141, 142, 143, 144, 145, 146, 147] (by decide +kernel) (by decide +kernel)
set_option maxRecDepth 20000 in
theorem gX8_unheard_X8_isWorld : GoodIn wsX8_unheard (wsV RX8 101 RX8 yX8_isWorld wsX8_isWorld) := goodIn_app (goodIn_of _ (by decide +kernel)) ggX8_unheard_X8_isWorld
set_option maxRecDepth 20000 in
theorem ggX8_unheard_X8_isStep : GoodIn wsX8_unheard wsX8_isStep := goodIn_r _ [16, 17, 11, 12, 5, 13] (by decide +kernel) (by decide +kernel)
set_option maxRecDepth 20000 in
theorem gX8_unheard_X8_isStep : GoodIn wsX8_unheard (va_wsS RX8 153 yX8_isStep wsX8_isStep) := goodIn_app (goodIn_of _ (by decide +kernel)) ggX8_unheard_X8_isStep
set_option maxRecDepth 20000 in
theorem ggX8_unheard_X8_asksSights : GoodIn wsX8_unheard wsX8_asksSights := goodIn_r _ [21, 22, 23, 24, 25, 26, 5, 27, 28, 29, 30, 31, 32, 33, 34, 35, 36, 37, 38, 39, 40, 41, 42, 43, 44, 45, 46, 47, 48, 49, 50, 51, 52, 53, 54, 55, 56, 57, 58, 59, 60, 61, 62, 63, 64, 65, 66, 67, 68, 69, 70, 71, 72, 73, 74, 75, 76, 77, 78, 79, 80, 81, 82, 83, 84, 85, 86, 87, 88, 89, 90, 91, 100, 101, 102, 103, 104, 105, 106, 107, 108, 109, 110, 111, 112, 113, 114, 115, 116, 117, 118, 119, 120, 121, 122, 123, 124, 125, 126, 127, 128, 129, 130, 131, 132, 133, 134, 135, 136, 137, 138, 139, 140, 141, 142, 143, 144, 145, 146, 147] (by decide +kernel) (by decide +kernel)
set_option maxRecDepth 20000 in
theorem gX8_unheard_X8_asksSights : GoodIn wsX8_unheard (wsV RX8 226 RX8 yX8_asksSights wsX8_asksSights) := goodIn_app (goodIn_of _ (by decide +kernel)) ggX8_unheard_X8_asksSights
set_option maxRecDepth 20000 in
theorem ggX8_unheard_X8_roundOf : GoodIn wsX8_unheard wsX8_roundOf := goodIn_r _ [95, 28, 29, 30, 5, 31, 100, 101, 102, 103, 104, 105, 106, 107, 108, 109, 110, 111, 112, 113, 114, 115, 116, 117, 118, 119, 120, 121, 122, 123, 124, 125, 126, 127, 128, 129, 130, 131, 132, 133, 134, 135, 136, 137, 138, 139, 140, 141, 142, 143, 144, 145, 146, 147] (by decide +kernel) (by decide +kernel)
set_option maxRecDepth 20000 in
theorem gX8_unheard_X8_roundOf : GoodIn wsX8_unheard (wsV RX8 149 RX8 yX8_roundOf wsX8_roundOf) := goodIn_app (goodIn_of _ (by decide +kernel)) ggX8_unheard_X8_roundOf
set_option maxRecDepth 20000 in
theorem ggX8_unheard_X8_sawAt : GoodIn wsX8_unheard wsX8_sawAt := goodIn_r _ [99, 23, 22, 100, 101, 102, 103, 104, 105, 106, 107, 108, 109, 110, 111, 112, 113, 114, 115, 116, 117, 118, 119, 120, 121, 122, 123, 124, 125, 126, 127, 128, 129, 130, 131, 132, 133, 134, 135, 136, 137, 138, 139, 140, 141, 142, 143, 144, 145, 146, 147] (by decide +kernel) (by decide +kernel)
set_option maxRecDepth 20000 in
theorem gX8_unheard_X8_sawAt : GoodIn wsX8_unheard (wsV RX8 223 RX8 yX8_sawAt wsX8_sawAt) := goodIn_app (goodIn_of _ (by decide +kernel)) ggX8_unheard_X8_sawAt
theorem dX8_unheard_0 : decode cX8_unheard 0 = .ok (.aload_n 0, 1) := by decide +kernel
theorem dX8_unheard_1 : decode cX8_unheard 1 = .ok (.iload_n 1, 1) := by decide +kernel
theorem dX8_unheard_2 : decode cX8_unheard 2 = .ok (.invokevirtual 220, 3) := by decide +kernel
theorem dX8_unheard_5 : decode cX8_unheard 5 = .ok (.ifCond .eq 34, 3) := by decide +kernel
theorem dX8_unheard_8 : decode cX8_unheard 8 = .ok (.aload_n 0, 1) := by decide +kernel
theorem dX8_unheard_9 : decode cX8_unheard 9 = .ok (.iload_n 2, 1) := by decide +kernel
theorem dX8_unheard_10 : decode cX8_unheard 10 = .ok (.invokevirtual 101, 3) := by decide +kernel
theorem dX8_unheard_13 : decode cX8_unheard 13 = .ok (.ifCond .eq 26, 3) := by decide +kernel
theorem dX8_unheard_16 : decode cX8_unheard 16 = .ok (.iload_n 2, 1) := by decide +kernel
theorem dX8_unheard_17 : decode cX8_unheard 17 = .ok (.iload_n 1, 1) := by decide +kernel
theorem dX8_unheard_18 : decode cX8_unheard 18 = .ok (.bipush 10, 2) := by decide +kernel
theorem dX8_unheard_20 : decode cX8_unheard 20 = .ok (.idiv, 1) := by decide +kernel
theorem dX8_unheard_21 : decode cX8_unheard 21 = .ok (.if_icmp .eq 18, 3) := by decide +kernel
theorem dX8_unheard_24 : decode cX8_unheard 24 = .ok (.iload_n 2, 1) := by decide +kernel
theorem dX8_unheard_25 : decode cX8_unheard 25 = .ok (.iload_n 1, 1) := by decide +kernel
theorem dX8_unheard_26 : decode cX8_unheard 26 = .ok (.bipush 10, 2) := by decide +kernel
theorem dX8_unheard_28 : decode cX8_unheard 28 = .ok (.irem, 1) := by decide +kernel
theorem dX8_unheard_29 : decode cX8_unheard 29 = .ok (.if_icmp .eq 10, 3) := by decide +kernel
theorem dX8_unheard_32 : decode cX8_unheard 32 = .ok (.iload_n 3, 1) := by decide +kernel
theorem dX8_unheard_33 : decode cX8_unheard 33 = .ok (.invokestatic 153, 3) := by decide +kernel
theorem dX8_unheard_36 : decode cX8_unheard 36 = .ok (.ifCond .ne 5, 3) := by decide +kernel
theorem dX8_unheard_39 : decode cX8_unheard 39 = .ok (.iconst (-1), 1) := by decide +kernel
theorem dX8_unheard_40 : decode cX8_unheard 40 = .ok (.ireturn, 1) := by decide +kernel
theorem dX8_unheard_41 : decode cX8_unheard 41 = .ok (.aload_n 0, 1) := by decide +kernel
theorem dX8_unheard_42 : decode cX8_unheard 42 = .ok (.aload_n 0, 1) := by decide +kernel
theorem dX8_unheard_43 : decode cX8_unheard 43 = .ok (.getfield 94, 3) := by decide +kernel
theorem dX8_unheard_46 : decode cX8_unheard 46 = .ok (.invokevirtual 226, 3) := by decide +kernel
theorem dX8_unheard_49 : decode cX8_unheard 49 = .ok (.aload_n 0, 1) := by decide +kernel
theorem dX8_unheard_50 : decode cX8_unheard 50 = .ok (.aload_n 0, 1) := by decide +kernel
theorem dX8_unheard_51 : decode cX8_unheard 51 = .ok (.getfield 94, 3) := by decide +kernel
theorem dX8_unheard_54 : decode cX8_unheard 54 = .ok (.invokevirtual 149, 3) := by decide +kernel
theorem dX8_unheard_57 : decode cX8_unheard 57 = .ok (.istore 4, 2) := by decide +kernel
theorem dX8_unheard_59 : decode cX8_unheard 59 = .ok (.iconst 0, 1) := by decide +kernel
theorem dX8_unheard_60 : decode cX8_unheard 60 = .ok (.istore 5, 2) := by decide +kernel
theorem dX8_unheard_62 : decode cX8_unheard 62 = .ok (.iload 5, 2) := by decide +kernel
theorem dX8_unheard_64 : decode cX8_unheard 64 = .ok (.iload 4, 2) := by decide +kernel
theorem dX8_unheard_66 : decode cX8_unheard 66 = .ok (.if_icmp .ge 65, 3) := by decide +kernel
theorem dX8_unheard_69 : decode cX8_unheard 69 = .ok (.aload_n 0, 1) := by decide +kernel
theorem dX8_unheard_70 : decode cX8_unheard 70 = .ok (.iload_n 1, 1) := by decide +kernel
theorem dX8_unheard_71 : decode cX8_unheard 71 = .ok (.bipush 10, 2) := by decide +kernel
theorem dX8_unheard_73 : decode cX8_unheard 73 = .ok (.idiv, 1) := by decide +kernel
theorem dX8_unheard_74 : decode cX8_unheard 74 = .ok (.iload_n 1, 1) := by decide +kernel
theorem dX8_unheard_75 : decode cX8_unheard 75 = .ok (.bipush 10, 2) := by decide +kernel
theorem dX8_unheard_77 : decode cX8_unheard 77 = .ok (.irem, 1) := by decide +kernel
theorem dX8_unheard_78 : decode cX8_unheard 78 = .ok (.iload_n 3, 1) := by decide +kernel
theorem dX8_unheard_79 : decode cX8_unheard 79 = .ok (.iload 5, 2) := by decide +kernel
theorem dX8_unheard_81 : decode cX8_unheard 81 = .ok (.iadd, 1) := by decide +kernel
theorem dX8_unheard_82 : decode cX8_unheard 82 = .ok (.invokevirtual 223, 3) := by decide +kernel
theorem dX8_unheard_85 : decode cX8_unheard 85 = .ok (.ifCond .eq 40, 3) := by decide +kernel
theorem dX8_unheard_88 : decode cX8_unheard 88 = .ok (.aload_n 0, 1) := by decide +kernel
theorem dX8_unheard_89 : decode cX8_unheard 89 = .ok (.iload_n 2, 1) := by decide +kernel
theorem dX8_unheard_90 : decode cX8_unheard 90 = .ok (.iload_n 1, 1) := by decide +kernel
theorem dX8_unheard_91 : decode cX8_unheard 91 = .ok (.bipush 10, 2) := by decide +kernel
theorem dX8_unheard_93 : decode cX8_unheard 93 = .ok (.idiv, 1) := by decide +kernel
theorem dX8_unheard_94 : decode cX8_unheard 94 = .ok (.iload_n 3, 1) := by decide +kernel
theorem dX8_unheard_95 : decode cX8_unheard 95 = .ok (.iload 5, 2) := by decide +kernel
theorem dX8_unheard_97 : decode cX8_unheard 97 = .ok (.iadd, 1) := by decide +kernel
theorem dX8_unheard_98 : decode cX8_unheard 98 = .ok (.invokevirtual 223, 3) := by decide +kernel
theorem dX8_unheard_101 : decode cX8_unheard 101 = .ok (.ifCond .ne 24, 3) := by decide +kernel
theorem dX8_unheard_104 : decode cX8_unheard 104 = .ok (.aload_n 0, 1) := by decide +kernel
theorem dX8_unheard_105 : decode cX8_unheard 105 = .ok (.iload_n 2, 1) := by decide +kernel
theorem dX8_unheard_106 : decode cX8_unheard 106 = .ok (.iload_n 1, 1) := by decide +kernel
theorem dX8_unheard_107 : decode cX8_unheard 107 = .ok (.bipush 10, 2) := by decide +kernel
theorem dX8_unheard_109 : decode cX8_unheard 109 = .ok (.irem, 1) := by decide +kernel
theorem dX8_unheard_110 : decode cX8_unheard 110 = .ok (.iload_n 3, 1) := by decide +kernel
theorem dX8_unheard_111 : decode cX8_unheard 111 = .ok (.iload 5, 2) := by decide +kernel
theorem dX8_unheard_113 : decode cX8_unheard 113 = .ok (.iadd, 1) := by decide +kernel
theorem dX8_unheard_114 : decode cX8_unheard 114 = .ok (.invokevirtual 223, 3) := by decide +kernel
theorem dX8_unheard_117 : decode cX8_unheard 117 = .ok (.ifCond .ne 8, 3) := by decide +kernel
theorem dX8_unheard_120 : decode cX8_unheard 120 = .ok (.iload_n 3, 1) := by decide +kernel
theorem dX8_unheard_121 : decode cX8_unheard 121 = .ok (.iload 5, 2) := by decide +kernel
theorem dX8_unheard_123 : decode cX8_unheard 123 = .ok (.iadd, 1) := by decide +kernel
theorem dX8_unheard_124 : decode cX8_unheard 124 = .ok (.ireturn, 1) := by decide +kernel
theorem dX8_unheard_125 : decode cX8_unheard 125 = .ok (.iinc 5 1, 3) := by decide +kernel
theorem dX8_unheard_128 : decode cX8_unheard 128 = .ok (.goto (-66), 3) := by decide +kernel
theorem dX8_unheard_131 : decode cX8_unheard 131 = .ok (.bipush (-2), 2) := by decide +kernel
theorem dX8_unheard_133 : decode cX8_unheard 133 = .ok (.ireturn, 1) := by decide +kernel
set_option maxRecDepth 20000 in
theorem ggX8_beam_X8_isPq : GoodIn wsX8_beam wsX8_isPq := goodIn_r _ [6, 7, 8, 9, 5, 10, 1, 11, 12, 13, 79, 80, 81, 82, 83, 84, 85, 86, 87, 88, 89, 90, 91, 92, 93, 94, 95, 96, 97, 98, 99, 100, 101, 102, 103, 104, 105, 106, 107, 108, 109, 110, 111, 112, 113, 114, 115, 116, 117, 118, 119, 120, 121, 122, 123, 124, 125, 126] (by decide +kernel) (by decide +kernel)
set_option maxRecDepth 20000 in
theorem gX8_beam_X8_isPq : GoodIn wsX8_beam (wsV RX8 220 RX8 yX8_isPq wsX8_isPq) := goodIn_app (goodIn_of _ (by decide +kernel)) ggX8_beam_X8_isPq
set_option maxRecDepth 20000 in
theorem ggX8_beam_X8_isStep : GoodIn wsX8_beam wsX8_isStep := goodIn_r _ [16, 17, 11, 12, 5, 13] (by decide +kernel) (by decide +kernel)
set_option maxRecDepth 20000 in
theorem gX8_beam_X8_isStep : GoodIn wsX8_beam (va_wsS RX8 153 yX8_isStep wsX8_isStep) := goodIn_app (goodIn_of _ (by decide +kernel)) ggX8_beam_X8_isStep
set_option maxRecDepth 20000 in
theorem ggX8_beam_X8_doSee : GoodIn wsX8_beam wsX8_doSee := goodIn_r _ [21, 22, 23, 24, 25, 26, 27, 5, 28, 29, 30, 31, 32, 33, 34, 35, 36, 37, 38, 39, 40, 41, 42, 43, 44, 45, 46, 47, 48, 49, 50, 51, 52, 53, 54, 55, 56, 57, 58, 59, 60, 61, 62, 63, 64, 65, 66, 67, 68, 69, 70, 71, 72, 73, 74, 75, 76, 77, 78, 79, 80, 81, 82, 83, 84, 85, 86, 87, 88, 89, 90, 91, 92, 93, 94, 95, 96, 97, 98, 99, 100, 101, 102, 103, 104, 105, 106, 107, 108, 109, 110, 111, 112, 113, 114, 115, 116, 117, 118, 119, 120, 121, 122, 123, 124, 125, 126] (by decide +kernel) (by decide +kernel)
set_option maxRecDepth 20000 in
theorem gX8_beam_X8_doSee : GoodIn wsX8_beam (wsV RX8 216 RX8 yX8_doSee wsX8_doSee) := goodIn_app (goodIn_of _ (by decide +kernel)) ggX8_beam_X8_doSee
set_option maxRecDepth 20000 in
theorem ggX8_beam_X8_placeAt : GoodIn wsX8_beam wsX8_placeAt := goodIn_r _ [28, 23, 79, 80, 81, 82, 83, 84, 85, 86, 87, 88, 89, 90, 91, 92, 93, 94, 95, 96, 97, 98, 99, 100, 101, 102, 103, 104, 105, 106, 107, 108, 109, 110, 111, 112, 113, 114, 115, 116, 117, 118, 119, 120, 121, 122, 123, 124, 125, 126] (by decide +kernel) (by decide +kernel)
set_option maxRecDepth 20000 in
theorem gX8_beam_X8_placeAt : GoodIn wsX8_beam (wsV RX8 134 RX8 yX8_placeAt wsX8_placeAt) := goodIn_app (goodIn_of _ (by decide +kernel)) ggX8_beam_X8_placeAt
theorem dX8_beam_0 : decode cX8_beam 0 = .ok (.aload_n 0, 1) := by decide +kernel
theorem dX8_beam_1 : decode cX8_beam 1 = .ok (.iload_n 1, 1) := by decide +kernel
theorem dX8_beam_2 : decode cX8_beam 2 = .ok (.invokevirtual 220, 3) := by decide +kernel
theorem dX8_beam_5 : decode cX8_beam 5 = .ok (.ifCond .eq 10, 3) := by decide +kernel
theorem dX8_beam_8 : decode cX8_beam 8 = .ok (.iload_n 2, 1) := by decide +kernel
theorem dX8_beam_9 : decode cX8_beam 9 = .ok (.invokestatic 153, 3) := by decide +kernel
theorem dX8_beam_12 : decode cX8_beam 12 = .ok (.ifCond .ne 5, 3) := by decide +kernel
theorem dX8_beam_15 : decode cX8_beam 15 = .ok (.iconst (-1), 1) := by decide +kernel
theorem dX8_beam_16 : decode cX8_beam 16 = .ok (.ireturn, 1) := by decide +kernel
theorem dX8_beam_17 : decode cX8_beam 17 = .ok (.aload_n 0, 1) := by decide +kernel
theorem dX8_beam_18 : decode cX8_beam 18 = .ok (.iload_n 1, 1) := by decide +kernel
theorem dX8_beam_19 : decode cX8_beam 19 = .ok (.bipush 10, 2) := by decide +kernel
theorem dX8_beam_21 : decode cX8_beam 21 = .ok (.idiv, 1) := by decide +kernel
theorem dX8_beam_22 : decode cX8_beam 22 = .ok (.iload_n 1, 1) := by decide +kernel
theorem dX8_beam_23 : decode cX8_beam 23 = .ok (.bipush 10, 2) := by decide +kernel
theorem dX8_beam_25 : decode cX8_beam 25 = .ok (.irem, 1) := by decide +kernel
theorem dX8_beam_26 : decode cX8_beam 26 = .ok (.iload_n 2, 1) := by decide +kernel
theorem dX8_beam_27 : decode cX8_beam 27 = .ok (.invokevirtual 216, 3) := by decide +kernel
theorem dX8_beam_30 : decode cX8_beam 30 = .ok (.ifCond .ne 6, 3) := by decide +kernel
theorem dX8_beam_33 : decode cX8_beam 33 = .ok (.bipush (-2), 2) := by decide +kernel
theorem dX8_beam_35 : decode cX8_beam 35 = .ok (.ireturn, 1) := by decide +kernel
theorem dX8_beam_36 : decode cX8_beam 36 = .ok (.aload_n 0, 1) := by decide +kernel
theorem dX8_beam_37 : decode cX8_beam 37 = .ok (.iload_n 1, 1) := by decide +kernel
theorem dX8_beam_38 : decode cX8_beam 38 = .ok (.bipush 10, 2) := by decide +kernel
theorem dX8_beam_40 : decode cX8_beam 40 = .ok (.idiv, 1) := by decide +kernel
theorem dX8_beam_41 : decode cX8_beam 41 = .ok (.iload_n 2, 1) := by decide +kernel
theorem dX8_beam_42 : decode cX8_beam 42 = .ok (.invokevirtual 134, 3) := by decide +kernel
theorem dX8_beam_45 : decode cX8_beam 45 = .ok (.istore_n 3, 1) := by decide +kernel
theorem dX8_beam_46 : decode cX8_beam 46 = .ok (.aload_n 0, 1) := by decide +kernel
theorem dX8_beam_47 : decode cX8_beam 47 = .ok (.iload_n 1, 1) := by decide +kernel
theorem dX8_beam_48 : decode cX8_beam 48 = .ok (.bipush 10, 2) := by decide +kernel
theorem dX8_beam_50 : decode cX8_beam 50 = .ok (.irem, 1) := by decide +kernel
theorem dX8_beam_51 : decode cX8_beam 51 = .ok (.iload_n 2, 1) := by decide +kernel
theorem dX8_beam_52 : decode cX8_beam 52 = .ok (.invokevirtual 134, 3) := by decide +kernel
theorem dX8_beam_55 : decode cX8_beam 55 = .ok (.iload_n 3, 1) := by decide +kernel
theorem dX8_beam_56 : decode cX8_beam 56 = .ok (.isub, 1) := by decide +kernel
theorem dX8_beam_57 : decode cX8_beam 57 = .ok (.sipush 360, 3) := by decide +kernel
theorem dX8_beam_60 : decode cX8_beam 60 = .ok (.iadd, 1) := by decide +kernel
theorem dX8_beam_61 : decode cX8_beam 61 = .ok (.sipush 360, 3) := by decide +kernel
theorem dX8_beam_64 : decode cX8_beam 64 = .ok (.irem, 1) := by decide +kernel
theorem dX8_beam_65 : decode cX8_beam 65 = .ok (.istore 4, 2) := by decide +kernel
theorem dX8_beam_67 : decode cX8_beam 67 = .ok (.iconst 0, 1) := by decide +kernel
theorem dX8_beam_68 : decode cX8_beam 68 = .ok (.istore 5, 2) := by decide +kernel
theorem dX8_beam_70 : decode cX8_beam 70 = .ok (.iconst 0, 1) := by decide +kernel
theorem dX8_beam_71 : decode cX8_beam 71 = .ok (.istore 6, 2) := by decide +kernel
theorem dX8_beam_73 : decode cX8_beam 73 = .ok (.iload 6, 2) := by decide +kernel
theorem dX8_beam_75 : decode cX8_beam 75 = .ok (.aload_n 0, 1) := by decide +kernel
theorem dX8_beam_76 : decode cX8_beam 76 = .ok (.getfield 94, 3) := by decide +kernel
theorem dX8_beam_79 : decode cX8_beam 79 = .ok (.if_icmp .ge 96, 3) := by decide +kernel
theorem dX8_beam_82 : decode cX8_beam 82 = .ok (.aload_n 0, 1) := by decide +kernel
theorem dX8_beam_83 : decode cX8_beam 83 = .ok (.iload 6, 2) := by decide +kernel
theorem dX8_beam_85 : decode cX8_beam 85 = .ok (.iload_n 2, 1) := by decide +kernel
theorem dX8_beam_86 : decode cX8_beam 86 = .ok (.invokevirtual 134, 3) := by decide +kernel
theorem dX8_beam_89 : decode cX8_beam 89 = .ok (.iload_n 3, 1) := by decide +kernel
theorem dX8_beam_90 : decode cX8_beam 90 = .ok (.isub, 1) := by decide +kernel
theorem dX8_beam_91 : decode cX8_beam 91 = .ok (.sipush 360, 3) := by decide +kernel
theorem dX8_beam_94 : decode cX8_beam 94 = .ok (.iadd, 1) := by decide +kernel
theorem dX8_beam_95 : decode cX8_beam 95 = .ok (.sipush 360, 3) := by decide +kernel
theorem dX8_beam_98 : decode cX8_beam 98 = .ok (.irem, 1) := by decide +kernel
theorem dX8_beam_99 : decode cX8_beam 99 = .ok (.istore 7, 2) := by decide +kernel
theorem dX8_beam_101 : decode cX8_beam 101 = .ok (.iload 4, 2) := by decide +kernel
theorem dX8_beam_103 : decode cX8_beam 103 = .ok (.sipush 180, 3) := by decide +kernel
theorem dX8_beam_106 : decode cX8_beam 106 = .ok (.if_icmp .ge 23, 3) := by decide +kernel
theorem dX8_beam_109 : decode cX8_beam 109 = .ok (.iload 7, 2) := by decide +kernel
theorem dX8_beam_111 : decode cX8_beam 111 = .ok (.ifCond .le 14, 3) := by decide +kernel
theorem dX8_beam_114 : decode cX8_beam 114 = .ok (.iload 7, 2) := by decide +kernel
theorem dX8_beam_116 : decode cX8_beam 116 = .ok (.iload 4, 2) := by decide +kernel
theorem dX8_beam_118 : decode cX8_beam 118 = .ok (.if_icmp .ge 7, 3) := by decide +kernel
theorem dX8_beam_121 : decode cX8_beam 121 = .ok (.iconst 1, 1) := by decide +kernel
theorem dX8_beam_122 : decode cX8_beam 122 = .ok (.goto 27, 3) := by decide +kernel
theorem dX8_beam_125 : decode cX8_beam 125 = .ok (.iconst 0, 1) := by decide +kernel
theorem dX8_beam_126 : decode cX8_beam 126 = .ok (.goto 23, 3) := by decide +kernel
theorem dX8_beam_129 : decode cX8_beam 129 = .ok (.iload 4, 2) := by decide +kernel
theorem dX8_beam_131 : decode cX8_beam 131 = .ok (.sipush 180, 3) := by decide +kernel
theorem dX8_beam_134 : decode cX8_beam 134 = .ok (.if_icmp .le 14, 3) := by decide +kernel
theorem dX8_beam_137 : decode cX8_beam 137 = .ok (.iload 7, 2) := by decide +kernel
theorem dX8_beam_139 : decode cX8_beam 139 = .ok (.iload 4, 2) := by decide +kernel
theorem dX8_beam_141 : decode cX8_beam 141 = .ok (.if_icmp .le 7, 3) := by decide +kernel
theorem dX8_beam_144 : decode cX8_beam 144 = .ok (.iconst 1, 1) := by decide +kernel
theorem dX8_beam_145 : decode cX8_beam 145 = .ok (.goto 4, 3) := by decide +kernel
theorem dX8_beam_148 : decode cX8_beam 148 = .ok (.iconst 0, 1) := by decide +kernel
theorem dX8_beam_149 : decode cX8_beam 149 = .ok (.istore 8, 2) := by decide +kernel
theorem dX8_beam_151 : decode cX8_beam 151 = .ok (.iload 5, 2) := by decide +kernel
theorem dX8_beam_153 : decode cX8_beam 153 = .ok (.iload 8, 2) := by decide +kernel
theorem dX8_beam_155 : decode cX8_beam 155 = .ok (.ifCond .eq 10, 3) := by decide +kernel
theorem dX8_beam_158 : decode cX8_beam 158 = .ok (.iconst 1, 1) := by decide +kernel
theorem dX8_beam_159 : decode cX8_beam 159 = .ok (.iload 6, 2) := by decide +kernel
theorem dX8_beam_161 : decode cX8_beam 161 = .ok (.ishl, 1) := by decide +kernel
theorem dX8_beam_162 : decode cX8_beam 162 = .ok (.goto 4, 3) := by decide +kernel
theorem dX8_beam_165 : decode cX8_beam 165 = .ok (.iconst 0, 1) := by decide +kernel
theorem dX8_beam_166 : decode cX8_beam 166 = .ok (.ior, 1) := by decide +kernel
theorem dX8_beam_167 : decode cX8_beam 167 = .ok (.istore 5, 2) := by decide +kernel
theorem dX8_beam_169 : decode cX8_beam 169 = .ok (.iinc 6 1, 3) := by decide +kernel
theorem dX8_beam_172 : decode cX8_beam 172 = .ok (.goto (-99), 3) := by decide +kernel
theorem dX8_beam_175 : decode cX8_beam 175 = .ok (.iload 5, 2) := by decide +kernel
theorem dX8_beam_177 : decode cX8_beam 177 = .ok (.ireturn, 1) := by decide +kernel
set_option maxRecDepth 20000 in
theorem ggX8_looksFrom_X8_asksSights : GoodIn wsX8_looksFrom wsX8_asksSights := goodIn_r _ [9, 10, 11, 12, 13, 14, 8, 15, 16, 17, 18, 19, 20, 21, 22, 23, 24, 25, 26, 27, 28, 29, 30, 31, 32, 33, 34, 35, 36, 37, 38, 39, 40, 41, 42, 43, 44, 45, 46, 47, 48, 49, 50, 51, 52, 53, 54, 55, 56, 57, 58, 59, 60, 61, 62, 63, 64, 65, 66, 67, 68, 69, 70, 71, 72, 73, 74, 75, 76, 77, 78, 79, 84, 85, 86, 87, 88, 89, 90, 91, 92, 93, 94, 95, 96, 97, 98, 99, 100, 101, 102, 103, 104, 105, 106, 107, 108, 109, 110, 111, 112, 113, 114, 115, 116, 117, 118, 119, 120, 121, 122, 123, 124, 125, 126, 127, 128, 129, 130, 131] (by decide +kernel) (by decide +kernel)
set_option maxRecDepth 20000 in
theorem gX8_looksFrom_X8_asksSights : GoodIn wsX8_looksFrom (wsV RX8 226 RX8 yX8_asksSights wsX8_asksSights) := goodIn_app (goodIn_of _ (by decide +kernel)) ggX8_looksFrom_X8_asksSights
set_option maxRecDepth 20000 in
theorem ggX8_looksFrom_X8_sawAt : GoodIn wsX8_looksFrom wsX8_sawAt := goodIn_r _ [83, 11, 10, 84, 85, 86, 87, 88, 89, 90, 91, 92, 93, 94, 95, 96, 97, 98, 99, 100, 101, 102, 103, 104, 105, 106, 107, 108, 109, 110, 111, 112, 113, 114, 115, 116, 117, 118, 119, 120, 121, 122, 123, 124, 125, 126, 127, 128, 129, 130, 131] (by decide +kernel) (by decide +kernel)
set_option maxRecDepth 20000 in
theorem gX8_looksFrom_X8_sawAt : GoodIn wsX8_looksFrom (wsV RX8 223 RX8 yX8_sawAt wsX8_sawAt) := goodIn_app (goodIn_of _ (by decide +kernel)) ggX8_looksFrom_X8_sawAt
