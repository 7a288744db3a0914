theorem dX8_within_0 : decode cX8_within 0 = .ok (.lload_n 0, 1) := by decide +kernel
theorem dX8_within_1 : decode cX8_within 1 = .ok (.lload_n 2, 1) := by decide +kernel
theorem dX8_within_2 : decode cX8_within 2 = .ok (.lcmp, 1) := by decide +kernel
theorem dX8_within_3 : decode cX8_within 3 = .ok (.ifCond .lt 14, 3) := by decide +kernel
theorem dX8_within_6 : decode cX8_within 6 = .ok (.lload_n 0, 1) := by decide +kernel
theorem dX8_within_7 : decode cX8_within 7 = .ok (.lload 4, 2) := by decide +kernel
theorem dX8_within_9 : decode cX8_within 9 = .ok (.lcmp, 1) := by decide +kernel
theorem dX8_within_10 : decode cX8_within 10 = .ok (.ifCond .gt 7, 3) := by decide +kernel
theorem dX8_within_13 : decode cX8_within 13 = .ok (.iconst 1, 1) := by decide +kernel
theorem dX8_within_14 : decode cX8_within 14 = .ok (.goto 4, 3) := by decide +kernel
theorem dX8_within_17 : decode cX8_within 17 = .ok (.iconst 0, 1) := by decide +kernel
theorem dX8_within_18 : decode cX8_within 18 = .ok (.ireturn, 1) := by decide +kernel
theorem dX8_isIn_0 : decode cX8_isIn 0 = .ok (.iload_n 0, 1) := by decide +kernel
theorem dX8_isIn_1 : decode cX8_isIn 1 = .ok (.iload_n 1, 1) := by decide +kernel
theorem dX8_isIn_2 : decode cX8_isIn 2 = .ok (.ishr, 1) := by decide +kernel
theorem dX8_isIn_3 : decode cX8_isIn 3 = .ok (.iconst 1, 1) := by decide +kernel
theorem dX8_isIn_4 : decode cX8_isIn 4 = .ok (.iand, 1) := by decide +kernel
theorem dX8_isIn_5 : decode cX8_isIn 5 = .ok (.iconst 1, 1) := by decide +kernel
theorem dX8_isIn_6 : decode cX8_isIn 6 = .ok (.if_icmp .ne 7, 3) := by decide +kernel
theorem dX8_isIn_9 : decode cX8_isIn 9 = .ok (.iconst 1, 1) := by decide +kernel
theorem dX8_isIn_10 : decode cX8_isIn 10 = .ok (.goto 4, 3) := by decide +kernel
theorem dX8_isIn_13 : decode cX8_isIn 13 = .ok (.iconst 0, 1) := by decide +kernel
theorem dX8_isIn_14 : decode cX8_isIn 14 = .ok (.ireturn, 1) := by decide +kernel
theorem dX8_init_0 : decode cX8_init 0 = .ok (.aload_n 0, 1) := by decide +kernel
theorem dX8_init_1 : decode cX8_init 1 = .ok (.invokespecial 3, 3) := by decide +kernel
theorem dX8_init_4 : decode cX8_init 4 = .ok (.aload_n 0, 1) := by decide +kernel
theorem dX8_init_5 : decode cX8_init 5 = .ok (.bipush 23, 2) := by decide +kernel
theorem dX8_init_7 : decode cX8_init 7 = .ok (.newarray .int, 2) := by decide +kernel
theorem dX8_init_9 : decode cX8_init 9 = .ok (.putfield 9, 3) := by decide +kernel
theorem dX8_init_12 : decode cX8_init 12 = .ok (.aload_n 0, 1) := by decide +kernel
theorem dX8_init_13 : decode cX8_init 13 = .ok (.bipush 40, 2) := by decide +kernel
theorem dX8_init_15 : decode cX8_init 15 = .ok (.newarray .int, 2) := by decide +kernel
theorem dX8_init_17 : decode cX8_init 17 = .ok (.putfield 13, 3) := by decide +kernel
theorem dX8_init_20 : decode cX8_init 20 = .ok (.aload_n 0, 1) := by decide +kernel
theorem dX8_init_21 : decode cX8_init 21 = .ok (.bipush 40, 2) := by decide +kernel
theorem dX8_init_23 : decode cX8_init 23 = .ok (.newarray .int, 2) := by decide +kernel
theorem dX8_init_25 : decode cX8_init 25 = .ok (.putfield 16, 3) := by decide +kernel
theorem dX8_init_28 : decode cX8_init 28 = .ok (.aload_n 0, 1) := by decide +kernel
theorem dX8_init_29 : decode cX8_init 29 = .ok (.bipush 40, 2) := by decide +kernel
theorem dX8_init_31 : decode cX8_init 31 = .ok (.newarray .int, 2) := by decide +kernel
theorem dX8_init_33 : decode cX8_init 33 = .ok (.putfield 19, 3) := by decide +kernel
theorem dX8_init_36 : decode cX8_init 36 = .ok (.aload_n 0, 1) := by decide +kernel
theorem dX8_init_37 : decode cX8_init 37 = .ok (.bipush 120, 2) := by decide +kernel
theorem dX8_init_39 : decode cX8_init 39 = .ok (.newarray .int, 2) := by decide +kernel
theorem dX8_init_41 : decode cX8_init 41 = .ok (.putfield 22, 3) := by decide +kernel
theorem dX8_init_44 : decode cX8_init 44 = .ok (.aload_n 0, 1) := by decide +kernel
theorem dX8_init_45 : decode cX8_init 45 = .ok (.bipush 120, 2) := by decide +kernel
theorem dX8_init_47 : decode cX8_init 47 = .ok (.newarray .int, 2) := by decide +kernel
theorem dX8_init_49 : decode cX8_init 49 = .ok (.putfield 25, 3) := by decide +kernel
theorem dX8_init_52 : decode cX8_init 52 = .ok (.aload_n 0, 1) := by decide +kernel
theorem dX8_init_53 : decode cX8_init 53 = .ok (.bipush 6, 2) := by decide +kernel
theorem dX8_init_55 : decode cX8_init 55 = .ok (.newarray .int, 2) := by decide +kernel
theorem dX8_init_57 : decode cX8_init 57 = .ok (.putfield 28, 3) := by decide +kernel
theorem dX8_init_60 : decode cX8_init 60 = .ok (.aload_n 0, 1) := by decide +kernel
theorem dX8_init_61 : decode cX8_init 61 = .ok (.sipush 6468, 3) := by decide +kernel
theorem dX8_init_64 : decode cX8_init 64 = .ok (.newarray .boolean, 2) := by decide +kernel
theorem dX8_init_66 : decode cX8_init 66 = .ok (.putfield 31, 3) := by decide +kernel
theorem dX8_init_69 : decode cX8_init 69 = .ok (.aload_n 0, 1) := by decide +kernel
theorem dX8_init_70 : decode cX8_init 70 = .ok (.bipush 49, 2) := by decide +kernel
theorem dX8_init_72 : decode cX8_init 72 = .ok (.newarray .int, 2) := by decide +kernel
theorem dX8_init_74 : decode cX8_init 74 = .ok (.putfield 35, 3) := by decide +kernel
theorem dX8_init_77 : decode cX8_init 77 = .ok (.aload_n 0, 1) := by decide +kernel
theorem dX8_init_78 : decode cX8_init 78 = .ok (.sipush 4207, 3) := by decide +kernel
theorem dX8_init_81 : decode cX8_init 81 = .ok (.newarray .int, 2) := by decide +kernel
theorem dX8_init_83 : decode cX8_init 83 = .ok (.putfield 38, 3) := by decide +kernel
theorem dX8_init_86 : decode cX8_init 86 = .ok (.aload_n 0, 1) := by decide +kernel
theorem dX8_init_87 : decode cX8_init 87 = .ok (.sipush 4207, 3) := by decide +kernel
theorem dX8_init_90 : decode cX8_init 90 = .ok (.newarray .int, 2) := by decide +kernel
theorem dX8_init_92 : decode cX8_init 92 = .ok (.putfield 41, 3) := by decide +kernel
theorem dX8_init_95 : decode cX8_init 95 = .ok (.aload_n 0, 1) := by decide +kernel
theorem dX8_init_96 : decode cX8_init 96 = .ok (.sipush 4207, 3) := by decide +kernel
theorem dX8_init_99 : decode cX8_init 99 = .ok (.newarray .int, 2) := by decide +kernel
theorem dX8_init_101 : decode cX8_init 101 = .ok (.putfield 44, 3) := by decide +kernel
theorem dX8_init_104 : decode cX8_init 104 = .ok (.aload_n 0, 1) := by decide +kernel
theorem dX8_init_105 : decode cX8_init 105 = .ok (.bipush 7, 2) := by decide +kernel
theorem dX8_init_107 : decode cX8_init 107 = .ok (.newarray .int, 2) := by decide +kernel
theorem dX8_init_109 : decode cX8_init 109 = .ok (.putfield 47, 3) := by decide +kernel
theorem dX8_init_112 : decode cX8_init 112 = .ok (.aload_n 0, 1) := by decide +kernel
theorem dX8_init_113 : decode cX8_init 113 = .ok (.bipush 7, 2) := by decide +kernel
theorem dX8_init_115 : decode cX8_init 115 = .ok (.newarray .int, 2) := by decide +kernel
theorem dX8_init_117 : decode cX8_init 117 = .ok (.putfield 50, 3) := by decide +kernel
theorem dX8_init_120 : decode cX8_init 120 = .ok (.aload_n 0, 1) := by decide +kernel
theorem dX8_init_121 : decode cX8_init 121 = .ok (.bipush 40, 2) := by decide +kernel
theorem dX8_init_123 : decode cX8_init 123 = .ok (.newarray .int, 2) := by decide +kernel
theorem dX8_init_125 : decode cX8_init 125 = .ok (.putfield 53, 3) := by decide +kernel
theorem dX8_init_128 : decode cX8_init 128 = .ok (.aload_n 0, 1) := by decide +kernel
theorem dX8_init_129 : decode cX8_init 129 = .ok (.bipush 6, 2) := by decide +kernel
theorem dX8_init_131 : decode cX8_init 131 = .ok (.newarray .int, 2) := by decide +kernel
theorem dX8_init_133 : decode cX8_init 133 = .ok (.putfield 56, 3) := by decide +kernel
theorem dX8_init_136 : decode cX8_init 136 = .ok (.aload_n 0, 1) := by decide +kernel
theorem dX8_init_137 : decode cX8_init 137 = .ok (.bipush 40, 2) := by decide +kernel
theorem dX8_init_139 : decode cX8_init 139 = .ok (.newarray .int, 2) := by decide +kernel
theorem dX8_init_141 : decode cX8_init 141 = .ok (.putfield 59, 3) := by decide +kernel
theorem dX8_init_144 : decode cX8_init 144 = .ok (.aload_n 0, 1) := by decide +kernel
theorem dX8_init_145 : decode cX8_init 145 = .ok (.bipush 6, 2) := by decide +kernel
theorem dX8_init_147 : decode cX8_init 147 = .ok (.newarray .int, 2) := by decide +kernel
theorem dX8_init_149 : decode cX8_init 149 = .ok (.putfield 62, 3) := by decide +kernel
theorem dX8_init_152 : decode cX8_init 152 = .ok (.aload_n 0, 1) := by decide +kernel
theorem dX8_init_153 : decode cX8_init 153 = .ok (.bipush 50, 2) := by decide +kernel
theorem dX8_init_155 : decode cX8_init 155 = .ok (.newarray .int, 2) := by decide +kernel
theorem dX8_init_157 : decode cX8_init 157 = .ok (.putfield 65, 3) := by decide +kernel
theorem dX8_init_160 : decode cX8_init 160 = .ok (.aload_n 0, 1) := by decide +kernel
theorem dX8_init_161 : decode cX8_init 161 = .ok (.bipush 24, 2) := by decide +kernel
theorem dX8_init_163 : decode cX8_init 163 = .ok (.newarray .int, 2) := by decide +kernel
theorem dX8_init_165 : decode cX8_init 165 = .ok (.putfield 68, 3) := by decide +kernel
theorem dX8_init_168 : decode cX8_init 168 = .ok (.aload_n 0, 1) := by decide +kernel
theorem dX8_init_169 : decode cX8_init 169 = .ok (.bipush 6, 2) := by decide +kernel
theorem dX8_init_171 : decode cX8_init 171 = .ok (.newarray .int, 2) := by decide +kernel
theorem dX8_init_173 : decode cX8_init 173 = .ok (.putfield 71, 3) := by decide +kernel
theorem dX8_init_176 : decode cX8_init 176 = .ok (.aload_n 0, 1) := by decide +kernel
theorem dX8_init_177 : decode cX8_init 177 = .ok (.bipush 6, 2) := by decide +kernel
theorem dX8_init_179 : decode cX8_init 179 = .ok (.newarray .int, 2) := by decide +kernel
theorem dX8_init_181 : decode cX8_init 181 = .ok (.putfield 74, 3) := by decide +kernel
theorem dX8_init_184 : decode cX8_init 184 = .ok (.aload_n 0, 1) := by decide +kernel
theorem dX8_init_185 : decode cX8_init 185 = .ok (.sipush 360, 3) := by decide +kernel
theorem dX8_init_188 : decode cX8_init 188 = .ok (.newarray .long, 2) := by decide +kernel
theorem dX8_init_190 : decode cX8_init 190 = .ok (.putfield 77, 3) := by decide +kernel
theorem dX8_init_193 : decode cX8_init 193 = .ok (.aload_n 0, 1) := by decide +kernel
theorem dX8_init_194 : decode cX8_init 194 = .ok (.bipush 60, 2) := by decide +kernel
theorem dX8_init_196 : decode cX8_init 196 = .ok (.newarray .long, 2) := by decide +kernel
theorem dX8_init_198 : decode cX8_init 198 = .ok (.putfield 81, 3) := by decide +kernel
theorem dX8_init_201 : decode cX8_init 201 = .ok (.iconst 0, 1) := by decide +kernel
theorem dX8_init_202 : decode cX8_init 202 = .ok (.istore_n 1, 1) := by decide +kernel
theorem dX8_init_203 : decode cX8_init 203 = .ok (.iload_n 1, 1) := by decide +kernel
theorem dX8_init_204 : decode cX8_init 204 = .ok (.bipush 6, 2) := by decide +kernel
theorem dX8_init_206 : decode cX8_init 206 = .ok (.if_icmp .ge 16, 3) := by decide +kernel
theorem dX8_init_209 : decode cX8_init 209 = .ok (.aload_n 0, 1) := by decide +kernel
theorem dX8_init_210 : decode cX8_init 210 = .ok (.getfield 71, 3) := by decide +kernel
theorem dX8_init_213 : decode cX8_init 213 = .ok (.iload_n 1, 1) := by decide +kernel
theorem dX8_init_214 : decode cX8_init 214 = .ok (.iconst (-1), 1) := by decide +kernel
theorem dX8_init_215 : decode cX8_init 215 = .ok (.iastore, 1) := by decide +kernel
theorem dX8_init_216 : decode cX8_init 216 = .ok (.iinc 1 1, 3) := by decide +kernel
theorem dX8_init_219 : decode cX8_init 219 = .ok (.goto (-16), 3) := by decide +kernel
theorem dX8_init_222 : decode cX8_init 222 = .ok (.aload_n 0, 1) := by decide +kernel
theorem dX8_init_223 : decode cX8_init 223 = .ok (.iconst (-1), 1) := by decide +kernel
theorem dX8_init_224 : decode cX8_init 224 = .ok (.putfield 84, 3) := by decide +kernel
theorem dX8_init_227 : decode cX8_init 227 = .ok (.aload_n 0, 1) := by decide +kernel
theorem dX8_init_228 : decode cX8_init 228 = .ok (.getfield 9, 3) := by decide +kernel
theorem dX8_init_231 : decode cX8_init 231 = .ok (.bipush 21, 2) := by decide +kernel
theorem dX8_init_233 : decode cX8_init 233 = .ok (.bipush 30, 2) := by decide +kernel
theorem dX8_init_235 : decode cX8_init 235 = .ok (.iastore, 1) := by decide +kernel
theorem dX8_init_236 : decode cX8_init 236 = .ok (.return_, 1) := by decide +kernel
theorem dX8_becomes_0 : decode cX8_becomes 0 = .ok (.aload_n 0, 1) := by decide +kernel
theorem dX8_becomes_1 : decode cX8_becomes 1 = .ok (.getfield 9, 3) := by decide +kernel
theorem dX8_becomes_4 : decode cX8_becomes 4 = .ok (.iload_n 1, 1) := by decide +kernel
theorem dX8_becomes_5 : decode cX8_becomes 5 = .ok (.iaload, 1) := by decide +kernel
theorem dX8_becomes_6 : decode cX8_becomes 6 = .ok (.istore_n 3, 1) := by decide +kernel
theorem dX8_becomes_7 : decode cX8_becomes 7 = .ok (.iload_n 3, 1) := by decide +kernel
theorem dX8_becomes_8 : decode cX8_becomes 8 = .ok (.iload_n 2, 1) := by decide +kernel
theorem dX8_becomes_9 : decode cX8_becomes 9 = .ok (.if_icmp .ne 5, 3) := by decide +kernel
theorem dX8_becomes_12 : decode cX8_becomes 12 = .ok (.iload_n 3, 1) := by decide +kernel
theorem dX8_becomes_13 : decode cX8_becomes 13 = .ok (.ireturn, 1) := by decide +kernel
theorem dX8_becomes_14 : decode cX8_becomes 14 = .ok (.aload_n 0, 1) := by decide +kernel
theorem dX8_becomes_15 : decode cX8_becomes 15 = .ok (.getfield 88, 3) := by decide +kernel
theorem dX8_becomes_18 : decode cX8_becomes 18 = .ok (.bipush 40, 2) := by decide +kernel
theorem dX8_becomes_20 : decode cX8_becomes 20 = .ok (.if_icmp .ne 77, 3) := by decide +kernel
theorem dX8_becomes_23 : decode cX8_becomes 23 = .ok (.iconst 1, 1) := by decide +kernel
theorem dX8_becomes_24 : decode cX8_becomes 24 = .ok (.istore 4, 2) := by decide +kernel
theorem dX8_becomes_26 : decode cX8_becomes 26 = .ok (.iload 4, 2) := by decide +kernel
theorem dX8_becomes_28 : decode cX8_becomes 28 = .ok (.bipush 40, 2) := by decide +kernel
theorem dX8_becomes_30 : decode cX8_becomes 30 = .ok (.if_icmp .ge 57, 3) := by decide +kernel
theorem dX8_becomes_33 : decode cX8_becomes 33 = .ok (.aload_n 0, 1) := by decide +kernel
theorem dX8_becomes_34 : decode cX8_becomes 34 = .ok (.getfield 13, 3) := by decide +kernel
theorem dX8_becomes_37 : decode cX8_becomes 37 = .ok (.iload 4, 2) := by decide +kernel
theorem dX8_becomes_39 : decode cX8_becomes 39 = .ok (.iconst 1, 1) := by decide +kernel
theorem dX8_becomes_40 : decode cX8_becomes 40 = .ok (.isub, 1) := by decide +kernel
theorem dX8_becomes_41 : decode cX8_becomes 41 = .ok (.aload_n 0, 1) := by decide +kernel
theorem dX8_becomes_42 : decode cX8_becomes 42 = .ok (.getfield 13, 3) := by decide +kernel
theorem dX8_becomes_45 : decode cX8_becomes 45 = .ok (.iload 4, 2) := by decide +kernel
theorem dX8_becomes_47 : decode cX8_becomes 47 = .ok (.iaload, 1) := by decide +kernel
theorem dX8_becomes_48 : decode cX8_becomes 48 = .ok (.iastore, 1) := by decide +kernel
theorem dX8_becomes_49 : decode cX8_becomes 49 = .ok (.aload_n 0, 1) := by decide +kernel
theorem dX8_becomes_50 : decode cX8_becomes 50 = .ok (.getfield 16, 3) := by decide +kernel
theorem dX8_becomes_53 : decode cX8_becomes 53 = .ok (.iload 4, 2) := by decide +kernel
theorem dX8_becomes_55 : decode cX8_becomes 55 = .ok (.iconst 1, 1) := by decide +kernel
theorem dX8_becomes_56 : decode cX8_becomes 56 = .ok (.isub, 1) := by decide +kernel
theorem dX8_becomes_57 : decode cX8_becomes 57 = .ok (.aload_n 0, 1) := by decide +kernel
theorem dX8_becomes_58 : decode cX8_becomes 58 = .ok (.getfield 16, 3) := by decide +kernel
theorem dX8_becomes_61 : decode cX8_becomes 61 = .ok (.iload 4, 2) := by decide +kernel
theorem dX8_becomes_63 : decode cX8_becomes 63 = .ok (.iaload, 1) := by decide +kernel
theorem dX8_becomes_64 : decode cX8_becomes 64 = .ok (.iastore, 1) := by decide +kernel
theorem dX8_becomes_65 : decode cX8_becomes 65 = .ok (.aload_n 0, 1) := by decide +kernel
theorem dX8_becomes_66 : decode cX8_becomes 66 = .ok (.getfield 19, 3) := by decide +kernel
theorem dX8_becomes_69 : decode cX8_becomes 69 = .ok (.iload 4, 2) := by decide +kernel
theorem dX8_becomes_71 : decode cX8_becomes 71 = .ok (.iconst 1, 1) := by decide +kernel
theorem dX8_becomes_72 : decode cX8_becomes 72 = .ok (.isub, 1) := by decide +kernel
theorem dX8_becomes_73 : decode cX8_becomes 73 = .ok (.aload_n 0, 1) := by decide +kernel
theorem dX8_becomes_74 : decode cX8_becomes 74 = .ok (.getfield 19, 3) := by decide +kernel
theorem dX8_becomes_77 : decode cX8_becomes 77 = .ok (.iload 4, 2) := by decide +kernel
theorem dX8_becomes_79 : decode cX8_becomes 79 = .ok (.iaload, 1) := by decide +kernel
theorem dX8_becomes_80 : decode cX8_becomes 80 = .ok (.iastore, 1) := by decide +kernel
theorem dX8_becomes_81 : decode cX8_becomes 81 = .ok (.iinc 4 1, 3) := by decide +kernel
theorem dX8_becomes_84 : decode cX8_becomes 84 = .ok (.goto (-58), 3) := by decide +kernel
theorem dX8_becomes_87 : decode cX8_becomes 87 = .ok (.aload_n 0, 1) := by decide +kernel
theorem dX8_becomes_88 : decode cX8_becomes 88 = .ok (.dup, 1) := by decide +kernel
theorem dX8_becomes_89 : decode cX8_becomes 89 = .ok (.getfield 88, 3) := by decide +kernel
theorem dX8_becomes_92 : decode cX8_becomes 92 = .ok (.iconst 1, 1) := by decide +kernel
theorem dX8_becomes_93 : decode cX8_becomes 93 = .ok (.isub, 1) := by decide +kernel
theorem dX8_becomes_94 : decode cX8_becomes 94 = .ok (.putfield 88, 3) := by decide +kernel
theorem dX8_becomes_97 : decode cX8_becomes 97 = .ok (.aload_n 0, 1) := by decide +kernel
theorem dX8_becomes_98 : decode cX8_becomes 98 = .ok (.getfield 13, 3) := by decide +kernel
theorem dX8_becomes_101 : decode cX8_becomes 101 = .ok (.aload_n 0, 1) := by decide +kernel
theorem dX8_becomes_102 : decode cX8_becomes 102 = .ok (.getfield 88, 3) := by decide +kernel
theorem dX8_becomes_105 : decode cX8_becomes 105 = .ok (.iload_n 1, 1) := by decide +kernel
theorem dX8_becomes_106 : decode cX8_becomes 106 = .ok (.iastore, 1) := by decide +kernel
theorem dX8_becomes_107 : decode cX8_becomes 107 = .ok (.aload_n 0, 1) := by decide +kernel
theorem dX8_becomes_108 : decode cX8_becomes 108 = .ok (.getfield 16, 3) := by decide +kernel
theorem dX8_becomes_111 : decode cX8_becomes 111 = .ok (.aload_n 0, 1) := by decide +kernel
theorem dX8_becomes_112 : decode cX8_becomes 112 = .ok (.getfield 88, 3) := by decide +kernel
theorem dX8_becomes_115 : decode cX8_becomes 115 = .ok (.iload_n 3, 1) := by decide +kernel
theorem dX8_becomes_116 : decode cX8_becomes 116 = .ok (.iastore, 1) := by decide +kernel
theorem dX8_becomes_117 : decode cX8_becomes 117 = .ok (.aload_n 0, 1) := by decide +kernel
theorem dX8_becomes_118 : decode cX8_becomes 118 = .ok (.getfield 19, 3) := by decide +kernel
theorem dX8_becomes_121 : decode cX8_becomes 121 = .ok (.aload_n 0, 1) := by decide +kernel
theorem dX8_becomes_122 : decode cX8_becomes 122 = .ok (.getfield 88, 3) := by decide +kernel
theorem dX8_becomes_125 : decode cX8_becomes 125 = .ok (.iload_n 2, 1) := by decide +kernel
theorem dX8_becomes_126 : decode cX8_becomes 126 = .ok (.iastore, 1) := by decide +kernel
theorem dX8_becomes_127 : decode cX8_becomes 127 = .ok (.aload_n 0, 1) := by decide +kernel
theorem dX8_becomes_128 : decode cX8_becomes 128 = .ok (.dup, 1) := by decide +kernel
theorem dX8_becomes_129 : decode cX8_becomes 129 = .ok (.getfield 88, 3) := by decide +kernel
theorem dX8_becomes_132 : decode cX8_becomes 132 = .ok (.iconst 1, 1) := by decide +kernel
theorem dX8_becomes_133 : decode cX8_becomes 133 = .ok (.iadd, 1) := by decide +kernel
theorem dX8_becomes_134 : decode cX8_becomes 134 = .ok (.putfield 88, 3) := by decide +kernel
theorem dX8_becomes_137 : decode cX8_becomes 137 = .ok (.aload_n 0, 1) := by decide +kernel
theorem dX8_becomes_138 : decode cX8_becomes 138 = .ok (.aload_n 0, 1) := by decide +kernel
theorem dX8_becomes_139 : decode cX8_becomes 139 = .ok (.getfield 88, 3) := by decide +kernel
theorem dX8_becomes_142 : decode cX8_becomes 142 = .ok (.putfield 91, 3) := by decide +kernel
theorem dX8_becomes_145 : decode cX8_becomes 145 = .ok (.aload_n 0, 1) := by decide +kernel
theorem dX8_becomes_146 : decode cX8_becomes 146 = .ok (.getfield 9, 3) := by decide +kernel
theorem dX8_becomes_149 : decode cX8_becomes 149 = .ok (.iload_n 1, 1) := by decide +kernel
theorem dX8_becomes_150 : decode cX8_becomes 150 = .ok (.iload_n 2, 1) := by decide +kernel
theorem dX8_becomes_151 : decode cX8_becomes 151 = .ok (.iastore, 1) := by decide +kernel
theorem dX8_becomes_152 : decode cX8_becomes 152 = .ok (.iload_n 3, 1) := by decide +kernel
theorem dX8_becomes_153 : decode cX8_becomes 153 = .ok (.ireturn, 1) := by decide +kernel
theorem dX8_undo_0 : decode cX8_undo 0 = .ok (.aload_n 0, 1) := by decide +kernel
theorem dX8_undo_1 : decode cX8_undo 1 = .ok (.getfield 88, 3) := by decide +kernel
theorem dX8_undo_4 : decode cX8_undo 4 = .ok (.ifCond .ne 6, 3) := by decide +kernel
theorem dX8_undo_7 : decode cX8_undo 7 = .ok (.bipush (-5), 2) := by decide +kernel
theorem dX8_undo_9 : decode cX8_undo 9 = .ok (.ireturn, 1) := by decide +kernel
theorem dX8_undo_10 : decode cX8_undo 10 = .ok (.aload_n 0, 1) := by decide +kernel
theorem dX8_undo_11 : decode cX8_undo 11 = .ok (.dup, 1) := by decide +kernel
theorem dX8_undo_12 : decode cX8_undo 12 = .ok (.getfield 88, 3) := by decide +kernel
theorem dX8_undo_15 : decode cX8_undo 15 = .ok (.iconst 1, 1) := by decide +kernel
theorem dX8_undo_16 : decode cX8_undo 16 = .ok (.isub, 1) := by decide +kernel
theorem dX8_undo_17 : decode cX8_undo 17 = .ok (.putfield 88, 3) := by decide +kernel
theorem dX8_undo_20 : decode cX8_undo 20 = .ok (.aload_n 0, 1) := by decide +kernel
theorem dX8_undo_21 : decode cX8_undo 21 = .ok (.getfield 9, 3) := by decide +kernel
theorem dX8_undo_24 : decode cX8_undo 24 = .ok (.aload_n 0, 1) := by decide +kernel
theorem dX8_undo_25 : decode cX8_undo 25 = .ok (.getfield 13, 3) := by decide +kernel
theorem dX8_undo_28 : decode cX8_undo 28 = .ok (.aload_n 0, 1) := by decide +kernel
theorem dX8_undo_29 : decode cX8_undo 29 = .ok (.getfield 88, 3) := by decide +kernel
theorem dX8_undo_32 : decode cX8_undo 32 = .ok (.iaload, 1) := by decide +kernel
theorem dX8_undo_33 : decode cX8_undo 33 = .ok (.aload_n 0, 1) := by decide +kernel
theorem dX8_undo_34 : decode cX8_undo 34 = .ok (.getfield 16, 3) := by decide +kernel
theorem dX8_undo_37 : decode cX8_undo 37 = .ok (.aload_n 0, 1) := by decide +kernel
theorem dX8_undo_38 : decode cX8_undo 38 = .ok (.getfield 88, 3) := by decide +kernel
theorem dX8_undo_41 : decode cX8_undo 41 = .ok (.iaload, 1) := by decide +kernel
theorem dX8_undo_42 : decode cX8_undo 42 = .ok (.iastore, 1) := by decide +kernel
theorem dX8_undo_43 : decode cX8_undo 43 = .ok (.aload_n 0, 1) := by decide +kernel
theorem dX8_undo_44 : decode cX8_undo 44 = .ok (.getfield 88, 3) := by decide +kernel
theorem dX8_undo_47 : decode cX8_undo 47 = .ok (.ireturn, 1) := by decide +kernel
theorem dX8_redo_0 : decode cX8_redo 0 = .ok (.aload_n 0, 1) := by decide +kernel
theorem dX8_redo_1 : decode cX8_redo 1 = .ok (.getfield 88, 3) := by decide +kernel
theorem dX8_redo_4 : decode cX8_redo 4 = .ok (.aload_n 0, 1) := by decide +kernel
theorem dX8_redo_5 : decode cX8_redo 5 = .ok (.getfield 91, 3) := by decide +kernel
theorem dX8_redo_8 : decode cX8_redo 8 = .ok (.if_icmp .ne 6, 3) := by decide +kernel
theorem dX8_redo_11 : decode cX8_redo 11 = .ok (.bipush (-5), 2) := by decide +kernel
theorem dX8_redo_13 : decode cX8_redo 13 = .ok (.ireturn, 1) := by decide +kernel
theorem dX8_redo_14 : decode cX8_redo 14 = .ok (.aload_n 0, 1) := by decide +kernel
theorem dX8_redo_15 : decode cX8_redo 15 = .ok (.getfield 9, 3) := by decide +kernel
theorem dX8_redo_18 : decode cX8_redo 18 = .ok (.aload_n 0, 1) := by decide +kernel
theorem dX8_redo_19 : decode cX8_redo 19 = .ok (.getfield 13, 3) := by decide +kernel
theorem dX8_redo_22 : decode cX8_redo 22 = .ok (.aload_n 0, 1) := by decide +kernel
theorem dX8_redo_23 : decode cX8_redo 23 = .ok (.getfield 88, 3) := by decide +kernel
theorem dX8_redo_26 : decode cX8_redo 26 = .ok (.iaload, 1) := by decide +kernel
theorem dX8_redo_27 : decode cX8_redo 27 = .ok (.aload_n 0, 1) := by decide +kernel
theorem dX8_redo_28 : decode cX8_redo 28 = .ok (.getfield 19, 3) := by decide +kernel
theorem dX8_redo_31 : decode cX8_redo 31 = .ok (.aload_n 0, 1) := by decide +kernel
theorem dX8_redo_32 : decode cX8_redo 32 = .ok (.getfield 88, 3) := by decide +kernel
theorem dX8_redo_35 : decode cX8_redo 35 = .ok (.iaload, 1) := by decide +kernel
theorem dX8_redo_36 : decode cX8_redo 36 = .ok (.iastore, 1) := by decide +kernel
theorem dX8_redo_37 : decode cX8_redo 37 = .ok (.aload_n 0, 1) := by decide +kernel
theorem dX8_redo_38 : decode cX8_redo 38 = .ok (.dup, 1) := by decide +kernel
theorem dX8_redo_39 : decode cX8_redo 39 = .ok (.getfield 88, 3) := by decide +kernel
theorem dX8_redo_42 : decode cX8_redo 42 = .ok (.iconst 1, 1) := by decide +kernel
theorem dX8_redo_43 : decode cX8_redo 43 = .ok (.iadd, 1) := by decide +kernel
theorem dX8_redo_44 : decode cX8_redo 44 = .ok (.putfield 88, 3) := by decide +kernel
theorem dX8_redo_47 : decode cX8_redo 47 = .ok (.aload_n 0, 1) := by decide +kernel
theorem dX8_redo_48 : decode cX8_redo 48 = .ok (.getfield 91, 3) := by decide +kernel
theorem dX8_redo_51 : decode cX8_redo 51 = .ok (.aload_n 0, 1) := by decide +kernel
theorem dX8_redo_52 : decode cX8_redo 52 = .ok (.getfield 88, 3) := by decide +kernel
theorem dX8_redo_55 : decode cX8_redo 55 = .ok (.isub, 1) := by decide +kernel
theorem dX8_redo_56 : decode cX8_redo 56 = .ok (.ireturn, 1) := by decide +kernel
theorem dX8_isWorld_0 : decode cX8_isWorld 0 = .ok (.iload_n 1, 1) := by decide +kernel
theorem dX8_isWorld_1 : decode cX8_isWorld 1 = .ok (.i2l, 1) := by decide +kernel
theorem dX8_isWorld_2 : decode cX8_isWorld 2 = .ok (.lconst 0, 1) := by decide +kernel
theorem dX8_isWorld_3 : decode cX8_isWorld 3 = .ok (.aload_n 0, 1) := by decide +kernel
theorem dX8_isWorld_4 : decode cX8_isWorld 4 = .ok (.getfield 94, 3) := by decide +kernel
theorem dX8_isWorld_7 : decode cX8_isWorld 7 = .ok (.iconst 1, 1) := by decide +kernel
theorem dX8_isWorld_8 : decode cX8_isWorld 8 = .ok (.isub, 1) := by decide +kernel
theorem dX8_isWorld_9 : decode cX8_isWorld 9 = .ok (.i2l, 1) := by decide +kernel
theorem dX8_isWorld_10 : decode cX8_isWorld 10 = .ok (.invokestatic 97, 3) := by decide +kernel
theorem dX8_isWorld_13 : decode cX8_isWorld 13 = .ok (.ireturn, 1) := by decide +kernel
theorem dX8_isPq_0 : decode cX8_isPq 0 = .ok (.iload_n 1, 1) := by decide +kernel
theorem dX8_isPq_1 : decode cX8_isPq 1 = .ok (.ifCond .lt 40, 3) := by decide +kernel
theorem dX8_isPq_4 : decode cX8_isPq 4 = .ok (.aload_n 0, 1) := by decide +kernel
theorem dX8_isPq_5 : decode cX8_isPq 5 = .ok (.iload_n 1, 1) := by decide +kernel
theorem dX8_isPq_6 : decode cX8_isPq 6 = .ok (.bipush 10, 2) := by decide +kernel
theorem dX8_isPq_8 : decode cX8_isPq 8 = .ok (.idiv, 1) := by decide +kernel
theorem dX8_isPq_9 : decode cX8_isPq 9 = .ok (.invokevirtual 101, 3) := by decide +kernel
theorem dX8_isPq_12 : decode cX8_isPq 12 = .ok (.ifCond .eq 29, 3) := by decide +kernel
theorem dX8_isPq_15 : decode cX8_isPq 15 = .ok (.aload_n 0, 1) := by decide +kernel
theorem dX8_isPq_16 : decode cX8_isPq 16 = .ok (.iload_n 1, 1) := by decide +kernel
theorem dX8_isPq_17 : decode cX8_isPq 17 = .ok (.bipush 10, 2) := by decide +kernel
theorem dX8_isPq_19 : decode cX8_isPq 19 = .ok (.irem, 1) := by decide +kernel
theorem dX8_isPq_20 : decode cX8_isPq 20 = .ok (.invokevirtual 101, 3) := by decide +kernel
theorem dX8_isPq_23 : decode cX8_isPq 23 = .ok (.ifCond .eq 18, 3) := by decide +kernel
theorem dX8_isPq_26 : decode cX8_isPq 26 = .ok (.iload_n 1, 1) := by decide +kernel
theorem dX8_isPq_27 : decode cX8_isPq 27 = .ok (.bipush 10, 2) := by decide +kernel
theorem dX8_isPq_29 : decode cX8_isPq 29 = .ok (.idiv, 1) := by decide +kernel
theorem dX8_isPq_30 : decode cX8_isPq 30 = .ok (.iload_n 1, 1) := by decide +kernel
theorem dX8_isPq_31 : decode cX8_isPq 31 = .ok (.bipush 10, 2) := by decide +kernel
theorem dX8_isPq_33 : decode cX8_isPq 33 = .ok (.irem, 1) := by decide +kernel
theorem dX8_isPq_34 : decode cX8_isPq 34 = .ok (.if_icmp .eq 7, 3) := by decide +kernel
theorem dX8_isPq_37 : decode cX8_isPq 37 = .ok (.iconst 1, 1) := by decide +kernel
theorem dX8_isPq_38 : decode cX8_isPq 38 = .ok (.goto 4, 3) := by decide +kernel
theorem dX8_isPq_41 : decode cX8_isPq 41 = .ok (.iconst 0, 1) := by decide +kernel
theorem dX8_isPq_42 : decode cX8_isPq 42 = .ok (.ireturn, 1) := by decide +kernel
theorem dX8_isStep_0 : decode cX8_isStep 0 = .ok (.iload_n 0, 1) := by decide +kernel
theorem dX8_isStep_1 : decode cX8_isStep 1 = .ok (.i2l, 1) := by decide +kernel
theorem dX8_isStep_2 : decode cX8_isStep 2 = .ok (.lconst 0, 1) := by decide +kernel
theorem dX8_isStep_3 : decode cX8_isStep 3 = .ok (.ldc2_w 105, 3) := by decide +kernel
theorem dX8_isStep_6 : decode cX8_isStep 6 = .ok (.invokestatic 97, 3) := by decide +kernel
theorem dX8_isStep_9 : decode cX8_isStep 9 = .ok (.ireturn, 1) := by decide +kernel
theorem dX8_isOne_0 : decode cX8_isOne 0 = .ok (.lload_n 0, 1) := by decide +kernel
theorem dX8_isOne_1 : decode cX8_isOne 1 = .ok (.lconst 1, 1) := by decide +kernel
theorem dX8_isOne_2 : decode cX8_isOne 2 = .ok (.ldc2_w 107, 3) := by decide +kernel
theorem dX8_isOne_5 : decode cX8_isOne 5 = .ok (.invokestatic 97, 3) := by decide +kernel
theorem dX8_isOne_8 : decode cX8_isOne 8 = .ok (.ifCond .eq 30, 3) := by decide +kernel
theorem dX8_isOne_11 : decode cX8_isOne 11 = .ok (.lload_n 2, 1) := by decide +kernel
theorem dX8_isOne_12 : decode cX8_isOne 12 = .ok (.lconst 0, 1) := by decide +kernel
theorem dX8_isOne_13 : decode cX8_isOne 13 = .ok (.lload_n 0, 1) := by decide +kernel
theorem dX8_isOne_14 : decode cX8_isOne 14 = .ok (.lconst 1, 1) := by decide +kernel
theorem dX8_isOne_15 : decode cX8_isOne 15 = .ok (.lsub, 1) := by decide +kernel
theorem dX8_isOne_16 : decode cX8_isOne 16 = .ok (.invokestatic 97, 3) := by decide +kernel
theorem dX8_isOne_19 : decode cX8_isOne 19 = .ok (.ifCond .eq 19, 3) := by decide +kernel
theorem dX8_isOne_22 : decode cX8_isOne 22 = .ok (.lload 4, 2) := by decide +kernel
theorem dX8_isOne_24 : decode cX8_isOne 24 = .ok (.lconst 1, 1) := by decide +kernel
theorem dX8_isOne_25 : decode cX8_isOne 25 = .ok (.ldc2_w 109, 3) := by decide +kernel
theorem dX8_isOne_28 : decode cX8_isOne 28 = .ok (.invokestatic 97, 3) := by decide +kernel
theorem dX8_isOne_31 : decode cX8_isOne 31 = .ok (.ifCond .eq 7, 3) := by decide +kernel
theorem dX8_isOne_34 : decode cX8_isOne 34 = .ok (.iconst 1, 1) := by decide +kernel
theorem dX8_isOne_35 : decode cX8_isOne 35 = .ok (.goto 4, 3) := by decide +kernel
theorem dX8_isOne_38 : decode cX8_isOne 38 = .ok (.iconst 0, 1) := by decide +kernel
theorem dX8_isOne_39 : decode cX8_isOne 39 = .ok (.ireturn, 1) := by decide +kernel
theorem dX8_adds_0 : decode cX8_adds 0 = .ok (.aload_n 0, 1) := by decide +kernel
theorem dX8_adds_1 : decode cX8_adds 1 = .ok (.getfield 9, 3) := by decide +kernel
theorem dX8_adds_4 : decode cX8_adds 4 = .ok (.aload_n 0, 1) := by decide +kernel
theorem dX8_adds_5 : decode cX8_adds 5 = .ok (.getfield 94, 3) := by decide +kernel
theorem dX8_adds_8 : decode cX8_adds 8 = .ok (.iload_n 1, 1) := by decide +kernel
theorem dX8_adds_9 : decode cX8_adds 9 = .ok (.iastore, 1) := by decide +kernel
theorem dX8_adds_10 : decode cX8_adds 10 = .ok (.aload_n 0, 1) := by decide +kernel
theorem dX8_adds_11 : decode cX8_adds 11 = .ok (.getfield 9, 3) := by decide +kernel
theorem dX8_adds_14 : decode cX8_adds 14 = .ok (.bipush 7, 2) := by decide +kernel
theorem dX8_adds_16 : decode cX8_adds 16 = .ok (.aload_n 0, 1) := by decide +kernel
theorem dX8_adds_17 : decode cX8_adds 17 = .ok (.getfield 94, 3) := by decide +kernel
theorem dX8_adds_20 : decode cX8_adds 20 = .ok (.iadd, 1) := by decide +kernel
theorem dX8_adds_21 : decode cX8_adds 21 = .ok (.iload_n 2, 1) := by decide +kernel
theorem dX8_adds_22 : decode cX8_adds 22 = .ok (.iastore, 1) := by decide +kernel
theorem dX8_adds_23 : decode cX8_adds 23 = .ok (.aload_n 0, 1) := by decide +kernel
theorem dX8_adds_24 : decode cX8_adds 24 = .ok (.getfield 9, 3) := by decide +kernel
theorem dX8_adds_27 : decode cX8_adds 27 = .ok (.bipush 14, 2) := by decide +kernel
theorem dX8_adds_29 : decode cX8_adds 29 = .ok (.aload_n 0, 1) := by decide +kernel
theorem dX8_adds_30 : decode cX8_adds 30 = .ok (.getfield 94, 3) := by decide +kernel
theorem dX8_adds_33 : decode cX8_adds 33 = .ok (.iadd, 1) := by decide +kernel
theorem dX8_adds_34 : decode cX8_adds 34 = .ok (.iload_n 3, 1) := by decide +kernel
theorem dX8_adds_35 : decode cX8_adds 35 = .ok (.iastore, 1) := by decide +kernel
theorem dX8_adds_36 : decode cX8_adds 36 = .ok (.aload_n 0, 1) := by decide +kernel
theorem dX8_adds_37 : decode cX8_adds 37 = .ok (.dup, 1) := by decide +kernel
theorem dX8_adds_38 : decode cX8_adds 38 = .ok (.getfield 94, 3) := by decide +kernel
theorem dX8_adds_41 : decode cX8_adds 41 = .ok (.iconst 1, 1) := by decide +kernel
theorem dX8_adds_42 : decode cX8_adds 42 = .ok (.iadd, 1) := by decide +kernel
theorem dX8_adds_43 : decode cX8_adds 43 = .ok (.putfield 94, 3) := by decide +kernel
theorem dX8_adds_46 : decode cX8_adds 46 = .ok (.return_, 1) := by decide +kernel
theorem dX8_world_0 : decode cX8_world 0 = .ok (.iload_n 1, 1) := by decide +kernel
theorem dX8_world_1 : decode cX8_world 1 = .ok (.ifCond .lt 21, 3) := by decide +kernel
theorem dX8_world_4 : decode cX8_world 4 = .ok (.iload_n 1, 1) := by decide +kernel
theorem dX8_world_5 : decode cX8_world 5 = .ok (.bipush 100, 2) := by decide +kernel
theorem dX8_world_7 : decode cX8_world 7 = .ok (.idiv, 1) := by decide +kernel
theorem dX8_world_8 : decode cX8_world 8 = .ok (.i2l, 1) := by decide +kernel
theorem dX8_world_9 : decode cX8_world 9 = .ok (.iload_n 1, 1) := by decide +kernel
theorem dX8_world_10 : decode cX8_world 10 = .ok (.bipush 100, 2) := by decide +kernel
theorem dX8_world_12 : decode cX8_world 12 = .ok (.irem, 1) := by decide +kernel
theorem dX8_world_13 : decode cX8_world 13 = .ok (.i2l, 1) := by decide +kernel
theorem dX8_world_14 : decode cX8_world 14 = .ok (.iload_n 2, 1) := by decide +kernel
theorem dX8_world_15 : decode cX8_world 15 = .ok (.i2l, 1) := by decide +kernel
theorem dX8_world_16 : decode cX8_world 16 = .ok (.invokestatic 111, 3) := by decide +kernel
theorem dX8_world_19 : decode cX8_world 19 = .ok (.ifCond .ne 5, 3) := by decide +kernel
theorem dX8_world_22 : decode cX8_world 22 = .ok (.iconst (-1), 1) := by decide +kernel
theorem dX8_world_23 : decode cX8_world 23 = .ok (.ireturn, 1) := by decide +kernel
theorem dX8_world_24 : decode cX8_world 24 = .ok (.aload_n 0, 1) := by decide +kernel
theorem dX8_world_25 : decode cX8_world 25 = .ok (.getfield 94, 3) := by decide +kernel
theorem dX8_world_28 : decode cX8_world 28 = .ok (.bipush 6, 2) := by decide +kernel
theorem dX8_world_30 : decode cX8_world 30 = .ok (.if_icmp .ne 6, 3) := by decide +kernel
theorem dX8_world_33 : decode cX8_world 33 = .ok (.bipush (-3), 2) := by decide +kernel
theorem dX8_world_35 : decode cX8_world 35 = .ok (.ireturn, 1) := by decide +kernel
theorem dX8_world_36 : decode cX8_world 36 = .ok (.aload_n 0, 1) := by decide +kernel
theorem dX8_world_37 : decode cX8_world 37 = .ok (.iload_n 1, 1) := by decide +kernel
theorem dX8_world_38 : decode cX8_world 38 = .ok (.bipush 100, 2) := by decide +kernel
theorem dX8_world_40 : decode cX8_world 40 = .ok (.idiv, 1) := by decide +kernel
theorem dX8_world_41 : decode cX8_world 41 = .ok (.iload_n 1, 1) := by decide +kernel
theorem dX8_world_42 : decode cX8_world 42 = .ok (.bipush 100, 2) := by decide +kernel
theorem dX8_world_44 : decode cX8_world 44 = .ok (.irem, 1) := by decide +kernel
theorem dX8_world_45 : decode cX8_world 45 = .ok (.iload_n 2, 1) := by decide +kernel
theorem dX8_world_46 : decode cX8_world 46 = .ok (.invokevirtual 114, 3) := by decide +kernel
theorem dX8_world_49 : decode cX8_world 49 = .ok (.aload_n 0, 1) := by decide +kernel
theorem dX8_world_50 : decode cX8_world 50 = .ok (.getfield 94, 3) := by decide +kernel
theorem dX8_world_53 : decode cX8_world 53 = .ok (.iconst 1, 1) := by decide +kernel
theorem dX8_world_54 : decode cX8_world 54 = .ok (.isub, 1) := by decide +kernel
theorem dX8_world_55 : decode cX8_world 55 = .ok (.ireturn, 1) := by decide +kernel
theorem dX8_worlds_0 : decode cX8_worlds 0 = .ok (.iload_n 1, 1) := by decide +kernel
theorem dX8_worlds_1 : decode cX8_worlds 1 = .ok (.invokestatic 118, 3) := by decide +kernel
theorem dX8_worlds_4 : decode cX8_worlds 4 = .ok (.ifCond .eq 15, 3) := by decide +kernel
theorem dX8_worlds_7 : decode cX8_worlds 7 = .ok (.iload_n 3, 1) := by decide +kernel
theorem dX8_worlds_8 : decode cX8_worlds 8 = .ok (.i2l, 1) := by decide +kernel
theorem dX8_worlds_9 : decode cX8_worlds 9 = .ok (.lconst 1, 1) := by decide +kernel
theorem dX8_worlds_10 : decode cX8_worlds 10 = .ok (.ldc2_w 121, 3) := by decide +kernel
theorem dX8_worlds_13 : decode cX8_worlds 13 = .ok (.invokestatic 97, 3) := by decide +kernel
theorem dX8_worlds_16 : decode cX8_worlds 16 = .ok (.ifCond .ne 5, 3) := by decide +kernel
theorem dX8_worlds_19 : decode cX8_worlds 19 = .ok (.iconst (-1), 1) := by decide +kernel
theorem dX8_worlds_20 : decode cX8_worlds 20 = .ok (.ireturn, 1) := by decide +kernel
theorem dX8_worlds_21 : decode cX8_worlds 21 = .ok (.aload_n 0, 1) := by decide +kernel
theorem dX8_worlds_22 : decode cX8_worlds 22 = .ok (.getfield 71, 3) := by decide +kernel
theorem dX8_worlds_25 : decode cX8_worlds 25 = .ok (.iload_n 1, 1) := by decide +kernel
theorem dX8_worlds_26 : decode cX8_worlds 26 = .ok (.iaload, 1) := by decide +kernel
theorem dX8_worlds_27 : decode cX8_worlds 27 = .ok (.ifCond .lt 17, 3) := by decide +kernel
theorem dX8_worlds_30 : decode cX8_worlds 30 = .ok (.aload_n 0, 1) := by decide +kernel
theorem dX8_worlds_31 : decode cX8_worlds 31 = .ok (.getfield 71, 3) := by decide +kernel
theorem dX8_worlds_34 : decode cX8_worlds 34 = .ok (.iload_n 1, 1) := by decide +kernel
theorem dX8_worlds_35 : decode cX8_worlds 35 = .ok (.iaload, 1) := by decide +kernel
theorem dX8_worlds_36 : decode cX8_worlds 36 = .ok (.bipush 50, 2) := by decide +kernel
theorem dX8_worlds_38 : decode cX8_worlds 38 = .ok (.if_icmp .eq 6, 3) := by decide +kernel
theorem dX8_worlds_41 : decode cX8_worlds 41 = .ok (.bipush (-12), 2) := by decide +kernel
theorem dX8_worlds_43 : decode cX8_worlds 43 = .ok (.ireturn, 1) := by decide +kernel
theorem dX8_worlds_44 : decode cX8_worlds 44 = .ok (.iconst 0, 1) := by decide +kernel
theorem dX8_worlds_45 : decode cX8_worlds 45 = .ok (.istore 4, 2) := by decide +kernel
theorem dX8_worlds_47 : decode cX8_worlds 47 = .ok (.aload_n 0, 1) := by decide +kernel
theorem dX8_worlds_48 : decode cX8_worlds 48 = .ok (.getfield 71, 3) := by decide +kernel
theorem dX8_worlds_51 : decode cX8_worlds 51 = .ok (.iload_n 1, 1) := by decide +kernel
theorem dX8_worlds_52 : decode cX8_worlds 52 = .ok (.iaload, 1) := by decide +kernel
theorem dX8_worlds_53 : decode cX8_worlds 53 = .ok (.bipush 50, 2) := by decide +kernel
theorem dX8_worlds_55 : decode cX8_worlds 55 = .ok (.if_icmp .ne 11, 3) := by decide +kernel
theorem dX8_worlds_58 : decode cX8_worlds 58 = .ok (.iload_n 2, 1) := by decide +kernel
theorem dX8_worlds_59 : decode cX8_worlds 59 = .ok (.ifCond .lt 7, 3) := by decide +kernel
theorem dX8_worlds_62 : decode cX8_worlds 62 = .ok (.iconst 1, 1) := by decide +kernel
theorem dX8_worlds_63 : decode cX8_worlds 63 = .ok (.goto 4, 3) := by decide +kernel
theorem dX8_worlds_66 : decode cX8_worlds 66 = .ok (.iconst 0, 1) := by decide +kernel
theorem dX8_worlds_67 : decode cX8_worlds 67 = .ok (.istore 5, 2) := by decide +kernel
theorem dX8_worlds_69 : decode cX8_worlds 69 = .ok (.iload 5, 2) := by decide +kernel
theorem dX8_worlds_71 : decode cX8_worlds 71 = .ok (.ifCond .eq 141, 3) := by decide +kernel
theorem dX8_worlds_74 : decode cX8_worlds 74 = .ok (.iload 4, 2) := by decide +kernel
theorem dX8_worlds_76 : decode cX8_worlds 76 = .ok (.iload_n 3, 1) := by decide +kernel
theorem dX8_worlds_77 : decode cX8_worlds 77 = .ok (.if_icmp .ge 135, 3) := by decide +kernel
theorem dX8_worlds_80 : decode cX8_worlds 80 = .ok (.iload_n 2, 1) := by decide +kernel
theorem dX8_worlds_81 : decode cX8_worlds 81 = .ok (.aload_n 0, 1) := by decide +kernel
theorem dX8_worlds_82 : decode cX8_worlds 82 = .ok (.getfield 74, 3) := by decide +kernel
theorem dX8_worlds_85 : decode cX8_worlds 85 = .ok (.iload_n 1, 1) := by decide +kernel
theorem dX8_worlds_86 : decode cX8_worlds 86 = .ok (.iaload, 1) := by decide +kernel
theorem dX8_worlds_87 : decode cX8_worlds 87 = .ok (.iconst 3, 1) := by decide +kernel
theorem dX8_worlds_88 : decode cX8_worlds 88 = .ok (.isub, 1) := by decide +kernel
theorem dX8_worlds_89 : decode cX8_worlds 89 = .ok (.iconst 3, 1) := by decide +kernel
theorem dX8_worlds_90 : decode cX8_worlds 90 = .ok (.iload 4, 2) := by decide +kernel
theorem dX8_worlds_92 : decode cX8_worlds 92 = .ok (.imul, 1) := by decide +kernel
theorem dX8_worlds_93 : decode cX8_worlds 93 = .ok (.isub, 1) := by decide +kernel
theorem dX8_worlds_94 : decode cX8_worlds 94 = .ok (.if_icmp .gt 16, 3) := by decide +kernel
theorem dX8_worlds_97 : decode cX8_worlds 97 = .ok (.aload_n 0, 1) := by decide +kernel
theorem dX8_worlds_98 : decode cX8_worlds 98 = .ok (.getfield 94, 3) := by decide +kernel
theorem dX8_worlds_101 : decode cX8_worlds 101 = .ok (.bipush 6, 2) := by decide +kernel
theorem dX8_worlds_103 : decode cX8_worlds 103 = .ok (.if_icmp .ge 7, 3) := by decide +kernel
theorem dX8_worlds_106 : decode cX8_worlds 106 = .ok (.iconst 1, 1) := by decide +kernel
theorem dX8_worlds_107 : decode cX8_worlds 107 = .ok (.goto 4, 3) := by decide +kernel
theorem dX8_worlds_110 : decode cX8_worlds 110 = .ok (.iconst 0, 1) := by decide +kernel
theorem dX8_worlds_111 : decode cX8_worlds 111 = .ok (.istore 5, 2) := by decide +kernel
theorem dX8_worlds_113 : decode cX8_worlds 113 = .ok (.bipush 60, 2) := by decide +kernel
theorem dX8_worlds_115 : decode cX8_worlds 115 = .ok (.iload_n 1, 1) := by decide +kernel
theorem dX8_worlds_116 : decode cX8_worlds 116 = .ok (.imul, 1) := by decide +kernel
theorem dX8_worlds_117 : decode cX8_worlds 117 = .ok (.iload_n 2, 1) := by decide +kernel
theorem dX8_worlds_118 : decode cX8_worlds 118 = .ok (.iadd, 1) := by decide +kernel
theorem dX8_worlds_119 : decode cX8_worlds 119 = .ok (.iconst 3, 1) := by decide +kernel
theorem dX8_worlds_120 : decode cX8_worlds 120 = .ok (.iload 4, 2) := by decide +kernel
theorem dX8_worlds_122 : decode cX8_worlds 122 = .ok (.imul, 1) := by decide +kernel
theorem dX8_worlds_123 : decode cX8_worlds 123 = .ok (.iadd, 1) := by decide +kernel
theorem dX8_worlds_124 : decode cX8_worlds 124 = .ok (.istore 6, 2) := by decide +kernel
theorem dX8_worlds_126 : decode cX8_worlds 126 = .ok (.iload 5, 2) := by decide +kernel
theorem dX8_worlds_128 : decode cX8_worlds 128 = .ok (.ifCond .eq 38, 3) := by decide +kernel
theorem dX8_worlds_131 : decode cX8_worlds 131 = .ok (.aload_n 0, 1) := by decide +kernel
theorem dX8_worlds_132 : decode cX8_worlds 132 = .ok (.getfield 77, 3) := by decide +kernel
theorem dX8_worlds_135 : decode cX8_worlds 135 = .ok (.iload 6, 2) := by decide +kernel
theorem dX8_worlds_137 : decode cX8_worlds 137 = .ok (.laload, 1) := by decide +kernel
theorem dX8_worlds_138 : decode cX8_worlds 138 = .ok (.aload_n 0, 1) := by decide +kernel
theorem dX8_worlds_139 : decode cX8_worlds 139 = .ok (.getfield 77, 3) := by decide +kernel
theorem dX8_worlds_142 : decode cX8_worlds 142 = .ok (.iload 6, 2) := by decide +kernel
theorem dX8_worlds_144 : decode cX8_worlds 144 = .ok (.iconst 1, 1) := by decide +kernel
theorem dX8_worlds_145 : decode cX8_worlds 145 = .ok (.iadd, 1) := by decide +kernel
theorem dX8_worlds_146 : decode cX8_worlds 146 = .ok (.laload, 1) := by decide +kernel
theorem dX8_worlds_147 : decode cX8_worlds 147 = .ok (.aload_n 0, 1) := by decide +kernel
theorem dX8_worlds_148 : decode cX8_worlds 148 = .ok (.getfield 77, 3) := by decide +kernel
theorem dX8_worlds_151 : decode cX8_worlds 151 = .ok (.iload 6, 2) := by decide +kernel
theorem dX8_worlds_153 : decode cX8_worlds 153 = .ok (.iconst 2, 1) := by decide +kernel
theorem dX8_worlds_154 : decode cX8_worlds 154 = .ok (.iadd, 1) := by decide +kernel
theorem dX8_worlds_155 : decode cX8_worlds 155 = .ok (.laload, 1) := by decide +kernel
theorem dX8_worlds_156 : decode cX8_worlds 156 = .ok (.invokestatic 111, 3) := by decide +kernel
theorem dX8_worlds_159 : decode cX8_worlds 159 = .ok (.ifCond .eq 7, 3) := by decide +kernel
theorem dX8_worlds_162 : decode cX8_worlds 162 = .ok (.iconst 1, 1) := by decide +kernel
theorem dX8_worlds_163 : decode cX8_worlds 163 = .ok (.goto 4, 3) := by decide +kernel
theorem dX8_worlds_166 : decode cX8_worlds 166 = .ok (.iconst 0, 1) := by decide +kernel
theorem dX8_worlds_167 : decode cX8_worlds 167 = .ok (.istore 5, 2) := by decide +kernel
theorem dX8_worlds_169 : decode cX8_worlds 169 = .ok (.iload 5, 2) := by decide +kernel
theorem dX8_worlds_171 : decode cX8_worlds 171 = .ok (.ifCond .eq 38, 3) := by decide +kernel
theorem dX8_worlds_174 : decode cX8_worlds 174 = .ok (.aload_n 0, 1) := by decide +kernel
theorem dX8_worlds_175 : decode cX8_worlds 175 = .ok (.aload_n 0, 1) := by decide +kernel
theorem dX8_worlds_176 : decode cX8_worlds 176 = .ok (.getfield 77, 3) := by decide +kernel
theorem dX8_worlds_179 : decode cX8_worlds 179 = .ok (.iload 6, 2) := by decide +kernel
theorem dX8_worlds_181 : decode cX8_worlds 181 = .ok (.laload, 1) := by decide +kernel
theorem dX8_worlds_182 : decode cX8_worlds 182 = .ok (.l2i, 1) := by decide +kernel
theorem dX8_worlds_183 : decode cX8_worlds 183 = .ok (.aload_n 0, 1) := by decide +kernel
theorem dX8_worlds_184 : decode cX8_worlds 184 = .ok (.getfield 77, 3) := by decide +kernel
theorem dX8_worlds_187 : decode cX8_worlds 187 = .ok (.iload 6, 2) := by decide +kernel
theorem dX8_worlds_189 : decode cX8_worlds 189 = .ok (.iconst 1, 1) := by decide +kernel
theorem dX8_worlds_190 : decode cX8_worlds 190 = .ok (.iadd, 1) := by decide +kernel
theorem dX8_worlds_191 : decode cX8_worlds 191 = .ok (.laload, 1) := by decide +kernel
theorem dX8_worlds_192 : decode cX8_worlds 192 = .ok (.l2i, 1) := by decide +kernel
theorem dX8_worlds_193 : decode cX8_worlds 193 = .ok (.aload_n 0, 1) := by decide +kernel
theorem dX8_worlds_194 : decode cX8_worlds 194 = .ok (.getfield 77, 3) := by decide +kernel
theorem dX8_worlds_197 : decode cX8_worlds 197 = .ok (.iload 6, 2) := by decide +kernel
theorem dX8_worlds_199 : decode cX8_worlds 199 = .ok (.iconst 2, 1) := by decide +kernel
theorem dX8_worlds_200 : decode cX8_worlds 200 = .ok (.iadd, 1) := by decide +kernel
theorem dX8_worlds_201 : decode cX8_worlds 201 = .ok (.laload, 1) := by decide +kernel
theorem dX8_worlds_202 : decode cX8_worlds 202 = .ok (.l2i, 1) := by decide +kernel
theorem dX8_worlds_203 : decode cX8_worlds 203 = .ok (.invokevirtual 114, 3) := by decide +kernel
theorem dX8_worlds_206 : decode cX8_worlds 206 = .ok (.iinc 4 1, 3) := by decide +kernel
theorem dX8_worlds_209 : decode cX8_worlds 209 = .ok (.goto (-140), 3) := by decide +kernel
theorem dX8_worlds_212 : decode cX8_worlds 212 = .ok (.iload 4, 2) := by decide +kernel
theorem dX8_worlds_214 : decode cX8_worlds 214 = .ok (.ireturn, 1) := by decide +kernel
theorem dX8_mend_0 : decode cX8_mend 0 = .ok (.iload_n 2, 1) := by decide +kernel
theorem dX8_mend_1 : decode cX8_mend 1 = .ok (.tableswitch 196 0 4 #[35, 66, 106, 140, 168], 35) := by decide +kernel
theorem dX8_mend_36 : decode cX8_mend 36 = .ok (.aload_n 0, 1) := by decide +kernel
theorem dX8_mend_37 : decode cX8_mend 37 = .ok (.iload_n 1, 1) := by decide +kernel
theorem dX8_mend_38 : decode cX8_mend 38 = .ok (.invokevirtual 101, 3) := by decide +kernel
theorem dX8_mend_41 : decode cX8_mend 41 = .ok (.ifCond .eq 24, 3) := by decide +kernel
theorem dX8_mend_44 : decode cX8_mend 44 = .ok (.iload_n 3, 1) := by decide +kernel
theorem dX8_mend_45 : decode cX8_mend 45 = .ok (.i2l, 1) := by decide +kernel
theorem dX8_mend_46 : decode cX8_mend 46 = .ok (.lconst 1, 1) := by decide +kernel
theorem dX8_mend_47 : decode cX8_mend 47 = .ok (.ldc2_w 107, 3) := by decide +kernel
theorem dX8_mend_50 : decode cX8_mend 50 = .ok (.invokestatic 97, 3) := by decide +kernel
theorem dX8_mend_53 : decode cX8_mend 53 = .ok (.ifCond .eq 12, 3) := by decide +kernel
theorem dX8_mend_56 : decode cX8_mend 56 = .ok (.aload_n 0, 1) := by decide +kernel
theorem dX8_mend_57 : decode cX8_mend 57 = .ok (.iload_n 1, 1) := by decide +kernel
theorem dX8_mend_58 : decode cX8_mend 58 = .ok (.iload_n 3, 1) := by decide +kernel
theorem dX8_mend_59 : decode cX8_mend 59 = .ok (.invokevirtual 123, 3) := by decide +kernel
theorem dX8_mend_62 : decode cX8_mend 62 = .ok (.goto 4, 3) := by decide +kernel
theorem dX8_mend_65 : decode cX8_mend 65 = .ok (.iconst (-1), 1) := by decide +kernel
theorem dX8_mend_66 : decode cX8_mend 66 = .ok (.ireturn, 1) := by decide +kernel
theorem dX8_mend_67 : decode cX8_mend 67 = .ok (.aload_n 0, 1) := by decide +kernel
theorem dX8_mend_68 : decode cX8_mend 68 = .ok (.iload_n 1, 1) := by decide +kernel
theorem dX8_mend_69 : decode cX8_mend 69 = .ok (.invokevirtual 101, 3) := by decide +kernel
theorem dX8_mend_72 : decode cX8_mend 72 = .ok (.ifCond .eq 33, 3) := by decide +kernel
theorem dX8_mend_75 : decode cX8_mend 75 = .ok (.iload_n 3, 1) := by decide +kernel
theorem dX8_mend_76 : decode cX8_mend 76 = .ok (.i2l, 1) := by decide +kernel
theorem dX8_mend_77 : decode cX8_mend 77 = .ok (.lconst 0, 1) := by decide +kernel
theorem dX8_mend_78 : decode cX8_mend 78 = .ok (.aload_n 0, 1) := by decide +kernel
theorem dX8_mend_79 : decode cX8_mend 79 = .ok (.getfield 9, 3) := by decide +kernel
theorem dX8_mend_82 : decode cX8_mend 82 = .ok (.iload_n 1, 1) := by decide +kernel
theorem dX8_mend_83 : decode cX8_mend 83 = .ok (.iaload, 1) := by decide +kernel
theorem dX8_mend_84 : decode cX8_mend 84 = .ok (.iconst 1, 1) := by decide +kernel
theorem dX8_mend_85 : decode cX8_mend 85 = .ok (.isub, 1) := by decide +kernel
theorem dX8_mend_86 : decode cX8_mend 86 = .ok (.i2l, 1) := by decide +kernel
theorem dX8_mend_87 : decode cX8_mend 87 = .ok (.invokestatic 97, 3) := by decide +kernel
theorem dX8_mend_90 : decode cX8_mend 90 = .ok (.ifCond .eq 15, 3) := by decide +kernel
theorem dX8_mend_93 : decode cX8_mend 93 = .ok (.aload_n 0, 1) := by decide +kernel
theorem dX8_mend_94 : decode cX8_mend 94 = .ok (.bipush 7, 2) := by decide +kernel
theorem dX8_mend_96 : decode cX8_mend 96 = .ok (.iload_n 1, 1) := by decide +kernel
theorem dX8_mend_97 : decode cX8_mend 97 = .ok (.iadd, 1) := by decide +kernel
theorem dX8_mend_98 : decode cX8_mend 98 = .ok (.iload_n 3, 1) := by decide +kernel
theorem dX8_mend_99 : decode cX8_mend 99 = .ok (.invokevirtual 123, 3) := by decide +kernel
theorem dX8_mend_102 : decode cX8_mend 102 = .ok (.goto 4, 3) := by decide +kernel
theorem dX8_mend_105 : decode cX8_mend 105 = .ok (.iconst (-1), 1) := by decide +kernel
theorem dX8_mend_106 : decode cX8_mend 106 = .ok (.ireturn, 1) := by decide +kernel
theorem dX8_mend_107 : decode cX8_mend 107 = .ok (.aload_n 0, 1) := by decide +kernel
theorem dX8_mend_108 : decode cX8_mend 108 = .ok (.iload_n 1, 1) := by decide +kernel
theorem dX8_mend_109 : decode cX8_mend 109 = .ok (.invokevirtual 101, 3) := by decide +kernel
theorem dX8_mend_112 : decode cX8_mend 112 = .ok (.ifCond .eq 27, 3) := by decide +kernel
theorem dX8_mend_115 : decode cX8_mend 115 = .ok (.iload_n 3, 1) := by decide +kernel
theorem dX8_mend_116 : decode cX8_mend 116 = .ok (.i2l, 1) := by decide +kernel
theorem dX8_mend_117 : decode cX8_mend 117 = .ok (.lconst 1, 1) := by decide +kernel
theorem dX8_mend_118 : decode cX8_mend 118 = .ok (.ldc2_w 109, 3) := by decide +kernel
theorem dX8_mend_121 : decode cX8_mend 121 = .ok (.invokestatic 97, 3) := by decide +kernel
theorem dX8_mend_124 : decode cX8_mend 124 = .ok (.ifCond .eq 15, 3) := by decide +kernel
theorem dX8_mend_127 : decode cX8_mend 127 = .ok (.aload_n 0, 1) := by decide +kernel
theorem dX8_mend_128 : decode cX8_mend 128 = .ok (.bipush 14, 2) := by decide +kernel
theorem dX8_mend_130 : decode cX8_mend 130 = .ok (.iload_n 1, 1) := by decide +kernel
theorem dX8_mend_131 : decode cX8_mend 131 = .ok (.iadd, 1) := by decide +kernel
theorem dX8_mend_132 : decode cX8_mend 132 = .ok (.iload_n 3, 1) := by decide +kernel
theorem dX8_mend_133 : decode cX8_mend 133 = .ok (.invokevirtual 123, 3) := by decide +kernel
theorem dX8_mend_136 : decode cX8_mend 136 = .ok (.goto 4, 3) := by decide +kernel
theorem dX8_mend_139 : decode cX8_mend 139 = .ok (.iconst (-1), 1) := by decide +kernel
theorem dX8_mend_140 : decode cX8_mend 140 = .ok (.ireturn, 1) := by decide +kernel
theorem dX8_mend_141 : decode cX8_mend 141 = .ok (.iload_n 1, 1) := by decide +kernel
theorem dX8_mend_142 : decode cX8_mend 142 = .ok (.ifCond .ne 25, 3) := by decide +kernel
theorem dX8_mend_145 : decode cX8_mend 145 = .ok (.iload_n 3, 1) := by decide +kernel
theorem dX8_mend_146 : decode cX8_mend 146 = .ok (.i2l, 1) := by decide +kernel
theorem dX8_mend_147 : decode cX8_mend 147 = .ok (.lconst 0, 1) := by decide +kernel
theorem dX8_mend_148 : decode cX8_mend 148 = .ok (.ldc2_w 127, 3) := by decide +kernel
theorem dX8_mend_151 : decode cX8_mend 151 = .ok (.invokestatic 97, 3) := by decide +kernel
theorem dX8_mend_154 : decode cX8_mend 154 = .ok (.ifCond .eq 13, 3) := by decide +kernel
theorem dX8_mend_157 : decode cX8_mend 157 = .ok (.aload_n 0, 1) := by decide +kernel
theorem dX8_mend_158 : decode cX8_mend 158 = .ok (.bipush 21, 2) := by decide +kernel
theorem dX8_mend_160 : decode cX8_mend 160 = .ok (.iload_n 3, 1) := by decide +kernel
theorem dX8_mend_161 : decode cX8_mend 161 = .ok (.invokevirtual 123, 3) := by decide +kernel
theorem dX8_mend_164 : decode cX8_mend 164 = .ok (.goto 4, 3) := by decide +kernel
theorem dX8_mend_167 : decode cX8_mend 167 = .ok (.iconst (-1), 1) := by decide +kernel
theorem dX8_mend_168 : decode cX8_mend 168 = .ok (.ireturn, 1) := by decide +kernel
theorem dX8_mend_169 : decode cX8_mend 169 = .ok (.iload_n 1, 1) := by decide +kernel
theorem dX8_mend_170 : decode cX8_mend 170 = .ok (.ifCond .ne 25, 3) := by decide +kernel
theorem dX8_mend_173 : decode cX8_mend 173 = .ok (.iload_n 3, 1) := by decide +kernel
theorem dX8_mend_174 : decode cX8_mend 174 = .ok (.i2l, 1) := by decide +kernel
theorem dX8_mend_175 : decode cX8_mend 175 = .ok (.lconst 0, 1) := by decide +kernel
theorem dX8_mend_176 : decode cX8_mend 176 = .ok (.ldc2_w 129, 3) := by decide +kernel
theorem dX8_mend_179 : decode cX8_mend 179 = .ok (.invokestatic 97, 3) := by decide +kernel
theorem dX8_mend_182 : decode cX8_mend 182 = .ok (.ifCond .eq 13, 3) := by decide +kernel
theorem dX8_mend_185 : decode cX8_mend 185 = .ok (.aload_n 0, 1) := by decide +kernel
theorem dX8_mend_186 : decode cX8_mend 186 = .ok (.bipush 22, 2) := by decide +kernel
theorem dX8_mend_188 : decode cX8_mend 188 = .ok (.iload_n 3, 1) := by decide +kernel
theorem dX8_mend_189 : decode cX8_mend 189 = .ok (.invokevirtual 123, 3) := by decide +kernel
theorem dX8_mend_192 : decode cX8_mend 192 = .ok (.goto 4, 3) := by decide +kernel
theorem dX8_mend_195 : decode cX8_mend 195 = .ok (.iconst (-1), 1) := by decide +kernel
theorem dX8_mend_196 : decode cX8_mend 196 = .ok (.ireturn, 1) := by decide +kernel
theorem dX8_mend_197 : decode cX8_mend 197 = .ok (.iconst (-1), 1) := by decide +kernel
theorem dX8_mend_198 : decode cX8_mend 198 = .ok (.ireturn, 1) := by decide +kernel
theorem dX8_ofWorld_0 : decode cX8_ofWorld 0 = .ok (.iload_n 2, 1) := by decide +kernel
theorem dX8_ofWorld_1 : decode cX8_ofWorld 1 = .ok (.iconst 3, 1) := by decide +kernel
theorem dX8_ofWorld_2 : decode cX8_ofWorld 2 = .ok (.if_icmp .ne 15, 3) := by decide +kernel
theorem dX8_ofWorld_5 : decode cX8_ofWorld 5 = .ok (.aload_n 0, 1) := by decide +kernel
theorem dX8_ofWorld_6 : decode cX8_ofWorld 6 = .ok (.iload_n 1, 1) := by decide +kernel
theorem dX8_ofWorld_7 : decode cX8_ofWorld 7 = .ok (.aload_n 0, 1) := by decide +kernel
theorem dX8_ofWorld_8 : decode cX8_ofWorld 8 = .ok (.getfield 131, 3) := by decide +kernel
theorem dX8_ofWorld_11 : decode cX8_ofWorld 11 = .ok (.invokevirtual 134, 3) := by decide +kernel
theorem dX8_ofWorld_14 : decode cX8_ofWorld 14 = .ok (.goto 28, 3) := by decide +kernel
theorem dX8_ofWorld_17 : decode cX8_ofWorld 17 = .ok (.iload_n 2, 1) := by decide +kernel
theorem dX8_ofWorld_18 : decode cX8_ofWorld 18 = .ok (.iconst 4, 1) := by decide +kernel
theorem dX8_ofWorld_19 : decode cX8_ofWorld 19 = .ok (.if_icmp .ne 12, 3) := by decide +kernel
theorem dX8_ofWorld_22 : decode cX8_ofWorld 22 = .ok (.aload_n 0, 1) := by decide +kernel
theorem dX8_ofWorld_23 : decode cX8_ofWorld 23 = .ok (.getfield 56, 3) := by decide +kernel
theorem dX8_ofWorld_26 : decode cX8_ofWorld 26 = .ok (.iload_n 1, 1) := by decide +kernel
theorem dX8_ofWorld_27 : decode cX8_ofWorld 27 = .ok (.iaload, 1) := by decide +kernel
theorem dX8_ofWorld_28 : decode cX8_ofWorld 28 = .ok (.goto 14, 3) := by decide +kernel
theorem dX8_ofWorld_31 : decode cX8_ofWorld 31 = .ok (.aload_n 0, 1) := by decide +kernel
theorem dX8_ofWorld_32 : decode cX8_ofWorld 32 = .ok (.getfield 9, 3) := by decide +kernel
theorem dX8_ofWorld_35 : decode cX8_ofWorld 35 = .ok (.bipush 7, 2) := by decide +kernel
theorem dX8_ofWorld_37 : decode cX8_ofWorld 37 = .ok (.iload_n 2, 1) := by decide +kernel
theorem dX8_ofWorld_38 : decode cX8_ofWorld 38 = .ok (.imul, 1) := by decide +kernel
theorem dX8_ofWorld_39 : decode cX8_ofWorld 39 = .ok (.iload_n 1, 1) := by decide +kernel
theorem dX8_ofWorld_40 : decode cX8_ofWorld 40 = .ok (.iadd, 1) := by decide +kernel
theorem dX8_ofWorld_41 : decode cX8_ofWorld 41 = .ok (.iaload, 1) := by decide +kernel
theorem dX8_ofWorld_42 : decode cX8_ofWorld 42 = .ok (.ireturn, 1) := by decide +kernel
theorem dX8_of_0 : decode cX8_of 0 = .ok (.iload_n 2, 1) := by decide +kernel
theorem dX8_of_1 : decode cX8_of 1 = .ok (.i2l, 1) := by decide +kernel
theorem dX8_of_2 : decode cX8_of 2 = .ok (.lconst 0, 1) := by decide +kernel
theorem dX8_of_3 : decode cX8_of 3 = .ok (.ldc2_w 137, 3) := by decide +kernel
theorem dX8_of_6 : decode cX8_of 6 = .ok (.invokestatic 97, 3) := by decide +kernel
theorem dX8_of_9 : decode cX8_of 9 = .ok (.ifCond .eq 22, 3) := by decide +kernel
theorem dX8_of_12 : decode cX8_of 12 = .ok (.aload_n 0, 1) := by decide +kernel
theorem dX8_of_13 : decode cX8_of 13 = .ok (.iload_n 1, 1) := by decide +kernel
theorem dX8_of_14 : decode cX8_of 14 = .ok (.invokevirtual 101, 3) := by decide +kernel
theorem dX8_of_17 : decode cX8_of 17 = .ok (.ifCond .eq 12, 3) := by decide +kernel
theorem dX8_of_20 : decode cX8_of 20 = .ok (.aload_n 0, 1) := by decide +kernel
theorem dX8_of_21 : decode cX8_of 21 = .ok (.iload_n 1, 1) := by decide +kernel
theorem dX8_of_22 : decode cX8_of 22 = .ok (.iload_n 2, 1) := by decide +kernel
theorem dX8_of_23 : decode cX8_of 23 = .ok (.invokevirtual 139, 3) := by decide +kernel
theorem dX8_of_26 : decode cX8_of 26 = .ok (.goto 4, 3) := by decide +kernel
theorem dX8_of_29 : decode cX8_of 29 = .ok (.iconst (-1), 1) := by decide +kernel
theorem dX8_of_30 : decode cX8_of 30 = .ok (.ireturn, 1) := by decide +kernel
theorem dX8_of_31 : decode cX8_of 31 = .ok (.iload_n 2, 1) := by decide +kernel
theorem dX8_of_32 : decode cX8_of 32 = .ok (.i2l, 1) := by decide +kernel
theorem dX8_of_33 : decode cX8_of 33 = .ok (.ldc2_w 142, 3) := by decide +kernel
theorem dX8_of_36 : decode cX8_of 36 = .ok (.ldc2_w 144, 3) := by decide +kernel
theorem dX8_of_39 : decode cX8_of 39 = .ok (.invokestatic 97, 3) := by decide +kernel
theorem dX8_of_42 : decode cX8_of 42 = .ok (.ifCond .eq 37, 3) := by decide +kernel
theorem dX8_of_45 : decode cX8_of 45 = .ok (.iload_n 1, 1) := by decide +kernel
theorem dX8_of_46 : decode cX8_of 46 = .ok (.i2l, 1) := by decide +kernel
theorem dX8_of_47 : decode cX8_of 47 = .ok (.lconst 0, 1) := by decide +kernel
theorem dX8_of_48 : decode cX8_of 48 = .ok (.aload_n 0, 1) := by decide +kernel
theorem dX8_of_49 : decode cX8_of 49 = .ok (.getfield 146, 3) := by decide +kernel
theorem dX8_of_52 : decode cX8_of 52 = .ok (.iconst 1, 1) := by decide +kernel
theorem dX8_of_53 : decode cX8_of 53 = .ok (.isub, 1) := by decide +kernel
theorem dX8_of_54 : decode cX8_of 54 = .ok (.i2l, 1) := by decide +kernel
theorem dX8_of_55 : decode cX8_of 55 = .ok (.invokestatic 97, 3) := by decide +kernel
theorem dX8_of_58 : decode cX8_of 58 = .ok (.ifCond .eq 19, 3) := by decide +kernel
theorem dX8_of_61 : decode cX8_of 61 = .ok (.aload_n 0, 1) := by decide +kernel
theorem dX8_of_62 : decode cX8_of 62 = .ok (.getfield 53, 3) := by decide +kernel
theorem dX8_of_65 : decode cX8_of 65 = .ok (.iconst 4, 1) := by decide +kernel
theorem dX8_of_66 : decode cX8_of 66 = .ok (.iload_n 1, 1) := by decide +kernel
theorem dX8_of_67 : decode cX8_of 67 = .ok (.imul, 1) := by decide +kernel
theorem dX8_of_68 : decode cX8_of 68 = .ok (.iload_n 2, 1) := by decide +kernel
theorem dX8_of_69 : decode cX8_of 69 = .ok (.iadd, 1) := by decide +kernel
theorem dX8_of_70 : decode cX8_of 70 = .ok (.bipush 10, 2) := by decide +kernel
theorem dX8_of_72 : decode cX8_of 72 = .ok (.isub, 1) := by decide +kernel
theorem dX8_of_73 : decode cX8_of 73 = .ok (.iaload, 1) := by decide +kernel
theorem dX8_of_74 : decode cX8_of 74 = .ok (.goto 4, 3) := by decide +kernel
theorem dX8_of_77 : decode cX8_of 77 = .ok (.iconst (-1), 1) := by decide +kernel
theorem dX8_of_78 : decode cX8_of 78 = .ok (.ireturn, 1) := by decide +kernel
theorem dX8_of_79 : decode cX8_of 79 = .ok (.iload_n 1, 1) := by decide +kernel
theorem dX8_of_80 : decode cX8_of 80 = .ok (.ifCond .eq 5, 3) := by decide +kernel
theorem dX8_of_83 : decode cX8_of 83 = .ok (.iconst (-1), 1) := by decide +kernel
theorem dX8_of_84 : decode cX8_of 84 = .ok (.ireturn, 1) := by decide +kernel
theorem dX8_of_85 : decode cX8_of 85 = .ok (.iload_n 2, 1) := by decide +kernel
theorem dX8_of_86 : decode cX8_of 86 = .ok (.tableswitch 57 20 23 #[30, 30, 43, 48], 30) := by decide +kernel
theorem dX8_of_116 : decode cX8_of 116 = .ok (.aload_n 0, 1) := by decide +kernel
theorem dX8_of_117 : decode cX8_of 117 = .ok (.getfield 9, 3) := by decide +kernel
theorem dX8_of_120 : decode cX8_of 120 = .ok (.bipush 21, 2) := by decide +kernel
theorem dX8_of_122 : decode cX8_of 122 = .ok (.iload_n 2, 1) := by decide +kernel
theorem dX8_of_123 : decode cX8_of 123 = .ok (.iadd, 1) := by decide +kernel
theorem dX8_of_124 : decode cX8_of 124 = .ok (.bipush 20, 2) := by decide +kernel
theorem dX8_of_126 : decode cX8_of 126 = .ok (.isub, 1) := by decide +kernel
theorem dX8_of_127 : decode cX8_of 127 = .ok (.iaload, 1) := by decide +kernel
theorem dX8_of_128 : decode cX8_of 128 = .ok (.ireturn, 1) := by decide +kernel
theorem dX8_of_129 : decode cX8_of 129 = .ok (.aload_n 0, 1) := by decide +kernel
theorem dX8_of_130 : decode cX8_of 130 = .ok (.getfield 131, 3) := by decide +kernel
theorem dX8_of_133 : decode cX8_of 133 = .ok (.ireturn, 1) := by decide +kernel
theorem dX8_of_134 : decode cX8_of 134 = .ok (.aload_n 0, 1) := by decide +kernel
theorem dX8_of_135 : decode cX8_of 135 = .ok (.aload_n 0, 1) := by decide +kernel
theorem dX8_of_136 : decode cX8_of 136 = .ok (.getfield 94, 3) := by decide +kernel
theorem dX8_of_139 : decode cX8_of 139 = .ok (.invokevirtual 149, 3) := by decide +kernel
theorem dX8_of_142 : decode cX8_of 142 = .ok (.ireturn, 1) := by decide +kernel
theorem dX8_of_143 : decode cX8_of 143 = .ok (.iconst (-1), 1) := by decide +kernel
theorem dX8_of_144 : decode cX8_of 144 = .ok (.ireturn, 1) := by decide +kernel
theorem dX8_placeAt_0 : decode cX8_placeAt 0 = .ok (.iload_n 2, 1) := by decide +kernel
theorem dX8_placeAt_1 : decode cX8_placeAt 1 = .ok (.aload_n 0, 1) := by decide +kernel
theorem dX8_placeAt_2 : decode cX8_placeAt 2 = .ok (.getfield 9, 3) := by decide +kernel
theorem dX8_placeAt_5 : decode cX8_placeAt 5 = .ok (.bipush 7, 2) := by decide +kernel
theorem dX8_placeAt_7 : decode cX8_placeAt 7 = .ok (.iload_n 1, 1) := by decide +kernel
theorem dX8_placeAt_8 : decode cX8_placeAt 8 = .ok (.iadd, 1) := by decide +kernel
theorem dX8_placeAt_9 : decode cX8_placeAt 9 = .ok (.iaload, 1) := by decide +kernel
theorem dX8_placeAt_10 : decode cX8_placeAt 10 = .ok (.iadd, 1) := by decide +kernel
theorem dX8_placeAt_11 : decode cX8_placeAt 11 = .ok (.aload_n 0, 1) := by decide +kernel
theorem dX8_placeAt_12 : decode cX8_placeAt 12 = .ok (.getfield 9, 3) := by decide +kernel
theorem dX8_placeAt_15 : decode cX8_placeAt 15 = .ok (.iload_n 1, 1) := by decide +kernel
theorem dX8_placeAt_16 : decode cX8_placeAt 16 = .ok (.iaload, 1) := by decide +kernel
theorem dX8_placeAt_17 : decode cX8_placeAt 17 = .ok (.irem, 1) := by decide +kernel
theorem dX8_placeAt_18 : decode cX8_placeAt 18 = .ok (.sipush 360, 3) := by decide +kernel
theorem dX8_placeAt_21 : decode cX8_placeAt 21 = .ok (.imul, 1) := by decide +kernel
theorem dX8_placeAt_22 : decode cX8_placeAt 22 = .ok (.aload_n 0, 1) := by decide +kernel
theorem dX8_placeAt_23 : decode cX8_placeAt 23 = .ok (.getfield 9, 3) := by decide +kernel
theorem dX8_placeAt_26 : decode cX8_placeAt 26 = .ok (.iload_n 1, 1) := by decide +kernel
theorem dX8_placeAt_27 : decode cX8_placeAt 27 = .ok (.iaload, 1) := by decide +kernel
theorem dX8_placeAt_28 : decode cX8_placeAt 28 = .ok (.idiv, 1) := by decide +kernel
theorem dX8_placeAt_29 : decode cX8_placeAt 29 = .ok (.ireturn, 1) := by decide +kernel
theorem dX8_place_0 : decode cX8_place 0 = .ok (.aload_n 0, 1) := by decide +kernel
theorem dX8_place_1 : decode cX8_place 1 = .ok (.iload_n 1, 1) := by decide +kernel
theorem dX8_place_2 : decode cX8_place 2 = .ok (.invokevirtual 101, 3) := by decide +kernel
theorem dX8_place_5 : decode cX8_place 5 = .ok (.ifCond .eq 19, 3) := by decide +kernel
theorem dX8_place_8 : decode cX8_place 8 = .ok (.iload_n 2, 1) := by decide +kernel
theorem dX8_place_9 : decode cX8_place 9 = .ok (.invokestatic 153, 3) := by decide +kernel
theorem dX8_place_12 : decode cX8_place 12 = .ok (.ifCond .eq 12, 3) := by decide +kernel
theorem dX8_place_15 : decode cX8_place 15 = .ok (.aload_n 0, 1) := by decide +kernel
theorem dX8_place_16 : decode cX8_place 16 = .ok (.iload_n 1, 1) := by decide +kernel
theorem dX8_place_17 : decode cX8_place 17 = .ok (.iload_n 2, 1) := by decide +kernel
theorem dX8_place_18 : decode cX8_place 18 = .ok (.invokevirtual 134, 3) := by decide +kernel
theorem dX8_place_21 : decode cX8_place 21 = .ok (.goto 4, 3) := by decide +kernel
theorem dX8_place_24 : decode cX8_place 24 = .ok (.iconst (-1), 1) := by decide +kernel
theorem dX8_place_25 : decode cX8_place 25 = .ok (.ireturn, 1) := by decide +kernel
theorem dX8_common_0 : decode cX8_common 0 = .ok (.iload_n 0, 1) := by decide +kernel
theorem dX8_common_1 : decode cX8_common 1 = .ok (.istore_n 2, 1) := by decide +kernel
theorem dX8_common_2 : decode cX8_common 2 = .ok (.iload_n 1, 1) := by decide +kernel
theorem dX8_common_3 : decode cX8_common 3 = .ok (.istore_n 3, 1) := by decide +kernel
theorem dX8_common_4 : decode cX8_common 4 = .ok (.iload_n 3, 1) := by decide +kernel
theorem dX8_common_5 : decode cX8_common 5 = .ok (.ifCond .eq 16, 3) := by decide +kernel
theorem dX8_common_8 : decode cX8_common 8 = .ok (.iload_n 2, 1) := by decide +kernel
theorem dX8_common_9 : decode cX8_common 9 = .ok (.iload_n 3, 1) := by decide +kernel
theorem dX8_common_10 : decode cX8_common 10 = .ok (.irem, 1) := by decide +kernel
theorem dX8_common_11 : decode cX8_common 11 = .ok (.istore 4, 2) := by decide +kernel
theorem dX8_common_13 : decode cX8_common 13 = .ok (.iload_n 3, 1) := by decide +kernel
theorem dX8_common_14 : decode cX8_common 14 = .ok (.istore_n 2, 1) := by decide +kernel
theorem dX8_common_15 : decode cX8_common 15 = .ok (.iload 4, 2) := by decide +kernel
theorem dX8_common_17 : decode cX8_common 17 = .ok (.istore_n 3, 1) := by decide +kernel
theorem dX8_common_18 : decode cX8_common 18 = .ok (.goto (-14), 3) := by decide +kernel
theorem dX8_common_21 : decode cX8_common 21 = .ok (.iload_n 2, 1) := by decide +kernel
theorem dX8_common_22 : decode cX8_common 22 = .ok (.ireturn, 1) := by decide +kernel
theorem dX8_roundOf_0 : decode cX8_roundOf 0 = .ok (.iconst 1, 1) := by decide +kernel
theorem dX8_roundOf_1 : decode cX8_roundOf 1 = .ok (.istore_n 2, 1) := by decide +kernel
theorem dX8_roundOf_2 : decode cX8_roundOf 2 = .ok (.iconst 0, 1) := by decide +kernel
theorem dX8_roundOf_3 : decode cX8_roundOf 3 = .ok (.istore_n 3, 1) := by decide +kernel
theorem dX8_roundOf_4 : decode cX8_roundOf 4 = .ok (.iload_n 3, 1) := by decide +kernel
theorem dX8_roundOf_5 : decode cX8_roundOf 5 = .ok (.iload_n 1, 1) := by decide +kernel
theorem dX8_roundOf_6 : decode cX8_roundOf 6 = .ok (.if_icmp .ge 29, 3) := by decide +kernel
theorem dX8_roundOf_9 : decode cX8_roundOf 9 = .ok (.iload_n 2, 1) := by decide +kernel
theorem dX8_roundOf_10 : decode cX8_roundOf 10 = .ok (.iload_n 2, 1) := by decide +kernel
theorem dX8_roundOf_11 : decode cX8_roundOf 11 = .ok (.aload_n 0, 1) := by decide +kernel
theorem dX8_roundOf_12 : decode cX8_roundOf 12 = .ok (.getfield 9, 3) := by decide +kernel
theorem dX8_roundOf_15 : decode cX8_roundOf 15 = .ok (.iload_n 3, 1) := by decide +kernel
theorem dX8_roundOf_16 : decode cX8_roundOf 16 = .ok (.iaload, 1) := by decide +kernel
theorem dX8_roundOf_17 : decode cX8_roundOf 17 = .ok (.invokestatic 156, 3) := by decide +kernel
theorem dX8_roundOf_20 : decode cX8_roundOf 20 = .ok (.idiv, 1) := by decide +kernel
theorem dX8_roundOf_21 : decode cX8_roundOf 21 = .ok (.aload_n 0, 1) := by decide +kernel
theorem dX8_roundOf_22 : decode cX8_roundOf 22 = .ok (.getfield 9, 3) := by decide +kernel
theorem dX8_roundOf_25 : decode cX8_roundOf 25 = .ok (.iload_n 3, 1) := by decide +kernel
theorem dX8_roundOf_26 : decode cX8_roundOf 26 = .ok (.iaload, 1) := by decide +kernel
theorem dX8_roundOf_27 : decode cX8_roundOf 27 = .ok (.imul, 1) := by decide +kernel
theorem dX8_roundOf_28 : decode cX8_roundOf 28 = .ok (.istore_n 2, 1) := by decide +kernel
theorem dX8_roundOf_29 : decode cX8_roundOf 29 = .ok (.iinc 3 1, 3) := by decide +kernel
theorem dX8_roundOf_32 : decode cX8_roundOf 32 = .ok (.goto (-28), 3) := by decide +kernel
theorem dX8_roundOf_35 : decode cX8_roundOf 35 = .ok (.iload_n 2, 1) := by decide +kernel
theorem dX8_roundOf_36 : decode cX8_roundOf 36 = .ok (.ireturn, 1) := by decide +kernel
theorem dX8_roundOfTwo_0 : decode cX8_roundOfTwo 0 = .ok (.aload_n 0, 1) := by decide +kernel
theorem dX8_roundOfTwo_1 : decode cX8_roundOfTwo 1 = .ok (.getfield 9, 3) := by decide +kernel
theorem dX8_roundOfTwo_4 : decode cX8_roundOfTwo 4 = .ok (.iload_n 1, 1) := by decide +kernel
theorem dX8_roundOfTwo_5 : decode cX8_roundOfTwo 5 = .ok (.iaload, 1) := by decide +kernel
theorem dX8_roundOfTwo_6 : decode cX8_roundOfTwo 6 = .ok (.aload_n 0, 1) := by decide +kernel
theorem dX8_roundOfTwo_7 : decode cX8_roundOfTwo 7 = .ok (.getfield 9, 3) := by decide +kernel
theorem dX8_roundOfTwo_10 : decode cX8_roundOfTwo 10 = .ok (.iload_n 1, 1) := by decide +kernel
theorem dX8_roundOfTwo_11 : decode cX8_roundOfTwo 11 = .ok (.iaload, 1) := by decide +kernel
theorem dX8_roundOfTwo_12 : decode cX8_roundOfTwo 12 = .ok (.aload_n 0, 1) := by decide +kernel
theorem dX8_roundOfTwo_13 : decode cX8_roundOfTwo 13 = .ok (.getfield 9, 3) := by decide +kernel
theorem dX8_roundOfTwo_16 : decode cX8_roundOfTwo 16 = .ok (.iload_n 2, 1) := by decide +kernel
theorem dX8_roundOfTwo_17 : decode cX8_roundOfTwo 17 = .ok (.iaload, 1) := by decide +kernel
theorem dX8_roundOfTwo_18 : decode cX8_roundOfTwo 18 = .ok (.invokestatic 156, 3) := by decide +kernel
theorem dX8_roundOfTwo_21 : decode cX8_roundOfTwo 21 = .ok (.idiv, 1) := by decide +kernel
theorem dX8_roundOfTwo_22 : decode cX8_roundOfTwo 22 = .ok (.aload_n 0, 1) := by decide +kernel
theorem dX8_roundOfTwo_23 : decode cX8_roundOfTwo 23 = .ok (.getfield 9, 3) := by decide +kernel
theorem dX8_roundOfTwo_26 : decode cX8_roundOfTwo 26 = .ok (.iload_n 2, 1) := by decide +kernel
theorem dX8_roundOfTwo_27 : decode cX8_roundOfTwo 27 = .ok (.iaload, 1) := by decide +kernel
theorem dX8_roundOfTwo_28 : decode cX8_roundOfTwo 28 = .ok (.imul, 1) := by decide +kernel
theorem dX8_roundOfTwo_29 : decode cX8_roundOfTwo 29 = .ok (.ireturn, 1) := by decide +kernel
theorem dX8_feed_0 : decode cX8_feed 0 = .ok (.iload_n 1, 1) := by decide +kernel
theorem dX8_feed_1 : decode cX8_feed 1 = .ok (.i2l, 1) := by decide +kernel
theorem dX8_feed_2 : decode cX8_feed 2 = .ok (.lconst 0, 1) := by decide +kernel
theorem dX8_feed_3 : decode cX8_feed 3 = .ok (.ldc2_w 159, 3) := by decide +kernel
theorem dX8_feed_6 : decode cX8_feed 6 = .ok (.invokestatic 97, 3) := by decide +kernel
theorem dX8_feed_9 : decode cX8_feed 9 = .ok (.ifCond .ne 5, 3) := by decide +kernel
theorem dX8_feed_12 : decode cX8_feed 12 = .ok (.iconst (-1), 1) := by decide +kernel
theorem dX8_feed_13 : decode cX8_feed 13 = .ok (.ireturn, 1) := by decide +kernel
theorem dX8_feed_14 : decode cX8_feed 14 = .ok (.aload_n 0, 1) := by decide +kernel
theorem dX8_feed_15 : decode cX8_feed 15 = .ok (.getfield 161, 3) := by decide +kernel
theorem dX8_feed_18 : decode cX8_feed 18 = .ok (.bipush 120, 2) := by decide +kernel
theorem dX8_feed_20 : decode cX8_feed 20 = .ok (.if_icmp .ne 6, 3) := by decide +kernel
theorem dX8_feed_23 : decode cX8_feed 23 = .ok (.bipush (-3), 2) := by decide +kernel
theorem dX8_feed_25 : decode cX8_feed 25 = .ok (.ireturn, 1) := by decide +kernel
theorem dX8_feed_26 : decode cX8_feed 26 = .ok (.aload_n 0, 1) := by decide +kernel
theorem dX8_feed_27 : decode cX8_feed 27 = .ok (.getfield 22, 3) := by decide +kernel
theorem dX8_feed_30 : decode cX8_feed 30 = .ok (.aload_n 0, 1) := by decide +kernel
theorem dX8_feed_31 : decode cX8_feed 31 = .ok (.getfield 161, 3) := by decide +kernel
theorem dX8_feed_34 : decode cX8_feed 34 = .ok (.iload_n 1, 1) := by decide +kernel
theorem dX8_feed_35 : decode cX8_feed 35 = .ok (.iastore, 1) := by decide +kernel
theorem dX8_feed_36 : decode cX8_feed 36 = .ok (.aload_n 0, 1) := by decide +kernel
theorem dX8_feed_37 : decode cX8_feed 37 = .ok (.dup, 1) := by decide +kernel
theorem dX8_feed_38 : decode cX8_feed 38 = .ok (.getfield 161, 3) := by decide +kernel
theorem dX8_feed_41 : decode cX8_feed 41 = .ok (.iconst 1, 1) := by decide +kernel
theorem dX8_feed_42 : decode cX8_feed 42 = .ok (.iadd, 1) := by decide +kernel
theorem dX8_feed_43 : decode cX8_feed 43 = .ok (.putfield 161, 3) := by decide +kernel
theorem dX8_feed_46 : decode cX8_feed 46 = .ok (.aload_n 0, 1) := by decide +kernel
theorem dX8_feed_47 : decode cX8_feed 47 = .ok (.getfield 161, 3) := by decide +kernel
theorem dX8_feed_50 : decode cX8_feed 50 = .ok (.ireturn, 1) := by decide +kernel
theorem dX8_byteAt_0 : decode cX8_byteAt 0 = .ok (.aload_n 0, 1) := by decide +kernel
theorem dX8_byteAt_1 : decode cX8_byteAt 1 = .ok (.getfield 164, 3) := by decide +kernel
theorem dX8_byteAt_4 : decode cX8_byteAt 4 = .ok (.aload_n 0, 1) := by decide +kernel
theorem dX8_byteAt_5 : decode cX8_byteAt 5 = .ok (.getfield 167, 3) := by decide +kernel
theorem dX8_byteAt_8 : decode cX8_byteAt 8 = .ok (.if_icmp .ge 39, 3) := by decide +kernel
theorem dX8_byteAt_11 : decode cX8_byteAt 11 = .ok (.aload_n 0, 1) := by decide +kernel
theorem dX8_byteAt_12 : decode cX8_byteAt 12 = .ok (.getfield 170, 3) := by decide +kernel
theorem dX8_byteAt_15 : decode cX8_byteAt 15 = .ok (.ifCond .ge 15, 3) := by decide +kernel
theorem dX8_byteAt_18 : decode cX8_byteAt 18 = .ok (.aload_n 0, 1) := by decide +kernel
theorem dX8_byteAt_19 : decode cX8_byteAt 19 = .ok (.getfield 22, 3) := by decide +kernel
theorem dX8_byteAt_22 : decode cX8_byteAt 22 = .ok (.aload_n 0, 1) := by decide +kernel
theorem dX8_byteAt_23 : decode cX8_byteAt 23 = .ok (.getfield 164, 3) := by decide +kernel
theorem dX8_byteAt_26 : decode cX8_byteAt 26 = .ok (.iaload, 1) := by decide +kernel
theorem dX8_byteAt_27 : decode cX8_byteAt 27 = .ok (.goto 21, 3) := by decide +kernel
theorem dX8_byteAt_30 : decode cX8_byteAt 30 = .ok (.aload_n 0, 1) := by decide +kernel
theorem dX8_byteAt_31 : decode cX8_byteAt 31 = .ok (.getfield 25, 3) := by decide +kernel
theorem dX8_byteAt_34 : decode cX8_byteAt 34 = .ok (.aload_n 0, 1) := by decide +kernel
theorem dX8_byteAt_35 : decode cX8_byteAt 35 = .ok (.getfield 170, 3) := by decide +kernel
theorem dX8_byteAt_38 : decode cX8_byteAt 38 = .ok (.aload_n 0, 1) := by decide +kernel
theorem dX8_byteAt_39 : decode cX8_byteAt 39 = .ok (.getfield 164, 3) := by decide +kernel
theorem dX8_byteAt_42 : decode cX8_byteAt 42 = .ok (.iadd, 1) := by decide +kernel
theorem dX8_byteAt_43 : decode cX8_byteAt 43 = .ok (.iaload, 1) := by decide +kernel
theorem dX8_byteAt_44 : decode cX8_byteAt 44 = .ok (.goto 4, 3) := by decide +kernel
theorem dX8_byteAt_47 : decode cX8_byteAt 47 = .ok (.iconst 0, 1) := by decide +kernel
theorem dX8_byteAt_48 : decode cX8_byteAt 48 = .ok (.ireturn, 1) := by decide +kernel
theorem dX8_wrong_0 : decode cX8_wrong 0 = .ok (.aload_n 0, 1) := by decide +kernel
theorem dX8_wrong_1 : decode cX8_wrong 1 = .ok (.aload_n 0, 1) := by decide +kernel
theorem dX8_wrong_2 : decode cX8_wrong 2 = .ok (.getfield 173, 3) := by decide +kernel
theorem dX8_wrong_5 : decode cX8_wrong 5 = .ok (.ifCond .ge 10, 3) := by decide +kernel
theorem dX8_wrong_8 : decode cX8_wrong 8 = .ok (.aload_n 0, 1) := by decide +kernel
theorem dX8_wrong_9 : decode cX8_wrong 9 = .ok (.getfield 164, 3) := by decide +kernel
theorem dX8_wrong_12 : decode cX8_wrong 12 = .ok (.goto 7, 3) := by decide +kernel
theorem dX8_wrong_15 : decode cX8_wrong 15 = .ok (.aload_n 0, 1) := by decide +kernel
theorem dX8_wrong_16 : decode cX8_wrong 16 = .ok (.getfield 173, 3) := by decide +kernel
theorem dX8_wrong_19 : decode cX8_wrong 19 = .ok (.putfield 173, 3) := by decide +kernel
theorem dX8_wrong_22 : decode cX8_wrong 22 = .ok (.iconst 0, 1) := by decide +kernel
theorem dX8_wrong_23 : decode cX8_wrong 23 = .ok (.ireturn, 1) := by decide +kernel
theorem dX8_takes_0 : decode cX8_takes 0 = .ok (.aload_n 0, 1) := by decide +kernel
theorem dX8_takes_1 : decode cX8_takes 1 = .ok (.getfield 173, 3) := by decide +kernel
theorem dX8_takes_4 : decode cX8_takes 4 = .ok (.ifCond .ge 11, 3) := by decide +kernel
theorem dX8_takes_7 : decode cX8_takes 7 = .ok (.aload_n 0, 1) := by decide +kernel
theorem dX8_takes_8 : decode cX8_takes 8 = .ok (.invokevirtual 176, 3) := by decide +kernel
theorem dX8_takes_11 : decode cX8_takes 11 = .ok (.iload_n 1, 1) := by decide +kernel
theorem dX8_takes_12 : decode cX8_takes 12 = .ok (.if_icmp .eq 5, 3) := by decide +kernel
theorem dX8_takes_15 : decode cX8_takes 15 = .ok (.iconst 0, 1) := by decide +kernel
theorem dX8_takes_16 : decode cX8_takes 16 = .ok (.ireturn, 1) := by decide +kernel
theorem dX8_takes_17 : decode cX8_takes 17 = .ok (.aload_n 0, 1) := by decide +kernel
theorem dX8_takes_18 : decode cX8_takes 18 = .ok (.dup, 1) := by decide +kernel
theorem dX8_takes_19 : decode cX8_takes 19 = .ok (.getfield 164, 3) := by decide +kernel
theorem dX8_takes_22 : decode cX8_takes 22 = .ok (.iconst 1, 1) := by decide +kernel
theorem dX8_takes_23 : decode cX8_takes 23 = .ok (.iadd, 1) := by decide +kernel
theorem dX8_takes_24 : decode cX8_takes 24 = .ok (.putfield 164, 3) := by decide +kernel
theorem dX8_takes_27 : decode cX8_takes 27 = .ok (.iconst 1, 1) := by decide +kernel
theorem dX8_takes_28 : decode cX8_takes 28 = .ok (.ireturn, 1) := by decide +kernel
theorem dX8_either_0 : decode cX8_either 0 = .ok (.aload_n 0, 1) := by decide +kernel
theorem dX8_either_1 : decode cX8_either 1 = .ok (.invokevirtual 180, 3) := by decide +kernel
theorem dX8_either_4 : decode cX8_either 4 = .ok (.istore_n 1, 1) := by decide +kernel
theorem dX8_either_5 : decode cX8_either 5 = .ok (.aload_n 0, 1) := by decide +kernel
theorem dX8_either_6 : decode cX8_either 6 = .ok (.bipush 124, 2) := by decide +kernel
theorem dX8_either_8 : decode cX8_either 8 = .ok (.invokevirtual 183, 3) := by decide +kernel
theorem dX8_either_11 : decode cX8_either 11 = .ok (.ifCond .eq 25, 3) := by decide +kernel
theorem dX8_either_14 : decode cX8_either 14 = .ok (.aload_n 0, 1) := by decide +kernel
theorem dX8_either_15 : decode cX8_either 15 = .ok (.invokevirtual 180, 3) := by decide +kernel
theorem dX8_either_18 : decode cX8_either 18 = .ok (.istore_n 2, 1) := by decide +kernel
theorem dX8_either_19 : decode cX8_either 19 = .ok (.iload_n 1, 1) := by decide +kernel
theorem dX8_either_20 : decode cX8_either 20 = .ok (.ifCond .ne 7, 3) := by decide +kernel
theorem dX8_either_23 : decode cX8_either 23 = .ok (.iload_n 2, 1) := by decide +kernel
theorem dX8_either_24 : decode cX8_either 24 = .ok (.ifCond .eq 7, 3) := by decide +kernel
theorem dX8_either_27 : decode cX8_either 27 = .ok (.iconst 1, 1) := by decide +kernel
theorem dX8_either_28 : decode cX8_either 28 = .ok (.goto 4, 3) := by decide +kernel
theorem dX8_either_31 : decode cX8_either 31 = .ok (.iconst 0, 1) := by decide +kernel
theorem dX8_either_32 : decode cX8_either 32 = .ok (.istore_n 1, 1) := by decide +kernel
theorem dX8_either_33 : decode cX8_either 33 = .ok (.goto (-28), 3) := by decide +kernel
theorem dX8_either_36 : decode cX8_either 36 = .ok (.iload_n 1, 1) := by decide +kernel
theorem dX8_either_37 : decode cX8_either 37 = .ok (.ireturn, 1) := by decide +kernel
theorem dX8_both_0 : decode cX8_both 0 = .ok (.aload_n 0, 1) := by decide +kernel
theorem dX8_both_1 : decode cX8_both 1 = .ok (.invokevirtual 186, 3) := by decide +kernel
theorem dX8_both_4 : decode cX8_both 4 = .ok (.istore_n 1, 1) := by decide +kernel
theorem dX8_both_5 : decode cX8_both 5 = .ok (.aload_n 0, 1) := by decide +kernel
theorem dX8_both_6 : decode cX8_both 6 = .ok (.bipush 38, 2) := by decide +kernel
theorem dX8_both_8 : decode cX8_both 8 = .ok (.invokevirtual 183, 3) := by decide +kernel
theorem dX8_both_11 : decode cX8_both 11 = .ok (.ifCond .eq 25, 3) := by decide +kernel
theorem dX8_both_14 : decode cX8_both 14 = .ok (.aload_n 0, 1) := by decide +kernel
theorem dX8_both_15 : decode cX8_both 15 = .ok (.invokevirtual 186, 3) := by decide +kernel
theorem dX8_both_18 : decode cX8_both 18 = .ok (.istore_n 2, 1) := by decide +kernel
theorem dX8_both_19 : decode cX8_both 19 = .ok (.iload_n 1, 1) := by decide +kernel
theorem dX8_both_20 : decode cX8_both 20 = .ok (.ifCond .eq 11, 3) := by decide +kernel
theorem dX8_both_23 : decode cX8_both 23 = .ok (.iload_n 2, 1) := by decide +kernel
theorem dX8_both_24 : decode cX8_both 24 = .ok (.ifCond .eq 7, 3) := by decide +kernel
theorem dX8_both_27 : decode cX8_both 27 = .ok (.iconst 1, 1) := by decide +kernel
theorem dX8_both_28 : decode cX8_both 28 = .ok (.goto 4, 3) := by decide +kernel
theorem dX8_both_31 : decode cX8_both 31 = .ok (.iconst 0, 1) := by decide +kernel
theorem dX8_both_32 : decode cX8_both 32 = .ok (.istore_n 1, 1) := by decide +kernel
theorem dX8_both_33 : decode cX8_both 33 = .ok (.goto (-28), 3) := by decide +kernel
theorem dX8_both_36 : decode cX8_both 36 = .ok (.iload_n 1, 1) := by decide +kernel
theorem dX8_both_37 : decode cX8_both 37 = .ok (.ireturn, 1) := by decide +kernel
theorem dX8_compared_0 : decode cX8_compared 0 = .ok (.aload_n 0, 1) := by decide +kernel
theorem dX8_compared_1 : decode cX8_compared 1 = .ok (.invokevirtual 189, 3) := by decide +kernel
theorem dX8_compared_4 : decode cX8_compared 4 = .ok (.istore_n 1, 1) := by decide +kernel
theorem dX8_compared_5 : decode cX8_compared 5 = .ok (.aload_n 0, 1) := by decide +kernel
theorem dX8_compared_6 : decode cX8_compared 6 = .ok (.invokevirtual 176, 3) := by decide +kernel
theorem dX8_compared_9 : decode cX8_compared 9 = .ok (.istore_n 2, 1) := by decide +kernel
theorem dX8_compared_10 : decode cX8_compared 10 = .ok (.aload_n 0, 1) := by decide +kernel
theorem dX8_compared_11 : decode cX8_compared 11 = .ok (.getfield 173, 3) := by decide +kernel
theorem dX8_compared_14 : decode cX8_compared 14 = .ok (.ifCond .ge 21, 3) := by decide +kernel
theorem dX8_compared_17 : decode cX8_compared 17 = .ok (.iload_n 2, 1) := by decide +kernel
theorem dX8_compared_18 : decode cX8_compared 18 = .ok (.bipush 60, 2) := by decide +kernel
theorem dX8_compared_20 : decode cX8_compared 20 = .ok (.if_icmp .eq 17, 3) := by decide +kernel
theorem dX8_compared_23 : decode cX8_compared 23 = .ok (.iload_n 2, 1) := by decide +kernel
theorem dX8_compared_24 : decode cX8_compared 24 = .ok (.bipush 61, 2) := by decide +kernel
theorem dX8_compared_26 : decode cX8_compared 26 = .ok (.if_icmp .eq 11, 3) := by decide +kernel
theorem dX8_compared_29 : decode cX8_compared 29 = .ok (.iload_n 2, 1) := by decide +kernel
theorem dX8_compared_30 : decode cX8_compared 30 = .ok (.bipush 62, 2) := by decide +kernel
theorem dX8_compared_32 : decode cX8_compared 32 = .ok (.if_icmp .eq 5, 3) := by decide +kernel
theorem dX8_compared_35 : decode cX8_compared 35 = .ok (.iload_n 1, 1) := by decide +kernel
theorem dX8_compared_36 : decode cX8_compared 36 = .ok (.ireturn, 1) := by decide +kernel
theorem dX8_compared_37 : decode cX8_compared 37 = .ok (.aload_n 0, 1) := by decide +kernel
theorem dX8_compared_38 : decode cX8_compared 38 = .ok (.dup, 1) := by decide +kernel
theorem dX8_compared_39 : decode cX8_compared 39 = .ok (.getfield 164, 3) := by decide +kernel
theorem dX8_compared_42 : decode cX8_compared 42 = .ok (.iconst 1, 1) := by decide +kernel
theorem dX8_compared_43 : decode cX8_compared 43 = .ok (.iadd, 1) := by decide +kernel
theorem dX8_compared_44 : decode cX8_compared 44 = .ok (.putfield 164, 3) := by decide +kernel
theorem dX8_compared_47 : decode cX8_compared 47 = .ok (.aload_n 0, 1) := by decide +kernel
theorem dX8_compared_48 : decode cX8_compared 48 = .ok (.invokevirtual 189, 3) := by decide +kernel
theorem dX8_compared_51 : decode cX8_compared 51 = .ok (.istore_n 3, 1) := by decide +kernel
theorem dX8_compared_52 : decode cX8_compared 52 = .ok (.iload_n 2, 1) := by decide +kernel
theorem dX8_compared_53 : decode cX8_compared 53 = .ok (.bipush 60, 2) := by decide +kernel
theorem dX8_compared_55 : decode cX8_compared 55 = .ok (.if_icmp .ne 11, 3) := by decide +kernel
theorem dX8_compared_58 : decode cX8_compared 58 = .ok (.iload_n 1, 1) := by decide +kernel
theorem dX8_compared_59 : decode cX8_compared 59 = .ok (.iload_n 3, 1) := by decide +kernel
theorem dX8_compared_60 : decode cX8_compared 60 = .ok (.if_icmp .ge 29, 3) := by decide +kernel
theorem dX8_compared_63 : decode cX8_compared 63 = .ok (.goto 22, 3) := by decide +kernel
theorem dX8_compared_66 : decode cX8_compared 66 = .ok (.iload_n 2, 1) := by decide +kernel
theorem dX8_compared_67 : decode cX8_compared 67 = .ok (.bipush 61, 2) := by decide +kernel
theorem dX8_compared_69 : decode cX8_compared 69 = .ok (.if_icmp .ne 11, 3) := by decide +kernel
theorem dX8_compared_72 : decode cX8_compared 72 = .ok (.iload_n 1, 1) := by decide +kernel
theorem dX8_compared_73 : decode cX8_compared 73 = .ok (.iload_n 3, 1) := by decide +kernel
theorem dX8_compared_74 : decode cX8_compared 74 = .ok (.if_icmp .ne 15, 3) := by decide +kernel
theorem dX8_compared_77 : decode cX8_compared 77 = .ok (.goto 8, 3) := by decide +kernel
theorem dX8_compared_80 : decode cX8_compared 80 = .ok (.iload_n 1, 1) := by decide +kernel
theorem dX8_compared_81 : decode cX8_compared 81 = .ok (.iload_n 3, 1) := by decide +kernel
theorem dX8_compared_82 : decode cX8_compared 82 = .ok (.if_icmp .le 7, 3) := by decide +kernel
theorem dX8_compared_85 : decode cX8_compared 85 = .ok (.iconst 1, 1) := by decide +kernel
theorem dX8_compared_86 : decode cX8_compared 86 = .ok (.goto 4, 3) := by decide +kernel
theorem dX8_compared_89 : decode cX8_compared 89 = .ok (.iconst 0, 1) := by decide +kernel
theorem dX8_compared_90 : decode cX8_compared 90 = .ok (.ireturn, 1) := by decide +kernel
theorem dX8_sums_0 : decode cX8_sums 0 = .ok (.aload_n 0, 1) := by decide +kernel
theorem dX8_sums_1 : decode cX8_sums 1 = .ok (.invokevirtual 192, 3) := by decide +kernel
theorem dX8_sums_4 : decode cX8_sums 4 = .ok (.istore_n 1, 1) := by decide +kernel
theorem dX8_sums_5 : decode cX8_sums 5 = .ok (.aload_n 0, 1) := by decide +kernel
theorem dX8_sums_6 : decode cX8_sums 6 = .ok (.getfield 173, 3) := by decide +kernel
theorem dX8_sums_9 : decode cX8_sums 9 = .ok (.ifCond .ge 68, 3) := by decide +kernel
theorem dX8_sums_12 : decode cX8_sums 12 = .ok (.aload_n 0, 1) := by decide +kernel
theorem dX8_sums_13 : decode cX8_sums 13 = .ok (.invokevirtual 176, 3) := by decide +kernel
theorem dX8_sums_16 : decode cX8_sums 16 = .ok (.bipush 43, 2) := by decide +kernel
theorem dX8_sums_18 : decode cX8_sums 18 = .ok (.if_icmp .eq 12, 3) := by decide +kernel
theorem dX8_sums_21 : decode cX8_sums 21 = .ok (.aload_n 0, 1) := by decide +kernel
theorem dX8_sums_22 : decode cX8_sums 22 = .ok (.invokevirtual 176, 3) := by decide +kernel
theorem dX8_sums_25 : decode cX8_sums 25 = .ok (.bipush 45, 2) := by decide +kernel
theorem dX8_sums_27 : decode cX8_sums 27 = .ok (.if_icmp .ne 50, 3) := by decide +kernel
theorem dX8_sums_30 : decode cX8_sums 30 = .ok (.aload_n 0, 1) := by decide +kernel
theorem dX8_sums_31 : decode cX8_sums 31 = .ok (.invokevirtual 176, 3) := by decide +kernel
theorem dX8_sums_34 : decode cX8_sums 34 = .ok (.bipush 43, 2) := by decide +kernel
theorem dX8_sums_36 : decode cX8_sums 36 = .ok (.if_icmp .ne 7, 3) := by decide +kernel
theorem dX8_sums_39 : decode cX8_sums 39 = .ok (.iconst 1, 1) := by decide +kernel
theorem dX8_sums_40 : decode cX8_sums 40 = .ok (.goto 4, 3) := by decide +kernel
theorem dX8_sums_43 : decode cX8_sums 43 = .ok (.iconst 0, 1) := by decide +kernel
theorem dX8_sums_44 : decode cX8_sums 44 = .ok (.istore_n 2, 1) := by decide +kernel
theorem dX8_sums_45 : decode cX8_sums 45 = .ok (.aload_n 0, 1) := by decide +kernel
theorem dX8_sums_46 : decode cX8_sums 46 = .ok (.dup, 1) := by decide +kernel
theorem dX8_sums_47 : decode cX8_sums 47 = .ok (.getfield 164, 3) := by decide +kernel
theorem dX8_sums_50 : decode cX8_sums 50 = .ok (.iconst 1, 1) := by decide +kernel
theorem dX8_sums_51 : decode cX8_sums 51 = .ok (.iadd, 1) := by decide +kernel
theorem dX8_sums_52 : decode cX8_sums 52 = .ok (.putfield 164, 3) := by decide +kernel
theorem dX8_sums_55 : decode cX8_sums 55 = .ok (.aload_n 0, 1) := by decide +kernel
theorem dX8_sums_56 : decode cX8_sums 56 = .ok (.invokevirtual 192, 3) := by decide +kernel
theorem dX8_sums_59 : decode cX8_sums 59 = .ok (.istore_n 3, 1) := by decide +kernel
theorem dX8_sums_60 : decode cX8_sums 60 = .ok (.iload_n 2, 1) := by decide +kernel
theorem dX8_sums_61 : decode cX8_sums 61 = .ok (.ifCond .eq 9, 3) := by decide +kernel
theorem dX8_sums_64 : decode cX8_sums 64 = .ok (.iload_n 1, 1) := by decide +kernel
theorem dX8_sums_65 : decode cX8_sums 65 = .ok (.iload_n 3, 1) := by decide +kernel
theorem dX8_sums_66 : decode cX8_sums 66 = .ok (.iadd, 1) := by decide +kernel
theorem dX8_sums_67 : decode cX8_sums 67 = .ok (.goto 6, 3) := by decide +kernel
theorem dX8_sums_70 : decode cX8_sums 70 = .ok (.iload_n 1, 1) := by decide +kernel
theorem dX8_sums_71 : decode cX8_sums 71 = .ok (.iload_n 3, 1) := by decide +kernel
theorem dX8_sums_72 : decode cX8_sums 72 = .ok (.isub, 1) := by decide +kernel
theorem dX8_sums_73 : decode cX8_sums 73 = .ok (.istore_n 1, 1) := by decide +kernel
theorem dX8_sums_74 : decode cX8_sums 74 = .ok (.goto (-69), 3) := by decide +kernel
theorem dX8_sums_77 : decode cX8_sums 77 = .ok (.iload_n 1, 1) := by decide +kernel
theorem dX8_sums_78 : decode cX8_sums 78 = .ok (.ireturn, 1) := by decide +kernel
theorem dX8_product_0 : decode cX8_product 0 = .ok (.aload_n 0, 1) := by decide +kernel
theorem dX8_product_1 : decode cX8_product 1 = .ok (.invokevirtual 195, 3) := by decide +kernel
theorem dX8_product_4 : decode cX8_product 4 = .ok (.istore_n 1, 1) := by decide +kernel
theorem dX8_product_5 : decode cX8_product 5 = .ok (.aload_n 0, 1) := by decide +kernel
theorem dX8_product_6 : decode cX8_product 6 = .ok (.invokevirtual 176, 3) := by decide +kernel
theorem dX8_product_9 : decode cX8_product 9 = .ok (.istore_n 2, 1) := by decide +kernel
theorem dX8_product_10 : decode cX8_product 10 = .ok (.aload_n 0, 1) := by decide +kernel
theorem dX8_product_11 : decode cX8_product 11 = .ok (.getfield 173, 3) := by decide +kernel
theorem dX8_product_14 : decode cX8_product 14 = .ok (.ifCond .ge 80, 3) := by decide +kernel
theorem dX8_product_17 : decode cX8_product 17 = .ok (.iload_n 2, 1) := by decide +kernel
theorem dX8_product_18 : decode cX8_product 18 = .ok (.bipush 42, 2) := by decide +kernel
theorem dX8_product_20 : decode cX8_product 20 = .ok (.if_icmp .eq 15, 3) := by decide +kernel
theorem dX8_product_23 : decode cX8_product 23 = .ok (.iload_n 2, 1) := by decide +kernel
theorem dX8_product_24 : decode cX8_product 24 = .ok (.bipush 47, 2) := by decide +kernel
theorem dX8_product_26 : decode cX8_product 26 = .ok (.if_icmp .eq 9, 3) := by decide +kernel
theorem dX8_product_29 : decode cX8_product 29 = .ok (.iload_n 2, 1) := by decide +kernel
theorem dX8_product_30 : decode cX8_product 30 = .ok (.bipush 37, 2) := by decide +kernel
theorem dX8_product_32 : decode cX8_product 32 = .ok (.if_icmp .ne 62, 3) := by decide +kernel
theorem dX8_product_35 : decode cX8_product 35 = .ok (.aload_n 0, 1) := by decide +kernel
theorem dX8_product_36 : decode cX8_product 36 = .ok (.dup, 1) := by decide +kernel
theorem dX8_product_37 : decode cX8_product 37 = .ok (.getfield 164, 3) := by decide +kernel
theorem dX8_product_40 : decode cX8_product 40 = .ok (.iconst 1, 1) := by decide +kernel
theorem dX8_product_41 : decode cX8_product 41 = .ok (.iadd, 1) := by decide +kernel
theorem dX8_product_42 : decode cX8_product 42 = .ok (.putfield 164, 3) := by decide +kernel
theorem dX8_product_45 : decode cX8_product 45 = .ok (.aload_n 0, 1) := by decide +kernel
theorem dX8_product_46 : decode cX8_product 46 = .ok (.invokevirtual 195, 3) := by decide +kernel
theorem dX8_product_49 : decode cX8_product 49 = .ok (.istore_n 3, 1) := by decide +kernel
theorem dX8_product_50 : decode cX8_product 50 = .ok (.iload_n 2, 1) := by decide +kernel
theorem dX8_product_51 : decode cX8_product 51 = .ok (.bipush 42, 2) := by decide +kernel
theorem dX8_product_53 : decode cX8_product 53 = .ok (.if_icmp .ne 9, 3) := by decide +kernel
theorem dX8_product_56 : decode cX8_product 56 = .ok (.iload_n 1, 1) := by decide +kernel
theorem dX8_product_57 : decode cX8_product 57 = .ok (.iload_n 3, 1) := by decide +kernel
theorem dX8_product_58 : decode cX8_product 58 = .ok (.imul, 1) := by decide +kernel
theorem dX8_product_59 : decode cX8_product 59 = .ok (.goto 26, 3) := by decide +kernel
theorem dX8_product_62 : decode cX8_product 62 = .ok (.iload_n 3, 1) := by decide +kernel
theorem dX8_product_63 : decode cX8_product 63 = .ok (.ifCond .ne 7, 3) := by decide +kernel
theorem dX8_product_66 : decode cX8_product 66 = .ok (.iconst 0, 1) := by decide +kernel
theorem dX8_product_67 : decode cX8_product 67 = .ok (.goto 18, 3) := by decide +kernel
theorem dX8_product_70 : decode cX8_product 70 = .ok (.iload_n 2, 1) := by decide +kernel
theorem dX8_product_71 : decode cX8_product 71 = .ok (.bipush 47, 2) := by decide +kernel
theorem dX8_product_73 : decode cX8_product 73 = .ok (.if_icmp .ne 9, 3) := by decide +kernel
theorem dX8_product_76 : decode cX8_product 76 = .ok (.iload_n 1, 1) := by decide +kernel
theorem dX8_product_77 : decode cX8_product 77 = .ok (.iload_n 3, 1) := by decide +kernel
theorem dX8_product_78 : decode cX8_product 78 = .ok (.idiv, 1) := by decide +kernel
theorem dX8_product_79 : decode cX8_product 79 = .ok (.goto 6, 3) := by decide +kernel
theorem dX8_product_82 : decode cX8_product 82 = .ok (.iload_n 1, 1) := by decide +kernel
theorem dX8_product_83 : decode cX8_product 83 = .ok (.iload_n 3, 1) := by decide +kernel
theorem dX8_product_84 : decode cX8_product 84 = .ok (.irem, 1) := by decide +kernel
theorem dX8_product_85 : decode cX8_product 85 = .ok (.istore_n 1, 1) := by decide +kernel
theorem dX8_product_86 : decode cX8_product 86 = .ok (.aload_n 0, 1) := by decide +kernel
theorem dX8_product_87 : decode cX8_product 87 = .ok (.invokevirtual 176, 3) := by decide +kernel
theorem dX8_product_90 : decode cX8_product 90 = .ok (.istore_n 2, 1) := by decide +kernel
theorem dX8_product_91 : decode cX8_product 91 = .ok (.goto (-81), 3) := by decide +kernel
theorem dX8_product_94 : decode cX8_product 94 = .ok (.iload_n 1, 1) := by decide +kernel
theorem dX8_product_95 : decode cX8_product 95 = .ok (.ireturn, 1) := by decide +kernel
theorem dX8_nameOf_0 : decode cX8_nameOf 0 = .ok (.iload_n 0, 1) := by decide +kernel
theorem dX8_nameOf_1 : decode cX8_nameOf 1 = .ok (.tableswitch 99 97 114 #[95, 97, 99, 87, 99, 99, 99, 93, 99, 99, 99, 99, 99, 99, 99, 99, 91, 89], 87) := by decide +kernel
theorem dX8_nameOf_88 : decode cX8_nameOf 88 = .ok (.iconst 0, 1) := by decide +kernel
theorem dX8_nameOf_89 : decode cX8_nameOf 89 = .ok (.ireturn, 1) := by decide +kernel
theorem dX8_nameOf_90 : decode cX8_nameOf 90 = .ok (.iconst 1, 1) := by decide +kernel
theorem dX8_nameOf_91 : decode cX8_nameOf 91 = .ok (.ireturn, 1) := by decide +kernel
theorem dX8_nameOf_92 : decode cX8_nameOf 92 = .ok (.iconst 2, 1) := by decide +kernel
theorem dX8_nameOf_93 : decode cX8_nameOf 93 = .ok (.ireturn, 1) := by decide +kernel
theorem dX8_nameOf_94 : decode cX8_nameOf 94 = .ok (.iconst 3, 1) := by decide +kernel
theorem dX8_nameOf_95 : decode cX8_nameOf 95 = .ok (.ireturn, 1) := by decide +kernel
theorem dX8_nameOf_96 : decode cX8_nameOf 96 = .ok (.iconst 4, 1) := by decide +kernel
theorem dX8_nameOf_97 : decode cX8_nameOf 97 = .ok (.ireturn, 1) := by decide +kernel
theorem dX8_nameOf_98 : decode cX8_nameOf 98 = .ok (.iconst 5, 1) := by decide +kernel
theorem dX8_nameOf_99 : decode cX8_nameOf 99 = .ok (.ireturn, 1) := by decide +kernel
theorem dX8_nameOf_100 : decode cX8_nameOf 100 = .ok (.iconst (-1), 1) := by decide +kernel
theorem dX8_nameOf_101 : decode cX8_nameOf 101 = .ok (.ireturn, 1) := by decide +kernel
theorem dX8_one_0 : decode cX8_one 0 = .ok (.aload_n 0, 1) := by decide +kernel
theorem dX8_one_1 : decode cX8_one 1 = .ok (.getfield 173, 3) := by decide +kernel
theorem dX8_one_4 : decode cX8_one 4 = .ok (.ifCond .lt 5, 3) := by decide +kernel
theorem dX8_one_7 : decode cX8_one 7 = .ok (.iconst 0, 1) := by decide +kernel
theorem dX8_one_8 : decode cX8_one 8 = .ok (.ireturn, 1) := by decide +kernel
theorem dX8_one_9 : decode cX8_one 9 = .ok (.aload_n 0, 1) := by decide +kernel
theorem dX8_one_10 : decode cX8_one 10 = .ok (.invokevirtual 176, 3) := by decide +kernel
theorem dX8_one_13 : decode cX8_one 13 = .ok (.istore_n 1, 1) := by decide +kernel
theorem dX8_one_14 : decode cX8_one 14 = .ok (.iload_n 1, 1) := by decide +kernel
theorem dX8_one_15 : decode cX8_one 15 = .ok (.bipush 33, 2) := by decide +kernel
theorem dX8_one_17 : decode cX8_one 17 = .ok (.if_icmp .eq 15, 3) := by decide +kernel
theorem dX8_one_20 : decode cX8_one 20 = .ok (.iload_n 1, 1) := by decide +kernel
theorem dX8_one_21 : decode cX8_one 21 = .ok (.bipush 45, 2) := by decide +kernel
theorem dX8_one_23 : decode cX8_one 23 = .ok (.if_icmp .eq 9, 3) := by decide +kernel
theorem dX8_one_26 : decode cX8_one 26 = .ok (.iload_n 1, 1) := by decide +kernel
theorem dX8_one_27 : decode cX8_one 27 = .ok (.bipush 40, 2) := by decide +kernel
theorem dX8_one_29 : decode cX8_one 29 = .ok (.if_icmp .ne 116, 3) := by decide +kernel
theorem dX8_one_32 : decode cX8_one 32 = .ok (.aload_n 0, 1) := by decide +kernel
theorem dX8_one_33 : decode cX8_one 33 = .ok (.getfield 198, 3) := by decide +kernel
theorem dX8_one_36 : decode cX8_one 36 = .ok (.bipush 6, 2) := by decide +kernel
theorem dX8_one_38 : decode cX8_one 38 = .ok (.if_icmp .ne 8, 3) := by decide +kernel
theorem dX8_one_41 : decode cX8_one 41 = .ok (.aload_n 0, 1) := by decide +kernel
theorem dX8_one_42 : decode cX8_one 42 = .ok (.invokevirtual 201, 3) := by decide +kernel
theorem dX8_one_45 : decode cX8_one 45 = .ok (.ireturn, 1) := by decide +kernel
theorem dX8_one_46 : decode cX8_one 46 = .ok (.aload_n 0, 1) := by decide +kernel
theorem dX8_one_47 : decode cX8_one 47 = .ok (.dup, 1) := by decide +kernel
theorem dX8_one_48 : decode cX8_one 48 = .ok (.getfield 198, 3) := by decide +kernel
theorem dX8_one_51 : decode cX8_one 51 = .ok (.iconst 1, 1) := by decide +kernel
theorem dX8_one_52 : decode cX8_one 52 = .ok (.iadd, 1) := by decide +kernel
theorem dX8_one_53 : decode cX8_one 53 = .ok (.putfield 198, 3) := by decide +kernel
theorem dX8_one_56 : decode cX8_one 56 = .ok (.aload_n 0, 1) := by decide +kernel
theorem dX8_one_57 : decode cX8_one 57 = .ok (.dup, 1) := by decide +kernel
theorem dX8_one_58 : decode cX8_one 58 = .ok (.getfield 164, 3) := by decide +kernel
theorem dX8_one_61 : decode cX8_one 61 = .ok (.iconst 1, 1) := by decide +kernel
theorem dX8_one_62 : decode cX8_one 62 = .ok (.iadd, 1) := by decide +kernel
theorem dX8_one_63 : decode cX8_one 63 = .ok (.putfield 164, 3) := by decide +kernel
theorem dX8_one_66 : decode cX8_one 66 = .ok (.iload_n 1, 1) := by decide +kernel
theorem dX8_one_67 : decode cX8_one 67 = .ok (.bipush 40, 2) := by decide +kernel
theorem dX8_one_69 : decode cX8_one 69 = .ok (.if_icmp .ne 10, 3) := by decide +kernel
theorem dX8_one_72 : decode cX8_one 72 = .ok (.aload_n 0, 1) := by decide +kernel
theorem dX8_one_73 : decode cX8_one 73 = .ok (.invokevirtual 204, 3) := by decide +kernel
theorem dX8_one_76 : decode cX8_one 76 = .ok (.goto 7, 3) := by decide +kernel
theorem dX8_one_79 : decode cX8_one 79 = .ok (.aload_n 0, 1) := by decide +kernel
theorem dX8_one_80 : decode cX8_one 80 = .ok (.invokevirtual 195, 3) := by decide +kernel
theorem dX8_one_83 : decode cX8_one 83 = .ok (.istore_n 2, 1) := by decide +kernel
theorem dX8_one_84 : decode cX8_one 84 = .ok (.iload_n 1, 1) := by decide +kernel
theorem dX8_one_85 : decode cX8_one 85 = .ok (.bipush 40, 2) := by decide +kernel
theorem dX8_one_87 : decode cX8_one 87 = .ok (.if_icmp .ne 17, 3) := by decide +kernel
theorem dX8_one_90 : decode cX8_one 90 = .ok (.aload_n 0, 1) := by decide +kernel
theorem dX8_one_91 : decode cX8_one 91 = .ok (.bipush 41, 2) := by decide +kernel
theorem dX8_one_93 : decode cX8_one 93 = .ok (.invokevirtual 183, 3) := by decide +kernel
theorem dX8_one_96 : decode cX8_one 96 = .ok (.ifCond .ne 8, 3) := by decide +kernel
theorem dX8_one_99 : decode cX8_one 99 = .ok (.aload_n 0, 1) := by decide +kernel
theorem dX8_one_100 : decode cX8_one 100 = .ok (.invokevirtual 201, 3) := by decide +kernel
theorem dX8_one_103 : decode cX8_one 103 = .ok (.ireturn, 1) := by decide +kernel
theorem dX8_one_104 : decode cX8_one 104 = .ok (.aload_n 0, 1) := by decide +kernel
theorem dX8_one_105 : decode cX8_one 105 = .ok (.dup, 1) := by decide +kernel
theorem dX8_one_106 : decode cX8_one 106 = .ok (.getfield 198, 3) := by decide +kernel
theorem dX8_one_109 : decode cX8_one 109 = .ok (.iconst 1, 1) := by decide +kernel
theorem dX8_one_110 : decode cX8_one 110 = .ok (.isub, 1) := by decide +kernel
theorem dX8_one_111 : decode cX8_one 111 = .ok (.putfield 198, 3) := by decide +kernel
theorem dX8_one_114 : decode cX8_one 114 = .ok (.iload_n 1, 1) := by decide +kernel
theorem dX8_one_115 : decode cX8_one 115 = .ok (.bipush 40, 2) := by decide +kernel
theorem dX8_one_117 : decode cX8_one 117 = .ok (.if_icmp .ne 7, 3) := by decide +kernel
theorem dX8_one_120 : decode cX8_one 120 = .ok (.iload_n 2, 1) := by decide +kernel
theorem dX8_one_121 : decode cX8_one 121 = .ok (.goto 23, 3) := by decide +kernel
theorem dX8_one_124 : decode cX8_one 124 = .ok (.iload_n 1, 1) := by decide +kernel
theorem dX8_one_125 : decode cX8_one 125 = .ok (.bipush 45, 2) := by decide +kernel
theorem dX8_one_127 : decode cX8_one 127 = .ok (.if_icmp .ne 8, 3) := by decide +kernel
theorem dX8_one_130 : decode cX8_one 130 = .ok (.iload_n 2, 1) := by decide +kernel
theorem dX8_one_131 : decode cX8_one 131 = .ok (.ineg, 1) := by decide +kernel
theorem dX8_one_132 : decode cX8_one 132 = .ok (.goto 12, 3) := by decide +kernel
theorem dX8_one_135 : decode cX8_one 135 = .ok (.iload_n 2, 1) := by decide +kernel
theorem dX8_one_136 : decode cX8_one 136 = .ok (.ifCond .ne 7, 3) := by decide +kernel
theorem dX8_one_139 : decode cX8_one 139 = .ok (.iconst 1, 1) := by decide +kernel
theorem dX8_one_140 : decode cX8_one 140 = .ok (.goto 4, 3) := by decide +kernel
theorem dX8_one_143 : decode cX8_one 143 = .ok (.iconst 0, 1) := by decide +kernel
theorem dX8_one_144 : decode cX8_one 144 = .ok (.ireturn, 1) := by decide +kernel
theorem dX8_one_145 : decode cX8_one 145 = .ok (.iload_n 1, 1) := by decide +kernel
theorem dX8_one_146 : decode cX8_one 146 = .ok (.invokestatic 207, 3) := by decide +kernel
theorem dX8_one_149 : decode cX8_one 149 = .ok (.istore_n 2, 1) := by decide +kernel
theorem dX8_one_150 : decode cX8_one 150 = .ok (.iload_n 2, 1) := by decide +kernel
theorem dX8_one_151 : decode cX8_one 151 = .ok (.ifCond .lt 20, 3) := by decide +kernel
theorem dX8_one_154 : decode cX8_one 154 = .ok (.aload_n 0, 1) := by decide +kernel
theorem dX8_one_155 : decode cX8_one 155 = .ok (.dup, 1) := by decide +kernel
theorem dX8_one_156 : decode cX8_one 156 = .ok (.getfield 164, 3) := by decide +kernel
theorem dX8_one_159 : decode cX8_one 159 = .ok (.iconst 1, 1) := by decide +kernel
theorem dX8_one_160 : decode cX8_one 160 = .ok (.iadd, 1) := by decide +kernel
theorem dX8_one_161 : decode cX8_one 161 = .ok (.putfield 164, 3) := by decide +kernel
theorem dX8_one_164 : decode cX8_one 164 = .ok (.aload_n 0, 1) := by decide +kernel
theorem dX8_one_165 : decode cX8_one 165 = .ok (.getfield 28, 3) := by decide +kernel
theorem dX8_one_168 : decode cX8_one 168 = .ok (.iload_n 2, 1) := by decide +kernel
theorem dX8_one_169 : decode cX8_one 169 = .ok (.iaload, 1) := by decide +kernel
theorem dX8_one_170 : decode cX8_one 170 = .ok (.ireturn, 1) := by decide +kernel
theorem dX8_one_171 : decode cX8_one 171 = .ok (.iconst 0, 1) := by decide +kernel
theorem dX8_one_172 : decode cX8_one 172 = .ok (.istore_n 3, 1) := by decide +kernel
theorem dX8_one_173 : decode cX8_one 173 = .ok (.iconst 0, 1) := by decide +kernel
theorem dX8_one_174 : decode cX8_one 174 = .ok (.istore 4, 2) := by decide +kernel
theorem dX8_one_176 : decode cX8_one 176 = .ok (.iload 4, 2) := by decide +kernel
theorem dX8_one_178 : decode cX8_one 178 = .ok (.iconst 4, 1) := by decide +kernel
theorem dX8_one_179 : decode cX8_one 179 = .ok (.if_icmp .ge 50, 3) := by decide +kernel
theorem dX8_one_182 : decode cX8_one 182 = .ok (.aload_n 0, 1) := by decide +kernel
theorem dX8_one_183 : decode cX8_one 183 = .ok (.invokevirtual 176, 3) := by decide +kernel
theorem dX8_one_186 : decode cX8_one 186 = .ok (.bipush 48, 2) := by decide +kernel
theorem dX8_one_188 : decode cX8_one 188 = .ok (.if_icmp .lt 41, 3) := by decide +kernel
theorem dX8_one_191 : decode cX8_one 191 = .ok (.aload_n 0, 1) := by decide +kernel
theorem dX8_one_192 : decode cX8_one 192 = .ok (.invokevirtual 176, 3) := by decide +kernel
theorem dX8_one_195 : decode cX8_one 195 = .ok (.bipush 57, 2) := by decide +kernel
theorem dX8_one_197 : decode cX8_one 197 = .ok (.if_icmp .gt 32, 3) := by decide +kernel
theorem dX8_one_200 : decode cX8_one 200 = .ok (.bipush 10, 2) := by decide +kernel
theorem dX8_one_202 : decode cX8_one 202 = .ok (.iload_n 3, 1) := by decide +kernel
theorem dX8_one_203 : decode cX8_one 203 = .ok (.imul, 1) := by decide +kernel
theorem dX8_one_204 : decode cX8_one 204 = .ok (.aload_n 0, 1) := by decide +kernel
theorem dX8_one_205 : decode cX8_one 205 = .ok (.invokevirtual 176, 3) := by decide +kernel
theorem dX8_one_208 : decode cX8_one 208 = .ok (.iadd, 1) := by decide +kernel
theorem dX8_one_209 : decode cX8_one 209 = .ok (.bipush 48, 2) := by decide +kernel
theorem dX8_one_211 : decode cX8_one 211 = .ok (.isub, 1) := by decide +kernel
theorem dX8_one_212 : decode cX8_one 212 = .ok (.istore_n 3, 1) := by decide +kernel
theorem dX8_one_213 : decode cX8_one 213 = .ok (.iinc 4 1, 3) := by decide +kernel
theorem dX8_one_216 : decode cX8_one 216 = .ok (.aload_n 0, 1) := by decide +kernel
theorem dX8_one_217 : decode cX8_one 217 = .ok (.dup, 1) := by decide +kernel
theorem dX8_one_218 : decode cX8_one 218 = .ok (.getfield 164, 3) := by decide +kernel
theorem dX8_one_221 : decode cX8_one 221 = .ok (.iconst 1, 1) := by decide +kernel
theorem dX8_one_222 : decode cX8_one 222 = .ok (.iadd, 1) := by decide +kernel
theorem dX8_one_223 : decode cX8_one 223 = .ok (.putfield 164, 3) := by decide +kernel
theorem dX8_one_226 : decode cX8_one 226 = .ok (.goto (-50), 3) := by decide +kernel
theorem dX8_one_229 : decode cX8_one 229 = .ok (.iload 4, 2) := by decide +kernel
theorem dX8_one_231 : decode cX8_one 231 = .ok (.ifCond .ne 10, 3) := by decide +kernel
theorem dX8_one_234 : decode cX8_one 234 = .ok (.aload_n 0, 1) := by decide +kernel
theorem dX8_one_235 : decode cX8_one 235 = .ok (.invokevirtual 201, 3) := by decide +kernel
theorem dX8_one_238 : decode cX8_one 238 = .ok (.goto 4, 3) := by decide +kernel
theorem dX8_one_241 : decode cX8_one 241 = .ok (.iload_n 3, 1) := by decide +kernel
theorem dX8_one_242 : decode cX8_one 242 = .ok (.ireturn, 1) := by decide +kernel
theorem dX8_workOut_0 : decode cX8_workOut 0 = .ok (.aload_n 0, 1) := by decide +kernel
theorem dX8_workOut_1 : decode cX8_workOut 1 = .ok (.iload_n 1, 1) := by decide +kernel
theorem dX8_workOut_2 : decode cX8_workOut 2 = .ok (.putfield 170, 3) := by decide +kernel
theorem dX8_workOut_5 : decode cX8_workOut 5 = .ok (.aload_n 0, 1) := by decide +kernel
theorem dX8_workOut_6 : decode cX8_workOut 6 = .ok (.iconst 0, 1) := by decide +kernel
theorem dX8_workOut_7 : decode cX8_workOut 7 = .ok (.putfield 164, 3) := by decide +kernel
theorem dX8_workOut_10 : decode cX8_workOut 10 = .ok (.aload_n 0, 1) := by decide +kernel
theorem dX8_workOut_11 : decode cX8_workOut 11 = .ok (.iload_n 2, 1) := by decide +kernel
theorem dX8_workOut_12 : decode cX8_workOut 12 = .ok (.putfield 167, 3) := by decide +kernel
theorem dX8_workOut_15 : decode cX8_workOut 15 = .ok (.aload_n 0, 1) := by decide +kernel
theorem dX8_workOut_16 : decode cX8_workOut 16 = .ok (.iconst (-1), 1) := by decide +kernel
theorem dX8_workOut_17 : decode cX8_workOut 17 = .ok (.putfield 173, 3) := by decide +kernel
theorem dX8_workOut_20 : decode cX8_workOut 20 = .ok (.aload_n 0, 1) := by decide +kernel
theorem dX8_workOut_21 : decode cX8_workOut 21 = .ok (.iconst 0, 1) := by decide +kernel
theorem dX8_workOut_22 : decode cX8_workOut 22 = .ok (.putfield 198, 3) := by decide +kernel
theorem dX8_workOut_25 : decode cX8_workOut 25 = .ok (.iconst 0, 1) := by decide +kernel
theorem dX8_workOut_26 : decode cX8_workOut 26 = .ok (.istore_n 3, 1) := by decide +kernel
theorem dX8_workOut_27 : decode cX8_workOut 27 = .ok (.iconst 0, 1) := by decide +kernel
theorem dX8_workOut_28 : decode cX8_workOut 28 = .ok (.istore 4, 2) := by decide +kernel
theorem dX8_workOut_30 : decode cX8_workOut 30 = .ok (.iconst 1, 1) := by decide +kernel
theorem dX8_workOut_31 : decode cX8_workOut 31 = .ok (.istore 5, 2) := by decide +kernel
theorem dX8_workOut_33 : decode cX8_workOut 33 = .ok (.iload 5, 2) := by decide +kernel
theorem dX8_workOut_35 : decode cX8_workOut 35 = .ok (.ifCond .eq 72, 3) := by decide +kernel
theorem dX8_workOut_38 : decode cX8_workOut 38 = .ok (.aload_n 0, 1) := by decide +kernel
theorem dX8_workOut_39 : decode cX8_workOut 39 = .ok (.invokevirtual 204, 3) := by decide +kernel
theorem dX8_workOut_42 : decode cX8_workOut 42 = .ok (.istore 6, 2) := by decide +kernel
theorem dX8_workOut_44 : decode cX8_workOut 44 = .ok (.iconst 1, 1) := by decide +kernel
theorem dX8_workOut_45 : decode cX8_workOut 45 = .ok (.istore 7, 2) := by decide +kernel
theorem dX8_workOut_47 : decode cX8_workOut 47 = .ok (.aload_n 0, 1) := by decide +kernel
theorem dX8_workOut_48 : decode cX8_workOut 48 = .ok (.bipush 63, 2) := by decide +kernel
theorem dX8_workOut_50 : decode cX8_workOut 50 = .ok (.invokevirtual 183, 3) := by decide +kernel
theorem dX8_workOut_53 : decode cX8_workOut 53 = .ok (.ifCond .eq 21, 3) := by decide +kernel
theorem dX8_workOut_56 : decode cX8_workOut 56 = .ok (.iload 6, 2) := by decide +kernel
theorem dX8_workOut_58 : decode cX8_workOut 58 = .ok (.ifCond .eq 7, 3) := by decide +kernel
theorem dX8_workOut_61 : decode cX8_workOut 61 = .ok (.iconst 1, 1) := by decide +kernel
theorem dX8_workOut_62 : decode cX8_workOut 62 = .ok (.goto 4, 3) := by decide +kernel
theorem dX8_workOut_65 : decode cX8_workOut 65 = .ok (.iconst 0, 1) := by decide +kernel
theorem dX8_workOut_66 : decode cX8_workOut 66 = .ok (.istore 7, 2) := by decide +kernel
theorem dX8_workOut_68 : decode cX8_workOut 68 = .ok (.aload_n 0, 1) := by decide +kernel
theorem dX8_workOut_69 : decode cX8_workOut 69 = .ok (.invokevirtual 204, 3) := by decide +kernel
theorem dX8_workOut_72 : decode cX8_workOut 72 = .ok (.istore 6, 2) := by decide +kernel
theorem dX8_workOut_74 : decode cX8_workOut 74 = .ok (.aload_n 0, 1) := by decide +kernel
theorem dX8_workOut_75 : decode cX8_workOut 75 = .ok (.getfield 173, 3) := by decide +kernel
theorem dX8_workOut_78 : decode cX8_workOut 78 = .ok (.ifCond .ge 18, 3) := by decide +kernel
theorem dX8_workOut_81 : decode cX8_workOut 81 = .ok (.iload 7, 2) := by decide +kernel
theorem dX8_workOut_83 : decode cX8_workOut 83 = .ok (.ifCond .eq 13, 3) := by decide +kernel
theorem dX8_workOut_86 : decode cX8_workOut 86 = .ok (.iload_n 3, 1) := by decide +kernel
theorem dX8_workOut_87 : decode cX8_workOut 87 = .ok (.ifCond .ne 9, 3) := by decide +kernel
theorem dX8_workOut_90 : decode cX8_workOut 90 = .ok (.iconst 1, 1) := by decide +kernel
theorem dX8_workOut_91 : decode cX8_workOut 91 = .ok (.istore_n 3, 1) := by decide +kernel
theorem dX8_workOut_92 : decode cX8_workOut 92 = .ok (.iload 6, 2) := by decide +kernel
theorem dX8_workOut_94 : decode cX8_workOut 94 = .ok (.istore 4, 2) := by decide +kernel
theorem dX8_workOut_96 : decode cX8_workOut 96 = .ok (.aload_n 0, 1) := by decide +kernel
theorem dX8_workOut_97 : decode cX8_workOut 97 = .ok (.bipush 59, 2) := by decide +kernel
theorem dX8_workOut_99 : decode cX8_workOut 99 = .ok (.invokevirtual 183, 3) := by decide +kernel
theorem dX8_workOut_102 : decode cX8_workOut 102 = .ok (.istore 5, 2) := by decide +kernel
theorem dX8_workOut_104 : decode cX8_workOut 104 = .ok (.goto (-71), 3) := by decide +kernel
theorem dX8_workOut_107 : decode cX8_workOut 107 = .ok (.aload_n 0, 1) := by decide +kernel
theorem dX8_workOut_108 : decode cX8_workOut 108 = .ok (.getfield 173, 3) := by decide +kernel
theorem dX8_workOut_111 : decode cX8_workOut 111 = .ok (.ifCond .ge 19, 3) := by decide +kernel
theorem dX8_workOut_114 : decode cX8_workOut 114 = .ok (.aload_n 0, 1) := by decide +kernel
theorem dX8_workOut_115 : decode cX8_workOut 115 = .ok (.getfield 164, 3) := by decide +kernel
theorem dX8_workOut_118 : decode cX8_workOut 118 = .ok (.aload_n 0, 1) := by decide +kernel
theorem dX8_workOut_119 : decode cX8_workOut 119 = .ok (.getfield 167, 3) := by decide +kernel
theorem dX8_workOut_122 : decode cX8_workOut 122 = .ok (.if_icmp .ge 8, 3) := by decide +kernel
theorem dX8_workOut_125 : decode cX8_workOut 125 = .ok (.aload_n 0, 1) := by decide +kernel
theorem dX8_workOut_126 : decode cX8_workOut 126 = .ok (.invokevirtual 201, 3) := by decide +kernel
theorem dX8_workOut_129 : decode cX8_workOut 129 = .ok (.ireturn, 1) := by decide +kernel
theorem dX8_workOut_130 : decode cX8_workOut 130 = .ok (.iload 4, 2) := by decide +kernel
theorem dX8_workOut_132 : decode cX8_workOut 132 = .ok (.ireturn, 1) := by decide +kernel
theorem dX8_law_0 : decode cX8_law 0 = .ok (.aload_n 0, 1) := by decide +kernel
theorem dX8_law_1 : decode cX8_law 1 = .ok (.iconst (-1), 1) := by decide +kernel
theorem dX8_law_2 : decode cX8_law 2 = .ok (.aload_n 0, 1) := by decide +kernel
theorem dX8_law_3 : decode cX8_law 3 = .ok (.getfield 161, 3) := by decide +kernel
theorem dX8_law_6 : decode cX8_law 6 = .ok (.invokevirtual 210, 3) := by decide +kernel
theorem dX8_law_9 : decode cX8_law 9 = .ok (.istore_n 1, 1) := by decide +kernel
theorem dX8_law_10 : decode cX8_law 10 = .ok (.aload_n 0, 1) := by decide +kernel
theorem dX8_law_11 : decode cX8_law 11 = .ok (.getfield 161, 3) := by decide +kernel
theorem dX8_law_14 : decode cX8_law 14 = .ok (.istore_n 2, 1) := by decide +kernel
theorem dX8_law_15 : decode cX8_law 15 = .ok (.aload_n 0, 1) := by decide +kernel
theorem dX8_law_16 : decode cX8_law 16 = .ok (.iconst 0, 1) := by decide +kernel
theorem dX8_law_17 : decode cX8_law 17 = .ok (.putfield 161, 3) := by decide +kernel
theorem dX8_law_20 : decode cX8_law 20 = .ok (.aload_n 0, 1) := by decide +kernel
theorem dX8_law_21 : decode cX8_law 21 = .ok (.getfield 173, 3) := by decide +kernel
theorem dX8_law_24 : decode cX8_law 24 = .ok (.ifCond .lt 11, 3) := by decide +kernel
theorem dX8_law_27 : decode cX8_law 27 = .ok (.bipush (-100), 2) := by decide +kernel
theorem dX8_law_29 : decode cX8_law 29 = .ok (.aload_n 0, 1) := by decide +kernel
theorem dX8_law_30 : decode cX8_law 30 = .ok (.getfield 173, 3) := by decide +kernel
theorem dX8_law_33 : decode cX8_law 33 = .ok (.isub, 1) := by decide +kernel
theorem dX8_law_34 : decode cX8_law 34 = .ok (.ireturn, 1) := by decide +kernel
theorem dX8_law_35 : decode cX8_law 35 = .ok (.iconst 0, 1) := by decide +kernel
theorem dX8_law_36 : decode cX8_law 36 = .ok (.istore_n 3, 1) := by decide +kernel
theorem dX8_law_37 : decode cX8_law 37 = .ok (.iload_n 3, 1) := by decide +kernel
theorem dX8_law_38 : decode cX8_law 38 = .ok (.iload_n 2, 1) := by decide +kernel
theorem dX8_law_39 : decode cX8_law 39 = .ok (.if_icmp .ge 21, 3) := by decide +kernel
theorem dX8_law_42 : decode cX8_law 42 = .ok (.aload_n 0, 1) := by decide +kernel
theorem dX8_law_43 : decode cX8_law 43 = .ok (.getfield 25, 3) := by decide +kernel
theorem dX8_law_46 : decode cX8_law 46 = .ok (.iload_n 3, 1) := by decide +kernel
theorem dX8_law_47 : decode cX8_law 47 = .ok (.aload_n 0, 1) := by decide +kernel
theorem dX8_law_48 : decode cX8_law 48 = .ok (.getfield 22, 3) := by decide +kernel
theorem dX8_law_51 : decode cX8_law 51 = .ok (.iload_n 3, 1) := by decide +kernel
theorem dX8_law_52 : decode cX8_law 52 = .ok (.iaload, 1) := by decide +kernel
theorem dX8_law_53 : decode cX8_law 53 = .ok (.iastore, 1) := by decide +kernel
theorem dX8_law_54 : decode cX8_law 54 = .ok (.iinc 3 1, 3) := by decide +kernel
theorem dX8_law_57 : decode cX8_law 57 = .ok (.goto (-20), 3) := by decide +kernel
theorem dX8_law_60 : decode cX8_law 60 = .ok (.aload_n 0, 1) := by decide +kernel
theorem dX8_law_61 : decode cX8_law 61 = .ok (.iload_n 2, 1) := by decide +kernel
theorem dX8_law_62 : decode cX8_law 62 = .ok (.putfield 84, 3) := by decide +kernel
theorem dX8_law_65 : decode cX8_law 65 = .ok (.iconst 1, 1) := by decide +kernel
theorem dX8_law_66 : decode cX8_law 66 = .ok (.ireturn, 1) := by decide +kernel
theorem dX8_doSee_0 : decode cX8_doSee 0 = .ok (.iload_n 1, 1) := by decide +kernel
theorem dX8_doSee_1 : decode cX8_doSee 1 = .ok (.iload_n 2, 1) := by decide +kernel
theorem dX8_doSee_2 : decode cX8_doSee 2 = .ok (.if_icmp .ge 7, 3) := by decide +kernel
theorem dX8_doSee_5 : decode cX8_doSee 5 = .ok (.iload_n 1, 1) := by decide +kernel
theorem dX8_doSee_6 : decode cX8_doSee 6 = .ok (.goto 4, 3) := by decide +kernel
theorem dX8_doSee_9 : decode cX8_doSee 9 = .ok (.iload_n 2, 1) := by decide +kernel
theorem dX8_doSee_10 : decode cX8_doSee 10 = .ok (.istore 4, 2) := by decide +kernel
theorem dX8_doSee_12 : decode cX8_doSee 12 = .ok (.iload_n 1, 1) := by decide +kernel
theorem dX8_doSee_13 : decode cX8_doSee 13 = .ok (.iload_n 2, 1) := by decide +kernel
theorem dX8_doSee_14 : decode cX8_doSee 14 = .ok (.if_icmp .ge 7, 3) := by decide +kernel
theorem dX8_doSee_17 : decode cX8_doSee 17 = .ok (.iload_n 2, 1) := by decide +kernel
theorem dX8_doSee_18 : decode cX8_doSee 18 = .ok (.goto 4, 3) := by decide +kernel
theorem dX8_doSee_21 : decode cX8_doSee 21 = .ok (.iload_n 1, 1) := by decide +kernel
theorem dX8_doSee_22 : decode cX8_doSee 22 = .ok (.istore 5, 2) := by decide +kernel
theorem dX8_doSee_24 : decode cX8_doSee 24 = .ok (.aload_n 0, 1) := by decide +kernel
theorem dX8_doSee_25 : decode cX8_doSee 25 = .ok (.iload 4, 2) := by decide +kernel
theorem dX8_doSee_27 : decode cX8_doSee 27 = .ok (.iload_n 3, 1) := by decide +kernel
theorem dX8_doSee_28 : decode cX8_doSee 28 = .ok (.invokevirtual 134, 3) := by decide +kernel
theorem dX8_doSee_31 : decode cX8_doSee 31 = .ok (.istore 6, 2) := by decide +kernel
theorem dX8_doSee_33 : decode cX8_doSee 33 = .ok (.aload_n 0, 1) := by decide +kernel
theorem dX8_doSee_34 : decode cX8_doSee 34 = .ok (.iload 5, 2) := by decide +kernel
theorem dX8_doSee_36 : decode cX8_doSee 36 = .ok (.iload_n 3, 1) := by decide +kernel
theorem dX8_doSee_37 : decode cX8_doSee 37 = .ok (.invokevirtual 134, 3) := by decide +kernel
theorem dX8_doSee_40 : decode cX8_doSee 40 = .ok (.istore 7, 2) := by decide +kernel
theorem dX8_doSee_42 : decode cX8_doSee 42 = .ok (.iload 6, 2) := by decide +kernel
theorem dX8_doSee_44 : decode cX8_doSee 44 = .ok (.iload 7, 2) := by decide +kernel
theorem dX8_doSee_46 : decode cX8_doSee 46 = .ok (.if_icmp .le 11, 3) := by decide +kernel
theorem dX8_doSee_49 : decode cX8_doSee 49 = .ok (.iload 6, 2) := by decide +kernel
theorem dX8_doSee_51 : decode cX8_doSee 51 = .ok (.iload 7, 2) := by decide +kernel
theorem dX8_doSee_53 : decode cX8_doSee 53 = .ok (.isub, 1) := by decide +kernel
theorem dX8_doSee_54 : decode cX8_doSee 54 = .ok (.goto 8, 3) := by decide +kernel
theorem dX8_doSee_57 : decode cX8_doSee 57 = .ok (.iload 7, 2) := by decide +kernel
theorem dX8_doSee_59 : decode cX8_doSee 59 = .ok (.iload 6, 2) := by decide +kernel
theorem dX8_doSee_61 : decode cX8_doSee 61 = .ok (.isub, 1) := by decide +kernel
theorem dX8_doSee_62 : decode cX8_doSee 62 = .ok (.istore 8, 2) := by decide +kernel
theorem dX8_doSee_64 : decode cX8_doSee 64 = .ok (.iload 8, 2) := by decide +kernel
theorem dX8_doSee_66 : decode cX8_doSee 66 = .ok (.sipush 180, 3) := by decide +kernel
theorem dX8_doSee_69 : decode cX8_doSee 69 = .ok (.if_icmp .le 12, 3) := by decide +kernel
theorem dX8_doSee_72 : decode cX8_doSee 72 = .ok (.sipush 360, 3) := by decide +kernel
theorem dX8_doSee_75 : decode cX8_doSee 75 = .ok (.iload 8, 2) := by decide +kernel
theorem dX8_doSee_77 : decode cX8_doSee 77 = .ok (.isub, 1) := by decide +kernel
theorem dX8_doSee_78 : decode cX8_doSee 78 = .ok (.goto 5, 3) := by decide +kernel
theorem dX8_doSee_81 : decode cX8_doSee 81 = .ok (.iload 8, 2) := by decide +kernel
theorem dX8_doSee_83 : decode cX8_doSee 83 = .ok (.istore 9, 2) := by decide +kernel
theorem dX8_doSee_85 : decode cX8_doSee 85 = .ok (.aload_n 0, 1) := by decide +kernel
theorem dX8_doSee_86 : decode cX8_doSee 86 = .ok (.getfield 84, 3) := by decide +kernel
theorem dX8_doSee_89 : decode cX8_doSee 89 = .ok (.ifCond .ge 25, 3) := by decide +kernel
theorem dX8_doSee_92 : decode cX8_doSee 92 = .ok (.iload 9, 2) := by decide +kernel
theorem dX8_doSee_94 : decode cX8_doSee 94 = .ok (.aload_n 0, 1) := by decide +kernel
theorem dX8_doSee_95 : decode cX8_doSee 95 = .ok (.getfield 9, 3) := by decide +kernel
theorem dX8_doSee_98 : decode cX8_doSee 98 = .ok (.bipush 21, 2) := by decide +kernel
theorem dX8_doSee_100 : decode cX8_doSee 100 = .ok (.iaload, 1) := by decide +kernel
theorem dX8_doSee_101 : decode cX8_doSee 101 = .ok (.iadd, 1) := by decide +kernel
theorem dX8_doSee_102 : decode cX8_doSee 102 = .ok (.sipush 180, 3) := by decide +kernel
theorem dX8_doSee_105 : decode cX8_doSee 105 = .ok (.if_icmp .gt 7, 3) := by decide +kernel
theorem dX8_doSee_108 : decode cX8_doSee 108 = .ok (.iconst 1, 1) := by decide +kernel
theorem dX8_doSee_109 : decode cX8_doSee 109 = .ok (.goto 4, 3) := by decide +kernel
theorem dX8_doSee_112 : decode cX8_doSee 112 = .ok (.iconst 0, 1) := by decide +kernel
theorem dX8_doSee_113 : decode cX8_doSee 113 = .ok (.ireturn, 1) := by decide +kernel
theorem dX8_doSee_114 : decode cX8_doSee 114 = .ok (.aload_n 0, 1) := by decide +kernel
theorem dX8_doSee_115 : decode cX8_doSee 115 = .ok (.getfield 28, 3) := by decide +kernel
theorem dX8_doSee_118 : decode cX8_doSee 118 = .ok (.iconst 0, 1) := by decide +kernel
theorem dX8_doSee_119 : decode cX8_doSee 119 = .ok (.iload 9, 2) := by decide +kernel
theorem dX8_doSee_121 : decode cX8_doSee 121 = .ok (.iastore, 1) := by decide +kernel
theorem dX8_doSee_122 : decode cX8_doSee 122 = .ok (.aload_n 0, 1) := by decide +kernel
theorem dX8_doSee_123 : decode cX8_doSee 123 = .ok (.getfield 28, 3) := by decide +kernel
theorem dX8_doSee_126 : decode cX8_doSee 126 = .ok (.iconst 1, 1) := by decide +kernel
theorem dX8_doSee_127 : decode cX8_doSee 127 = .ok (.aload_n 0, 1) := by decide +kernel
theorem dX8_doSee_128 : decode cX8_doSee 128 = .ok (.getfield 9, 3) := by decide +kernel
theorem dX8_doSee_131 : decode cX8_doSee 131 = .ok (.bipush 14, 2) := by decide +kernel
theorem dX8_doSee_133 : decode cX8_doSee 133 = .ok (.iload 4, 2) := by decide +kernel
theorem dX8_doSee_135 : decode cX8_doSee 135 = .ok (.iadd, 1) := by decide +kernel
theorem dX8_doSee_136 : decode cX8_doSee 136 = .ok (.iaload, 1) := by decide +kernel
theorem dX8_doSee_137 : decode cX8_doSee 137 = .ok (.iastore, 1) := by decide +kernel
theorem dX8_doSee_138 : decode cX8_doSee 138 = .ok (.aload_n 0, 1) := by decide +kernel
theorem dX8_doSee_139 : decode cX8_doSee 139 = .ok (.getfield 28, 3) := by decide +kernel
theorem dX8_doSee_142 : decode cX8_doSee 142 = .ok (.iconst 2, 1) := by decide +kernel
theorem dX8_doSee_143 : decode cX8_doSee 143 = .ok (.aload_n 0, 1) := by decide +kernel
theorem dX8_doSee_144 : decode cX8_doSee 144 = .ok (.getfield 9, 3) := by decide +kernel
theorem dX8_doSee_147 : decode cX8_doSee 147 = .ok (.bipush 14, 2) := by decide +kernel
theorem dX8_doSee_149 : decode cX8_doSee 149 = .ok (.iload 5, 2) := by decide +kernel
theorem dX8_doSee_151 : decode cX8_doSee 151 = .ok (.iadd, 1) := by decide +kernel
theorem dX8_doSee_152 : decode cX8_doSee 152 = .ok (.iaload, 1) := by decide +kernel
theorem dX8_doSee_153 : decode cX8_doSee 153 = .ok (.iastore, 1) := by decide +kernel
theorem dX8_doSee_154 : decode cX8_doSee 154 = .ok (.aload_n 0, 1) := by decide +kernel
theorem dX8_doSee_155 : decode cX8_doSee 155 = .ok (.getfield 28, 3) := by decide +kernel
theorem dX8_doSee_158 : decode cX8_doSee 158 = .ok (.iconst 3, 1) := by decide +kernel
theorem dX8_doSee_159 : decode cX8_doSee 159 = .ok (.aload_n 0, 1) := by decide +kernel
theorem dX8_doSee_160 : decode cX8_doSee 160 = .ok (.getfield 9, 3) := by decide +kernel
theorem dX8_doSee_163 : decode cX8_doSee 163 = .ok (.bipush 21, 2) := by decide +kernel
theorem dX8_doSee_165 : decode cX8_doSee 165 = .ok (.iaload, 1) := by decide +kernel
theorem dX8_doSee_166 : decode cX8_doSee 166 = .ok (.iastore, 1) := by decide +kernel
theorem dX8_doSee_167 : decode cX8_doSee 167 = .ok (.aload_n 0, 1) := by decide +kernel
theorem dX8_doSee_168 : decode cX8_doSee 168 = .ok (.getfield 28, 3) := by decide +kernel
theorem dX8_doSee_171 : decode cX8_doSee 171 = .ok (.iconst 4, 1) := by decide +kernel
theorem dX8_doSee_172 : decode cX8_doSee 172 = .ok (.iload 6, 2) := by decide +kernel
theorem dX8_doSee_174 : decode cX8_doSee 174 = .ok (.iastore, 1) := by decide +kernel
theorem dX8_doSee_175 : decode cX8_doSee 175 = .ok (.aload_n 0, 1) := by decide +kernel
theorem dX8_doSee_176 : decode cX8_doSee 176 = .ok (.getfield 28, 3) := by decide +kernel
theorem dX8_doSee_179 : decode cX8_doSee 179 = .ok (.iconst 5, 1) := by decide +kernel
theorem dX8_doSee_180 : decode cX8_doSee 180 = .ok (.iload 7, 2) := by decide +kernel
theorem dX8_doSee_182 : decode cX8_doSee 182 = .ok (.iastore, 1) := by decide +kernel
theorem dX8_doSee_183 : decode cX8_doSee 183 = .ok (.aload_n 0, 1) := by decide +kernel
theorem dX8_doSee_184 : decode cX8_doSee 184 = .ok (.iconst 0, 1) := by decide +kernel
theorem dX8_doSee_185 : decode cX8_doSee 185 = .ok (.aload_n 0, 1) := by decide +kernel
theorem dX8_doSee_186 : decode cX8_doSee 186 = .ok (.getfield 84, 3) := by decide +kernel
theorem dX8_doSee_189 : decode cX8_doSee 189 = .ok (.invokevirtual 210, 3) := by decide +kernel
theorem dX8_doSee_192 : decode cX8_doSee 192 = .ok (.ifCond .eq 7, 3) := by decide +kernel
theorem dX8_doSee_195 : decode cX8_doSee 195 = .ok (.iconst 1, 1) := by decide +kernel
theorem dX8_doSee_196 : decode cX8_doSee 196 = .ok (.goto 4, 3) := by decide +kernel
theorem dX8_doSee_199 : decode cX8_doSee 199 = .ok (.iconst 0, 1) := by decide +kernel
theorem dX8_doSee_200 : decode cX8_doSee 200 = .ok (.ireturn, 1) := by decide +kernel
theorem dX8_asksSights_0 : decode cX8_asksSights 0 = .ok (.iconst 0, 1) := by decide +kernel
theorem dX8_asksSights_1 : decode cX8_asksSights 1 = .ok (.istore_n 2, 1) := by decide +kernel
theorem dX8_asksSights_2 : decode cX8_asksSights 2 = .ok (.iload_n 2, 1) := by decide +kernel
theorem dX8_asksSights_3 : decode cX8_asksSights 3 = .ok (.iload_n 1, 1) := by decide +kernel
theorem dX8_asksSights_4 : decode cX8_asksSights 4 = .ok (.if_icmp .ge 92, 3) := by decide +kernel
theorem dX8_asksSights_7 : decode cX8_asksSights 7 = .ok (.iload_n 2, 1) := by decide +kernel
theorem dX8_asksSights_8 : decode cX8_asksSights 8 = .ok (.iconst 1, 1) := by decide +kernel
theorem dX8_asksSights_9 : decode cX8_asksSights 9 = .ok (.iadd, 1) := by decide +kernel
theorem dX8_asksSights_10 : decode cX8_asksSights 10 = .ok (.istore_n 3, 1) := by decide +kernel
theorem dX8_asksSights_11 : decode cX8_asksSights 11 = .ok (.iload_n 3, 1) := by decide +kernel
theorem dX8_asksSights_12 : decode cX8_asksSights 12 = .ok (.iload_n 1, 1) := by decide +kernel
theorem dX8_asksSights_13 : decode cX8_asksSights 13 = .ok (.if_icmp .ge 77, 3) := by decide +kernel
theorem dX8_asksSights_16 : decode cX8_asksSights 16 = .ok (.aload_n 0, 1) := by decide +kernel
theorem dX8_asksSights_17 : decode cX8_asksSights 17 = .ok (.getfield 35, 3) := by decide +kernel
theorem dX8_asksSights_20 : decode cX8_asksSights 20 = .ok (.bipush 7, 2) := by decide +kernel
theorem dX8_asksSights_22 : decode cX8_asksSights 22 = .ok (.iload_n 2, 1) := by decide +kernel
theorem dX8_asksSights_23 : decode cX8_asksSights 23 = .ok (.imul, 1) := by decide +kernel
theorem dX8_asksSights_24 : decode cX8_asksSights 24 = .ok (.iload_n 3, 1) := by decide +kernel
theorem dX8_asksSights_25 : decode cX8_asksSights 25 = .ok (.iadd, 1) := by decide +kernel
theorem dX8_asksSights_26 : decode cX8_asksSights 26 = .ok (.aload_n 0, 1) := by decide +kernel
theorem dX8_asksSights_27 : decode cX8_asksSights 27 = .ok (.iload_n 2, 1) := by decide +kernel
theorem dX8_asksSights_28 : decode cX8_asksSights 28 = .ok (.iload_n 3, 1) := by decide +kernel
theorem dX8_asksSights_29 : decode cX8_asksSights 29 = .ok (.invokevirtual 213, 3) := by decide +kernel
theorem dX8_asksSights_32 : decode cX8_asksSights 32 = .ok (.iastore, 1) := by decide +kernel
theorem dX8_asksSights_33 : decode cX8_asksSights 33 = .ok (.iconst 0, 1) := by decide +kernel
theorem dX8_asksSights_34 : decode cX8_asksSights 34 = .ok (.istore 4, 2) := by decide +kernel
theorem dX8_asksSights_36 : decode cX8_asksSights 36 = .ok (.iload 4, 2) := by decide +kernel
theorem dX8_asksSights_38 : decode cX8_asksSights 38 = .ok (.aload_n 0, 1) := by decide +kernel
theorem dX8_asksSights_39 : decode cX8_asksSights 39 = .ok (.getfield 35, 3) := by decide +kernel
theorem dX8_asksSights_42 : decode cX8_asksSights 42 = .ok (.bipush 7, 2) := by decide +kernel
theorem dX8_asksSights_44 : decode cX8_asksSights 44 = .ok (.iload_n 2, 1) := by decide +kernel
theorem dX8_asksSights_45 : decode cX8_asksSights 45 = .ok (.imul, 1) := by decide +kernel
theorem dX8_asksSights_46 : decode cX8_asksSights 46 = .ok (.iload_n 3, 1) := by decide +kernel
theorem dX8_asksSights_47 : decode cX8_asksSights 47 = .ok (.iadd, 1) := by decide +kernel
theorem dX8_asksSights_48 : decode cX8_asksSights 48 = .ok (.iaload, 1) := by decide +kernel
theorem dX8_asksSights_49 : decode cX8_asksSights 49 = .ok (.if_icmp .ge 35, 3) := by decide +kernel
theorem dX8_asksSights_52 : decode cX8_asksSights 52 = .ok (.aload_n 0, 1) := by decide +kernel
theorem dX8_asksSights_53 : decode cX8_asksSights 53 = .ok (.getfield 31, 3) := by decide +kernel
theorem dX8_asksSights_56 : decode cX8_asksSights 56 = .ok (.sipush 132, 3) := by decide +kernel
theorem dX8_asksSights_59 : decode cX8_asksSights 59 = .ok (.bipush 7, 2) := by decide +kernel
theorem dX8_asksSights_61 : decode cX8_asksSights 61 = .ok (.iload_n 2, 1) := by decide +kernel
theorem dX8_asksSights_62 : decode cX8_asksSights 62 = .ok (.imul, 1) := by decide +kernel
theorem dX8_asksSights_63 : decode cX8_asksSights 63 = .ok (.iload_n 3, 1) := by decide +kernel
theorem dX8_asksSights_64 : decode cX8_asksSights 64 = .ok (.iadd, 1) := by decide +kernel
theorem dX8_asksSights_65 : decode cX8_asksSights 65 = .ok (.imul, 1) := by decide +kernel
theorem dX8_asksSights_66 : decode cX8_asksSights 66 = .ok (.iload 4, 2) := by decide +kernel
theorem dX8_asksSights_68 : decode cX8_asksSights 68 = .ok (.iadd, 1) := by decide +kernel
theorem dX8_asksSights_69 : decode cX8_asksSights 69 = .ok (.aload_n 0, 1) := by decide +kernel
theorem dX8_asksSights_70 : decode cX8_asksSights 70 = .ok (.iload_n 2, 1) := by decide +kernel
theorem dX8_asksSights_71 : decode cX8_asksSights 71 = .ok (.iload_n 3, 1) := by decide +kernel
theorem dX8_asksSights_72 : decode cX8_asksSights 72 = .ok (.iload 4, 2) := by decide +kernel
theorem dX8_asksSights_74 : decode cX8_asksSights 74 = .ok (.invokevirtual 216, 3) := by decide +kernel
theorem dX8_asksSights_77 : decode cX8_asksSights 77 = .ok (.bastore, 1) := by decide +kernel
theorem dX8_asksSights_78 : decode cX8_asksSights 78 = .ok (.iinc 4 1, 3) := by decide +kernel
theorem dX8_asksSights_81 : decode cX8_asksSights 81 = .ok (.goto (-45), 3) := by decide +kernel
theorem dX8_asksSights_84 : decode cX8_asksSights 84 = .ok (.iinc 3 1, 3) := by decide +kernel
theorem dX8_asksSights_87 : decode cX8_asksSights 87 = .ok (.goto (-76), 3) := by decide +kernel
theorem dX8_asksSights_90 : decode cX8_asksSights 90 = .ok (.iinc 2 1, 3) := by decide +kernel
theorem dX8_asksSights_93 : decode cX8_asksSights 93 = .ok (.goto (-91), 3) := by decide +kernel
theorem dX8_asksSights_96 : decode cX8_asksSights 96 = .ok (.return_, 1) := by decide +kernel
theorem dX8_sawAt_0 : decode cX8_sawAt 0 = .ok (.iload_n 1, 1) := by decide +kernel
theorem dX8_sawAt_1 : decode cX8_sawAt 1 = .ok (.iload_n 2, 1) := by decide +kernel
theorem dX8_sawAt_2 : decode cX8_sawAt 2 = .ok (.if_icmp .ge 12, 3) := by decide +kernel
theorem dX8_sawAt_5 : decode cX8_sawAt 5 = .ok (.bipush 7, 2) := by decide +kernel
theorem dX8_sawAt_7 : decode cX8_sawAt 7 = .ok (.iload_n 1, 1) := by decide +kernel
theorem dX8_sawAt_8 : decode cX8_sawAt 8 = .ok (.imul, 1) := by decide +kernel
theorem dX8_sawAt_9 : decode cX8_sawAt 9 = .ok (.iload_n 2, 1) := by decide +kernel
theorem dX8_sawAt_10 : decode cX8_sawAt 10 = .ok (.iadd, 1) := by decide +kernel
theorem dX8_sawAt_11 : decode cX8_sawAt 11 = .ok (.goto 9, 3) := by decide +kernel
theorem dX8_sawAt_14 : decode cX8_sawAt 14 = .ok (.bipush 7, 2) := by decide +kernel
theorem dX8_sawAt_16 : decode cX8_sawAt 16 = .ok (.iload_n 2, 1) := by decide +kernel
theorem dX8_sawAt_17 : decode cX8_sawAt 17 = .ok (.imul, 1) := by decide +kernel
theorem dX8_sawAt_18 : decode cX8_sawAt 18 = .ok (.iload_n 1, 1) := by decide +kernel
theorem dX8_sawAt_19 : decode cX8_sawAt 19 = .ok (.iadd, 1) := by decide +kernel
theorem dX8_sawAt_20 : decode cX8_sawAt 20 = .ok (.istore 4, 2) := by decide +kernel
theorem dX8_sawAt_22 : decode cX8_sawAt 22 = .ok (.aload_n 0, 1) := by decide +kernel
theorem dX8_sawAt_23 : decode cX8_sawAt 23 = .ok (.getfield 31, 3) := by decide +kernel
theorem dX8_sawAt_26 : decode cX8_sawAt 26 = .ok (.sipush 132, 3) := by decide +kernel
theorem dX8_sawAt_29 : decode cX8_sawAt 29 = .ok (.iload 4, 2) := by decide +kernel
theorem dX8_sawAt_31 : decode cX8_sawAt 31 = .ok (.imul, 1) := by decide +kernel
theorem dX8_sawAt_32 : decode cX8_sawAt 32 = .ok (.iload_n 3, 1) := by decide +kernel
theorem dX8_sawAt_33 : decode cX8_sawAt 33 = .ok (.aload_n 0, 1) := by decide +kernel
theorem dX8_sawAt_34 : decode cX8_sawAt 34 = .ok (.getfield 35, 3) := by decide +kernel
theorem dX8_sawAt_37 : decode cX8_sawAt 37 = .ok (.iload 4, 2) := by decide +kernel
theorem dX8_sawAt_39 : decode cX8_sawAt 39 = .ok (.iaload, 1) := by decide +kernel
theorem dX8_sawAt_40 : decode cX8_sawAt 40 = .ok (.irem, 1) := by decide +kernel
theorem dX8_sawAt_41 : decode cX8_sawAt 41 = .ok (.iadd, 1) := by decide +kernel
theorem dX8_sawAt_42 : decode cX8_sawAt 42 = .ok (.baload, 1) := by decide +kernel
theorem dX8_sawAt_43 : decode cX8_sawAt 43 = .ok (.ireturn, 1) := by decide +kernel
theorem dX8_sees_0 : decode cX8_sees 0 = .ok (.aload_n 0, 1) := by decide +kernel
theorem dX8_sees_1 : decode cX8_sees 1 = .ok (.iload_n 1, 1) := by decide +kernel
theorem dX8_sees_2 : decode cX8_sees 2 = .ok (.invokevirtual 220, 3) := by decide +kernel
theorem dX8_sees_5 : decode cX8_sees 5 = .ok (.ifCond .eq 34, 3) := by decide +kernel
theorem dX8_sees_8 : decode cX8_sees 8 = .ok (.iload_n 2, 1) := by decide +kernel
theorem dX8_sees_9 : decode cX8_sees 9 = .ok (.invokestatic 153, 3) := by decide +kernel
theorem dX8_sees_12 : decode cX8_sees 12 = .ok (.ifCond .eq 27, 3) := by decide +kernel
theorem dX8_sees_15 : decode cX8_sees 15 = .ok (.aload_n 0, 1) := by decide +kernel
theorem dX8_sees_16 : decode cX8_sees 16 = .ok (.iload_n 1, 1) := by decide +kernel
theorem dX8_sees_17 : decode cX8_sees 17 = .ok (.bipush 10, 2) := by decide +kernel
theorem dX8_sees_19 : decode cX8_sees 19 = .ok (.idiv, 1) := by decide +kernel
theorem dX8_sees_20 : decode cX8_sees 20 = .ok (.iload_n 1, 1) := by decide +kernel
theorem dX8_sees_21 : decode cX8_sees 21 = .ok (.bipush 10, 2) := by decide +kernel
theorem dX8_sees_23 : decode cX8_sees 23 = .ok (.irem, 1) := by decide +kernel
theorem dX8_sees_24 : decode cX8_sees 24 = .ok (.iload_n 2, 1) := by decide +kernel
theorem dX8_sees_25 : decode cX8_sees 25 = .ok (.invokevirtual 216, 3) := by decide +kernel
theorem dX8_sees_28 : decode cX8_sees 28 = .ok (.ifCond .eq 7, 3) := by decide +kernel
theorem dX8_sees_31 : decode cX8_sees 31 = .ok (.iconst 1, 1) := by decide +kernel
theorem dX8_sees_32 : decode cX8_sees 32 = .ok (.goto 8, 3) := by decide +kernel
theorem dX8_sees_35 : decode cX8_sees 35 = .ok (.iconst 0, 1) := by decide +kernel
theorem dX8_sees_36 : decode cX8_sees 36 = .ok (.goto 4, 3) := by decide +kernel
theorem dX8_sees_39 : decode cX8_sees 39 = .ok (.iconst (-1), 1) := by decide +kernel
theorem dX8_sees_40 : decode cX8_sees 40 = .ok (.ireturn, 1) := by decide +kernel
theorem dX8_sights_0 : decode cX8_sights 0 = .ok (.aload_n 0, 1) := by decide +kernel
theorem dX8_sights_1 : decode cX8_sights 1 = .ok (.iload_n 1, 1) := by decide +kernel
theorem dX8_sights_2 : decode cX8_sights 2 = .ok (.invokevirtual 220, 3) := by decide +kernel
theorem dX8_sights_5 : decode cX8_sights 5 = .ok (.ifCond .eq 13, 3) := by decide +kernel
theorem dX8_sights_8 : decode cX8_sights 8 = .ok (.iload_n 2, 1) := by decide +kernel
theorem dX8_sights_9 : decode cX8_sights 9 = .ok (.i2l, 1) := by decide +kernel
theorem dX8_sights_10 : decode cX8_sights 10 = .ok (.lconst 0, 1) := by decide +kernel
theorem dX8_sights_11 : decode cX8_sights 11 = .ok (.lconst 1, 1) := by decide +kernel
theorem dX8_sights_12 : decode cX8_sights 12 = .ok (.invokestatic 97, 3) := by decide +kernel
theorem dX8_sights_15 : decode cX8_sights 15 = .ok (.ifCond .ne 5, 3) := by decide +kernel
theorem dX8_sights_18 : decode cX8_sights 18 = .ok (.iconst (-1), 1) := by decide +kernel
theorem dX8_sights_19 : decode cX8_sights 19 = .ok (.ireturn, 1) := by decide +kernel
theorem dX8_sights_20 : decode cX8_sights 20 = .ok (.aload_n 0, 1) := by decide +kernel
theorem dX8_sights_21 : decode cX8_sights 21 = .ok (.iload_n 1, 1) := by decide +kernel
theorem dX8_sights_22 : decode cX8_sights 22 = .ok (.bipush 10, 2) := by decide +kernel
theorem dX8_sights_24 : decode cX8_sights 24 = .ok (.idiv, 1) := by decide +kernel
theorem dX8_sights_25 : decode cX8_sights 25 = .ok (.iload_n 1, 1) := by decide +kernel
theorem dX8_sights_26 : decode cX8_sights 26 = .ok (.bipush 10, 2) := by decide +kernel
theorem dX8_sights_28 : decode cX8_sights 28 = .ok (.irem, 1) := by decide +kernel
theorem dX8_sights_29 : decode cX8_sights 29 = .ok (.invokevirtual 213, 3) := by decide +kernel
theorem dX8_sights_32 : decode cX8_sights 32 = .ok (.istore_n 3, 1) := by decide +kernel
theorem dX8_sights_33 : decode cX8_sights 33 = .ok (.iconst 0, 1) := by decide +kernel
theorem dX8_sights_34 : decode cX8_sights 34 = .ok (.istore 4, 2) := by decide +kernel
theorem dX8_sights_36 : decode cX8_sights 36 = .ok (.iconst 0, 1) := by decide +kernel
theorem dX8_sights_37 : decode cX8_sights 37 = .ok (.istore 5, 2) := by decide +kernel
theorem dX8_sights_39 : decode cX8_sights 39 = .ok (.iload 5, 2) := by decide +kernel
theorem dX8_sights_41 : decode cX8_sights 41 = .ok (.iload_n 3, 1) := by decide +kernel
theorem dX8_sights_42 : decode cX8_sights 42 = .ok (.if_icmp .ge 36, 3) := by decide +kernel
theorem dX8_sights_45 : decode cX8_sights 45 = .ok (.iload 4, 2) := by decide +kernel
theorem dX8_sights_47 : decode cX8_sights 47 = .ok (.aload_n 0, 1) := by decide +kernel
theorem dX8_sights_48 : decode cX8_sights 48 = .ok (.iload_n 1, 1) := by decide +kernel
theorem dX8_sights_49 : decode cX8_sights 49 = .ok (.bipush 10, 2) := by decide +kernel
theorem dX8_sights_51 : decode cX8_sights 51 = .ok (.idiv, 1) := by decide +kernel
theorem dX8_sights_52 : decode cX8_sights 52 = .ok (.iload_n 1, 1) := by decide +kernel
theorem dX8_sights_53 : decode cX8_sights 53 = .ok (.bipush 10, 2) := by decide +kernel
theorem dX8_sights_55 : decode cX8_sights 55 = .ok (.irem, 1) := by decide +kernel
theorem dX8_sights_56 : decode cX8_sights 56 = .ok (.iload 5, 2) := by decide +kernel
theorem dX8_sights_58 : decode cX8_sights 58 = .ok (.invokevirtual 216, 3) := by decide +kernel
theorem dX8_sights_61 : decode cX8_sights 61 = .ok (.ifCond .eq 7, 3) := by decide +kernel
theorem dX8_sights_64 : decode cX8_sights 64 = .ok (.iconst 1, 1) := by decide +kernel
theorem dX8_sights_65 : decode cX8_sights 65 = .ok (.goto 4, 3) := by decide +kernel
theorem dX8_sights_68 : decode cX8_sights 68 = .ok (.iconst 0, 1) := by decide +kernel
theorem dX8_sights_69 : decode cX8_sights 69 = .ok (.iadd, 1) := by decide +kernel
theorem dX8_sights_70 : decode cX8_sights 70 = .ok (.istore 4, 2) := by decide +kernel
theorem dX8_sights_72 : decode cX8_sights 72 = .ok (.iinc 5 1, 3) := by decide +kernel
theorem dX8_sights_75 : decode cX8_sights 75 = .ok (.goto (-36), 3) := by decide +kernel
theorem dX8_sights_78 : decode cX8_sights 78 = .ok (.iload_n 3, 1) := by decide +kernel
theorem dX8_sights_79 : decode cX8_sights 79 = .ok (.iload 4, 2) := by decide +kernel
theorem dX8_sights_81 : decode cX8_sights 81 = .ok (.invokestatic 156, 3) := by decide +kernel
theorem dX8_sights_84 : decode cX8_sights 84 = .ok (.istore 5, 2) := by decide +kernel
theorem dX8_sights_86 : decode cX8_sights 86 = .ok (.iload 4, 2) := by decide +kernel
theorem dX8_sights_88 : decode cX8_sights 88 = .ok (.ifCond .ne 7, 3) := by decide +kernel
theorem dX8_sights_91 : decode cX8_sights 91 = .ok (.iload_n 2, 1) := by decide +kernel
theorem dX8_sights_92 : decode cX8_sights 92 = .ok (.goto 19, 3) := by decide +kernel
theorem dX8_sights_95 : decode cX8_sights 95 = .ok (.iload_n 2, 1) := by decide +kernel
theorem dX8_sights_96 : decode cX8_sights 96 = .ok (.ifCond .ne 11, 3) := by decide +kernel
theorem dX8_sights_99 : decode cX8_sights 99 = .ok (.iload 4, 2) := by decide +kernel
theorem dX8_sights_101 : decode cX8_sights 101 = .ok (.iload 5, 2) := by decide +kernel
theorem dX8_sights_103 : decode cX8_sights 103 = .ok (.idiv, 1) := by decide +kernel
theorem dX8_sights_104 : decode cX8_sights 104 = .ok (.goto 7, 3) := by decide +kernel
theorem dX8_sights_107 : decode cX8_sights 107 = .ok (.iload_n 3, 1) := by decide +kernel
theorem dX8_sights_108 : decode cX8_sights 108 = .ok (.iload 5, 2) := by decide +kernel
theorem dX8_sights_110 : decode cX8_sights 110 = .ok (.idiv, 1) := by decide +kernel
theorem dX8_sights_111 : decode cX8_sights 111 = .ok (.ireturn, 1) := by decide +kernel
theorem dX8_blind_0 : decode cX8_blind 0 = .ok (.aload_n 0, 1) := by decide +kernel
theorem dX8_blind_1 : decode cX8_blind 1 = .ok (.iload_n 1, 1) := by decide +kernel
theorem dX8_blind_2 : decode cX8_blind 2 = .ok (.invokevirtual 220, 3) := by decide +kernel
theorem dX8_blind_5 : decode cX8_blind 5 = .ok (.ifCond .ne 5, 3) := by decide +kernel
theorem dX8_blind_8 : decode cX8_blind 8 = .ok (.iconst (-1), 1) := by decide +kernel
theorem dX8_blind_9 : decode cX8_blind 9 = .ok (.ireturn, 1) := by decide +kernel
theorem dX8_blind_10 : decode cX8_blind 10 = .ok (.aload_n 0, 1) := by decide +kernel
theorem dX8_blind_11 : decode cX8_blind 11 = .ok (.iload_n 1, 1) := by decide +kernel
theorem dX8_blind_12 : decode cX8_blind 12 = .ok (.bipush 10, 2) := by decide +kernel
theorem dX8_blind_14 : decode cX8_blind 14 = .ok (.idiv, 1) := by decide +kernel
theorem dX8_blind_15 : decode cX8_blind 15 = .ok (.iload_n 1, 1) := by decide +kernel
theorem dX8_blind_16 : decode cX8_blind 16 = .ok (.bipush 10, 2) := by decide +kernel
theorem dX8_blind_18 : decode cX8_blind 18 = .ok (.irem, 1) := by decide +kernel
theorem dX8_blind_19 : decode cX8_blind 19 = .ok (.invokevirtual 213, 3) := by decide +kernel
theorem dX8_blind_22 : decode cX8_blind 22 = .ok (.istore_n 2, 1) := by decide +kernel
theorem dX8_blind_23 : decode cX8_blind 23 = .ok (.iconst 0, 1) := by decide +kernel
theorem dX8_blind_24 : decode cX8_blind 24 = .ok (.istore_n 3, 1) := by decide +kernel
theorem dX8_blind_25 : decode cX8_blind 25 = .ok (.iconst 0, 1) := by decide +kernel
theorem dX8_blind_26 : decode cX8_blind 26 = .ok (.istore 4, 2) := by decide +kernel
theorem dX8_blind_28 : decode cX8_blind 28 = .ok (.iconst 0, 1) := by decide +kernel
theorem dX8_blind_29 : decode cX8_blind 29 = .ok (.istore 5, 2) := by decide +kernel
theorem dX8_blind_31 : decode cX8_blind 31 = .ok (.iload 5, 2) := by decide +kernel
theorem dX8_blind_33 : decode cX8_blind 33 = .ok (.iconst 2, 1) := by decide +kernel
theorem dX8_blind_34 : decode cX8_blind 34 = .ok (.iload_n 2, 1) := by decide +kernel
theorem dX8_blind_35 : decode cX8_blind 35 = .ok (.imul, 1) := by decide +kernel
theorem dX8_blind_36 : decode cX8_blind 36 = .ok (.if_icmp .ge 49, 3) := by decide +kernel
theorem dX8_blind_39 : decode cX8_blind 39 = .ok (.aload_n 0, 1) := by decide +kernel
theorem dX8_blind_40 : decode cX8_blind 40 = .ok (.iload_n 1, 1) := by decide +kernel
theorem dX8_blind_41 : decode cX8_blind 41 = .ok (.bipush 10, 2) := by decide +kernel
theorem dX8_blind_43 : decode cX8_blind 43 = .ok (.idiv, 1) := by decide +kernel
theorem dX8_blind_44 : decode cX8_blind 44 = .ok (.iload_n 1, 1) := by decide +kernel
theorem dX8_blind_45 : decode cX8_blind 45 = .ok (.bipush 10, 2) := by decide +kernel
theorem dX8_blind_47 : decode cX8_blind 47 = .ok (.irem, 1) := by decide +kernel
theorem dX8_blind_48 : decode cX8_blind 48 = .ok (.iload 5, 2) := by decide +kernel
theorem dX8_blind_50 : decode cX8_blind 50 = .ok (.invokevirtual 216, 3) := by decide +kernel
theorem dX8_blind_53 : decode cX8_blind 53 = .ok (.ifCond .eq 7, 3) := by decide +kernel
theorem dX8_blind_56 : decode cX8_blind 56 = .ok (.iconst 0, 1) := by decide +kernel
theorem dX8_blind_57 : decode cX8_blind 57 = .ok (.goto 7, 3) := by decide +kernel
theorem dX8_blind_60 : decode cX8_blind 60 = .ok (.iload 4, 2) := by decide +kernel
theorem dX8_blind_62 : decode cX8_blind 62 = .ok (.iconst 1, 1) := by decide +kernel
theorem dX8_blind_63 : decode cX8_blind 63 = .ok (.iadd, 1) := by decide +kernel
theorem dX8_blind_64 : decode cX8_blind 64 = .ok (.istore 4, 2) := by decide +kernel
theorem dX8_blind_66 : decode cX8_blind 66 = .ok (.iload 4, 2) := by decide +kernel
theorem dX8_blind_68 : decode cX8_blind 68 = .ok (.iload_n 3, 1) := by decide +kernel
theorem dX8_blind_69 : decode cX8_blind 69 = .ok (.if_icmp .le 8, 3) := by decide +kernel
theorem dX8_blind_72 : decode cX8_blind 72 = .ok (.iload 4, 2) := by decide +kernel
theorem dX8_blind_74 : decode cX8_blind 74 = .ok (.goto 4, 3) := by decide +kernel
theorem dX8_blind_77 : decode cX8_blind 77 = .ok (.iload_n 3, 1) := by decide +kernel
theorem dX8_blind_78 : decode cX8_blind 78 = .ok (.istore_n 3, 1) := by decide +kernel
theorem dX8_blind_79 : decode cX8_blind 79 = .ok (.iinc 5 1, 3) := by decide +kernel
theorem dX8_blind_82 : decode cX8_blind 82 = .ok (.goto (-51), 3) := by decide +kernel
theorem dX8_blind_85 : decode cX8_blind 85 = .ok (.iload_n 3, 1) := by decide +kernel
theorem dX8_blind_86 : decode cX8_blind 86 = .ok (.iconst 2, 1) := by decide +kernel
theorem dX8_blind_87 : decode cX8_blind 87 = .ok (.iload_n 2, 1) := by decide +kernel
theorem dX8_blind_88 : decode cX8_blind 88 = .ok (.imul, 1) := by decide +kernel
theorem dX8_blind_89 : decode cX8_blind 89 = .ok (.if_icmp .ne 8, 3) := by decide +kernel
theorem dX8_blind_92 : decode cX8_blind 92 = .ok (.bipush (-2), 2) := by decide +kernel
theorem dX8_blind_94 : decode cX8_blind 94 = .ok (.goto 4, 3) := by decide +kernel
theorem dX8_blind_97 : decode cX8_blind 97 = .ok (.iload_n 3, 1) := by decide +kernel
theorem dX8_blind_98 : decode cX8_blind 98 = .ok (.ireturn, 1) := by decide +kernel
theorem dX8_allSee_0 : decode cX8_allSee 0 = .ok (.iconst 0, 1) := by decide +kernel
theorem dX8_allSee_1 : decode cX8_allSee 1 = .ok (.istore_n 2, 1) := by decide +kernel
theorem dX8_allSee_2 : decode cX8_allSee 2 = .ok (.iload_n 2, 1) := by decide +kernel
theorem dX8_allSee_3 : decode cX8_allSee 3 = .ok (.aload_n 0, 1) := by decide +kernel
theorem dX8_allSee_4 : decode cX8_allSee 4 = .ok (.getfield 94, 3) := by decide +kernel
theorem dX8_allSee_7 : decode cX8_allSee 7 = .ok (.if_icmp .ge 39, 3) := by decide +kernel
theorem dX8_allSee_10 : decode cX8_allSee 10 = .ok (.iload_n 2, 1) := by decide +kernel
theorem dX8_allSee_11 : decode cX8_allSee 11 = .ok (.iconst 1, 1) := by decide +kernel
theorem dX8_allSee_12 : decode cX8_allSee 12 = .ok (.iadd, 1) := by decide +kernel
theorem dX8_allSee_13 : decode cX8_allSee 13 = .ok (.istore_n 3, 1) := by decide +kernel
theorem dX8_allSee_14 : decode cX8_allSee 14 = .ok (.iload_n 3, 1) := by decide +kernel
theorem dX8_allSee_15 : decode cX8_allSee 15 = .ok (.aload_n 0, 1) := by decide +kernel
theorem dX8_allSee_16 : decode cX8_allSee 16 = .ok (.getfield 94, 3) := by decide +kernel
theorem dX8_allSee_19 : decode cX8_allSee 19 = .ok (.if_icmp .ge 21, 3) := by decide +kernel
theorem dX8_allSee_22 : decode cX8_allSee 22 = .ok (.aload_n 0, 1) := by decide +kernel
theorem dX8_allSee_23 : decode cX8_allSee 23 = .ok (.iload_n 2, 1) := by decide +kernel
theorem dX8_allSee_24 : decode cX8_allSee 24 = .ok (.iload_n 3, 1) := by decide +kernel
theorem dX8_allSee_25 : decode cX8_allSee 25 = .ok (.iload_n 1, 1) := by decide +kernel
theorem dX8_allSee_26 : decode cX8_allSee 26 = .ok (.invokevirtual 223, 3) := by decide +kernel
theorem dX8_allSee_29 : decode cX8_allSee 29 = .ok (.ifCond .ne 5, 3) := by decide +kernel
theorem dX8_allSee_32 : decode cX8_allSee 32 = .ok (.iconst 0, 1) := by decide +kernel
theorem dX8_allSee_33 : decode cX8_allSee 33 = .ok (.ireturn, 1) := by decide +kernel
theorem dX8_allSee_34 : decode cX8_allSee 34 = .ok (.iinc 3 1, 3) := by decide +kernel
theorem dX8_allSee_37 : decode cX8_allSee 37 = .ok (.goto (-23), 3) := by decide +kernel
theorem dX8_allSee_40 : decode cX8_allSee 40 = .ok (.iinc 2 1, 3) := by decide +kernel
theorem dX8_allSee_43 : decode cX8_allSee 43 = .ok (.goto (-41), 3) := by decide +kernel
theorem dX8_allSee_46 : decode cX8_allSee 46 = .ok (.iconst 1, 1) := by decide +kernel
theorem dX8_allSee_47 : decode cX8_allSee 47 = .ok (.ireturn, 1) := by decide +kernel
theorem dX8_next_0 : decode cX8_next 0 = .ok (.iload_n 1, 1) := by decide +kernel
theorem dX8_next_1 : decode cX8_next 1 = .ok (.iconst (-1), 1) := by decide +kernel
theorem dX8_next_2 : decode cX8_next 2 = .ok (.if_icmp .eq 11, 3) := by decide +kernel
theorem dX8_next_5 : decode cX8_next 5 = .ok (.aload_n 0, 1) := by decide +kernel
theorem dX8_next_6 : decode cX8_next 6 = .ok (.iload_n 1, 1) := by decide +kernel
theorem dX8_next_7 : decode cX8_next 7 = .ok (.invokevirtual 220, 3) := by decide +kernel
theorem dX8_next_10 : decode cX8_next 10 = .ok (.ifCond .eq 10, 3) := by decide +kernel
theorem dX8_next_13 : decode cX8_next 13 = .ok (.iload_n 2, 1) := by decide +kernel
theorem dX8_next_14 : decode cX8_next 14 = .ok (.invokestatic 153, 3) := by decide +kernel
theorem dX8_next_17 : decode cX8_next 17 = .ok (.ifCond .ne 5, 3) := by decide +kernel
theorem dX8_next_20 : decode cX8_next 20 = .ok (.iconst (-1), 1) := by decide +kernel
theorem dX8_next_21 : decode cX8_next 21 = .ok (.ireturn, 1) := by decide +kernel
theorem dX8_next_22 : decode cX8_next 22 = .ok (.aload_n 0, 1) := by decide +kernel
theorem dX8_next_23 : decode cX8_next 23 = .ok (.aload_n 0, 1) := by decide +kernel
theorem dX8_next_24 : decode cX8_next 24 = .ok (.getfield 94, 3) := by decide +kernel
theorem dX8_next_27 : decode cX8_next 27 = .ok (.invokevirtual 226, 3) := by decide +kernel
theorem dX8_next_30 : decode cX8_next 30 = .ok (.aload_n 0, 1) := by decide +kernel
theorem dX8_next_31 : decode cX8_next 31 = .ok (.aload_n 0, 1) := by decide +kernel
theorem dX8_next_32 : decode cX8_next 32 = .ok (.getfield 94, 3) := by decide +kernel
theorem dX8_next_35 : decode cX8_next 35 = .ok (.invokevirtual 149, 3) := by decide +kernel
theorem dX8_next_38 : decode cX8_next 38 = .ok (.istore_n 3, 1) := by decide +kernel
theorem dX8_next_39 : decode cX8_next 39 = .ok (.iconst 0, 1) := by decide +kernel
theorem dX8_next_40 : decode cX8_next 40 = .ok (.istore 4, 2) := by decide +kernel
theorem dX8_next_42 : decode cX8_next 42 = .ok (.iload 4, 2) := by decide +kernel
theorem dX8_next_44 : decode cX8_next 44 = .ok (.iload_n 3, 1) := by decide +kernel
theorem dX8_next_45 : decode cX8_next 45 = .ok (.if_icmp .ge 51, 3) := by decide +kernel
theorem dX8_next_48 : decode cX8_next 48 = .ok (.iload_n 1, 1) := by decide +kernel
theorem dX8_next_49 : decode cX8_next 49 = .ok (.ifCond .ge 17, 3) := by decide +kernel
theorem dX8_next_52 : decode cX8_next 52 = .ok (.aload_n 0, 1) := by decide +kernel
theorem dX8_next_53 : decode cX8_next 53 = .ok (.iload_n 2, 1) := by decide +kernel
theorem dX8_next_54 : decode cX8_next 54 = .ok (.iload 4, 2) := by decide +kernel
theorem dX8_next_56 : decode cX8_next 56 = .ok (.iadd, 1) := by decide +kernel
theorem dX8_next_57 : decode cX8_next 57 = .ok (.invokevirtual 230, 3) := by decide +kernel
theorem dX8_next_60 : decode cX8_next 60 = .ok (.ifCond .eq 30, 3) := by decide +kernel
theorem dX8_next_63 : decode cX8_next 63 = .ok (.goto 22, 3) := by decide +kernel
theorem dX8_next_66 : decode cX8_next 66 = .ok (.aload_n 0, 1) := by decide +kernel
theorem dX8_next_67 : decode cX8_next 67 = .ok (.iload_n 1, 1) := by decide +kernel
theorem dX8_next_68 : decode cX8_next 68 = .ok (.bipush 10, 2) := by decide +kernel
theorem dX8_next_70 : decode cX8_next 70 = .ok (.idiv, 1) := by decide +kernel
theorem dX8_next_71 : decode cX8_next 71 = .ok (.iload_n 1, 1) := by decide +kernel
theorem dX8_next_72 : decode cX8_next 72 = .ok (.bipush 10, 2) := by decide +kernel
theorem dX8_next_74 : decode cX8_next 74 = .ok (.irem, 1) := by decide +kernel
theorem dX8_next_75 : decode cX8_next 75 = .ok (.iload_n 2, 1) := by decide +kernel
theorem dX8_next_76 : decode cX8_next 76 = .ok (.iload 4, 2) := by decide +kernel
theorem dX8_next_78 : decode cX8_next 78 = .ok (.iadd, 1) := by decide +kernel
theorem dX8_next_79 : decode cX8_next 79 = .ok (.invokevirtual 223, 3) := by decide +kernel
theorem dX8_next_82 : decode cX8_next 82 = .ok (.ifCond .eq 8, 3) := by decide +kernel
theorem dX8_next_85 : decode cX8_next 85 = .ok (.iload_n 2, 1) := by decide +kernel
theorem dX8_next_86 : decode cX8_next 86 = .ok (.iload 4, 2) := by decide +kernel
theorem dX8_next_88 : decode cX8_next 88 = .ok (.iadd, 1) := by decide +kernel
theorem dX8_next_89 : decode cX8_next 89 = .ok (.ireturn, 1) := by decide +kernel
theorem dX8_next_90 : decode cX8_next 90 = .ok (.iinc 4 1, 3) := by decide +kernel
theorem dX8_next_93 : decode cX8_next 93 = .ok (.goto (-51), 3) := by decide +kernel
theorem dX8_next_96 : decode cX8_next 96 = .ok (.bipush (-2), 2) := by decide +kernel
theorem dX8_next_98 : decode cX8_next 98 = .ok (.ireturn, 1) := by decide +kernel
theorem dX8_all_0 : decode cX8_all 0 = .ok (.aload_n 0, 1) := by decide +kernel
theorem dX8_all_1 : decode cX8_all 1 = .ok (.aload_n 0, 1) := by decide +kernel
theorem dX8_all_2 : decode cX8_all 2 = .ok (.getfield 94, 3) := by decide +kernel
theorem dX8_all_5 : decode cX8_all 5 = .ok (.invokevirtual 226, 3) := by decide +kernel
theorem dX8_all_8 : decode cX8_all 8 = .ok (.aload_n 0, 1) := by decide +kernel
theorem dX8_all_9 : decode cX8_all 9 = .ok (.aload_n 0, 1) := by decide +kernel
theorem dX8_all_10 : decode cX8_all 10 = .ok (.getfield 94, 3) := by decide +kernel
theorem dX8_all_13 : decode cX8_all 13 = .ok (.invokevirtual 149, 3) := by decide +kernel
theorem dX8_all_16 : decode cX8_all 16 = .ok (.istore_n 1, 1) := by decide +kernel
theorem dX8_all_17 : decode cX8_all 17 = .ok (.iconst 0, 1) := by decide +kernel
theorem dX8_all_18 : decode cX8_all 18 = .ok (.istore_n 2, 1) := by decide +kernel
theorem dX8_all_19 : decode cX8_all 19 = .ok (.iconst 0, 1) := by decide +kernel
theorem dX8_all_20 : decode cX8_all 20 = .ok (.istore_n 3, 1) := by decide +kernel
theorem dX8_all_21 : decode cX8_all 21 = .ok (.iload_n 3, 1) := by decide +kernel
theorem dX8_all_22 : decode cX8_all 22 = .ok (.iload_n 1, 1) := by decide +kernel
theorem dX8_all_23 : decode cX8_all 23 = .ok (.if_icmp .ge 25, 3) := by decide +kernel
theorem dX8_all_26 : decode cX8_all 26 = .ok (.iload_n 2, 1) := by decide +kernel
theorem dX8_all_27 : decode cX8_all 27 = .ok (.aload_n 0, 1) := by decide +kernel
theorem dX8_all_28 : decode cX8_all 28 = .ok (.iload_n 3, 1) := by decide +kernel
theorem dX8_all_29 : decode cX8_all 29 = .ok (.invokevirtual 230, 3) := by decide +kernel
theorem dX8_all_32 : decode cX8_all 32 = .ok (.ifCond .eq 7, 3) := by decide +kernel
theorem dX8_all_35 : decode cX8_all 35 = .ok (.iconst 1, 1) := by decide +kernel
theorem dX8_all_36 : decode cX8_all 36 = .ok (.goto 4, 3) := by decide +kernel
theorem dX8_all_39 : decode cX8_all 39 = .ok (.iconst 0, 1) := by decide +kernel
theorem dX8_all_40 : decode cX8_all 40 = .ok (.iadd, 1) := by decide +kernel
theorem dX8_all_41 : decode cX8_all 41 = .ok (.istore_n 2, 1) := by decide +kernel
theorem dX8_all_42 : decode cX8_all 42 = .ok (.iinc 3 1, 3) := by decide +kernel
theorem dX8_all_45 : decode cX8_all 45 = .ok (.goto (-24), 3) := by decide +kernel
theorem dX8_all_48 : decode cX8_all 48 = .ok (.iload_n 2, 1) := by decide +kernel
theorem dX8_all_49 : decode cX8_all 49 = .ok (.ireturn, 1) := by decide +kernel
theorem dX8_joinedAt_0 : decode cX8_joinedAt 0 = .ok (.iconst 1, 1) := by decide +kernel
theorem dX8_joinedAt_1 : decode cX8_joinedAt 1 = .ok (.iload_n 1, 1) := by decide +kernel
theorem dX8_joinedAt_2 : decode cX8_joinedAt 2 = .ok (.ishl, 1) := by decide +kernel
theorem dX8_joinedAt_3 : decode cX8_joinedAt 3 = .ok (.istore_n 3, 1) := by decide +kernel
theorem dX8_joinedAt_4 : decode cX8_joinedAt 4 = .ok (.iconst 1, 1) := by decide +kernel
theorem dX8_joinedAt_5 : decode cX8_joinedAt 5 = .ok (.istore 4, 2) := by decide +kernel
theorem dX8_joinedAt_7 : decode cX8_joinedAt 7 = .ok (.iload 4, 2) := by decide +kernel
theorem dX8_joinedAt_9 : decode cX8_joinedAt 9 = .ok (.ifCond .eq 119, 3) := by decide +kernel
theorem dX8_joinedAt_12 : decode cX8_joinedAt 12 = .ok (.iload_n 3, 1) := by decide +kernel
theorem dX8_joinedAt_13 : decode cX8_joinedAt 13 = .ok (.istore 5, 2) := by decide +kernel
theorem dX8_joinedAt_15 : decode cX8_joinedAt 15 = .ok (.iconst 0, 1) := by decide +kernel
theorem dX8_joinedAt_16 : decode cX8_joinedAt 16 = .ok (.istore 6, 2) := by decide +kernel
theorem dX8_joinedAt_18 : decode cX8_joinedAt 18 = .ok (.iload 6, 2) := by decide +kernel
theorem dX8_joinedAt_20 : decode cX8_joinedAt 20 = .ok (.aload_n 0, 1) := by decide +kernel
theorem dX8_joinedAt_21 : decode cX8_joinedAt 21 = .ok (.getfield 94, 3) := by decide +kernel
theorem dX8_joinedAt_24 : decode cX8_joinedAt 24 = .ok (.if_icmp .ge 88, 3) := by decide +kernel
theorem dX8_joinedAt_27 : decode cX8_joinedAt 27 = .ok (.iload 6, 2) := by decide +kernel
theorem dX8_joinedAt_29 : decode cX8_joinedAt 29 = .ok (.iconst 1, 1) := by decide +kernel
theorem dX8_joinedAt_30 : decode cX8_joinedAt 30 = .ok (.iadd, 1) := by decide +kernel
theorem dX8_joinedAt_31 : decode cX8_joinedAt 31 = .ok (.istore 7, 2) := by decide +kernel
theorem dX8_joinedAt_33 : decode cX8_joinedAt 33 = .ok (.iload 7, 2) := by decide +kernel
theorem dX8_joinedAt_35 : decode cX8_joinedAt 35 = .ok (.aload_n 0, 1) := by decide +kernel
theorem dX8_joinedAt_36 : decode cX8_joinedAt 36 = .ok (.getfield 94, 3) := by decide +kernel
theorem dX8_joinedAt_39 : decode cX8_joinedAt 39 = .ok (.if_icmp .ge 67, 3) := by decide +kernel
theorem dX8_joinedAt_42 : decode cX8_joinedAt 42 = .ok (.iload_n 3, 1) := by decide +kernel
theorem dX8_joinedAt_43 : decode cX8_joinedAt 43 = .ok (.iload 6, 2) := by decide +kernel
theorem dX8_joinedAt_45 : decode cX8_joinedAt 45 = .ok (.invokestatic 233, 3) := by decide +kernel
theorem dX8_joinedAt_48 : decode cX8_joinedAt 48 = .ok (.ifCond .ne 12, 3) := by decide +kernel
theorem dX8_joinedAt_51 : decode cX8_joinedAt 51 = .ok (.iload_n 3, 1) := by decide +kernel
theorem dX8_joinedAt_52 : decode cX8_joinedAt 52 = .ok (.iload 7, 2) := by decide +kernel
theorem dX8_joinedAt_54 : decode cX8_joinedAt 54 = .ok (.invokestatic 233, 3) := by decide +kernel
theorem dX8_joinedAt_57 : decode cX8_joinedAt 57 = .ok (.ifCond .eq 19, 3) := by decide +kernel
theorem dX8_joinedAt_60 : decode cX8_joinedAt 60 = .ok (.aload_n 0, 1) := by decide +kernel
theorem dX8_joinedAt_61 : decode cX8_joinedAt 61 = .ok (.iload 6, 2) := by decide +kernel
theorem dX8_joinedAt_63 : decode cX8_joinedAt 63 = .ok (.iload 7, 2) := by decide +kernel
theorem dX8_joinedAt_65 : decode cX8_joinedAt 65 = .ok (.iload_n 2, 1) := by decide +kernel
theorem dX8_joinedAt_66 : decode cX8_joinedAt 66 = .ok (.invokevirtual 223, 3) := by decide +kernel
theorem dX8_joinedAt_69 : decode cX8_joinedAt 69 = .ok (.ifCond .eq 7, 3) := by decide +kernel
theorem dX8_joinedAt_72 : decode cX8_joinedAt 72 = .ok (.iconst 1, 1) := by decide +kernel
theorem dX8_joinedAt_73 : decode cX8_joinedAt 73 = .ok (.goto 4, 3) := by decide +kernel
theorem dX8_joinedAt_76 : decode cX8_joinedAt 76 = .ok (.iconst 0, 1) := by decide +kernel
theorem dX8_joinedAt_77 : decode cX8_joinedAt 77 = .ok (.istore 8, 2) := by decide +kernel
theorem dX8_joinedAt_79 : decode cX8_joinedAt 79 = .ok (.iload_n 3, 1) := by decide +kernel
theorem dX8_joinedAt_80 : decode cX8_joinedAt 80 = .ok (.iload 8, 2) := by decide +kernel
theorem dX8_joinedAt_82 : decode cX8_joinedAt 82 = .ok (.ifCond .eq 15, 3) := by decide +kernel
theorem dX8_joinedAt_85 : decode cX8_joinedAt 85 = .ok (.iconst 1, 1) := by decide +kernel
theorem dX8_joinedAt_86 : decode cX8_joinedAt 86 = .ok (.iload 6, 2) := by decide +kernel
theorem dX8_joinedAt_88 : decode cX8_joinedAt 88 = .ok (.ishl, 1) := by decide +kernel
theorem dX8_joinedAt_89 : decode cX8_joinedAt 89 = .ok (.iconst 1, 1) := by decide +kernel
theorem dX8_joinedAt_90 : decode cX8_joinedAt 90 = .ok (.iload 7, 2) := by decide +kernel
theorem dX8_joinedAt_92 : decode cX8_joinedAt 92 = .ok (.ishl, 1) := by decide +kernel
theorem dX8_joinedAt_93 : decode cX8_joinedAt 93 = .ok (.ior, 1) := by decide +kernel
theorem dX8_joinedAt_94 : decode cX8_joinedAt 94 = .ok (.goto 4, 3) := by decide +kernel
theorem dX8_joinedAt_97 : decode cX8_joinedAt 97 = .ok (.iconst 0, 1) := by decide +kernel
theorem dX8_joinedAt_98 : decode cX8_joinedAt 98 = .ok (.ior, 1) := by decide +kernel
theorem dX8_joinedAt_99 : decode cX8_joinedAt 99 = .ok (.istore_n 3, 1) := by decide +kernel
theorem dX8_joinedAt_100 : decode cX8_joinedAt 100 = .ok (.iinc 7 1, 3) := by decide +kernel
theorem dX8_joinedAt_103 : decode cX8_joinedAt 103 = .ok (.goto (-70), 3) := by decide +kernel
theorem dX8_joinedAt_106 : decode cX8_joinedAt 106 = .ok (.iinc 6 1, 3) := by decide +kernel
theorem dX8_joinedAt_109 : decode cX8_joinedAt 109 = .ok (.goto (-91), 3) := by decide +kernel
theorem dX8_joinedAt_112 : decode cX8_joinedAt 112 = .ok (.iload_n 3, 1) := by decide +kernel
theorem dX8_joinedAt_113 : decode cX8_joinedAt 113 = .ok (.iload 5, 2) := by decide +kernel
theorem dX8_joinedAt_115 : decode cX8_joinedAt 115 = .ok (.if_icmp .eq 7, 3) := by decide +kernel
theorem dX8_joinedAt_118 : decode cX8_joinedAt 118 = .ok (.iconst 1, 1) := by decide +kernel
theorem dX8_joinedAt_119 : decode cX8_joinedAt 119 = .ok (.goto 4, 3) := by decide +kernel
theorem dX8_joinedAt_122 : decode cX8_joinedAt 122 = .ok (.iconst 0, 1) := by decide +kernel
theorem dX8_joinedAt_123 : decode cX8_joinedAt 123 = .ok (.istore 4, 2) := by decide +kernel
theorem dX8_joinedAt_125 : decode cX8_joinedAt 125 = .ok (.goto (-118), 3) := by decide +kernel
theorem dX8_joinedAt_128 : decode cX8_joinedAt 128 = .ok (.iload_n 3, 1) := by decide +kernel
theorem dX8_joinedAt_129 : decode cX8_joinedAt 129 = .ok (.ireturn, 1) := by decide +kernel
theorem dX8_joined_0 : decode cX8_joined 0 = .ok (.aload_n 0, 1) := by decide +kernel
theorem dX8_joined_1 : decode cX8_joined 1 = .ok (.iload_n 1, 1) := by decide +kernel
theorem dX8_joined_2 : decode cX8_joined 2 = .ok (.invokevirtual 101, 3) := by decide +kernel
theorem dX8_joined_5 : decode cX8_joined 5 = .ok (.ifCond .eq 10, 3) := by decide +kernel
theorem dX8_joined_8 : decode cX8_joined 8 = .ok (.iload_n 2, 1) := by decide +kernel
theorem dX8_joined_9 : decode cX8_joined 9 = .ok (.invokestatic 153, 3) := by decide +kernel
theorem dX8_joined_12 : decode cX8_joined 12 = .ok (.ifCond .ne 5, 3) := by decide +kernel
theorem dX8_joined_15 : decode cX8_joined 15 = .ok (.iconst (-1), 1) := by decide +kernel
theorem dX8_joined_16 : decode cX8_joined 16 = .ok (.ireturn, 1) := by decide +kernel
theorem dX8_joined_17 : decode cX8_joined 17 = .ok (.aload_n 0, 1) := by decide +kernel
theorem dX8_joined_18 : decode cX8_joined 18 = .ok (.aload_n 0, 1) := by decide +kernel
theorem dX8_joined_19 : decode cX8_joined 19 = .ok (.getfield 94, 3) := by decide +kernel
theorem dX8_joined_22 : decode cX8_joined 22 = .ok (.invokevirtual 226, 3) := by decide +kernel
theorem dX8_joined_25 : decode cX8_joined 25 = .ok (.aload_n 0, 1) := by decide +kernel
theorem dX8_joined_26 : decode cX8_joined 26 = .ok (.iload_n 1, 1) := by decide +kernel
theorem dX8_joined_27 : decode cX8_joined 27 = .ok (.iload_n 2, 1) := by decide +kernel
theorem dX8_joined_28 : decode cX8_joined 28 = .ok (.invokevirtual 237, 3) := by decide +kernel
theorem dX8_joined_31 : decode cX8_joined 31 = .ok (.ireturn, 1) := by decide +kernel
theorem dX8_lasts_0 : decode cX8_lasts 0 = .ok (.aload_n 0, 1) := by decide +kernel
theorem dX8_lasts_1 : decode cX8_lasts 1 = .ok (.iload_n 1, 1) := by decide +kernel
theorem dX8_lasts_2 : decode cX8_lasts 2 = .ok (.invokevirtual 220, 3) := by decide +kernel
theorem dX8_lasts_5 : decode cX8_lasts 5 = .ok (.ifCond .eq 10, 3) := by decide +kernel
theorem dX8_lasts_8 : decode cX8_lasts 8 = .ok (.iload_n 2, 1) := by decide +kernel
theorem dX8_lasts_9 : decode cX8_lasts 9 = .ok (.invokestatic 153, 3) := by decide +kernel
theorem dX8_lasts_12 : decode cX8_lasts 12 = .ok (.ifCond .ne 5, 3) := by decide +kernel
theorem dX8_lasts_15 : decode cX8_lasts 15 = .ok (.iconst (-1), 1) := by decide +kernel
theorem dX8_lasts_16 : decode cX8_lasts 16 = .ok (.ireturn, 1) := by decide +kernel
theorem dX8_lasts_17 : decode cX8_lasts 17 = .ok (.aload_n 0, 1) := by decide +kernel
theorem dX8_lasts_18 : decode cX8_lasts 18 = .ok (.aload_n 0, 1) := by decide +kernel
theorem dX8_lasts_19 : decode cX8_lasts 19 = .ok (.getfield 94, 3) := by decide +kernel
theorem dX8_lasts_22 : decode cX8_lasts 22 = .ok (.invokevirtual 226, 3) := by decide +kernel
theorem dX8_lasts_25 : decode cX8_lasts 25 = .ok (.aload_n 0, 1) := by decide +kernel
theorem dX8_lasts_26 : decode cX8_lasts 26 = .ok (.aload_n 0, 1) := by decide +kernel
theorem dX8_lasts_27 : decode cX8_lasts 27 = .ok (.getfield 94, 3) := by decide +kernel
theorem dX8_lasts_30 : decode cX8_lasts 30 = .ok (.invokevirtual 149, 3) := by decide +kernel
theorem dX8_lasts_33 : decode cX8_lasts 33 = .ok (.istore_n 3, 1) := by decide +kernel
theorem dX8_lasts_34 : decode cX8_lasts 34 = .ok (.iconst 0, 1) := by decide +kernel
theorem dX8_lasts_35 : decode cX8_lasts 35 = .ok (.istore 4, 2) := by decide +kernel
theorem dX8_lasts_37 : decode cX8_lasts 37 = .ok (.iload 4, 2) := by decide +kernel
theorem dX8_lasts_39 : decode cX8_lasts 39 = .ok (.iload_n 3, 1) := by decide +kernel
theorem dX8_lasts_40 : decode cX8_lasts 40 = .ok (.if_icmp .ge 34, 3) := by decide +kernel
theorem dX8_lasts_43 : decode cX8_lasts 43 = .ok (.aload_n 0, 1) := by decide +kernel
theorem dX8_lasts_44 : decode cX8_lasts 44 = .ok (.iload_n 1, 1) := by decide +kernel
theorem dX8_lasts_45 : decode cX8_lasts 45 = .ok (.bipush 10, 2) := by decide +kernel
theorem dX8_lasts_47 : decode cX8_lasts 47 = .ok (.idiv, 1) := by decide +kernel
theorem dX8_lasts_48 : decode cX8_lasts 48 = .ok (.iload_n 2, 1) := by decide +kernel
theorem dX8_lasts_49 : decode cX8_lasts 49 = .ok (.iload 4, 2) := by decide +kernel
theorem dX8_lasts_51 : decode cX8_lasts 51 = .ok (.iadd, 1) := by decide +kernel
theorem dX8_lasts_52 : decode cX8_lasts 52 = .ok (.invokevirtual 237, 3) := by decide +kernel
theorem dX8_lasts_55 : decode cX8_lasts 55 = .ok (.iload_n 1, 1) := by decide +kernel
theorem dX8_lasts_56 : decode cX8_lasts 56 = .ok (.bipush 10, 2) := by decide +kernel
theorem dX8_lasts_58 : decode cX8_lasts 58 = .ok (.irem, 1) := by decide +kernel
theorem dX8_lasts_59 : decode cX8_lasts 59 = .ok (.invokestatic 233, 3) := by decide +kernel
theorem dX8_lasts_62 : decode cX8_lasts 62 = .ok (.ifCond .ne 6, 3) := by decide +kernel
theorem dX8_lasts_65 : decode cX8_lasts 65 = .ok (.iload 4, 2) := by decide +kernel
theorem dX8_lasts_67 : decode cX8_lasts 67 = .ok (.ireturn, 1) := by decide +kernel
theorem dX8_lasts_68 : decode cX8_lasts 68 = .ok (.iinc 4 1, 3) := by decide +kernel
theorem dX8_lasts_71 : decode cX8_lasts 71 = .ok (.goto (-34), 3) := by decide +kernel
theorem dX8_lasts_74 : decode cX8_lasts 74 = .ok (.bipush (-2), 2) := by decide +kernel
theorem dX8_lasts_76 : decode cX8_lasts 76 = .ok (.ireturn, 1) := by decide +kernel
theorem dX8_unheard_0 : decode cX8_unheard 0 = .ok (.aload_n 0, 1) := by decide +kernel
theorem dX8_unheard_1 : decode cX8_unheard 1 = .ok (.iload_n 1, 1) := by decide +kernel
theorem dX8_unheard_2 : decode cX8_unheard 2 = .ok (.invokevirtual 220, 3) := by decide +kernel
theorem dX8_unheard_5 : decode cX8_unheard 5 = .ok (.ifCond .eq 34, 3) := by decide +kernel
theorem dX8_unheard_8 : decode cX8_unheard 8 = .ok (.aload_n 0, 1) := by decide +kernel
theorem dX8_unheard_9 : decode cX8_unheard 9 = .ok (.iload_n 2, 1) := by decide +kernel
theorem dX8_unheard_10 : decode cX8_unheard 10 = .ok (.invokevirtual 101, 3) := by decide +kernel
theorem dX8_unheard_13 : decode cX8_unheard 13 = .ok (.ifCond .eq 26, 3) := by decide +kernel
theorem dX8_unheard_16 : decode cX8_unheard 16 = .ok (.iload_n 2, 1) := by decide +kernel
theorem dX8_unheard_17 : decode cX8_unheard 17 = .ok (.iload_n 1, 1) := by decide +kernel
theorem dX8_unheard_18 : decode cX8_unheard 18 = .ok (.bipush 10, 2) := by decide +kernel
theorem dX8_unheard_20 : decode cX8_unheard 20 = .ok (.idiv, 1) := by decide +kernel
theorem dX8_unheard_21 : decode cX8_unheard 21 = .ok (.if_icmp .eq 18, 3) := by decide +kernel
theorem dX8_unheard_24 : decode cX8_unheard 24 = .ok (.iload_n 2, 1) := by decide +kernel
theorem dX8_unheard_25 : decode cX8_unheard 25 = .ok (.iload_n 1, 1) := by decide +kernel
theorem dX8_unheard_26 : decode cX8_unheard 26 = .ok (.bipush 10, 2) := by decide +kernel
theorem dX8_unheard_28 : decode cX8_unheard 28 = .ok (.irem, 1) := by decide +kernel
theorem dX8_unheard_29 : decode cX8_unheard 29 = .ok (.if_icmp .eq 10, 3) := by decide +kernel
theorem dX8_unheard_32 : decode cX8_unheard 32 = .ok (.iload_n 3, 1) := by decide +kernel
theorem dX8_unheard_33 : decode cX8_unheard 33 = .ok (.invokestatic 153, 3) := by decide +kernel
theorem dX8_unheard_36 : decode cX8_unheard 36 = .ok (.ifCond .ne 5, 3) := by decide +kernel
theorem dX8_unheard_39 : decode cX8_unheard 39 = .ok (.iconst (-1), 1) := by decide +kernel
theorem dX8_unheard_40 : decode cX8_unheard 40 = .ok (.ireturn, 1) := by decide +kernel
theorem dX8_unheard_41 : decode cX8_unheard 41 = .ok (.aload_n 0, 1) := by decide +kernel
theorem dX8_unheard_42 : decode cX8_unheard 42 = .ok (.aload_n 0, 1) := by decide +kernel
theorem dX8_unheard_43 : decode cX8_unheard 43 = .ok (.getfield 94, 3) := by decide +kernel
theorem dX8_unheard_46 : decode cX8_unheard 46 = .ok (.invokevirtual 226, 3) := by decide +kernel
theorem dX8_unheard_49 : decode cX8_unheard 49 = .ok (.aload_n 0, 1) := by decide +kernel
theorem dX8_unheard_50 : decode cX8_unheard 50 = .ok (.aload_n 0, 1) := by decide +kernel
theorem dX8_unheard_51 : decode cX8_unheard 51 = .ok (.getfield 94, 3) := by decide +kernel
theorem dX8_unheard_54 : decode cX8_unheard 54 = .ok (.invokevirtual 149, 3) := by decide +kernel
theorem dX8_unheard_57 : decode cX8_unheard 57 = .ok (.istore 4, 2) := by decide +kernel
theorem dX8_unheard_59 : decode cX8_unheard 59 = .ok (.iconst 0, 1) := by decide +kernel
theorem dX8_unheard_60 : decode cX8_unheard 60 = .ok (.istore 5, 2) := by decide +kernel
theorem dX8_unheard_62 : decode cX8_unheard 62 = .ok (.iload 5, 2) := by decide +kernel
theorem dX8_unheard_64 : decode cX8_unheard 64 = .ok (.iload 4, 2) := by decide +kernel
theorem dX8_unheard_66 : decode cX8_unheard 66 = .ok (.if_icmp .ge 65, 3) := by decide +kernel
theorem dX8_unheard_69 : decode cX8_unheard 69 = .ok (.aload_n 0, 1) := by decide +kernel
theorem dX8_unheard_70 : decode cX8_unheard 70 = .ok (.iload_n 1, 1) := by decide +kernel
theorem dX8_unheard_71 : decode cX8_unheard 71 = .ok (.bipush 10, 2) := by decide +kernel
theorem dX8_unheard_73 : decode cX8_unheard 73 = .ok (.idiv, 1) := by decide +kernel
theorem dX8_unheard_74 : decode cX8_unheard 74 = .ok (.iload_n 1, 1) := by decide +kernel
theorem dX8_unheard_75 : decode cX8_unheard 75 = .ok (.bipush 10, 2) := by decide +kernel
theorem dX8_unheard_77 : decode cX8_unheard 77 = .ok (.irem, 1) := by decide +kernel
theorem dX8_unheard_78 : decode cX8_unheard 78 = .ok (.iload_n 3, 1) := by decide +kernel
theorem dX8_unheard_79 : decode cX8_unheard 79 = .ok (.iload 5, 2) := by decide +kernel
theorem dX8_unheard_81 : decode cX8_unheard 81 = .ok (.iadd, 1) := by decide +kernel
theorem dX8_unheard_82 : decode cX8_unheard 82 = .ok (.invokevirtual 223, 3) := by decide +kernel
theorem dX8_unheard_85 : decode cX8_unheard 85 = .ok (.ifCond .eq 40, 3) := by decide +kernel
theorem dX8_unheard_88 : decode cX8_unheard 88 = .ok (.aload_n 0, 1) := by decide +kernel
theorem dX8_unheard_89 : decode cX8_unheard 89 = .ok (.iload_n 2, 1) := by decide +kernel
theorem dX8_unheard_90 : decode cX8_unheard 90 = .ok (.iload_n 1, 1) := by decide +kernel
theorem dX8_unheard_91 : decode cX8_unheard 91 = .ok (.bipush 10, 2) := by decide +kernel
theorem dX8_unheard_93 : decode cX8_unheard 93 = .ok (.idiv, 1) := by decide +kernel
theorem dX8_unheard_94 : decode cX8_unheard 94 = .ok (.iload_n 3, 1) := by decide +kernel
theorem dX8_unheard_95 : decode cX8_unheard 95 = .ok (.iload 5, 2) := by decide +kernel
theorem dX8_unheard_97 : decode cX8_unheard 97 = .ok (.iadd, 1) := by decide +kernel
theorem dX8_unheard_98 : decode cX8_unheard 98 = .ok (.invokevirtual 223, 3) := by decide +kernel
theorem dX8_unheard_101 : decode cX8_unheard 101 = .ok (.ifCond .ne 24, 3) := by decide +kernel
theorem dX8_unheard_104 : decode cX8_unheard 104 = .ok (.aload_n 0, 1) := by decide +kernel
theorem dX8_unheard_105 : decode cX8_unheard 105 = .ok (.iload_n 2, 1) := by decide +kernel
theorem dX8_unheard_106 : decode cX8_unheard 106 = .ok (.iload_n 1, 1) := by decide +kernel
theorem dX8_unheard_107 : decode cX8_unheard 107 = .ok (.bipush 10, 2) := by decide +kernel
theorem dX8_unheard_109 : decode cX8_unheard 109 = .ok (.irem, 1) := by decide +kernel
theorem dX8_unheard_110 : decode cX8_unheard 110 = .ok (.iload_n 3, 1) := by decide +kernel
theorem dX8_unheard_111 : decode cX8_unheard 111 = .ok (.iload 5, 2) := by decide +kernel
theorem dX8_unheard_113 : decode cX8_unheard 113 = .ok (.iadd, 1) := by decide +kernel
theorem dX8_unheard_114 : decode cX8_unheard 114 = .ok (.invokevirtual 223, 3) := by decide +kernel
theorem dX8_unheard_117 : decode cX8_unheard 117 = .ok (.ifCond .ne 8, 3) := by decide +kernel
theorem dX8_unheard_120 : decode cX8_unheard 120 = .ok (.iload_n 3, 1) := by decide +kernel
theorem dX8_unheard_121 : decode cX8_unheard 121 = .ok (.iload 5, 2) := by decide +kernel
theorem dX8_unheard_123 : decode cX8_unheard 123 = .ok (.iadd, 1) := by decide +kernel
theorem dX8_unheard_124 : decode cX8_unheard 124 = .ok (.ireturn, 1) := by decide +kernel
theorem dX8_unheard_125 : decode cX8_unheard 125 = .ok (.iinc 5 1, 3) := by decide +kernel
theorem dX8_unheard_128 : decode cX8_unheard 128 = .ok (.goto (-66), 3) := by decide +kernel
theorem dX8_unheard_131 : decode cX8_unheard 131 = .ok (.bipush (-2), 2) := by decide +kernel
theorem dX8_unheard_133 : decode cX8_unheard 133 = .ok (.ireturn, 1) := by decide +kernel
theorem dX8_beam_0 : decode cX8_beam 0 = .ok (.aload_n 0, 1) := by decide +kernel
theorem dX8_beam_1 : decode cX8_beam 1 = .ok (.iload_n 1, 1) := by decide +kernel
theorem dX8_beam_2 : decode cX8_beam 2 = .ok (.invokevirtual 220, 3) := by decide +kernel
theorem dX8_beam_5 : decode cX8_beam 5 = .ok (.ifCond .eq 10, 3) := by decide +kernel
theorem dX8_beam_8 : decode cX8_beam 8 = .ok (.iload_n 2, 1) := by decide +kernel
theorem dX8_beam_9 : decode cX8_beam 9 = .ok (.invokestatic 153, 3) := by decide +kernel
theorem dX8_beam_12 : decode cX8_beam 12 = .ok (.ifCond .ne 5, 3) := by decide +kernel
theorem dX8_beam_15 : decode cX8_beam 15 = .ok (.iconst (-1), 1) := by decide +kernel
theorem dX8_beam_16 : decode cX8_beam 16 = .ok (.ireturn, 1) := by decide +kernel
theorem dX8_beam_17 : decode cX8_beam 17 = .ok (.aload_n 0, 1) := by decide +kernel
theorem dX8_beam_18 : decode cX8_beam 18 = .ok (.iload_n 1, 1) := by decide +kernel
theorem dX8_beam_19 : decode cX8_beam 19 = .ok (.bipush 10, 2) := by decide +kernel
theorem dX8_beam_21 : decode cX8_beam 21 = .ok (.idiv, 1) := by decide +kernel
theorem dX8_beam_22 : decode cX8_beam 22 = .ok (.iload_n 1, 1) := by decide +kernel
theorem dX8_beam_23 : decode cX8_beam 23 = .ok (.bipush 10, 2) := by decide +kernel
theorem dX8_beam_25 : decode cX8_beam 25 = .ok (.irem, 1) := by decide +kernel
theorem dX8_beam_26 : decode cX8_beam 26 = .ok (.iload_n 2, 1) := by decide +kernel
theorem dX8_beam_27 : decode cX8_beam 27 = .ok (.invokevirtual 216, 3) := by decide +kernel
theorem dX8_beam_30 : decode cX8_beam 30 = .ok (.ifCond .ne 6, 3) := by decide +kernel
theorem dX8_beam_33 : decode cX8_beam 33 = .ok (.bipush (-2), 2) := by decide +kernel
theorem dX8_beam_35 : decode cX8_beam 35 = .ok (.ireturn, 1) := by decide +kernel
theorem dX8_beam_36 : decode cX8_beam 36 = .ok (.aload_n 0, 1) := by decide +kernel
theorem dX8_beam_37 : decode cX8_beam 37 = .ok (.iload_n 1, 1) := by decide +kernel
theorem dX8_beam_38 : decode cX8_beam 38 = .ok (.bipush 10, 2) := by decide +kernel
theorem dX8_beam_40 : decode cX8_beam 40 = .ok (.idiv, 1) := by decide +kernel
theorem dX8_beam_41 : decode cX8_beam 41 = .ok (.iload_n 2, 1) := by decide +kernel
theorem dX8_beam_42 : decode cX8_beam 42 = .ok (.invokevirtual 134, 3) := by decide +kernel
theorem dX8_beam_45 : decode cX8_beam 45 = .ok (.istore_n 3, 1) := by decide +kernel
theorem dX8_beam_46 : decode cX8_beam 46 = .ok (.aload_n 0, 1) := by decide +kernel
theorem dX8_beam_47 : decode cX8_beam 47 = .ok (.iload_n 1, 1) := by decide +kernel
theorem dX8_beam_48 : decode cX8_beam 48 = .ok (.bipush 10, 2) := by decide +kernel
theorem dX8_beam_50 : decode cX8_beam 50 = .ok (.irem, 1) := by decide +kernel
theorem dX8_beam_51 : decode cX8_beam 51 = .ok (.iload_n 2, 1) := by decide +kernel
theorem dX8_beam_52 : decode cX8_beam 52 = .ok (.invokevirtual 134, 3) := by decide +kernel
theorem dX8_beam_55 : decode cX8_beam 55 = .ok (.iload_n 3, 1) := by decide +kernel
theorem dX8_beam_56 : decode cX8_beam 56 = .ok (.isub, 1) := by decide +kernel
theorem dX8_beam_57 : decode cX8_beam 57 = .ok (.sipush 360, 3) := by decide +kernel
theorem dX8_beam_60 : decode cX8_beam 60 = .ok (.iadd, 1) := by decide +kernel
theorem dX8_beam_61 : decode cX8_beam 61 = .ok (.sipush 360, 3) := by decide +kernel
theorem dX8_beam_64 : decode cX8_beam 64 = .ok (.irem, 1) := by decide +kernel
theorem dX8_beam_65 : decode cX8_beam 65 = .ok (.istore 4, 2) := by decide +kernel
theorem dX8_beam_67 : decode cX8_beam 67 = .ok (.iconst 0, 1) := by decide +kernel
theorem dX8_beam_68 : decode cX8_beam 68 = .ok (.istore 5, 2) := by decide +kernel
theorem dX8_beam_70 : decode cX8_beam 70 = .ok (.iconst 0, 1) := by decide +kernel
theorem dX8_beam_71 : decode cX8_beam 71 = .ok (.istore 6, 2) := by decide +kernel
theorem dX8_beam_73 : decode cX8_beam 73 = .ok (.iload 6, 2) := by decide +kernel
theorem dX8_beam_75 : decode cX8_beam 75 = .ok (.aload_n 0, 1) := by decide +kernel
theorem dX8_beam_76 : decode cX8_beam 76 = .ok (.getfield 94, 3) := by decide +kernel
theorem dX8_beam_79 : decode cX8_beam 79 = .ok (.if_icmp .ge 96, 3) := by decide +kernel
theorem dX8_beam_82 : decode cX8_beam 82 = .ok (.aload_n 0, 1) := by decide +kernel
theorem dX8_beam_83 : decode cX8_beam 83 = .ok (.iload 6, 2) := by decide +kernel
theorem dX8_beam_85 : decode cX8_beam 85 = .ok (.iload_n 2, 1) := by decide +kernel
theorem dX8_beam_86 : decode cX8_beam 86 = .ok (.invokevirtual 134, 3) := by decide +kernel
theorem dX8_beam_89 : decode cX8_beam 89 = .ok (.iload_n 3, 1) := by decide +kernel
theorem dX8_beam_90 : decode cX8_beam 90 = .ok (.isub, 1) := by decide +kernel
theorem dX8_beam_91 : decode cX8_beam 91 = .ok (.sipush 360, 3) := by decide +kernel
theorem dX8_beam_94 : decode cX8_beam 94 = .ok (.iadd, 1) := by decide +kernel
theorem dX8_beam_95 : decode cX8_beam 95 = .ok (.sipush 360, 3) := by decide +kernel
theorem dX8_beam_98 : decode cX8_beam 98 = .ok (.irem, 1) := by decide +kernel
theorem dX8_beam_99 : decode cX8_beam 99 = .ok (.istore 7, 2) := by decide +kernel
theorem dX8_beam_101 : decode cX8_beam 101 = .ok (.iload 4, 2) := by decide +kernel
theorem dX8_beam_103 : decode cX8_beam 103 = .ok (.sipush 180, 3) := by decide +kernel
theorem dX8_beam_106 : decode cX8_beam 106 = .ok (.if_icmp .ge 23, 3) := by decide +kernel
theorem dX8_beam_109 : decode cX8_beam 109 = .ok (.iload 7, 2) := by decide +kernel
theorem dX8_beam_111 : decode cX8_beam 111 = .ok (.ifCond .le 14, 3) := by decide +kernel
theorem dX8_beam_114 : decode cX8_beam 114 = .ok (.iload 7, 2) := by decide +kernel
theorem dX8_beam_116 : decode cX8_beam 116 = .ok (.iload 4, 2) := by decide +kernel
theorem dX8_beam_118 : decode cX8_beam 118 = .ok (.if_icmp .ge 7, 3) := by decide +kernel
theorem dX8_beam_121 : decode cX8_beam 121 = .ok (.iconst 1, 1) := by decide +kernel
theorem dX8_beam_122 : decode cX8_beam 122 = .ok (.goto 27, 3) := by decide +kernel
theorem dX8_beam_125 : decode cX8_beam 125 = .ok (.iconst 0, 1) := by decide +kernel
theorem dX8_beam_126 : decode cX8_beam 126 = .ok (.goto 23, 3) := by decide +kernel
theorem dX8_beam_129 : decode cX8_beam 129 = .ok (.iload 4, 2) := by decide +kernel
theorem dX8_beam_131 : decode cX8_beam 131 = .ok (.sipush 180, 3) := by decide +kernel
theorem dX8_beam_134 : decode cX8_beam 134 = .ok (.if_icmp .le 14, 3) := by decide +kernel
theorem dX8_beam_137 : decode cX8_beam 137 = .ok (.iload 7, 2) := by decide +kernel
theorem dX8_beam_139 : decode cX8_beam 139 = .ok (.iload 4, 2) := by decide +kernel
theorem dX8_beam_141 : decode cX8_beam 141 = .ok (.if_icmp .le 7, 3) := by decide +kernel
theorem dX8_beam_144 : decode cX8_beam 144 = .ok (.iconst 1, 1) := by decide +kernel
theorem dX8_beam_145 : decode cX8_beam 145 = .ok (.goto 4, 3) := by decide +kernel
theorem dX8_beam_148 : decode cX8_beam 148 = .ok (.iconst 0, 1) := by decide +kernel
theorem dX8_beam_149 : decode cX8_beam 149 = .ok (.istore 8, 2) := by decide +kernel
theorem dX8_beam_151 : decode cX8_beam 151 = .ok (.iload 5, 2) := by decide +kernel
theorem dX8_beam_153 : decode cX8_beam 153 = .ok (.iload 8, 2) := by decide +kernel
theorem dX8_beam_155 : decode cX8_beam 155 = .ok (.ifCond .eq 10, 3) := by decide +kernel
theorem dX8_beam_158 : decode cX8_beam 158 = .ok (.iconst 1, 1) := by decide +kernel
theorem dX8_beam_159 : decode cX8_beam 159 = .ok (.iload 6, 2) := by decide +kernel
theorem dX8_beam_161 : decode cX8_beam 161 = .ok (.ishl, 1) := by decide +kernel
theorem dX8_beam_162 : decode cX8_beam 162 = .ok (.goto 4, 3) := by decide +kernel
theorem dX8_beam_165 : decode cX8_beam 165 = .ok (.iconst 0, 1) := by decide +kernel
theorem dX8_beam_166 : decode cX8_beam 166 = .ok (.ior, 1) := by decide +kernel
theorem dX8_beam_167 : decode cX8_beam 167 = .ok (.istore 5, 2) := by decide +kernel
theorem dX8_beam_169 : decode cX8_beam 169 = .ok (.iinc 6 1, 3) := by decide +kernel
theorem dX8_beam_172 : decode cX8_beam 172 = .ok (.goto (-99), 3) := by decide +kernel
theorem dX8_beam_175 : decode cX8_beam 175 = .ok (.iload 5, 2) := by decide +kernel
theorem dX8_beam_177 : decode cX8_beam 177 = .ok (.ireturn, 1) := by decide +kernel
theorem dX8_looksFrom_0 : decode cX8_looksFrom 0 = .ok (.aload_n 0, 1) := by decide +kernel
theorem dX8_looksFrom_1 : decode cX8_looksFrom 1 = .ok (.aload_n 0, 1) := by decide +kernel
theorem dX8_looksFrom_2 : decode cX8_looksFrom 2 = .ok (.getfield 94, 3) := by decide +kernel
theorem dX8_looksFrom_5 : decode cX8_looksFrom 5 = .ok (.invokevirtual 226, 3) := by decide +kernel
theorem dX8_looksFrom_8 : decode cX8_looksFrom 8 = .ok (.iconst 0, 1) := by decide +kernel
theorem dX8_looksFrom_9 : decode cX8_looksFrom 9 = .ok (.istore_n 3, 1) := by decide +kernel
theorem dX8_looksFrom_10 : decode cX8_looksFrom 10 = .ok (.iload_n 3, 1) := by decide +kernel
theorem dX8_looksFrom_11 : decode cX8_looksFrom 11 = .ok (.aload_n 0, 1) := by decide +kernel
theorem dX8_looksFrom_12 : decode cX8_looksFrom 12 = .ok (.getfield 94, 3) := by decide +kernel
theorem dX8_looksFrom_15 : decode cX8_looksFrom 15 = .ok (.if_icmp .ge 51, 3) := by decide +kernel
theorem dX8_looksFrom_18 : decode cX8_looksFrom 18 = .ok (.aload_n 0, 1) := by decide +kernel
theorem dX8_looksFrom_19 : decode cX8_looksFrom 19 = .ok (.getfield 38, 3) := by decide +kernel
theorem dX8_looksFrom_22 : decode cX8_looksFrom 22 = .ok (.sipush 4200, 3) := by decide +kernel
theorem dX8_looksFrom_25 : decode cX8_looksFrom 25 = .ok (.iload_n 3, 1) := by decide +kernel
theorem dX8_looksFrom_26 : decode cX8_looksFrom 26 = .ok (.iadd, 1) := by decide +kernel
theorem dX8_looksFrom_27 : decode cX8_looksFrom 27 = .ok (.iload_n 3, 1) := by decide +kernel
theorem dX8_looksFrom_28 : decode cX8_looksFrom 28 = .ok (.iload_n 1, 1) := by decide +kernel
theorem dX8_looksFrom_29 : decode cX8_looksFrom 29 = .ok (.if_icmp .ne 7, 3) := by decide +kernel
theorem dX8_looksFrom_32 : decode cX8_looksFrom 32 = .ok (.iconst 0, 1) := by decide +kernel
theorem dX8_looksFrom_33 : decode cX8_looksFrom 33 = .ok (.goto 5, 3) := by decide +kernel
theorem dX8_looksFrom_36 : decode cX8_looksFrom 36 = .ok (.ldc 240, 2) := by decide +kernel
theorem dX8_looksFrom_38 : decode cX8_looksFrom 38 = .ok (.iastore, 1) := by decide +kernel
theorem dX8_looksFrom_39 : decode cX8_looksFrom 39 = .ok (.aload_n 0, 1) := by decide +kernel
theorem dX8_looksFrom_40 : decode cX8_looksFrom 40 = .ok (.getfield 41, 3) := by decide +kernel
theorem dX8_looksFrom_43 : decode cX8_looksFrom 43 = .ok (.sipush 4200, 3) := by decide +kernel
theorem dX8_looksFrom_46 : decode cX8_looksFrom 46 = .ok (.iload_n 3, 1) := by decide +kernel
theorem dX8_looksFrom_47 : decode cX8_looksFrom 47 = .ok (.iadd, 1) := by decide +kernel
theorem dX8_looksFrom_48 : decode cX8_looksFrom 48 = .ok (.iload_n 3, 1) := by decide +kernel
theorem dX8_looksFrom_49 : decode cX8_looksFrom 49 = .ok (.iload_n 1, 1) := by decide +kernel
theorem dX8_looksFrom_50 : decode cX8_looksFrom 50 = .ok (.if_icmp .ne 7, 3) := by decide +kernel
theorem dX8_looksFrom_53 : decode cX8_looksFrom 53 = .ok (.iconst 0, 1) := by decide +kernel
theorem dX8_looksFrom_54 : decode cX8_looksFrom 54 = .ok (.goto 5, 3) := by decide +kernel
theorem dX8_looksFrom_57 : decode cX8_looksFrom 57 = .ok (.ldc 240, 2) := by decide +kernel
theorem dX8_looksFrom_59 : decode cX8_looksFrom 59 = .ok (.iastore, 1) := by decide +kernel
theorem dX8_looksFrom_60 : decode cX8_looksFrom 60 = .ok (.iinc 3 1, 3) := by decide +kernel
theorem dX8_looksFrom_63 : decode cX8_looksFrom 63 = .ok (.goto (-53), 3) := by decide +kernel
theorem dX8_looksFrom_66 : decode cX8_looksFrom 66 = .ok (.sipush 599, 3) := by decide +kernel
theorem dX8_looksFrom_69 : decode cX8_looksFrom 69 = .ok (.istore_n 3, 1) := by decide +kernel
theorem dX8_looksFrom_70 : decode cX8_looksFrom 70 = .ok (.iload_n 3, 1) := by decide +kernel
theorem dX8_looksFrom_71 : decode cX8_looksFrom 71 = .ok (.ifCond .lt 240, 3) := by decide +kernel
theorem dX8_looksFrom_74 : decode cX8_looksFrom 74 = .ok (.iconst 0, 1) := by decide +kernel
theorem dX8_looksFrom_75 : decode cX8_looksFrom 75 = .ok (.istore 4, 2) := by decide +kernel
theorem dX8_looksFrom_77 : decode cX8_looksFrom 77 = .ok (.iload 4, 2) := by decide +kernel
theorem dX8_looksFrom_79 : decode cX8_looksFrom 79 = .ok (.aload_n 0, 1) := by decide +kernel
theorem dX8_looksFrom_80 : decode cX8_looksFrom 80 = .ok (.getfield 94, 3) := by decide +kernel
theorem dX8_looksFrom_83 : decode cX8_looksFrom 83 = .ok (.if_icmp .ge 222, 3) := by decide +kernel
theorem dX8_looksFrom_86 : decode cX8_looksFrom 86 = .ok (.aload_n 0, 1) := by decide +kernel
theorem dX8_looksFrom_87 : decode cX8_looksFrom 87 = .ok (.getfield 38, 3) := by decide +kernel
theorem dX8_looksFrom_90 : decode cX8_looksFrom 90 = .ok (.bipush 7, 2) := by decide +kernel
theorem dX8_looksFrom_92 : decode cX8_looksFrom 92 = .ok (.iload_n 3, 1) := by decide +kernel
theorem dX8_looksFrom_93 : decode cX8_looksFrom 93 = .ok (.iconst 1, 1) := by decide +kernel
theorem dX8_looksFrom_94 : decode cX8_looksFrom 94 = .ok (.iadd, 1) := by decide +kernel
theorem dX8_looksFrom_95 : decode cX8_looksFrom 95 = .ok (.imul, 1) := by decide +kernel
theorem dX8_looksFrom_96 : decode cX8_looksFrom 96 = .ok (.iload 4, 2) := by decide +kernel
theorem dX8_looksFrom_98 : decode cX8_looksFrom 98 = .ok (.iadd, 1) := by decide +kernel
theorem dX8_looksFrom_99 : decode cX8_looksFrom 99 = .ok (.iaload, 1) := by decide +kernel
theorem dX8_looksFrom_100 : decode cX8_looksFrom 100 = .ok (.iconst 1, 1) := by decide +kernel
theorem dX8_looksFrom_101 : decode cX8_looksFrom 101 = .ok (.iadd, 1) := by decide +kernel
theorem dX8_looksFrom_102 : decode cX8_looksFrom 102 = .ok (.istore 5, 2) := by decide +kernel
theorem dX8_looksFrom_104 : decode cX8_looksFrom 104 = .ok (.aload_n 0, 1) := by decide +kernel
theorem dX8_looksFrom_105 : decode cX8_looksFrom 105 = .ok (.getfield 41, 3) := by decide +kernel
theorem dX8_looksFrom_108 : decode cX8_looksFrom 108 = .ok (.bipush 7, 2) := by decide +kernel
theorem dX8_looksFrom_110 : decode cX8_looksFrom 110 = .ok (.iload_n 3, 1) := by decide +kernel
theorem dX8_looksFrom_111 : decode cX8_looksFrom 111 = .ok (.iconst 1, 1) := by decide +kernel
theorem dX8_looksFrom_112 : decode cX8_looksFrom 112 = .ok (.iadd, 1) := by decide +kernel
theorem dX8_looksFrom_113 : decode cX8_looksFrom 113 = .ok (.imul, 1) := by decide +kernel
theorem dX8_looksFrom_114 : decode cX8_looksFrom 114 = .ok (.iload 4, 2) := by decide +kernel
theorem dX8_looksFrom_116 : decode cX8_looksFrom 116 = .ok (.iadd, 1) := by decide +kernel
theorem dX8_looksFrom_117 : decode cX8_looksFrom 117 = .ok (.iaload, 1) := by decide +kernel
theorem dX8_looksFrom_118 : decode cX8_looksFrom 118 = .ok (.istore 6, 2) := by decide +kernel
theorem dX8_looksFrom_120 : decode cX8_looksFrom 120 = .ok (.iconst 0, 1) := by decide +kernel
theorem dX8_looksFrom_121 : decode cX8_looksFrom 121 = .ok (.istore 7, 2) := by decide +kernel
theorem dX8_looksFrom_123 : decode cX8_looksFrom 123 = .ok (.iload 7, 2) := by decide +kernel
theorem dX8_looksFrom_125 : decode cX8_looksFrom 125 = .ok (.aload_n 0, 1) := by decide +kernel
theorem dX8_looksFrom_126 : decode cX8_looksFrom 126 = .ok (.getfield 94, 3) := by decide +kernel
theorem dX8_looksFrom_129 : decode cX8_looksFrom 129 = .ok (.if_icmp .ge 98, 3) := by decide +kernel
theorem dX8_looksFrom_132 : decode cX8_looksFrom 132 = .ok (.iload 7, 2) := by decide +kernel
theorem dX8_looksFrom_134 : decode cX8_looksFrom 134 = .ok (.iload 4, 2) := by decide +kernel
theorem dX8_looksFrom_136 : decode cX8_looksFrom 136 = .ok (.if_icmp .eq 85, 3) := by decide +kernel
theorem dX8_looksFrom_139 : decode cX8_looksFrom 139 = .ok (.aload_n 0, 1) := by decide +kernel
theorem dX8_looksFrom_140 : decode cX8_looksFrom 140 = .ok (.iload 4, 2) := by decide +kernel
theorem dX8_looksFrom_142 : decode cX8_looksFrom 142 = .ok (.iload 7, 2) := by decide +kernel
theorem dX8_looksFrom_144 : decode cX8_looksFrom 144 = .ok (.iload_n 2, 1) := by decide +kernel
theorem dX8_looksFrom_145 : decode cX8_looksFrom 145 = .ok (.iload_n 3, 1) := by decide +kernel
theorem dX8_looksFrom_146 : decode cX8_looksFrom 146 = .ok (.iadd, 1) := by decide +kernel
theorem dX8_looksFrom_147 : decode cX8_looksFrom 147 = .ok (.invokevirtual 223, 3) := by decide +kernel
theorem dX8_looksFrom_150 : decode cX8_looksFrom 150 = .ok (.ifCond .eq 71, 3) := by decide +kernel
theorem dX8_looksFrom_153 : decode cX8_looksFrom 153 = .ok (.aload_n 0, 1) := by decide +kernel
theorem dX8_looksFrom_154 : decode cX8_looksFrom 154 = .ok (.getfield 38, 3) := by decide +kernel
theorem dX8_looksFrom_157 : decode cX8_looksFrom 157 = .ok (.bipush 7, 2) := by decide +kernel
theorem dX8_looksFrom_159 : decode cX8_looksFrom 159 = .ok (.iload_n 3, 1) := by decide +kernel
theorem dX8_looksFrom_160 : decode cX8_looksFrom 160 = .ok (.iconst 1, 1) := by decide +kernel
theorem dX8_looksFrom_161 : decode cX8_looksFrom 161 = .ok (.iadd, 1) := by decide +kernel
theorem dX8_looksFrom_162 : decode cX8_looksFrom 162 = .ok (.imul, 1) := by decide +kernel
theorem dX8_looksFrom_163 : decode cX8_looksFrom 163 = .ok (.iload 7, 2) := by decide +kernel
theorem dX8_looksFrom_165 : decode cX8_looksFrom 165 = .ok (.iadd, 1) := by decide +kernel
theorem dX8_looksFrom_166 : decode cX8_looksFrom 166 = .ok (.iaload, 1) := by decide +kernel
theorem dX8_looksFrom_167 : decode cX8_looksFrom 167 = .ok (.iconst 1, 1) := by decide +kernel
theorem dX8_looksFrom_168 : decode cX8_looksFrom 168 = .ok (.iadd, 1) := by decide +kernel
theorem dX8_looksFrom_169 : decode cX8_looksFrom 169 = .ok (.istore 8, 2) := by decide +kernel
theorem dX8_looksFrom_171 : decode cX8_looksFrom 171 = .ok (.iload 8, 2) := by decide +kernel
theorem dX8_looksFrom_173 : decode cX8_looksFrom 173 = .ok (.iload 5, 2) := by decide +kernel
theorem dX8_looksFrom_175 : decode cX8_looksFrom 175 = .ok (.if_icmp .ge 8, 3) := by decide +kernel
theorem dX8_looksFrom_178 : decode cX8_looksFrom 178 = .ok (.iload 8, 2) := by decide +kernel
theorem dX8_looksFrom_180 : decode cX8_looksFrom 180 = .ok (.goto 5, 3) := by decide +kernel
theorem dX8_looksFrom_183 : decode cX8_looksFrom 183 = .ok (.iload 5, 2) := by decide +kernel
theorem dX8_looksFrom_185 : decode cX8_looksFrom 185 = .ok (.istore 5, 2) := by decide +kernel
theorem dX8_looksFrom_187 : decode cX8_looksFrom 187 = .ok (.aload_n 0, 1) := by decide +kernel
theorem dX8_looksFrom_188 : decode cX8_looksFrom 188 = .ok (.getfield 41, 3) := by decide +kernel
theorem dX8_looksFrom_191 : decode cX8_looksFrom 191 = .ok (.bipush 7, 2) := by decide +kernel
theorem dX8_looksFrom_193 : decode cX8_looksFrom 193 = .ok (.iload_n 3, 1) := by decide +kernel
theorem dX8_looksFrom_194 : decode cX8_looksFrom 194 = .ok (.iconst 1, 1) := by decide +kernel
theorem dX8_looksFrom_195 : decode cX8_looksFrom 195 = .ok (.iadd, 1) := by decide +kernel
theorem dX8_looksFrom_196 : decode cX8_looksFrom 196 = .ok (.imul, 1) := by decide +kernel
theorem dX8_looksFrom_197 : decode cX8_looksFrom 197 = .ok (.iload 7, 2) := by decide +kernel
theorem dX8_looksFrom_199 : decode cX8_looksFrom 199 = .ok (.iadd, 1) := by decide +kernel
theorem dX8_looksFrom_200 : decode cX8_looksFrom 200 = .ok (.iaload, 1) := by decide +kernel
theorem dX8_looksFrom_201 : decode cX8_looksFrom 201 = .ok (.iconst 1, 1) := by decide +kernel
theorem dX8_looksFrom_202 : decode cX8_looksFrom 202 = .ok (.iadd, 1) := by decide +kernel
theorem dX8_looksFrom_203 : decode cX8_looksFrom 203 = .ok (.istore 8, 2) := by decide +kernel
theorem dX8_looksFrom_205 : decode cX8_looksFrom 205 = .ok (.iload 8, 2) := by decide +kernel
theorem dX8_looksFrom_207 : decode cX8_looksFrom 207 = .ok (.iload 6, 2) := by decide +kernel
theorem dX8_looksFrom_209 : decode cX8_looksFrom 209 = .ok (.if_icmp .ge 8, 3) := by decide +kernel
theorem dX8_looksFrom_212 : decode cX8_looksFrom 212 = .ok (.iload 8, 2) := by decide +kernel
theorem dX8_looksFrom_214 : decode cX8_looksFrom 214 = .ok (.goto 5, 3) := by decide +kernel
theorem dX8_looksFrom_217 : decode cX8_looksFrom 217 = .ok (.iload 6, 2) := by decide +kernel
theorem dX8_looksFrom_219 : decode cX8_looksFrom 219 = .ok (.istore 6, 2) := by decide +kernel
theorem dX8_looksFrom_221 : decode cX8_looksFrom 221 = .ok (.iinc 7 1, 3) := by decide +kernel
theorem dX8_looksFrom_224 : decode cX8_looksFrom 224 = .ok (.goto (-101), 3) := by decide +kernel
theorem dX8_looksFrom_227 : decode cX8_looksFrom 227 = .ok (.aload_n 0, 1) := by decide +kernel
theorem dX8_looksFrom_228 : decode cX8_looksFrom 228 = .ok (.getfield 38, 3) := by decide +kernel
theorem dX8_looksFrom_231 : decode cX8_looksFrom 231 = .ok (.bipush 7, 2) := by decide +kernel
theorem dX8_looksFrom_233 : decode cX8_looksFrom 233 = .ok (.iload_n 3, 1) := by decide +kernel
theorem dX8_looksFrom_234 : decode cX8_looksFrom 234 = .ok (.imul, 1) := by decide +kernel
theorem dX8_looksFrom_235 : decode cX8_looksFrom 235 = .ok (.iload 4, 2) := by decide +kernel
theorem dX8_looksFrom_237 : decode cX8_looksFrom 237 = .ok (.iadd, 1) := by decide +kernel
theorem dX8_looksFrom_238 : decode cX8_looksFrom 238 = .ok (.iload 4, 2) := by decide +kernel
theorem dX8_looksFrom_240 : decode cX8_looksFrom 240 = .ok (.iload_n 1, 1) := by decide +kernel
theorem dX8_looksFrom_241 : decode cX8_looksFrom 241 = .ok (.if_icmp .ne 7, 3) := by decide +kernel
theorem dX8_looksFrom_244 : decode cX8_looksFrom 244 = .ok (.iconst 0, 1) := by decide +kernel
theorem dX8_looksFrom_245 : decode cX8_looksFrom 245 = .ok (.goto 17, 3) := by decide +kernel
theorem dX8_looksFrom_248 : decode cX8_looksFrom 248 = .ok (.iload 5, 2) := by decide +kernel
theorem dX8_looksFrom_250 : decode cX8_looksFrom 250 = .ok (.ldc 240, 2) := by decide +kernel
theorem dX8_looksFrom_252 : decode cX8_looksFrom 252 = .ok (.if_icmp .ge 8, 3) := by decide +kernel
theorem dX8_looksFrom_255 : decode cX8_looksFrom 255 = .ok (.iload 5, 2) := by decide +kernel
theorem dX8_looksFrom_257 : decode cX8_looksFrom 257 = .ok (.goto 5, 3) := by decide +kernel
theorem dX8_looksFrom_260 : decode cX8_looksFrom 260 = .ok (.ldc 240, 2) := by decide +kernel
theorem dX8_looksFrom_262 : decode cX8_looksFrom 262 = .ok (.iastore, 1) := by decide +kernel
theorem dX8_looksFrom_263 : decode cX8_looksFrom 263 = .ok (.aload_n 0, 1) := by decide +kernel
theorem dX8_looksFrom_264 : decode cX8_looksFrom 264 = .ok (.getfield 41, 3) := by decide +kernel
theorem dX8_looksFrom_267 : decode cX8_looksFrom 267 = .ok (.bipush 7, 2) := by decide +kernel
theorem dX8_looksFrom_269 : decode cX8_looksFrom 269 = .ok (.iload_n 3, 1) := by decide +kernel
theorem dX8_looksFrom_270 : decode cX8_looksFrom 270 = .ok (.imul, 1) := by decide +kernel
theorem dX8_looksFrom_271 : decode cX8_looksFrom 271 = .ok (.iload 4, 2) := by decide +kernel
theorem dX8_looksFrom_273 : decode cX8_looksFrom 273 = .ok (.iadd, 1) := by decide +kernel
theorem dX8_looksFrom_274 : decode cX8_looksFrom 274 = .ok (.iload 4, 2) := by decide +kernel
theorem dX8_looksFrom_276 : decode cX8_looksFrom 276 = .ok (.iload_n 1, 1) := by decide +kernel
theorem dX8_looksFrom_277 : decode cX8_looksFrom 277 = .ok (.if_icmp .ne 7, 3) := by decide +kernel
theorem dX8_looksFrom_280 : decode cX8_looksFrom 280 = .ok (.iconst 0, 1) := by decide +kernel
theorem dX8_looksFrom_281 : decode cX8_looksFrom 281 = .ok (.goto 17, 3) := by decide +kernel
theorem dX8_looksFrom_284 : decode cX8_looksFrom 284 = .ok (.iload 6, 2) := by decide +kernel
theorem dX8_looksFrom_286 : decode cX8_looksFrom 286 = .ok (.ldc 240, 2) := by decide +kernel
theorem dX8_looksFrom_288 : decode cX8_looksFrom 288 = .ok (.if_icmp .ge 8, 3) := by decide +kernel
theorem dX8_looksFrom_291 : decode cX8_looksFrom 291 = .ok (.iload 6, 2) := by decide +kernel
theorem dX8_looksFrom_293 : decode cX8_looksFrom 293 = .ok (.goto 5, 3) := by decide +kernel
theorem dX8_looksFrom_296 : decode cX8_looksFrom 296 = .ok (.ldc 240, 2) := by decide +kernel
theorem dX8_looksFrom_298 : decode cX8_looksFrom 298 = .ok (.iastore, 1) := by decide +kernel
theorem dX8_looksFrom_299 : decode cX8_looksFrom 299 = .ok (.iinc 4 1, 3) := by decide +kernel
theorem dX8_looksFrom_302 : decode cX8_looksFrom 302 = .ok (.goto (-225), 3) := by decide +kernel
theorem dX8_looksFrom_305 : decode cX8_looksFrom 305 = .ok (.iinc 3 (-1), 3) := by decide +kernel
theorem dX8_looksFrom_308 : decode cX8_looksFrom 308 = .ok (.goto (-238), 3) := by decide +kernel
theorem dX8_looksFrom_311 : decode cX8_looksFrom 311 = .ok (.return_, 1) := by decide +kernel
theorem dX8_soonest_0 : decode cX8_soonest 0 = .ok (.aload_n 0, 1) := by decide +kernel
theorem dX8_soonest_1 : decode cX8_soonest 1 = .ok (.iload_n 1, 1) := by decide +kernel
theorem dX8_soonest_2 : decode cX8_soonest 2 = .ok (.invokevirtual 220, 3) := by decide +kernel
theorem dX8_soonest_5 : decode cX8_soonest 5 = .ok (.ifCond .eq 10, 3) := by decide +kernel
theorem dX8_soonest_8 : decode cX8_soonest 8 = .ok (.iload_n 2, 1) := by decide +kernel
theorem dX8_soonest_9 : decode cX8_soonest 9 = .ok (.invokestatic 153, 3) := by decide +kernel
theorem dX8_soonest_12 : decode cX8_soonest 12 = .ok (.ifCond .ne 5, 3) := by decide +kernel
theorem dX8_soonest_15 : decode cX8_soonest 15 = .ok (.iconst (-1), 1) := by decide +kernel
theorem dX8_soonest_16 : decode cX8_soonest 16 = .ok (.ireturn, 1) := by decide +kernel
theorem dX8_soonest_17 : decode cX8_soonest 17 = .ok (.aload_n 0, 1) := by decide +kernel
theorem dX8_soonest_18 : decode cX8_soonest 18 = .ok (.iload_n 1, 1) := by decide +kernel
theorem dX8_soonest_19 : decode cX8_soonest 19 = .ok (.bipush 10, 2) := by decide +kernel
theorem dX8_soonest_21 : decode cX8_soonest 21 = .ok (.irem, 1) := by decide +kernel
theorem dX8_soonest_22 : decode cX8_soonest 22 = .ok (.iload_n 2, 1) := by decide +kernel
theorem dX8_soonest_23 : decode cX8_soonest 23 = .ok (.invokevirtual 241, 3) := by decide +kernel
theorem dX8_soonest_26 : decode cX8_soonest 26 = .ok (.aload_n 0, 1) := by decide +kernel
theorem dX8_soonest_27 : decode cX8_soonest 27 = .ok (.getfield 38, 3) := by decide +kernel
theorem dX8_soonest_30 : decode cX8_soonest 30 = .ok (.iload_n 1, 1) := by decide +kernel
theorem dX8_soonest_31 : decode cX8_soonest 31 = .ok (.bipush 10, 2) := by decide +kernel
theorem dX8_soonest_33 : decode cX8_soonest 33 = .ok (.idiv, 1) := by decide +kernel
theorem dX8_soonest_34 : decode cX8_soonest 34 = .ok (.iaload, 1) := by decide +kernel
theorem dX8_soonest_35 : decode cX8_soonest 35 = .ok (.istore_n 3, 1) := by decide +kernel
theorem dX8_soonest_36 : decode cX8_soonest 36 = .ok (.iload_n 3, 1) := by decide +kernel
theorem dX8_soonest_37 : decode cX8_soonest 37 = .ok (.ldc 240, 2) := by decide +kernel
theorem dX8_soonest_39 : decode cX8_soonest 39 = .ok (.if_icmp .ge 7, 3) := by decide +kernel
theorem dX8_soonest_42 : decode cX8_soonest 42 = .ok (.iload_n 3, 1) := by decide +kernel
theorem dX8_soonest_43 : decode cX8_soonest 43 = .ok (.goto 5, 3) := by decide +kernel
theorem dX8_soonest_46 : decode cX8_soonest 46 = .ok (.bipush (-2), 2) := by decide +kernel
theorem dX8_soonest_48 : decode cX8_soonest 48 = .ok (.ireturn, 1) := by decide +kernel
theorem dX8_hands_0 : decode cX8_hands 0 = .ok (.aload_n 0, 1) := by decide +kernel
theorem dX8_hands_1 : decode cX8_hands 1 = .ok (.iload_n 1, 1) := by decide +kernel
theorem dX8_hands_2 : decode cX8_hands 2 = .ok (.invokevirtual 220, 3) := by decide +kernel
theorem dX8_hands_5 : decode cX8_hands 5 = .ok (.ifCond .eq 10, 3) := by decide +kernel
theorem dX8_hands_8 : decode cX8_hands 8 = .ok (.iload_n 2, 1) := by decide +kernel
theorem dX8_hands_9 : decode cX8_hands 9 = .ok (.invokestatic 153, 3) := by decide +kernel
theorem dX8_hands_12 : decode cX8_hands 12 = .ok (.ifCond .ne 5, 3) := by decide +kernel
theorem dX8_hands_15 : decode cX8_hands 15 = .ok (.iconst (-1), 1) := by decide +kernel
theorem dX8_hands_16 : decode cX8_hands 16 = .ok (.ireturn, 1) := by decide +kernel
theorem dX8_hands_17 : decode cX8_hands 17 = .ok (.aload_n 0, 1) := by decide +kernel
theorem dX8_hands_18 : decode cX8_hands 18 = .ok (.iload_n 1, 1) := by decide +kernel
theorem dX8_hands_19 : decode cX8_hands 19 = .ok (.bipush 10, 2) := by decide +kernel
theorem dX8_hands_21 : decode cX8_hands 21 = .ok (.irem, 1) := by decide +kernel
theorem dX8_hands_22 : decode cX8_hands 22 = .ok (.iload_n 2, 1) := by decide +kernel
theorem dX8_hands_23 : decode cX8_hands 23 = .ok (.invokevirtual 241, 3) := by decide +kernel
theorem dX8_hands_26 : decode cX8_hands 26 = .ok (.aload_n 0, 1) := by decide +kernel
theorem dX8_hands_27 : decode cX8_hands 27 = .ok (.getfield 41, 3) := by decide +kernel
theorem dX8_hands_30 : decode cX8_hands 30 = .ok (.iload_n 1, 1) := by decide +kernel
theorem dX8_hands_31 : decode cX8_hands 31 = .ok (.bipush 10, 2) := by decide +kernel
theorem dX8_hands_33 : decode cX8_hands 33 = .ok (.idiv, 1) := by decide +kernel
theorem dX8_hands_34 : decode cX8_hands 34 = .ok (.iaload, 1) := by decide +kernel
theorem dX8_hands_35 : decode cX8_hands 35 = .ok (.istore_n 3, 1) := by decide +kernel
theorem dX8_hands_36 : decode cX8_hands 36 = .ok (.iload_n 3, 1) := by decide +kernel
theorem dX8_hands_37 : decode cX8_hands 37 = .ok (.ldc 240, 2) := by decide +kernel
theorem dX8_hands_39 : decode cX8_hands 39 = .ok (.if_icmp .ge 7, 3) := by decide +kernel
theorem dX8_hands_42 : decode cX8_hands 42 = .ok (.iload_n 3, 1) := by decide +kernel
theorem dX8_hands_43 : decode cX8_hands 43 = .ok (.goto 5, 3) := by decide +kernel
theorem dX8_hands_46 : decode cX8_hands 46 = .ok (.bipush (-2), 2) := by decide +kernel
theorem dX8_hands_48 : decode cX8_hands 48 = .ok (.ireturn, 1) := by decide +kernel
theorem dX8_wayTo_0 : decode cX8_wayTo 0 = .ok (.aload_n 0, 1) := by decide +kernel
theorem dX8_wayTo_1 : decode cX8_wayTo 1 = .ok (.getfield 38, 3) := by decide +kernel
theorem dX8_wayTo_4 : decode cX8_wayTo 4 = .ok (.iload_n 1, 1) := by decide +kernel
theorem dX8_wayTo_5 : decode cX8_wayTo 5 = .ok (.iaload, 1) := by decide +kernel
theorem dX8_wayTo_6 : decode cX8_wayTo 6 = .ok (.istore 5, 2) := by decide +kernel
theorem dX8_wayTo_8 : decode cX8_wayTo 8 = .ok (.iconst 0, 1) := by decide +kernel
theorem dX8_wayTo_9 : decode cX8_wayTo 9 = .ok (.istore 6, 2) := by decide +kernel
theorem dX8_wayTo_11 : decode cX8_wayTo 11 = .ok (.iload 6, 2) := by decide +kernel
theorem dX8_wayTo_13 : decode cX8_wayTo 13 = .ok (.aload_n 0, 1) := by decide +kernel
theorem dX8_wayTo_14 : decode cX8_wayTo 14 = .ok (.getfield 94, 3) := by decide +kernel
theorem dX8_wayTo_17 : decode cX8_wayTo 17 = .ok (.if_icmp .ge 34, 3) := by decide +kernel
theorem dX8_wayTo_20 : decode cX8_wayTo 20 = .ok (.aload_n 0, 1) := by decide +kernel
theorem dX8_wayTo_21 : decode cX8_wayTo 21 = .ok (.getfield 44, 3) := by decide +kernel
theorem dX8_wayTo_24 : decode cX8_wayTo 24 = .ok (.bipush 7, 2) := by decide +kernel
theorem dX8_wayTo_26 : decode cX8_wayTo 26 = .ok (.iload 5, 2) := by decide +kernel
theorem dX8_wayTo_28 : decode cX8_wayTo 28 = .ok (.imul, 1) := by decide +kernel
theorem dX8_wayTo_29 : decode cX8_wayTo 29 = .ok (.iload 6, 2) := by decide +kernel
theorem dX8_wayTo_31 : decode cX8_wayTo 31 = .ok (.iadd, 1) := by decide +kernel
theorem dX8_wayTo_32 : decode cX8_wayTo 32 = .ok (.iload 6, 2) := by decide +kernel
theorem dX8_wayTo_34 : decode cX8_wayTo 34 = .ok (.iload_n 2, 1) := by decide +kernel
theorem dX8_wayTo_35 : decode cX8_wayTo 35 = .ok (.if_icmp .ne 7, 3) := by decide +kernel
theorem dX8_wayTo_38 : decode cX8_wayTo 38 = .ok (.iconst 0, 1) := by decide +kernel
theorem dX8_wayTo_39 : decode cX8_wayTo 39 = .ok (.goto 5, 3) := by decide +kernel
theorem dX8_wayTo_42 : decode cX8_wayTo 42 = .ok (.ldc 240, 2) := by decide +kernel
theorem dX8_wayTo_44 : decode cX8_wayTo 44 = .ok (.iastore, 1) := by decide +kernel
theorem dX8_wayTo_45 : decode cX8_wayTo 45 = .ok (.iinc 6 1, 3) := by decide +kernel
theorem dX8_wayTo_48 : decode cX8_wayTo 48 = .ok (.goto (-37), 3) := by decide +kernel
theorem dX8_wayTo_51 : decode cX8_wayTo 51 = .ok (.iload 5, 2) := by decide +kernel
theorem dX8_wayTo_53 : decode cX8_wayTo 53 = .ok (.iconst 1, 1) := by decide +kernel
theorem dX8_wayTo_54 : decode cX8_wayTo 54 = .ok (.isub, 1) := by decide +kernel
theorem dX8_wayTo_55 : decode cX8_wayTo 55 = .ok (.istore 6, 2) := by decide +kernel
theorem dX8_wayTo_57 : decode cX8_wayTo 57 = .ok (.iload 6, 2) := by decide +kernel
theorem dX8_wayTo_59 : decode cX8_wayTo 59 = .ok (.ifCond .lt 139, 3) := by decide +kernel
theorem dX8_wayTo_62 : decode cX8_wayTo 62 = .ok (.iconst 0, 1) := by decide +kernel
theorem dX8_wayTo_63 : decode cX8_wayTo 63 = .ok (.istore 7, 2) := by decide +kernel
theorem dX8_wayTo_65 : decode cX8_wayTo 65 = .ok (.iload 7, 2) := by decide +kernel
theorem dX8_wayTo_67 : decode cX8_wayTo 67 = .ok (.aload_n 0, 1) := by decide +kernel
theorem dX8_wayTo_68 : decode cX8_wayTo 68 = .ok (.getfield 94, 3) := by decide +kernel
theorem dX8_wayTo_71 : decode cX8_wayTo 71 = .ok (.if_icmp .ge 121, 3) := by decide +kernel
theorem dX8_wayTo_74 : decode cX8_wayTo 74 = .ok (.aload_n 0, 1) := by decide +kernel
theorem dX8_wayTo_75 : decode cX8_wayTo 75 = .ok (.getfield 44, 3) := by decide +kernel
theorem dX8_wayTo_78 : decode cX8_wayTo 78 = .ok (.bipush 7, 2) := by decide +kernel
theorem dX8_wayTo_80 : decode cX8_wayTo 80 = .ok (.iload 6, 2) := by decide +kernel
theorem dX8_wayTo_82 : decode cX8_wayTo 82 = .ok (.iconst 1, 1) := by decide +kernel
theorem dX8_wayTo_83 : decode cX8_wayTo 83 = .ok (.iadd, 1) := by decide +kernel
theorem dX8_wayTo_84 : decode cX8_wayTo 84 = .ok (.imul, 1) := by decide +kernel
theorem dX8_wayTo_85 : decode cX8_wayTo 85 = .ok (.iload 7, 2) := by decide +kernel
theorem dX8_wayTo_87 : decode cX8_wayTo 87 = .ok (.iadd, 1) := by decide +kernel
theorem dX8_wayTo_88 : decode cX8_wayTo 88 = .ok (.iaload, 1) := by decide +kernel
theorem dX8_wayTo_89 : decode cX8_wayTo 89 = .ok (.istore 8, 2) := by decide +kernel
theorem dX8_wayTo_91 : decode cX8_wayTo 91 = .ok (.iconst 0, 1) := by decide +kernel
theorem dX8_wayTo_92 : decode cX8_wayTo 92 = .ok (.istore 9, 2) := by decide +kernel
theorem dX8_wayTo_94 : decode cX8_wayTo 94 = .ok (.iload 9, 2) := by decide +kernel
theorem dX8_wayTo_96 : decode cX8_wayTo 96 = .ok (.aload_n 0, 1) := by decide +kernel
theorem dX8_wayTo_97 : decode cX8_wayTo 97 = .ok (.getfield 94, 3) := by decide +kernel
theorem dX8_wayTo_100 : decode cX8_wayTo 100 = .ok (.if_icmp .ge 71, 3) := by decide +kernel
theorem dX8_wayTo_103 : decode cX8_wayTo 103 = .ok (.iload 9, 2) := by decide +kernel
theorem dX8_wayTo_105 : decode cX8_wayTo 105 = .ok (.iload 7, 2) := by decide +kernel
theorem dX8_wayTo_107 : decode cX8_wayTo 107 = .ok (.if_icmp .eq 38, 3) := by decide +kernel
theorem dX8_wayTo_110 : decode cX8_wayTo 110 = .ok (.aload_n 0, 1) := by decide +kernel
theorem dX8_wayTo_111 : decode cX8_wayTo 111 = .ok (.iload 7, 2) := by decide +kernel
theorem dX8_wayTo_113 : decode cX8_wayTo 113 = .ok (.iload 9, 2) := by decide +kernel
theorem dX8_wayTo_115 : decode cX8_wayTo 115 = .ok (.iload_n 3, 1) := by decide +kernel
theorem dX8_wayTo_116 : decode cX8_wayTo 116 = .ok (.iload 6, 2) := by decide +kernel
theorem dX8_wayTo_118 : decode cX8_wayTo 118 = .ok (.iadd, 1) := by decide +kernel
theorem dX8_wayTo_119 : decode cX8_wayTo 119 = .ok (.invokevirtual 223, 3) := by decide +kernel
theorem dX8_wayTo_122 : decode cX8_wayTo 122 = .ok (.ifCond .eq 23, 3) := by decide +kernel
theorem dX8_wayTo_125 : decode cX8_wayTo 125 = .ok (.aload_n 0, 1) := by decide +kernel
theorem dX8_wayTo_126 : decode cX8_wayTo 126 = .ok (.getfield 44, 3) := by decide +kernel
theorem dX8_wayTo_129 : decode cX8_wayTo 129 = .ok (.bipush 7, 2) := by decide +kernel
theorem dX8_wayTo_131 : decode cX8_wayTo 131 = .ok (.iload 6, 2) := by decide +kernel
theorem dX8_wayTo_133 : decode cX8_wayTo 133 = .ok (.iconst 1, 1) := by decide +kernel
theorem dX8_wayTo_134 : decode cX8_wayTo 134 = .ok (.iadd, 1) := by decide +kernel
theorem dX8_wayTo_135 : decode cX8_wayTo 135 = .ok (.imul, 1) := by decide +kernel
theorem dX8_wayTo_136 : decode cX8_wayTo 136 = .ok (.iload 9, 2) := by decide +kernel
theorem dX8_wayTo_138 : decode cX8_wayTo 138 = .ok (.iadd, 1) := by decide +kernel
theorem dX8_wayTo_139 : decode cX8_wayTo 139 = .ok (.iaload, 1) := by decide +kernel
theorem dX8_wayTo_140 : decode cX8_wayTo 140 = .ok (.iconst 1, 1) := by decide +kernel
theorem dX8_wayTo_141 : decode cX8_wayTo 141 = .ok (.iadd, 1) := by decide +kernel
theorem dX8_wayTo_142 : decode cX8_wayTo 142 = .ok (.goto 5, 3) := by decide +kernel
theorem dX8_wayTo_145 : decode cX8_wayTo 145 = .ok (.ldc 240, 2) := by decide +kernel
theorem dX8_wayTo_147 : decode cX8_wayTo 147 = .ok (.istore 10, 2) := by decide +kernel
theorem dX8_wayTo_149 : decode cX8_wayTo 149 = .ok (.iload 10, 2) := by decide +kernel
theorem dX8_wayTo_151 : decode cX8_wayTo 151 = .ok (.iload 8, 2) := by decide +kernel
theorem dX8_wayTo_153 : decode cX8_wayTo 153 = .ok (.if_icmp .ge 8, 3) := by decide +kernel
theorem dX8_wayTo_156 : decode cX8_wayTo 156 = .ok (.iload 10, 2) := by decide +kernel
theorem dX8_wayTo_158 : decode cX8_wayTo 158 = .ok (.goto 5, 3) := by decide +kernel
theorem dX8_wayTo_161 : decode cX8_wayTo 161 = .ok (.iload 8, 2) := by decide +kernel
theorem dX8_wayTo_163 : decode cX8_wayTo 163 = .ok (.istore 8, 2) := by decide +kernel
theorem dX8_wayTo_165 : decode cX8_wayTo 165 = .ok (.iinc 9 1, 3) := by decide +kernel
theorem dX8_wayTo_168 : decode cX8_wayTo 168 = .ok (.goto (-74), 3) := by decide +kernel
theorem dX8_wayTo_171 : decode cX8_wayTo 171 = .ok (.aload_n 0, 1) := by decide +kernel
theorem dX8_wayTo_172 : decode cX8_wayTo 172 = .ok (.getfield 44, 3) := by decide +kernel
theorem dX8_wayTo_175 : decode cX8_wayTo 175 = .ok (.bipush 7, 2) := by decide +kernel
theorem dX8_wayTo_177 : decode cX8_wayTo 177 = .ok (.iload 6, 2) := by decide +kernel
theorem dX8_wayTo_179 : decode cX8_wayTo 179 = .ok (.imul, 1) := by decide +kernel
theorem dX8_wayTo_180 : decode cX8_wayTo 180 = .ok (.iload 7, 2) := by decide +kernel
theorem dX8_wayTo_182 : decode cX8_wayTo 182 = .ok (.iadd, 1) := by decide +kernel
theorem dX8_wayTo_183 : decode cX8_wayTo 183 = .ok (.iload 8, 2) := by decide +kernel
theorem dX8_wayTo_185 : decode cX8_wayTo 185 = .ok (.iastore, 1) := by decide +kernel
theorem dX8_wayTo_186 : decode cX8_wayTo 186 = .ok (.iinc 7 1, 3) := by decide +kernel
theorem dX8_wayTo_189 : decode cX8_wayTo 189 = .ok (.goto (-124), 3) := by decide +kernel
theorem dX8_wayTo_192 : decode cX8_wayTo 192 = .ok (.iinc 6 (-1), 3) := by decide +kernel
theorem dX8_wayTo_195 : decode cX8_wayTo 195 = .ok (.goto (-138), 3) := by decide +kernel
theorem dX8_wayTo_198 : decode cX8_wayTo 198 = .ok (.iload_n 1, 1) := by decide +kernel
theorem dX8_wayTo_199 : decode cX8_wayTo 199 = .ok (.istore 6, 2) := by decide +kernel
theorem dX8_wayTo_201 : decode cX8_wayTo 201 = .ok (.iconst 0, 1) := by decide +kernel
theorem dX8_wayTo_202 : decode cX8_wayTo 202 = .ok (.istore 7, 2) := by decide +kernel
theorem dX8_wayTo_204 : decode cX8_wayTo 204 = .ok (.iload 7, 2) := by decide +kernel
theorem dX8_wayTo_206 : decode cX8_wayTo 206 = .ok (.iload 4, 2) := by decide +kernel
theorem dX8_wayTo_208 : decode cX8_wayTo 208 = .ok (.if_icmp .ge 20, 3) := by decide +kernel
theorem dX8_wayTo_211 : decode cX8_wayTo 211 = .ok (.aload_n 0, 1) := by decide +kernel
theorem dX8_wayTo_212 : decode cX8_wayTo 212 = .ok (.iload 6, 2) := by decide +kernel
theorem dX8_wayTo_214 : decode cX8_wayTo 214 = .ok (.iload_n 3, 1) := by decide +kernel
theorem dX8_wayTo_215 : decode cX8_wayTo 215 = .ok (.iload 7, 2) := by decide +kernel
theorem dX8_wayTo_217 : decode cX8_wayTo 217 = .ok (.invokevirtual 245, 3) := by decide +kernel
theorem dX8_wayTo_220 : decode cX8_wayTo 220 = .ok (.istore 6, 2) := by decide +kernel
theorem dX8_wayTo_222 : decode cX8_wayTo 222 = .ok (.iinc 7 1, 3) := by decide +kernel
theorem dX8_wayTo_225 : decode cX8_wayTo 225 = .ok (.goto (-21), 3) := by decide +kernel
theorem dX8_wayTo_228 : decode cX8_wayTo 228 = .ok (.iload 6, 2) := by decide +kernel
theorem dX8_wayTo_230 : decode cX8_wayTo 230 = .ok (.ireturn, 1) := by decide +kernel
theorem dX8_nextOf_0 : decode cX8_nextOf 0 = .ok (.iconst 0, 1) := by decide +kernel
theorem dX8_nextOf_1 : decode cX8_nextOf 1 = .ok (.istore 4, 2) := by decide +kernel
theorem dX8_nextOf_3 : decode cX8_nextOf 3 = .ok (.iload 4, 2) := by decide +kernel
theorem dX8_nextOf_5 : decode cX8_nextOf 5 = .ok (.aload_n 0, 1) := by decide +kernel
theorem dX8_nextOf_6 : decode cX8_nextOf 6 = .ok (.getfield 94, 3) := by decide +kernel
theorem dX8_nextOf_9 : decode cX8_nextOf 9 = .ok (.if_icmp .ge 87, 3) := by decide +kernel
theorem dX8_nextOf_12 : decode cX8_nextOf 12 = .ok (.iload 4, 2) := by decide +kernel
theorem dX8_nextOf_14 : decode cX8_nextOf 14 = .ok (.iload_n 1, 1) := by decide +kernel
theorem dX8_nextOf_15 : decode cX8_nextOf 15 = .ok (.if_icmp .eq 16, 3) := by decide +kernel
theorem dX8_nextOf_18 : decode cX8_nextOf 18 = .ok (.aload_n 0, 1) := by decide +kernel
theorem dX8_nextOf_19 : decode cX8_nextOf 19 = .ok (.iload_n 1, 1) := by decide +kernel
theorem dX8_nextOf_20 : decode cX8_nextOf 20 = .ok (.iload 4, 2) := by decide +kernel
theorem dX8_nextOf_22 : decode cX8_nextOf 22 = .ok (.iload_n 2, 1) := by decide +kernel
theorem dX8_nextOf_23 : decode cX8_nextOf 23 = .ok (.iload_n 3, 1) := by decide +kernel
theorem dX8_nextOf_24 : decode cX8_nextOf 24 = .ok (.iadd, 1) := by decide +kernel
theorem dX8_nextOf_25 : decode cX8_nextOf 25 = .ok (.invokevirtual 223, 3) := by decide +kernel
theorem dX8_nextOf_28 : decode cX8_nextOf 28 = .ok (.ifCond .eq 7, 3) := by decide +kernel
theorem dX8_nextOf_31 : decode cX8_nextOf 31 = .ok (.iconst 1, 1) := by decide +kernel
theorem dX8_nextOf_32 : decode cX8_nextOf 32 = .ok (.goto 4, 3) := by decide +kernel
theorem dX8_nextOf_35 : decode cX8_nextOf 35 = .ok (.iconst 0, 1) := by decide +kernel
theorem dX8_nextOf_36 : decode cX8_nextOf 36 = .ok (.istore 5, 2) := by decide +kernel
theorem dX8_nextOf_38 : decode cX8_nextOf 38 = .ok (.iload 4, 2) := by decide +kernel
theorem dX8_nextOf_40 : decode cX8_nextOf 40 = .ok (.iload_n 1, 1) := by decide +kernel
theorem dX8_nextOf_41 : decode cX8_nextOf 41 = .ok (.if_icmp .ne 7, 3) := by decide +kernel
theorem dX8_nextOf_44 : decode cX8_nextOf 44 = .ok (.iconst 0, 1) := by decide +kernel
theorem dX8_nextOf_45 : decode cX8_nextOf 45 = .ok (.goto 4, 3) := by decide +kernel
theorem dX8_nextOf_48 : decode cX8_nextOf 48 = .ok (.iconst 1, 1) := by decide +kernel
theorem dX8_nextOf_49 : decode cX8_nextOf 49 = .ok (.istore 6, 2) := by decide +kernel
theorem dX8_nextOf_51 : decode cX8_nextOf 51 = .ok (.iload 5, 2) := by decide +kernel
theorem dX8_nextOf_53 : decode cX8_nextOf 53 = .ok (.ifCond .eq 37, 3) := by decide +kernel
theorem dX8_nextOf_56 : decode cX8_nextOf 56 = .ok (.aload_n 0, 1) := by decide +kernel
theorem dX8_nextOf_57 : decode cX8_nextOf 57 = .ok (.getfield 44, 3) := by decide +kernel
theorem dX8_nextOf_60 : decode cX8_nextOf 60 = .ok (.bipush 7, 2) := by decide +kernel
theorem dX8_nextOf_62 : decode cX8_nextOf 62 = .ok (.iload_n 3, 1) := by decide +kernel
theorem dX8_nextOf_63 : decode cX8_nextOf 63 = .ok (.iconst 1, 1) := by decide +kernel
theorem dX8_nextOf_64 : decode cX8_nextOf 64 = .ok (.iadd, 1) := by decide +kernel
theorem dX8_nextOf_65 : decode cX8_nextOf 65 = .ok (.imul, 1) := by decide +kernel
theorem dX8_nextOf_66 : decode cX8_nextOf 66 = .ok (.iload 4, 2) := by decide +kernel
theorem dX8_nextOf_68 : decode cX8_nextOf 68 = .ok (.iadd, 1) := by decide +kernel
theorem dX8_nextOf_69 : decode cX8_nextOf 69 = .ok (.iaload, 1) := by decide +kernel
theorem dX8_nextOf_70 : decode cX8_nextOf 70 = .ok (.iload 6, 2) := by decide +kernel
theorem dX8_nextOf_72 : decode cX8_nextOf 72 = .ok (.iadd, 1) := by decide +kernel
theorem dX8_nextOf_73 : decode cX8_nextOf 73 = .ok (.aload_n 0, 1) := by decide +kernel
theorem dX8_nextOf_74 : decode cX8_nextOf 74 = .ok (.getfield 44, 3) := by decide +kernel
theorem dX8_nextOf_77 : decode cX8_nextOf 77 = .ok (.bipush 7, 2) := by decide +kernel
theorem dX8_nextOf_79 : decode cX8_nextOf 79 = .ok (.iload_n 3, 1) := by decide +kernel
theorem dX8_nextOf_80 : decode cX8_nextOf 80 = .ok (.imul, 1) := by decide +kernel
theorem dX8_nextOf_81 : decode cX8_nextOf 81 = .ok (.iload_n 1, 1) := by decide +kernel
theorem dX8_nextOf_82 : decode cX8_nextOf 82 = .ok (.iadd, 1) := by decide +kernel
theorem dX8_nextOf_83 : decode cX8_nextOf 83 = .ok (.iaload, 1) := by decide +kernel
theorem dX8_nextOf_84 : decode cX8_nextOf 84 = .ok (.if_icmp .ne 6, 3) := by decide +kernel
theorem dX8_nextOf_87 : decode cX8_nextOf 87 = .ok (.iload 4, 2) := by decide +kernel
theorem dX8_nextOf_89 : decode cX8_nextOf 89 = .ok (.ireturn, 1) := by decide +kernel
theorem dX8_nextOf_90 : decode cX8_nextOf 90 = .ok (.iinc 4 1, 3) := by decide +kernel
theorem dX8_nextOf_93 : decode cX8_nextOf 93 = .ok (.goto (-90), 3) := by decide +kernel
theorem dX8_nextOf_96 : decode cX8_nextOf 96 = .ok (.iconst (-1), 1) := by decide +kernel
theorem dX8_nextOf_97 : decode cX8_nextOf 97 = .ok (.ireturn, 1) := by decide +kernel
theorem dX8_way_0 : decode cX8_way 0 = .ok (.aload_n 0, 1) := by decide +kernel
theorem dX8_way_1 : decode cX8_way 1 = .ok (.iload_n 1, 1) := by decide +kernel
theorem dX8_way_2 : decode cX8_way 2 = .ok (.invokevirtual 220, 3) := by decide +kernel
theorem dX8_way_5 : decode cX8_way 5 = .ok (.ifCond .eq 14, 3) := by decide +kernel
theorem dX8_way_8 : decode cX8_way 8 = .ok (.iload_n 2, 1) := by decide +kernel
theorem dX8_way_9 : decode cX8_way 9 = .ok (.invokestatic 153, 3) := by decide +kernel
theorem dX8_way_12 : decode cX8_way 12 = .ok (.ifCond .eq 7, 3) := by decide +kernel
theorem dX8_way_15 : decode cX8_way 15 = .ok (.iload_n 3, 1) := by decide +kernel
theorem dX8_way_16 : decode cX8_way 16 = .ok (.ifCond .ge 5, 3) := by decide +kernel
theorem dX8_way_19 : decode cX8_way 19 = .ok (.iconst (-1), 1) := by decide +kernel
theorem dX8_way_20 : decode cX8_way 20 = .ok (.ireturn, 1) := by decide +kernel
theorem dX8_way_21 : decode cX8_way 21 = .ok (.aload_n 0, 1) := by decide +kernel
theorem dX8_way_22 : decode cX8_way 22 = .ok (.iload_n 1, 1) := by decide +kernel
theorem dX8_way_23 : decode cX8_way 23 = .ok (.bipush 10, 2) := by decide +kernel
theorem dX8_way_25 : decode cX8_way 25 = .ok (.irem, 1) := by decide +kernel
theorem dX8_way_26 : decode cX8_way 26 = .ok (.iload_n 2, 1) := by decide +kernel
theorem dX8_way_27 : decode cX8_way 27 = .ok (.invokevirtual 241, 3) := by decide +kernel
theorem dX8_way_30 : decode cX8_way 30 = .ok (.aload_n 0, 1) := by decide +kernel
theorem dX8_way_31 : decode cX8_way 31 = .ok (.getfield 38, 3) := by decide +kernel
theorem dX8_way_34 : decode cX8_way 34 = .ok (.iload_n 1, 1) := by decide +kernel
theorem dX8_way_35 : decode cX8_way 35 = .ok (.bipush 10, 2) := by decide +kernel
theorem dX8_way_37 : decode cX8_way 37 = .ok (.idiv, 1) := by decide +kernel
theorem dX8_way_38 : decode cX8_way 38 = .ok (.iaload, 1) := by decide +kernel
theorem dX8_way_39 : decode cX8_way 39 = .ok (.istore 4, 2) := by decide +kernel
theorem dX8_way_41 : decode cX8_way 41 = .ok (.iload 4, 2) := by decide +kernel
theorem dX8_way_43 : decode cX8_way 43 = .ok (.ldc 240, 2) := by decide +kernel
theorem dX8_way_45 : decode cX8_way 45 = .ok (.if_icmp .ne 6, 3) := by decide +kernel
theorem dX8_way_48 : decode cX8_way 48 = .ok (.bipush (-2), 2) := by decide +kernel
theorem dX8_way_50 : decode cX8_way 50 = .ok (.ireturn, 1) := by decide +kernel
theorem dX8_way_51 : decode cX8_way 51 = .ok (.iload_n 3, 1) := by decide +kernel
theorem dX8_way_52 : decode cX8_way 52 = .ok (.iload 4, 2) := by decide +kernel
theorem dX8_way_54 : decode cX8_way 54 = .ok (.if_icmp .le 7, 3) := by decide +kernel
theorem dX8_way_57 : decode cX8_way 57 = .ok (.iconst (-1), 1) := by decide +kernel
theorem dX8_way_58 : decode cX8_way 58 = .ok (.goto 17, 3) := by decide +kernel
theorem dX8_way_61 : decode cX8_way 61 = .ok (.aload_n 0, 1) := by decide +kernel
theorem dX8_way_62 : decode cX8_way 62 = .ok (.iload_n 1, 1) := by decide +kernel
theorem dX8_way_63 : decode cX8_way 63 = .ok (.bipush 10, 2) := by decide +kernel
theorem dX8_way_65 : decode cX8_way 65 = .ok (.idiv, 1) := by decide +kernel
theorem dX8_way_66 : decode cX8_way 66 = .ok (.iload_n 1, 1) := by decide +kernel
theorem dX8_way_67 : decode cX8_way 67 = .ok (.bipush 10, 2) := by decide +kernel
theorem dX8_way_69 : decode cX8_way 69 = .ok (.irem, 1) := by decide +kernel
theorem dX8_way_70 : decode cX8_way 70 = .ok (.iload_n 2, 1) := by decide +kernel
theorem dX8_way_71 : decode cX8_way 71 = .ok (.iload_n 3, 1) := by decide +kernel
theorem dX8_way_72 : decode cX8_way 72 = .ok (.invokevirtual 249, 3) := by decide +kernel
theorem dX8_way_75 : decode cX8_way 75 = .ok (.ireturn, 1) := by decide +kernel
theorem dX8_waitOf_0 : decode cX8_waitOf 0 = .ok (.aload_n 0, 1) := by decide +kernel
theorem dX8_waitOf_1 : decode cX8_waitOf 1 = .ok (.iload_n 3, 1) := by decide +kernel
theorem dX8_waitOf_2 : decode cX8_waitOf 2 = .ok (.invokevirtual 226, 3) := by decide +kernel
theorem dX8_waitOf_5 : decode cX8_waitOf 5 = .ok (.aload_n 0, 1) := by decide +kernel
theorem dX8_waitOf_6 : decode cX8_waitOf 6 = .ok (.iload_n 3, 1) := by decide +kernel
theorem dX8_waitOf_7 : decode cX8_waitOf 7 = .ok (.invokevirtual 149, 3) := by decide +kernel
theorem dX8_waitOf_10 : decode cX8_waitOf 10 = .ok (.istore 4, 2) := by decide +kernel
theorem dX8_waitOf_12 : decode cX8_waitOf 12 = .ok (.iconst 0, 1) := by decide +kernel
theorem dX8_waitOf_13 : decode cX8_waitOf 13 = .ok (.istore 5, 2) := by decide +kernel
theorem dX8_waitOf_15 : decode cX8_waitOf 15 = .ok (.iload 5, 2) := by decide +kernel
theorem dX8_waitOf_17 : decode cX8_waitOf 17 = .ok (.iload_n 3, 1) := by decide +kernel
theorem dX8_waitOf_18 : decode cX8_waitOf 18 = .ok (.if_icmp .ge 28, 3) := by decide +kernel
theorem dX8_waitOf_21 : decode cX8_waitOf 21 = .ok (.aload_n 0, 1) := by decide +kernel
theorem dX8_waitOf_22 : decode cX8_waitOf 22 = .ok (.getfield 50, 3) := by decide +kernel
theorem dX8_waitOf_25 : decode cX8_waitOf 25 = .ok (.iload 5, 2) := by decide +kernel
theorem dX8_waitOf_27 : decode cX8_waitOf 27 = .ok (.iload 5, 2) := by decide +kernel
theorem dX8_waitOf_29 : decode cX8_waitOf 29 = .ok (.iload_n 2, 1) := by decide +kernel
theorem dX8_waitOf_30 : decode cX8_waitOf 30 = .ok (.if_icmp .ne 7, 3) := by decide +kernel
theorem dX8_waitOf_33 : decode cX8_waitOf 33 = .ok (.iconst 0, 1) := by decide +kernel
theorem dX8_waitOf_34 : decode cX8_waitOf 34 = .ok (.goto 5, 3) := by decide +kernel
theorem dX8_waitOf_37 : decode cX8_waitOf 37 = .ok (.ldc 240, 2) := by decide +kernel
theorem dX8_waitOf_39 : decode cX8_waitOf 39 = .ok (.iastore, 1) := by decide +kernel
theorem dX8_waitOf_40 : decode cX8_waitOf 40 = .ok (.iinc 5 1, 3) := by decide +kernel
theorem dX8_waitOf_43 : decode cX8_waitOf 43 = .ok (.goto (-28), 3) := by decide +kernel
theorem dX8_waitOf_46 : decode cX8_waitOf 46 = .ok (.iconst 0, 1) := by decide +kernel
theorem dX8_waitOf_47 : decode cX8_waitOf 47 = .ok (.istore 5, 2) := by decide +kernel
theorem dX8_waitOf_49 : decode cX8_waitOf 49 = .ok (.iload 4, 2) := by decide +kernel
theorem dX8_waitOf_51 : decode cX8_waitOf 51 = .ok (.sipush 600, 3) := by decide +kernel
theorem dX8_waitOf_54 : decode cX8_waitOf 54 = .ok (.iadd, 1) := by decide +kernel
theorem dX8_waitOf_55 : decode cX8_waitOf 55 = .ok (.istore 6, 2) := by decide +kernel
theorem dX8_waitOf_57 : decode cX8_waitOf 57 = .ok (.iload 6, 2) := by decide +kernel
theorem dX8_waitOf_59 : decode cX8_waitOf 59 = .ok (.ifCond .lt 194, 3) := by decide +kernel
theorem dX8_waitOf_62 : decode cX8_waitOf 62 = .ok (.iconst 0, 1) := by decide +kernel
theorem dX8_waitOf_63 : decode cX8_waitOf 63 = .ok (.istore 7, 2) := by decide +kernel
theorem dX8_waitOf_65 : decode cX8_waitOf 65 = .ok (.iload 7, 2) := by decide +kernel
theorem dX8_waitOf_67 : decode cX8_waitOf 67 = .ok (.iload_n 3, 1) := by decide +kernel
theorem dX8_waitOf_68 : decode cX8_waitOf 68 = .ok (.if_icmp .ge 118, 3) := by decide +kernel
theorem dX8_waitOf_71 : decode cX8_waitOf 71 = .ok (.aload_n 0, 1) := by decide +kernel
theorem dX8_waitOf_72 : decode cX8_waitOf 72 = .ok (.getfield 50, 3) := by decide +kernel
theorem dX8_waitOf_75 : decode cX8_waitOf 75 = .ok (.iload 7, 2) := by decide +kernel
theorem dX8_waitOf_77 : decode cX8_waitOf 77 = .ok (.iaload, 1) := by decide +kernel
theorem dX8_waitOf_78 : decode cX8_waitOf 78 = .ok (.iconst 1, 1) := by decide +kernel
theorem dX8_waitOf_79 : decode cX8_waitOf 79 = .ok (.iadd, 1) := by decide +kernel
theorem dX8_waitOf_80 : decode cX8_waitOf 80 = .ok (.istore 8, 2) := by decide +kernel
theorem dX8_waitOf_82 : decode cX8_waitOf 82 = .ok (.iconst 0, 1) := by decide +kernel
theorem dX8_waitOf_83 : decode cX8_waitOf 83 = .ok (.istore 9, 2) := by decide +kernel
theorem dX8_waitOf_85 : decode cX8_waitOf 85 = .ok (.iload 9, 2) := by decide +kernel
theorem dX8_waitOf_87 : decode cX8_waitOf 87 = .ok (.iload_n 3, 1) := by decide +kernel
theorem dX8_waitOf_88 : decode cX8_waitOf 88 = .ok (.if_icmp .ge 61, 3) := by decide +kernel
theorem dX8_waitOf_91 : decode cX8_waitOf 91 = .ok (.iload 9, 2) := by decide +kernel
theorem dX8_waitOf_93 : decode cX8_waitOf 93 = .ok (.iload 7, 2) := by decide +kernel
theorem dX8_waitOf_95 : decode cX8_waitOf 95 = .ok (.if_icmp .eq 28, 3) := by decide +kernel
theorem dX8_waitOf_98 : decode cX8_waitOf 98 = .ok (.aload_n 0, 1) := by decide +kernel
theorem dX8_waitOf_99 : decode cX8_waitOf 99 = .ok (.iload 7, 2) := by decide +kernel
theorem dX8_waitOf_101 : decode cX8_waitOf 101 = .ok (.iload 9, 2) := by decide +kernel
theorem dX8_waitOf_103 : decode cX8_waitOf 103 = .ok (.iload 6, 2) := by decide +kernel
theorem dX8_waitOf_105 : decode cX8_waitOf 105 = .ok (.invokevirtual 223, 3) := by decide +kernel
theorem dX8_waitOf_108 : decode cX8_waitOf 108 = .ok (.ifCond .eq 15, 3) := by decide +kernel
theorem dX8_waitOf_111 : decode cX8_waitOf 111 = .ok (.aload_n 0, 1) := by decide +kernel
theorem dX8_waitOf_112 : decode cX8_waitOf 112 = .ok (.getfield 50, 3) := by decide +kernel
theorem dX8_waitOf_115 : decode cX8_waitOf 115 = .ok (.iload 9, 2) := by decide +kernel
theorem dX8_waitOf_117 : decode cX8_waitOf 117 = .ok (.iaload, 1) := by decide +kernel
theorem dX8_waitOf_118 : decode cX8_waitOf 118 = .ok (.iconst 1, 1) := by decide +kernel
theorem dX8_waitOf_119 : decode cX8_waitOf 119 = .ok (.iadd, 1) := by decide +kernel
theorem dX8_waitOf_120 : decode cX8_waitOf 120 = .ok (.goto 5, 3) := by decide +kernel
theorem dX8_waitOf_123 : decode cX8_waitOf 123 = .ok (.ldc 240, 2) := by decide +kernel
theorem dX8_waitOf_125 : decode cX8_waitOf 125 = .ok (.istore 10, 2) := by decide +kernel
theorem dX8_waitOf_127 : decode cX8_waitOf 127 = .ok (.iload 10, 2) := by decide +kernel
theorem dX8_waitOf_129 : decode cX8_waitOf 129 = .ok (.iload 8, 2) := by decide +kernel
theorem dX8_waitOf_131 : decode cX8_waitOf 131 = .ok (.if_icmp .ge 8, 3) := by decide +kernel
theorem dX8_waitOf_134 : decode cX8_waitOf 134 = .ok (.iload 10, 2) := by decide +kernel
theorem dX8_waitOf_136 : decode cX8_waitOf 136 = .ok (.goto 5, 3) := by decide +kernel
theorem dX8_waitOf_139 : decode cX8_waitOf 139 = .ok (.iload 8, 2) := by decide +kernel
theorem dX8_waitOf_141 : decode cX8_waitOf 141 = .ok (.istore 8, 2) := by decide +kernel
theorem dX8_waitOf_143 : decode cX8_waitOf 143 = .ok (.iinc 9 1, 3) := by decide +kernel
theorem dX8_waitOf_146 : decode cX8_waitOf 146 = .ok (.goto (-61), 3) := by decide +kernel
theorem dX8_waitOf_149 : decode cX8_waitOf 149 = .ok (.aload_n 0, 1) := by decide +kernel
theorem dX8_waitOf_150 : decode cX8_waitOf 150 = .ok (.getfield 47, 3) := by decide +kernel
theorem dX8_waitOf_153 : decode cX8_waitOf 153 = .ok (.iload 7, 2) := by decide +kernel
theorem dX8_waitOf_155 : decode cX8_waitOf 155 = .ok (.iload 7, 2) := by decide +kernel
theorem dX8_waitOf_157 : decode cX8_waitOf 157 = .ok (.iload_n 2, 1) := by decide +kernel
theorem dX8_waitOf_158 : decode cX8_waitOf 158 = .ok (.if_icmp .ne 7, 3) := by decide +kernel
theorem dX8_waitOf_161 : decode cX8_waitOf 161 = .ok (.iconst 0, 1) := by decide +kernel
theorem dX8_waitOf_162 : decode cX8_waitOf 162 = .ok (.goto 17, 3) := by decide +kernel
theorem dX8_waitOf_165 : decode cX8_waitOf 165 = .ok (.iload 8, 2) := by decide +kernel
theorem dX8_waitOf_167 : decode cX8_waitOf 167 = .ok (.ldc 240, 2) := by decide +kernel
theorem dX8_waitOf_169 : decode cX8_waitOf 169 = .ok (.if_icmp .ge 8, 3) := by decide +kernel
theorem dX8_waitOf_172 : decode cX8_waitOf 172 = .ok (.iload 8, 2) := by decide +kernel
theorem dX8_waitOf_174 : decode cX8_waitOf 174 = .ok (.goto 5, 3) := by decide +kernel
theorem dX8_waitOf_177 : decode cX8_waitOf 177 = .ok (.ldc 240, 2) := by decide +kernel
theorem dX8_waitOf_179 : decode cX8_waitOf 179 = .ok (.iastore, 1) := by decide +kernel
theorem dX8_waitOf_180 : decode cX8_waitOf 180 = .ok (.iinc 7 1, 3) := by decide +kernel
theorem dX8_waitOf_183 : decode cX8_waitOf 183 = .ok (.goto (-118), 3) := by decide +kernel
theorem dX8_waitOf_186 : decode cX8_waitOf 186 = .ok (.iconst 0, 1) := by decide +kernel
theorem dX8_waitOf_187 : decode cX8_waitOf 187 = .ok (.istore 7, 2) := by decide +kernel
theorem dX8_waitOf_189 : decode cX8_waitOf 189 = .ok (.iload 7, 2) := by decide +kernel
theorem dX8_waitOf_191 : decode cX8_waitOf 191 = .ok (.iload_n 3, 1) := by decide +kernel
theorem dX8_waitOf_192 : decode cX8_waitOf 192 = .ok (.if_icmp .ge 23, 3) := by decide +kernel
theorem dX8_waitOf_195 : decode cX8_waitOf 195 = .ok (.aload_n 0, 1) := by decide +kernel
theorem dX8_waitOf_196 : decode cX8_waitOf 196 = .ok (.getfield 50, 3) := by decide +kernel
theorem dX8_waitOf_199 : decode cX8_waitOf 199 = .ok (.iload 7, 2) := by decide +kernel
theorem dX8_waitOf_201 : decode cX8_waitOf 201 = .ok (.aload_n 0, 1) := by decide +kernel
theorem dX8_waitOf_202 : decode cX8_waitOf 202 = .ok (.getfield 47, 3) := by decide +kernel
theorem dX8_waitOf_205 : decode cX8_waitOf 205 = .ok (.iload 7, 2) := by decide +kernel
theorem dX8_waitOf_207 : decode cX8_waitOf 207 = .ok (.iaload, 1) := by decide +kernel
theorem dX8_waitOf_208 : decode cX8_waitOf 208 = .ok (.iastore, 1) := by decide +kernel
theorem dX8_waitOf_209 : decode cX8_waitOf 209 = .ok (.iinc 7 1, 3) := by decide +kernel
theorem dX8_waitOf_212 : decode cX8_waitOf 212 = .ok (.goto (-23), 3) := by decide +kernel
theorem dX8_waitOf_215 : decode cX8_waitOf 215 = .ok (.iload 6, 2) := by decide +kernel
theorem dX8_waitOf_217 : decode cX8_waitOf 217 = .ok (.iload 4, 2) := by decide +kernel
theorem dX8_waitOf_219 : decode cX8_waitOf 219 = .ok (.if_icmp .ge 28, 3) := by decide +kernel
theorem dX8_waitOf_222 : decode cX8_waitOf 222 = .ok (.aload_n 0, 1) := by decide +kernel
theorem dX8_waitOf_223 : decode cX8_waitOf 223 = .ok (.getfield 47, 3) := by decide +kernel
theorem dX8_waitOf_226 : decode cX8_waitOf 226 = .ok (.iload_n 1, 1) := by decide +kernel
theorem dX8_waitOf_227 : decode cX8_waitOf 227 = .ok (.iaload, 1) := by decide +kernel
theorem dX8_waitOf_228 : decode cX8_waitOf 228 = .ok (.iload 5, 2) := by decide +kernel
theorem dX8_waitOf_230 : decode cX8_waitOf 230 = .ok (.if_icmp .lt 17, 3) := by decide +kernel
theorem dX8_waitOf_233 : decode cX8_waitOf 233 = .ok (.aload_n 0, 1) := by decide +kernel
theorem dX8_waitOf_234 : decode cX8_waitOf 234 = .ok (.getfield 47, 3) := by decide +kernel
theorem dX8_waitOf_237 : decode cX8_waitOf 237 = .ok (.iload_n 1, 1) := by decide +kernel
theorem dX8_waitOf_238 : decode cX8_waitOf 238 = .ok (.iaload, 1) := by decide +kernel
theorem dX8_waitOf_239 : decode cX8_waitOf 239 = .ok (.istore 5, 2) := by decide +kernel
theorem dX8_waitOf_241 : decode cX8_waitOf 241 = .ok (.aload_n 0, 1) := by decide +kernel
theorem dX8_waitOf_242 : decode cX8_waitOf 242 = .ok (.iload 6, 2) := by decide +kernel
theorem dX8_waitOf_244 : decode cX8_waitOf 244 = .ok (.putfield 253, 3) := by decide +kernel
theorem dX8_waitOf_247 : decode cX8_waitOf 247 = .ok (.iinc 6 (-1), 3) := by decide +kernel
theorem dX8_waitOf_250 : decode cX8_waitOf 250 = .ok (.goto (-193), 3) := by decide +kernel
theorem dX8_waitOf_253 : decode cX8_waitOf 253 = .ok (.iload 5, 2) := by decide +kernel
theorem dX8_waitOf_255 : decode cX8_waitOf 255 = .ok (.sipush 600, 3) := by decide +kernel
theorem dX8_waitOf_258 : decode cX8_waitOf 258 = .ok (.if_icmp .le 8, 3) := by decide +kernel
theorem dX8_waitOf_261 : decode cX8_waitOf 261 = .ok (.bipush (-2), 2) := by decide +kernel
theorem dX8_waitOf_263 : decode cX8_waitOf 263 = .ok (.goto 5, 3) := by decide +kernel
theorem dX8_waitOf_266 : decode cX8_waitOf 266 = .ok (.iload 5, 2) := by decide +kernel
theorem dX8_waitOf_268 : decode cX8_waitOf 268 = .ok (.ireturn, 1) := by decide +kernel
theorem dX8_waits_0 : decode cX8_waits 0 = .ok (.aload_n 0, 1) := by decide +kernel
theorem dX8_waits_1 : decode cX8_waits 1 = .ok (.iload_n 1, 1) := by decide +kernel
theorem dX8_waits_2 : decode cX8_waits 2 = .ok (.invokevirtual 220, 3) := by decide +kernel
theorem dX8_waits_5 : decode cX8_waits 5 = .ok (.ifCond .eq 13, 3) := by decide +kernel
theorem dX8_waits_8 : decode cX8_waits 8 = .ok (.iload_n 2, 1) := by decide +kernel
theorem dX8_waits_9 : decode cX8_waits 9 = .ok (.i2l, 1) := by decide +kernel
theorem dX8_waits_10 : decode cX8_waits 10 = .ok (.lconst 0, 1) := by decide +kernel
theorem dX8_waits_11 : decode cX8_waits 11 = .ok (.lconst 1, 1) := by decide +kernel
theorem dX8_waits_12 : decode cX8_waits 12 = .ok (.invokestatic 97, 3) := by decide +kernel
theorem dX8_waits_15 : decode cX8_waits 15 = .ok (.ifCond .ne 5, 3) := by decide +kernel
theorem dX8_waits_18 : decode cX8_waits 18 = .ok (.iconst (-1), 1) := by decide +kernel
theorem dX8_waits_19 : decode cX8_waits 19 = .ok (.ireturn, 1) := by decide +kernel
theorem dX8_waits_20 : decode cX8_waits 20 = .ok (.aload_n 0, 1) := by decide +kernel
theorem dX8_waits_21 : decode cX8_waits 21 = .ok (.iload_n 1, 1) := by decide +kernel
theorem dX8_waits_22 : decode cX8_waits 22 = .ok (.bipush 10, 2) := by decide +kernel
theorem dX8_waits_24 : decode cX8_waits 24 = .ok (.idiv, 1) := by decide +kernel
theorem dX8_waits_25 : decode cX8_waits 25 = .ok (.iload_n 1, 1) := by decide +kernel
theorem dX8_waits_26 : decode cX8_waits 26 = .ok (.bipush 10, 2) := by decide +kernel
theorem dX8_waits_28 : decode cX8_waits 28 = .ok (.irem, 1) := by decide +kernel
theorem dX8_waits_29 : decode cX8_waits 29 = .ok (.aload_n 0, 1) := by decide +kernel
theorem dX8_waits_30 : decode cX8_waits 30 = .ok (.getfield 94, 3) := by decide +kernel
theorem dX8_waits_33 : decode cX8_waits 33 = .ok (.invokevirtual 256, 3) := by decide +kernel
theorem dX8_waits_36 : decode cX8_waits 36 = .ok (.istore_n 3, 1) := by decide +kernel
theorem dX8_waits_37 : decode cX8_waits 37 = .ok (.iload_n 2, 1) := by decide +kernel
theorem dX8_waits_38 : decode cX8_waits 38 = .ok (.ifCond .eq 7, 3) := by decide +kernel
theorem dX8_waits_41 : decode cX8_waits 41 = .ok (.iload_n 3, 1) := by decide +kernel
theorem dX8_waits_42 : decode cX8_waits 42 = .ok (.ifCond .ge 7, 3) := by decide +kernel
theorem dX8_waits_45 : decode cX8_waits 45 = .ok (.iload_n 3, 1) := by decide +kernel
theorem dX8_waits_46 : decode cX8_waits 46 = .ok (.goto 7, 3) := by decide +kernel
theorem dX8_waits_49 : decode cX8_waits 49 = .ok (.aload_n 0, 1) := by decide +kernel
theorem dX8_waits_50 : decode cX8_waits 50 = .ok (.getfield 253, 3) := by decide +kernel
theorem dX8_waits_53 : decode cX8_waits 53 = .ok (.ireturn, 1) := by decide +kernel
theorem dX8_relay_0 : decode cX8_relay 0 = .ok (.aload_n 0, 1) := by decide +kernel
theorem dX8_relay_1 : decode cX8_relay 1 = .ok (.iload_n 1, 1) := by decide +kernel
theorem dX8_relay_2 : decode cX8_relay 2 = .ok (.invokevirtual 220, 3) := by decide +kernel
theorem dX8_relay_5 : decode cX8_relay 5 = .ok (.ifCond .eq 34, 3) := by decide +kernel
theorem dX8_relay_8 : decode cX8_relay 8 = .ok (.iload_n 2, 1) := by decide +kernel
theorem dX8_relay_9 : decode cX8_relay 9 = .ok (.ifCond .lt 30, 3) := by decide +kernel
theorem dX8_relay_12 : decode cX8_relay 12 = .ok (.iload_n 2, 1) := by decide +kernel
theorem dX8_relay_13 : decode cX8_relay 13 = .ok (.bipush 10, 2) := by decide +kernel
theorem dX8_relay_15 : decode cX8_relay 15 = .ok (.idiv, 1) := by decide +kernel
theorem dX8_relay_16 : decode cX8_relay 16 = .ok (.i2l, 1) := by decide +kernel
theorem dX8_relay_17 : decode cX8_relay 17 = .ok (.lconst 0, 1) := by decide +kernel
theorem dX8_relay_18 : decode cX8_relay 18 = .ok (.iload_n 2, 1) := by decide +kernel
theorem dX8_relay_19 : decode cX8_relay 19 = .ok (.bipush 10, 2) := by decide +kernel
theorem dX8_relay_21 : decode cX8_relay 21 = .ok (.irem, 1) := by decide +kernel
theorem dX8_relay_22 : decode cX8_relay 22 = .ok (.i2l, 1) := by decide +kernel
theorem dX8_relay_23 : decode cX8_relay 23 = .ok (.invokestatic 111, 3) := by decide +kernel
theorem dX8_relay_26 : decode cX8_relay 26 = .ok (.ifCond .eq 13, 3) := by decide +kernel
theorem dX8_relay_29 : decode cX8_relay 29 = .ok (.iload_n 3, 1) := by decide +kernel
theorem dX8_relay_30 : decode cX8_relay 30 = .ok (.i2l, 1) := by decide +kernel
theorem dX8_relay_31 : decode cX8_relay 31 = .ok (.lconst 0, 1) := by decide +kernel
theorem dX8_relay_32 : decode cX8_relay 32 = .ok (.lconst 1, 1) := by decide +kernel
theorem dX8_relay_33 : decode cX8_relay 33 = .ok (.invokestatic 97, 3) := by decide +kernel
theorem dX8_relay_36 : decode cX8_relay 36 = .ok (.ifCond .ne 5, 3) := by decide +kernel
theorem dX8_relay_39 : decode cX8_relay 39 = .ok (.iconst (-1), 1) := by decide +kernel
theorem dX8_relay_40 : decode cX8_relay 40 = .ok (.ireturn, 1) := by decide +kernel
theorem dX8_relay_41 : decode cX8_relay 41 = .ok (.aload_n 0, 1) := by decide +kernel
theorem dX8_relay_42 : decode cX8_relay 42 = .ok (.getfield 9, 3) := by decide +kernel
theorem dX8_relay_45 : decode cX8_relay 45 = .ok (.aload_n 0, 1) := by decide +kernel
theorem dX8_relay_46 : decode cX8_relay 46 = .ok (.getfield 94, 3) := by decide +kernel
theorem dX8_relay_49 : decode cX8_relay 49 = .ok (.iaload, 1) := by decide +kernel
theorem dX8_relay_50 : decode cX8_relay 50 = .ok (.istore 4, 2) := by decide +kernel
theorem dX8_relay_52 : decode cX8_relay 52 = .ok (.aload_n 0, 1) := by decide +kernel
theorem dX8_relay_53 : decode cX8_relay 53 = .ok (.getfield 9, 3) := by decide +kernel
theorem dX8_relay_56 : decode cX8_relay 56 = .ok (.bipush 7, 2) := by decide +kernel
theorem dX8_relay_58 : decode cX8_relay 58 = .ok (.aload_n 0, 1) := by decide +kernel
theorem dX8_relay_59 : decode cX8_relay 59 = .ok (.getfield 94, 3) := by decide +kernel
theorem dX8_relay_62 : decode cX8_relay 62 = .ok (.iadd, 1) := by decide +kernel
theorem dX8_relay_63 : decode cX8_relay 63 = .ok (.iaload, 1) := by decide +kernel
theorem dX8_relay_64 : decode cX8_relay 64 = .ok (.istore 5, 2) := by decide +kernel
theorem dX8_relay_66 : decode cX8_relay 66 = .ok (.aload_n 0, 1) := by decide +kernel
theorem dX8_relay_67 : decode cX8_relay 67 = .ok (.getfield 9, 3) := by decide +kernel
theorem dX8_relay_70 : decode cX8_relay 70 = .ok (.bipush 14, 2) := by decide +kernel
theorem dX8_relay_72 : decode cX8_relay 72 = .ok (.aload_n 0, 1) := by decide +kernel
theorem dX8_relay_73 : decode cX8_relay 73 = .ok (.getfield 94, 3) := by decide +kernel
theorem dX8_relay_76 : decode cX8_relay 76 = .ok (.iadd, 1) := by decide +kernel
theorem dX8_relay_77 : decode cX8_relay 77 = .ok (.iaload, 1) := by decide +kernel
theorem dX8_relay_78 : decode cX8_relay 78 = .ok (.istore 6, 2) := by decide +kernel
theorem dX8_relay_80 : decode cX8_relay 80 = .ok (.aload_n 0, 1) := by decide +kernel
theorem dX8_relay_81 : decode cX8_relay 81 = .ok (.getfield 9, 3) := by decide +kernel
theorem dX8_relay_84 : decode cX8_relay 84 = .ok (.aload_n 0, 1) := by decide +kernel
theorem dX8_relay_85 : decode cX8_relay 85 = .ok (.getfield 94, 3) := by decide +kernel
theorem dX8_relay_88 : decode cX8_relay 88 = .ok (.iload_n 2, 1) := by decide +kernel
theorem dX8_relay_89 : decode cX8_relay 89 = .ok (.bipush 10, 2) := by decide +kernel
theorem dX8_relay_91 : decode cX8_relay 91 = .ok (.idiv, 1) := by decide +kernel
theorem dX8_relay_92 : decode cX8_relay 92 = .ok (.iastore, 1) := by decide +kernel
theorem dX8_relay_93 : decode cX8_relay 93 = .ok (.aload_n 0, 1) := by decide +kernel
theorem dX8_relay_94 : decode cX8_relay 94 = .ok (.getfield 9, 3) := by decide +kernel
theorem dX8_relay_97 : decode cX8_relay 97 = .ok (.bipush 14, 2) := by decide +kernel
theorem dX8_relay_99 : decode cX8_relay 99 = .ok (.aload_n 0, 1) := by decide +kernel
theorem dX8_relay_100 : decode cX8_relay 100 = .ok (.getfield 94, 3) := by decide +kernel
theorem dX8_relay_103 : decode cX8_relay 103 = .ok (.iadd, 1) := by decide +kernel
theorem dX8_relay_104 : decode cX8_relay 104 = .ok (.iload_n 2, 1) := by decide +kernel
theorem dX8_relay_105 : decode cX8_relay 105 = .ok (.bipush 10, 2) := by decide +kernel
theorem dX8_relay_107 : decode cX8_relay 107 = .ok (.irem, 1) := by decide +kernel
theorem dX8_relay_108 : decode cX8_relay 108 = .ok (.iastore, 1) := by decide +kernel
theorem dX8_relay_109 : decode cX8_relay 109 = .ok (.bipush (-2), 2) := by decide +kernel
theorem dX8_relay_111 : decode cX8_relay 111 = .ok (.istore 7, 2) := by decide +kernel
theorem dX8_relay_113 : decode cX8_relay 113 = .ok (.bipush (-2), 2) := by decide +kernel
theorem dX8_relay_115 : decode cX8_relay 115 = .ok (.istore 8, 2) := by decide +kernel
theorem dX8_relay_117 : decode cX8_relay 117 = .ok (.iconst 0, 1) := by decide +kernel
theorem dX8_relay_118 : decode cX8_relay 118 = .ok (.istore 9, 2) := by decide +kernel
theorem dX8_relay_120 : decode cX8_relay 120 = .ok (.iload 9, 2) := by decide +kernel
theorem dX8_relay_122 : decode cX8_relay 122 = .ok (.iload_n 2, 1) := by decide +kernel
theorem dX8_relay_123 : decode cX8_relay 123 = .ok (.bipush 10, 2) := by decide +kernel
theorem dX8_relay_125 : decode cX8_relay 125 = .ok (.idiv, 1) := by decide +kernel
theorem dX8_relay_126 : decode cX8_relay 126 = .ok (.if_icmp .ge 68, 3) := by decide +kernel
theorem dX8_relay_129 : decode cX8_relay 129 = .ok (.aload_n 0, 1) := by decide +kernel
theorem dX8_relay_130 : decode cX8_relay 130 = .ok (.getfield 9, 3) := by decide +kernel
theorem dX8_relay_133 : decode cX8_relay 133 = .ok (.bipush 7, 2) := by decide +kernel
theorem dX8_relay_135 : decode cX8_relay 135 = .ok (.aload_n 0, 1) := by decide +kernel
theorem dX8_relay_136 : decode cX8_relay 136 = .ok (.getfield 94, 3) := by decide +kernel
theorem dX8_relay_139 : decode cX8_relay 139 = .ok (.iadd, 1) := by decide +kernel
theorem dX8_relay_140 : decode cX8_relay 140 = .ok (.iload 9, 2) := by decide +kernel
theorem dX8_relay_142 : decode cX8_relay 142 = .ok (.iastore, 1) := by decide +kernel
theorem dX8_relay_143 : decode cX8_relay 143 = .ok (.aload_n 0, 1) := by decide +kernel
theorem dX8_relay_144 : decode cX8_relay 144 = .ok (.iload_n 1, 1) := by decide +kernel
theorem dX8_relay_145 : decode cX8_relay 145 = .ok (.bipush 10, 2) := by decide +kernel
theorem dX8_relay_147 : decode cX8_relay 147 = .ok (.idiv, 1) := by decide +kernel
theorem dX8_relay_148 : decode cX8_relay 148 = .ok (.iload_n 1, 1) := by decide +kernel
theorem dX8_relay_149 : decode cX8_relay 149 = .ok (.bipush 10, 2) := by decide +kernel
theorem dX8_relay_151 : decode cX8_relay 151 = .ok (.irem, 1) := by decide +kernel
theorem dX8_relay_152 : decode cX8_relay 152 = .ok (.aload_n 0, 1) := by decide +kernel
theorem dX8_relay_153 : decode cX8_relay 153 = .ok (.getfield 94, 3) := by decide +kernel
theorem dX8_relay_156 : decode cX8_relay 156 = .ok (.iconst 1, 1) := by decide +kernel
theorem dX8_relay_157 : decode cX8_relay 157 = .ok (.iadd, 1) := by decide +kernel
theorem dX8_relay_158 : decode cX8_relay 158 = .ok (.invokevirtual 256, 3) := by decide +kernel
theorem dX8_relay_161 : decode cX8_relay 161 = .ok (.istore 10, 2) := by decide +kernel
theorem dX8_relay_163 : decode cX8_relay 163 = .ok (.iload 10, 2) := by decide +kernel
theorem dX8_relay_165 : decode cX8_relay 165 = .ok (.ifCond .lt 23, 3) := by decide +kernel
theorem dX8_relay_168 : decode cX8_relay 168 = .ok (.iload 7, 2) := by decide +kernel
theorem dX8_relay_170 : decode cX8_relay 170 = .ok (.ifCond .lt 10, 3) := by decide +kernel
theorem dX8_relay_173 : decode cX8_relay 173 = .ok (.iload 10, 2) := by decide +kernel
theorem dX8_relay_175 : decode cX8_relay 175 = .ok (.iload 8, 2) := by decide +kernel
theorem dX8_relay_177 : decode cX8_relay 177 = .ok (.if_icmp .ge 11, 3) := by decide +kernel
theorem dX8_relay_180 : decode cX8_relay 180 = .ok (.iload 9, 2) := by decide +kernel
theorem dX8_relay_182 : decode cX8_relay 182 = .ok (.istore 7, 2) := by decide +kernel
theorem dX8_relay_184 : decode cX8_relay 184 = .ok (.iload 10, 2) := by decide +kernel
theorem dX8_relay_186 : decode cX8_relay 186 = .ok (.istore 8, 2) := by decide +kernel
theorem dX8_relay_188 : decode cX8_relay 188 = .ok (.iinc 9 1, 3) := by decide +kernel
theorem dX8_relay_191 : decode cX8_relay 191 = .ok (.goto (-71), 3) := by decide +kernel
theorem dX8_relay_194 : decode cX8_relay 194 = .ok (.aload_n 0, 1) := by decide +kernel
theorem dX8_relay_195 : decode cX8_relay 195 = .ok (.getfield 9, 3) := by decide +kernel
theorem dX8_relay_198 : decode cX8_relay 198 = .ok (.aload_n 0, 1) := by decide +kernel
theorem dX8_relay_199 : decode cX8_relay 199 = .ok (.getfield 94, 3) := by decide +kernel
theorem dX8_relay_202 : decode cX8_relay 202 = .ok (.iload 4, 2) := by decide +kernel
theorem dX8_relay_204 : decode cX8_relay 204 = .ok (.iastore, 1) := by decide +kernel
theorem dX8_relay_205 : decode cX8_relay 205 = .ok (.aload_n 0, 1) := by decide +kernel
theorem dX8_relay_206 : decode cX8_relay 206 = .ok (.getfield 9, 3) := by decide +kernel
theorem dX8_relay_209 : decode cX8_relay 209 = .ok (.bipush 7, 2) := by decide +kernel
theorem dX8_relay_211 : decode cX8_relay 211 = .ok (.aload_n 0, 1) := by decide +kernel
theorem dX8_relay_212 : decode cX8_relay 212 = .ok (.getfield 94, 3) := by decide +kernel
theorem dX8_relay_215 : decode cX8_relay 215 = .ok (.iadd, 1) := by decide +kernel
theorem dX8_relay_216 : decode cX8_relay 216 = .ok (.iload 5, 2) := by decide +kernel
theorem dX8_relay_218 : decode cX8_relay 218 = .ok (.iastore, 1) := by decide +kernel
theorem dX8_relay_219 : decode cX8_relay 219 = .ok (.aload_n 0, 1) := by decide +kernel
theorem dX8_relay_220 : decode cX8_relay 220 = .ok (.getfield 9, 3) := by decide +kernel
theorem dX8_relay_223 : decode cX8_relay 223 = .ok (.bipush 14, 2) := by decide +kernel
theorem dX8_relay_225 : decode cX8_relay 225 = .ok (.aload_n 0, 1) := by decide +kernel
theorem dX8_relay_226 : decode cX8_relay 226 = .ok (.getfield 94, 3) := by decide +kernel
theorem dX8_relay_229 : decode cX8_relay 229 = .ok (.iadd, 1) := by decide +kernel
theorem dX8_relay_230 : decode cX8_relay 230 = .ok (.iload 6, 2) := by decide +kernel
theorem dX8_relay_232 : decode cX8_relay 232 = .ok (.iastore, 1) := by decide +kernel
theorem dX8_relay_233 : decode cX8_relay 233 = .ok (.iload_n 3, 1) := by decide +kernel
theorem dX8_relay_234 : decode cX8_relay 234 = .ok (.ifCond .ne 8, 3) := by decide +kernel
theorem dX8_relay_237 : decode cX8_relay 237 = .ok (.iload 7, 2) := by decide +kernel
theorem dX8_relay_239 : decode cX8_relay 239 = .ok (.goto 5, 3) := by decide +kernel
theorem dX8_relay_242 : decode cX8_relay 242 = .ok (.iload 8, 2) := by decide +kernel
theorem dX8_relay_244 : decode cX8_relay 244 = .ok (.ireturn, 1) := by decide +kernel
theorem dX8_power_0 : decode cX8_power 0 = .ok (.lconst 1, 1) := by decide +kernel
theorem dX8_power_1 : decode cX8_power 1 = .ok (.lstore_n 3, 1) := by decide +kernel
theorem dX8_power_2 : decode cX8_power 2 = .ok (.iconst 0, 1) := by decide +kernel
theorem dX8_power_3 : decode cX8_power 3 = .ok (.istore 5, 2) := by decide +kernel
theorem dX8_power_5 : decode cX8_power 5 = .ok (.iload 5, 2) := by decide +kernel
theorem dX8_power_7 : decode cX8_power 7 = .ok (.iload_n 2, 1) := by decide +kernel
theorem dX8_power_8 : decode cX8_power 8 = .ok (.if_icmp .ge 13, 3) := by decide +kernel
theorem dX8_power_11 : decode cX8_power 11 = .ok (.lload_n 3, 1) := by decide +kernel
theorem dX8_power_12 : decode cX8_power 12 = .ok (.lload_n 0, 1) := by decide +kernel
theorem dX8_power_13 : decode cX8_power 13 = .ok (.lmul, 1) := by decide +kernel
theorem dX8_power_14 : decode cX8_power 14 = .ok (.lstore_n 3, 1) := by decide +kernel
theorem dX8_power_15 : decode cX8_power 15 = .ok (.iinc 5 1, 3) := by decide +kernel
theorem dX8_power_18 : decode cX8_power 18 = .ok (.goto (-13), 3) := by decide +kernel
theorem dX8_power_21 : decode cX8_power 21 = .ok (.lload_n 3, 1) := by decide +kernel
theorem dX8_power_22 : decode cX8_power 22 = .ok (.lreturn, 1) := by decide +kernel
theorem dX8_safe_0 : decode cX8_safe 0 = .ok (.aload_n 0, 1) := by decide +kernel
theorem dX8_safe_1 : decode cX8_safe 1 = .ok (.iload_n 1, 1) := by decide +kernel
theorem dX8_safe_2 : decode cX8_safe 2 = .ok (.invokevirtual 220, 3) := by decide +kernel
theorem dX8_safe_5 : decode cX8_safe 5 = .ok (.ifCond .eq 37, 3) := by decide +kernel
theorem dX8_safe_8 : decode cX8_safe 8 = .ok (.iload_n 2, 1) := by decide +kernel
theorem dX8_safe_9 : decode cX8_safe 9 = .ok (.invokestatic 153, 3) := by decide +kernel
theorem dX8_safe_12 : decode cX8_safe 12 = .ok (.ifCond .eq 30, 3) := by decide +kernel
theorem dX8_safe_15 : decode cX8_safe 15 = .ok (.iload_n 3, 1) := by decide +kernel
theorem dX8_safe_16 : decode cX8_safe 16 = .ok (.ifCond .lt 26, 3) := by decide +kernel
theorem dX8_safe_19 : decode cX8_safe 19 = .ok (.iload_n 3, 1) := by decide +kernel
theorem dX8_safe_20 : decode cX8_safe 20 = .ok (.bipush 10, 2) := by decide +kernel
theorem dX8_safe_22 : decode cX8_safe 22 = .ok (.idiv, 1) := by decide +kernel
theorem dX8_safe_23 : decode cX8_safe 23 = .ok (.i2l, 1) := by decide +kernel
theorem dX8_safe_24 : decode cX8_safe 24 = .ok (.lconst 1, 1) := by decide +kernel
theorem dX8_safe_25 : decode cX8_safe 25 = .ok (.ldc2_w 259, 3) := by decide +kernel
theorem dX8_safe_28 : decode cX8_safe 28 = .ok (.invokestatic 97, 3) := by decide +kernel
theorem dX8_safe_31 : decode cX8_safe 31 = .ok (.ifCond .eq 11, 3) := by decide +kernel
theorem dX8_safe_34 : decode cX8_safe 34 = .ok (.iload_n 3, 1) := by decide +kernel
theorem dX8_safe_35 : decode cX8_safe 35 = .ok (.bipush 10, 2) := by decide +kernel
theorem dX8_safe_37 : decode cX8_safe 37 = .ok (.irem, 1) := by decide +kernel
theorem dX8_safe_38 : decode cX8_safe 38 = .ok (.iconst 1, 1) := by decide +kernel
theorem dX8_safe_39 : decode cX8_safe 39 = .ok (.if_icmp .le 7, 3) := by decide +kernel
theorem dX8_safe_42 : decode cX8_safe 42 = .ok (.ldc2_w 263, 3) := by decide +kernel
theorem dX8_safe_45 : decode cX8_safe 45 = .ok (.lreturn, 1) := by decide +kernel
theorem dX8_safe_46 : decode cX8_safe 46 = .ok (.aload_n 0, 1) := by decide +kernel
theorem dX8_safe_47 : decode cX8_safe 47 = .ok (.iload_n 1, 1) := by decide +kernel
theorem dX8_safe_48 : decode cX8_safe 48 = .ok (.bipush 10, 2) := by decide +kernel
theorem dX8_safe_50 : decode cX8_safe 50 = .ok (.irem, 1) := by decide +kernel
theorem dX8_safe_51 : decode cX8_safe 51 = .ok (.iload_n 2, 1) := by decide +kernel
theorem dX8_safe_52 : decode cX8_safe 52 = .ok (.invokevirtual 241, 3) := by decide +kernel
theorem dX8_safe_55 : decode cX8_safe 55 = .ok (.aload_n 0, 1) := by decide +kernel
theorem dX8_safe_56 : decode cX8_safe 56 = .ok (.getfield 38, 3) := by decide +kernel
theorem dX8_safe_59 : decode cX8_safe 59 = .ok (.iload_n 1, 1) := by decide +kernel
theorem dX8_safe_60 : decode cX8_safe 60 = .ok (.bipush 10, 2) := by decide +kernel
theorem dX8_safe_62 : decode cX8_safe 62 = .ok (.idiv, 1) := by decide +kernel
theorem dX8_safe_63 : decode cX8_safe 63 = .ok (.iaload, 1) := by decide +kernel
theorem dX8_safe_64 : decode cX8_safe 64 = .ok (.ldc 240, 2) := by decide +kernel
theorem dX8_safe_66 : decode cX8_safe 66 = .ok (.if_icmp .ne 7, 3) := by decide +kernel
theorem dX8_safe_69 : decode cX8_safe 69 = .ok (.ldc2_w 263, 3) := by decide +kernel
theorem dX8_safe_72 : decode cX8_safe 72 = .ok (.lreturn, 1) := by decide +kernel
theorem dX8_safe_73 : decode cX8_safe 73 = .ok (.aload_n 0, 1) := by decide +kernel
theorem dX8_safe_74 : decode cX8_safe 74 = .ok (.iload_n 1, 1) := by decide +kernel
theorem dX8_safe_75 : decode cX8_safe 75 = .ok (.bipush 10, 2) := by decide +kernel
theorem dX8_safe_77 : decode cX8_safe 77 = .ok (.idiv, 1) := by decide +kernel
theorem dX8_safe_78 : decode cX8_safe 78 = .ok (.iload_n 1, 1) := by decide +kernel
theorem dX8_safe_79 : decode cX8_safe 79 = .ok (.bipush 10, 2) := by decide +kernel
theorem dX8_safe_81 : decode cX8_safe 81 = .ok (.irem, 1) := by decide +kernel
theorem dX8_safe_82 : decode cX8_safe 82 = .ok (.iload_n 2, 1) := by decide +kernel
theorem dX8_safe_83 : decode cX8_safe 83 = .ok (.iconst 0, 1) := by decide +kernel
theorem dX8_safe_84 : decode cX8_safe 84 = .ok (.invokevirtual 249, 3) := by decide +kernel
theorem dX8_safe_87 : decode cX8_safe 87 = .ok (.pop, 1) := by decide +kernel
theorem dX8_safe_88 : decode cX8_safe 88 = .ok (.aload_n 0, 1) := by decide +kernel
theorem dX8_safe_89 : decode cX8_safe 89 = .ok (.getfield 44, 3) := by decide +kernel
theorem dX8_safe_92 : decode cX8_safe 92 = .ok (.iload_n 1, 1) := by decide +kernel
theorem dX8_safe_93 : decode cX8_safe 93 = .ok (.bipush 10, 2) := by decide +kernel
theorem dX8_safe_95 : decode cX8_safe 95 = .ok (.idiv, 1) := by decide +kernel
theorem dX8_safe_96 : decode cX8_safe 96 = .ok (.iaload, 1) := by decide +kernel
theorem dX8_safe_97 : decode cX8_safe 97 = .ok (.istore 4, 2) := by decide +kernel
theorem dX8_safe_99 : decode cX8_safe 99 = .ok (.ldc2_w 107, 3) := by decide +kernel
theorem dX8_safe_102 : decode cX8_safe 102 = .ok (.iload 4, 2) := by decide +kernel
theorem dX8_safe_104 : decode cX8_safe 104 = .ok (.invokestatic 265, 3) := by decide +kernel
theorem dX8_safe_107 : decode cX8_safe 107 = .ok (.lstore 5, 2) := by decide +kernel
theorem dX8_safe_109 : decode cX8_safe 109 = .ok (.lload 5, 2) := by decide +kernel
theorem dX8_safe_111 : decode cX8_safe 111 = .ok (.bipush 12, 2) := by decide +kernel
theorem dX8_safe_113 : decode cX8_safe 113 = .ok (.aload_n 0, 1) := by decide +kernel
theorem dX8_safe_114 : decode cX8_safe 114 = .ok (.getfield 9, 3) := by decide +kernel
theorem dX8_safe_117 : decode cX8_safe 117 = .ok (.bipush 22, 2) := by decide +kernel
theorem dX8_safe_119 : decode cX8_safe 119 = .ok (.iaload, 1) := by decide +kernel
theorem dX8_safe_120 : decode cX8_safe 120 = .ok (.isub, 1) := by decide +kernel
theorem dX8_safe_121 : decode cX8_safe 121 = .ok (.i2l, 1) := by decide +kernel
theorem dX8_safe_122 : decode cX8_safe 122 = .ok (.iload 4, 2) := by decide +kernel
theorem dX8_safe_124 : decode cX8_safe 124 = .ok (.invokestatic 265, 3) := by decide +kernel
theorem dX8_safe_127 : decode cX8_safe 127 = .ok (.lsub, 1) := by decide +kernel
theorem dX8_safe_128 : decode cX8_safe 128 = .ok (.lstore 7, 2) := by decide +kernel
theorem dX8_safe_130 : decode cX8_safe 130 = .ok (.iload_n 3, 1) := by decide +kernel
theorem dX8_safe_131 : decode cX8_safe 131 = .ok (.bipush 10, 2) := by decide +kernel
theorem dX8_safe_133 : decode cX8_safe 133 = .ok (.idiv, 1) := by decide +kernel
theorem dX8_safe_134 : decode cX8_safe 134 = .ok (.iconst 1, 1) := by decide +kernel
theorem dX8_safe_135 : decode cX8_safe 135 = .ok (.if_icmp .ne 11, 3) := by decide +kernel
theorem dX8_safe_138 : decode cX8_safe 138 = .ok (.lload 5, 2) := by decide +kernel
theorem dX8_safe_140 : decode cX8_safe 140 = .ok (.lload 7, 2) := by decide +kernel
theorem dX8_safe_142 : decode cX8_safe 142 = .ok (.lsub, 1) := by decide +kernel
theorem dX8_safe_143 : decode cX8_safe 143 = .ok (.goto 14, 3) := by decide +kernel
theorem dX8_safe_146 : decode cX8_safe 146 = .ok (.lload 5, 2) := by decide +kernel
theorem dX8_safe_148 : decode cX8_safe 148 = .ok (.lload 5, 2) := by decide +kernel
theorem dX8_safe_150 : decode cX8_safe 150 = .ok (.lmul, 1) := by decide +kernel
theorem dX8_safe_151 : decode cX8_safe 151 = .ok (.lload 7, 2) := by decide +kernel
theorem dX8_safe_153 : decode cX8_safe 153 = .ok (.lload 7, 2) := by decide +kernel
theorem dX8_safe_155 : decode cX8_safe 155 = .ok (.lmul, 1) := by decide +kernel
theorem dX8_safe_156 : decode cX8_safe 156 = .ok (.lsub, 1) := by decide +kernel
theorem dX8_safe_157 : decode cX8_safe 157 = .ok (.lstore 9, 2) := by decide +kernel
theorem dX8_safe_159 : decode cX8_safe 159 = .ok (.iload_n 3, 1) := by decide +kernel
theorem dX8_safe_160 : decode cX8_safe 160 = .ok (.bipush 10, 2) := by decide +kernel
theorem dX8_safe_162 : decode cX8_safe 162 = .ok (.idiv, 1) := by decide +kernel
theorem dX8_safe_163 : decode cX8_safe 163 = .ok (.iconst 1, 1) := by decide +kernel
theorem dX8_safe_164 : decode cX8_safe 164 = .ok (.if_icmp .ne 8, 3) := by decide +kernel
theorem dX8_safe_167 : decode cX8_safe 167 = .ok (.lload 5, 2) := by decide +kernel
theorem dX8_safe_169 : decode cX8_safe 169 = .ok (.goto 8, 3) := by decide +kernel
theorem dX8_safe_172 : decode cX8_safe 172 = .ok (.lload 5, 2) := by decide +kernel
theorem dX8_safe_174 : decode cX8_safe 174 = .ok (.lload 5, 2) := by decide +kernel
theorem dX8_safe_176 : decode cX8_safe 176 = .ok (.lmul, 1) := by decide +kernel
theorem dX8_safe_177 : decode cX8_safe 177 = .ok (.lstore 11, 2) := by decide +kernel
theorem dX8_safe_179 : decode cX8_safe 179 = .ok (.lload 9, 2) := by decide +kernel
theorem dX8_safe_181 : decode cX8_safe 181 = .ok (.lstore 13, 2) := by decide +kernel
theorem dX8_safe_183 : decode cX8_safe 183 = .ok (.lload 11, 2) := by decide +kernel
theorem dX8_safe_185 : decode cX8_safe 185 = .ok (.lstore 15, 2) := by decide +kernel
theorem dX8_safe_187 : decode cX8_safe 187 = .ok (.lload 15, 2) := by decide +kernel
theorem dX8_safe_189 : decode cX8_safe 189 = .ok (.lconst 0, 1) := by decide +kernel
theorem dX8_safe_190 : decode cX8_safe 190 = .ok (.lcmp, 1) := by decide +kernel
theorem dX8_safe_191 : decode cX8_safe 191 = .ok (.ifCond .eq 21, 3) := by decide +kernel
theorem dX8_safe_194 : decode cX8_safe 194 = .ok (.lload 13, 2) := by decide +kernel
theorem dX8_safe_196 : decode cX8_safe 196 = .ok (.lload 15, 2) := by decide +kernel
theorem dX8_safe_198 : decode cX8_safe 198 = .ok (.lrem, 1) := by decide +kernel
theorem dX8_safe_199 : decode cX8_safe 199 = .ok (.lstore 17, 2) := by decide +kernel
theorem dX8_safe_201 : decode cX8_safe 201 = .ok (.lload 15, 2) := by decide +kernel
theorem dX8_safe_203 : decode cX8_safe 203 = .ok (.lstore 13, 2) := by decide +kernel
theorem dX8_safe_205 : decode cX8_safe 205 = .ok (.lload 17, 2) := by decide +kernel
theorem dX8_safe_207 : decode cX8_safe 207 = .ok (.lstore 15, 2) := by decide +kernel
theorem dX8_safe_209 : decode cX8_safe 209 = .ok (.goto (-22), 3) := by decide +kernel
theorem dX8_safe_212 : decode cX8_safe 212 = .ok (.iload_n 3, 1) := by decide +kernel
theorem dX8_safe_213 : decode cX8_safe 213 = .ok (.bipush 10, 2) := by decide +kernel
theorem dX8_safe_215 : decode cX8_safe 215 = .ok (.irem, 1) := by decide +kernel
theorem dX8_safe_216 : decode cX8_safe 216 = .ok (.ifCond .ne 11, 3) := by decide +kernel
theorem dX8_safe_219 : decode cX8_safe 219 = .ok (.lload 9, 2) := by decide +kernel
theorem dX8_safe_221 : decode cX8_safe 221 = .ok (.lload 13, 2) := by decide +kernel
theorem dX8_safe_223 : decode cX8_safe 223 = .ok (.ldiv, 1) := by decide +kernel
theorem dX8_safe_224 : decode cX8_safe 224 = .ok (.goto 8, 3) := by decide +kernel
theorem dX8_safe_227 : decode cX8_safe 227 = .ok (.lload 11, 2) := by decide +kernel
theorem dX8_safe_229 : decode cX8_safe 229 = .ok (.lload 13, 2) := by decide +kernel
theorem dX8_safe_231 : decode cX8_safe 231 = .ok (.ldiv, 1) := by decide +kernel
theorem dX8_safe_232 : decode cX8_safe 232 = .ok (.lreturn, 1) := by decide +kernel
theorem dX8_bookIs_0 : decode cX8_bookIs 0 = .ok (.iload_n 1, 1) := by decide +kernel
theorem dX8_bookIs_1 : decode cX8_bookIs 1 = .ok (.invokestatic 118, 3) := by decide +kernel
theorem dX8_bookIs_4 : decode cX8_bookIs 4 = .ok (.ifCond .ne 7, 3) := by decide +kernel
theorem dX8_bookIs_7 : decode cX8_bookIs 7 = .ok (.iconst (-1), 1) := by decide +kernel
theorem dX8_bookIs_8 : decode cX8_bookIs 8 = .ok (.goto 34, 3) := by decide +kernel
theorem dX8_bookIs_11 : decode cX8_bookIs 11 = .ok (.aload_n 0, 1) := by decide +kernel
theorem dX8_bookIs_12 : decode cX8_bookIs 12 = .ok (.getfield 71, 3) := by decide +kernel
theorem dX8_bookIs_15 : decode cX8_bookIs 15 = .ok (.iload_n 1, 1) := by decide +kernel
theorem dX8_bookIs_16 : decode cX8_bookIs 16 = .ok (.iaload, 1) := by decide +kernel
theorem dX8_bookIs_17 : decode cX8_bookIs 17 = .ok (.ifCond .ge 8, 3) := by decide +kernel
theorem dX8_bookIs_20 : decode cX8_bookIs 20 = .ok (.bipush (-11), 2) := by decide +kernel
theorem dX8_bookIs_22 : decode cX8_bookIs 22 = .ok (.goto 20, 3) := by decide +kernel
theorem dX8_bookIs_25 : decode cX8_bookIs 25 = .ok (.aload_n 0, 1) := by decide +kernel
theorem dX8_bookIs_26 : decode cX8_bookIs 26 = .ok (.getfield 71, 3) := by decide +kernel
theorem dX8_bookIs_29 : decode cX8_bookIs 29 = .ok (.iload_n 1, 1) := by decide +kernel
theorem dX8_bookIs_30 : decode cX8_bookIs 30 = .ok (.iaload, 1) := by decide +kernel
theorem dX8_bookIs_31 : decode cX8_bookIs 31 = .ok (.bipush 51, 2) := by decide +kernel
theorem dX8_bookIs_33 : decode cX8_bookIs 33 = .ok (.if_icmp .ne 7, 3) := by decide +kernel
theorem dX8_bookIs_36 : decode cX8_bookIs 36 = .ok (.iconst 1, 1) := by decide +kernel
theorem dX8_bookIs_37 : decode cX8_bookIs 37 = .ok (.goto 5, 3) := by decide +kernel
theorem dX8_bookIs_40 : decode cX8_bookIs 40 = .ok (.bipush (-12), 2) := by decide +kernel
theorem dX8_bookIs_42 : decode cX8_bookIs 42 = .ok (.ireturn, 1) := by decide +kernel
theorem dX8_isSo_0 : decode cX8_isSo 0 = .ok (.aload_n 0, 1) := by decide +kernel
theorem dX8_isSo_1 : decode cX8_isSo 1 = .ok (.getfield 77, 3) := by decide +kernel
theorem dX8_isSo_4 : decode cX8_isSo 4 = .ok (.iload_n 1, 1) := by decide +kernel
theorem dX8_isSo_5 : decode cX8_isSo 5 = .ok (.laload, 1) := by decide +kernel
theorem dX8_isSo_6 : decode cX8_isSo 6 = .ok (.lstore_n 2, 1) := by decide +kernel
theorem dX8_isSo_7 : decode cX8_isSo 7 = .ok (.aload_n 0, 1) := by decide +kernel
theorem dX8_isSo_8 : decode cX8_isSo 8 = .ok (.getfield 77, 3) := by decide +kernel
theorem dX8_isSo_11 : decode cX8_isSo 11 = .ok (.iload_n 1, 1) := by decide +kernel
theorem dX8_isSo_12 : decode cX8_isSo 12 = .ok (.iconst 1, 1) := by decide +kernel
theorem dX8_isSo_13 : decode cX8_isSo 13 = .ok (.iadd, 1) := by decide +kernel
theorem dX8_isSo_14 : decode cX8_isSo 14 = .ok (.laload, 1) := by decide +kernel
theorem dX8_isSo_15 : decode cX8_isSo 15 = .ok (.lstore 4, 2) := by decide +kernel
theorem dX8_isSo_17 : decode cX8_isSo 17 = .ok (.aload_n 0, 1) := by decide +kernel
theorem dX8_isSo_18 : decode cX8_isSo 18 = .ok (.getfield 77, 3) := by decide +kernel
theorem dX8_isSo_21 : decode cX8_isSo 21 = .ok (.iload_n 1, 1) := by decide +kernel
theorem dX8_isSo_22 : decode cX8_isSo 22 = .ok (.iconst 2, 1) := by decide +kernel
theorem dX8_isSo_23 : decode cX8_isSo 23 = .ok (.iadd, 1) := by decide +kernel
theorem dX8_isSo_24 : decode cX8_isSo 24 = .ok (.laload, 1) := by decide +kernel
theorem dX8_isSo_25 : decode cX8_isSo 25 = .ok (.lstore 6, 2) := by decide +kernel
theorem dX8_isSo_27 : decode cX8_isSo 27 = .ok (.lload_n 2, 1) := by decide +kernel
theorem dX8_isSo_28 : decode cX8_isSo 28 = .ok (.lconst 0, 1) := by decide +kernel
theorem dX8_isSo_29 : decode cX8_isSo 29 = .ok (.lcmp, 1) := by decide +kernel
theorem dX8_isSo_30 : decode cX8_isSo 30 = .ok (.ifCond .lt 60, 3) := by decide +kernel
theorem dX8_isSo_33 : decode cX8_isSo 33 = .ok (.aload_n 0, 1) := by decide +kernel
theorem dX8_isSo_34 : decode cX8_isSo 34 = .ok (.lload 4, 2) := by decide +kernel
theorem dX8_isSo_36 : decode cX8_isSo 36 = .ok (.l2i, 1) := by decide +kernel
theorem dX8_isSo_37 : decode cX8_isSo 37 = .ok (.invokevirtual 220, 3) := by decide +kernel
theorem dX8_isSo_40 : decode cX8_isSo 40 = .ok (.ifCond .eq 50, 3) := by decide +kernel
theorem dX8_isSo_43 : decode cX8_isSo 43 = .ok (.lload 6, 2) := by decide +kernel
theorem dX8_isSo_45 : decode cX8_isSo 45 = .ok (.lconst 0, 1) := by decide +kernel
theorem dX8_isSo_46 : decode cX8_isSo 46 = .ok (.lconst 1, 1) := by decide +kernel
theorem dX8_isSo_47 : decode cX8_isSo 47 = .ok (.invokestatic 97, 3) := by decide +kernel
theorem dX8_isSo_50 : decode cX8_isSo 50 = .ok (.ifCond .eq 40, 3) := by decide +kernel
theorem dX8_isSo_53 : decode cX8_isSo 53 = .ok (.aload_n 0, 1) := by decide +kernel
theorem dX8_isSo_54 : decode cX8_isSo 54 = .ok (.lload 4, 2) := by decide +kernel
theorem dX8_isSo_56 : decode cX8_isSo 56 = .ok (.l2i, 1) := by decide +kernel
theorem dX8_isSo_57 : decode cX8_isSo 57 = .ok (.bipush 10, 2) := by decide +kernel
theorem dX8_isSo_59 : decode cX8_isSo 59 = .ok (.idiv, 1) := by decide +kernel
theorem dX8_isSo_60 : decode cX8_isSo 60 = .ok (.lload 4, 2) := by decide +kernel
theorem dX8_isSo_62 : decode cX8_isSo 62 = .ok (.l2i, 1) := by decide +kernel
theorem dX8_isSo_63 : decode cX8_isSo 63 = .ok (.bipush 10, 2) := by decide +kernel
theorem dX8_isSo_65 : decode cX8_isSo 65 = .ok (.irem, 1) := by decide +kernel
theorem dX8_isSo_66 : decode cX8_isSo 66 = .ok (.lload_n 2, 1) := by decide +kernel
theorem dX8_isSo_67 : decode cX8_isSo 67 = .ok (.l2i, 1) := by decide +kernel
theorem dX8_isSo_68 : decode cX8_isSo 68 = .ok (.invokevirtual 216, 3) := by decide +kernel
theorem dX8_isSo_71 : decode cX8_isSo 71 = .ok (.lload 6, 2) := by decide +kernel
theorem dX8_isSo_73 : decode cX8_isSo 73 = .ok (.lconst 1, 1) := by decide +kernel
theorem dX8_isSo_74 : decode cX8_isSo 74 = .ok (.lcmp, 1) := by decide +kernel
theorem dX8_isSo_75 : decode cX8_isSo 75 = .ok (.ifCond .ne 7, 3) := by decide +kernel
theorem dX8_isSo_78 : decode cX8_isSo 78 = .ok (.iconst 1, 1) := by decide +kernel
theorem dX8_isSo_79 : decode cX8_isSo 79 = .ok (.goto 4, 3) := by decide +kernel
theorem dX8_isSo_82 : decode cX8_isSo 82 = .ok (.iconst 0, 1) := by decide +kernel
theorem dX8_isSo_83 : decode cX8_isSo 83 = .ok (.if_icmp .ne 7, 3) := by decide +kernel
theorem dX8_isSo_86 : decode cX8_isSo 86 = .ok (.iconst 1, 1) := by decide +kernel
theorem dX8_isSo_87 : decode cX8_isSo 87 = .ok (.goto 4, 3) := by decide +kernel
theorem dX8_isSo_90 : decode cX8_isSo 90 = .ok (.iconst 0, 1) := by decide +kernel
theorem dX8_isSo_91 : decode cX8_isSo 91 = .ok (.ireturn, 1) := by decide +kernel
theorem dX8_firstFalse_0 : decode cX8_firstFalse 0 = .ok (.iconst 0, 1) := by decide +kernel
theorem dX8_firstFalse_1 : decode cX8_firstFalse 1 = .ok (.istore_n 2, 1) := by decide +kernel
theorem dX8_firstFalse_2 : decode cX8_firstFalse 2 = .ok (.iconst 3, 1) := by decide +kernel
theorem dX8_firstFalse_3 : decode cX8_firstFalse 3 = .ok (.iload_n 2, 1) := by decide +kernel
theorem dX8_firstFalse_4 : decode cX8_firstFalse 4 = .ok (.imul, 1) := by decide +kernel
theorem dX8_firstFalse_5 : decode cX8_firstFalse 5 = .ok (.aload_n 0, 1) := by decide +kernel
theorem dX8_firstFalse_6 : decode cX8_firstFalse 6 = .ok (.getfield 74, 3) := by decide +kernel
theorem dX8_firstFalse_9 : decode cX8_firstFalse 9 = .ok (.iload_n 1, 1) := by decide +kernel
theorem dX8_firstFalse_10 : decode cX8_firstFalse 10 = .ok (.iaload, 1) := by decide +kernel
theorem dX8_firstFalse_11 : decode cX8_firstFalse 11 = .ok (.if_icmp .ge 40, 3) := by decide +kernel
theorem dX8_firstFalse_14 : decode cX8_firstFalse 14 = .ok (.iconst 3, 1) := by decide +kernel
theorem dX8_firstFalse_15 : decode cX8_firstFalse 15 = .ok (.iload_n 2, 1) := by decide +kernel
theorem dX8_firstFalse_16 : decode cX8_firstFalse 16 = .ok (.imul, 1) := by decide +kernel
theorem dX8_firstFalse_17 : decode cX8_firstFalse 17 = .ok (.iconst 2, 1) := by decide +kernel
theorem dX8_firstFalse_18 : decode cX8_firstFalse 18 = .ok (.iadd, 1) := by decide +kernel
theorem dX8_firstFalse_19 : decode cX8_firstFalse 19 = .ok (.aload_n 0, 1) := by decide +kernel
theorem dX8_firstFalse_20 : decode cX8_firstFalse 20 = .ok (.getfield 74, 3) := by decide +kernel
theorem dX8_firstFalse_23 : decode cX8_firstFalse 23 = .ok (.iload_n 1, 1) := by decide +kernel
theorem dX8_firstFalse_24 : decode cX8_firstFalse 24 = .ok (.iaload, 1) := by decide +kernel
theorem dX8_firstFalse_25 : decode cX8_firstFalse 25 = .ok (.if_icmp .ge 18, 3) := by decide +kernel
theorem dX8_firstFalse_28 : decode cX8_firstFalse 28 = .ok (.aload_n 0, 1) := by decide +kernel
theorem dX8_firstFalse_29 : decode cX8_firstFalse 29 = .ok (.bipush 60, 2) := by decide +kernel
theorem dX8_firstFalse_31 : decode cX8_firstFalse 31 = .ok (.iload_n 1, 1) := by decide +kernel
theorem dX8_firstFalse_32 : decode cX8_firstFalse 32 = .ok (.imul, 1) := by decide +kernel
theorem dX8_firstFalse_33 : decode cX8_firstFalse 33 = .ok (.iconst 3, 1) := by decide +kernel
theorem dX8_firstFalse_34 : decode cX8_firstFalse 34 = .ok (.iload_n 2, 1) := by decide +kernel
theorem dX8_firstFalse_35 : decode cX8_firstFalse 35 = .ok (.imul, 1) := by decide +kernel
theorem dX8_firstFalse_36 : decode cX8_firstFalse 36 = .ok (.iadd, 1) := by decide +kernel
theorem dX8_firstFalse_37 : decode cX8_firstFalse 37 = .ok (.invokevirtual 269, 3) := by decide +kernel
theorem dX8_firstFalse_40 : decode cX8_firstFalse 40 = .ok (.ifCond .ne 5, 3) := by decide +kernel
theorem dX8_firstFalse_43 : decode cX8_firstFalse 43 = .ok (.iload_n 2, 1) := by decide +kernel
theorem dX8_firstFalse_44 : decode cX8_firstFalse 44 = .ok (.ireturn, 1) := by decide +kernel
theorem dX8_firstFalse_45 : decode cX8_firstFalse 45 = .ok (.iinc 2 1, 3) := by decide +kernel
theorem dX8_firstFalse_48 : decode cX8_firstFalse 48 = .ok (.goto (-46), 3) := by decide +kernel
theorem dX8_firstFalse_51 : decode cX8_firstFalse 51 = .ok (.bipush (-2), 2) := by decide +kernel
theorem dX8_firstFalse_53 : decode cX8_firstFalse 53 = .ok (.ireturn, 1) := by decide +kernel
theorem dX8_judge_0 : decode cX8_judge 0 = .ok (.aload_n 0, 1) := by decide +kernel
theorem dX8_judge_1 : decode cX8_judge 1 = .ok (.iload_n 1, 1) := by decide +kernel
theorem dX8_judge_2 : decode cX8_judge 2 = .ok (.invokevirtual 272, 3) := by decide +kernel
theorem dX8_judge_5 : decode cX8_judge 5 = .ok (.ifCond .ge 11, 3) := by decide +kernel
theorem dX8_judge_8 : decode cX8_judge 8 = .ok (.aload_n 0, 1) := by decide +kernel
theorem dX8_judge_9 : decode cX8_judge 9 = .ok (.iload_n 1, 1) := by decide +kernel
theorem dX8_judge_10 : decode cX8_judge 10 = .ok (.invokevirtual 272, 3) := by decide +kernel
theorem dX8_judge_13 : decode cX8_judge 13 = .ok (.goto 8, 3) := by decide +kernel
theorem dX8_judge_16 : decode cX8_judge 16 = .ok (.aload_n 0, 1) := by decide +kernel
theorem dX8_judge_17 : decode cX8_judge 17 = .ok (.iload_n 1, 1) := by decide +kernel
theorem dX8_judge_18 : decode cX8_judge 18 = .ok (.invokevirtual 275, 3) := by decide +kernel
theorem dX8_judge_21 : decode cX8_judge 21 = .ok (.ireturn, 1) := by decide +kernel
theorem dX8_startsBy_0 : decode cX8_startsBy 0 = .ok (.aload_n 0, 1) := by decide +kernel
theorem dX8_startsBy_1 : decode cX8_startsBy 1 = .ok (.getfield 9, 3) := by decide +kernel
theorem dX8_startsBy_4 : decode cX8_startsBy 4 = .ok (.bipush 7, 2) := by decide +kernel
theorem dX8_startsBy_6 : decode cX8_startsBy 6 = .ok (.iload_n 2, 1) := by decide +kernel
theorem dX8_startsBy_7 : decode cX8_startsBy 7 = .ok (.iadd, 1) := by decide +kernel
theorem dX8_startsBy_8 : decode cX8_startsBy 8 = .ok (.iaload, 1) := by decide +kernel
theorem dX8_startsBy_9 : decode cX8_startsBy 9 = .ok (.istore_n 3, 1) := by decide +kernel
theorem dX8_startsBy_10 : decode cX8_startsBy 10 = .ok (.iconst 0, 1) := by decide +kernel
theorem dX8_startsBy_11 : decode cX8_startsBy 11 = .ok (.istore 4, 2) := by decide +kernel
theorem dX8_startsBy_13 : decode cX8_startsBy 13 = .ok (.aload_n 0, 1) := by decide +kernel
theorem dX8_startsBy_14 : decode cX8_startsBy 14 = .ok (.bipush (-2), 2) := by decide +kernel
theorem dX8_startsBy_16 : decode cX8_startsBy 16 = .ok (.putfield 278, 3) := by decide +kernel
theorem dX8_startsBy_19 : decode cX8_startsBy 19 = .ok (.aload_n 0, 1) := by decide +kernel
theorem dX8_startsBy_20 : decode cX8_startsBy 20 = .ok (.bipush (-2), 2) := by decide +kernel
theorem dX8_startsBy_22 : decode cX8_startsBy 22 = .ok (.putfield 281, 3) := by decide +kernel
theorem dX8_startsBy_25 : decode cX8_startsBy 25 = .ok (.iconst 0, 1) := by decide +kernel
theorem dX8_startsBy_26 : decode cX8_startsBy 26 = .ok (.istore 5, 2) := by decide +kernel
theorem dX8_startsBy_28 : decode cX8_startsBy 28 = .ok (.iload 5, 2) := by decide +kernel
theorem dX8_startsBy_30 : decode cX8_startsBy 30 = .ok (.aload_n 0, 1) := by decide +kernel
theorem dX8_startsBy_31 : decode cX8_startsBy 31 = .ok (.getfield 9, 3) := by decide +kernel
theorem dX8_startsBy_34 : decode cX8_startsBy 34 = .ok (.iload_n 2, 1) := by decide +kernel
theorem dX8_startsBy_35 : decode cX8_startsBy 35 = .ok (.iaload, 1) := by decide +kernel
theorem dX8_startsBy_36 : decode cX8_startsBy 36 = .ok (.if_icmp .ge 77, 3) := by decide +kernel
theorem dX8_startsBy_39 : decode cX8_startsBy 39 = .ok (.aload_n 0, 1) := by decide +kernel
theorem dX8_startsBy_40 : decode cX8_startsBy 40 = .ok (.getfield 9, 3) := by decide +kernel
theorem dX8_startsBy_43 : decode cX8_startsBy 43 = .ok (.bipush 7, 2) := by decide +kernel
theorem dX8_startsBy_45 : decode cX8_startsBy 45 = .ok (.iload_n 2, 1) := by decide +kernel
theorem dX8_startsBy_46 : decode cX8_startsBy 46 = .ok (.iadd, 1) := by decide +kernel
theorem dX8_startsBy_47 : decode cX8_startsBy 47 = .ok (.iload 5, 2) := by decide +kernel
theorem dX8_startsBy_49 : decode cX8_startsBy 49 = .ok (.iastore, 1) := by decide +kernel
theorem dX8_startsBy_50 : decode cX8_startsBy 50 = .ok (.aload_n 0, 1) := by decide +kernel
theorem dX8_startsBy_51 : decode cX8_startsBy 51 = .ok (.iload_n 1, 1) := by decide +kernel
theorem dX8_startsBy_52 : decode cX8_startsBy 52 = .ok (.invokevirtual 275, 3) := by decide +kernel
theorem dX8_startsBy_55 : decode cX8_startsBy 55 = .ok (.bipush (-2), 2) := by decide +kernel
theorem dX8_startsBy_57 : decode cX8_startsBy 57 = .ok (.if_icmp .ne 50, 3) := by decide +kernel
theorem dX8_startsBy_60 : decode cX8_startsBy 60 = .ok (.aload_n 0, 1) := by decide +kernel
theorem dX8_startsBy_61 : decode cX8_startsBy 61 = .ok (.iload 4, 2) := by decide +kernel
theorem dX8_startsBy_63 : decode cX8_startsBy 63 = .ok (.ifCond .ne 8, 3) := by decide +kernel
theorem dX8_startsBy_66 : decode cX8_startsBy 66 = .ok (.iload 5, 2) := by decide +kernel
theorem dX8_startsBy_68 : decode cX8_startsBy 68 = .ok (.goto 7, 3) := by decide +kernel
theorem dX8_startsBy_71 : decode cX8_startsBy 71 = .ok (.aload_n 0, 1) := by decide +kernel
theorem dX8_startsBy_72 : decode cX8_startsBy 72 = .ok (.getfield 278, 3) := by decide +kernel
theorem dX8_startsBy_75 : decode cX8_startsBy 75 = .ok (.putfield 278, 3) := by decide +kernel
theorem dX8_startsBy_78 : decode cX8_startsBy 78 = .ok (.aload_n 0, 1) := by decide +kernel
theorem dX8_startsBy_79 : decode cX8_startsBy 79 = .ok (.iload 5, 2) := by decide +kernel
theorem dX8_startsBy_81 : decode cX8_startsBy 81 = .ok (.iload_n 3, 1) := by decide +kernel
theorem dX8_startsBy_82 : decode cX8_startsBy 82 = .ok (.aload_n 0, 1) := by decide +kernel
theorem dX8_startsBy_83 : decode cX8_startsBy 83 = .ok (.getfield 9, 3) := by decide +kernel
theorem dX8_startsBy_86 : decode cX8_startsBy 86 = .ok (.iload_n 2, 1) := by decide +kernel
theorem dX8_startsBy_87 : decode cX8_startsBy 87 = .ok (.iaload, 1) := by decide +kernel
theorem dX8_startsBy_88 : decode cX8_startsBy 88 = .ok (.irem, 1) := by decide +kernel
theorem dX8_startsBy_89 : decode cX8_startsBy 89 = .ok (.if_icmp .eq 8, 3) := by decide +kernel
theorem dX8_startsBy_92 : decode cX8_startsBy 92 = .ok (.iload 5, 2) := by decide +kernel
theorem dX8_startsBy_94 : decode cX8_startsBy 94 = .ok (.goto 7, 3) := by decide +kernel
theorem dX8_startsBy_97 : decode cX8_startsBy 97 = .ok (.aload_n 0, 1) := by decide +kernel
theorem dX8_startsBy_98 : decode cX8_startsBy 98 = .ok (.getfield 281, 3) := by decide +kernel
theorem dX8_startsBy_101 : decode cX8_startsBy 101 = .ok (.putfield 281, 3) := by decide +kernel
theorem dX8_startsBy_104 : decode cX8_startsBy 104 = .ok (.iinc 4 1, 3) := by decide +kernel
theorem dX8_startsBy_107 : decode cX8_startsBy 107 = .ok (.iinc 5 1, 3) := by decide +kernel
theorem dX8_startsBy_110 : decode cX8_startsBy 110 = .ok (.goto (-82), 3) := by decide +kernel
theorem dX8_startsBy_113 : decode cX8_startsBy 113 = .ok (.aload_n 0, 1) := by decide +kernel
theorem dX8_startsBy_114 : decode cX8_startsBy 114 = .ok (.getfield 9, 3) := by decide +kernel
theorem dX8_startsBy_117 : decode cX8_startsBy 117 = .ok (.bipush 7, 2) := by decide +kernel
theorem dX8_startsBy_119 : decode cX8_startsBy 119 = .ok (.iload_n 2, 1) := by decide +kernel
theorem dX8_startsBy_120 : decode cX8_startsBy 120 = .ok (.iadd, 1) := by decide +kernel
theorem dX8_startsBy_121 : decode cX8_startsBy 121 = .ok (.iload_n 3, 1) := by decide +kernel
theorem dX8_startsBy_122 : decode cX8_startsBy 122 = .ok (.iastore, 1) := by decide +kernel
theorem dX8_startsBy_123 : decode cX8_startsBy 123 = .ok (.iload 4, 2) := by decide +kernel
theorem dX8_startsBy_125 : decode cX8_startsBy 125 = .ok (.ireturn, 1) := by decide +kernel
theorem dX8_stepped_0 : decode cX8_stepped 0 = .ok (.iload_n 1, 1) := by decide +kernel
theorem dX8_stepped_1 : decode cX8_stepped 1 = .ok (.invokestatic 118, 3) := by decide +kernel
theorem dX8_stepped_4 : decode cX8_stepped 4 = .ok (.ifCond .eq 21, 3) := by decide +kernel
theorem dX8_stepped_7 : decode cX8_stepped 7 = .ok (.aload_n 0, 1) := by decide +kernel
theorem dX8_stepped_8 : decode cX8_stepped 8 = .ok (.iload_n 2, 1) := by decide +kernel
theorem dX8_stepped_9 : decode cX8_stepped 9 = .ok (.invokevirtual 101, 3) := by decide +kernel
theorem dX8_stepped_12 : decode cX8_stepped 12 = .ok (.ifCond .eq 13, 3) := by decide +kernel
theorem dX8_stepped_15 : decode cX8_stepped 15 = .ok (.iload_n 3, 1) := by decide +kernel
theorem dX8_stepped_16 : decode cX8_stepped 16 = .ok (.i2l, 1) := by decide +kernel
theorem dX8_stepped_17 : decode cX8_stepped 17 = .ok (.lconst 0, 1) := by decide +kernel
theorem dX8_stepped_18 : decode cX8_stepped 18 = .ok (.lconst 1, 1) := by decide +kernel
theorem dX8_stepped_19 : decode cX8_stepped 19 = .ok (.invokestatic 97, 3) := by decide +kernel
theorem dX8_stepped_22 : decode cX8_stepped 22 = .ok (.ifCond .ne 5, 3) := by decide +kernel
theorem dX8_stepped_25 : decode cX8_stepped 25 = .ok (.iconst (-1), 1) := by decide +kernel
theorem dX8_stepped_26 : decode cX8_stepped 26 = .ok (.ireturn, 1) := by decide +kernel
theorem dX8_stepped_27 : decode cX8_stepped 27 = .ok (.aload_n 0, 1) := by decide +kernel
theorem dX8_stepped_28 : decode cX8_stepped 28 = .ok (.iload_n 1, 1) := by decide +kernel
theorem dX8_stepped_29 : decode cX8_stepped 29 = .ok (.invokevirtual 272, 3) := by decide +kernel
theorem dX8_stepped_32 : decode cX8_stepped 32 = .ok (.ifCond .ge 9, 3) := by decide +kernel
theorem dX8_stepped_35 : decode cX8_stepped 35 = .ok (.aload_n 0, 1) := by decide +kernel
theorem dX8_stepped_36 : decode cX8_stepped 36 = .ok (.iload_n 1, 1) := by decide +kernel
theorem dX8_stepped_37 : decode cX8_stepped 37 = .ok (.invokevirtual 272, 3) := by decide +kernel
theorem dX8_stepped_40 : decode cX8_stepped 40 = .ok (.ireturn, 1) := by decide +kernel
theorem dX8_stepped_41 : decode cX8_stepped 41 = .ok (.aload_n 0, 1) := by decide +kernel
theorem dX8_stepped_42 : decode cX8_stepped 42 = .ok (.iload_n 1, 1) := by decide +kernel
theorem dX8_stepped_43 : decode cX8_stepped 43 = .ok (.iload_n 2, 1) := by decide +kernel
theorem dX8_stepped_44 : decode cX8_stepped 44 = .ok (.invokevirtual 284, 3) := by decide +kernel
theorem dX8_stepped_47 : decode cX8_stepped 47 = .ok (.istore 4, 2) := by decide +kernel
theorem dX8_stepped_49 : decode cX8_stepped 49 = .ok (.iload_n 3, 1) := by decide +kernel
theorem dX8_stepped_50 : decode cX8_stepped 50 = .ok (.ifCond .ne 8, 3) := by decide +kernel
theorem dX8_stepped_53 : decode cX8_stepped 53 = .ok (.iload 4, 2) := by decide +kernel
theorem dX8_stepped_55 : decode cX8_stepped 55 = .ok (.goto 7, 3) := by decide +kernel
theorem dX8_stepped_58 : decode cX8_stepped 58 = .ok (.aload_n 0, 1) := by decide +kernel
theorem dX8_stepped_59 : decode cX8_stepped 59 = .ok (.getfield 278, 3) := by decide +kernel
theorem dX8_stepped_62 : decode cX8_stepped 62 = .ok (.ireturn, 1) := by decide +kernel
theorem dX8_whose_0 : decode cX8_whose 0 = .ok (.aload_n 0, 1) := by decide +kernel
theorem dX8_whose_1 : decode cX8_whose 1 = .ok (.iload_n 1, 1) := by decide +kernel
theorem dX8_whose_2 : decode cX8_whose 2 = .ok (.invokevirtual 272, 3) := by decide +kernel
theorem dX8_whose_5 : decode cX8_whose 5 = .ok (.ifCond .ge 9, 3) := by decide +kernel
theorem dX8_whose_8 : decode cX8_whose 8 = .ok (.aload_n 0, 1) := by decide +kernel
theorem dX8_whose_9 : decode cX8_whose 9 = .ok (.iload_n 1, 1) := by decide +kernel
theorem dX8_whose_10 : decode cX8_whose 10 = .ok (.invokevirtual 272, 3) := by decide +kernel
theorem dX8_whose_13 : decode cX8_whose 13 = .ok (.ireturn, 1) := by decide +kernel
theorem dX8_whose_14 : decode cX8_whose 14 = .ok (.iconst 0, 1) := by decide +kernel
theorem dX8_whose_15 : decode cX8_whose 15 = .ok (.istore_n 2, 1) := by decide +kernel
theorem dX8_whose_16 : decode cX8_whose 16 = .ok (.iconst 0, 1) := by decide +kernel
theorem dX8_whose_17 : decode cX8_whose 17 = .ok (.istore_n 3, 1) := by decide +kernel
theorem dX8_whose_18 : decode cX8_whose 18 = .ok (.iload_n 3, 1) := by decide +kernel
theorem dX8_whose_19 : decode cX8_whose 19 = .ok (.aload_n 0, 1) := by decide +kernel
theorem dX8_whose_20 : decode cX8_whose 20 = .ok (.getfield 94, 3) := by decide +kernel
theorem dX8_whose_23 : decode cX8_whose 23 = .ok (.if_icmp .ge 33, 3) := by decide +kernel
theorem dX8_whose_26 : decode cX8_whose 26 = .ok (.aload_n 0, 1) := by decide +kernel
theorem dX8_whose_27 : decode cX8_whose 27 = .ok (.iload_n 1, 1) := by decide +kernel
theorem dX8_whose_28 : decode cX8_whose 28 = .ok (.iload_n 3, 1) := by decide +kernel
theorem dX8_whose_29 : decode cX8_whose 29 = .ok (.invokevirtual 284, 3) := by decide +kernel
theorem dX8_whose_32 : decode cX8_whose 32 = .ok (.pop, 1) := by decide +kernel
theorem dX8_whose_33 : decode cX8_whose 33 = .ok (.iload_n 2, 1) := by decide +kernel
theorem dX8_whose_34 : decode cX8_whose 34 = .ok (.aload_n 0, 1) := by decide +kernel
theorem dX8_whose_35 : decode cX8_whose 35 = .ok (.getfield 281, 3) := by decide +kernel
theorem dX8_whose_38 : decode cX8_whose 38 = .ok (.ifCond .lt 9, 3) := by decide +kernel
theorem dX8_whose_41 : decode cX8_whose 41 = .ok (.iconst 1, 1) := by decide +kernel
theorem dX8_whose_42 : decode cX8_whose 42 = .ok (.iload_n 3, 1) := by decide +kernel
theorem dX8_whose_43 : decode cX8_whose 43 = .ok (.ishl, 1) := by decide +kernel
theorem dX8_whose_44 : decode cX8_whose 44 = .ok (.goto 4, 3) := by decide +kernel
theorem dX8_whose_47 : decode cX8_whose 47 = .ok (.iconst 0, 1) := by decide +kernel
theorem dX8_whose_48 : decode cX8_whose 48 = .ok (.ior, 1) := by decide +kernel
theorem dX8_whose_49 : decode cX8_whose 49 = .ok (.istore_n 2, 1) := by decide +kernel
theorem dX8_whose_50 : decode cX8_whose 50 = .ok (.iinc 3 1, 3) := by decide +kernel
theorem dX8_whose_53 : decode cX8_whose 53 = .ok (.goto (-35), 3) := by decide +kernel
theorem dX8_whose_56 : decode cX8_whose 56 = .ok (.iload_n 2, 1) := by decide +kernel
theorem dX8_whose_57 : decode cX8_whose 57 = .ok (.ireturn, 1) := by decide +kernel
theorem dX8_send_0 : decode cX8_send 0 = .ok (.aload_n 0, 1) := by decide +kernel
theorem dX8_send_1 : decode cX8_send 1 = .ok (.iload_n 1, 1) := by decide +kernel
theorem dX8_send_2 : decode cX8_send 2 = .ok (.invokevirtual 220, 3) := by decide +kernel
theorem dX8_send_5 : decode cX8_send 5 = .ok (.ifCond .ne 5, 3) := by decide +kernel
theorem dX8_send_8 : decode cX8_send 8 = .ok (.iconst (-1), 1) := by decide +kernel
theorem dX8_send_9 : decode cX8_send 9 = .ok (.ireturn, 1) := by decide +kernel
theorem dX8_send_10 : decode cX8_send 10 = .ok (.aload_n 0, 1) := by decide +kernel
theorem dX8_send_11 : decode cX8_send 11 = .ok (.getfield 146, 3) := by decide +kernel
theorem dX8_send_14 : decode cX8_send 14 = .ok (.bipush 10, 2) := by decide +kernel
theorem dX8_send_16 : decode cX8_send 16 = .ok (.if_icmp .ne 6, 3) := by decide +kernel
theorem dX8_send_19 : decode cX8_send 19 = .ok (.bipush (-3), 2) := by decide +kernel
theorem dX8_send_21 : decode cX8_send 21 = .ok (.ireturn, 1) := by decide +kernel
theorem dX8_send_22 : decode cX8_send 22 = .ok (.aload_n 0, 1) := by decide +kernel
theorem dX8_send_23 : decode cX8_send 23 = .ok (.getfield 53, 3) := by decide +kernel
theorem dX8_send_26 : decode cX8_send 26 = .ok (.iconst 4, 1) := by decide +kernel
theorem dX8_send_27 : decode cX8_send 27 = .ok (.aload_n 0, 1) := by decide +kernel
theorem dX8_send_28 : decode cX8_send 28 = .ok (.getfield 146, 3) := by decide +kernel
theorem dX8_send_31 : decode cX8_send 31 = .ok (.imul, 1) := by decide +kernel
theorem dX8_send_32 : decode cX8_send 32 = .ok (.iload_n 1, 1) := by decide +kernel
theorem dX8_send_33 : decode cX8_send 33 = .ok (.bipush 10, 2) := by decide +kernel
theorem dX8_send_35 : decode cX8_send 35 = .ok (.idiv, 1) := by decide +kernel
theorem dX8_send_36 : decode cX8_send 36 = .ok (.iastore, 1) := by decide +kernel
theorem dX8_send_37 : decode cX8_send 37 = .ok (.aload_n 0, 1) := by decide +kernel
theorem dX8_send_38 : decode cX8_send 38 = .ok (.getfield 53, 3) := by decide +kernel
theorem dX8_send_41 : decode cX8_send 41 = .ok (.iconst 4, 1) := by decide +kernel
theorem dX8_send_42 : decode cX8_send 42 = .ok (.aload_n 0, 1) := by decide +kernel
theorem dX8_send_43 : decode cX8_send 43 = .ok (.getfield 146, 3) := by decide +kernel
theorem dX8_send_46 : decode cX8_send 46 = .ok (.imul, 1) := by decide +kernel
theorem dX8_send_47 : decode cX8_send 47 = .ok (.iconst 1, 1) := by decide +kernel
theorem dX8_send_48 : decode cX8_send 48 = .ok (.iadd, 1) := by decide +kernel
theorem dX8_send_49 : decode cX8_send 49 = .ok (.iload_n 1, 1) := by decide +kernel
theorem dX8_send_50 : decode cX8_send 50 = .ok (.bipush 10, 2) := by decide +kernel
theorem dX8_send_52 : decode cX8_send 52 = .ok (.irem, 1) := by decide +kernel
theorem dX8_send_53 : decode cX8_send 53 = .ok (.iastore, 1) := by decide +kernel
theorem dX8_send_54 : decode cX8_send 54 = .ok (.aload_n 0, 1) := by decide +kernel
theorem dX8_send_55 : decode cX8_send 55 = .ok (.getfield 53, 3) := by decide +kernel
theorem dX8_send_58 : decode cX8_send 58 = .ok (.iconst 4, 1) := by decide +kernel
theorem dX8_send_59 : decode cX8_send 59 = .ok (.aload_n 0, 1) := by decide +kernel
theorem dX8_send_60 : decode cX8_send 60 = .ok (.getfield 146, 3) := by decide +kernel
theorem dX8_send_63 : decode cX8_send 63 = .ok (.imul, 1) := by decide +kernel
theorem dX8_send_64 : decode cX8_send 64 = .ok (.iconst 2, 1) := by decide +kernel
theorem dX8_send_65 : decode cX8_send 65 = .ok (.iadd, 1) := by decide +kernel
theorem dX8_send_66 : decode cX8_send 66 = .ok (.iload_n 1, 1) := by decide +kernel
theorem dX8_send_67 : decode cX8_send 67 = .ok (.bipush 10, 2) := by decide +kernel
theorem dX8_send_69 : decode cX8_send 69 = .ok (.idiv, 1) := by decide +kernel
theorem dX8_send_70 : decode cX8_send 70 = .ok (.iastore, 1) := by decide +kernel
theorem dX8_send_71 : decode cX8_send 71 = .ok (.aload_n 0, 1) := by decide +kernel
theorem dX8_send_72 : decode cX8_send 72 = .ok (.getfield 53, 3) := by decide +kernel
theorem dX8_send_75 : decode cX8_send 75 = .ok (.iconst 4, 1) := by decide +kernel
theorem dX8_send_76 : decode cX8_send 76 = .ok (.aload_n 0, 1) := by decide +kernel
theorem dX8_send_77 : decode cX8_send 77 = .ok (.getfield 146, 3) := by decide +kernel
theorem dX8_send_80 : decode cX8_send 80 = .ok (.imul, 1) := by decide +kernel
theorem dX8_send_81 : decode cX8_send 81 = .ok (.iconst 3, 1) := by decide +kernel
theorem dX8_send_82 : decode cX8_send 82 = .ok (.iadd, 1) := by decide +kernel
theorem dX8_send_83 : decode cX8_send 83 = .ok (.bipush (-2), 2) := by decide +kernel
theorem dX8_send_85 : decode cX8_send 85 = .ok (.iastore, 1) := by decide +kernel
theorem dX8_send_86 : decode cX8_send 86 = .ok (.aload_n 0, 1) := by decide +kernel
theorem dX8_send_87 : decode cX8_send 87 = .ok (.dup, 1) := by decide +kernel
theorem dX8_send_88 : decode cX8_send 88 = .ok (.getfield 146, 3) := by decide +kernel
theorem dX8_send_91 : decode cX8_send 91 = .ok (.iconst 1, 1) := by decide +kernel
theorem dX8_send_92 : decode cX8_send 92 = .ok (.iadd, 1) := by decide +kernel
theorem dX8_send_93 : decode cX8_send 93 = .ok (.putfield 146, 3) := by decide +kernel
theorem dX8_send_96 : decode cX8_send 96 = .ok (.aload_n 0, 1) := by decide +kernel
theorem dX8_send_97 : decode cX8_send 97 = .ok (.getfield 146, 3) := by decide +kernel
theorem dX8_send_100 : decode cX8_send 100 = .ok (.iconst 1, 1) := by decide +kernel
theorem dX8_send_101 : decode cX8_send 101 = .ok (.isub, 1) := by decide +kernel
theorem dX8_send_102 : decode cX8_send 102 = .ok (.ireturn, 1) := by decide +kernel
theorem dX8_goesOn1_0 : decode cX8_goesOn1 0 = .ok (.aload_n 0, 1) := by decide +kernel
theorem dX8_goesOn1_1 : decode cX8_goesOn1 1 = .ok (.getfield 53, 3) := by decide +kernel
theorem dX8_goesOn1_4 : decode cX8_goesOn1 4 = .ok (.iconst 4, 1) := by decide +kernel
theorem dX8_goesOn1_5 : decode cX8_goesOn1 5 = .ok (.iload_n 1, 1) := by decide +kernel
theorem dX8_goesOn1_6 : decode cX8_goesOn1 6 = .ok (.imul, 1) := by decide +kernel
theorem dX8_goesOn1_7 : decode cX8_goesOn1 7 = .ok (.iconst 2, 1) := by decide +kernel
theorem dX8_goesOn1_8 : decode cX8_goesOn1 8 = .ok (.iadd, 1) := by decide +kernel
theorem dX8_goesOn1_9 : decode cX8_goesOn1 9 = .ok (.iaload, 1) := by decide +kernel
theorem dX8_goesOn1_10 : decode cX8_goesOn1 10 = .ok (.istore_n 2, 1) := by decide +kernel
theorem dX8_goesOn1_11 : decode cX8_goesOn1 11 = .ok (.aload_n 0, 1) := by decide +kernel
theorem dX8_goesOn1_12 : decode cX8_goesOn1 12 = .ok (.getfield 53, 3) := by decide +kernel
theorem dX8_goesOn1_15 : decode cX8_goesOn1 15 = .ok (.iconst 4, 1) := by decide +kernel
theorem dX8_goesOn1_16 : decode cX8_goesOn1 16 = .ok (.iload_n 1, 1) := by decide +kernel
theorem dX8_goesOn1_17 : decode cX8_goesOn1 17 = .ok (.imul, 1) := by decide +kernel
theorem dX8_goesOn1_18 : decode cX8_goesOn1 18 = .ok (.iconst 1, 1) := by decide +kernel
theorem dX8_goesOn1_19 : decode cX8_goesOn1 19 = .ok (.iadd, 1) := by decide +kernel
theorem dX8_goesOn1_20 : decode cX8_goesOn1 20 = .ok (.iaload, 1) := by decide +kernel
theorem dX8_goesOn1_21 : decode cX8_goesOn1 21 = .ok (.istore_n 3, 1) := by decide +kernel
theorem dX8_goesOn1_22 : decode cX8_goesOn1 22 = .ok (.iload_n 2, 1) := by decide +kernel
theorem dX8_goesOn1_23 : decode cX8_goesOn1 23 = .ok (.ifCond .lt 8, 3) := by decide +kernel
theorem dX8_goesOn1_26 : decode cX8_goesOn1 26 = .ok (.iload_n 2, 1) := by decide +kernel
theorem dX8_goesOn1_27 : decode cX8_goesOn1 27 = .ok (.iload_n 3, 1) := by decide +kernel
theorem dX8_goesOn1_28 : decode cX8_goesOn1 28 = .ok (.if_icmp .ne 5, 3) := by decide +kernel
theorem dX8_goesOn1_31 : decode cX8_goesOn1 31 = .ok (.iconst 0, 1) := by decide +kernel
theorem dX8_goesOn1_32 : decode cX8_goesOn1 32 = .ok (.ireturn, 1) := by decide +kernel
theorem dX8_goesOn1_33 : decode cX8_goesOn1 33 = .ok (.aload_n 0, 1) := by decide +kernel
theorem dX8_goesOn1_34 : decode cX8_goesOn1 34 = .ok (.iload_n 3, 1) := by decide +kernel
theorem dX8_goesOn1_35 : decode cX8_goesOn1 35 = .ok (.aload_n 0, 1) := by decide +kernel
theorem dX8_goesOn1_36 : decode cX8_goesOn1 36 = .ok (.getfield 131, 3) := by decide +kernel
theorem dX8_goesOn1_39 : decode cX8_goesOn1 39 = .ok (.invokevirtual 241, 3) := by decide +kernel
theorem dX8_goesOn1_42 : decode cX8_goesOn1 42 = .ok (.aload_n 0, 1) := by decide +kernel
theorem dX8_goesOn1_43 : decode cX8_goesOn1 43 = .ok (.getfield 38, 3) := by decide +kernel
theorem dX8_goesOn1_46 : decode cX8_goesOn1 46 = .ok (.iload_n 2, 1) := by decide +kernel
theorem dX8_goesOn1_47 : decode cX8_goesOn1 47 = .ok (.iaload, 1) := by decide +kernel
theorem dX8_goesOn1_48 : decode cX8_goesOn1 48 = .ok (.ldc 240, 2) := by decide +kernel
theorem dX8_goesOn1_50 : decode cX8_goesOn1 50 = .ok (.if_icmp .ne 5, 3) := by decide +kernel
theorem dX8_goesOn1_53 : decode cX8_goesOn1 53 = .ok (.iconst 0, 1) := by decide +kernel
theorem dX8_goesOn1_54 : decode cX8_goesOn1 54 = .ok (.ireturn, 1) := by decide +kernel
theorem dX8_goesOn1_55 : decode cX8_goesOn1 55 = .ok (.aload_n 0, 1) := by decide +kernel
theorem dX8_goesOn1_56 : decode cX8_goesOn1 56 = .ok (.iload_n 2, 1) := by decide +kernel
theorem dX8_goesOn1_57 : decode cX8_goesOn1 57 = .ok (.iload_n 3, 1) := by decide +kernel
theorem dX8_goesOn1_58 : decode cX8_goesOn1 58 = .ok (.aload_n 0, 1) := by decide +kernel
theorem dX8_goesOn1_59 : decode cX8_goesOn1 59 = .ok (.getfield 131, 3) := by decide +kernel
theorem dX8_goesOn1_62 : decode cX8_goesOn1 62 = .ok (.iconst 1, 1) := by decide +kernel
theorem dX8_goesOn1_63 : decode cX8_goesOn1 63 = .ok (.invokevirtual 249, 3) := by decide +kernel
theorem dX8_goesOn1_66 : decode cX8_goesOn1 66 = .ok (.istore 4, 2) := by decide +kernel
theorem dX8_goesOn1_68 : decode cX8_goesOn1 68 = .ok (.iload 4, 2) := by decide +kernel
theorem dX8_goesOn1_70 : decode cX8_goesOn1 70 = .ok (.iload_n 2, 1) := by decide +kernel
theorem dX8_goesOn1_71 : decode cX8_goesOn1 71 = .ok (.if_icmp .ne 5, 3) := by decide +kernel
theorem dX8_goesOn1_74 : decode cX8_goesOn1 74 = .ok (.iconst 0, 1) := by decide +kernel
theorem dX8_goesOn1_75 : decode cX8_goesOn1 75 = .ok (.ireturn, 1) := by decide +kernel
theorem dX8_goesOn1_76 : decode cX8_goesOn1 76 = .ok (.aload_n 0, 1) := by decide +kernel
theorem dX8_goesOn1_77 : decode cX8_goesOn1 77 = .ok (.aload_n 0, 1) := by decide +kernel
theorem dX8_goesOn1_78 : decode cX8_goesOn1 78 = .ok (.getfield 287, 3) := by decide +kernel
theorem dX8_goesOn1_81 : decode cX8_goesOn1 81 = .ok (.ldc_w 290, 3) := by decide +kernel
theorem dX8_goesOn1_84 : decode cX8_goesOn1 84 = .ok (.imul, 1) := by decide +kernel
theorem dX8_goesOn1_85 : decode cX8_goesOn1 85 = .ok (.sipush 12345, 3) := by decide +kernel
theorem dX8_goesOn1_88 : decode cX8_goesOn1 88 = .ok (.iadd, 1) := by decide +kernel
theorem dX8_goesOn1_89 : decode cX8_goesOn1 89 = .ok (.putfield 287, 3) := by decide +kernel
theorem dX8_goesOn1_92 : decode cX8_goesOn1 92 = .ok (.aload_n 0, 1) := by decide +kernel
theorem dX8_goesOn1_93 : decode cX8_goesOn1 93 = .ok (.getfield 56, 3) := by decide +kernel
theorem dX8_goesOn1_96 : decode cX8_goesOn1 96 = .ok (.iload_n 2, 1) := by decide +kernel
theorem dX8_goesOn1_97 : decode cX8_goesOn1 97 = .ok (.dup2, 1) := by decide +kernel
theorem dX8_goesOn1_98 : decode cX8_goesOn1 98 = .ok (.iaload, 1) := by decide +kernel
theorem dX8_goesOn1_99 : decode cX8_goesOn1 99 = .ok (.iconst 1, 1) := by decide +kernel
theorem dX8_goesOn1_100 : decode cX8_goesOn1 100 = .ok (.iadd, 1) := by decide +kernel
theorem dX8_goesOn1_101 : decode cX8_goesOn1 101 = .ok (.iastore, 1) := by decide +kernel
theorem dX8_goesOn1_102 : decode cX8_goesOn1 102 = .ok (.aload_n 0, 1) := by decide +kernel
theorem dX8_goesOn1_103 : decode cX8_goesOn1 103 = .ok (.getfield 287, 3) := by decide +kernel
theorem dX8_goesOn1_106 : decode cX8_goesOn1 106 = .ok (.bipush 8, 2) := by decide +kernel
theorem dX8_goesOn1_108 : decode cX8_goesOn1 108 = .ok (.iushr, 1) := by decide +kernel
theorem dX8_goesOn1_109 : decode cX8_goesOn1 109 = .ok (.bipush 12, 2) := by decide +kernel
theorem dX8_goesOn1_111 : decode cX8_goesOn1 111 = .ok (.irem, 1) := by decide +kernel
theorem dX8_goesOn1_112 : decode cX8_goesOn1 112 = .ok (.aload_n 0, 1) := by decide +kernel
theorem dX8_goesOn1_113 : decode cX8_goesOn1 113 = .ok (.getfield 9, 3) := by decide +kernel
theorem dX8_goesOn1_116 : decode cX8_goesOn1 116 = .ok (.bipush 22, 2) := by decide +kernel
theorem dX8_goesOn1_118 : decode cX8_goesOn1 118 = .ok (.iaload, 1) := by decide +kernel
theorem dX8_goesOn1_119 : decode cX8_goesOn1 119 = .ok (.if_icmp .ge 7, 3) := by decide +kernel
theorem dX8_goesOn1_122 : decode cX8_goesOn1 122 = .ok (.iconst 1, 1) := by decide +kernel
theorem dX8_goesOn1_123 : decode cX8_goesOn1 123 = .ok (.goto 4, 3) := by decide +kernel
theorem dX8_goesOn1_126 : decode cX8_goesOn1 126 = .ok (.iconst 0, 1) := by decide +kernel
theorem dX8_goesOn1_127 : decode cX8_goesOn1 127 = .ok (.istore 5, 2) := by decide +kernel
theorem dX8_goesOn1_129 : decode cX8_goesOn1 129 = .ok (.aload_n 0, 1) := by decide +kernel
theorem dX8_goesOn1_130 : decode cX8_goesOn1 130 = .ok (.getfield 53, 3) := by decide +kernel
theorem dX8_goesOn1_133 : decode cX8_goesOn1 133 = .ok (.iconst 4, 1) := by decide +kernel
theorem dX8_goesOn1_134 : decode cX8_goesOn1 134 = .ok (.iload_n 1, 1) := by decide +kernel
theorem dX8_goesOn1_135 : decode cX8_goesOn1 135 = .ok (.imul, 1) := by decide +kernel
theorem dX8_goesOn1_136 : decode cX8_goesOn1 136 = .ok (.iconst 2, 1) := by decide +kernel
theorem dX8_goesOn1_137 : decode cX8_goesOn1 137 = .ok (.iadd, 1) := by decide +kernel
theorem dX8_goesOn1_138 : decode cX8_goesOn1 138 = .ok (.iload 5, 2) := by decide +kernel
theorem dX8_goesOn1_140 : decode cX8_goesOn1 140 = .ok (.ifCond .eq 8, 3) := by decide +kernel
theorem dX8_goesOn1_143 : decode cX8_goesOn1 143 = .ok (.bipush (-2), 2) := by decide +kernel
theorem dX8_goesOn1_145 : decode cX8_goesOn1 145 = .ok (.goto 5, 3) := by decide +kernel
theorem dX8_goesOn1_148 : decode cX8_goesOn1 148 = .ok (.iload 4, 2) := by decide +kernel
theorem dX8_goesOn1_150 : decode cX8_goesOn1 150 = .ok (.iastore, 1) := by decide +kernel
theorem dX8_goesOn1_151 : decode cX8_goesOn1 151 = .ok (.iload 5, 2) := by decide +kernel
theorem dX8_goesOn1_153 : decode cX8_goesOn1 153 = .ok (.ifCond .ne 9, 3) := by decide +kernel
theorem dX8_goesOn1_156 : decode cX8_goesOn1 156 = .ok (.iload 4, 2) := by decide +kernel
theorem dX8_goesOn1_158 : decode cX8_goesOn1 158 = .ok (.iload_n 3, 1) := by decide +kernel
theorem dX8_goesOn1_159 : decode cX8_goesOn1 159 = .ok (.if_icmp .eq 5, 3) := by decide +kernel
theorem dX8_goesOn1_162 : decode cX8_goesOn1 162 = .ok (.iconst 0, 1) := by decide +kernel
theorem dX8_goesOn1_163 : decode cX8_goesOn1 163 = .ok (.ireturn, 1) := by decide +kernel
theorem dX8_goesOn1_164 : decode cX8_goesOn1 164 = .ok (.aload_n 0, 1) := by decide +kernel
theorem dX8_goesOn1_165 : decode cX8_goesOn1 165 = .ok (.getfield 53, 3) := by decide +kernel
theorem dX8_goesOn1_168 : decode cX8_goesOn1 168 = .ok (.iconst 4, 1) := by decide +kernel
theorem dX8_goesOn1_169 : decode cX8_goesOn1 169 = .ok (.iload_n 1, 1) := by decide +kernel
theorem dX8_goesOn1_170 : decode cX8_goesOn1 170 = .ok (.imul, 1) := by decide +kernel
theorem dX8_goesOn1_171 : decode cX8_goesOn1 171 = .ok (.iconst 3, 1) := by decide +kernel
theorem dX8_goesOn1_172 : decode cX8_goesOn1 172 = .ok (.iadd, 1) := by decide +kernel
theorem dX8_goesOn1_173 : decode cX8_goesOn1 173 = .ok (.aload_n 0, 1) := by decide +kernel
theorem dX8_goesOn1_174 : decode cX8_goesOn1 174 = .ok (.getfield 131, 3) := by decide +kernel
theorem dX8_goesOn1_177 : decode cX8_goesOn1 177 = .ok (.iconst 1, 1) := by decide +kernel
theorem dX8_goesOn1_178 : decode cX8_goesOn1 178 = .ok (.iadd, 1) := by decide +kernel
theorem dX8_goesOn1_179 : decode cX8_goesOn1 179 = .ok (.iastore, 1) := by decide +kernel
theorem dX8_goesOn1_180 : decode cX8_goesOn1 180 = .ok (.iconst 1, 1) := by decide +kernel
theorem dX8_goesOn1_181 : decode cX8_goesOn1 181 = .ok (.ireturn, 1) := by decide +kernel
theorem dX8_go_0 : decode cX8_go 0 = .ok (.iload_n 2, 1) := by decide +kernel
theorem dX8_go_1 : decode cX8_go 1 = .ok (.i2l, 1) := by decide +kernel
theorem dX8_go_2 : decode cX8_go 2 = .ok (.lconst 1, 1) := by decide +kernel
theorem dX8_go_3 : decode cX8_go 3 = .ok (.ldc2_w 291, 3) := by decide +kernel
theorem dX8_go_6 : decode cX8_go 6 = .ok (.invokestatic 97, 3) := by decide +kernel
theorem dX8_go_9 : decode cX8_go 9 = .ok (.ifCond .ne 5, 3) := by decide +kernel
theorem dX8_go_12 : decode cX8_go 12 = .ok (.iconst (-1), 1) := by decide +kernel
theorem dX8_go_13 : decode cX8_go 13 = .ok (.ireturn, 1) := by decide +kernel
theorem dX8_go_14 : decode cX8_go 14 = .ok (.aload_n 0, 1) := by decide +kernel
theorem dX8_go_15 : decode cX8_go 15 = .ok (.iload_n 1, 1) := by decide +kernel
theorem dX8_go_16 : decode cX8_go 16 = .ok (.putfield 287, 3) := by decide +kernel
theorem dX8_go_19 : decode cX8_go 19 = .ok (.iconst 0, 1) := by decide +kernel
theorem dX8_go_20 : decode cX8_go 20 = .ok (.istore_n 3, 1) := by decide +kernel
theorem dX8_go_21 : decode cX8_go 21 = .ok (.iconst 0, 1) := by decide +kernel
theorem dX8_go_22 : decode cX8_go 22 = .ok (.istore 4, 2) := by decide +kernel
theorem dX8_go_24 : decode cX8_go 24 = .ok (.iload 4, 2) := by decide +kernel
theorem dX8_go_26 : decode cX8_go 26 = .ok (.iload_n 2, 1) := by decide +kernel
theorem dX8_go_27 : decode cX8_go 27 = .ok (.if_icmp .ge 54, 3) := by decide +kernel
theorem dX8_go_30 : decode cX8_go 30 = .ok (.iconst 0, 1) := by decide +kernel
theorem dX8_go_31 : decode cX8_go 31 = .ok (.istore 5, 2) := by decide +kernel
theorem dX8_go_33 : decode cX8_go 33 = .ok (.iload 5, 2) := by decide +kernel
theorem dX8_go_35 : decode cX8_go 35 = .ok (.aload_n 0, 1) := by decide +kernel
theorem dX8_go_36 : decode cX8_go 36 = .ok (.getfield 146, 3) := by decide +kernel
theorem dX8_go_39 : decode cX8_go 39 = .ok (.if_icmp .ge 26, 3) := by decide +kernel
theorem dX8_go_42 : decode cX8_go 42 = .ok (.iload_n 3, 1) := by decide +kernel
theorem dX8_go_43 : decode cX8_go 43 = .ok (.aload_n 0, 1) := by decide +kernel
theorem dX8_go_44 : decode cX8_go 44 = .ok (.iload 5, 2) := by decide +kernel
theorem dX8_go_46 : decode cX8_go 46 = .ok (.invokevirtual 293, 3) := by decide +kernel
theorem dX8_go_49 : decode cX8_go 49 = .ok (.ifCond .eq 7, 3) := by decide +kernel
theorem dX8_go_52 : decode cX8_go 52 = .ok (.iconst 1, 1) := by decide +kernel
theorem dX8_go_53 : decode cX8_go 53 = .ok (.goto 4, 3) := by decide +kernel
theorem dX8_go_56 : decode cX8_go 56 = .ok (.iconst 0, 1) := by decide +kernel
theorem dX8_go_57 : decode cX8_go 57 = .ok (.iadd, 1) := by decide +kernel
theorem dX8_go_58 : decode cX8_go 58 = .ok (.istore_n 3, 1) := by decide +kernel
theorem dX8_go_59 : decode cX8_go 59 = .ok (.iinc 5 1, 3) := by decide +kernel
theorem dX8_go_62 : decode cX8_go 62 = .ok (.goto (-29), 3) := by decide +kernel
theorem dX8_go_65 : decode cX8_go 65 = .ok (.aload_n 0, 1) := by decide +kernel
theorem dX8_go_66 : decode cX8_go 66 = .ok (.dup, 1) := by decide +kernel
theorem dX8_go_67 : decode cX8_go 67 = .ok (.getfield 131, 3) := by decide +kernel
theorem dX8_go_70 : decode cX8_go 70 = .ok (.iconst 1, 1) := by decide +kernel
theorem dX8_go_71 : decode cX8_go 71 = .ok (.iadd, 1) := by decide +kernel
theorem dX8_go_72 : decode cX8_go 72 = .ok (.putfield 131, 3) := by decide +kernel
theorem dX8_go_75 : decode cX8_go 75 = .ok (.iinc 4 1, 3) := by decide +kernel
theorem dX8_go_78 : decode cX8_go 78 = .ok (.goto (-54), 3) := by decide +kernel
theorem dX8_go_81 : decode cX8_go 81 = .ok (.iload_n 3, 1) := by decide +kernel
theorem dX8_go_82 : decode cX8_go 82 = .ok (.ireturn, 1) := by decide +kernel
theorem dX8_draws_0 : decode cX8_draws 0 = .ok (.aload_n 0, 1) := by decide +kernel
theorem dX8_draws_1 : decode cX8_draws 1 = .ok (.aload_n 0, 1) := by decide +kernel
theorem dX8_draws_2 : decode cX8_draws 2 = .ok (.getfield 287, 3) := by decide +kernel
theorem dX8_draws_5 : decode cX8_draws 5 = .ok (.ldc_w 290, 3) := by decide +kernel
theorem dX8_draws_8 : decode cX8_draws 8 = .ok (.imul, 1) := by decide +kernel
theorem dX8_draws_9 : decode cX8_draws 9 = .ok (.sipush 12345, 3) := by decide +kernel
theorem dX8_draws_12 : decode cX8_draws 12 = .ok (.iadd, 1) := by decide +kernel
theorem dX8_draws_13 : decode cX8_draws 13 = .ok (.putfield 287, 3) := by decide +kernel
theorem dX8_draws_16 : decode cX8_draws 16 = .ok (.aload_n 0, 1) := by decide +kernel
theorem dX8_draws_17 : decode cX8_draws 17 = .ok (.getfield 287, 3) := by decide +kernel
theorem dX8_draws_20 : decode cX8_draws 20 = .ok (.bipush 8, 2) := by decide +kernel
theorem dX8_draws_22 : decode cX8_draws 22 = .ok (.iushr, 1) := by decide +kernel
theorem dX8_draws_23 : decode cX8_draws 23 = .ok (.iload_n 1, 1) := by decide +kernel
theorem dX8_draws_24 : decode cX8_draws 24 = .ok (.irem, 1) := by decide +kernel
theorem dX8_draws_25 : decode cX8_draws 25 = .ok (.ireturn, 1) := by decide +kernel
theorem dX8_drawn_0 : decode cX8_drawn 0 = .ok (.iload_n 2, 1) := by decide +kernel
theorem dX8_drawn_1 : decode cX8_drawn 1 = .ok (.i2l, 1) := by decide +kernel
theorem dX8_drawn_2 : decode cX8_drawn 2 = .ok (.lconst 1, 1) := by decide +kernel
theorem dX8_drawn_3 : decode cX8_drawn 3 = .ok (.ldc2_w 296, 3) := by decide +kernel
theorem dX8_drawn_6 : decode cX8_drawn 6 = .ok (.invokestatic 97, 3) := by decide +kernel
theorem dX8_drawn_9 : decode cX8_drawn 9 = .ok (.ifCond .eq 13, 3) := by decide +kernel
theorem dX8_drawn_12 : decode cX8_drawn 12 = .ok (.iload_n 3, 1) := by decide +kernel
theorem dX8_drawn_13 : decode cX8_drawn 13 = .ok (.i2l, 1) := by decide +kernel
theorem dX8_drawn_14 : decode cX8_drawn 14 = .ok (.lconst 0, 1) := by decide +kernel
theorem dX8_drawn_15 : decode cX8_drawn 15 = .ok (.lconst 1, 1) := by decide +kernel
theorem dX8_drawn_16 : decode cX8_drawn 16 = .ok (.invokestatic 97, 3) := by decide +kernel
theorem dX8_drawn_19 : decode cX8_drawn 19 = .ok (.ifCond .ne 5, 3) := by decide +kernel
theorem dX8_drawn_22 : decode cX8_drawn 22 = .ok (.iconst (-1), 1) := by decide +kernel
theorem dX8_drawn_23 : decode cX8_drawn 23 = .ok (.ireturn, 1) := by decide +kernel
theorem dX8_drawn_24 : decode cX8_drawn 24 = .ok (.aload_n 0, 1) := by decide +kernel
theorem dX8_drawn_25 : decode cX8_drawn 25 = .ok (.getfield 94, 3) := by decide +kernel
theorem dX8_drawn_28 : decode cX8_drawn 28 = .ok (.iconst 2, 1) := by decide +kernel
theorem dX8_drawn_29 : decode cX8_drawn 29 = .ok (.if_icmp .ge 6, 3) := by decide +kernel
theorem dX8_drawn_32 : decode cX8_drawn 32 = .ok (.bipush (-5), 2) := by decide +kernel
theorem dX8_drawn_34 : decode cX8_drawn 34 = .ok (.ireturn, 1) := by decide +kernel
theorem dX8_drawn_35 : decode cX8_drawn 35 = .ok (.aload_n 0, 1) := by decide +kernel
theorem dX8_drawn_36 : decode cX8_drawn 36 = .ok (.iload_n 1, 1) := by decide +kernel
theorem dX8_drawn_37 : decode cX8_drawn 37 = .ok (.putfield 287, 3) := by decide +kernel
theorem dX8_drawn_40 : decode cX8_drawn 40 = .ok (.iconst 0, 1) := by decide +kernel
theorem dX8_drawn_41 : decode cX8_drawn 41 = .ok (.istore 4, 2) := by decide +kernel
theorem dX8_drawn_43 : decode cX8_drawn 43 = .ok (.iconst 0, 1) := by decide +kernel
theorem dX8_drawn_44 : decode cX8_drawn 44 = .ok (.istore 5, 2) := by decide +kernel
theorem dX8_drawn_46 : decode cX8_drawn 46 = .ok (.aload_n 0, 1) := by decide +kernel
theorem dX8_drawn_47 : decode cX8_drawn 47 = .ok (.aload_n 0, 1) := by decide +kernel
theorem dX8_drawn_48 : decode cX8_drawn 48 = .ok (.getfield 94, 3) := by decide +kernel
theorem dX8_drawn_51 : decode cX8_drawn 51 = .ok (.invokevirtual 149, 3) := by decide +kernel
theorem dX8_drawn_54 : decode cX8_drawn 54 = .ok (.istore 6, 2) := by decide +kernel
theorem dX8_drawn_56 : decode cX8_drawn 56 = .ok (.iconst 0, 1) := by decide +kernel
theorem dX8_drawn_57 : decode cX8_drawn 57 = .ok (.istore 7, 2) := by decide +kernel
theorem dX8_drawn_59 : decode cX8_drawn 59 = .ok (.iload 7, 2) := by decide +kernel
theorem dX8_drawn_61 : decode cX8_drawn 61 = .ok (.iload_n 2, 1) := by decide +kernel
theorem dX8_drawn_62 : decode cX8_drawn 62 = .ok (.if_icmp .ge 118, 3) := by decide +kernel
theorem dX8_drawn_65 : decode cX8_drawn 65 = .ok (.aload_n 0, 1) := by decide +kernel
theorem dX8_drawn_66 : decode cX8_drawn 66 = .ok (.iload 6, 2) := by decide +kernel
theorem dX8_drawn_68 : decode cX8_drawn 68 = .ok (.invokevirtual 298, 3) := by decide +kernel
theorem dX8_drawn_71 : decode cX8_drawn 71 = .ok (.istore 8, 2) := by decide +kernel
theorem dX8_drawn_73 : decode cX8_drawn 73 = .ok (.aload_n 0, 1) := by decide +kernel
theorem dX8_drawn_74 : decode cX8_drawn 74 = .ok (.aload_n 0, 1) := by decide +kernel
theorem dX8_drawn_75 : decode cX8_drawn 75 = .ok (.getfield 94, 3) := by decide +kernel
theorem dX8_drawn_78 : decode cX8_drawn 78 = .ok (.invokevirtual 298, 3) := by decide +kernel
theorem dX8_drawn_81 : decode cX8_drawn 81 = .ok (.istore 9, 2) := by decide +kernel
theorem dX8_drawn_83 : decode cX8_drawn 83 = .ok (.aload_n 0, 1) := by decide +kernel
theorem dX8_drawn_84 : decode cX8_drawn 84 = .ok (.aload_n 0, 1) := by decide +kernel
theorem dX8_drawn_85 : decode cX8_drawn 85 = .ok (.getfield 94, 3) := by decide +kernel
theorem dX8_drawn_88 : decode cX8_drawn 88 = .ok (.invokevirtual 298, 3) := by decide +kernel
theorem dX8_drawn_91 : decode cX8_drawn 91 = .ok (.istore 10, 2) := by decide +kernel
theorem dX8_drawn_93 : decode cX8_drawn 93 = .ok (.iload 10, 2) := by decide +kernel
theorem dX8_drawn_95 : decode cX8_drawn 95 = .ok (.iload 9, 2) := by decide +kernel
theorem dX8_drawn_97 : decode cX8_drawn 97 = .ok (.if_icmp .ne 15, 3) := by decide +kernel
theorem dX8_drawn_100 : decode cX8_drawn 100 = .ok (.iload 10, 2) := by decide +kernel
theorem dX8_drawn_102 : decode cX8_drawn 102 = .ok (.iconst 1, 1) := by decide +kernel
theorem dX8_drawn_103 : decode cX8_drawn 103 = .ok (.iadd, 1) := by decide +kernel
theorem dX8_drawn_104 : decode cX8_drawn 104 = .ok (.aload_n 0, 1) := by decide +kernel
theorem dX8_drawn_105 : decode cX8_drawn 105 = .ok (.getfield 94, 3) := by decide +kernel
theorem dX8_drawn_108 : decode cX8_drawn 108 = .ok (.irem, 1) := by decide +kernel
theorem dX8_drawn_109 : decode cX8_drawn 109 = .ok (.goto 5, 3) := by decide +kernel
theorem dX8_drawn_112 : decode cX8_drawn 112 = .ok (.iload 10, 2) := by decide +kernel
theorem dX8_drawn_114 : decode cX8_drawn 114 = .ok (.istore 10, 2) := by decide +kernel
theorem dX8_drawn_116 : decode cX8_drawn 116 = .ok (.aload_n 0, 1) := by decide +kernel
theorem dX8_drawn_117 : decode cX8_drawn 117 = .ok (.iload 10, 2) := by decide +kernel
theorem dX8_drawn_119 : decode cX8_drawn 119 = .ok (.iload 8, 2) := by decide +kernel
theorem dX8_drawn_121 : decode cX8_drawn 121 = .ok (.invokevirtual 241, 3) := by decide +kernel
theorem dX8_drawn_124 : decode cX8_drawn 124 = .ok (.iload 4, 2) := by decide +kernel
theorem dX8_drawn_126 : decode cX8_drawn 126 = .ok (.aload_n 0, 1) := by decide +kernel
theorem dX8_drawn_127 : decode cX8_drawn 127 = .ok (.getfield 38, 3) := by decide +kernel
theorem dX8_drawn_130 : decode cX8_drawn 130 = .ok (.iload 9, 2) := by decide +kernel
theorem dX8_drawn_132 : decode cX8_drawn 132 = .ok (.iaload, 1) := by decide +kernel
theorem dX8_drawn_133 : decode cX8_drawn 133 = .ok (.ldc 240, 2) := by decide +kernel
theorem dX8_drawn_135 : decode cX8_drawn 135 = .ok (.if_icmp .ge 13, 3) := by decide +kernel
theorem dX8_drawn_138 : decode cX8_drawn 138 = .ok (.aload_n 0, 1) := by decide +kernel
theorem dX8_drawn_139 : decode cX8_drawn 139 = .ok (.getfield 38, 3) := by decide +kernel
theorem dX8_drawn_142 : decode cX8_drawn 142 = .ok (.iload 9, 2) := by decide +kernel
theorem dX8_drawn_144 : decode cX8_drawn 144 = .ok (.iaload, 1) := by decide +kernel
theorem dX8_drawn_145 : decode cX8_drawn 145 = .ok (.goto 4, 3) := by decide +kernel
theorem dX8_drawn_148 : decode cX8_drawn 148 = .ok (.iconst 0, 1) := by decide +kernel
theorem dX8_drawn_149 : decode cX8_drawn 149 = .ok (.iadd, 1) := by decide +kernel
theorem dX8_drawn_150 : decode cX8_drawn 150 = .ok (.istore 4, 2) := by decide +kernel
theorem dX8_drawn_152 : decode cX8_drawn 152 = .ok (.iload 5, 2) := by decide +kernel
theorem dX8_drawn_154 : decode cX8_drawn 154 = .ok (.aload_n 0, 1) := by decide +kernel
theorem dX8_drawn_155 : decode cX8_drawn 155 = .ok (.getfield 38, 3) := by decide +kernel
theorem dX8_drawn_158 : decode cX8_drawn 158 = .ok (.iload 9, 2) := by decide +kernel
theorem dX8_drawn_160 : decode cX8_drawn 160 = .ok (.iaload, 1) := by decide +kernel
theorem dX8_drawn_161 : decode cX8_drawn 161 = .ok (.ldc 240, 2) := by decide +kernel
theorem dX8_drawn_163 : decode cX8_drawn 163 = .ok (.if_icmp .ge 7, 3) := by decide +kernel
theorem dX8_drawn_166 : decode cX8_drawn 166 = .ok (.iconst 0, 1) := by decide +kernel
theorem dX8_drawn_167 : decode cX8_drawn 167 = .ok (.goto 4, 3) := by decide +kernel
theorem dX8_drawn_170 : decode cX8_drawn 170 = .ok (.iconst 1, 1) := by decide +kernel
theorem dX8_drawn_171 : decode cX8_drawn 171 = .ok (.iadd, 1) := by decide +kernel
theorem dX8_drawn_172 : decode cX8_drawn 172 = .ok (.istore 5, 2) := by decide +kernel
theorem dX8_drawn_174 : decode cX8_drawn 174 = .ok (.iinc 7 1, 3) := by decide +kernel
theorem dX8_drawn_177 : decode cX8_drawn 177 = .ok (.goto (-118), 3) := by decide +kernel
theorem dX8_drawn_180 : decode cX8_drawn 180 = .ok (.iload_n 3, 1) := by decide +kernel
theorem dX8_drawn_181 : decode cX8_drawn 181 = .ok (.ifCond .ne 8, 3) := by decide +kernel
theorem dX8_drawn_184 : decode cX8_drawn 184 = .ok (.iload 4, 2) := by decide +kernel
theorem dX8_drawn_186 : decode cX8_drawn 186 = .ok (.goto 5, 3) := by decide +kernel
theorem dX8_drawn_189 : decode cX8_drawn 189 = .ok (.iload 5, 2) := by decide +kernel
theorem dX8_drawn_191 : decode cX8_drawn 191 = .ok (.ireturn, 1) := by decide +kernel
theorem dX8_cameMany_0 : decode cX8_cameMany 0 = .ok (.iconst 0, 1) := by decide +kernel
theorem dX8_cameMany_1 : decode cX8_cameMany 1 = .ok (.istore_n 1, 1) := by decide +kernel
theorem dX8_cameMany_2 : decode cX8_cameMany 2 = .ok (.iconst 0, 1) := by decide +kernel
theorem dX8_cameMany_3 : decode cX8_cameMany 3 = .ok (.istore_n 2, 1) := by decide +kernel
theorem dX8_cameMany_4 : decode cX8_cameMany 4 = .ok (.iload_n 2, 1) := by decide +kernel
theorem dX8_cameMany_5 : decode cX8_cameMany 5 = .ok (.aload_n 0, 1) := by decide +kernel
theorem dX8_cameMany_6 : decode cX8_cameMany 6 = .ok (.getfield 146, 3) := by decide +kernel
theorem dX8_cameMany_9 : decode cX8_cameMany 9 = .ok (.if_icmp .ge 30, 3) := by decide +kernel
theorem dX8_cameMany_12 : decode cX8_cameMany 12 = .ok (.iload_n 1, 1) := by decide +kernel
theorem dX8_cameMany_13 : decode cX8_cameMany 13 = .ok (.aload_n 0, 1) := by decide +kernel
theorem dX8_cameMany_14 : decode cX8_cameMany 14 = .ok (.getfield 53, 3) := by decide +kernel
theorem dX8_cameMany_17 : decode cX8_cameMany 17 = .ok (.iconst 4, 1) := by decide +kernel
theorem dX8_cameMany_18 : decode cX8_cameMany 18 = .ok (.iload_n 2, 1) := by decide +kernel
theorem dX8_cameMany_19 : decode cX8_cameMany 19 = .ok (.imul, 1) := by decide +kernel
theorem dX8_cameMany_20 : decode cX8_cameMany 20 = .ok (.iconst 3, 1) := by decide +kernel
theorem dX8_cameMany_21 : decode cX8_cameMany 21 = .ok (.iadd, 1) := by decide +kernel
theorem dX8_cameMany_22 : decode cX8_cameMany 22 = .ok (.iaload, 1) := by decide +kernel
theorem dX8_cameMany_23 : decode cX8_cameMany 23 = .ok (.ifCond .lt 7, 3) := by decide +kernel
theorem dX8_cameMany_26 : decode cX8_cameMany 26 = .ok (.iconst 1, 1) := by decide +kernel
theorem dX8_cameMany_27 : decode cX8_cameMany 27 = .ok (.goto 4, 3) := by decide +kernel
theorem dX8_cameMany_30 : decode cX8_cameMany 30 = .ok (.iconst 0, 1) := by decide +kernel
theorem dX8_cameMany_31 : decode cX8_cameMany 31 = .ok (.iadd, 1) := by decide +kernel
theorem dX8_cameMany_32 : decode cX8_cameMany 32 = .ok (.istore_n 1, 1) := by decide +kernel
theorem dX8_cameMany_33 : decode cX8_cameMany 33 = .ok (.iinc 2 1, 3) := by decide +kernel
theorem dX8_cameMany_36 : decode cX8_cameMany 36 = .ok (.goto (-32), 3) := by decide +kernel
theorem dX8_cameMany_39 : decode cX8_cameMany 39 = .ok (.iload_n 1, 1) := by decide +kernel
theorem dX8_cameMany_40 : decode cX8_cameMany 40 = .ok (.ireturn, 1) := by decide +kernel
theorem dX8_image_0 : decode cX8_image 0 = .ok (.aload_n 0, 1) := by decide +kernel
theorem dX8_image_1 : decode cX8_image 1 = .ok (.iconst 1, 1) := by decide +kernel
theorem dX8_image_2 : decode cX8_image 2 = .ok (.putfield 301, 3) := by decide +kernel
theorem dX8_image_5 : decode cX8_image 5 = .ok (.aload_n 0, 1) := by decide +kernel
theorem dX8_image_6 : decode cX8_image 6 = .ok (.aload_n 0, 1) := by decide +kernel
theorem dX8_image_7 : decode cX8_image 7 = .ok (.getfield 94, 3) := by decide +kernel
theorem dX8_image_10 : decode cX8_image 10 = .ok (.putfield 305, 3) := by decide +kernel
theorem dX8_image_13 : decode cX8_image 13 = .ok (.aload_n 0, 1) := by decide +kernel
theorem dX8_image_14 : decode cX8_image 14 = .ok (.aload_n 0, 1) := by decide +kernel
theorem dX8_image_15 : decode cX8_image 15 = .ok (.getfield 131, 3) := by decide +kernel
theorem dX8_image_18 : decode cX8_image 18 = .ok (.putfield 308, 3) := by decide +kernel
theorem dX8_image_21 : decode cX8_image 21 = .ok (.aload_n 0, 1) := by decide +kernel
theorem dX8_image_22 : decode cX8_image 22 = .ok (.aload_n 0, 1) := by decide +kernel
theorem dX8_image_23 : decode cX8_image 23 = .ok (.getfield 146, 3) := by decide +kernel
theorem dX8_image_26 : decode cX8_image 26 = .ok (.putfield 311, 3) := by decide +kernel
theorem dX8_image_29 : decode cX8_image 29 = .ok (.iconst 0, 1) := by decide +kernel
theorem dX8_image_30 : decode cX8_image 30 = .ok (.istore_n 1, 1) := by decide +kernel
theorem dX8_image_31 : decode cX8_image 31 = .ok (.iload_n 1, 1) := by decide +kernel
theorem dX8_image_32 : decode cX8_image 32 = .ok (.bipush 40, 2) := by decide +kernel
theorem dX8_image_34 : decode cX8_image 34 = .ok (.if_icmp .ge 21, 3) := by decide +kernel
theorem dX8_image_37 : decode cX8_image 37 = .ok (.aload_n 0, 1) := by decide +kernel
theorem dX8_image_38 : decode cX8_image 38 = .ok (.getfield 59, 3) := by decide +kernel
theorem dX8_image_41 : decode cX8_image 41 = .ok (.iload_n 1, 1) := by decide +kernel
theorem dX8_image_42 : decode cX8_image 42 = .ok (.aload_n 0, 1) := by decide +kernel
theorem dX8_image_43 : decode cX8_image 43 = .ok (.getfield 53, 3) := by decide +kernel
theorem dX8_image_46 : decode cX8_image 46 = .ok (.iload_n 1, 1) := by decide +kernel
theorem dX8_image_47 : decode cX8_image 47 = .ok (.iaload, 1) := by decide +kernel
theorem dX8_image_48 : decode cX8_image 48 = .ok (.iastore, 1) := by decide +kernel
theorem dX8_image_49 : decode cX8_image 49 = .ok (.iinc 1 1, 3) := by decide +kernel
theorem dX8_image_52 : decode cX8_image 52 = .ok (.goto (-21), 3) := by decide +kernel
theorem dX8_image_55 : decode cX8_image 55 = .ok (.iconst 0, 1) := by decide +kernel
theorem dX8_image_56 : decode cX8_image 56 = .ok (.istore_n 1, 1) := by decide +kernel
theorem dX8_image_57 : decode cX8_image 57 = .ok (.iload_n 1, 1) := by decide +kernel
theorem dX8_image_58 : decode cX8_image 58 = .ok (.bipush 6, 2) := by decide +kernel
theorem dX8_image_60 : decode cX8_image 60 = .ok (.if_icmp .ge 21, 3) := by decide +kernel
theorem dX8_image_63 : decode cX8_image 63 = .ok (.aload_n 0, 1) := by decide +kernel
theorem dX8_image_64 : decode cX8_image 64 = .ok (.getfield 62, 3) := by decide +kernel
theorem dX8_image_67 : decode cX8_image 67 = .ok (.iload_n 1, 1) := by decide +kernel
theorem dX8_image_68 : decode cX8_image 68 = .ok (.aload_n 0, 1) := by decide +kernel
theorem dX8_image_69 : decode cX8_image 69 = .ok (.getfield 56, 3) := by decide +kernel
theorem dX8_image_72 : decode cX8_image 72 = .ok (.iload_n 1, 1) := by decide +kernel
theorem dX8_image_73 : decode cX8_image 73 = .ok (.iaload, 1) := by decide +kernel
theorem dX8_image_74 : decode cX8_image 74 = .ok (.iastore, 1) := by decide +kernel
theorem dX8_image_75 : decode cX8_image 75 = .ok (.iinc 1 1, 3) := by decide +kernel
theorem dX8_image_78 : decode cX8_image 78 = .ok (.goto (-21), 3) := by decide +kernel
theorem dX8_image_81 : decode cX8_image 81 = .ok (.aload_n 0, 1) := by decide +kernel
theorem dX8_image_82 : decode cX8_image 82 = .ok (.getfield 131, 3) := by decide +kernel
theorem dX8_image_85 : decode cX8_image 85 = .ok (.ireturn, 1) := by decide +kernel
theorem dX8_back_0 : decode cX8_back 0 = .ok (.aload_n 0, 1) := by decide +kernel
theorem dX8_back_1 : decode cX8_back 1 = .ok (.getfield 301, 3) := by decide +kernel
theorem dX8_back_4 : decode cX8_back 4 = .ok (.ifCond .ne 6, 3) := by decide +kernel
theorem dX8_back_7 : decode cX8_back 7 = .ok (.bipush (-5), 2) := by decide +kernel
theorem dX8_back_9 : decode cX8_back 9 = .ok (.ireturn, 1) := by decide +kernel
theorem dX8_back_10 : decode cX8_back 10 = .ok (.aload_n 0, 1) := by decide +kernel
theorem dX8_back_11 : decode cX8_back 11 = .ok (.aload_n 0, 1) := by decide +kernel
theorem dX8_back_12 : decode cX8_back 12 = .ok (.getfield 308, 3) := by decide +kernel
theorem dX8_back_15 : decode cX8_back 15 = .ok (.putfield 131, 3) := by decide +kernel
theorem dX8_back_18 : decode cX8_back 18 = .ok (.aload_n 0, 1) := by decide +kernel
theorem dX8_back_19 : decode cX8_back 19 = .ok (.aload_n 0, 1) := by decide +kernel
theorem dX8_back_20 : decode cX8_back 20 = .ok (.getfield 311, 3) := by decide +kernel
theorem dX8_back_23 : decode cX8_back 23 = .ok (.putfield 146, 3) := by decide +kernel
theorem dX8_back_26 : decode cX8_back 26 = .ok (.iconst 0, 1) := by decide +kernel
theorem dX8_back_27 : decode cX8_back 27 = .ok (.istore_n 1, 1) := by decide +kernel
theorem dX8_back_28 : decode cX8_back 28 = .ok (.iload_n 1, 1) := by decide +kernel
theorem dX8_back_29 : decode cX8_back 29 = .ok (.bipush 40, 2) := by decide +kernel
theorem dX8_back_31 : decode cX8_back 31 = .ok (.if_icmp .ge 21, 3) := by decide +kernel
theorem dX8_back_34 : decode cX8_back 34 = .ok (.aload_n 0, 1) := by decide +kernel
theorem dX8_back_35 : decode cX8_back 35 = .ok (.getfield 53, 3) := by decide +kernel
theorem dX8_back_38 : decode cX8_back 38 = .ok (.iload_n 1, 1) := by decide +kernel
theorem dX8_back_39 : decode cX8_back 39 = .ok (.aload_n 0, 1) := by decide +kernel
theorem dX8_back_40 : decode cX8_back 40 = .ok (.getfield 59, 3) := by decide +kernel
theorem dX8_back_43 : decode cX8_back 43 = .ok (.iload_n 1, 1) := by decide +kernel
theorem dX8_back_44 : decode cX8_back 44 = .ok (.iaload, 1) := by decide +kernel
theorem dX8_back_45 : decode cX8_back 45 = .ok (.iastore, 1) := by decide +kernel
theorem dX8_back_46 : decode cX8_back 46 = .ok (.iinc 1 1, 3) := by decide +kernel
theorem dX8_back_49 : decode cX8_back 49 = .ok (.goto (-21), 3) := by decide +kernel
theorem dX8_back_52 : decode cX8_back 52 = .ok (.iconst 0, 1) := by decide +kernel
theorem dX8_back_53 : decode cX8_back 53 = .ok (.istore_n 1, 1) := by decide +kernel
theorem dX8_back_54 : decode cX8_back 54 = .ok (.iload_n 1, 1) := by decide +kernel
theorem dX8_back_55 : decode cX8_back 55 = .ok (.bipush 6, 2) := by decide +kernel
theorem dX8_back_57 : decode cX8_back 57 = .ok (.if_icmp .ge 33, 3) := by decide +kernel
theorem dX8_back_60 : decode cX8_back 60 = .ok (.aload_n 0, 1) := by decide +kernel
theorem dX8_back_61 : decode cX8_back 61 = .ok (.getfield 56, 3) := by decide +kernel
theorem dX8_back_64 : decode cX8_back 64 = .ok (.iload_n 1, 1) := by decide +kernel
theorem dX8_back_65 : decode cX8_back 65 = .ok (.iload_n 1, 1) := by decide +kernel
theorem dX8_back_66 : decode cX8_back 66 = .ok (.aload_n 0, 1) := by decide +kernel
theorem dX8_back_67 : decode cX8_back 67 = .ok (.getfield 305, 3) := by decide +kernel
theorem dX8_back_70 : decode cX8_back 70 = .ok (.if_icmp .ge 12, 3) := by decide +kernel
theorem dX8_back_73 : decode cX8_back 73 = .ok (.aload_n 0, 1) := by decide +kernel
theorem dX8_back_74 : decode cX8_back 74 = .ok (.getfield 62, 3) := by decide +kernel
theorem dX8_back_77 : decode cX8_back 77 = .ok (.iload_n 1, 1) := by decide +kernel
theorem dX8_back_78 : decode cX8_back 78 = .ok (.iaload, 1) := by decide +kernel
theorem dX8_back_79 : decode cX8_back 79 = .ok (.goto 4, 3) := by decide +kernel
theorem dX8_back_82 : decode cX8_back 82 = .ok (.iconst 0, 1) := by decide +kernel
theorem dX8_back_83 : decode cX8_back 83 = .ok (.iastore, 1) := by decide +kernel
theorem dX8_back_84 : decode cX8_back 84 = .ok (.iinc 1 1, 3) := by decide +kernel
theorem dX8_back_87 : decode cX8_back 87 = .ok (.goto (-33), 3) := by decide +kernel
theorem dX8_back_90 : decode cX8_back 90 = .ok (.aload_n 0, 1) := by decide +kernel
theorem dX8_back_91 : decode cX8_back 91 = .ok (.getfield 131, 3) := by decide +kernel
theorem dX8_back_94 : decode cX8_back 94 = .ok (.ireturn, 1) := by decide +kernel
theorem dX8_isBody_0 : decode cX8_isBody 0 = .ok (.iload_n 1, 1) := by decide +kernel
theorem dX8_isBody_1 : decode cX8_isBody 1 = .ok (.i2l, 1) := by decide +kernel
theorem dX8_isBody_2 : decode cX8_isBody 2 = .ok (.lconst 0, 1) := by decide +kernel
theorem dX8_isBody_3 : decode cX8_isBody 3 = .ok (.aload_n 0, 1) := by decide +kernel
theorem dX8_isBody_4 : decode cX8_isBody 4 = .ok (.getfield 314, 3) := by decide +kernel
theorem dX8_isBody_7 : decode cX8_isBody 7 = .ok (.iconst 1, 1) := by decide +kernel
theorem dX8_isBody_8 : decode cX8_isBody 8 = .ok (.isub, 1) := by decide +kernel
theorem dX8_isBody_9 : decode cX8_isBody 9 = .ok (.i2l, 1) := by decide +kernel
theorem dX8_isBody_10 : decode cX8_isBody 10 = .ok (.invokestatic 97, 3) := by decide +kernel
theorem dX8_isBody_13 : decode cX8_isBody 13 = .ok (.ireturn, 1) := by decide +kernel
theorem dX8_kindOf_0 : decode cX8_kindOf 0 = .ok (.aload_n 0, 1) := by decide +kernel
theorem dX8_kindOf_1 : decode cX8_kindOf 1 = .ok (.getfield 65, 3) := by decide +kernel
theorem dX8_kindOf_4 : decode cX8_kindOf 4 = .ok (.iload_n 1, 1) := by decide +kernel
theorem dX8_kindOf_5 : decode cX8_kindOf 5 = .ok (.iaload, 1) := by decide +kernel
theorem dX8_kindOf_6 : decode cX8_kindOf 6 = .ok (.ireturn, 1) := by decide +kernel
theorem dX8_body_0 : decode cX8_body 0 = .ok (.iload_n 1, 1) := by decide +kernel
theorem dX8_body_1 : decode cX8_body 1 = .ok (.i2l, 1) := by decide +kernel
theorem dX8_body_2 : decode cX8_body 2 = .ok (.lconst 0, 1) := by decide +kernel
theorem dX8_body_3 : decode cX8_body 3 = .ok (.ldc2_w 317, 3) := by decide +kernel
theorem dX8_body_6 : decode cX8_body 6 = .ok (.invokestatic 97, 3) := by decide +kernel
theorem dX8_body_9 : decode cX8_body 9 = .ok (.ifCond .ne 5, 3) := by decide +kernel
theorem dX8_body_12 : decode cX8_body 12 = .ok (.iconst (-1), 1) := by decide +kernel
theorem dX8_body_13 : decode cX8_body 13 = .ok (.ireturn, 1) := by decide +kernel
theorem dX8_body_14 : decode cX8_body 14 = .ok (.aload_n 0, 1) := by decide +kernel
theorem dX8_body_15 : decode cX8_body 15 = .ok (.getfield 314, 3) := by decide +kernel
theorem dX8_body_18 : decode cX8_body 18 = .ok (.bipush 50, 2) := by decide +kernel
theorem dX8_body_20 : decode cX8_body 20 = .ok (.if_icmp .ne 6, 3) := by decide +kernel
theorem dX8_body_23 : decode cX8_body 23 = .ok (.bipush (-3), 2) := by decide +kernel
theorem dX8_body_25 : decode cX8_body 25 = .ok (.ireturn, 1) := by decide +kernel
theorem dX8_body_26 : decode cX8_body 26 = .ok (.aload_n 0, 1) := by decide +kernel
theorem dX8_body_27 : decode cX8_body 27 = .ok (.getfield 65, 3) := by decide +kernel
theorem dX8_body_30 : decode cX8_body 30 = .ok (.aload_n 0, 1) := by decide +kernel
theorem dX8_body_31 : decode cX8_body 31 = .ok (.getfield 314, 3) := by decide +kernel
theorem dX8_body_34 : decode cX8_body 34 = .ok (.iload_n 1, 1) := by decide +kernel
theorem dX8_body_35 : decode cX8_body 35 = .ok (.iastore, 1) := by decide +kernel
theorem dX8_body_36 : decode cX8_body 36 = .ok (.aload_n 0, 1) := by decide +kernel
theorem dX8_body_37 : decode cX8_body 37 = .ok (.dup, 1) := by decide +kernel
theorem dX8_body_38 : decode cX8_body 38 = .ok (.getfield 314, 3) := by decide +kernel
theorem dX8_body_41 : decode cX8_body 41 = .ok (.iconst 1, 1) := by decide +kernel
theorem dX8_body_42 : decode cX8_body 42 = .ok (.iadd, 1) := by decide +kernel
theorem dX8_body_43 : decode cX8_body 43 = .ok (.putfield 314, 3) := by decide +kernel
theorem dX8_body_46 : decode cX8_body 46 = .ok (.aload_n 0, 1) := by decide +kernel
theorem dX8_body_47 : decode cX8_body 47 = .ok (.getfield 314, 3) := by decide +kernel
theorem dX8_body_50 : decode cX8_body 50 = .ok (.iconst 1, 1) := by decide +kernel
theorem dX8_body_51 : decode cX8_body 51 = .ok (.isub, 1) := by decide +kernel
theorem dX8_body_52 : decode cX8_body 52 = .ok (.ireturn, 1) := by decide +kernel
theorem dX8_above_0 : decode cX8_above 0 = .ok (.iload_n 0, 1) := by decide +kernel
theorem dX8_above_1 : decode cX8_above 1 = .ok (.iconst 3, 1) := by decide +kernel
theorem dX8_above_2 : decode cX8_above 2 = .ok (.if_icmp .ne 7, 3) := by decide +kernel
theorem dX8_above_5 : decode cX8_above 5 = .ok (.iconst 2, 1) := by decide +kernel
theorem dX8_above_6 : decode cX8_above 6 = .ok (.goto 32, 3) := by decide +kernel
theorem dX8_above_9 : decode cX8_above 9 = .ok (.iload_n 0, 1) := by decide +kernel
theorem dX8_above_10 : decode cX8_above 10 = .ok (.iconst 4, 1) := by decide +kernel
theorem dX8_above_11 : decode cX8_above 11 = .ok (.if_icmp .ne 7, 3) := by decide +kernel
theorem dX8_above_14 : decode cX8_above 14 = .ok (.iconst 1, 1) := by decide +kernel
theorem dX8_above_15 : decode cX8_above 15 = .ok (.goto 23, 3) := by decide +kernel
theorem dX8_above_18 : decode cX8_above 18 = .ok (.iload_n 0, 1) := by decide +kernel
theorem dX8_above_19 : decode cX8_above 19 = .ok (.iconst 5, 1) := by decide +kernel
theorem dX8_above_20 : decode cX8_above 20 = .ok (.if_icmp .ne 7, 3) := by decide +kernel
theorem dX8_above_23 : decode cX8_above 23 = .ok (.iconst 3, 1) := by decide +kernel
theorem dX8_above_24 : decode cX8_above 24 = .ok (.goto 14, 3) := by decide +kernel
theorem dX8_above_27 : decode cX8_above 27 = .ok (.iload_n 0, 1) := by decide +kernel
theorem dX8_above_28 : decode cX8_above 28 = .ok (.bipush 7, 2) := by decide +kernel
theorem dX8_above_30 : decode cX8_above 30 = .ok (.if_icmp .ne 7, 3) := by decide +kernel
theorem dX8_above_33 : decode cX8_above 33 = .ok (.iconst 4, 1) := by decide +kernel
theorem dX8_above_34 : decode cX8_above 34 = .ok (.goto 4, 3) := by decide +kernel
theorem dX8_above_37 : decode cX8_above 37 = .ok (.iconst 0, 1) := by decide +kernel
theorem dX8_above_38 : decode cX8_above 38 = .ok (.ireturn, 1) := by decide +kernel
theorem dX8_begins_0 : decode cX8_begins 0 = .ok (.aload_n 0, 1) := by decide +kernel
theorem dX8_begins_1 : decode cX8_begins 1 = .ok (.getfield 319, 3) := by decide +kernel
theorem dX8_begins_4 : decode cX8_begins 4 = .ok (.bipush 24, 2) := by decide +kernel
theorem dX8_begins_6 : decode cX8_begins 6 = .ok (.if_icmp .ge 13, 3) := by decide +kernel
theorem dX8_begins_9 : decode cX8_begins 9 = .ok (.aload_n 0, 1) := by decide +kernel
theorem dX8_begins_10 : decode cX8_begins 10 = .ok (.getfield 68, 3) := by decide +kernel
theorem dX8_begins_13 : decode cX8_begins 13 = .ok (.aload_n 0, 1) := by decide +kernel
theorem dX8_begins_14 : decode cX8_begins 14 = .ok (.getfield 319, 3) := by decide +kernel
theorem dX8_begins_17 : decode cX8_begins 17 = .ok (.iload_n 1, 1) := by decide +kernel
theorem dX8_begins_18 : decode cX8_begins 18 = .ok (.iastore, 1) := by decide +kernel
theorem dX8_begins_19 : decode cX8_begins 19 = .ok (.aload_n 0, 1) := by decide +kernel
theorem dX8_begins_20 : decode cX8_begins 20 = .ok (.dup, 1) := by decide +kernel
theorem dX8_begins_21 : decode cX8_begins 21 = .ok (.getfield 319, 3) := by decide +kernel
theorem dX8_begins_24 : decode cX8_begins 24 = .ok (.iconst 1, 1) := by decide +kernel
theorem dX8_begins_25 : decode cX8_begins 25 = .ok (.iadd, 1) := by decide +kernel
theorem dX8_begins_26 : decode cX8_begins 26 = .ok (.putfield 319, 3) := by decide +kernel
theorem dX8_begins_29 : decode cX8_begins 29 = .ok (.return_, 1) := by decide +kernel
theorem dX8_seesAs_0 : decode cX8_seesAs 0 = .ok (.iload_n 1, 1) := by decide +kernel
theorem dX8_seesAs_1 : decode cX8_seesAs 1 = .ok (.iconst 1, 1) := by decide +kernel
theorem dX8_seesAs_2 : decode cX8_seesAs 2 = .ok (.if_icmp .eq 14, 3) := by decide +kernel
theorem dX8_seesAs_5 : decode cX8_seesAs 5 = .ok (.iload_n 1, 1) := by decide +kernel
theorem dX8_seesAs_6 : decode cX8_seesAs 6 = .ok (.iconst 4, 1) := by decide +kernel
theorem dX8_seesAs_7 : decode cX8_seesAs 7 = .ok (.if_icmp .eq 9, 3) := by decide +kernel
theorem dX8_seesAs_10 : decode cX8_seesAs 10 = .ok (.iload_n 1, 1) := by decide +kernel
theorem dX8_seesAs_11 : decode cX8_seesAs 11 = .ok (.bipush 7, 2) := by decide +kernel
theorem dX8_seesAs_13 : decode cX8_seesAs 13 = .ok (.if_icmp .ne 18, 3) := by decide +kernel
theorem dX8_seesAs_16 : decode cX8_seesAs 16 = .ok (.aload_n 0, 1) := by decide +kernel
theorem dX8_seesAs_17 : decode cX8_seesAs 17 = .ok (.bipush 20, 2) := by decide +kernel
theorem dX8_seesAs_19 : decode cX8_seesAs 19 = .ok (.invokevirtual 322, 3) := by decide +kernel
theorem dX8_seesAs_22 : decode cX8_seesAs 22 = .ok (.aload_n 0, 1) := by decide +kernel
theorem dX8_seesAs_23 : decode cX8_seesAs 23 = .ok (.iconst 0, 1) := by decide +kernel
theorem dX8_seesAs_24 : decode cX8_seesAs 24 = .ok (.iload_n 2, 1) := by decide +kernel
theorem dX8_seesAs_25 : decode cX8_seesAs 25 = .ok (.invokevirtual 325, 3) := by decide +kernel
theorem dX8_seesAs_28 : decode cX8_seesAs 28 = .ok (.iconst 3, 1) := by decide +kernel
theorem dX8_seesAs_29 : decode cX8_seesAs 29 = .ok (.iadd, 1) := by decide +kernel
theorem dX8_seesAs_30 : decode cX8_seesAs 30 = .ok (.ireturn, 1) := by decide +kernel
theorem dX8_seesAs_31 : decode cX8_seesAs 31 = .ok (.iload_n 1, 1) := by decide +kernel
theorem dX8_seesAs_32 : decode cX8_seesAs 32 = .ok (.bipush 6, 2) := by decide +kernel
theorem dX8_seesAs_34 : decode cX8_seesAs 34 = .ok (.if_icmp .ne 18, 3) := by decide +kernel
theorem dX8_seesAs_37 : decode cX8_seesAs 37 = .ok (.aload_n 0, 1) := by decide +kernel
theorem dX8_seesAs_38 : decode cX8_seesAs 38 = .ok (.bipush 70, 2) := by decide +kernel
theorem dX8_seesAs_40 : decode cX8_seesAs 40 = .ok (.invokevirtual 322, 3) := by decide +kernel
theorem dX8_seesAs_43 : decode cX8_seesAs 43 = .ok (.aload_n 0, 1) := by decide +kernel
theorem dX8_seesAs_44 : decode cX8_seesAs 44 = .ok (.iconst 0, 1) := by decide +kernel
theorem dX8_seesAs_45 : decode cX8_seesAs 45 = .ok (.iload_n 2, 1) := by decide +kernel
theorem dX8_seesAs_46 : decode cX8_seesAs 46 = .ok (.invokevirtual 325, 3) := by decide +kernel
theorem dX8_seesAs_49 : decode cX8_seesAs 49 = .ok (.iconst 2, 1) := by decide +kernel
theorem dX8_seesAs_50 : decode cX8_seesAs 50 = .ok (.imul, 1) := by decide +kernel
theorem dX8_seesAs_51 : decode cX8_seesAs 51 = .ok (.ireturn, 1) := by decide +kernel
theorem dX8_seesAs_52 : decode cX8_seesAs 52 = .ok (.aload_n 0, 1) := by decide +kernel
theorem dX8_seesAs_53 : decode cX8_seesAs 53 = .ok (.iconst 1, 1) := by decide +kernel
theorem dX8_seesAs_54 : decode cX8_seesAs 54 = .ok (.invokevirtual 322, 3) := by decide +kernel
theorem dX8_seesAs_57 : decode cX8_seesAs 57 = .ok (.iload_n 2, 1) := by decide +kernel
theorem dX8_seesAs_58 : decode cX8_seesAs 58 = .ok (.aload_n 0, 1) := by decide +kernel
theorem dX8_seesAs_59 : decode cX8_seesAs 59 = .ok (.getfield 328, 3) := by decide +kernel
theorem dX8_seesAs_62 : decode cX8_seesAs 62 = .ok (.iadd, 1) := by decide +kernel
theorem dX8_seesAs_63 : decode cX8_seesAs 63 = .ok (.ireturn, 1) := by decide +kernel
theorem dX8_sendsAs_0 : decode cX8_sendsAs 0 = .ok (.iload_n 1, 1) := by decide +kernel
theorem dX8_sendsAs_1 : decode cX8_sendsAs 1 = .ok (.iconst 3, 1) := by decide +kernel
theorem dX8_sendsAs_2 : decode cX8_sendsAs 2 = .ok (.if_icmp .eq 8, 3) := by decide +kernel
theorem dX8_sendsAs_5 : decode cX8_sendsAs 5 = .ok (.iload_n 1, 1) := by decide +kernel
theorem dX8_sendsAs_6 : decode cX8_sendsAs 6 = .ok (.iconst 5, 1) := by decide +kernel
theorem dX8_sendsAs_7 : decode cX8_sendsAs 7 = .ok (.if_icmp .ne 18, 3) := by decide +kernel
theorem dX8_sendsAs_10 : decode cX8_sendsAs 10 = .ok (.aload_n 0, 1) := by decide +kernel
theorem dX8_sendsAs_11 : decode cX8_sendsAs 11 = .ok (.bipush 41, 2) := by decide +kernel
theorem dX8_sendsAs_13 : decode cX8_sendsAs 13 = .ok (.invokevirtual 322, 3) := by decide +kernel
theorem dX8_sendsAs_16 : decode cX8_sendsAs 16 = .ok (.aload_n 0, 1) := by decide +kernel
theorem dX8_sendsAs_17 : decode cX8_sendsAs 17 = .ok (.iconst 2, 1) := by decide +kernel
theorem dX8_sendsAs_18 : decode cX8_sendsAs 18 = .ok (.iload_n 2, 1) := by decide +kernel
theorem dX8_sendsAs_19 : decode cX8_sendsAs 19 = .ok (.iconst 1, 1) := by decide +kernel
theorem dX8_sendsAs_20 : decode cX8_sendsAs 20 = .ok (.iadd, 1) := by decide +kernel
theorem dX8_sendsAs_21 : decode cX8_sendsAs 21 = .ok (.invokevirtual 331, 3) := by decide +kernel
theorem dX8_sendsAs_24 : decode cX8_sendsAs 24 = .ok (.ireturn, 1) := by decide +kernel
theorem dX8_sendsAs_25 : decode cX8_sendsAs 25 = .ok (.iload_n 1, 1) := by decide +kernel
theorem dX8_sendsAs_26 : decode cX8_sendsAs 26 = .ok (.iconst 2, 1) := by decide +kernel
theorem dX8_sendsAs_27 : decode cX8_sendsAs 27 = .ok (.if_icmp .ne 17, 3) := by decide +kernel
theorem dX8_sendsAs_30 : decode cX8_sendsAs 30 = .ok (.aload_n 0, 1) := by decide +kernel
theorem dX8_sendsAs_31 : decode cX8_sendsAs 31 = .ok (.bipush 30, 2) := by decide +kernel
theorem dX8_sendsAs_33 : decode cX8_sendsAs 33 = .ok (.invokevirtual 322, 3) := by decide +kernel
theorem dX8_sendsAs_36 : decode cX8_sendsAs 36 = .ok (.aload_n 0, 1) := by decide +kernel
theorem dX8_sendsAs_37 : decode cX8_sendsAs 37 = .ok (.iconst 0, 1) := by decide +kernel
theorem dX8_sendsAs_38 : decode cX8_sendsAs 38 = .ok (.iload_n 2, 1) := by decide +kernel
theorem dX8_sendsAs_39 : decode cX8_sendsAs 39 = .ok (.invokevirtual 331, 3) := by decide +kernel
theorem dX8_sendsAs_42 : decode cX8_sendsAs 42 = .ok (.ineg, 1) := by decide +kernel
theorem dX8_sendsAs_43 : decode cX8_sendsAs 43 = .ok (.ireturn, 1) := by decide +kernel
theorem dX8_sendsAs_44 : decode cX8_sendsAs 44 = .ok (.iload_n 1, 1) := by decide +kernel
theorem dX8_sendsAs_45 : decode cX8_sendsAs 45 = .ok (.bipush 7, 2) := by decide +kernel
theorem dX8_sendsAs_47 : decode cX8_sendsAs 47 = .ok (.if_icmp .ne 28, 3) := by decide +kernel
theorem dX8_sendsAs_50 : decode cX8_sendsAs 50 = .ok (.aload_n 0, 1) := by decide +kernel
theorem dX8_sendsAs_51 : decode cX8_sendsAs 51 = .ok (.bipush 80, 2) := by decide +kernel
theorem dX8_sendsAs_53 : decode cX8_sendsAs 53 = .ok (.invokevirtual 322, 3) := by decide +kernel
theorem dX8_sendsAs_56 : decode cX8_sendsAs 56 = .ok (.aload_n 0, 1) := by decide +kernel
theorem dX8_sendsAs_57 : decode cX8_sendsAs 57 = .ok (.iconst 4, 1) := by decide +kernel
theorem dX8_sendsAs_58 : decode cX8_sendsAs 58 = .ok (.iload_n 2, 1) := by decide +kernel
theorem dX8_sendsAs_59 : decode cX8_sendsAs 59 = .ok (.invokevirtual 331, 3) := by decide +kernel
theorem dX8_sendsAs_62 : decode cX8_sendsAs 62 = .ok (.istore_n 3, 1) := by decide +kernel
theorem dX8_sendsAs_63 : decode cX8_sendsAs 63 = .ok (.iload_n 3, 1) := by decide +kernel
theorem dX8_sendsAs_64 : decode cX8_sendsAs 64 = .ok (.aload_n 0, 1) := by decide +kernel
theorem dX8_sendsAs_65 : decode cX8_sendsAs 65 = .ok (.aload_n 0, 1) := by decide +kernel
theorem dX8_sendsAs_66 : decode cX8_sendsAs 66 = .ok (.getfield 334, 3) := by decide +kernel
theorem dX8_sendsAs_69 : decode cX8_sendsAs 69 = .ok (.iconst 2, 1) := by decide +kernel
theorem dX8_sendsAs_70 : decode cX8_sendsAs 70 = .ok (.invokevirtual 337, 3) := by decide +kernel
theorem dX8_sendsAs_73 : decode cX8_sendsAs 73 = .ok (.iadd, 1) := by decide +kernel
theorem dX8_sendsAs_74 : decode cX8_sendsAs 74 = .ok (.ireturn, 1) := by decide +kernel
theorem dX8_sendsAs_75 : decode cX8_sendsAs 75 = .ok (.aload_n 0, 1) := by decide +kernel
theorem dX8_sendsAs_76 : decode cX8_sendsAs 76 = .ok (.bipush 10, 2) := by decide +kernel
theorem dX8_sendsAs_78 : decode cX8_sendsAs 78 = .ok (.invokevirtual 322, 3) := by decide +kernel
theorem dX8_sendsAs_81 : decode cX8_sendsAs 81 = .ok (.aload_n 0, 1) := by decide +kernel
theorem dX8_sendsAs_82 : decode cX8_sendsAs 82 = .ok (.aload_n 0, 1) := by decide +kernel
theorem dX8_sendsAs_83 : decode cX8_sendsAs 83 = .ok (.getfield 334, 3) := by decide +kernel
theorem dX8_sendsAs_86 : decode cX8_sendsAs 86 = .ok (.iload_n 2, 1) := by decide +kernel
theorem dX8_sendsAs_87 : decode cX8_sendsAs 87 = .ok (.invokevirtual 325, 3) := by decide +kernel
theorem dX8_sendsAs_90 : decode cX8_sendsAs 90 = .ok (.iconst 2, 1) := by decide +kernel
theorem dX8_sendsAs_91 : decode cX8_sendsAs 91 = .ok (.imul, 1) := by decide +kernel
theorem dX8_sendsAs_92 : decode cX8_sendsAs 92 = .ok (.ireturn, 1) := by decide +kernel
theorem dX8_turnsAs_0 : decode cX8_turnsAs 0 = .ok (.iload_n 1, 1) := by decide +kernel
theorem dX8_turnsAs_1 : decode cX8_turnsAs 1 = .ok (.iconst 3, 1) := by decide +kernel
theorem dX8_turnsAs_2 : decode cX8_turnsAs 2 = .ok (.if_icmp .eq 8, 3) := by decide +kernel
theorem dX8_turnsAs_5 : decode cX8_turnsAs 5 = .ok (.iload_n 1, 1) := by decide +kernel
theorem dX8_turnsAs_6 : decode cX8_turnsAs 6 = .ok (.iconst 5, 1) := by decide +kernel
theorem dX8_turnsAs_7 : decode cX8_turnsAs 7 = .ok (.if_icmp .ne 18, 3) := by decide +kernel
theorem dX8_turnsAs_10 : decode cX8_turnsAs 10 = .ok (.aload_n 0, 1) := by decide +kernel
theorem dX8_turnsAs_11 : decode cX8_turnsAs 11 = .ok (.bipush 40, 2) := by decide +kernel
theorem dX8_turnsAs_13 : decode cX8_turnsAs 13 = .ok (.invokevirtual 322, 3) := by decide +kernel
theorem dX8_turnsAs_16 : decode cX8_turnsAs 16 = .ok (.aload_n 0, 1) := by decide +kernel
theorem dX8_turnsAs_17 : decode cX8_turnsAs 17 = .ok (.iconst 2, 1) := by decide +kernel
theorem dX8_turnsAs_18 : decode cX8_turnsAs 18 = .ok (.iload_n 2, 1) := by decide +kernel
theorem dX8_turnsAs_19 : decode cX8_turnsAs 19 = .ok (.invokevirtual 337, 3) := by decide +kernel
theorem dX8_turnsAs_22 : decode cX8_turnsAs 22 = .ok (.iconst 3, 1) := by decide +kernel
theorem dX8_turnsAs_23 : decode cX8_turnsAs 23 = .ok (.imul, 1) := by decide +kernel
theorem dX8_turnsAs_24 : decode cX8_turnsAs 24 = .ok (.ireturn, 1) := by decide +kernel
theorem dX8_turnsAs_25 : decode cX8_turnsAs 25 = .ok (.iload_n 1, 1) := by decide +kernel
theorem dX8_turnsAs_26 : decode cX8_turnsAs 26 = .ok (.iconst 4, 1) := by decide +kernel
theorem dX8_turnsAs_27 : decode cX8_turnsAs 27 = .ok (.if_icmp .eq 9, 3) := by decide +kernel
theorem dX8_turnsAs_30 : decode cX8_turnsAs 30 = .ok (.iload_n 1, 1) := by decide +kernel
theorem dX8_turnsAs_31 : decode cX8_turnsAs 31 = .ok (.bipush 7, 2) := by decide +kernel
theorem dX8_turnsAs_33 : decode cX8_turnsAs 33 = .ok (.if_icmp .ne 28, 3) := by decide +kernel
theorem dX8_turnsAs_36 : decode cX8_turnsAs 36 = .ok (.aload_n 0, 1) := by decide +kernel
theorem dX8_turnsAs_37 : decode cX8_turnsAs 37 = .ok (.bipush 50, 2) := by decide +kernel
theorem dX8_turnsAs_39 : decode cX8_turnsAs 39 = .ok (.invokevirtual 322, 3) := by decide +kernel
theorem dX8_turnsAs_42 : decode cX8_turnsAs 42 = .ok (.aload_n 0, 1) := by decide +kernel
theorem dX8_turnsAs_43 : decode cX8_turnsAs 43 = .ok (.iconst 1, 1) := by decide +kernel
theorem dX8_turnsAs_44 : decode cX8_turnsAs 44 = .ok (.iload_n 2, 1) := by decide +kernel
theorem dX8_turnsAs_45 : decode cX8_turnsAs 45 = .ok (.invokevirtual 337, 3) := by decide +kernel
theorem dX8_turnsAs_48 : decode cX8_turnsAs 48 = .ok (.istore_n 3, 1) := by decide +kernel
theorem dX8_turnsAs_49 : decode cX8_turnsAs 49 = .ok (.iload_n 3, 1) := by decide +kernel
theorem dX8_turnsAs_50 : decode cX8_turnsAs 50 = .ok (.aload_n 0, 1) := by decide +kernel
theorem dX8_turnsAs_51 : decode cX8_turnsAs 51 = .ok (.aload_n 0, 1) := by decide +kernel
theorem dX8_turnsAs_52 : decode cX8_turnsAs 52 = .ok (.getfield 334, 3) := by decide +kernel
theorem dX8_turnsAs_55 : decode cX8_turnsAs 55 = .ok (.iconst 2, 1) := by decide +kernel
theorem dX8_turnsAs_56 : decode cX8_turnsAs 56 = .ok (.invokevirtual 325, 3) := by decide +kernel
theorem dX8_turnsAs_59 : decode cX8_turnsAs 59 = .ok (.isub, 1) := by decide +kernel
theorem dX8_turnsAs_60 : decode cX8_turnsAs 60 = .ok (.ireturn, 1) := by decide +kernel
theorem dX8_turnsAs_61 : decode cX8_turnsAs 61 = .ok (.aload_n 0, 1) := by decide +kernel
theorem dX8_turnsAs_62 : decode cX8_turnsAs 62 = .ok (.bipush 11, 2) := by decide +kernel
theorem dX8_turnsAs_64 : decode cX8_turnsAs 64 = .ok (.invokevirtual 322, 3) := by decide +kernel
theorem dX8_turnsAs_67 : decode cX8_turnsAs 67 = .ok (.iload_n 2, 1) := by decide +kernel
theorem dX8_turnsAs_68 : decode cX8_turnsAs 68 = .ok (.aload_n 0, 1) := by decide +kernel
theorem dX8_turnsAs_69 : decode cX8_turnsAs 69 = .ok (.getfield 328, 3) := by decide +kernel
theorem dX8_turnsAs_72 : decode cX8_turnsAs 72 = .ok (.ixor, 1) := by decide +kernel
theorem dX8_turnsAs_73 : decode cX8_turnsAs 73 = .ok (.ireturn, 1) := by decide +kernel
theorem dX8_tellsAs_0 : decode cX8_tellsAs 0 = .ok (.iload_n 1, 1) := by decide +kernel
theorem dX8_tellsAs_1 : decode cX8_tellsAs 1 = .ok (.iconst 5, 1) := by decide +kernel
theorem dX8_tellsAs_2 : decode cX8_tellsAs 2 = .ok (.if_icmp .ne 18, 3) := by decide +kernel
theorem dX8_tellsAs_5 : decode cX8_tellsAs 5 = .ok (.aload_n 0, 1) := by decide +kernel
theorem dX8_tellsAs_6 : decode cX8_tellsAs 6 = .ok (.bipush 60, 2) := by decide +kernel
theorem dX8_tellsAs_8 : decode cX8_tellsAs 8 = .ok (.invokevirtual 322, 3) := by decide +kernel
theorem dX8_tellsAs_11 : decode cX8_tellsAs 11 = .ok (.aload_n 0, 1) := by decide +kernel
theorem dX8_tellsAs_12 : decode cX8_tellsAs 12 = .ok (.iconst 3, 1) := by decide +kernel
theorem dX8_tellsAs_13 : decode cX8_tellsAs 13 = .ok (.iload_n 2, 1) := by decide +kernel
theorem dX8_tellsAs_14 : decode cX8_tellsAs 14 = .ok (.invokevirtual 340, 3) := by decide +kernel
theorem dX8_tellsAs_17 : decode cX8_tellsAs 17 = .ok (.iconst 5, 1) := by decide +kernel
theorem dX8_tellsAs_18 : decode cX8_tellsAs 18 = .ok (.ixor, 1) := by decide +kernel
theorem dX8_tellsAs_19 : decode cX8_tellsAs 19 = .ok (.ireturn, 1) := by decide +kernel
theorem dX8_tellsAs_20 : decode cX8_tellsAs 20 = .ok (.iload_n 1, 1) := by decide +kernel
theorem dX8_tellsAs_21 : decode cX8_tellsAs 21 = .ok (.bipush 7, 2) := by decide +kernel
theorem dX8_tellsAs_23 : decode cX8_tellsAs 23 = .ok (.if_icmp .ne 18, 3) := by decide +kernel
theorem dX8_tellsAs_26 : decode cX8_tellsAs 26 = .ok (.aload_n 0, 1) := by decide +kernel
theorem dX8_tellsAs_27 : decode cX8_tellsAs 27 = .ok (.bipush 81, 2) := by decide +kernel
theorem dX8_tellsAs_29 : decode cX8_tellsAs 29 = .ok (.invokevirtual 322, 3) := by decide +kernel
theorem dX8_tellsAs_32 : decode cX8_tellsAs 32 = .ok (.aload_n 0, 1) := by decide +kernel
theorem dX8_tellsAs_33 : decode cX8_tellsAs 33 = .ok (.iconst 4, 1) := by decide +kernel
theorem dX8_tellsAs_34 : decode cX8_tellsAs 34 = .ok (.iload_n 2, 1) := by decide +kernel
theorem dX8_tellsAs_35 : decode cX8_tellsAs 35 = .ok (.invokevirtual 340, 3) := by decide +kernel
theorem dX8_tellsAs_38 : decode cX8_tellsAs 38 = .ok (.iconst 1, 1) := by decide +kernel
theorem dX8_tellsAs_39 : decode cX8_tellsAs 39 = .ok (.isub, 1) := by decide +kernel
theorem dX8_tellsAs_40 : decode cX8_tellsAs 40 = .ok (.ireturn, 1) := by decide +kernel
theorem dX8_tellsAs_41 : decode cX8_tellsAs 41 = .ok (.aload_n 0, 1) := by decide +kernel
theorem dX8_tellsAs_42 : decode cX8_tellsAs 42 = .ok (.iconst 2, 1) := by decide +kernel
theorem dX8_tellsAs_43 : decode cX8_tellsAs 43 = .ok (.invokevirtual 322, 3) := by decide +kernel
theorem dX8_tellsAs_46 : decode cX8_tellsAs 46 = .ok (.aload_n 0, 1) := by decide +kernel
theorem dX8_tellsAs_47 : decode cX8_tellsAs 47 = .ok (.aload_n 0, 1) := by decide +kernel
theorem dX8_tellsAs_48 : decode cX8_tellsAs 48 = .ok (.getfield 334, 3) := by decide +kernel
theorem dX8_tellsAs_51 : decode cX8_tellsAs 51 = .ok (.iload_n 2, 1) := by decide +kernel
theorem dX8_tellsAs_52 : decode cX8_tellsAs 52 = .ok (.invokevirtual 331, 3) := by decide +kernel
theorem dX8_tellsAs_55 : decode cX8_tellsAs 55 = .ok (.istore_n 3, 1) := by decide +kernel
theorem dX8_tellsAs_56 : decode cX8_tellsAs 56 = .ok (.iload_n 3, 1) := by decide +kernel
theorem dX8_tellsAs_57 : decode cX8_tellsAs 57 = .ok (.aload_n 0, 1) := by decide +kernel
theorem dX8_tellsAs_58 : decode cX8_tellsAs 58 = .ok (.aload_n 0, 1) := by decide +kernel
theorem dX8_tellsAs_59 : decode cX8_tellsAs 59 = .ok (.getfield 334, 3) := by decide +kernel
theorem dX8_tellsAs_62 : decode cX8_tellsAs 62 = .ok (.iconst 1, 1) := by decide +kernel
theorem dX8_tellsAs_63 : decode cX8_tellsAs 63 = .ok (.invokevirtual 337, 3) := by decide +kernel
theorem dX8_tellsAs_66 : decode cX8_tellsAs 66 = .ok (.isub, 1) := by decide +kernel
theorem dX8_tellsAs_67 : decode cX8_tellsAs 67 = .ok (.ireturn, 1) := by decide +kernel
theorem dX8_act_0 : decode cX8_act 0 = .ok (.aload_n 0, 1) := by decide +kernel
theorem dX8_act_1 : decode cX8_act 1 = .ok (.iconst 0, 1) := by decide +kernel
theorem dX8_act_2 : decode cX8_act 2 = .ok (.putfield 319, 3) := by decide +kernel
theorem dX8_act_5 : decode cX8_act 5 = .ok (.aload_n 0, 1) := by decide +kernel
theorem dX8_act_6 : decode cX8_act 6 = .ok (.iload_n 1, 1) := by decide +kernel
theorem dX8_act_7 : decode cX8_act 7 = .ok (.invokevirtual 343, 3) := by decide +kernel
theorem dX8_act_10 : decode cX8_act 10 = .ok (.ifCond .ne 5, 3) := by decide +kernel
theorem dX8_act_13 : decode cX8_act 13 = .ok (.iconst 0, 1) := by decide +kernel
theorem dX8_act_14 : decode cX8_act 14 = .ok (.ireturn, 1) := by decide +kernel
theorem dX8_act_15 : decode cX8_act 15 = .ok (.aload_n 0, 1) := by decide +kernel
theorem dX8_act_16 : decode cX8_act 16 = .ok (.aload_n 0, 1) := by decide +kernel
theorem dX8_act_17 : decode cX8_act 17 = .ok (.getfield 65, 3) := by decide +kernel
theorem dX8_act_20 : decode cX8_act 20 = .ok (.iload_n 1, 1) := by decide +kernel
theorem dX8_act_21 : decode cX8_act 21 = .ok (.iaload, 1) := by decide +kernel
theorem dX8_act_22 : decode cX8_act 22 = .ok (.putfield 334, 3) := by decide +kernel
theorem dX8_act_25 : decode cX8_act 25 = .ok (.aload_n 0, 1) := by decide +kernel
theorem dX8_act_26 : decode cX8_act 26 = .ok (.iload_n 1, 1) := by decide +kernel
theorem dX8_act_27 : decode cX8_act 27 = .ok (.putfield 328, 3) := by decide +kernel
theorem dX8_act_30 : decode cX8_act 30 = .ok (.iload_n 2, 1) := by decide +kernel
theorem dX8_act_31 : decode cX8_act 31 = .ok (.tableswitch 69 0 3 #[29, 39, 49, 59], 29) := by decide +kernel
theorem dX8_act_60 : decode cX8_act 60 = .ok (.aload_n 0, 1) := by decide +kernel
theorem dX8_act_61 : decode cX8_act 61 = .ok (.aload_n 0, 1) := by decide +kernel
theorem dX8_act_62 : decode cX8_act 62 = .ok (.getfield 334, 3) := by decide +kernel
theorem dX8_act_65 : decode cX8_act 65 = .ok (.iload_n 3, 1) := by decide +kernel
theorem dX8_act_66 : decode cX8_act 66 = .ok (.invokevirtual 325, 3) := by decide +kernel
theorem dX8_act_69 : decode cX8_act 69 = .ok (.ireturn, 1) := by decide +kernel
theorem dX8_act_70 : decode cX8_act 70 = .ok (.aload_n 0, 1) := by decide +kernel
theorem dX8_act_71 : decode cX8_act 71 = .ok (.aload_n 0, 1) := by decide +kernel
theorem dX8_act_72 : decode cX8_act 72 = .ok (.getfield 334, 3) := by decide +kernel
theorem dX8_act_75 : decode cX8_act 75 = .ok (.iload_n 3, 1) := by decide +kernel
theorem dX8_act_76 : decode cX8_act 76 = .ok (.invokevirtual 331, 3) := by decide +kernel
theorem dX8_act_79 : decode cX8_act 79 = .ok (.ireturn, 1) := by decide +kernel
theorem dX8_act_80 : decode cX8_act 80 = .ok (.aload_n 0, 1) := by decide +kernel
theorem dX8_act_81 : decode cX8_act 81 = .ok (.aload_n 0, 1) := by decide +kernel
theorem dX8_act_82 : decode cX8_act 82 = .ok (.getfield 334, 3) := by decide +kernel
theorem dX8_act_85 : decode cX8_act 85 = .ok (.iload_n 3, 1) := by decide +kernel
theorem dX8_act_86 : decode cX8_act 86 = .ok (.invokevirtual 337, 3) := by decide +kernel
theorem dX8_act_89 : decode cX8_act 89 = .ok (.ireturn, 1) := by decide +kernel
theorem dX8_act_90 : decode cX8_act 90 = .ok (.aload_n 0, 1) := by decide +kernel
theorem dX8_act_91 : decode cX8_act 91 = .ok (.aload_n 0, 1) := by decide +kernel
theorem dX8_act_92 : decode cX8_act 92 = .ok (.getfield 334, 3) := by decide +kernel
theorem dX8_act_95 : decode cX8_act 95 = .ok (.iload_n 3, 1) := by decide +kernel
theorem dX8_act_96 : decode cX8_act 96 = .ok (.invokevirtual 340, 3) := by decide +kernel
theorem dX8_act_99 : decode cX8_act 99 = .ok (.ireturn, 1) := by decide +kernel
theorem dX8_act_100 : decode cX8_act 100 = .ok (.iconst 0, 1) := by decide +kernel
theorem dX8_act_101 : decode cX8_act 101 = .ok (.ireturn, 1) := by decide +kernel
theorem dX8_trace_0 : decode cX8_trace 0 = .ok (.iload_n 1, 1) := by decide +kernel
theorem dX8_trace_1 : decode cX8_trace 1 = .ok (.ifCond .lt 26, 3) := by decide +kernel
theorem dX8_trace_4 : decode cX8_trace 4 = .ok (.iload_n 1, 1) := by decide +kernel
theorem dX8_trace_5 : decode cX8_trace 5 = .ok (.aload_n 0, 1) := by decide +kernel
theorem dX8_trace_6 : decode cX8_trace 6 = .ok (.getfield 319, 3) := by decide +kernel
theorem dX8_trace_9 : decode cX8_trace 9 = .ok (.if_icmp .ge 18, 3) := by decide +kernel
theorem dX8_trace_12 : decode cX8_trace 12 = .ok (.iload_n 1, 1) := by decide +kernel
theorem dX8_trace_13 : decode cX8_trace 13 = .ok (.bipush 24, 2) := by decide +kernel
theorem dX8_trace_15 : decode cX8_trace 15 = .ok (.if_icmp .ge 12, 3) := by decide +kernel
theorem dX8_trace_18 : decode cX8_trace 18 = .ok (.aload_n 0, 1) := by decide +kernel
theorem dX8_trace_19 : decode cX8_trace 19 = .ok (.getfield 68, 3) := by decide +kernel
theorem dX8_trace_22 : decode cX8_trace 22 = .ok (.iload_n 1, 1) := by decide +kernel
theorem dX8_trace_23 : decode cX8_trace 23 = .ok (.iaload, 1) := by decide +kernel
theorem dX8_trace_24 : decode cX8_trace 24 = .ok (.goto 4, 3) := by decide +kernel
theorem dX8_trace_27 : decode cX8_trace 27 = .ok (.iconst (-1), 1) := by decide +kernel
theorem dX8_trace_28 : decode cX8_trace 28 = .ok (.ireturn, 1) := by decide +kernel
theorem dX8_isShelf_0 : decode cX8_isShelf 0 = .ok (.iload_n 0, 1) := by decide +kernel
theorem dX8_isShelf_1 : decode cX8_isShelf 1 = .ok (.i2l, 1) := by decide +kernel
theorem dX8_isShelf_2 : decode cX8_isShelf 2 = .ok (.lconst 0, 1) := by decide +kernel
theorem dX8_isShelf_3 : decode cX8_isShelf 3 = .ok (.ldc2_w 346, 3) := by decide +kernel
theorem dX8_isShelf_6 : decode cX8_isShelf 6 = .ok (.invokestatic 97, 3) := by decide +kernel
theorem dX8_isShelf_9 : decode cX8_isShelf 9 = .ok (.ireturn, 1) := by decide +kernel
theorem dX8_keep_0 : decode cX8_keep 0 = .ok (.iload_n 1, 1) := by decide +kernel
theorem dX8_keep_1 : decode cX8_keep 1 = .ok (.invokestatic 118, 3) := by decide +kernel
theorem dX8_keep_4 : decode cX8_keep 4 = .ok (.ifCond .eq 16, 3) := by decide +kernel
theorem dX8_keep_7 : decode cX8_keep 7 = .ok (.iload_n 2, 1) := by decide +kernel
theorem dX8_keep_8 : decode cX8_keep 8 = .ok (.iconst (-1), 1) := by decide +kernel
theorem dX8_keep_9 : decode cX8_keep 9 = .ok (.if_icmp .eq 13, 3) := by decide +kernel
theorem dX8_keep_12 : decode cX8_keep 12 = .ok (.aload_n 0, 1) := by decide +kernel
theorem dX8_keep_13 : decode cX8_keep 13 = .ok (.iload_n 2, 1) := by decide +kernel
theorem dX8_keep_14 : decode cX8_keep 14 = .ok (.invokevirtual 343, 3) := by decide +kernel
theorem dX8_keep_17 : decode cX8_keep 17 = .ok (.ifCond .ne 5, 3) := by decide +kernel
theorem dX8_keep_20 : decode cX8_keep 20 = .ok (.iconst (-1), 1) := by decide +kernel
theorem dX8_keep_21 : decode cX8_keep 21 = .ok (.ireturn, 1) := by decide +kernel
theorem dX8_keep_22 : decode cX8_keep 22 = .ok (.aload_n 0, 1) := by decide +kernel
theorem dX8_keep_23 : decode cX8_keep 23 = .ok (.getfield 71, 3) := by decide +kernel
theorem dX8_keep_26 : decode cX8_keep 26 = .ok (.iload_n 1, 1) := by decide +kernel
theorem dX8_keep_27 : decode cX8_keep 27 = .ok (.iload_n 2, 1) := by decide +kernel
theorem dX8_keep_28 : decode cX8_keep 28 = .ok (.iastore, 1) := by decide +kernel
theorem dX8_keep_29 : decode cX8_keep 29 = .ok (.aload_n 0, 1) := by decide +kernel
theorem dX8_keep_30 : decode cX8_keep 30 = .ok (.getfield 74, 3) := by decide +kernel
theorem dX8_keep_33 : decode cX8_keep 33 = .ok (.iload_n 1, 1) := by decide +kernel
theorem dX8_keep_34 : decode cX8_keep 34 = .ok (.iconst 0, 1) := by decide +kernel
theorem dX8_keep_35 : decode cX8_keep 35 = .ok (.iastore, 1) := by decide +kernel
theorem dX8_keep_36 : decode cX8_keep 36 = .ok (.iconst 1, 1) := by decide +kernel
theorem dX8_keep_37 : decode cX8_keep 37 = .ok (.ireturn, 1) := by decide +kernel
theorem dX8_row_0 : decode cX8_row 0 = .ok (.iload_n 1, 1) := by decide +kernel
theorem dX8_row_1 : decode cX8_row 1 = .ok (.invokestatic 118, 3) := by decide +kernel
theorem dX8_row_4 : decode cX8_row 4 = .ok (.ifCond .eq 21, 3) := by decide +kernel
theorem dX8_row_7 : decode cX8_row 7 = .ok (.iload_n 2, 1) := by decide +kernel
theorem dX8_row_8 : decode cX8_row 8 = .ok (.i2l, 1) := by decide +kernel
theorem dX8_row_9 : decode cX8_row 9 = .ok (.lconst 0, 1) := by decide +kernel
theorem dX8_row_10 : decode cX8_row 10 = .ok (.ldc2_w 137, 3) := by decide +kernel
theorem dX8_row_13 : decode cX8_row 13 = .ok (.invokestatic 97, 3) := by decide +kernel
theorem dX8_row_16 : decode cX8_row 16 = .ok (.ifCond .eq 9, 3) := by decide +kernel
theorem dX8_row_19 : decode cX8_row 19 = .ok (.iload_n 3, 1) := by decide +kernel
theorem dX8_row_20 : decode cX8_row 20 = .ok (.bipush 60, 2) := by decide +kernel
theorem dX8_row_22 : decode cX8_row 22 = .ok (.if_icmp .le 5, 3) := by decide +kernel
theorem dX8_row_25 : decode cX8_row 25 = .ok (.iconst (-1), 1) := by decide +kernel
theorem dX8_row_26 : decode cX8_row 26 = .ok (.ireturn, 1) := by decide +kernel
theorem dX8_row_27 : decode cX8_row 27 = .ok (.iload_n 3, 1) := by decide +kernel
theorem dX8_row_28 : decode cX8_row 28 = .ok (.ifCond .ge 6, 3) := by decide +kernel
theorem dX8_row_31 : decode cX8_row 31 = .ok (.bipush (-14), 2) := by decide +kernel
theorem dX8_row_33 : decode cX8_row 33 = .ok (.ireturn, 1) := by decide +kernel
theorem dX8_row_34 : decode cX8_row 34 = .ok (.aload_n 0, 1) := by decide +kernel
theorem dX8_row_35 : decode cX8_row 35 = .ok (.getfield 71, 3) := by decide +kernel
theorem dX8_row_38 : decode cX8_row 38 = .ok (.iload_n 1, 1) := by decide +kernel
theorem dX8_row_39 : decode cX8_row 39 = .ok (.bipush 50, 2) := by decide +kernel
theorem dX8_row_41 : decode cX8_row 41 = .ok (.iload_n 2, 1) := by decide +kernel
theorem dX8_row_42 : decode cX8_row 42 = .ok (.iadd, 1) := by decide +kernel
theorem dX8_row_43 : decode cX8_row 43 = .ok (.iastore, 1) := by decide +kernel
theorem dX8_row_44 : decode cX8_row 44 = .ok (.aload_n 0, 1) := by decide +kernel
theorem dX8_row_45 : decode cX8_row 45 = .ok (.getfield 74, 3) := by decide +kernel
theorem dX8_row_48 : decode cX8_row 48 = .ok (.iload_n 1, 1) := by decide +kernel
theorem dX8_row_49 : decode cX8_row 49 = .ok (.iload_n 3, 1) := by decide +kernel
theorem dX8_row_50 : decode cX8_row 50 = .ok (.iastore, 1) := by decide +kernel
theorem dX8_row_51 : decode cX8_row 51 = .ok (.bipush 60, 2) := by decide +kernel
theorem dX8_row_53 : decode cX8_row 53 = .ok (.iload_n 1, 1) := by decide +kernel
theorem dX8_row_54 : decode cX8_row 54 = .ok (.imul, 1) := by decide +kernel
theorem dX8_row_55 : decode cX8_row 55 = .ok (.istore 4, 2) := by decide +kernel
theorem dX8_row_57 : decode cX8_row 57 = .ok (.iload 4, 2) := by decide +kernel
theorem dX8_row_59 : decode cX8_row 59 = .ok (.bipush 60, 2) := by decide +kernel
theorem dX8_row_61 : decode cX8_row 61 = .ok (.iload_n 1, 1) := by decide +kernel
theorem dX8_row_62 : decode cX8_row 62 = .ok (.imul, 1) := by decide +kernel
theorem dX8_row_63 : decode cX8_row 63 = .ok (.bipush 60, 2) := by decide +kernel
theorem dX8_row_65 : decode cX8_row 65 = .ok (.iadd, 1) := by decide +kernel
theorem dX8_row_66 : decode cX8_row 66 = .ok (.if_icmp .ge 17, 3) := by decide +kernel
theorem dX8_row_69 : decode cX8_row 69 = .ok (.aload_n 0, 1) := by decide +kernel
theorem dX8_row_70 : decode cX8_row 70 = .ok (.getfield 77, 3) := by decide +kernel
theorem dX8_row_73 : decode cX8_row 73 = .ok (.iload 4, 2) := by decide +kernel
theorem dX8_row_75 : decode cX8_row 75 = .ok (.lconst 0, 1) := by decide +kernel
theorem dX8_row_76 : decode cX8_row 76 = .ok (.lastore, 1) := by decide +kernel
theorem dX8_row_77 : decode cX8_row 77 = .ok (.iinc 4 1, 3) := by decide +kernel
theorem dX8_row_80 : decode cX8_row 80 = .ok (.goto (-23), 3) := by decide +kernel
theorem dX8_row_83 : decode cX8_row 83 = .ok (.iconst 1, 1) := by decide +kernel
theorem dX8_row_84 : decode cX8_row 84 = .ok (.ireturn, 1) := by decide +kernel
theorem dX8_refusal_0 : decode cX8_refusal 0 = .ok (.iload_n 1, 1) := by decide +kernel
theorem dX8_refusal_1 : decode cX8_refusal 1 = .ok (.invokestatic 118, 3) := by decide +kernel
theorem dX8_refusal_4 : decode cX8_refusal 4 = .ok (.ifCond .ne 5, 3) := by decide +kernel
theorem dX8_refusal_7 : decode cX8_refusal 7 = .ok (.iconst (-1), 1) := by decide +kernel
theorem dX8_refusal_8 : decode cX8_refusal 8 = .ok (.ireturn, 1) := by decide +kernel
theorem dX8_refusal_9 : decode cX8_refusal 9 = .ok (.aload_n 0, 1) := by decide +kernel
theorem dX8_refusal_10 : decode cX8_refusal 10 = .ok (.getfield 71, 3) := by decide +kernel
theorem dX8_refusal_13 : decode cX8_refusal 13 = .ok (.iload_n 1, 1) := by decide +kernel
theorem dX8_refusal_14 : decode cX8_refusal 14 = .ok (.iaload, 1) := by decide +kernel
theorem dX8_refusal_15 : decode cX8_refusal 15 = .ok (.ifCond .ge 6, 3) := by decide +kernel
theorem dX8_refusal_18 : decode cX8_refusal 18 = .ok (.bipush (-11), 2) := by decide +kernel
theorem dX8_refusal_20 : decode cX8_refusal 20 = .ok (.ireturn, 1) := by decide +kernel
theorem dX8_refusal_21 : decode cX8_refusal 21 = .ok (.aload_n 0, 1) := by decide +kernel
theorem dX8_refusal_22 : decode cX8_refusal 22 = .ok (.getfield 71, 3) := by decide +kernel
theorem dX8_refusal_25 : decode cX8_refusal 25 = .ok (.iload_n 1, 1) := by decide +kernel
theorem dX8_refusal_26 : decode cX8_refusal 26 = .ok (.iaload, 1) := by decide +kernel
theorem dX8_refusal_27 : decode cX8_refusal 27 = .ok (.bipush 50, 2) := by decide +kernel
theorem dX8_refusal_29 : decode cX8_refusal 29 = .ok (.if_icmp .ge 6, 3) := by decide +kernel
theorem dX8_refusal_32 : decode cX8_refusal 32 = .ok (.bipush (-12), 2) := by decide +kernel
theorem dX8_refusal_34 : decode cX8_refusal 34 = .ok (.ireturn, 1) := by decide +kernel
theorem dX8_refusal_35 : decode cX8_refusal 35 = .ok (.iload_n 2, 1) := by decide +kernel
theorem dX8_refusal_36 : decode cX8_refusal 36 = .ok (.ifCond .lt 17, 3) := by decide +kernel
theorem dX8_refusal_39 : decode cX8_refusal 39 = .ok (.iload_n 2, 1) := by decide +kernel
theorem dX8_refusal_40 : decode cX8_refusal 40 = .ok (.aload_n 0, 1) := by decide +kernel
theorem dX8_refusal_41 : decode cX8_refusal 41 = .ok (.getfield 74, 3) := by decide +kernel
theorem dX8_refusal_44 : decode cX8_refusal 44 = .ok (.iload_n 1, 1) := by decide +kernel
theorem dX8_refusal_45 : decode cX8_refusal 45 = .ok (.iaload, 1) := by decide +kernel
theorem dX8_refusal_46 : decode cX8_refusal 46 = .ok (.if_icmp .ge 7, 3) := by decide +kernel
theorem dX8_refusal_49 : decode cX8_refusal 49 = .ok (.iconst 0, 1) := by decide +kernel
theorem dX8_refusal_50 : decode cX8_refusal 50 = .ok (.goto 5, 3) := by decide +kernel
theorem dX8_refusal_53 : decode cX8_refusal 53 = .ok (.bipush (-13), 2) := by decide +kernel
theorem dX8_refusal_55 : decode cX8_refusal 55 = .ok (.ireturn, 1) := by decide +kernel
theorem dX8_asSort_0 : decode cX8_asSort 0 = .ok (.iload_n 0, 1) := by decide +kernel
theorem dX8_asSort_1 : decode cX8_asSort 1 = .ok (.ifCond .ne 10, 3) := by decide +kernel
theorem dX8_asSort_4 : decode cX8_asSort 4 = .ok (.lload_n 1, 1) := by decide +kernel
theorem dX8_asSort_5 : decode cX8_asSort 5 = .ok (.l2i, 1) := by decide +kernel
theorem dX8_asSort_6 : decode cX8_asSort 6 = .ok (.i2b, 1) := by decide +kernel
theorem dX8_asSort_7 : decode cX8_asSort 7 = .ok (.i2l, 1) := by decide +kernel
theorem dX8_asSort_8 : decode cX8_asSort 8 = .ok (.goto 46, 3) := by decide +kernel
theorem dX8_asSort_11 : decode cX8_asSort 11 = .ok (.iload_n 0, 1) := by decide +kernel
theorem dX8_asSort_12 : decode cX8_asSort 12 = .ok (.iconst 1, 1) := by decide +kernel
theorem dX8_asSort_13 : decode cX8_asSort 13 = .ok (.if_icmp .ne 10, 3) := by decide +kernel
theorem dX8_asSort_16 : decode cX8_asSort 16 = .ok (.lload_n 1, 1) := by decide +kernel
theorem dX8_asSort_17 : decode cX8_asSort 17 = .ok (.l2i, 1) := by decide +kernel
theorem dX8_asSort_18 : decode cX8_asSort 18 = .ok (.i2s, 1) := by decide +kernel
theorem dX8_asSort_19 : decode cX8_asSort 19 = .ok (.i2l, 1) := by decide +kernel
theorem dX8_asSort_20 : decode cX8_asSort 20 = .ok (.goto 34, 3) := by decide +kernel
theorem dX8_asSort_23 : decode cX8_asSort 23 = .ok (.iload_n 0, 1) := by decide +kernel
theorem dX8_asSort_24 : decode cX8_asSort 24 = .ok (.iconst 2, 1) := by decide +kernel
theorem dX8_asSort_25 : decode cX8_asSort 25 = .ok (.if_icmp .ne 9, 3) := by decide +kernel
theorem dX8_asSort_28 : decode cX8_asSort 28 = .ok (.lload_n 1, 1) := by decide +kernel
theorem dX8_asSort_29 : decode cX8_asSort 29 = .ok (.l2i, 1) := by decide +kernel
theorem dX8_asSort_30 : decode cX8_asSort 30 = .ok (.i2l, 1) := by decide +kernel
theorem dX8_asSort_31 : decode cX8_asSort 31 = .ok (.goto 23, 3) := by decide +kernel
theorem dX8_asSort_34 : decode cX8_asSort 34 = .ok (.iload_n 0, 1) := by decide +kernel
theorem dX8_asSort_35 : decode cX8_asSort 35 = .ok (.iconst 4, 1) := by decide +kernel
theorem dX8_asSort_36 : decode cX8_asSort 36 = .ok (.if_icmp .ne 17, 3) := by decide +kernel
theorem dX8_asSort_39 : decode cX8_asSort 39 = .ok (.lload_n 1, 1) := by decide +kernel
theorem dX8_asSort_40 : decode cX8_asSort 40 = .ok (.lconst 0, 1) := by decide +kernel
theorem dX8_asSort_41 : decode cX8_asSort 41 = .ok (.lcmp, 1) := by decide +kernel
theorem dX8_asSort_42 : decode cX8_asSort 42 = .ok (.ifCond .eq 7, 3) := by decide +kernel
theorem dX8_asSort_45 : decode cX8_asSort 45 = .ok (.lconst 1, 1) := by decide +kernel
theorem dX8_asSort_46 : decode cX8_asSort 46 = .ok (.goto 8, 3) := by decide +kernel
theorem dX8_asSort_49 : decode cX8_asSort 49 = .ok (.lconst 0, 1) := by decide +kernel
theorem dX8_asSort_50 : decode cX8_asSort 50 = .ok (.goto 4, 3) := by decide +kernel
theorem dX8_asSort_53 : decode cX8_asSort 53 = .ok (.lload_n 1, 1) := by decide +kernel
theorem dX8_asSort_54 : decode cX8_asSort 54 = .ok (.lreturn, 1) := by decide +kernel
theorem dX8_put_0 : decode cX8_put 0 = .ok (.aload_n 0, 1) := by decide +kernel
theorem dX8_put_1 : decode cX8_put 1 = .ok (.iload_n 1, 1) := by decide +kernel
theorem dX8_put_2 : decode cX8_put 2 = .ok (.iload_n 2, 1) := by decide +kernel
theorem dX8_put_3 : decode cX8_put 3 = .ok (.invokevirtual 348, 3) := by decide +kernel
theorem dX8_put_6 : decode cX8_put 6 = .ok (.istore 5, 2) := by decide +kernel
theorem dX8_put_8 : decode cX8_put 8 = .ok (.iload 5, 2) := by decide +kernel
theorem dX8_put_10 : decode cX8_put 10 = .ok (.ifCond .ne 27, 3) := by decide +kernel
theorem dX8_put_13 : decode cX8_put 13 = .ok (.aload_n 0, 1) := by decide +kernel
theorem dX8_put_14 : decode cX8_put 14 = .ok (.getfield 77, 3) := by decide +kernel
theorem dX8_put_17 : decode cX8_put 17 = .ok (.bipush 60, 2) := by decide +kernel
theorem dX8_put_19 : decode cX8_put 19 = .ok (.iload_n 1, 1) := by decide +kernel
theorem dX8_put_20 : decode cX8_put 20 = .ok (.imul, 1) := by decide +kernel
theorem dX8_put_21 : decode cX8_put 21 = .ok (.iload_n 2, 1) := by decide +kernel
theorem dX8_put_22 : decode cX8_put 22 = .ok (.iadd, 1) := by decide +kernel
theorem dX8_put_23 : decode cX8_put 23 = .ok (.aload_n 0, 1) := by decide +kernel
theorem dX8_put_24 : decode cX8_put 24 = .ok (.getfield 71, 3) := by decide +kernel
theorem dX8_put_27 : decode cX8_put 27 = .ok (.iload_n 1, 1) := by decide +kernel
theorem dX8_put_28 : decode cX8_put 28 = .ok (.iaload, 1) := by decide +kernel
theorem dX8_put_29 : decode cX8_put 29 = .ok (.bipush 50, 2) := by decide +kernel
theorem dX8_put_31 : decode cX8_put 31 = .ok (.isub, 1) := by decide +kernel
theorem dX8_put_32 : decode cX8_put 32 = .ok (.lload_n 3, 1) := by decide +kernel
theorem dX8_put_33 : decode cX8_put 33 = .ok (.invokestatic 351, 3) := by decide +kernel
theorem dX8_put_36 : decode cX8_put 36 = .ok (.lastore, 1) := by decide +kernel
theorem dX8_put_37 : decode cX8_put 37 = .ok (.iload 5, 2) := by decide +kernel
theorem dX8_put_39 : decode cX8_put 39 = .ok (.ifCond .ne 7, 3) := by decide +kernel
theorem dX8_put_42 : decode cX8_put 42 = .ok (.iconst 1, 1) := by decide +kernel
theorem dX8_put_43 : decode cX8_put 43 = .ok (.goto 5, 3) := by decide +kernel
theorem dX8_put_46 : decode cX8_put 46 = .ok (.iload 5, 2) := by decide +kernel
theorem dX8_put_48 : decode cX8_put 48 = .ok (.ireturn, 1) := by decide +kernel
theorem dX8_element_0 : decode cX8_element 0 = .ok (.aload_n 0, 1) := by decide +kernel
theorem dX8_element_1 : decode cX8_element 1 = .ok (.iload_n 1, 1) := by decide +kernel
theorem dX8_element_2 : decode cX8_element 2 = .ok (.iload_n 2, 1) := by decide +kernel
theorem dX8_element_3 : decode cX8_element 3 = .ok (.invokevirtual 348, 3) := by decide +kernel
theorem dX8_element_6 : decode cX8_element 6 = .ok (.ifCond .eq 9, 3) := by decide +kernel
theorem dX8_element_9 : decode cX8_element 9 = .ok (.ldc2_w 263, 3) := by decide +kernel
theorem dX8_element_12 : decode cX8_element 12 = .ok (.goto 14, 3) := by decide +kernel
theorem dX8_element_15 : decode cX8_element 15 = .ok (.aload_n 0, 1) := by decide +kernel
theorem dX8_element_16 : decode cX8_element 16 = .ok (.getfield 77, 3) := by decide +kernel
theorem dX8_element_19 : decode cX8_element 19 = .ok (.bipush 60, 2) := by decide +kernel
theorem dX8_element_21 : decode cX8_element 21 = .ok (.iload_n 1, 1) := by decide +kernel
theorem dX8_element_22 : decode cX8_element 22 = .ok (.imul, 1) := by decide +kernel
theorem dX8_element_23 : decode cX8_element 23 = .ok (.iload_n 2, 1) := by decide +kernel
theorem dX8_element_24 : decode cX8_element 24 = .ok (.iadd, 1) := by decide +kernel
theorem dX8_element_25 : decode cX8_element 25 = .ok (.laload, 1) := by decide +kernel
theorem dX8_element_26 : decode cX8_element 26 = .ok (.lreturn, 1) := by decide +kernel
theorem dX8_shift_0 : decode cX8_shift 0 = .ok (.iload_n 1, 1) := by decide +kernel
theorem dX8_shift_1 : decode cX8_shift 1 = .ok (.invokestatic 118, 3) := by decide +kernel
theorem dX8_shift_4 : decode cX8_shift 4 = .ok (.ifCond .eq 10, 3) := by decide +kernel
theorem dX8_shift_7 : decode cX8_shift 7 = .ok (.iload_n 3, 1) := by decide +kernel
theorem dX8_shift_8 : decode cX8_shift 8 = .ok (.invokestatic 118, 3) := by decide +kernel
theorem dX8_shift_11 : decode cX8_shift 11 = .ok (.ifCond .ne 5, 3) := by decide +kernel
theorem dX8_shift_14 : decode cX8_shift 14 = .ok (.iconst (-1), 1) := by decide +kernel
theorem dX8_shift_15 : decode cX8_shift 15 = .ok (.ireturn, 1) := by decide +kernel
theorem dX8_shift_16 : decode cX8_shift 16 = .ok (.aload_n 0, 1) := by decide +kernel
theorem dX8_shift_17 : decode cX8_shift 17 = .ok (.getfield 71, 3) := by decide +kernel
theorem dX8_shift_20 : decode cX8_shift 20 = .ok (.iload_n 1, 1) := by decide +kernel
theorem dX8_shift_21 : decode cX8_shift 21 = .ok (.iaload, 1) := by decide +kernel
theorem dX8_shift_22 : decode cX8_shift 22 = .ok (.ifCond .lt 12, 3) := by decide +kernel
theorem dX8_shift_25 : decode cX8_shift 25 = .ok (.aload_n 0, 1) := by decide +kernel
theorem dX8_shift_26 : decode cX8_shift 26 = .ok (.getfield 71, 3) := by decide +kernel
theorem dX8_shift_29 : decode cX8_shift 29 = .ok (.iload_n 3, 1) := by decide +kernel
theorem dX8_shift_30 : decode cX8_shift 30 = .ok (.iaload, 1) := by decide +kernel
theorem dX8_shift_31 : decode cX8_shift 31 = .ok (.ifCond .ge 6, 3) := by decide +kernel
theorem dX8_shift_34 : decode cX8_shift 34 = .ok (.bipush (-11), 2) := by decide +kernel
theorem dX8_shift_36 : decode cX8_shift 36 = .ok (.ireturn, 1) := by decide +kernel
theorem dX8_shift_37 : decode cX8_shift 37 = .ok (.aload_n 0, 1) := by decide +kernel
theorem dX8_shift_38 : decode cX8_shift 38 = .ok (.getfield 71, 3) := by decide +kernel
theorem dX8_shift_41 : decode cX8_shift 41 = .ok (.iload_n 1, 1) := by decide +kernel
theorem dX8_shift_42 : decode cX8_shift 42 = .ok (.iaload, 1) := by decide +kernel
theorem dX8_shift_43 : decode cX8_shift 43 = .ok (.bipush 50, 2) := by decide +kernel
theorem dX8_shift_45 : decode cX8_shift 45 = .ok (.if_icmp .lt 18, 3) := by decide +kernel
theorem dX8_shift_48 : decode cX8_shift 48 = .ok (.aload_n 0, 1) := by decide +kernel
theorem dX8_shift_49 : decode cX8_shift 49 = .ok (.getfield 71, 3) := by decide +kernel
theorem dX8_shift_52 : decode cX8_shift 52 = .ok (.iload_n 1, 1) := by decide +kernel
theorem dX8_shift_53 : decode cX8_shift 53 = .ok (.iaload, 1) := by decide +kernel
theorem dX8_shift_54 : decode cX8_shift 54 = .ok (.aload_n 0, 1) := by decide +kernel
theorem dX8_shift_55 : decode cX8_shift 55 = .ok (.getfield 71, 3) := by decide +kernel
theorem dX8_shift_58 : decode cX8_shift 58 = .ok (.iload_n 3, 1) := by decide +kernel
theorem dX8_shift_59 : decode cX8_shift 59 = .ok (.iaload, 1) := by decide +kernel
theorem dX8_shift_60 : decode cX8_shift 60 = .ok (.if_icmp .eq 6, 3) := by decide +kernel
theorem dX8_shift_63 : decode cX8_shift 63 = .ok (.bipush (-12), 2) := by decide +kernel
theorem dX8_shift_65 : decode cX8_shift 65 = .ok (.ireturn, 1) := by decide +kernel
theorem dX8_shift_66 : decode cX8_shift 66 = .ok (.iload 5, 2) := by decide +kernel
theorem dX8_shift_68 : decode cX8_shift 68 = .ok (.ifCond .lt 39, 3) := by decide +kernel
theorem dX8_shift_71 : decode cX8_shift 71 = .ok (.iload_n 2, 1) := by decide +kernel
theorem dX8_shift_72 : decode cX8_shift 72 = .ok (.ifCond .lt 35, 3) := by decide +kernel
theorem dX8_shift_75 : decode cX8_shift 75 = .ok (.iload 4, 2) := by decide +kernel
theorem dX8_shift_77 : decode cX8_shift 77 = .ok (.ifCond .lt 30, 3) := by decide +kernel
theorem dX8_shift_80 : decode cX8_shift 80 = .ok (.iload_n 2, 1) := by decide +kernel
theorem dX8_shift_81 : decode cX8_shift 81 = .ok (.aload_n 0, 1) := by decide +kernel
theorem dX8_shift_82 : decode cX8_shift 82 = .ok (.getfield 74, 3) := by decide +kernel
theorem dX8_shift_85 : decode cX8_shift 85 = .ok (.iload_n 1, 1) := by decide +kernel
theorem dX8_shift_86 : decode cX8_shift 86 = .ok (.iaload, 1) := by decide +kernel
theorem dX8_shift_87 : decode cX8_shift 87 = .ok (.iload 5, 2) := by decide +kernel
theorem dX8_shift_89 : decode cX8_shift 89 = .ok (.isub, 1) := by decide +kernel
theorem dX8_shift_90 : decode cX8_shift 90 = .ok (.if_icmp .gt 17, 3) := by decide +kernel
theorem dX8_shift_93 : decode cX8_shift 93 = .ok (.iload 4, 2) := by decide +kernel
theorem dX8_shift_95 : decode cX8_shift 95 = .ok (.aload_n 0, 1) := by decide +kernel
theorem dX8_shift_96 : decode cX8_shift 96 = .ok (.getfield 74, 3) := by decide +kernel
theorem dX8_shift_99 : decode cX8_shift 99 = .ok (.iload_n 3, 1) := by decide +kernel
theorem dX8_shift_100 : decode cX8_shift 100 = .ok (.iaload, 1) := by decide +kernel
theorem dX8_shift_101 : decode cX8_shift 101 = .ok (.iload 5, 2) := by decide +kernel
theorem dX8_shift_103 : decode cX8_shift 103 = .ok (.isub, 1) := by decide +kernel
theorem dX8_shift_104 : decode cX8_shift 104 = .ok (.if_icmp .le 6, 3) := by decide +kernel
theorem dX8_shift_107 : decode cX8_shift 107 = .ok (.bipush (-13), 2) := by decide +kernel
theorem dX8_shift_109 : decode cX8_shift 109 = .ok (.ireturn, 1) := by decide +kernel
theorem dX8_shift_110 : decode cX8_shift 110 = .ok (.iconst 0, 1) := by decide +kernel
theorem dX8_shift_111 : decode cX8_shift 111 = .ok (.istore 6, 2) := by decide +kernel
theorem dX8_shift_113 : decode cX8_shift 113 = .ok (.iload 6, 2) := by decide +kernel
theorem dX8_shift_115 : decode cX8_shift 115 = .ok (.iload 5, 2) := by decide +kernel
theorem dX8_shift_117 : decode cX8_shift 117 = .ok (.if_icmp .ge 30, 3) := by decide +kernel
theorem dX8_shift_120 : decode cX8_shift 120 = .ok (.aload_n 0, 1) := by decide +kernel
theorem dX8_shift_121 : decode cX8_shift 121 = .ok (.getfield 81, 3) := by decide +kernel
theorem dX8_shift_124 : decode cX8_shift 124 = .ok (.iload 6, 2) := by decide +kernel
theorem dX8_shift_126 : decode cX8_shift 126 = .ok (.aload_n 0, 1) := by decide +kernel
theorem dX8_shift_127 : decode cX8_shift 127 = .ok (.getfield 77, 3) := by decide +kernel
theorem dX8_shift_130 : decode cX8_shift 130 = .ok (.bipush 60, 2) := by decide +kernel
theorem dX8_shift_132 : decode cX8_shift 132 = .ok (.iload_n 1, 1) := by decide +kernel
theorem dX8_shift_133 : decode cX8_shift 133 = .ok (.imul, 1) := by decide +kernel
theorem dX8_shift_134 : decode cX8_shift 134 = .ok (.iload_n 2, 1) := by decide +kernel
theorem dX8_shift_135 : decode cX8_shift 135 = .ok (.iadd, 1) := by decide +kernel
theorem dX8_shift_136 : decode cX8_shift 136 = .ok (.iload 6, 2) := by decide +kernel
theorem dX8_shift_138 : decode cX8_shift 138 = .ok (.iadd, 1) := by decide +kernel
theorem dX8_shift_139 : decode cX8_shift 139 = .ok (.laload, 1) := by decide +kernel
theorem dX8_shift_140 : decode cX8_shift 140 = .ok (.lastore, 1) := by decide +kernel
theorem dX8_shift_141 : decode cX8_shift 141 = .ok (.iinc 6 1, 3) := by decide +kernel
theorem dX8_shift_144 : decode cX8_shift 144 = .ok (.goto (-31), 3) := by decide +kernel
theorem dX8_shift_147 : decode cX8_shift 147 = .ok (.iconst 0, 1) := by decide +kernel
theorem dX8_shift_148 : decode cX8_shift 148 = .ok (.istore 6, 2) := by decide +kernel
theorem dX8_shift_150 : decode cX8_shift 150 = .ok (.iload 6, 2) := by decide +kernel
theorem dX8_shift_152 : decode cX8_shift 152 = .ok (.iload 5, 2) := by decide +kernel
theorem dX8_shift_154 : decode cX8_shift 154 = .ok (.if_icmp .ge 31, 3) := by decide +kernel
theorem dX8_shift_157 : decode cX8_shift 157 = .ok (.aload_n 0, 1) := by decide +kernel
theorem dX8_shift_158 : decode cX8_shift 158 = .ok (.getfield 77, 3) := by decide +kernel
theorem dX8_shift_161 : decode cX8_shift 161 = .ok (.bipush 60, 2) := by decide +kernel
theorem dX8_shift_163 : decode cX8_shift 163 = .ok (.iload_n 3, 1) := by decide +kernel
theorem dX8_shift_164 : decode cX8_shift 164 = .ok (.imul, 1) := by decide +kernel
theorem dX8_shift_165 : decode cX8_shift 165 = .ok (.iload 4, 2) := by decide +kernel
theorem dX8_shift_167 : decode cX8_shift 167 = .ok (.iadd, 1) := by decide +kernel
theorem dX8_shift_168 : decode cX8_shift 168 = .ok (.iload 6, 2) := by decide +kernel
theorem dX8_shift_170 : decode cX8_shift 170 = .ok (.iadd, 1) := by decide +kernel
theorem dX8_shift_171 : decode cX8_shift 171 = .ok (.aload_n 0, 1) := by decide +kernel
theorem dX8_shift_172 : decode cX8_shift 172 = .ok (.getfield 81, 3) := by decide +kernel
theorem dX8_shift_175 : decode cX8_shift 175 = .ok (.iload 6, 2) := by decide +kernel
theorem dX8_shift_177 : decode cX8_shift 177 = .ok (.laload, 1) := by decide +kernel
theorem dX8_shift_178 : decode cX8_shift 178 = .ok (.lastore, 1) := by decide +kernel
theorem dX8_shift_179 : decode cX8_shift 179 = .ok (.iinc 6 1, 3) := by decide +kernel
theorem dX8_shift_182 : decode cX8_shift 182 = .ok (.goto (-32), 3) := by decide +kernel
theorem dX8_shift_185 : decode cX8_shift 185 = .ok (.iload 5, 2) := by decide +kernel
theorem dX8_shift_187 : decode cX8_shift 187 = .ok (.ireturn, 1) := by decide +kernel
theorem dX8_taken_0 : decode cX8_taken 0 = .ok (.iload_n 1, 1) := by decide +kernel
theorem dX8_taken_1 : decode cX8_taken 1 = .ok (.invokestatic 118, 3) := by decide +kernel
theorem dX8_taken_4 : decode cX8_taken 4 = .ok (.ifCond .eq 15, 3) := by decide +kernel
theorem dX8_taken_7 : decode cX8_taken 7 = .ok (.iload_n 2, 1) := by decide +kernel
theorem dX8_taken_8 : decode cX8_taken 8 = .ok (.i2l, 1) := by decide +kernel
theorem dX8_taken_9 : decode cX8_taken 9 = .ok (.lconst 0, 1) := by decide +kernel
theorem dX8_taken_10 : decode cX8_taken 10 = .ok (.ldc2_w 317, 3) := by decide +kernel
theorem dX8_taken_13 : decode cX8_taken 13 = .ok (.invokestatic 97, 3) := by decide +kernel
theorem dX8_taken_16 : decode cX8_taken 16 = .ok (.ifCond .ne 5, 3) := by decide +kernel
theorem dX8_taken_19 : decode cX8_taken 19 = .ok (.iconst (-1), 1) := by decide +kernel
theorem dX8_taken_20 : decode cX8_taken 20 = .ok (.ireturn, 1) := by decide +kernel
theorem dX8_taken_21 : decode cX8_taken 21 = .ok (.aload_n 0, 1) := by decide +kernel
theorem dX8_taken_22 : decode cX8_taken 22 = .ok (.getfield 71, 3) := by decide +kernel
theorem dX8_taken_25 : decode cX8_taken 25 = .ok (.iload_n 1, 1) := by decide +kernel
theorem dX8_taken_26 : decode cX8_taken 26 = .ok (.iaload, 1) := by decide +kernel
theorem dX8_taken_27 : decode cX8_taken 27 = .ok (.ifCond .ge 6, 3) := by decide +kernel
theorem dX8_taken_30 : decode cX8_taken 30 = .ok (.bipush (-11), 2) := by decide +kernel
theorem dX8_taken_32 : decode cX8_taken 32 = .ok (.ireturn, 1) := by decide +kernel
theorem dX8_taken_33 : decode cX8_taken 33 = .ok (.aload_n 0, 1) := by decide +kernel
theorem dX8_taken_34 : decode cX8_taken 34 = .ok (.getfield 71, 3) := by decide +kernel
theorem dX8_taken_37 : decode cX8_taken 37 = .ok (.iload_n 1, 1) := by decide +kernel
theorem dX8_taken_38 : decode cX8_taken 38 = .ok (.iaload, 1) := by decide +kernel
theorem dX8_taken_39 : decode cX8_taken 39 = .ok (.bipush 50, 2) := by decide +kernel
theorem dX8_taken_41 : decode cX8_taken 41 = .ok (.if_icmp .lt 6, 3) := by decide +kernel
theorem dX8_taken_44 : decode cX8_taken 44 = .ok (.bipush (-12), 2) := by decide +kernel
theorem dX8_taken_46 : decode cX8_taken 46 = .ok (.ireturn, 1) := by decide +kernel
theorem dX8_taken_47 : decode cX8_taken 47 = .ok (.aload_n 0, 1) := by decide +kernel
theorem dX8_taken_48 : decode cX8_taken 48 = .ok (.aload_n 0, 1) := by decide +kernel
theorem dX8_taken_49 : decode cX8_taken 49 = .ok (.getfield 71, 3) := by decide +kernel
theorem dX8_taken_52 : decode cX8_taken 52 = .ok (.iload_n 1, 1) := by decide +kernel
theorem dX8_taken_53 : decode cX8_taken 53 = .ok (.iaload, 1) := by decide +kernel
theorem dX8_taken_54 : decode cX8_taken 54 = .ok (.invokevirtual 355, 3) := by decide +kernel
theorem dX8_taken_57 : decode cX8_taken 57 = .ok (.istore_n 3, 1) := by decide +kernel
theorem dX8_taken_58 : decode cX8_taken 58 = .ok (.iload_n 3, 1) := by decide +kernel
theorem dX8_taken_59 : decode cX8_taken 59 = .ok (.iload_n 2, 1) := by decide +kernel
theorem dX8_taken_60 : decode cX8_taken 60 = .ok (.if_icmp .eq 15, 3) := by decide +kernel
theorem dX8_taken_63 : decode cX8_taken 63 = .ok (.iload_n 3, 1) := by decide +kernel
theorem dX8_taken_64 : decode cX8_taken 64 = .ok (.ifCond .le 11, 3) := by decide +kernel
theorem dX8_taken_67 : decode cX8_taken 67 = .ok (.iload_n 3, 1) := by decide +kernel
theorem dX8_taken_68 : decode cX8_taken 68 = .ok (.invokestatic 358, 3) := by decide +kernel
theorem dX8_taken_71 : decode cX8_taken 71 = .ok (.istore_n 3, 1) := by decide +kernel
theorem dX8_taken_72 : decode cX8_taken 72 = .ok (.goto (-14), 3) := by decide +kernel
theorem dX8_taken_75 : decode cX8_taken 75 = .ok (.iload_n 3, 1) := by decide +kernel
theorem dX8_taken_76 : decode cX8_taken 76 = .ok (.iload_n 2, 1) := by decide +kernel
theorem dX8_taken_77 : decode cX8_taken 77 = .ok (.if_icmp .ne 16, 3) := by decide +kernel
theorem dX8_taken_80 : decode cX8_taken 80 = .ok (.aload_n 0, 1) := by decide +kernel
theorem dX8_taken_81 : decode cX8_taken 81 = .ok (.aload_n 0, 1) := by decide +kernel
theorem dX8_taken_82 : decode cX8_taken 82 = .ok (.getfield 71, 3) := by decide +kernel
theorem dX8_taken_85 : decode cX8_taken 85 = .ok (.iload_n 1, 1) := by decide +kernel
theorem dX8_taken_86 : decode cX8_taken 86 = .ok (.iaload, 1) := by decide +kernel
theorem dX8_taken_87 : decode cX8_taken 87 = .ok (.invokevirtual 355, 3) := by decide +kernel
theorem dX8_taken_90 : decode cX8_taken 90 = .ok (.goto 5, 3) := by decide +kernel
theorem dX8_taken_93 : decode cX8_taken 93 = .ok (.bipush (-12), 2) := by decide +kernel
theorem dX8_taken_95 : decode cX8_taken 95 = .ok (.ireturn, 1) := by decide +kernel
theorem dX8_count_0 : decode cX8_count 0 = .ok (.iload_n 1, 1) := by decide +kernel
theorem dX8_count_1 : decode cX8_count 1 = .ok (.tableswitch 78 0 6 #[43, 48, 53, 58, 63, 68, 73], 43) := by decide +kernel
theorem dX8_count_44 : decode cX8_count 44 = .ok (.aload_n 0, 1) := by decide +kernel
theorem dX8_count_45 : decode cX8_count 45 = .ok (.getfield 94, 3) := by decide +kernel
theorem dX8_count_48 : decode cX8_count 48 = .ok (.ireturn, 1) := by decide +kernel
theorem dX8_count_49 : decode cX8_count 49 = .ok (.aload_n 0, 1) := by decide +kernel
theorem dX8_count_50 : decode cX8_count 50 = .ok (.getfield 146, 3) := by decide +kernel
theorem dX8_count_53 : decode cX8_count 53 = .ok (.ireturn, 1) := by decide +kernel
theorem dX8_count_54 : decode cX8_count 54 = .ok (.aload_n 0, 1) := by decide +kernel
theorem dX8_count_55 : decode cX8_count 55 = .ok (.invokevirtual 361, 3) := by decide +kernel
theorem dX8_count_58 : decode cX8_count 58 = .ok (.ireturn, 1) := by decide +kernel
theorem dX8_count_59 : decode cX8_count 59 = .ok (.aload_n 0, 1) := by decide +kernel
theorem dX8_count_60 : decode cX8_count 60 = .ok (.getfield 161, 3) := by decide +kernel
theorem dX8_count_63 : decode cX8_count 63 = .ok (.ireturn, 1) := by decide +kernel
theorem dX8_count_64 : decode cX8_count 64 = .ok (.aload_n 0, 1) := by decide +kernel
theorem dX8_count_65 : decode cX8_count 65 = .ok (.getfield 88, 3) := by decide +kernel
theorem dX8_count_68 : decode cX8_count 68 = .ok (.ireturn, 1) := by decide +kernel
theorem dX8_count_69 : decode cX8_count 69 = .ok (.aload_n 0, 1) := by decide +kernel
theorem dX8_count_70 : decode cX8_count 70 = .ok (.getfield 314, 3) := by decide +kernel
theorem dX8_count_73 : decode cX8_count 73 = .ok (.ireturn, 1) := by decide +kernel
theorem dX8_count_74 : decode cX8_count 74 = .ok (.aload_n 0, 1) := by decide +kernel
theorem dX8_count_75 : decode cX8_count 75 = .ok (.getfield 319, 3) := by decide +kernel
theorem dX8_count_78 : decode cX8_count 78 = .ok (.ireturn, 1) := by decide +kernel
theorem dX8_count_79 : decode cX8_count 79 = .ok (.iconst (-1), 1) := by decide +kernel
theorem dX8_count_80 : decode cX8_count 80 = .ok (.ireturn, 1) := by decide +kernel
