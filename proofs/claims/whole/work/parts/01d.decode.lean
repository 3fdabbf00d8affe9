theorem dX7_init_0 : decode cX7_init 0 = .ok (.aload_n 0, 1) := by decide +kernel
theorem dX7_init_1 : decode cX7_init 1 = .ok (.invokespecial 1, 3) := by decide +kernel
theorem dX7_init_4 : decode cX7_init 4 = .ok (.aload_n 0, 1) := by decide +kernel
theorem dX7_init_5 : decode cX7_init 5 = .ok (.sipush 1443, 3) := by decide +kernel
theorem dX7_init_8 : decode cX7_init 8 = .ok (.newarray .int, 2) := by decide +kernel
theorem dX7_init_10 : decode cX7_init 10 = .ok (.putfield 9, 3) := by decide +kernel
theorem dX7_init_13 : decode cX7_init 13 = .ok (.aload_n 0, 1) := by decide +kernel
theorem dX7_init_14 : decode cX7_init 14 = .ok (.sipush 1443, 3) := by decide +kernel
theorem dX7_init_17 : decode cX7_init 17 = .ok (.newarray .int, 2) := by decide +kernel
theorem dX7_init_19 : decode cX7_init 19 = .ok (.putfield 13, 3) := by decide +kernel
theorem dX7_init_22 : decode cX7_init 22 = .ok (.aload_n 0, 1) := by decide +kernel
theorem dX7_init_23 : decode cX7_init 23 = .ok (.sipush 1443, 3) := by decide +kernel
theorem dX7_init_26 : decode cX7_init 26 = .ok (.newarray .int, 2) := by decide +kernel
theorem dX7_init_28 : decode cX7_init 28 = .ok (.putfield 16, 3) := by decide +kernel
theorem dX7_init_31 : decode cX7_init 31 = .ok (.aload_n 0, 1) := by decide +kernel
theorem dX7_init_32 : decode cX7_init 32 = .ok (.bipush 7, 2) := by decide +kernel
theorem dX7_init_34 : decode cX7_init 34 = .ok (.newarray .int, 2) := by decide +kernel
theorem dX7_init_36 : decode cX7_init 36 = .ok (.putfield 19, 3) := by decide +kernel
theorem dX7_init_39 : decode cX7_init 39 = .ok (.aload_n 0, 1) := by decide +kernel
theorem dX7_init_40 : decode cX7_init 40 = .ok (.bipush 24, 2) := by decide +kernel
theorem dX7_init_42 : decode cX7_init 42 = .ok (.newarray .int, 2) := by decide +kernel
theorem dX7_init_44 : decode cX7_init 44 = .ok (.putfield 22, 3) := by decide +kernel
theorem dX7_init_47 : decode cX7_init 47 = .ok (.aload_n 0, 1) := by decide +kernel
theorem dX7_init_48 : decode cX7_init 48 = .ok (.bipush 96, 2) := by decide +kernel
theorem dX7_init_50 : decode cX7_init 50 = .ok (.newarray .int, 2) := by decide +kernel
theorem dX7_init_52 : decode cX7_init 52 = .ok (.putfield 25, 3) := by decide +kernel
theorem dX7_init_55 : decode cX7_init 55 = .ok (.aload_n 0, 1) := by decide +kernel
theorem dX7_init_56 : decode cX7_init 56 = .ok (.bipush 12, 2) := by decide +kernel
theorem dX7_init_58 : decode cX7_init 58 = .ok (.newarray .char, 2) := by decide +kernel
theorem dX7_init_60 : decode cX7_init 60 = .ok (.dup, 1) := by decide +kernel
theorem dX7_init_61 : decode cX7_init 61 = .ok (.iconst 0, 1) := by decide +kernel
theorem dX7_init_62 : decode cX7_init 62 = .ok (.bipush 98, 2) := by decide +kernel
theorem dX7_init_64 : decode cX7_init 64 = .ok (.castore, 1) := by decide +kernel
theorem dX7_init_65 : decode cX7_init 65 = .ok (.dup, 1) := by decide +kernel
theorem dX7_init_66 : decode cX7_init 66 = .ok (.iconst 1, 1) := by decide +kernel
theorem dX7_init_67 : decode cX7_init 67 = .ok (.bipush 97, 2) := by decide +kernel
theorem dX7_init_69 : decode cX7_init 69 = .ok (.castore, 1) := by decide +kernel
theorem dX7_init_70 : decode cX7_init 70 = .ok (.dup, 1) := by decide +kernel
theorem dX7_init_71 : decode cX7_init 71 = .ok (.iconst 2, 1) := by decide +kernel
theorem dX7_init_72 : decode cX7_init 72 = .ok (.bipush 110, 2) := by decide +kernel
theorem dX7_init_74 : decode cX7_init 74 = .ok (.castore, 1) := by decide +kernel
theorem dX7_init_75 : decode cX7_init 75 = .ok (.dup, 1) := by decide +kernel
theorem dX7_init_76 : decode cX7_init 76 = .ok (.iconst 3, 1) := by decide +kernel
theorem dX7_init_77 : decode cX7_init 77 = .ok (.bipush 100, 2) := by decide +kernel
theorem dX7_init_79 : decode cX7_init 79 = .ok (.castore, 1) := by decide +kernel
theorem dX7_init_80 : decode cX7_init 80 = .ok (.dup, 1) := by decide +kernel
theorem dX7_init_81 : decode cX7_init 81 = .ok (.iconst 4, 1) := by decide +kernel
theorem dX7_init_82 : decode cX7_init 82 = .ok (.bipush 112, 2) := by decide +kernel
theorem dX7_init_84 : decode cX7_init 84 = .ok (.castore, 1) := by decide +kernel
theorem dX7_init_85 : decode cX7_init 85 = .ok (.dup, 1) := by decide +kernel
theorem dX7_init_86 : decode cX7_init 86 = .ok (.iconst 5, 1) := by decide +kernel
theorem dX7_init_87 : decode cX7_init 87 = .ok (.bipush 117, 2) := by decide +kernel
theorem dX7_init_89 : decode cX7_init 89 = .ok (.castore, 1) := by decide +kernel
theorem dX7_init_90 : decode cX7_init 90 = .ok (.dup, 1) := by decide +kernel
theorem dX7_init_91 : decode cX7_init 91 = .ok (.bipush 6, 2) := by decide +kernel
theorem dX7_init_93 : decode cX7_init 93 = .ok (.bipush 115, 2) := by decide +kernel
theorem dX7_init_95 : decode cX7_init 95 = .ok (.castore, 1) := by decide +kernel
theorem dX7_init_96 : decode cX7_init 96 = .ok (.dup, 1) := by decide +kernel
theorem dX7_init_97 : decode cX7_init 97 = .ok (.bipush 7, 2) := by decide +kernel
theorem dX7_init_99 : decode cX7_init 99 = .ok (.bipush 104, 2) := by decide +kernel
theorem dX7_init_101 : decode cX7_init 101 = .ok (.castore, 1) := by decide +kernel
theorem dX7_init_102 : decode cX7_init 102 = .ok (.dup, 1) := by decide +kernel
theorem dX7_init_103 : decode cX7_init 103 = .ok (.bipush 8, 2) := by decide +kernel
theorem dX7_init_105 : decode cX7_init 105 = .ok (.bipush 116, 2) := by decide +kernel
theorem dX7_init_107 : decode cX7_init 107 = .ok (.castore, 1) := by decide +kernel
theorem dX7_init_108 : decode cX7_init 108 = .ok (.dup, 1) := by decide +kernel
theorem dX7_init_109 : decode cX7_init 109 = .ok (.bipush 9, 2) := by decide +kernel
theorem dX7_init_111 : decode cX7_init 111 = .ok (.bipush 105, 2) := by decide +kernel
theorem dX7_init_113 : decode cX7_init 113 = .ok (.castore, 1) := by decide +kernel
theorem dX7_init_114 : decode cX7_init 114 = .ok (.dup, 1) := by decide +kernel
theorem dX7_init_115 : decode cX7_init 115 = .ok (.bipush 10, 2) := by decide +kernel
theorem dX7_init_117 : decode cX7_init 117 = .ok (.bipush 114, 2) := by decide +kernel
theorem dX7_init_119 : decode cX7_init 119 = .ok (.castore, 1) := by decide +kernel
theorem dX7_init_120 : decode cX7_init 120 = .ok (.dup, 1) := by decide +kernel
theorem dX7_init_121 : decode cX7_init 121 = .ok (.bipush 11, 2) := by decide +kernel
theorem dX7_init_123 : decode cX7_init 123 = .ok (.bipush 101, 2) := by decide +kernel
theorem dX7_init_125 : decode cX7_init 125 = .ok (.castore, 1) := by decide +kernel
theorem dX7_init_126 : decode cX7_init 126 = .ok (.putfield 28, 3) := by decide +kernel
theorem dX7_init_129 : decode cX7_init 129 = .ok (.aload_n 0, 1) := by decide +kernel
theorem dX7_init_130 : decode cX7_init 130 = .ok (.iconst 4, 1) := by decide +kernel
theorem dX7_init_131 : decode cX7_init 131 = .ok (.newarray .int, 2) := by decide +kernel
theorem dX7_init_133 : decode cX7_init 133 = .ok (.dup, 1) := by decide +kernel
theorem dX7_init_134 : decode cX7_init 134 = .ok (.iconst 0, 1) := by decide +kernel
theorem dX7_init_135 : decode cX7_init 135 = .ok (.iconst 0, 1) := by decide +kernel
theorem dX7_init_136 : decode cX7_init 136 = .ok (.iastore, 1) := by decide +kernel
theorem dX7_init_137 : decode cX7_init 137 = .ok (.dup, 1) := by decide +kernel
theorem dX7_init_138 : decode cX7_init 138 = .ok (.iconst 1, 1) := by decide +kernel
theorem dX7_init_139 : decode cX7_init 139 = .ok (.iconst 4, 1) := by decide +kernel
theorem dX7_init_140 : decode cX7_init 140 = .ok (.iastore, 1) := by decide +kernel
theorem dX7_init_141 : decode cX7_init 141 = .ok (.dup, 1) := by decide +kernel
theorem dX7_init_142 : decode cX7_init 142 = .ok (.iconst 2, 1) := by decide +kernel
theorem dX7_init_143 : decode cX7_init 143 = .ok (.bipush 8, 2) := by decide +kernel
theorem dX7_init_145 : decode cX7_init 145 = .ok (.iastore, 1) := by decide +kernel
theorem dX7_init_146 : decode cX7_init 146 = .ok (.dup, 1) := by decide +kernel
theorem dX7_init_147 : decode cX7_init 147 = .ok (.iconst 3, 1) := by decide +kernel
theorem dX7_init_148 : decode cX7_init 148 = .ok (.bipush 12, 2) := by decide +kernel
theorem dX7_init_150 : decode cX7_init 150 = .ok (.iastore, 1) := by decide +kernel
theorem dX7_init_151 : decode cX7_init 151 = .ok (.putfield 32, 3) := by decide +kernel
theorem dX7_init_154 : decode cX7_init 154 = .ok (.aload_n 0, 1) := by decide +kernel
theorem dX7_init_155 : decode cX7_init 155 = .ok (.bipush 96, 2) := by decide +kernel
theorem dX7_init_157 : decode cX7_init 157 = .ok (.newarray .int, 2) := by decide +kernel
theorem dX7_init_159 : decode cX7_init 159 = .ok (.putfield 35, 3) := by decide +kernel
theorem dX7_init_162 : decode cX7_init 162 = .ok (.aload_n 0, 1) := by decide +kernel
theorem dX7_init_163 : decode cX7_init 163 = .ok (.bipush 96, 2) := by decide +kernel
theorem dX7_init_165 : decode cX7_init 165 = .ok (.newarray .int, 2) := by decide +kernel
theorem dX7_init_167 : decode cX7_init 167 = .ok (.putfield 38, 3) := by decide +kernel
theorem dX7_init_170 : decode cX7_init 170 = .ok (.aload_n 0, 1) := by decide +kernel
theorem dX7_init_171 : decode cX7_init 171 = .ok (.bipush 10, 2) := by decide +kernel
theorem dX7_init_173 : decode cX7_init 173 = .ok (.newarray .boolean, 2) := by decide +kernel
theorem dX7_init_175 : decode cX7_init 175 = .ok (.putfield 41, 3) := by decide +kernel
theorem dX7_init_178 : decode cX7_init 178 = .ok (.aload_n 0, 1) := by decide +kernel
theorem dX7_init_179 : decode cX7_init 179 = .ok (.bipush 96, 2) := by decide +kernel
theorem dX7_init_181 : decode cX7_init 181 = .ok (.newarray .int, 2) := by decide +kernel
theorem dX7_init_183 : decode cX7_init 183 = .ok (.putfield 45, 3) := by decide +kernel
theorem dX7_init_186 : decode cX7_init 186 = .ok (.aload_n 0, 1) := by decide +kernel
theorem dX7_init_187 : decode cX7_init 187 = .ok (.iconst 4, 1) := by decide +kernel
theorem dX7_init_188 : decode cX7_init 188 = .ok (.newarray .int, 2) := by decide +kernel
theorem dX7_init_190 : decode cX7_init 190 = .ok (.putfield 48, 3) := by decide +kernel
theorem dX7_init_193 : decode cX7_init 193 = .ok (.aload_n 0, 1) := by decide +kernel
theorem dX7_init_194 : decode cX7_init 194 = .ok (.iconst 4, 1) := by decide +kernel
theorem dX7_init_195 : decode cX7_init 195 = .ok (.newarray .int, 2) := by decide +kernel
theorem dX7_init_197 : decode cX7_init 197 = .ok (.dup, 1) := by decide +kernel
theorem dX7_init_198 : decode cX7_init 198 = .ok (.iconst 0, 1) := by decide +kernel
theorem dX7_init_199 : decode cX7_init 199 = .ok (.iconst (-1), 1) := by decide +kernel
theorem dX7_init_200 : decode cX7_init 200 = .ok (.iastore, 1) := by decide +kernel
theorem dX7_init_201 : decode cX7_init 201 = .ok (.dup, 1) := by decide +kernel
theorem dX7_init_202 : decode cX7_init 202 = .ok (.iconst 1, 1) := by decide +kernel
theorem dX7_init_203 : decode cX7_init 203 = .ok (.iconst (-1), 1) := by decide +kernel
theorem dX7_init_204 : decode cX7_init 204 = .ok (.iastore, 1) := by decide +kernel
theorem dX7_init_205 : decode cX7_init 205 = .ok (.dup, 1) := by decide +kernel
theorem dX7_init_206 : decode cX7_init 206 = .ok (.iconst 2, 1) := by decide +kernel
theorem dX7_init_207 : decode cX7_init 207 = .ok (.iconst (-1), 1) := by decide +kernel
theorem dX7_init_208 : decode cX7_init 208 = .ok (.iastore, 1) := by decide +kernel
theorem dX7_init_209 : decode cX7_init 209 = .ok (.dup, 1) := by decide +kernel
theorem dX7_init_210 : decode cX7_init 210 = .ok (.iconst 3, 1) := by decide +kernel
theorem dX7_init_211 : decode cX7_init 211 = .ok (.iconst (-1), 1) := by decide +kernel
theorem dX7_init_212 : decode cX7_init 212 = .ok (.iastore, 1) := by decide +kernel
theorem dX7_init_213 : decode cX7_init 213 = .ok (.putfield 51, 3) := by decide +kernel
theorem dX7_init_216 : decode cX7_init 216 = .ok (.aload_n 0, 1) := by decide +kernel
theorem dX7_init_217 : decode cX7_init 217 = .ok (.iconst 4, 1) := by decide +kernel
theorem dX7_init_218 : decode cX7_init 218 = .ok (.newarray .int, 2) := by decide +kernel
theorem dX7_init_220 : decode cX7_init 220 = .ok (.putfield 54, 3) := by decide +kernel
theorem dX7_init_223 : decode cX7_init 223 = .ok (.aload_n 0, 1) := by decide +kernel
theorem dX7_init_224 : decode cX7_init 224 = .ok (.bipush 96, 2) := by decide +kernel
theorem dX7_init_226 : decode cX7_init 226 = .ok (.newarray .int, 2) := by decide +kernel
theorem dX7_init_228 : decode cX7_init 228 = .ok (.putfield 57, 3) := by decide +kernel
theorem dX7_init_231 : decode cX7_init 231 = .ok (.aload_n 0, 1) := by decide +kernel
theorem dX7_init_232 : decode cX7_init 232 = .ok (.iconst 5, 1) := by decide +kernel
theorem dX7_init_233 : decode cX7_init 233 = .ok (.newarray .int, 2) := by decide +kernel
theorem dX7_init_235 : decode cX7_init 235 = .ok (.putfield 60, 3) := by decide +kernel
theorem dX7_init_238 : decode cX7_init 238 = .ok (.aload_n 0, 1) := by decide +kernel
theorem dX7_init_239 : decode cX7_init 239 = .ok (.iconst 5, 1) := by decide +kernel
theorem dX7_init_240 : decode cX7_init 240 = .ok (.newarray .int, 2) := by decide +kernel
theorem dX7_init_242 : decode cX7_init 242 = .ok (.putfield 63, 3) := by decide +kernel
theorem dX7_init_245 : decode cX7_init 245 = .ok (.aload_n 0, 1) := by decide +kernel
theorem dX7_init_246 : decode cX7_init 246 = .ok (.iconst 5, 1) := by decide +kernel
theorem dX7_init_247 : decode cX7_init 247 = .ok (.newarray .int, 2) := by decide +kernel
theorem dX7_init_249 : decode cX7_init 249 = .ok (.putfield 66, 3) := by decide +kernel
theorem dX7_init_252 : decode cX7_init 252 = .ok (.aload_n 0, 1) := by decide +kernel
theorem dX7_init_253 : decode cX7_init 253 = .ok (.bipush 120, 2) := by decide +kernel
theorem dX7_init_255 : decode cX7_init 255 = .ok (.newarray .int, 2) := by decide +kernel
theorem dX7_init_257 : decode cX7_init 257 = .ok (.putfield 69, 3) := by decide +kernel
theorem dX7_init_260 : decode cX7_init 260 = .ok (.aload_n 0, 1) := by decide +kernel
theorem dX7_init_261 : decode cX7_init 261 = .ok (.bipush 24, 2) := by decide +kernel
theorem dX7_init_263 : decode cX7_init 263 = .ok (.newarray .int, 2) := by decide +kernel
theorem dX7_init_265 : decode cX7_init 265 = .ok (.putfield 72, 3) := by decide +kernel
theorem dX7_init_268 : decode cX7_init 268 = .ok (.aload_n 0, 1) := by decide +kernel
theorem dX7_init_269 : decode cX7_init 269 = .ok (.bipush 60, 2) := by decide +kernel
theorem dX7_init_271 : decode cX7_init 271 = .ok (.newarray .int, 2) := by decide +kernel
theorem dX7_init_273 : decode cX7_init 273 = .ok (.putfield 75, 3) := by decide +kernel
theorem dX7_init_276 : decode cX7_init 276 = .ok (.aload_n 0, 1) := by decide +kernel
theorem dX7_init_277 : decode cX7_init 277 = .ok (.getfield 9, 3) := by decide +kernel
theorem dX7_init_280 : decode cX7_init 280 = .ok (.iconst 0, 1) := by decide +kernel
theorem dX7_init_281 : decode cX7_init 281 = .ok (.iconst 1, 1) := by decide +kernel
theorem dX7_init_282 : decode cX7_init 282 = .ok (.iastore, 1) := by decide +kernel
theorem dX7_init_283 : decode cX7_init 283 = .ok (.aload_n 0, 1) := by decide +kernel
theorem dX7_init_284 : decode cX7_init 284 = .ok (.getfield 9, 3) := by decide +kernel
theorem dX7_init_287 : decode cX7_init 287 = .ok (.iconst 3, 1) := by decide +kernel
theorem dX7_init_288 : decode cX7_init 288 = .ok (.bipush 50, 2) := by decide +kernel
theorem dX7_init_290 : decode cX7_init 290 = .ok (.iastore, 1) := by decide +kernel
theorem dX7_init_291 : decode cX7_init 291 = .ok (.iconst 0, 1) := by decide +kernel
theorem dX7_init_292 : decode cX7_init 292 = .ok (.istore_n 1, 1) := by decide +kernel
theorem dX7_init_293 : decode cX7_init 293 = .ok (.iload_n 1, 1) := by decide +kernel
theorem dX7_init_294 : decode cX7_init 294 = .ok (.bipush 24, 2) := by decide +kernel
theorem dX7_init_296 : decode cX7_init 296 = .ok (.if_icmp .ge 19, 3) := by decide +kernel
theorem dX7_init_299 : decode cX7_init 299 = .ok (.aload_n 0, 1) := by decide +kernel
theorem dX7_init_300 : decode cX7_init 300 = .ok (.getfield 9, 3) := by decide +kernel
theorem dX7_init_303 : decode cX7_init 303 = .ok (.iconst 5, 1) := by decide +kernel
theorem dX7_init_304 : decode cX7_init 304 = .ok (.iload_n 1, 1) := by decide +kernel
theorem dX7_init_305 : decode cX7_init 305 = .ok (.iadd, 1) := by decide +kernel
theorem dX7_init_306 : decode cX7_init 306 = .ok (.bipush 10, 2) := by decide +kernel
theorem dX7_init_308 : decode cX7_init 308 = .ok (.iastore, 1) := by decide +kernel
theorem dX7_init_309 : decode cX7_init 309 = .ok (.iinc 1 1, 3) := by decide +kernel
theorem dX7_init_312 : decode cX7_init 312 = .ok (.goto (-19), 3) := by decide +kernel
theorem dX7_init_315 : decode cX7_init 315 = .ok (.return_, 1) := by decide +kernel
theorem dX7_in_0 : decode cX7_in 0 = .ok (.iload_n 0, 1) := by decide +kernel
theorem dX7_in_1 : decode cX7_in 1 = .ok (.iload_n 1, 1) := by decide +kernel
theorem dX7_in_2 : decode cX7_in 2 = .ok (.if_icmp .lt 12, 3) := by decide +kernel
theorem dX7_in_5 : decode cX7_in 5 = .ok (.iload_n 0, 1) := by decide +kernel
theorem dX7_in_6 : decode cX7_in 6 = .ok (.iload_n 2, 1) := by decide +kernel
theorem dX7_in_7 : decode cX7_in 7 = .ok (.if_icmp .gt 7, 3) := by decide +kernel
theorem dX7_in_10 : decode cX7_in 10 = .ok (.iconst 1, 1) := by decide +kernel
theorem dX7_in_11 : decode cX7_in 11 = .ok (.goto 4, 3) := by decide +kernel
theorem dX7_in_14 : decode cX7_in 14 = .ok (.iconst 0, 1) := by decide +kernel
theorem dX7_in_15 : decode cX7_in 15 = .ok (.ireturn, 1) := by decide +kernel
theorem dX7_within_0 : decode cX7_within 0 = .ok (.iload_n 0, 1) := by decide +kernel
theorem dX7_within_1 : decode cX7_within 1 = .ok (.iload_n 1, 1) := by decide +kernel
theorem dX7_within_2 : decode cX7_within 2 = .ok (.if_icmp .ge 7, 3) := by decide +kernel
theorem dX7_within_5 : decode cX7_within 5 = .ok (.iload_n 1, 1) := by decide +kernel
theorem dX7_within_6 : decode cX7_within 6 = .ok (.goto 13, 3) := by decide +kernel
theorem dX7_within_9 : decode cX7_within 9 = .ok (.iload_n 0, 1) := by decide +kernel
theorem dX7_within_10 : decode cX7_within 10 = .ok (.iload_n 2, 1) := by decide +kernel
theorem dX7_within_11 : decode cX7_within 11 = .ok (.if_icmp .le 7, 3) := by decide +kernel
theorem dX7_within_14 : decode cX7_within 14 = .ok (.iload_n 2, 1) := by decide +kernel
theorem dX7_within_15 : decode cX7_within 15 = .ok (.goto 4, 3) := by decide +kernel
theorem dX7_within_18 : decode cX7_within 18 = .ok (.iload_n 0, 1) := by decide +kernel
theorem dX7_within_19 : decode cX7_within 19 = .ok (.ireturn, 1) := by decide +kernel
theorem dX7_copyAll_0 : decode cX7_copyAll 0 = .ok (.iconst 0, 1) := by decide +kernel
theorem dX7_copyAll_1 : decode cX7_copyAll 1 = .ok (.istore_n 2, 1) := by decide +kernel
theorem dX7_copyAll_2 : decode cX7_copyAll 2 = .ok (.iload_n 2, 1) := by decide +kernel
theorem dX7_copyAll_3 : decode cX7_copyAll 3 = .ok (.sipush 1443, 3) := by decide +kernel
theorem dX7_copyAll_6 : decode cX7_copyAll 6 = .ok (.if_icmp .ge 15, 3) := by decide +kernel
theorem dX7_copyAll_9 : decode cX7_copyAll 9 = .ok (.aload_n 1, 1) := by decide +kernel
theorem dX7_copyAll_10 : decode cX7_copyAll 10 = .ok (.iload_n 2, 1) := by decide +kernel
theorem dX7_copyAll_11 : decode cX7_copyAll 11 = .ok (.aload_n 0, 1) := by decide +kernel
theorem dX7_copyAll_12 : decode cX7_copyAll 12 = .ok (.iload_n 2, 1) := by decide +kernel
theorem dX7_copyAll_13 : decode cX7_copyAll 13 = .ok (.iaload, 1) := by decide +kernel
theorem dX7_copyAll_14 : decode cX7_copyAll 14 = .ok (.iastore, 1) := by decide +kernel
theorem dX7_copyAll_15 : decode cX7_copyAll 15 = .ok (.iinc 2 1, 3) := by decide +kernel
theorem dX7_copyAll_18 : decode cX7_copyAll 18 = .ok (.goto (-16), 3) := by decide +kernel
theorem dX7_copyAll_21 : decode cX7_copyAll 21 = .ok (.return_, 1) := by decide +kernel
theorem dX7_isWire_0 : decode cX7_isWire 0 = .ok (.iload_n 1, 1) := by decide +kernel
theorem dX7_isWire_1 : decode cX7_isWire 1 = .ok (.iconst 0, 1) := by decide +kernel
theorem dX7_isWire_2 : decode cX7_isWire 2 = .ok (.aload_n 0, 1) := by decide +kernel
theorem dX7_isWire_3 : decode cX7_isWire 3 = .ok (.getfield 9, 3) := by decide +kernel
theorem dX7_isWire_6 : decode cX7_isWire 6 = .ok (.iconst 1, 1) := by decide +kernel
theorem dX7_isWire_7 : decode cX7_isWire 7 = .ok (.iaload, 1) := by decide +kernel
theorem dX7_isWire_8 : decode cX7_isWire 8 = .ok (.iconst 1, 1) := by decide +kernel
theorem dX7_isWire_9 : decode cX7_isWire 9 = .ok (.isub, 1) := by decide +kernel
theorem dX7_isWire_10 : decode cX7_isWire 10 = .ok (.invokestatic 78, 3) := by decide +kernel
theorem dX7_isWire_13 : decode cX7_isWire 13 = .ok (.ireturn, 1) := by decide +kernel
theorem dX7_isWind_0 : decode cX7_isWind 0 = .ok (.iload_n 0, 1) := by decide +kernel
theorem dX7_isWind_1 : decode cX7_isWind 1 = .ok (.iconst 0, 1) := by decide +kernel
theorem dX7_isWind_2 : decode cX7_isWind 2 = .ok (.bipush 99, 2) := by decide +kernel
theorem dX7_isWind_4 : decode cX7_isWind 4 = .ok (.invokestatic 78, 3) := by decide +kernel
theorem dX7_isWind_7 : decode cX7_isWind 7 = .ok (.ireturn, 1) := by decide +kernel
theorem dX7_isHour_0 : decode cX7_isHour 0 = .ok (.iload_n 0, 1) := by decide +kernel
theorem dX7_isHour_1 : decode cX7_isHour 1 = .ok (.iconst 0, 1) := by decide +kernel
theorem dX7_isHour_2 : decode cX7_isHour 2 = .ok (.bipush 23, 2) := by decide +kernel
theorem dX7_isHour_4 : decode cX7_isHour 4 = .ok (.invokestatic 78, 3) := by decide +kernel
theorem dX7_isHour_7 : decode cX7_isHour 7 = .ok (.ireturn, 1) := by decide +kernel
theorem dX7_of_0 : decode cX7_of 0 = .ok (.aload_n 0, 1) := by decide +kernel
theorem dX7_of_1 : decode cX7_of 1 = .ok (.getfield 9, 3) := by decide +kernel
theorem dX7_of_4 : decode cX7_of 4 = .ok (.bipush 29, 2) := by decide +kernel
theorem dX7_of_6 : decode cX7_of 6 = .ok (.bipush 7, 2) := by decide +kernel
theorem dX7_of_8 : decode cX7_of 8 = .ok (.iload_n 1, 1) := by decide +kernel
theorem dX7_of_9 : decode cX7_of 9 = .ok (.imul, 1) := by decide +kernel
theorem dX7_of_10 : decode cX7_of 10 = .ok (.iadd, 1) := by decide +kernel
theorem dX7_of_11 : decode cX7_of 11 = .ok (.iload_n 2, 1) := by decide +kernel
theorem dX7_of_12 : decode cX7_of 12 = .ok (.iadd, 1) := by decide +kernel
theorem dX7_of_13 : decode cX7_of 13 = .ok (.iaload, 1) := by decide +kernel
theorem dX7_of_14 : decode cX7_of 14 = .ok (.ireturn, 1) := by decide +kernel
theorem dX7_becomes_0 : decode cX7_becomes 0 = .ok (.aload_n 0, 1) := by decide +kernel
theorem dX7_becomes_1 : decode cX7_becomes 1 = .ok (.getfield 9, 3) := by decide +kernel
theorem dX7_becomes_4 : decode cX7_becomes 4 = .ok (.iload_n 1, 1) := by decide +kernel
theorem dX7_becomes_5 : decode cX7_becomes 5 = .ok (.iaload, 1) := by decide +kernel
theorem dX7_becomes_6 : decode cX7_becomes 6 = .ok (.istore_n 3, 1) := by decide +kernel
theorem dX7_becomes_7 : decode cX7_becomes 7 = .ok (.aload_n 0, 1) := by decide +kernel
theorem dX7_becomes_8 : decode cX7_becomes 8 = .ok (.getfield 9, 3) := by decide +kernel
theorem dX7_becomes_11 : decode cX7_becomes 11 = .ok (.iload_n 1, 1) := by decide +kernel
theorem dX7_becomes_12 : decode cX7_becomes 12 = .ok (.iload_n 2, 1) := by decide +kernel
theorem dX7_becomes_13 : decode cX7_becomes 13 = .ok (.iastore, 1) := by decide +kernel
theorem dX7_becomes_14 : decode cX7_becomes 14 = .ok (.iload_n 3, 1) := by decide +kernel
theorem dX7_becomes_15 : decode cX7_becomes 15 = .ok (.ireturn, 1) := by decide +kernel
theorem dX7_isPart_0 : decode cX7_isPart 0 = .ok (.iload_n 1, 1) := by decide +kernel
theorem dX7_isPart_1 : decode cX7_isPart 1 = .ok (.iload_n 0, 1) := by decide +kernel
theorem dX7_isPart_2 : decode cX7_isPart 2 = .ok (.iconst 3, 1) := by decide +kernel
theorem dX7_isPart_3 : decode cX7_isPart 3 = .ok (.if_icmp .ge 7, 3) := by decide +kernel
theorem dX7_isPart_6 : decode cX7_isPart 6 = .ok (.iconst 1, 1) := by decide +kernel
theorem dX7_isPart_7 : decode cX7_isPart 7 = .ok (.goto 4, 3) := by decide +kernel
theorem dX7_isPart_10 : decode cX7_isPart 10 = .ok (.iconst 0, 1) := by decide +kernel
theorem dX7_isPart_11 : decode cX7_isPart 11 = .ok (.iload_n 0, 1) := by decide +kernel
theorem dX7_isPart_12 : decode cX7_isPart 12 = .ok (.iconst 1, 1) := by decide +kernel
theorem dX7_isPart_13 : decode cX7_isPart 13 = .ok (.if_icmp .eq 8, 3) := by decide +kernel
theorem dX7_isPart_16 : decode cX7_isPart 16 = .ok (.iload_n 0, 1) := by decide +kernel
theorem dX7_isPart_17 : decode cX7_isPart 17 = .ok (.iconst 3, 1) := by decide +kernel
theorem dX7_isPart_18 : decode cX7_isPart 18 = .ok (.if_icmp .ne 8, 3) := by decide +kernel
theorem dX7_isPart_21 : decode cX7_isPart 21 = .ok (.bipush 9, 2) := by decide +kernel
theorem dX7_isPart_23 : decode cX7_isPart 23 = .ok (.goto 17, 3) := by decide +kernel
theorem dX7_isPart_26 : decode cX7_isPart 26 = .ok (.iload_n 0, 1) := by decide +kernel
theorem dX7_isPart_27 : decode cX7_isPart 27 = .ok (.iconst 2, 1) := by decide +kernel
theorem dX7_isPart_28 : decode cX7_isPart 28 = .ok (.if_icmp .ne 9, 3) := by decide +kernel
theorem dX7_isPart_31 : decode cX7_isPart 31 = .ok (.sipush 999, 3) := by decide +kernel
theorem dX7_isPart_34 : decode cX7_isPart 34 = .ok (.goto 6, 3) := by decide +kernel
theorem dX7_isPart_37 : decode cX7_isPart 37 = .ok (.sipush 9999, 3) := by decide +kernel
theorem dX7_isPart_40 : decode cX7_isPart 40 = .ok (.invokestatic 78, 3) := by decide +kernel
theorem dX7_isPart_43 : decode cX7_isPart 43 = .ok (.ireturn, 1) := by decide +kernel
theorem dX7_wire_0 : decode cX7_wire 0 = .ok (.iload_n 1, 1) := by decide +kernel
theorem dX7_wire_1 : decode cX7_wire 1 = .ok (.iconst 0, 1) := by decide +kernel
theorem dX7_wire_2 : decode cX7_wire 2 = .ok (.iconst 5, 1) := by decide +kernel
theorem dX7_wire_3 : decode cX7_wire 3 = .ok (.invokestatic 78, 3) := by decide +kernel
theorem dX7_wire_6 : decode cX7_wire 6 = .ok (.ifCond .eq 19, 3) := by decide +kernel
theorem dX7_wire_9 : decode cX7_wire 9 = .ok (.iconst 1, 1) := by decide +kernel
theorem dX7_wire_10 : decode cX7_wire 10 = .ok (.iload_n 2, 1) := by decide +kernel
theorem dX7_wire_11 : decode cX7_wire 11 = .ok (.invokestatic 82, 3) := by decide +kernel
theorem dX7_wire_14 : decode cX7_wire 14 = .ok (.ifCond .eq 11, 3) := by decide +kernel
theorem dX7_wire_17 : decode cX7_wire 17 = .ok (.iconst 2, 1) := by decide +kernel
theorem dX7_wire_18 : decode cX7_wire 18 = .ok (.iload_n 3, 1) := by decide +kernel
theorem dX7_wire_19 : decode cX7_wire 19 = .ok (.invokestatic 82, 3) := by decide +kernel
theorem dX7_wire_22 : decode cX7_wire 22 = .ok (.ifCond .ne 6, 3) := by decide +kernel
theorem dX7_wire_25 : decode cX7_wire 25 = .ok (.ldc 86, 2) := by decide +kernel
theorem dX7_wire_27 : decode cX7_wire 27 = .ok (.ireturn, 1) := by decide +kernel
theorem dX7_wire_28 : decode cX7_wire 28 = .ok (.aload_n 0, 1) := by decide +kernel
theorem dX7_wire_29 : decode cX7_wire 29 = .ok (.getfield 9, 3) := by decide +kernel
theorem dX7_wire_32 : decode cX7_wire 32 = .ok (.iconst 1, 1) := by decide +kernel
theorem dX7_wire_33 : decode cX7_wire 33 = .ok (.iaload, 1) := by decide +kernel
theorem dX7_wire_34 : decode cX7_wire 34 = .ok (.bipush 6, 2) := by decide +kernel
theorem dX7_wire_36 : decode cX7_wire 36 = .ok (.if_icmp .ne 6, 3) := by decide +kernel
theorem dX7_wire_39 : decode cX7_wire 39 = .ok (.ldc 87, 2) := by decide +kernel
theorem dX7_wire_41 : decode cX7_wire 41 = .ok (.ireturn, 1) := by decide +kernel
theorem dX7_wire_42 : decode cX7_wire 42 = .ok (.bipush 29, 2) := by decide +kernel
theorem dX7_wire_44 : decode cX7_wire 44 = .ok (.bipush 7, 2) := by decide +kernel
theorem dX7_wire_46 : decode cX7_wire 46 = .ok (.aload_n 0, 1) := by decide +kernel
theorem dX7_wire_47 : decode cX7_wire 47 = .ok (.getfield 9, 3) := by decide +kernel
theorem dX7_wire_50 : decode cX7_wire 50 = .ok (.iconst 1, 1) := by decide +kernel
theorem dX7_wire_51 : decode cX7_wire 51 = .ok (.iaload, 1) := by decide +kernel
theorem dX7_wire_52 : decode cX7_wire 52 = .ok (.imul, 1) := by decide +kernel
theorem dX7_wire_53 : decode cX7_wire 53 = .ok (.iadd, 1) := by decide +kernel
theorem dX7_wire_54 : decode cX7_wire 54 = .ok (.istore 4, 2) := by decide +kernel
theorem dX7_wire_56 : decode cX7_wire 56 = .ok (.aload_n 0, 1) := by decide +kernel
theorem dX7_wire_57 : decode cX7_wire 57 = .ok (.getfield 9, 3) := by decide +kernel
theorem dX7_wire_60 : decode cX7_wire 60 = .ok (.iload 4, 2) := by decide +kernel
theorem dX7_wire_62 : decode cX7_wire 62 = .ok (.iload_n 1, 1) := by decide +kernel
theorem dX7_wire_63 : decode cX7_wire 63 = .ok (.iastore, 1) := by decide +kernel
theorem dX7_wire_64 : decode cX7_wire 64 = .ok (.aload_n 0, 1) := by decide +kernel
theorem dX7_wire_65 : decode cX7_wire 65 = .ok (.getfield 9, 3) := by decide +kernel
theorem dX7_wire_68 : decode cX7_wire 68 = .ok (.iload 4, 2) := by decide +kernel
theorem dX7_wire_70 : decode cX7_wire 70 = .ok (.iconst 1, 1) := by decide +kernel
theorem dX7_wire_71 : decode cX7_wire 71 = .ok (.iadd, 1) := by decide +kernel
theorem dX7_wire_72 : decode cX7_wire 72 = .ok (.iload_n 2, 1) := by decide +kernel
theorem dX7_wire_73 : decode cX7_wire 73 = .ok (.iastore, 1) := by decide +kernel
theorem dX7_wire_74 : decode cX7_wire 74 = .ok (.aload_n 0, 1) := by decide +kernel
theorem dX7_wire_75 : decode cX7_wire 75 = .ok (.getfield 9, 3) := by decide +kernel
theorem dX7_wire_78 : decode cX7_wire 78 = .ok (.iload 4, 2) := by decide +kernel
theorem dX7_wire_80 : decode cX7_wire 80 = .ok (.iconst 2, 1) := by decide +kernel
theorem dX7_wire_81 : decode cX7_wire 81 = .ok (.iadd, 1) := by decide +kernel
theorem dX7_wire_82 : decode cX7_wire 82 = .ok (.iload_n 3, 1) := by decide +kernel
theorem dX7_wire_83 : decode cX7_wire 83 = .ok (.iastore, 1) := by decide +kernel
theorem dX7_wire_84 : decode cX7_wire 84 = .ok (.aload_n 0, 1) := by decide +kernel
theorem dX7_wire_85 : decode cX7_wire 85 = .ok (.getfield 9, 3) := by decide +kernel
theorem dX7_wire_88 : decode cX7_wire 88 = .ok (.iload 4, 2) := by decide +kernel
theorem dX7_wire_90 : decode cX7_wire 90 = .ok (.iconst 3, 1) := by decide +kernel
theorem dX7_wire_91 : decode cX7_wire 91 = .ok (.iadd, 1) := by decide +kernel
theorem dX7_wire_92 : decode cX7_wire 92 = .ok (.iconst 2, 1) := by decide +kernel
theorem dX7_wire_93 : decode cX7_wire 93 = .ok (.iastore, 1) := by decide +kernel
theorem dX7_wire_94 : decode cX7_wire 94 = .ok (.aload_n 0, 1) := by decide +kernel
theorem dX7_wire_95 : decode cX7_wire 95 = .ok (.getfield 9, 3) := by decide +kernel
theorem dX7_wire_98 : decode cX7_wire 98 = .ok (.iload 4, 2) := by decide +kernel
theorem dX7_wire_100 : decode cX7_wire 100 = .ok (.iconst 4, 1) := by decide +kernel
theorem dX7_wire_101 : decode cX7_wire 101 = .ok (.iadd, 1) := by decide +kernel
theorem dX7_wire_102 : decode cX7_wire 102 = .ok (.iconst 0, 1) := by decide +kernel
theorem dX7_wire_103 : decode cX7_wire 103 = .ok (.iastore, 1) := by decide +kernel
theorem dX7_wire_104 : decode cX7_wire 104 = .ok (.aload_n 0, 1) := by decide +kernel
theorem dX7_wire_105 : decode cX7_wire 105 = .ok (.getfield 9, 3) := by decide +kernel
theorem dX7_wire_108 : decode cX7_wire 108 = .ok (.iload 4, 2) := by decide +kernel
theorem dX7_wire_110 : decode cX7_wire 110 = .ok (.iconst 5, 1) := by decide +kernel
theorem dX7_wire_111 : decode cX7_wire 111 = .ok (.iadd, 1) := by decide +kernel
theorem dX7_wire_112 : decode cX7_wire 112 = .ok (.iconst 0, 1) := by decide +kernel
theorem dX7_wire_113 : decode cX7_wire 113 = .ok (.iastore, 1) := by decide +kernel
theorem dX7_wire_114 : decode cX7_wire 114 = .ok (.aload_n 0, 1) := by decide +kernel
theorem dX7_wire_115 : decode cX7_wire 115 = .ok (.getfield 9, 3) := by decide +kernel
theorem dX7_wire_118 : decode cX7_wire 118 = .ok (.iload 4, 2) := by decide +kernel
theorem dX7_wire_120 : decode cX7_wire 120 = .ok (.bipush 6, 2) := by decide +kernel
theorem dX7_wire_122 : decode cX7_wire 122 = .ok (.iadd, 1) := by decide +kernel
theorem dX7_wire_123 : decode cX7_wire 123 = .ok (.iconst 0, 1) := by decide +kernel
theorem dX7_wire_124 : decode cX7_wire 124 = .ok (.iastore, 1) := by decide +kernel
theorem dX7_wire_125 : decode cX7_wire 125 = .ok (.aload_n 0, 1) := by decide +kernel
theorem dX7_wire_126 : decode cX7_wire 126 = .ok (.getfield 9, 3) := by decide +kernel
theorem dX7_wire_129 : decode cX7_wire 129 = .ok (.iconst 1, 1) := by decide +kernel
theorem dX7_wire_130 : decode cX7_wire 130 = .ok (.dup2, 1) := by decide +kernel
theorem dX7_wire_131 : decode cX7_wire 131 = .ok (.iaload, 1) := by decide +kernel
theorem dX7_wire_132 : decode cX7_wire 132 = .ok (.iconst 1, 1) := by decide +kernel
theorem dX7_wire_133 : decode cX7_wire 133 = .ok (.iadd, 1) := by decide +kernel
theorem dX7_wire_134 : decode cX7_wire 134 = .ok (.iastore, 1) := by decide +kernel
theorem dX7_wire_135 : decode cX7_wire 135 = .ok (.aload_n 0, 1) := by decide +kernel
theorem dX7_wire_136 : decode cX7_wire 136 = .ok (.getfield 9, 3) := by decide +kernel
theorem dX7_wire_139 : decode cX7_wire 139 = .ok (.iconst 1, 1) := by decide +kernel
theorem dX7_wire_140 : decode cX7_wire 140 = .ok (.iaload, 1) := by decide +kernel
theorem dX7_wire_141 : decode cX7_wire 141 = .ok (.iconst 1, 1) := by decide +kernel
theorem dX7_wire_142 : decode cX7_wire 142 = .ok (.isub, 1) := by decide +kernel
theorem dX7_wire_143 : decode cX7_wire 143 = .ok (.ireturn, 1) := by decide +kernel
theorem dX7_loseOf_0 : decode cX7_loseOf 0 = .ok (.aload_n 0, 1) := by decide +kernel
theorem dX7_loseOf_1 : decode cX7_loseOf 1 = .ok (.iload_n 1, 1) := by decide +kernel
theorem dX7_loseOf_2 : decode cX7_loseOf 2 = .ok (.iconst 3, 1) := by decide +kernel
theorem dX7_loseOf_3 : decode cX7_loseOf 3 = .ok (.invokevirtual 88, 3) := by decide +kernel
theorem dX7_loseOf_6 : decode cX7_loseOf 6 = .ok (.iconst 1, 1) := by decide +kernel
theorem dX7_loseOf_7 : decode cX7_loseOf 7 = .ok (.iadd, 1) := by decide +kernel
theorem dX7_loseOf_8 : decode cX7_loseOf 8 = .ok (.istore_n 2, 1) := by decide +kernel
theorem dX7_loseOf_9 : decode cX7_loseOf 9 = .ok (.aload_n 0, 1) := by decide +kernel
theorem dX7_loseOf_10 : decode cX7_loseOf 10 = .ok (.iload_n 1, 1) := by decide +kernel
theorem dX7_loseOf_11 : decode cX7_loseOf 11 = .ok (.iconst 0, 1) := by decide +kernel
theorem dX7_loseOf_12 : decode cX7_loseOf 12 = .ok (.invokevirtual 88, 3) := by decide +kernel
theorem dX7_loseOf_15 : decode cX7_loseOf 15 = .ok (.istore_n 3, 1) := by decide +kernel
theorem dX7_loseOf_16 : decode cX7_loseOf 16 = .ok (.iload_n 3, 1) := by decide +kernel
theorem dX7_loseOf_17 : decode cX7_loseOf 17 = .ok (.iconst 1, 1) := by decide +kernel
theorem dX7_loseOf_18 : decode cX7_loseOf 18 = .ok (.if_icmp .ne 9, 3) := by decide +kernel
theorem dX7_loseOf_21 : decode cX7_loseOf 21 = .ok (.iload_n 2, 1) := by decide +kernel
theorem dX7_loseOf_22 : decode cX7_loseOf 22 = .ok (.iconst 3, 1) := by decide +kernel
theorem dX7_loseOf_23 : decode cX7_loseOf 23 = .ok (.iadd, 1) := by decide +kernel
theorem dX7_loseOf_24 : decode cX7_loseOf 24 = .ok (.goto 17, 3) := by decide +kernel
theorem dX7_loseOf_27 : decode cX7_loseOf 27 = .ok (.iload_n 3, 1) := by decide +kernel
theorem dX7_loseOf_28 : decode cX7_loseOf 28 = .ok (.iconst 3, 1) := by decide +kernel
theorem dX7_loseOf_29 : decode cX7_loseOf 29 = .ok (.if_icmp .ne 11, 3) := by decide +kernel
theorem dX7_loseOf_32 : decode cX7_loseOf 32 = .ok (.iconst 2, 1) := by decide +kernel
theorem dX7_loseOf_33 : decode cX7_loseOf 33 = .ok (.iload_n 2, 1) := by decide +kernel
theorem dX7_loseOf_34 : decode cX7_loseOf 34 = .ok (.iconst 3, 1) := by decide +kernel
theorem dX7_loseOf_35 : decode cX7_loseOf 35 = .ok (.iadd, 1) := by decide +kernel
theorem dX7_loseOf_36 : decode cX7_loseOf 36 = .ok (.imul, 1) := by decide +kernel
theorem dX7_loseOf_37 : decode cX7_loseOf 37 = .ok (.goto 4, 3) := by decide +kernel
theorem dX7_loseOf_40 : decode cX7_loseOf 40 = .ok (.iload_n 2, 1) := by decide +kernel
theorem dX7_loseOf_41 : decode cX7_loseOf 41 = .ok (.ireturn, 1) := by decide +kernel
theorem dX7_worthOf_0 : decode cX7_worthOf 0 = .ok (.aload_n 0, 1) := by decide +kernel
theorem dX7_worthOf_1 : decode cX7_worthOf 1 = .ok (.iload_n 1, 1) := by decide +kernel
theorem dX7_worthOf_2 : decode cX7_worthOf 2 = .ok (.iconst 2, 1) := by decide +kernel
theorem dX7_worthOf_3 : decode cX7_worthOf 3 = .ok (.invokevirtual 88, 3) := by decide +kernel
theorem dX7_worthOf_6 : decode cX7_worthOf 6 = .ok (.aload_n 0, 1) := by decide +kernel
theorem dX7_worthOf_7 : decode cX7_worthOf 7 = .ok (.iload_n 1, 1) := by decide +kernel
theorem dX7_worthOf_8 : decode cX7_worthOf 8 = .ok (.iconst 1, 1) := by decide +kernel
theorem dX7_worthOf_9 : decode cX7_worthOf 9 = .ok (.invokevirtual 88, 3) := by decide +kernel
theorem dX7_worthOf_12 : decode cX7_worthOf 12 = .ok (.idiv, 1) := by decide +kernel
theorem dX7_worthOf_13 : decode cX7_worthOf 13 = .ok (.istore_n 2, 1) := by decide +kernel
theorem dX7_worthOf_14 : decode cX7_worthOf 14 = .ok (.aload_n 0, 1) := by decide +kernel
theorem dX7_worthOf_15 : decode cX7_worthOf 15 = .ok (.iload_n 1, 1) := by decide +kernel
theorem dX7_worthOf_16 : decode cX7_worthOf 16 = .ok (.iconst 0, 1) := by decide +kernel
theorem dX7_worthOf_17 : decode cX7_worthOf 17 = .ok (.invokevirtual 88, 3) := by decide +kernel
theorem dX7_worthOf_20 : decode cX7_worthOf 20 = .ok (.tableswitch 72 1 5 #[36, 45, 49, 61, 68], 36) := by decide +kernel
theorem dX7_worthOf_56 : decode cX7_worthOf 56 = .ok (.iload_n 2, 1) := by decide +kernel
theorem dX7_worthOf_57 : decode cX7_worthOf 57 = .ok (.aload_n 0, 1) := by decide +kernel
theorem dX7_worthOf_58 : decode cX7_worthOf 58 = .ok (.iload_n 1, 1) := by decide +kernel
theorem dX7_worthOf_59 : decode cX7_worthOf 59 = .ok (.iconst 3, 1) := by decide +kernel
theorem dX7_worthOf_60 : decode cX7_worthOf 60 = .ok (.invokevirtual 88, 3) := by decide +kernel
theorem dX7_worthOf_63 : decode cX7_worthOf 63 = .ok (.iadd, 1) := by decide +kernel
theorem dX7_worthOf_64 : decode cX7_worthOf 64 = .ok (.ireturn, 1) := by decide +kernel
theorem dX7_worthOf_65 : decode cX7_worthOf 65 = .ok (.iload_n 2, 1) := by decide +kernel
theorem dX7_worthOf_66 : decode cX7_worthOf 66 = .ok (.iconst 2, 1) := by decide +kernel
theorem dX7_worthOf_67 : decode cX7_worthOf 67 = .ok (.idiv, 1) := by decide +kernel
theorem dX7_worthOf_68 : decode cX7_worthOf 68 = .ok (.ireturn, 1) := by decide +kernel
theorem dX7_worthOf_69 : decode cX7_worthOf 69 = .ok (.iload_n 2, 1) := by decide +kernel
theorem dX7_worthOf_70 : decode cX7_worthOf 70 = .ok (.aload_n 0, 1) := by decide +kernel
theorem dX7_worthOf_71 : decode cX7_worthOf 71 = .ok (.iload_n 1, 1) := by decide +kernel
theorem dX7_worthOf_72 : decode cX7_worthOf 72 = .ok (.iconst 3, 1) := by decide +kernel
theorem dX7_worthOf_73 : decode cX7_worthOf 73 = .ok (.invokevirtual 88, 3) := by decide +kernel
theorem dX7_worthOf_76 : decode cX7_worthOf 76 = .ok (.iadd, 1) := by decide +kernel
theorem dX7_worthOf_77 : decode cX7_worthOf 77 = .ok (.bipush 100, 2) := by decide +kernel
theorem dX7_worthOf_79 : decode cX7_worthOf 79 = .ok (.iadd, 1) := by decide +kernel
theorem dX7_worthOf_80 : decode cX7_worthOf 80 = .ok (.ireturn, 1) := by decide +kernel
theorem dX7_worthOf_81 : decode cX7_worthOf 81 = .ok (.aload_n 0, 1) := by decide +kernel
theorem dX7_worthOf_82 : decode cX7_worthOf 82 = .ok (.iload_n 1, 1) := by decide +kernel
theorem dX7_worthOf_83 : decode cX7_worthOf 83 = .ok (.iconst 2, 1) := by decide +kernel
theorem dX7_worthOf_84 : decode cX7_worthOf 84 = .ok (.invokevirtual 88, 3) := by decide +kernel
theorem dX7_worthOf_87 : decode cX7_worthOf 87 = .ok (.ireturn, 1) := by decide +kernel
theorem dX7_worthOf_88 : decode cX7_worthOf 88 = .ok (.iload_n 2, 1) := by decide +kernel
theorem dX7_worthOf_89 : decode cX7_worthOf 89 = .ok (.iconst 5, 1) := by decide +kernel
theorem dX7_worthOf_90 : decode cX7_worthOf 90 = .ok (.isub, 1) := by decide +kernel
theorem dX7_worthOf_91 : decode cX7_worthOf 91 = .ok (.ireturn, 1) := by decide +kernel
theorem dX7_worthOf_92 : decode cX7_worthOf 92 = .ok (.iload_n 2, 1) := by decide +kernel
theorem dX7_worthOf_93 : decode cX7_worthOf 93 = .ok (.ireturn, 1) := by decide +kernel
theorem dX7_told_0 : decode cX7_told 0 = .ok (.aload_n 0, 1) := by decide +kernel
theorem dX7_told_1 : decode cX7_told 1 = .ok (.iload_n 1, 1) := by decide +kernel
theorem dX7_told_2 : decode cX7_told 2 = .ok (.invokevirtual 92, 3) := by decide +kernel
theorem dX7_told_5 : decode cX7_told 5 = .ok (.ifCond .eq 13, 3) := by decide +kernel
theorem dX7_told_8 : decode cX7_told 8 = .ok (.iload_n 2, 1) := by decide +kernel
theorem dX7_told_9 : decode cX7_told 9 = .ok (.iconst 0, 1) := by decide +kernel
theorem dX7_told_10 : decode cX7_told 10 = .ok (.bipush 8, 2) := by decide +kernel
theorem dX7_told_12 : decode cX7_told 12 = .ok (.invokestatic 78, 3) := by decide +kernel
theorem dX7_told_15 : decode cX7_told 15 = .ok (.ifCond .ne 6, 3) := by decide +kernel
theorem dX7_told_18 : decode cX7_told 18 = .ok (.ldc 86, 2) := by decide +kernel
theorem dX7_told_20 : decode cX7_told 20 = .ok (.ireturn, 1) := by decide +kernel
theorem dX7_told_21 : decode cX7_told 21 = .ok (.iload_n 2, 1) := by decide +kernel
theorem dX7_told_22 : decode cX7_told 22 = .ok (.bipush 7, 2) := by decide +kernel
theorem dX7_told_24 : decode cX7_told 24 = .ok (.if_icmp .ge 12, 3) := by decide +kernel
theorem dX7_told_27 : decode cX7_told 27 = .ok (.aload_n 0, 1) := by decide +kernel
theorem dX7_told_28 : decode cX7_told 28 = .ok (.iload_n 1, 1) := by decide +kernel
theorem dX7_told_29 : decode cX7_told 29 = .ok (.iload_n 2, 1) := by decide +kernel
theorem dX7_told_30 : decode cX7_told 30 = .ok (.invokevirtual 88, 3) := by decide +kernel
theorem dX7_told_33 : decode cX7_told 33 = .ok (.goto 22, 3) := by decide +kernel
theorem dX7_told_36 : decode cX7_told 36 = .ok (.iload_n 2, 1) := by decide +kernel
theorem dX7_told_37 : decode cX7_told 37 = .ok (.bipush 7, 2) := by decide +kernel
theorem dX7_told_39 : decode cX7_told 39 = .ok (.if_icmp .ne 11, 3) := by decide +kernel
theorem dX7_told_42 : decode cX7_told 42 = .ok (.aload_n 0, 1) := by decide +kernel
theorem dX7_told_43 : decode cX7_told 43 = .ok (.iload_n 1, 1) := by decide +kernel
theorem dX7_told_44 : decode cX7_told 44 = .ok (.invokevirtual 96, 3) := by decide +kernel
theorem dX7_told_47 : decode cX7_told 47 = .ok (.goto 8, 3) := by decide +kernel
theorem dX7_told_50 : decode cX7_told 50 = .ok (.aload_n 0, 1) := by decide +kernel
theorem dX7_told_51 : decode cX7_told 51 = .ok (.iload_n 1, 1) := by decide +kernel
theorem dX7_told_52 : decode cX7_told 52 = .ok (.invokevirtual 100, 3) := by decide +kernel
theorem dX7_told_55 : decode cX7_told 55 = .ok (.ireturn, 1) := by decide +kernel
theorem dX7_isUnder_0 : decode cX7_isUnder 0 = .ok (.iload_n 1, 1) := by decide +kernel
theorem dX7_isUnder_1 : decode cX7_isUnder 1 = .ok (.ifCond .eq 28, 3) := by decide +kernel
theorem dX7_isUnder_4 : decode cX7_isUnder 4 = .ok (.iload_n 0, 1) := by decide +kernel
theorem dX7_isUnder_5 : decode cX7_isUnder 5 = .ok (.iload_n 1, 1) := by decide +kernel
theorem dX7_isUnder_6 : decode cX7_isUnder 6 = .ok (.if_icmp .eq 23, 3) := by decide +kernel
theorem dX7_isUnder_9 : decode cX7_isUnder 9 = .ok (.iload_n 1, 1) := by decide +kernel
theorem dX7_isUnder_10 : decode cX7_isUnder 10 = .ok (.iconst 1, 1) := by decide +kernel
theorem dX7_isUnder_11 : decode cX7_isUnder 11 = .ok (.if_icmp .ne 8, 3) := by decide +kernel
theorem dX7_isUnder_14 : decode cX7_isUnder 14 = .ok (.iload_n 0, 1) := by decide +kernel
theorem dX7_isUnder_15 : decode cX7_isUnder 15 = .ok (.iconst 3, 1) := by decide +kernel
theorem dX7_isUnder_16 : decode cX7_isUnder 16 = .ok (.if_icmp .eq 13, 3) := by decide +kernel
theorem dX7_isUnder_19 : decode cX7_isUnder 19 = .ok (.iload_n 1, 1) := by decide +kernel
theorem dX7_isUnder_20 : decode cX7_isUnder 20 = .ok (.iconst 2, 1) := by decide +kernel
theorem dX7_isUnder_21 : decode cX7_isUnder 21 = .ok (.if_icmp .ne 12, 3) := by decide +kernel
theorem dX7_isUnder_24 : decode cX7_isUnder 24 = .ok (.iload_n 0, 1) := by decide +kernel
theorem dX7_isUnder_25 : decode cX7_isUnder 25 = .ok (.iconst 4, 1) := by decide +kernel
theorem dX7_isUnder_26 : decode cX7_isUnder 26 = .ok (.if_icmp .ne 7, 3) := by decide +kernel
theorem dX7_isUnder_29 : decode cX7_isUnder 29 = .ok (.iconst 1, 1) := by decide +kernel
theorem dX7_isUnder_30 : decode cX7_isUnder 30 = .ok (.goto 4, 3) := by decide +kernel
theorem dX7_isUnder_33 : decode cX7_isUnder 33 = .ok (.iconst 0, 1) := by decide +kernel
theorem dX7_isUnder_34 : decode cX7_isUnder 34 = .ok (.ireturn, 1) := by decide +kernel
theorem dX7_as_0 : decode cX7_as 0 = .ok (.aload_n 0, 1) := by decide +kernel
theorem dX7_as_1 : decode cX7_as 1 = .ok (.iload_n 1, 1) := by decide +kernel
theorem dX7_as_2 : decode cX7_as 2 = .ok (.invokevirtual 92, 3) := by decide +kernel
theorem dX7_as_5 : decode cX7_as 5 = .ok (.ifCond .eq 12, 3) := by decide +kernel
theorem dX7_as_8 : decode cX7_as 8 = .ok (.iload_n 2, 1) := by decide +kernel
theorem dX7_as_9 : decode cX7_as 9 = .ok (.iconst 0, 1) := by decide +kernel
theorem dX7_as_10 : decode cX7_as 10 = .ok (.iconst 5, 1) := by decide +kernel
theorem dX7_as_11 : decode cX7_as 11 = .ok (.invokestatic 78, 3) := by decide +kernel
theorem dX7_as_14 : decode cX7_as 14 = .ok (.ifCond .ne 6, 3) := by decide +kernel
theorem dX7_as_17 : decode cX7_as 17 = .ok (.ldc 86, 2) := by decide +kernel
theorem dX7_as_19 : decode cX7_as 19 = .ok (.ireturn, 1) := by decide +kernel
theorem dX7_as_20 : decode cX7_as 20 = .ok (.aload_n 0, 1) := by decide +kernel
theorem dX7_as_21 : decode cX7_as 21 = .ok (.iload_n 1, 1) := by decide +kernel
theorem dX7_as_22 : decode cX7_as 22 = .ok (.iconst 0, 1) := by decide +kernel
theorem dX7_as_23 : decode cX7_as 23 = .ok (.invokevirtual 88, 3) := by decide +kernel
theorem dX7_as_26 : decode cX7_as 26 = .ok (.iload_n 2, 1) := by decide +kernel
theorem dX7_as_27 : decode cX7_as 27 = .ok (.invokestatic 103, 3) := by decide +kernel
theorem dX7_as_30 : decode cX7_as 30 = .ok (.ifCond .eq 12, 3) := by decide +kernel
theorem dX7_as_33 : decode cX7_as 33 = .ok (.aload_n 0, 1) := by decide +kernel
theorem dX7_as_34 : decode cX7_as 34 = .ok (.iload_n 1, 1) := by decide +kernel
theorem dX7_as_35 : decode cX7_as 35 = .ok (.iconst 2, 1) := by decide +kernel
theorem dX7_as_36 : decode cX7_as 36 = .ok (.invokevirtual 88, 3) := by decide +kernel
theorem dX7_as_39 : decode cX7_as 39 = .ok (.goto 5, 3) := by decide +kernel
theorem dX7_as_42 : decode cX7_as 42 = .ok (.ldc 106, 2) := by decide +kernel
theorem dX7_as_44 : decode cX7_as 44 = .ok (.ireturn, 1) := by decide +kernel
theorem dX7_turns_0 : decode cX7_turns 0 = .ok (.aload_n 0, 1) := by decide +kernel
theorem dX7_turns_1 : decode cX7_turns 1 = .ok (.iload_n 1, 1) := by decide +kernel
theorem dX7_turns_2 : decode cX7_turns 2 = .ok (.invokevirtual 92, 3) := by decide +kernel
theorem dX7_turns_5 : decode cX7_turns 5 = .ok (.ifCond .eq 27, 3) := by decide +kernel
theorem dX7_turns_8 : decode cX7_turns 8 = .ok (.iload_n 2, 1) := by decide +kernel
theorem dX7_turns_9 : decode cX7_turns 9 = .ok (.iconst 0, 1) := by decide +kernel
theorem dX7_turns_10 : decode cX7_turns 10 = .ok (.iconst 5, 1) := by decide +kernel
theorem dX7_turns_11 : decode cX7_turns 11 = .ok (.invokestatic 78, 3) := by decide +kernel
theorem dX7_turns_14 : decode cX7_turns 14 = .ok (.ifCond .eq 18, 3) := by decide +kernel
theorem dX7_turns_17 : decode cX7_turns 17 = .ok (.aload_n 0, 1) := by decide +kernel
theorem dX7_turns_18 : decode cX7_turns 18 = .ok (.bipush 29, 2) := by decide +kernel
theorem dX7_turns_20 : decode cX7_turns 20 = .ok (.bipush 7, 2) := by decide +kernel
theorem dX7_turns_22 : decode cX7_turns 22 = .ok (.iload_n 1, 1) := by decide +kernel
theorem dX7_turns_23 : decode cX7_turns 23 = .ok (.imul, 1) := by decide +kernel
theorem dX7_turns_24 : decode cX7_turns 24 = .ok (.iadd, 1) := by decide +kernel
theorem dX7_turns_25 : decode cX7_turns 25 = .ok (.iload_n 2, 1) := by decide +kernel
theorem dX7_turns_26 : decode cX7_turns 26 = .ok (.invokevirtual 107, 3) := by decide +kernel
theorem dX7_turns_29 : decode cX7_turns 29 = .ok (.goto 5, 3) := by decide +kernel
theorem dX7_turns_32 : decode cX7_turns 32 = .ok (.ldc 86, 2) := by decide +kernel
theorem dX7_turns_34 : decode cX7_turns 34 = .ok (.ireturn, 1) := by decide +kernel
theorem dX7_set_0 : decode cX7_set 0 = .ok (.aload_n 0, 1) := by decide +kernel
theorem dX7_set_1 : decode cX7_set 1 = .ok (.iload_n 1, 1) := by decide +kernel
theorem dX7_set_2 : decode cX7_set 2 = .ok (.invokevirtual 92, 3) := by decide +kernel
theorem dX7_set_5 : decode cX7_set 5 = .ok (.ifCond .eq 37, 3) := by decide +kernel
theorem dX7_set_8 : decode cX7_set 8 = .ok (.iload_n 2, 1) := by decide +kernel
theorem dX7_set_9 : decode cX7_set 9 = .ok (.iconst 1, 1) := by decide +kernel
theorem dX7_set_10 : decode cX7_set 10 = .ok (.iconst 4, 1) := by decide +kernel
theorem dX7_set_11 : decode cX7_set 11 = .ok (.invokestatic 78, 3) := by decide +kernel
theorem dX7_set_14 : decode cX7_set 14 = .ok (.ifCond .eq 28, 3) := by decide +kernel
theorem dX7_set_17 : decode cX7_set 17 = .ok (.iload_n 2, 1) := by decide +kernel
theorem dX7_set_18 : decode cX7_set 18 = .ok (.iload_n 3, 1) := by decide +kernel
theorem dX7_set_19 : decode cX7_set 19 = .ok (.invokestatic 82, 3) := by decide +kernel
theorem dX7_set_22 : decode cX7_set 22 = .ok (.ifCond .eq 20, 3) := by decide +kernel
theorem dX7_set_25 : decode cX7_set 25 = .ok (.aload_n 0, 1) := by decide +kernel
theorem dX7_set_26 : decode cX7_set 26 = .ok (.bipush 29, 2) := by decide +kernel
theorem dX7_set_28 : decode cX7_set 28 = .ok (.bipush 7, 2) := by decide +kernel
theorem dX7_set_30 : decode cX7_set 30 = .ok (.iload_n 1, 1) := by decide +kernel
theorem dX7_set_31 : decode cX7_set 31 = .ok (.imul, 1) := by decide +kernel
theorem dX7_set_32 : decode cX7_set 32 = .ok (.iadd, 1) := by decide +kernel
theorem dX7_set_33 : decode cX7_set 33 = .ok (.iload_n 2, 1) := by decide +kernel
theorem dX7_set_34 : decode cX7_set 34 = .ok (.iadd, 1) := by decide +kernel
theorem dX7_set_35 : decode cX7_set 35 = .ok (.iload_n 3, 1) := by decide +kernel
theorem dX7_set_36 : decode cX7_set 36 = .ok (.invokevirtual 107, 3) := by decide +kernel
theorem dX7_set_39 : decode cX7_set 39 = .ok (.goto 5, 3) := by decide +kernel
theorem dX7_set_42 : decode cX7_set 42 = .ok (.ldc 86, 2) := by decide +kernel
theorem dX7_set_44 : decode cX7_set 44 = .ok (.ireturn, 1) := by decide +kernel
theorem dX7_wind_0 : decode cX7_wind 0 = .ok (.iload_n 1, 1) := by decide +kernel
theorem dX7_wind_1 : decode cX7_wind 1 = .ok (.invokestatic 110, 3) := by decide +kernel
theorem dX7_wind_4 : decode cX7_wind 4 = .ok (.ifCond .eq 21, 3) := by decide +kernel
theorem dX7_wind_7 : decode cX7_wind 7 = .ok (.iload_n 2, 1) := by decide +kernel
theorem dX7_wind_8 : decode cX7_wind 8 = .ok (.invokestatic 113, 3) := by decide +kernel
theorem dX7_wind_11 : decode cX7_wind 11 = .ok (.ifCond .eq 14, 3) := by decide +kernel
theorem dX7_wind_14 : decode cX7_wind 14 = .ok (.aload_n 0, 1) := by decide +kernel
theorem dX7_wind_15 : decode cX7_wind 15 = .ok (.iconst 5, 1) := by decide +kernel
theorem dX7_wind_16 : decode cX7_wind 16 = .ok (.iload_n 1, 1) := by decide +kernel
theorem dX7_wind_17 : decode cX7_wind 17 = .ok (.iadd, 1) := by decide +kernel
theorem dX7_wind_18 : decode cX7_wind 18 = .ok (.iload_n 2, 1) := by decide +kernel
theorem dX7_wind_19 : decode cX7_wind 19 = .ok (.invokevirtual 107, 3) := by decide +kernel
theorem dX7_wind_22 : decode cX7_wind 22 = .ok (.goto 5, 3) := by decide +kernel
theorem dX7_wind_25 : decode cX7_wind 25 = .ok (.ldc 86, 2) := by decide +kernel
theorem dX7_wind_27 : decode cX7_wind 27 = .ok (.ireturn, 1) := by decide +kernel
theorem dX7_windAt_0 : decode cX7_windAt 0 = .ok (.iload_n 1, 1) := by decide +kernel
theorem dX7_windAt_1 : decode cX7_windAt 1 = .ok (.invokestatic 110, 3) := by decide +kernel
theorem dX7_windAt_4 : decode cX7_windAt 4 = .ok (.ifCond .eq 14, 3) := by decide +kernel
theorem dX7_windAt_7 : decode cX7_windAt 7 = .ok (.aload_n 0, 1) := by decide +kernel
theorem dX7_windAt_8 : decode cX7_windAt 8 = .ok (.getfield 9, 3) := by decide +kernel
theorem dX7_windAt_11 : decode cX7_windAt 11 = .ok (.iconst 5, 1) := by decide +kernel
theorem dX7_windAt_12 : decode cX7_windAt 12 = .ok (.iload_n 1, 1) := by decide +kernel
theorem dX7_windAt_13 : decode cX7_windAt 13 = .ok (.iadd, 1) := by decide +kernel
theorem dX7_windAt_14 : decode cX7_windAt 14 = .ok (.iaload, 1) := by decide +kernel
theorem dX7_windAt_15 : decode cX7_windAt 15 = .ok (.goto 5, 3) := by decide +kernel
theorem dX7_windAt_18 : decode cX7_windAt 18 = .ok (.ldc 86, 2) := by decide +kernel
theorem dX7_windAt_20 : decode cX7_windAt 20 = .ok (.ireturn, 1) := by decide +kernel
theorem dX7_limit_0 : decode cX7_limit 0 = .ok (.iload_n 1, 1) := by decide +kernel
theorem dX7_limit_1 : decode cX7_limit 1 = .ok (.iconst 0, 1) := by decide +kernel
theorem dX7_limit_2 : decode cX7_limit 2 = .ok (.sipush 9999, 3) := by decide +kernel
theorem dX7_limit_5 : decode cX7_limit 5 = .ok (.invokestatic 78, 3) := by decide +kernel
theorem dX7_limit_8 : decode cX7_limit 8 = .ok (.ifCond .eq 12, 3) := by decide +kernel
theorem dX7_limit_11 : decode cX7_limit 11 = .ok (.aload_n 0, 1) := by decide +kernel
theorem dX7_limit_12 : decode cX7_limit 12 = .ok (.iconst 3, 1) := by decide +kernel
theorem dX7_limit_13 : decode cX7_limit 13 = .ok (.iload_n 1, 1) := by decide +kernel
theorem dX7_limit_14 : decode cX7_limit 14 = .ok (.invokevirtual 107, 3) := by decide +kernel
theorem dX7_limit_17 : decode cX7_limit 17 = .ok (.goto 5, 3) := by decide +kernel
theorem dX7_limit_20 : decode cX7_limit 20 = .ok (.ldc 86, 2) := by decide +kernel
theorem dX7_limit_22 : decode cX7_limit 22 = .ok (.ireturn, 1) := by decide +kernel
theorem dX7_draw_0 : decode cX7_draw 0 = .ok (.aload_n 0, 1) := by decide +kernel
theorem dX7_draw_1 : decode cX7_draw 1 = .ok (.getfield 9, 3) := by decide +kernel
theorem dX7_draw_4 : decode cX7_draw 4 = .ok (.iconst 0, 1) := by decide +kernel
theorem dX7_draw_5 : decode cX7_draw 5 = .ok (.aload_n 0, 1) := by decide +kernel
theorem dX7_draw_6 : decode cX7_draw 6 = .ok (.getfield 9, 3) := by decide +kernel
theorem dX7_draw_9 : decode cX7_draw 9 = .ok (.iconst 0, 1) := by decide +kernel
theorem dX7_draw_10 : decode cX7_draw 10 = .ok (.iaload, 1) := by decide +kernel
theorem dX7_draw_11 : decode cX7_draw 11 = .ok (.ldc 116, 2) := by decide +kernel
theorem dX7_draw_13 : decode cX7_draw 13 = .ok (.imul, 1) := by decide +kernel
theorem dX7_draw_14 : decode cX7_draw 14 = .ok (.sipush 12345, 3) := by decide +kernel
theorem dX7_draw_17 : decode cX7_draw 17 = .ok (.iadd, 1) := by decide +kernel
theorem dX7_draw_18 : decode cX7_draw 18 = .ok (.iastore, 1) := by decide +kernel
theorem dX7_draw_19 : decode cX7_draw 19 = .ok (.aload_n 0, 1) := by decide +kernel
theorem dX7_draw_20 : decode cX7_draw 20 = .ok (.getfield 9, 3) := by decide +kernel
theorem dX7_draw_23 : decode cX7_draw 23 = .ok (.iconst 0, 1) := by decide +kernel
theorem dX7_draw_24 : decode cX7_draw 24 = .ok (.iaload, 1) := by decide +kernel
theorem dX7_draw_25 : decode cX7_draw 25 = .ok (.bipush 8, 2) := by decide +kernel
theorem dX7_draw_27 : decode cX7_draw 27 = .ok (.iushr, 1) := by decide +kernel
theorem dX7_draw_28 : decode cX7_draw 28 = .ok (.ireturn, 1) := by decide +kernel
theorem dX7_deal_0 : decode cX7_deal 0 = .ok (.iload_n 1, 1) := by decide +kernel
theorem dX7_deal_1 : decode cX7_deal 1 = .ok (.invokestatic 110, 3) := by decide +kernel
theorem dX7_deal_4 : decode cX7_deal 4 = .ok (.ifCond .eq 13, 3) := by decide +kernel
theorem dX7_deal_7 : decode cX7_deal 7 = .ok (.iload_n 2, 1) := by decide +kernel
theorem dX7_deal_8 : decode cX7_deal 8 = .ok (.iconst 1, 1) := by decide +kernel
theorem dX7_deal_9 : decode cX7_deal 9 = .ok (.bipush 24, 2) := by decide +kernel
theorem dX7_deal_11 : decode cX7_deal 11 = .ok (.invokestatic 78, 3) := by decide +kernel
theorem dX7_deal_14 : decode cX7_deal 14 = .ok (.ifCond .ne 6, 3) := by decide +kernel
theorem dX7_deal_17 : decode cX7_deal 17 = .ok (.ldc 86, 2) := by decide +kernel
theorem dX7_deal_19 : decode cX7_deal 19 = .ok (.ireturn, 1) := by decide +kernel
theorem dX7_deal_20 : decode cX7_deal 20 = .ok (.iconst 0, 1) := by decide +kernel
theorem dX7_deal_21 : decode cX7_deal 21 = .ok (.istore_n 3, 1) := by decide +kernel
theorem dX7_deal_22 : decode cX7_deal 22 = .ok (.iconst 0, 1) := by decide +kernel
theorem dX7_deal_23 : decode cX7_deal 23 = .ok (.istore 4, 2) := by decide +kernel
theorem dX7_deal_25 : decode cX7_deal 25 = .ok (.iload 4, 2) := by decide +kernel
theorem dX7_deal_27 : decode cX7_deal 27 = .ok (.iload_n 2, 1) := by decide +kernel
theorem dX7_deal_28 : decode cX7_deal 28 = .ok (.if_icmp .ge 62, 3) := by decide +kernel
theorem dX7_deal_31 : decode cX7_deal 31 = .ok (.iload_n 1, 1) := by decide +kernel
theorem dX7_deal_32 : decode cX7_deal 32 = .ok (.iload 4, 2) := by decide +kernel
theorem dX7_deal_34 : decode cX7_deal 34 = .ok (.iadd, 1) := by decide +kernel
theorem dX7_deal_35 : decode cX7_deal 35 = .ok (.bipush 24, 2) := by decide +kernel
theorem dX7_deal_37 : decode cX7_deal 37 = .ok (.irem, 1) := by decide +kernel
theorem dX7_deal_38 : decode cX7_deal 38 = .ok (.istore 5, 2) := by decide +kernel
theorem dX7_deal_40 : decode cX7_deal 40 = .ok (.aload_n 0, 1) := by decide +kernel
theorem dX7_deal_41 : decode cX7_deal 41 = .ok (.getfield 9, 3) := by decide +kernel
theorem dX7_deal_44 : decode cX7_deal 44 = .ok (.iconst 5, 1) := by decide +kernel
theorem dX7_deal_45 : decode cX7_deal 45 = .ok (.iload 5, 2) := by decide +kernel
theorem dX7_deal_47 : decode cX7_deal 47 = .ok (.bipush 24, 2) := by decide +kernel
theorem dX7_deal_49 : decode cX7_deal 49 = .ok (.iadd, 1) := by decide +kernel
theorem dX7_deal_50 : decode cX7_deal 50 = .ok (.iconst 1, 1) := by decide +kernel
theorem dX7_deal_51 : decode cX7_deal 51 = .ok (.isub, 1) := by decide +kernel
theorem dX7_deal_52 : decode cX7_deal 52 = .ok (.bipush 24, 2) := by decide +kernel
theorem dX7_deal_54 : decode cX7_deal 54 = .ok (.irem, 1) := by decide +kernel
theorem dX7_deal_55 : decode cX7_deal 55 = .ok (.iadd, 1) := by decide +kernel
theorem dX7_deal_56 : decode cX7_deal 56 = .ok (.iaload, 1) := by decide +kernel
theorem dX7_deal_57 : decode cX7_deal 57 = .ok (.aload_n 0, 1) := by decide +kernel
theorem dX7_deal_58 : decode cX7_deal 58 = .ok (.invokevirtual 117, 3) := by decide +kernel
theorem dX7_deal_61 : decode cX7_deal 61 = .ok (.bipush 11, 2) := by decide +kernel
theorem dX7_deal_63 : decode cX7_deal 63 = .ok (.irem, 1) := by decide +kernel
theorem dX7_deal_64 : decode cX7_deal 64 = .ok (.iadd, 1) := by decide +kernel
theorem dX7_deal_65 : decode cX7_deal 65 = .ok (.iconst 5, 1) := by decide +kernel
theorem dX7_deal_66 : decode cX7_deal 66 = .ok (.isub, 1) := by decide +kernel
theorem dX7_deal_67 : decode cX7_deal 67 = .ok (.iconst 0, 1) := by decide +kernel
theorem dX7_deal_68 : decode cX7_deal 68 = .ok (.bipush 99, 2) := by decide +kernel
theorem dX7_deal_70 : decode cX7_deal 70 = .ok (.invokestatic 121, 3) := by decide +kernel
theorem dX7_deal_73 : decode cX7_deal 73 = .ok (.istore_n 3, 1) := by decide +kernel
theorem dX7_deal_74 : decode cX7_deal 74 = .ok (.aload_n 0, 1) := by decide +kernel
theorem dX7_deal_75 : decode cX7_deal 75 = .ok (.getfield 9, 3) := by decide +kernel
theorem dX7_deal_78 : decode cX7_deal 78 = .ok (.iconst 5, 1) := by decide +kernel
theorem dX7_deal_79 : decode cX7_deal 79 = .ok (.iload 5, 2) := by decide +kernel
theorem dX7_deal_81 : decode cX7_deal 81 = .ok (.iadd, 1) := by decide +kernel
theorem dX7_deal_82 : decode cX7_deal 82 = .ok (.iload_n 3, 1) := by decide +kernel
theorem dX7_deal_83 : decode cX7_deal 83 = .ok (.iastore, 1) := by decide +kernel
theorem dX7_deal_84 : decode cX7_deal 84 = .ok (.iinc 4 1, 3) := by decide +kernel
theorem dX7_deal_87 : decode cX7_deal 87 = .ok (.goto (-62), 3) := by decide +kernel
theorem dX7_deal_90 : decode cX7_deal 90 = .ok (.iload_n 3, 1) := by decide +kernel
theorem dX7_deal_91 : decode cX7_deal 91 = .ok (.ireturn, 1) := by decide +kernel
theorem dX7_seed_0 : decode cX7_seed 0 = .ok (.aload_n 0, 1) := by decide +kernel
theorem dX7_seed_1 : decode cX7_seed 1 = .ok (.getfield 9, 3) := by decide +kernel
theorem dX7_seed_4 : decode cX7_seed 4 = .ok (.iconst 0, 1) := by decide +kernel
theorem dX7_seed_5 : decode cX7_seed 5 = .ok (.iaload, 1) := by decide +kernel
theorem dX7_seed_6 : decode cX7_seed 6 = .ok (.istore_n 2, 1) := by decide +kernel
theorem dX7_seed_7 : decode cX7_seed 7 = .ok (.aload_n 0, 1) := by decide +kernel
theorem dX7_seed_8 : decode cX7_seed 8 = .ok (.getfield 9, 3) := by decide +kernel
theorem dX7_seed_11 : decode cX7_seed 11 = .ok (.iconst 0, 1) := by decide +kernel
theorem dX7_seed_12 : decode cX7_seed 12 = .ok (.iload_n 1, 1) := by decide +kernel
theorem dX7_seed_13 : decode cX7_seed 13 = .ok (.iastore, 1) := by decide +kernel
theorem dX7_seed_14 : decode cX7_seed 14 = .ok (.iload_n 2, 1) := by decide +kernel
theorem dX7_seed_15 : decode cX7_seed 15 = .ok (.ireturn, 1) := by decide +kernel
theorem dX7_airOf_0 : decode cX7_airOf 0 = .ok (.aload_n 0, 1) := by decide +kernel
theorem dX7_airOf_1 : decode cX7_airOf 1 = .ok (.iload_n 1, 1) := by decide +kernel
theorem dX7_airOf_2 : decode cX7_airOf 2 = .ok (.iconst 0, 1) := by decide +kernel
theorem dX7_airOf_3 : decode cX7_airOf 3 = .ok (.invokevirtual 88, 3) := by decide +kernel
theorem dX7_airOf_6 : decode cX7_airOf 6 = .ok (.iconst 5, 1) := by decide +kernel
theorem dX7_airOf_7 : decode cX7_airOf 7 = .ok (.if_icmp .ne 9, 3) := by decide +kernel
theorem dX7_airOf_10 : decode cX7_airOf 10 = .ok (.iload_n 2, 1) := by decide +kernel
theorem dX7_airOf_11 : decode cX7_airOf 11 = .ok (.iconst 2, 1) := by decide +kernel
theorem dX7_airOf_12 : decode cX7_airOf 12 = .ok (.idiv, 1) := by decide +kernel
theorem dX7_airOf_13 : decode cX7_airOf 13 = .ok (.goto 4, 3) := by decide +kernel
theorem dX7_airOf_16 : decode cX7_airOf 16 = .ok (.iload_n 2, 1) := by decide +kernel
theorem dX7_airOf_17 : decode cX7_airOf 17 = .ok (.ireturn, 1) := by decide +kernel
theorem dX7_eddyOf_0 : decode cX7_eddyOf 0 = .ok (.bipush 20, 2) := by decide +kernel
theorem dX7_eddyOf_2 : decode cX7_eddyOf 2 = .ok (.aload_n 0, 1) := by decide +kernel
theorem dX7_eddyOf_3 : decode cX7_eddyOf 3 = .ok (.iload_n 1, 1) := by decide +kernel
theorem dX7_eddyOf_4 : decode cX7_eddyOf 4 = .ok (.iload_n 2, 1) := by decide +kernel
theorem dX7_eddyOf_5 : decode cX7_eddyOf 5 = .ok (.invokevirtual 125, 3) := by decide +kernel
theorem dX7_eddyOf_8 : decode cX7_eddyOf 8 = .ok (.imul, 1) := by decide +kernel
theorem dX7_eddyOf_9 : decode cX7_eddyOf 9 = .ok (.aload_n 0, 1) := by decide +kernel
theorem dX7_eddyOf_10 : decode cX7_eddyOf 10 = .ok (.iload_n 1, 1) := by decide +kernel
theorem dX7_eddyOf_11 : decode cX7_eddyOf 11 = .ok (.iconst 1, 1) := by decide +kernel
theorem dX7_eddyOf_12 : decode cX7_eddyOf 12 = .ok (.invokevirtual 88, 3) := by decide +kernel
theorem dX7_eddyOf_15 : decode cX7_eddyOf 15 = .ok (.idiv, 1) := by decide +kernel
theorem dX7_eddyOf_16 : decode cX7_eddyOf 16 = .ok (.ireturn, 1) := by decide +kernel
theorem dX7_offOf_0 : decode cX7_offOf 0 = .ok (.aload_n 0, 1) := by decide +kernel
theorem dX7_offOf_1 : decode cX7_offOf 1 = .ok (.iload_n 1, 1) := by decide +kernel
theorem dX7_offOf_2 : decode cX7_offOf 2 = .ok (.iload_n 2, 1) := by decide +kernel
theorem dX7_offOf_3 : decode cX7_offOf 3 = .ok (.invokevirtual 128, 3) := by decide +kernel
theorem dX7_offOf_6 : decode cX7_offOf 6 = .ok (.aload_n 0, 1) := by decide +kernel
theorem dX7_offOf_7 : decode cX7_offOf 7 = .ok (.iload_n 1, 1) := by decide +kernel
theorem dX7_offOf_8 : decode cX7_offOf 8 = .ok (.iconst 2, 1) := by decide +kernel
theorem dX7_offOf_9 : decode cX7_offOf 9 = .ok (.invokevirtual 88, 3) := by decide +kernel
theorem dX7_offOf_12 : decode cX7_offOf 12 = .ok (.isub, 1) := by decide +kernel
theorem dX7_offOf_13 : decode cX7_offOf 13 = .ok (.istore_n 3, 1) := by decide +kernel
theorem dX7_offOf_14 : decode cX7_offOf 14 = .ok (.iload_n 3, 1) := by decide +kernel
theorem dX7_offOf_15 : decode cX7_offOf 15 = .ok (.ifCond .ge 8, 3) := by decide +kernel
theorem dX7_offOf_18 : decode cX7_offOf 18 = .ok (.iload_n 3, 1) := by decide +kernel
theorem dX7_offOf_19 : decode cX7_offOf 19 = .ok (.ineg, 1) := by decide +kernel
theorem dX7_offOf_20 : decode cX7_offOf 20 = .ok (.goto 4, 3) := by decide +kernel
theorem dX7_offOf_23 : decode cX7_offOf 23 = .ok (.iload_n 3, 1) := by decide +kernel
theorem dX7_offOf_24 : decode cX7_offOf 24 = .ok (.ireturn, 1) := by decide +kernel
theorem dX7_bandOf_0 : decode cX7_bandOf 0 = .ok (.aload_n 0, 1) := by decide +kernel
theorem dX7_bandOf_1 : decode cX7_bandOf 1 = .ok (.iconst 0, 1) := by decide +kernel
theorem dX7_bandOf_2 : decode cX7_bandOf 2 = .ok (.invokevirtual 131, 3) := by decide +kernel
theorem dX7_bandOf_5 : decode cX7_bandOf 5 = .ok (.istore_n 3, 1) := by decide +kernel
theorem dX7_bandOf_6 : decode cX7_bandOf 6 = .ok (.aload_n 0, 1) := by decide +kernel
theorem dX7_bandOf_7 : decode cX7_bandOf 7 = .ok (.getfield 48, 3) := by decide +kernel
theorem dX7_bandOf_10 : decode cX7_bandOf 10 = .ok (.iconst 0, 1) := by decide +kernel
theorem dX7_bandOf_11 : decode cX7_bandOf 11 = .ok (.aload_n 0, 1) := by decide +kernel
theorem dX7_bandOf_12 : decode cX7_bandOf 12 = .ok (.iload_n 1, 1) := by decide +kernel
theorem dX7_bandOf_13 : decode cX7_bandOf 13 = .ok (.iload_n 2, 1) := by decide +kernel
theorem dX7_bandOf_14 : decode cX7_bandOf 14 = .ok (.invokevirtual 128, 3) := by decide +kernel
theorem dX7_bandOf_17 : decode cX7_bandOf 17 = .ok (.iastore, 1) := by decide +kernel
theorem dX7_bandOf_18 : decode cX7_bandOf 18 = .ok (.aload_n 0, 1) := by decide +kernel
theorem dX7_bandOf_19 : decode cX7_bandOf 19 = .ok (.getfield 48, 3) := by decide +kernel
theorem dX7_bandOf_22 : decode cX7_bandOf 22 = .ok (.iconst 1, 1) := by decide +kernel
theorem dX7_bandOf_23 : decode cX7_bandOf 23 = .ok (.aload_n 0, 1) := by decide +kernel
theorem dX7_bandOf_24 : decode cX7_bandOf 24 = .ok (.iload_n 1, 1) := by decide +kernel
theorem dX7_bandOf_25 : decode cX7_bandOf 25 = .ok (.iconst 2, 1) := by decide +kernel
theorem dX7_bandOf_26 : decode cX7_bandOf 26 = .ok (.invokevirtual 88, 3) := by decide +kernel
theorem dX7_bandOf_29 : decode cX7_bandOf 29 = .ok (.iastore, 1) := by decide +kernel
theorem dX7_bandOf_30 : decode cX7_bandOf 30 = .ok (.aload_n 0, 1) := by decide +kernel
theorem dX7_bandOf_31 : decode cX7_bandOf 31 = .ok (.getfield 48, 3) := by decide +kernel
theorem dX7_bandOf_34 : decode cX7_bandOf 34 = .ok (.iconst 2, 1) := by decide +kernel
theorem dX7_bandOf_35 : decode cX7_bandOf 35 = .ok (.aload_n 0, 1) := by decide +kernel
theorem dX7_bandOf_36 : decode cX7_bandOf 36 = .ok (.iload_n 1, 1) := by decide +kernel
theorem dX7_bandOf_37 : decode cX7_bandOf 37 = .ok (.iconst 4, 1) := by decide +kernel
theorem dX7_bandOf_38 : decode cX7_bandOf 38 = .ok (.invokevirtual 88, 3) := by decide +kernel
theorem dX7_bandOf_41 : decode cX7_bandOf 41 = .ok (.iastore, 1) := by decide +kernel
theorem dX7_bandOf_42 : decode cX7_bandOf 42 = .ok (.iload_n 3, 1) := by decide +kernel
theorem dX7_bandOf_43 : decode cX7_bandOf 43 = .ok (.ifCond .ge 17, 3) := by decide +kernel
theorem dX7_bandOf_46 : decode cX7_bandOf 46 = .ok (.aload_n 0, 1) := by decide +kernel
theorem dX7_bandOf_47 : decode cX7_bandOf 47 = .ok (.iload_n 1, 1) := by decide +kernel
theorem dX7_bandOf_48 : decode cX7_bandOf 48 = .ok (.iconst 4, 1) := by decide +kernel
theorem dX7_bandOf_49 : decode cX7_bandOf 49 = .ok (.invokevirtual 88, 3) := by decide +kernel
theorem dX7_bandOf_52 : decode cX7_bandOf 52 = .ok (.bipush 20, 2) := by decide +kernel
theorem dX7_bandOf_54 : decode cX7_bandOf 54 = .ok (.idiv, 1) := by decide +kernel
theorem dX7_bandOf_55 : decode cX7_bandOf 55 = .ok (.iconst 4, 1) := by decide +kernel
theorem dX7_bandOf_56 : decode cX7_bandOf 56 = .ok (.iadd, 1) := by decide +kernel
theorem dX7_bandOf_57 : decode cX7_bandOf 57 = .ok (.goto 14, 3) := by decide +kernel
theorem dX7_bandOf_60 : decode cX7_bandOf 60 = .ok (.aload_n 0, 1) := by decide +kernel
theorem dX7_bandOf_61 : decode cX7_bandOf 61 = .ok (.iload_n 3, 1) := by decide +kernel
theorem dX7_bandOf_62 : decode cX7_bandOf 62 = .ok (.invokevirtual 134, 3) := by decide +kernel
theorem dX7_bandOf_65 : decode cX7_bandOf 65 = .ok (.iconst 0, 1) := by decide +kernel
theorem dX7_bandOf_66 : decode cX7_bandOf 66 = .ok (.bipush 99, 2) := by decide +kernel
theorem dX7_bandOf_68 : decode cX7_bandOf 68 = .ok (.invokestatic 121, 3) := by decide +kernel
theorem dX7_bandOf_71 : decode cX7_bandOf 71 = .ok (.istore 4, 2) := by decide +kernel
theorem dX7_bandOf_73 : decode cX7_bandOf 73 = .ok (.aload_n 0, 1) := by decide +kernel
theorem dX7_bandOf_74 : decode cX7_bandOf 74 = .ok (.iload_n 1, 1) := by decide +kernel
theorem dX7_bandOf_75 : decode cX7_bandOf 75 = .ok (.iconst 0, 1) := by decide +kernel
theorem dX7_bandOf_76 : decode cX7_bandOf 76 = .ok (.invokevirtual 88, 3) := by decide +kernel
theorem dX7_bandOf_79 : decode cX7_bandOf 79 = .ok (.istore 5, 2) := by decide +kernel
theorem dX7_bandOf_81 : decode cX7_bandOf 81 = .ok (.iload 5, 2) := by decide +kernel
theorem dX7_bandOf_83 : decode cX7_bandOf 83 = .ok (.iconst 2, 1) := by decide +kernel
theorem dX7_bandOf_84 : decode cX7_bandOf 84 = .ok (.if_icmp .ne 10, 3) := by decide +kernel
theorem dX7_bandOf_87 : decode cX7_bandOf 87 = .ok (.iload 4, 2) := by decide +kernel
theorem dX7_bandOf_89 : decode cX7_bandOf 89 = .ok (.iconst 2, 1) := by decide +kernel
theorem dX7_bandOf_90 : decode cX7_bandOf 90 = .ok (.idiv, 1) := by decide +kernel
theorem dX7_bandOf_91 : decode cX7_bandOf 91 = .ok (.goto 27, 3) := by decide +kernel
theorem dX7_bandOf_94 : decode cX7_bandOf 94 = .ok (.iload 5, 2) := by decide +kernel
theorem dX7_bandOf_96 : decode cX7_bandOf 96 = .ok (.iconst 4, 1) := by decide +kernel
theorem dX7_bandOf_97 : decode cX7_bandOf 97 = .ok (.if_icmp .ne 19, 3) := by decide +kernel
theorem dX7_bandOf_100 : decode cX7_bandOf 100 = .ok (.iload 4, 2) := by decide +kernel
theorem dX7_bandOf_102 : decode cX7_bandOf 102 = .ok (.iconst 2, 1) := by decide +kernel
theorem dX7_bandOf_103 : decode cX7_bandOf 103 = .ok (.idiv, 1) := by decide +kernel
theorem dX7_bandOf_104 : decode cX7_bandOf 104 = .ok (.iconst 2, 1) := by decide +kernel
theorem dX7_bandOf_105 : decode cX7_bandOf 105 = .ok (.isub, 1) := by decide +kernel
theorem dX7_bandOf_106 : decode cX7_bandOf 106 = .ok (.iconst 0, 1) := by decide +kernel
theorem dX7_bandOf_107 : decode cX7_bandOf 107 = .ok (.sipush 9999, 3) := by decide +kernel
theorem dX7_bandOf_110 : decode cX7_bandOf 110 = .ok (.invokestatic 121, 3) := by decide +kernel
theorem dX7_bandOf_113 : decode cX7_bandOf 113 = .ok (.goto 5, 3) := by decide +kernel
theorem dX7_bandOf_116 : decode cX7_bandOf 116 = .ok (.iload 4, 2) := by decide +kernel
theorem dX7_bandOf_118 : decode cX7_bandOf 118 = .ok (.ireturn, 1) := by decide +kernel
theorem dX7_growsOf_0 : decode cX7_growsOf 0 = .ok (.aload_n 0, 1) := by decide +kernel
theorem dX7_growsOf_1 : decode cX7_growsOf 1 = .ok (.iconst 1, 1) := by decide +kernel
theorem dX7_growsOf_2 : decode cX7_growsOf 2 = .ok (.invokevirtual 131, 3) := by decide +kernel
theorem dX7_growsOf_5 : decode cX7_growsOf 5 = .ok (.istore_n 3, 1) := by decide +kernel
theorem dX7_growsOf_6 : decode cX7_growsOf 6 = .ok (.aload_n 0, 1) := by decide +kernel
theorem dX7_growsOf_7 : decode cX7_growsOf 7 = .ok (.getfield 48, 3) := by decide +kernel
theorem dX7_growsOf_10 : decode cX7_growsOf 10 = .ok (.iconst 0, 1) := by decide +kernel
theorem dX7_growsOf_11 : decode cX7_growsOf 11 = .ok (.aload_n 0, 1) := by decide +kernel
theorem dX7_growsOf_12 : decode cX7_growsOf 12 = .ok (.iload_n 1, 1) := by decide +kernel
theorem dX7_growsOf_13 : decode cX7_growsOf 13 = .ok (.iload_n 2, 1) := by decide +kernel
theorem dX7_growsOf_14 : decode cX7_growsOf 14 = .ok (.invokevirtual 125, 3) := by decide +kernel
theorem dX7_growsOf_17 : decode cX7_growsOf 17 = .ok (.iastore, 1) := by decide +kernel
theorem dX7_growsOf_18 : decode cX7_growsOf 18 = .ok (.aload_n 0, 1) := by decide +kernel
theorem dX7_growsOf_19 : decode cX7_growsOf 19 = .ok (.getfield 48, 3) := by decide +kernel
theorem dX7_growsOf_22 : decode cX7_growsOf 22 = .ok (.iconst 1, 1) := by decide +kernel
theorem dX7_growsOf_23 : decode cX7_growsOf 23 = .ok (.aload_n 0, 1) := by decide +kernel
theorem dX7_growsOf_24 : decode cX7_growsOf 24 = .ok (.iload_n 1, 1) := by decide +kernel
theorem dX7_growsOf_25 : decode cX7_growsOf 25 = .ok (.iconst 4, 1) := by decide +kernel
theorem dX7_growsOf_26 : decode cX7_growsOf 26 = .ok (.invokevirtual 88, 3) := by decide +kernel
theorem dX7_growsOf_29 : decode cX7_growsOf 29 = .ok (.iastore, 1) := by decide +kernel
theorem dX7_growsOf_30 : decode cX7_growsOf 30 = .ok (.iload_n 3, 1) := by decide +kernel
theorem dX7_growsOf_31 : decode cX7_growsOf 31 = .ok (.ifCond .ge 12, 3) := by decide +kernel
theorem dX7_growsOf_34 : decode cX7_growsOf 34 = .ok (.aload_n 0, 1) := by decide +kernel
theorem dX7_growsOf_35 : decode cX7_growsOf 35 = .ok (.iload_n 1, 1) := by decide +kernel
theorem dX7_growsOf_36 : decode cX7_growsOf 36 = .ok (.iload_n 2, 1) := by decide +kernel
theorem dX7_growsOf_37 : decode cX7_growsOf 37 = .ok (.invokevirtual 125, 3) := by decide +kernel
theorem dX7_growsOf_40 : decode cX7_growsOf 40 = .ok (.goto 15, 3) := by decide +kernel
theorem dX7_growsOf_43 : decode cX7_growsOf 43 = .ok (.aload_n 0, 1) := by decide +kernel
theorem dX7_growsOf_44 : decode cX7_growsOf 44 = .ok (.iload_n 3, 1) := by decide +kernel
theorem dX7_growsOf_45 : decode cX7_growsOf 45 = .ok (.invokevirtual 134, 3) := by decide +kernel
theorem dX7_growsOf_48 : decode cX7_growsOf 48 = .ok (.iconst 0, 1) := by decide +kernel
theorem dX7_growsOf_49 : decode cX7_growsOf 49 = .ok (.sipush 999, 3) := by decide +kernel
theorem dX7_growsOf_52 : decode cX7_growsOf 52 = .ok (.invokestatic 121, 3) := by decide +kernel
theorem dX7_growsOf_55 : decode cX7_growsOf 55 = .ok (.ireturn, 1) := by decide +kernel
theorem dX7_isHeldBy_0 : decode cX7_isHeldBy 0 = .ok (.aload_n 0, 1) := by decide +kernel
theorem dX7_isHeldBy_1 : decode cX7_isHeldBy 1 = .ok (.iload_n 1, 1) := by decide +kernel
theorem dX7_isHeldBy_2 : decode cX7_isHeldBy 2 = .ok (.iload_n 2, 1) := by decide +kernel
theorem dX7_isHeldBy_3 : decode cX7_isHeldBy 3 = .ok (.invokevirtual 137, 3) := by decide +kernel
theorem dX7_isHeldBy_6 : decode cX7_isHeldBy 6 = .ok (.aload_n 0, 1) := by decide +kernel
theorem dX7_isHeldBy_7 : decode cX7_isHeldBy 7 = .ok (.iload_n 1, 1) := by decide +kernel
theorem dX7_isHeldBy_8 : decode cX7_isHeldBy 8 = .ok (.iload_n 2, 1) := by decide +kernel
theorem dX7_isHeldBy_9 : decode cX7_isHeldBy 9 = .ok (.invokevirtual 140, 3) := by decide +kernel
theorem dX7_isHeldBy_12 : decode cX7_isHeldBy 12 = .ok (.aload_n 0, 1) := by decide +kernel
theorem dX7_isHeldBy_13 : decode cX7_isHeldBy 13 = .ok (.iload_n 1, 1) := by decide +kernel
theorem dX7_isHeldBy_14 : decode cX7_isHeldBy 14 = .ok (.iconst 5, 1) := by decide +kernel
theorem dX7_isHeldBy_15 : decode cX7_isHeldBy 15 = .ok (.invokevirtual 88, 3) := by decide +kernel
theorem dX7_isHeldBy_18 : decode cX7_isHeldBy 18 = .ok (.iconst 1, 1) := by decide +kernel
theorem dX7_isHeldBy_19 : decode cX7_isHeldBy 19 = .ok (.if_icmp .ne 7, 3) := by decide +kernel
theorem dX7_isHeldBy_22 : decode cX7_isHeldBy 22 = .ok (.iconst 2, 1) := by decide +kernel
theorem dX7_isHeldBy_23 : decode cX7_isHeldBy 23 = .ok (.goto 4, 3) := by decide +kernel
theorem dX7_isHeldBy_26 : decode cX7_isHeldBy 26 = .ok (.iconst 1, 1) := by decide +kernel
theorem dX7_isHeldBy_27 : decode cX7_isHeldBy 27 = .ok (.imul, 1) := by decide +kernel
theorem dX7_isHeldBy_28 : decode cX7_isHeldBy 28 = .ok (.if_icmp .gt 7, 3) := by decide +kernel
theorem dX7_isHeldBy_31 : decode cX7_isHeldBy 31 = .ok (.iconst 1, 1) := by decide +kernel
theorem dX7_isHeldBy_32 : decode cX7_isHeldBy 32 = .ok (.goto 4, 3) := by decide +kernel
theorem dX7_isHeldBy_35 : decode cX7_isHeldBy 35 = .ok (.iconst 0, 1) := by decide +kernel
theorem dX7_isHeldBy_36 : decode cX7_isHeldBy 36 = .ok (.ireturn, 1) := by decide +kernel
theorem dX7_ticks_0 : decode cX7_ticks 0 = .ok (.bipush 29, 2) := by decide +kernel
theorem dX7_ticks_2 : decode cX7_ticks 2 = .ok (.bipush 7, 2) := by decide +kernel
theorem dX7_ticks_4 : decode cX7_ticks 4 = .ok (.iload_n 1, 1) := by decide +kernel
theorem dX7_ticks_5 : decode cX7_ticks 5 = .ok (.imul, 1) := by decide +kernel
theorem dX7_ticks_6 : decode cX7_ticks 6 = .ok (.iadd, 1) := by decide +kernel
theorem dX7_ticks_7 : decode cX7_ticks 7 = .ok (.istore_n 3, 1) := by decide +kernel
theorem dX7_ticks_8 : decode cX7_ticks 8 = .ok (.aload_n 0, 1) := by decide +kernel
theorem dX7_ticks_9 : decode cX7_ticks 9 = .ok (.iload_n 1, 1) := by decide +kernel
theorem dX7_ticks_10 : decode cX7_ticks 10 = .ok (.iload_n 2, 1) := by decide +kernel
theorem dX7_ticks_11 : decode cX7_ticks 11 = .ok (.invokevirtual 143, 3) := by decide +kernel
theorem dX7_ticks_14 : decode cX7_ticks 14 = .ok (.istore 4, 2) := by decide +kernel
theorem dX7_ticks_16 : decode cX7_ticks 16 = .ok (.aload_n 0, 1) := by decide +kernel
theorem dX7_ticks_17 : decode cX7_ticks 17 = .ok (.iload_n 1, 1) := by decide +kernel
theorem dX7_ticks_18 : decode cX7_ticks 18 = .ok (.iconst 4, 1) := by decide +kernel
theorem dX7_ticks_19 : decode cX7_ticks 19 = .ok (.invokevirtual 88, 3) := by decide +kernel
theorem dX7_ticks_22 : decode cX7_ticks 22 = .ok (.iload 4, 2) := by decide +kernel
theorem dX7_ticks_24 : decode cX7_ticks 24 = .ok (.ifCond .eq 12, 3) := by decide +kernel
theorem dX7_ticks_27 : decode cX7_ticks 27 = .ok (.aload_n 0, 1) := by decide +kernel
theorem dX7_ticks_28 : decode cX7_ticks 28 = .ok (.iload_n 1, 1) := by decide +kernel
theorem dX7_ticks_29 : decode cX7_ticks 29 = .ok (.iload_n 2, 1) := by decide +kernel
theorem dX7_ticks_30 : decode cX7_ticks 30 = .ok (.invokevirtual 146, 3) := by decide +kernel
theorem dX7_ticks_33 : decode cX7_ticks 33 = .ok (.goto 4, 3) := by decide +kernel
theorem dX7_ticks_36 : decode cX7_ticks 36 = .ok (.iconst 0, 1) := by decide +kernel
theorem dX7_ticks_37 : decode cX7_ticks 37 = .ok (.iadd, 1) := by decide +kernel
theorem dX7_ticks_38 : decode cX7_ticks 38 = .ok (.istore 5, 2) := by decide +kernel
theorem dX7_ticks_40 : decode cX7_ticks 40 = .ok (.aload_n 0, 1) := by decide +kernel
theorem dX7_ticks_41 : decode cX7_ticks 41 = .ok (.getfield 9, 3) := by decide +kernel
theorem dX7_ticks_44 : decode cX7_ticks 44 = .ok (.iload_n 3, 1) := by decide +kernel
theorem dX7_ticks_45 : decode cX7_ticks 45 = .ok (.iconst 4, 1) := by decide +kernel
theorem dX7_ticks_46 : decode cX7_ticks 46 = .ok (.iadd, 1) := by decide +kernel
theorem dX7_ticks_47 : decode cX7_ticks 47 = .ok (.iload 5, 2) := by decide +kernel
theorem dX7_ticks_49 : decode cX7_ticks 49 = .ok (.iload 5, 2) := by decide +kernel
theorem dX7_ticks_51 : decode cX7_ticks 51 = .ok (.aload_n 0, 1) := by decide +kernel
theorem dX7_ticks_52 : decode cX7_ticks 52 = .ok (.iload_n 1, 1) := by decide +kernel
theorem dX7_ticks_53 : decode cX7_ticks 53 = .ok (.invokevirtual 96, 3) := by decide +kernel
theorem dX7_ticks_56 : decode cX7_ticks 56 = .ok (.imul, 1) := by decide +kernel
theorem dX7_ticks_57 : decode cX7_ticks 57 = .ok (.bipush 20, 2) := by decide +kernel
theorem dX7_ticks_59 : decode cX7_ticks 59 = .ok (.idiv, 1) := by decide +kernel
theorem dX7_ticks_60 : decode cX7_ticks 60 = .ok (.isub, 1) := by decide +kernel
theorem dX7_ticks_61 : decode cX7_ticks 61 = .ok (.iconst 0, 1) := by decide +kernel
theorem dX7_ticks_62 : decode cX7_ticks 62 = .ok (.sipush 9999, 3) := by decide +kernel
theorem dX7_ticks_65 : decode cX7_ticks 65 = .ok (.invokestatic 121, 3) := by decide +kernel
theorem dX7_ticks_68 : decode cX7_ticks 68 = .ok (.iastore, 1) := by decide +kernel
theorem dX7_ticks_69 : decode cX7_ticks 69 = .ok (.aload_n 0, 1) := by decide +kernel
theorem dX7_ticks_70 : decode cX7_ticks 70 = .ok (.getfield 9, 3) := by decide +kernel
theorem dX7_ticks_73 : decode cX7_ticks 73 = .ok (.iload_n 3, 1) := by decide +kernel
theorem dX7_ticks_74 : decode cX7_ticks 74 = .ok (.iconst 5, 1) := by decide +kernel
theorem dX7_ticks_75 : decode cX7_ticks 75 = .ok (.iadd, 1) := by decide +kernel
theorem dX7_ticks_76 : decode cX7_ticks 76 = .ok (.iload 4, 2) := by decide +kernel
theorem dX7_ticks_78 : decode cX7_ticks 78 = .ok (.ifCond .eq 7, 3) := by decide +kernel
theorem dX7_ticks_81 : decode cX7_ticks 81 = .ok (.iconst 1, 1) := by decide +kernel
theorem dX7_ticks_82 : decode cX7_ticks 82 = .ok (.goto 4, 3) := by decide +kernel
theorem dX7_ticks_85 : decode cX7_ticks 85 = .ok (.iconst 0, 1) := by decide +kernel
theorem dX7_ticks_86 : decode cX7_ticks 86 = .ok (.iastore, 1) := by decide +kernel
theorem dX7_ticks_87 : decode cX7_ticks 87 = .ok (.aload_n 0, 1) := by decide +kernel
theorem dX7_ticks_88 : decode cX7_ticks 88 = .ok (.iconst 2, 1) := by decide +kernel
theorem dX7_ticks_89 : decode cX7_ticks 89 = .ok (.invokevirtual 131, 3) := by decide +kernel
theorem dX7_ticks_92 : decode cX7_ticks 92 = .ok (.istore 6, 2) := by decide +kernel
theorem dX7_ticks_94 : decode cX7_ticks 94 = .ok (.aload_n 0, 1) := by decide +kernel
theorem dX7_ticks_95 : decode cX7_ticks 95 = .ok (.getfield 48, 3) := by decide +kernel
theorem dX7_ticks_98 : decode cX7_ticks 98 = .ok (.iconst 0, 1) := by decide +kernel
theorem dX7_ticks_99 : decode cX7_ticks 99 = .ok (.aload_n 0, 1) := by decide +kernel
theorem dX7_ticks_100 : decode cX7_ticks 100 = .ok (.iload_n 1, 1) := by decide +kernel
theorem dX7_ticks_101 : decode cX7_ticks 101 = .ok (.iconst 4, 1) := by decide +kernel
theorem dX7_ticks_102 : decode cX7_ticks 102 = .ok (.invokevirtual 88, 3) := by decide +kernel
theorem dX7_ticks_105 : decode cX7_ticks 105 = .ok (.iastore, 1) := by decide +kernel
theorem dX7_ticks_106 : decode cX7_ticks 106 = .ok (.aload_n 0, 1) := by decide +kernel
theorem dX7_ticks_107 : decode cX7_ticks 107 = .ok (.getfield 48, 3) := by decide +kernel
theorem dX7_ticks_110 : decode cX7_ticks 110 = .ok (.iconst 1, 1) := by decide +kernel
theorem dX7_ticks_111 : decode cX7_ticks 111 = .ok (.aload_n 0, 1) := by decide +kernel
theorem dX7_ticks_112 : decode cX7_ticks 112 = .ok (.getfield 9, 3) := by decide +kernel
theorem dX7_ticks_115 : decode cX7_ticks 115 = .ok (.iconst 3, 1) := by decide +kernel
theorem dX7_ticks_116 : decode cX7_ticks 116 = .ok (.iaload, 1) := by decide +kernel
theorem dX7_ticks_117 : decode cX7_ticks 117 = .ok (.iastore, 1) := by decide +kernel
theorem dX7_ticks_118 : decode cX7_ticks 118 = .ok (.aload_n 0, 1) := by decide +kernel
theorem dX7_ticks_119 : decode cX7_ticks 119 = .ok (.getfield 48, 3) := by decide +kernel
theorem dX7_ticks_122 : decode cX7_ticks 122 = .ok (.iconst 2, 1) := by decide +kernel
theorem dX7_ticks_123 : decode cX7_ticks 123 = .ok (.aload_n 0, 1) := by decide +kernel
theorem dX7_ticks_124 : decode cX7_ticks 124 = .ok (.getfield 9, 3) := by decide +kernel
theorem dX7_ticks_127 : decode cX7_ticks 127 = .ok (.iload_n 3, 1) := by decide +kernel
theorem dX7_ticks_128 : decode cX7_ticks 128 = .ok (.iconst 5, 1) := by decide +kernel
theorem dX7_ticks_129 : decode cX7_ticks 129 = .ok (.iadd, 1) := by decide +kernel
theorem dX7_ticks_130 : decode cX7_ticks 130 = .ok (.iaload, 1) := by decide +kernel
theorem dX7_ticks_131 : decode cX7_ticks 131 = .ok (.iastore, 1) := by decide +kernel
theorem dX7_ticks_132 : decode cX7_ticks 132 = .ok (.aload_n 0, 1) := by decide +kernel
theorem dX7_ticks_133 : decode cX7_ticks 133 = .ok (.getfield 9, 3) := by decide +kernel
theorem dX7_ticks_136 : decode cX7_ticks 136 = .ok (.iload_n 3, 1) := by decide +kernel
theorem dX7_ticks_137 : decode cX7_ticks 137 = .ok (.bipush 6, 2) := by decide +kernel
theorem dX7_ticks_139 : decode cX7_ticks 139 = .ok (.iadd, 1) := by decide +kernel
theorem dX7_ticks_140 : decode cX7_ticks 140 = .ok (.dup2, 1) := by decide +kernel
theorem dX7_ticks_141 : decode cX7_ticks 141 = .ok (.iaload, 1) := by decide +kernel
theorem dX7_ticks_142 : decode cX7_ticks 142 = .ok (.iload 6, 2) := by decide +kernel
theorem dX7_ticks_144 : decode cX7_ticks 144 = .ok (.ifCond .ge 26, 3) := by decide +kernel
theorem dX7_ticks_147 : decode cX7_ticks 147 = .ok (.aload_n 0, 1) := by decide +kernel
theorem dX7_ticks_148 : decode cX7_ticks 148 = .ok (.iload_n 1, 1) := by decide +kernel
theorem dX7_ticks_149 : decode cX7_ticks 149 = .ok (.iconst 4, 1) := by decide +kernel
theorem dX7_ticks_150 : decode cX7_ticks 150 = .ok (.invokevirtual 88, 3) := by decide +kernel
theorem dX7_ticks_153 : decode cX7_ticks 153 = .ok (.aload_n 0, 1) := by decide +kernel
theorem dX7_ticks_154 : decode cX7_ticks 154 = .ok (.getfield 9, 3) := by decide +kernel
theorem dX7_ticks_157 : decode cX7_ticks 157 = .ok (.iconst 3, 1) := by decide +kernel
theorem dX7_ticks_158 : decode cX7_ticks 158 = .ok (.iaload, 1) := by decide +kernel
theorem dX7_ticks_159 : decode cX7_ticks 159 = .ok (.isub, 1) := by decide +kernel
theorem dX7_ticks_160 : decode cX7_ticks 160 = .ok (.iconst 0, 1) := by decide +kernel
theorem dX7_ticks_161 : decode cX7_ticks 161 = .ok (.sipush 9999, 3) := by decide +kernel
theorem dX7_ticks_164 : decode cX7_ticks 164 = .ok (.invokestatic 121, 3) := by decide +kernel
theorem dX7_ticks_167 : decode cX7_ticks 167 = .ok (.goto 16, 3) := by decide +kernel
theorem dX7_ticks_170 : decode cX7_ticks 170 = .ok (.aload_n 0, 1) := by decide +kernel
theorem dX7_ticks_171 : decode cX7_ticks 171 = .ok (.iload 6, 2) := by decide +kernel
theorem dX7_ticks_173 : decode cX7_ticks 173 = .ok (.invokevirtual 134, 3) := by decide +kernel
theorem dX7_ticks_176 : decode cX7_ticks 176 = .ok (.iconst 0, 1) := by decide +kernel
theorem dX7_ticks_177 : decode cX7_ticks 177 = .ok (.sipush 999, 3) := by decide +kernel
theorem dX7_ticks_180 : decode cX7_ticks 180 = .ok (.invokestatic 121, 3) := by decide +kernel
theorem dX7_ticks_183 : decode cX7_ticks 183 = .ok (.iadd, 1) := by decide +kernel
theorem dX7_ticks_184 : decode cX7_ticks 184 = .ok (.iastore, 1) := by decide +kernel
theorem dX7_ticks_185 : decode cX7_ticks 185 = .ok (.iload 4, 2) := by decide +kernel
theorem dX7_ticks_187 : decode cX7_ticks 187 = .ok (.ifCond .eq 12, 3) := by decide +kernel
theorem dX7_ticks_190 : decode cX7_ticks 190 = .ok (.aload_n 0, 1) := by decide +kernel
theorem dX7_ticks_191 : decode cX7_ticks 191 = .ok (.iload_n 1, 1) := by decide +kernel
theorem dX7_ticks_192 : decode cX7_ticks 192 = .ok (.iconst 2, 1) := by decide +kernel
theorem dX7_ticks_193 : decode cX7_ticks 193 = .ok (.invokevirtual 88, 3) := by decide +kernel
theorem dX7_ticks_196 : decode cX7_ticks 196 = .ok (.goto 9, 3) := by decide +kernel
theorem dX7_ticks_199 : decode cX7_ticks 199 = .ok (.aload_n 0, 1) := by decide +kernel
theorem dX7_ticks_200 : decode cX7_ticks 200 = .ok (.iload_n 1, 1) := by decide +kernel
theorem dX7_ticks_201 : decode cX7_ticks 201 = .ok (.iload_n 2, 1) := by decide +kernel
theorem dX7_ticks_202 : decode cX7_ticks 202 = .ok (.invokevirtual 128, 3) := by decide +kernel
theorem dX7_ticks_205 : decode cX7_ticks 205 = .ok (.ireturn, 1) := by decide +kernel
theorem dX7_by_0 : decode cX7_by 0 = .ok (.aload_n 0, 1) := by decide +kernel
theorem dX7_by_1 : decode cX7_by 1 = .ok (.iload_n 1, 1) := by decide +kernel
theorem dX7_by_2 : decode cX7_by 2 = .ok (.invokevirtual 92, 3) := by decide +kernel
theorem dX7_by_5 : decode cX7_by 5 = .ok (.ifCond .eq 10, 3) := by decide +kernel
theorem dX7_by_8 : decode cX7_by 8 = .ok (.iload_n 2, 1) := by decide +kernel
theorem dX7_by_9 : decode cX7_by 9 = .ok (.invokestatic 113, 3) := by decide +kernel
theorem dX7_by_12 : decode cX7_by 12 = .ok (.ifCond .ne 6, 3) := by decide +kernel
theorem dX7_by_15 : decode cX7_by 15 = .ok (.ldc 86, 2) := by decide +kernel
theorem dX7_by_17 : decode cX7_by 17 = .ok (.ireturn, 1) := by decide +kernel
theorem dX7_by_18 : decode cX7_by 18 = .ok (.iload_n 3, 1) := by decide +kernel
theorem dX7_by_19 : decode cX7_by 19 = .ok (.tableswitch 97 0 5 #[37, 44, 51, 58, 65, 72], 37) := by decide +kernel
theorem dX7_by_56 : decode cX7_by 56 = .ok (.aload_n 0, 1) := by decide +kernel
theorem dX7_by_57 : decode cX7_by 57 = .ok (.iload_n 1, 1) := by decide +kernel
theorem dX7_by_58 : decode cX7_by 58 = .ok (.iload_n 2, 1) := by decide +kernel
theorem dX7_by_59 : decode cX7_by 59 = .ok (.invokevirtual 125, 3) := by decide +kernel
theorem dX7_by_62 : decode cX7_by 62 = .ok (.ireturn, 1) := by decide +kernel
theorem dX7_by_63 : decode cX7_by 63 = .ok (.aload_n 0, 1) := by decide +kernel
theorem dX7_by_64 : decode cX7_by 64 = .ok (.iload_n 1, 1) := by decide +kernel
theorem dX7_by_65 : decode cX7_by 65 = .ok (.iload_n 2, 1) := by decide +kernel
theorem dX7_by_66 : decode cX7_by 66 = .ok (.invokevirtual 128, 3) := by decide +kernel
theorem dX7_by_69 : decode cX7_by 69 = .ok (.ireturn, 1) := by decide +kernel
theorem dX7_by_70 : decode cX7_by 70 = .ok (.aload_n 0, 1) := by decide +kernel
theorem dX7_by_71 : decode cX7_by 71 = .ok (.iload_n 1, 1) := by decide +kernel
theorem dX7_by_72 : decode cX7_by 72 = .ok (.iload_n 2, 1) := by decide +kernel
theorem dX7_by_73 : decode cX7_by 73 = .ok (.invokevirtual 137, 3) := by decide +kernel
theorem dX7_by_76 : decode cX7_by 76 = .ok (.ireturn, 1) := by decide +kernel
theorem dX7_by_77 : decode cX7_by 77 = .ok (.aload_n 0, 1) := by decide +kernel
theorem dX7_by_78 : decode cX7_by 78 = .ok (.iload_n 1, 1) := by decide +kernel
theorem dX7_by_79 : decode cX7_by 79 = .ok (.iload_n 2, 1) := by decide +kernel
theorem dX7_by_80 : decode cX7_by 80 = .ok (.invokevirtual 140, 3) := by decide +kernel
theorem dX7_by_83 : decode cX7_by 83 = .ok (.ireturn, 1) := by decide +kernel
theorem dX7_by_84 : decode cX7_by 84 = .ok (.aload_n 0, 1) := by decide +kernel
theorem dX7_by_85 : decode cX7_by 85 = .ok (.iload_n 1, 1) := by decide +kernel
theorem dX7_by_86 : decode cX7_by 86 = .ok (.iload_n 2, 1) := by decide +kernel
theorem dX7_by_87 : decode cX7_by 87 = .ok (.invokevirtual 146, 3) := by decide +kernel
theorem dX7_by_90 : decode cX7_by 90 = .ok (.ireturn, 1) := by decide +kernel
theorem dX7_by_91 : decode cX7_by 91 = .ok (.aload_n 0, 1) := by decide +kernel
theorem dX7_by_92 : decode cX7_by 92 = .ok (.iload_n 1, 1) := by decide +kernel
theorem dX7_by_93 : decode cX7_by 93 = .ok (.iload_n 2, 1) := by decide +kernel
theorem dX7_by_94 : decode cX7_by 94 = .ok (.invokevirtual 143, 3) := by decide +kernel
theorem dX7_by_97 : decode cX7_by 97 = .ok (.ifCond .eq 12, 3) := by decide +kernel
theorem dX7_by_100 : decode cX7_by 100 = .ok (.aload_n 0, 1) := by decide +kernel
theorem dX7_by_101 : decode cX7_by 101 = .ok (.iload_n 1, 1) := by decide +kernel
theorem dX7_by_102 : decode cX7_by 102 = .ok (.iconst 2, 1) := by decide +kernel
theorem dX7_by_103 : decode cX7_by 103 = .ok (.invokevirtual 88, 3) := by decide +kernel
theorem dX7_by_106 : decode cX7_by 106 = .ok (.goto 9, 3) := by decide +kernel
theorem dX7_by_109 : decode cX7_by 109 = .ok (.aload_n 0, 1) := by decide +kernel
theorem dX7_by_110 : decode cX7_by 110 = .ok (.iload_n 1, 1) := by decide +kernel
theorem dX7_by_111 : decode cX7_by 111 = .ok (.iload_n 2, 1) := by decide +kernel
theorem dX7_by_112 : decode cX7_by 112 = .ok (.invokevirtual 128, 3) := by decide +kernel
theorem dX7_by_115 : decode cX7_by 115 = .ok (.ireturn, 1) := by decide +kernel
theorem dX7_by_116 : decode cX7_by 116 = .ok (.ldc 86, 2) := by decide +kernel
theorem dX7_by_118 : decode cX7_by 118 = .ok (.ireturn, 1) := by decide +kernel
theorem dX7_tick_0 : decode cX7_tick 0 = .ok (.aload_n 0, 1) := by decide +kernel
theorem dX7_tick_1 : decode cX7_tick 1 = .ok (.iload_n 1, 1) := by decide +kernel
theorem dX7_tick_2 : decode cX7_tick 2 = .ok (.invokevirtual 92, 3) := by decide +kernel
theorem dX7_tick_5 : decode cX7_tick 5 = .ok (.ifCond .eq 19, 3) := by decide +kernel
theorem dX7_tick_8 : decode cX7_tick 8 = .ok (.iload_n 2, 1) := by decide +kernel
theorem dX7_tick_9 : decode cX7_tick 9 = .ok (.invokestatic 113, 3) := by decide +kernel
theorem dX7_tick_12 : decode cX7_tick 12 = .ok (.ifCond .eq 12, 3) := by decide +kernel
theorem dX7_tick_15 : decode cX7_tick 15 = .ok (.aload_n 0, 1) := by decide +kernel
theorem dX7_tick_16 : decode cX7_tick 16 = .ok (.iload_n 1, 1) := by decide +kernel
theorem dX7_tick_17 : decode cX7_tick 17 = .ok (.iload_n 2, 1) := by decide +kernel
theorem dX7_tick_18 : decode cX7_tick 18 = .ok (.invokevirtual 149, 3) := by decide +kernel
theorem dX7_tick_21 : decode cX7_tick 21 = .ok (.goto 5, 3) := by decide +kernel
theorem dX7_tick_24 : decode cX7_tick 24 = .ok (.ldc 86, 2) := by decide +kernel
theorem dX7_tick_26 : decode cX7_tick 26 = .ok (.ireturn, 1) := by decide +kernel
theorem dX7_anHour_0 : decode cX7_anHour 0 = .ok (.iconst 0, 1) := by decide +kernel
theorem dX7_anHour_1 : decode cX7_anHour 1 = .ok (.istore_n 1, 1) := by decide +kernel
theorem dX7_anHour_2 : decode cX7_anHour 2 = .ok (.iload_n 1, 1) := by decide +kernel
theorem dX7_anHour_3 : decode cX7_anHour 3 = .ok (.aload_n 0, 1) := by decide +kernel
theorem dX7_anHour_4 : decode cX7_anHour 4 = .ok (.getfield 9, 3) := by decide +kernel
theorem dX7_anHour_7 : decode cX7_anHour 7 = .ok (.iconst 1, 1) := by decide +kernel
theorem dX7_anHour_8 : decode cX7_anHour 8 = .ok (.iaload, 1) := by decide +kernel
theorem dX7_anHour_9 : decode cX7_anHour 9 = .ok (.if_icmp .ge 28, 3) := by decide +kernel
theorem dX7_anHour_12 : decode cX7_anHour 12 = .ok (.aload_n 0, 1) := by decide +kernel
theorem dX7_anHour_13 : decode cX7_anHour 13 = .ok (.iload_n 1, 1) := by decide +kernel
theorem dX7_anHour_14 : decode cX7_anHour 14 = .ok (.aload_n 0, 1) := by decide +kernel
theorem dX7_anHour_15 : decode cX7_anHour 15 = .ok (.getfield 9, 3) := by decide +kernel
theorem dX7_anHour_18 : decode cX7_anHour 18 = .ok (.iconst 5, 1) := by decide +kernel
theorem dX7_anHour_19 : decode cX7_anHour 19 = .ok (.aload_n 0, 1) := by decide +kernel
theorem dX7_anHour_20 : decode cX7_anHour 20 = .ok (.getfield 9, 3) := by decide +kernel
theorem dX7_anHour_23 : decode cX7_anHour 23 = .ok (.iconst 2, 1) := by decide +kernel
theorem dX7_anHour_24 : decode cX7_anHour 24 = .ok (.iaload, 1) := by decide +kernel
theorem dX7_anHour_25 : decode cX7_anHour 25 = .ok (.iadd, 1) := by decide +kernel
theorem dX7_anHour_26 : decode cX7_anHour 26 = .ok (.iaload, 1) := by decide +kernel
theorem dX7_anHour_27 : decode cX7_anHour 27 = .ok (.invokevirtual 149, 3) := by decide +kernel
theorem dX7_anHour_30 : decode cX7_anHour 30 = .ok (.istore_n 2, 1) := by decide +kernel
theorem dX7_anHour_31 : decode cX7_anHour 31 = .ok (.iinc 1 1, 3) := by decide +kernel
theorem dX7_anHour_34 : decode cX7_anHour 34 = .ok (.goto (-32), 3) := by decide +kernel
theorem dX7_anHour_37 : decode cX7_anHour 37 = .ok (.aload_n 0, 1) := by decide +kernel
theorem dX7_anHour_38 : decode cX7_anHour 38 = .ok (.getfield 9, 3) := by decide +kernel
theorem dX7_anHour_41 : decode cX7_anHour 41 = .ok (.iconst 2, 1) := by decide +kernel
theorem dX7_anHour_42 : decode cX7_anHour 42 = .ok (.aload_n 0, 1) := by decide +kernel
theorem dX7_anHour_43 : decode cX7_anHour 43 = .ok (.getfield 9, 3) := by decide +kernel
theorem dX7_anHour_46 : decode cX7_anHour 46 = .ok (.iconst 2, 1) := by decide +kernel
theorem dX7_anHour_47 : decode cX7_anHour 47 = .ok (.iaload, 1) := by decide +kernel
theorem dX7_anHour_48 : decode cX7_anHour 48 = .ok (.iconst 1, 1) := by decide +kernel
theorem dX7_anHour_49 : decode cX7_anHour 49 = .ok (.iadd, 1) := by decide +kernel
theorem dX7_anHour_50 : decode cX7_anHour 50 = .ok (.bipush 24, 2) := by decide +kernel
theorem dX7_anHour_52 : decode cX7_anHour 52 = .ok (.irem, 1) := by decide +kernel
theorem dX7_anHour_53 : decode cX7_anHour 53 = .ok (.iastore, 1) := by decide +kernel
theorem dX7_anHour_54 : decode cX7_anHour 54 = .ok (.return_, 1) := by decide +kernel
theorem dX7_run_0 : decode cX7_run 0 = .ok (.iload_n 1, 1) := by decide +kernel
theorem dX7_run_1 : decode cX7_run 1 = .ok (.iconst 1, 1) := by decide +kernel
theorem dX7_run_2 : decode cX7_run 2 = .ok (.bipush 60, 2) := by decide +kernel
theorem dX7_run_4 : decode cX7_run 4 = .ok (.invokestatic 78, 3) := by decide +kernel
theorem dX7_run_7 : decode cX7_run 7 = .ok (.ifCond .ne 6, 3) := by decide +kernel
theorem dX7_run_10 : decode cX7_run 10 = .ok (.ldc 86, 2) := by decide +kernel
theorem dX7_run_12 : decode cX7_run 12 = .ok (.ireturn, 1) := by decide +kernel
theorem dX7_run_13 : decode cX7_run 13 = .ok (.iconst 0, 1) := by decide +kernel
theorem dX7_run_14 : decode cX7_run 14 = .ok (.istore_n 2, 1) := by decide +kernel
theorem dX7_run_15 : decode cX7_run 15 = .ok (.iload_n 2, 1) := by decide +kernel
theorem dX7_run_16 : decode cX7_run 16 = .ok (.iload_n 1, 1) := by decide +kernel
theorem dX7_run_17 : decode cX7_run 17 = .ok (.if_icmp .ge 13, 3) := by decide +kernel
theorem dX7_run_20 : decode cX7_run 20 = .ok (.aload_n 0, 1) := by decide +kernel
theorem dX7_run_21 : decode cX7_run 21 = .ok (.invokevirtual 152, 3) := by decide +kernel
theorem dX7_run_24 : decode cX7_run 24 = .ok (.iinc 2 1, 3) := by decide +kernel
theorem dX7_run_27 : decode cX7_run 27 = .ok (.goto (-12), 3) := by decide +kernel
theorem dX7_run_30 : decode cX7_run 30 = .ok (.aload_n 0, 1) := by decide +kernel
theorem dX7_run_31 : decode cX7_run 31 = .ok (.getfield 9, 3) := by decide +kernel
theorem dX7_run_34 : decode cX7_run 34 = .ok (.iconst 2, 1) := by decide +kernel
theorem dX7_run_35 : decode cX7_run 35 = .ok (.iaload, 1) := by decide +kernel
theorem dX7_run_36 : decode cX7_run 36 = .ok (.ireturn, 1) := by decide +kernel
theorem dX7_thinks_0 : decode cX7_thinks 0 = .ok (.iconst 0, 1) := by decide +kernel
theorem dX7_thinks_1 : decode cX7_thinks 1 = .ok (.istore_n 2, 1) := by decide +kernel
theorem dX7_thinks_2 : decode cX7_thinks 2 = .ok (.iload_n 2, 1) := by decide +kernel
theorem dX7_thinks_3 : decode cX7_thinks 3 = .ok (.bipush 7, 2) := by decide +kernel
theorem dX7_thinks_5 : decode cX7_thinks 5 = .ok (.if_icmp .ge 21, 3) := by decide +kernel
theorem dX7_thinks_8 : decode cX7_thinks 8 = .ok (.aload_n 0, 1) := by decide +kernel
theorem dX7_thinks_9 : decode cX7_thinks 9 = .ok (.getfield 19, 3) := by decide +kernel
theorem dX7_thinks_12 : decode cX7_thinks 12 = .ok (.iload_n 2, 1) := by decide +kernel
theorem dX7_thinks_13 : decode cX7_thinks 13 = .ok (.aload_n 0, 1) := by decide +kernel
theorem dX7_thinks_14 : decode cX7_thinks 14 = .ok (.iload_n 1, 1) := by decide +kernel
theorem dX7_thinks_15 : decode cX7_thinks 15 = .ok (.iload_n 2, 1) := by decide +kernel
theorem dX7_thinks_16 : decode cX7_thinks 16 = .ok (.invokevirtual 88, 3) := by decide +kernel
theorem dX7_thinks_19 : decode cX7_thinks 19 = .ok (.iastore, 1) := by decide +kernel
theorem dX7_thinks_20 : decode cX7_thinks 20 = .ok (.iinc 2 1, 3) := by decide +kernel
theorem dX7_thinks_23 : decode cX7_thinks 23 = .ok (.goto (-21), 3) := by decide +kernel
theorem dX7_thinks_26 : decode cX7_thinks 26 = .ok (.return_, 1) := by decide +kernel
theorem dX7_putsBack_0 : decode cX7_putsBack 0 = .ok (.iconst 0, 1) := by decide +kernel
theorem dX7_putsBack_1 : decode cX7_putsBack 1 = .ok (.istore_n 2, 1) := by decide +kernel
theorem dX7_putsBack_2 : decode cX7_putsBack 2 = .ok (.iload_n 2, 1) := by decide +kernel
theorem dX7_putsBack_3 : decode cX7_putsBack 3 = .ok (.bipush 7, 2) := by decide +kernel
theorem dX7_putsBack_5 : decode cX7_putsBack 5 = .ok (.if_icmp .ge 29, 3) := by decide +kernel
theorem dX7_putsBack_8 : decode cX7_putsBack 8 = .ok (.aload_n 0, 1) := by decide +kernel
theorem dX7_putsBack_9 : decode cX7_putsBack 9 = .ok (.getfield 9, 3) := by decide +kernel
theorem dX7_putsBack_12 : decode cX7_putsBack 12 = .ok (.bipush 29, 2) := by decide +kernel
theorem dX7_putsBack_14 : decode cX7_putsBack 14 = .ok (.bipush 7, 2) := by decide +kernel
theorem dX7_putsBack_16 : decode cX7_putsBack 16 = .ok (.iload_n 1, 1) := by decide +kernel
theorem dX7_putsBack_17 : decode cX7_putsBack 17 = .ok (.imul, 1) := by decide +kernel
theorem dX7_putsBack_18 : decode cX7_putsBack 18 = .ok (.iadd, 1) := by decide +kernel
theorem dX7_putsBack_19 : decode cX7_putsBack 19 = .ok (.iload_n 2, 1) := by decide +kernel
theorem dX7_putsBack_20 : decode cX7_putsBack 20 = .ok (.iadd, 1) := by decide +kernel
theorem dX7_putsBack_21 : decode cX7_putsBack 21 = .ok (.aload_n 0, 1) := by decide +kernel
theorem dX7_putsBack_22 : decode cX7_putsBack 22 = .ok (.getfield 19, 3) := by decide +kernel
theorem dX7_putsBack_25 : decode cX7_putsBack 25 = .ok (.iload_n 2, 1) := by decide +kernel
theorem dX7_putsBack_26 : decode cX7_putsBack 26 = .ok (.iaload, 1) := by decide +kernel
theorem dX7_putsBack_27 : decode cX7_putsBack 27 = .ok (.iastore, 1) := by decide +kernel
theorem dX7_putsBack_28 : decode cX7_putsBack 28 = .ok (.iinc 2 1, 3) := by decide +kernel
theorem dX7_putsBack_31 : decode cX7_putsBack 31 = .ok (.goto (-29), 3) := by decide +kernel
theorem dX7_putsBack_34 : decode cX7_putsBack 34 = .ok (.return_, 1) := by decide +kernel
theorem dX7_line_0 : decode cX7_line 0 = .ok (.aload_n 0, 1) := by decide +kernel
theorem dX7_line_1 : decode cX7_line 1 = .ok (.iload_n 1, 1) := by decide +kernel
theorem dX7_line_2 : decode cX7_line 2 = .ok (.invokevirtual 92, 3) := by decide +kernel
theorem dX7_line_5 : decode cX7_line 5 = .ok (.ifCond .eq 12, 3) := by decide +kernel
theorem dX7_line_8 : decode cX7_line 8 = .ok (.iload_n 2, 1) := by decide +kernel
theorem dX7_line_9 : decode cX7_line 9 = .ok (.iconst 0, 1) := by decide +kernel
theorem dX7_line_10 : decode cX7_line 10 = .ok (.iconst 3, 1) := by decide +kernel
theorem dX7_line_11 : decode cX7_line 11 = .ok (.invokestatic 78, 3) := by decide +kernel
theorem dX7_line_14 : decode cX7_line 14 = .ok (.ifCond .ne 6, 3) := by decide +kernel
theorem dX7_line_17 : decode cX7_line 17 = .ok (.ldc 86, 2) := by decide +kernel
theorem dX7_line_19 : decode cX7_line 19 = .ok (.ireturn, 1) := by decide +kernel
theorem dX7_line_20 : decode cX7_line 20 = .ok (.aload_n 0, 1) := by decide +kernel
theorem dX7_line_21 : decode cX7_line 21 = .ok (.iload_n 1, 1) := by decide +kernel
theorem dX7_line_22 : decode cX7_line 22 = .ok (.invokevirtual 155, 3) := by decide +kernel
theorem dX7_line_25 : decode cX7_line 25 = .ok (.aload_n 0, 1) := by decide +kernel
theorem dX7_line_26 : decode cX7_line 26 = .ok (.getfield 9, 3) := by decide +kernel
theorem dX7_line_29 : decode cX7_line 29 = .ok (.bipush 29, 2) := by decide +kernel
theorem dX7_line_31 : decode cX7_line 31 = .ok (.bipush 7, 2) := by decide +kernel
theorem dX7_line_33 : decode cX7_line 33 = .ok (.iload_n 1, 1) := by decide +kernel
theorem dX7_line_34 : decode cX7_line 34 = .ok (.imul, 1) := by decide +kernel
theorem dX7_line_35 : decode cX7_line 35 = .ok (.iadd, 1) := by decide +kernel
theorem dX7_line_36 : decode cX7_line 36 = .ok (.iconst 5, 1) := by decide +kernel
theorem dX7_line_37 : decode cX7_line 37 = .ok (.iadd, 1) := by decide +kernel
theorem dX7_line_38 : decode cX7_line 38 = .ok (.iconst 0, 1) := by decide +kernel
theorem dX7_line_39 : decode cX7_line 39 = .ok (.iastore, 1) := by decide +kernel
theorem dX7_line_40 : decode cX7_line 40 = .ok (.ldc 159, 2) := by decide +kernel
theorem dX7_line_42 : decode cX7_line 42 = .ok (.istore_n 3, 1) := by decide +kernel
theorem dX7_line_43 : decode cX7_line 43 = .ok (.ldc 159, 2) := by decide +kernel
theorem dX7_line_45 : decode cX7_line 45 = .ok (.istore 4, 2) := by decide +kernel
theorem dX7_line_47 : decode cX7_line 47 = .ok (.iconst 0, 1) := by decide +kernel
theorem dX7_line_48 : decode cX7_line 48 = .ok (.istore 5, 2) := by decide +kernel
theorem dX7_line_50 : decode cX7_line 50 = .ok (.iload 5, 2) := by decide +kernel
theorem dX7_line_52 : decode cX7_line 52 = .ok (.bipush 100, 2) := by decide +kernel
theorem dX7_line_54 : decode cX7_line 54 = .ok (.if_icmp .ge 97, 3) := by decide +kernel
theorem dX7_line_57 : decode cX7_line 57 = .ok (.iload_n 2, 1) := by decide +kernel
theorem dX7_line_58 : decode cX7_line 58 = .ok (.iconst 2, 1) := by decide +kernel
theorem dX7_line_59 : decode cX7_line 59 = .ok (.if_icmp .ge 8, 3) := by decide +kernel
theorem dX7_line_62 : decode cX7_line 62 = .ok (.iload 5, 2) := by decide +kernel
theorem dX7_line_64 : decode cX7_line 64 = .ok (.goto 8, 3) := by decide +kernel
theorem dX7_line_67 : decode cX7_line 67 = .ok (.bipush 99, 2) := by decide +kernel
theorem dX7_line_69 : decode cX7_line 69 = .ok (.iload 5, 2) := by decide +kernel
theorem dX7_line_71 : decode cX7_line 71 = .ok (.isub, 1) := by decide +kernel
theorem dX7_line_72 : decode cX7_line 72 = .ok (.istore 6, 2) := by decide +kernel
theorem dX7_line_74 : decode cX7_line 74 = .ok (.aload_n 0, 1) := by decide +kernel
theorem dX7_line_75 : decode cX7_line 75 = .ok (.iload_n 1, 1) := by decide +kernel
theorem dX7_line_76 : decode cX7_line 76 = .ok (.iload 6, 2) := by decide +kernel
theorem dX7_line_78 : decode cX7_line 78 = .ok (.invokevirtual 149, 3) := by decide +kernel
theorem dX7_line_81 : decode cX7_line 81 = .ok (.istore 7, 2) := by decide +kernel
theorem dX7_line_83 : decode cX7_line 83 = .ok (.aload_n 0, 1) := by decide +kernel
theorem dX7_line_84 : decode cX7_line 84 = .ok (.iload_n 1, 1) := by decide +kernel
theorem dX7_line_85 : decode cX7_line 85 = .ok (.iconst 5, 1) := by decide +kernel
theorem dX7_line_86 : decode cX7_line 86 = .ok (.invokevirtual 88, 3) := by decide +kernel
theorem dX7_line_89 : decode cX7_line 89 = .ok (.iconst 1, 1) := by decide +kernel
theorem dX7_line_90 : decode cX7_line 90 = .ok (.if_icmp .ne 7, 3) := by decide +kernel
theorem dX7_line_93 : decode cX7_line 93 = .ok (.iconst 1, 1) := by decide +kernel
theorem dX7_line_94 : decode cX7_line 94 = .ok (.goto 4, 3) := by decide +kernel
theorem dX7_line_97 : decode cX7_line 97 = .ok (.iconst 0, 1) := by decide +kernel
theorem dX7_line_98 : decode cX7_line 98 = .ok (.istore 8, 2) := by decide +kernel
theorem dX7_line_100 : decode cX7_line 100 = .ok (.iload_n 3, 1) := by decide +kernel
theorem dX7_line_101 : decode cX7_line 101 = .ok (.ldc 159, 2) := by decide +kernel
theorem dX7_line_103 : decode cX7_line 103 = .ok (.if_icmp .eq 20, 3) := by decide +kernel
theorem dX7_line_106 : decode cX7_line 106 = .ok (.iload 4, 2) := by decide +kernel
theorem dX7_line_108 : decode cX7_line 108 = .ok (.ldc 159, 2) := by decide +kernel
theorem dX7_line_110 : decode cX7_line 110 = .ok (.if_icmp .ne 13, 3) := by decide +kernel
theorem dX7_line_113 : decode cX7_line 113 = .ok (.iload 8, 2) := by decide +kernel
theorem dX7_line_115 : decode cX7_line 115 = .ok (.ifCond .ne 8, 3) := by decide +kernel
theorem dX7_line_118 : decode cX7_line 118 = .ok (.iload 6, 2) := by decide +kernel
theorem dX7_line_120 : decode cX7_line 120 = .ok (.goto 5, 3) := by decide +kernel
theorem dX7_line_123 : decode cX7_line 123 = .ok (.iload 4, 2) := by decide +kernel
theorem dX7_line_125 : decode cX7_line 125 = .ok (.istore 4, 2) := by decide +kernel
theorem dX7_line_127 : decode cX7_line 127 = .ok (.iload_n 3, 1) := by decide +kernel
theorem dX7_line_128 : decode cX7_line 128 = .ok (.ldc 159, 2) := by decide +kernel
theorem dX7_line_130 : decode cX7_line 130 = .ok (.if_icmp .ne 13, 3) := by decide +kernel
theorem dX7_line_133 : decode cX7_line 133 = .ok (.iload 8, 2) := by decide +kernel
theorem dX7_line_135 : decode cX7_line 135 = .ok (.ifCond .eq 8, 3) := by decide +kernel
theorem dX7_line_138 : decode cX7_line 138 = .ok (.iload 6, 2) := by decide +kernel
theorem dX7_line_140 : decode cX7_line 140 = .ok (.goto 4, 3) := by decide +kernel
theorem dX7_line_143 : decode cX7_line 143 = .ok (.iload_n 3, 1) := by decide +kernel
theorem dX7_line_144 : decode cX7_line 144 = .ok (.istore_n 3, 1) := by decide +kernel
theorem dX7_line_145 : decode cX7_line 145 = .ok (.iinc 5 1, 3) := by decide +kernel
theorem dX7_line_148 : decode cX7_line 148 = .ok (.goto (-98), 3) := by decide +kernel
theorem dX7_line_151 : decode cX7_line 151 = .ok (.aload_n 0, 1) := by decide +kernel
theorem dX7_line_152 : decode cX7_line 152 = .ok (.iload_n 1, 1) := by decide +kernel
theorem dX7_line_153 : decode cX7_line 153 = .ok (.invokevirtual 160, 3) := by decide +kernel
theorem dX7_line_156 : decode cX7_line 156 = .ok (.iload_n 2, 1) := by decide +kernel
theorem dX7_line_157 : decode cX7_line 157 = .ok (.iconst 2, 1) := by decide +kernel
theorem dX7_line_158 : decode cX7_line 158 = .ok (.irem, 1) := by decide +kernel
theorem dX7_line_159 : decode cX7_line 159 = .ok (.ifCond .ne 7, 3) := by decide +kernel
theorem dX7_line_162 : decode cX7_line 162 = .ok (.iload_n 3, 1) := by decide +kernel
theorem dX7_line_163 : decode cX7_line 163 = .ok (.goto 5, 3) := by decide +kernel
theorem dX7_line_166 : decode cX7_line 166 = .ok (.iload 4, 2) := by decide +kernel
theorem dX7_line_168 : decode cX7_line 168 = .ok (.ireturn, 1) := by decide +kernel
theorem dX7_findDay_0 : decode cX7_findDay 0 = .ok (.aload_n 0, 1) := by decide +kernel
theorem dX7_findDay_1 : decode cX7_findDay 1 = .ok (.iload_n 1, 1) := by decide +kernel
theorem dX7_findDay_2 : decode cX7_findDay 2 = .ok (.invokevirtual 155, 3) := by decide +kernel
theorem dX7_findDay_5 : decode cX7_findDay 5 = .ok (.aload_n 0, 1) := by decide +kernel
theorem dX7_findDay_6 : decode cX7_findDay 6 = .ok (.iconst 0, 1) := by decide +kernel
theorem dX7_findDay_7 : decode cX7_findDay 7 = .ok (.putfield 163, 3) := by decide +kernel
theorem dX7_findDay_10 : decode cX7_findDay 10 = .ok (.aload_n 0, 1) := by decide +kernel
theorem dX7_findDay_11 : decode cX7_findDay 11 = .ok (.iconst 0, 1) := by decide +kernel
theorem dX7_findDay_12 : decode cX7_findDay 12 = .ok (.putfield 167, 3) := by decide +kernel
theorem dX7_findDay_15 : decode cX7_findDay 15 = .ok (.iconst 0, 1) := by decide +kernel
theorem dX7_findDay_16 : decode cX7_findDay 16 = .ok (.istore_n 2, 1) := by decide +kernel
theorem dX7_findDay_17 : decode cX7_findDay 17 = .ok (.iload_n 2, 1) := by decide +kernel
theorem dX7_findDay_18 : decode cX7_findDay 18 = .ok (.bipush 24, 2) := by decide +kernel
theorem dX7_findDay_20 : decode cX7_findDay 20 = .ok (.if_icmp .ge 83, 3) := by decide +kernel
theorem dX7_findDay_23 : decode cX7_findDay 23 = .ok (.aload_n 0, 1) := by decide +kernel
theorem dX7_findDay_24 : decode cX7_findDay 24 = .ok (.getfield 22, 3) := by decide +kernel
theorem dX7_findDay_27 : decode cX7_findDay 27 = .ok (.iload_n 2, 1) := by decide +kernel
theorem dX7_findDay_28 : decode cX7_findDay 28 = .ok (.aload_n 0, 1) := by decide +kernel
theorem dX7_findDay_29 : decode cX7_findDay 29 = .ok (.iload_n 1, 1) := by decide +kernel
theorem dX7_findDay_30 : decode cX7_findDay 30 = .ok (.aload_n 0, 1) := by decide +kernel
theorem dX7_findDay_31 : decode cX7_findDay 31 = .ok (.getfield 9, 3) := by decide +kernel
theorem dX7_findDay_34 : decode cX7_findDay 34 = .ok (.iconst 5, 1) := by decide +kernel
theorem dX7_findDay_35 : decode cX7_findDay 35 = .ok (.aload_n 0, 1) := by decide +kernel
theorem dX7_findDay_36 : decode cX7_findDay 36 = .ok (.getfield 9, 3) := by decide +kernel
theorem dX7_findDay_39 : decode cX7_findDay 39 = .ok (.iconst 2, 1) := by decide +kernel
theorem dX7_findDay_40 : decode cX7_findDay 40 = .ok (.iaload, 1) := by decide +kernel
theorem dX7_findDay_41 : decode cX7_findDay 41 = .ok (.iload_n 2, 1) := by decide +kernel
theorem dX7_findDay_42 : decode cX7_findDay 42 = .ok (.iadd, 1) := by decide +kernel
theorem dX7_findDay_43 : decode cX7_findDay 43 = .ok (.bipush 24, 2) := by decide +kernel
theorem dX7_findDay_45 : decode cX7_findDay 45 = .ok (.irem, 1) := by decide +kernel
theorem dX7_findDay_46 : decode cX7_findDay 46 = .ok (.iadd, 1) := by decide +kernel
theorem dX7_findDay_47 : decode cX7_findDay 47 = .ok (.iaload, 1) := by decide +kernel
theorem dX7_findDay_48 : decode cX7_findDay 48 = .ok (.invokevirtual 149, 3) := by decide +kernel
theorem dX7_findDay_51 : decode cX7_findDay 51 = .ok (.iastore, 1) := by decide +kernel
theorem dX7_findDay_52 : decode cX7_findDay 52 = .ok (.aload_n 0, 1) := by decide +kernel
theorem dX7_findDay_53 : decode cX7_findDay 53 = .ok (.dup, 1) := by decide +kernel
theorem dX7_findDay_54 : decode cX7_findDay 54 = .ok (.getfield 163, 3) := by decide +kernel
theorem dX7_findDay_57 : decode cX7_findDay 57 = .ok (.aload_n 0, 1) := by decide +kernel
theorem dX7_findDay_58 : decode cX7_findDay 58 = .ok (.iload_n 1, 1) := by decide +kernel
theorem dX7_findDay_59 : decode cX7_findDay 59 = .ok (.iconst 5, 1) := by decide +kernel
theorem dX7_findDay_60 : decode cX7_findDay 60 = .ok (.invokevirtual 88, 3) := by decide +kernel
theorem dX7_findDay_63 : decode cX7_findDay 63 = .ok (.iadd, 1) := by decide +kernel
theorem dX7_findDay_64 : decode cX7_findDay 64 = .ok (.putfield 163, 3) := by decide +kernel
theorem dX7_findDay_67 : decode cX7_findDay 67 = .ok (.aload_n 0, 1) := by decide +kernel
theorem dX7_findDay_68 : decode cX7_findDay 68 = .ok (.aload_n 0, 1) := by decide +kernel
theorem dX7_findDay_69 : decode cX7_findDay 69 = .ok (.iload_n 1, 1) := by decide +kernel
theorem dX7_findDay_70 : decode cX7_findDay 70 = .ok (.iconst 4, 1) := by decide +kernel
theorem dX7_findDay_71 : decode cX7_findDay 71 = .ok (.invokevirtual 88, 3) := by decide +kernel
theorem dX7_findDay_74 : decode cX7_findDay 74 = .ok (.aload_n 0, 1) := by decide +kernel
theorem dX7_findDay_75 : decode cX7_findDay 75 = .ok (.getfield 167, 3) := by decide +kernel
theorem dX7_findDay_78 : decode cX7_findDay 78 = .ok (.if_icmp .le 12, 3) := by decide +kernel
theorem dX7_findDay_81 : decode cX7_findDay 81 = .ok (.aload_n 0, 1) := by decide +kernel
theorem dX7_findDay_82 : decode cX7_findDay 82 = .ok (.iload_n 1, 1) := by decide +kernel
theorem dX7_findDay_83 : decode cX7_findDay 83 = .ok (.iconst 4, 1) := by decide +kernel
theorem dX7_findDay_84 : decode cX7_findDay 84 = .ok (.invokevirtual 88, 3) := by decide +kernel
theorem dX7_findDay_87 : decode cX7_findDay 87 = .ok (.goto 7, 3) := by decide +kernel
theorem dX7_findDay_90 : decode cX7_findDay 90 = .ok (.aload_n 0, 1) := by decide +kernel
theorem dX7_findDay_91 : decode cX7_findDay 91 = .ok (.getfield 167, 3) := by decide +kernel
theorem dX7_findDay_94 : decode cX7_findDay 94 = .ok (.putfield 167, 3) := by decide +kernel
theorem dX7_findDay_97 : decode cX7_findDay 97 = .ok (.iinc 2 1, 3) := by decide +kernel
theorem dX7_findDay_100 : decode cX7_findDay 100 = .ok (.goto (-83), 3) := by decide +kernel
theorem dX7_findDay_103 : decode cX7_findDay 103 = .ok (.aload_n 0, 1) := by decide +kernel
theorem dX7_findDay_104 : decode cX7_findDay 104 = .ok (.aload_n 0, 1) := by decide +kernel
theorem dX7_findDay_105 : decode cX7_findDay 105 = .ok (.iload_n 1, 1) := by decide +kernel
theorem dX7_findDay_106 : decode cX7_findDay 106 = .ok (.bipush 6, 2) := by decide +kernel
theorem dX7_findDay_108 : decode cX7_findDay 108 = .ok (.invokevirtual 88, 3) := by decide +kernel
theorem dX7_findDay_111 : decode cX7_findDay 111 = .ok (.putfield 170, 3) := by decide +kernel
theorem dX7_findDay_114 : decode cX7_findDay 114 = .ok (.aload_n 0, 1) := by decide +kernel
theorem dX7_findDay_115 : decode cX7_findDay 115 = .ok (.iload_n 1, 1) := by decide +kernel
theorem dX7_findDay_116 : decode cX7_findDay 116 = .ok (.invokevirtual 160, 3) := by decide +kernel
theorem dX7_findDay_119 : decode cX7_findDay 119 = .ok (.return_, 1) := by decide +kernel
theorem dX7_day_0 : decode cX7_day 0 = .ok (.aload_n 0, 1) := by decide +kernel
theorem dX7_day_1 : decode cX7_day 1 = .ok (.iload_n 1, 1) := by decide +kernel
theorem dX7_day_2 : decode cX7_day 2 = .ok (.invokevirtual 92, 3) := by decide +kernel
theorem dX7_day_5 : decode cX7_day 5 = .ok (.ifCond .eq 12, 3) := by decide +kernel
theorem dX7_day_8 : decode cX7_day 8 = .ok (.iload_n 2, 1) := by decide +kernel
theorem dX7_day_9 : decode cX7_day 9 = .ok (.iconst 0, 1) := by decide +kernel
theorem dX7_day_10 : decode cX7_day 10 = .ok (.iconst 2, 1) := by decide +kernel
theorem dX7_day_11 : decode cX7_day 11 = .ok (.invokestatic 78, 3) := by decide +kernel
theorem dX7_day_14 : decode cX7_day 14 = .ok (.ifCond .ne 6, 3) := by decide +kernel
theorem dX7_day_17 : decode cX7_day 17 = .ok (.ldc 86, 2) := by decide +kernel
theorem dX7_day_19 : decode cX7_day 19 = .ok (.ireturn, 1) := by decide +kernel
theorem dX7_day_20 : decode cX7_day 20 = .ok (.aload_n 0, 1) := by decide +kernel
theorem dX7_day_21 : decode cX7_day 21 = .ok (.iload_n 1, 1) := by decide +kernel
theorem dX7_day_22 : decode cX7_day 22 = .ok (.invokevirtual 173, 3) := by decide +kernel
theorem dX7_day_25 : decode cX7_day 25 = .ok (.iload_n 2, 1) := by decide +kernel
theorem dX7_day_26 : decode cX7_day 26 = .ok (.ifCond .ne 10, 3) := by decide +kernel
theorem dX7_day_29 : decode cX7_day 29 = .ok (.aload_n 0, 1) := by decide +kernel
theorem dX7_day_30 : decode cX7_day 30 = .ok (.getfield 163, 3) := by decide +kernel
theorem dX7_day_33 : decode cX7_day 33 = .ok (.goto 19, 3) := by decide +kernel
theorem dX7_day_36 : decode cX7_day 36 = .ok (.iload_n 2, 1) := by decide +kernel
theorem dX7_day_37 : decode cX7_day 37 = .ok (.iconst 1, 1) := by decide +kernel
theorem dX7_day_38 : decode cX7_day 38 = .ok (.if_icmp .ne 10, 3) := by decide +kernel
theorem dX7_day_41 : decode cX7_day 41 = .ok (.aload_n 0, 1) := by decide +kernel
theorem dX7_day_42 : decode cX7_day 42 = .ok (.getfield 170, 3) := by decide +kernel
theorem dX7_day_45 : decode cX7_day 45 = .ok (.goto 7, 3) := by decide +kernel
theorem dX7_day_48 : decode cX7_day 48 = .ok (.aload_n 0, 1) := by decide +kernel
theorem dX7_day_49 : decode cX7_day 49 = .ok (.getfield 167, 3) := by decide +kernel
theorem dX7_day_52 : decode cX7_day 52 = .ok (.ireturn, 1) := by decide +kernel
theorem dX7_life_0 : decode cX7_life 0 = .ok (.aload_n 0, 1) := by decide +kernel
theorem dX7_life_1 : decode cX7_life 1 = .ok (.iload_n 1, 1) := by decide +kernel
theorem dX7_life_2 : decode cX7_life 2 = .ok (.invokevirtual 92, 3) := by decide +kernel
theorem dX7_life_5 : decode cX7_life 5 = .ok (.ifCond .eq 13, 3) := by decide +kernel
theorem dX7_life_8 : decode cX7_life 8 = .ok (.iload_n 2, 1) := by decide +kernel
theorem dX7_life_9 : decode cX7_life 9 = .ok (.iconst 0, 1) := by decide +kernel
theorem dX7_life_10 : decode cX7_life 10 = .ok (.ldc 176, 2) := by decide +kernel
theorem dX7_life_12 : decode cX7_life 12 = .ok (.invokestatic 78, 3) := by decide +kernel
theorem dX7_life_15 : decode cX7_life 15 = .ok (.ifCond .ne 6, 3) := by decide +kernel
theorem dX7_life_18 : decode cX7_life 18 = .ok (.ldc 86, 2) := by decide +kernel
theorem dX7_life_20 : decode cX7_life 20 = .ok (.ireturn, 1) := by decide +kernel
theorem dX7_life_21 : decode cX7_life 21 = .ok (.aload_n 0, 1) := by decide +kernel
theorem dX7_life_22 : decode cX7_life 22 = .ok (.iload_n 1, 1) := by decide +kernel
theorem dX7_life_23 : decode cX7_life 23 = .ok (.invokevirtual 155, 3) := by decide +kernel
theorem dX7_life_26 : decode cX7_life 26 = .ok (.iconst 0, 1) := by decide +kernel
theorem dX7_life_27 : decode cX7_life 27 = .ok (.istore_n 3, 1) := by decide +kernel
theorem dX7_life_28 : decode cX7_life 28 = .ok (.iload_n 3, 1) := by decide +kernel
theorem dX7_life_29 : decode cX7_life 29 = .ok (.sipush 500, 3) := by decide +kernel
theorem dX7_life_32 : decode cX7_life 32 = .ok (.if_icmp .gt 45, 3) := by decide +kernel
theorem dX7_life_35 : decode cX7_life 35 = .ok (.aload_n 0, 1) := by decide +kernel
theorem dX7_life_36 : decode cX7_life 36 = .ok (.iload_n 1, 1) := by decide +kernel
theorem dX7_life_37 : decode cX7_life 37 = .ok (.bipush 6, 2) := by decide +kernel
theorem dX7_life_39 : decode cX7_life 39 = .ok (.invokevirtual 88, 3) := by decide +kernel
theorem dX7_life_42 : decode cX7_life 42 = .ok (.iload_n 2, 1) := by decide +kernel
theorem dX7_life_43 : decode cX7_life 43 = .ok (.if_icmp .ge 34, 3) := by decide +kernel
theorem dX7_life_46 : decode cX7_life 46 = .ok (.aload_n 0, 1) := by decide +kernel
theorem dX7_life_47 : decode cX7_life 47 = .ok (.iload_n 1, 1) := by decide +kernel
theorem dX7_life_48 : decode cX7_life 48 = .ok (.aload_n 0, 1) := by decide +kernel
theorem dX7_life_49 : decode cX7_life 49 = .ok (.getfield 9, 3) := by decide +kernel
theorem dX7_life_52 : decode cX7_life 52 = .ok (.iconst 5, 1) := by decide +kernel
theorem dX7_life_53 : decode cX7_life 53 = .ok (.aload_n 0, 1) := by decide +kernel
theorem dX7_life_54 : decode cX7_life 54 = .ok (.getfield 9, 3) := by decide +kernel
theorem dX7_life_57 : decode cX7_life 57 = .ok (.iconst 2, 1) := by decide +kernel
theorem dX7_life_58 : decode cX7_life 58 = .ok (.iaload, 1) := by decide +kernel
theorem dX7_life_59 : decode cX7_life 59 = .ok (.iload_n 3, 1) := by decide +kernel
theorem dX7_life_60 : decode cX7_life 60 = .ok (.iadd, 1) := by decide +kernel
theorem dX7_life_61 : decode cX7_life 61 = .ok (.bipush 24, 2) := by decide +kernel
theorem dX7_life_63 : decode cX7_life 63 = .ok (.irem, 1) := by decide +kernel
theorem dX7_life_64 : decode cX7_life 64 = .ok (.iadd, 1) := by decide +kernel
theorem dX7_life_65 : decode cX7_life 65 = .ok (.iaload, 1) := by decide +kernel
theorem dX7_life_66 : decode cX7_life 66 = .ok (.invokevirtual 149, 3) := by decide +kernel
theorem dX7_life_69 : decode cX7_life 69 = .ok (.istore 4, 2) := by decide +kernel
theorem dX7_life_71 : decode cX7_life 71 = .ok (.iinc 3 1, 3) := by decide +kernel
theorem dX7_life_74 : decode cX7_life 74 = .ok (.goto (-46), 3) := by decide +kernel
theorem dX7_life_77 : decode cX7_life 77 = .ok (.aload_n 0, 1) := by decide +kernel
theorem dX7_life_78 : decode cX7_life 78 = .ok (.iload_n 1, 1) := by decide +kernel
theorem dX7_life_79 : decode cX7_life 79 = .ok (.invokevirtual 160, 3) := by decide +kernel
theorem dX7_life_82 : decode cX7_life 82 = .ok (.iload_n 3, 1) := by decide +kernel
theorem dX7_life_83 : decode cX7_life 83 = .ok (.sipush 500, 3) := by decide +kernel
theorem dX7_life_86 : decode cX7_life 86 = .ok (.if_icmp .gt 7, 3) := by decide +kernel
theorem dX7_life_89 : decode cX7_life 89 = .ok (.iload_n 3, 1) := by decide +kernel
theorem dX7_life_90 : decode cX7_life 90 = .ok (.goto 5, 3) := by decide +kernel
theorem dX7_life_93 : decode cX7_life 93 = .ok (.ldc 159, 2) := by decide +kernel
theorem dX7_life_95 : decode cX7_life 95 = .ok (.ireturn, 1) := by decide +kernel
theorem dX7_harp_0 : decode cX7_harp 0 = .ok (.aload_n 0, 1) := by decide +kernel
theorem dX7_harp_1 : decode cX7_harp 1 = .ok (.iload_n 1, 1) := by decide +kernel
theorem dX7_harp_2 : decode cX7_harp 2 = .ok (.invokevirtual 92, 3) := by decide +kernel
theorem dX7_harp_5 : decode cX7_harp 5 = .ok (.ifCond .eq 12, 3) := by decide +kernel
theorem dX7_harp_8 : decode cX7_harp 8 = .ok (.iload_n 2, 1) := by decide +kernel
theorem dX7_harp_9 : decode cX7_harp 9 = .ok (.iconst 0, 1) := by decide +kernel
theorem dX7_harp_10 : decode cX7_harp 10 = .ok (.iconst 1, 1) := by decide +kernel
theorem dX7_harp_11 : decode cX7_harp 11 = .ok (.invokestatic 78, 3) := by decide +kernel
theorem dX7_harp_14 : decode cX7_harp 14 = .ok (.ifCond .ne 6, 3) := by decide +kernel
theorem dX7_harp_17 : decode cX7_harp 17 = .ok (.ldc 86, 2) := by decide +kernel
theorem dX7_harp_19 : decode cX7_harp 19 = .ok (.ireturn, 1) := by decide +kernel
theorem dX7_harp_20 : decode cX7_harp 20 = .ok (.bipush 29, 2) := by decide +kernel
theorem dX7_harp_22 : decode cX7_harp 22 = .ok (.bipush 7, 2) := by decide +kernel
theorem dX7_harp_24 : decode cX7_harp 24 = .ok (.iload_n 1, 1) := by decide +kernel
theorem dX7_harp_25 : decode cX7_harp 25 = .ok (.imul, 1) := by decide +kernel
theorem dX7_harp_26 : decode cX7_harp 26 = .ok (.iadd, 1) := by decide +kernel
theorem dX7_harp_27 : decode cX7_harp 27 = .ok (.iconst 2, 1) := by decide +kernel
theorem dX7_harp_28 : decode cX7_harp 28 = .ok (.iadd, 1) := by decide +kernel
theorem dX7_harp_29 : decode cX7_harp 29 = .ok (.istore_n 3, 1) := by decide +kernel
theorem dX7_harp_30 : decode cX7_harp 30 = .ok (.aload_n 0, 1) := by decide +kernel
theorem dX7_harp_31 : decode cX7_harp 31 = .ok (.getfield 9, 3) := by decide +kernel
theorem dX7_harp_34 : decode cX7_harp 34 = .ok (.iload_n 3, 1) := by decide +kernel
theorem dX7_harp_35 : decode cX7_harp 35 = .ok (.iaload, 1) := by decide +kernel
theorem dX7_harp_36 : decode cX7_harp 36 = .ok (.istore 4, 2) := by decide +kernel
theorem dX7_harp_38 : decode cX7_harp 38 = .ok (.iconst 0, 1) := by decide +kernel
theorem dX7_harp_39 : decode cX7_harp 39 = .ok (.istore 5, 2) := by decide +kernel
theorem dX7_harp_41 : decode cX7_harp 41 = .ok (.iconst (-1), 1) := by decide +kernel
theorem dX7_harp_42 : decode cX7_harp 42 = .ok (.istore 6, 2) := by decide +kernel
theorem dX7_harp_44 : decode cX7_harp 44 = .ok (.iconst 5, 1) := by decide +kernel
theorem dX7_harp_45 : decode cX7_harp 45 = .ok (.istore 7, 2) := by decide +kernel
theorem dX7_harp_47 : decode cX7_harp 47 = .ok (.iload 7, 2) := by decide +kernel
theorem dX7_harp_49 : decode cX7_harp 49 = .ok (.sipush 500, 3) := by decide +kernel
theorem dX7_harp_52 : decode cX7_harp 52 = .ok (.if_icmp .gt 60, 3) := by decide +kernel
theorem dX7_harp_55 : decode cX7_harp 55 = .ok (.aload_n 0, 1) := by decide +kernel
theorem dX7_harp_56 : decode cX7_harp 56 = .ok (.getfield 9, 3) := by decide +kernel
theorem dX7_harp_59 : decode cX7_harp 59 = .ok (.iload_n 3, 1) := by decide +kernel
theorem dX7_harp_60 : decode cX7_harp 60 = .ok (.iload 7, 2) := by decide +kernel
theorem dX7_harp_62 : decode cX7_harp 62 = .ok (.iastore, 1) := by decide +kernel
theorem dX7_harp_63 : decode cX7_harp 63 = .ok (.aload_n 0, 1) := by decide +kernel
theorem dX7_harp_64 : decode cX7_harp 64 = .ok (.iload_n 1, 1) := by decide +kernel
theorem dX7_harp_65 : decode cX7_harp 65 = .ok (.invokevirtual 173, 3) := by decide +kernel
theorem dX7_harp_68 : decode cX7_harp 68 = .ok (.aload_n 0, 1) := by decide +kernel
theorem dX7_harp_69 : decode cX7_harp 69 = .ok (.getfield 163, 3) := by decide +kernel
theorem dX7_harp_72 : decode cX7_harp 72 = .ok (.iload 6, 2) := by decide +kernel
theorem dX7_harp_74 : decode cX7_harp 74 = .ok (.if_icmp .le 8, 3) := by decide +kernel
theorem dX7_harp_77 : decode cX7_harp 77 = .ok (.iload 7, 2) := by decide +kernel
theorem dX7_harp_79 : decode cX7_harp 79 = .ok (.goto 5, 3) := by decide +kernel
theorem dX7_harp_82 : decode cX7_harp 82 = .ok (.iload 5, 2) := by decide +kernel
theorem dX7_harp_84 : decode cX7_harp 84 = .ok (.istore 5, 2) := by decide +kernel
theorem dX7_harp_86 : decode cX7_harp 86 = .ok (.aload_n 0, 1) := by decide +kernel
theorem dX7_harp_87 : decode cX7_harp 87 = .ok (.getfield 163, 3) := by decide +kernel
theorem dX7_harp_90 : decode cX7_harp 90 = .ok (.iload 6, 2) := by decide +kernel
theorem dX7_harp_92 : decode cX7_harp 92 = .ok (.if_icmp .le 10, 3) := by decide +kernel
theorem dX7_harp_95 : decode cX7_harp 95 = .ok (.aload_n 0, 1) := by decide +kernel
theorem dX7_harp_96 : decode cX7_harp 96 = .ok (.getfield 163, 3) := by decide +kernel
theorem dX7_harp_99 : decode cX7_harp 99 = .ok (.goto 5, 3) := by decide +kernel
theorem dX7_harp_102 : decode cX7_harp 102 = .ok (.iload 6, 2) := by decide +kernel
theorem dX7_harp_104 : decode cX7_harp 104 = .ok (.istore 6, 2) := by decide +kernel
theorem dX7_harp_106 : decode cX7_harp 106 = .ok (.iinc 7 5, 3) := by decide +kernel
theorem dX7_harp_109 : decode cX7_harp 109 = .ok (.goto (-62), 3) := by decide +kernel
theorem dX7_harp_112 : decode cX7_harp 112 = .ok (.aload_n 0, 1) := by decide +kernel
theorem dX7_harp_113 : decode cX7_harp 113 = .ok (.getfield 9, 3) := by decide +kernel
theorem dX7_harp_116 : decode cX7_harp 116 = .ok (.iload_n 3, 1) := by decide +kernel
theorem dX7_harp_117 : decode cX7_harp 117 = .ok (.iload 4, 2) := by decide +kernel
theorem dX7_harp_119 : decode cX7_harp 119 = .ok (.iastore, 1) := by decide +kernel
theorem dX7_harp_120 : decode cX7_harp 120 = .ok (.iload_n 2, 1) := by decide +kernel
theorem dX7_harp_121 : decode cX7_harp 121 = .ok (.ifCond .ne 8, 3) := by decide +kernel
theorem dX7_harp_124 : decode cX7_harp 124 = .ok (.iload 5, 2) := by decide +kernel
theorem dX7_harp_126 : decode cX7_harp 126 = .ok (.goto 5, 3) := by decide +kernel
theorem dX7_harp_129 : decode cX7_harp 129 = .ok (.iload 6, 2) := by decide +kernel
theorem dX7_harp_131 : decode cX7_harp 131 = .ok (.ireturn, 1) := by decide +kernel
theorem dX7_lumps_0 : decode cX7_lumps 0 = .ok (.aload_n 0, 1) := by decide +kernel
theorem dX7_lumps_1 : decode cX7_lumps 1 = .ok (.iload_n 1, 1) := by decide +kernel
theorem dX7_lumps_2 : decode cX7_lumps 2 = .ok (.invokevirtual 92, 3) := by decide +kernel
theorem dX7_lumps_5 : decode cX7_lumps 5 = .ok (.ifCond .eq 13, 3) := by decide +kernel
theorem dX7_lumps_8 : decode cX7_lumps 8 = .ok (.iload_n 2, 1) := by decide +kernel
theorem dX7_lumps_9 : decode cX7_lumps 9 = .ok (.iconst 0, 1) := by decide +kernel
theorem dX7_lumps_10 : decode cX7_lumps 10 = .ok (.ldc 176, 2) := by decide +kernel
theorem dX7_lumps_12 : decode cX7_lumps 12 = .ok (.invokestatic 78, 3) := by decide +kernel
theorem dX7_lumps_15 : decode cX7_lumps 15 = .ok (.ifCond .ne 6, 3) := by decide +kernel
theorem dX7_lumps_18 : decode cX7_lumps 18 = .ok (.ldc 86, 2) := by decide +kernel
theorem dX7_lumps_20 : decode cX7_lumps 20 = .ok (.ireturn, 1) := by decide +kernel
theorem dX7_lumps_21 : decode cX7_lumps 21 = .ok (.bipush 29, 2) := by decide +kernel
theorem dX7_lumps_23 : decode cX7_lumps 23 = .ok (.bipush 7, 2) := by decide +kernel
theorem dX7_lumps_25 : decode cX7_lumps 25 = .ok (.iload_n 1, 1) := by decide +kernel
theorem dX7_lumps_26 : decode cX7_lumps 26 = .ok (.imul, 1) := by decide +kernel
theorem dX7_lumps_27 : decode cX7_lumps 27 = .ok (.iadd, 1) := by decide +kernel
theorem dX7_lumps_28 : decode cX7_lumps 28 = .ok (.iconst 3, 1) := by decide +kernel
theorem dX7_lumps_29 : decode cX7_lumps 29 = .ok (.iadd, 1) := by decide +kernel
theorem dX7_lumps_30 : decode cX7_lumps 30 = .ok (.istore_n 3, 1) := by decide +kernel
theorem dX7_lumps_31 : decode cX7_lumps 31 = .ok (.aload_n 0, 1) := by decide +kernel
theorem dX7_lumps_32 : decode cX7_lumps 32 = .ok (.getfield 9, 3) := by decide +kernel
theorem dX7_lumps_35 : decode cX7_lumps 35 = .ok (.iload_n 3, 1) := by decide +kernel
theorem dX7_lumps_36 : decode cX7_lumps 36 = .ok (.iaload, 1) := by decide +kernel
theorem dX7_lumps_37 : decode cX7_lumps 37 = .ok (.istore 4, 2) := by decide +kernel
theorem dX7_lumps_39 : decode cX7_lumps 39 = .ok (.ldc 159, 2) := by decide +kernel
theorem dX7_lumps_41 : decode cX7_lumps 41 = .ok (.istore 5, 2) := by decide +kernel
theorem dX7_lumps_43 : decode cX7_lumps 43 = .ok (.iconst 0, 1) := by decide +kernel
theorem dX7_lumps_44 : decode cX7_lumps 44 = .ok (.istore 6, 2) := by decide +kernel
theorem dX7_lumps_46 : decode cX7_lumps 46 = .ok (.iload 6, 2) := by decide +kernel
theorem dX7_lumps_48 : decode cX7_lumps 48 = .ok (.bipush 10, 2) := by decide +kernel
theorem dX7_lumps_50 : decode cX7_lumps 50 = .ok (.if_icmp .ge 46, 3) := by decide +kernel
theorem dX7_lumps_53 : decode cX7_lumps 53 = .ok (.iload 5, 2) := by decide +kernel
theorem dX7_lumps_55 : decode cX7_lumps 55 = .ok (.ldc 159, 2) := by decide +kernel
theorem dX7_lumps_57 : decode cX7_lumps 57 = .ok (.if_icmp .ne 39, 3) := by decide +kernel
theorem dX7_lumps_60 : decode cX7_lumps 60 = .ok (.aload_n 0, 1) := by decide +kernel
theorem dX7_lumps_61 : decode cX7_lumps 61 = .ok (.getfield 9, 3) := by decide +kernel
theorem dX7_lumps_64 : decode cX7_lumps 64 = .ok (.iload_n 3, 1) := by decide +kernel
theorem dX7_lumps_65 : decode cX7_lumps 65 = .ok (.iload 6, 2) := by decide +kernel
theorem dX7_lumps_67 : decode cX7_lumps 67 = .ok (.iastore, 1) := by decide +kernel
theorem dX7_lumps_68 : decode cX7_lumps 68 = .ok (.aload_n 0, 1) := by decide +kernel
theorem dX7_lumps_69 : decode cX7_lumps 69 = .ok (.iload_n 1, 1) := by decide +kernel
theorem dX7_lumps_70 : decode cX7_lumps 70 = .ok (.invokevirtual 173, 3) := by decide +kernel
theorem dX7_lumps_73 : decode cX7_lumps 73 = .ok (.aload_n 0, 1) := by decide +kernel
theorem dX7_lumps_74 : decode cX7_lumps 74 = .ok (.getfield 170, 3) := by decide +kernel
theorem dX7_lumps_77 : decode cX7_lumps 77 = .ok (.iload_n 2, 1) := by decide +kernel
theorem dX7_lumps_78 : decode cX7_lumps 78 = .ok (.if_icmp .gt 8, 3) := by decide +kernel
theorem dX7_lumps_81 : decode cX7_lumps 81 = .ok (.iload 6, 2) := by decide +kernel
theorem dX7_lumps_83 : decode cX7_lumps 83 = .ok (.goto 5, 3) := by decide +kernel
theorem dX7_lumps_86 : decode cX7_lumps 86 = .ok (.ldc 159, 2) := by decide +kernel
theorem dX7_lumps_88 : decode cX7_lumps 88 = .ok (.istore 5, 2) := by decide +kernel
theorem dX7_lumps_90 : decode cX7_lumps 90 = .ok (.iinc 6 1, 3) := by decide +kernel
theorem dX7_lumps_93 : decode cX7_lumps 93 = .ok (.goto (-47), 3) := by decide +kernel
theorem dX7_lumps_96 : decode cX7_lumps 96 = .ok (.aload_n 0, 1) := by decide +kernel
theorem dX7_lumps_97 : decode cX7_lumps 97 = .ok (.getfield 9, 3) := by decide +kernel
theorem dX7_lumps_100 : decode cX7_lumps 100 = .ok (.iload_n 3, 1) := by decide +kernel
theorem dX7_lumps_101 : decode cX7_lumps 101 = .ok (.iload 4, 2) := by decide +kernel
theorem dX7_lumps_103 : decode cX7_lumps 103 = .ok (.iastore, 1) := by decide +kernel
theorem dX7_lumps_104 : decode cX7_lumps 104 = .ok (.iload 5, 2) := by decide +kernel
theorem dX7_lumps_106 : decode cX7_lumps 106 = .ok (.ireturn, 1) := by decide +kernel
theorem dX7_blown_0 : decode cX7_blown 0 = .ok (.aload_n 0, 1) := by decide +kernel
theorem dX7_blown_1 : decode cX7_blown 1 = .ok (.iload_n 1, 1) := by decide +kernel
theorem dX7_blown_2 : decode cX7_blown 2 = .ok (.invokevirtual 92, 3) := by decide +kernel
theorem dX7_blown_5 : decode cX7_blown 5 = .ok (.ifCond .eq 12, 3) := by decide +kernel
theorem dX7_blown_8 : decode cX7_blown 8 = .ok (.iload_n 3, 1) := by decide +kernel
theorem dX7_blown_9 : decode cX7_blown 9 = .ok (.iconst 0, 1) := by decide +kernel
theorem dX7_blown_10 : decode cX7_blown 10 = .ok (.iconst 2, 1) := by decide +kernel
theorem dX7_blown_11 : decode cX7_blown 11 = .ok (.invokestatic 78, 3) := by decide +kernel
theorem dX7_blown_14 : decode cX7_blown 14 = .ok (.ifCond .ne 6, 3) := by decide +kernel
theorem dX7_blown_17 : decode cX7_blown 17 = .ok (.ldc 86, 2) := by decide +kernel
theorem dX7_blown_19 : decode cX7_blown 19 = .ok (.ireturn, 1) := by decide +kernel
theorem dX7_blown_20 : decode cX7_blown 20 = .ok (.ldc 159, 2) := by decide +kernel
theorem dX7_blown_22 : decode cX7_blown 22 = .ok (.istore 4, 2) := by decide +kernel
theorem dX7_blown_24 : decode cX7_blown 24 = .ok (.ldc 159, 2) := by decide +kernel
theorem dX7_blown_26 : decode cX7_blown 26 = .ok (.istore 5, 2) := by decide +kernel
theorem dX7_blown_28 : decode cX7_blown 28 = .ok (.iconst 0, 1) := by decide +kernel
theorem dX7_blown_29 : decode cX7_blown 29 = .ok (.istore 6, 2) := by decide +kernel
theorem dX7_blown_31 : decode cX7_blown 31 = .ok (.iconst 0, 1) := by decide +kernel
theorem dX7_blown_32 : decode cX7_blown 32 = .ok (.istore 7, 2) := by decide +kernel
theorem dX7_blown_34 : decode cX7_blown 34 = .ok (.iload 7, 2) := by decide +kernel
theorem dX7_blown_36 : decode cX7_blown 36 = .ok (.bipush 100, 2) := by decide +kernel
theorem dX7_blown_38 : decode cX7_blown 38 = .ok (.if_icmp .ge 41, 3) := by decide +kernel
theorem dX7_blown_41 : decode cX7_blown 41 = .ok (.aload_n 0, 1) := by decide +kernel
theorem dX7_blown_42 : decode cX7_blown 42 = .ok (.iload_n 1, 1) := by decide +kernel
theorem dX7_blown_43 : decode cX7_blown 43 = .ok (.iload 7, 2) := by decide +kernel
theorem dX7_blown_45 : decode cX7_blown 45 = .ok (.invokevirtual 128, 3) := by decide +kernel
theorem dX7_blown_48 : decode cX7_blown 48 = .ok (.iload_n 2, 1) := by decide +kernel
theorem dX7_blown_49 : decode cX7_blown 49 = .ok (.if_icmp .ne 24, 3) := by decide +kernel
theorem dX7_blown_52 : decode cX7_blown 52 = .ok (.iload 6, 2) := by decide +kernel
theorem dX7_blown_54 : decode cX7_blown 54 = .ok (.ifCond .ne 8, 3) := by decide +kernel
theorem dX7_blown_57 : decode cX7_blown 57 = .ok (.iload 7, 2) := by decide +kernel
theorem dX7_blown_59 : decode cX7_blown 59 = .ok (.goto 5, 3) := by decide +kernel
theorem dX7_blown_62 : decode cX7_blown 62 = .ok (.iload 4, 2) := by decide +kernel
theorem dX7_blown_64 : decode cX7_blown 64 = .ok (.istore 4, 2) := by decide +kernel
theorem dX7_blown_66 : decode cX7_blown 66 = .ok (.iload 7, 2) := by decide +kernel
theorem dX7_blown_68 : decode cX7_blown 68 = .ok (.istore 5, 2) := by decide +kernel
theorem dX7_blown_70 : decode cX7_blown 70 = .ok (.iinc 6 1, 3) := by decide +kernel
theorem dX7_blown_73 : decode cX7_blown 73 = .ok (.iinc 7 1, 3) := by decide +kernel
theorem dX7_blown_76 : decode cX7_blown 76 = .ok (.goto (-42), 3) := by decide +kernel
theorem dX7_blown_79 : decode cX7_blown 79 = .ok (.iload_n 3, 1) := by decide +kernel
theorem dX7_blown_80 : decode cX7_blown 80 = .ok (.ifCond .ne 8, 3) := by decide +kernel
theorem dX7_blown_83 : decode cX7_blown 83 = .ok (.iload 4, 2) := by decide +kernel
theorem dX7_blown_85 : decode cX7_blown 85 = .ok (.goto 15, 3) := by decide +kernel
theorem dX7_blown_88 : decode cX7_blown 88 = .ok (.iload_n 3, 1) := by decide +kernel
theorem dX7_blown_89 : decode cX7_blown 89 = .ok (.iconst 1, 1) := by decide +kernel
theorem dX7_blown_90 : decode cX7_blown 90 = .ok (.if_icmp .ne 8, 3) := by decide +kernel
theorem dX7_blown_93 : decode cX7_blown 93 = .ok (.iload 5, 2) := by decide +kernel
theorem dX7_blown_95 : decode cX7_blown 95 = .ok (.goto 5, 3) := by decide +kernel
theorem dX7_blown_98 : decode cX7_blown 98 = .ok (.iload 6, 2) := by decide +kernel
theorem dX7_blown_100 : decode cX7_blown 100 = .ok (.ireturn, 1) := by decide +kernel
theorem dX7_feed_0 : decode cX7_feed 0 = .ok (.aload_n 0, 1) := by decide +kernel
theorem dX7_feed_1 : decode cX7_feed 1 = .ok (.getfield 177, 3) := by decide +kernel
theorem dX7_feed_4 : decode cX7_feed 4 = .ok (.bipush 12, 2) := by decide +kernel
theorem dX7_feed_6 : decode cX7_feed 6 = .ok (.iadd, 1) := by decide +kernel
theorem dX7_feed_7 : decode cX7_feed 7 = .ok (.bipush 96, 2) := by decide +kernel
theorem dX7_feed_9 : decode cX7_feed 9 = .ok (.if_icmp .le 6, 3) := by decide +kernel
theorem dX7_feed_12 : decode cX7_feed 12 = .ok (.ldc 87, 2) := by decide +kernel
theorem dX7_feed_14 : decode cX7_feed 14 = .ok (.ireturn, 1) := by decide +kernel
theorem dX7_feed_15 : decode cX7_feed 15 = .ok (.iconst 0, 1) := by decide +kernel
theorem dX7_feed_16 : decode cX7_feed 16 = .ok (.istore 4, 2) := by decide +kernel
theorem dX7_feed_18 : decode cX7_feed 18 = .ok (.iload 4, 2) := by decide +kernel
theorem dX7_feed_20 : decode cX7_feed 20 = .ok (.bipush 12, 2) := by decide +kernel
theorem dX7_feed_22 : decode cX7_feed 22 = .ok (.if_icmp .ge 62, 3) := by decide +kernel
theorem dX7_feed_25 : decode cX7_feed 25 = .ok (.iload 4, 2) := by decide +kernel
theorem dX7_feed_27 : decode cX7_feed 27 = .ok (.iconst 4, 1) := by decide +kernel
theorem dX7_feed_28 : decode cX7_feed 28 = .ok (.if_icmp .ge 7, 3) := by decide +kernel
theorem dX7_feed_31 : decode cX7_feed 31 = .ok (.iload_n 1, 1) := by decide +kernel
theorem dX7_feed_32 : decode cX7_feed 32 = .ok (.goto 15, 3) := by decide +kernel
theorem dX7_feed_35 : decode cX7_feed 35 = .ok (.iload 4, 2) := by decide +kernel
theorem dX7_feed_37 : decode cX7_feed 37 = .ok (.bipush 8, 2) := by decide +kernel
theorem dX7_feed_39 : decode cX7_feed 39 = .ok (.if_icmp .ge 7, 3) := by decide +kernel
theorem dX7_feed_42 : decode cX7_feed 42 = .ok (.iload_n 2, 1) := by decide +kernel
theorem dX7_feed_43 : decode cX7_feed 43 = .ok (.goto 4, 3) := by decide +kernel
theorem dX7_feed_46 : decode cX7_feed 46 = .ok (.iload_n 3, 1) := by decide +kernel
theorem dX7_feed_47 : decode cX7_feed 47 = .ok (.istore 5, 2) := by decide +kernel
theorem dX7_feed_49 : decode cX7_feed 49 = .ok (.aload_n 0, 1) := by decide +kernel
theorem dX7_feed_50 : decode cX7_feed 50 = .ok (.getfield 25, 3) := by decide +kernel
theorem dX7_feed_53 : decode cX7_feed 53 = .ok (.aload_n 0, 1) := by decide +kernel
theorem dX7_feed_54 : decode cX7_feed 54 = .ok (.getfield 177, 3) := by decide +kernel
theorem dX7_feed_57 : decode cX7_feed 57 = .ok (.iload 4, 2) := by decide +kernel
theorem dX7_feed_59 : decode cX7_feed 59 = .ok (.iadd, 1) := by decide +kernel
theorem dX7_feed_60 : decode cX7_feed 60 = .ok (.iload 5, 2) := by decide +kernel
theorem dX7_feed_62 : decode cX7_feed 62 = .ok (.bipush 24, 2) := by decide +kernel
theorem dX7_feed_64 : decode cX7_feed 64 = .ok (.bipush 8, 2) := by decide +kernel
theorem dX7_feed_66 : decode cX7_feed 66 = .ok (.iload 4, 2) := by decide +kernel
theorem dX7_feed_68 : decode cX7_feed 68 = .ok (.iconst 4, 1) := by decide +kernel
theorem dX7_feed_69 : decode cX7_feed 69 = .ok (.irem, 1) := by decide +kernel
theorem dX7_feed_70 : decode cX7_feed 70 = .ok (.imul, 1) := by decide +kernel
theorem dX7_feed_71 : decode cX7_feed 71 = .ok (.isub, 1) := by decide +kernel
theorem dX7_feed_72 : decode cX7_feed 72 = .ok (.ishr, 1) := by decide +kernel
theorem dX7_feed_73 : decode cX7_feed 73 = .ok (.sipush 255, 3) := by decide +kernel
theorem dX7_feed_76 : decode cX7_feed 76 = .ok (.iand, 1) := by decide +kernel
theorem dX7_feed_77 : decode cX7_feed 77 = .ok (.iastore, 1) := by decide +kernel
theorem dX7_feed_78 : decode cX7_feed 78 = .ok (.iinc 4 1, 3) := by decide +kernel
theorem dX7_feed_81 : decode cX7_feed 81 = .ok (.goto (-63), 3) := by decide +kernel
theorem dX7_feed_84 : decode cX7_feed 84 = .ok (.aload_n 0, 1) := by decide +kernel
theorem dX7_feed_85 : decode cX7_feed 85 = .ok (.dup, 1) := by decide +kernel
theorem dX7_feed_86 : decode cX7_feed 86 = .ok (.getfield 177, 3) := by decide +kernel
theorem dX7_feed_89 : decode cX7_feed 89 = .ok (.bipush 12, 2) := by decide +kernel
theorem dX7_feed_91 : decode cX7_feed 91 = .ok (.iadd, 1) := by decide +kernel
theorem dX7_feed_92 : decode cX7_feed 92 = .ok (.putfield 177, 3) := by decide +kernel
theorem dX7_feed_95 : decode cX7_feed 95 = .ok (.aload_n 0, 1) := by decide +kernel
theorem dX7_feed_96 : decode cX7_feed 96 = .ok (.getfield 177, 3) := by decide +kernel
theorem dX7_feed_99 : decode cX7_feed 99 = .ok (.ireturn, 1) := by decide +kernel
theorem dX7_trim_0 : decode cX7_trim 0 = .ok (.iload_n 1, 1) := by decide +kernel
theorem dX7_trim_1 : decode cX7_trim 1 = .ok (.iconst 0, 1) := by decide +kernel
theorem dX7_trim_2 : decode cX7_trim 2 = .ok (.aload_n 0, 1) := by decide +kernel
theorem dX7_trim_3 : decode cX7_trim 3 = .ok (.getfield 177, 3) := by decide +kernel
theorem dX7_trim_6 : decode cX7_trim 6 = .ok (.invokestatic 78, 3) := by decide +kernel
theorem dX7_trim_9 : decode cX7_trim 9 = .ok (.ifCond .ne 6, 3) := by decide +kernel
theorem dX7_trim_12 : decode cX7_trim 12 = .ok (.ldc 86, 2) := by decide +kernel
theorem dX7_trim_14 : decode cX7_trim 14 = .ok (.ireturn, 1) := by decide +kernel
theorem dX7_trim_15 : decode cX7_trim 15 = .ok (.aload_n 0, 1) := by decide +kernel
theorem dX7_trim_16 : decode cX7_trim 16 = .ok (.iload_n 1, 1) := by decide +kernel
theorem dX7_trim_17 : decode cX7_trim 17 = .ok (.putfield 177, 3) := by decide +kernel
theorem dX7_trim_20 : decode cX7_trim 20 = .ok (.iload_n 1, 1) := by decide +kernel
theorem dX7_trim_21 : decode cX7_trim 21 = .ok (.ireturn, 1) := by decide +kernel
theorem dX7_isLetter_0 : decode cX7_isLetter 0 = .ok (.iload_n 1, 1) := by decide +kernel
theorem dX7_isLetter_1 : decode cX7_isLetter 1 = .ok (.aload_n 0, 1) := by decide +kernel
theorem dX7_isLetter_2 : decode cX7_isLetter 2 = .ok (.getfield 177, 3) := by decide +kernel
theorem dX7_isLetter_5 : decode cX7_isLetter 5 = .ok (.if_icmp .ge 29, 3) := by decide +kernel
theorem dX7_isLetter_8 : decode cX7_isLetter 8 = .ok (.aload_n 0, 1) := by decide +kernel
theorem dX7_isLetter_9 : decode cX7_isLetter 9 = .ok (.getfield 25, 3) := by decide +kernel
theorem dX7_isLetter_12 : decode cX7_isLetter 12 = .ok (.iload_n 1, 1) := by decide +kernel
theorem dX7_isLetter_13 : decode cX7_isLetter 13 = .ok (.iaload, 1) := by decide +kernel
theorem dX7_isLetter_14 : decode cX7_isLetter 14 = .ok (.bipush 97, 2) := by decide +kernel
theorem dX7_isLetter_16 : decode cX7_isLetter 16 = .ok (.if_icmp .lt 18, 3) := by decide +kernel
theorem dX7_isLetter_19 : decode cX7_isLetter 19 = .ok (.aload_n 0, 1) := by decide +kernel
theorem dX7_isLetter_20 : decode cX7_isLetter 20 = .ok (.getfield 25, 3) := by decide +kernel
theorem dX7_isLetter_23 : decode cX7_isLetter 23 = .ok (.iload_n 1, 1) := by decide +kernel
theorem dX7_isLetter_24 : decode cX7_isLetter 24 = .ok (.iaload, 1) := by decide +kernel
theorem dX7_isLetter_25 : decode cX7_isLetter 25 = .ok (.bipush 122, 2) := by decide +kernel
theorem dX7_isLetter_27 : decode cX7_isLetter 27 = .ok (.if_icmp .gt 7, 3) := by decide +kernel
theorem dX7_isLetter_30 : decode cX7_isLetter 30 = .ok (.iconst 1, 1) := by decide +kernel
theorem dX7_isLetter_31 : decode cX7_isLetter 31 = .ok (.goto 4, 3) := by decide +kernel
theorem dX7_isLetter_34 : decode cX7_isLetter 34 = .ok (.iconst 0, 1) := by decide +kernel
theorem dX7_isLetter_35 : decode cX7_isLetter 35 = .ok (.ireturn, 1) := by decide +kernel
theorem dX7_isFigure_0 : decode cX7_isFigure 0 = .ok (.iload_n 1, 1) := by decide +kernel
theorem dX7_isFigure_1 : decode cX7_isFigure 1 = .ok (.aload_n 0, 1) := by decide +kernel
theorem dX7_isFigure_2 : decode cX7_isFigure 2 = .ok (.getfield 177, 3) := by decide +kernel
theorem dX7_isFigure_5 : decode cX7_isFigure 5 = .ok (.if_icmp .ge 29, 3) := by decide +kernel
theorem dX7_isFigure_8 : decode cX7_isFigure 8 = .ok (.aload_n 0, 1) := by decide +kernel
theorem dX7_isFigure_9 : decode cX7_isFigure 9 = .ok (.getfield 25, 3) := by decide +kernel
theorem dX7_isFigure_12 : decode cX7_isFigure 12 = .ok (.iload_n 1, 1) := by decide +kernel
theorem dX7_isFigure_13 : decode cX7_isFigure 13 = .ok (.iaload, 1) := by decide +kernel
theorem dX7_isFigure_14 : decode cX7_isFigure 14 = .ok (.bipush 48, 2) := by decide +kernel
theorem dX7_isFigure_16 : decode cX7_isFigure 16 = .ok (.if_icmp .lt 18, 3) := by decide +kernel
theorem dX7_isFigure_19 : decode cX7_isFigure 19 = .ok (.aload_n 0, 1) := by decide +kernel
theorem dX7_isFigure_20 : decode cX7_isFigure 20 = .ok (.getfield 25, 3) := by decide +kernel
theorem dX7_isFigure_23 : decode cX7_isFigure 23 = .ok (.iload_n 1, 1) := by decide +kernel
theorem dX7_isFigure_24 : decode cX7_isFigure 24 = .ok (.iaload, 1) := by decide +kernel
theorem dX7_isFigure_25 : decode cX7_isFigure 25 = .ok (.bipush 57, 2) := by decide +kernel
theorem dX7_isFigure_27 : decode cX7_isFigure 27 = .ok (.if_icmp .gt 7, 3) := by decide +kernel
theorem dX7_isFigure_30 : decode cX7_isFigure 30 = .ok (.iconst 1, 1) := by decide +kernel
theorem dX7_isFigure_31 : decode cX7_isFigure 31 = .ok (.goto 4, 3) := by decide +kernel
theorem dX7_isFigure_34 : decode cX7_isFigure 34 = .ok (.iconst 0, 1) := by decide +kernel
theorem dX7_isFigure_35 : decode cX7_isFigure 35 = .ok (.ireturn, 1) := by decide +kernel
theorem dX7_go_0 : decode cX7_go 0 = .ok (.aload_n 0, 1) := by decide +kernel
theorem dX7_go_1 : decode cX7_go 1 = .ok (.getfield 180, 3) := by decide +kernel
theorem dX7_go_4 : decode cX7_go 4 = .ok (.aload_n 0, 1) := by decide +kernel
theorem dX7_go_5 : decode cX7_go 5 = .ok (.getfield 177, 3) := by decide +kernel
theorem dX7_go_8 : decode cX7_go 8 = .ok (.if_icmp .ge 30, 3) := by decide +kernel
theorem dX7_go_11 : decode cX7_go 11 = .ok (.aload_n 0, 1) := by decide +kernel
theorem dX7_go_12 : decode cX7_go 12 = .ok (.getfield 25, 3) := by decide +kernel
theorem dX7_go_15 : decode cX7_go 15 = .ok (.aload_n 0, 1) := by decide +kernel
theorem dX7_go_16 : decode cX7_go 16 = .ok (.getfield 180, 3) := by decide +kernel
theorem dX7_go_19 : decode cX7_go 19 = .ok (.iaload, 1) := by decide +kernel
theorem dX7_go_20 : decode cX7_go 20 = .ok (.bipush 32, 2) := by decide +kernel
theorem dX7_go_22 : decode cX7_go 22 = .ok (.if_icmp .ne 16, 3) := by decide +kernel
theorem dX7_go_25 : decode cX7_go 25 = .ok (.aload_n 0, 1) := by decide +kernel
theorem dX7_go_26 : decode cX7_go 26 = .ok (.dup, 1) := by decide +kernel
theorem dX7_go_27 : decode cX7_go 27 = .ok (.getfield 180, 3) := by decide +kernel
theorem dX7_go_30 : decode cX7_go 30 = .ok (.iconst 1, 1) := by decide +kernel
theorem dX7_go_31 : decode cX7_go 31 = .ok (.iadd, 1) := by decide +kernel
theorem dX7_go_32 : decode cX7_go 32 = .ok (.putfield 180, 3) := by decide +kernel
theorem dX7_go_35 : decode cX7_go 35 = .ok (.goto (-35), 3) := by decide +kernel
theorem dX7_go_38 : decode cX7_go 38 = .ok (.aload_n 0, 1) := by decide +kernel
theorem dX7_go_39 : decode cX7_go 39 = .ok (.aload_n 0, 1) := by decide +kernel
theorem dX7_go_40 : decode cX7_go 40 = .ok (.getfield 180, 3) := by decide +kernel
theorem dX7_go_43 : decode cX7_go 43 = .ok (.putfield 183, 3) := by decide +kernel
theorem dX7_go_46 : decode cX7_go 46 = .ok (.aload_n 0, 1) := by decide +kernel
theorem dX7_go_47 : decode cX7_go 47 = .ok (.getfield 183, 3) := by decide +kernel
theorem dX7_go_50 : decode cX7_go 50 = .ok (.aload_n 0, 1) := by decide +kernel
theorem dX7_go_51 : decode cX7_go 51 = .ok (.getfield 186, 3) := by decide +kernel
theorem dX7_go_54 : decode cX7_go 54 = .ok (.if_icmp .ne 7, 3) := by decide +kernel
theorem dX7_go_57 : decode cX7_go 57 = .ok (.iconst 1, 1) := by decide +kernel
theorem dX7_go_58 : decode cX7_go 58 = .ok (.goto 4, 3) := by decide +kernel
theorem dX7_go_61 : decode cX7_go 61 = .ok (.iconst 0, 1) := by decide +kernel
theorem dX7_go_62 : decode cX7_go 62 = .ok (.istore_n 1, 1) := by decide +kernel
theorem dX7_go_63 : decode cX7_go 63 = .ok (.aload_n 0, 1) := by decide +kernel
theorem dX7_go_64 : decode cX7_go 64 = .ok (.getfield 183, 3) := by decide +kernel
theorem dX7_go_67 : decode cX7_go 67 = .ok (.aload_n 0, 1) := by decide +kernel
theorem dX7_go_68 : decode cX7_go 68 = .ok (.getfield 177, 3) := by decide +kernel
theorem dX7_go_71 : decode cX7_go 71 = .ok (.if_icmp .ne 11, 3) := by decide +kernel
theorem dX7_go_74 : decode cX7_go 74 = .ok (.aload_n 0, 1) := by decide +kernel
theorem dX7_go_75 : decode cX7_go 75 = .ok (.iconst 0, 1) := by decide +kernel
theorem dX7_go_76 : decode cX7_go 76 = .ok (.putfield 189, 3) := by decide +kernel
theorem dX7_go_79 : decode cX7_go 79 = .ok (.goto 224, 3) := by decide +kernel
theorem dX7_go_82 : decode cX7_go 82 = .ok (.aload_n 0, 1) := by decide +kernel
theorem dX7_go_83 : decode cX7_go 83 = .ok (.aload_n 0, 1) := by decide +kernel
theorem dX7_go_84 : decode cX7_go 84 = .ok (.getfield 183, 3) := by decide +kernel
theorem dX7_go_87 : decode cX7_go 87 = .ok (.invokevirtual 192, 3) := by decide +kernel
theorem dX7_go_90 : decode cX7_go 90 = .ok (.ifCond .eq 64, 3) := by decide +kernel
theorem dX7_go_93 : decode cX7_go 93 = .ok (.aload_n 0, 1) := by decide +kernel
theorem dX7_go_94 : decode cX7_go 94 = .ok (.aload_n 0, 1) := by decide +kernel
theorem dX7_go_95 : decode cX7_go 95 = .ok (.getfield 180, 3) := by decide +kernel
theorem dX7_go_98 : decode cX7_go 98 = .ok (.invokevirtual 192, 3) := by decide +kernel
theorem dX7_go_101 : decode cX7_go 101 = .ok (.ifCond .eq 16, 3) := by decide +kernel
theorem dX7_go_104 : decode cX7_go 104 = .ok (.aload_n 0, 1) := by decide +kernel
theorem dX7_go_105 : decode cX7_go 105 = .ok (.dup, 1) := by decide +kernel
theorem dX7_go_106 : decode cX7_go 106 = .ok (.getfield 180, 3) := by decide +kernel
theorem dX7_go_109 : decode cX7_go 109 = .ok (.iconst 1, 1) := by decide +kernel
theorem dX7_go_110 : decode cX7_go 110 = .ok (.iadd, 1) := by decide +kernel
theorem dX7_go_111 : decode cX7_go 111 = .ok (.putfield 180, 3) := by decide +kernel
theorem dX7_go_114 : decode cX7_go 114 = .ok (.goto (-21), 3) := by decide +kernel
theorem dX7_go_117 : decode cX7_go 117 = .ok (.aload_n 0, 1) := by decide +kernel
theorem dX7_go_118 : decode cX7_go 118 = .ok (.iload_n 1, 1) := by decide +kernel
theorem dX7_go_119 : decode cX7_go 119 = .ok (.ifCond .eq 7, 3) := by decide +kernel
theorem dX7_go_122 : decode cX7_go 122 = .ok (.iconst 4, 1) := by decide +kernel
theorem dX7_go_123 : decode cX7_go 123 = .ok (.goto 4, 3) := by decide +kernel
theorem dX7_go_126 : decode cX7_go 126 = .ok (.iconst 1, 1) := by decide +kernel
theorem dX7_go_127 : decode cX7_go 127 = .ok (.putfield 189, 3) := by decide +kernel
theorem dX7_go_130 : decode cX7_go 130 = .ok (.aload_n 0, 1) := by decide +kernel
theorem dX7_go_131 : decode cX7_go 131 = .ok (.aload_n 0, 1) := by decide +kernel
theorem dX7_go_132 : decode cX7_go 132 = .ok (.getfield 25, 3) := by decide +kernel
theorem dX7_go_135 : decode cX7_go 135 = .ok (.aload_n 0, 1) := by decide +kernel
theorem dX7_go_136 : decode cX7_go 136 = .ok (.getfield 183, 3) := by decide +kernel
theorem dX7_go_139 : decode cX7_go 139 = .ok (.iaload, 1) := by decide +kernel
theorem dX7_go_140 : decode cX7_go 140 = .ok (.putfield 195, 3) := by decide +kernel
theorem dX7_go_143 : decode cX7_go 143 = .ok (.aload_n 0, 1) := by decide +kernel
theorem dX7_go_144 : decode cX7_go 144 = .ok (.aload_n 0, 1) := by decide +kernel
theorem dX7_go_145 : decode cX7_go 145 = .ok (.getfield 180, 3) := by decide +kernel
theorem dX7_go_148 : decode cX7_go 148 = .ok (.putfield 186, 3) := by decide +kernel
theorem dX7_go_151 : decode cX7_go 151 = .ok (.goto 152, 3) := by decide +kernel
theorem dX7_go_154 : decode cX7_go 154 = .ok (.aload_n 0, 1) := by decide +kernel
theorem dX7_go_155 : decode cX7_go 155 = .ok (.aload_n 0, 1) := by decide +kernel
theorem dX7_go_156 : decode cX7_go 156 = .ok (.getfield 183, 3) := by decide +kernel
theorem dX7_go_159 : decode cX7_go 159 = .ok (.invokevirtual 198, 3) := by decide +kernel
theorem dX7_go_162 : decode cX7_go 162 = .ok (.ifCond .eq 113, 3) := by decide +kernel
theorem dX7_go_165 : decode cX7_go 165 = .ok (.aload_n 0, 1) := by decide +kernel
theorem dX7_go_166 : decode cX7_go 166 = .ok (.iconst 0, 1) := by decide +kernel
theorem dX7_go_167 : decode cX7_go 167 = .ok (.putfield 195, 3) := by decide +kernel
theorem dX7_go_170 : decode cX7_go 170 = .ok (.aload_n 0, 1) := by decide +kernel
theorem dX7_go_171 : decode cX7_go 171 = .ok (.aload_n 0, 1) := by decide +kernel
theorem dX7_go_172 : decode cX7_go 172 = .ok (.getfield 180, 3) := by decide +kernel
theorem dX7_go_175 : decode cX7_go 175 = .ok (.invokevirtual 198, 3) := by decide +kernel
theorem dX7_go_178 : decode cX7_go 178 = .ok (.ifCond .eq 60, 3) := by decide +kernel
theorem dX7_go_181 : decode cX7_go 181 = .ok (.aload_n 0, 1) := by decide +kernel
theorem dX7_go_182 : decode cX7_go 182 = .ok (.aload_n 0, 1) := by decide +kernel
theorem dX7_go_183 : decode cX7_go 183 = .ok (.getfield 180, 3) := by decide +kernel
theorem dX7_go_186 : decode cX7_go 186 = .ok (.aload_n 0, 1) := by decide +kernel
theorem dX7_go_187 : decode cX7_go 187 = .ok (.getfield 183, 3) := by decide +kernel
theorem dX7_go_190 : decode cX7_go 190 = .ok (.isub, 1) := by decide +kernel
theorem dX7_go_191 : decode cX7_go 191 = .ok (.iconst 4, 1) := by decide +kernel
theorem dX7_go_192 : decode cX7_go 192 = .ok (.if_icmp .ge 26, 3) := by decide +kernel
theorem dX7_go_195 : decode cX7_go 195 = .ok (.bipush 10, 2) := by decide +kernel
theorem dX7_go_197 : decode cX7_go 197 = .ok (.aload_n 0, 1) := by decide +kernel
theorem dX7_go_198 : decode cX7_go 198 = .ok (.getfield 195, 3) := by decide +kernel
theorem dX7_go_201 : decode cX7_go 201 = .ok (.imul, 1) := by decide +kernel
theorem dX7_go_202 : decode cX7_go 202 = .ok (.aload_n 0, 1) := by decide +kernel
theorem dX7_go_203 : decode cX7_go 203 = .ok (.getfield 25, 3) := by decide +kernel
theorem dX7_go_206 : decode cX7_go 206 = .ok (.aload_n 0, 1) := by decide +kernel
theorem dX7_go_207 : decode cX7_go 207 = .ok (.getfield 180, 3) := by decide +kernel
theorem dX7_go_210 : decode cX7_go 210 = .ok (.iaload, 1) := by decide +kernel
theorem dX7_go_211 : decode cX7_go 211 = .ok (.iadd, 1) := by decide +kernel
theorem dX7_go_212 : decode cX7_go 212 = .ok (.bipush 48, 2) := by decide +kernel
theorem dX7_go_214 : decode cX7_go 214 = .ok (.isub, 1) := by decide +kernel
theorem dX7_go_215 : decode cX7_go 215 = .ok (.goto 7, 3) := by decide +kernel
theorem dX7_go_218 : decode cX7_go 218 = .ok (.aload_n 0, 1) := by decide +kernel
theorem dX7_go_219 : decode cX7_go 219 = .ok (.getfield 195, 3) := by decide +kernel
theorem dX7_go_222 : decode cX7_go 222 = .ok (.putfield 195, 3) := by decide +kernel
theorem dX7_go_225 : decode cX7_go 225 = .ok (.aload_n 0, 1) := by decide +kernel
theorem dX7_go_226 : decode cX7_go 226 = .ok (.dup, 1) := by decide +kernel
theorem dX7_go_227 : decode cX7_go 227 = .ok (.getfield 180, 3) := by decide +kernel
theorem dX7_go_230 : decode cX7_go 230 = .ok (.iconst 1, 1) := by decide +kernel
theorem dX7_go_231 : decode cX7_go 231 = .ok (.iadd, 1) := by decide +kernel
theorem dX7_go_232 : decode cX7_go 232 = .ok (.putfield 180, 3) := by decide +kernel
theorem dX7_go_235 : decode cX7_go 235 = .ok (.goto (-65), 3) := by decide +kernel
theorem dX7_go_238 : decode cX7_go 238 = .ok (.aload_n 0, 1) := by decide +kernel
theorem dX7_go_239 : decode cX7_go 239 = .ok (.iload_n 1, 1) := by decide +kernel
theorem dX7_go_240 : decode cX7_go 240 = .ok (.ifCond .ne 16, 3) := by decide +kernel
theorem dX7_go_243 : decode cX7_go 243 = .ok (.aload_n 0, 1) := by decide +kernel
theorem dX7_go_244 : decode cX7_go 244 = .ok (.getfield 180, 3) := by decide +kernel
theorem dX7_go_247 : decode cX7_go 247 = .ok (.aload_n 0, 1) := by decide +kernel
theorem dX7_go_248 : decode cX7_go 248 = .ok (.getfield 183, 3) := by decide +kernel
theorem dX7_go_251 : decode cX7_go 251 = .ok (.isub, 1) := by decide +kernel
theorem dX7_go_252 : decode cX7_go 252 = .ok (.iconst 4, 1) := by decide +kernel
theorem dX7_go_253 : decode cX7_go 253 = .ok (.if_icmp .le 7, 3) := by decide +kernel
theorem dX7_go_256 : decode cX7_go 256 = .ok (.iconst 4, 1) := by decide +kernel
theorem dX7_go_257 : decode cX7_go 257 = .ok (.goto 4, 3) := by decide +kernel
theorem dX7_go_260 : decode cX7_go 260 = .ok (.iconst 2, 1) := by decide +kernel
theorem dX7_go_261 : decode cX7_go 261 = .ok (.putfield 189, 3) := by decide +kernel
theorem dX7_go_264 : decode cX7_go 264 = .ok (.aload_n 0, 1) := by decide +kernel
theorem dX7_go_265 : decode cX7_go 265 = .ok (.aload_n 0, 1) := by decide +kernel
theorem dX7_go_266 : decode cX7_go 266 = .ok (.getfield 180, 3) := by decide +kernel
theorem dX7_go_269 : decode cX7_go 269 = .ok (.putfield 186, 3) := by decide +kernel
theorem dX7_go_272 : decode cX7_go 272 = .ok (.goto 31, 3) := by decide +kernel
theorem dX7_go_275 : decode cX7_go 275 = .ok (.aload_n 0, 1) := by decide +kernel
theorem dX7_go_276 : decode cX7_go 276 = .ok (.iconst 3, 1) := by decide +kernel
theorem dX7_go_277 : decode cX7_go 277 = .ok (.putfield 189, 3) := by decide +kernel
theorem dX7_go_280 : decode cX7_go 280 = .ok (.aload_n 0, 1) := by decide +kernel
theorem dX7_go_281 : decode cX7_go 281 = .ok (.aload_n 0, 1) := by decide +kernel
theorem dX7_go_282 : decode cX7_go 282 = .ok (.getfield 25, 3) := by decide +kernel
theorem dX7_go_285 : decode cX7_go 285 = .ok (.aload_n 0, 1) := by decide +kernel
theorem dX7_go_286 : decode cX7_go 286 = .ok (.getfield 183, 3) := by decide +kernel
theorem dX7_go_289 : decode cX7_go 289 = .ok (.iaload, 1) := by decide +kernel
theorem dX7_go_290 : decode cX7_go 290 = .ok (.putfield 195, 3) := by decide +kernel
theorem dX7_go_293 : decode cX7_go 293 = .ok (.aload_n 0, 1) := by decide +kernel
theorem dX7_go_294 : decode cX7_go 294 = .ok (.dup, 1) := by decide +kernel
theorem dX7_go_295 : decode cX7_go 295 = .ok (.getfield 180, 3) := by decide +kernel
theorem dX7_go_298 : decode cX7_go 298 = .ok (.iconst 1, 1) := by decide +kernel
theorem dX7_go_299 : decode cX7_go 299 = .ok (.iadd, 1) := by decide +kernel
theorem dX7_go_300 : decode cX7_go 300 = .ok (.putfield 180, 3) := by decide +kernel
theorem dX7_go_303 : decode cX7_go 303 = .ok (.return_, 1) := by decide +kernel
theorem dX7_takesKey_0 : decode cX7_takesKey 0 = .ok (.aload_n 0, 1) := by decide +kernel
theorem dX7_takesKey_1 : decode cX7_takesKey 1 = .ok (.getfield 189, 3) := by decide +kernel
theorem dX7_takesKey_4 : decode cX7_takesKey 4 = .ok (.iconst 1, 1) := by decide +kernel
theorem dX7_takesKey_5 : decode cX7_takesKey 5 = .ok (.if_icmp .eq 5, 3) := by decide +kernel
theorem dX7_takesKey_8 : decode cX7_takesKey 8 = .ok (.iconst 0, 1) := by decide +kernel
theorem dX7_takesKey_9 : decode cX7_takesKey 9 = .ok (.ireturn, 1) := by decide +kernel
theorem dX7_takesKey_10 : decode cX7_takesKey 10 = .ok (.iconst 0, 1) := by decide +kernel
theorem dX7_takesKey_11 : decode cX7_takesKey 11 = .ok (.istore_n 1, 1) := by decide +kernel
theorem dX7_takesKey_12 : decode cX7_takesKey 12 = .ok (.iload_n 1, 1) := by decide +kernel
theorem dX7_takesKey_13 : decode cX7_takesKey 13 = .ok (.iconst 3, 1) := by decide +kernel
theorem dX7_takesKey_14 : decode cX7_takesKey 14 = .ok (.if_icmp .ge 113, 3) := by decide +kernel
theorem dX7_takesKey_17 : decode cX7_takesKey 17 = .ok (.aload_n 0, 1) := by decide +kernel
theorem dX7_takesKey_18 : decode cX7_takesKey 18 = .ok (.getfield 32, 3) := by decide +kernel
theorem dX7_takesKey_21 : decode cX7_takesKey 21 = .ok (.iload_n 1, 1) := by decide +kernel
theorem dX7_takesKey_22 : decode cX7_takesKey 22 = .ok (.iconst 1, 1) := by decide +kernel
theorem dX7_takesKey_23 : decode cX7_takesKey 23 = .ok (.iadd, 1) := by decide +kernel
theorem dX7_takesKey_24 : decode cX7_takesKey 24 = .ok (.iaload, 1) := by decide +kernel
theorem dX7_takesKey_25 : decode cX7_takesKey 25 = .ok (.aload_n 0, 1) := by decide +kernel
theorem dX7_takesKey_26 : decode cX7_takesKey 26 = .ok (.getfield 32, 3) := by decide +kernel
theorem dX7_takesKey_29 : decode cX7_takesKey 29 = .ok (.iload_n 1, 1) := by decide +kernel
theorem dX7_takesKey_30 : decode cX7_takesKey 30 = .ok (.iaload, 1) := by decide +kernel
theorem dX7_takesKey_31 : decode cX7_takesKey 31 = .ok (.isub, 1) := by decide +kernel
theorem dX7_takesKey_32 : decode cX7_takesKey 32 = .ok (.istore_n 2, 1) := by decide +kernel
theorem dX7_takesKey_33 : decode cX7_takesKey 33 = .ok (.iload_n 2, 1) := by decide +kernel
theorem dX7_takesKey_34 : decode cX7_takesKey 34 = .ok (.aload_n 0, 1) := by decide +kernel
theorem dX7_takesKey_35 : decode cX7_takesKey 35 = .ok (.getfield 180, 3) := by decide +kernel
theorem dX7_takesKey_38 : decode cX7_takesKey 38 = .ok (.aload_n 0, 1) := by decide +kernel
theorem dX7_takesKey_39 : decode cX7_takesKey 39 = .ok (.getfield 183, 3) := by decide +kernel
theorem dX7_takesKey_42 : decode cX7_takesKey 42 = .ok (.isub, 1) := by decide +kernel
theorem dX7_takesKey_43 : decode cX7_takesKey 43 = .ok (.if_icmp .ne 7, 3) := by decide +kernel
theorem dX7_takesKey_46 : decode cX7_takesKey 46 = .ok (.iconst 1, 1) := by decide +kernel
theorem dX7_takesKey_47 : decode cX7_takesKey 47 = .ok (.goto 4, 3) := by decide +kernel
theorem dX7_takesKey_50 : decode cX7_takesKey 50 = .ok (.iconst 0, 1) := by decide +kernel
theorem dX7_takesKey_51 : decode cX7_takesKey 51 = .ok (.istore_n 3, 1) := by decide +kernel
theorem dX7_takesKey_52 : decode cX7_takesKey 52 = .ok (.iconst 0, 1) := by decide +kernel
theorem dX7_takesKey_53 : decode cX7_takesKey 53 = .ok (.istore 4, 2) := by decide +kernel
theorem dX7_takesKey_55 : decode cX7_takesKey 55 = .ok (.iload 4, 2) := by decide +kernel
theorem dX7_takesKey_57 : decode cX7_takesKey 57 = .ok (.iload_n 2, 1) := by decide +kernel
theorem dX7_takesKey_58 : decode cX7_takesKey 58 = .ok (.if_icmp .ge 48, 3) := by decide +kernel
theorem dX7_takesKey_61 : decode cX7_takesKey 61 = .ok (.iload_n 3, 1) := by decide +kernel
theorem dX7_takesKey_62 : decode cX7_takesKey 62 = .ok (.ifCond .eq 44, 3) := by decide +kernel
theorem dX7_takesKey_65 : decode cX7_takesKey 65 = .ok (.aload_n 0, 1) := by decide +kernel
theorem dX7_takesKey_66 : decode cX7_takesKey 66 = .ok (.getfield 25, 3) := by decide +kernel
theorem dX7_takesKey_69 : decode cX7_takesKey 69 = .ok (.aload_n 0, 1) := by decide +kernel
theorem dX7_takesKey_70 : decode cX7_takesKey 70 = .ok (.getfield 183, 3) := by decide +kernel
theorem dX7_takesKey_73 : decode cX7_takesKey 73 = .ok (.iload 4, 2) := by decide +kernel
theorem dX7_takesKey_75 : decode cX7_takesKey 75 = .ok (.iadd, 1) := by decide +kernel
theorem dX7_takesKey_76 : decode cX7_takesKey 76 = .ok (.iaload, 1) := by decide +kernel
theorem dX7_takesKey_77 : decode cX7_takesKey 77 = .ok (.aload_n 0, 1) := by decide +kernel
theorem dX7_takesKey_78 : decode cX7_takesKey 78 = .ok (.getfield 28, 3) := by decide +kernel
theorem dX7_takesKey_81 : decode cX7_takesKey 81 = .ok (.aload_n 0, 1) := by decide +kernel
theorem dX7_takesKey_82 : decode cX7_takesKey 82 = .ok (.getfield 32, 3) := by decide +kernel
theorem dX7_takesKey_85 : decode cX7_takesKey 85 = .ok (.iload_n 1, 1) := by decide +kernel
theorem dX7_takesKey_86 : decode cX7_takesKey 86 = .ok (.iaload, 1) := by decide +kernel
theorem dX7_takesKey_87 : decode cX7_takesKey 87 = .ok (.iload 4, 2) := by decide +kernel
theorem dX7_takesKey_89 : decode cX7_takesKey 89 = .ok (.iadd, 1) := by decide +kernel
theorem dX7_takesKey_90 : decode cX7_takesKey 90 = .ok (.caload, 1) := by decide +kernel
theorem dX7_takesKey_91 : decode cX7_takesKey 91 = .ok (.if_icmp .ne 7, 3) := by decide +kernel
theorem dX7_takesKey_94 : decode cX7_takesKey 94 = .ok (.iconst 1, 1) := by decide +kernel
theorem dX7_takesKey_95 : decode cX7_takesKey 95 = .ok (.goto 4, 3) := by decide +kernel
theorem dX7_takesKey_98 : decode cX7_takesKey 98 = .ok (.iconst 0, 1) := by decide +kernel
theorem dX7_takesKey_99 : decode cX7_takesKey 99 = .ok (.istore_n 3, 1) := by decide +kernel
theorem dX7_takesKey_100 : decode cX7_takesKey 100 = .ok (.iinc 4 1, 3) := by decide +kernel
theorem dX7_takesKey_103 : decode cX7_takesKey 103 = .ok (.goto (-48), 3) := by decide +kernel
theorem dX7_takesKey_106 : decode cX7_takesKey 106 = .ok (.iload_n 3, 1) := by decide +kernel
theorem dX7_takesKey_107 : decode cX7_takesKey 107 = .ok (.ifCond .eq 14, 3) := by decide +kernel
theorem dX7_takesKey_110 : decode cX7_takesKey 110 = .ok (.aload_n 0, 1) := by decide +kernel
theorem dX7_takesKey_111 : decode cX7_takesKey 111 = .ok (.iload_n 1, 1) := by decide +kernel
theorem dX7_takesKey_112 : decode cX7_takesKey 112 = .ok (.putfield 201, 3) := by decide +kernel
theorem dX7_takesKey_115 : decode cX7_takesKey 115 = .ok (.aload_n 0, 1) := by decide +kernel
theorem dX7_takesKey_116 : decode cX7_takesKey 116 = .ok (.invokevirtual 204, 3) := by decide +kernel
theorem dX7_takesKey_119 : decode cX7_takesKey 119 = .ok (.iconst 1, 1) := by decide +kernel
theorem dX7_takesKey_120 : decode cX7_takesKey 120 = .ok (.ireturn, 1) := by decide +kernel
theorem dX7_takesKey_121 : decode cX7_takesKey 121 = .ok (.iinc 1 1, 3) := by decide +kernel
theorem dX7_takesKey_124 : decode cX7_takesKey 124 = .ok (.goto (-112), 3) := by decide +kernel
theorem dX7_takesKey_127 : decode cX7_takesKey 127 = .ok (.iconst 0, 1) := by decide +kernel
theorem dX7_takesKey_128 : decode cX7_takesKey 128 = .ok (.ireturn, 1) := by decide +kernel
theorem dX7_nameOf_0 : decode cX7_nameOf 0 = .ok (.aload_n 0, 1) := by decide +kernel
theorem dX7_nameOf_1 : decode cX7_nameOf 1 = .ok (.getfield 201, 3) := by decide +kernel
theorem dX7_nameOf_4 : decode cX7_nameOf 4 = .ok (.lookupswitch 82 #[(0, 28), (1, 60)], 28) := by decide +kernel
theorem dX7_nameOf_32 : decode cX7_nameOf 32 = .ok (.iload_n 1, 1) := by decide +kernel
theorem dX7_nameOf_33 : decode cX7_nameOf 33 = .ok (.bipush 101, 2) := by decide +kernel
theorem dX7_nameOf_35 : decode cX7_nameOf 35 = .ok (.if_icmp .ne 7, 3) := by decide +kernel
theorem dX7_nameOf_38 : decode cX7_nameOf 38 = .ok (.iconst 0, 1) := by decide +kernel
theorem dX7_nameOf_39 : decode cX7_nameOf 39 = .ok (.goto 24, 3) := by decide +kernel
theorem dX7_nameOf_42 : decode cX7_nameOf 42 = .ok (.iload_n 1, 1) := by decide +kernel
theorem dX7_nameOf_43 : decode cX7_nameOf 43 = .ok (.bipush 111, 2) := by decide +kernel
theorem dX7_nameOf_45 : decode cX7_nameOf 45 = .ok (.if_icmp .ne 7, 3) := by decide +kernel
theorem dX7_nameOf_48 : decode cX7_nameOf 48 = .ok (.iconst 1, 1) := by decide +kernel
theorem dX7_nameOf_49 : decode cX7_nameOf 49 = .ok (.goto 14, 3) := by decide +kernel
theorem dX7_nameOf_52 : decode cX7_nameOf 52 = .ok (.iload_n 1, 1) := by decide +kernel
theorem dX7_nameOf_53 : decode cX7_nameOf 53 = .ok (.bipush 115, 2) := by decide +kernel
theorem dX7_nameOf_55 : decode cX7_nameOf 55 = .ok (.if_icmp .ne 7, 3) := by decide +kernel
theorem dX7_nameOf_58 : decode cX7_nameOf 58 = .ok (.iconst 2, 1) := by decide +kernel
theorem dX7_nameOf_59 : decode cX7_nameOf 59 = .ok (.goto 4, 3) := by decide +kernel
theorem dX7_nameOf_62 : decode cX7_nameOf 62 = .ok (.iconst (-1), 1) := by decide +kernel
theorem dX7_nameOf_63 : decode cX7_nameOf 63 = .ok (.ireturn, 1) := by decide +kernel
theorem dX7_nameOf_64 : decode cX7_nameOf 64 = .ok (.iload_n 1, 1) := by decide +kernel
theorem dX7_nameOf_65 : decode cX7_nameOf 65 = .ok (.bipush 97, 2) := by decide +kernel
theorem dX7_nameOf_67 : decode cX7_nameOf 67 = .ok (.if_icmp .ne 7, 3) := by decide +kernel
theorem dX7_nameOf_70 : decode cX7_nameOf 70 = .ok (.iconst 0, 1) := by decide +kernel
theorem dX7_nameOf_71 : decode cX7_nameOf 71 = .ok (.goto 14, 3) := by decide +kernel
theorem dX7_nameOf_74 : decode cX7_nameOf 74 = .ok (.iload_n 1, 1) := by decide +kernel
theorem dX7_nameOf_75 : decode cX7_nameOf 75 = .ok (.bipush 115, 2) := by decide +kernel
theorem dX7_nameOf_77 : decode cX7_nameOf 77 = .ok (.if_icmp .ne 7, 3) := by decide +kernel
theorem dX7_nameOf_80 : decode cX7_nameOf 80 = .ok (.iconst 1, 1) := by decide +kernel
theorem dX7_nameOf_81 : decode cX7_nameOf 81 = .ok (.goto 4, 3) := by decide +kernel
theorem dX7_nameOf_84 : decode cX7_nameOf 84 = .ok (.iconst (-1), 1) := by decide +kernel
theorem dX7_nameOf_85 : decode cX7_nameOf 85 = .ok (.ireturn, 1) := by decide +kernel
theorem dX7_nameOf_86 : decode cX7_nameOf 86 = .ok (.iload_n 1, 1) := by decide +kernel
theorem dX7_nameOf_87 : decode cX7_nameOf 87 = .ok (.bipush 115, 2) := by decide +kernel
theorem dX7_nameOf_89 : decode cX7_nameOf 89 = .ok (.if_icmp .ne 7, 3) := by decide +kernel
theorem dX7_nameOf_92 : decode cX7_nameOf 92 = .ok (.iconst 0, 1) := by decide +kernel
theorem dX7_nameOf_93 : decode cX7_nameOf 93 = .ok (.goto 24, 3) := by decide +kernel
theorem dX7_nameOf_96 : decode cX7_nameOf 96 = .ok (.iload_n 1, 1) := by decide +kernel
theorem dX7_nameOf_97 : decode cX7_nameOf 97 = .ok (.bipush 108, 2) := by decide +kernel
theorem dX7_nameOf_99 : decode cX7_nameOf 99 = .ok (.if_icmp .ne 7, 3) := by decide +kernel
theorem dX7_nameOf_102 : decode cX7_nameOf 102 = .ok (.iconst 1, 1) := by decide +kernel
theorem dX7_nameOf_103 : decode cX7_nameOf 103 = .ok (.goto 14, 3) := by decide +kernel
theorem dX7_nameOf_106 : decode cX7_nameOf 106 = .ok (.iload_n 1, 1) := by decide +kernel
theorem dX7_nameOf_107 : decode cX7_nameOf 107 = .ok (.bipush 104, 2) := by decide +kernel
theorem dX7_nameOf_109 : decode cX7_nameOf 109 = .ok (.if_icmp .ne 7, 3) := by decide +kernel
theorem dX7_nameOf_112 : decode cX7_nameOf 112 = .ok (.iconst 2, 1) := by decide +kernel
theorem dX7_nameOf_113 : decode cX7_nameOf 113 = .ok (.goto 4, 3) := by decide +kernel
theorem dX7_nameOf_116 : decode cX7_nameOf 116 = .ok (.iconst (-1), 1) := by decide +kernel
theorem dX7_nameOf_117 : decode cX7_nameOf 117 = .ok (.ireturn, 1) := by decide +kernel
theorem dX7_rank_0 : decode cX7_rank 0 = .ok (.iload_n 0, 1) := by decide +kernel
theorem dX7_rank_1 : decode cX7_rank 1 = .ok (.iconst (-1), 1) := by decide +kernel
theorem dX7_rank_2 : decode cX7_rank 2 = .ok (.if_icmp .ne 7, 3) := by decide +kernel
theorem dX7_rank_5 : decode cX7_rank 5 = .ok (.iconst 1, 1) := by decide +kernel
theorem dX7_rank_6 : decode cX7_rank 6 = .ok (.goto 45, 3) := by decide +kernel
theorem dX7_rank_9 : decode cX7_rank 9 = .ok (.iload_n 0, 1) := by decide +kernel
theorem dX7_rank_10 : decode cX7_rank 10 = .ok (.bipush (-2), 2) := by decide +kernel
theorem dX7_rank_12 : decode cX7_rank 12 = .ok (.if_icmp .ne 7, 3) := by decide +kernel
theorem dX7_rank_15 : decode cX7_rank 15 = .ok (.iconst 2, 1) := by decide +kernel
theorem dX7_rank_16 : decode cX7_rank 16 = .ok (.goto 35, 3) := by decide +kernel
theorem dX7_rank_19 : decode cX7_rank 19 = .ok (.iload_n 0, 1) := by decide +kernel
theorem dX7_rank_20 : decode cX7_rank 20 = .ok (.bipush (-5), 2) := by decide +kernel
theorem dX7_rank_22 : decode cX7_rank 22 = .ok (.if_icmp .lt 7, 3) := by decide +kernel
theorem dX7_rank_25 : decode cX7_rank 25 = .ok (.iconst 3, 1) := by decide +kernel
theorem dX7_rank_26 : decode cX7_rank 26 = .ok (.goto 25, 3) := by decide +kernel
theorem dX7_rank_29 : decode cX7_rank 29 = .ok (.iload_n 0, 1) := by decide +kernel
theorem dX7_rank_30 : decode cX7_rank 30 = .ok (.bipush (-7), 2) := by decide +kernel
theorem dX7_rank_32 : decode cX7_rank 32 = .ok (.if_icmp .lt 7, 3) := by decide +kernel
theorem dX7_rank_35 : decode cX7_rank 35 = .ok (.iconst 4, 1) := by decide +kernel
theorem dX7_rank_36 : decode cX7_rank 36 = .ok (.goto 15, 3) := by decide +kernel
theorem dX7_rank_39 : decode cX7_rank 39 = .ok (.iload_n 0, 1) := by decide +kernel
theorem dX7_rank_40 : decode cX7_rank 40 = .ok (.bipush (-9), 2) := by decide +kernel
theorem dX7_rank_42 : decode cX7_rank 42 = .ok (.if_icmp .lt 7, 3) := by decide +kernel
theorem dX7_rank_45 : decode cX7_rank 45 = .ok (.iconst 5, 1) := by decide +kernel
theorem dX7_rank_46 : decode cX7_rank 46 = .ok (.goto 5, 3) := by decide +kernel
theorem dX7_rank_49 : decode cX7_rank 49 = .ok (.bipush 6, 2) := by decide +kernel
theorem dX7_rank_51 : decode cX7_rank 51 = .ok (.ireturn, 1) := by decide +kernel
theorem dX7_settle_0 : decode cX7_settle 0 = .ok (.aload_n 0, 1) := by decide +kernel
theorem dX7_settle_1 : decode cX7_settle 1 = .ok (.getfield 207, 3) := by decide +kernel
theorem dX7_settle_4 : decode cX7_settle 4 = .ok (.ifCond .le 78, 3) := by decide +kernel
theorem dX7_settle_7 : decode cX7_settle 7 = .ok (.aload_n 0, 1) := by decide +kernel
theorem dX7_settle_8 : decode cX7_settle 8 = .ok (.getfield 38, 3) := by decide +kernel
theorem dX7_settle_11 : decode cX7_settle 11 = .ok (.aload_n 0, 1) := by decide +kernel
theorem dX7_settle_12 : decode cX7_settle 12 = .ok (.getfield 207, 3) := by decide +kernel
theorem dX7_settle_15 : decode cX7_settle 15 = .ok (.iconst 1, 1) := by decide +kernel
theorem dX7_settle_16 : decode cX7_settle 16 = .ok (.isub, 1) := by decide +kernel
theorem dX7_settle_17 : decode cX7_settle 17 = .ok (.iaload, 1) := by decide +kernel
theorem dX7_settle_18 : decode cX7_settle 18 = .ok (.bipush (-11), 2) := by decide +kernel
theorem dX7_settle_20 : decode cX7_settle 20 = .ok (.if_icmp .eq 62, 3) := by decide +kernel
theorem dX7_settle_23 : decode cX7_settle 23 = .ok (.aload_n 0, 1) := by decide +kernel
theorem dX7_settle_24 : decode cX7_settle 24 = .ok (.getfield 38, 3) := by decide +kernel
theorem dX7_settle_27 : decode cX7_settle 27 = .ok (.aload_n 0, 1) := by decide +kernel
theorem dX7_settle_28 : decode cX7_settle 28 = .ok (.getfield 207, 3) := by decide +kernel
theorem dX7_settle_31 : decode cX7_settle 31 = .ok (.iconst 1, 1) := by decide +kernel
theorem dX7_settle_32 : decode cX7_settle 32 = .ok (.isub, 1) := by decide +kernel
theorem dX7_settle_33 : decode cX7_settle 33 = .ok (.iaload, 1) := by decide +kernel
theorem dX7_settle_34 : decode cX7_settle 34 = .ok (.invokestatic 210, 3) := by decide +kernel
theorem dX7_settle_37 : decode cX7_settle 37 = .ok (.iload_n 1, 1) := by decide +kernel
theorem dX7_settle_38 : decode cX7_settle 38 = .ok (.if_icmp .lt 44, 3) := by decide +kernel
theorem dX7_settle_41 : decode cX7_settle 41 = .ok (.aload_n 0, 1) := by decide +kernel
theorem dX7_settle_42 : decode cX7_settle 42 = .ok (.dup, 1) := by decide +kernel
theorem dX7_settle_43 : decode cX7_settle 43 = .ok (.getfield 207, 3) := by decide +kernel
theorem dX7_settle_46 : decode cX7_settle 46 = .ok (.iconst 1, 1) := by decide +kernel
theorem dX7_settle_47 : decode cX7_settle 47 = .ok (.isub, 1) := by decide +kernel
theorem dX7_settle_48 : decode cX7_settle 48 = .ok (.putfield 207, 3) := by decide +kernel
theorem dX7_settle_51 : decode cX7_settle 51 = .ok (.aload_n 0, 1) := by decide +kernel
theorem dX7_settle_52 : decode cX7_settle 52 = .ok (.getfield 35, 3) := by decide +kernel
theorem dX7_settle_55 : decode cX7_settle 55 = .ok (.aload_n 0, 1) := by decide +kernel
theorem dX7_settle_56 : decode cX7_settle 56 = .ok (.getfield 213, 3) := by decide +kernel
theorem dX7_settle_59 : decode cX7_settle 59 = .ok (.aload_n 0, 1) := by decide +kernel
theorem dX7_settle_60 : decode cX7_settle 60 = .ok (.getfield 38, 3) := by decide +kernel
theorem dX7_settle_63 : decode cX7_settle 63 = .ok (.aload_n 0, 1) := by decide +kernel
theorem dX7_settle_64 : decode cX7_settle 64 = .ok (.getfield 207, 3) := by decide +kernel
theorem dX7_settle_67 : decode cX7_settle 67 = .ok (.iaload, 1) := by decide +kernel
theorem dX7_settle_68 : decode cX7_settle 68 = .ok (.iastore, 1) := by decide +kernel
theorem dX7_settle_69 : decode cX7_settle 69 = .ok (.aload_n 0, 1) := by decide +kernel
theorem dX7_settle_70 : decode cX7_settle 70 = .ok (.dup, 1) := by decide +kernel
theorem dX7_settle_71 : decode cX7_settle 71 = .ok (.getfield 213, 3) := by decide +kernel
theorem dX7_settle_74 : decode cX7_settle 74 = .ok (.iconst 1, 1) := by decide +kernel
theorem dX7_settle_75 : decode cX7_settle 75 = .ok (.iadd, 1) := by decide +kernel
theorem dX7_settle_76 : decode cX7_settle 76 = .ok (.putfield 213, 3) := by decide +kernel
theorem dX7_settle_79 : decode cX7_settle 79 = .ok (.goto (-79), 3) := by decide +kernel
theorem dX7_settle_82 : decode cX7_settle 82 = .ok (.return_, 1) := by decide +kernel
theorem dX7_signHere_0 : decode cX7_signHere 0 = .ok (.aload_n 0, 1) := by decide +kernel
theorem dX7_signHere_1 : decode cX7_signHere 1 = .ok (.getfield 189, 3) := by decide +kernel
theorem dX7_signHere_4 : decode cX7_signHere 4 = .ok (.iconst 3, 1) := by decide +kernel
theorem dX7_signHere_5 : decode cX7_signHere 5 = .ok (.if_icmp .eq 5, 3) := by decide +kernel
theorem dX7_signHere_8 : decode cX7_signHere 8 = .ok (.iconst 0, 1) := by decide +kernel
theorem dX7_signHere_9 : decode cX7_signHere 9 = .ok (.ireturn, 1) := by decide +kernel
theorem dX7_signHere_10 : decode cX7_signHere 10 = .ok (.aload_n 0, 1) := by decide +kernel
theorem dX7_signHere_11 : decode cX7_signHere 11 = .ok (.getfield 195, 3) := by decide +kernel
theorem dX7_signHere_14 : decode cX7_signHere 14 = .ok (.lookupswitch 108 #[(38, 84), (42, 102), (43, 96), (45, 99), (47, 105), (60, 87), (61, 90), (62, 93), (124, 82)], 82) := by decide +kernel
theorem dX7_signHere_96 : decode cX7_signHere 96 = .ok (.iconst (-1), 1) := by decide +kernel
theorem dX7_signHere_97 : decode cX7_signHere 97 = .ok (.ireturn, 1) := by decide +kernel
theorem dX7_signHere_98 : decode cX7_signHere 98 = .ok (.bipush (-2), 2) := by decide +kernel
theorem dX7_signHere_100 : decode cX7_signHere 100 = .ok (.ireturn, 1) := by decide +kernel
theorem dX7_signHere_101 : decode cX7_signHere 101 = .ok (.bipush (-3), 2) := by decide +kernel
theorem dX7_signHere_103 : decode cX7_signHere 103 = .ok (.ireturn, 1) := by decide +kernel
theorem dX7_signHere_104 : decode cX7_signHere 104 = .ok (.bipush (-4), 2) := by decide +kernel
theorem dX7_signHere_106 : decode cX7_signHere 106 = .ok (.ireturn, 1) := by decide +kernel
theorem dX7_signHere_107 : decode cX7_signHere 107 = .ok (.bipush (-5), 2) := by decide +kernel
theorem dX7_signHere_109 : decode cX7_signHere 109 = .ok (.ireturn, 1) := by decide +kernel
theorem dX7_signHere_110 : decode cX7_signHere 110 = .ok (.bipush (-6), 2) := by decide +kernel
theorem dX7_signHere_112 : decode cX7_signHere 112 = .ok (.ireturn, 1) := by decide +kernel
theorem dX7_signHere_113 : decode cX7_signHere 113 = .ok (.bipush (-7), 2) := by decide +kernel
theorem dX7_signHere_115 : decode cX7_signHere 115 = .ok (.ireturn, 1) := by decide +kernel
theorem dX7_signHere_116 : decode cX7_signHere 116 = .ok (.bipush (-8), 2) := by decide +kernel
theorem dX7_signHere_118 : decode cX7_signHere 118 = .ok (.ireturn, 1) := by decide +kernel
theorem dX7_signHere_119 : decode cX7_signHere 119 = .ok (.bipush (-9), 2) := by decide +kernel
theorem dX7_signHere_121 : decode cX7_signHere 121 = .ok (.ireturn, 1) := by decide +kernel
theorem dX7_signHere_122 : decode cX7_signHere 122 = .ok (.iconst 0, 1) := by decide +kernel
theorem dX7_signHere_123 : decode cX7_signHere 123 = .ok (.ireturn, 1) := by decide +kernel
theorem dX7_takesPart_0 : decode cX7_takesPart 0 = .ok (.aload_n 0, 1) := by decide +kernel
theorem dX7_takesPart_1 : decode cX7_takesPart 1 = .ok (.getfield 189, 3) := by decide +kernel
theorem dX7_takesPart_4 : decode cX7_takesPart 4 = .ok (.iconst 1, 1) := by decide +kernel
theorem dX7_takesPart_5 : decode cX7_takesPart 5 = .ok (.if_icmp .ne 31, 3) := by decide +kernel
theorem dX7_takesPart_8 : decode cX7_takesPart 8 = .ok (.aload_n 0, 1) := by decide +kernel
theorem dX7_takesPart_9 : decode cX7_takesPart 9 = .ok (.getfield 180, 3) := by decide +kernel
theorem dX7_takesPart_12 : decode cX7_takesPart 12 = .ok (.aload_n 0, 1) := by decide +kernel
theorem dX7_takesPart_13 : decode cX7_takesPart 13 = .ok (.getfield 183, 3) := by decide +kernel
theorem dX7_takesPart_16 : decode cX7_takesPart 16 = .ok (.isub, 1) := by decide +kernel
theorem dX7_takesPart_17 : decode cX7_takesPart 17 = .ok (.iconst 1, 1) := by decide +kernel
theorem dX7_takesPart_18 : decode cX7_takesPart 18 = .ok (.if_icmp .ne 18, 3) := by decide +kernel
theorem dX7_takesPart_21 : decode cX7_takesPart 21 = .ok (.aload_n 0, 1) := by decide +kernel
theorem dX7_takesPart_22 : decode cX7_takesPart 22 = .ok (.aload_n 0, 1) := by decide +kernel
theorem dX7_takesPart_23 : decode cX7_takesPart 23 = .ok (.getfield 195, 3) := by decide +kernel
theorem dX7_takesPart_26 : decode cX7_takesPart 26 = .ok (.invokevirtual 216, 3) := by decide +kernel
theorem dX7_takesPart_29 : decode cX7_takesPart 29 = .ok (.ifCond .lt 7, 3) := by decide +kernel
theorem dX7_takesPart_32 : decode cX7_takesPart 32 = .ok (.iconst 1, 1) := by decide +kernel
theorem dX7_takesPart_33 : decode cX7_takesPart 33 = .ok (.goto 4, 3) := by decide +kernel
theorem dX7_takesPart_36 : decode cX7_takesPart 36 = .ok (.iconst 0, 1) := by decide +kernel
theorem dX7_takesPart_37 : decode cX7_takesPart 37 = .ok (.istore_n 1, 1) := by decide +kernel
theorem dX7_takesPart_38 : decode cX7_takesPart 38 = .ok (.aload_n 0, 1) := by decide +kernel
theorem dX7_takesPart_39 : decode cX7_takesPart 39 = .ok (.getfield 189, 3) := by decide +kernel
theorem dX7_takesPart_42 : decode cX7_takesPart 42 = .ok (.iconst 2, 1) := by decide +kernel
theorem dX7_takesPart_43 : decode cX7_takesPart 43 = .ok (.if_icmp .eq 9, 3) := by decide +kernel
theorem dX7_takesPart_46 : decode cX7_takesPart 46 = .ok (.iload_n 1, 1) := by decide +kernel
theorem dX7_takesPart_47 : decode cX7_takesPart 47 = .ok (.ifCond .ne 5, 3) := by decide +kernel
theorem dX7_takesPart_50 : decode cX7_takesPart 50 = .ok (.iconst 0, 1) := by decide +kernel
theorem dX7_takesPart_51 : decode cX7_takesPart 51 = .ok (.ireturn, 1) := by decide +kernel
theorem dX7_takesPart_52 : decode cX7_takesPart 52 = .ok (.aload_n 0, 1) := by decide +kernel
theorem dX7_takesPart_53 : decode cX7_takesPart 53 = .ok (.getfield 35, 3) := by decide +kernel
theorem dX7_takesPart_56 : decode cX7_takesPart 56 = .ok (.aload_n 0, 1) := by decide +kernel
theorem dX7_takesPart_57 : decode cX7_takesPart 57 = .ok (.getfield 213, 3) := by decide +kernel
theorem dX7_takesPart_60 : decode cX7_takesPart 60 = .ok (.aload_n 0, 1) := by decide +kernel
theorem dX7_takesPart_61 : decode cX7_takesPart 61 = .ok (.getfield 189, 3) := by decide +kernel
theorem dX7_takesPart_64 : decode cX7_takesPart 64 = .ok (.iconst 2, 1) := by decide +kernel
theorem dX7_takesPart_65 : decode cX7_takesPart 65 = .ok (.if_icmp .ne 10, 3) := by decide +kernel
theorem dX7_takesPart_68 : decode cX7_takesPart 68 = .ok (.aload_n 0, 1) := by decide +kernel
theorem dX7_takesPart_69 : decode cX7_takesPart 69 = .ok (.getfield 195, 3) := by decide +kernel
theorem dX7_takesPart_72 : decode cX7_takesPart 72 = .ok (.goto 15, 3) := by decide +kernel
theorem dX7_takesPart_75 : decode cX7_takesPart 75 = .ok (.sipush 10000, 3) := by decide +kernel
theorem dX7_takesPart_78 : decode cX7_takesPart 78 = .ok (.aload_n 0, 1) := by decide +kernel
theorem dX7_takesPart_79 : decode cX7_takesPart 79 = .ok (.aload_n 0, 1) := by decide +kernel
theorem dX7_takesPart_80 : decode cX7_takesPart 80 = .ok (.getfield 195, 3) := by decide +kernel
theorem dX7_takesPart_83 : decode cX7_takesPart 83 = .ok (.invokevirtual 216, 3) := by decide +kernel
theorem dX7_takesPart_86 : decode cX7_takesPart 86 = .ok (.iadd, 1) := by decide +kernel
theorem dX7_takesPart_87 : decode cX7_takesPart 87 = .ok (.iastore, 1) := by decide +kernel
theorem dX7_takesPart_88 : decode cX7_takesPart 88 = .ok (.aload_n 0, 1) := by decide +kernel
theorem dX7_takesPart_89 : decode cX7_takesPart 89 = .ok (.dup, 1) := by decide +kernel
theorem dX7_takesPart_90 : decode cX7_takesPart 90 = .ok (.getfield 213, 3) := by decide +kernel
theorem dX7_takesPart_93 : decode cX7_takesPart 93 = .ok (.iconst 1, 1) := by decide +kernel
theorem dX7_takesPart_94 : decode cX7_takesPart 94 = .ok (.iadd, 1) := by decide +kernel
theorem dX7_takesPart_95 : decode cX7_takesPart 95 = .ok (.putfield 213, 3) := by decide +kernel
theorem dX7_takesPart_98 : decode cX7_takesPart 98 = .ok (.aload_n 0, 1) := by decide +kernel
theorem dX7_takesPart_99 : decode cX7_takesPart 99 = .ok (.dup, 1) := by decide +kernel
theorem dX7_takesPart_100 : decode cX7_takesPart 100 = .ok (.getfield 219, 3) := by decide +kernel
theorem dX7_takesPart_103 : decode cX7_takesPart 103 = .ok (.iconst 1, 1) := by decide +kernel
theorem dX7_takesPart_104 : decode cX7_takesPart 104 = .ok (.iadd, 1) := by decide +kernel
theorem dX7_takesPart_105 : decode cX7_takesPart 105 = .ok (.putfield 219, 3) := by decide +kernel
theorem dX7_takesPart_108 : decode cX7_takesPart 108 = .ok (.aload_n 0, 1) := by decide +kernel
theorem dX7_takesPart_109 : decode cX7_takesPart 109 = .ok (.bipush 6, 2) := by decide +kernel
theorem dX7_takesPart_111 : decode cX7_takesPart 111 = .ok (.invokevirtual 222, 3) := by decide +kernel
theorem dX7_takesPart_114 : decode cX7_takesPart 114 = .ok (.aload_n 0, 1) := by decide +kernel
theorem dX7_takesPart_115 : decode cX7_takesPart 115 = .ok (.invokevirtual 204, 3) := by decide +kernel
theorem dX7_takesPart_118 : decode cX7_takesPart 118 = .ok (.iconst 1, 1) := by decide +kernel
theorem dX7_takesPart_119 : decode cX7_takesPart 119 = .ok (.ireturn, 1) := by decide +kernel
theorem dX7_takesE_0 : decode cX7_takesE 0 = .ok (.iconst 0, 1) := by decide +kernel
theorem dX7_takesE_1 : decode cX7_takesE 1 = .ok (.istore_n 1, 1) := by decide +kernel
theorem dX7_takesE_2 : decode cX7_takesE 2 = .ok (.iconst 0, 1) := by decide +kernel
theorem dX7_takesE_3 : decode cX7_takesE 3 = .ok (.istore_n 2, 1) := by decide +kernel
theorem dX7_takesE_4 : decode cX7_takesE 4 = .ok (.iconst 1, 1) := by decide +kernel
theorem dX7_takesE_5 : decode cX7_takesE 5 = .ok (.istore_n 3, 1) := by decide +kernel
theorem dX7_takesE_6 : decode cX7_takesE 6 = .ok (.aload_n 0, 1) := by decide +kernel
theorem dX7_takesE_7 : decode cX7_takesE 7 = .ok (.iconst 0, 1) := by decide +kernel
theorem dX7_takesE_8 : decode cX7_takesE 8 = .ok (.putfield 213, 3) := by decide +kernel
theorem dX7_takesE_11 : decode cX7_takesE 11 = .ok (.aload_n 0, 1) := by decide +kernel
theorem dX7_takesE_12 : decode cX7_takesE 12 = .ok (.iconst 0, 1) := by decide +kernel
theorem dX7_takesE_13 : decode cX7_takesE 13 = .ok (.putfield 219, 3) := by decide +kernel
theorem dX7_takesE_16 : decode cX7_takesE 16 = .ok (.aload_n 0, 1) := by decide +kernel
theorem dX7_takesE_17 : decode cX7_takesE 17 = .ok (.iconst 0, 1) := by decide +kernel
theorem dX7_takesE_18 : decode cX7_takesE 18 = .ok (.putfield 207, 3) := by decide +kernel
theorem dX7_takesE_21 : decode cX7_takesE 21 = .ok (.aload_n 0, 1) := by decide +kernel
theorem dX7_takesE_22 : decode cX7_takesE 22 = .ok (.getfield 41, 3) := by decide +kernel
theorem dX7_takesE_25 : decode cX7_takesE 25 = .ok (.iconst 0, 1) := by decide +kernel
theorem dX7_takesE_26 : decode cX7_takesE 26 = .ok (.iconst 0, 1) := by decide +kernel
theorem dX7_takesE_27 : decode cX7_takesE 27 = .ok (.bastore, 1) := by decide +kernel
theorem dX7_takesE_28 : decode cX7_takesE 28 = .ok (.iload_n 3, 1) := by decide +kernel
theorem dX7_takesE_29 : decode cX7_takesE 29 = .ok (.ifCond .ne 10, 3) := by decide +kernel
theorem dX7_takesE_32 : decode cX7_takesE 32 = .ok (.aload_n 0, 1) := by decide +kernel
theorem dX7_takesE_33 : decode cX7_takesE 33 = .ok (.getfield 189, 3) := by decide +kernel
theorem dX7_takesE_36 : decode cX7_takesE 36 = .ok (.ifCond .eq 309, 3) := by decide +kernel
theorem dX7_takesE_39 : decode cX7_takesE 39 = .ok (.iload_n 3, 1) := by decide +kernel
theorem dX7_takesE_40 : decode cX7_takesE 40 = .ok (.ifCond .eq 140, 3) := by decide +kernel
theorem dX7_takesE_43 : decode cX7_takesE 43 = .ok (.aload_n 0, 1) := by decide +kernel
theorem dX7_takesE_44 : decode cX7_takesE 44 = .ok (.getfield 189, 3) := by decide +kernel
theorem dX7_takesE_47 : decode cX7_takesE 47 = .ok (.iconst 3, 1) := by decide +kernel
theorem dX7_takesE_48 : decode cX7_takesE 48 = .ok (.if_icmp .ne 49, 3) := by decide +kernel
theorem dX7_takesE_51 : decode cX7_takesE 51 = .ok (.aload_n 0, 1) := by decide +kernel
theorem dX7_takesE_52 : decode cX7_takesE 52 = .ok (.getfield 195, 3) := by decide +kernel
theorem dX7_takesE_55 : decode cX7_takesE 55 = .ok (.bipush 33, 2) := by decide +kernel
theorem dX7_takesE_57 : decode cX7_takesE 57 = .ok (.if_icmp .ne 40, 3) := by decide +kernel
theorem dX7_takesE_60 : decode cX7_takesE 60 = .ok (.iload_n 2, 1) := by decide +kernel
theorem dX7_takesE_61 : decode cX7_takesE 61 = .ok (.bipush 8, 2) := by decide +kernel
theorem dX7_takesE_63 : decode cX7_takesE 63 = .ok (.if_icmp .ge 34, 3) := by decide +kernel
theorem dX7_takesE_66 : decode cX7_takesE 66 = .ok (.aload_n 0, 1) := by decide +kernel
theorem dX7_takesE_67 : decode cX7_takesE 67 = .ok (.getfield 38, 3) := by decide +kernel
theorem dX7_takesE_70 : decode cX7_takesE 70 = .ok (.aload_n 0, 1) := by decide +kernel
theorem dX7_takesE_71 : decode cX7_takesE 71 = .ok (.getfield 207, 3) := by decide +kernel
theorem dX7_takesE_74 : decode cX7_takesE 74 = .ok (.bipush (-10), 2) := by decide +kernel
theorem dX7_takesE_76 : decode cX7_takesE 76 = .ok (.iastore, 1) := by decide +kernel
theorem dX7_takesE_77 : decode cX7_takesE 77 = .ok (.aload_n 0, 1) := by decide +kernel
theorem dX7_takesE_78 : decode cX7_takesE 78 = .ok (.dup, 1) := by decide +kernel
theorem dX7_takesE_79 : decode cX7_takesE 79 = .ok (.getfield 207, 3) := by decide +kernel
theorem dX7_takesE_82 : decode cX7_takesE 82 = .ok (.iconst 1, 1) := by decide +kernel
theorem dX7_takesE_83 : decode cX7_takesE 83 = .ok (.iadd, 1) := by decide +kernel
theorem dX7_takesE_84 : decode cX7_takesE 84 = .ok (.putfield 207, 3) := by decide +kernel
theorem dX7_takesE_87 : decode cX7_takesE 87 = .ok (.iinc 2 1, 3) := by decide +kernel
theorem dX7_takesE_90 : decode cX7_takesE 90 = .ok (.aload_n 0, 1) := by decide +kernel
theorem dX7_takesE_91 : decode cX7_takesE 91 = .ok (.invokevirtual 204, 3) := by decide +kernel
theorem dX7_takesE_94 : decode cX7_takesE 94 = .ok (.goto 78, 3) := by decide +kernel
theorem dX7_takesE_97 : decode cX7_takesE 97 = .ok (.aload_n 0, 1) := by decide +kernel
theorem dX7_takesE_98 : decode cX7_takesE 98 = .ok (.getfield 189, 3) := by decide +kernel
theorem dX7_takesE_101 : decode cX7_takesE 101 = .ok (.iconst 3, 1) := by decide +kernel
theorem dX7_takesE_102 : decode cX7_takesE 102 = .ok (.if_icmp .ne 56, 3) := by decide +kernel
theorem dX7_takesE_105 : decode cX7_takesE 105 = .ok (.aload_n 0, 1) := by decide +kernel
theorem dX7_takesE_106 : decode cX7_takesE 106 = .ok (.getfield 195, 3) := by decide +kernel
theorem dX7_takesE_109 : decode cX7_takesE 109 = .ok (.bipush 40, 2) := by decide +kernel
theorem dX7_takesE_111 : decode cX7_takesE 111 = .ok (.if_icmp .ne 47, 3) := by decide +kernel
theorem dX7_takesE_114 : decode cX7_takesE 114 = .ok (.iload_n 1, 1) := by decide +kernel
theorem dX7_takesE_115 : decode cX7_takesE 115 = .ok (.bipush 8, 2) := by decide +kernel
theorem dX7_takesE_117 : decode cX7_takesE 117 = .ok (.if_icmp .ge 41, 3) := by decide +kernel
theorem dX7_takesE_120 : decode cX7_takesE 120 = .ok (.aload_n 0, 1) := by decide +kernel
theorem dX7_takesE_121 : decode cX7_takesE 121 = .ok (.getfield 38, 3) := by decide +kernel
theorem dX7_takesE_124 : decode cX7_takesE 124 = .ok (.aload_n 0, 1) := by decide +kernel
theorem dX7_takesE_125 : decode cX7_takesE 125 = .ok (.getfield 207, 3) := by decide +kernel
theorem dX7_takesE_128 : decode cX7_takesE 128 = .ok (.bipush (-11), 2) := by decide +kernel
theorem dX7_takesE_130 : decode cX7_takesE 130 = .ok (.iastore, 1) := by decide +kernel
theorem dX7_takesE_131 : decode cX7_takesE 131 = .ok (.aload_n 0, 1) := by decide +kernel
theorem dX7_takesE_132 : decode cX7_takesE 132 = .ok (.dup, 1) := by decide +kernel
theorem dX7_takesE_133 : decode cX7_takesE 133 = .ok (.getfield 207, 3) := by decide +kernel
theorem dX7_takesE_136 : decode cX7_takesE 136 = .ok (.iconst 1, 1) := by decide +kernel
theorem dX7_takesE_137 : decode cX7_takesE 137 = .ok (.iadd, 1) := by decide +kernel
theorem dX7_takesE_138 : decode cX7_takesE 138 = .ok (.putfield 207, 3) := by decide +kernel
theorem dX7_takesE_141 : decode cX7_takesE 141 = .ok (.iinc 1 1, 3) := by decide +kernel
theorem dX7_takesE_144 : decode cX7_takesE 144 = .ok (.aload_n 0, 1) := by decide +kernel
theorem dX7_takesE_145 : decode cX7_takesE 145 = .ok (.getfield 41, 3) := by decide +kernel
theorem dX7_takesE_148 : decode cX7_takesE 148 = .ok (.iload_n 1, 1) := by decide +kernel
theorem dX7_takesE_149 : decode cX7_takesE 149 = .ok (.iconst 0, 1) := by decide +kernel
theorem dX7_takesE_150 : decode cX7_takesE 150 = .ok (.bastore, 1) := by decide +kernel
theorem dX7_takesE_151 : decode cX7_takesE 151 = .ok (.aload_n 0, 1) := by decide +kernel
theorem dX7_takesE_152 : decode cX7_takesE 152 = .ok (.invokevirtual 204, 3) := by decide +kernel
theorem dX7_takesE_155 : decode cX7_takesE 155 = .ok (.goto 17, 3) := by decide +kernel
theorem dX7_takesE_158 : decode cX7_takesE 158 = .ok (.aload_n 0, 1) := by decide +kernel
theorem dX7_takesE_159 : decode cX7_takesE 159 = .ok (.invokevirtual 225, 3) := by decide +kernel
theorem dX7_takesE_162 : decode cX7_takesE 162 = .ok (.ifCond .eq 8, 3) := by decide +kernel
theorem dX7_takesE_165 : decode cX7_takesE 165 = .ok (.iconst 0, 1) := by decide +kernel
theorem dX7_takesE_166 : decode cX7_takesE 166 = .ok (.istore_n 3, 1) := by decide +kernel
theorem dX7_takesE_167 : decode cX7_takesE 167 = .ok (.goto 5, 3) := by decide +kernel
theorem dX7_takesE_170 : decode cX7_takesE 170 = .ok (.iconst 0, 1) := by decide +kernel
theorem dX7_takesE_171 : decode cX7_takesE 171 = .ok (.ireturn, 1) := by decide +kernel
theorem dX7_takesE_172 : decode cX7_takesE 172 = .ok (.aload_n 0, 1) := by decide +kernel
theorem dX7_takesE_173 : decode cX7_takesE 173 = .ok (.invokevirtual 229, 3) := by decide +kernel
theorem dX7_takesE_176 : decode cX7_takesE 176 = .ok (.istore_n 2, 1) := by decide +kernel
theorem dX7_takesE_177 : decode cX7_takesE 177 = .ok (.goto (-149), 3) := by decide +kernel
theorem dX7_takesE_180 : decode cX7_takesE 180 = .ok (.aload_n 0, 1) := by decide +kernel
theorem dX7_takesE_181 : decode cX7_takesE 181 = .ok (.getfield 189, 3) := by decide +kernel
theorem dX7_takesE_184 : decode cX7_takesE 184 = .ok (.iconst 3, 1) := by decide +kernel
theorem dX7_takesE_185 : decode cX7_takesE 185 = .ok (.if_icmp .ne 52, 3) := by decide +kernel
theorem dX7_takesE_188 : decode cX7_takesE 188 = .ok (.aload_n 0, 1) := by decide +kernel
theorem dX7_takesE_189 : decode cX7_takesE 189 = .ok (.getfield 195, 3) := by decide +kernel
theorem dX7_takesE_192 : decode cX7_takesE 192 = .ok (.bipush 41, 2) := by decide +kernel
theorem dX7_takesE_194 : decode cX7_takesE 194 = .ok (.if_icmp .ne 43, 3) := by decide +kernel
theorem dX7_takesE_197 : decode cX7_takesE 197 = .ok (.iload_n 1, 1) := by decide +kernel
theorem dX7_takesE_198 : decode cX7_takesE 198 = .ok (.ifCond .le 39, 3) := by decide +kernel
theorem dX7_takesE_201 : decode cX7_takesE 201 = .ok (.aload_n 0, 1) := by decide +kernel
theorem dX7_takesE_202 : decode cX7_takesE 202 = .ok (.iconst 0, 1) := by decide +kernel
theorem dX7_takesE_203 : decode cX7_takesE 203 = .ok (.invokevirtual 222, 3) := by decide +kernel
theorem dX7_takesE_206 : decode cX7_takesE 206 = .ok (.aload_n 0, 1) := by decide +kernel
theorem dX7_takesE_207 : decode cX7_takesE 207 = .ok (.dup, 1) := by decide +kernel
theorem dX7_takesE_208 : decode cX7_takesE 208 = .ok (.getfield 207, 3) := by decide +kernel
theorem dX7_takesE_211 : decode cX7_takesE 211 = .ok (.iconst 1, 1) := by decide +kernel
theorem dX7_takesE_212 : decode cX7_takesE 212 = .ok (.isub, 1) := by decide +kernel
theorem dX7_takesE_213 : decode cX7_takesE 213 = .ok (.putfield 207, 3) := by decide +kernel
theorem dX7_takesE_216 : decode cX7_takesE 216 = .ok (.iinc 1 (-1), 3) := by decide +kernel
theorem dX7_takesE_219 : decode cX7_takesE 219 = .ok (.aload_n 0, 1) := by decide +kernel
theorem dX7_takesE_220 : decode cX7_takesE 220 = .ok (.bipush 6, 2) := by decide +kernel
theorem dX7_takesE_222 : decode cX7_takesE 222 = .ok (.invokevirtual 222, 3) := by decide +kernel
theorem dX7_takesE_225 : decode cX7_takesE 225 = .ok (.aload_n 0, 1) := by decide +kernel
theorem dX7_takesE_226 : decode cX7_takesE 226 = .ok (.invokevirtual 229, 3) := by decide +kernel
theorem dX7_takesE_229 : decode cX7_takesE 229 = .ok (.istore_n 2, 1) := by decide +kernel
theorem dX7_takesE_230 : decode cX7_takesE 230 = .ok (.aload_n 0, 1) := by decide +kernel
theorem dX7_takesE_231 : decode cX7_takesE 231 = .ok (.invokevirtual 204, 3) := by decide +kernel
theorem dX7_takesE_234 : decode cX7_takesE 234 = .ok (.goto (-206), 3) := by decide +kernel
theorem dX7_takesE_237 : decode cX7_takesE 237 = .ok (.aload_n 0, 1) := by decide +kernel
theorem dX7_takesE_238 : decode cX7_takesE 238 = .ok (.invokevirtual 232, 3) := by decide +kernel
theorem dX7_takesE_241 : decode cX7_takesE 241 = .ok (.istore 4, 2) := by decide +kernel
theorem dX7_takesE_243 : decode cX7_takesE 243 = .ok (.iload 4, 2) := by decide +kernel
theorem dX7_takesE_245 : decode cX7_takesE 245 = .ok (.ifCond .eq 21, 3) := by decide +kernel
theorem dX7_takesE_248 : decode cX7_takesE 248 = .ok (.iload 4, 2) := by decide +kernel
theorem dX7_takesE_250 : decode cX7_takesE 250 = .ok (.invokestatic 210, 3) := by decide +kernel
theorem dX7_takesE_253 : decode cX7_takesE 253 = .ok (.iconst 3, 1) := by decide +kernel
theorem dX7_takesE_254 : decode cX7_takesE 254 = .ok (.if_icmp .ne 14, 3) := by decide +kernel
theorem dX7_takesE_257 : decode cX7_takesE 257 = .ok (.aload_n 0, 1) := by decide +kernel
theorem dX7_takesE_258 : decode cX7_takesE 258 = .ok (.getfield 41, 3) := by decide +kernel
theorem dX7_takesE_261 : decode cX7_takesE 261 = .ok (.iload_n 1, 1) := by decide +kernel
theorem dX7_takesE_262 : decode cX7_takesE 262 = .ok (.baload, 1) := by decide +kernel
theorem dX7_takesE_263 : decode cX7_takesE 263 = .ok (.ifCond .eq 5, 3) := by decide +kernel
theorem dX7_takesE_266 : decode cX7_takesE 266 = .ok (.iconst 0, 1) := by decide +kernel
theorem dX7_takesE_267 : decode cX7_takesE 267 = .ok (.ireturn, 1) := by decide +kernel
theorem dX7_takesE_268 : decode cX7_takesE 268 = .ok (.aload_n 0, 1) := by decide +kernel
theorem dX7_takesE_269 : decode cX7_takesE 269 = .ok (.getfield 41, 3) := by decide +kernel
theorem dX7_takesE_272 : decode cX7_takesE 272 = .ok (.iload_n 1, 1) := by decide +kernel
theorem dX7_takesE_273 : decode cX7_takesE 273 = .ok (.iload 4, 2) := by decide +kernel
theorem dX7_takesE_275 : decode cX7_takesE 275 = .ok (.invokestatic 210, 3) := by decide +kernel
theorem dX7_takesE_278 : decode cX7_takesE 278 = .ok (.iconst 3, 1) := by decide +kernel
theorem dX7_takesE_279 : decode cX7_takesE 279 = .ok (.if_icmp .eq 21, 3) := by decide +kernel
theorem dX7_takesE_282 : decode cX7_takesE 282 = .ok (.iload 4, 2) := by decide +kernel
theorem dX7_takesE_284 : decode cX7_takesE 284 = .ok (.invokestatic 210, 3) := by decide +kernel
theorem dX7_takesE_287 : decode cX7_takesE 287 = .ok (.iconst 3, 1) := by decide +kernel
theorem dX7_takesE_288 : decode cX7_takesE 288 = .ok (.if_icmp .le 16, 3) := by decide +kernel
theorem dX7_takesE_291 : decode cX7_takesE 291 = .ok (.aload_n 0, 1) := by decide +kernel
theorem dX7_takesE_292 : decode cX7_takesE 292 = .ok (.getfield 41, 3) := by decide +kernel
theorem dX7_takesE_295 : decode cX7_takesE 295 = .ok (.iload_n 1, 1) := by decide +kernel
theorem dX7_takesE_296 : decode cX7_takesE 296 = .ok (.baload, 1) := by decide +kernel
theorem dX7_takesE_297 : decode cX7_takesE 297 = .ok (.ifCond .eq 7, 3) := by decide +kernel
theorem dX7_takesE_300 : decode cX7_takesE 300 = .ok (.iconst 1, 1) := by decide +kernel
theorem dX7_takesE_301 : decode cX7_takesE 301 = .ok (.goto 4, 3) := by decide +kernel
theorem dX7_takesE_304 : decode cX7_takesE 304 = .ok (.iconst 0, 1) := by decide +kernel
theorem dX7_takesE_305 : decode cX7_takesE 305 = .ok (.bastore, 1) := by decide +kernel
theorem dX7_takesE_306 : decode cX7_takesE 306 = .ok (.aload_n 0, 1) := by decide +kernel
theorem dX7_takesE_307 : decode cX7_takesE 307 = .ok (.iload 4, 2) := by decide +kernel
theorem dX7_takesE_309 : decode cX7_takesE 309 = .ok (.invokestatic 210, 3) := by decide +kernel
theorem dX7_takesE_312 : decode cX7_takesE 312 = .ok (.invokevirtual 222, 3) := by decide +kernel
theorem dX7_takesE_315 : decode cX7_takesE 315 = .ok (.aload_n 0, 1) := by decide +kernel
theorem dX7_takesE_316 : decode cX7_takesE 316 = .ok (.getfield 38, 3) := by decide +kernel
theorem dX7_takesE_319 : decode cX7_takesE 319 = .ok (.aload_n 0, 1) := by decide +kernel
theorem dX7_takesE_320 : decode cX7_takesE 320 = .ok (.getfield 207, 3) := by decide +kernel
theorem dX7_takesE_323 : decode cX7_takesE 323 = .ok (.iload 4, 2) := by decide +kernel
theorem dX7_takesE_325 : decode cX7_takesE 325 = .ok (.iastore, 1) := by decide +kernel
theorem dX7_takesE_326 : decode cX7_takesE 326 = .ok (.aload_n 0, 1) := by decide +kernel
theorem dX7_takesE_327 : decode cX7_takesE 327 = .ok (.dup, 1) := by decide +kernel
theorem dX7_takesE_328 : decode cX7_takesE 328 = .ok (.getfield 207, 3) := by decide +kernel
theorem dX7_takesE_331 : decode cX7_takesE 331 = .ok (.iconst 1, 1) := by decide +kernel
theorem dX7_takesE_332 : decode cX7_takesE 332 = .ok (.iadd, 1) := by decide +kernel
theorem dX7_takesE_333 : decode cX7_takesE 333 = .ok (.putfield 207, 3) := by decide +kernel
theorem dX7_takesE_336 : decode cX7_takesE 336 = .ok (.iconst 1, 1) := by decide +kernel
theorem dX7_takesE_337 : decode cX7_takesE 337 = .ok (.istore_n 3, 1) := by decide +kernel
theorem dX7_takesE_338 : decode cX7_takesE 338 = .ok (.aload_n 0, 1) := by decide +kernel
theorem dX7_takesE_339 : decode cX7_takesE 339 = .ok (.invokevirtual 204, 3) := by decide +kernel
theorem dX7_takesE_342 : decode cX7_takesE 342 = .ok (.goto (-314), 3) := by decide +kernel
theorem dX7_takesE_345 : decode cX7_takesE 345 = .ok (.aload_n 0, 1) := by decide +kernel
theorem dX7_takesE_346 : decode cX7_takesE 346 = .ok (.iconst 0, 1) := by decide +kernel
theorem dX7_takesE_347 : decode cX7_takesE 347 = .ok (.invokevirtual 222, 3) := by decide +kernel
theorem dX7_takesE_350 : decode cX7_takesE 350 = .ok (.iload_n 1, 1) := by decide +kernel
theorem dX7_takesE_351 : decode cX7_takesE 351 = .ok (.ifCond .ne 7, 3) := by decide +kernel
theorem dX7_takesE_354 : decode cX7_takesE 354 = .ok (.iconst 1, 1) := by decide +kernel
theorem dX7_takesE_355 : decode cX7_takesE 355 = .ok (.goto 4, 3) := by decide +kernel
theorem dX7_takesE_358 : decode cX7_takesE 358 = .ok (.iconst 0, 1) := by decide +kernel
theorem dX7_takesE_359 : decode cX7_takesE 359 = .ok (.ireturn, 1) := by decide +kernel
theorem dX7_notsOpen_0 : decode cX7_notsOpen 0 = .ok (.iconst 0, 1) := by decide +kernel
theorem dX7_notsOpen_1 : decode cX7_notsOpen 1 = .ok (.istore_n 1, 1) := by decide +kernel
theorem dX7_notsOpen_2 : decode cX7_notsOpen 2 = .ok (.iconst 0, 1) := by decide +kernel
theorem dX7_notsOpen_3 : decode cX7_notsOpen 3 = .ok (.istore_n 2, 1) := by decide +kernel
theorem dX7_notsOpen_4 : decode cX7_notsOpen 4 = .ok (.iload_n 2, 1) := by decide +kernel
theorem dX7_notsOpen_5 : decode cX7_notsOpen 5 = .ok (.aload_n 0, 1) := by decide +kernel
theorem dX7_notsOpen_6 : decode cX7_notsOpen 6 = .ok (.getfield 207, 3) := by decide +kernel
theorem dX7_notsOpen_9 : decode cX7_notsOpen 9 = .ok (.if_icmp .ge 28, 3) := by decide +kernel
theorem dX7_notsOpen_12 : decode cX7_notsOpen 12 = .ok (.iload_n 1, 1) := by decide +kernel
theorem dX7_notsOpen_13 : decode cX7_notsOpen 13 = .ok (.aload_n 0, 1) := by decide +kernel
theorem dX7_notsOpen_14 : decode cX7_notsOpen 14 = .ok (.getfield 38, 3) := by decide +kernel
theorem dX7_notsOpen_17 : decode cX7_notsOpen 17 = .ok (.iload_n 2, 1) := by decide +kernel
theorem dX7_notsOpen_18 : decode cX7_notsOpen 18 = .ok (.iaload, 1) := by decide +kernel
theorem dX7_notsOpen_19 : decode cX7_notsOpen 19 = .ok (.bipush (-10), 2) := by decide +kernel
theorem dX7_notsOpen_21 : decode cX7_notsOpen 21 = .ok (.if_icmp .ne 7, 3) := by decide +kernel
theorem dX7_notsOpen_24 : decode cX7_notsOpen 24 = .ok (.iconst 1, 1) := by decide +kernel
theorem dX7_notsOpen_25 : decode cX7_notsOpen 25 = .ok (.goto 4, 3) := by decide +kernel
theorem dX7_notsOpen_28 : decode cX7_notsOpen 28 = .ok (.iconst 0, 1) := by decide +kernel
theorem dX7_notsOpen_29 : decode cX7_notsOpen 29 = .ok (.iadd, 1) := by decide +kernel
theorem dX7_notsOpen_30 : decode cX7_notsOpen 30 = .ok (.istore_n 1, 1) := by decide +kernel
theorem dX7_notsOpen_31 : decode cX7_notsOpen 31 = .ok (.iinc 2 1, 3) := by decide +kernel
theorem dX7_notsOpen_34 : decode cX7_notsOpen 34 = .ok (.goto (-30), 3) := by decide +kernel
theorem dX7_notsOpen_37 : decode cX7_notsOpen 37 = .ok (.iload_n 1, 1) := by decide +kernel
theorem dX7_notsOpen_38 : decode cX7_notsOpen 38 = .ok (.ireturn, 1) := by decide +kernel
theorem dX7_text_0 : decode cX7_text 0 = .ok (.aload_n 0, 1) := by decide +kernel
theorem dX7_text_1 : decode cX7_text 1 = .ok (.iconst 0, 1) := by decide +kernel
theorem dX7_text_2 : decode cX7_text 2 = .ok (.putfield 180, 3) := by decide +kernel
theorem dX7_text_5 : decode cX7_text 5 = .ok (.aload_n 0, 1) := by decide +kernel
theorem dX7_text_6 : decode cX7_text 6 = .ok (.iconst (-1), 1) := by decide +kernel
theorem dX7_text_7 : decode cX7_text 7 = .ok (.putfield 186, 3) := by decide +kernel
theorem dX7_text_10 : decode cX7_text 10 = .ok (.aload_n 0, 1) := by decide +kernel
theorem dX7_text_11 : decode cX7_text 11 = .ok (.invokevirtual 204, 3) := by decide +kernel
theorem dX7_text_14 : decode cX7_text 14 = .ok (.aload_n 0, 1) := by decide +kernel
theorem dX7_text_15 : decode cX7_text 15 = .ok (.invokevirtual 235, 3) := by decide +kernel
theorem dX7_text_18 : decode cX7_text 18 = .ok (.ifCond .eq 14, 3) := by decide +kernel
theorem dX7_text_21 : decode cX7_text 21 = .ok (.aload_n 0, 1) := by decide +kernel
theorem dX7_text_22 : decode cX7_text 22 = .ok (.invokevirtual 238, 3) := by decide +kernel
theorem dX7_text_25 : decode cX7_text 25 = .ok (.ifCond .eq 7, 3) := by decide +kernel
theorem dX7_text_28 : decode cX7_text 28 = .ok (.iconst 1, 1) := by decide +kernel
theorem dX7_text_29 : decode cX7_text 29 = .ok (.goto 4, 3) := by decide +kernel
theorem dX7_text_32 : decode cX7_text 32 = .ok (.iconst 0, 1) := by decide +kernel
theorem dX7_text_33 : decode cX7_text 33 = .ok (.istore_n 1, 1) := by decide +kernel
theorem dX7_text_34 : decode cX7_text 34 = .ok (.aload_n 0, 1) := by decide +kernel
theorem dX7_text_35 : decode cX7_text 35 = .ok (.iconst 0, 1) := by decide +kernel
theorem dX7_text_36 : decode cX7_text 36 = .ok (.putfield 177, 3) := by decide +kernel
theorem dX7_text_39 : decode cX7_text 39 = .ok (.iload_n 1, 1) := by decide +kernel
theorem dX7_text_40 : decode cX7_text 40 = .ok (.ifCond .ne 11, 3) := by decide +kernel
theorem dX7_text_43 : decode cX7_text 43 = .ok (.bipush (-100), 2) := by decide +kernel
theorem dX7_text_45 : decode cX7_text 45 = .ok (.aload_n 0, 1) := by decide +kernel
theorem dX7_text_46 : decode cX7_text 46 = .ok (.getfield 183, 3) := by decide +kernel
theorem dX7_text_49 : decode cX7_text 49 = .ok (.isub, 1) := by decide +kernel
theorem dX7_text_50 : decode cX7_text 50 = .ok (.ireturn, 1) := by decide +kernel
theorem dX7_text_51 : decode cX7_text 51 = .ok (.aload_n 0, 1) := by decide +kernel
theorem dX7_text_52 : decode cX7_text 52 = .ok (.getfield 9, 3) := by decide +kernel
theorem dX7_text_55 : decode cX7_text 55 = .ok (.iconst 4, 1) := by decide +kernel
theorem dX7_text_56 : decode cX7_text 56 = .ok (.iaload, 1) := by decide +kernel
theorem dX7_text_57 : decode cX7_text 57 = .ok (.bipush 14, 2) := by decide +kernel
theorem dX7_text_59 : decode cX7_text 59 = .ok (.if_icmp .ne 6, 3) := by decide +kernel
theorem dX7_text_62 : decode cX7_text 62 = .ok (.ldc 87, 2) := by decide +kernel
theorem dX7_text_64 : decode cX7_text 64 = .ok (.ireturn, 1) := by decide +kernel
theorem dX7_text_65 : decode cX7_text 65 = .ok (.aload_n 0, 1) := by decide +kernel
theorem dX7_text_66 : decode cX7_text 66 = .ok (.getfield 9, 3) := by decide +kernel
theorem dX7_text_69 : decode cX7_text 69 = .ok (.iconst 4, 1) := by decide +kernel
theorem dX7_text_70 : decode cX7_text 70 = .ok (.iaload, 1) := by decide +kernel
theorem dX7_text_71 : decode cX7_text 71 = .ok (.istore_n 2, 1) := by decide +kernel
theorem dX7_text_72 : decode cX7_text 72 = .ok (.aload_n 0, 1) := by decide +kernel
theorem dX7_text_73 : decode cX7_text 73 = .ok (.getfield 9, 3) := by decide +kernel
theorem dX7_text_76 : decode cX7_text 76 = .ok (.bipush 71, 2) := by decide +kernel
theorem dX7_text_78 : decode cX7_text 78 = .ok (.iconst 2, 1) := by decide +kernel
theorem dX7_text_79 : decode cX7_text 79 = .ok (.iload_n 2, 1) := by decide +kernel
theorem dX7_text_80 : decode cX7_text 80 = .ok (.imul, 1) := by decide +kernel
theorem dX7_text_81 : decode cX7_text 81 = .ok (.iadd, 1) := by decide +kernel
theorem dX7_text_82 : decode cX7_text 82 = .ok (.sipush 1000, 3) := by decide +kernel
theorem dX7_text_85 : decode cX7_text 85 = .ok (.aload_n 0, 1) := by decide +kernel
theorem dX7_text_86 : decode cX7_text 86 = .ok (.getfield 201, 3) := by decide +kernel
theorem dX7_text_89 : decode cX7_text 89 = .ok (.imul, 1) := by decide +kernel
theorem dX7_text_90 : decode cX7_text 90 = .ok (.aload_n 0, 1) := by decide +kernel
theorem dX7_text_91 : decode cX7_text 91 = .ok (.getfield 213, 3) := by decide +kernel
theorem dX7_text_94 : decode cX7_text 94 = .ok (.iadd, 1) := by decide +kernel
theorem dX7_text_95 : decode cX7_text 95 = .ok (.iastore, 1) := by decide +kernel
theorem dX7_text_96 : decode cX7_text 96 = .ok (.aload_n 0, 1) := by decide +kernel
theorem dX7_text_97 : decode cX7_text 97 = .ok (.getfield 9, 3) := by decide +kernel
theorem dX7_text_100 : decode cX7_text 100 = .ok (.bipush 71, 2) := by decide +kernel
theorem dX7_text_102 : decode cX7_text 102 = .ok (.iconst 2, 1) := by decide +kernel
theorem dX7_text_103 : decode cX7_text 103 = .ok (.iload_n 2, 1) := by decide +kernel
theorem dX7_text_104 : decode cX7_text 104 = .ok (.imul, 1) := by decide +kernel
theorem dX7_text_105 : decode cX7_text 105 = .ok (.iadd, 1) := by decide +kernel
theorem dX7_text_106 : decode cX7_text 106 = .ok (.iconst 1, 1) := by decide +kernel
theorem dX7_text_107 : decode cX7_text 107 = .ok (.iadd, 1) := by decide +kernel
theorem dX7_text_108 : decode cX7_text 108 = .ok (.aload_n 0, 1) := by decide +kernel
theorem dX7_text_109 : decode cX7_text 109 = .ok (.getfield 219, 3) := by decide +kernel
theorem dX7_text_112 : decode cX7_text 112 = .ok (.iastore, 1) := by decide +kernel
theorem dX7_text_113 : decode cX7_text 113 = .ok (.iconst 0, 1) := by decide +kernel
theorem dX7_text_114 : decode cX7_text 114 = .ok (.istore_n 3, 1) := by decide +kernel
theorem dX7_text_115 : decode cX7_text 115 = .ok (.iload_n 3, 1) := by decide +kernel
theorem dX7_text_116 : decode cX7_text 116 = .ok (.aload_n 0, 1) := by decide +kernel
theorem dX7_text_117 : decode cX7_text 117 = .ok (.getfield 213, 3) := by decide +kernel
theorem dX7_text_120 : decode cX7_text 120 = .ok (.if_icmp .ge 29, 3) := by decide +kernel
theorem dX7_text_123 : decode cX7_text 123 = .ok (.aload_n 0, 1) := by decide +kernel
theorem dX7_text_124 : decode cX7_text 124 = .ok (.getfield 9, 3) := by decide +kernel
theorem dX7_text_127 : decode cX7_text 127 = .ok (.bipush 99, 2) := by decide +kernel
theorem dX7_text_129 : decode cX7_text 129 = .ok (.bipush 96, 2) := by decide +kernel
theorem dX7_text_131 : decode cX7_text 131 = .ok (.iload_n 2, 1) := by decide +kernel
theorem dX7_text_132 : decode cX7_text 132 = .ok (.imul, 1) := by decide +kernel
theorem dX7_text_133 : decode cX7_text 133 = .ok (.iadd, 1) := by decide +kernel
theorem dX7_text_134 : decode cX7_text 134 = .ok (.iload_n 3, 1) := by decide +kernel
theorem dX7_text_135 : decode cX7_text 135 = .ok (.iadd, 1) := by decide +kernel
theorem dX7_text_136 : decode cX7_text 136 = .ok (.aload_n 0, 1) := by decide +kernel
theorem dX7_text_137 : decode cX7_text 137 = .ok (.getfield 35, 3) := by decide +kernel
theorem dX7_text_140 : decode cX7_text 140 = .ok (.iload_n 3, 1) := by decide +kernel
theorem dX7_text_141 : decode cX7_text 141 = .ok (.iaload, 1) := by decide +kernel
theorem dX7_text_142 : decode cX7_text 142 = .ok (.iastore, 1) := by decide +kernel
theorem dX7_text_143 : decode cX7_text 143 = .ok (.iinc 3 1, 3) := by decide +kernel
theorem dX7_text_146 : decode cX7_text 146 = .ok (.goto (-31), 3) := by decide +kernel
theorem dX7_text_149 : decode cX7_text 149 = .ok (.aload_n 0, 1) := by decide +kernel
theorem dX7_text_150 : decode cX7_text 150 = .ok (.getfield 9, 3) := by decide +kernel
theorem dX7_text_153 : decode cX7_text 153 = .ok (.iconst 4, 1) := by decide +kernel
theorem dX7_text_154 : decode cX7_text 154 = .ok (.dup2, 1) := by decide +kernel
theorem dX7_text_155 : decode cX7_text 155 = .ok (.iaload, 1) := by decide +kernel
theorem dX7_text_156 : decode cX7_text 156 = .ok (.iconst 1, 1) := by decide +kernel
theorem dX7_text_157 : decode cX7_text 157 = .ok (.iadd, 1) := by decide +kernel
theorem dX7_text_158 : decode cX7_text 158 = .ok (.iastore, 1) := by decide +kernel
theorem dX7_text_159 : decode cX7_text 159 = .ok (.iload_n 2, 1) := by decide +kernel
theorem dX7_text_160 : decode cX7_text 160 = .ok (.ireturn, 1) := by decide +kernel
theorem dX7_textTold_0 : decode cX7_textTold 0 = .ok (.iload_n 1, 1) := by decide +kernel
theorem dX7_textTold_1 : decode cX7_textTold 1 = .ok (.iconst 0, 1) := by decide +kernel
theorem dX7_textTold_2 : decode cX7_textTold 2 = .ok (.aload_n 0, 1) := by decide +kernel
theorem dX7_textTold_3 : decode cX7_textTold 3 = .ok (.getfield 9, 3) := by decide +kernel
theorem dX7_textTold_6 : decode cX7_textTold 6 = .ok (.iconst 4, 1) := by decide +kernel
theorem dX7_textTold_7 : decode cX7_textTold 7 = .ok (.iaload, 1) := by decide +kernel
theorem dX7_textTold_8 : decode cX7_textTold 8 = .ok (.iconst 1, 1) := by decide +kernel
theorem dX7_textTold_9 : decode cX7_textTold 9 = .ok (.isub, 1) := by decide +kernel
theorem dX7_textTold_10 : decode cX7_textTold 10 = .ok (.invokestatic 78, 3) := by decide +kernel
theorem dX7_textTold_13 : decode cX7_textTold 13 = .ok (.ifCond .eq 12, 3) := by decide +kernel
theorem dX7_textTold_16 : decode cX7_textTold 16 = .ok (.iload_n 2, 1) := by decide +kernel
theorem dX7_textTold_17 : decode cX7_textTold 17 = .ok (.iconst 0, 1) := by decide +kernel
theorem dX7_textTold_18 : decode cX7_textTold 18 = .ok (.iconst 1, 1) := by decide +kernel
theorem dX7_textTold_19 : decode cX7_textTold 19 = .ok (.invokestatic 78, 3) := by decide +kernel
theorem dX7_textTold_22 : decode cX7_textTold 22 = .ok (.ifCond .ne 6, 3) := by decide +kernel
theorem dX7_textTold_25 : decode cX7_textTold 25 = .ok (.ldc 86, 2) := by decide +kernel
theorem dX7_textTold_27 : decode cX7_textTold 27 = .ok (.ireturn, 1) := by decide +kernel
theorem dX7_textTold_28 : decode cX7_textTold 28 = .ok (.iload_n 2, 1) := by decide +kernel
theorem dX7_textTold_29 : decode cX7_textTold 29 = .ok (.ifCond .ne 21, 3) := by decide +kernel
theorem dX7_textTold_32 : decode cX7_textTold 32 = .ok (.aload_n 0, 1) := by decide +kernel
theorem dX7_textTold_33 : decode cX7_textTold 33 = .ok (.getfield 9, 3) := by decide +kernel
theorem dX7_textTold_36 : decode cX7_textTold 36 = .ok (.bipush 71, 2) := by decide +kernel
theorem dX7_textTold_38 : decode cX7_textTold 38 = .ok (.iconst 2, 1) := by decide +kernel
theorem dX7_textTold_39 : decode cX7_textTold 39 = .ok (.iload_n 1, 1) := by decide +kernel
theorem dX7_textTold_40 : decode cX7_textTold 40 = .ok (.imul, 1) := by decide +kernel
theorem dX7_textTold_41 : decode cX7_textTold 41 = .ok (.iadd, 1) := by decide +kernel
theorem dX7_textTold_42 : decode cX7_textTold 42 = .ok (.iaload, 1) := by decide +kernel
theorem dX7_textTold_43 : decode cX7_textTold 43 = .ok (.sipush 1000, 3) := by decide +kernel
theorem dX7_textTold_46 : decode cX7_textTold 46 = .ok (.idiv, 1) := by decide +kernel
theorem dX7_textTold_47 : decode cX7_textTold 47 = .ok (.goto 16, 3) := by decide +kernel
theorem dX7_textTold_50 : decode cX7_textTold 50 = .ok (.aload_n 0, 1) := by decide +kernel
theorem dX7_textTold_51 : decode cX7_textTold 51 = .ok (.getfield 9, 3) := by decide +kernel
theorem dX7_textTold_54 : decode cX7_textTold 54 = .ok (.bipush 71, 2) := by decide +kernel
theorem dX7_textTold_56 : decode cX7_textTold 56 = .ok (.iconst 2, 1) := by decide +kernel
theorem dX7_textTold_57 : decode cX7_textTold 57 = .ok (.iload_n 1, 1) := by decide +kernel
theorem dX7_textTold_58 : decode cX7_textTold 58 = .ok (.imul, 1) := by decide +kernel
theorem dX7_textTold_59 : decode cX7_textTold 59 = .ok (.iadd, 1) := by decide +kernel
theorem dX7_textTold_60 : decode cX7_textTold 60 = .ok (.iconst 1, 1) := by decide +kernel
theorem dX7_textTold_61 : decode cX7_textTold 61 = .ok (.iadd, 1) := by decide +kernel
theorem dX7_textTold_62 : decode cX7_textTold 62 = .ok (.iaload, 1) := by decide +kernel
theorem dX7_textTold_63 : decode cX7_textTold 63 = .ok (.ireturn, 1) := by decide +kernel
theorem dX7_counts_0 : decode cX7_counts 0 = .ok (.aload_n 0, 1) := by decide +kernel
theorem dX7_counts_1 : decode cX7_counts 1 = .ok (.getfield 9, 3) := by decide +kernel
theorem dX7_counts_4 : decode cX7_counts 4 = .ok (.iconst 4, 1) := by decide +kernel
theorem dX7_counts_5 : decode cX7_counts 5 = .ok (.iaload, 1) := by decide +kernel
theorem dX7_counts_6 : decode cX7_counts 6 = .ok (.iconst 1, 1) := by decide +kernel
theorem dX7_counts_7 : decode cX7_counts 7 = .ok (.isub, 1) := by decide +kernel
theorem dX7_counts_8 : decode cX7_counts 8 = .ok (.istore_n 2, 1) := by decide +kernel
theorem dX7_counts_9 : decode cX7_counts 9 = .ok (.iload_n 2, 1) := by decide +kernel
theorem dX7_counts_10 : decode cX7_counts 10 = .ok (.ifCond .lt 30, 3) := by decide +kernel
theorem dX7_counts_13 : decode cX7_counts 13 = .ok (.aload_n 0, 1) := by decide +kernel
theorem dX7_counts_14 : decode cX7_counts 14 = .ok (.getfield 9, 3) := by decide +kernel
theorem dX7_counts_17 : decode cX7_counts 17 = .ok (.bipush 71, 2) := by decide +kernel
theorem dX7_counts_19 : decode cX7_counts 19 = .ok (.iconst 2, 1) := by decide +kernel
theorem dX7_counts_20 : decode cX7_counts 20 = .ok (.iload_n 2, 1) := by decide +kernel
theorem dX7_counts_21 : decode cX7_counts 21 = .ok (.imul, 1) := by decide +kernel
theorem dX7_counts_22 : decode cX7_counts 22 = .ok (.iadd, 1) := by decide +kernel
theorem dX7_counts_23 : decode cX7_counts 23 = .ok (.iaload, 1) := by decide +kernel
theorem dX7_counts_24 : decode cX7_counts 24 = .ok (.sipush 1000, 3) := by decide +kernel
theorem dX7_counts_27 : decode cX7_counts 27 = .ok (.idiv, 1) := by decide +kernel
theorem dX7_counts_28 : decode cX7_counts 28 = .ok (.iload_n 1, 1) := by decide +kernel
theorem dX7_counts_29 : decode cX7_counts 29 = .ok (.if_icmp .ne 5, 3) := by decide +kernel
theorem dX7_counts_32 : decode cX7_counts 32 = .ok (.iload_n 2, 1) := by decide +kernel
theorem dX7_counts_33 : decode cX7_counts 33 = .ok (.ireturn, 1) := by decide +kernel
theorem dX7_counts_34 : decode cX7_counts 34 = .ok (.iinc 2 (-1), 3) := by decide +kernel
theorem dX7_counts_37 : decode cX7_counts 37 = .ok (.goto (-28), 3) := by decide +kernel
theorem dX7_counts_40 : decode cX7_counts 40 = .ok (.iconst (-1), 1) := by decide +kernel
theorem dX7_counts_41 : decode cX7_counts 41 = .ok (.ireturn, 1) := by decide +kernel
theorem dX7_why_0 : decode cX7_why 0 = .ok (.iload_n 1, 1) := by decide +kernel
theorem dX7_why_1 : decode cX7_why 1 = .ok (.iconst 0, 1) := by decide +kernel
theorem dX7_why_2 : decode cX7_why 2 = .ok (.iconst 2, 1) := by decide +kernel
theorem dX7_why_3 : decode cX7_why 3 = .ok (.invokestatic 78, 3) := by decide +kernel
theorem dX7_why_6 : decode cX7_why 6 = .ok (.ifCond .ne 6, 3) := by decide +kernel
theorem dX7_why_9 : decode cX7_why 9 = .ok (.ldc 86, 2) := by decide +kernel
theorem dX7_why_11 : decode cX7_why 11 = .ok (.ireturn, 1) := by decide +kernel
theorem dX7_why_12 : decode cX7_why 12 = .ok (.aload_n 0, 1) := by decide +kernel
theorem dX7_why_13 : decode cX7_why 13 = .ok (.iload_n 1, 1) := by decide +kernel
theorem dX7_why_14 : decode cX7_why 14 = .ok (.invokevirtual 131, 3) := by decide +kernel
theorem dX7_why_17 : decode cX7_why 17 = .ok (.istore_n 2, 1) := by decide +kernel
theorem dX7_why_18 : decode cX7_why 18 = .ok (.iload_n 2, 1) := by decide +kernel
theorem dX7_why_19 : decode cX7_why 19 = .ok (.ifCond .ge 8, 3) := by decide +kernel
theorem dX7_why_22 : decode cX7_why 22 = .ok (.ldc 159, 2) := by decide +kernel
theorem dX7_why_24 : decode cX7_why 24 = .ok (.goto 4, 3) := by decide +kernel
theorem dX7_why_27 : decode cX7_why 27 = .ok (.iload_n 2, 1) := by decide +kernel
theorem dX7_why_28 : decode cX7_why 28 = .ok (.ireturn, 1) := by decide +kernel
theorem dX7_two_0 : decode cX7_two 0 = .ok (.iload_n 0, 1) := by decide +kernel
theorem dX7_two_1 : decode cX7_two 1 = .ok (.tableswitch 120 (-8) (-1) #[116, 112, 108, 97, 86, 75, 61, 47], 47) := by decide +kernel
theorem dX7_two_48 : decode cX7_two 48 = .ok (.iload_n 1, 1) := by decide +kernel
theorem dX7_two_49 : decode cX7_two 49 = .ok (.ifCond .ne 7, 3) := by decide +kernel
theorem dX7_two_52 : decode cX7_two 52 = .ok (.iload_n 2, 1) := by decide +kernel
theorem dX7_two_53 : decode cX7_two 53 = .ok (.ifCond .eq 7, 3) := by decide +kernel
theorem dX7_two_56 : decode cX7_two 56 = .ok (.iconst 1, 1) := by decide +kernel
theorem dX7_two_57 : decode cX7_two 57 = .ok (.goto 4, 3) := by decide +kernel
theorem dX7_two_60 : decode cX7_two 60 = .ok (.iconst 0, 1) := by decide +kernel
theorem dX7_two_61 : decode cX7_two 61 = .ok (.ireturn, 1) := by decide +kernel
theorem dX7_two_62 : decode cX7_two 62 = .ok (.iload_n 1, 1) := by decide +kernel
theorem dX7_two_63 : decode cX7_two 63 = .ok (.ifCond .eq 11, 3) := by decide +kernel
theorem dX7_two_66 : decode cX7_two 66 = .ok (.iload_n 2, 1) := by decide +kernel
theorem dX7_two_67 : decode cX7_two 67 = .ok (.ifCond .eq 7, 3) := by decide +kernel
theorem dX7_two_70 : decode cX7_two 70 = .ok (.iconst 1, 1) := by decide +kernel
theorem dX7_two_71 : decode cX7_two 71 = .ok (.goto 4, 3) := by decide +kernel
theorem dX7_two_74 : decode cX7_two 74 = .ok (.iconst 0, 1) := by decide +kernel
theorem dX7_two_75 : decode cX7_two 75 = .ok (.ireturn, 1) := by decide +kernel
theorem dX7_two_76 : decode cX7_two 76 = .ok (.iload_n 1, 1) := by decide +kernel
theorem dX7_two_77 : decode cX7_two 77 = .ok (.iload_n 2, 1) := by decide +kernel
theorem dX7_two_78 : decode cX7_two 78 = .ok (.if_icmp .ge 7, 3) := by decide +kernel
theorem dX7_two_81 : decode cX7_two 81 = .ok (.iconst 1, 1) := by decide +kernel
theorem dX7_two_82 : decode cX7_two 82 = .ok (.goto 4, 3) := by decide +kernel
theorem dX7_two_85 : decode cX7_two 85 = .ok (.iconst 0, 1) := by decide +kernel
theorem dX7_two_86 : decode cX7_two 86 = .ok (.ireturn, 1) := by decide +kernel
theorem dX7_two_87 : decode cX7_two 87 = .ok (.iload_n 1, 1) := by decide +kernel
theorem dX7_two_88 : decode cX7_two 88 = .ok (.iload_n 2, 1) := by decide +kernel
theorem dX7_two_89 : decode cX7_two 89 = .ok (.if_icmp .ne 7, 3) := by decide +kernel
theorem dX7_two_92 : decode cX7_two 92 = .ok (.iconst 1, 1) := by decide +kernel
theorem dX7_two_93 : decode cX7_two 93 = .ok (.goto 4, 3) := by decide +kernel
theorem dX7_two_96 : decode cX7_two 96 = .ok (.iconst 0, 1) := by decide +kernel
theorem dX7_two_97 : decode cX7_two 97 = .ok (.ireturn, 1) := by decide +kernel
theorem dX7_two_98 : decode cX7_two 98 = .ok (.iload_n 1, 1) := by decide +kernel
theorem dX7_two_99 : decode cX7_two 99 = .ok (.iload_n 2, 1) := by decide +kernel
theorem dX7_two_100 : decode cX7_two 100 = .ok (.if_icmp .le 7, 3) := by decide +kernel
theorem dX7_two_103 : decode cX7_two 103 = .ok (.iconst 1, 1) := by decide +kernel
theorem dX7_two_104 : decode cX7_two 104 = .ok (.goto 4, 3) := by decide +kernel
theorem dX7_two_107 : decode cX7_two 107 = .ok (.iconst 0, 1) := by decide +kernel
theorem dX7_two_108 : decode cX7_two 108 = .ok (.ireturn, 1) := by decide +kernel
theorem dX7_two_109 : decode cX7_two 109 = .ok (.iload_n 1, 1) := by decide +kernel
theorem dX7_two_110 : decode cX7_two 110 = .ok (.iload_n 2, 1) := by decide +kernel
theorem dX7_two_111 : decode cX7_two 111 = .ok (.iadd, 1) := by decide +kernel
theorem dX7_two_112 : decode cX7_two 112 = .ok (.ireturn, 1) := by decide +kernel
theorem dX7_two_113 : decode cX7_two 113 = .ok (.iload_n 1, 1) := by decide +kernel
theorem dX7_two_114 : decode cX7_two 114 = .ok (.iload_n 2, 1) := by decide +kernel
theorem dX7_two_115 : decode cX7_two 115 = .ok (.isub, 1) := by decide +kernel
theorem dX7_two_116 : decode cX7_two 116 = .ok (.ireturn, 1) := by decide +kernel
theorem dX7_two_117 : decode cX7_two 117 = .ok (.iload_n 1, 1) := by decide +kernel
theorem dX7_two_118 : decode cX7_two 118 = .ok (.iload_n 2, 1) := by decide +kernel
theorem dX7_two_119 : decode cX7_two 119 = .ok (.imul, 1) := by decide +kernel
theorem dX7_two_120 : decode cX7_two 120 = .ok (.ireturn, 1) := by decide +kernel
theorem dX7_two_121 : decode cX7_two 121 = .ok (.iload_n 2, 1) := by decide +kernel
theorem dX7_two_122 : decode cX7_two 122 = .ok (.ifCond .ne 7, 3) := by decide +kernel
theorem dX7_two_125 : decode cX7_two 125 = .ok (.iconst 0, 1) := by decide +kernel
theorem dX7_two_126 : decode cX7_two 126 = .ok (.goto 6, 3) := by decide +kernel
theorem dX7_two_129 : decode cX7_two 129 = .ok (.iload_n 1, 1) := by decide +kernel
theorem dX7_two_130 : decode cX7_two 130 = .ok (.iload_n 2, 1) := by decide +kernel
theorem dX7_two_131 : decode cX7_two 131 = .ok (.idiv, 1) := by decide +kernel
theorem dX7_two_132 : decode cX7_two 132 = .ok (.ireturn, 1) := by decide +kernel
theorem dX7_worksOut_0 : decode cX7_worksOut 0 = .ok (.iconst 0, 1) := by decide +kernel
theorem dX7_worksOut_1 : decode cX7_worksOut 1 = .ok (.istore_n 2, 1) := by decide +kernel
theorem dX7_worksOut_2 : decode cX7_worksOut 2 = .ok (.aload_n 0, 1) := by decide +kernel
theorem dX7_worksOut_3 : decode cX7_worksOut 3 = .ok (.getfield 9, 3) := by decide +kernel
theorem dX7_worksOut_6 : decode cX7_worksOut 6 = .ok (.bipush 71, 2) := by decide +kernel
theorem dX7_worksOut_8 : decode cX7_worksOut 8 = .ok (.iconst 2, 1) := by decide +kernel
theorem dX7_worksOut_9 : decode cX7_worksOut 9 = .ok (.iload_n 1, 1) := by decide +kernel
theorem dX7_worksOut_10 : decode cX7_worksOut 10 = .ok (.imul, 1) := by decide +kernel
theorem dX7_worksOut_11 : decode cX7_worksOut 11 = .ok (.iadd, 1) := by decide +kernel
theorem dX7_worksOut_12 : decode cX7_worksOut 12 = .ok (.iaload, 1) := by decide +kernel
theorem dX7_worksOut_13 : decode cX7_worksOut 13 = .ok (.sipush 1000, 3) := by decide +kernel
theorem dX7_worksOut_16 : decode cX7_worksOut 16 = .ok (.irem, 1) := by decide +kernel
theorem dX7_worksOut_17 : decode cX7_worksOut 17 = .ok (.istore_n 3, 1) := by decide +kernel
theorem dX7_worksOut_18 : decode cX7_worksOut 18 = .ok (.iconst 0, 1) := by decide +kernel
theorem dX7_worksOut_19 : decode cX7_worksOut 19 = .ok (.istore 4, 2) := by decide +kernel
theorem dX7_worksOut_21 : decode cX7_worksOut 21 = .ok (.iload 4, 2) := by decide +kernel
theorem dX7_worksOut_23 : decode cX7_worksOut 23 = .ok (.iload_n 3, 1) := by decide +kernel
theorem dX7_worksOut_24 : decode cX7_worksOut 24 = .ok (.if_icmp .ge 131, 3) := by decide +kernel
theorem dX7_worksOut_27 : decode cX7_worksOut 27 = .ok (.aload_n 0, 1) := by decide +kernel
theorem dX7_worksOut_28 : decode cX7_worksOut 28 = .ok (.getfield 9, 3) := by decide +kernel
theorem dX7_worksOut_31 : decode cX7_worksOut 31 = .ok (.bipush 99, 2) := by decide +kernel
theorem dX7_worksOut_33 : decode cX7_worksOut 33 = .ok (.bipush 96, 2) := by decide +kernel
theorem dX7_worksOut_35 : decode cX7_worksOut 35 = .ok (.iload_n 1, 1) := by decide +kernel
theorem dX7_worksOut_36 : decode cX7_worksOut 36 = .ok (.imul, 1) := by decide +kernel
theorem dX7_worksOut_37 : decode cX7_worksOut 37 = .ok (.iadd, 1) := by decide +kernel
theorem dX7_worksOut_38 : decode cX7_worksOut 38 = .ok (.iload 4, 2) := by decide +kernel
theorem dX7_worksOut_40 : decode cX7_worksOut 40 = .ok (.iadd, 1) := by decide +kernel
theorem dX7_worksOut_41 : decode cX7_worksOut 41 = .ok (.iaload, 1) := by decide +kernel
theorem dX7_worksOut_42 : decode cX7_worksOut 42 = .ok (.istore 5, 2) := by decide +kernel
theorem dX7_worksOut_44 : decode cX7_worksOut 44 = .ok (.iload 5, 2) := by decide +kernel
theorem dX7_worksOut_46 : decode cX7_worksOut 46 = .ok (.ifCond .lt 39, 3) := by decide +kernel
theorem dX7_worksOut_49 : decode cX7_worksOut 49 = .ok (.aload_n 0, 1) := by decide +kernel
theorem dX7_worksOut_50 : decode cX7_worksOut 50 = .ok (.getfield 45, 3) := by decide +kernel
theorem dX7_worksOut_53 : decode cX7_worksOut 53 = .ok (.iload_n 2, 1) := by decide +kernel
theorem dX7_worksOut_54 : decode cX7_worksOut 54 = .ok (.iload 5, 2) := by decide +kernel
theorem dX7_worksOut_56 : decode cX7_worksOut 56 = .ok (.sipush 10000, 3) := by decide +kernel
theorem dX7_worksOut_59 : decode cX7_worksOut 59 = .ok (.if_icmp .ge 8, 3) := by decide +kernel
theorem dX7_worksOut_62 : decode cX7_worksOut 62 = .ok (.iload 5, 2) := by decide +kernel
theorem dX7_worksOut_64 : decode cX7_worksOut 64 = .ok (.goto 14, 3) := by decide +kernel
theorem dX7_worksOut_67 : decode cX7_worksOut 67 = .ok (.aload_n 0, 1) := by decide +kernel
theorem dX7_worksOut_68 : decode cX7_worksOut 68 = .ok (.getfield 48, 3) := by decide +kernel
theorem dX7_worksOut_71 : decode cX7_worksOut 71 = .ok (.iload 5, 2) := by decide +kernel
theorem dX7_worksOut_73 : decode cX7_worksOut 73 = .ok (.sipush 10000, 3) := by decide +kernel
theorem dX7_worksOut_76 : decode cX7_worksOut 76 = .ok (.isub, 1) := by decide +kernel
theorem dX7_worksOut_77 : decode cX7_worksOut 77 = .ok (.iaload, 1) := by decide +kernel
theorem dX7_worksOut_78 : decode cX7_worksOut 78 = .ok (.iastore, 1) := by decide +kernel
theorem dX7_worksOut_79 : decode cX7_worksOut 79 = .ok (.iinc 2 1, 3) := by decide +kernel
theorem dX7_worksOut_82 : decode cX7_worksOut 82 = .ok (.goto 67, 3) := by decide +kernel
theorem dX7_worksOut_85 : decode cX7_worksOut 85 = .ok (.iload 5, 2) := by decide +kernel
theorem dX7_worksOut_87 : decode cX7_worksOut 87 = .ok (.bipush (-10), 2) := by decide +kernel
theorem dX7_worksOut_89 : decode cX7_worksOut 89 = .ok (.if_icmp .ne 30, 3) := by decide +kernel
theorem dX7_worksOut_92 : decode cX7_worksOut 92 = .ok (.aload_n 0, 1) := by decide +kernel
theorem dX7_worksOut_93 : decode cX7_worksOut 93 = .ok (.getfield 45, 3) := by decide +kernel
theorem dX7_worksOut_96 : decode cX7_worksOut 96 = .ok (.iload_n 2, 1) := by decide +kernel
theorem dX7_worksOut_97 : decode cX7_worksOut 97 = .ok (.iconst 1, 1) := by decide +kernel
theorem dX7_worksOut_98 : decode cX7_worksOut 98 = .ok (.isub, 1) := by decide +kernel
theorem dX7_worksOut_99 : decode cX7_worksOut 99 = .ok (.aload_n 0, 1) := by decide +kernel
theorem dX7_worksOut_100 : decode cX7_worksOut 100 = .ok (.getfield 45, 3) := by decide +kernel
theorem dX7_worksOut_103 : decode cX7_worksOut 103 = .ok (.iload_n 2, 1) := by decide +kernel
theorem dX7_worksOut_104 : decode cX7_worksOut 104 = .ok (.iconst 1, 1) := by decide +kernel
theorem dX7_worksOut_105 : decode cX7_worksOut 105 = .ok (.isub, 1) := by decide +kernel
theorem dX7_worksOut_106 : decode cX7_worksOut 106 = .ok (.iaload, 1) := by decide +kernel
theorem dX7_worksOut_107 : decode cX7_worksOut 107 = .ok (.ifCond .ne 7, 3) := by decide +kernel
theorem dX7_worksOut_110 : decode cX7_worksOut 110 = .ok (.iconst 1, 1) := by decide +kernel
theorem dX7_worksOut_111 : decode cX7_worksOut 111 = .ok (.goto 4, 3) := by decide +kernel
theorem dX7_worksOut_114 : decode cX7_worksOut 114 = .ok (.iconst 0, 1) := by decide +kernel
theorem dX7_worksOut_115 : decode cX7_worksOut 115 = .ok (.iastore, 1) := by decide +kernel
theorem dX7_worksOut_116 : decode cX7_worksOut 116 = .ok (.goto 33, 3) := by decide +kernel
theorem dX7_worksOut_119 : decode cX7_worksOut 119 = .ok (.iinc 2 (-1), 3) := by decide +kernel
theorem dX7_worksOut_122 : decode cX7_worksOut 122 = .ok (.aload_n 0, 1) := by decide +kernel
theorem dX7_worksOut_123 : decode cX7_worksOut 123 = .ok (.getfield 45, 3) := by decide +kernel
theorem dX7_worksOut_126 : decode cX7_worksOut 126 = .ok (.iload_n 2, 1) := by decide +kernel
theorem dX7_worksOut_127 : decode cX7_worksOut 127 = .ok (.iconst 1, 1) := by decide +kernel
theorem dX7_worksOut_128 : decode cX7_worksOut 128 = .ok (.isub, 1) := by decide +kernel
theorem dX7_worksOut_129 : decode cX7_worksOut 129 = .ok (.iload 5, 2) := by decide +kernel
theorem dX7_worksOut_131 : decode cX7_worksOut 131 = .ok (.aload_n 0, 1) := by decide +kernel
theorem dX7_worksOut_132 : decode cX7_worksOut 132 = .ok (.getfield 45, 3) := by decide +kernel
theorem dX7_worksOut_135 : decode cX7_worksOut 135 = .ok (.iload_n 2, 1) := by decide +kernel
theorem dX7_worksOut_136 : decode cX7_worksOut 136 = .ok (.iconst 1, 1) := by decide +kernel
theorem dX7_worksOut_137 : decode cX7_worksOut 137 = .ok (.isub, 1) := by decide +kernel
theorem dX7_worksOut_138 : decode cX7_worksOut 138 = .ok (.iaload, 1) := by decide +kernel
theorem dX7_worksOut_139 : decode cX7_worksOut 139 = .ok (.aload_n 0, 1) := by decide +kernel
theorem dX7_worksOut_140 : decode cX7_worksOut 140 = .ok (.getfield 45, 3) := by decide +kernel
theorem dX7_worksOut_143 : decode cX7_worksOut 143 = .ok (.iload_n 2, 1) := by decide +kernel
theorem dX7_worksOut_144 : decode cX7_worksOut 144 = .ok (.iaload, 1) := by decide +kernel
theorem dX7_worksOut_145 : decode cX7_worksOut 145 = .ok (.invokestatic 241, 3) := by decide +kernel
theorem dX7_worksOut_148 : decode cX7_worksOut 148 = .ok (.iastore, 1) := by decide +kernel
theorem dX7_worksOut_149 : decode cX7_worksOut 149 = .ok (.iinc 4 1, 3) := by decide +kernel
theorem dX7_worksOut_152 : decode cX7_worksOut 152 = .ok (.goto (-131), 3) := by decide +kernel
theorem dX7_worksOut_155 : decode cX7_worksOut 155 = .ok (.aload_n 0, 1) := by decide +kernel
theorem dX7_worksOut_156 : decode cX7_worksOut 156 = .ok (.getfield 45, 3) := by decide +kernel
theorem dX7_worksOut_159 : decode cX7_worksOut 159 = .ok (.iconst 0, 1) := by decide +kernel
theorem dX7_worksOut_160 : decode cX7_worksOut 160 = .ok (.iaload, 1) := by decide +kernel
theorem dX7_worksOut_161 : decode cX7_worksOut 161 = .ok (.ireturn, 1) := by decide +kernel
theorem dX7_isSheet_0 : decode cX7_isSheet 0 = .ok (.iload_n 0, 1) := by decide +kernel
theorem dX7_isSheet_1 : decode cX7_isSheet 1 = .ok (.iconst 0, 1) := by decide +kernel
theorem dX7_isSheet_2 : decode cX7_isSheet 2 = .ok (.iconst 3, 1) := by decide +kernel
theorem dX7_isSheet_3 : decode cX7_isSheet 3 = .ok (.invokestatic 78, 3) := by decide +kernel
theorem dX7_isSheet_6 : decode cX7_isSheet 6 = .ok (.ireturn, 1) := by decide +kernel
theorem dX7_isSlot_0 : decode cX7_isSlot 0 = .ok (.iload_n 0, 1) := by decide +kernel
theorem dX7_isSlot_1 : decode cX7_isSlot 1 = .ok (.iconst 0, 1) := by decide +kernel
theorem dX7_isSlot_2 : decode cX7_isSlot 2 = .ok (.iconst 4, 1) := by decide +kernel
theorem dX7_isSlot_3 : decode cX7_isSlot 3 = .ok (.invokestatic 78, 3) := by decide +kernel
theorem dX7_isSlot_6 : decode cX7_isSlot 6 = .ok (.ireturn, 1) := by decide +kernel
theorem dX7_sheet_0 : decode cX7_sheet 0 = .ok (.iload_n 1, 1) := by decide +kernel
theorem dX7_sheet_1 : decode cX7_sheet 1 = .ok (.invokestatic 244, 3) := by decide +kernel
theorem dX7_sheet_4 : decode cX7_sheet 4 = .ok (.ifCond .eq 22, 3) := by decide +kernel
theorem dX7_sheet_7 : decode cX7_sheet 7 = .ok (.iload_n 2, 1) := by decide +kernel
theorem dX7_sheet_8 : decode cX7_sheet 8 = .ok (.iconst (-1), 1) := by decide +kernel
theorem dX7_sheet_9 : decode cX7_sheet 9 = .ok (.iconst 1, 1) := by decide +kernel
theorem dX7_sheet_10 : decode cX7_sheet 10 = .ok (.invokestatic 78, 3) := by decide +kernel
theorem dX7_sheet_13 : decode cX7_sheet 13 = .ok (.ifCond .eq 13, 3) := by decide +kernel
theorem dX7_sheet_16 : decode cX7_sheet 16 = .ok (.iload_n 2, 1) := by decide +kernel
theorem dX7_sheet_17 : decode cX7_sheet 17 = .ok (.ifCond .lt 12, 3) := by decide +kernel
theorem dX7_sheet_20 : decode cX7_sheet 20 = .ok (.iload_n 3, 1) := by decide +kernel
theorem dX7_sheet_21 : decode cX7_sheet 21 = .ok (.bipush 24, 2) := by decide +kernel
theorem dX7_sheet_23 : decode cX7_sheet 23 = .ok (.if_icmp .le 6, 3) := by decide +kernel
theorem dX7_sheet_26 : decode cX7_sheet 26 = .ok (.ldc 86, 2) := by decide +kernel
theorem dX7_sheet_28 : decode cX7_sheet 28 = .ok (.ireturn, 1) := by decide +kernel
theorem dX7_sheet_29 : decode cX7_sheet 29 = .ok (.iload_n 2, 1) := by decide +kernel
theorem dX7_sheet_30 : decode cX7_sheet 30 = .ok (.ifCond .lt 10, 3) := by decide +kernel
theorem dX7_sheet_33 : decode cX7_sheet 33 = .ok (.iload_n 3, 1) := by decide +kernel
theorem dX7_sheet_34 : decode cX7_sheet 34 = .ok (.ifCond .ge 6, 3) := by decide +kernel
theorem dX7_sheet_37 : decode cX7_sheet 37 = .ok (.ldc 247, 2) := by decide +kernel
theorem dX7_sheet_39 : decode cX7_sheet 39 = .ok (.ireturn, 1) := by decide +kernel
theorem dX7_sheet_40 : decode cX7_sheet 40 = .ok (.aload_n 0, 1) := by decide +kernel
theorem dX7_sheet_41 : decode cX7_sheet 41 = .ok (.getfield 51, 3) := by decide +kernel
theorem dX7_sheet_44 : decode cX7_sheet 44 = .ok (.iload_n 1, 1) := by decide +kernel
theorem dX7_sheet_45 : decode cX7_sheet 45 = .ok (.iload_n 2, 1) := by decide +kernel
theorem dX7_sheet_46 : decode cX7_sheet 46 = .ok (.iastore, 1) := by decide +kernel
theorem dX7_sheet_47 : decode cX7_sheet 47 = .ok (.aload_n 0, 1) := by decide +kernel
theorem dX7_sheet_48 : decode cX7_sheet 48 = .ok (.getfield 54, 3) := by decide +kernel
theorem dX7_sheet_51 : decode cX7_sheet 51 = .ok (.iload_n 1, 1) := by decide +kernel
theorem dX7_sheet_52 : decode cX7_sheet 52 = .ok (.iload_n 2, 1) := by decide +kernel
theorem dX7_sheet_53 : decode cX7_sheet 53 = .ok (.ifCond .ge 7, 3) := by decide +kernel
theorem dX7_sheet_56 : decode cX7_sheet 56 = .ok (.iconst 0, 1) := by decide +kernel
theorem dX7_sheet_57 : decode cX7_sheet 57 = .ok (.goto 4, 3) := by decide +kernel
theorem dX7_sheet_60 : decode cX7_sheet 60 = .ok (.iload_n 3, 1) := by decide +kernel
theorem dX7_sheet_61 : decode cX7_sheet 61 = .ok (.iastore, 1) := by decide +kernel
theorem dX7_sheet_62 : decode cX7_sheet 62 = .ok (.iconst 0, 1) := by decide +kernel
theorem dX7_sheet_63 : decode cX7_sheet 63 = .ok (.istore 4, 2) := by decide +kernel
theorem dX7_sheet_65 : decode cX7_sheet 65 = .ok (.iload 4, 2) := by decide +kernel
theorem dX7_sheet_67 : decode cX7_sheet 67 = .ok (.bipush 24, 2) := by decide +kernel
theorem dX7_sheet_69 : decode cX7_sheet 69 = .ok (.if_icmp .ge 22, 3) := by decide +kernel
theorem dX7_sheet_72 : decode cX7_sheet 72 = .ok (.aload_n 0, 1) := by decide +kernel
theorem dX7_sheet_73 : decode cX7_sheet 73 = .ok (.getfield 57, 3) := by decide +kernel
theorem dX7_sheet_76 : decode cX7_sheet 76 = .ok (.bipush 24, 2) := by decide +kernel
theorem dX7_sheet_78 : decode cX7_sheet 78 = .ok (.iload_n 1, 1) := by decide +kernel
theorem dX7_sheet_79 : decode cX7_sheet 79 = .ok (.imul, 1) := by decide +kernel
theorem dX7_sheet_80 : decode cX7_sheet 80 = .ok (.iload 4, 2) := by decide +kernel
theorem dX7_sheet_82 : decode cX7_sheet 82 = .ok (.iadd, 1) := by decide +kernel
theorem dX7_sheet_83 : decode cX7_sheet 83 = .ok (.iconst 0, 1) := by decide +kernel
theorem dX7_sheet_84 : decode cX7_sheet 84 = .ok (.iastore, 1) := by decide +kernel
theorem dX7_sheet_85 : decode cX7_sheet 85 = .ok (.iinc 4 1, 3) := by decide +kernel
theorem dX7_sheet_88 : decode cX7_sheet 88 = .ok (.goto (-23), 3) := by decide +kernel
theorem dX7_sheet_91 : decode cX7_sheet 91 = .ok (.aload_n 0, 1) := by decide +kernel
theorem dX7_sheet_92 : decode cX7_sheet 92 = .ok (.getfield 54, 3) := by decide +kernel
theorem dX7_sheet_95 : decode cX7_sheet 95 = .ok (.iload_n 1, 1) := by decide +kernel
theorem dX7_sheet_96 : decode cX7_sheet 96 = .ok (.iaload, 1) := by decide +kernel
theorem dX7_sheet_97 : decode cX7_sheet 97 = .ok (.ireturn, 1) := by decide +kernel
theorem dX7_mark_0 : decode cX7_mark 0 = .ok (.iload_n 1, 1) := by decide +kernel
theorem dX7_mark_1 : decode cX7_mark 1 = .ok (.invokestatic 244, 3) := by decide +kernel
theorem dX7_mark_4 : decode cX7_mark 4 = .ok (.ifCond .ne 6, 3) := by decide +kernel
theorem dX7_mark_7 : decode cX7_mark 7 = .ok (.ldc 86, 2) := by decide +kernel
theorem dX7_mark_9 : decode cX7_mark 9 = .ok (.ireturn, 1) := by decide +kernel
theorem dX7_mark_10 : decode cX7_mark 10 = .ok (.aload_n 0, 1) := by decide +kernel
theorem dX7_mark_11 : decode cX7_mark 11 = .ok (.getfield 51, 3) := by decide +kernel
theorem dX7_mark_14 : decode cX7_mark 14 = .ok (.iload_n 1, 1) := by decide +kernel
theorem dX7_mark_15 : decode cX7_mark 15 = .ok (.iaload, 1) := by decide +kernel
theorem dX7_mark_16 : decode cX7_mark 16 = .ok (.ifCond .ge 6, 3) := by decide +kernel
theorem dX7_mark_19 : decode cX7_mark 19 = .ok (.ldc 248, 2) := by decide +kernel
theorem dX7_mark_21 : decode cX7_mark 21 = .ok (.ireturn, 1) := by decide +kernel
theorem dX7_mark_22 : decode cX7_mark 22 = .ok (.iload_n 2, 1) := by decide +kernel
theorem dX7_mark_23 : decode cX7_mark 23 = .ok (.iconst 0, 1) := by decide +kernel
theorem dX7_mark_24 : decode cX7_mark 24 = .ok (.aload_n 0, 1) := by decide +kernel
theorem dX7_mark_25 : decode cX7_mark 25 = .ok (.getfield 54, 3) := by decide +kernel
theorem dX7_mark_28 : decode cX7_mark 28 = .ok (.iload_n 1, 1) := by decide +kernel
theorem dX7_mark_29 : decode cX7_mark 29 = .ok (.iaload, 1) := by decide +kernel
theorem dX7_mark_30 : decode cX7_mark 30 = .ok (.iconst 1, 1) := by decide +kernel
theorem dX7_mark_31 : decode cX7_mark 31 = .ok (.isub, 1) := by decide +kernel
theorem dX7_mark_32 : decode cX7_mark 32 = .ok (.invokestatic 78, 3) := by decide +kernel
theorem dX7_mark_35 : decode cX7_mark 35 = .ok (.ifCond .ne 6, 3) := by decide +kernel
theorem dX7_mark_38 : decode cX7_mark 38 = .ok (.ldc 249, 2) := by decide +kernel
theorem dX7_mark_40 : decode cX7_mark 40 = .ok (.ireturn, 1) := by decide +kernel
theorem dX7_mark_41 : decode cX7_mark 41 = .ok (.aload_n 0, 1) := by decide +kernel
theorem dX7_mark_42 : decode cX7_mark 42 = .ok (.getfield 51, 3) := by decide +kernel
theorem dX7_mark_45 : decode cX7_mark 45 = .ok (.iload_n 1, 1) := by decide +kernel
theorem dX7_mark_46 : decode cX7_mark 46 = .ok (.iaload, 1) := by decide +kernel
theorem dX7_mark_47 : decode cX7_mark 47 = .ok (.ifCond .ne 12, 3) := by decide +kernel
theorem dX7_mark_50 : decode cX7_mark 50 = .ok (.iload_n 3, 1) := by decide +kernel
theorem dX7_mark_51 : decode cX7_mark 51 = .ok (.ldc 159, 2) := by decide +kernel
theorem dX7_mark_53 : decode cX7_mark 53 = .ok (.if_icmp .ne 6, 3) := by decide +kernel
theorem dX7_mark_56 : decode cX7_mark 56 = .ok (.ldc 106, 2) := by decide +kernel
theorem dX7_mark_58 : decode cX7_mark 58 = .ok (.ireturn, 1) := by decide +kernel
theorem dX7_mark_59 : decode cX7_mark 59 = .ok (.aload_n 0, 1) := by decide +kernel
theorem dX7_mark_60 : decode cX7_mark 60 = .ok (.getfield 51, 3) := by decide +kernel
theorem dX7_mark_63 : decode cX7_mark 63 = .ok (.iload_n 1, 1) := by decide +kernel
theorem dX7_mark_64 : decode cX7_mark 64 = .ok (.iaload, 1) := by decide +kernel
theorem dX7_mark_65 : decode cX7_mark 65 = .ok (.iconst 1, 1) := by decide +kernel
theorem dX7_mark_66 : decode cX7_mark 66 = .ok (.if_icmp .ne 23, 3) := by decide +kernel
theorem dX7_mark_69 : decode cX7_mark 69 = .ok (.iload_n 3, 1) := by decide +kernel
theorem dX7_mark_70 : decode cX7_mark 70 = .ok (.ldc 159, 2) := by decide +kernel
theorem dX7_mark_72 : decode cX7_mark 72 = .ok (.if_icmp .eq 17, 3) := by decide +kernel
theorem dX7_mark_75 : decode cX7_mark 75 = .ok (.iload_n 3, 1) := by decide +kernel
theorem dX7_mark_76 : decode cX7_mark 76 = .ok (.ldc 250, 2) := by decide +kernel
theorem dX7_mark_78 : decode cX7_mark 78 = .ok (.ldc 176, 2) := by decide +kernel
theorem dX7_mark_80 : decode cX7_mark 80 = .ok (.invokestatic 78, 3) := by decide +kernel
theorem dX7_mark_83 : decode cX7_mark 83 = .ok (.ifCond .ne 6, 3) := by decide +kernel
theorem dX7_mark_86 : decode cX7_mark 86 = .ok (.ldc 86, 2) := by decide +kernel
theorem dX7_mark_88 : decode cX7_mark 88 = .ok (.ireturn, 1) := by decide +kernel
theorem dX7_mark_89 : decode cX7_mark 89 = .ok (.aload_n 0, 1) := by decide +kernel
theorem dX7_mark_90 : decode cX7_mark 90 = .ok (.getfield 57, 3) := by decide +kernel
theorem dX7_mark_93 : decode cX7_mark 93 = .ok (.bipush 24, 2) := by decide +kernel
theorem dX7_mark_95 : decode cX7_mark 95 = .ok (.iload_n 1, 1) := by decide +kernel
theorem dX7_mark_96 : decode cX7_mark 96 = .ok (.imul, 1) := by decide +kernel
theorem dX7_mark_97 : decode cX7_mark 97 = .ok (.iload_n 2, 1) := by decide +kernel
theorem dX7_mark_98 : decode cX7_mark 98 = .ok (.iadd, 1) := by decide +kernel
theorem dX7_mark_99 : decode cX7_mark 99 = .ok (.aload_n 0, 1) := by decide +kernel
theorem dX7_mark_100 : decode cX7_mark 100 = .ok (.getfield 51, 3) := by decide +kernel
theorem dX7_mark_103 : decode cX7_mark 103 = .ok (.iload_n 1, 1) := by decide +kernel
theorem dX7_mark_104 : decode cX7_mark 104 = .ok (.iaload, 1) := by decide +kernel
theorem dX7_mark_105 : decode cX7_mark 105 = .ok (.ifCond .ne 8, 3) := by decide +kernel
theorem dX7_mark_108 : decode cX7_mark 108 = .ok (.iload_n 3, 1) := by decide +kernel
theorem dX7_mark_109 : decode cX7_mark 109 = .ok (.i2s, 1) := by decide +kernel
theorem dX7_mark_110 : decode cX7_mark 110 = .ok (.goto 4, 3) := by decide +kernel
theorem dX7_mark_113 : decode cX7_mark 113 = .ok (.iload_n 3, 1) := by decide +kernel
theorem dX7_mark_114 : decode cX7_mark 114 = .ok (.iastore, 1) := by decide +kernel
theorem dX7_mark_115 : decode cX7_mark 115 = .ok (.iconst 1, 1) := by decide +kernel
theorem dX7_mark_116 : decode cX7_mark 116 = .ok (.ireturn, 1) := by decide +kernel
theorem dX7_heard_0 : decode cX7_heard 0 = .ok (.iload_n 1, 1) := by decide +kernel
theorem dX7_heard_1 : decode cX7_heard 1 = .ok (.invokestatic 244, 3) := by decide +kernel
theorem dX7_heard_4 : decode cX7_heard 4 = .ok (.ifCond .ne 6, 3) := by decide +kernel
theorem dX7_heard_7 : decode cX7_heard 7 = .ok (.ldc 86, 2) := by decide +kernel
theorem dX7_heard_9 : decode cX7_heard 9 = .ok (.ireturn, 1) := by decide +kernel
theorem dX7_heard_10 : decode cX7_heard 10 = .ok (.aload_n 0, 1) := by decide +kernel
theorem dX7_heard_11 : decode cX7_heard 11 = .ok (.getfield 51, 3) := by decide +kernel
theorem dX7_heard_14 : decode cX7_heard 14 = .ok (.iload_n 1, 1) := by decide +kernel
theorem dX7_heard_15 : decode cX7_heard 15 = .ok (.iaload, 1) := by decide +kernel
theorem dX7_heard_16 : decode cX7_heard 16 = .ok (.ifCond .ge 6, 3) := by decide +kernel
theorem dX7_heard_19 : decode cX7_heard 19 = .ok (.ldc 248, 2) := by decide +kernel
theorem dX7_heard_21 : decode cX7_heard 21 = .ok (.ireturn, 1) := by decide +kernel
theorem dX7_heard_22 : decode cX7_heard 22 = .ok (.ldc 159, 2) := by decide +kernel
theorem dX7_heard_24 : decode cX7_heard 24 = .ok (.istore_n 2, 1) := by decide +kernel
theorem dX7_heard_25 : decode cX7_heard 25 = .ok (.iconst (-1), 1) := by decide +kernel
theorem dX7_heard_26 : decode cX7_heard 26 = .ok (.istore_n 3, 1) := by decide +kernel
theorem dX7_heard_27 : decode cX7_heard 27 = .ok (.iconst 0, 1) := by decide +kernel
theorem dX7_heard_28 : decode cX7_heard 28 = .ok (.istore 4, 2) := by decide +kernel
theorem dX7_heard_30 : decode cX7_heard 30 = .ok (.iload 4, 2) := by decide +kernel
theorem dX7_heard_32 : decode cX7_heard 32 = .ok (.aload_n 0, 1) := by decide +kernel
theorem dX7_heard_33 : decode cX7_heard 33 = .ok (.getfield 9, 3) := by decide +kernel
theorem dX7_heard_36 : decode cX7_heard 36 = .ok (.iconst 1, 1) := by decide +kernel
theorem dX7_heard_37 : decode cX7_heard 37 = .ok (.iaload, 1) := by decide +kernel
theorem dX7_heard_38 : decode cX7_heard 38 = .ok (.if_icmp .ge 107, 3) := by decide +kernel
theorem dX7_heard_41 : decode cX7_heard 41 = .ok (.aload_n 0, 1) := by decide +kernel
theorem dX7_heard_42 : decode cX7_heard 42 = .ok (.iload 4, 2) := by decide +kernel
theorem dX7_heard_44 : decode cX7_heard 44 = .ok (.invokevirtual 173, 3) := by decide +kernel
theorem dX7_heard_47 : decode cX7_heard 47 = .ok (.iconst 0, 1) := by decide +kernel
theorem dX7_heard_48 : decode cX7_heard 48 = .ok (.istore 5, 2) := by decide +kernel
theorem dX7_heard_50 : decode cX7_heard 50 = .ok (.iconst 0, 1) := by decide +kernel
theorem dX7_heard_51 : decode cX7_heard 51 = .ok (.istore 6, 2) := by decide +kernel
theorem dX7_heard_53 : decode cX7_heard 53 = .ok (.iload 6, 2) := by decide +kernel
theorem dX7_heard_55 : decode cX7_heard 55 = .ok (.aload_n 0, 1) := by decide +kernel
theorem dX7_heard_56 : decode cX7_heard 56 = .ok (.getfield 54, 3) := by decide +kernel
theorem dX7_heard_59 : decode cX7_heard 59 = .ok (.iload_n 1, 1) := by decide +kernel
theorem dX7_heard_60 : decode cX7_heard 60 = .ok (.iaload, 1) := by decide +kernel
theorem dX7_heard_61 : decode cX7_heard 61 = .ok (.if_icmp .ge 52, 3) := by decide +kernel
theorem dX7_heard_64 : decode cX7_heard 64 = .ok (.aload_n 0, 1) := by decide +kernel
theorem dX7_heard_65 : decode cX7_heard 65 = .ok (.getfield 57, 3) := by decide +kernel
theorem dX7_heard_68 : decode cX7_heard 68 = .ok (.bipush 24, 2) := by decide +kernel
theorem dX7_heard_70 : decode cX7_heard 70 = .ok (.iload_n 1, 1) := by decide +kernel
theorem dX7_heard_71 : decode cX7_heard 71 = .ok (.imul, 1) := by decide +kernel
theorem dX7_heard_72 : decode cX7_heard 72 = .ok (.iload 6, 2) := by decide +kernel
theorem dX7_heard_74 : decode cX7_heard 74 = .ok (.iadd, 1) := by decide +kernel
theorem dX7_heard_75 : decode cX7_heard 75 = .ok (.iaload, 1) := by decide +kernel
theorem dX7_heard_76 : decode cX7_heard 76 = .ok (.istore 7, 2) := by decide +kernel
theorem dX7_heard_78 : decode cX7_heard 78 = .ok (.iload 5, 2) := by decide +kernel
theorem dX7_heard_80 : decode cX7_heard 80 = .ok (.iload 7, 2) := by decide +kernel
theorem dX7_heard_82 : decode cX7_heard 82 = .ok (.ldc 159, 2) := by decide +kernel
theorem dX7_heard_84 : decode cX7_heard 84 = .ok (.if_icmp .eq 19, 3) := by decide +kernel
theorem dX7_heard_87 : decode cX7_heard 87 = .ok (.iload 7, 2) := by decide +kernel
theorem dX7_heard_89 : decode cX7_heard 89 = .ok (.aload_n 0, 1) := by decide +kernel
theorem dX7_heard_90 : decode cX7_heard 90 = .ok (.getfield 22, 3) := by decide +kernel
theorem dX7_heard_93 : decode cX7_heard 93 = .ok (.iload 6, 2) := by decide +kernel
theorem dX7_heard_95 : decode cX7_heard 95 = .ok (.iaload, 1) := by decide +kernel
theorem dX7_heard_96 : decode cX7_heard 96 = .ok (.if_icmp .ne 7, 3) := by decide +kernel
theorem dX7_heard_99 : decode cX7_heard 99 = .ok (.iconst 1, 1) := by decide +kernel
theorem dX7_heard_100 : decode cX7_heard 100 = .ok (.goto 4, 3) := by decide +kernel
theorem dX7_heard_103 : decode cX7_heard 103 = .ok (.iconst 0, 1) := by decide +kernel
theorem dX7_heard_104 : decode cX7_heard 104 = .ok (.iadd, 1) := by decide +kernel
theorem dX7_heard_105 : decode cX7_heard 105 = .ok (.istore 5, 2) := by decide +kernel
theorem dX7_heard_107 : decode cX7_heard 107 = .ok (.iinc 6 1, 3) := by decide +kernel
theorem dX7_heard_110 : decode cX7_heard 110 = .ok (.goto (-57), 3) := by decide +kernel
theorem dX7_heard_113 : decode cX7_heard 113 = .ok (.iload 5, 2) := by decide +kernel
theorem dX7_heard_115 : decode cX7_heard 115 = .ok (.iload_n 3, 1) := by decide +kernel
theorem dX7_heard_116 : decode cX7_heard 116 = .ok (.if_icmp .le 8, 3) := by decide +kernel
theorem dX7_heard_119 : decode cX7_heard 119 = .ok (.iload 4, 2) := by decide +kernel
theorem dX7_heard_121 : decode cX7_heard 121 = .ok (.goto 4, 3) := by decide +kernel
theorem dX7_heard_124 : decode cX7_heard 124 = .ok (.iload_n 2, 1) := by decide +kernel
theorem dX7_heard_125 : decode cX7_heard 125 = .ok (.istore_n 2, 1) := by decide +kernel
theorem dX7_heard_126 : decode cX7_heard 126 = .ok (.iload 5, 2) := by decide +kernel
theorem dX7_heard_128 : decode cX7_heard 128 = .ok (.iload_n 3, 1) := by decide +kernel
theorem dX7_heard_129 : decode cX7_heard 129 = .ok (.if_icmp .le 8, 3) := by decide +kernel
theorem dX7_heard_132 : decode cX7_heard 132 = .ok (.iload 5, 2) := by decide +kernel
theorem dX7_heard_134 : decode cX7_heard 134 = .ok (.goto 4, 3) := by decide +kernel
theorem dX7_heard_137 : decode cX7_heard 137 = .ok (.iload_n 3, 1) := by decide +kernel
theorem dX7_heard_138 : decode cX7_heard 138 = .ok (.istore_n 3, 1) := by decide +kernel
theorem dX7_heard_139 : decode cX7_heard 139 = .ok (.iinc 4 1, 3) := by decide +kernel
theorem dX7_heard_142 : decode cX7_heard 142 = .ok (.goto (-112), 3) := by decide +kernel
theorem dX7_heard_145 : decode cX7_heard 145 = .ok (.iload_n 2, 1) := by decide +kernel
theorem dX7_heard_146 : decode cX7_heard 146 = .ok (.ireturn, 1) := by decide +kernel
theorem dX7_pour_0 : decode cX7_pour 0 = .ok (.iload_n 1, 1) := by decide +kernel
theorem dX7_pour_1 : decode cX7_pour 1 = .ok (.invokestatic 244, 3) := by decide +kernel
theorem dX7_pour_4 : decode cX7_pour 4 = .ok (.ifCond .ne 6, 3) := by decide +kernel
theorem dX7_pour_7 : decode cX7_pour 7 = .ok (.ldc 86, 2) := by decide +kernel
theorem dX7_pour_9 : decode cX7_pour 9 = .ok (.ireturn, 1) := by decide +kernel
theorem dX7_pour_10 : decode cX7_pour 10 = .ok (.aload_n 0, 1) := by decide +kernel
theorem dX7_pour_11 : decode cX7_pour 11 = .ok (.getfield 51, 3) := by decide +kernel
theorem dX7_pour_14 : decode cX7_pour 14 = .ok (.iload_n 1, 1) := by decide +kernel
theorem dX7_pour_15 : decode cX7_pour 15 = .ok (.iaload, 1) := by decide +kernel
theorem dX7_pour_16 : decode cX7_pour 16 = .ok (.ifCond .ge 6, 3) := by decide +kernel
theorem dX7_pour_19 : decode cX7_pour 19 = .ok (.ldc 248, 2) := by decide +kernel
theorem dX7_pour_21 : decode cX7_pour 21 = .ok (.ireturn, 1) := by decide +kernel
theorem dX7_pour_22 : decode cX7_pour 22 = .ok (.iconst 0, 1) := by decide +kernel
theorem dX7_pour_23 : decode cX7_pour 23 = .ok (.istore_n 2, 1) := by decide +kernel
theorem dX7_pour_24 : decode cX7_pour 24 = .ok (.iconst 0, 1) := by decide +kernel
theorem dX7_pour_25 : decode cX7_pour 25 = .ok (.istore_n 3, 1) := by decide +kernel
theorem dX7_pour_26 : decode cX7_pour 26 = .ok (.iload_n 3, 1) := by decide +kernel
theorem dX7_pour_27 : decode cX7_pour 27 = .ok (.aload_n 0, 1) := by decide +kernel
theorem dX7_pour_28 : decode cX7_pour 28 = .ok (.getfield 54, 3) := by decide +kernel
theorem dX7_pour_31 : decode cX7_pour 31 = .ok (.iload_n 1, 1) := by decide +kernel
theorem dX7_pour_32 : decode cX7_pour 32 = .ok (.iaload, 1) := by decide +kernel
theorem dX7_pour_33 : decode cX7_pour 33 = .ok (.if_icmp .ge 81, 3) := by decide +kernel
theorem dX7_pour_36 : decode cX7_pour 36 = .ok (.aload_n 0, 1) := by decide +kernel
theorem dX7_pour_37 : decode cX7_pour 37 = .ok (.getfield 57, 3) := by decide +kernel
theorem dX7_pour_40 : decode cX7_pour 40 = .ok (.bipush 24, 2) := by decide +kernel
theorem dX7_pour_42 : decode cX7_pour 42 = .ok (.iload_n 1, 1) := by decide +kernel
theorem dX7_pour_43 : decode cX7_pour 43 = .ok (.imul, 1) := by decide +kernel
theorem dX7_pour_44 : decode cX7_pour 44 = .ok (.iload_n 3, 1) := by decide +kernel
theorem dX7_pour_45 : decode cX7_pour 45 = .ok (.iadd, 1) := by decide +kernel
theorem dX7_pour_46 : decode cX7_pour 46 = .ok (.iaload, 1) := by decide +kernel
theorem dX7_pour_47 : decode cX7_pour 47 = .ok (.istore 4, 2) := by decide +kernel
theorem dX7_pour_49 : decode cX7_pour 49 = .ok (.iload 4, 2) := by decide +kernel
theorem dX7_pour_51 : decode cX7_pour 51 = .ok (.ldc 159, 2) := by decide +kernel
theorem dX7_pour_53 : decode cX7_pour 53 = .ok (.if_icmp .ne 14, 3) := by decide +kernel
theorem dX7_pour_56 : decode cX7_pour 56 = .ok (.aload_n 0, 1) := by decide +kernel
theorem dX7_pour_57 : decode cX7_pour 57 = .ok (.getfield 9, 3) := by decide +kernel
theorem dX7_pour_60 : decode cX7_pour 60 = .ok (.iconst 5, 1) := by decide +kernel
theorem dX7_pour_61 : decode cX7_pour 61 = .ok (.iload_n 3, 1) := by decide +kernel
theorem dX7_pour_62 : decode cX7_pour 62 = .ok (.iadd, 1) := by decide +kernel
theorem dX7_pour_63 : decode cX7_pour 63 = .ok (.iaload, 1) := by decide +kernel
theorem dX7_pour_64 : decode cX7_pour 64 = .ok (.goto 11, 3) := by decide +kernel
theorem dX7_pour_67 : decode cX7_pour 67 = .ok (.iload 4, 2) := by decide +kernel
theorem dX7_pour_69 : decode cX7_pour 69 = .ok (.iconst 0, 1) := by decide +kernel
theorem dX7_pour_70 : decode cX7_pour 70 = .ok (.bipush 99, 2) := by decide +kernel
theorem dX7_pour_72 : decode cX7_pour 72 = .ok (.invokestatic 121, 3) := by decide +kernel
theorem dX7_pour_75 : decode cX7_pour 75 = .ok (.istore 5, 2) := by decide +kernel
theorem dX7_pour_77 : decode cX7_pour 77 = .ok (.iload_n 2, 1) := by decide +kernel
theorem dX7_pour_78 : decode cX7_pour 78 = .ok (.iload 5, 2) := by decide +kernel
theorem dX7_pour_80 : decode cX7_pour 80 = .ok (.aload_n 0, 1) := by decide +kernel
theorem dX7_pour_81 : decode cX7_pour 81 = .ok (.getfield 9, 3) := by decide +kernel
theorem dX7_pour_84 : decode cX7_pour 84 = .ok (.iconst 5, 1) := by decide +kernel
theorem dX7_pour_85 : decode cX7_pour 85 = .ok (.iload_n 3, 1) := by decide +kernel
theorem dX7_pour_86 : decode cX7_pour 86 = .ok (.iadd, 1) := by decide +kernel
theorem dX7_pour_87 : decode cX7_pour 87 = .ok (.iaload, 1) := by decide +kernel
theorem dX7_pour_88 : decode cX7_pour 88 = .ok (.if_icmp .ne 7, 3) := by decide +kernel
theorem dX7_pour_91 : decode cX7_pour 91 = .ok (.iconst 0, 1) := by decide +kernel
theorem dX7_pour_92 : decode cX7_pour 92 = .ok (.goto 4, 3) := by decide +kernel
theorem dX7_pour_95 : decode cX7_pour 95 = .ok (.iconst 1, 1) := by decide +kernel
theorem dX7_pour_96 : decode cX7_pour 96 = .ok (.iadd, 1) := by decide +kernel
theorem dX7_pour_97 : decode cX7_pour 97 = .ok (.istore_n 2, 1) := by decide +kernel
theorem dX7_pour_98 : decode cX7_pour 98 = .ok (.aload_n 0, 1) := by decide +kernel
theorem dX7_pour_99 : decode cX7_pour 99 = .ok (.getfield 9, 3) := by decide +kernel
theorem dX7_pour_102 : decode cX7_pour 102 = .ok (.iconst 5, 1) := by decide +kernel
theorem dX7_pour_103 : decode cX7_pour 103 = .ok (.iload_n 3, 1) := by decide +kernel
theorem dX7_pour_104 : decode cX7_pour 104 = .ok (.iadd, 1) := by decide +kernel
theorem dX7_pour_105 : decode cX7_pour 105 = .ok (.iload 5, 2) := by decide +kernel
theorem dX7_pour_107 : decode cX7_pour 107 = .ok (.iastore, 1) := by decide +kernel
theorem dX7_pour_108 : decode cX7_pour 108 = .ok (.iinc 3 1, 3) := by decide +kernel
theorem dX7_pour_111 : decode cX7_pour 111 = .ok (.goto (-85), 3) := by decide +kernel
theorem dX7_pour_114 : decode cX7_pour 114 = .ok (.iload_n 2, 1) := by decide +kernel
theorem dX7_pour_115 : decode cX7_pour 115 = .ok (.ireturn, 1) := by decide +kernel
theorem dX7_reads_0 : decode cX7_reads 0 = .ok (.iload_n 1, 1) := by decide +kernel
theorem dX7_reads_1 : decode cX7_reads 1 = .ok (.invokestatic 244, 3) := by decide +kernel
theorem dX7_reads_4 : decode cX7_reads 4 = .ok (.ifCond .eq 11, 3) := by decide +kernel
theorem dX7_reads_7 : decode cX7_reads 7 = .ok (.aload_n 0, 1) := by decide +kernel
theorem dX7_reads_8 : decode cX7_reads 8 = .ok (.iload_n 2, 1) := by decide +kernel
theorem dX7_reads_9 : decode cX7_reads 9 = .ok (.invokevirtual 92, 3) := by decide +kernel
theorem dX7_reads_12 : decode cX7_reads 12 = .ok (.ifCond .ne 6, 3) := by decide +kernel
theorem dX7_reads_15 : decode cX7_reads 15 = .ok (.ldc 86, 2) := by decide +kernel
theorem dX7_reads_17 : decode cX7_reads 17 = .ok (.ireturn, 1) := by decide +kernel
theorem dX7_reads_18 : decode cX7_reads 18 = .ok (.aload_n 0, 1) := by decide +kernel
theorem dX7_reads_19 : decode cX7_reads 19 = .ok (.getfield 51, 3) := by decide +kernel
theorem dX7_reads_22 : decode cX7_reads 22 = .ok (.iload_n 1, 1) := by decide +kernel
theorem dX7_reads_23 : decode cX7_reads 23 = .ok (.iaload, 1) := by decide +kernel
theorem dX7_reads_24 : decode cX7_reads 24 = .ok (.ifCond .ge 6, 3) := by decide +kernel
theorem dX7_reads_27 : decode cX7_reads 27 = .ok (.ldc 248, 2) := by decide +kernel
theorem dX7_reads_29 : decode cX7_reads 29 = .ok (.ireturn, 1) := by decide +kernel
theorem dX7_reads_30 : decode cX7_reads 30 = .ok (.iconst 0, 1) := by decide +kernel
theorem dX7_reads_31 : decode cX7_reads 31 = .ok (.istore_n 3, 1) := by decide +kernel
theorem dX7_reads_32 : decode cX7_reads 32 = .ok (.iload_n 3, 1) := by decide +kernel
theorem dX7_reads_33 : decode cX7_reads 33 = .ok (.aload_n 0, 1) := by decide +kernel
theorem dX7_reads_34 : decode cX7_reads 34 = .ok (.getfield 54, 3) := by decide +kernel
theorem dX7_reads_37 : decode cX7_reads 37 = .ok (.iload_n 1, 1) := by decide +kernel
theorem dX7_reads_38 : decode cX7_reads 38 = .ok (.iaload, 1) := by decide +kernel
theorem dX7_reads_39 : decode cX7_reads 39 = .ok (.if_icmp .ge 49, 3) := by decide +kernel
theorem dX7_reads_42 : decode cX7_reads 42 = .ok (.aload_n 0, 1) := by decide +kernel
theorem dX7_reads_43 : decode cX7_reads 43 = .ok (.getfield 57, 3) := by decide +kernel
theorem dX7_reads_46 : decode cX7_reads 46 = .ok (.bipush 24, 2) := by decide +kernel
theorem dX7_reads_48 : decode cX7_reads 48 = .ok (.iload_n 1, 1) := by decide +kernel
theorem dX7_reads_49 : decode cX7_reads 49 = .ok (.imul, 1) := by decide +kernel
theorem dX7_reads_50 : decode cX7_reads 50 = .ok (.iload_n 3, 1) := by decide +kernel
theorem dX7_reads_51 : decode cX7_reads 51 = .ok (.iadd, 1) := by decide +kernel
theorem dX7_reads_52 : decode cX7_reads 52 = .ok (.iaload, 1) := by decide +kernel
theorem dX7_reads_53 : decode cX7_reads 53 = .ok (.istore 4, 2) := by decide +kernel
theorem dX7_reads_55 : decode cX7_reads 55 = .ok (.iload 4, 2) := by decide +kernel
theorem dX7_reads_57 : decode cX7_reads 57 = .ok (.ldc 159, 2) := by decide +kernel
theorem dX7_reads_59 : decode cX7_reads 59 = .ok (.if_icmp .eq 23, 3) := by decide +kernel
theorem dX7_reads_62 : decode cX7_reads 62 = .ok (.iload 4, 2) := by decide +kernel
theorem dX7_reads_64 : decode cX7_reads 64 = .ok (.aload_n 0, 1) := by decide +kernel
theorem dX7_reads_65 : decode cX7_reads 65 = .ok (.iload_n 2, 1) := by decide +kernel
theorem dX7_reads_66 : decode cX7_reads 66 = .ok (.aload_n 0, 1) := by decide +kernel
theorem dX7_reads_67 : decode cX7_reads 67 = .ok (.getfield 9, 3) := by decide +kernel
theorem dX7_reads_70 : decode cX7_reads 70 = .ok (.iconst 5, 1) := by decide +kernel
theorem dX7_reads_71 : decode cX7_reads 71 = .ok (.iload_n 3, 1) := by decide +kernel
theorem dX7_reads_72 : decode cX7_reads 72 = .ok (.iadd, 1) := by decide +kernel
theorem dX7_reads_73 : decode cX7_reads 73 = .ok (.iaload, 1) := by decide +kernel
theorem dX7_reads_74 : decode cX7_reads 74 = .ok (.invokevirtual 128, 3) := by decide +kernel
theorem dX7_reads_77 : decode cX7_reads 77 = .ok (.if_icmp .eq 5, 3) := by decide +kernel
theorem dX7_reads_80 : decode cX7_reads 80 = .ok (.iload_n 3, 1) := by decide +kernel
theorem dX7_reads_81 : decode cX7_reads 81 = .ok (.ireturn, 1) := by decide +kernel
theorem dX7_reads_82 : decode cX7_reads 82 = .ok (.iinc 3 1, 3) := by decide +kernel
theorem dX7_reads_85 : decode cX7_reads 85 = .ok (.goto (-53), 3) := by decide +kernel
theorem dX7_reads_88 : decode cX7_reads 88 = .ok (.ldc 159, 2) := by decide +kernel
theorem dX7_reads_90 : decode cX7_reads 90 = .ok (.ireturn, 1) := by decide +kernel
theorem dX7_copy_0 : decode cX7_copy 0 = .ok (.iload_n 1, 1) := by decide +kernel
theorem dX7_copy_1 : decode cX7_copy 1 = .ok (.invokestatic 244, 3) := by decide +kernel
theorem dX7_copy_4 : decode cX7_copy 4 = .ok (.ifCond .eq 10, 3) := by decide +kernel
theorem dX7_copy_7 : decode cX7_copy 7 = .ok (.iload_n 3, 1) := by decide +kernel
theorem dX7_copy_8 : decode cX7_copy 8 = .ok (.invokestatic 244, 3) := by decide +kernel
theorem dX7_copy_11 : decode cX7_copy 11 = .ok (.ifCond .ne 6, 3) := by decide +kernel
theorem dX7_copy_14 : decode cX7_copy 14 = .ok (.ldc 86, 2) := by decide +kernel
theorem dX7_copy_16 : decode cX7_copy 16 = .ok (.ireturn, 1) := by decide +kernel
theorem dX7_copy_17 : decode cX7_copy 17 = .ok (.aload_n 0, 1) := by decide +kernel
theorem dX7_copy_18 : decode cX7_copy 18 = .ok (.getfield 51, 3) := by decide +kernel
theorem dX7_copy_21 : decode cX7_copy 21 = .ok (.iload_n 1, 1) := by decide +kernel
theorem dX7_copy_22 : decode cX7_copy 22 = .ok (.iaload, 1) := by decide +kernel
theorem dX7_copy_23 : decode cX7_copy 23 = .ok (.ifCond .lt 12, 3) := by decide +kernel
theorem dX7_copy_26 : decode cX7_copy 26 = .ok (.aload_n 0, 1) := by decide +kernel
theorem dX7_copy_27 : decode cX7_copy 27 = .ok (.getfield 51, 3) := by decide +kernel
theorem dX7_copy_30 : decode cX7_copy 30 = .ok (.iload_n 3, 1) := by decide +kernel
theorem dX7_copy_31 : decode cX7_copy 31 = .ok (.iaload, 1) := by decide +kernel
theorem dX7_copy_32 : decode cX7_copy 32 = .ok (.ifCond .ge 6, 3) := by decide +kernel
theorem dX7_copy_35 : decode cX7_copy 35 = .ok (.ldc 248, 2) := by decide +kernel
theorem dX7_copy_37 : decode cX7_copy 37 = .ok (.ireturn, 1) := by decide +kernel
theorem dX7_copy_38 : decode cX7_copy 38 = .ok (.aload_n 0, 1) := by decide +kernel
theorem dX7_copy_39 : decode cX7_copy 39 = .ok (.getfield 51, 3) := by decide +kernel
theorem dX7_copy_42 : decode cX7_copy 42 = .ok (.iload_n 1, 1) := by decide +kernel
theorem dX7_copy_43 : decode cX7_copy 43 = .ok (.iaload, 1) := by decide +kernel
theorem dX7_copy_44 : decode cX7_copy 44 = .ok (.aload_n 0, 1) := by decide +kernel
theorem dX7_copy_45 : decode cX7_copy 45 = .ok (.getfield 51, 3) := by decide +kernel
theorem dX7_copy_48 : decode cX7_copy 48 = .ok (.iload_n 3, 1) := by decide +kernel
theorem dX7_copy_49 : decode cX7_copy 49 = .ok (.iaload, 1) := by decide +kernel
theorem dX7_copy_50 : decode cX7_copy 50 = .ok (.if_icmp .eq 6, 3) := by decide +kernel
theorem dX7_copy_53 : decode cX7_copy 53 = .ok (.ldc 106, 2) := by decide +kernel
theorem dX7_copy_55 : decode cX7_copy 55 = .ok (.ireturn, 1) := by decide +kernel
theorem dX7_copy_56 : decode cX7_copy 56 = .ok (.iload_n 2, 1) := by decide +kernel
theorem dX7_copy_57 : decode cX7_copy 57 = .ok (.ifCond .lt 40, 3) := by decide +kernel
theorem dX7_copy_60 : decode cX7_copy 60 = .ok (.iload 4, 2) := by decide +kernel
theorem dX7_copy_62 : decode cX7_copy 62 = .ok (.ifCond .lt 35, 3) := by decide +kernel
theorem dX7_copy_65 : decode cX7_copy 65 = .ok (.iload 5, 2) := by decide +kernel
theorem dX7_copy_67 : decode cX7_copy 67 = .ok (.ifCond .lt 30, 3) := by decide +kernel
theorem dX7_copy_70 : decode cX7_copy 70 = .ok (.iload_n 2, 1) := by decide +kernel
theorem dX7_copy_71 : decode cX7_copy 71 = .ok (.aload_n 0, 1) := by decide +kernel
theorem dX7_copy_72 : decode cX7_copy 72 = .ok (.getfield 54, 3) := by decide +kernel
theorem dX7_copy_75 : decode cX7_copy 75 = .ok (.iload_n 1, 1) := by decide +kernel
theorem dX7_copy_76 : decode cX7_copy 76 = .ok (.iaload, 1) := by decide +kernel
theorem dX7_copy_77 : decode cX7_copy 77 = .ok (.iload 5, 2) := by decide +kernel
theorem dX7_copy_79 : decode cX7_copy 79 = .ok (.isub, 1) := by decide +kernel
theorem dX7_copy_80 : decode cX7_copy 80 = .ok (.if_icmp .gt 17, 3) := by decide +kernel
theorem dX7_copy_83 : decode cX7_copy 83 = .ok (.iload 4, 2) := by decide +kernel
theorem dX7_copy_85 : decode cX7_copy 85 = .ok (.aload_n 0, 1) := by decide +kernel
theorem dX7_copy_86 : decode cX7_copy 86 = .ok (.getfield 54, 3) := by decide +kernel
theorem dX7_copy_89 : decode cX7_copy 89 = .ok (.iload_n 3, 1) := by decide +kernel
theorem dX7_copy_90 : decode cX7_copy 90 = .ok (.iaload, 1) := by decide +kernel
theorem dX7_copy_91 : decode cX7_copy 91 = .ok (.iload 5, 2) := by decide +kernel
theorem dX7_copy_93 : decode cX7_copy 93 = .ok (.isub, 1) := by decide +kernel
theorem dX7_copy_94 : decode cX7_copy 94 = .ok (.if_icmp .le 6, 3) := by decide +kernel
theorem dX7_copy_97 : decode cX7_copy 97 = .ok (.ldc 249, 2) := by decide +kernel
theorem dX7_copy_99 : decode cX7_copy 99 = .ok (.ireturn, 1) := by decide +kernel
theorem dX7_copy_100 : decode cX7_copy 100 = .ok (.iconst 0, 1) := by decide +kernel
theorem dX7_copy_101 : decode cX7_copy 101 = .ok (.istore 6, 2) := by decide +kernel
theorem dX7_copy_103 : decode cX7_copy 103 = .ok (.iload 6, 2) := by decide +kernel
theorem dX7_copy_105 : decode cX7_copy 105 = .ok (.iload 5, 2) := by decide +kernel
theorem dX7_copy_107 : decode cX7_copy 107 = .ok (.if_icmp .ge 30, 3) := by decide +kernel
theorem dX7_copy_110 : decode cX7_copy 110 = .ok (.aload_n 0, 1) := by decide +kernel
theorem dX7_copy_111 : decode cX7_copy 111 = .ok (.getfield 72, 3) := by decide +kernel
theorem dX7_copy_114 : decode cX7_copy 114 = .ok (.iload 6, 2) := by decide +kernel
theorem dX7_copy_116 : decode cX7_copy 116 = .ok (.aload_n 0, 1) := by decide +kernel
theorem dX7_copy_117 : decode cX7_copy 117 = .ok (.getfield 57, 3) := by decide +kernel
theorem dX7_copy_120 : decode cX7_copy 120 = .ok (.bipush 24, 2) := by decide +kernel
theorem dX7_copy_122 : decode cX7_copy 122 = .ok (.iload_n 1, 1) := by decide +kernel
theorem dX7_copy_123 : decode cX7_copy 123 = .ok (.imul, 1) := by decide +kernel
theorem dX7_copy_124 : decode cX7_copy 124 = .ok (.iload_n 2, 1) := by decide +kernel
theorem dX7_copy_125 : decode cX7_copy 125 = .ok (.iadd, 1) := by decide +kernel
theorem dX7_copy_126 : decode cX7_copy 126 = .ok (.iload 6, 2) := by decide +kernel
theorem dX7_copy_128 : decode cX7_copy 128 = .ok (.iadd, 1) := by decide +kernel
theorem dX7_copy_129 : decode cX7_copy 129 = .ok (.iaload, 1) := by decide +kernel
theorem dX7_copy_130 : decode cX7_copy 130 = .ok (.iastore, 1) := by decide +kernel
theorem dX7_copy_131 : decode cX7_copy 131 = .ok (.iinc 6 1, 3) := by decide +kernel
theorem dX7_copy_134 : decode cX7_copy 134 = .ok (.goto (-31), 3) := by decide +kernel
theorem dX7_copy_137 : decode cX7_copy 137 = .ok (.iconst 0, 1) := by decide +kernel
theorem dX7_copy_138 : decode cX7_copy 138 = .ok (.istore 6, 2) := by decide +kernel
theorem dX7_copy_140 : decode cX7_copy 140 = .ok (.iload 6, 2) := by decide +kernel
theorem dX7_copy_142 : decode cX7_copy 142 = .ok (.iload 5, 2) := by decide +kernel
theorem dX7_copy_144 : decode cX7_copy 144 = .ok (.if_icmp .ge 31, 3) := by decide +kernel
theorem dX7_copy_147 : decode cX7_copy 147 = .ok (.aload_n 0, 1) := by decide +kernel
theorem dX7_copy_148 : decode cX7_copy 148 = .ok (.getfield 57, 3) := by decide +kernel
theorem dX7_copy_151 : decode cX7_copy 151 = .ok (.bipush 24, 2) := by decide +kernel
theorem dX7_copy_153 : decode cX7_copy 153 = .ok (.iload_n 3, 1) := by decide +kernel
theorem dX7_copy_154 : decode cX7_copy 154 = .ok (.imul, 1) := by decide +kernel
theorem dX7_copy_155 : decode cX7_copy 155 = .ok (.iload 4, 2) := by decide +kernel
theorem dX7_copy_157 : decode cX7_copy 157 = .ok (.iadd, 1) := by decide +kernel
theorem dX7_copy_158 : decode cX7_copy 158 = .ok (.iload 6, 2) := by decide +kernel
theorem dX7_copy_160 : decode cX7_copy 160 = .ok (.iadd, 1) := by decide +kernel
theorem dX7_copy_161 : decode cX7_copy 161 = .ok (.aload_n 0, 1) := by decide +kernel
theorem dX7_copy_162 : decode cX7_copy 162 = .ok (.getfield 72, 3) := by decide +kernel
theorem dX7_copy_165 : decode cX7_copy 165 = .ok (.iload 6, 2) := by decide +kernel
theorem dX7_copy_167 : decode cX7_copy 167 = .ok (.iaload, 1) := by decide +kernel
theorem dX7_copy_168 : decode cX7_copy 168 = .ok (.iastore, 1) := by decide +kernel
theorem dX7_copy_169 : decode cX7_copy 169 = .ok (.iinc 6 1, 3) := by decide +kernel
theorem dX7_copy_172 : decode cX7_copy 172 = .ok (.goto (-32), 3) := by decide +kernel
theorem dX7_copy_175 : decode cX7_copy 175 = .ok (.iload 5, 2) := by decide +kernel
theorem dX7_copy_177 : decode cX7_copy 177 = .ok (.ireturn, 1) := by decide +kernel
theorem dX7_lay_0 : decode cX7_lay 0 = .ok (.iload_n 1, 1) := by decide +kernel
theorem dX7_lay_1 : decode cX7_lay 1 = .ok (.invokestatic 251, 3) := by decide +kernel
theorem dX7_lay_4 : decode cX7_lay 4 = .ok (.ifCond .eq 37, 3) := by decide +kernel
theorem dX7_lay_7 : decode cX7_lay 7 = .ok (.iload_n 2, 1) := by decide +kernel
theorem dX7_lay_8 : decode cX7_lay 8 = .ok (.iconst 0, 1) := by decide +kernel
theorem dX7_lay_9 : decode cX7_lay 9 = .ok (.iconst 3, 1) := by decide +kernel
theorem dX7_lay_10 : decode cX7_lay 10 = .ok (.invokestatic 78, 3) := by decide +kernel
theorem dX7_lay_13 : decode cX7_lay 13 = .ok (.ifCond .eq 28, 3) := by decide +kernel
theorem dX7_lay_16 : decode cX7_lay 16 = .ok (.iload_n 2, 1) := by decide +kernel
theorem dX7_lay_17 : decode cX7_lay 17 = .ok (.iconst 1, 1) := by decide +kernel
theorem dX7_lay_18 : decode cX7_lay 18 = .ok (.if_icmp .ne 11, 3) := by decide +kernel
theorem dX7_lay_21 : decode cX7_lay 21 = .ok (.aload_n 0, 1) := by decide +kernel
theorem dX7_lay_22 : decode cX7_lay 22 = .ok (.iload_n 3, 1) := by decide +kernel
theorem dX7_lay_23 : decode cX7_lay 23 = .ok (.invokevirtual 92, 3) := by decide +kernel
theorem dX7_lay_26 : decode cX7_lay 26 = .ok (.ifCond .eq 15, 3) := by decide +kernel
theorem dX7_lay_29 : decode cX7_lay 29 = .ok (.iload_n 2, 1) := by decide +kernel
theorem dX7_lay_30 : decode cX7_lay 30 = .ok (.iconst 2, 1) := by decide +kernel
theorem dX7_lay_31 : decode cX7_lay 31 = .ok (.if_icmp .ne 13, 3) := by decide +kernel
theorem dX7_lay_34 : decode cX7_lay 34 = .ok (.iload_n 3, 1) := by decide +kernel
theorem dX7_lay_35 : decode cX7_lay 35 = .ok (.invokestatic 244, 3) := by decide +kernel
theorem dX7_lay_38 : decode cX7_lay 38 = .ok (.ifCond .ne 6, 3) := by decide +kernel
theorem dX7_lay_41 : decode cX7_lay 41 = .ok (.ldc 86, 2) := by decide +kernel
theorem dX7_lay_43 : decode cX7_lay 43 = .ok (.ireturn, 1) := by decide +kernel
theorem dX7_lay_44 : decode cX7_lay 44 = .ok (.iload_n 2, 1) := by decide +kernel
theorem dX7_lay_45 : decode cX7_lay 45 = .ok (.iconst 2, 1) := by decide +kernel
theorem dX7_lay_46 : decode cX7_lay 46 = .ok (.if_icmp .ne 15, 3) := by decide +kernel
theorem dX7_lay_49 : decode cX7_lay 49 = .ok (.aload_n 0, 1) := by decide +kernel
theorem dX7_lay_50 : decode cX7_lay 50 = .ok (.getfield 51, 3) := by decide +kernel
theorem dX7_lay_53 : decode cX7_lay 53 = .ok (.iload_n 3, 1) := by decide +kernel
theorem dX7_lay_54 : decode cX7_lay 54 = .ok (.iaload, 1) := by decide +kernel
theorem dX7_lay_55 : decode cX7_lay 55 = .ok (.ifCond .ge 6, 3) := by decide +kernel
theorem dX7_lay_58 : decode cX7_lay 58 = .ok (.ldc 248, 2) := by decide +kernel
theorem dX7_lay_60 : decode cX7_lay 60 = .ok (.ireturn, 1) := by decide +kernel
theorem dX7_lay_61 : decode cX7_lay 61 = .ok (.aload_n 0, 1) := by decide +kernel
theorem dX7_lay_62 : decode cX7_lay 62 = .ok (.getfield 60, 3) := by decide +kernel
theorem dX7_lay_65 : decode cX7_lay 65 = .ok (.iload_n 1, 1) := by decide +kernel
theorem dX7_lay_66 : decode cX7_lay 66 = .ok (.iaload, 1) := by decide +kernel
theorem dX7_lay_67 : decode cX7_lay 67 = .ok (.istore 4, 2) := by decide +kernel
theorem dX7_lay_69 : decode cX7_lay 69 = .ok (.aload_n 0, 1) := by decide +kernel
theorem dX7_lay_70 : decode cX7_lay 70 = .ok (.getfield 60, 3) := by decide +kernel
theorem dX7_lay_73 : decode cX7_lay 73 = .ok (.iload_n 1, 1) := by decide +kernel
theorem dX7_lay_74 : decode cX7_lay 74 = .ok (.iload_n 2, 1) := by decide +kernel
theorem dX7_lay_75 : decode cX7_lay 75 = .ok (.iastore, 1) := by decide +kernel
theorem dX7_lay_76 : decode cX7_lay 76 = .ok (.aload_n 0, 1) := by decide +kernel
theorem dX7_lay_77 : decode cX7_lay 77 = .ok (.getfield 63, 3) := by decide +kernel
theorem dX7_lay_80 : decode cX7_lay 80 = .ok (.iload_n 1, 1) := by decide +kernel
theorem dX7_lay_81 : decode cX7_lay 81 = .ok (.iload_n 2, 1) := by decide +kernel
theorem dX7_lay_82 : decode cX7_lay 82 = .ok (.iconst 1, 1) := by decide +kernel
theorem dX7_lay_83 : decode cX7_lay 83 = .ok (.if_icmp .ne 12, 3) := by decide +kernel
theorem dX7_lay_86 : decode cX7_lay 86 = .ok (.aload_n 0, 1) := by decide +kernel
theorem dX7_lay_87 : decode cX7_lay 87 = .ok (.iload_n 3, 1) := by decide +kernel
theorem dX7_lay_88 : decode cX7_lay 88 = .ok (.iconst 0, 1) := by decide +kernel
theorem dX7_lay_89 : decode cX7_lay 89 = .ok (.invokevirtual 88, 3) := by decide +kernel
theorem dX7_lay_92 : decode cX7_lay 92 = .ok (.goto 18, 3) := by decide +kernel
theorem dX7_lay_95 : decode cX7_lay 95 = .ok (.iload_n 2, 1) := by decide +kernel
theorem dX7_lay_96 : decode cX7_lay 96 = .ok (.iconst 2, 1) := by decide +kernel
theorem dX7_lay_97 : decode cX7_lay 97 = .ok (.if_icmp .ne 12, 3) := by decide +kernel
theorem dX7_lay_100 : decode cX7_lay 100 = .ok (.aload_n 0, 1) := by decide +kernel
theorem dX7_lay_101 : decode cX7_lay 101 = .ok (.getfield 54, 3) := by decide +kernel
theorem dX7_lay_104 : decode cX7_lay 104 = .ok (.iload_n 3, 1) := by decide +kernel
theorem dX7_lay_105 : decode cX7_lay 105 = .ok (.iaload, 1) := by decide +kernel
theorem dX7_lay_106 : decode cX7_lay 106 = .ok (.goto 4, 3) := by decide +kernel
theorem dX7_lay_109 : decode cX7_lay 109 = .ok (.iload_n 3, 1) := by decide +kernel
theorem dX7_lay_110 : decode cX7_lay 110 = .ok (.iastore, 1) := by decide +kernel
theorem dX7_lay_111 : decode cX7_lay 111 = .ok (.aload_n 0, 1) := by decide +kernel
theorem dX7_lay_112 : decode cX7_lay 112 = .ok (.getfield 66, 3) := by decide +kernel
theorem dX7_lay_115 : decode cX7_lay 115 = .ok (.iload_n 1, 1) := by decide +kernel
theorem dX7_lay_116 : decode cX7_lay 116 = .ok (.iload_n 2, 1) := by decide +kernel
theorem dX7_lay_117 : decode cX7_lay 117 = .ok (.iconst 1, 1) := by decide +kernel
theorem dX7_lay_118 : decode cX7_lay 118 = .ok (.if_icmp .ne 11, 3) := by decide +kernel
theorem dX7_lay_121 : decode cX7_lay 121 = .ok (.aload_n 0, 1) := by decide +kernel
theorem dX7_lay_122 : decode cX7_lay 122 = .ok (.iload_n 3, 1) := by decide +kernel
theorem dX7_lay_123 : decode cX7_lay 123 = .ok (.invokevirtual 100, 3) := by decide +kernel
theorem dX7_lay_126 : decode cX7_lay 126 = .ok (.goto 4, 3) := by decide +kernel
theorem dX7_lay_129 : decode cX7_lay 129 = .ok (.iconst 0, 1) := by decide +kernel
theorem dX7_lay_130 : decode cX7_lay 130 = .ok (.iastore, 1) := by decide +kernel
theorem dX7_lay_131 : decode cX7_lay 131 = .ok (.iconst 0, 1) := by decide +kernel
theorem dX7_lay_132 : decode cX7_lay 132 = .ok (.istore 5, 2) := by decide +kernel
theorem dX7_lay_134 : decode cX7_lay 134 = .ok (.iload 5, 2) := by decide +kernel
theorem dX7_lay_136 : decode cX7_lay 136 = .ok (.bipush 24, 2) := by decide +kernel
theorem dX7_lay_138 : decode cX7_lay 138 = .ok (.if_icmp .ge 38, 3) := by decide +kernel
theorem dX7_lay_141 : decode cX7_lay 141 = .ok (.iload_n 2, 1) := by decide +kernel
theorem dX7_lay_142 : decode cX7_lay 142 = .ok (.iconst 2, 1) := by decide +kernel
theorem dX7_lay_143 : decode cX7_lay 143 = .ok (.if_icmp .ne 33, 3) := by decide +kernel
theorem dX7_lay_146 : decode cX7_lay 146 = .ok (.aload_n 0, 1) := by decide +kernel
theorem dX7_lay_147 : decode cX7_lay 147 = .ok (.getfield 69, 3) := by decide +kernel
theorem dX7_lay_150 : decode cX7_lay 150 = .ok (.bipush 24, 2) := by decide +kernel
theorem dX7_lay_152 : decode cX7_lay 152 = .ok (.iload_n 1, 1) := by decide +kernel
theorem dX7_lay_153 : decode cX7_lay 153 = .ok (.imul, 1) := by decide +kernel
theorem dX7_lay_154 : decode cX7_lay 154 = .ok (.iload 5, 2) := by decide +kernel
theorem dX7_lay_156 : decode cX7_lay 156 = .ok (.iadd, 1) := by decide +kernel
theorem dX7_lay_157 : decode cX7_lay 157 = .ok (.aload_n 0, 1) := by decide +kernel
theorem dX7_lay_158 : decode cX7_lay 158 = .ok (.getfield 57, 3) := by decide +kernel
theorem dX7_lay_161 : decode cX7_lay 161 = .ok (.bipush 24, 2) := by decide +kernel
theorem dX7_lay_163 : decode cX7_lay 163 = .ok (.iload_n 3, 1) := by decide +kernel
theorem dX7_lay_164 : decode cX7_lay 164 = .ok (.imul, 1) := by decide +kernel
theorem dX7_lay_165 : decode cX7_lay 165 = .ok (.iload 5, 2) := by decide +kernel
theorem dX7_lay_167 : decode cX7_lay 167 = .ok (.iadd, 1) := by decide +kernel
theorem dX7_lay_168 : decode cX7_lay 168 = .ok (.iaload, 1) := by decide +kernel
theorem dX7_lay_169 : decode cX7_lay 169 = .ok (.iastore, 1) := by decide +kernel
theorem dX7_lay_170 : decode cX7_lay 170 = .ok (.iinc 5 1, 3) := by decide +kernel
theorem dX7_lay_173 : decode cX7_lay 173 = .ok (.goto (-39), 3) := by decide +kernel
theorem dX7_lay_176 : decode cX7_lay 176 = .ok (.iload 4, 2) := by decide +kernel
theorem dX7_lay_178 : decode cX7_lay 178 = .ok (.ireturn, 1) := by decide +kernel
theorem dX7_ask_0 : decode cX7_ask 0 = .ok (.iload_n 1, 1) := by decide +kernel
theorem dX7_ask_1 : decode cX7_ask 1 = .ok (.invokestatic 251, 3) := by decide +kernel
theorem dX7_ask_4 : decode cX7_ask 4 = .ok (.ifCond .eq 12, 3) := by decide +kernel
theorem dX7_ask_7 : decode cX7_ask 7 = .ok (.iload_n 2, 1) := by decide +kernel
theorem dX7_ask_8 : decode cX7_ask 8 = .ok (.iconst 0, 1) := by decide +kernel
theorem dX7_ask_9 : decode cX7_ask 9 = .ok (.iconst 5, 1) := by decide +kernel
theorem dX7_ask_10 : decode cX7_ask 10 = .ok (.invokestatic 78, 3) := by decide +kernel
theorem dX7_ask_13 : decode cX7_ask 13 = .ok (.ifCond .ne 6, 3) := by decide +kernel
theorem dX7_ask_16 : decode cX7_ask 16 = .ok (.ldc 86, 2) := by decide +kernel
theorem dX7_ask_18 : decode cX7_ask 18 = .ok (.ireturn, 1) := by decide +kernel
theorem dX7_ask_19 : decode cX7_ask 19 = .ok (.aload_n 0, 1) := by decide +kernel
theorem dX7_ask_20 : decode cX7_ask 20 = .ok (.getfield 60, 3) := by decide +kernel
theorem dX7_ask_23 : decode cX7_ask 23 = .ok (.iload_n 1, 1) := by decide +kernel
theorem dX7_ask_24 : decode cX7_ask 24 = .ok (.iaload, 1) := by decide +kernel
theorem dX7_ask_25 : decode cX7_ask 25 = .ok (.ifCond .ne 6, 3) := by decide +kernel
theorem dX7_ask_28 : decode cX7_ask 28 = .ok (.ldc 248, 2) := by decide +kernel
theorem dX7_ask_30 : decode cX7_ask 30 = .ok (.ireturn, 1) := by decide +kernel
theorem dX7_ask_31 : decode cX7_ask 31 = .ok (.aload_n 0, 1) := by decide +kernel
theorem dX7_ask_32 : decode cX7_ask 32 = .ok (.getfield 60, 3) := by decide +kernel
theorem dX7_ask_35 : decode cX7_ask 35 = .ok (.iload_n 1, 1) := by decide +kernel
theorem dX7_ask_36 : decode cX7_ask 36 = .ok (.iaload, 1) := by decide +kernel
theorem dX7_ask_37 : decode cX7_ask 37 = .ok (.iconst 1, 1) := by decide +kernel
theorem dX7_ask_38 : decode cX7_ask 38 = .ok (.if_icmp .ne 25, 3) := by decide +kernel
theorem dX7_ask_41 : decode cX7_ask 41 = .ok (.aload_n 0, 1) := by decide +kernel
theorem dX7_ask_42 : decode cX7_ask 42 = .ok (.getfield 63, 3) := by decide +kernel
theorem dX7_ask_45 : decode cX7_ask 45 = .ok (.iload_n 1, 1) := by decide +kernel
theorem dX7_ask_46 : decode cX7_ask 46 = .ok (.iaload, 1) := by decide +kernel
theorem dX7_ask_47 : decode cX7_ask 47 = .ok (.iload_n 2, 1) := by decide +kernel
theorem dX7_ask_48 : decode cX7_ask 48 = .ok (.invokestatic 103, 3) := by decide +kernel
theorem dX7_ask_51 : decode cX7_ask 51 = .ok (.ifCond .eq 12, 3) := by decide +kernel
theorem dX7_ask_54 : decode cX7_ask 54 = .ok (.aload_n 0, 1) := by decide +kernel
theorem dX7_ask_55 : decode cX7_ask 55 = .ok (.getfield 66, 3) := by decide +kernel
theorem dX7_ask_58 : decode cX7_ask 58 = .ok (.iload_n 1, 1) := by decide +kernel
theorem dX7_ask_59 : decode cX7_ask 59 = .ok (.iaload, 1) := by decide +kernel
theorem dX7_ask_60 : decode cX7_ask 60 = .ok (.goto 5, 3) := by decide +kernel
theorem dX7_ask_63 : decode cX7_ask 63 = .ok (.ldc 106, 2) := by decide +kernel
theorem dX7_ask_65 : decode cX7_ask 65 = .ok (.ireturn, 1) := by decide +kernel
theorem dX7_item_0 : decode cX7_item 0 = .ok (.iload_n 1, 1) := by decide +kernel
theorem dX7_item_1 : decode cX7_item 1 = .ok (.invokestatic 251, 3) := by decide +kernel
theorem dX7_item_4 : decode cX7_item 4 = .ok (.ifCond .ne 6, 3) := by decide +kernel
theorem dX7_item_7 : decode cX7_item 7 = .ok (.ldc 86, 2) := by decide +kernel
theorem dX7_item_9 : decode cX7_item 9 = .ok (.ireturn, 1) := by decide +kernel
theorem dX7_item_10 : decode cX7_item 10 = .ok (.aload_n 0, 1) := by decide +kernel
theorem dX7_item_11 : decode cX7_item 11 = .ok (.getfield 60, 3) := by decide +kernel
theorem dX7_item_14 : decode cX7_item 14 = .ok (.iload_n 1, 1) := by decide +kernel
theorem dX7_item_15 : decode cX7_item 15 = .ok (.iaload, 1) := by decide +kernel
theorem dX7_item_16 : decode cX7_item 16 = .ok (.ifCond .ne 6, 3) := by decide +kernel
theorem dX7_item_19 : decode cX7_item 19 = .ok (.ldc 248, 2) := by decide +kernel
theorem dX7_item_21 : decode cX7_item 21 = .ok (.ireturn, 1) := by decide +kernel
theorem dX7_item_22 : decode cX7_item 22 = .ok (.aload_n 0, 1) := by decide +kernel
theorem dX7_item_23 : decode cX7_item 23 = .ok (.getfield 60, 3) := by decide +kernel
theorem dX7_item_26 : decode cX7_item 26 = .ok (.iload_n 1, 1) := by decide +kernel
theorem dX7_item_27 : decode cX7_item 27 = .ok (.iaload, 1) := by decide +kernel
theorem dX7_item_28 : decode cX7_item 28 = .ok (.iconst 2, 1) := by decide +kernel
theorem dX7_item_29 : decode cX7_item 29 = .ok (.if_icmp .eq 6, 3) := by decide +kernel
theorem dX7_item_32 : decode cX7_item 32 = .ok (.ldc 106, 2) := by decide +kernel
theorem dX7_item_34 : decode cX7_item 34 = .ok (.ireturn, 1) := by decide +kernel
theorem dX7_item_35 : decode cX7_item 35 = .ok (.iload_n 2, 1) := by decide +kernel
theorem dX7_item_36 : decode cX7_item 36 = .ok (.iconst 0, 1) := by decide +kernel
theorem dX7_item_37 : decode cX7_item 37 = .ok (.aload_n 0, 1) := by decide +kernel
theorem dX7_item_38 : decode cX7_item 38 = .ok (.getfield 63, 3) := by decide +kernel
theorem dX7_item_41 : decode cX7_item 41 = .ok (.iload_n 1, 1) := by decide +kernel
theorem dX7_item_42 : decode cX7_item 42 = .ok (.iaload, 1) := by decide +kernel
theorem dX7_item_43 : decode cX7_item 43 = .ok (.iconst 1, 1) := by decide +kernel
theorem dX7_item_44 : decode cX7_item 44 = .ok (.isub, 1) := by decide +kernel
theorem dX7_item_45 : decode cX7_item 45 = .ok (.invokestatic 78, 3) := by decide +kernel
theorem dX7_item_48 : decode cX7_item 48 = .ok (.ifCond .ne 6, 3) := by decide +kernel
theorem dX7_item_51 : decode cX7_item 51 = .ok (.ldc 249, 2) := by decide +kernel
theorem dX7_item_53 : decode cX7_item 53 = .ok (.ireturn, 1) := by decide +kernel
theorem dX7_item_54 : decode cX7_item 54 = .ok (.aload_n 0, 1) := by decide +kernel
theorem dX7_item_55 : decode cX7_item 55 = .ok (.getfield 69, 3) := by decide +kernel
theorem dX7_item_58 : decode cX7_item 58 = .ok (.bipush 24, 2) := by decide +kernel
theorem dX7_item_60 : decode cX7_item 60 = .ok (.iload_n 1, 1) := by decide +kernel
theorem dX7_item_61 : decode cX7_item 61 = .ok (.imul, 1) := by decide +kernel
theorem dX7_item_62 : decode cX7_item 62 = .ok (.iload_n 2, 1) := by decide +kernel
theorem dX7_item_63 : decode cX7_item 63 = .ok (.iadd, 1) := by decide +kernel
theorem dX7_item_64 : decode cX7_item 64 = .ok (.iaload, 1) := by decide +kernel
theorem dX7_item_65 : decode cX7_item 65 = .ok (.istore_n 3, 1) := by decide +kernel
theorem dX7_item_66 : decode cX7_item 66 = .ok (.iload_n 3, 1) := by decide +kernel
theorem dX7_item_67 : decode cX7_item 67 = .ok (.ldc 159, 2) := by decide +kernel
theorem dX7_item_69 : decode cX7_item 69 = .ok (.if_icmp .ne 8, 3) := by decide +kernel
theorem dX7_item_72 : decode cX7_item 72 = .ok (.ldc 106, 2) := by decide +kernel
theorem dX7_item_74 : decode cX7_item 74 = .ok (.goto 4, 3) := by decide +kernel
theorem dX7_item_77 : decode cX7_item 77 = .ok (.iload_n 3, 1) := by decide +kernel
theorem dX7_item_78 : decode cX7_item 78 = .ok (.ireturn, 1) := by decide +kernel
theorem dX7_rest_0 : decode cX7_rest 0 = .ok (.iload_n 1, 1) := by decide +kernel
theorem dX7_rest_1 : decode cX7_rest 1 = .ok (.invokestatic 251, 3) := by decide +kernel
theorem dX7_rest_4 : decode cX7_rest 4 = .ok (.ifCond .ne 6, 3) := by decide +kernel
theorem dX7_rest_7 : decode cX7_rest 7 = .ok (.ldc 86, 2) := by decide +kernel
theorem dX7_rest_9 : decode cX7_rest 9 = .ok (.ireturn, 1) := by decide +kernel
theorem dX7_rest_10 : decode cX7_rest 10 = .ok (.aload_n 0, 1) := by decide +kernel
theorem dX7_rest_11 : decode cX7_rest 11 = .ok (.getfield 60, 3) := by decide +kernel
theorem dX7_rest_14 : decode cX7_rest 14 = .ok (.iload_n 1, 1) := by decide +kernel
theorem dX7_rest_15 : decode cX7_rest 15 = .ok (.iaload, 1) := by decide +kernel
theorem dX7_rest_16 : decode cX7_rest 16 = .ok (.ifCond .ne 6, 3) := by decide +kernel
theorem dX7_rest_19 : decode cX7_rest 19 = .ok (.ldc 248, 2) := by decide +kernel
theorem dX7_rest_21 : decode cX7_rest 21 = .ok (.ireturn, 1) := by decide +kernel
theorem dX7_rest_22 : decode cX7_rest 22 = .ok (.aload_n 0, 1) := by decide +kernel
theorem dX7_rest_23 : decode cX7_rest 23 = .ok (.getfield 60, 3) := by decide +kernel
theorem dX7_rest_26 : decode cX7_rest 26 = .ok (.iload_n 1, 1) := by decide +kernel
theorem dX7_rest_27 : decode cX7_rest 27 = .ok (.iaload, 1) := by decide +kernel
theorem dX7_rest_28 : decode cX7_rest 28 = .ok (.iconst 3, 1) := by decide +kernel
theorem dX7_rest_29 : decode cX7_rest 29 = .ok (.if_icmp .eq 6, 3) := by decide +kernel
theorem dX7_rest_32 : decode cX7_rest 32 = .ok (.ldc 106, 2) := by decide +kernel
theorem dX7_rest_34 : decode cX7_rest 34 = .ok (.ireturn, 1) := by decide +kernel
theorem dX7_rest_35 : decode cX7_rest 35 = .ok (.iload_n 2, 1) := by decide +kernel
theorem dX7_rest_36 : decode cX7_rest 36 = .ok (.ifCond .ne 8, 3) := by decide +kernel
theorem dX7_rest_39 : decode cX7_rest 39 = .ok (.ldc 254, 2) := by decide +kernel
theorem dX7_rest_41 : decode cX7_rest 41 = .ok (.goto 20, 3) := by decide +kernel
theorem dX7_rest_44 : decode cX7_rest 44 = .ok (.iload_n 2, 1) := by decide +kernel
theorem dX7_rest_45 : decode cX7_rest 45 = .ok (.iconst (-1), 1) := by decide +kernel
theorem dX7_rest_46 : decode cX7_rest 46 = .ok (.if_icmp .ne 7, 3) := by decide +kernel
theorem dX7_rest_49 : decode cX7_rest 49 = .ok (.iconst 0, 1) := by decide +kernel
theorem dX7_rest_50 : decode cX7_rest 50 = .ok (.goto 11, 3) := by decide +kernel
theorem dX7_rest_53 : decode cX7_rest 53 = .ok (.aload_n 0, 1) := by decide +kernel
theorem dX7_rest_54 : decode cX7_rest 54 = .ok (.getfield 63, 3) := by decide +kernel
theorem dX7_rest_57 : decode cX7_rest 57 = .ok (.iload_n 1, 1) := by decide +kernel
theorem dX7_rest_58 : decode cX7_rest 58 = .ok (.iaload, 1) := by decide +kernel
theorem dX7_rest_59 : decode cX7_rest 59 = .ok (.iload_n 2, 1) := by decide +kernel
theorem dX7_rest_60 : decode cX7_rest 60 = .ok (.irem, 1) := by decide +kernel
theorem dX7_rest_61 : decode cX7_rest 61 = .ok (.ireturn, 1) := by decide +kernel
theorem dX7_tell_0 : decode cX7_tell 0 = .ok (.aload_n 0, 1) := by decide +kernel
theorem dX7_tell_1 : decode cX7_tell 1 = .ok (.getfield 255, 3) := by decide +kernel
theorem dX7_tell_4 : decode cX7_tell 4 = .ok (.bipush 60, 2) := by decide +kernel
theorem dX7_tell_6 : decode cX7_tell 6 = .ok (.if_icmp .ne 6, 3) := by decide +kernel
theorem dX7_tell_9 : decode cX7_tell 9 = .ok (.ldc 87, 2) := by decide +kernel
theorem dX7_tell_11 : decode cX7_tell 11 = .ok (.ireturn, 1) := by decide +kernel
theorem dX7_tell_12 : decode cX7_tell 12 = .ok (.aload_n 0, 1) := by decide +kernel
theorem dX7_tell_13 : decode cX7_tell 13 = .ok (.getfield 75, 3) := by decide +kernel
theorem dX7_tell_16 : decode cX7_tell 16 = .ok (.aload_n 0, 1) := by decide +kernel
theorem dX7_tell_17 : decode cX7_tell 17 = .ok (.getfield 255, 3) := by decide +kernel
theorem dX7_tell_20 : decode cX7_tell 20 = .ok (.iload_n 1, 1) := by decide +kernel
theorem dX7_tell_21 : decode cX7_tell 21 = .ok (.iastore, 1) := by decide +kernel
theorem dX7_tell_22 : decode cX7_tell 22 = .ok (.aload_n 0, 1) := by decide +kernel
theorem dX7_tell_23 : decode cX7_tell 23 = .ok (.dup, 1) := by decide +kernel
theorem dX7_tell_24 : decode cX7_tell 24 = .ok (.getfield 255, 3) := by decide +kernel
theorem dX7_tell_27 : decode cX7_tell 27 = .ok (.iconst 1, 1) := by decide +kernel
theorem dX7_tell_28 : decode cX7_tell 28 = .ok (.iadd, 1) := by decide +kernel
theorem dX7_tell_29 : decode cX7_tell 29 = .ok (.putfield 255, 3) := by decide +kernel
theorem dX7_tell_32 : decode cX7_tell 32 = .ok (.aload_n 0, 1) := by decide +kernel
theorem dX7_tell_33 : decode cX7_tell 33 = .ok (.getfield 255, 3) := by decide +kernel
theorem dX7_tell_36 : decode cX7_tell 36 = .ok (.ireturn, 1) := by decide +kernel
theorem dX7_rightHours_0 : decode cX7_rightHours 0 = .ok (.iconst 0, 1) := by decide +kernel
theorem dX7_rightHours_1 : decode cX7_rightHours 1 = .ok (.istore 4, 2) := by decide +kernel
theorem dX7_rightHours_3 : decode cX7_rightHours 3 = .ok (.iconst 0, 1) := by decide +kernel
theorem dX7_rightHours_4 : decode cX7_rightHours 4 = .ok (.istore 5, 2) := by decide +kernel
theorem dX7_rightHours_6 : decode cX7_rightHours 6 = .ok (.iload 5, 2) := by decide +kernel
theorem dX7_rightHours_8 : decode cX7_rightHours 8 = .ok (.iload_n 2, 1) := by decide +kernel
theorem dX7_rightHours_9 : decode cX7_rightHours 9 = .ok (.if_icmp .ge 136, 3) := by decide +kernel
theorem dX7_rightHours_12 : decode cX7_rightHours 12 = .ok (.iload 4, 2) := by decide +kernel
theorem dX7_rightHours_14 : decode cX7_rightHours 14 = .ok (.iconst 2, 1) := by decide +kernel
theorem dX7_rightHours_15 : decode cX7_rightHours 15 = .ok (.iload 5, 2) := by decide +kernel
theorem dX7_rightHours_17 : decode cX7_rightHours 17 = .ok (.imul, 1) := by decide +kernel
theorem dX7_rightHours_18 : decode cX7_rightHours 18 = .ok (.if_icmp .ne 127, 3) := by decide +kernel
theorem dX7_rightHours_21 : decode cX7_rightHours 21 = .ok (.aload_n 0, 1) := by decide +kernel
theorem dX7_rightHours_22 : decode cX7_rightHours 22 = .ok (.getfield 9, 3) := by decide +kernel
theorem dX7_rightHours_25 : decode cX7_rightHours 25 = .ok (.iconst 5, 1) := by decide +kernel
theorem dX7_rightHours_26 : decode cX7_rightHours 26 = .ok (.aload_n 0, 1) := by decide +kernel
theorem dX7_rightHours_27 : decode cX7_rightHours 27 = .ok (.getfield 9, 3) := by decide +kernel
theorem dX7_rightHours_30 : decode cX7_rightHours 30 = .ok (.iconst 2, 1) := by decide +kernel
theorem dX7_rightHours_31 : decode cX7_rightHours 31 = .ok (.iaload, 1) := by decide +kernel
theorem dX7_rightHours_32 : decode cX7_rightHours 32 = .ok (.iadd, 1) := by decide +kernel
theorem dX7_rightHours_33 : decode cX7_rightHours 33 = .ok (.iaload, 1) := by decide +kernel
theorem dX7_rightHours_34 : decode cX7_rightHours 34 = .ok (.istore 6, 2) := by decide +kernel
theorem dX7_rightHours_36 : decode cX7_rightHours 36 = .ok (.aload_n 0, 1) := by decide +kernel
theorem dX7_rightHours_37 : decode cX7_rightHours 37 = .ok (.iload_n 1, 1) := by decide +kernel
theorem dX7_rightHours_38 : decode cX7_rightHours 38 = .ok (.iload 6, 2) := by decide +kernel
theorem dX7_rightHours_40 : decode cX7_rightHours 40 = .ok (.invokevirtual 143, 3) := by decide +kernel
theorem dX7_rightHours_43 : decode cX7_rightHours 43 = .ok (.ifCond .eq 12, 3) := by decide +kernel
theorem dX7_rightHours_46 : decode cX7_rightHours 46 = .ok (.aload_n 0, 1) := by decide +kernel
theorem dX7_rightHours_47 : decode cX7_rightHours 47 = .ok (.iload_n 1, 1) := by decide +kernel
theorem dX7_rightHours_48 : decode cX7_rightHours 48 = .ok (.iconst 2, 1) := by decide +kernel
theorem dX7_rightHours_49 : decode cX7_rightHours 49 = .ok (.invokevirtual 88, 3) := by decide +kernel
theorem dX7_rightHours_52 : decode cX7_rightHours 52 = .ok (.goto 10, 3) := by decide +kernel
theorem dX7_rightHours_55 : decode cX7_rightHours 55 = .ok (.aload_n 0, 1) := by decide +kernel
theorem dX7_rightHours_56 : decode cX7_rightHours 56 = .ok (.iload_n 1, 1) := by decide +kernel
theorem dX7_rightHours_57 : decode cX7_rightHours 57 = .ok (.iload 6, 2) := by decide +kernel
theorem dX7_rightHours_59 : decode cX7_rightHours 59 = .ok (.invokevirtual 128, 3) := by decide +kernel
theorem dX7_rightHours_62 : decode cX7_rightHours 62 = .ok (.istore 7, 2) := by decide +kernel
theorem dX7_rightHours_64 : decode cX7_rightHours 64 = .ok (.aload_n 0, 1) := by decide +kernel
theorem dX7_rightHours_65 : decode cX7_rightHours 65 = .ok (.invokevirtual 152, 3) := by decide +kernel
theorem dX7_rightHours_68 : decode cX7_rightHours 68 = .ok (.iload 4, 2) := by decide +kernel
theorem dX7_rightHours_70 : decode cX7_rightHours 70 = .ok (.iload 4, 2) := by decide +kernel
theorem dX7_rightHours_72 : decode cX7_rightHours 72 = .ok (.iload_n 3, 1) := by decide +kernel
theorem dX7_rightHours_73 : decode cX7_rightHours 73 = .ok (.if_icmp .ge 19, 3) := by decide +kernel
theorem dX7_rightHours_76 : decode cX7_rightHours 76 = .ok (.aload_n 0, 1) := by decide +kernel
theorem dX7_rightHours_77 : decode cX7_rightHours 77 = .ok (.getfield 75, 3) := by decide +kernel
theorem dX7_rightHours_80 : decode cX7_rightHours 80 = .ok (.iload 4, 2) := by decide +kernel
theorem dX7_rightHours_82 : decode cX7_rightHours 82 = .ok (.iaload, 1) := by decide +kernel
theorem dX7_rightHours_83 : decode cX7_rightHours 83 = .ok (.iload 7, 2) := by decide +kernel
theorem dX7_rightHours_85 : decode cX7_rightHours 85 = .ok (.if_icmp .ne 7, 3) := by decide +kernel
theorem dX7_rightHours_88 : decode cX7_rightHours 88 = .ok (.iconst 1, 1) := by decide +kernel
theorem dX7_rightHours_89 : decode cX7_rightHours 89 = .ok (.goto 4, 3) := by decide +kernel
theorem dX7_rightHours_92 : decode cX7_rightHours 92 = .ok (.iconst 0, 1) := by decide +kernel
theorem dX7_rightHours_93 : decode cX7_rightHours 93 = .ok (.iadd, 1) := by decide +kernel
theorem dX7_rightHours_94 : decode cX7_rightHours 94 = .ok (.istore 4, 2) := by decide +kernel
theorem dX7_rightHours_96 : decode cX7_rightHours 96 = .ok (.iload 4, 2) := by decide +kernel
theorem dX7_rightHours_98 : decode cX7_rightHours 98 = .ok (.iload 4, 2) := by decide +kernel
theorem dX7_rightHours_100 : decode cX7_rightHours 100 = .ok (.iconst 2, 1) := by decide +kernel
theorem dX7_rightHours_101 : decode cX7_rightHours 101 = .ok (.iload 5, 2) := by decide +kernel
theorem dX7_rightHours_103 : decode cX7_rightHours 103 = .ok (.imul, 1) := by decide +kernel
theorem dX7_rightHours_104 : decode cX7_rightHours 104 = .ok (.iconst 1, 1) := by decide +kernel
theorem dX7_rightHours_105 : decode cX7_rightHours 105 = .ok (.iadd, 1) := by decide +kernel
theorem dX7_rightHours_106 : decode cX7_rightHours 106 = .ok (.if_icmp .ne 29, 3) := by decide +kernel
theorem dX7_rightHours_109 : decode cX7_rightHours 109 = .ok (.iload 4, 2) := by decide +kernel
theorem dX7_rightHours_111 : decode cX7_rightHours 111 = .ok (.iload_n 3, 1) := by decide +kernel
theorem dX7_rightHours_112 : decode cX7_rightHours 112 = .ok (.if_icmp .ge 23, 3) := by decide +kernel
theorem dX7_rightHours_115 : decode cX7_rightHours 115 = .ok (.aload_n 0, 1) := by decide +kernel
theorem dX7_rightHours_116 : decode cX7_rightHours 116 = .ok (.getfield 75, 3) := by decide +kernel
theorem dX7_rightHours_119 : decode cX7_rightHours 119 = .ok (.iload 4, 2) := by decide +kernel
theorem dX7_rightHours_121 : decode cX7_rightHours 121 = .ok (.iaload, 1) := by decide +kernel
theorem dX7_rightHours_122 : decode cX7_rightHours 122 = .ok (.aload_n 0, 1) := by decide +kernel
theorem dX7_rightHours_123 : decode cX7_rightHours 123 = .ok (.iload_n 1, 1) := by decide +kernel
theorem dX7_rightHours_124 : decode cX7_rightHours 124 = .ok (.iconst 4, 1) := by decide +kernel
theorem dX7_rightHours_125 : decode cX7_rightHours 125 = .ok (.invokevirtual 88, 3) := by decide +kernel
theorem dX7_rightHours_128 : decode cX7_rightHours 128 = .ok (.if_icmp .ne 7, 3) := by decide +kernel
theorem dX7_rightHours_131 : decode cX7_rightHours 131 = .ok (.iconst 1, 1) := by decide +kernel
theorem dX7_rightHours_132 : decode cX7_rightHours 132 = .ok (.goto 4, 3) := by decide +kernel
theorem dX7_rightHours_135 : decode cX7_rightHours 135 = .ok (.iconst 0, 1) := by decide +kernel
theorem dX7_rightHours_136 : decode cX7_rightHours 136 = .ok (.iadd, 1) := by decide +kernel
theorem dX7_rightHours_137 : decode cX7_rightHours 137 = .ok (.istore 4, 2) := by decide +kernel
theorem dX7_rightHours_139 : decode cX7_rightHours 139 = .ok (.iinc 5 1, 3) := by decide +kernel
theorem dX7_rightHours_142 : decode cX7_rightHours 142 = .ok (.goto (-136), 3) := by decide +kernel
theorem dX7_rightHours_145 : decode cX7_rightHours 145 = .ok (.iload 4, 2) := by decide +kernel
theorem dX7_rightHours_147 : decode cX7_rightHours 147 = .ok (.ireturn, 1) := by decide +kernel
theorem dX7_check_0 : decode cX7_check 0 = .ok (.aload_n 0, 1) := by decide +kernel
theorem dX7_check_1 : decode cX7_check 1 = .ok (.getfield 255, 3) := by decide +kernel
theorem dX7_check_4 : decode cX7_check 4 = .ok (.istore_n 3, 1) := by decide +kernel
theorem dX7_check_5 : decode cX7_check 5 = .ok (.aload_n 0, 1) := by decide +kernel
theorem dX7_check_6 : decode cX7_check 6 = .ok (.iconst 0, 1) := by decide +kernel
theorem dX7_check_7 : decode cX7_check 7 = .ok (.putfield 255, 3) := by decide +kernel
theorem dX7_check_10 : decode cX7_check 10 = .ok (.iload_n 2, 1) := by decide +kernel
theorem dX7_check_11 : decode cX7_check 11 = .ok (.iconst 1, 1) := by decide +kernel
theorem dX7_check_12 : decode cX7_check 12 = .ok (.bipush 30, 2) := by decide +kernel
theorem dX7_check_14 : decode cX7_check 14 = .ok (.invokestatic 78, 3) := by decide +kernel
theorem dX7_check_17 : decode cX7_check 17 = .ok (.ifCond .ne 6, 3) := by decide +kernel
theorem dX7_check_20 : decode cX7_check 20 = .ok (.ldc 86, 2) := by decide +kernel
theorem dX7_check_22 : decode cX7_check 22 = .ok (.ireturn, 1) := by decide +kernel
theorem dX7_check_23 : decode cX7_check 23 = .ok (.aload_n 0, 1) := by decide +kernel
theorem dX7_check_24 : decode cX7_check 24 = .ok (.getfield 258, 3) := by decide +kernel
theorem dX7_check_27 : decode cX7_check 27 = .ok (.ifCond .ne 6, 3) := by decide +kernel
theorem dX7_check_30 : decode cX7_check 30 = .ok (.ldc 254, 2) := by decide +kernel
theorem dX7_check_32 : decode cX7_check 32 = .ok (.ireturn, 1) := by decide +kernel
theorem dX7_check_33 : decode cX7_check 33 = .ok (.iload_n 1, 1) := by decide +kernel
theorem dX7_check_34 : decode cX7_check 34 = .ok (.iconst 0, 1) := by decide +kernel
theorem dX7_check_35 : decode cX7_check 35 = .ok (.aload_n 0, 1) := by decide +kernel
theorem dX7_check_36 : decode cX7_check 36 = .ok (.getfield 13, 3) := by decide +kernel
theorem dX7_check_39 : decode cX7_check 39 = .ok (.iconst 1, 1) := by decide +kernel
theorem dX7_check_40 : decode cX7_check 40 = .ok (.iaload, 1) := by decide +kernel
theorem dX7_check_41 : decode cX7_check 41 = .ok (.iconst 1, 1) := by decide +kernel
theorem dX7_check_42 : decode cX7_check 42 = .ok (.isub, 1) := by decide +kernel
theorem dX7_check_43 : decode cX7_check 43 = .ok (.invokestatic 78, 3) := by decide +kernel
theorem dX7_check_46 : decode cX7_check 46 = .ok (.ifCond .ne 6, 3) := by decide +kernel
theorem dX7_check_49 : decode cX7_check 49 = .ok (.ldc 86, 2) := by decide +kernel
theorem dX7_check_51 : decode cX7_check 51 = .ok (.ireturn, 1) := by decide +kernel
theorem dX7_check_52 : decode cX7_check 52 = .ok (.aload_n 0, 1) := by decide +kernel
theorem dX7_check_53 : decode cX7_check 53 = .ok (.getfield 9, 3) := by decide +kernel
theorem dX7_check_56 : decode cX7_check 56 = .ok (.aload_n 0, 1) := by decide +kernel
theorem dX7_check_57 : decode cX7_check 57 = .ok (.getfield 16, 3) := by decide +kernel
theorem dX7_check_60 : decode cX7_check 60 = .ok (.invokestatic 262, 3) := by decide +kernel
theorem dX7_check_63 : decode cX7_check 63 = .ok (.aload_n 0, 1) := by decide +kernel
theorem dX7_check_64 : decode cX7_check 64 = .ok (.getfield 13, 3) := by decide +kernel
theorem dX7_check_67 : decode cX7_check 67 = .ok (.aload_n 0, 1) := by decide +kernel
theorem dX7_check_68 : decode cX7_check 68 = .ok (.getfield 9, 3) := by decide +kernel
theorem dX7_check_71 : decode cX7_check 71 = .ok (.invokestatic 262, 3) := by decide +kernel
theorem dX7_check_74 : decode cX7_check 74 = .ok (.aload_n 0, 1) := by decide +kernel
theorem dX7_check_75 : decode cX7_check 75 = .ok (.iload_n 1, 1) := by decide +kernel
theorem dX7_check_76 : decode cX7_check 76 = .ok (.iload_n 2, 1) := by decide +kernel
theorem dX7_check_77 : decode cX7_check 77 = .ok (.iload_n 3, 1) := by decide +kernel
theorem dX7_check_78 : decode cX7_check 78 = .ok (.invokevirtual 266, 3) := by decide +kernel
theorem dX7_check_81 : decode cX7_check 81 = .ok (.istore 4, 2) := by decide +kernel
theorem dX7_check_83 : decode cX7_check 83 = .ok (.aload_n 0, 1) := by decide +kernel
theorem dX7_check_84 : decode cX7_check 84 = .ok (.getfield 16, 3) := by decide +kernel
theorem dX7_check_87 : decode cX7_check 87 = .ok (.aload_n 0, 1) := by decide +kernel
theorem dX7_check_88 : decode cX7_check 88 = .ok (.getfield 9, 3) := by decide +kernel
theorem dX7_check_91 : decode cX7_check 91 = .ok (.invokestatic 262, 3) := by decide +kernel
theorem dX7_check_94 : decode cX7_check 94 = .ok (.iload 4, 2) := by decide +kernel
theorem dX7_check_96 : decode cX7_check 96 = .ok (.iload_n 3, 1) := by decide +kernel
theorem dX7_check_97 : decode cX7_check 97 = .ok (.if_icmp .ne 15, 3) := by decide +kernel
theorem dX7_check_100 : decode cX7_check 100 = .ok (.iload 4, 2) := by decide +kernel
theorem dX7_check_102 : decode cX7_check 102 = .ok (.iconst 2, 1) := by decide +kernel
theorem dX7_check_103 : decode cX7_check 103 = .ok (.iload_n 2, 1) := by decide +kernel
theorem dX7_check_104 : decode cX7_check 104 = .ok (.imul, 1) := by decide +kernel
theorem dX7_check_105 : decode cX7_check 105 = .ok (.if_icmp .ne 7, 3) := by decide +kernel
theorem dX7_check_108 : decode cX7_check 108 = .ok (.iconst 0, 1) := by decide +kernel
theorem dX7_check_109 : decode cX7_check 109 = .ok (.goto 7, 3) := by decide +kernel
theorem dX7_check_112 : decode cX7_check 112 = .ok (.iconst 1, 1) := by decide +kernel
theorem dX7_check_113 : decode cX7_check 113 = .ok (.iload 4, 2) := by decide +kernel
theorem dX7_check_115 : decode cX7_check 115 = .ok (.iadd, 1) := by decide +kernel
theorem dX7_check_116 : decode cX7_check 116 = .ok (.ireturn, 1) := by decide +kernel
theorem dX7_keep_0 : decode cX7_keep 0 = .ok (.aload_n 0, 1) := by decide +kernel
theorem dX7_keep_1 : decode cX7_keep 1 = .ok (.getfield 9, 3) := by decide +kernel
theorem dX7_keep_4 : decode cX7_keep 4 = .ok (.aload_n 0, 1) := by decide +kernel
theorem dX7_keep_5 : decode cX7_keep 5 = .ok (.getfield 13, 3) := by decide +kernel
theorem dX7_keep_8 : decode cX7_keep 8 = .ok (.invokestatic 262, 3) := by decide +kernel
theorem dX7_keep_11 : decode cX7_keep 11 = .ok (.aload_n 0, 1) := by decide +kernel
theorem dX7_keep_12 : decode cX7_keep 12 = .ok (.iconst 1, 1) := by decide +kernel
theorem dX7_keep_13 : decode cX7_keep 13 = .ok (.putfield 258, 3) := by decide +kernel
theorem dX7_keep_16 : decode cX7_keep 16 = .ok (.aload_n 0, 1) := by decide +kernel
theorem dX7_keep_17 : decode cX7_keep 17 = .ok (.getfield 9, 3) := by decide +kernel
theorem dX7_keep_20 : decode cX7_keep 20 = .ok (.iconst 1, 1) := by decide +kernel
theorem dX7_keep_21 : decode cX7_keep 21 = .ok (.iaload, 1) := by decide +kernel
theorem dX7_keep_22 : decode cX7_keep 22 = .ok (.ireturn, 1) := by decide +kernel
theorem dX7_back_0 : decode cX7_back 0 = .ok (.aload_n 0, 1) := by decide +kernel
theorem dX7_back_1 : decode cX7_back 1 = .ok (.getfield 258, 3) := by decide +kernel
theorem dX7_back_4 : decode cX7_back 4 = .ok (.ifCond .ne 6, 3) := by decide +kernel
theorem dX7_back_7 : decode cX7_back 7 = .ok (.ldc 254, 2) := by decide +kernel
theorem dX7_back_9 : decode cX7_back 9 = .ok (.ireturn, 1) := by decide +kernel
theorem dX7_back_10 : decode cX7_back 10 = .ok (.aload_n 0, 1) := by decide +kernel
theorem dX7_back_11 : decode cX7_back 11 = .ok (.getfield 13, 3) := by decide +kernel
theorem dX7_back_14 : decode cX7_back 14 = .ok (.aload_n 0, 1) := by decide +kernel
theorem dX7_back_15 : decode cX7_back 15 = .ok (.getfield 9, 3) := by decide +kernel
theorem dX7_back_18 : decode cX7_back 18 = .ok (.invokestatic 262, 3) := by decide +kernel
theorem dX7_back_21 : decode cX7_back 21 = .ok (.aload_n 0, 1) := by decide +kernel
theorem dX7_back_22 : decode cX7_back 22 = .ok (.getfield 9, 3) := by decide +kernel
theorem dX7_back_25 : decode cX7_back 25 = .ok (.iconst 1, 1) := by decide +kernel
theorem dX7_back_26 : decode cX7_back 26 = .ok (.iaload, 1) := by decide +kernel
theorem dX7_back_27 : decode cX7_back 27 = .ok (.ireturn, 1) := by decide +kernel
theorem dX7_count_0 : decode cX7_count 0 = .ok (.iconst 0, 1) := by decide +kernel
theorem dX7_count_1 : decode cX7_count 1 = .ok (.istore_n 2, 1) := by decide +kernel
theorem dX7_count_2 : decode cX7_count 2 = .ok (.iload_n 1, 1) := by decide +kernel
theorem dX7_count_3 : decode cX7_count 3 = .ok (.tableswitch 119 0 7 #[45, 52, 81, 88, 95, 102, 107, 112], 45) := by decide +kernel
theorem dX7_count_48 : decode cX7_count 48 = .ok (.aload_n 0, 1) := by decide +kernel
theorem dX7_count_49 : decode cX7_count 49 = .ok (.getfield 9, 3) := by decide +kernel
theorem dX7_count_52 : decode cX7_count 52 = .ok (.iconst 1, 1) := by decide +kernel
theorem dX7_count_53 : decode cX7_count 53 = .ok (.iaload, 1) := by decide +kernel
theorem dX7_count_54 : decode cX7_count 54 = .ok (.ireturn, 1) := by decide +kernel
theorem dX7_count_55 : decode cX7_count 55 = .ok (.iconst 0, 1) := by decide +kernel
theorem dX7_count_56 : decode cX7_count 56 = .ok (.istore_n 3, 1) := by decide +kernel
theorem dX7_count_57 : decode cX7_count 57 = .ok (.iload_n 3, 1) := by decide +kernel
theorem dX7_count_58 : decode cX7_count 58 = .ok (.aload_n 0, 1) := by decide +kernel
theorem dX7_count_59 : decode cX7_count 59 = .ok (.getfield 9, 3) := by decide +kernel
theorem dX7_count_62 : decode cX7_count 62 = .ok (.iconst 1, 1) := by decide +kernel
theorem dX7_count_63 : decode cX7_count 63 = .ok (.iaload, 1) := by decide +kernel
theorem dX7_count_64 : decode cX7_count 64 = .ok (.if_icmp .ge 18, 3) := by decide +kernel
theorem dX7_count_67 : decode cX7_count 67 = .ok (.iload_n 2, 1) := by decide +kernel
theorem dX7_count_68 : decode cX7_count 68 = .ok (.aload_n 0, 1) := by decide +kernel
theorem dX7_count_69 : decode cX7_count 69 = .ok (.iload_n 3, 1) := by decide +kernel
theorem dX7_count_70 : decode cX7_count 70 = .ok (.iconst 5, 1) := by decide +kernel
theorem dX7_count_71 : decode cX7_count 71 = .ok (.invokevirtual 88, 3) := by decide +kernel
theorem dX7_count_74 : decode cX7_count 74 = .ok (.iadd, 1) := by decide +kernel
theorem dX7_count_75 : decode cX7_count 75 = .ok (.istore_n 2, 1) := by decide +kernel
theorem dX7_count_76 : decode cX7_count 76 = .ok (.iinc 3 1, 3) := by decide +kernel
theorem dX7_count_79 : decode cX7_count 79 = .ok (.goto (-22), 3) := by decide +kernel
theorem dX7_count_82 : decode cX7_count 82 = .ok (.iload_n 2, 1) := by decide +kernel
theorem dX7_count_83 : decode cX7_count 83 = .ok (.ireturn, 1) := by decide +kernel
theorem dX7_count_84 : decode cX7_count 84 = .ok (.aload_n 0, 1) := by decide +kernel
theorem dX7_count_85 : decode cX7_count 85 = .ok (.getfield 9, 3) := by decide +kernel
theorem dX7_count_88 : decode cX7_count 88 = .ok (.iconst 2, 1) := by decide +kernel
theorem dX7_count_89 : decode cX7_count 89 = .ok (.iaload, 1) := by decide +kernel
theorem dX7_count_90 : decode cX7_count 90 = .ok (.ireturn, 1) := by decide +kernel
theorem dX7_count_91 : decode cX7_count 91 = .ok (.aload_n 0, 1) := by decide +kernel
theorem dX7_count_92 : decode cX7_count 92 = .ok (.getfield 9, 3) := by decide +kernel
theorem dX7_count_95 : decode cX7_count 95 = .ok (.iconst 3, 1) := by decide +kernel
theorem dX7_count_96 : decode cX7_count 96 = .ok (.iaload, 1) := by decide +kernel
theorem dX7_count_97 : decode cX7_count 97 = .ok (.ireturn, 1) := by decide +kernel
theorem dX7_count_98 : decode cX7_count 98 = .ok (.aload_n 0, 1) := by decide +kernel
theorem dX7_count_99 : decode cX7_count 99 = .ok (.getfield 9, 3) := by decide +kernel
theorem dX7_count_102 : decode cX7_count 102 = .ok (.iconst 4, 1) := by decide +kernel
theorem dX7_count_103 : decode cX7_count 103 = .ok (.iaload, 1) := by decide +kernel
theorem dX7_count_104 : decode cX7_count 104 = .ok (.ireturn, 1) := by decide +kernel
theorem dX7_count_105 : decode cX7_count 105 = .ok (.aload_n 0, 1) := by decide +kernel
theorem dX7_count_106 : decode cX7_count 106 = .ok (.getfield 255, 3) := by decide +kernel
theorem dX7_count_109 : decode cX7_count 109 = .ok (.ireturn, 1) := by decide +kernel
theorem dX7_count_110 : decode cX7_count 110 = .ok (.aload_n 0, 1) := by decide +kernel
theorem dX7_count_111 : decode cX7_count 111 = .ok (.getfield 177, 3) := by decide +kernel
theorem dX7_count_114 : decode cX7_count 114 = .ok (.ireturn, 1) := by decide +kernel
theorem dX7_count_115 : decode cX7_count 115 = .ok (.aload_n 0, 1) := by decide +kernel
theorem dX7_count_116 : decode cX7_count 116 = .ok (.getfield 9, 3) := by decide +kernel
theorem dX7_count_119 : decode cX7_count 119 = .ok (.iconst 0, 1) := by decide +kernel
theorem dX7_count_120 : decode cX7_count 120 = .ok (.iaload, 1) := by decide +kernel
theorem dX7_count_121 : decode cX7_count 121 = .ok (.ireturn, 1) := by decide +kernel
theorem dX7_count_122 : decode cX7_count 122 = .ok (.ldc 86, 2) := by decide +kernel
theorem dX7_count_124 : decode cX7_count 124 = .ok (.ireturn, 1) := by decide +kernel
