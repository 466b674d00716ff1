theorem dX5_init_0 : decode cX5_init 0 = .ok (.aload_n 0, 1) := by decide +kernel
theorem dX5_init_1 : decode cX5_init 1 = .ok (.invokespecial 1, 3) := by decide +kernel
theorem dX5_init_4 : decode cX5_init 4 = .ok (.aload_n 0, 1) := by decide +kernel
theorem dX5_init_5 : decode cX5_init 5 = .ok (.iconst 1, 1) := by decide +kernel
theorem dX5_init_6 : decode cX5_init 6 = .ok (.putfield 7, 3) := by decide +kernel
theorem dX5_init_9 : decode cX5_init 9 = .ok (.aload_n 0, 1) := by decide +kernel
theorem dX5_init_10 : decode cX5_init 10 = .ok (.iconst 4, 1) := by decide +kernel
theorem dX5_init_11 : decode cX5_init 11 = .ok (.newarray .int, 2) := by decide +kernel
theorem dX5_init_13 : decode cX5_init 13 = .ok (.dup, 1) := by decide +kernel
theorem dX5_init_14 : decode cX5_init 14 = .ok (.iconst 0, 1) := by decide +kernel
theorem dX5_init_15 : decode cX5_init 15 = .ok (.iconst 3, 1) := by decide +kernel
theorem dX5_init_16 : decode cX5_init 16 = .ok (.iastore, 1) := by decide +kernel
theorem dX5_init_17 : decode cX5_init 17 = .ok (.dup, 1) := by decide +kernel
theorem dX5_init_18 : decode cX5_init 18 = .ok (.iconst 1, 1) := by decide +kernel
theorem dX5_init_19 : decode cX5_init 19 = .ok (.iconst 3, 1) := by decide +kernel
theorem dX5_init_20 : decode cX5_init 20 = .ok (.iastore, 1) := by decide +kernel
theorem dX5_init_21 : decode cX5_init 21 = .ok (.dup, 1) := by decide +kernel
theorem dX5_init_22 : decode cX5_init 22 = .ok (.iconst 2, 1) := by decide +kernel
theorem dX5_init_23 : decode cX5_init 23 = .ok (.iconst 3, 1) := by decide +kernel
theorem dX5_init_24 : decode cX5_init 24 = .ok (.iastore, 1) := by decide +kernel
theorem dX5_init_25 : decode cX5_init 25 = .ok (.dup, 1) := by decide +kernel
theorem dX5_init_26 : decode cX5_init 26 = .ok (.iconst 3, 1) := by decide +kernel
theorem dX5_init_27 : decode cX5_init 27 = .ok (.iconst 3, 1) := by decide +kernel
theorem dX5_init_28 : decode cX5_init 28 = .ok (.iastore, 1) := by decide +kernel
theorem dX5_init_29 : decode cX5_init 29 = .ok (.putfield 13, 3) := by decide +kernel
theorem dX5_init_32 : decode cX5_init 32 = .ok (.aload_n 0, 1) := by decide +kernel
theorem dX5_init_33 : decode cX5_init 33 = .ok (.iconst 4, 1) := by decide +kernel
theorem dX5_init_34 : decode cX5_init 34 = .ok (.newarray .int, 2) := by decide +kernel
theorem dX5_init_36 : decode cX5_init 36 = .ok (.dup, 1) := by decide +kernel
theorem dX5_init_37 : decode cX5_init 37 = .ok (.iconst 0, 1) := by decide +kernel
theorem dX5_init_38 : decode cX5_init 38 = .ok (.iconst 1, 1) := by decide +kernel
theorem dX5_init_39 : decode cX5_init 39 = .ok (.iastore, 1) := by decide +kernel
theorem dX5_init_40 : decode cX5_init 40 = .ok (.dup, 1) := by decide +kernel
theorem dX5_init_41 : decode cX5_init 41 = .ok (.iconst 1, 1) := by decide +kernel
theorem dX5_init_42 : decode cX5_init 42 = .ok (.iconst 1, 1) := by decide +kernel
theorem dX5_init_43 : decode cX5_init 43 = .ok (.iastore, 1) := by decide +kernel
theorem dX5_init_44 : decode cX5_init 44 = .ok (.dup, 1) := by decide +kernel
theorem dX5_init_45 : decode cX5_init 45 = .ok (.iconst 2, 1) := by decide +kernel
theorem dX5_init_46 : decode cX5_init 46 = .ok (.iconst 1, 1) := by decide +kernel
theorem dX5_init_47 : decode cX5_init 47 = .ok (.iastore, 1) := by decide +kernel
theorem dX5_init_48 : decode cX5_init 48 = .ok (.dup, 1) := by decide +kernel
theorem dX5_init_49 : decode cX5_init 49 = .ok (.iconst 3, 1) := by decide +kernel
theorem dX5_init_50 : decode cX5_init 50 = .ok (.iconst 1, 1) := by decide +kernel
theorem dX5_init_51 : decode cX5_init 51 = .ok (.iastore, 1) := by decide +kernel
theorem dX5_init_52 : decode cX5_init 52 = .ok (.putfield 17, 3) := by decide +kernel
theorem dX5_init_55 : decode cX5_init 55 = .ok (.aload_n 0, 1) := by decide +kernel
theorem dX5_init_56 : decode cX5_init 56 = .ok (.iconst 4, 1) := by decide +kernel
theorem dX5_init_57 : decode cX5_init 57 = .ok (.newarray .int, 2) := by decide +kernel
theorem dX5_init_59 : decode cX5_init 59 = .ok (.dup, 1) := by decide +kernel
theorem dX5_init_60 : decode cX5_init 60 = .ok (.iconst 0, 1) := by decide +kernel
theorem dX5_init_61 : decode cX5_init 61 = .ok (.iconst 2, 1) := by decide +kernel
theorem dX5_init_62 : decode cX5_init 62 = .ok (.iastore, 1) := by decide +kernel
theorem dX5_init_63 : decode cX5_init 63 = .ok (.dup, 1) := by decide +kernel
theorem dX5_init_64 : decode cX5_init 64 = .ok (.iconst 1, 1) := by decide +kernel
theorem dX5_init_65 : decode cX5_init 65 = .ok (.iconst 2, 1) := by decide +kernel
theorem dX5_init_66 : decode cX5_init 66 = .ok (.iastore, 1) := by decide +kernel
theorem dX5_init_67 : decode cX5_init 67 = .ok (.dup, 1) := by decide +kernel
theorem dX5_init_68 : decode cX5_init 68 = .ok (.iconst 2, 1) := by decide +kernel
theorem dX5_init_69 : decode cX5_init 69 = .ok (.iconst 2, 1) := by decide +kernel
theorem dX5_init_70 : decode cX5_init 70 = .ok (.iastore, 1) := by decide +kernel
theorem dX5_init_71 : decode cX5_init 71 = .ok (.dup, 1) := by decide +kernel
theorem dX5_init_72 : decode cX5_init 72 = .ok (.iconst 3, 1) := by decide +kernel
theorem dX5_init_73 : decode cX5_init 73 = .ok (.iconst 2, 1) := by decide +kernel
theorem dX5_init_74 : decode cX5_init 74 = .ok (.iastore, 1) := by decide +kernel
theorem dX5_init_75 : decode cX5_init 75 = .ok (.putfield 20, 3) := by decide +kernel
theorem dX5_init_78 : decode cX5_init 78 = .ok (.aload_n 0, 1) := by decide +kernel
theorem dX5_init_79 : decode cX5_init 79 = .ok (.iconst 1, 1) := by decide +kernel
theorem dX5_init_80 : decode cX5_init 80 = .ok (.putfield 23, 3) := by decide +kernel
theorem dX5_init_83 : decode cX5_init 83 = .ok (.aload_n 0, 1) := by decide +kernel
theorem dX5_init_84 : decode cX5_init 84 = .ok (.iconst 4, 1) := by decide +kernel
theorem dX5_init_85 : decode cX5_init 85 = .ok (.newarray .int, 2) := by decide +kernel
theorem dX5_init_87 : decode cX5_init 87 = .ok (.dup, 1) := by decide +kernel
theorem dX5_init_88 : decode cX5_init 88 = .ok (.iconst 0, 1) := by decide +kernel
theorem dX5_init_89 : decode cX5_init 89 = .ok (.iconst (-1), 1) := by decide +kernel
theorem dX5_init_90 : decode cX5_init 90 = .ok (.iastore, 1) := by decide +kernel
theorem dX5_init_91 : decode cX5_init 91 = .ok (.dup, 1) := by decide +kernel
theorem dX5_init_92 : decode cX5_init 92 = .ok (.iconst 1, 1) := by decide +kernel
theorem dX5_init_93 : decode cX5_init 93 = .ok (.iconst (-1), 1) := by decide +kernel
theorem dX5_init_94 : decode cX5_init 94 = .ok (.iastore, 1) := by decide +kernel
theorem dX5_init_95 : decode cX5_init 95 = .ok (.dup, 1) := by decide +kernel
theorem dX5_init_96 : decode cX5_init 96 = .ok (.iconst 2, 1) := by decide +kernel
theorem dX5_init_97 : decode cX5_init 97 = .ok (.iconst (-1), 1) := by decide +kernel
theorem dX5_init_98 : decode cX5_init 98 = .ok (.iastore, 1) := by decide +kernel
theorem dX5_init_99 : decode cX5_init 99 = .ok (.dup, 1) := by decide +kernel
theorem dX5_init_100 : decode cX5_init 100 = .ok (.iconst 3, 1) := by decide +kernel
theorem dX5_init_101 : decode cX5_init 101 = .ok (.iconst (-1), 1) := by decide +kernel
theorem dX5_init_102 : decode cX5_init 102 = .ok (.iastore, 1) := by decide +kernel
theorem dX5_init_103 : decode cX5_init 103 = .ok (.putfield 26, 3) := by decide +kernel
theorem dX5_init_106 : decode cX5_init 106 = .ok (.aload_n 0, 1) := by decide +kernel
theorem dX5_init_107 : decode cX5_init 107 = .ok (.iconst 4, 1) := by decide +kernel
theorem dX5_init_108 : decode cX5_init 108 = .ok (.newarray .int, 2) := by decide +kernel
theorem dX5_init_110 : decode cX5_init 110 = .ok (.dup, 1) := by decide +kernel
theorem dX5_init_111 : decode cX5_init 111 = .ok (.iconst 0, 1) := by decide +kernel
theorem dX5_init_112 : decode cX5_init 112 = .ok (.iconst (-1), 1) := by decide +kernel
theorem dX5_init_113 : decode cX5_init 113 = .ok (.iastore, 1) := by decide +kernel
theorem dX5_init_114 : decode cX5_init 114 = .ok (.dup, 1) := by decide +kernel
theorem dX5_init_115 : decode cX5_init 115 = .ok (.iconst 1, 1) := by decide +kernel
theorem dX5_init_116 : decode cX5_init 116 = .ok (.iconst (-1), 1) := by decide +kernel
theorem dX5_init_117 : decode cX5_init 117 = .ok (.iastore, 1) := by decide +kernel
theorem dX5_init_118 : decode cX5_init 118 = .ok (.dup, 1) := by decide +kernel
theorem dX5_init_119 : decode cX5_init 119 = .ok (.iconst 2, 1) := by decide +kernel
theorem dX5_init_120 : decode cX5_init 120 = .ok (.iconst (-1), 1) := by decide +kernel
theorem dX5_init_121 : decode cX5_init 121 = .ok (.iastore, 1) := by decide +kernel
theorem dX5_init_122 : decode cX5_init 122 = .ok (.dup, 1) := by decide +kernel
theorem dX5_init_123 : decode cX5_init 123 = .ok (.iconst 3, 1) := by decide +kernel
theorem dX5_init_124 : decode cX5_init 124 = .ok (.iconst (-1), 1) := by decide +kernel
theorem dX5_init_125 : decode cX5_init 125 = .ok (.iastore, 1) := by decide +kernel
theorem dX5_init_126 : decode cX5_init 126 = .ok (.putfield 29, 3) := by decide +kernel
theorem dX5_init_129 : decode cX5_init 129 = .ok (.aload_n 0, 1) := by decide +kernel
theorem dX5_init_130 : decode cX5_init 130 = .ok (.iconst 4, 1) := by decide +kernel
theorem dX5_init_131 : decode cX5_init 131 = .ok (.newarray .int, 2) := by decide +kernel
theorem dX5_init_133 : decode cX5_init 133 = .ok (.dup, 1) := by decide +kernel
theorem dX5_init_134 : decode cX5_init 134 = .ok (.iconst 0, 1) := by decide +kernel
theorem dX5_init_135 : decode cX5_init 135 = .ok (.iconst (-1), 1) := by decide +kernel
theorem dX5_init_136 : decode cX5_init 136 = .ok (.iastore, 1) := by decide +kernel
theorem dX5_init_137 : decode cX5_init 137 = .ok (.dup, 1) := by decide +kernel
theorem dX5_init_138 : decode cX5_init 138 = .ok (.iconst 1, 1) := by decide +kernel
theorem dX5_init_139 : decode cX5_init 139 = .ok (.iconst (-1), 1) := by decide +kernel
theorem dX5_init_140 : decode cX5_init 140 = .ok (.iastore, 1) := by decide +kernel
theorem dX5_init_141 : decode cX5_init 141 = .ok (.dup, 1) := by decide +kernel
theorem dX5_init_142 : decode cX5_init 142 = .ok (.iconst 2, 1) := by decide +kernel
theorem dX5_init_143 : decode cX5_init 143 = .ok (.iconst (-1), 1) := by decide +kernel
theorem dX5_init_144 : decode cX5_init 144 = .ok (.iastore, 1) := by decide +kernel
theorem dX5_init_145 : decode cX5_init 145 = .ok (.dup, 1) := by decide +kernel
theorem dX5_init_146 : decode cX5_init 146 = .ok (.iconst 3, 1) := by decide +kernel
theorem dX5_init_147 : decode cX5_init 147 = .ok (.iconst (-1), 1) := by decide +kernel
theorem dX5_init_148 : decode cX5_init 148 = .ok (.iastore, 1) := by decide +kernel
theorem dX5_init_149 : decode cX5_init 149 = .ok (.putfield 32, 3) := by decide +kernel
theorem dX5_init_152 : decode cX5_init 152 = .ok (.aload_n 0, 1) := by decide +kernel
theorem dX5_init_153 : decode cX5_init 153 = .ok (.iconst (-1), 1) := by decide +kernel
theorem dX5_init_154 : decode cX5_init 154 = .ok (.putfield 35, 3) := by decide +kernel
theorem dX5_init_157 : decode cX5_init 157 = .ok (.aload_n 0, 1) := by decide +kernel
theorem dX5_init_158 : decode cX5_init 158 = .ok (.bipush 16, 2) := by decide +kernel
theorem dX5_init_160 : decode cX5_init 160 = .ok (.newarray .int, 2) := by decide +kernel
theorem dX5_init_162 : decode cX5_init 162 = .ok (.putfield 38, 3) := by decide +kernel
theorem dX5_init_165 : decode cX5_init 165 = .ok (.aload_n 0, 1) := by decide +kernel
theorem dX5_init_166 : decode cX5_init 166 = .ok (.bipush 16, 2) := by decide +kernel
theorem dX5_init_168 : decode cX5_init 168 = .ok (.newarray .boolean, 2) := by decide +kernel
theorem dX5_init_170 : decode cX5_init 170 = .ok (.putfield 41, 3) := by decide +kernel
theorem dX5_init_173 : decode cX5_init 173 = .ok (.aload_n 0, 1) := by decide +kernel
theorem dX5_init_174 : decode cX5_init 174 = .ok (.bipush 64, 2) := by decide +kernel
theorem dX5_init_176 : decode cX5_init 176 = .ok (.newarray .int, 2) := by decide +kernel
theorem dX5_init_178 : decode cX5_init 178 = .ok (.putfield 45, 3) := by decide +kernel
theorem dX5_init_181 : decode cX5_init 181 = .ok (.aload_n 0, 1) := by decide +kernel
theorem dX5_init_182 : decode cX5_init 182 = .ok (.bipush 16, 2) := by decide +kernel
theorem dX5_init_184 : decode cX5_init 184 = .ok (.newarray .int, 2) := by decide +kernel
theorem dX5_init_186 : decode cX5_init 186 = .ok (.putfield 48, 3) := by decide +kernel
theorem dX5_init_189 : decode cX5_init 189 = .ok (.aload_n 0, 1) := by decide +kernel
theorem dX5_init_190 : decode cX5_init 190 = .ok (.bipush 16, 2) := by decide +kernel
theorem dX5_init_192 : decode cX5_init 192 = .ok (.newarray .int, 2) := by decide +kernel
theorem dX5_init_194 : decode cX5_init 194 = .ok (.putfield 51, 3) := by decide +kernel
theorem dX5_init_197 : decode cX5_init 197 = .ok (.aload_n 0, 1) := by decide +kernel
theorem dX5_init_198 : decode cX5_init 198 = .ok (.bipush 16, 2) := by decide +kernel
theorem dX5_init_200 : decode cX5_init 200 = .ok (.newarray .int, 2) := by decide +kernel
theorem dX5_init_202 : decode cX5_init 202 = .ok (.putfield 54, 3) := by decide +kernel
theorem dX5_init_205 : decode cX5_init 205 = .ok (.aload_n 0, 1) := by decide +kernel
theorem dX5_init_206 : decode cX5_init 206 = .ok (.iconst 4, 1) := by decide +kernel
theorem dX5_init_207 : decode cX5_init 207 = .ok (.newarray .int, 2) := by decide +kernel
theorem dX5_init_209 : decode cX5_init 209 = .ok (.putfield 57, 3) := by decide +kernel
theorem dX5_init_212 : decode cX5_init 212 = .ok (.aload_n 0, 1) := by decide +kernel
theorem dX5_init_213 : decode cX5_init 213 = .ok (.iconst 4, 1) := by decide +kernel
theorem dX5_init_214 : decode cX5_init 214 = .ok (.newarray .int, 2) := by decide +kernel
theorem dX5_init_216 : decode cX5_init 216 = .ok (.putfield 60, 3) := by decide +kernel
theorem dX5_init_219 : decode cX5_init 219 = .ok (.aload_n 0, 1) := by decide +kernel
theorem dX5_init_220 : decode cX5_init 220 = .ok (.iconst 4, 1) := by decide +kernel
theorem dX5_init_221 : decode cX5_init 221 = .ok (.newarray .int, 2) := by decide +kernel
theorem dX5_init_223 : decode cX5_init 223 = .ok (.putfield 63, 3) := by decide +kernel
theorem dX5_init_226 : decode cX5_init 226 = .ok (.aload_n 0, 1) := by decide +kernel
theorem dX5_init_227 : decode cX5_init 227 = .ok (.bipush 16, 2) := by decide +kernel
theorem dX5_init_229 : decode cX5_init 229 = .ok (.newarray .int, 2) := by decide +kernel
theorem dX5_init_231 : decode cX5_init 231 = .ok (.putfield 66, 3) := by decide +kernel
theorem dX5_init_234 : decode cX5_init 234 = .ok (.aload_n 0, 1) := by decide +kernel
theorem dX5_init_235 : decode cX5_init 235 = .ok (.bipush 16, 2) := by decide +kernel
theorem dX5_init_237 : decode cX5_init 237 = .ok (.newarray .int, 2) := by decide +kernel
theorem dX5_init_239 : decode cX5_init 239 = .ok (.putfield 69, 3) := by decide +kernel
theorem dX5_init_242 : decode cX5_init 242 = .ok (.aload_n 0, 1) := by decide +kernel
theorem dX5_init_243 : decode cX5_init 243 = .ok (.bipush 16, 2) := by decide +kernel
theorem dX5_init_245 : decode cX5_init 245 = .ok (.newarray .boolean, 2) := by decide +kernel
theorem dX5_init_247 : decode cX5_init 247 = .ok (.putfield 72, 3) := by decide +kernel
theorem dX5_init_250 : decode cX5_init 250 = .ok (.aload_n 0, 1) := by decide +kernel
theorem dX5_init_251 : decode cX5_init 251 = .ok (.bipush 16, 2) := by decide +kernel
theorem dX5_init_253 : decode cX5_init 253 = .ok (.newarray .int, 2) := by decide +kernel
theorem dX5_init_255 : decode cX5_init 255 = .ok (.putfield 75, 3) := by decide +kernel
theorem dX5_init_258 : decode cX5_init 258 = .ok (.aload_n 0, 1) := by decide +kernel
theorem dX5_init_259 : decode cX5_init 259 = .ok (.bipush 16, 2) := by decide +kernel
theorem dX5_init_261 : decode cX5_init 261 = .ok (.newarray .int, 2) := by decide +kernel
theorem dX5_init_263 : decode cX5_init 263 = .ok (.putfield 78, 3) := by decide +kernel
theorem dX5_init_266 : decode cX5_init 266 = .ok (.aload_n 0, 1) := by decide +kernel
theorem dX5_init_267 : decode cX5_init 267 = .ok (.bipush 16, 2) := by decide +kernel
theorem dX5_init_269 : decode cX5_init 269 = .ok (.newarray .boolean, 2) := by decide +kernel
theorem dX5_init_271 : decode cX5_init 271 = .ok (.putfield 81, 3) := by decide +kernel
theorem dX5_init_274 : decode cX5_init 274 = .ok (.aload_n 0, 1) := by decide +kernel
theorem dX5_init_275 : decode cX5_init 275 = .ok (.bipush 16, 2) := by decide +kernel
theorem dX5_init_277 : decode cX5_init 277 = .ok (.newarray .int, 2) := by decide +kernel
theorem dX5_init_279 : decode cX5_init 279 = .ok (.putfield 84, 3) := by decide +kernel
theorem dX5_init_282 : decode cX5_init 282 = .ok (.aload_n 0, 1) := by decide +kernel
theorem dX5_init_283 : decode cX5_init 283 = .ok (.bipush 16, 2) := by decide +kernel
theorem dX5_init_285 : decode cX5_init 285 = .ok (.newarray .boolean, 2) := by decide +kernel
theorem dX5_init_287 : decode cX5_init 287 = .ok (.putfield 87, 3) := by decide +kernel
theorem dX5_init_290 : decode cX5_init 290 = .ok (.aload_n 0, 1) := by decide +kernel
theorem dX5_init_291 : decode cX5_init 291 = .ok (.bipush 16, 2) := by decide +kernel
theorem dX5_init_293 : decode cX5_init 293 = .ok (.newarray .int, 2) := by decide +kernel
theorem dX5_init_295 : decode cX5_init 295 = .ok (.putfield 90, 3) := by decide +kernel
theorem dX5_init_298 : decode cX5_init 298 = .ok (.aload_n 0, 1) := by decide +kernel
theorem dX5_init_299 : decode cX5_init 299 = .ok (.bipush 80, 2) := by decide +kernel
theorem dX5_init_301 : decode cX5_init 301 = .ok (.newarray .int, 2) := by decide +kernel
theorem dX5_init_303 : decode cX5_init 303 = .ok (.putfield 93, 3) := by decide +kernel
theorem dX5_init_306 : decode cX5_init 306 = .ok (.aload_n 0, 1) := by decide +kernel
theorem dX5_init_307 : decode cX5_init 307 = .ok (.bipush 16, 2) := by decide +kernel
theorem dX5_init_309 : decode cX5_init 309 = .ok (.newarray .int, 2) := by decide +kernel
theorem dX5_init_311 : decode cX5_init 311 = .ok (.putfield 96, 3) := by decide +kernel
theorem dX5_init_314 : decode cX5_init 314 = .ok (.aload_n 0, 1) := by decide +kernel
theorem dX5_init_315 : decode cX5_init 315 = .ok (.bipush 16, 2) := by decide +kernel
theorem dX5_init_317 : decode cX5_init 317 = .ok (.newarray .int, 2) := by decide +kernel
theorem dX5_init_319 : decode cX5_init 319 = .ok (.putfield 99, 3) := by decide +kernel
theorem dX5_init_322 : decode cX5_init 322 = .ok (.aload_n 0, 1) := by decide +kernel
theorem dX5_init_323 : decode cX5_init 323 = .ok (.iconst 4, 1) := by decide +kernel
theorem dX5_init_324 : decode cX5_init 324 = .ok (.newarray .int, 2) := by decide +kernel
theorem dX5_init_326 : decode cX5_init 326 = .ok (.putfield 102, 3) := by decide +kernel
theorem dX5_init_329 : decode cX5_init 329 = .ok (.return_, 1) := by decide +kernel
theorem dX5_in_0 : decode cX5_in 0 = .ok (.iload_n 0, 1) := by decide +kernel
theorem dX5_in_1 : decode cX5_in 1 = .ok (.iload_n 1, 1) := by decide +kernel
theorem dX5_in_2 : decode cX5_in 2 = .ok (.if_icmp .lt 12, 3) := by decide +kernel
theorem dX5_in_5 : decode cX5_in 5 = .ok (.iload_n 0, 1) := by decide +kernel
theorem dX5_in_6 : decode cX5_in 6 = .ok (.iload_n 2, 1) := by decide +kernel
theorem dX5_in_7 : decode cX5_in 7 = .ok (.if_icmp .gt 7, 3) := by decide +kernel
theorem dX5_in_10 : decode cX5_in 10 = .ok (.iconst 1, 1) := by decide +kernel
theorem dX5_in_11 : decode cX5_in 11 = .ok (.goto 4, 3) := by decide +kernel
theorem dX5_in_14 : decode cX5_in 14 = .ok (.iconst 0, 1) := by decide +kernel
theorem dX5_in_15 : decode cX5_in 15 = .ok (.ireturn, 1) := by decide +kernel
set_option maxRecDepth 20000 in
theorem ggX5_isCard_X5_in : GoodIn wsX5_isCard wsX5_in := goodIn_r _ [5] (by decide +kernel) (by decide +kernel)
set_option maxRecDepth 20000 in
theorem gX5_isCard_X5_in : GoodIn wsX5_isCard (va_wsS RX5 108 yX5_in wsX5_in) := goodIn_app (goodIn_of _ (by decide +kernel)) ggX5_isCard_X5_in
theorem dX5_isCard_0 : decode cX5_isCard 0 = .ok (.iload_n 1, 1) := by decide +kernel
theorem dX5_isCard_1 : decode cX5_isCard 1 = .ok (.iconst 0, 1) := by decide +kernel
theorem dX5_isCard_2 : decode cX5_isCard 2 = .ok (.aload_n 0, 1) := by decide +kernel
theorem dX5_isCard_3 : decode cX5_isCard 3 = .ok (.getfield 105, 3) := by decide +kernel
theorem dX5_isCard_6 : decode cX5_isCard 6 = .ok (.iconst 1, 1) := by decide +kernel
theorem dX5_isCard_7 : decode cX5_isCard 7 = .ok (.isub, 1) := by decide +kernel
theorem dX5_isCard_8 : decode cX5_isCard 8 = .ok (.invokestatic 108, 3) := by decide +kernel
theorem dX5_isCard_11 : decode cX5_isCard 11 = .ok (.ireturn, 1) := by decide +kernel
set_option maxRecDepth 20000 in
theorem ggX5_isColumn_X5_in : GoodIn wsX5_isColumn wsX5_in := goodIn_r _ [5] (by decide +kernel) (by decide +kernel)
set_option maxRecDepth 20000 in
theorem gX5_isColumn_X5_in : GoodIn wsX5_isColumn (va_wsS RX5 108 yX5_in wsX5_in) := goodIn_app (goodIn_of _ (by decide +kernel)) ggX5_isColumn_X5_in
theorem dX5_isColumn_0 : decode cX5_isColumn 0 = .ok (.iload_n 1, 1) := by decide +kernel
theorem dX5_isColumn_1 : decode cX5_isColumn 1 = .ok (.iconst 0, 1) := by decide +kernel
theorem dX5_isColumn_2 : decode cX5_isColumn 2 = .ok (.aload_n 0, 1) := by decide +kernel
theorem dX5_isColumn_3 : decode cX5_isColumn 3 = .ok (.getfield 7, 3) := by decide +kernel
theorem dX5_isColumn_6 : decode cX5_isColumn 6 = .ok (.iconst 1, 1) := by decide +kernel
theorem dX5_isColumn_7 : decode cX5_isColumn 7 = .ok (.isub, 1) := by decide +kernel
theorem dX5_isColumn_8 : decode cX5_isColumn 8 = .ok (.invokestatic 108, 3) := by decide +kernel
theorem dX5_isColumn_11 : decode cX5_isColumn 11 = .ok (.ireturn, 1) := by decide +kernel
set_option maxRecDepth 20000 in
theorem ggX5_columns_X5_in : GoodIn wsX5_columns wsX5_in := goodIn_r _ [12] (by decide +kernel) (by decide +kernel)
set_option maxRecDepth 20000 in
theorem gX5_columns_X5_in : GoodIn wsX5_columns (va_wsS RX5 108 yX5_in wsX5_in) := goodIn_app (goodIn_of _ (by decide +kernel)) ggX5_columns_X5_in
set_option maxRecDepth 20000 in
theorem ggX5_columns_X5_noOther : GoodIn wsX5_columns wsX5_noOther := goodIn_r _ [16, 17, 18, 19, 20, 21, 22, 23, 24, 25, 26, 27, 28, 29, 30, 31, 32, 33, 34, 35, 36, 37, 38, 39, 40, 41, 42, 43, 44, 45, 46, 47, 48, 49, 50, 51, 52, 53, 54, 55, 56, 57, 58, 59, 60, 61] (by decide +kernel) (by decide +kernel)
set_option maxRecDepth 20000 in
theorem gX5_columns_X5_noOther : GoodIn wsX5_columns (wsV RX5 112 RX5 yX5_noOther wsX5_noOther) := goodIn_app (goodIn_of _ (by decide +kernel)) ggX5_columns_X5_noOther
theorem dX5_columns_0 : decode cX5_columns 0 = .ok (.iload_n 1, 1) := by decide +kernel
theorem dX5_columns_1 : decode cX5_columns 1 = .ok (.iconst 1, 1) := by decide +kernel
theorem dX5_columns_2 : decode cX5_columns 2 = .ok (.iconst 4, 1) := by decide +kernel
theorem dX5_columns_3 : decode cX5_columns 3 = .ok (.invokestatic 108, 3) := by decide +kernel
theorem dX5_columns_6 : decode cX5_columns 6 = .ok (.ifCond .ne 5, 3) := by decide +kernel
theorem dX5_columns_9 : decode cX5_columns 9 = .ok (.iconst 0, 1) := by decide +kernel
theorem dX5_columns_10 : decode cX5_columns 10 = .ok (.ireturn, 1) := by decide +kernel
theorem dX5_columns_11 : decode cX5_columns 11 = .ok (.aload_n 0, 1) := by decide +kernel
theorem dX5_columns_12 : decode cX5_columns 12 = .ok (.iload_n 1, 1) := by decide +kernel
theorem dX5_columns_13 : decode cX5_columns 13 = .ok (.putfield 7, 3) := by decide +kernel
theorem dX5_columns_16 : decode cX5_columns 16 = .ok (.aload_n 0, 1) := by decide +kernel
theorem dX5_columns_17 : decode cX5_columns 17 = .ok (.iconst 0, 1) := by decide +kernel
theorem dX5_columns_18 : decode cX5_columns 18 = .ok (.putfield 105, 3) := by decide +kernel
theorem dX5_columns_21 : decode cX5_columns 21 = .ok (.iconst 0, 1) := by decide +kernel
theorem dX5_columns_22 : decode cX5_columns 22 = .ok (.istore_n 2, 1) := by decide +kernel
theorem dX5_columns_23 : decode cX5_columns 23 = .ok (.iload_n 2, 1) := by decide +kernel
theorem dX5_columns_24 : decode cX5_columns 24 = .ok (.iconst 4, 1) := by decide +kernel
theorem dX5_columns_25 : decode cX5_columns 25 = .ok (.if_icmp .ge 35, 3) := by decide +kernel
theorem dX5_columns_28 : decode cX5_columns 28 = .ok (.aload_n 0, 1) := by decide +kernel
theorem dX5_columns_29 : decode cX5_columns 29 = .ok (.getfield 13, 3) := by decide +kernel
theorem dX5_columns_32 : decode cX5_columns 32 = .ok (.iload_n 2, 1) := by decide +kernel
theorem dX5_columns_33 : decode cX5_columns 33 = .ok (.iconst 3, 1) := by decide +kernel
theorem dX5_columns_34 : decode cX5_columns 34 = .ok (.iastore, 1) := by decide +kernel
theorem dX5_columns_35 : decode cX5_columns 35 = .ok (.aload_n 0, 1) := by decide +kernel
theorem dX5_columns_36 : decode cX5_columns 36 = .ok (.getfield 17, 3) := by decide +kernel
theorem dX5_columns_39 : decode cX5_columns 39 = .ok (.iload_n 2, 1) := by decide +kernel
theorem dX5_columns_40 : decode cX5_columns 40 = .ok (.iconst 1, 1) := by decide +kernel
theorem dX5_columns_41 : decode cX5_columns 41 = .ok (.iastore, 1) := by decide +kernel
theorem dX5_columns_42 : decode cX5_columns 42 = .ok (.aload_n 0, 1) := by decide +kernel
theorem dX5_columns_43 : decode cX5_columns 43 = .ok (.getfield 20, 3) := by decide +kernel
theorem dX5_columns_46 : decode cX5_columns 46 = .ok (.iload_n 2, 1) := by decide +kernel
theorem dX5_columns_47 : decode cX5_columns 47 = .ok (.iconst 2, 1) := by decide +kernel
theorem dX5_columns_48 : decode cX5_columns 48 = .ok (.iastore, 1) := by decide +kernel
theorem dX5_columns_49 : decode cX5_columns 49 = .ok (.aload_n 0, 1) := by decide +kernel
theorem dX5_columns_50 : decode cX5_columns 50 = .ok (.iload_n 2, 1) := by decide +kernel
theorem dX5_columns_51 : decode cX5_columns 51 = .ok (.invokevirtual 112, 3) := by decide +kernel
theorem dX5_columns_54 : decode cX5_columns 54 = .ok (.iinc 2 1, 3) := by decide +kernel
theorem dX5_columns_57 : decode cX5_columns 57 = .ok (.goto (-34), 3) := by decide +kernel
theorem dX5_columns_60 : decode cX5_columns 60 = .ok (.aload_n 0, 1) := by decide +kernel
theorem dX5_columns_61 : decode cX5_columns 61 = .ok (.iconst 1, 1) := by decide +kernel
theorem dX5_columns_62 : decode cX5_columns 62 = .ok (.putfield 23, 3) := by decide +kernel
theorem dX5_columns_65 : decode cX5_columns 65 = .ok (.aload_n 0, 1) := by decide +kernel
theorem dX5_columns_66 : decode cX5_columns 66 = .ok (.iconst (-1), 1) := by decide +kernel
theorem dX5_columns_67 : decode cX5_columns 67 = .ok (.putfield 35, 3) := by decide +kernel
theorem dX5_columns_70 : decode cX5_columns 70 = .ok (.aload_n 0, 1) := by decide +kernel
theorem dX5_columns_71 : decode cX5_columns 71 = .ok (.iconst 0, 1) := by decide +kernel
theorem dX5_columns_72 : decode cX5_columns 72 = .ok (.putfield 116, 3) := by decide +kernel
theorem dX5_columns_75 : decode cX5_columns 75 = .ok (.iconst 1, 1) := by decide +kernel
theorem dX5_columns_76 : decode cX5_columns 76 = .ok (.ireturn, 1) := by decide +kernel
theorem dX5_noOther_0 : decode cX5_noOther 0 = .ok (.aload_n 0, 1) := by decide +kernel
theorem dX5_noOther_1 : decode cX5_noOther 1 = .ok (.getfield 26, 3) := by decide +kernel
theorem dX5_noOther_4 : decode cX5_noOther 4 = .ok (.iload_n 1, 1) := by decide +kernel
theorem dX5_noOther_5 : decode cX5_noOther 5 = .ok (.iconst (-1), 1) := by decide +kernel
theorem dX5_noOther_6 : decode cX5_noOther 6 = .ok (.iastore, 1) := by decide +kernel
theorem dX5_noOther_7 : decode cX5_noOther 7 = .ok (.aload_n 0, 1) := by decide +kernel
theorem dX5_noOther_8 : decode cX5_noOther 8 = .ok (.getfield 29, 3) := by decide +kernel
theorem dX5_noOther_11 : decode cX5_noOther 11 = .ok (.iload_n 1, 1) := by decide +kernel
theorem dX5_noOther_12 : decode cX5_noOther 12 = .ok (.iconst (-1), 1) := by decide +kernel
theorem dX5_noOther_13 : decode cX5_noOther 13 = .ok (.iastore, 1) := by decide +kernel
theorem dX5_noOther_14 : decode cX5_noOther 14 = .ok (.aload_n 0, 1) := by decide +kernel
theorem dX5_noOther_15 : decode cX5_noOther 15 = .ok (.getfield 32, 3) := by decide +kernel
theorem dX5_noOther_18 : decode cX5_noOther 18 = .ok (.iload_n 1, 1) := by decide +kernel
theorem dX5_noOther_19 : decode cX5_noOther 19 = .ok (.iconst (-1), 1) := by decide +kernel
theorem dX5_noOther_20 : decode cX5_noOther 20 = .ok (.iastore, 1) := by decide +kernel
theorem dX5_noOther_21 : decode cX5_noOther 21 = .ok (.return_, 1) := by decide +kernel
set_option maxRecDepth 20000 in
theorem ggX5_column_X5_isColumn : GoodIn wsX5_column wsX5_isColumn := goodIn_r _ [9, 10, 11, 12, 8, 13, 21, 22, 23, 24, 25, 26, 27, 28, 29, 30, 31, 32, 33, 34, 35, 36, 37, 38, 39, 40, 41, 42, 43, 44, 45, 46, 47, 48, 49, 50, 51, 52, 53, 54, 55, 56, 57, 58, 59, 60, 61, 62] (by decide +kernel) (by decide +kernel)
set_option maxRecDepth 20000 in
theorem gX5_column_X5_isColumn : GoodIn wsX5_column (wsV RX5 120 RX5 yX5_isColumn wsX5_isColumn) := goodIn_app (goodIn_of _ (by decide +kernel)) ggX5_column_X5_isColumn
set_option maxRecDepth 20000 in
theorem ggX5_column_X5_in : GoodIn wsX5_column wsX5_in := goodIn_r _ [13] (by decide +kernel) (by decide +kernel)
set_option maxRecDepth 20000 in
theorem gX5_column_X5_in : GoodIn wsX5_column (va_wsS RX5 108 yX5_in wsX5_in) := goodIn_app (goodIn_of _ (by decide +kernel)) ggX5_column_X5_in
set_option maxRecDepth 20000 in
theorem ggX5_column_X5_noOther : GoodIn wsX5_column wsX5_noOther := goodIn_r _ [17, 18, 19, 20, 21, 22, 23, 24, 25, 26, 27, 28, 29, 30, 31, 32, 33, 34, 35, 36, 37, 38, 39, 40, 41, 42, 43, 44, 45, 46, 47, 48, 49, 50, 51, 52, 53, 54, 55, 56, 57, 58, 59, 60, 61, 62] (by decide +kernel) (by decide +kernel)
set_option maxRecDepth 20000 in
theorem gX5_column_X5_noOther : GoodIn wsX5_column (wsV RX5 112 RX5 yX5_noOther wsX5_noOther) := goodIn_app (goodIn_of _ (by decide +kernel)) ggX5_column_X5_noOther
theorem dX5_column_0 : decode cX5_column 0 = .ok (.aload_n 0, 1) := by decide +kernel
theorem dX5_column_1 : decode cX5_column 1 = .ok (.iload_n 1, 1) := by decide +kernel
theorem dX5_column_2 : decode cX5_column 2 = .ok (.invokevirtual 120, 3) := by decide +kernel
theorem dX5_column_5 : decode cX5_column 5 = .ok (.ifCond .eq 33, 3) := by decide +kernel
theorem dX5_column_8 : decode cX5_column 8 = .ok (.iload_n 2, 1) := by decide +kernel
theorem dX5_column_9 : decode cX5_column 9 = .ok (.iconst 0, 1) := by decide +kernel
theorem dX5_column_10 : decode cX5_column 10 = .ok (.bipush 20, 2) := by decide +kernel
theorem dX5_column_12 : decode cX5_column 12 = .ok (.invokestatic 108, 3) := by decide +kernel
theorem dX5_column_15 : decode cX5_column 15 = .ok (.ifCond .eq 23, 3) := by decide +kernel
theorem dX5_column_18 : decode cX5_column 18 = .ok (.iload_n 3, 1) := by decide +kernel
theorem dX5_column_19 : decode cX5_column 19 = .ok (.iconst 0, 1) := by decide +kernel
theorem dX5_column_20 : decode cX5_column 20 = .ok (.iconst 5, 1) := by decide +kernel
theorem dX5_column_21 : decode cX5_column 21 = .ok (.invokestatic 108, 3) := by decide +kernel
theorem dX5_column_24 : decode cX5_column 24 = .ok (.ifCond .eq 14, 3) := by decide +kernel
theorem dX5_column_27 : decode cX5_column 27 = .ok (.iload 4, 2) := by decide +kernel
theorem dX5_column_29 : decode cX5_column 29 = .ok (.iconst 0, 1) := by decide +kernel
theorem dX5_column_30 : decode cX5_column 30 = .ok (.bipush 20, 2) := by decide +kernel
theorem dX5_column_32 : decode cX5_column 32 = .ok (.invokestatic 108, 3) := by decide +kernel
theorem dX5_column_35 : decode cX5_column 35 = .ok (.ifCond .ne 5, 3) := by decide +kernel
theorem dX5_column_38 : decode cX5_column 38 = .ok (.iconst 0, 1) := by decide +kernel
theorem dX5_column_39 : decode cX5_column 39 = .ok (.ireturn, 1) := by decide +kernel
theorem dX5_column_40 : decode cX5_column 40 = .ok (.aload_n 0, 1) := by decide +kernel
theorem dX5_column_41 : decode cX5_column 41 = .ok (.getfield 13, 3) := by decide +kernel
theorem dX5_column_44 : decode cX5_column 44 = .ok (.iload_n 1, 1) := by decide +kernel
theorem dX5_column_45 : decode cX5_column 45 = .ok (.iload_n 2, 1) := by decide +kernel
theorem dX5_column_46 : decode cX5_column 46 = .ok (.iastore, 1) := by decide +kernel
theorem dX5_column_47 : decode cX5_column 47 = .ok (.aload_n 0, 1) := by decide +kernel
theorem dX5_column_48 : decode cX5_column 48 = .ok (.getfield 17, 3) := by decide +kernel
theorem dX5_column_51 : decode cX5_column 51 = .ok (.iload_n 1, 1) := by decide +kernel
theorem dX5_column_52 : decode cX5_column 52 = .ok (.iload_n 3, 1) := by decide +kernel
theorem dX5_column_53 : decode cX5_column 53 = .ok (.iastore, 1) := by decide +kernel
theorem dX5_column_54 : decode cX5_column 54 = .ok (.aload_n 0, 1) := by decide +kernel
theorem dX5_column_55 : decode cX5_column 55 = .ok (.getfield 20, 3) := by decide +kernel
theorem dX5_column_58 : decode cX5_column 58 = .ok (.iload_n 1, 1) := by decide +kernel
theorem dX5_column_59 : decode cX5_column 59 = .ok (.iload 4, 2) := by decide +kernel
theorem dX5_column_61 : decode cX5_column 61 = .ok (.iastore, 1) := by decide +kernel
theorem dX5_column_62 : decode cX5_column 62 = .ok (.aload_n 0, 1) := by decide +kernel
theorem dX5_column_63 : decode cX5_column 63 = .ok (.iload_n 1, 1) := by decide +kernel
theorem dX5_column_64 : decode cX5_column 64 = .ok (.invokevirtual 112, 3) := by decide +kernel
theorem dX5_column_67 : decode cX5_column 67 = .ok (.aload_n 0, 1) := by decide +kernel
theorem dX5_column_68 : decode cX5_column 68 = .ok (.iconst 0, 1) := by decide +kernel
theorem dX5_column_69 : decode cX5_column 69 = .ok (.putfield 116, 3) := by decide +kernel
theorem dX5_column_72 : decode cX5_column 72 = .ok (.iconst 1, 1) := by decide +kernel
theorem dX5_column_73 : decode cX5_column 73 = .ok (.ireturn, 1) := by decide +kernel
set_option maxRecDepth 20000 in
theorem ggX5_pace_X5_in : GoodIn wsX5_pace wsX5_in := goodIn_r _ [6] (by decide +kernel) (by decide +kernel)
set_option maxRecDepth 20000 in
theorem gX5_pace_X5_in : GoodIn wsX5_pace (va_wsS RX5 108 yX5_in wsX5_in) := goodIn_app (goodIn_of _ (by decide +kernel)) ggX5_pace_X5_in
theorem dX5_pace_0 : decode cX5_pace 0 = .ok (.iload_n 1, 1) := by decide +kernel
theorem dX5_pace_1 : decode cX5_pace 1 = .ok (.iconst 1, 1) := by decide +kernel
theorem dX5_pace_2 : decode cX5_pace 2 = .ok (.bipush 9, 2) := by decide +kernel
theorem dX5_pace_4 : decode cX5_pace 4 = .ok (.invokestatic 108, 3) := by decide +kernel
theorem dX5_pace_7 : decode cX5_pace 7 = .ok (.ifCond .ne 5, 3) := by decide +kernel
theorem dX5_pace_10 : decode cX5_pace 10 = .ok (.iconst 0, 1) := by decide +kernel
theorem dX5_pace_11 : decode cX5_pace 11 = .ok (.ireturn, 1) := by decide +kernel
theorem dX5_pace_12 : decode cX5_pace 12 = .ok (.aload_n 0, 1) := by decide +kernel
theorem dX5_pace_13 : decode cX5_pace 13 = .ok (.iload_n 1, 1) := by decide +kernel
theorem dX5_pace_14 : decode cX5_pace 14 = .ok (.putfield 23, 3) := by decide +kernel
theorem dX5_pace_17 : decode cX5_pace 17 = .ok (.aload_n 0, 1) := by decide +kernel
theorem dX5_pace_18 : decode cX5_pace 18 = .ok (.iconst 0, 1) := by decide +kernel
theorem dX5_pace_19 : decode cX5_pace 19 = .ok (.putfield 116, 3) := by decide +kernel
theorem dX5_pace_22 : decode cX5_pace 22 = .ok (.iconst 1, 1) := by decide +kernel
theorem dX5_pace_23 : decode cX5_pace 23 = .ok (.ireturn, 1) := by decide +kernel
set_option maxRecDepth 20000 in
theorem ggX5_card_X5_in : GoodIn wsX5_card wsX5_in := goodIn_r _ [12] (by decide +kernel) (by decide +kernel)
set_option maxRecDepth 20000 in
theorem gX5_card_X5_in : GoodIn wsX5_card (va_wsS RX5 108 yX5_in wsX5_in) := goodIn_app (goodIn_of _ (by decide +kernel)) ggX5_card_X5_in
theorem dX5_card_0 : decode cX5_card 0 = .ok (.iload_n 1, 1) := by decide +kernel
theorem dX5_card_1 : decode cX5_card 1 = .ok (.iconst 0, 1) := by decide +kernel
theorem dX5_card_2 : decode cX5_card 2 = .ok (.bipush 99, 2) := by decide +kernel
theorem dX5_card_4 : decode cX5_card 4 = .ok (.invokestatic 108, 3) := by decide +kernel
theorem dX5_card_7 : decode cX5_card 7 = .ok (.ifCond .eq 12, 3) := by decide +kernel
theorem dX5_card_10 : decode cX5_card 10 = .ok (.aload_n 0, 1) := by decide +kernel
theorem dX5_card_11 : decode cX5_card 11 = .ok (.getfield 105, 3) := by decide +kernel
theorem dX5_card_14 : decode cX5_card 14 = .ok (.bipush 16, 2) := by decide +kernel
theorem dX5_card_16 : decode cX5_card 16 = .ok (.if_icmp .ne 5, 3) := by decide +kernel
theorem dX5_card_19 : decode cX5_card 19 = .ok (.iconst (-1), 1) := by decide +kernel
theorem dX5_card_20 : decode cX5_card 20 = .ok (.ireturn, 1) := by decide +kernel
theorem dX5_card_21 : decode cX5_card 21 = .ok (.aload_n 0, 1) := by decide +kernel
theorem dX5_card_22 : decode cX5_card 22 = .ok (.getfield 38, 3) := by decide +kernel
theorem dX5_card_25 : decode cX5_card 25 = .ok (.aload_n 0, 1) := by decide +kernel
theorem dX5_card_26 : decode cX5_card 26 = .ok (.getfield 105, 3) := by decide +kernel
theorem dX5_card_29 : decode cX5_card 29 = .ok (.iload_n 1, 1) := by decide +kernel
theorem dX5_card_30 : decode cX5_card 30 = .ok (.iastore, 1) := by decide +kernel
theorem dX5_card_31 : decode cX5_card 31 = .ok (.aload_n 0, 1) := by decide +kernel
theorem dX5_card_32 : decode cX5_card 32 = .ok (.getfield 41, 3) := by decide +kernel
theorem dX5_card_35 : decode cX5_card 35 = .ok (.aload_n 0, 1) := by decide +kernel
theorem dX5_card_36 : decode cX5_card 36 = .ok (.getfield 105, 3) := by decide +kernel
theorem dX5_card_39 : decode cX5_card 39 = .ok (.iload_n 2, 1) := by decide +kernel
theorem dX5_card_40 : decode cX5_card 40 = .ok (.bastore, 1) := by decide +kernel
theorem dX5_card_41 : decode cX5_card 41 = .ok (.aload_n 0, 1) := by decide +kernel
theorem dX5_card_42 : decode cX5_card 42 = .ok (.getfield 48, 3) := by decide +kernel
theorem dX5_card_45 : decode cX5_card 45 = .ok (.aload_n 0, 1) := by decide +kernel
theorem dX5_card_46 : decode cX5_card 46 = .ok (.getfield 105, 3) := by decide +kernel
theorem dX5_card_49 : decode cX5_card 49 = .ok (.iconst (-1), 1) := by decide +kernel
theorem dX5_card_50 : decode cX5_card 50 = .ok (.iastore, 1) := by decide +kernel
theorem dX5_card_51 : decode cX5_card 51 = .ok (.aload_n 0, 1) := by decide +kernel
theorem dX5_card_52 : decode cX5_card 52 = .ok (.getfield 51, 3) := by decide +kernel
theorem dX5_card_55 : decode cX5_card 55 = .ok (.aload_n 0, 1) := by decide +kernel
theorem dX5_card_56 : decode cX5_card 56 = .ok (.getfield 105, 3) := by decide +kernel
theorem dX5_card_59 : decode cX5_card 59 = .ok (.iconst (-1), 1) := by decide +kernel
theorem dX5_card_60 : decode cX5_card 60 = .ok (.iastore, 1) := by decide +kernel
theorem dX5_card_61 : decode cX5_card 61 = .ok (.aload_n 0, 1) := by decide +kernel
theorem dX5_card_62 : decode cX5_card 62 = .ok (.getfield 54, 3) := by decide +kernel
theorem dX5_card_65 : decode cX5_card 65 = .ok (.aload_n 0, 1) := by decide +kernel
theorem dX5_card_66 : decode cX5_card 66 = .ok (.getfield 105, 3) := by decide +kernel
theorem dX5_card_69 : decode cX5_card 69 = .ok (.iconst (-1), 1) := by decide +kernel
theorem dX5_card_70 : decode cX5_card 70 = .ok (.iastore, 1) := by decide +kernel
theorem dX5_card_71 : decode cX5_card 71 = .ok (.iconst 0, 1) := by decide +kernel
theorem dX5_card_72 : decode cX5_card 72 = .ok (.istore_n 3, 1) := by decide +kernel
theorem dX5_card_73 : decode cX5_card 73 = .ok (.iload_n 3, 1) := by decide +kernel
theorem dX5_card_74 : decode cX5_card 74 = .ok (.iconst 4, 1) := by decide +kernel
theorem dX5_card_75 : decode cX5_card 75 = .ok (.if_icmp .ge 23, 3) := by decide +kernel
theorem dX5_card_78 : decode cX5_card 78 = .ok (.aload_n 0, 1) := by decide +kernel
theorem dX5_card_79 : decode cX5_card 79 = .ok (.getfield 45, 3) := by decide +kernel
theorem dX5_card_82 : decode cX5_card 82 = .ok (.iconst 4, 1) := by decide +kernel
theorem dX5_card_83 : decode cX5_card 83 = .ok (.aload_n 0, 1) := by decide +kernel
theorem dX5_card_84 : decode cX5_card 84 = .ok (.getfield 105, 3) := by decide +kernel
theorem dX5_card_87 : decode cX5_card 87 = .ok (.imul, 1) := by decide +kernel
theorem dX5_card_88 : decode cX5_card 88 = .ok (.iload_n 3, 1) := by decide +kernel
theorem dX5_card_89 : decode cX5_card 89 = .ok (.iadd, 1) := by decide +kernel
theorem dX5_card_90 : decode cX5_card 90 = .ok (.iconst 1, 1) := by decide +kernel
theorem dX5_card_91 : decode cX5_card 91 = .ok (.iastore, 1) := by decide +kernel
theorem dX5_card_92 : decode cX5_card 92 = .ok (.iinc 3 1, 3) := by decide +kernel
theorem dX5_card_95 : decode cX5_card 95 = .ok (.goto (-22), 3) := by decide +kernel
theorem dX5_card_98 : decode cX5_card 98 = .ok (.aload_n 0, 1) := by decide +kernel
theorem dX5_card_99 : decode cX5_card 99 = .ok (.dup, 1) := by decide +kernel
theorem dX5_card_100 : decode cX5_card 100 = .ok (.getfield 105, 3) := by decide +kernel
theorem dX5_card_103 : decode cX5_card 103 = .ok (.iconst 1, 1) := by decide +kernel
theorem dX5_card_104 : decode cX5_card 104 = .ok (.iadd, 1) := by decide +kernel
theorem dX5_card_105 : decode cX5_card 105 = .ok (.putfield 105, 3) := by decide +kernel
theorem dX5_card_108 : decode cX5_card 108 = .ok (.aload_n 0, 1) := by decide +kernel
theorem dX5_card_109 : decode cX5_card 109 = .ok (.iconst 0, 1) := by decide +kernel
theorem dX5_card_110 : decode cX5_card 110 = .ok (.putfield 116, 3) := by decide +kernel
theorem dX5_card_113 : decode cX5_card 113 = .ok (.aload_n 0, 1) := by decide +kernel
theorem dX5_card_114 : decode cX5_card 114 = .ok (.getfield 105, 3) := by decide +kernel
theorem dX5_card_117 : decode cX5_card 117 = .ok (.iconst 1, 1) := by decide +kernel
theorem dX5_card_118 : decode cX5_card 118 = .ok (.isub, 1) := by decide +kernel
theorem dX5_card_119 : decode cX5_card 119 = .ok (.ireturn, 1) := by decide +kernel
set_option maxRecDepth 20000 in
theorem ggX5_size_X5_isCard : GoodIn wsX5_size wsX5_isCard := goodIn_r _ [7, 8, 9, 10, 6, 11, 17, 18, 19, 20, 21, 22, 23, 24, 25, 26, 27, 28, 29, 30, 31, 32, 33, 34, 35, 36, 37, 38, 39, 40, 41, 42, 43, 44, 45, 46, 47, 48, 49, 50, 51, 52, 53, 54, 55, 56, 57, 58] (by decide +kernel) (by decide +kernel)
set_option maxRecDepth 20000 in
theorem gX5_size_X5_isCard : GoodIn wsX5_size (wsV RX5 124 RX5 yX5_isCard wsX5_isCard) := goodIn_app (goodIn_of _ (by decide +kernel)) ggX5_size_X5_isCard
set_option maxRecDepth 20000 in
theorem ggX5_size_X5_isColumn : GoodIn wsX5_size wsX5_isColumn := goodIn_r _ [15, 16, 9, 10, 6, 11, 17, 18, 19, 20, 21, 22, 23, 24, 25, 26, 27, 28, 29, 30, 31, 32, 33, 34, 35, 36, 37, 38, 39, 40, 41, 42, 43, 44, 45, 46, 47, 48, 49, 50, 51, 52, 53, 54, 55, 56, 57, 58] (by decide +kernel) (by decide +kernel)
set_option maxRecDepth 20000 in
theorem gX5_size_X5_isColumn : GoodIn wsX5_size (wsV RX5 120 RX5 yX5_isColumn wsX5_isColumn) := goodIn_app (goodIn_of _ (by decide +kernel)) ggX5_size_X5_isColumn
set_option maxRecDepth 20000 in
theorem ggX5_size_X5_in : GoodIn wsX5_size wsX5_in := goodIn_r _ [11] (by decide +kernel) (by decide +kernel)
set_option maxRecDepth 20000 in
theorem gX5_size_X5_in : GoodIn wsX5_size (va_wsS RX5 108 yX5_in wsX5_in) := goodIn_app (goodIn_of _ (by decide +kernel)) ggX5_size_X5_in
theorem dX5_size_0 : decode cX5_size 0 = .ok (.aload_n 0, 1) := by decide +kernel
theorem dX5_size_1 : decode cX5_size 1 = .ok (.iload_n 1, 1) := by decide +kernel
theorem dX5_size_2 : decode cX5_size 2 = .ok (.invokevirtual 124, 3) := by decide +kernel
theorem dX5_size_5 : decode cX5_size 5 = .ok (.ifCond .eq 21, 3) := by decide +kernel
theorem dX5_size_8 : decode cX5_size 8 = .ok (.aload_n 0, 1) := by decide +kernel
theorem dX5_size_9 : decode cX5_size 9 = .ok (.iload_n 2, 1) := by decide +kernel
theorem dX5_size_10 : decode cX5_size 10 = .ok (.invokevirtual 120, 3) := by decide +kernel
theorem dX5_size_13 : decode cX5_size 13 = .ok (.ifCond .eq 13, 3) := by decide +kernel
theorem dX5_size_16 : decode cX5_size 16 = .ok (.iload_n 3, 1) := by decide +kernel
theorem dX5_size_17 : decode cX5_size 17 = .ok (.iconst 0, 1) := by decide +kernel
theorem dX5_size_18 : decode cX5_size 18 = .ok (.bipush 9, 2) := by decide +kernel
theorem dX5_size_20 : decode cX5_size 20 = .ok (.invokestatic 108, 3) := by decide +kernel
theorem dX5_size_23 : decode cX5_size 23 = .ok (.ifCond .ne 5, 3) := by decide +kernel
theorem dX5_size_26 : decode cX5_size 26 = .ok (.iconst 0, 1) := by decide +kernel
theorem dX5_size_27 : decode cX5_size 27 = .ok (.ireturn, 1) := by decide +kernel
theorem dX5_size_28 : decode cX5_size 28 = .ok (.aload_n 0, 1) := by decide +kernel
theorem dX5_size_29 : decode cX5_size 29 = .ok (.getfield 45, 3) := by decide +kernel
theorem dX5_size_32 : decode cX5_size 32 = .ok (.iconst 4, 1) := by decide +kernel
theorem dX5_size_33 : decode cX5_size 33 = .ok (.iload_n 1, 1) := by decide +kernel
theorem dX5_size_34 : decode cX5_size 34 = .ok (.imul, 1) := by decide +kernel
theorem dX5_size_35 : decode cX5_size 35 = .ok (.iload_n 2, 1) := by decide +kernel
theorem dX5_size_36 : decode cX5_size 36 = .ok (.iadd, 1) := by decide +kernel
theorem dX5_size_37 : decode cX5_size 37 = .ok (.iload_n 3, 1) := by decide +kernel
theorem dX5_size_38 : decode cX5_size 38 = .ok (.iastore, 1) := by decide +kernel
theorem dX5_size_39 : decode cX5_size 39 = .ok (.aload_n 0, 1) := by decide +kernel
theorem dX5_size_40 : decode cX5_size 40 = .ok (.iconst 0, 1) := by decide +kernel
theorem dX5_size_41 : decode cX5_size 41 = .ok (.putfield 116, 3) := by decide +kernel
theorem dX5_size_44 : decode cX5_size 44 = .ok (.iconst 1, 1) := by decide +kernel
theorem dX5_size_45 : decode cX5_size 45 = .ok (.ireturn, 1) := by decide +kernel
set_option maxRecDepth 20000 in
theorem ggX5_waits_X5_isCard : GoodIn wsX5_waits wsX5_isCard := goodIn_r _ [7, 8, 9, 10, 6, 11, 12, 13, 14, 15, 16, 17, 18, 19, 20, 21, 22, 23, 24, 25, 26, 27, 28, 29, 30, 31, 32, 33, 34, 35, 36, 37, 38, 39, 40, 41, 42, 43, 44, 45, 46, 47, 48, 49, 50, 51, 52, 53] (by decide +kernel) (by decide +kernel)
set_option maxRecDepth 20000 in
theorem gX5_waits_X5_isCard : GoodIn wsX5_waits (wsV RX5 124 RX5 yX5_isCard wsX5_isCard) := goodIn_app (goodIn_of _ (by decide +kernel)) ggX5_waits_X5_isCard
set_option maxRecDepth 20000 in
theorem ggX5_waits_X5_in : GoodIn wsX5_waits wsX5_in := goodIn_r _ [11] (by decide +kernel) (by decide +kernel)
set_option maxRecDepth 20000 in
theorem gX5_waits_X5_in : GoodIn wsX5_waits (va_wsS RX5 108 yX5_in wsX5_in) := goodIn_app (goodIn_of _ (by decide +kernel)) ggX5_waits_X5_in
theorem dX5_waits_0 : decode cX5_waits 0 = .ok (.aload_n 0, 1) := by decide +kernel
theorem dX5_waits_1 : decode cX5_waits 1 = .ok (.iload_n 1, 1) := by decide +kernel
theorem dX5_waits_2 : decode cX5_waits 2 = .ok (.invokevirtual 124, 3) := by decide +kernel
theorem dX5_waits_5 : decode cX5_waits 5 = .ok (.ifCond .eq 14, 3) := by decide +kernel
theorem dX5_waits_8 : decode cX5_waits 8 = .ok (.iload_n 2, 1) := by decide +kernel
theorem dX5_waits_9 : decode cX5_waits 9 = .ok (.iconst (-1), 1) := by decide +kernel
theorem dX5_waits_10 : decode cX5_waits 10 = .ok (.iload_n 1, 1) := by decide +kernel
theorem dX5_waits_11 : decode cX5_waits 11 = .ok (.iconst 1, 1) := by decide +kernel
theorem dX5_waits_12 : decode cX5_waits 12 = .ok (.isub, 1) := by decide +kernel
theorem dX5_waits_13 : decode cX5_waits 13 = .ok (.invokestatic 108, 3) := by decide +kernel
theorem dX5_waits_16 : decode cX5_waits 16 = .ok (.ifCond .ne 5, 3) := by decide +kernel
theorem dX5_waits_19 : decode cX5_waits 19 = .ok (.iconst 0, 1) := by decide +kernel
theorem dX5_waits_20 : decode cX5_waits 20 = .ok (.ireturn, 1) := by decide +kernel
theorem dX5_waits_21 : decode cX5_waits 21 = .ok (.aload_n 0, 1) := by decide +kernel
theorem dX5_waits_22 : decode cX5_waits 22 = .ok (.getfield 48, 3) := by decide +kernel
theorem dX5_waits_25 : decode cX5_waits 25 = .ok (.iload_n 1, 1) := by decide +kernel
theorem dX5_waits_26 : decode cX5_waits 26 = .ok (.iload_n 2, 1) := by decide +kernel
theorem dX5_waits_27 : decode cX5_waits 27 = .ok (.iastore, 1) := by decide +kernel
theorem dX5_waits_28 : decode cX5_waits 28 = .ok (.aload_n 0, 1) := by decide +kernel
theorem dX5_waits_29 : decode cX5_waits 29 = .ok (.iconst 0, 1) := by decide +kernel
theorem dX5_waits_30 : decode cX5_waits 30 = .ok (.putfield 116, 3) := by decide +kernel
theorem dX5_waits_33 : decode cX5_waits 33 = .ok (.iconst 1, 1) := by decide +kernel
theorem dX5_waits_34 : decode cX5_waits 34 = .ok (.ireturn, 1) := by decide +kernel
set_option maxRecDepth 20000 in
theorem ggX5_back_X5_isCard : GoodIn wsX5_back wsX5_isCard := goodIn_r _ [8, 9, 10, 11, 7, 12, 18, 19, 20, 21, 22, 23, 24, 25, 26, 27, 28, 29, 30, 31, 32, 33, 34, 35, 36, 37, 38, 39, 40, 41, 42, 43, 44, 45, 46, 47, 48, 49, 50, 51, 52, 53, 54, 55, 56, 57, 58, 59] (by decide +kernel) (by decide +kernel)
set_option maxRecDepth 20000 in
theorem gX5_back_X5_isCard : GoodIn wsX5_back (wsV RX5 124 RX5 yX5_isCard wsX5_isCard) := goodIn_app (goodIn_of _ (by decide +kernel)) ggX5_back_X5_isCard
set_option maxRecDepth 20000 in
theorem ggX5_back_X5_isColumn : GoodIn wsX5_back wsX5_isColumn := goodIn_r _ [16, 17, 10, 11, 7, 12, 18, 19, 20, 21, 22, 23, 24, 25, 26, 27, 28, 29, 30, 31, 32, 33, 34, 35, 36, 37, 38, 39, 40, 41, 42, 43, 44, 45, 46, 47, 48, 49, 50, 51, 52, 53, 54, 55, 56, 57, 58, 59] (by decide +kernel) (by decide +kernel)
set_option maxRecDepth 20000 in
theorem gX5_back_X5_isColumn : GoodIn wsX5_back (wsV RX5 120 RX5 yX5_isColumn wsX5_isColumn) := goodIn_app (goodIn_of _ (by decide +kernel)) ggX5_back_X5_isColumn
set_option maxRecDepth 20000 in
theorem ggX5_back_X5_in : GoodIn wsX5_back wsX5_in := goodIn_r _ [12] (by decide +kernel) (by decide +kernel)
set_option maxRecDepth 20000 in
theorem gX5_back_X5_in : GoodIn wsX5_back (va_wsS RX5 108 yX5_in wsX5_in) := goodIn_app (goodIn_of _ (by decide +kernel)) ggX5_back_X5_in
theorem dX5_back_0 : decode cX5_back 0 = .ok (.aload_n 0, 1) := by decide +kernel
theorem dX5_back_1 : decode cX5_back 1 = .ok (.iload_n 1, 1) := by decide +kernel
theorem dX5_back_2 : decode cX5_back 2 = .ok (.invokevirtual 124, 3) := by decide +kernel
theorem dX5_back_5 : decode cX5_back 5 = .ok (.ifCond .eq 27, 3) := by decide +kernel
theorem dX5_back_8 : decode cX5_back 8 = .ok (.iload_n 2, 1) := by decide +kernel
theorem dX5_back_9 : decode cX5_back 9 = .ok (.iconst (-1), 1) := by decide +kernel
theorem dX5_back_10 : decode cX5_back 10 = .ok (.if_icmp .eq 24, 3) := by decide +kernel
theorem dX5_back_13 : decode cX5_back 13 = .ok (.aload_n 0, 1) := by decide +kernel
theorem dX5_back_14 : decode cX5_back 14 = .ok (.iload_n 2, 1) := by decide +kernel
theorem dX5_back_15 : decode cX5_back 15 = .ok (.invokevirtual 120, 3) := by decide +kernel
theorem dX5_back_18 : decode cX5_back 18 = .ok (.ifCond .eq 14, 3) := by decide +kernel
theorem dX5_back_21 : decode cX5_back 21 = .ok (.iload_n 3, 1) := by decide +kernel
theorem dX5_back_22 : decode cX5_back 22 = .ok (.iconst 0, 1) := by decide +kernel
theorem dX5_back_23 : decode cX5_back 23 = .ok (.iload_n 2, 1) := by decide +kernel
theorem dX5_back_24 : decode cX5_back 24 = .ok (.iconst 1, 1) := by decide +kernel
theorem dX5_back_25 : decode cX5_back 25 = .ok (.isub, 1) := by decide +kernel
theorem dX5_back_26 : decode cX5_back 26 = .ok (.invokestatic 108, 3) := by decide +kernel
theorem dX5_back_29 : decode cX5_back 29 = .ok (.ifCond .ne 5, 3) := by decide +kernel
theorem dX5_back_32 : decode cX5_back 32 = .ok (.iconst 0, 1) := by decide +kernel
theorem dX5_back_33 : decode cX5_back 33 = .ok (.ireturn, 1) := by decide +kernel
theorem dX5_back_34 : decode cX5_back 34 = .ok (.aload_n 0, 1) := by decide +kernel
theorem dX5_back_35 : decode cX5_back 35 = .ok (.getfield 51, 3) := by decide +kernel
theorem dX5_back_38 : decode cX5_back 38 = .ok (.iload_n 1, 1) := by decide +kernel
theorem dX5_back_39 : decode cX5_back 39 = .ok (.iload_n 2, 1) := by decide +kernel
theorem dX5_back_40 : decode cX5_back 40 = .ok (.iastore, 1) := by decide +kernel
theorem dX5_back_41 : decode cX5_back 41 = .ok (.aload_n 0, 1) := by decide +kernel
theorem dX5_back_42 : decode cX5_back 42 = .ok (.getfield 54, 3) := by decide +kernel
theorem dX5_back_45 : decode cX5_back 45 = .ok (.iload_n 1, 1) := by decide +kernel
theorem dX5_back_46 : decode cX5_back 46 = .ok (.iload_n 2, 1) := by decide +kernel
theorem dX5_back_47 : decode cX5_back 47 = .ok (.iconst (-1), 1) := by decide +kernel
theorem dX5_back_48 : decode cX5_back 48 = .ok (.if_icmp .ne 7, 3) := by decide +kernel
theorem dX5_back_51 : decode cX5_back 51 = .ok (.iconst (-1), 1) := by decide +kernel
theorem dX5_back_52 : decode cX5_back 52 = .ok (.goto 4, 3) := by decide +kernel
theorem dX5_back_55 : decode cX5_back 55 = .ok (.iload_n 3, 1) := by decide +kernel
theorem dX5_back_56 : decode cX5_back 56 = .ok (.iastore, 1) := by decide +kernel
theorem dX5_back_57 : decode cX5_back 57 = .ok (.aload_n 0, 1) := by decide +kernel
theorem dX5_back_58 : decode cX5_back 58 = .ok (.iconst 0, 1) := by decide +kernel
theorem dX5_back_59 : decode cX5_back 59 = .ok (.putfield 116, 3) := by decide +kernel
theorem dX5_back_62 : decode cX5_back 62 = .ok (.iconst 1, 1) := by decide +kernel
theorem dX5_back_63 : decode cX5_back 63 = .ok (.ireturn, 1) := by decide +kernel
set_option maxRecDepth 20000 in
theorem ggX5_other_X5_in : GoodIn wsX5_other wsX5_in := goodIn_r _ [8] (by decide +kernel) (by decide +kernel)
set_option maxRecDepth 20000 in
theorem gX5_other_X5_in : GoodIn wsX5_other (va_wsS RX5 108 yX5_in wsX5_in) := goodIn_app (goodIn_of _ (by decide +kernel)) ggX5_other_X5_in
set_option maxRecDepth 20000 in
theorem ggX5_other_X5_isColumn : GoodIn wsX5_other wsX5_isColumn := goodIn_r _ [12, 13, 5, 6, 7, 8, 14, 15, 16, 17, 18, 19, 20, 21, 22, 23, 24, 25, 26, 27, 28, 29, 30, 31, 32, 33, 34, 35, 36, 37, 38, 39, 40, 41, 42, 43, 44, 45, 46, 47, 48, 49, 50, 51, 52, 53, 54, 55] (by decide +kernel) (by decide +kernel)
set_option maxRecDepth 20000 in
theorem gX5_other_X5_isColumn : GoodIn wsX5_other (wsV RX5 120 RX5 yX5_isColumn wsX5_isColumn) := goodIn_app (goodIn_of _ (by decide +kernel)) ggX5_other_X5_isColumn
theorem dX5_other_0 : decode cX5_other 0 = .ok (.iload_n 1, 1) := by decide +kernel
theorem dX5_other_1 : decode cX5_other 1 = .ok (.iconst 0, 1) := by decide +kernel
theorem dX5_other_2 : decode cX5_other 2 = .ok (.iconst 3, 1) := by decide +kernel
theorem dX5_other_3 : decode cX5_other 3 = .ok (.invokestatic 108, 3) := by decide +kernel
theorem dX5_other_6 : decode cX5_other 6 = .ok (.ifCond .eq 16, 3) := by decide +kernel
theorem dX5_other_9 : decode cX5_other 9 = .ok (.iload_n 1, 1) := by decide +kernel
theorem dX5_other_10 : decode cX5_other 10 = .ok (.iconst 3, 1) := by decide +kernel
theorem dX5_other_11 : decode cX5_other 11 = .ok (.if_icmp .ge 13, 3) := by decide +kernel
theorem dX5_other_14 : decode cX5_other 14 = .ok (.aload_n 0, 1) := by decide +kernel
theorem dX5_other_15 : decode cX5_other 15 = .ok (.iload_n 2, 1) := by decide +kernel
theorem dX5_other_16 : decode cX5_other 16 = .ok (.invokevirtual 120, 3) := by decide +kernel
theorem dX5_other_19 : decode cX5_other 19 = .ok (.ifCond .ne 5, 3) := by decide +kernel
theorem dX5_other_22 : decode cX5_other 22 = .ok (.iconst 0, 1) := by decide +kernel
theorem dX5_other_23 : decode cX5_other 23 = .ok (.ireturn, 1) := by decide +kernel
theorem dX5_other_24 : decode cX5_other 24 = .ok (.iload_n 3, 1) := by decide +kernel
theorem dX5_other_25 : decode cX5_other 25 = .ok (.iconst (-1), 1) := by decide +kernel
theorem dX5_other_26 : decode cX5_other 26 = .ok (.if_icmp .eq 43, 3) := by decide +kernel
theorem dX5_other_29 : decode cX5_other 29 = .ok (.iload_n 3, 1) := by decide +kernel
theorem dX5_other_30 : decode cX5_other 30 = .ok (.iload_n 1, 1) := by decide +kernel
theorem dX5_other_31 : decode cX5_other 31 = .ok (.iconst 3, 1) := by decide +kernel
theorem dX5_other_32 : decode cX5_other 32 = .ok (.if_icmp .ne 7, 3) := by decide +kernel
theorem dX5_other_35 : decode cX5_other 35 = .ok (.iconst 1, 1) := by decide +kernel
theorem dX5_other_36 : decode cX5_other 36 = .ok (.goto 4, 3) := by decide +kernel
theorem dX5_other_39 : decode cX5_other 39 = .ok (.iconst 0, 1) := by decide +kernel
theorem dX5_other_40 : decode cX5_other 40 = .ok (.iload_n 1, 1) := by decide +kernel
theorem dX5_other_41 : decode cX5_other 41 = .ok (.iconst 1, 1) := by decide +kernel
theorem dX5_other_42 : decode cX5_other 42 = .ok (.if_icmp .ne 7, 3) := by decide +kernel
theorem dX5_other_45 : decode cX5_other 45 = .ok (.iconst 5, 1) := by decide +kernel
theorem dX5_other_46 : decode cX5_other 46 = .ok (.goto 15, 3) := by decide +kernel
theorem dX5_other_49 : decode cX5_other 49 = .ok (.iload_n 1, 1) := by decide +kernel
theorem dX5_other_50 : decode cX5_other 50 = .ok (.iconst 3, 1) := by decide +kernel
theorem dX5_other_51 : decode cX5_other 51 = .ok (.if_icmp .ne 8, 3) := by decide +kernel
theorem dX5_other_54 : decode cX5_other 54 = .ok (.bipush 9, 2) := by decide +kernel
theorem dX5_other_56 : decode cX5_other 56 = .ok (.goto 5, 3) := by decide +kernel
theorem dX5_other_59 : decode cX5_other 59 = .ok (.bipush 20, 2) := by decide +kernel
theorem dX5_other_61 : decode cX5_other 61 = .ok (.invokestatic 108, 3) := by decide +kernel
theorem dX5_other_64 : decode cX5_other 64 = .ok (.ifCond .ne 5, 3) := by decide +kernel
theorem dX5_other_67 : decode cX5_other 67 = .ok (.iconst 0, 1) := by decide +kernel
theorem dX5_other_68 : decode cX5_other 68 = .ok (.ireturn, 1) := by decide +kernel
theorem dX5_other_69 : decode cX5_other 69 = .ok (.iload_n 1, 1) := by decide +kernel
theorem dX5_other_70 : decode cX5_other 70 = .ok (.tableswitch 56 0 2 #[26, 36, 46], 26) := by decide +kernel
theorem dX5_other_96 : decode cX5_other 96 = .ok (.aload_n 0, 1) := by decide +kernel
theorem dX5_other_97 : decode cX5_other 97 = .ok (.getfield 26, 3) := by decide +kernel
theorem dX5_other_100 : decode cX5_other 100 = .ok (.iload_n 2, 1) := by decide +kernel
theorem dX5_other_101 : decode cX5_other 101 = .ok (.iload_n 3, 1) := by decide +kernel
theorem dX5_other_102 : decode cX5_other 102 = .ok (.iastore, 1) := by decide +kernel
theorem dX5_other_103 : decode cX5_other 103 = .ok (.goto 28, 3) := by decide +kernel
theorem dX5_other_106 : decode cX5_other 106 = .ok (.aload_n 0, 1) := by decide +kernel
theorem dX5_other_107 : decode cX5_other 107 = .ok (.getfield 29, 3) := by decide +kernel
theorem dX5_other_110 : decode cX5_other 110 = .ok (.iload_n 2, 1) := by decide +kernel
theorem dX5_other_111 : decode cX5_other 111 = .ok (.iload_n 3, 1) := by decide +kernel
theorem dX5_other_112 : decode cX5_other 112 = .ok (.iastore, 1) := by decide +kernel
theorem dX5_other_113 : decode cX5_other 113 = .ok (.goto 18, 3) := by decide +kernel
theorem dX5_other_116 : decode cX5_other 116 = .ok (.aload_n 0, 1) := by decide +kernel
theorem dX5_other_117 : decode cX5_other 117 = .ok (.getfield 32, 3) := by decide +kernel
theorem dX5_other_120 : decode cX5_other 120 = .ok (.iload_n 2, 1) := by decide +kernel
theorem dX5_other_121 : decode cX5_other 121 = .ok (.iload_n 3, 1) := by decide +kernel
theorem dX5_other_122 : decode cX5_other 122 = .ok (.iastore, 1) := by decide +kernel
theorem dX5_other_123 : decode cX5_other 123 = .ok (.goto 8, 3) := by decide +kernel
theorem dX5_other_126 : decode cX5_other 126 = .ok (.aload_n 0, 1) := by decide +kernel
theorem dX5_other_127 : decode cX5_other 127 = .ok (.iload_n 3, 1) := by decide +kernel
theorem dX5_other_128 : decode cX5_other 128 = .ok (.putfield 35, 3) := by decide +kernel
theorem dX5_other_131 : decode cX5_other 131 = .ok (.iconst 1, 1) := by decide +kernel
theorem dX5_other_132 : decode cX5_other 132 = .ok (.ireturn, 1) := by decide +kernel
theorem dX5_first_0 : decode cX5_first 0 = .ok (.iload_n 0, 1) := by decide +kernel
theorem dX5_first_1 : decode cX5_first 1 = .ok (.iconst (-1), 1) := by decide +kernel
theorem dX5_first_2 : decode cX5_first 2 = .ok (.if_icmp .ne 7, 3) := by decide +kernel
theorem dX5_first_5 : decode cX5_first 5 = .ok (.iload_n 1, 1) := by decide +kernel
theorem dX5_first_6 : decode cX5_first 6 = .ok (.goto 4, 3) := by decide +kernel
theorem dX5_first_9 : decode cX5_first 9 = .ok (.iload_n 0, 1) := by decide +kernel
theorem dX5_first_10 : decode cX5_first 10 = .ok (.ireturn, 1) := by decide +kernel
set_option maxRecDepth 20000 in
theorem ggX5_goesBy_X5_first : GoodIn wsX5_goesBy wsX5_first := goodIn_r _ [17] (by decide +kernel) (by decide +kernel)
set_option maxRecDepth 20000 in
theorem gX5_goesBy_X5_first : GoodIn wsX5_goesBy (va_wsS RX5 127 yX5_first wsX5_first) := goodIn_app (goodIn_of _ (by decide +kernel)) ggX5_goesBy_X5_first
theorem dX5_goesBy_0 : decode cX5_goesBy 0 = .ok (.iconst 0, 1) := by decide +kernel
theorem dX5_goesBy_1 : decode cX5_goesBy 1 = .ok (.istore_n 2, 1) := by decide +kernel
theorem dX5_goesBy_2 : decode cX5_goesBy 2 = .ok (.iload_n 2, 1) := by decide +kernel
theorem dX5_goesBy_3 : decode cX5_goesBy 3 = .ok (.iconst 4, 1) := by decide +kernel
theorem dX5_goesBy_4 : decode cX5_goesBy 4 = .ok (.if_icmp .ge 111, 3) := by decide +kernel
theorem dX5_goesBy_7 : decode cX5_goesBy 7 = .ok (.aload_n 0, 1) := by decide +kernel
theorem dX5_goesBy_8 : decode cX5_goesBy 8 = .ok (.getfield 57, 3) := by decide +kernel
theorem dX5_goesBy_11 : decode cX5_goesBy 11 = .ok (.iload_n 2, 1) := by decide +kernel
theorem dX5_goesBy_12 : decode cX5_goesBy 12 = .ok (.iload_n 1, 1) := by decide +kernel
theorem dX5_goesBy_13 : decode cX5_goesBy 13 = .ok (.ifCond .eq 21, 3) := by decide +kernel
theorem dX5_goesBy_16 : decode cX5_goesBy 16 = .ok (.aload_n 0, 1) := by decide +kernel
theorem dX5_goesBy_17 : decode cX5_goesBy 17 = .ok (.getfield 26, 3) := by decide +kernel
theorem dX5_goesBy_20 : decode cX5_goesBy 20 = .ok (.iload_n 2, 1) := by decide +kernel
theorem dX5_goesBy_21 : decode cX5_goesBy 21 = .ok (.iaload, 1) := by decide +kernel
theorem dX5_goesBy_22 : decode cX5_goesBy 22 = .ok (.aload_n 0, 1) := by decide +kernel
theorem dX5_goesBy_23 : decode cX5_goesBy 23 = .ok (.getfield 13, 3) := by decide +kernel
theorem dX5_goesBy_26 : decode cX5_goesBy 26 = .ok (.iload_n 2, 1) := by decide +kernel
theorem dX5_goesBy_27 : decode cX5_goesBy 27 = .ok (.iaload, 1) := by decide +kernel
theorem dX5_goesBy_28 : decode cX5_goesBy 28 = .ok (.invokestatic 127, 3) := by decide +kernel
theorem dX5_goesBy_31 : decode cX5_goesBy 31 = .ok (.goto 9, 3) := by decide +kernel
theorem dX5_goesBy_34 : decode cX5_goesBy 34 = .ok (.aload_n 0, 1) := by decide +kernel
theorem dX5_goesBy_35 : decode cX5_goesBy 35 = .ok (.getfield 13, 3) := by decide +kernel
theorem dX5_goesBy_38 : decode cX5_goesBy 38 = .ok (.iload_n 2, 1) := by decide +kernel
theorem dX5_goesBy_39 : decode cX5_goesBy 39 = .ok (.iaload, 1) := by decide +kernel
theorem dX5_goesBy_40 : decode cX5_goesBy 40 = .ok (.iastore, 1) := by decide +kernel
theorem dX5_goesBy_41 : decode cX5_goesBy 41 = .ok (.aload_n 0, 1) := by decide +kernel
theorem dX5_goesBy_42 : decode cX5_goesBy 42 = .ok (.getfield 60, 3) := by decide +kernel
theorem dX5_goesBy_45 : decode cX5_goesBy 45 = .ok (.iload_n 2, 1) := by decide +kernel
theorem dX5_goesBy_46 : decode cX5_goesBy 46 = .ok (.iload_n 1, 1) := by decide +kernel
theorem dX5_goesBy_47 : decode cX5_goesBy 47 = .ok (.ifCond .eq 21, 3) := by decide +kernel
theorem dX5_goesBy_50 : decode cX5_goesBy 50 = .ok (.aload_n 0, 1) := by decide +kernel
theorem dX5_goesBy_51 : decode cX5_goesBy 51 = .ok (.getfield 29, 3) := by decide +kernel
theorem dX5_goesBy_54 : decode cX5_goesBy 54 = .ok (.iload_n 2, 1) := by decide +kernel
theorem dX5_goesBy_55 : decode cX5_goesBy 55 = .ok (.iaload, 1) := by decide +kernel
theorem dX5_goesBy_56 : decode cX5_goesBy 56 = .ok (.aload_n 0, 1) := by decide +kernel
theorem dX5_goesBy_57 : decode cX5_goesBy 57 = .ok (.getfield 17, 3) := by decide +kernel
theorem dX5_goesBy_60 : decode cX5_goesBy 60 = .ok (.iload_n 2, 1) := by decide +kernel
theorem dX5_goesBy_61 : decode cX5_goesBy 61 = .ok (.iaload, 1) := by decide +kernel
theorem dX5_goesBy_62 : decode cX5_goesBy 62 = .ok (.invokestatic 127, 3) := by decide +kernel
theorem dX5_goesBy_65 : decode cX5_goesBy 65 = .ok (.goto 9, 3) := by decide +kernel
theorem dX5_goesBy_68 : decode cX5_goesBy 68 = .ok (.aload_n 0, 1) := by decide +kernel
theorem dX5_goesBy_69 : decode cX5_goesBy 69 = .ok (.getfield 17, 3) := by decide +kernel
theorem dX5_goesBy_72 : decode cX5_goesBy 72 = .ok (.iload_n 2, 1) := by decide +kernel
theorem dX5_goesBy_73 : decode cX5_goesBy 73 = .ok (.iaload, 1) := by decide +kernel
theorem dX5_goesBy_74 : decode cX5_goesBy 74 = .ok (.iastore, 1) := by decide +kernel
theorem dX5_goesBy_75 : decode cX5_goesBy 75 = .ok (.aload_n 0, 1) := by decide +kernel
theorem dX5_goesBy_76 : decode cX5_goesBy 76 = .ok (.getfield 63, 3) := by decide +kernel
theorem dX5_goesBy_79 : decode cX5_goesBy 79 = .ok (.iload_n 2, 1) := by decide +kernel
theorem dX5_goesBy_80 : decode cX5_goesBy 80 = .ok (.iload_n 1, 1) := by decide +kernel
theorem dX5_goesBy_81 : decode cX5_goesBy 81 = .ok (.ifCond .eq 21, 3) := by decide +kernel
theorem dX5_goesBy_84 : decode cX5_goesBy 84 = .ok (.aload_n 0, 1) := by decide +kernel
theorem dX5_goesBy_85 : decode cX5_goesBy 85 = .ok (.getfield 32, 3) := by decide +kernel
theorem dX5_goesBy_88 : decode cX5_goesBy 88 = .ok (.iload_n 2, 1) := by decide +kernel
theorem dX5_goesBy_89 : decode cX5_goesBy 89 = .ok (.iaload, 1) := by decide +kernel
theorem dX5_goesBy_90 : decode cX5_goesBy 90 = .ok (.aload_n 0, 1) := by decide +kernel
theorem dX5_goesBy_91 : decode cX5_goesBy 91 = .ok (.getfield 20, 3) := by decide +kernel
theorem dX5_goesBy_94 : decode cX5_goesBy 94 = .ok (.iload_n 2, 1) := by decide +kernel
theorem dX5_goesBy_95 : decode cX5_goesBy 95 = .ok (.iaload, 1) := by decide +kernel
theorem dX5_goesBy_96 : decode cX5_goesBy 96 = .ok (.invokestatic 127, 3) := by decide +kernel
theorem dX5_goesBy_99 : decode cX5_goesBy 99 = .ok (.goto 9, 3) := by decide +kernel
theorem dX5_goesBy_102 : decode cX5_goesBy 102 = .ok (.aload_n 0, 1) := by decide +kernel
theorem dX5_goesBy_103 : decode cX5_goesBy 103 = .ok (.getfield 20, 3) := by decide +kernel
theorem dX5_goesBy_106 : decode cX5_goesBy 106 = .ok (.iload_n 2, 1) := by decide +kernel
theorem dX5_goesBy_107 : decode cX5_goesBy 107 = .ok (.iaload, 1) := by decide +kernel
theorem dX5_goesBy_108 : decode cX5_goesBy 108 = .ok (.iastore, 1) := by decide +kernel
theorem dX5_goesBy_109 : decode cX5_goesBy 109 = .ok (.iinc 2 1, 3) := by decide +kernel
theorem dX5_goesBy_112 : decode cX5_goesBy 112 = .ok (.goto (-110), 3) := by decide +kernel
theorem dX5_goesBy_115 : decode cX5_goesBy 115 = .ok (.aload_n 0, 1) := by decide +kernel
theorem dX5_goesBy_116 : decode cX5_goesBy 116 = .ok (.iload_n 1, 1) := by decide +kernel
theorem dX5_goesBy_117 : decode cX5_goesBy 117 = .ok (.ifCond .eq 17, 3) := by decide +kernel
theorem dX5_goesBy_120 : decode cX5_goesBy 120 = .ok (.aload_n 0, 1) := by decide +kernel
theorem dX5_goesBy_121 : decode cX5_goesBy 121 = .ok (.getfield 35, 3) := by decide +kernel
theorem dX5_goesBy_124 : decode cX5_goesBy 124 = .ok (.aload_n 0, 1) := by decide +kernel
theorem dX5_goesBy_125 : decode cX5_goesBy 125 = .ok (.getfield 23, 3) := by decide +kernel
theorem dX5_goesBy_128 : decode cX5_goesBy 128 = .ok (.invokestatic 127, 3) := by decide +kernel
theorem dX5_goesBy_131 : decode cX5_goesBy 131 = .ok (.goto 7, 3) := by decide +kernel
theorem dX5_goesBy_134 : decode cX5_goesBy 134 = .ok (.aload_n 0, 1) := by decide +kernel
theorem dX5_goesBy_135 : decode cX5_goesBy 135 = .ok (.getfield 23, 3) := by decide +kernel
theorem dX5_goesBy_138 : decode cX5_goesBy 138 = .ok (.putfield 131, 3) := by decide +kernel
theorem dX5_goesBy_141 : decode cX5_goesBy 141 = .ok (.aload_n 0, 1) := by decide +kernel
theorem dX5_goesBy_142 : decode cX5_goesBy 142 = .ok (.iconst 0, 1) := by decide +kernel
theorem dX5_goesBy_143 : decode cX5_goesBy 143 = .ok (.putfield 134, 3) := by decide +kernel
theorem dX5_goesBy_146 : decode cX5_goesBy 146 = .ok (.return_, 1) := by decide +kernel
theorem dX5_isUrgentNow_0 : decode cX5_isUrgentNow 0 = .ok (.aload_n 0, 1) := by decide +kernel
theorem dX5_isUrgentNow_1 : decode cX5_isUrgentNow 1 = .ok (.getfield 41, 3) := by decide +kernel
theorem dX5_isUrgentNow_4 : decode cX5_isUrgentNow 4 = .ok (.iload_n 1, 1) := by decide +kernel
theorem dX5_isUrgentNow_5 : decode cX5_isUrgentNow 5 = .ok (.baload, 1) := by decide +kernel
theorem dX5_isUrgentNow_6 : decode cX5_isUrgentNow 6 = .ok (.ifCond .eq 14, 3) := by decide +kernel
theorem dX5_isUrgentNow_9 : decode cX5_isUrgentNow 9 = .ok (.aload_n 0, 1) := by decide +kernel
theorem dX5_isUrgentNow_10 : decode cX5_isUrgentNow 10 = .ok (.getfield 134, 3) := by decide +kernel
theorem dX5_isUrgentNow_13 : decode cX5_isUrgentNow 13 = .ok (.ifCond .ne 7, 3) := by decide +kernel
theorem dX5_isUrgentNow_16 : decode cX5_isUrgentNow 16 = .ok (.iconst 1, 1) := by decide +kernel
theorem dX5_isUrgentNow_17 : decode cX5_isUrgentNow 17 = .ok (.goto 4, 3) := by decide +kernel
theorem dX5_isUrgentNow_20 : decode cX5_isUrgentNow 20 = .ok (.iconst 0, 1) := by decide +kernel
theorem dX5_isUrgentNow_21 : decode cX5_isUrgentNow 21 = .ok (.ireturn, 1) := by decide +kernel
theorem dX5_begins_0 : decode cX5_begins 0 = .ok (.iconst 0, 1) := by decide +kernel
theorem dX5_begins_1 : decode cX5_begins 1 = .ok (.istore_n 1, 1) := by decide +kernel
theorem dX5_begins_2 : decode cX5_begins 2 = .ok (.iload_n 1, 1) := by decide +kernel
theorem dX5_begins_3 : decode cX5_begins 3 = .ok (.bipush 16, 2) := by decide +kernel
theorem dX5_begins_5 : decode cX5_begins 5 = .ok (.if_icmp .ge 58, 3) := by decide +kernel
theorem dX5_begins_8 : decode cX5_begins 8 = .ok (.aload_n 0, 1) := by decide +kernel
theorem dX5_begins_9 : decode cX5_begins 9 = .ok (.getfield 66, 3) := by decide +kernel
theorem dX5_begins_12 : decode cX5_begins 12 = .ok (.iload_n 1, 1) := by decide +kernel
theorem dX5_begins_13 : decode cX5_begins 13 = .ok (.iconst (-1), 1) := by decide +kernel
theorem dX5_begins_14 : decode cX5_begins 14 = .ok (.iastore, 1) := by decide +kernel
theorem dX5_begins_15 : decode cX5_begins 15 = .ok (.aload_n 0, 1) := by decide +kernel
theorem dX5_begins_16 : decode cX5_begins 16 = .ok (.getfield 69, 3) := by decide +kernel
theorem dX5_begins_19 : decode cX5_begins 19 = .ok (.iload_n 1, 1) := by decide +kernel
theorem dX5_begins_20 : decode cX5_begins 20 = .ok (.iconst 0, 1) := by decide +kernel
theorem dX5_begins_21 : decode cX5_begins 21 = .ok (.iastore, 1) := by decide +kernel
theorem dX5_begins_22 : decode cX5_begins 22 = .ok (.aload_n 0, 1) := by decide +kernel
theorem dX5_begins_23 : decode cX5_begins 23 = .ok (.getfield 72, 3) := by decide +kernel
theorem dX5_begins_26 : decode cX5_begins 26 = .ok (.iload_n 1, 1) := by decide +kernel
theorem dX5_begins_27 : decode cX5_begins 27 = .ok (.iconst 0, 1) := by decide +kernel
theorem dX5_begins_28 : decode cX5_begins 28 = .ok (.bastore, 1) := by decide +kernel
theorem dX5_begins_29 : decode cX5_begins 29 = .ok (.aload_n 0, 1) := by decide +kernel
theorem dX5_begins_30 : decode cX5_begins 30 = .ok (.getfield 75, 3) := by decide +kernel
theorem dX5_begins_33 : decode cX5_begins 33 = .ok (.iload_n 1, 1) := by decide +kernel
theorem dX5_begins_34 : decode cX5_begins 34 = .ok (.iconst 0, 1) := by decide +kernel
theorem dX5_begins_35 : decode cX5_begins 35 = .ok (.iastore, 1) := by decide +kernel
theorem dX5_begins_36 : decode cX5_begins 36 = .ok (.aload_n 0, 1) := by decide +kernel
theorem dX5_begins_37 : decode cX5_begins 37 = .ok (.getfield 81, 3) := by decide +kernel
theorem dX5_begins_40 : decode cX5_begins 40 = .ok (.iload_n 1, 1) := by decide +kernel
theorem dX5_begins_41 : decode cX5_begins 41 = .ok (.iconst 0, 1) := by decide +kernel
theorem dX5_begins_42 : decode cX5_begins 42 = .ok (.bastore, 1) := by decide +kernel
theorem dX5_begins_43 : decode cX5_begins 43 = .ok (.aload_n 0, 1) := by decide +kernel
theorem dX5_begins_44 : decode cX5_begins 44 = .ok (.getfield 84, 3) := by decide +kernel
theorem dX5_begins_47 : decode cX5_begins 47 = .ok (.iload_n 1, 1) := by decide +kernel
theorem dX5_begins_48 : decode cX5_begins 48 = .ok (.iconst (-1), 1) := by decide +kernel
theorem dX5_begins_49 : decode cX5_begins 49 = .ok (.iastore, 1) := by decide +kernel
theorem dX5_begins_50 : decode cX5_begins 50 = .ok (.aload_n 0, 1) := by decide +kernel
theorem dX5_begins_51 : decode cX5_begins 51 = .ok (.getfield 90, 3) := by decide +kernel
theorem dX5_begins_54 : decode cX5_begins 54 = .ok (.iload_n 1, 1) := by decide +kernel
theorem dX5_begins_55 : decode cX5_begins 55 = .ok (.iconst (-1), 1) := by decide +kernel
theorem dX5_begins_56 : decode cX5_begins 56 = .ok (.iastore, 1) := by decide +kernel
theorem dX5_begins_57 : decode cX5_begins 57 = .ok (.iinc 1 1, 3) := by decide +kernel
theorem dX5_begins_60 : decode cX5_begins 60 = .ok (.goto (-58), 3) := by decide +kernel
theorem dX5_begins_63 : decode cX5_begins 63 = .ok (.iconst 0, 1) := by decide +kernel
theorem dX5_begins_64 : decode cX5_begins 64 = .ok (.istore_n 1, 1) := by decide +kernel
theorem dX5_begins_65 : decode cX5_begins 65 = .ok (.iload_n 1, 1) := by decide +kernel
theorem dX5_begins_66 : decode cX5_begins 66 = .ok (.bipush 80, 2) := by decide +kernel
theorem dX5_begins_68 : decode cX5_begins 68 = .ok (.if_icmp .ge 16, 3) := by decide +kernel
theorem dX5_begins_71 : decode cX5_begins 71 = .ok (.aload_n 0, 1) := by decide +kernel
theorem dX5_begins_72 : decode cX5_begins 72 = .ok (.getfield 93, 3) := by decide +kernel
theorem dX5_begins_75 : decode cX5_begins 75 = .ok (.iload_n 1, 1) := by decide +kernel
theorem dX5_begins_76 : decode cX5_begins 76 = .ok (.iconst 0, 1) := by decide +kernel
theorem dX5_begins_77 : decode cX5_begins 77 = .ok (.iastore, 1) := by decide +kernel
theorem dX5_begins_78 : decode cX5_begins 78 = .ok (.iinc 1 1, 3) := by decide +kernel
theorem dX5_begins_81 : decode cX5_begins 81 = .ok (.goto (-16), 3) := by decide +kernel
theorem dX5_begins_84 : decode cX5_begins 84 = .ok (.aload_n 0, 1) := by decide +kernel
theorem dX5_begins_85 : decode cX5_begins 85 = .ok (.iconst 0, 1) := by decide +kernel
theorem dX5_begins_86 : decode cX5_begins 86 = .ok (.putfield 137, 3) := by decide +kernel
theorem dX5_begins_89 : decode cX5_begins 89 = .ok (.aload_n 0, 1) := by decide +kernel
theorem dX5_begins_90 : decode cX5_begins 90 = .ok (.iconst (-1), 1) := by decide +kernel
theorem dX5_begins_91 : decode cX5_begins 91 = .ok (.putfield 140, 3) := by decide +kernel
theorem dX5_begins_94 : decode cX5_begins 94 = .ok (.aload_n 0, 1) := by decide +kernel
theorem dX5_begins_95 : decode cX5_begins 95 = .ok (.iconst (-1), 1) := by decide +kernel
theorem dX5_begins_96 : decode cX5_begins 96 = .ok (.putfield 143, 3) := by decide +kernel
theorem dX5_begins_99 : decode cX5_begins 99 = .ok (.return_, 1) := by decide +kernel
theorem dX5_isWaiting_0 : decode cX5_isWaiting 0 = .ok (.aload_n 0, 1) := by decide +kernel
theorem dX5_isWaiting_1 : decode cX5_isWaiting 1 = .ok (.getfield 48, 3) := by decide +kernel
theorem dX5_isWaiting_4 : decode cX5_isWaiting 4 = .ok (.iload_n 1, 1) := by decide +kernel
theorem dX5_isWaiting_5 : decode cX5_isWaiting 5 = .ok (.iaload, 1) := by decide +kernel
theorem dX5_isWaiting_6 : decode cX5_isWaiting 6 = .ok (.ifCond .lt 21, 3) := by decide +kernel
theorem dX5_isWaiting_9 : decode cX5_isWaiting 9 = .ok (.aload_n 0, 1) := by decide +kernel
theorem dX5_isWaiting_10 : decode cX5_isWaiting 10 = .ok (.getfield 84, 3) := by decide +kernel
theorem dX5_isWaiting_13 : decode cX5_isWaiting 13 = .ok (.aload_n 0, 1) := by decide +kernel
theorem dX5_isWaiting_14 : decode cX5_isWaiting 14 = .ok (.getfield 48, 3) := by decide +kernel
theorem dX5_isWaiting_17 : decode cX5_isWaiting 17 = .ok (.iload_n 1, 1) := by decide +kernel
theorem dX5_isWaiting_18 : decode cX5_isWaiting 18 = .ok (.iaload, 1) := by decide +kernel
theorem dX5_isWaiting_19 : decode cX5_isWaiting 19 = .ok (.iaload, 1) := by decide +kernel
theorem dX5_isWaiting_20 : decode cX5_isWaiting 20 = .ok (.ifCond .ge 7, 3) := by decide +kernel
theorem dX5_isWaiting_23 : decode cX5_isWaiting 23 = .ok (.iconst 1, 1) := by decide +kernel
theorem dX5_isWaiting_24 : decode cX5_isWaiting 24 = .ok (.goto 4, 3) := by decide +kernel
theorem dX5_isWaiting_27 : decode cX5_isWaiting 27 = .ok (.iconst 0, 1) := by decide +kernel
theorem dX5_isWaiting_28 : decode cX5_isWaiting 28 = .ok (.ireturn, 1) := by decide +kernel
set_option maxRecDepth 20000 in
theorem ggX5_inColumn_X5_isUrgentNow : GoodIn wsX5_inColumn wsX5_isUrgentNow := goodIn_r _ [7, 8, 9, 10, 11, 12, 13, 14, 15, 16, 17, 18, 19, 20, 21, 22, 23, 24, 25, 26, 27, 28, 29, 30, 31, 32, 33, 34, 35, 36, 37, 38, 39, 40, 41, 42, 43, 44, 45, 46, 47, 48, 49, 50, 51] (by decide +kernel) (by decide +kernel)
set_option maxRecDepth 20000 in
theorem gX5_inColumn_X5_isUrgentNow : GoodIn wsX5_inColumn (wsV RX5 146 RX5 yX5_isUrgentNow wsX5_isUrgentNow) := goodIn_app (goodIn_of _ (by decide +kernel)) ggX5_inColumn_X5_isUrgentNow
theorem dX5_inColumn_0 : decode cX5_inColumn 0 = .ok (.iconst 0, 1) := by decide +kernel
theorem dX5_inColumn_1 : decode cX5_inColumn 1 = .ok (.istore_n 3, 1) := by decide +kernel
theorem dX5_inColumn_2 : decode cX5_inColumn 2 = .ok (.iconst 0, 1) := by decide +kernel
theorem dX5_inColumn_3 : decode cX5_inColumn 3 = .ok (.istore 4, 2) := by decide +kernel
theorem dX5_inColumn_5 : decode cX5_inColumn 5 = .ok (.iload 4, 2) := by decide +kernel
theorem dX5_inColumn_7 : decode cX5_inColumn 7 = .ok (.aload_n 0, 1) := by decide +kernel
theorem dX5_inColumn_8 : decode cX5_inColumn 8 = .ok (.getfield 105, 3) := by decide +kernel
theorem dX5_inColumn_11 : decode cX5_inColumn 11 = .ok (.if_icmp .ge 38, 3) := by decide +kernel
theorem dX5_inColumn_14 : decode cX5_inColumn 14 = .ok (.iload_n 3, 1) := by decide +kernel
theorem dX5_inColumn_15 : decode cX5_inColumn 15 = .ok (.aload_n 0, 1) := by decide +kernel
theorem dX5_inColumn_16 : decode cX5_inColumn 16 = .ok (.getfield 66, 3) := by decide +kernel
theorem dX5_inColumn_19 : decode cX5_inColumn 19 = .ok (.iload 4, 2) := by decide +kernel
theorem dX5_inColumn_21 : decode cX5_inColumn 21 = .ok (.iaload, 1) := by decide +kernel
theorem dX5_inColumn_22 : decode cX5_inColumn 22 = .ok (.iload_n 1, 1) := by decide +kernel
theorem dX5_inColumn_23 : decode cX5_inColumn 23 = .ok (.if_icmp .ne 17, 3) := by decide +kernel
theorem dX5_inColumn_26 : decode cX5_inColumn 26 = .ok (.aload_n 0, 1) := by decide +kernel
theorem dX5_inColumn_27 : decode cX5_inColumn 27 = .ok (.iload 4, 2) := by decide +kernel
theorem dX5_inColumn_29 : decode cX5_inColumn 29 = .ok (.invokevirtual 146, 3) := by decide +kernel
theorem dX5_inColumn_32 : decode cX5_inColumn 32 = .ok (.iload_n 2, 1) := by decide +kernel
theorem dX5_inColumn_33 : decode cX5_inColumn 33 = .ok (.if_icmp .ne 7, 3) := by decide +kernel
theorem dX5_inColumn_36 : decode cX5_inColumn 36 = .ok (.iconst 1, 1) := by decide +kernel
theorem dX5_inColumn_37 : decode cX5_inColumn 37 = .ok (.goto 4, 3) := by decide +kernel
theorem dX5_inColumn_40 : decode cX5_inColumn 40 = .ok (.iconst 0, 1) := by decide +kernel
theorem dX5_inColumn_41 : decode cX5_inColumn 41 = .ok (.iadd, 1) := by decide +kernel
theorem dX5_inColumn_42 : decode cX5_inColumn 42 = .ok (.istore_n 3, 1) := by decide +kernel
theorem dX5_inColumn_43 : decode cX5_inColumn 43 = .ok (.iinc 4 1, 3) := by decide +kernel
theorem dX5_inColumn_46 : decode cX5_inColumn 46 = .ok (.goto (-41), 3) := by decide +kernel
theorem dX5_inColumn_49 : decode cX5_inColumn 49 = .ok (.iload_n 3, 1) := by decide +kernel
theorem dX5_inColumn_50 : decode cX5_inColumn 50 = .ok (.ireturn, 1) := by decide +kernel
set_option maxRecDepth 20000 in
theorem ggX5_mayGo_X5_isWaiting : GoodIn wsX5_mayGo wsX5_isWaiting := goodIn_r _ [10, 11, 12, 27, 28, 29, 30, 31, 32, 33, 34, 35, 36, 37, 38, 39, 40, 41, 42, 43, 44, 45, 46, 47, 48, 49, 50, 51, 52, 53, 54, 55, 56, 57, 58, 59, 60, 61, 62, 63, 64, 65, 66, 67, 68] (by decide +kernel) (by decide +kernel)
set_option maxRecDepth 20000 in
theorem gX5_mayGo_X5_isWaiting : GoodIn wsX5_mayGo (wsV RX5 149 RX5 yX5_isWaiting wsX5_isWaiting) := goodIn_app (goodIn_of _ (by decide +kernel)) ggX5_mayGo_X5_isWaiting
set_option maxRecDepth 20000 in
theorem ggX5_mayGo_X5_in : GoodIn wsX5_mayGo wsX5_in := goodIn_r _ [15] (by decide +kernel) (by decide +kernel)
set_option maxRecDepth 20000 in
theorem gX5_mayGo_X5_in : GoodIn wsX5_mayGo (va_wsS RX5 108 yX5_in wsX5_in) := goodIn_app (goodIn_of _ (by decide +kernel)) ggX5_mayGo_X5_in
set_option maxRecDepth 20000 in
theorem ggX5_mayGo_X5_isUrgentNow : GoodIn wsX5_mayGo wsX5_isUrgentNow := goodIn_r _ [19, 20, 21, 27, 28, 29, 30, 31, 32, 33, 34, 35, 36, 37, 38, 39, 40, 41, 42, 43, 44, 45, 46, 47, 48, 49, 50, 51, 52, 53, 54, 55, 56, 57, 58, 59, 60, 61, 62, 63, 64, 65, 66, 67, 68] (by decide +kernel) (by decide +kernel)
set_option maxRecDepth 20000 in
theorem gX5_mayGo_X5_isUrgentNow : GoodIn wsX5_mayGo (wsV RX5 146 RX5 yX5_isUrgentNow wsX5_isUrgentNow) := goodIn_app (goodIn_of _ (by decide +kernel)) ggX5_mayGo_X5_isUrgentNow
set_option maxRecDepth 20000 in
theorem ggX5_mayGo_X5_inColumn : GoodIn wsX5_mayGo wsX5_inColumn := goodIn_r _ [25, 26, 1, 16, 17, 18, 9, 19, 20, 21, 27, 28, 29, 30, 31, 32, 33, 34, 35, 36, 37, 38, 39, 40, 41, 42, 43, 44, 45, 46, 47, 48, 49, 50, 51, 52, 53, 54, 55, 56, 57, 58, 59, 60, 61, 62, 63, 64, 65, 66, 67, 68] (by decide +kernel) (by decide +kernel)
set_option maxRecDepth 20000 in
theorem gX5_mayGo_X5_inColumn : GoodIn wsX5_mayGo (wsV RX5 152 RX5 yX5_inColumn wsX5_inColumn) := goodIn_app (goodIn_of _ (by decide +kernel)) ggX5_mayGo_X5_inColumn
theorem dX5_mayGo_0 : decode cX5_mayGo 0 = .ok (.aload_n 0, 1) := by decide +kernel
theorem dX5_mayGo_1 : decode cX5_mayGo 1 = .ok (.getfield 66, 3) := by decide +kernel
theorem dX5_mayGo_4 : decode cX5_mayGo 4 = .ok (.iload_n 1, 1) := by decide +kernel
theorem dX5_mayGo_5 : decode cX5_mayGo 5 = .ok (.iaload, 1) := by decide +kernel
theorem dX5_mayGo_6 : decode cX5_mayGo 6 = .ok (.bipush 11, 2) := by decide +kernel
theorem dX5_mayGo_8 : decode cX5_mayGo 8 = .ok (.if_icmp .ne 23, 3) := by decide +kernel
theorem dX5_mayGo_11 : decode cX5_mayGo 11 = .ok (.iload_n 2, 1) := by decide +kernel
theorem dX5_mayGo_12 : decode cX5_mayGo 12 = .ok (.ifCond .ne 15, 3) := by decide +kernel
theorem dX5_mayGo_15 : decode cX5_mayGo 15 = .ok (.aload_n 0, 1) := by decide +kernel
theorem dX5_mayGo_16 : decode cX5_mayGo 16 = .ok (.iload_n 1, 1) := by decide +kernel
theorem dX5_mayGo_17 : decode cX5_mayGo 17 = .ok (.invokevirtual 149, 3) := by decide +kernel
theorem dX5_mayGo_20 : decode cX5_mayGo 20 = .ok (.ifCond .ne 7, 3) := by decide +kernel
theorem dX5_mayGo_23 : decode cX5_mayGo 23 = .ok (.iconst 1, 1) := by decide +kernel
theorem dX5_mayGo_24 : decode cX5_mayGo 24 = .ok (.goto 45, 3) := by decide +kernel
theorem dX5_mayGo_27 : decode cX5_mayGo 27 = .ok (.iconst 0, 1) := by decide +kernel
theorem dX5_mayGo_28 : decode cX5_mayGo 28 = .ok (.goto 41, 3) := by decide +kernel
theorem dX5_mayGo_31 : decode cX5_mayGo 31 = .ok (.aload_n 0, 1) := by decide +kernel
theorem dX5_mayGo_32 : decode cX5_mayGo 32 = .ok (.getfield 66, 3) := by decide +kernel
theorem dX5_mayGo_35 : decode cX5_mayGo 35 = .ok (.iload_n 1, 1) := by decide +kernel
theorem dX5_mayGo_36 : decode cX5_mayGo 36 = .ok (.iaload, 1) := by decide +kernel
theorem dX5_mayGo_37 : decode cX5_mayGo 37 = .ok (.iconst 0, 1) := by decide +kernel
theorem dX5_mayGo_38 : decode cX5_mayGo 38 = .ok (.iconst 3, 1) := by decide +kernel
theorem dX5_mayGo_39 : decode cX5_mayGo 39 = .ok (.invokestatic 108, 3) := by decide +kernel
theorem dX5_mayGo_42 : decode cX5_mayGo 42 = .ok (.ifCond .eq 26, 3) := by decide +kernel
theorem dX5_mayGo_45 : decode cX5_mayGo 45 = .ok (.aload_n 0, 1) := by decide +kernel
theorem dX5_mayGo_46 : decode cX5_mayGo 46 = .ok (.getfield 72, 3) := by decide +kernel
theorem dX5_mayGo_49 : decode cX5_mayGo 49 = .ok (.iload_n 1, 1) := by decide +kernel
theorem dX5_mayGo_50 : decode cX5_mayGo 50 = .ok (.baload, 1) := by decide +kernel
theorem dX5_mayGo_51 : decode cX5_mayGo 51 = .ok (.ifCond .eq 17, 3) := by decide +kernel
theorem dX5_mayGo_54 : decode cX5_mayGo 54 = .ok (.aload_n 0, 1) := by decide +kernel
theorem dX5_mayGo_55 : decode cX5_mayGo 55 = .ok (.getfield 75, 3) := by decide +kernel
theorem dX5_mayGo_58 : decode cX5_mayGo 58 = .ok (.iload_n 1, 1) := by decide +kernel
theorem dX5_mayGo_59 : decode cX5_mayGo 59 = .ok (.iaload, 1) := by decide +kernel
theorem dX5_mayGo_60 : decode cX5_mayGo 60 = .ok (.iload_n 2, 1) := by decide +kernel
theorem dX5_mayGo_61 : decode cX5_mayGo 61 = .ok (.if_icmp .ne 7, 3) := by decide +kernel
theorem dX5_mayGo_64 : decode cX5_mayGo 64 = .ok (.iconst 1, 1) := by decide +kernel
theorem dX5_mayGo_65 : decode cX5_mayGo 65 = .ok (.goto 4, 3) := by decide +kernel
theorem dX5_mayGo_68 : decode cX5_mayGo 68 = .ok (.iconst 0, 1) := by decide +kernel
theorem dX5_mayGo_69 : decode cX5_mayGo 69 = .ok (.istore_n 3, 1) := by decide +kernel
theorem dX5_mayGo_70 : decode cX5_mayGo 70 = .ok (.iload_n 3, 1) := by decide +kernel
theorem dX5_mayGo_71 : decode cX5_mayGo 71 = .ok (.ifCond .eq 43, 3) := by decide +kernel
theorem dX5_mayGo_74 : decode cX5_mayGo 74 = .ok (.aload_n 0, 1) := by decide +kernel
theorem dX5_mayGo_75 : decode cX5_mayGo 75 = .ok (.iload_n 2, 1) := by decide +kernel
theorem dX5_mayGo_76 : decode cX5_mayGo 76 = .ok (.aload_n 0, 1) := by decide +kernel
theorem dX5_mayGo_77 : decode cX5_mayGo 77 = .ok (.iload_n 1, 1) := by decide +kernel
theorem dX5_mayGo_78 : decode cX5_mayGo 78 = .ok (.invokevirtual 146, 3) := by decide +kernel
theorem dX5_mayGo_81 : decode cX5_mayGo 81 = .ok (.invokevirtual 152, 3) := by decide +kernel
theorem dX5_mayGo_84 : decode cX5_mayGo 84 = .ok (.aload_n 0, 1) := by decide +kernel
theorem dX5_mayGo_85 : decode cX5_mayGo 85 = .ok (.iload_n 1, 1) := by decide +kernel
theorem dX5_mayGo_86 : decode cX5_mayGo 86 = .ok (.invokevirtual 146, 3) := by decide +kernel
theorem dX5_mayGo_89 : decode cX5_mayGo 89 = .ok (.ifCond .eq 12, 3) := by decide +kernel
theorem dX5_mayGo_92 : decode cX5_mayGo 92 = .ok (.aload_n 0, 1) := by decide +kernel
theorem dX5_mayGo_93 : decode cX5_mayGo 93 = .ok (.getfield 60, 3) := by decide +kernel
theorem dX5_mayGo_96 : decode cX5_mayGo 96 = .ok (.iload_n 2, 1) := by decide +kernel
theorem dX5_mayGo_97 : decode cX5_mayGo 97 = .ok (.iaload, 1) := by decide +kernel
theorem dX5_mayGo_98 : decode cX5_mayGo 98 = .ok (.goto 9, 3) := by decide +kernel
theorem dX5_mayGo_101 : decode cX5_mayGo 101 = .ok (.aload_n 0, 1) := by decide +kernel
theorem dX5_mayGo_102 : decode cX5_mayGo 102 = .ok (.getfield 57, 3) := by decide +kernel
theorem dX5_mayGo_105 : decode cX5_mayGo 105 = .ok (.iload_n 2, 1) := by decide +kernel
theorem dX5_mayGo_106 : decode cX5_mayGo 106 = .ok (.iaload, 1) := by decide +kernel
theorem dX5_mayGo_107 : decode cX5_mayGo 107 = .ok (.if_icmp .ge 7, 3) := by decide +kernel
theorem dX5_mayGo_110 : decode cX5_mayGo 110 = .ok (.iconst 1, 1) := by decide +kernel
theorem dX5_mayGo_111 : decode cX5_mayGo 111 = .ok (.goto 4, 3) := by decide +kernel
theorem dX5_mayGo_114 : decode cX5_mayGo 114 = .ok (.iconst 0, 1) := by decide +kernel
theorem dX5_mayGo_115 : decode cX5_mayGo 115 = .ok (.ireturn, 1) := by decide +kernel
set_option maxRecDepth 20000 in
theorem ggX5_isAhead_X5_isUrgentNow : GoodIn wsX5_isAhead wsX5_isUrgentNow := goodIn_r _ [6, 7, 8, 9, 10, 11, 12, 13, 14, 15, 16, 17, 18, 19, 20, 21, 22, 23, 24, 25, 26, 27, 28, 29, 30, 31, 32, 33, 34, 35, 36, 37, 38, 39, 40, 41, 42, 43, 44, 45, 46, 47, 48, 49, 50] (by decide +kernel) (by decide +kernel)
set_option maxRecDepth 20000 in
theorem gX5_isAhead_X5_isUrgentNow : GoodIn wsX5_isAhead (wsV RX5 146 RX5 yX5_isUrgentNow wsX5_isUrgentNow) := goodIn_app (goodIn_of _ (by decide +kernel)) ggX5_isAhead_X5_isUrgentNow
theorem dX5_isAhead_0 : decode cX5_isAhead 0 = .ok (.aload_n 0, 1) := by decide +kernel
theorem dX5_isAhead_1 : decode cX5_isAhead 1 = .ok (.iload_n 1, 1) := by decide +kernel
theorem dX5_isAhead_2 : decode cX5_isAhead 2 = .ok (.invokevirtual 146, 3) := by decide +kernel
theorem dX5_isAhead_5 : decode cX5_isAhead 5 = .ok (.aload_n 0, 1) := by decide +kernel
theorem dX5_isAhead_6 : decode cX5_isAhead 6 = .ok (.iload_n 2, 1) := by decide +kernel
theorem dX5_isAhead_7 : decode cX5_isAhead 7 = .ok (.invokevirtual 146, 3) := by decide +kernel
theorem dX5_isAhead_10 : decode cX5_isAhead 10 = .ok (.if_icmp .eq 9, 3) := by decide +kernel
theorem dX5_isAhead_13 : decode cX5_isAhead 13 = .ok (.aload_n 0, 1) := by decide +kernel
theorem dX5_isAhead_14 : decode cX5_isAhead 14 = .ok (.iload_n 1, 1) := by decide +kernel
theorem dX5_isAhead_15 : decode cX5_isAhead 15 = .ok (.invokevirtual 146, 3) := by decide +kernel
theorem dX5_isAhead_18 : decode cX5_isAhead 18 = .ok (.ireturn, 1) := by decide +kernel
theorem dX5_isAhead_19 : decode cX5_isAhead 19 = .ok (.aload_n 0, 1) := by decide +kernel
theorem dX5_isAhead_20 : decode cX5_isAhead 20 = .ok (.getfield 38, 3) := by decide +kernel
theorem dX5_isAhead_23 : decode cX5_isAhead 23 = .ok (.iload_n 1, 1) := by decide +kernel
theorem dX5_isAhead_24 : decode cX5_isAhead 24 = .ok (.iaload, 1) := by decide +kernel
theorem dX5_isAhead_25 : decode cX5_isAhead 25 = .ok (.aload_n 0, 1) := by decide +kernel
theorem dX5_isAhead_26 : decode cX5_isAhead 26 = .ok (.getfield 38, 3) := by decide +kernel
theorem dX5_isAhead_29 : decode cX5_isAhead 29 = .ok (.iload_n 2, 1) := by decide +kernel
theorem dX5_isAhead_30 : decode cX5_isAhead 30 = .ok (.iaload, 1) := by decide +kernel
theorem dX5_isAhead_31 : decode cX5_isAhead 31 = .ok (.if_icmp .ge 7, 3) := by decide +kernel
theorem dX5_isAhead_34 : decode cX5_isAhead 34 = .ok (.iconst 1, 1) := by decide +kernel
theorem dX5_isAhead_35 : decode cX5_isAhead 35 = .ok (.goto 4, 3) := by decide +kernel
theorem dX5_isAhead_38 : decode cX5_isAhead 38 = .ok (.iconst 0, 1) := by decide +kernel
theorem dX5_isAhead_39 : decode cX5_isAhead 39 = .ok (.ireturn, 1) := by decide +kernel
set_option maxRecDepth 20000 in
theorem ggX5_pull_X5_mayGo : GoodIn wsX5_pull wsX5_mayGo := goodIn_r _ [13, 2, 5, 14, 15, 16, 17, 18, 19, 12, 20, 21, 22, 23, 24, 25, 26, 27, 28, 29, 30, 31, 32, 33, 34, 35, 1, 41, 42, 43, 44, 45, 46, 47, 48, 49, 50, 51, 52, 53, 54, 55, 56, 57, 58, 59, 60, 61, 62, 63, 64, 65, 66, 67, 68, 69, 70, 71, 72, 73, 74, 75, 76, 77, 78, 79, 80, 81, 82] (by decide +kernel) (by decide +kernel)
set_option maxRecDepth 20000 in
theorem gX5_pull_X5_mayGo : GoodIn wsX5_pull (wsV RX5 156 RX5 yX5_mayGo wsX5_mayGo) := goodIn_app (goodIn_of _ (by decide +kernel)) ggX5_pull_X5_mayGo
set_option maxRecDepth 20000 in
theorem ggX5_pull_X5_isAhead : GoodIn wsX5_pull wsX5_isAhead := goodIn_r _ [39, 40, 26, 27, 28, 12, 29, 30, 31, 41, 42, 43, 44, 45, 46, 47, 48, 49, 50, 51, 52, 53, 54, 55, 56, 57, 58, 59, 60, 61, 62, 63, 64, 65, 66, 67, 68, 69, 70, 71, 72, 73, 74, 75, 76, 77, 78, 79, 80, 81, 82] (by decide +kernel) (by decide +kernel)
set_option maxRecDepth 20000 in
theorem gX5_pull_X5_isAhead : GoodIn wsX5_pull (wsV RX5 160 RX5 yX5_isAhead wsX5_isAhead) := goodIn_app (goodIn_of _ (by decide +kernel)) ggX5_pull_X5_isAhead
theorem dX5_pull_0 : decode cX5_pull 0 = .ok (.iconst 1, 1) := by decide +kernel
theorem dX5_pull_1 : decode cX5_pull 1 = .ok (.istore_n 2, 1) := by decide +kernel
theorem dX5_pull_2 : decode cX5_pull 2 = .ok (.iload_n 2, 1) := by decide +kernel
theorem dX5_pull_3 : decode cX5_pull 3 = .ok (.ifCond .eq 122, 3) := by decide +kernel
theorem dX5_pull_6 : decode cX5_pull 6 = .ok (.iconst (-1), 1) := by decide +kernel
theorem dX5_pull_7 : decode cX5_pull 7 = .ok (.istore_n 3, 1) := by decide +kernel
theorem dX5_pull_8 : decode cX5_pull 8 = .ok (.iconst 0, 1) := by decide +kernel
theorem dX5_pull_9 : decode cX5_pull 9 = .ok (.istore 4, 2) := by decide +kernel
theorem dX5_pull_11 : decode cX5_pull 11 = .ok (.iload 4, 2) := by decide +kernel
theorem dX5_pull_13 : decode cX5_pull 13 = .ok (.aload_n 0, 1) := by decide +kernel
theorem dX5_pull_14 : decode cX5_pull 14 = .ok (.getfield 105, 3) := by decide +kernel
theorem dX5_pull_17 : decode cX5_pull 17 = .ok (.if_icmp .ge 36, 3) := by decide +kernel
theorem dX5_pull_20 : decode cX5_pull 20 = .ok (.aload_n 0, 1) := by decide +kernel
theorem dX5_pull_21 : decode cX5_pull 21 = .ok (.iload 4, 2) := by decide +kernel
theorem dX5_pull_23 : decode cX5_pull 23 = .ok (.iload_n 1, 1) := by decide +kernel
theorem dX5_pull_24 : decode cX5_pull 24 = .ok (.invokevirtual 156, 3) := by decide +kernel
theorem dX5_pull_27 : decode cX5_pull 27 = .ok (.ifCond .eq 20, 3) := by decide +kernel
theorem dX5_pull_30 : decode cX5_pull 30 = .ok (.iload_n 3, 1) := by decide +kernel
theorem dX5_pull_31 : decode cX5_pull 31 = .ok (.ifCond .lt 13, 3) := by decide +kernel
theorem dX5_pull_34 : decode cX5_pull 34 = .ok (.aload_n 0, 1) := by decide +kernel
theorem dX5_pull_35 : decode cX5_pull 35 = .ok (.iload 4, 2) := by decide +kernel
theorem dX5_pull_37 : decode cX5_pull 37 = .ok (.iload_n 3, 1) := by decide +kernel
theorem dX5_pull_38 : decode cX5_pull 38 = .ok (.invokevirtual 160, 3) := by decide +kernel
theorem dX5_pull_41 : decode cX5_pull 41 = .ok (.ifCond .eq 6, 3) := by decide +kernel
theorem dX5_pull_44 : decode cX5_pull 44 = .ok (.iload 4, 2) := by decide +kernel
theorem dX5_pull_46 : decode cX5_pull 46 = .ok (.istore_n 3, 1) := by decide +kernel
theorem dX5_pull_47 : decode cX5_pull 47 = .ok (.iinc 4 1, 3) := by decide +kernel
theorem dX5_pull_50 : decode cX5_pull 50 = .ok (.goto (-39), 3) := by decide +kernel
theorem dX5_pull_53 : decode cX5_pull 53 = .ok (.iload_n 3, 1) := by decide +kernel
theorem dX5_pull_54 : decode cX5_pull 54 = .ok (.ifCond .lt 7, 3) := by decide +kernel
theorem dX5_pull_57 : decode cX5_pull 57 = .ok (.iconst 1, 1) := by decide +kernel
theorem dX5_pull_58 : decode cX5_pull 58 = .ok (.goto 4, 3) := by decide +kernel
theorem dX5_pull_61 : decode cX5_pull 61 = .ok (.iconst 0, 1) := by decide +kernel
theorem dX5_pull_62 : decode cX5_pull 62 = .ok (.istore_n 2, 1) := by decide +kernel
theorem dX5_pull_63 : decode cX5_pull 63 = .ok (.iload_n 2, 1) := by decide +kernel
theorem dX5_pull_64 : decode cX5_pull 64 = .ok (.ifCond .eq 58, 3) := by decide +kernel
theorem dX5_pull_67 : decode cX5_pull 67 = .ok (.aload_n 0, 1) := by decide +kernel
theorem dX5_pull_68 : decode cX5_pull 68 = .ok (.getfield 66, 3) := by decide +kernel
theorem dX5_pull_71 : decode cX5_pull 71 = .ok (.iload_n 3, 1) := by decide +kernel
theorem dX5_pull_72 : decode cX5_pull 72 = .ok (.iload_n 1, 1) := by decide +kernel
theorem dX5_pull_73 : decode cX5_pull 73 = .ok (.iastore, 1) := by decide +kernel
theorem dX5_pull_74 : decode cX5_pull 74 = .ok (.aload_n 0, 1) := by decide +kernel
theorem dX5_pull_75 : decode cX5_pull 75 = .ok (.getfield 69, 3) := by decide +kernel
theorem dX5_pull_78 : decode cX5_pull 78 = .ok (.iload_n 3, 1) := by decide +kernel
theorem dX5_pull_79 : decode cX5_pull 79 = .ok (.aload_n 0, 1) := by decide +kernel
theorem dX5_pull_80 : decode cX5_pull 80 = .ok (.getfield 45, 3) := by decide +kernel
theorem dX5_pull_83 : decode cX5_pull 83 = .ok (.iconst 4, 1) := by decide +kernel
theorem dX5_pull_84 : decode cX5_pull 84 = .ok (.iload_n 3, 1) := by decide +kernel
theorem dX5_pull_85 : decode cX5_pull 85 = .ok (.imul, 1) := by decide +kernel
theorem dX5_pull_86 : decode cX5_pull 86 = .ok (.iload_n 1, 1) := by decide +kernel
theorem dX5_pull_87 : decode cX5_pull 87 = .ok (.iadd, 1) := by decide +kernel
theorem dX5_pull_88 : decode cX5_pull 88 = .ok (.iaload, 1) := by decide +kernel
theorem dX5_pull_89 : decode cX5_pull 89 = .ok (.iastore, 1) := by decide +kernel
theorem dX5_pull_90 : decode cX5_pull 90 = .ok (.aload_n 0, 1) := by decide +kernel
theorem dX5_pull_91 : decode cX5_pull 91 = .ok (.getfield 72, 3) := by decide +kernel
theorem dX5_pull_94 : decode cX5_pull 94 = .ok (.iload_n 3, 1) := by decide +kernel
theorem dX5_pull_95 : decode cX5_pull 95 = .ok (.iconst 0, 1) := by decide +kernel
theorem dX5_pull_96 : decode cX5_pull 96 = .ok (.bastore, 1) := by decide +kernel
theorem dX5_pull_97 : decode cX5_pull 97 = .ok (.aload_n 0, 1) := by decide +kernel
theorem dX5_pull_98 : decode cX5_pull 98 = .ok (.getfield 78, 3) := by decide +kernel
theorem dX5_pull_101 : decode cX5_pull 101 = .ok (.iload_n 3, 1) := by decide +kernel
theorem dX5_pull_102 : decode cX5_pull 102 = .ok (.aload_n 0, 1) := by decide +kernel
theorem dX5_pull_103 : decode cX5_pull 103 = .ok (.getfield 137, 3) := by decide +kernel
theorem dX5_pull_106 : decode cX5_pull 106 = .ok (.iastore, 1) := by decide +kernel
theorem dX5_pull_107 : decode cX5_pull 107 = .ok (.aload_n 0, 1) := by decide +kernel
theorem dX5_pull_108 : decode cX5_pull 108 = .ok (.dup, 1) := by decide +kernel
theorem dX5_pull_109 : decode cX5_pull 109 = .ok (.getfield 137, 3) := by decide +kernel
theorem dX5_pull_112 : decode cX5_pull 112 = .ok (.iconst 1, 1) := by decide +kernel
theorem dX5_pull_113 : decode cX5_pull 113 = .ok (.iadd, 1) := by decide +kernel
theorem dX5_pull_114 : decode cX5_pull 114 = .ok (.putfield 137, 3) := by decide +kernel
theorem dX5_pull_117 : decode cX5_pull 117 = .ok (.aload_n 0, 1) := by decide +kernel
theorem dX5_pull_118 : decode cX5_pull 118 = .ok (.iconst 1, 1) := by decide +kernel
theorem dX5_pull_119 : decode cX5_pull 119 = .ok (.putfield 163, 3) := by decide +kernel
theorem dX5_pull_122 : decode cX5_pull 122 = .ok (.goto (-120), 3) := by decide +kernel
theorem dX5_pull_125 : decode cX5_pull 125 = .ok (.return_, 1) := by decide +kernel
set_option maxRecDepth 20000 in
theorem ggX5_nextWork_X5_isUrgentNow : GoodIn wsX5_nextWork wsX5_isUrgentNow := goodIn_r _ [9, 10, 11, 12, 13, 14, 15, 16, 17, 18, 19, 20, 21, 22, 23, 24, 25, 26, 27, 28, 29, 30, 31, 32, 33, 34, 35, 36, 37, 38, 39, 40, 41, 42, 43, 44, 45, 46, 47, 48, 49, 50, 51, 52, 53] (by decide +kernel) (by decide +kernel)
set_option maxRecDepth 20000 in
theorem gX5_nextWork_X5_isUrgentNow : GoodIn wsX5_nextWork (wsV RX5 146 RX5 yX5_isUrgentNow wsX5_isUrgentNow) := goodIn_app (goodIn_of _ (by decide +kernel)) ggX5_nextWork_X5_isUrgentNow
theorem dX5_nextWork_0 : decode cX5_nextWork 0 = .ok (.iconst (-1), 1) := by decide +kernel
theorem dX5_nextWork_1 : decode cX5_nextWork 1 = .ok (.istore 4, 2) := by decide +kernel
theorem dX5_nextWork_3 : decode cX5_nextWork 3 = .ok (.iconst 0, 1) := by decide +kernel
theorem dX5_nextWork_4 : decode cX5_nextWork 4 = .ok (.istore 5, 2) := by decide +kernel
theorem dX5_nextWork_6 : decode cX5_nextWork 6 = .ok (.iload 5, 2) := by decide +kernel
theorem dX5_nextWork_8 : decode cX5_nextWork 8 = .ok (.aload_n 0, 1) := by decide +kernel
theorem dX5_nextWork_9 : decode cX5_nextWork 9 = .ok (.getfield 105, 3) := by decide +kernel
theorem dX5_nextWork_12 : decode cX5_nextWork 12 = .ok (.if_icmp .ge 97, 3) := by decide +kernel
theorem dX5_nextWork_15 : decode cX5_nextWork 15 = .ok (.aload_n 0, 1) := by decide +kernel
theorem dX5_nextWork_16 : decode cX5_nextWork 16 = .ok (.getfield 66, 3) := by decide +kernel
theorem dX5_nextWork_19 : decode cX5_nextWork 19 = .ok (.iload 5, 2) := by decide +kernel
theorem dX5_nextWork_21 : decode cX5_nextWork 21 = .ok (.iaload, 1) := by decide +kernel
theorem dX5_nextWork_22 : decode cX5_nextWork 22 = .ok (.iload_n 1, 1) := by decide +kernel
theorem dX5_nextWork_23 : decode cX5_nextWork 23 = .ok (.if_icmp .ne 46, 3) := by decide +kernel
theorem dX5_nextWork_26 : decode cX5_nextWork 26 = .ok (.aload_n 0, 1) := by decide +kernel
theorem dX5_nextWork_27 : decode cX5_nextWork 27 = .ok (.getfield 72, 3) := by decide +kernel
theorem dX5_nextWork_30 : decode cX5_nextWork 30 = .ok (.iload 5, 2) := by decide +kernel
theorem dX5_nextWork_32 : decode cX5_nextWork 32 = .ok (.baload, 1) := by decide +kernel
theorem dX5_nextWork_33 : decode cX5_nextWork 33 = .ok (.ifCond .ne 36, 3) := by decide +kernel
theorem dX5_nextWork_36 : decode cX5_nextWork 36 = .ok (.aload_n 0, 1) := by decide +kernel
theorem dX5_nextWork_37 : decode cX5_nextWork 37 = .ok (.iload 5, 2) := by decide +kernel
theorem dX5_nextWork_39 : decode cX5_nextWork 39 = .ok (.invokevirtual 146, 3) := by decide +kernel
theorem dX5_nextWork_42 : decode cX5_nextWork 42 = .ok (.ifCond .eq 7, 3) := by decide +kernel
theorem dX5_nextWork_45 : decode cX5_nextWork 45 = .ok (.iconst 1, 1) := by decide +kernel
theorem dX5_nextWork_46 : decode cX5_nextWork 46 = .ok (.goto 4, 3) := by decide +kernel
theorem dX5_nextWork_49 : decode cX5_nextWork 49 = .ok (.iconst 0, 1) := by decide +kernel
theorem dX5_nextWork_50 : decode cX5_nextWork 50 = .ok (.iload_n 2, 1) := by decide +kernel
theorem dX5_nextWork_51 : decode cX5_nextWork 51 = .ok (.if_icmp .ne 18, 3) := by decide +kernel
theorem dX5_nextWork_54 : decode cX5_nextWork 54 = .ok (.aload_n 0, 1) := by decide +kernel
theorem dX5_nextWork_55 : decode cX5_nextWork 55 = .ok (.getfield 78, 3) := by decide +kernel
theorem dX5_nextWork_58 : decode cX5_nextWork 58 = .ok (.iload 5, 2) := by decide +kernel
theorem dX5_nextWork_60 : decode cX5_nextWork 60 = .ok (.iaload, 1) := by decide +kernel
theorem dX5_nextWork_61 : decode cX5_nextWork 61 = .ok (.iload_n 3, 1) := by decide +kernel
theorem dX5_nextWork_62 : decode cX5_nextWork 62 = .ok (.if_icmp .le 7, 3) := by decide +kernel
theorem dX5_nextWork_65 : decode cX5_nextWork 65 = .ok (.iconst 1, 1) := by decide +kernel
theorem dX5_nextWork_66 : decode cX5_nextWork 66 = .ok (.goto 4, 3) := by decide +kernel
theorem dX5_nextWork_69 : decode cX5_nextWork 69 = .ok (.iconst 0, 1) := by decide +kernel
theorem dX5_nextWork_70 : decode cX5_nextWork 70 = .ok (.istore 6, 2) := by decide +kernel
theorem dX5_nextWork_72 : decode cX5_nextWork 72 = .ok (.iload 6, 2) := by decide +kernel
theorem dX5_nextWork_74 : decode cX5_nextWork 74 = .ok (.ifCond .eq 29, 3) := by decide +kernel
theorem dX5_nextWork_77 : decode cX5_nextWork 77 = .ok (.iload 4, 2) := by decide +kernel
theorem dX5_nextWork_79 : decode cX5_nextWork 79 = .ok (.ifCond .lt 20, 3) := by decide +kernel
theorem dX5_nextWork_82 : decode cX5_nextWork 82 = .ok (.aload_n 0, 1) := by decide +kernel
theorem dX5_nextWork_83 : decode cX5_nextWork 83 = .ok (.getfield 78, 3) := by decide +kernel
theorem dX5_nextWork_86 : decode cX5_nextWork 86 = .ok (.iload 5, 2) := by decide +kernel
theorem dX5_nextWork_88 : decode cX5_nextWork 88 = .ok (.iaload, 1) := by decide +kernel
theorem dX5_nextWork_89 : decode cX5_nextWork 89 = .ok (.aload_n 0, 1) := by decide +kernel
theorem dX5_nextWork_90 : decode cX5_nextWork 90 = .ok (.getfield 78, 3) := by decide +kernel
theorem dX5_nextWork_93 : decode cX5_nextWork 93 = .ok (.iload 4, 2) := by decide +kernel
theorem dX5_nextWork_95 : decode cX5_nextWork 95 = .ok (.iaload, 1) := by decide +kernel
theorem dX5_nextWork_96 : decode cX5_nextWork 96 = .ok (.if_icmp .ge 7, 3) := by decide +kernel
theorem dX5_nextWork_99 : decode cX5_nextWork 99 = .ok (.iload 5, 2) := by decide +kernel
theorem dX5_nextWork_101 : decode cX5_nextWork 101 = .ok (.istore 4, 2) := by decide +kernel
theorem dX5_nextWork_103 : decode cX5_nextWork 103 = .ok (.iinc 5 1, 3) := by decide +kernel
theorem dX5_nextWork_106 : decode cX5_nextWork 106 = .ok (.goto (-100), 3) := by decide +kernel
theorem dX5_nextWork_109 : decode cX5_nextWork 109 = .ok (.iload 4, 2) := by decide +kernel
theorem dX5_nextWork_111 : decode cX5_nextWork 111 = .ok (.ireturn, 1) := by decide +kernel
set_option maxRecDepth 20000 in
theorem ggX5_work_X5_nextWork : GoodIn wsX5_work wsX5_nextWork := goodIn_r _ [10, 11, 12, 13, 2, 14, 15, 16, 9, 17, 18, 19, 30, 31, 32, 33, 34, 35, 36, 37, 38, 39, 40, 41, 42, 43, 44, 45, 46, 47, 48, 49, 50, 51, 52, 53, 54, 55, 56, 57, 58, 59, 60, 61, 62, 63, 64, 65, 66, 67, 68, 69, 70, 71] (by decide +kernel) (by decide +kernel)
set_option maxRecDepth 20000 in
theorem gX5_work_X5_nextWork : GoodIn wsX5_work (wsV RX5 166 RX5 yX5_nextWork wsX5_nextWork) := goodIn_app (goodIn_of _ (by decide +kernel)) ggX5_work_X5_nextWork
set_option maxRecDepth 20000 in
theorem ggX5_work_X5_through : GoodIn wsX5_work wsX5_through := goodIn_r _ [23, 5, 13, 24, 25, 26, 27, 28, 12, 29, 30, 31, 32, 33, 34, 35, 36, 37, 38, 39, 40, 41, 42, 43, 44, 45, 46, 47, 48, 49, 50, 51, 52, 53, 54, 55, 56, 57, 58, 59, 60, 61, 62, 63, 64, 65, 66, 67, 68, 69, 70, 71] (by decide +kernel) (by decide +kernel)
set_option maxRecDepth 20000 in
theorem gX5_work_X5_through : GoodIn wsX5_work (wsV RX5 170 RX5 yX5_through wsX5_through) := goodIn_app (goodIn_of _ (by decide +kernel)) ggX5_work_X5_through
theorem dX5_work_0 : decode cX5_work 0 = .ok (.aload_n 0, 1) := by decide +kernel
theorem dX5_work_1 : decode cX5_work 1 = .ok (.getfield 63, 3) := by decide +kernel
theorem dX5_work_4 : decode cX5_work 4 = .ok (.iload_n 1, 1) := by decide +kernel
theorem dX5_work_5 : decode cX5_work 5 = .ok (.iaload, 1) := by decide +kernel
theorem dX5_work_6 : decode cX5_work 6 = .ok (.istore_n 3, 1) := by decide +kernel
theorem dX5_work_7 : decode cX5_work 7 = .ok (.iconst 1, 1) := by decide +kernel
theorem dX5_work_8 : decode cX5_work 8 = .ok (.istore 4, 2) := by decide +kernel
theorem dX5_work_10 : decode cX5_work 10 = .ok (.iload 4, 2) := by decide +kernel
theorem dX5_work_12 : decode cX5_work 12 = .ok (.ifCond .lt 139, 3) := by decide +kernel
theorem dX5_work_15 : decode cX5_work 15 = .ok (.aload_n 0, 1) := by decide +kernel
theorem dX5_work_16 : decode cX5_work 16 = .ok (.iload_n 1, 1) := by decide +kernel
theorem dX5_work_17 : decode cX5_work 17 = .ok (.iload 4, 2) := by decide +kernel
theorem dX5_work_19 : decode cX5_work 19 = .ok (.iconst (-1), 1) := by decide +kernel
theorem dX5_work_20 : decode cX5_work 20 = .ok (.invokevirtual 166, 3) := by decide +kernel
theorem dX5_work_23 : decode cX5_work 23 = .ok (.istore 5, 2) := by decide +kernel
theorem dX5_work_25 : decode cX5_work 25 = .ok (.iload 5, 2) := by decide +kernel
theorem dX5_work_27 : decode cX5_work 27 = .ok (.ifCond .lt 118, 3) := by decide +kernel
theorem dX5_work_30 : decode cX5_work 30 = .ok (.aload_n 0, 1) := by decide +kernel
theorem dX5_work_31 : decode cX5_work 31 = .ok (.getfield 78, 3) := by decide +kernel
theorem dX5_work_34 : decode cX5_work 34 = .ok (.iload 5, 2) := by decide +kernel
theorem dX5_work_36 : decode cX5_work 36 = .ok (.iaload, 1) := by decide +kernel
theorem dX5_work_37 : decode cX5_work 37 = .ok (.istore 6, 2) := by decide +kernel
theorem dX5_work_39 : decode cX5_work 39 = .ok (.aload_n 0, 1) := by decide +kernel
theorem dX5_work_40 : decode cX5_work 40 = .ok (.getfield 69, 3) := by decide +kernel
theorem dX5_work_43 : decode cX5_work 43 = .ok (.iload 5, 2) := by decide +kernel
theorem dX5_work_45 : decode cX5_work 45 = .ok (.iaload, 1) := by decide +kernel
theorem dX5_work_46 : decode cX5_work 46 = .ok (.iload_n 3, 1) := by decide +kernel
theorem dX5_work_47 : decode cX5_work 47 = .ok (.if_icmp .ge 13, 3) := by decide +kernel
theorem dX5_work_50 : decode cX5_work 50 = .ok (.aload_n 0, 1) := by decide +kernel
theorem dX5_work_51 : decode cX5_work 51 = .ok (.getfield 69, 3) := by decide +kernel
theorem dX5_work_54 : decode cX5_work 54 = .ok (.iload 5, 2) := by decide +kernel
theorem dX5_work_56 : decode cX5_work 56 = .ok (.iaload, 1) := by decide +kernel
theorem dX5_work_57 : decode cX5_work 57 = .ok (.goto 4, 3) := by decide +kernel
theorem dX5_work_60 : decode cX5_work 60 = .ok (.iload_n 3, 1) := by decide +kernel
theorem dX5_work_61 : decode cX5_work 61 = .ok (.istore 7, 2) := by decide +kernel
theorem dX5_work_63 : decode cX5_work 63 = .ok (.iload 7, 2) := by decide +kernel
theorem dX5_work_65 : decode cX5_work 65 = .ok (.aload_n 0, 1) := by decide +kernel
theorem dX5_work_66 : decode cX5_work 66 = .ok (.getfield 131, 3) := by decide +kernel
theorem dX5_work_69 : decode cX5_work 69 = .ok (.if_icmp .ge 8, 3) := by decide +kernel
theorem dX5_work_72 : decode cX5_work 72 = .ok (.iload 7, 2) := by decide +kernel
theorem dX5_work_74 : decode cX5_work 74 = .ok (.goto 7, 3) := by decide +kernel
theorem dX5_work_77 : decode cX5_work 77 = .ok (.aload_n 0, 1) := by decide +kernel
theorem dX5_work_78 : decode cX5_work 78 = .ok (.getfield 131, 3) := by decide +kernel
theorem dX5_work_81 : decode cX5_work 81 = .ok (.istore 7, 2) := by decide +kernel
theorem dX5_work_83 : decode cX5_work 83 = .ok (.aload_n 0, 1) := by decide +kernel
theorem dX5_work_84 : decode cX5_work 84 = .ok (.getfield 69, 3) := by decide +kernel
theorem dX5_work_87 : decode cX5_work 87 = .ok (.iload 5, 2) := by decide +kernel
theorem dX5_work_89 : decode cX5_work 89 = .ok (.dup2, 1) := by decide +kernel
theorem dX5_work_90 : decode cX5_work 90 = .ok (.iaload, 1) := by decide +kernel
theorem dX5_work_91 : decode cX5_work 91 = .ok (.iload 7, 2) := by decide +kernel
theorem dX5_work_93 : decode cX5_work 93 = .ok (.isub, 1) := by decide +kernel
theorem dX5_work_94 : decode cX5_work 94 = .ok (.iastore, 1) := by decide +kernel
theorem dX5_work_95 : decode cX5_work 95 = .ok (.iload_n 3, 1) := by decide +kernel
theorem dX5_work_96 : decode cX5_work 96 = .ok (.iload 7, 2) := by decide +kernel
theorem dX5_work_98 : decode cX5_work 98 = .ok (.isub, 1) := by decide +kernel
theorem dX5_work_99 : decode cX5_work 99 = .ok (.istore_n 3, 1) := by decide +kernel
theorem dX5_work_100 : decode cX5_work 100 = .ok (.iload 7, 2) := by decide +kernel
theorem dX5_work_102 : decode cX5_work 102 = .ok (.ifCond .le 11, 3) := by decide +kernel
theorem dX5_work_105 : decode cX5_work 105 = .ok (.aload_n 0, 1) := by decide +kernel
theorem dX5_work_106 : decode cX5_work 106 = .ok (.getfield 87, 3) := by decide +kernel
theorem dX5_work_109 : decode cX5_work 109 = .ok (.iload 5, 2) := by decide +kernel
theorem dX5_work_111 : decode cX5_work 111 = .ok (.iconst 1, 1) := by decide +kernel
theorem dX5_work_112 : decode cX5_work 112 = .ok (.bastore, 1) := by decide +kernel
theorem dX5_work_113 : decode cX5_work 113 = .ok (.aload_n 0, 1) := by decide +kernel
theorem dX5_work_114 : decode cX5_work 114 = .ok (.getfield 69, 3) := by decide +kernel
theorem dX5_work_117 : decode cX5_work 117 = .ok (.iload 5, 2) := by decide +kernel
theorem dX5_work_119 : decode cX5_work 119 = .ok (.iaload, 1) := by decide +kernel
theorem dX5_work_120 : decode cX5_work 120 = .ok (.ifCond .ne 11, 3) := by decide +kernel
theorem dX5_work_123 : decode cX5_work 123 = .ok (.aload_n 0, 1) := by decide +kernel
theorem dX5_work_124 : decode cX5_work 124 = .ok (.iload 5, 2) := by decide +kernel
theorem dX5_work_126 : decode cX5_work 126 = .ok (.iload_n 1, 1) := by decide +kernel
theorem dX5_work_127 : decode cX5_work 127 = .ok (.iload_n 2, 1) := by decide +kernel
theorem dX5_work_128 : decode cX5_work 128 = .ok (.invokevirtual 170, 3) := by decide +kernel
theorem dX5_work_131 : decode cX5_work 131 = .ok (.aload_n 0, 1) := by decide +kernel
theorem dX5_work_132 : decode cX5_work 132 = .ok (.iload_n 1, 1) := by decide +kernel
theorem dX5_work_133 : decode cX5_work 133 = .ok (.iload 4, 2) := by decide +kernel
theorem dX5_work_135 : decode cX5_work 135 = .ok (.iload 6, 2) := by decide +kernel
theorem dX5_work_137 : decode cX5_work 137 = .ok (.invokevirtual 166, 3) := by decide +kernel
theorem dX5_work_140 : decode cX5_work 140 = .ok (.istore 5, 2) := by decide +kernel
theorem dX5_work_142 : decode cX5_work 142 = .ok (.goto (-117), 3) := by decide +kernel
theorem dX5_work_145 : decode cX5_work 145 = .ok (.iinc 4 (-1), 3) := by decide +kernel
theorem dX5_work_148 : decode cX5_work 148 = .ok (.goto (-138), 3) := by decide +kernel
theorem dX5_work_151 : decode cX5_work 151 = .ok (.return_, 1) := by decide +kernel
theorem dX5_through_0 : decode cX5_through 0 = .ok (.aload_n 0, 1) := by decide +kernel
theorem dX5_through_1 : decode cX5_through 1 = .ok (.getfield 87, 3) := by decide +kernel
theorem dX5_through_4 : decode cX5_through 4 = .ok (.iload_n 1, 1) := by decide +kernel
theorem dX5_through_5 : decode cX5_through 5 = .ok (.iconst 1, 1) := by decide +kernel
theorem dX5_through_6 : decode cX5_through 6 = .ok (.bastore, 1) := by decide +kernel
theorem dX5_through_7 : decode cX5_through 7 = .ok (.aload_n 0, 1) := by decide +kernel
theorem dX5_through_8 : decode cX5_through 8 = .ok (.getfield 72, 3) := by decide +kernel
theorem dX5_through_11 : decode cX5_through 11 = .ok (.iload_n 1, 1) := by decide +kernel
theorem dX5_through_12 : decode cX5_through 12 = .ok (.iconst 1, 1) := by decide +kernel
theorem dX5_through_13 : decode cX5_through 13 = .ok (.bastore, 1) := by decide +kernel
theorem dX5_through_14 : decode cX5_through 14 = .ok (.aload_n 0, 1) := by decide +kernel
theorem dX5_through_15 : decode cX5_through 15 = .ok (.getfield 51, 3) := by decide +kernel
theorem dX5_through_18 : decode cX5_through 18 = .ok (.iload_n 1, 1) := by decide +kernel
theorem dX5_through_19 : decode cX5_through 19 = .ok (.iaload, 1) := by decide +kernel
theorem dX5_through_20 : decode cX5_through 20 = .ok (.iload_n 2, 1) := by decide +kernel
theorem dX5_through_21 : decode cX5_through 21 = .ok (.if_icmp .ne 34, 3) := by decide +kernel
theorem dX5_through_24 : decode cX5_through 24 = .ok (.aload_n 0, 1) := by decide +kernel
theorem dX5_through_25 : decode cX5_through 25 = .ok (.getfield 81, 3) := by decide +kernel
theorem dX5_through_28 : decode cX5_through 28 = .ok (.iload_n 1, 1) := by decide +kernel
theorem dX5_through_29 : decode cX5_through 29 = .ok (.baload, 1) := by decide +kernel
theorem dX5_through_30 : decode cX5_through 30 = .ok (.ifCond .ne 25, 3) := by decide +kernel
theorem dX5_through_33 : decode cX5_through 33 = .ok (.aload_n 0, 1) := by decide +kernel
theorem dX5_through_34 : decode cX5_through 34 = .ok (.getfield 81, 3) := by decide +kernel
theorem dX5_through_37 : decode cX5_through 37 = .ok (.iload_n 1, 1) := by decide +kernel
theorem dX5_through_38 : decode cX5_through 38 = .ok (.iconst 1, 1) := by decide +kernel
theorem dX5_through_39 : decode cX5_through 39 = .ok (.bastore, 1) := by decide +kernel
theorem dX5_through_40 : decode cX5_through 40 = .ok (.aload_n 0, 1) := by decide +kernel
theorem dX5_through_41 : decode cX5_through 41 = .ok (.getfield 75, 3) := by decide +kernel
theorem dX5_through_44 : decode cX5_through 44 = .ok (.iload_n 1, 1) := by decide +kernel
theorem dX5_through_45 : decode cX5_through 45 = .ok (.aload_n 0, 1) := by decide +kernel
theorem dX5_through_46 : decode cX5_through 46 = .ok (.getfield 54, 3) := by decide +kernel
theorem dX5_through_49 : decode cX5_through 49 = .ok (.iload_n 1, 1) := by decide +kernel
theorem dX5_through_50 : decode cX5_through 50 = .ok (.iaload, 1) := by decide +kernel
theorem dX5_through_51 : decode cX5_through 51 = .ok (.iastore, 1) := by decide +kernel
theorem dX5_through_52 : decode cX5_through 52 = .ok (.goto 40, 3) := by decide +kernel
theorem dX5_through_55 : decode cX5_through 55 = .ok (.iload_n 2, 1) := by decide +kernel
theorem dX5_through_56 : decode cX5_through 56 = .ok (.aload_n 0, 1) := by decide +kernel
theorem dX5_through_57 : decode cX5_through 57 = .ok (.getfield 7, 3) := by decide +kernel
theorem dX5_through_60 : decode cX5_through 60 = .ok (.iconst 1, 1) := by decide +kernel
theorem dX5_through_61 : decode cX5_through 61 = .ok (.isub, 1) := by decide +kernel
theorem dX5_through_62 : decode cX5_through 62 = .ok (.if_icmp .ne 21, 3) := by decide +kernel
theorem dX5_through_65 : decode cX5_through 65 = .ok (.aload_n 0, 1) := by decide +kernel
theorem dX5_through_66 : decode cX5_through 66 = .ok (.getfield 66, 3) := by decide +kernel
theorem dX5_through_69 : decode cX5_through 69 = .ok (.iload_n 1, 1) := by decide +kernel
theorem dX5_through_70 : decode cX5_through 70 = .ok (.bipush 10, 2) := by decide +kernel
theorem dX5_through_72 : decode cX5_through 72 = .ok (.iastore, 1) := by decide +kernel
theorem dX5_through_73 : decode cX5_through 73 = .ok (.aload_n 0, 1) := by decide +kernel
theorem dX5_through_74 : decode cX5_through 74 = .ok (.getfield 84, 3) := by decide +kernel
theorem dX5_through_77 : decode cX5_through 77 = .ok (.iload_n 1, 1) := by decide +kernel
theorem dX5_through_78 : decode cX5_through 78 = .ok (.iload_n 3, 1) := by decide +kernel
theorem dX5_through_79 : decode cX5_through 79 = .ok (.iastore, 1) := by decide +kernel
theorem dX5_through_80 : decode cX5_through 80 = .ok (.goto 12, 3) := by decide +kernel
theorem dX5_through_83 : decode cX5_through 83 = .ok (.aload_n 0, 1) := by decide +kernel
theorem dX5_through_84 : decode cX5_through 84 = .ok (.getfield 75, 3) := by decide +kernel
theorem dX5_through_87 : decode cX5_through 87 = .ok (.iload_n 1, 1) := by decide +kernel
theorem dX5_through_88 : decode cX5_through 88 = .ok (.iload_n 2, 1) := by decide +kernel
theorem dX5_through_89 : decode cX5_through 89 = .ok (.iconst 1, 1) := by decide +kernel
theorem dX5_through_90 : decode cX5_through 90 = .ok (.iadd, 1) := by decide +kernel
theorem dX5_through_91 : decode cX5_through 91 = .ok (.iastore, 1) := by decide +kernel
theorem dX5_through_92 : decode cX5_through 92 = .ok (.return_, 1) := by decide +kernel
set_option maxRecDepth 20000 in
theorem ggX5_dayWorks_X5_pull : GoodIn wsX5_dayWorks wsX5_pull := goodIn_r _ [15, 3, 4, 16, 17, 9, 18, 19, 1, 20, 21, 22, 14, 23, 24, 25, 26, 27, 28, 29, 30, 31, 32, 33, 34, 35, 36, 37, 38, 39, 40, 41, 42, 43, 44, 45, 46, 47, 48, 49, 5, 67, 68, 69, 70, 71, 72, 73, 74, 75, 76, 77, 78, 79, 80, 81, 82, 83, 84, 85, 86, 87, 88, 89, 90, 91, 92, 93, 94, 95, 96, 97, 98, 99, 100, 101, 102, 103, 104, 105, 106, 107, 108] (by decide +kernel) (by decide +kernel)
set_option maxRecDepth 20000 in
theorem gX5_dayWorks_X5_pull : GoodIn wsX5_dayWorks (wsV RX5 177 RX5 yX5_pull wsX5_pull) := goodIn_app (goodIn_of _ (by decide +kernel)) ggX5_dayWorks_X5_pull
set_option maxRecDepth 20000 in
theorem ggX5_dayWorks_X5_isWaiting : GoodIn wsX5_dayWorks wsX5_isWaiting := goodIn_r _ [30, 31, 32, 67, 68, 69, 70, 71, 72, 73, 74, 75, 76, 77, 78, 79, 80, 81, 82, 83, 84, 85, 86, 87, 88, 89, 90, 91, 92, 93, 94, 95, 96, 97, 98, 99, 100, 101, 102, 103, 104, 105, 106, 107, 108] (by decide +kernel) (by decide +kernel)
set_option maxRecDepth 20000 in
theorem gX5_dayWorks_X5_isWaiting : GoodIn wsX5_dayWorks (wsV RX5 149 RX5 yX5_isWaiting wsX5_isWaiting) := goodIn_app (goodIn_of _ (by decide +kernel)) ggX5_dayWorks_X5_isWaiting
set_option maxRecDepth 20000 in
theorem ggX5_dayWorks_X5_work : GoodIn wsX5_dayWorks wsX5_work := goodIn_r _ [53, 54, 18, 16, 55, 6, 56, 57, 58, 14, 59, 3, 4, 9, 36, 37, 38, 39, 40, 41, 60, 61, 62, 63, 64, 65, 24, 66, 8, 32, 67, 68, 69, 70, 71, 72, 73, 74, 75, 76, 77, 78, 79, 80, 81, 82, 83, 84, 85, 86, 87, 88, 89, 90, 91, 92, 93, 94, 95, 96, 97, 98, 99, 100, 101, 102, 103, 104, 105, 106, 107, 108] (by decide +kernel) (by decide +kernel)
set_option maxRecDepth 20000 in
theorem gX5_dayWorks_X5_work : GoodIn wsX5_dayWorks (wsV RX5 180 RX5 yX5_work wsX5_work) := goodIn_app (goodIn_of _ (by decide +kernel)) ggX5_dayWorks_X5_work
theorem dX5_dayWorks_0 : decode cX5_dayWorks 0 = .ok (.aload_n 0, 1) := by decide +kernel
theorem dX5_dayWorks_1 : decode cX5_dayWorks 1 = .ok (.iconst 0, 1) := by decide +kernel
theorem dX5_dayWorks_2 : decode cX5_dayWorks 2 = .ok (.putfield 163, 3) := by decide +kernel
theorem dX5_dayWorks_5 : decode cX5_dayWorks 5 = .ok (.aload_n 0, 1) := by decide +kernel
theorem dX5_dayWorks_6 : decode cX5_dayWorks 6 = .ok (.iconst 0, 1) := by decide +kernel
theorem dX5_dayWorks_7 : decode cX5_dayWorks 7 = .ok (.putfield 174, 3) := by decide +kernel
theorem dX5_dayWorks_10 : decode cX5_dayWorks 10 = .ok (.iconst 0, 1) := by decide +kernel
theorem dX5_dayWorks_11 : decode cX5_dayWorks 11 = .ok (.istore_n 2, 1) := by decide +kernel
theorem dX5_dayWorks_12 : decode cX5_dayWorks 12 = .ok (.iload_n 2, 1) := by decide +kernel
theorem dX5_dayWorks_13 : decode cX5_dayWorks 13 = .ok (.aload_n 0, 1) := by decide +kernel
theorem dX5_dayWorks_14 : decode cX5_dayWorks 14 = .ok (.getfield 105, 3) := by decide +kernel
theorem dX5_dayWorks_17 : decode cX5_dayWorks 17 = .ok (.if_icmp .ge 110, 3) := by decide +kernel
theorem dX5_dayWorks_20 : decode cX5_dayWorks 20 = .ok (.aload_n 0, 1) := by decide +kernel
theorem dX5_dayWorks_21 : decode cX5_dayWorks 21 = .ok (.getfield 66, 3) := by decide +kernel
theorem dX5_dayWorks_24 : decode cX5_dayWorks 24 = .ok (.iload_n 2, 1) := by decide +kernel
theorem dX5_dayWorks_25 : decode cX5_dayWorks 25 = .ok (.aload_n 0, 1) := by decide +kernel
theorem dX5_dayWorks_26 : decode cX5_dayWorks 26 = .ok (.getfield 38, 3) := by decide +kernel
theorem dX5_dayWorks_29 : decode cX5_dayWorks 29 = .ok (.iload_n 2, 1) := by decide +kernel
theorem dX5_dayWorks_30 : decode cX5_dayWorks 30 = .ok (.iaload, 1) := by decide +kernel
theorem dX5_dayWorks_31 : decode cX5_dayWorks 31 = .ok (.iload_n 1, 1) := by decide +kernel
theorem dX5_dayWorks_32 : decode cX5_dayWorks 32 = .ok (.if_icmp .ne 8, 3) := by decide +kernel
theorem dX5_dayWorks_35 : decode cX5_dayWorks 35 = .ok (.bipush 11, 2) := by decide +kernel
theorem dX5_dayWorks_37 : decode cX5_dayWorks 37 = .ok (.goto 9, 3) := by decide +kernel
theorem dX5_dayWorks_40 : decode cX5_dayWorks 40 = .ok (.aload_n 0, 1) := by decide +kernel
theorem dX5_dayWorks_41 : decode cX5_dayWorks 41 = .ok (.getfield 66, 3) := by decide +kernel
theorem dX5_dayWorks_44 : decode cX5_dayWorks 44 = .ok (.iload_n 2, 1) := by decide +kernel
theorem dX5_dayWorks_45 : decode cX5_dayWorks 45 = .ok (.iaload, 1) := by decide +kernel
theorem dX5_dayWorks_46 : decode cX5_dayWorks 46 = .ok (.iastore, 1) := by decide +kernel
theorem dX5_dayWorks_47 : decode cX5_dayWorks 47 = .ok (.aload_n 0, 1) := by decide +kernel
theorem dX5_dayWorks_48 : decode cX5_dayWorks 48 = .ok (.dup, 1) := by decide +kernel
theorem dX5_dayWorks_49 : decode cX5_dayWorks 49 = .ok (.getfield 174, 3) := by decide +kernel
theorem dX5_dayWorks_52 : decode cX5_dayWorks 52 = .ok (.aload_n 0, 1) := by decide +kernel
theorem dX5_dayWorks_53 : decode cX5_dayWorks 53 = .ok (.getfield 66, 3) := by decide +kernel
theorem dX5_dayWorks_56 : decode cX5_dayWorks 56 = .ok (.iload_n 2, 1) := by decide +kernel
theorem dX5_dayWorks_57 : decode cX5_dayWorks 57 = .ok (.iaload, 1) := by decide +kernel
theorem dX5_dayWorks_58 : decode cX5_dayWorks 58 = .ok (.iconst (-1), 1) := by decide +kernel
theorem dX5_dayWorks_59 : decode cX5_dayWorks 59 = .ok (.if_icmp .eq 18, 3) := by decide +kernel
theorem dX5_dayWorks_62 : decode cX5_dayWorks 62 = .ok (.aload_n 0, 1) := by decide +kernel
theorem dX5_dayWorks_63 : decode cX5_dayWorks 63 = .ok (.getfield 66, 3) := by decide +kernel
theorem dX5_dayWorks_66 : decode cX5_dayWorks 66 = .ok (.iload_n 2, 1) := by decide +kernel
theorem dX5_dayWorks_67 : decode cX5_dayWorks 67 = .ok (.iaload, 1) := by decide +kernel
theorem dX5_dayWorks_68 : decode cX5_dayWorks 68 = .ok (.bipush 10, 2) := by decide +kernel
theorem dX5_dayWorks_70 : decode cX5_dayWorks 70 = .ok (.if_icmp .eq 7, 3) := by decide +kernel
theorem dX5_dayWorks_73 : decode cX5_dayWorks 73 = .ok (.iconst 1, 1) := by decide +kernel
theorem dX5_dayWorks_74 : decode cX5_dayWorks 74 = .ok (.goto 4, 3) := by decide +kernel
theorem dX5_dayWorks_77 : decode cX5_dayWorks 77 = .ok (.iconst 0, 1) := by decide +kernel
theorem dX5_dayWorks_78 : decode cX5_dayWorks 78 = .ok (.iadd, 1) := by decide +kernel
theorem dX5_dayWorks_79 : decode cX5_dayWorks 79 = .ok (.putfield 174, 3) := by decide +kernel
theorem dX5_dayWorks_82 : decode cX5_dayWorks 82 = .ok (.aload_n 0, 1) := by decide +kernel
theorem dX5_dayWorks_83 : decode cX5_dayWorks 83 = .ok (.getfield 87, 3) := by decide +kernel
theorem dX5_dayWorks_86 : decode cX5_dayWorks 86 = .ok (.iload_n 2, 1) := by decide +kernel
theorem dX5_dayWorks_87 : decode cX5_dayWorks 87 = .ok (.iconst 0, 1) := by decide +kernel
theorem dX5_dayWorks_88 : decode cX5_dayWorks 88 = .ok (.bastore, 1) := by decide +kernel
theorem dX5_dayWorks_89 : decode cX5_dayWorks 89 = .ok (.aload_n 0, 1) := by decide +kernel
theorem dX5_dayWorks_90 : decode cX5_dayWorks 90 = .ok (.getfield 90, 3) := by decide +kernel
theorem dX5_dayWorks_93 : decode cX5_dayWorks 93 = .ok (.iload_n 2, 1) := by decide +kernel
theorem dX5_dayWorks_94 : decode cX5_dayWorks 94 = .ok (.aload_n 0, 1) := by decide +kernel
theorem dX5_dayWorks_95 : decode cX5_dayWorks 95 = .ok (.getfield 66, 3) := by decide +kernel
theorem dX5_dayWorks_98 : decode cX5_dayWorks 98 = .ok (.iload_n 2, 1) := by decide +kernel
theorem dX5_dayWorks_99 : decode cX5_dayWorks 99 = .ok (.iaload, 1) := by decide +kernel
theorem dX5_dayWorks_100 : decode cX5_dayWorks 100 = .ok (.iconst (-1), 1) := by decide +kernel
theorem dX5_dayWorks_101 : decode cX5_dayWorks 101 = .ok (.if_icmp .eq 14, 3) := by decide +kernel
theorem dX5_dayWorks_104 : decode cX5_dayWorks 104 = .ok (.aload_n 0, 1) := by decide +kernel
theorem dX5_dayWorks_105 : decode cX5_dayWorks 105 = .ok (.getfield 66, 3) := by decide +kernel
theorem dX5_dayWorks_108 : decode cX5_dayWorks 108 = .ok (.iload_n 2, 1) := by decide +kernel
theorem dX5_dayWorks_109 : decode cX5_dayWorks 109 = .ok (.iaload, 1) := by decide +kernel
theorem dX5_dayWorks_110 : decode cX5_dayWorks 110 = .ok (.bipush 10, 2) := by decide +kernel
theorem dX5_dayWorks_112 : decode cX5_dayWorks 112 = .ok (.if_icmp .ne 7, 3) := by decide +kernel
theorem dX5_dayWorks_115 : decode cX5_dayWorks 115 = .ok (.iconst (-1), 1) := by decide +kernel
theorem dX5_dayWorks_116 : decode cX5_dayWorks 116 = .ok (.goto 4, 3) := by decide +kernel
theorem dX5_dayWorks_119 : decode cX5_dayWorks 119 = .ok (.iconst 0, 1) := by decide +kernel
theorem dX5_dayWorks_120 : decode cX5_dayWorks 120 = .ok (.iastore, 1) := by decide +kernel
theorem dX5_dayWorks_121 : decode cX5_dayWorks 121 = .ok (.iinc 2 1, 3) := by decide +kernel
theorem dX5_dayWorks_124 : decode cX5_dayWorks 124 = .ok (.goto (-112), 3) := by decide +kernel
theorem dX5_dayWorks_127 : decode cX5_dayWorks 127 = .ok (.aload_n 0, 1) := by decide +kernel
theorem dX5_dayWorks_128 : decode cX5_dayWorks 128 = .ok (.getfield 7, 3) := by decide +kernel
theorem dX5_dayWorks_131 : decode cX5_dayWorks 131 = .ok (.iconst 1, 1) := by decide +kernel
theorem dX5_dayWorks_132 : decode cX5_dayWorks 132 = .ok (.isub, 1) := by decide +kernel
theorem dX5_dayWorks_133 : decode cX5_dayWorks 133 = .ok (.istore_n 2, 1) := by decide +kernel
theorem dX5_dayWorks_134 : decode cX5_dayWorks 134 = .ok (.iload_n 2, 1) := by decide +kernel
theorem dX5_dayWorks_135 : decode cX5_dayWorks 135 = .ok (.ifCond .lt 14, 3) := by decide +kernel
theorem dX5_dayWorks_138 : decode cX5_dayWorks 138 = .ok (.aload_n 0, 1) := by decide +kernel
theorem dX5_dayWorks_139 : decode cX5_dayWorks 139 = .ok (.iload_n 2, 1) := by decide +kernel
theorem dX5_dayWorks_140 : decode cX5_dayWorks 140 = .ok (.invokevirtual 177, 3) := by decide +kernel
theorem dX5_dayWorks_143 : decode cX5_dayWorks 143 = .ok (.iinc 2 (-1), 3) := by decide +kernel
theorem dX5_dayWorks_146 : decode cX5_dayWorks 146 = .ok (.goto (-12), 3) := by decide +kernel
theorem dX5_dayWorks_149 : decode cX5_dayWorks 149 = .ok (.iconst 0, 1) := by decide +kernel
theorem dX5_dayWorks_150 : decode cX5_dayWorks 150 = .ok (.istore_n 2, 1) := by decide +kernel
theorem dX5_dayWorks_151 : decode cX5_dayWorks 151 = .ok (.iload_n 2, 1) := by decide +kernel
theorem dX5_dayWorks_152 : decode cX5_dayWorks 152 = .ok (.aload_n 0, 1) := by decide +kernel
theorem dX5_dayWorks_153 : decode cX5_dayWorks 153 = .ok (.getfield 105, 3) := by decide +kernel
theorem dX5_dayWorks_156 : decode cX5_dayWorks 156 = .ok (.if_icmp .ge 65, 3) := by decide +kernel
theorem dX5_dayWorks_159 : decode cX5_dayWorks 159 = .ok (.aload_n 0, 1) := by decide +kernel
theorem dX5_dayWorks_160 : decode cX5_dayWorks 160 = .ok (.getfield 90, 3) := by decide +kernel
theorem dX5_dayWorks_163 : decode cX5_dayWorks 163 = .ok (.iload_n 2, 1) := by decide +kernel
theorem dX5_dayWorks_164 : decode cX5_dayWorks 164 = .ok (.iaload, 1) := by decide +kernel
theorem dX5_dayWorks_165 : decode cX5_dayWorks 165 = .ok (.ifCond .ne 50, 3) := by decide +kernel
theorem dX5_dayWorks_168 : decode cX5_dayWorks 168 = .ok (.aload_n 0, 1) := by decide +kernel
theorem dX5_dayWorks_169 : decode cX5_dayWorks 169 = .ok (.getfield 90, 3) := by decide +kernel
theorem dX5_dayWorks_172 : decode cX5_dayWorks 172 = .ok (.iload_n 2, 1) := by decide +kernel
theorem dX5_dayWorks_173 : decode cX5_dayWorks 173 = .ok (.aload_n 0, 1) := by decide +kernel
theorem dX5_dayWorks_174 : decode cX5_dayWorks 174 = .ok (.getfield 66, 3) := by decide +kernel
theorem dX5_dayWorks_177 : decode cX5_dayWorks 177 = .ok (.iload_n 2, 1) := by decide +kernel
theorem dX5_dayWorks_178 : decode cX5_dayWorks 178 = .ok (.iaload, 1) := by decide +kernel
theorem dX5_dayWorks_179 : decode cX5_dayWorks 179 = .ok (.bipush 11, 2) := by decide +kernel
theorem dX5_dayWorks_181 : decode cX5_dayWorks 181 = .ok (.if_icmp .ne 19, 3) := by decide +kernel
theorem dX5_dayWorks_184 : decode cX5_dayWorks 184 = .ok (.aload_n 0, 1) := by decide +kernel
theorem dX5_dayWorks_185 : decode cX5_dayWorks 185 = .ok (.iload_n 2, 1) := by decide +kernel
theorem dX5_dayWorks_186 : decode cX5_dayWorks 186 = .ok (.invokevirtual 149, 3) := by decide +kernel
theorem dX5_dayWorks_189 : decode cX5_dayWorks 189 = .ok (.ifCond .eq 7, 3) := by decide +kernel
theorem dX5_dayWorks_192 : decode cX5_dayWorks 192 = .ok (.iconst 2, 1) := by decide +kernel
theorem dX5_dayWorks_193 : decode cX5_dayWorks 193 = .ok (.goto 21, 3) := by decide +kernel
theorem dX5_dayWorks_196 : decode cX5_dayWorks 196 = .ok (.iconst 3, 1) := by decide +kernel
theorem dX5_dayWorks_197 : decode cX5_dayWorks 197 = .ok (.goto 17, 3) := by decide +kernel
theorem dX5_dayWorks_200 : decode cX5_dayWorks 200 = .ok (.aload_n 0, 1) := by decide +kernel
theorem dX5_dayWorks_201 : decode cX5_dayWorks 201 = .ok (.getfield 72, 3) := by decide +kernel
theorem dX5_dayWorks_204 : decode cX5_dayWorks 204 = .ok (.iload_n 2, 1) := by decide +kernel
theorem dX5_dayWorks_205 : decode cX5_dayWorks 205 = .ok (.baload, 1) := by decide +kernel
theorem dX5_dayWorks_206 : decode cX5_dayWorks 206 = .ok (.ifCond .eq 7, 3) := by decide +kernel
theorem dX5_dayWorks_209 : decode cX5_dayWorks 209 = .ok (.iconst 3, 1) := by decide +kernel
theorem dX5_dayWorks_210 : decode cX5_dayWorks 210 = .ok (.goto 4, 3) := by decide +kernel
theorem dX5_dayWorks_213 : decode cX5_dayWorks 213 = .ok (.iconst 4, 1) := by decide +kernel
theorem dX5_dayWorks_214 : decode cX5_dayWorks 214 = .ok (.iastore, 1) := by decide +kernel
theorem dX5_dayWorks_215 : decode cX5_dayWorks 215 = .ok (.iinc 2 1, 3) := by decide +kernel
theorem dX5_dayWorks_218 : decode cX5_dayWorks 218 = .ok (.goto (-67), 3) := by decide +kernel
theorem dX5_dayWorks_221 : decode cX5_dayWorks 221 = .ok (.iconst 0, 1) := by decide +kernel
theorem dX5_dayWorks_222 : decode cX5_dayWorks 222 = .ok (.istore_n 2, 1) := by decide +kernel
theorem dX5_dayWorks_223 : decode cX5_dayWorks 223 = .ok (.iload_n 2, 1) := by decide +kernel
theorem dX5_dayWorks_224 : decode cX5_dayWorks 224 = .ok (.aload_n 0, 1) := by decide +kernel
theorem dX5_dayWorks_225 : decode cX5_dayWorks 225 = .ok (.getfield 7, 3) := by decide +kernel
theorem dX5_dayWorks_228 : decode cX5_dayWorks 228 = .ok (.if_icmp .ge 15, 3) := by decide +kernel
theorem dX5_dayWorks_231 : decode cX5_dayWorks 231 = .ok (.aload_n 0, 1) := by decide +kernel
theorem dX5_dayWorks_232 : decode cX5_dayWorks 232 = .ok (.iload_n 2, 1) := by decide +kernel
theorem dX5_dayWorks_233 : decode cX5_dayWorks 233 = .ok (.iload_n 1, 1) := by decide +kernel
theorem dX5_dayWorks_234 : decode cX5_dayWorks 234 = .ok (.invokevirtual 180, 3) := by decide +kernel
theorem dX5_dayWorks_237 : decode cX5_dayWorks 237 = .ok (.iinc 2 1, 3) := by decide +kernel
theorem dX5_dayWorks_240 : decode cX5_dayWorks 240 = .ok (.goto (-17), 3) := by decide +kernel
theorem dX5_dayWorks_243 : decode cX5_dayWorks 243 = .ok (.iconst 0, 1) := by decide +kernel
theorem dX5_dayWorks_244 : decode cX5_dayWorks 244 = .ok (.istore_n 2, 1) := by decide +kernel
theorem dX5_dayWorks_245 : decode cX5_dayWorks 245 = .ok (.iload_n 2, 1) := by decide +kernel
theorem dX5_dayWorks_246 : decode cX5_dayWorks 246 = .ok (.aload_n 0, 1) := by decide +kernel
theorem dX5_dayWorks_247 : decode cX5_dayWorks 247 = .ok (.getfield 105, 3) := by decide +kernel
theorem dX5_dayWorks_250 : decode cX5_dayWorks 250 = .ok (.if_icmp .ge 30, 3) := by decide +kernel
theorem dX5_dayWorks_253 : decode cX5_dayWorks 253 = .ok (.aload_n 0, 1) := by decide +kernel
theorem dX5_dayWorks_254 : decode cX5_dayWorks 254 = .ok (.getfield 87, 3) := by decide +kernel
theorem dX5_dayWorks_257 : decode cX5_dayWorks 257 = .ok (.iload_n 2, 1) := by decide +kernel
theorem dX5_dayWorks_258 : decode cX5_dayWorks 258 = .ok (.baload, 1) := by decide +kernel
theorem dX5_dayWorks_259 : decode cX5_dayWorks 259 = .ok (.ifCond .eq 15, 3) := by decide +kernel
theorem dX5_dayWorks_262 : decode cX5_dayWorks 262 = .ok (.aload_n 0, 1) := by decide +kernel
theorem dX5_dayWorks_263 : decode cX5_dayWorks 263 = .ok (.getfield 90, 3) := by decide +kernel
theorem dX5_dayWorks_266 : decode cX5_dayWorks 266 = .ok (.iload_n 2, 1) := by decide +kernel
theorem dX5_dayWorks_267 : decode cX5_dayWorks 267 = .ok (.iconst 1, 1) := by decide +kernel
theorem dX5_dayWorks_268 : decode cX5_dayWorks 268 = .ok (.iastore, 1) := by decide +kernel
theorem dX5_dayWorks_269 : decode cX5_dayWorks 269 = .ok (.aload_n 0, 1) := by decide +kernel
theorem dX5_dayWorks_270 : decode cX5_dayWorks 270 = .ok (.iconst 1, 1) := by decide +kernel
theorem dX5_dayWorks_271 : decode cX5_dayWorks 271 = .ok (.putfield 163, 3) := by decide +kernel
theorem dX5_dayWorks_274 : decode cX5_dayWorks 274 = .ok (.iinc 2 1, 3) := by decide +kernel
theorem dX5_dayWorks_277 : decode cX5_dayWorks 277 = .ok (.goto (-32), 3) := by decide +kernel
theorem dX5_dayWorks_280 : decode cX5_dayWorks 280 = .ok (.aload_n 0, 1) := by decide +kernel
theorem dX5_dayWorks_281 : decode cX5_dayWorks 281 = .ok (.aload_n 0, 1) := by decide +kernel
theorem dX5_dayWorks_282 : decode cX5_dayWorks 282 = .ok (.getfield 163, 3) := by decide +kernel
theorem dX5_dayWorks_285 : decode cX5_dayWorks 285 = .ok (.ifCond .eq 7, 3) := by decide +kernel
theorem dX5_dayWorks_288 : decode cX5_dayWorks 288 = .ok (.iload_n 1, 1) := by decide +kernel
theorem dX5_dayWorks_289 : decode cX5_dayWorks 289 = .ok (.goto 7, 3) := by decide +kernel
theorem dX5_dayWorks_292 : decode cX5_dayWorks 292 = .ok (.aload_n 0, 1) := by decide +kernel
theorem dX5_dayWorks_293 : decode cX5_dayWorks 293 = .ok (.getfield 143, 3) := by decide +kernel
theorem dX5_dayWorks_296 : decode cX5_dayWorks 296 = .ok (.putfield 143, 3) := by decide +kernel
theorem dX5_dayWorks_299 : decode cX5_dayWorks 299 = .ok (.return_, 1) := by decide +kernel
theorem dX5_lastComes_0 : decode cX5_lastComes 0 = .ok (.iconst 0, 1) := by decide +kernel
theorem dX5_lastComes_1 : decode cX5_lastComes 1 = .ok (.istore_n 1, 1) := by decide +kernel
theorem dX5_lastComes_2 : decode cX5_lastComes 2 = .ok (.iconst 0, 1) := by decide +kernel
theorem dX5_lastComes_3 : decode cX5_lastComes 3 = .ok (.istore_n 2, 1) := by decide +kernel
theorem dX5_lastComes_4 : decode cX5_lastComes 4 = .ok (.iload_n 2, 1) := by decide +kernel
theorem dX5_lastComes_5 : decode cX5_lastComes 5 = .ok (.aload_n 0, 1) := by decide +kernel
theorem dX5_lastComes_6 : decode cX5_lastComes 6 = .ok (.getfield 105, 3) := by decide +kernel
theorem dX5_lastComes_9 : decode cX5_lastComes 9 = .ok (.if_icmp .ge 30, 3) := by decide +kernel
theorem dX5_lastComes_12 : decode cX5_lastComes 12 = .ok (.aload_n 0, 1) := by decide +kernel
theorem dX5_lastComes_13 : decode cX5_lastComes 13 = .ok (.getfield 38, 3) := by decide +kernel
theorem dX5_lastComes_16 : decode cX5_lastComes 16 = .ok (.iload_n 2, 1) := by decide +kernel
theorem dX5_lastComes_17 : decode cX5_lastComes 17 = .ok (.iaload, 1) := by decide +kernel
theorem dX5_lastComes_18 : decode cX5_lastComes 18 = .ok (.iload_n 1, 1) := by decide +kernel
theorem dX5_lastComes_19 : decode cX5_lastComes 19 = .ok (.if_icmp .le 12, 3) := by decide +kernel
theorem dX5_lastComes_22 : decode cX5_lastComes 22 = .ok (.aload_n 0, 1) := by decide +kernel
theorem dX5_lastComes_23 : decode cX5_lastComes 23 = .ok (.getfield 38, 3) := by decide +kernel
theorem dX5_lastComes_26 : decode cX5_lastComes 26 = .ok (.iload_n 2, 1) := by decide +kernel
theorem dX5_lastComes_27 : decode cX5_lastComes 27 = .ok (.iaload, 1) := by decide +kernel
theorem dX5_lastComes_28 : decode cX5_lastComes 28 = .ok (.goto 4, 3) := by decide +kernel
theorem dX5_lastComes_31 : decode cX5_lastComes 31 = .ok (.iload_n 1, 1) := by decide +kernel
theorem dX5_lastComes_32 : decode cX5_lastComes 32 = .ok (.istore_n 1, 1) := by decide +kernel
theorem dX5_lastComes_33 : decode cX5_lastComes 33 = .ok (.iinc 2 1, 3) := by decide +kernel
theorem dX5_lastComes_36 : decode cX5_lastComes 36 = .ok (.goto (-32), 3) := by decide +kernel
theorem dX5_lastComes_39 : decode cX5_lastComes 39 = .ok (.iload_n 1, 1) := by decide +kernel
theorem dX5_lastComes_40 : decode cX5_lastComes 40 = .ok (.ireturn, 1) := by decide +kernel
set_option maxRecDepth 20000 in
theorem ggX5_runs_X5_begins : GoodIn wsX5_runs wsX5_begins := goodIn_r _ [10, 11, 12, 13, 14, 15, 16, 4, 5, 17, 1, 18, 81, 82, 83, 84, 85, 86, 87, 88, 89, 90, 91, 92, 93, 94, 95, 96, 97, 98, 99, 100, 101, 102, 103, 104, 105, 106, 107, 108, 109, 110, 111, 112, 113, 114, 115, 116, 117, 118, 119, 120, 121, 122] (by decide +kernel) (by decide +kernel)
set_option maxRecDepth 20000 in
theorem gX5_runs_X5_begins : GoodIn wsX5_runs (wsV RX5 184 RX5 yX5_begins wsX5_begins) := goodIn_app (goodIn_of _ (by decide +kernel)) ggX5_runs_X5_begins
set_option maxRecDepth 20000 in
theorem ggX5_runs_X5_lastComes : GoodIn wsX5_runs wsX5_lastComes := goodIn_r _ [22, 3, 23, 81, 82, 83, 84, 85, 86, 87, 88, 89, 90, 91, 92, 93, 94, 95, 96, 97, 98, 99, 100, 101, 102, 103, 104, 105, 106, 107, 108, 109, 110, 111, 112, 113, 114, 115, 116, 117, 118, 119, 120, 121, 122] (by decide +kernel) (by decide +kernel)
set_option maxRecDepth 20000 in
theorem gX5_runs_X5_lastComes : GoodIn wsX5_runs (wsV RX5 187 RX5 yX5_lastComes wsX5_lastComes) := goodIn_app (goodIn_of _ (by decide +kernel)) ggX5_runs_X5_lastComes
set_option maxRecDepth 20000 in
theorem ggX5_runs_X5_dayWorks : GoodIn wsX5_runs wsX5_dayWorks := goodIn_r _ [27, 2, 28, 3, 11, 23, 29, 4, 30, 13, 18, 31, 32, 33, 9, 34, 12, 35, 36, 17, 37, 38, 39, 40, 14, 41, 42, 43, 44, 45, 46, 47, 16, 48, 49, 50, 51, 52, 53, 54, 55, 56, 57, 58, 59, 60, 61, 62, 63, 64, 65, 66, 67, 68, 69, 70, 71, 72, 73, 74, 75, 76, 77, 78, 79, 15, 80, 81, 82, 83, 84, 85, 86, 87, 88, 89, 90, 91, 92, 93, 94, 95, 96, 97, 98, 99, 100, 101, 102, 103, 104, 105, 106, 107, 108, 109, 110, 111, 112, 113, 114, 115, 116, 117, 118, 119, 120, 121, 122] (by decide +kernel) (by decide +kernel)
set_option maxRecDepth 20000 in
theorem gX5_runs_X5_dayWorks : GoodIn wsX5_runs (wsV RX5 191 RX5 yX5_dayWorks wsX5_dayWorks) := goodIn_app (goodIn_of _ (by decide +kernel)) ggX5_runs_X5_dayWorks
theorem dX5_runs_0 : decode cX5_runs 0 = .ok (.aload_n 0, 1) := by decide +kernel
theorem dX5_runs_1 : decode cX5_runs 1 = .ok (.invokevirtual 184, 3) := by decide +kernel
theorem dX5_runs_4 : decode cX5_runs 4 = .ok (.aload_n 0, 1) := by decide +kernel
theorem dX5_runs_5 : decode cX5_runs 5 = .ok (.invokevirtual 187, 3) := by decide +kernel
theorem dX5_runs_8 : decode cX5_runs 8 = .ok (.istore_n 2, 1) := by decide +kernel
theorem dX5_runs_9 : decode cX5_runs 9 = .ok (.iconst 0, 1) := by decide +kernel
theorem dX5_runs_10 : decode cX5_runs 10 = .ok (.istore_n 3, 1) := by decide +kernel
theorem dX5_runs_11 : decode cX5_runs 11 = .ok (.aload_n 0, 1) := by decide +kernel
theorem dX5_runs_12 : decode cX5_runs 12 = .ok (.getfield 140, 3) := by decide +kernel
theorem dX5_runs_15 : decode cX5_runs 15 = .ok (.ifCond .ge 103, 3) := by decide +kernel
theorem dX5_runs_18 : decode cX5_runs 18 = .ok (.iload_n 3, 1) := by decide +kernel
theorem dX5_runs_19 : decode cX5_runs 19 = .ok (.iload_n 1, 1) := by decide +kernel
theorem dX5_runs_20 : decode cX5_runs 20 = .ok (.if_icmp .gt 98, 3) := by decide +kernel
theorem dX5_runs_23 : decode cX5_runs 23 = .ok (.aload_n 0, 1) := by decide +kernel
theorem dX5_runs_24 : decode cX5_runs 24 = .ok (.iload_n 3, 1) := by decide +kernel
theorem dX5_runs_25 : decode cX5_runs 25 = .ok (.invokevirtual 191, 3) := by decide +kernel
theorem dX5_runs_28 : decode cX5_runs 28 = .ok (.aload_n 0, 1) := by decide +kernel
theorem dX5_runs_29 : decode cX5_runs 29 = .ok (.getfield 163, 3) := by decide +kernel
theorem dX5_runs_32 : decode cX5_runs 32 = .ok (.ifCond .ne 24, 3) := by decide +kernel
theorem dX5_runs_35 : decode cX5_runs 35 = .ok (.iload_n 3, 1) := by decide +kernel
theorem dX5_runs_36 : decode cX5_runs 36 = .ok (.iload_n 2, 1) := by decide +kernel
theorem dX5_runs_37 : decode cX5_runs 37 = .ok (.if_icmp .lt 19, 3) := by decide +kernel
theorem dX5_runs_40 : decode cX5_runs 40 = .ok (.aload_n 0, 1) := by decide +kernel
theorem dX5_runs_41 : decode cX5_runs 41 = .ok (.aload_n 0, 1) := by decide +kernel
theorem dX5_runs_42 : decode cX5_runs 42 = .ok (.getfield 105, 3) := by decide +kernel
theorem dX5_runs_45 : decode cX5_runs 45 = .ok (.ifCond .ne 7, 3) := by decide +kernel
theorem dX5_runs_48 : decode cX5_runs 48 = .ok (.iconst 0, 1) := by decide +kernel
theorem dX5_runs_49 : decode cX5_runs 49 = .ok (.goto 4, 3) := by decide +kernel
theorem dX5_runs_52 : decode cX5_runs 52 = .ok (.iload_n 3, 1) := by decide +kernel
theorem dX5_runs_53 : decode cX5_runs 53 = .ok (.putfield 140, 3) := by decide +kernel
theorem dX5_runs_56 : decode cX5_runs 56 = .ok (.iconst 0, 1) := by decide +kernel
theorem dX5_runs_57 : decode cX5_runs 57 = .ok (.istore 4, 2) := by decide +kernel
theorem dX5_runs_59 : decode cX5_runs 59 = .ok (.iload 4, 2) := by decide +kernel
theorem dX5_runs_61 : decode cX5_runs 61 = .ok (.aload_n 0, 1) := by decide +kernel
theorem dX5_runs_62 : decode cX5_runs 62 = .ok (.getfield 105, 3) := by decide +kernel
theorem dX5_runs_65 : decode cX5_runs 65 = .ok (.if_icmp .ge 47, 3) := by decide +kernel
theorem dX5_runs_68 : decode cX5_runs 68 = .ok (.aload_n 0, 1) := by decide +kernel
theorem dX5_runs_69 : decode cX5_runs 69 = .ok (.getfield 140, 3) := by decide +kernel
theorem dX5_runs_72 : decode cX5_runs 72 = .ok (.ifCond .ge 40, 3) := by decide +kernel
theorem dX5_runs_75 : decode cX5_runs 75 = .ok (.aload_n 0, 1) := by decide +kernel
theorem dX5_runs_76 : decode cX5_runs 76 = .ok (.getfield 90, 3) := by decide +kernel
theorem dX5_runs_79 : decode cX5_runs 79 = .ok (.iload 4, 2) := by decide +kernel
theorem dX5_runs_81 : decode cX5_runs 81 = .ok (.iaload, 1) := by decide +kernel
theorem dX5_runs_82 : decode cX5_runs 82 = .ok (.ifCond .le 24, 3) := by decide +kernel
theorem dX5_runs_85 : decode cX5_runs 85 = .ok (.aload_n 0, 1) := by decide +kernel
theorem dX5_runs_86 : decode cX5_runs 86 = .ok (.getfield 93, 3) := by decide +kernel
theorem dX5_runs_89 : decode cX5_runs 89 = .ok (.iconst 5, 1) := by decide +kernel
theorem dX5_runs_90 : decode cX5_runs 90 = .ok (.iload 4, 2) := by decide +kernel
theorem dX5_runs_92 : decode cX5_runs 92 = .ok (.imul, 1) := by decide +kernel
theorem dX5_runs_93 : decode cX5_runs 93 = .ok (.aload_n 0, 1) := by decide +kernel
theorem dX5_runs_94 : decode cX5_runs 94 = .ok (.getfield 90, 3) := by decide +kernel
theorem dX5_runs_97 : decode cX5_runs 97 = .ok (.iload 4, 2) := by decide +kernel
theorem dX5_runs_99 : decode cX5_runs 99 = .ok (.iaload, 1) := by decide +kernel
theorem dX5_runs_100 : decode cX5_runs 100 = .ok (.iadd, 1) := by decide +kernel
theorem dX5_runs_101 : decode cX5_runs 101 = .ok (.dup2, 1) := by decide +kernel
theorem dX5_runs_102 : decode cX5_runs 102 = .ok (.iaload, 1) := by decide +kernel
theorem dX5_runs_103 : decode cX5_runs 103 = .ok (.iconst 1, 1) := by decide +kernel
theorem dX5_runs_104 : decode cX5_runs 104 = .ok (.iadd, 1) := by decide +kernel
theorem dX5_runs_105 : decode cX5_runs 105 = .ok (.iastore, 1) := by decide +kernel
theorem dX5_runs_106 : decode cX5_runs 106 = .ok (.iinc 4 1, 3) := by decide +kernel
theorem dX5_runs_109 : decode cX5_runs 109 = .ok (.goto (-50), 3) := by decide +kernel
theorem dX5_runs_112 : decode cX5_runs 112 = .ok (.iinc 3 1, 3) := by decide +kernel
theorem dX5_runs_115 : decode cX5_runs 115 = .ok (.goto (-104), 3) := by decide +kernel
theorem dX5_runs_118 : decode cX5_runs 118 = .ok (.return_, 1) := by decide +kernel
theorem dX5_areDone_0 : decode cX5_areDone 0 = .ok (.iconst 1, 1) := by decide +kernel
theorem dX5_areDone_1 : decode cX5_areDone 1 = .ok (.istore_n 1, 1) := by decide +kernel
theorem dX5_areDone_2 : decode cX5_areDone 2 = .ok (.iconst 0, 1) := by decide +kernel
theorem dX5_areDone_3 : decode cX5_areDone 3 = .ok (.istore_n 2, 1) := by decide +kernel
theorem dX5_areDone_4 : decode cX5_areDone 4 = .ok (.iload_n 2, 1) := by decide +kernel
theorem dX5_areDone_5 : decode cX5_areDone 5 = .ok (.aload_n 0, 1) := by decide +kernel
theorem dX5_areDone_6 : decode cX5_areDone 6 = .ok (.getfield 105, 3) := by decide +kernel
theorem dX5_areDone_9 : decode cX5_areDone 9 = .ok (.if_icmp .ge 30, 3) := by decide +kernel
theorem dX5_areDone_12 : decode cX5_areDone 12 = .ok (.iload_n 1, 1) := by decide +kernel
theorem dX5_areDone_13 : decode cX5_areDone 13 = .ok (.ifCond .eq 18, 3) := by decide +kernel
theorem dX5_areDone_16 : decode cX5_areDone 16 = .ok (.aload_n 0, 1) := by decide +kernel
theorem dX5_areDone_17 : decode cX5_areDone 17 = .ok (.getfield 66, 3) := by decide +kernel
theorem dX5_areDone_20 : decode cX5_areDone 20 = .ok (.iload_n 2, 1) := by decide +kernel
theorem dX5_areDone_21 : decode cX5_areDone 21 = .ok (.iaload, 1) := by decide +kernel
theorem dX5_areDone_22 : decode cX5_areDone 22 = .ok (.bipush 10, 2) := by decide +kernel
theorem dX5_areDone_24 : decode cX5_areDone 24 = .ok (.if_icmp .ne 7, 3) := by decide +kernel
theorem dX5_areDone_27 : decode cX5_areDone 27 = .ok (.iconst 1, 1) := by decide +kernel
theorem dX5_areDone_28 : decode cX5_areDone 28 = .ok (.goto 4, 3) := by decide +kernel
theorem dX5_areDone_31 : decode cX5_areDone 31 = .ok (.iconst 0, 1) := by decide +kernel
theorem dX5_areDone_32 : decode cX5_areDone 32 = .ok (.istore_n 1, 1) := by decide +kernel
theorem dX5_areDone_33 : decode cX5_areDone 33 = .ok (.iinc 2 1, 3) := by decide +kernel
theorem dX5_areDone_36 : decode cX5_areDone 36 = .ok (.goto (-32), 3) := by decide +kernel
theorem dX5_areDone_39 : decode cX5_areDone 39 = .ok (.iload_n 1, 1) := by decide +kernel
theorem dX5_areDone_40 : decode cX5_areDone 40 = .ok (.ireturn, 1) := by decide +kernel
theorem dX5_age_0 : decode cX5_age 0 = .ok (.aload_n 0, 1) := by decide +kernel
theorem dX5_age_1 : decode cX5_age 1 = .ok (.getfield 84, 3) := by decide +kernel
theorem dX5_age_4 : decode cX5_age 4 = .ok (.iload_n 1, 1) := by decide +kernel
theorem dX5_age_5 : decode cX5_age 5 = .ok (.iaload, 1) := by decide +kernel
theorem dX5_age_6 : decode cX5_age 6 = .ok (.ifCond .ge 7, 3) := by decide +kernel
theorem dX5_age_9 : decode cX5_age 9 = .ok (.iconst (-1), 1) := by decide +kernel
theorem dX5_age_10 : decode cX5_age 10 = .ok (.goto 18, 3) := by decide +kernel
theorem dX5_age_13 : decode cX5_age 13 = .ok (.aload_n 0, 1) := by decide +kernel
theorem dX5_age_14 : decode cX5_age 14 = .ok (.getfield 84, 3) := by decide +kernel
theorem dX5_age_17 : decode cX5_age 17 = .ok (.iload_n 1, 1) := by decide +kernel
theorem dX5_age_18 : decode cX5_age 18 = .ok (.iaload, 1) := by decide +kernel
theorem dX5_age_19 : decode cX5_age 19 = .ok (.aload_n 0, 1) := by decide +kernel
theorem dX5_age_20 : decode cX5_age 20 = .ok (.getfield 38, 3) := by decide +kernel
theorem dX5_age_23 : decode cX5_age 23 = .ok (.iload_n 1, 1) := by decide +kernel
theorem dX5_age_24 : decode cX5_age 24 = .ok (.iaload, 1) := by decide +kernel
theorem dX5_age_25 : decode cX5_age 25 = .ok (.isub, 1) := by decide +kernel
theorem dX5_age_26 : decode cX5_age 26 = .ok (.iconst 1, 1) := by decide +kernel
theorem dX5_age_27 : decode cX5_age 27 = .ok (.iadd, 1) := by decide +kernel
theorem dX5_age_28 : decode cX5_age 28 = .ok (.ireturn, 1) := by decide +kernel
set_option maxRecDepth 20000 in
theorem ggX5_ages_X5_age : GoodIn wsX5_ages wsX5_age := goodIn_r _ [6, 7, 8, 9, 10, 11, 12, 13, 14, 15, 16, 17, 18, 19, 20, 21, 22, 23, 24, 25, 26, 27, 28, 29, 30, 31, 32, 33, 34, 35, 36, 37, 38, 39, 40, 41, 42, 43, 44, 45, 46, 47, 48, 49, 50] (by decide +kernel) (by decide +kernel)
set_option maxRecDepth 20000 in
theorem gX5_ages_X5_age : GoodIn wsX5_ages (wsV RX5 194 RX5 yX5_age wsX5_age) := goodIn_app (goodIn_of _ (by decide +kernel)) ggX5_ages_X5_age
theorem dX5_ages_0 : decode cX5_ages 0 = .ok (.iconst 0, 1) := by decide +kernel
theorem dX5_ages_1 : decode cX5_ages 1 = .ok (.istore_n 1, 1) := by decide +kernel
theorem dX5_ages_2 : decode cX5_ages 2 = .ok (.iconst 0, 1) := by decide +kernel
theorem dX5_ages_3 : decode cX5_ages 3 = .ok (.istore_n 2, 1) := by decide +kernel
theorem dX5_ages_4 : decode cX5_ages 4 = .ok (.iload_n 2, 1) := by decide +kernel
theorem dX5_ages_5 : decode cX5_ages 5 = .ok (.aload_n 0, 1) := by decide +kernel
theorem dX5_ages_6 : decode cX5_ages 6 = .ok (.getfield 105, 3) := by decide +kernel
theorem dX5_ages_9 : decode cX5_ages 9 = .ok (.if_icmp .ge 17, 3) := by decide +kernel
theorem dX5_ages_12 : decode cX5_ages 12 = .ok (.iload_n 1, 1) := by decide +kernel
theorem dX5_ages_13 : decode cX5_ages 13 = .ok (.aload_n 0, 1) := by decide +kernel
theorem dX5_ages_14 : decode cX5_ages 14 = .ok (.iload_n 2, 1) := by decide +kernel
theorem dX5_ages_15 : decode cX5_ages 15 = .ok (.invokevirtual 194, 3) := by decide +kernel
theorem dX5_ages_18 : decode cX5_ages 18 = .ok (.iadd, 1) := by decide +kernel
theorem dX5_ages_19 : decode cX5_ages 19 = .ok (.istore_n 1, 1) := by decide +kernel
theorem dX5_ages_20 : decode cX5_ages 20 = .ok (.iinc 2 1, 3) := by decide +kernel
theorem dX5_ages_23 : decode cX5_ages 23 = .ok (.goto (-19), 3) := by decide +kernel
theorem dX5_ages_26 : decode cX5_ages 26 = .ok (.iload_n 1, 1) := by decide +kernel
theorem dX5_ages_27 : decode cX5_ages 27 = .ok (.ireturn, 1) := by decide +kernel
set_option maxRecDepth 20000 in
theorem ggX5_told_X5_isCard : GoodIn wsX5_told wsX5_isCard := goodIn_r _ [8, 9, 10, 11, 7, 12, 109, 110, 111, 112, 113, 114, 115, 116, 117, 118, 119, 120, 121, 122, 123, 124, 125, 126, 127, 128, 129, 130, 131, 132, 133, 134, 135, 136, 137, 138, 139, 140, 141, 142, 143, 144, 145, 146, 147, 148, 149, 150] (by decide +kernel) (by decide +kernel)
set_option maxRecDepth 20000 in
theorem gX5_told_X5_isCard : GoodIn wsX5_told (wsV RX5 124 RX5 yX5_isCard wsX5_isCard) := goodIn_app (goodIn_of _ (by decide +kernel)) ggX5_told_X5_isCard
set_option maxRecDepth 20000 in
theorem ggX5_told_X5_in : GoodIn wsX5_told wsX5_in := goodIn_r _ [12] (by decide +kernel) (by decide +kernel)
set_option maxRecDepth 20000 in
theorem gX5_told_X5_in : GoodIn wsX5_told (va_wsS RX5 108 yX5_in wsX5_in) := goodIn_app (goodIn_of _ (by decide +kernel)) ggX5_told_X5_in
set_option maxRecDepth 20000 in
theorem ggX5_told_X5_goesBy : GoodIn wsX5_told wsX5_goesBy := goodIn_r _ [16, 17, 18, 19, 20, 21, 22, 23, 24, 25, 26, 27, 28, 29, 30, 31, 7, 32, 109, 110, 111, 112, 113, 114, 115, 116, 117, 118, 119, 120, 121, 122, 123, 124, 125, 126, 127, 128, 129, 130, 131, 132, 133, 134, 135, 136, 137, 138, 139, 140, 141, 142, 143, 144, 145, 146, 147, 148, 149, 150] (by decide +kernel) (by decide +kernel)
set_option maxRecDepth 20000 in
theorem gX5_told_X5_goesBy : GoodIn wsX5_told (wsV RX5 198 RX5 yX5_goesBy wsX5_goesBy) := goodIn_app (goodIn_of _ (by decide +kernel)) ggX5_told_X5_goesBy
set_option maxRecDepth 20000 in
theorem ggX5_told_X5_runs : GoodIn wsX5_told wsX5_runs := goodIn_r _ [36, 37, 38, 9, 39, 3, 40, 41, 42, 7, 43, 44, 45, 46, 47, 48, 2, 49, 50, 51, 52, 53, 54, 55, 56, 57, 58, 59, 60, 61, 62, 63, 64, 65, 66, 67, 68, 69, 70, 71, 72, 20, 17, 73, 74, 75, 76, 77, 10, 11, 12, 78, 79, 80, 81, 82, 29, 83, 84, 85, 86, 87, 88, 89, 90, 91, 92, 93, 94, 23, 28, 95, 96, 97, 98, 99, 100, 101, 102, 103, 104, 109, 110, 111, 112, 113, 114, 115, 116, 117, 118, 119, 120, 121, 122, 123, 124, 125, 126, 127, 128, 129, 130, 131, 132, 133, 134, 135, 136, 137, 138, 139, 140, 141, 142, 143, 144, 145, 146, 147, 148, 149, 150] (by decide +kernel) (by decide +kernel)
set_option maxRecDepth 20000 in
theorem gX5_told_X5_runs : GoodIn wsX5_told (wsV RX5 203 RX5 yX5_runs wsX5_runs) := goodIn_app (goodIn_of _ (by decide +kernel)) ggX5_told_X5_runs
set_option maxRecDepth 20000 in
theorem ggX5_told_X5_age : GoodIn wsX5_told wsX5_age := goodIn_r _ [108, 2, 55, 109, 110, 111, 112, 113, 114, 115, 116, 117, 118, 119, 120, 121, 122, 123, 124, 125, 126, 127, 128, 129, 130, 131, 132, 133, 134, 135, 136, 137, 138, 139, 140, 141, 142, 143, 144, 145, 146, 147, 148, 149, 150] (by decide +kernel) (by decide +kernel)
set_option maxRecDepth 20000 in
theorem gX5_told_X5_age : GoodIn wsX5_told (wsV RX5 194 RX5 yX5_age wsX5_age) := goodIn_app (goodIn_of _ (by decide +kernel)) ggX5_told_X5_age
theorem dX5_told_0 : decode cX5_told 0 = .ok (.aload_n 0, 1) := by decide +kernel
theorem dX5_told_1 : decode cX5_told 1 = .ok (.iload_n 1, 1) := by decide +kernel
theorem dX5_told_2 : decode cX5_told 2 = .ok (.invokevirtual 124, 3) := by decide +kernel
theorem dX5_told_5 : decode cX5_told 5 = .ok (.ifCond .eq 12, 3) := by decide +kernel
theorem dX5_told_8 : decode cX5_told 8 = .ok (.iload_n 2, 1) := by decide +kernel
theorem dX5_told_9 : decode cX5_told 9 = .ok (.iconst 0, 1) := by decide +kernel
theorem dX5_told_10 : decode cX5_told 10 = .ok (.iconst 5, 1) := by decide +kernel
theorem dX5_told_11 : decode cX5_told 11 = .ok (.invokestatic 108, 3) := by decide +kernel
theorem dX5_told_14 : decode cX5_told 14 = .ok (.ifCond .ne 5, 3) := by decide +kernel
theorem dX5_told_17 : decode cX5_told 17 = .ok (.iconst (-1), 1) := by decide +kernel
theorem dX5_told_18 : decode cX5_told 18 = .ok (.ireturn, 1) := by decide +kernel
theorem dX5_told_19 : decode cX5_told 19 = .ok (.aload_n 0, 1) := by decide +kernel
theorem dX5_told_20 : decode cX5_told 20 = .ok (.iload_n 3, 1) := by decide +kernel
theorem dX5_told_21 : decode cX5_told 21 = .ok (.invokevirtual 198, 3) := by decide +kernel
theorem dX5_told_24 : decode cX5_told 24 = .ok (.aload_n 0, 1) := by decide +kernel
theorem dX5_told_25 : decode cX5_told 25 = .ok (.ldc 202, 2) := by decide +kernel
theorem dX5_told_27 : decode cX5_told 27 = .ok (.invokevirtual 203, 3) := by decide +kernel
theorem dX5_told_30 : decode cX5_told 30 = .ok (.iload_n 2, 1) := by decide +kernel
theorem dX5_told_31 : decode cX5_told 31 = .ok (.ifCond .ne 12, 3) := by decide +kernel
theorem dX5_told_34 : decode cX5_told 34 = .ok (.aload_n 0, 1) := by decide +kernel
theorem dX5_told_35 : decode cX5_told 35 = .ok (.getfield 84, 3) := by decide +kernel
theorem dX5_told_38 : decode cX5_told 38 = .ok (.iload_n 1, 1) := by decide +kernel
theorem dX5_told_39 : decode cX5_told 39 = .ok (.iaload, 1) := by decide +kernel
theorem dX5_told_40 : decode cX5_told 40 = .ok (.goto 28, 3) := by decide +kernel
theorem dX5_told_43 : decode cX5_told 43 = .ok (.iload_n 2, 1) := by decide +kernel
theorem dX5_told_44 : decode cX5_told 44 = .ok (.iconst 1, 1) := by decide +kernel
theorem dX5_told_45 : decode cX5_told 45 = .ok (.if_icmp .ne 11, 3) := by decide +kernel
theorem dX5_told_48 : decode cX5_told 48 = .ok (.aload_n 0, 1) := by decide +kernel
theorem dX5_told_49 : decode cX5_told 49 = .ok (.iload_n 1, 1) := by decide +kernel
theorem dX5_told_50 : decode cX5_told 50 = .ok (.invokevirtual 194, 3) := by decide +kernel
theorem dX5_told_53 : decode cX5_told 53 = .ok (.goto 15, 3) := by decide +kernel
theorem dX5_told_56 : decode cX5_told 56 = .ok (.aload_n 0, 1) := by decide +kernel
theorem dX5_told_57 : decode cX5_told 57 = .ok (.getfield 93, 3) := by decide +kernel
theorem dX5_told_60 : decode cX5_told 60 = .ok (.iconst 5, 1) := by decide +kernel
theorem dX5_told_61 : decode cX5_told 61 = .ok (.iload_n 1, 1) := by decide +kernel
theorem dX5_told_62 : decode cX5_told 62 = .ok (.imul, 1) := by decide +kernel
theorem dX5_told_63 : decode cX5_told 63 = .ok (.iload_n 2, 1) := by decide +kernel
theorem dX5_told_64 : decode cX5_told 64 = .ok (.iadd, 1) := by decide +kernel
theorem dX5_told_65 : decode cX5_told 65 = .ok (.iconst 1, 1) := by decide +kernel
theorem dX5_told_66 : decode cX5_told 66 = .ok (.isub, 1) := by decide +kernel
theorem dX5_told_67 : decode cX5_told 67 = .ok (.iaload, 1) := by decide +kernel
theorem dX5_told_68 : decode cX5_told 68 = .ok (.ireturn, 1) := by decide +kernel
set_option maxRecDepth 20000 in
theorem ggX5_at_X5_isCard : GoodIn wsX5_at wsX5_isCard := goodIn_r _ [6, 7, 8, 9, 5, 10, 104, 105, 106, 107, 108, 109, 110, 111, 112, 113, 114, 115, 116, 117, 118, 119, 120, 121, 122, 123, 124, 125, 126, 127, 128, 129, 130, 131, 132, 133, 134, 135, 136, 137, 138, 139, 140, 141, 142, 143, 144, 145] (by decide +kernel) (by decide +kernel)
set_option maxRecDepth 20000 in
theorem gX5_at_X5_isCard : GoodIn wsX5_at (wsV RX5 124 RX5 yX5_isCard wsX5_isCard) := goodIn_app (goodIn_of _ (by decide +kernel)) ggX5_at_X5_isCard
set_option maxRecDepth 20000 in
theorem ggX5_at_X5_in : GoodIn wsX5_at wsX5_in := goodIn_r _ [10] (by decide +kernel) (by decide +kernel)
set_option maxRecDepth 20000 in
theorem gX5_at_X5_in : GoodIn wsX5_at (va_wsS RX5 108 yX5_in wsX5_in) := goodIn_app (goodIn_of _ (by decide +kernel)) ggX5_at_X5_in
set_option maxRecDepth 20000 in
theorem ggX5_at_X5_goesBy : GoodIn wsX5_at wsX5_goesBy := goodIn_r _ [14, 15, 16, 17, 18, 19, 20, 21, 22, 23, 24, 25, 26, 27, 28, 29, 5, 30, 104, 105, 106, 107, 108, 109, 110, 111, 112, 113, 114, 115, 116, 117, 118, 119, 120, 121, 122, 123, 124, 125, 126, 127, 128, 129, 130, 131, 132, 133, 134, 135, 136, 137, 138, 139, 140, 141, 142, 143, 144, 145] (by decide +kernel) (by decide +kernel)
set_option maxRecDepth 20000 in
theorem gX5_at_X5_goesBy : GoodIn wsX5_at (wsV RX5 198 RX5 yX5_goesBy wsX5_goesBy) := goodIn_app (goodIn_of _ (by decide +kernel)) ggX5_at_X5_goesBy
set_option maxRecDepth 20000 in
theorem ggX5_at_X5_runs : GoodIn wsX5_at wsX5_runs := goodIn_r _ [34, 35, 36, 7, 37, 38, 39, 40, 41, 5, 42, 1, 43, 44, 45, 46, 47, 48, 49, 50, 51, 52, 53, 54, 55, 56, 57, 58, 59, 60, 61, 62, 63, 64, 65, 66, 67, 68, 69, 70, 71, 18, 15, 72, 73, 74, 75, 76, 8, 9, 10, 77, 78, 79, 80, 81, 27, 82, 83, 84, 85, 86, 87, 88, 89, 90, 91, 92, 93, 21, 26, 94, 95, 96, 97, 98, 99, 100, 101, 102, 103, 104, 105, 106, 107, 108, 109, 110, 111, 112, 113, 114, 115, 116, 117, 118, 119, 120, 121, 122, 123, 124, 125, 126, 127, 128, 129, 130, 131, 132, 133, 134, 135, 136, 137, 138, 139, 140, 141, 142, 143, 144, 145] (by decide +kernel) (by decide +kernel)
set_option maxRecDepth 20000 in
theorem gX5_at_X5_runs : GoodIn wsX5_at (wsV RX5 203 RX5 yX5_runs wsX5_runs) := goodIn_app (goodIn_of _ (by decide +kernel)) ggX5_at_X5_runs
theorem dX5_at_0 : decode cX5_at 0 = .ok (.aload_n 0, 1) := by decide +kernel
theorem dX5_at_1 : decode cX5_at 1 = .ok (.iload_n 1, 1) := by decide +kernel
theorem dX5_at_2 : decode cX5_at 2 = .ok (.invokevirtual 124, 3) := by decide +kernel
theorem dX5_at_5 : decode cX5_at 5 = .ok (.ifCond .eq 14, 3) := by decide +kernel
theorem dX5_at_8 : decode cX5_at 8 = .ok (.iload_n 2, 1) := by decide +kernel
theorem dX5_at_9 : decode cX5_at 9 = .ok (.iconst 0, 1) := by decide +kernel
theorem dX5_at_10 : decode cX5_at 10 = .ok (.sipush 3000, 3) := by decide +kernel
theorem dX5_at_13 : decode cX5_at 13 = .ok (.invokestatic 108, 3) := by decide +kernel
theorem dX5_at_16 : decode cX5_at 16 = .ok (.ifCond .ne 5, 3) := by decide +kernel
theorem dX5_at_19 : decode cX5_at 19 = .ok (.iconst (-1), 1) := by decide +kernel
theorem dX5_at_20 : decode cX5_at 20 = .ok (.ireturn, 1) := by decide +kernel
theorem dX5_at_21 : decode cX5_at 21 = .ok (.aload_n 0, 1) := by decide +kernel
theorem dX5_at_22 : decode cX5_at 22 = .ok (.iload_n 3, 1) := by decide +kernel
theorem dX5_at_23 : decode cX5_at 23 = .ok (.invokevirtual 198, 3) := by decide +kernel
theorem dX5_at_26 : decode cX5_at 26 = .ok (.aload_n 0, 1) := by decide +kernel
theorem dX5_at_27 : decode cX5_at 27 = .ok (.iload_n 2, 1) := by decide +kernel
theorem dX5_at_28 : decode cX5_at 28 = .ok (.invokevirtual 203, 3) := by decide +kernel
theorem dX5_at_31 : decode cX5_at 31 = .ok (.aload_n 0, 1) := by decide +kernel
theorem dX5_at_32 : decode cX5_at 32 = .ok (.getfield 66, 3) := by decide +kernel
theorem dX5_at_35 : decode cX5_at 35 = .ok (.iload_n 1, 1) := by decide +kernel
theorem dX5_at_36 : decode cX5_at 36 = .ok (.iaload, 1) := by decide +kernel
theorem dX5_at_37 : decode cX5_at 37 = .ok (.ireturn, 1) := by decide +kernel
set_option maxRecDepth 20000 in
theorem ggX5_reason_X5_isCard : GoodIn wsX5_reason wsX5_isCard := goodIn_r _ [6, 7, 8, 9, 5, 10, 104, 105, 106, 107, 108, 109, 110, 111, 112, 113, 114, 115, 116, 117, 118, 119, 120, 121, 122, 123, 124, 125, 126, 127, 128, 129, 130, 131, 132, 133, 134, 135, 136, 137, 138, 139, 140, 141, 142, 143, 144, 145] (by decide +kernel) (by decide +kernel)
set_option maxRecDepth 20000 in
theorem gX5_reason_X5_isCard : GoodIn wsX5_reason (wsV RX5 124 RX5 yX5_isCard wsX5_isCard) := goodIn_app (goodIn_of _ (by decide +kernel)) ggX5_reason_X5_isCard
set_option maxRecDepth 20000 in
theorem ggX5_reason_X5_in : GoodIn wsX5_reason wsX5_in := goodIn_r _ [10] (by decide +kernel) (by decide +kernel)
set_option maxRecDepth 20000 in
theorem gX5_reason_X5_in : GoodIn wsX5_reason (va_wsS RX5 108 yX5_in wsX5_in) := goodIn_app (goodIn_of _ (by decide +kernel)) ggX5_reason_X5_in
set_option maxRecDepth 20000 in
theorem ggX5_reason_X5_goesBy : GoodIn wsX5_reason wsX5_goesBy := goodIn_r _ [14, 15, 16, 17, 18, 19, 20, 21, 22, 23, 24, 25, 26, 27, 28, 29, 5, 30, 104, 105, 106, 107, 108, 109, 110, 111, 112, 113, 114, 115, 116, 117, 118, 119, 120, 121, 122, 123, 124, 125, 126, 127, 128, 129, 130, 131, 132, 133, 134, 135, 136, 137, 138, 139, 140, 141, 142, 143, 144, 145] (by decide +kernel) (by decide +kernel)
set_option maxRecDepth 20000 in
theorem gX5_reason_X5_goesBy : GoodIn wsX5_reason (wsV RX5 198 RX5 yX5_goesBy wsX5_goesBy) := goodIn_app (goodIn_of _ (by decide +kernel)) ggX5_reason_X5_goesBy
set_option maxRecDepth 20000 in
theorem ggX5_reason_X5_runs : GoodIn wsX5_reason wsX5_runs := goodIn_r _ [34, 35, 36, 7, 1, 37, 38, 39, 40, 5, 41, 42, 43, 44, 45, 46, 47, 48, 49, 50, 51, 52, 53, 54, 55, 56, 57, 58, 59, 60, 61, 62, 63, 64, 65, 66, 67, 68, 69, 70, 71, 18, 15, 72, 73, 74, 75, 76, 8, 9, 10, 77, 78, 79, 80, 81, 27, 82, 83, 84, 85, 86, 87, 88, 89, 90, 91, 92, 93, 21, 26, 94, 95, 96, 97, 98, 99, 100, 101, 102, 103, 104, 105, 106, 107, 108, 109, 110, 111, 112, 113, 114, 115, 116, 117, 118, 119, 120, 121, 122, 123, 124, 125, 126, 127, 128, 129, 130, 131, 132, 133, 134, 135, 136, 137, 138, 139, 140, 141, 142, 143, 144, 145] (by decide +kernel) (by decide +kernel)
set_option maxRecDepth 20000 in
theorem gX5_reason_X5_runs : GoodIn wsX5_reason (wsV RX5 203 RX5 yX5_runs wsX5_runs) := goodIn_app (goodIn_of _ (by decide +kernel)) ggX5_reason_X5_runs
theorem dX5_reason_0 : decode cX5_reason 0 = .ok (.aload_n 0, 1) := by decide +kernel
theorem dX5_reason_1 : decode cX5_reason 1 = .ok (.iload_n 1, 1) := by decide +kernel
theorem dX5_reason_2 : decode cX5_reason 2 = .ok (.invokevirtual 124, 3) := by decide +kernel
theorem dX5_reason_5 : decode cX5_reason 5 = .ok (.ifCond .eq 14, 3) := by decide +kernel
theorem dX5_reason_8 : decode cX5_reason 8 = .ok (.iload_n 2, 1) := by decide +kernel
theorem dX5_reason_9 : decode cX5_reason 9 = .ok (.iconst 0, 1) := by decide +kernel
theorem dX5_reason_10 : decode cX5_reason 10 = .ok (.sipush 3000, 3) := by decide +kernel
theorem dX5_reason_13 : decode cX5_reason 13 = .ok (.invokestatic 108, 3) := by decide +kernel
theorem dX5_reason_16 : decode cX5_reason 16 = .ok (.ifCond .ne 5, 3) := by decide +kernel
theorem dX5_reason_19 : decode cX5_reason 19 = .ok (.iconst (-1), 1) := by decide +kernel
theorem dX5_reason_20 : decode cX5_reason 20 = .ok (.ireturn, 1) := by decide +kernel
theorem dX5_reason_21 : decode cX5_reason 21 = .ok (.aload_n 0, 1) := by decide +kernel
theorem dX5_reason_22 : decode cX5_reason 22 = .ok (.iload_n 3, 1) := by decide +kernel
theorem dX5_reason_23 : decode cX5_reason 23 = .ok (.invokevirtual 198, 3) := by decide +kernel
theorem dX5_reason_26 : decode cX5_reason 26 = .ok (.aload_n 0, 1) := by decide +kernel
theorem dX5_reason_27 : decode cX5_reason 27 = .ok (.iload_n 2, 1) := by decide +kernel
theorem dX5_reason_28 : decode cX5_reason 28 = .ok (.invokevirtual 203, 3) := by decide +kernel
theorem dX5_reason_31 : decode cX5_reason 31 = .ok (.aload_n 0, 1) := by decide +kernel
theorem dX5_reason_32 : decode cX5_reason 32 = .ok (.getfield 90, 3) := by decide +kernel
theorem dX5_reason_35 : decode cX5_reason 35 = .ok (.iload_n 1, 1) := by decide +kernel
theorem dX5_reason_36 : decode cX5_reason 36 = .ok (.iaload, 1) := by decide +kernel
theorem dX5_reason_37 : decode cX5_reason 37 = .ok (.ireturn, 1) := by decide +kernel
set_option maxRecDepth 20000 in
theorem ggX5_counts_X5_in : GoodIn wsX5_counts wsX5_in := goodIn_r _ [8] (by decide +kernel) (by decide +kernel)
set_option maxRecDepth 20000 in
theorem gX5_counts_X5_in : GoodIn wsX5_counts (va_wsS RX5 108 yX5_in wsX5_in) := goodIn_app (goodIn_of _ (by decide +kernel)) ggX5_counts_X5_in
set_option maxRecDepth 20000 in
theorem ggX5_counts_X5_goesBy : GoodIn wsX5_counts wsX5_goesBy := goodIn_r _ [12, 13, 14, 15, 16, 17, 18, 19, 20, 21, 22, 23, 24, 25, 26, 27, 7, 28, 100, 101, 102, 103, 104, 105, 106, 107, 108, 109, 110, 111, 112, 113, 114, 115, 116, 117, 118, 119, 120, 121, 122, 123, 124, 125, 126, 127, 128, 129, 130, 131, 132, 133, 134, 135, 136, 137, 138, 139, 140, 141] (by decide +kernel) (by decide +kernel)
set_option maxRecDepth 20000 in
theorem gX5_counts_X5_goesBy : GoodIn wsX5_counts (wsV RX5 198 RX5 yX5_goesBy wsX5_goesBy) := goodIn_app (goodIn_of _ (by decide +kernel)) ggX5_counts_X5_goesBy
set_option maxRecDepth 20000 in
theorem ggX5_counts_X5_runs : GoodIn wsX5_counts wsX5_runs := goodIn_r _ [32, 33, 34, 2, 35, 36, 37, 38, 39, 7, 40, 3, 41, 42, 43, 44, 45, 46, 47, 48, 49, 50, 51, 52, 53, 54, 55, 56, 4, 57, 1, 58, 59, 60, 61, 62, 63, 64, 65, 66, 67, 16, 13, 68, 69, 70, 71, 72, 5, 6, 8, 73, 74, 75, 76, 77, 25, 78, 79, 80, 81, 82, 83, 84, 85, 86, 87, 88, 89, 19, 24, 90, 91, 92, 93, 94, 95, 96, 97, 98, 99, 100, 101, 102, 103, 104, 105, 106, 107, 108, 109, 110, 111, 112, 113, 114, 115, 116, 117, 118, 119, 120, 121, 122, 123, 124, 125, 126, 127, 128, 129, 130, 131, 132, 133, 134, 135, 136, 137, 138, 139, 140, 141] (by decide +kernel) (by decide +kernel)
set_option maxRecDepth 20000 in
theorem gX5_counts_X5_runs : GoodIn wsX5_counts (wsV RX5 203 RX5 yX5_runs wsX5_runs) := goodIn_app (goodIn_of _ (by decide +kernel)) ggX5_counts_X5_runs
theorem dX5_counts_0 : decode cX5_counts 0 = .ok (.iload_n 1, 1) := by decide +kernel
theorem dX5_counts_1 : decode cX5_counts 1 = .ok (.iconst 0, 1) := by decide +kernel
theorem dX5_counts_2 : decode cX5_counts 2 = .ok (.sipush 3000, 3) := by decide +kernel
theorem dX5_counts_5 : decode cX5_counts 5 = .ok (.invokestatic 108, 3) := by decide +kernel
theorem dX5_counts_8 : decode cX5_counts 8 = .ok (.ifCond .eq 28, 3) := by decide +kernel
theorem dX5_counts_11 : decode cX5_counts 11 = .ok (.iload_n 2, 1) := by decide +kernel
theorem dX5_counts_12 : decode cX5_counts 12 = .ok (.iconst 0, 1) := by decide +kernel
theorem dX5_counts_13 : decode cX5_counts 13 = .ok (.iconst 3, 1) := by decide +kernel
theorem dX5_counts_14 : decode cX5_counts 14 = .ok (.invokestatic 108, 3) := by decide +kernel
theorem dX5_counts_17 : decode cX5_counts 17 = .ok (.ifCond .ne 21, 3) := by decide +kernel
theorem dX5_counts_20 : decode cX5_counts 20 = .ok (.iload_n 2, 1) := by decide +kernel
theorem dX5_counts_21 : decode cX5_counts 21 = .ok (.bipush 10, 2) := by decide +kernel
theorem dX5_counts_23 : decode cX5_counts 23 = .ok (.bipush 9, 2) := by decide +kernel
theorem dX5_counts_25 : decode cX5_counts 25 = .ok (.aload_n 0, 1) := by decide +kernel
theorem dX5_counts_26 : decode cX5_counts 26 = .ok (.getfield 7, 3) := by decide +kernel
theorem dX5_counts_29 : decode cX5_counts 29 = .ok (.iadd, 1) := by decide +kernel
theorem dX5_counts_30 : decode cX5_counts 30 = .ok (.invokestatic 108, 3) := by decide +kernel
theorem dX5_counts_33 : decode cX5_counts 33 = .ok (.ifCond .ne 5, 3) := by decide +kernel
theorem dX5_counts_36 : decode cX5_counts 36 = .ok (.iconst (-1), 1) := by decide +kernel
theorem dX5_counts_37 : decode cX5_counts 37 = .ok (.ireturn, 1) := by decide +kernel
theorem dX5_counts_38 : decode cX5_counts 38 = .ok (.aload_n 0, 1) := by decide +kernel
theorem dX5_counts_39 : decode cX5_counts 39 = .ok (.iload_n 3, 1) := by decide +kernel
theorem dX5_counts_40 : decode cX5_counts 40 = .ok (.invokevirtual 198, 3) := by decide +kernel
theorem dX5_counts_43 : decode cX5_counts 43 = .ok (.aload_n 0, 1) := by decide +kernel
theorem dX5_counts_44 : decode cX5_counts 44 = .ok (.iload_n 1, 1) := by decide +kernel
theorem dX5_counts_45 : decode cX5_counts 45 = .ok (.invokevirtual 203, 3) := by decide +kernel
theorem dX5_counts_48 : decode cX5_counts 48 = .ok (.iconst 0, 1) := by decide +kernel
theorem dX5_counts_49 : decode cX5_counts 49 = .ok (.istore 4, 2) := by decide +kernel
theorem dX5_counts_51 : decode cX5_counts 51 = .ok (.iconst 0, 1) := by decide +kernel
theorem dX5_counts_52 : decode cX5_counts 52 = .ok (.istore 5, 2) := by decide +kernel
theorem dX5_counts_54 : decode cX5_counts 54 = .ok (.iconst 0, 1) := by decide +kernel
theorem dX5_counts_55 : decode cX5_counts 55 = .ok (.istore 6, 2) := by decide +kernel
theorem dX5_counts_57 : decode cX5_counts 57 = .ok (.iconst 0, 1) := by decide +kernel
theorem dX5_counts_58 : decode cX5_counts 58 = .ok (.istore 7, 2) := by decide +kernel
theorem dX5_counts_60 : decode cX5_counts 60 = .ok (.iload 7, 2) := by decide +kernel
theorem dX5_counts_62 : decode cX5_counts 62 = .ok (.aload_n 0, 1) := by decide +kernel
theorem dX5_counts_63 : decode cX5_counts 63 = .ok (.getfield 105, 3) := by decide +kernel
theorem dX5_counts_66 : decode cX5_counts 66 = .ok (.if_icmp .ge 76, 3) := by decide +kernel
theorem dX5_counts_69 : decode cX5_counts 69 = .ok (.iload 4, 2) := by decide +kernel
theorem dX5_counts_71 : decode cX5_counts 71 = .ok (.aload_n 0, 1) := by decide +kernel
theorem dX5_counts_72 : decode cX5_counts 72 = .ok (.getfield 66, 3) := by decide +kernel
theorem dX5_counts_75 : decode cX5_counts 75 = .ok (.iload 7, 2) := by decide +kernel
theorem dX5_counts_77 : decode cX5_counts 77 = .ok (.iaload, 1) := by decide +kernel
theorem dX5_counts_78 : decode cX5_counts 78 = .ok (.iconst (-1), 1) := by decide +kernel
theorem dX5_counts_79 : decode cX5_counts 79 = .ok (.if_icmp .eq 7, 3) := by decide +kernel
theorem dX5_counts_82 : decode cX5_counts 82 = .ok (.iconst 1, 1) := by decide +kernel
theorem dX5_counts_83 : decode cX5_counts 83 = .ok (.goto 4, 3) := by decide +kernel
theorem dX5_counts_86 : decode cX5_counts 86 = .ok (.iconst 0, 1) := by decide +kernel
theorem dX5_counts_87 : decode cX5_counts 87 = .ok (.iadd, 1) := by decide +kernel
theorem dX5_counts_88 : decode cX5_counts 88 = .ok (.istore 4, 2) := by decide +kernel
theorem dX5_counts_90 : decode cX5_counts 90 = .ok (.iload 5, 2) := by decide +kernel
theorem dX5_counts_92 : decode cX5_counts 92 = .ok (.aload_n 0, 1) := by decide +kernel
theorem dX5_counts_93 : decode cX5_counts 93 = .ok (.getfield 66, 3) := by decide +kernel
theorem dX5_counts_96 : decode cX5_counts 96 = .ok (.iload 7, 2) := by decide +kernel
theorem dX5_counts_98 : decode cX5_counts 98 = .ok (.iaload, 1) := by decide +kernel
theorem dX5_counts_99 : decode cX5_counts 99 = .ok (.bipush 10, 2) := by decide +kernel
theorem dX5_counts_101 : decode cX5_counts 101 = .ok (.if_icmp .ne 7, 3) := by decide +kernel
theorem dX5_counts_104 : decode cX5_counts 104 = .ok (.iconst 1, 1) := by decide +kernel
theorem dX5_counts_105 : decode cX5_counts 105 = .ok (.goto 4, 3) := by decide +kernel
theorem dX5_counts_108 : decode cX5_counts 108 = .ok (.iconst 0, 1) := by decide +kernel
theorem dX5_counts_109 : decode cX5_counts 109 = .ok (.iadd, 1) := by decide +kernel
theorem dX5_counts_110 : decode cX5_counts 110 = .ok (.istore 5, 2) := by decide +kernel
theorem dX5_counts_112 : decode cX5_counts 112 = .ok (.iload 6, 2) := by decide +kernel
theorem dX5_counts_114 : decode cX5_counts 114 = .ok (.aload_n 0, 1) := by decide +kernel
theorem dX5_counts_115 : decode cX5_counts 115 = .ok (.getfield 66, 3) := by decide +kernel
theorem dX5_counts_118 : decode cX5_counts 118 = .ok (.iload 7, 2) := by decide +kernel
theorem dX5_counts_120 : decode cX5_counts 120 = .ok (.iaload, 1) := by decide +kernel
theorem dX5_counts_121 : decode cX5_counts 121 = .ok (.iload_n 2, 1) := by decide +kernel
theorem dX5_counts_122 : decode cX5_counts 122 = .ok (.bipush 10, 2) := by decide +kernel
theorem dX5_counts_124 : decode cX5_counts 124 = .ok (.isub, 1) := by decide +kernel
theorem dX5_counts_125 : decode cX5_counts 125 = .ok (.if_icmp .ne 7, 3) := by decide +kernel
theorem dX5_counts_128 : decode cX5_counts 128 = .ok (.iconst 1, 1) := by decide +kernel
theorem dX5_counts_129 : decode cX5_counts 129 = .ok (.goto 4, 3) := by decide +kernel
theorem dX5_counts_132 : decode cX5_counts 132 = .ok (.iconst 0, 1) := by decide +kernel
theorem dX5_counts_133 : decode cX5_counts 133 = .ok (.iadd, 1) := by decide +kernel
theorem dX5_counts_134 : decode cX5_counts 134 = .ok (.istore 6, 2) := by decide +kernel
theorem dX5_counts_136 : decode cX5_counts 136 = .ok (.iinc 7 1, 3) := by decide +kernel
theorem dX5_counts_139 : decode cX5_counts 139 = .ok (.goto (-79), 3) := by decide +kernel
theorem dX5_counts_142 : decode cX5_counts 142 = .ok (.iload_n 2, 1) := by decide +kernel
theorem dX5_counts_143 : decode cX5_counts 143 = .ok (.tableswitch 46 0 3 #[29, 32, 35, 41], 29) := by decide +kernel
theorem dX5_counts_172 : decode cX5_counts 172 = .ok (.iload 4, 2) := by decide +kernel
theorem dX5_counts_174 : decode cX5_counts 174 = .ok (.ireturn, 1) := by decide +kernel
theorem dX5_counts_175 : decode cX5_counts 175 = .ok (.iload 5, 2) := by decide +kernel
theorem dX5_counts_177 : decode cX5_counts 177 = .ok (.ireturn, 1) := by decide +kernel
theorem dX5_counts_178 : decode cX5_counts 178 = .ok (.iload 4, 2) := by decide +kernel
theorem dX5_counts_180 : decode cX5_counts 180 = .ok (.iload 5, 2) := by decide +kernel
theorem dX5_counts_182 : decode cX5_counts 182 = .ok (.isub, 1) := by decide +kernel
theorem dX5_counts_183 : decode cX5_counts 183 = .ok (.ireturn, 1) := by decide +kernel
theorem dX5_counts_184 : decode cX5_counts 184 = .ok (.aload_n 0, 1) := by decide +kernel
theorem dX5_counts_185 : decode cX5_counts 185 = .ok (.getfield 174, 3) := by decide +kernel
theorem dX5_counts_188 : decode cX5_counts 188 = .ok (.ireturn, 1) := by decide +kernel
theorem dX5_counts_189 : decode cX5_counts 189 = .ok (.iload 6, 2) := by decide +kernel
theorem dX5_counts_191 : decode cX5_counts 191 = .ok (.ireturn, 1) := by decide +kernel
set_option maxRecDepth 20000 in
theorem ggX5_length_X5_goesBy : GoodIn wsX5_length wsX5_goesBy := goodIn_r _ [8, 9, 10, 11, 12, 13, 14, 15, 16, 17, 18, 19, 20, 21, 22, 23, 7, 24, 113, 114, 115, 116, 117, 118, 119, 120, 121, 122, 123, 124, 125, 126, 127, 128, 129, 130, 131, 132, 133, 134, 135, 136, 137, 138, 139, 140, 141, 142, 143, 144, 145, 146, 147, 148, 149, 150, 151, 152, 153, 154] (by decide +kernel) (by decide +kernel)
set_option maxRecDepth 20000 in
theorem gX5_length_X5_goesBy : GoodIn wsX5_length (wsV RX5 198 RX5 yX5_goesBy wsX5_goesBy) := goodIn_app (goodIn_of _ (by decide +kernel)) ggX5_length_X5_goesBy
set_option maxRecDepth 20000 in
theorem ggX5_length_X5_runs : GoodIn wsX5_length wsX5_runs := goodIn_r _ [28, 2, 29, 30, 31, 32, 33, 34, 35, 7, 36, 37, 38, 39, 40, 41, 42, 43, 3, 44, 45, 46, 47, 48, 49, 50, 51, 52, 53, 54, 55, 56, 57, 58, 59, 60, 61, 62, 63, 64, 65, 12, 9, 66, 67, 68, 69, 70, 71, 72, 73, 74, 75, 76, 77, 78, 21, 79, 80, 81, 82, 83, 84, 85, 86, 87, 88, 89, 90, 15, 20, 91, 92, 93, 94, 95, 96, 97, 98, 99, 100, 113, 114, 115, 116, 117, 118, 119, 120, 121, 122, 123, 124, 125, 126, 127, 128, 129, 130, 131, 132, 133, 134, 135, 136, 137, 138, 139, 140, 141, 142, 143, 144, 145, 146, 147, 148, 149, 150, 151, 152, 153, 154] (by decide +kernel) (by decide +kernel)
set_option maxRecDepth 20000 in
theorem gX5_length_X5_runs : GoodIn wsX5_length (wsV RX5 203 RX5 yX5_runs wsX5_runs) := goodIn_app (goodIn_of _ (by decide +kernel)) ggX5_length_X5_runs
set_option maxRecDepth 20000 in
theorem ggX5_length_X5_areDone : GoodIn wsX5_length wsX5_areDone := goodIn_r _ [104, 30, 37, 113, 114, 115, 116, 117, 118, 119, 120, 121, 122, 123, 124, 125, 126, 127, 128, 129, 130, 131, 132, 133, 134, 135, 136, 137, 138, 139, 140, 141, 142, 143, 144, 145, 146, 147, 148, 149, 150, 151, 152, 153, 154] (by decide +kernel) (by decide +kernel)
set_option maxRecDepth 20000 in
theorem gX5_length_X5_areDone : GoodIn wsX5_length (wsV RX5 206 RX5 yX5_areDone wsX5_areDone) := goodIn_app (goodIn_of _ (by decide +kernel)) ggX5_length_X5_areDone
set_option maxRecDepth 20000 in
theorem ggX5_length_X5_ages : GoodIn wsX5_length wsX5_ages := goodIn_r _ [108, 30, 109, 110, 111, 7, 112, 42, 48, 113, 114, 115, 116, 117, 118, 119, 120, 121, 122, 123, 124, 125, 126, 127, 128, 129, 130, 131, 132, 133, 134, 135, 136, 137, 138, 139, 140, 141, 142, 143, 144, 145, 146, 147, 148, 149, 150, 151, 152, 153, 154] (by decide +kernel) (by decide +kernel)
set_option maxRecDepth 20000 in
theorem gX5_length_X5_ages : GoodIn wsX5_length (wsV RX5 210 RX5 yX5_ages wsX5_ages) := goodIn_app (goodIn_of _ (by decide +kernel)) ggX5_length_X5_ages
theorem dX5_length_0 : decode cX5_length 0 = .ok (.aload_n 0, 1) := by decide +kernel
theorem dX5_length_1 : decode cX5_length 1 = .ok (.iload_n 2, 1) := by decide +kernel
theorem dX5_length_2 : decode cX5_length 2 = .ok (.invokevirtual 198, 3) := by decide +kernel
theorem dX5_length_5 : decode cX5_length 5 = .ok (.aload_n 0, 1) := by decide +kernel
theorem dX5_length_6 : decode cX5_length 6 = .ok (.ldc 202, 2) := by decide +kernel
theorem dX5_length_8 : decode cX5_length 8 = .ok (.invokevirtual 203, 3) := by decide +kernel
theorem dX5_length_11 : decode cX5_length 11 = .ok (.iload_n 1, 1) := by decide +kernel
theorem dX5_length_12 : decode cX5_length 12 = .ok (.tableswitch 67 0 2 #[28, 33, 51], 28) := by decide +kernel
theorem dX5_length_40 : decode cX5_length 40 = .ok (.aload_n 0, 1) := by decide +kernel
theorem dX5_length_41 : decode cX5_length 41 = .ok (.getfield 140, 3) := by decide +kernel
theorem dX5_length_44 : decode cX5_length 44 = .ok (.ireturn, 1) := by decide +kernel
theorem dX5_length_45 : decode cX5_length 45 = .ok (.aload_n 0, 1) := by decide +kernel
theorem dX5_length_46 : decode cX5_length 46 = .ok (.invokevirtual 206, 3) := by decide +kernel
theorem dX5_length_49 : decode cX5_length 49 = .ok (.ifCond .eq 7, 3) := by decide +kernel
theorem dX5_length_52 : decode cX5_length 52 = .ok (.iconst (-1), 1) := by decide +kernel
theorem dX5_length_53 : decode cX5_length 53 = .ok (.goto 9, 3) := by decide +kernel
theorem dX5_length_56 : decode cX5_length 56 = .ok (.aload_n 0, 1) := by decide +kernel
theorem dX5_length_57 : decode cX5_length 57 = .ok (.getfield 143, 3) := by decide +kernel
theorem dX5_length_60 : decode cX5_length 60 = .ok (.iconst 1, 1) := by decide +kernel
theorem dX5_length_61 : decode cX5_length 61 = .ok (.iadd, 1) := by decide +kernel
theorem dX5_length_62 : decode cX5_length 62 = .ok (.ireturn, 1) := by decide +kernel
theorem dX5_length_63 : decode cX5_length 63 = .ok (.aload_n 0, 1) := by decide +kernel
theorem dX5_length_64 : decode cX5_length 64 = .ok (.invokevirtual 206, 3) := by decide +kernel
theorem dX5_length_67 : decode cX5_length 67 = .ok (.ifCond .eq 10, 3) := by decide +kernel
theorem dX5_length_70 : decode cX5_length 70 = .ok (.aload_n 0, 1) := by decide +kernel
theorem dX5_length_71 : decode cX5_length 71 = .ok (.invokevirtual 210, 3) := by decide +kernel
theorem dX5_length_74 : decode cX5_length 74 = .ok (.goto 4, 3) := by decide +kernel
theorem dX5_length_77 : decode cX5_length 77 = .ok (.iconst (-1), 1) := by decide +kernel
theorem dX5_length_78 : decode cX5_length 78 = .ok (.ireturn, 1) := by decide +kernel
theorem dX5_length_79 : decode cX5_length 79 = .ok (.iconst (-1), 1) := by decide +kernel
theorem dX5_length_80 : decode cX5_length 80 = .ok (.ireturn, 1) := by decide +kernel
set_option maxRecDepth 20000 in
theorem ggX5_differ_X5_goesBy : GoodIn wsX5_differ wsX5_goesBy := goodIn_r _ [12, 13, 14, 15, 16, 17, 18, 19, 20, 21, 22, 23, 24, 25, 26, 27, 11, 28, 103, 104, 105, 106, 107, 108, 109, 110, 111, 112, 113, 114, 115, 116, 117, 118, 119, 120, 121, 122, 123, 124, 125, 126, 127, 128, 129, 130, 131, 132, 133, 134, 135, 136, 137, 138, 139, 140, 141, 142, 143, 144] (by decide +kernel) (by decide +kernel)
set_option maxRecDepth 20000 in
theorem gX5_differ_X5_goesBy : GoodIn wsX5_differ (wsV RX5 198 RX5 yX5_goesBy wsX5_goesBy) := goodIn_app (goodIn_of _ (by decide +kernel)) ggX5_differ_X5_goesBy
set_option maxRecDepth 20000 in
theorem ggX5_differ_X5_runs : GoodIn wsX5_differ wsX5_runs := goodIn_r _ [32, 2, 33, 3, 34, 35, 36, 37, 38, 11, 39, 5, 7, 40, 41, 42, 43, 44, 45, 46, 47, 48, 49, 50, 51, 52, 53, 54, 55, 56, 57, 58, 59, 60, 61, 62, 63, 64, 65, 66, 67, 16, 13, 68, 69, 70, 71, 72, 73, 74, 75, 76, 77, 78, 79, 80, 25, 81, 82, 83, 84, 85, 86, 87, 88, 89, 90, 91, 92, 19, 24, 93, 94, 95, 96, 97, 98, 99, 100, 101, 102, 103, 104, 105, 106, 107, 108, 109, 110, 111, 112, 113, 114, 115, 116, 117, 118, 119, 120, 121, 122, 123, 124, 125, 126, 127, 128, 129, 130, 131, 132, 133, 134, 135, 136, 137, 138, 139, 140, 141, 142, 143, 144] (by decide +kernel) (by decide +kernel)
set_option maxRecDepth 20000 in
theorem gX5_differ_X5_runs : GoodIn wsX5_differ (wsV RX5 203 RX5 yX5_runs wsX5_runs) := goodIn_app (goodIn_of _ (by decide +kernel)) ggX5_differ_X5_runs
theorem dX5_differ_0 : decode cX5_differ 0 = .ok (.aload_n 0, 1) := by decide +kernel
theorem dX5_differ_1 : decode cX5_differ 1 = .ok (.iconst 0, 1) := by decide +kernel
theorem dX5_differ_2 : decode cX5_differ 2 = .ok (.invokevirtual 198, 3) := by decide +kernel
theorem dX5_differ_5 : decode cX5_differ 5 = .ok (.aload_n 0, 1) := by decide +kernel
theorem dX5_differ_6 : decode cX5_differ 6 = .ok (.ldc 202, 2) := by decide +kernel
theorem dX5_differ_8 : decode cX5_differ 8 = .ok (.invokevirtual 203, 3) := by decide +kernel
theorem dX5_differ_11 : decode cX5_differ 11 = .ok (.aload_n 0, 1) := by decide +kernel
theorem dX5_differ_12 : decode cX5_differ 12 = .ok (.getfield 140, 3) := by decide +kernel
theorem dX5_differ_15 : decode cX5_differ 15 = .ok (.istore_n 1, 1) := by decide +kernel
theorem dX5_differ_16 : decode cX5_differ 16 = .ok (.aload_n 0, 1) := by decide +kernel
theorem dX5_differ_17 : decode cX5_differ 17 = .ok (.iconst 1, 1) := by decide +kernel
theorem dX5_differ_18 : decode cX5_differ 18 = .ok (.invokevirtual 198, 3) := by decide +kernel
theorem dX5_differ_21 : decode cX5_differ 21 = .ok (.aload_n 0, 1) := by decide +kernel
theorem dX5_differ_22 : decode cX5_differ 22 = .ok (.ldc 202, 2) := by decide +kernel
theorem dX5_differ_24 : decode cX5_differ 24 = .ok (.invokevirtual 203, 3) := by decide +kernel
theorem dX5_differ_27 : decode cX5_differ 27 = .ok (.aload_n 0, 1) := by decide +kernel
theorem dX5_differ_28 : decode cX5_differ 28 = .ok (.getfield 140, 3) := by decide +kernel
theorem dX5_differ_31 : decode cX5_differ 31 = .ok (.iload_n 1, 1) := by decide +kernel
theorem dX5_differ_32 : decode cX5_differ 32 = .ok (.if_icmp .le 10, 3) := by decide +kernel
theorem dX5_differ_35 : decode cX5_differ 35 = .ok (.aload_n 0, 1) := by decide +kernel
theorem dX5_differ_36 : decode cX5_differ 36 = .ok (.getfield 140, 3) := by decide +kernel
theorem dX5_differ_39 : decode cX5_differ 39 = .ok (.goto 4, 3) := by decide +kernel
theorem dX5_differ_42 : decode cX5_differ 42 = .ok (.iload_n 1, 1) := by decide +kernel
theorem dX5_differ_43 : decode cX5_differ 43 = .ok (.istore_n 1, 1) := by decide +kernel
theorem dX5_differ_44 : decode cX5_differ 44 = .ok (.iconst 0, 1) := by decide +kernel
theorem dX5_differ_45 : decode cX5_differ 45 = .ok (.istore_n 2, 1) := by decide +kernel
theorem dX5_differ_46 : decode cX5_differ 46 = .ok (.iload_n 2, 1) := by decide +kernel
theorem dX5_differ_47 : decode cX5_differ 47 = .ok (.iload_n 1, 1) := by decide +kernel
theorem dX5_differ_48 : decode cX5_differ 48 = .ok (.if_icmp .gt 117, 3) := by decide +kernel
theorem dX5_differ_51 : decode cX5_differ 51 = .ok (.aload_n 0, 1) := by decide +kernel
theorem dX5_differ_52 : decode cX5_differ 52 = .ok (.iconst 0, 1) := by decide +kernel
theorem dX5_differ_53 : decode cX5_differ 53 = .ok (.invokevirtual 198, 3) := by decide +kernel
theorem dX5_differ_56 : decode cX5_differ 56 = .ok (.aload_n 0, 1) := by decide +kernel
theorem dX5_differ_57 : decode cX5_differ 57 = .ok (.iload_n 2, 1) := by decide +kernel
theorem dX5_differ_58 : decode cX5_differ 58 = .ok (.invokevirtual 203, 3) := by decide +kernel
theorem dX5_differ_61 : decode cX5_differ 61 = .ok (.iconst 0, 1) := by decide +kernel
theorem dX5_differ_62 : decode cX5_differ 62 = .ok (.istore_n 3, 1) := by decide +kernel
theorem dX5_differ_63 : decode cX5_differ 63 = .ok (.iload_n 3, 1) := by decide +kernel
theorem dX5_differ_64 : decode cX5_differ 64 = .ok (.aload_n 0, 1) := by decide +kernel
theorem dX5_differ_65 : decode cX5_differ 65 = .ok (.getfield 105, 3) := by decide +kernel
theorem dX5_differ_68 : decode cX5_differ 68 = .ok (.if_icmp .ge 33, 3) := by decide +kernel
theorem dX5_differ_71 : decode cX5_differ 71 = .ok (.aload_n 0, 1) := by decide +kernel
theorem dX5_differ_72 : decode cX5_differ 72 = .ok (.getfield 96, 3) := by decide +kernel
theorem dX5_differ_75 : decode cX5_differ 75 = .ok (.iload_n 3, 1) := by decide +kernel
theorem dX5_differ_76 : decode cX5_differ 76 = .ok (.aload_n 0, 1) := by decide +kernel
theorem dX5_differ_77 : decode cX5_differ 77 = .ok (.getfield 66, 3) := by decide +kernel
theorem dX5_differ_80 : decode cX5_differ 80 = .ok (.iload_n 3, 1) := by decide +kernel
theorem dX5_differ_81 : decode cX5_differ 81 = .ok (.iaload, 1) := by decide +kernel
theorem dX5_differ_82 : decode cX5_differ 82 = .ok (.iastore, 1) := by decide +kernel
theorem dX5_differ_83 : decode cX5_differ 83 = .ok (.aload_n 0, 1) := by decide +kernel
theorem dX5_differ_84 : decode cX5_differ 84 = .ok (.getfield 99, 3) := by decide +kernel
theorem dX5_differ_87 : decode cX5_differ 87 = .ok (.iload_n 3, 1) := by decide +kernel
theorem dX5_differ_88 : decode cX5_differ 88 = .ok (.aload_n 0, 1) := by decide +kernel
theorem dX5_differ_89 : decode cX5_differ 89 = .ok (.getfield 69, 3) := by decide +kernel
theorem dX5_differ_92 : decode cX5_differ 92 = .ok (.iload_n 3, 1) := by decide +kernel
theorem dX5_differ_93 : decode cX5_differ 93 = .ok (.iaload, 1) := by decide +kernel
theorem dX5_differ_94 : decode cX5_differ 94 = .ok (.iastore, 1) := by decide +kernel
theorem dX5_differ_95 : decode cX5_differ 95 = .ok (.iinc 3 1, 3) := by decide +kernel
theorem dX5_differ_98 : decode cX5_differ 98 = .ok (.goto (-35), 3) := by decide +kernel
theorem dX5_differ_101 : decode cX5_differ 101 = .ok (.aload_n 0, 1) := by decide +kernel
theorem dX5_differ_102 : decode cX5_differ 102 = .ok (.iconst 1, 1) := by decide +kernel
theorem dX5_differ_103 : decode cX5_differ 103 = .ok (.invokevirtual 198, 3) := by decide +kernel
theorem dX5_differ_106 : decode cX5_differ 106 = .ok (.aload_n 0, 1) := by decide +kernel
theorem dX5_differ_107 : decode cX5_differ 107 = .ok (.iload_n 2, 1) := by decide +kernel
theorem dX5_differ_108 : decode cX5_differ 108 = .ok (.invokevirtual 203, 3) := by decide +kernel
theorem dX5_differ_111 : decode cX5_differ 111 = .ok (.iconst 0, 1) := by decide +kernel
theorem dX5_differ_112 : decode cX5_differ 112 = .ok (.istore_n 3, 1) := by decide +kernel
theorem dX5_differ_113 : decode cX5_differ 113 = .ok (.iload_n 3, 1) := by decide +kernel
theorem dX5_differ_114 : decode cX5_differ 114 = .ok (.aload_n 0, 1) := by decide +kernel
theorem dX5_differ_115 : decode cX5_differ 115 = .ok (.getfield 105, 3) := by decide +kernel
theorem dX5_differ_118 : decode cX5_differ 118 = .ok (.if_icmp .ge 41, 3) := by decide +kernel
theorem dX5_differ_121 : decode cX5_differ 121 = .ok (.aload_n 0, 1) := by decide +kernel
theorem dX5_differ_122 : decode cX5_differ 122 = .ok (.getfield 96, 3) := by decide +kernel
theorem dX5_differ_125 : decode cX5_differ 125 = .ok (.iload_n 3, 1) := by decide +kernel
theorem dX5_differ_126 : decode cX5_differ 126 = .ok (.iaload, 1) := by decide +kernel
theorem dX5_differ_127 : decode cX5_differ 127 = .ok (.aload_n 0, 1) := by decide +kernel
theorem dX5_differ_128 : decode cX5_differ 128 = .ok (.getfield 66, 3) := by decide +kernel
theorem dX5_differ_131 : decode cX5_differ 131 = .ok (.iload_n 3, 1) := by decide +kernel
theorem dX5_differ_132 : decode cX5_differ 132 = .ok (.iaload, 1) := by decide +kernel
theorem dX5_differ_133 : decode cX5_differ 133 = .ok (.if_icmp .ne 18, 3) := by decide +kernel
theorem dX5_differ_136 : decode cX5_differ 136 = .ok (.aload_n 0, 1) := by decide +kernel
theorem dX5_differ_137 : decode cX5_differ 137 = .ok (.getfield 99, 3) := by decide +kernel
theorem dX5_differ_140 : decode cX5_differ 140 = .ok (.iload_n 3, 1) := by decide +kernel
theorem dX5_differ_141 : decode cX5_differ 141 = .ok (.iaload, 1) := by decide +kernel
theorem dX5_differ_142 : decode cX5_differ 142 = .ok (.aload_n 0, 1) := by decide +kernel
theorem dX5_differ_143 : decode cX5_differ 143 = .ok (.getfield 69, 3) := by decide +kernel
theorem dX5_differ_146 : decode cX5_differ 146 = .ok (.iload_n 3, 1) := by decide +kernel
theorem dX5_differ_147 : decode cX5_differ 147 = .ok (.iaload, 1) := by decide +kernel
theorem dX5_differ_148 : decode cX5_differ 148 = .ok (.if_icmp .eq 5, 3) := by decide +kernel
theorem dX5_differ_151 : decode cX5_differ 151 = .ok (.iload_n 2, 1) := by decide +kernel
theorem dX5_differ_152 : decode cX5_differ 152 = .ok (.ireturn, 1) := by decide +kernel
theorem dX5_differ_153 : decode cX5_differ 153 = .ok (.iinc 3 1, 3) := by decide +kernel
theorem dX5_differ_156 : decode cX5_differ 156 = .ok (.goto (-43), 3) := by decide +kernel
theorem dX5_differ_159 : decode cX5_differ 159 = .ok (.iinc 2 1, 3) := by decide +kernel
theorem dX5_differ_162 : decode cX5_differ 162 = .ok (.goto (-116), 3) := by decide +kernel
theorem dX5_differ_165 : decode cX5_differ 165 = .ok (.iconst (-1), 1) := by decide +kernel
theorem dX5_differ_166 : decode cX5_differ 166 = .ok (.ireturn, 1) := by decide +kernel
set_option maxRecDepth 20000 in
theorem ggX5_promise_X5_goesBy : GoodIn wsX5_promise wsX5_goesBy := goodIn_r _ [8, 9, 10, 11, 12, 13, 14, 15, 16, 17, 18, 19, 20, 21, 22, 23, 7, 24, 105, 106, 107, 108, 109, 110, 111, 112, 113, 114, 115, 116, 117, 118, 119, 120, 121, 122, 123, 124, 125, 126, 127, 128, 129, 130, 131, 132, 133, 134, 135, 136, 137, 138, 139, 140, 141, 142, 143, 144, 145, 146] (by decide +kernel) (by decide +kernel)
set_option maxRecDepth 20000 in
theorem gX5_promise_X5_goesBy : GoodIn wsX5_promise (wsV RX5 198 RX5 yX5_goesBy wsX5_goesBy) := goodIn_app (goodIn_of _ (by decide +kernel)) ggX5_promise_X5_goesBy
set_option maxRecDepth 20000 in
theorem ggX5_promise_X5_runs : GoodIn wsX5_promise wsX5_runs := goodIn_r _ [28, 29, 30, 2, 31, 32, 33, 34, 35, 7, 36, 37, 38, 39, 40, 41, 3, 42, 43, 44, 45, 46, 47, 48, 49, 50, 51, 52, 53, 54, 55, 56, 57, 58, 59, 60, 61, 62, 63, 64, 65, 12, 9, 66, 67, 68, 69, 70, 71, 72, 73, 74, 75, 76, 77, 78, 21, 79, 80, 81, 82, 83, 84, 85, 86, 87, 88, 89, 90, 15, 20, 91, 92, 93, 94, 95, 96, 97, 98, 99, 100, 105, 106, 107, 108, 109, 110, 111, 112, 113, 114, 115, 116, 117, 118, 119, 120, 121, 122, 123, 124, 125, 126, 127, 128, 129, 130, 131, 132, 133, 134, 135, 136, 137, 138, 139, 140, 141, 142, 143, 144, 145, 146] (by decide +kernel) (by decide +kernel)
set_option maxRecDepth 20000 in
theorem gX5_promise_X5_runs : GoodIn wsX5_promise (wsV RX5 203 RX5 yX5_runs wsX5_runs) := goodIn_app (goodIn_of _ (by decide +kernel)) ggX5_promise_X5_runs
set_option maxRecDepth 20000 in
theorem ggX5_promise_X5_in : GoodIn wsX5_promise wsX5_in := goodIn_r _ [73] (by decide +kernel) (by decide +kernel)
set_option maxRecDepth 20000 in
theorem gX5_promise_X5_in : GoodIn wsX5_promise (va_wsS RX5 108 yX5_in wsX5_in) := goodIn_app (goodIn_of _ (by decide +kernel)) ggX5_promise_X5_in
set_option maxRecDepth 20000 in
theorem ggX5_promise_X5_age : GoodIn wsX5_promise wsX5_age := goodIn_r _ [104, 3, 48, 105, 106, 107, 108, 109, 110, 111, 112, 113, 114, 115, 116, 117, 118, 119, 120, 121, 122, 123, 124, 125, 126, 127, 128, 129, 130, 131, 132, 133, 134, 135, 136, 137, 138, 139, 140, 141, 142, 143, 144, 145, 146] (by decide +kernel) (by decide +kernel)
set_option maxRecDepth 20000 in
theorem gX5_promise_X5_age : GoodIn wsX5_promise (wsV RX5 194 RX5 yX5_age wsX5_age) := goodIn_app (goodIn_of _ (by decide +kernel)) ggX5_promise_X5_age
theorem dX5_promise_0 : decode cX5_promise 0 = .ok (.aload_n 0, 1) := by decide +kernel
theorem dX5_promise_1 : decode cX5_promise 1 = .ok (.iload_n 2, 1) := by decide +kernel
theorem dX5_promise_2 : decode cX5_promise 2 = .ok (.invokevirtual 198, 3) := by decide +kernel
theorem dX5_promise_5 : decode cX5_promise 5 = .ok (.aload_n 0, 1) := by decide +kernel
theorem dX5_promise_6 : decode cX5_promise 6 = .ok (.ldc 202, 2) := by decide +kernel
theorem dX5_promise_8 : decode cX5_promise 8 = .ok (.invokevirtual 203, 3) := by decide +kernel
theorem dX5_promise_11 : decode cX5_promise 11 = .ok (.iconst 0, 1) := by decide +kernel
theorem dX5_promise_12 : decode cX5_promise 12 = .ok (.istore_n 3, 1) := by decide +kernel
theorem dX5_promise_13 : decode cX5_promise 13 = .ok (.iconst 0, 1) := by decide +kernel
theorem dX5_promise_14 : decode cX5_promise 14 = .ok (.istore 4, 2) := by decide +kernel
theorem dX5_promise_16 : decode cX5_promise 16 = .ok (.iload 4, 2) := by decide +kernel
theorem dX5_promise_18 : decode cX5_promise 18 = .ok (.aload_n 0, 1) := by decide +kernel
theorem dX5_promise_19 : decode cX5_promise 19 = .ok (.getfield 105, 3) := by decide +kernel
theorem dX5_promise_22 : decode cX5_promise 22 = .ok (.if_icmp .ge 27, 3) := by decide +kernel
theorem dX5_promise_25 : decode cX5_promise 25 = .ok (.iload_n 3, 1) := by decide +kernel
theorem dX5_promise_26 : decode cX5_promise 26 = .ok (.aload_n 0, 1) := by decide +kernel
theorem dX5_promise_27 : decode cX5_promise 27 = .ok (.getfield 84, 3) := by decide +kernel
theorem dX5_promise_30 : decode cX5_promise 30 = .ok (.iload 4, 2) := by decide +kernel
theorem dX5_promise_32 : decode cX5_promise 32 = .ok (.iaload, 1) := by decide +kernel
theorem dX5_promise_33 : decode cX5_promise 33 = .ok (.ifCond .lt 7, 3) := by decide +kernel
theorem dX5_promise_36 : decode cX5_promise 36 = .ok (.iconst 1, 1) := by decide +kernel
theorem dX5_promise_37 : decode cX5_promise 37 = .ok (.goto 4, 3) := by decide +kernel
theorem dX5_promise_40 : decode cX5_promise 40 = .ok (.iconst 0, 1) := by decide +kernel
theorem dX5_promise_41 : decode cX5_promise 41 = .ok (.iadd, 1) := by decide +kernel
theorem dX5_promise_42 : decode cX5_promise 42 = .ok (.istore_n 3, 1) := by decide +kernel
theorem dX5_promise_43 : decode cX5_promise 43 = .ok (.iinc 4 1, 3) := by decide +kernel
theorem dX5_promise_46 : decode cX5_promise 46 = .ok (.goto (-30), 3) := by decide +kernel
theorem dX5_promise_49 : decode cX5_promise 49 = .ok (.iload_n 1, 1) := by decide +kernel
theorem dX5_promise_50 : decode cX5_promise 50 = .ok (.iconst 1, 1) := by decide +kernel
theorem dX5_promise_51 : decode cX5_promise 51 = .ok (.bipush 100, 2) := by decide +kernel
theorem dX5_promise_53 : decode cX5_promise 53 = .ok (.invokestatic 108, 3) := by decide +kernel
theorem dX5_promise_56 : decode cX5_promise 56 = .ok (.ifCond .eq 7, 3) := by decide +kernel
theorem dX5_promise_59 : decode cX5_promise 59 = .ok (.iload_n 3, 1) := by decide +kernel
theorem dX5_promise_60 : decode cX5_promise 60 = .ok (.ifCond .ne 5, 3) := by decide +kernel
theorem dX5_promise_63 : decode cX5_promise 63 = .ok (.iconst (-1), 1) := by decide +kernel
theorem dX5_promise_64 : decode cX5_promise 64 = .ok (.ireturn, 1) := by decide +kernel
theorem dX5_promise_65 : decode cX5_promise 65 = .ok (.iconst 0, 1) := by decide +kernel
theorem dX5_promise_66 : decode cX5_promise 66 = .ok (.istore 4, 2) := by decide +kernel
theorem dX5_promise_68 : decode cX5_promise 68 = .ok (.iconst 0, 1) := by decide +kernel
theorem dX5_promise_69 : decode cX5_promise 69 = .ok (.istore 5, 2) := by decide +kernel
theorem dX5_promise_71 : decode cX5_promise 71 = .ok (.bipush 100, 2) := by decide +kernel
theorem dX5_promise_73 : decode cX5_promise 73 = .ok (.iload 5, 2) := by decide +kernel
theorem dX5_promise_75 : decode cX5_promise 75 = .ok (.imul, 1) := by decide +kernel
theorem dX5_promise_76 : decode cX5_promise 76 = .ok (.iload_n 1, 1) := by decide +kernel
theorem dX5_promise_77 : decode cX5_promise 77 = .ok (.iload_n 3, 1) := by decide +kernel
theorem dX5_promise_78 : decode cX5_promise 78 = .ok (.imul, 1) := by decide +kernel
theorem dX5_promise_79 : decode cX5_promise 79 = .ok (.if_icmp .ge 61, 3) := by decide +kernel
theorem dX5_promise_82 : decode cX5_promise 82 = .ok (.iinc 4 1, 3) := by decide +kernel
theorem dX5_promise_85 : decode cX5_promise 85 = .ok (.iconst 0, 1) := by decide +kernel
theorem dX5_promise_86 : decode cX5_promise 86 = .ok (.istore 5, 2) := by decide +kernel
theorem dX5_promise_88 : decode cX5_promise 88 = .ok (.iconst 0, 1) := by decide +kernel
theorem dX5_promise_89 : decode cX5_promise 89 = .ok (.istore 6, 2) := by decide +kernel
theorem dX5_promise_91 : decode cX5_promise 91 = .ok (.iload 6, 2) := by decide +kernel
theorem dX5_promise_93 : decode cX5_promise 93 = .ok (.aload_n 0, 1) := by decide +kernel
theorem dX5_promise_94 : decode cX5_promise 94 = .ok (.getfield 105, 3) := by decide +kernel
theorem dX5_promise_97 : decode cX5_promise 97 = .ok (.if_icmp .ge 40, 3) := by decide +kernel
theorem dX5_promise_100 : decode cX5_promise 100 = .ok (.iload 5, 2) := by decide +kernel
theorem dX5_promise_102 : decode cX5_promise 102 = .ok (.aload_n 0, 1) := by decide +kernel
theorem dX5_promise_103 : decode cX5_promise 103 = .ok (.getfield 84, 3) := by decide +kernel
theorem dX5_promise_106 : decode cX5_promise 106 = .ok (.iload 6, 2) := by decide +kernel
theorem dX5_promise_108 : decode cX5_promise 108 = .ok (.iaload, 1) := by decide +kernel
theorem dX5_promise_109 : decode cX5_promise 109 = .ok (.ifCond .lt 18, 3) := by decide +kernel
theorem dX5_promise_112 : decode cX5_promise 112 = .ok (.aload_n 0, 1) := by decide +kernel
theorem dX5_promise_113 : decode cX5_promise 113 = .ok (.iload 6, 2) := by decide +kernel
theorem dX5_promise_115 : decode cX5_promise 115 = .ok (.invokevirtual 194, 3) := by decide +kernel
theorem dX5_promise_118 : decode cX5_promise 118 = .ok (.iload 4, 2) := by decide +kernel
theorem dX5_promise_120 : decode cX5_promise 120 = .ok (.if_icmp .gt 7, 3) := by decide +kernel
theorem dX5_promise_123 : decode cX5_promise 123 = .ok (.iconst 1, 1) := by decide +kernel
theorem dX5_promise_124 : decode cX5_promise 124 = .ok (.goto 4, 3) := by decide +kernel
theorem dX5_promise_127 : decode cX5_promise 127 = .ok (.iconst 0, 1) := by decide +kernel
theorem dX5_promise_128 : decode cX5_promise 128 = .ok (.iadd, 1) := by decide +kernel
theorem dX5_promise_129 : decode cX5_promise 129 = .ok (.istore 5, 2) := by decide +kernel
theorem dX5_promise_131 : decode cX5_promise 131 = .ok (.iinc 6 1, 3) := by decide +kernel
theorem dX5_promise_134 : decode cX5_promise 134 = .ok (.goto (-43), 3) := by decide +kernel
theorem dX5_promise_137 : decode cX5_promise 137 = .ok (.goto (-66), 3) := by decide +kernel
theorem dX5_promise_140 : decode cX5_promise 140 = .ok (.iload 4, 2) := by decide +kernel
theorem dX5_promise_142 : decode cX5_promise 142 = .ok (.ireturn, 1) := by decide +kernel
set_option maxRecDepth 20000 in
theorem ggX5_seeks_X5_goesBy : GoodIn wsX5_seeks wsX5_goesBy := goodIn_r _ [12, 5, 13, 14, 15, 16, 17, 18, 19, 20, 21, 22, 23, 24, 25, 26, 11, 27, 117, 118, 119, 120, 121, 122, 123, 124, 125, 126, 127, 128, 129, 130, 131, 132, 133, 134, 135, 136, 137, 138, 139, 140, 141, 142, 143, 144, 145, 146, 147, 148, 149, 150, 151, 152, 153, 154, 155, 156, 157, 158] (by decide +kernel) (by decide +kernel)
set_option maxRecDepth 20000 in
theorem gX5_seeks_X5_goesBy : GoodIn wsX5_seeks (wsV RX5 198 RX5 yX5_goesBy wsX5_goesBy) := goodIn_app (goodIn_of _ (by decide +kernel)) ggX5_seeks_X5_goesBy
set_option maxRecDepth 20000 in
theorem ggX5_seeks_X5_runs : GoodIn wsX5_seeks wsX5_runs := goodIn_r _ [31, 32, 33, 34, 35, 36, 37, 38, 39, 11, 40, 41, 42, 43, 44, 45, 46, 47, 48, 49, 50, 51, 52, 53, 54, 55, 56, 57, 58, 59, 4, 60, 61, 62, 63, 64, 65, 66, 67, 68, 69, 15, 5, 70, 71, 72, 73, 74, 75, 76, 77, 78, 79, 80, 81, 82, 24, 83, 84, 85, 86, 87, 88, 89, 90, 91, 92, 93, 94, 18, 23, 95, 96, 97, 98, 99, 100, 101, 102, 103, 104, 117, 118, 119, 120, 121, 122, 123, 124, 125, 126, 127, 128, 129, 130, 131, 132, 133, 134, 135, 136, 137, 138, 139, 140, 141, 142, 143, 144, 145, 146, 147, 148, 149, 150, 151, 152, 153, 154, 155, 156, 157, 158] (by decide +kernel) (by decide +kernel)
set_option maxRecDepth 20000 in
theorem gX5_seeks_X5_runs : GoodIn wsX5_seeks (wsV RX5 203 RX5 yX5_runs wsX5_runs) := goodIn_app (goodIn_of _ (by decide +kernel)) ggX5_seeks_X5_runs
set_option maxRecDepth 20000 in
theorem ggX5_seeks_X5_areDone : GoodIn wsX5_seeks wsX5_areDone := goodIn_r _ [108, 34, 41, 117, 118, 119, 120, 121, 122, 123, 124, 125, 126, 127, 128, 129, 130, 131, 132, 133, 134, 135, 136, 137, 138, 139, 140, 141, 142, 143, 144, 145, 146, 147, 148, 149, 150, 151, 152, 153, 154, 155, 156, 157, 158] (by decide +kernel) (by decide +kernel)
set_option maxRecDepth 20000 in
theorem gX5_seeks_X5_areDone : GoodIn wsX5_seeks (wsV RX5 206 RX5 yX5_areDone wsX5_areDone) := goodIn_app (goodIn_of _ (by decide +kernel)) ggX5_seeks_X5_areDone
set_option maxRecDepth 20000 in
theorem ggX5_seeks_X5_ages : GoodIn wsX5_seeks wsX5_ages := goodIn_r _ [112, 34, 113, 114, 115, 11, 116, 46, 53, 117, 118, 119, 120, 121, 122, 123, 124, 125, 126, 127, 128, 129, 130, 131, 132, 133, 134, 135, 136, 137, 138, 139, 140, 141, 142, 143, 144, 145, 146, 147, 148, 149, 150, 151, 152, 153, 154, 155, 156, 157, 158] (by decide +kernel) (by decide +kernel)
set_option maxRecDepth 20000 in
theorem gX5_seeks_X5_ages : GoodIn wsX5_seeks (wsV RX5 210 RX5 yX5_ages wsX5_ages) := goodIn_app (goodIn_of _ (by decide +kernel)) ggX5_seeks_X5_ages
theorem dX5_seeks_0 : decode cX5_seeks 0 = .ok (.aload_n 0, 1) := by decide +kernel
theorem dX5_seeks_1 : decode cX5_seeks 1 = .ok (.getfield 116, 3) := by decide +kernel
theorem dX5_seeks_4 : decode cX5_seeks 4 = .ok (.ifCond .eq 12, 3) := by decide +kernel
theorem dX5_seeks_7 : decode cX5_seeks 7 = .ok (.aload_n 0, 1) := by decide +kernel
theorem dX5_seeks_8 : decode cX5_seeks 8 = .ok (.getfield 213, 3) := by decide +kernel
theorem dX5_seeks_11 : decode cX5_seeks 11 = .ok (.iload_n 1, 1) := by decide +kernel
theorem dX5_seeks_12 : decode cX5_seeks 12 = .ok (.if_icmp .ne 4, 3) := by decide +kernel
theorem dX5_seeks_15 : decode cX5_seeks 15 = .ok (.return_, 1) := by decide +kernel
theorem dX5_seeks_16 : decode cX5_seeks 16 = .ok (.aload_n 0, 1) := by decide +kernel
theorem dX5_seeks_17 : decode cX5_seeks 17 = .ok (.iconst 1, 1) := by decide +kernel
theorem dX5_seeks_18 : decode cX5_seeks 18 = .ok (.putfield 116, 3) := by decide +kernel
theorem dX5_seeks_21 : decode cX5_seeks 21 = .ok (.aload_n 0, 1) := by decide +kernel
theorem dX5_seeks_22 : decode cX5_seeks 22 = .ok (.iload_n 1, 1) := by decide +kernel
theorem dX5_seeks_23 : decode cX5_seeks 23 = .ok (.putfield 213, 3) := by decide +kernel
theorem dX5_seeks_26 : decode cX5_seeks 26 = .ok (.aload_n 0, 1) := by decide +kernel
theorem dX5_seeks_27 : decode cX5_seeks 27 = .ok (.iconst (-1), 1) := by decide +kernel
theorem dX5_seeks_28 : decode cX5_seeks 28 = .ok (.putfield 216, 3) := by decide +kernel
theorem dX5_seeks_31 : decode cX5_seeks 31 = .ok (.iconst 1, 1) := by decide +kernel
theorem dX5_seeks_32 : decode cX5_seeks 32 = .ok (.istore_n 2, 1) := by decide +kernel
theorem dX5_seeks_33 : decode cX5_seeks 33 = .ok (.iconst 0, 1) := by decide +kernel
theorem dX5_seeks_34 : decode cX5_seeks 34 = .ok (.istore_n 3, 1) := by decide +kernel
theorem dX5_seeks_35 : decode cX5_seeks 35 = .ok (.iload_n 3, 1) := by decide +kernel
theorem dX5_seeks_36 : decode cX5_seeks 36 = .ok (.aload_n 0, 1) := by decide +kernel
theorem dX5_seeks_37 : decode cX5_seeks 37 = .ok (.getfield 7, 3) := by decide +kernel
theorem dX5_seeks_40 : decode cX5_seeks 40 = .ok (.if_icmp .ge 13, 3) := by decide +kernel
theorem dX5_seeks_43 : decode cX5_seeks 43 = .ok (.iload_n 2, 1) := by decide +kernel
theorem dX5_seeks_44 : decode cX5_seeks 44 = .ok (.iload_n 1, 1) := by decide +kernel
theorem dX5_seeks_45 : decode cX5_seeks 45 = .ok (.imul, 1) := by decide +kernel
theorem dX5_seeks_46 : decode cX5_seeks 46 = .ok (.istore_n 2, 1) := by decide +kernel
theorem dX5_seeks_47 : decode cX5_seeks 47 = .ok (.iinc 3 1, 3) := by decide +kernel
theorem dX5_seeks_50 : decode cX5_seeks 50 = .ok (.goto (-15), 3) := by decide +kernel
theorem dX5_seeks_53 : decode cX5_seeks 53 = .ok (.iconst 0, 1) := by decide +kernel
theorem dX5_seeks_54 : decode cX5_seeks 54 = .ok (.istore_n 3, 1) := by decide +kernel
theorem dX5_seeks_55 : decode cX5_seeks 55 = .ok (.iload_n 3, 1) := by decide +kernel
theorem dX5_seeks_56 : decode cX5_seeks 56 = .ok (.iload_n 2, 1) := by decide +kernel
theorem dX5_seeks_57 : decode cX5_seeks 57 = .ok (.if_icmp .ge 126, 3) := by decide +kernel
theorem dX5_seeks_60 : decode cX5_seeks 60 = .ok (.aload_n 0, 1) := by decide +kernel
theorem dX5_seeks_61 : decode cX5_seeks 61 = .ok (.iconst 0, 1) := by decide +kernel
theorem dX5_seeks_62 : decode cX5_seeks 62 = .ok (.invokevirtual 198, 3) := by decide +kernel
theorem dX5_seeks_65 : decode cX5_seeks 65 = .ok (.iload_n 3, 1) := by decide +kernel
theorem dX5_seeks_66 : decode cX5_seeks 66 = .ok (.istore 4, 2) := by decide +kernel
theorem dX5_seeks_68 : decode cX5_seeks 68 = .ok (.aload_n 0, 1) := by decide +kernel
theorem dX5_seeks_69 : decode cX5_seeks 69 = .ok (.getfield 7, 3) := by decide +kernel
theorem dX5_seeks_72 : decode cX5_seeks 72 = .ok (.iconst 1, 1) := by decide +kernel
theorem dX5_seeks_73 : decode cX5_seeks 73 = .ok (.isub, 1) := by decide +kernel
theorem dX5_seeks_74 : decode cX5_seeks 74 = .ok (.istore 5, 2) := by decide +kernel
theorem dX5_seeks_76 : decode cX5_seeks 76 = .ok (.iload 5, 2) := by decide +kernel
theorem dX5_seeks_78 : decode cX5_seeks 78 = .ok (.ifCond .lt 28, 3) := by decide +kernel
theorem dX5_seeks_81 : decode cX5_seeks 81 = .ok (.aload_n 0, 1) := by decide +kernel
theorem dX5_seeks_82 : decode cX5_seeks 82 = .ok (.getfield 57, 3) := by decide +kernel
theorem dX5_seeks_85 : decode cX5_seeks 85 = .ok (.iload 5, 2) := by decide +kernel
theorem dX5_seeks_87 : decode cX5_seeks 87 = .ok (.iconst 1, 1) := by decide +kernel
theorem dX5_seeks_88 : decode cX5_seeks 88 = .ok (.iload 4, 2) := by decide +kernel
theorem dX5_seeks_90 : decode cX5_seeks 90 = .ok (.iload_n 1, 1) := by decide +kernel
theorem dX5_seeks_91 : decode cX5_seeks 91 = .ok (.irem, 1) := by decide +kernel
theorem dX5_seeks_92 : decode cX5_seeks 92 = .ok (.iadd, 1) := by decide +kernel
theorem dX5_seeks_93 : decode cX5_seeks 93 = .ok (.iastore, 1) := by decide +kernel
theorem dX5_seeks_94 : decode cX5_seeks 94 = .ok (.iload 4, 2) := by decide +kernel
theorem dX5_seeks_96 : decode cX5_seeks 96 = .ok (.iload_n 1, 1) := by decide +kernel
theorem dX5_seeks_97 : decode cX5_seeks 97 = .ok (.idiv, 1) := by decide +kernel
theorem dX5_seeks_98 : decode cX5_seeks 98 = .ok (.istore 4, 2) := by decide +kernel
theorem dX5_seeks_100 : decode cX5_seeks 100 = .ok (.iinc 5 (-1), 3) := by decide +kernel
theorem dX5_seeks_103 : decode cX5_seeks 103 = .ok (.goto (-27), 3) := by decide +kernel
theorem dX5_seeks_106 : decode cX5_seeks 106 = .ok (.aload_n 0, 1) := by decide +kernel
theorem dX5_seeks_107 : decode cX5_seeks 107 = .ok (.ldc 202, 2) := by decide +kernel
theorem dX5_seeks_109 : decode cX5_seeks 109 = .ok (.invokevirtual 203, 3) := by decide +kernel
theorem dX5_seeks_112 : decode cX5_seeks 112 = .ok (.aload_n 0, 1) := by decide +kernel
theorem dX5_seeks_113 : decode cX5_seeks 113 = .ok (.invokevirtual 206, 3) := by decide +kernel
theorem dX5_seeks_116 : decode cX5_seeks 116 = .ok (.ifCond .eq 61, 3) := by decide +kernel
theorem dX5_seeks_119 : decode cX5_seeks 119 = .ok (.aload_n 0, 1) := by decide +kernel
theorem dX5_seeks_120 : decode cX5_seeks 120 = .ok (.getfield 216, 3) := by decide +kernel
theorem dX5_seeks_123 : decode cX5_seeks 123 = .ok (.ifCond .lt 14, 3) := by decide +kernel
theorem dX5_seeks_126 : decode cX5_seeks 126 = .ok (.aload_n 0, 1) := by decide +kernel
theorem dX5_seeks_127 : decode cX5_seeks 127 = .ok (.invokevirtual 210, 3) := by decide +kernel
theorem dX5_seeks_130 : decode cX5_seeks 130 = .ok (.aload_n 0, 1) := by decide +kernel
theorem dX5_seeks_131 : decode cX5_seeks 131 = .ok (.getfield 216, 3) := by decide +kernel
theorem dX5_seeks_134 : decode cX5_seeks 134 = .ok (.if_icmp .ge 43, 3) := by decide +kernel
theorem dX5_seeks_137 : decode cX5_seeks 137 = .ok (.aload_n 0, 1) := by decide +kernel
theorem dX5_seeks_138 : decode cX5_seeks 138 = .ok (.aload_n 0, 1) := by decide +kernel
theorem dX5_seeks_139 : decode cX5_seeks 139 = .ok (.invokevirtual 210, 3) := by decide +kernel
theorem dX5_seeks_142 : decode cX5_seeks 142 = .ok (.putfield 216, 3) := by decide +kernel
theorem dX5_seeks_145 : decode cX5_seeks 145 = .ok (.iconst 0, 1) := by decide +kernel
theorem dX5_seeks_146 : decode cX5_seeks 146 = .ok (.istore 5, 2) := by decide +kernel
theorem dX5_seeks_148 : decode cX5_seeks 148 = .ok (.iload 5, 2) := by decide +kernel
theorem dX5_seeks_150 : decode cX5_seeks 150 = .ok (.aload_n 0, 1) := by decide +kernel
theorem dX5_seeks_151 : decode cX5_seeks 151 = .ok (.getfield 7, 3) := by decide +kernel
theorem dX5_seeks_154 : decode cX5_seeks 154 = .ok (.if_icmp .ge 23, 3) := by decide +kernel
theorem dX5_seeks_157 : decode cX5_seeks 157 = .ok (.aload_n 0, 1) := by decide +kernel
theorem dX5_seeks_158 : decode cX5_seeks 158 = .ok (.getfield 102, 3) := by decide +kernel
theorem dX5_seeks_161 : decode cX5_seeks 161 = .ok (.iload 5, 2) := by decide +kernel
theorem dX5_seeks_163 : decode cX5_seeks 163 = .ok (.aload_n 0, 1) := by decide +kernel
theorem dX5_seeks_164 : decode cX5_seeks 164 = .ok (.getfield 57, 3) := by decide +kernel
theorem dX5_seeks_167 : decode cX5_seeks 167 = .ok (.iload 5, 2) := by decide +kernel
theorem dX5_seeks_169 : decode cX5_seeks 169 = .ok (.iaload, 1) := by decide +kernel
theorem dX5_seeks_170 : decode cX5_seeks 170 = .ok (.iastore, 1) := by decide +kernel
theorem dX5_seeks_171 : decode cX5_seeks 171 = .ok (.iinc 5 1, 3) := by decide +kernel
theorem dX5_seeks_174 : decode cX5_seeks 174 = .ok (.goto (-26), 3) := by decide +kernel
theorem dX5_seeks_177 : decode cX5_seeks 177 = .ok (.iinc 3 1, 3) := by decide +kernel
theorem dX5_seeks_180 : decode cX5_seeks 180 = .ok (.goto (-125), 3) := by decide +kernel
theorem dX5_seeks_183 : decode cX5_seeks 183 = .ok (.return_, 1) := by decide +kernel
set_option maxRecDepth 20000 in
theorem ggX5_best_X5_in : GoodIn wsX5_best wsX5_in := goodIn_r _ [5] (by decide +kernel) (by decide +kernel)
set_option maxRecDepth 20000 in
theorem gX5_best_X5_in : GoodIn wsX5_best (va_wsS RX5 108 yX5_in wsX5_in) := goodIn_app (goodIn_of _ (by decide +kernel)) ggX5_best_X5_in
set_option maxRecDepth 20000 in
theorem ggX5_best_X5_seeks : GoodIn wsX5_best wsX5_seeks := goodIn_r _ [9, 10, 11, 1, 12, 13, 14, 15, 16, 17, 18, 4, 19, 20, 21, 22, 23, 24, 25, 26, 27, 28, 29, 30, 31, 32, 33, 34, 35, 36, 37, 38, 39, 40, 41, 42, 43, 44, 45, 46, 47, 48, 49, 50, 51, 52, 53, 54, 55, 56, 57, 58, 59, 60, 61, 62, 63, 64, 65, 66, 67, 68, 69, 70, 71, 72, 73, 74, 75, 76, 77, 78, 79, 80, 81, 2, 3, 5, 82, 83, 84, 85, 86, 87, 88, 89, 90, 91, 92, 93, 94, 95, 96, 97, 98, 99, 100, 101, 102, 103, 104, 105, 106, 107, 108, 109, 110, 111, 112, 113, 114, 115, 116, 117, 118, 119, 120, 121, 122, 123, 124, 125, 126, 127, 128, 129, 130, 131, 132, 133, 134, 135, 136, 137, 138, 139, 140, 141, 142, 143, 144, 145, 146, 147, 148, 149, 150, 151, 152, 153, 154, 155, 156, 157, 158, 159, 160, 161, 162] (by decide +kernel) (by decide +kernel)
set_option maxRecDepth 20000 in
theorem gX5_best_X5_seeks : GoodIn wsX5_best (wsV RX5 219 RX5 yX5_seeks wsX5_seeks) := goodIn_app (goodIn_of _ (by decide +kernel)) ggX5_best_X5_seeks
theorem dX5_best_0 : decode cX5_best 0 = .ok (.iload_n 1, 1) := by decide +kernel
theorem dX5_best_1 : decode cX5_best 1 = .ok (.iconst 1, 1) := by decide +kernel
theorem dX5_best_2 : decode cX5_best 2 = .ok (.iconst 4, 1) := by decide +kernel
theorem dX5_best_3 : decode cX5_best 3 = .ok (.invokestatic 108, 3) := by decide +kernel
theorem dX5_best_6 : decode cX5_best 6 = .ok (.ifCond .ne 5, 3) := by decide +kernel
theorem dX5_best_9 : decode cX5_best 9 = .ok (.iconst (-1), 1) := by decide +kernel
theorem dX5_best_10 : decode cX5_best 10 = .ok (.ireturn, 1) := by decide +kernel
theorem dX5_best_11 : decode cX5_best 11 = .ok (.aload_n 0, 1) := by decide +kernel
theorem dX5_best_12 : decode cX5_best 12 = .ok (.iload_n 1, 1) := by decide +kernel
theorem dX5_best_13 : decode cX5_best 13 = .ok (.invokevirtual 219, 3) := by decide +kernel
theorem dX5_best_16 : decode cX5_best 16 = .ok (.aload_n 0, 1) := by decide +kernel
theorem dX5_best_17 : decode cX5_best 17 = .ok (.getfield 216, 3) := by decide +kernel
theorem dX5_best_20 : decode cX5_best 20 = .ok (.ireturn, 1) := by decide +kernel
set_option maxRecDepth 20000 in
theorem ggX5_bestLimit_X5_isColumn : GoodIn wsX5_bestLimit wsX5_isColumn := goodIn_r _ [6, 7, 8, 9, 5, 10, 129, 130, 131, 132, 133, 134, 135, 136, 137, 138, 139, 140, 141, 142, 143, 144, 145, 146, 147, 148, 149, 150, 151, 152, 153, 154, 155, 156, 157, 158, 159, 160, 161, 162, 163, 164, 165, 166, 167, 168, 169, 170] (by decide +kernel) (by decide +kernel)
set_option maxRecDepth 20000 in
theorem gX5_bestLimit_X5_isColumn : GoodIn wsX5_bestLimit (wsV RX5 120 RX5 yX5_isColumn wsX5_isColumn) := goodIn_app (goodIn_of _ (by decide +kernel)) ggX5_bestLimit_X5_isColumn
set_option maxRecDepth 20000 in
theorem ggX5_bestLimit_X5_best : GoodIn wsX5_bestLimit wsX5_best := goodIn_r _ [14, 15, 8, 9, 5, 10, 16, 17, 18, 19, 20, 21, 7, 22, 23, 1, 24, 25, 26, 27, 28, 29, 30, 31, 32, 33, 34, 35, 36, 37, 38, 39, 40, 41, 42, 43, 44, 45, 46, 47, 48, 49, 50, 51, 52, 53, 54, 55, 56, 57, 58, 59, 60, 61, 62, 63, 64, 65, 66, 67, 68, 69, 70, 71, 72, 73, 74, 75, 76, 77, 78, 79, 80, 81, 82, 83, 84, 85, 86, 87, 88, 89, 90, 91, 92, 93, 94, 95, 96, 97, 98, 99, 100, 101, 102, 103, 104, 105, 106, 107, 108, 109, 110, 111, 112, 113, 114, 115, 116, 117, 118, 119, 120, 121, 122, 123, 124, 125, 126, 127, 128, 129, 130, 131, 132, 133, 134, 135, 136, 137, 138, 139, 140, 141, 142, 143, 144, 145, 146, 147, 148, 149, 150, 151, 152, 153, 154, 155, 156, 157, 158, 159, 160, 161, 162, 163, 164, 165, 166, 167, 168, 169, 170] (by decide +kernel) (by decide +kernel)
set_option maxRecDepth 20000 in
theorem gX5_bestLimit_X5_best : GoodIn wsX5_bestLimit (wsV RX5 222 RX5 yX5_best wsX5_best) := goodIn_app (goodIn_of _ (by decide +kernel)) ggX5_bestLimit_X5_best
theorem dX5_bestLimit_0 : decode cX5_bestLimit 0 = .ok (.aload_n 0, 1) := by decide +kernel
theorem dX5_bestLimit_1 : decode cX5_bestLimit 1 = .ok (.iload_n 2, 1) := by decide +kernel
theorem dX5_bestLimit_2 : decode cX5_bestLimit 2 = .ok (.invokevirtual 120, 3) := by decide +kernel
theorem dX5_bestLimit_5 : decode cX5_bestLimit 5 = .ok (.ifCond .eq 20, 3) := by decide +kernel
theorem dX5_bestLimit_8 : decode cX5_bestLimit 8 = .ok (.aload_n 0, 1) := by decide +kernel
theorem dX5_bestLimit_9 : decode cX5_bestLimit 9 = .ok (.iload_n 1, 1) := by decide +kernel
theorem dX5_bestLimit_10 : decode cX5_bestLimit 10 = .ok (.invokevirtual 222, 3) := by decide +kernel
theorem dX5_bestLimit_13 : decode cX5_bestLimit 13 = .ok (.ifCond .lt 12, 3) := by decide +kernel
theorem dX5_bestLimit_16 : decode cX5_bestLimit 16 = .ok (.aload_n 0, 1) := by decide +kernel
theorem dX5_bestLimit_17 : decode cX5_bestLimit 17 = .ok (.getfield 102, 3) := by decide +kernel
theorem dX5_bestLimit_20 : decode cX5_bestLimit 20 = .ok (.iload_n 2, 1) := by decide +kernel
theorem dX5_bestLimit_21 : decode cX5_bestLimit 21 = .ok (.iaload, 1) := by decide +kernel
theorem dX5_bestLimit_22 : decode cX5_bestLimit 22 = .ok (.goto 4, 3) := by decide +kernel
theorem dX5_bestLimit_25 : decode cX5_bestLimit 25 = .ok (.iconst (-1), 1) := by decide +kernel
theorem dX5_bestLimit_26 : decode cX5_bestLimit 26 = .ok (.ireturn, 1) := by decide +kernel
set_option maxRecDepth 20000 in
theorem ggX5_plainAges_X5_age : GoodIn wsX5_plainAges wsX5_age := goodIn_r _ [7, 8, 9, 10, 11, 12, 13, 14, 15, 16, 17, 18, 19, 20, 21, 22, 23, 24, 25, 26, 27, 28, 29, 30, 31, 32, 33, 34, 35, 36, 37, 38, 39, 40, 41, 42, 43, 44, 45, 46, 47, 48, 49, 50, 51] (by decide +kernel) (by decide +kernel)
set_option maxRecDepth 20000 in
theorem gX5_plainAges_X5_age : GoodIn wsX5_plainAges (wsV RX5 194 RX5 yX5_age wsX5_age) := goodIn_app (goodIn_of _ (by decide +kernel)) ggX5_plainAges_X5_age
theorem dX5_plainAges_0 : decode cX5_plainAges 0 = .ok (.iconst 0, 1) := by decide +kernel
theorem dX5_plainAges_1 : decode cX5_plainAges 1 = .ok (.istore_n 1, 1) := by decide +kernel
theorem dX5_plainAges_2 : decode cX5_plainAges 2 = .ok (.iconst 0, 1) := by decide +kernel
theorem dX5_plainAges_3 : decode cX5_plainAges 3 = .ok (.istore_n 2, 1) := by decide +kernel
theorem dX5_plainAges_4 : decode cX5_plainAges 4 = .ok (.iload_n 2, 1) := by decide +kernel
theorem dX5_plainAges_5 : decode cX5_plainAges 5 = .ok (.aload_n 0, 1) := by decide +kernel
theorem dX5_plainAges_6 : decode cX5_plainAges 6 = .ok (.getfield 105, 3) := by decide +kernel
theorem dX5_plainAges_9 : decode cX5_plainAges 9 = .ok (.if_icmp .ge 30, 3) := by decide +kernel
theorem dX5_plainAges_12 : decode cX5_plainAges 12 = .ok (.iload_n 1, 1) := by decide +kernel
theorem dX5_plainAges_13 : decode cX5_plainAges 13 = .ok (.aload_n 0, 1) := by decide +kernel
theorem dX5_plainAges_14 : decode cX5_plainAges 14 = .ok (.getfield 41, 3) := by decide +kernel
theorem dX5_plainAges_17 : decode cX5_plainAges 17 = .ok (.iload_n 2, 1) := by decide +kernel
theorem dX5_plainAges_18 : decode cX5_plainAges 18 = .ok (.baload, 1) := by decide +kernel
theorem dX5_plainAges_19 : decode cX5_plainAges 19 = .ok (.ifCond .eq 7, 3) := by decide +kernel
theorem dX5_plainAges_22 : decode cX5_plainAges 22 = .ok (.iconst 0, 1) := by decide +kernel
theorem dX5_plainAges_23 : decode cX5_plainAges 23 = .ok (.goto 8, 3) := by decide +kernel
theorem dX5_plainAges_26 : decode cX5_plainAges 26 = .ok (.aload_n 0, 1) := by decide +kernel
theorem dX5_plainAges_27 : decode cX5_plainAges 27 = .ok (.iload_n 2, 1) := by decide +kernel
theorem dX5_plainAges_28 : decode cX5_plainAges 28 = .ok (.invokevirtual 194, 3) := by decide +kernel
theorem dX5_plainAges_31 : decode cX5_plainAges 31 = .ok (.iadd, 1) := by decide +kernel
theorem dX5_plainAges_32 : decode cX5_plainAges 32 = .ok (.istore_n 1, 1) := by decide +kernel
theorem dX5_plainAges_33 : decode cX5_plainAges 33 = .ok (.iinc 2 1, 3) := by decide +kernel
theorem dX5_plainAges_36 : decode cX5_plainAges 36 = .ok (.goto (-32), 3) := by decide +kernel
theorem dX5_plainAges_39 : decode cX5_plainAges 39 = .ok (.iload_n 1, 1) := by decide +kernel
theorem dX5_plainAges_40 : decode cX5_plainAges 40 = .ok (.ireturn, 1) := by decide +kernel
set_option maxRecDepth 20000 in
theorem ggX5_cost_X5_goesBy : GoodIn wsX5_cost wsX5_goesBy := goodIn_r _ [8, 9, 10, 11, 12, 13, 14, 15, 16, 17, 18, 19, 20, 3, 21, 22, 7, 23, 114, 115, 116, 117, 118, 119, 120, 121, 122, 123, 124, 125, 126, 127, 128, 129, 130, 131, 132, 133, 134, 135, 136, 137, 138, 139, 140, 141, 142, 143, 144, 145, 146, 147, 148, 149, 150, 151, 152, 153, 154, 155] (by decide +kernel) (by decide +kernel)
set_option maxRecDepth 20000 in
theorem gX5_cost_X5_goesBy : GoodIn wsX5_cost (wsV RX5 198 RX5 yX5_goesBy wsX5_goesBy) := goodIn_app (goodIn_of _ (by decide +kernel)) ggX5_cost_X5_goesBy
set_option maxRecDepth 20000 in
theorem ggX5_cost_X5_runs : GoodIn wsX5_cost wsX5_runs := goodIn_r _ [27, 28, 29, 30, 31, 32, 33, 34, 35, 7, 36, 37, 38, 39, 40, 41, 42, 43, 44, 45, 46, 47, 48, 49, 50, 51, 52, 53, 54, 55, 56, 57, 58, 59, 60, 61, 62, 63, 64, 65, 66, 12, 9, 67, 68, 69, 70, 71, 72, 73, 74, 75, 76, 77, 78, 79, 3, 80, 81, 82, 83, 84, 85, 86, 87, 88, 89, 90, 91, 15, 20, 92, 93, 94, 95, 96, 97, 98, 99, 100, 101, 114, 115, 116, 117, 118, 119, 120, 121, 122, 123, 124, 125, 126, 127, 128, 129, 130, 131, 132, 133, 134, 135, 136, 137, 138, 139, 140, 141, 142, 143, 144, 145, 146, 147, 148, 149, 150, 151, 152, 153, 154, 155] (by decide +kernel) (by decide +kernel)
set_option maxRecDepth 20000 in
theorem gX5_cost_X5_runs : GoodIn wsX5_cost (wsV RX5 203 RX5 yX5_runs wsX5_runs) := goodIn_app (goodIn_of _ (by decide +kernel)) ggX5_cost_X5_runs
set_option maxRecDepth 20000 in
theorem ggX5_cost_X5_areDone : GoodIn wsX5_cost wsX5_areDone := goodIn_r _ [105, 30, 37, 114, 115, 116, 117, 118, 119, 120, 121, 122, 123, 124, 125, 126, 127, 128, 129, 130, 131, 132, 133, 134, 135, 136, 137, 138, 139, 140, 141, 142, 143, 144, 145, 146, 147, 148, 149, 150, 151, 152, 153, 154, 155] (by decide +kernel) (by decide +kernel)
set_option maxRecDepth 20000 in
theorem gX5_cost_X5_areDone : GoodIn wsX5_cost (wsV RX5 206 RX5 yX5_areDone wsX5_areDone) := goodIn_app (goodIn_of _ (by decide +kernel)) ggX5_cost_X5_areDone
set_option maxRecDepth 20000 in
theorem ggX5_cost_X5_plainAges : GoodIn wsX5_cost wsX5_plainAges := goodIn_r _ [109, 30, 79, 110, 111, 112, 7, 113, 42, 49, 114, 115, 116, 117, 118, 119, 120, 121, 122, 123, 124, 125, 126, 127, 128, 129, 130, 131, 132, 133, 134, 135, 136, 137, 138, 139, 140, 141, 142, 143, 144, 145, 146, 147, 148, 149, 150, 151, 152, 153, 154, 155] (by decide +kernel) (by decide +kernel)
set_option maxRecDepth 20000 in
theorem gX5_cost_X5_plainAges : GoodIn wsX5_cost (wsV RX5 226 RX5 yX5_plainAges wsX5_plainAges) := goodIn_app (goodIn_of _ (by decide +kernel)) ggX5_cost_X5_plainAges
theorem dX5_cost_0 : decode cX5_cost 0 = .ok (.aload_n 0, 1) := by decide +kernel
theorem dX5_cost_1 : decode cX5_cost 1 = .ok (.iconst 0, 1) := by decide +kernel
theorem dX5_cost_2 : decode cX5_cost 2 = .ok (.invokevirtual 198, 3) := by decide +kernel
theorem dX5_cost_5 : decode cX5_cost 5 = .ok (.aload_n 0, 1) := by decide +kernel
theorem dX5_cost_6 : decode cX5_cost 6 = .ok (.ldc 202, 2) := by decide +kernel
theorem dX5_cost_8 : decode cX5_cost 8 = .ok (.invokevirtual 203, 3) := by decide +kernel
theorem dX5_cost_11 : decode cX5_cost 11 = .ok (.aload_n 0, 1) := by decide +kernel
theorem dX5_cost_12 : decode cX5_cost 12 = .ok (.invokevirtual 206, 3) := by decide +kernel
theorem dX5_cost_15 : decode cX5_cost 15 = .ok (.ifCond .ne 6, 3) := by decide +kernel
theorem dX5_cost_18 : decode cX5_cost 18 = .ok (.ldc 225, 2) := by decide +kernel
theorem dX5_cost_20 : decode cX5_cost 20 = .ok (.ireturn, 1) := by decide +kernel
theorem dX5_cost_21 : decode cX5_cost 21 = .ok (.aload_n 0, 1) := by decide +kernel
theorem dX5_cost_22 : decode cX5_cost 22 = .ok (.invokevirtual 226, 3) := by decide +kernel
theorem dX5_cost_25 : decode cX5_cost 25 = .ok (.istore_n 1, 1) := by decide +kernel
theorem dX5_cost_26 : decode cX5_cost 26 = .ok (.aload_n 0, 1) := by decide +kernel
theorem dX5_cost_27 : decode cX5_cost 27 = .ok (.iconst 1, 1) := by decide +kernel
theorem dX5_cost_28 : decode cX5_cost 28 = .ok (.putfield 134, 3) := by decide +kernel
theorem dX5_cost_31 : decode cX5_cost 31 = .ok (.aload_n 0, 1) := by decide +kernel
theorem dX5_cost_32 : decode cX5_cost 32 = .ok (.ldc 202, 2) := by decide +kernel
theorem dX5_cost_34 : decode cX5_cost 34 = .ok (.invokevirtual 203, 3) := by decide +kernel
theorem dX5_cost_37 : decode cX5_cost 37 = .ok (.aload_n 0, 1) := by decide +kernel
theorem dX5_cost_38 : decode cX5_cost 38 = .ok (.invokevirtual 206, 3) := by decide +kernel
theorem dX5_cost_41 : decode cX5_cost 41 = .ok (.ifCond .eq 12, 3) := by decide +kernel
theorem dX5_cost_44 : decode cX5_cost 44 = .ok (.iload_n 1, 1) := by decide +kernel
theorem dX5_cost_45 : decode cX5_cost 45 = .ok (.aload_n 0, 1) := by decide +kernel
theorem dX5_cost_46 : decode cX5_cost 46 = .ok (.invokevirtual 226, 3) := by decide +kernel
theorem dX5_cost_49 : decode cX5_cost 49 = .ok (.isub, 1) := by decide +kernel
theorem dX5_cost_50 : decode cX5_cost 50 = .ok (.goto 5, 3) := by decide +kernel
theorem dX5_cost_53 : decode cX5_cost 53 = .ok (.ldc 225, 2) := by decide +kernel
theorem dX5_cost_55 : decode cX5_cost 55 = .ok (.ireturn, 1) := by decide +kernel
set_option maxRecDepth 20000 in
theorem ggX5_about_X5_first : GoodIn wsX5_about wsX5_first := goodIn_r _ [8] (by decide +kernel) (by decide +kernel)
set_option maxRecDepth 20000 in
theorem gX5_about_X5_first : GoodIn wsX5_about (va_wsS RX5 127 yX5_first wsX5_first) := goodIn_app (goodIn_of _ (by decide +kernel)) ggX5_about_X5_first
theorem dX5_about_0 : decode cX5_about 0 = .ok (.iload_n 1, 1) := by decide +kernel
theorem dX5_about_1 : decode cX5_about 1 = .ok (.tableswitch 58 0 3 #[31, 36, 41, 46], 31) := by decide +kernel
theorem dX5_about_32 : decode cX5_about 32 = .ok (.aload_n 0, 1) := by decide +kernel
theorem dX5_about_33 : decode cX5_about 33 = .ok (.getfield 7, 3) := by decide +kernel
theorem dX5_about_36 : decode cX5_about 36 = .ok (.ireturn, 1) := by decide +kernel
theorem dX5_about_37 : decode cX5_about 37 = .ok (.aload_n 0, 1) := by decide +kernel
theorem dX5_about_38 : decode cX5_about 38 = .ok (.getfield 105, 3) := by decide +kernel
theorem dX5_about_41 : decode cX5_about 41 = .ok (.ireturn, 1) := by decide +kernel
theorem dX5_about_42 : decode cX5_about 42 = .ok (.aload_n 0, 1) := by decide +kernel
theorem dX5_about_43 : decode cX5_about 43 = .ok (.getfield 23, 3) := by decide +kernel
theorem dX5_about_46 : decode cX5_about 46 = .ok (.ireturn, 1) := by decide +kernel
theorem dX5_about_47 : decode cX5_about 47 = .ok (.aload_n 0, 1) := by decide +kernel
theorem dX5_about_48 : decode cX5_about 48 = .ok (.getfield 35, 3) := by decide +kernel
theorem dX5_about_51 : decode cX5_about 51 = .ok (.aload_n 0, 1) := by decide +kernel
theorem dX5_about_52 : decode cX5_about 52 = .ok (.getfield 23, 3) := by decide +kernel
theorem dX5_about_55 : decode cX5_about 55 = .ok (.invokestatic 127, 3) := by decide +kernel
theorem dX5_about_58 : decode cX5_about 58 = .ok (.ireturn, 1) := by decide +kernel
theorem dX5_about_59 : decode cX5_about 59 = .ok (.iconst (-1), 1) := by decide +kernel
theorem dX5_about_60 : decode cX5_about 60 = .ok (.ireturn, 1) := by decide +kernel
