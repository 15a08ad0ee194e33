theorem dX10_init_0 : decode cX10_init 0 = .ok (.aload_n 0, 1) := by decide +kernel
theorem dX10_init_1 : decode cX10_init 1 = .ok (.invokespecial 1, 3) := by decide +kernel
theorem dX10_init_4 : decode cX10_init 4 = .ok (.aload_n 0, 1) := by decide +kernel
theorem dX10_init_5 : decode cX10_init 5 = .ok (.iconst 5, 1) := by decide +kernel
theorem dX10_init_6 : decode cX10_init 6 = .ok (.newarray .int, 2) := by decide +kernel
theorem dX10_init_8 : decode cX10_init 8 = .ok (.putfield 7, 3) := by decide +kernel
theorem dX10_init_11 : decode cX10_init 11 = .ok (.aload_n 0, 1) := by decide +kernel
theorem dX10_init_12 : decode cX10_init 12 = .ok (.iconst 5, 1) := by decide +kernel
theorem dX10_init_13 : decode cX10_init 13 = .ok (.newarray .int, 2) := by decide +kernel
theorem dX10_init_15 : decode cX10_init 15 = .ok (.putfield 13, 3) := by decide +kernel
theorem dX10_init_18 : decode cX10_init 18 = .ok (.aload_n 0, 1) := by decide +kernel
theorem dX10_init_19 : decode cX10_init 19 = .ok (.iconst 5, 1) := by decide +kernel
theorem dX10_init_20 : decode cX10_init 20 = .ok (.newarray .int, 2) := by decide +kernel
theorem dX10_init_22 : decode cX10_init 22 = .ok (.putfield 16, 3) := by decide +kernel
theorem dX10_init_25 : decode cX10_init 25 = .ok (.aload_n 0, 1) := by decide +kernel
theorem dX10_init_26 : decode cX10_init 26 = .ok (.iconst 5, 1) := by decide +kernel
theorem dX10_init_27 : decode cX10_init 27 = .ok (.newarray .int, 2) := by decide +kernel
theorem dX10_init_29 : decode cX10_init 29 = .ok (.putfield 19, 3) := by decide +kernel
theorem dX10_init_32 : decode cX10_init 32 = .ok (.aload_n 0, 1) := by decide +kernel
theorem dX10_init_33 : decode cX10_init 33 = .ok (.iconst 5, 1) := by decide +kernel
theorem dX10_init_34 : decode cX10_init 34 = .ok (.newarray .int, 2) := by decide +kernel
theorem dX10_init_36 : decode cX10_init 36 = .ok (.putfield 22, 3) := by decide +kernel
theorem dX10_init_39 : decode cX10_init 39 = .ok (.aload_n 0, 1) := by decide +kernel
theorem dX10_init_40 : decode cX10_init 40 = .ok (.bipush 12, 2) := by decide +kernel
theorem dX10_init_42 : decode cX10_init 42 = .ok (.newarray .int, 2) := by decide +kernel
theorem dX10_init_44 : decode cX10_init 44 = .ok (.putfield 25, 3) := by decide +kernel
theorem dX10_init_47 : decode cX10_init 47 = .ok (.aload_n 0, 1) := by decide +kernel
theorem dX10_init_48 : decode cX10_init 48 = .ok (.iconst 5, 1) := by decide +kernel
theorem dX10_init_49 : decode cX10_init 49 = .ok (.putfield 28, 3) := by decide +kernel
theorem dX10_init_52 : decode cX10_init 52 = .ok (.aload_n 0, 1) := by decide +kernel
theorem dX10_init_53 : decode cX10_init 53 = .ok (.bipush 6, 2) := by decide +kernel
theorem dX10_init_55 : decode cX10_init 55 = .ok (.newarray .int, 2) := by decide +kernel
theorem dX10_init_57 : decode cX10_init 57 = .ok (.putfield 32, 3) := by decide +kernel
theorem dX10_init_60 : decode cX10_init 60 = .ok (.aload_n 0, 1) := by decide +kernel
theorem dX10_init_61 : decode cX10_init 61 = .ok (.bipush 6, 2) := by decide +kernel
theorem dX10_init_63 : decode cX10_init 63 = .ok (.newarray .int, 2) := by decide +kernel
theorem dX10_init_65 : decode cX10_init 65 = .ok (.putfield 35, 3) := by decide +kernel
theorem dX10_init_68 : decode cX10_init 68 = .ok (.aload_n 0, 1) := by decide +kernel
theorem dX10_init_69 : decode cX10_init 69 = .ok (.bipush 6, 2) := by decide +kernel
theorem dX10_init_71 : decode cX10_init 71 = .ok (.newarray .int, 2) := by decide +kernel
theorem dX10_init_73 : decode cX10_init 73 = .ok (.putfield 38, 3) := by decide +kernel
theorem dX10_init_76 : decode cX10_init 76 = .ok (.aload_n 0, 1) := by decide +kernel
theorem dX10_init_77 : decode cX10_init 77 = .ok (.bipush 22, 2) := by decide +kernel
theorem dX10_init_79 : decode cX10_init 79 = .ok (.newarray .int, 2) := by decide +kernel
theorem dX10_init_81 : decode cX10_init 81 = .ok (.dup, 1) := by decide +kernel
theorem dX10_init_82 : decode cX10_init 82 = .ok (.iconst 0, 1) := by decide +kernel
theorem dX10_init_83 : decode cX10_init 83 = .ok (.iconst (-1), 1) := by decide +kernel
theorem dX10_init_84 : decode cX10_init 84 = .ok (.iastore, 1) := by decide +kernel
theorem dX10_init_85 : decode cX10_init 85 = .ok (.dup, 1) := by decide +kernel
theorem dX10_init_86 : decode cX10_init 86 = .ok (.iconst 1, 1) := by decide +kernel
theorem dX10_init_87 : decode cX10_init 87 = .ok (.iconst 0, 1) := by decide +kernel
theorem dX10_init_88 : decode cX10_init 88 = .ok (.iastore, 1) := by decide +kernel
theorem dX10_init_89 : decode cX10_init 89 = .ok (.dup, 1) := by decide +kernel
theorem dX10_init_90 : decode cX10_init 90 = .ok (.iconst 2, 1) := by decide +kernel
theorem dX10_init_91 : decode cX10_init 91 = .ok (.iconst 0, 1) := by decide +kernel
theorem dX10_init_92 : decode cX10_init 92 = .ok (.iastore, 1) := by decide +kernel
theorem dX10_init_93 : decode cX10_init 93 = .ok (.dup, 1) := by decide +kernel
theorem dX10_init_94 : decode cX10_init 94 = .ok (.iconst 3, 1) := by decide +kernel
theorem dX10_init_95 : decode cX10_init 95 = .ok (.iconst 0, 1) := by decide +kernel
theorem dX10_init_96 : decode cX10_init 96 = .ok (.iastore, 1) := by decide +kernel
theorem dX10_init_97 : decode cX10_init 97 = .ok (.dup, 1) := by decide +kernel
theorem dX10_init_98 : decode cX10_init 98 = .ok (.iconst 4, 1) := by decide +kernel
theorem dX10_init_99 : decode cX10_init 99 = .ok (.iconst (-1), 1) := by decide +kernel
theorem dX10_init_100 : decode cX10_init 100 = .ok (.iastore, 1) := by decide +kernel
theorem dX10_init_101 : decode cX10_init 101 = .ok (.dup, 1) := by decide +kernel
theorem dX10_init_102 : decode cX10_init 102 = .ok (.iconst 5, 1) := by decide +kernel
theorem dX10_init_103 : decode cX10_init 103 = .ok (.iconst 0, 1) := by decide +kernel
theorem dX10_init_104 : decode cX10_init 104 = .ok (.iastore, 1) := by decide +kernel
theorem dX10_init_105 : decode cX10_init 105 = .ok (.dup, 1) := by decide +kernel
theorem dX10_init_106 : decode cX10_init 106 = .ok (.bipush 6, 2) := by decide +kernel
theorem dX10_init_108 : decode cX10_init 108 = .ok (.iconst 0, 1) := by decide +kernel
theorem dX10_init_109 : decode cX10_init 109 = .ok (.iastore, 1) := by decide +kernel
theorem dX10_init_110 : decode cX10_init 110 = .ok (.dup, 1) := by decide +kernel
theorem dX10_init_111 : decode cX10_init 111 = .ok (.bipush 7, 2) := by decide +kernel
theorem dX10_init_113 : decode cX10_init 113 = .ok (.iconst 0, 1) := by decide +kernel
theorem dX10_init_114 : decode cX10_init 114 = .ok (.iastore, 1) := by decide +kernel
theorem dX10_init_115 : decode cX10_init 115 = .ok (.dup, 1) := by decide +kernel
theorem dX10_init_116 : decode cX10_init 116 = .ok (.bipush 8, 2) := by decide +kernel
theorem dX10_init_118 : decode cX10_init 118 = .ok (.iconst 0, 1) := by decide +kernel
theorem dX10_init_119 : decode cX10_init 119 = .ok (.iastore, 1) := by decide +kernel
theorem dX10_init_120 : decode cX10_init 120 = .ok (.dup, 1) := by decide +kernel
theorem dX10_init_121 : decode cX10_init 121 = .ok (.bipush 9, 2) := by decide +kernel
theorem dX10_init_123 : decode cX10_init 123 = .ok (.iconst 0, 1) := by decide +kernel
theorem dX10_init_124 : decode cX10_init 124 = .ok (.iastore, 1) := by decide +kernel
theorem dX10_init_125 : decode cX10_init 125 = .ok (.dup, 1) := by decide +kernel
theorem dX10_init_126 : decode cX10_init 126 = .ok (.bipush 10, 2) := by decide +kernel
theorem dX10_init_128 : decode cX10_init 128 = .ok (.iconst 0, 1) := by decide +kernel
theorem dX10_init_129 : decode cX10_init 129 = .ok (.iastore, 1) := by decide +kernel
theorem dX10_init_130 : decode cX10_init 130 = .ok (.dup, 1) := by decide +kernel
theorem dX10_init_131 : decode cX10_init 131 = .ok (.bipush 11, 2) := by decide +kernel
theorem dX10_init_133 : decode cX10_init 133 = .ok (.iconst 0, 1) := by decide +kernel
theorem dX10_init_134 : decode cX10_init 134 = .ok (.iastore, 1) := by decide +kernel
theorem dX10_init_135 : decode cX10_init 135 = .ok (.dup, 1) := by decide +kernel
theorem dX10_init_136 : decode cX10_init 136 = .ok (.bipush 12, 2) := by decide +kernel
theorem dX10_init_138 : decode cX10_init 138 = .ok (.iconst 0, 1) := by decide +kernel
theorem dX10_init_139 : decode cX10_init 139 = .ok (.iastore, 1) := by decide +kernel
theorem dX10_init_140 : decode cX10_init 140 = .ok (.dup, 1) := by decide +kernel
theorem dX10_init_141 : decode cX10_init 141 = .ok (.bipush 13, 2) := by decide +kernel
theorem dX10_init_143 : decode cX10_init 143 = .ok (.iconst 0, 1) := by decide +kernel
theorem dX10_init_144 : decode cX10_init 144 = .ok (.iastore, 1) := by decide +kernel
theorem dX10_init_145 : decode cX10_init 145 = .ok (.dup, 1) := by decide +kernel
theorem dX10_init_146 : decode cX10_init 146 = .ok (.bipush 14, 2) := by decide +kernel
theorem dX10_init_148 : decode cX10_init 148 = .ok (.iconst 0, 1) := by decide +kernel
theorem dX10_init_149 : decode cX10_init 149 = .ok (.iastore, 1) := by decide +kernel
theorem dX10_init_150 : decode cX10_init 150 = .ok (.dup, 1) := by decide +kernel
theorem dX10_init_151 : decode cX10_init 151 = .ok (.bipush 15, 2) := by decide +kernel
theorem dX10_init_153 : decode cX10_init 153 = .ok (.iconst 0, 1) := by decide +kernel
theorem dX10_init_154 : decode cX10_init 154 = .ok (.iastore, 1) := by decide +kernel
theorem dX10_init_155 : decode cX10_init 155 = .ok (.dup, 1) := by decide +kernel
theorem dX10_init_156 : decode cX10_init 156 = .ok (.bipush 16, 2) := by decide +kernel
theorem dX10_init_158 : decode cX10_init 158 = .ok (.iconst 0, 1) := by decide +kernel
theorem dX10_init_159 : decode cX10_init 159 = .ok (.iastore, 1) := by decide +kernel
theorem dX10_init_160 : decode cX10_init 160 = .ok (.dup, 1) := by decide +kernel
theorem dX10_init_161 : decode cX10_init 161 = .ok (.bipush 17, 2) := by decide +kernel
theorem dX10_init_163 : decode cX10_init 163 = .ok (.iconst 0, 1) := by decide +kernel
theorem dX10_init_164 : decode cX10_init 164 = .ok (.iastore, 1) := by decide +kernel
theorem dX10_init_165 : decode cX10_init 165 = .ok (.dup, 1) := by decide +kernel
theorem dX10_init_166 : decode cX10_init 166 = .ok (.bipush 18, 2) := by decide +kernel
theorem dX10_init_168 : decode cX10_init 168 = .ok (.iconst 0, 1) := by decide +kernel
theorem dX10_init_169 : decode cX10_init 169 = .ok (.iastore, 1) := by decide +kernel
theorem dX10_init_170 : decode cX10_init 170 = .ok (.dup, 1) := by decide +kernel
theorem dX10_init_171 : decode cX10_init 171 = .ok (.bipush 19, 2) := by decide +kernel
theorem dX10_init_173 : decode cX10_init 173 = .ok (.iconst 0, 1) := by decide +kernel
theorem dX10_init_174 : decode cX10_init 174 = .ok (.iastore, 1) := by decide +kernel
theorem dX10_init_175 : decode cX10_init 175 = .ok (.dup, 1) := by decide +kernel
theorem dX10_init_176 : decode cX10_init 176 = .ok (.bipush 20, 2) := by decide +kernel
theorem dX10_init_178 : decode cX10_init 178 = .ok (.iconst 0, 1) := by decide +kernel
theorem dX10_init_179 : decode cX10_init 179 = .ok (.iastore, 1) := by decide +kernel
theorem dX10_init_180 : decode cX10_init 180 = .ok (.dup, 1) := by decide +kernel
theorem dX10_init_181 : decode cX10_init 181 = .ok (.bipush 21, 2) := by decide +kernel
theorem dX10_init_183 : decode cX10_init 183 = .ok (.iconst 0, 1) := by decide +kernel
theorem dX10_init_184 : decode cX10_init 184 = .ok (.iastore, 1) := by decide +kernel
theorem dX10_init_185 : decode cX10_init 185 = .ok (.putfield 41, 3) := by decide +kernel
theorem dX10_init_188 : decode cX10_init 188 = .ok (.aload_n 0, 1) := by decide +kernel
theorem dX10_init_189 : decode cX10_init 189 = .ok (.iconst 1, 1) := by decide +kernel
theorem dX10_init_190 : decode cX10_init 190 = .ok (.putfield 44, 3) := by decide +kernel
theorem dX10_init_193 : decode cX10_init 193 = .ok (.aload_n 0, 1) := by decide +kernel
theorem dX10_init_194 : decode cX10_init 194 = .ok (.sipush 200, 3) := by decide +kernel
theorem dX10_init_197 : decode cX10_init 197 = .ok (.newarray .int, 2) := by decide +kernel
theorem dX10_init_199 : decode cX10_init 199 = .ok (.putfield 47, 3) := by decide +kernel
theorem dX10_init_202 : decode cX10_init 202 = .ok (.aload_n 0, 1) := by decide +kernel
theorem dX10_init_203 : decode cX10_init 203 = .ok (.iconst 5, 1) := by decide +kernel
theorem dX10_init_204 : decode cX10_init 204 = .ok (.newarray .int, 2) := by decide +kernel
theorem dX10_init_206 : decode cX10_init 206 = .ok (.putfield 50, 3) := by decide +kernel
theorem dX10_init_209 : decode cX10_init 209 = .ok (.aload_n 0, 1) := by decide +kernel
theorem dX10_init_210 : decode cX10_init 210 = .ok (.iconst 5, 1) := by decide +kernel
theorem dX10_init_211 : decode cX10_init 211 = .ok (.newarray .int, 2) := by decide +kernel
theorem dX10_init_213 : decode cX10_init 213 = .ok (.putfield 53, 3) := by decide +kernel
theorem dX10_init_216 : decode cX10_init 216 = .ok (.aload_n 0, 1) := by decide +kernel
theorem dX10_init_217 : decode cX10_init 217 = .ok (.bipush 6, 2) := by decide +kernel
theorem dX10_init_219 : decode cX10_init 219 = .ok (.newarray .int, 2) := by decide +kernel
theorem dX10_init_221 : decode cX10_init 221 = .ok (.putfield 56, 3) := by decide +kernel
theorem dX10_init_224 : decode cX10_init 224 = .ok (.aload_n 0, 1) := by decide +kernel
theorem dX10_init_225 : decode cX10_init 225 = .ok (.bipush 6, 2) := by decide +kernel
theorem dX10_init_227 : decode cX10_init 227 = .ok (.newarray .int, 2) := by decide +kernel
theorem dX10_init_229 : decode cX10_init 229 = .ok (.putfield 59, 3) := by decide +kernel
theorem dX10_init_232 : decode cX10_init 232 = .ok (.aload_n 0, 1) := by decide +kernel
theorem dX10_init_233 : decode cX10_init 233 = .ok (.bipush 6, 2) := by decide +kernel
theorem dX10_init_235 : decode cX10_init 235 = .ok (.newarray .int, 2) := by decide +kernel
theorem dX10_init_237 : decode cX10_init 237 = .ok (.putfield 62, 3) := by decide +kernel
theorem dX10_init_240 : decode cX10_init 240 = .ok (.aload_n 0, 1) := by decide +kernel
theorem dX10_init_241 : decode cX10_init 241 = .ok (.bipush 6, 2) := by decide +kernel
theorem dX10_init_243 : decode cX10_init 243 = .ok (.newarray .int, 2) := by decide +kernel
theorem dX10_init_245 : decode cX10_init 245 = .ok (.putfield 65, 3) := by decide +kernel
theorem dX10_init_248 : decode cX10_init 248 = .ok (.aload_n 0, 1) := by decide +kernel
theorem dX10_init_249 : decode cX10_init 249 = .ok (.bipush 12, 2) := by decide +kernel
theorem dX10_init_251 : decode cX10_init 251 = .ok (.newarray .int, 2) := by decide +kernel
theorem dX10_init_253 : decode cX10_init 253 = .ok (.putfield 68, 3) := by decide +kernel
theorem dX10_init_256 : decode cX10_init 256 = .ok (.aload_n 0, 1) := by decide +kernel
theorem dX10_init_257 : decode cX10_init 257 = .ok (.iconst (-1), 1) := by decide +kernel
theorem dX10_init_258 : decode cX10_init 258 = .ok (.putfield 71, 3) := by decide +kernel
theorem dX10_init_261 : decode cX10_init 261 = .ok (.aload_n 0, 1) := by decide +kernel
theorem dX10_init_262 : decode cX10_init 262 = .ok (.bipush 60, 2) := by decide +kernel
theorem dX10_init_264 : decode cX10_init 264 = .ok (.newarray .int, 2) := by decide +kernel
theorem dX10_init_266 : decode cX10_init 266 = .ok (.putfield 74, 3) := by decide +kernel
theorem dX10_init_269 : decode cX10_init 269 = .ok (.aload_n 0, 1) := by decide +kernel
theorem dX10_init_270 : decode cX10_init 270 = .ok (.iconst 5, 1) := by decide +kernel
theorem dX10_init_271 : decode cX10_init 271 = .ok (.newarray .int, 2) := by decide +kernel
theorem dX10_init_273 : decode cX10_init 273 = .ok (.putfield 77, 3) := by decide +kernel
theorem dX10_init_276 : decode cX10_init 276 = .ok (.aload_n 0, 1) := by decide +kernel
theorem dX10_init_277 : decode cX10_init 277 = .ok (.iconst 5, 1) := by decide +kernel
theorem dX10_init_278 : decode cX10_init 278 = .ok (.newarray .int, 2) := by decide +kernel
theorem dX10_init_280 : decode cX10_init 280 = .ok (.putfield 80, 3) := by decide +kernel
theorem dX10_init_283 : decode cX10_init 283 = .ok (.aload_n 0, 1) := by decide +kernel
theorem dX10_init_284 : decode cX10_init 284 = .ok (.iconst 5, 1) := by decide +kernel
theorem dX10_init_285 : decode cX10_init 285 = .ok (.newarray .int, 2) := by decide +kernel
theorem dX10_init_287 : decode cX10_init 287 = .ok (.putfield 83, 3) := by decide +kernel
theorem dX10_init_290 : decode cX10_init 290 = .ok (.aload_n 0, 1) := by decide +kernel
theorem dX10_init_291 : decode cX10_init 291 = .ok (.bipush 60, 2) := by decide +kernel
theorem dX10_init_293 : decode cX10_init 293 = .ok (.newarray .int, 2) := by decide +kernel
theorem dX10_init_295 : decode cX10_init 295 = .ok (.putfield 86, 3) := by decide +kernel
theorem dX10_init_298 : decode cX10_init 298 = .ok (.aload_n 0, 1) := by decide +kernel
theorem dX10_init_299 : decode cX10_init 299 = .ok (.iconst 4, 1) := by decide +kernel
theorem dX10_init_300 : decode cX10_init 300 = .ok (.newarray .int, 2) := by decide +kernel
theorem dX10_init_302 : decode cX10_init 302 = .ok (.dup, 1) := by decide +kernel
theorem dX10_init_303 : decode cX10_init 303 = .ok (.iconst 0, 1) := by decide +kernel
theorem dX10_init_304 : decode cX10_init 304 = .ok (.iconst (-1), 1) := by decide +kernel
theorem dX10_init_305 : decode cX10_init 305 = .ok (.iastore, 1) := by decide +kernel
theorem dX10_init_306 : decode cX10_init 306 = .ok (.dup, 1) := by decide +kernel
theorem dX10_init_307 : decode cX10_init 307 = .ok (.iconst 1, 1) := by decide +kernel
theorem dX10_init_308 : decode cX10_init 308 = .ok (.iconst (-1), 1) := by decide +kernel
theorem dX10_init_309 : decode cX10_init 309 = .ok (.iastore, 1) := by decide +kernel
theorem dX10_init_310 : decode cX10_init 310 = .ok (.dup, 1) := by decide +kernel
theorem dX10_init_311 : decode cX10_init 311 = .ok (.iconst 2, 1) := by decide +kernel
theorem dX10_init_312 : decode cX10_init 312 = .ok (.iconst (-1), 1) := by decide +kernel
theorem dX10_init_313 : decode cX10_init 313 = .ok (.iastore, 1) := by decide +kernel
theorem dX10_init_314 : decode cX10_init 314 = .ok (.dup, 1) := by decide +kernel
theorem dX10_init_315 : decode cX10_init 315 = .ok (.iconst 3, 1) := by decide +kernel
theorem dX10_init_316 : decode cX10_init 316 = .ok (.iconst (-1), 1) := by decide +kernel
theorem dX10_init_317 : decode cX10_init 317 = .ok (.iastore, 1) := by decide +kernel
theorem dX10_init_318 : decode cX10_init 318 = .ok (.putfield 89, 3) := by decide +kernel
theorem dX10_init_321 : decode cX10_init 321 = .ok (.aload_n 0, 1) := by decide +kernel
theorem dX10_init_322 : decode cX10_init 322 = .ok (.iconst 4, 1) := by decide +kernel
theorem dX10_init_323 : decode cX10_init 323 = .ok (.newarray .int, 2) := by decide +kernel
theorem dX10_init_325 : decode cX10_init 325 = .ok (.putfield 92, 3) := by decide +kernel
theorem dX10_init_328 : decode cX10_init 328 = .ok (.aload_n 0, 1) := by decide +kernel
theorem dX10_init_329 : decode cX10_init 329 = .ok (.sipush 160, 3) := by decide +kernel
theorem dX10_init_332 : decode cX10_init 332 = .ok (.newarray .long, 2) := by decide +kernel
theorem dX10_init_334 : decode cX10_init 334 = .ok (.putfield 95, 3) := by decide +kernel
theorem dX10_init_337 : decode cX10_init 337 = .ok (.aload_n 0, 1) := by decide +kernel
theorem dX10_init_338 : decode cX10_init 338 = .ok (.iconst 4, 1) := by decide +kernel
theorem dX10_init_339 : decode cX10_init 339 = .ok (.newarray .int, 2) := by decide +kernel
theorem dX10_init_341 : decode cX10_init 341 = .ok (.dup, 1) := by decide +kernel
theorem dX10_init_342 : decode cX10_init 342 = .ok (.iconst 0, 1) := by decide +kernel
theorem dX10_init_343 : decode cX10_init 343 = .ok (.iconst (-1), 1) := by decide +kernel
theorem dX10_init_344 : decode cX10_init 344 = .ok (.iastore, 1) := by decide +kernel
theorem dX10_init_345 : decode cX10_init 345 = .ok (.dup, 1) := by decide +kernel
theorem dX10_init_346 : decode cX10_init 346 = .ok (.iconst 1, 1) := by decide +kernel
theorem dX10_init_347 : decode cX10_init 347 = .ok (.iconst (-1), 1) := by decide +kernel
theorem dX10_init_348 : decode cX10_init 348 = .ok (.iastore, 1) := by decide +kernel
theorem dX10_init_349 : decode cX10_init 349 = .ok (.dup, 1) := by decide +kernel
theorem dX10_init_350 : decode cX10_init 350 = .ok (.iconst 2, 1) := by decide +kernel
theorem dX10_init_351 : decode cX10_init 351 = .ok (.iconst (-1), 1) := by decide +kernel
theorem dX10_init_352 : decode cX10_init 352 = .ok (.iastore, 1) := by decide +kernel
theorem dX10_init_353 : decode cX10_init 353 = .ok (.dup, 1) := by decide +kernel
theorem dX10_init_354 : decode cX10_init 354 = .ok (.iconst 3, 1) := by decide +kernel
theorem dX10_init_355 : decode cX10_init 355 = .ok (.iconst (-1), 1) := by decide +kernel
theorem dX10_init_356 : decode cX10_init 356 = .ok (.iastore, 1) := by decide +kernel
theorem dX10_init_357 : decode cX10_init 357 = .ok (.putfield 99, 3) := by decide +kernel
theorem dX10_init_360 : decode cX10_init 360 = .ok (.aload_n 0, 1) := by decide +kernel
theorem dX10_init_361 : decode cX10_init 361 = .ok (.iconst 4, 1) := by decide +kernel
theorem dX10_init_362 : decode cX10_init 362 = .ok (.newarray .int, 2) := by decide +kernel
theorem dX10_init_364 : decode cX10_init 364 = .ok (.putfield 102, 3) := by decide +kernel
theorem dX10_init_367 : decode cX10_init 367 = .ok (.aload_n 0, 1) := by decide +kernel
theorem dX10_init_368 : decode cX10_init 368 = .ok (.iconst 4, 1) := by decide +kernel
theorem dX10_init_369 : decode cX10_init 369 = .ok (.newarray .int, 2) := by decide +kernel
theorem dX10_init_371 : decode cX10_init 371 = .ok (.putfield 105, 3) := by decide +kernel
theorem dX10_init_374 : decode cX10_init 374 = .ok (.aload_n 0, 1) := by decide +kernel
theorem dX10_init_375 : decode cX10_init 375 = .ok (.bipush 30, 2) := by decide +kernel
theorem dX10_init_377 : decode cX10_init 377 = .ok (.newarray .int, 2) := by decide +kernel
theorem dX10_init_379 : decode cX10_init 379 = .ok (.putfield 108, 3) := by decide +kernel
theorem dX10_init_382 : decode cX10_init 382 = .ok (.aload_n 0, 1) := by decide +kernel
theorem dX10_init_383 : decode cX10_init 383 = .ok (.bipush 80, 2) := by decide +kernel
theorem dX10_init_385 : decode cX10_init 385 = .ok (.newarray .int, 2) := by decide +kernel
theorem dX10_init_387 : decode cX10_init 387 = .ok (.putfield 111, 3) := by decide +kernel
theorem dX10_init_390 : decode cX10_init 390 = .ok (.aload_n 0, 1) := by decide +kernel
theorem dX10_init_391 : decode cX10_init 391 = .ok (.iconst 4, 1) := by decide +kernel
theorem dX10_init_392 : decode cX10_init 392 = .ok (.newarray .int, 2) := by decide +kernel
theorem dX10_init_394 : decode cX10_init 394 = .ok (.putfield 114, 3) := by decide +kernel
theorem dX10_init_397 : decode cX10_init 397 = .ok (.return_, 1) := by decide +kernel
theorem dX10_in_0 : decode cX10_in 0 = .ok (.iload_n 0, 1) := by decide +kernel
theorem dX10_in_1 : decode cX10_in 1 = .ok (.iload_n 1, 1) := by decide +kernel
theorem dX10_in_2 : decode cX10_in 2 = .ok (.if_icmp .lt 12, 3) := by decide +kernel
theorem dX10_in_5 : decode cX10_in 5 = .ok (.iload_n 0, 1) := by decide +kernel
theorem dX10_in_6 : decode cX10_in 6 = .ok (.iload_n 2, 1) := by decide +kernel
theorem dX10_in_7 : decode cX10_in 7 = .ok (.if_icmp .gt 7, 3) := by decide +kernel
theorem dX10_in_10 : decode cX10_in 10 = .ok (.iconst 1, 1) := by decide +kernel
theorem dX10_in_11 : decode cX10_in 11 = .ok (.goto 4, 3) := by decide +kernel
theorem dX10_in_14 : decode cX10_in 14 = .ok (.iconst 0, 1) := by decide +kernel
theorem dX10_in_15 : decode cX10_in 15 = .ok (.ireturn, 1) := by decide +kernel
theorem dX10_isLot_0 : decode cX10_isLot 0 = .ok (.iload_n 1, 1) := by decide +kernel
theorem dX10_isLot_1 : decode cX10_isLot 1 = .ok (.iconst 0, 1) := by decide +kernel
theorem dX10_isLot_2 : decode cX10_isLot 2 = .ok (.aload_n 0, 1) := by decide +kernel
theorem dX10_isLot_3 : decode cX10_isLot 3 = .ok (.getfield 117, 3) := by decide +kernel
theorem dX10_isLot_6 : decode cX10_isLot 6 = .ok (.iconst 1, 1) := by decide +kernel
theorem dX10_isLot_7 : decode cX10_isLot 7 = .ok (.isub, 1) := by decide +kernel
theorem dX10_isLot_8 : decode cX10_isLot 8 = .ok (.invokestatic 120, 3) := by decide +kernel
theorem dX10_isLot_11 : decode cX10_isLot 11 = .ok (.ireturn, 1) := by decide +kernel
theorem dX10_isFree_0 : decode cX10_isFree 0 = .ok (.aload_n 0, 1) := by decide +kernel
theorem dX10_isFree_1 : decode cX10_isFree 1 = .ok (.iload_n 1, 1) := by decide +kernel
theorem dX10_isFree_2 : decode cX10_isFree 2 = .ok (.invokevirtual 124, 3) := by decide +kernel
theorem dX10_isFree_5 : decode cX10_isFree 5 = .ok (.ifCond .eq 28, 3) := by decide +kernel
theorem dX10_isFree_8 : decode cX10_isFree 8 = .ok (.aload_n 0, 1) := by decide +kernel
theorem dX10_isFree_9 : decode cX10_isFree 9 = .ok (.getfield 16, 3) := by decide +kernel
theorem dX10_isFree_12 : decode cX10_isFree 12 = .ok (.aload_n 0, 1) := by decide +kernel
theorem dX10_isFree_13 : decode cX10_isFree 13 = .ok (.iload_n 1, 1) := by decide +kernel
theorem dX10_isFree_14 : decode cX10_isFree 14 = .ok (.invokevirtual 124, 3) := by decide +kernel
theorem dX10_isFree_17 : decode cX10_isFree 17 = .ok (.ifCond .eq 7, 3) := by decide +kernel
theorem dX10_isFree_20 : decode cX10_isFree 20 = .ok (.iload_n 1, 1) := by decide +kernel
theorem dX10_isFree_21 : decode cX10_isFree 21 = .ok (.goto 4, 3) := by decide +kernel
theorem dX10_isFree_24 : decode cX10_isFree 24 = .ok (.iconst 0, 1) := by decide +kernel
theorem dX10_isFree_25 : decode cX10_isFree 25 = .ok (.iaload, 1) := by decide +kernel
theorem dX10_isFree_26 : decode cX10_isFree 26 = .ok (.ifCond .ne 7, 3) := by decide +kernel
theorem dX10_isFree_29 : decode cX10_isFree 29 = .ok (.iconst 1, 1) := by decide +kernel
theorem dX10_isFree_30 : decode cX10_isFree 30 = .ok (.goto 4, 3) := by decide +kernel
theorem dX10_isFree_33 : decode cX10_isFree 33 = .ok (.iconst 0, 1) := by decide +kernel
theorem dX10_isFree_34 : decode cX10_isFree 34 = .ok (.ireturn, 1) := by decide +kernel
theorem dX10_isBidder_0 : decode cX10_isBidder 0 = .ok (.iload_n 1, 1) := by decide +kernel
theorem dX10_isBidder_1 : decode cX10_isBidder 1 = .ok (.iconst 0, 1) := by decide +kernel
theorem dX10_isBidder_2 : decode cX10_isBidder 2 = .ok (.aload_n 0, 1) := by decide +kernel
theorem dX10_isBidder_3 : decode cX10_isBidder 3 = .ok (.getfield 128, 3) := by decide +kernel
theorem dX10_isBidder_6 : decode cX10_isBidder 6 = .ok (.iconst 1, 1) := by decide +kernel
theorem dX10_isBidder_7 : decode cX10_isBidder 7 = .ok (.isub, 1) := by decide +kernel
theorem dX10_isBidder_8 : decode cX10_isBidder 8 = .ok (.invokestatic 120, 3) := by decide +kernel
theorem dX10_isBidder_11 : decode cX10_isBidder 11 = .ok (.ireturn, 1) := by decide +kernel
theorem dX10_isSide_0 : decode cX10_isSide 0 = .ok (.iload_n 0, 1) := by decide +kernel
theorem dX10_isSide_1 : decode cX10_isSide 1 = .ok (.iconst 0, 1) := by decide +kernel
theorem dX10_isSide_2 : decode cX10_isSide 2 = .ok (.iconst 1, 1) := by decide +kernel
theorem dX10_isSide_3 : decode cX10_isSide 3 = .ok (.invokestatic 120, 3) := by decide +kernel
theorem dX10_isSide_6 : decode cX10_isSide 6 = .ok (.ireturn, 1) := by decide +kernel
theorem dX10_isPlace_0 : decode cX10_isPlace 0 = .ok (.iload_n 0, 1) := by decide +kernel
theorem dX10_isPlace_1 : decode cX10_isPlace 1 = .ok (.iconst 0, 1) := by decide +kernel
theorem dX10_isPlace_2 : decode cX10_isPlace 2 = .ok (.bipush 11, 2) := by decide +kernel
theorem dX10_isPlace_4 : decode cX10_isPlace 4 = .ok (.invokestatic 120, 3) := by decide +kernel
theorem dX10_isPlace_7 : decode cX10_isPlace 7 = .ok (.ireturn, 1) := by decide +kernel
theorem dX10_its_0 : decode cX10_its 0 = .ok (.aload_n 0, 1) := by decide +kernel
theorem dX10_its_1 : decode cX10_its 1 = .ok (.getfield 41, 3) := by decide +kernel
theorem dX10_its_4 : decode cX10_its 4 = .ok (.aload_n 0, 1) := by decide +kernel
theorem dX10_its_5 : decode cX10_its 5 = .ok (.getfield 131, 3) := by decide +kernel
theorem dX10_its_8 : decode cX10_its 8 = .ok (.iload_n 1, 1) := by decide +kernel
theorem dX10_its_9 : decode cX10_its 9 = .ok (.iadd, 1) := by decide +kernel
theorem dX10_its_10 : decode cX10_its 10 = .ok (.iaload, 1) := by decide +kernel
theorem dX10_its_11 : decode cX10_its 11 = .ok (.ireturn, 1) := by decide +kernel
theorem dX10_becomes_0 : decode cX10_becomes 0 = .ok (.aload_n 0, 1) := by decide +kernel
theorem dX10_becomes_1 : decode cX10_becomes 1 = .ok (.getfield 41, 3) := by decide +kernel
theorem dX10_becomes_4 : decode cX10_becomes 4 = .ok (.aload_n 0, 1) := by decide +kernel
theorem dX10_becomes_5 : decode cX10_becomes 5 = .ok (.getfield 131, 3) := by decide +kernel
theorem dX10_becomes_8 : decode cX10_becomes 8 = .ok (.iload_n 1, 1) := by decide +kernel
theorem dX10_becomes_9 : decode cX10_becomes 9 = .ok (.iadd, 1) := by decide +kernel
theorem dX10_becomes_10 : decode cX10_becomes 10 = .ok (.iload_n 2, 1) := by decide +kernel
theorem dX10_becomes_11 : decode cX10_becomes 11 = .ok (.iastore, 1) := by decide +kernel
theorem dX10_becomes_12 : decode cX10_becomes 12 = .ok (.return_, 1) := by decide +kernel
theorem dX10_feed_0 : decode cX10_feed 0 = .ok (.iload_n 3, 1) := by decide +kernel
theorem dX10_feed_1 : decode cX10_feed 1 = .ok (.iconst 1, 1) := by decide +kernel
theorem dX10_feed_2 : decode cX10_feed 2 = .ok (.bipush 8, 2) := by decide +kernel
theorem dX10_feed_4 : decode cX10_feed 4 = .ok (.invokestatic 120, 3) := by decide +kernel
theorem dX10_feed_7 : decode cX10_feed 7 = .ok (.ifCond .ne 5, 3) := by decide +kernel
theorem dX10_feed_10 : decode cX10_feed 10 = .ok (.iconst (-1), 1) := by decide +kernel
theorem dX10_feed_11 : decode cX10_feed 11 = .ok (.ireturn, 1) := by decide +kernel
theorem dX10_feed_12 : decode cX10_feed 12 = .ok (.aload_n 0, 1) := by decide +kernel
theorem dX10_feed_13 : decode cX10_feed 13 = .ok (.getfield 134, 3) := by decide +kernel
theorem dX10_feed_16 : decode cX10_feed 16 = .ok (.iload_n 3, 1) := by decide +kernel
theorem dX10_feed_17 : decode cX10_feed 17 = .ok (.iadd, 1) := by decide +kernel
theorem dX10_feed_18 : decode cX10_feed 18 = .ok (.sipush 200, 3) := by decide +kernel
theorem dX10_feed_21 : decode cX10_feed 21 = .ok (.if_icmp .le 6, 3) := by decide +kernel
theorem dX10_feed_24 : decode cX10_feed 24 = .ok (.bipush (-2), 2) := by decide +kernel
theorem dX10_feed_26 : decode cX10_feed 26 = .ok (.ireturn, 1) := by decide +kernel
theorem dX10_feed_27 : decode cX10_feed 27 = .ok (.iconst 0, 1) := by decide +kernel
theorem dX10_feed_28 : decode cX10_feed 28 = .ok (.istore 4, 2) := by decide +kernel
theorem dX10_feed_30 : decode cX10_feed 30 = .ok (.iload 4, 2) := by decide +kernel
theorem dX10_feed_32 : decode cX10_feed 32 = .ok (.iload_n 3, 1) := by decide +kernel
theorem dX10_feed_33 : decode cX10_feed 33 = .ok (.if_icmp .ge 40, 3) := by decide +kernel
theorem dX10_feed_36 : decode cX10_feed 36 = .ok (.aload_n 0, 1) := by decide +kernel
theorem dX10_feed_37 : decode cX10_feed 37 = .ok (.getfield 47, 3) := by decide +kernel
theorem dX10_feed_40 : decode cX10_feed 40 = .ok (.aload_n 0, 1) := by decide +kernel
theorem dX10_feed_41 : decode cX10_feed 41 = .ok (.getfield 134, 3) := by decide +kernel
theorem dX10_feed_44 : decode cX10_feed 44 = .ok (.lload_n 1, 1) := by decide +kernel
theorem dX10_feed_45 : decode cX10_feed 45 = .ok (.bipush 8, 2) := by decide +kernel
theorem dX10_feed_47 : decode cX10_feed 47 = .ok (.iload 4, 2) := by decide +kernel
theorem dX10_feed_49 : decode cX10_feed 49 = .ok (.imul, 1) := by decide +kernel
theorem dX10_feed_50 : decode cX10_feed 50 = .ok (.lshr, 1) := by decide +kernel
theorem dX10_feed_51 : decode cX10_feed 51 = .ok (.ldc2_w 137, 3) := by decide +kernel
theorem dX10_feed_54 : decode cX10_feed 54 = .ok (.land, 1) := by decide +kernel
theorem dX10_feed_55 : decode cX10_feed 55 = .ok (.l2i, 1) := by decide +kernel
theorem dX10_feed_56 : decode cX10_feed 56 = .ok (.iastore, 1) := by decide +kernel
theorem dX10_feed_57 : decode cX10_feed 57 = .ok (.aload_n 0, 1) := by decide +kernel
theorem dX10_feed_58 : decode cX10_feed 58 = .ok (.dup, 1) := by decide +kernel
theorem dX10_feed_59 : decode cX10_feed 59 = .ok (.getfield 134, 3) := by decide +kernel
theorem dX10_feed_62 : decode cX10_feed 62 = .ok (.iconst 1, 1) := by decide +kernel
theorem dX10_feed_63 : decode cX10_feed 63 = .ok (.iadd, 1) := by decide +kernel
theorem dX10_feed_64 : decode cX10_feed 64 = .ok (.putfield 134, 3) := by decide +kernel
theorem dX10_feed_67 : decode cX10_feed 67 = .ok (.iinc 4 1, 3) := by decide +kernel
theorem dX10_feed_70 : decode cX10_feed 70 = .ok (.goto (-40), 3) := by decide +kernel
theorem dX10_feed_73 : decode cX10_feed 73 = .ok (.aload_n 0, 1) := by decide +kernel
theorem dX10_feed_74 : decode cX10_feed 74 = .ok (.getfield 134, 3) := by decide +kernel
theorem dX10_feed_77 : decode cX10_feed 77 = .ok (.ireturn, 1) := by decide +kernel
theorem dX10_byteAt_0 : decode cX10_byteAt 0 = .ok (.iload_n 1, 1) := by decide +kernel
theorem dX10_byteAt_1 : decode cX10_byteAt 1 = .ok (.aload_n 0, 1) := by decide +kernel
theorem dX10_byteAt_2 : decode cX10_byteAt 2 = .ok (.getfield 134, 3) := by decide +kernel
theorem dX10_byteAt_5 : decode cX10_byteAt 5 = .ok (.if_icmp .ge 12, 3) := by decide +kernel
theorem dX10_byteAt_8 : decode cX10_byteAt 8 = .ok (.aload_n 0, 1) := by decide +kernel
theorem dX10_byteAt_9 : decode cX10_byteAt 9 = .ok (.getfield 47, 3) := by decide +kernel
theorem dX10_byteAt_12 : decode cX10_byteAt 12 = .ok (.iload_n 1, 1) := by decide +kernel
theorem dX10_byteAt_13 : decode cX10_byteAt 13 = .ok (.iaload, 1) := by decide +kernel
theorem dX10_byteAt_14 : decode cX10_byteAt 14 = .ok (.goto 4, 3) := by decide +kernel
theorem dX10_byteAt_17 : decode cX10_byteAt 17 = .ok (.iconst (-1), 1) := by decide +kernel
theorem dX10_byteAt_18 : decode cX10_byteAt 18 = .ok (.ireturn, 1) := by decide +kernel
theorem dX10_isLetter_0 : decode cX10_isLetter 0 = .ok (.iload_n 0, 1) := by decide +kernel
theorem dX10_isLetter_1 : decode cX10_isLetter 1 = .ok (.bipush 97, 2) := by decide +kernel
theorem dX10_isLetter_3 : decode cX10_isLetter 3 = .ok (.bipush 122, 2) := by decide +kernel
theorem dX10_isLetter_5 : decode cX10_isLetter 5 = .ok (.invokestatic 120, 3) := by decide +kernel
theorem dX10_isLetter_8 : decode cX10_isLetter 8 = .ok (.ireturn, 1) := by decide +kernel
theorem dX10_isDigit_0 : decode cX10_isDigit 0 = .ok (.iload_n 0, 1) := by decide +kernel
theorem dX10_isDigit_1 : decode cX10_isDigit 1 = .ok (.bipush 48, 2) := by decide +kernel
theorem dX10_isDigit_3 : decode cX10_isDigit 3 = .ok (.bipush 57, 2) := by decide +kernel
theorem dX10_isDigit_5 : decode cX10_isDigit 5 = .ok (.invokestatic 120, 3) := by decide +kernel
theorem dX10_isDigit_8 : decode cX10_isDigit 8 = .ok (.ireturn, 1) := by decide +kernel
theorem dX10_advance_0 : decode cX10_advance 0 = .ok (.aload_n 0, 1) := by decide +kernel
theorem dX10_advance_1 : decode cX10_advance 1 = .ok (.aload_n 0, 1) := by decide +kernel
theorem dX10_advance_2 : decode cX10_advance 2 = .ok (.getfield 139, 3) := by decide +kernel
theorem dX10_advance_5 : decode cX10_advance 5 = .ok (.putfield 142, 3) := by decide +kernel
theorem dX10_advance_8 : decode cX10_advance 8 = .ok (.aload_n 0, 1) := by decide +kernel
theorem dX10_advance_9 : decode cX10_advance 9 = .ok (.aload_n 0, 1) := by decide +kernel
theorem dX10_advance_10 : decode cX10_advance 10 = .ok (.getfield 142, 3) := by decide +kernel
theorem dX10_advance_13 : decode cX10_advance 13 = .ok (.invokevirtual 145, 3) := by decide +kernel
theorem dX10_advance_16 : decode cX10_advance 16 = .ok (.bipush 32, 2) := by decide +kernel
theorem dX10_advance_18 : decode cX10_advance 18 = .ok (.if_icmp .ne 16, 3) := by decide +kernel
theorem dX10_advance_21 : decode cX10_advance 21 = .ok (.aload_n 0, 1) := by decide +kernel
theorem dX10_advance_22 : decode cX10_advance 22 = .ok (.dup, 1) := by decide +kernel
theorem dX10_advance_23 : decode cX10_advance 23 = .ok (.getfield 142, 3) := by decide +kernel
theorem dX10_advance_26 : decode cX10_advance 26 = .ok (.iconst 1, 1) := by decide +kernel
theorem dX10_advance_27 : decode cX10_advance 27 = .ok (.iadd, 1) := by decide +kernel
theorem dX10_advance_28 : decode cX10_advance 28 = .ok (.putfield 142, 3) := by decide +kernel
theorem dX10_advance_31 : decode cX10_advance 31 = .ok (.goto (-23), 3) := by decide +kernel
theorem dX10_advance_34 : decode cX10_advance 34 = .ok (.aload_n 0, 1) := by decide +kernel
theorem dX10_advance_35 : decode cX10_advance 35 = .ok (.aload_n 0, 1) := by decide +kernel
theorem dX10_advance_36 : decode cX10_advance 36 = .ok (.getfield 142, 3) := by decide +kernel
theorem dX10_advance_39 : decode cX10_advance 39 = .ok (.putfield 139, 3) := by decide +kernel
theorem dX10_advance_42 : decode cX10_advance 42 = .ok (.aload_n 0, 1) := by decide +kernel
theorem dX10_advance_43 : decode cX10_advance 43 = .ok (.aload_n 0, 1) := by decide +kernel
theorem dX10_advance_44 : decode cX10_advance 44 = .ok (.getfield 142, 3) := by decide +kernel
theorem dX10_advance_47 : decode cX10_advance 47 = .ok (.invokevirtual 145, 3) := by decide +kernel
theorem dX10_advance_50 : decode cX10_advance 50 = .ok (.istore_n 1, 1) := by decide +kernel
theorem dX10_advance_51 : decode cX10_advance 51 = .ok (.aload_n 0, 1) := by decide +kernel
theorem dX10_advance_52 : decode cX10_advance 52 = .ok (.iload_n 1, 1) := by decide +kernel
theorem dX10_advance_53 : decode cX10_advance 53 = .ok (.ifCond .ge 7, 3) := by decide +kernel
theorem dX10_advance_56 : decode cX10_advance 56 = .ok (.iconst 0, 1) := by decide +kernel
theorem dX10_advance_57 : decode cX10_advance 57 = .ok (.goto 26, 3) := by decide +kernel
theorem dX10_advance_60 : decode cX10_advance 60 = .ok (.iload_n 1, 1) := by decide +kernel
theorem dX10_advance_61 : decode cX10_advance 61 = .ok (.invokestatic 149, 3) := by decide +kernel
theorem dX10_advance_64 : decode cX10_advance 64 = .ok (.ifCond .eq 7, 3) := by decide +kernel
theorem dX10_advance_67 : decode cX10_advance 67 = .ok (.iconst 1, 1) := by decide +kernel
theorem dX10_advance_68 : decode cX10_advance 68 = .ok (.goto 15, 3) := by decide +kernel
theorem dX10_advance_71 : decode cX10_advance 71 = .ok (.iload_n 1, 1) := by decide +kernel
theorem dX10_advance_72 : decode cX10_advance 72 = .ok (.invokestatic 152, 3) := by decide +kernel
theorem dX10_advance_75 : decode cX10_advance 75 = .ok (.ifCond .eq 7, 3) := by decide +kernel
theorem dX10_advance_78 : decode cX10_advance 78 = .ok (.iconst 2, 1) := by decide +kernel
theorem dX10_advance_79 : decode cX10_advance 79 = .ok (.goto 4, 3) := by decide +kernel
theorem dX10_advance_82 : decode cX10_advance 82 = .ok (.iconst 3, 1) := by decide +kernel
theorem dX10_advance_83 : decode cX10_advance 83 = .ok (.putfield 155, 3) := by decide +kernel
theorem dX10_advance_86 : decode cX10_advance 86 = .ok (.aload_n 0, 1) := by decide +kernel
theorem dX10_advance_87 : decode cX10_advance 87 = .ok (.lconst 0, 1) := by decide +kernel
theorem dX10_advance_88 : decode cX10_advance 88 = .ok (.putfield 158, 3) := by decide +kernel
theorem dX10_advance_91 : decode cX10_advance 91 = .ok (.aload_n 0, 1) := by decide +kernel
theorem dX10_advance_92 : decode cX10_advance 92 = .ok (.aload_n 0, 1) := by decide +kernel
theorem dX10_advance_93 : decode cX10_advance 93 = .ok (.getfield 155, 3) := by decide +kernel
theorem dX10_advance_96 : decode cX10_advance 96 = .ok (.iconst 2, 1) := by decide +kernel
theorem dX10_advance_97 : decode cX10_advance 97 = .ok (.if_icmp .ne 7, 3) := by decide +kernel
theorem dX10_advance_100 : decode cX10_advance 100 = .ok (.iconst 0, 1) := by decide +kernel
theorem dX10_advance_101 : decode cX10_advance 101 = .ok (.goto 4, 3) := by decide +kernel
theorem dX10_advance_104 : decode cX10_advance 104 = .ok (.iload_n 1, 1) := by decide +kernel
theorem dX10_advance_105 : decode cX10_advance 105 = .ok (.putfield 162, 3) := by decide +kernel
theorem dX10_advance_108 : decode cX10_advance 108 = .ok (.aload_n 0, 1) := by decide +kernel
theorem dX10_advance_109 : decode cX10_advance 109 = .ok (.getfield 155, 3) := by decide +kernel
theorem dX10_advance_112 : decode cX10_advance 112 = .ok (.iconst 3, 1) := by decide +kernel
theorem dX10_advance_113 : decode cX10_advance 113 = .ok (.if_icmp .ne 13, 3) := by decide +kernel
theorem dX10_advance_116 : decode cX10_advance 116 = .ok (.aload_n 0, 1) := by decide +kernel
theorem dX10_advance_117 : decode cX10_advance 117 = .ok (.dup, 1) := by decide +kernel
theorem dX10_advance_118 : decode cX10_advance 118 = .ok (.getfield 139, 3) := by decide +kernel
theorem dX10_advance_121 : decode cX10_advance 121 = .ok (.iconst 1, 1) := by decide +kernel
theorem dX10_advance_122 : decode cX10_advance 122 = .ok (.iadd, 1) := by decide +kernel
theorem dX10_advance_123 : decode cX10_advance 123 = .ok (.putfield 139, 3) := by decide +kernel
theorem dX10_advance_126 : decode cX10_advance 126 = .ok (.aload_n 0, 1) := by decide +kernel
theorem dX10_advance_127 : decode cX10_advance 127 = .ok (.getfield 155, 3) := by decide +kernel
theorem dX10_advance_130 : decode cX10_advance 130 = .ok (.iconst 1, 1) := by decide +kernel
theorem dX10_advance_131 : decode cX10_advance 131 = .ok (.if_icmp .ne 76, 3) := by decide +kernel
theorem dX10_advance_134 : decode cX10_advance 134 = .ok (.aload_n 0, 1) := by decide +kernel
theorem dX10_advance_135 : decode cX10_advance 135 = .ok (.aload_n 0, 1) := by decide +kernel
theorem dX10_advance_136 : decode cX10_advance 136 = .ok (.getfield 139, 3) := by decide +kernel
theorem dX10_advance_139 : decode cX10_advance 139 = .ok (.invokevirtual 145, 3) := by decide +kernel
theorem dX10_advance_142 : decode cX10_advance 142 = .ok (.invokestatic 149, 3) := by decide +kernel
theorem dX10_advance_145 : decode cX10_advance 145 = .ok (.ifCond .eq 62, 3) := by decide +kernel
theorem dX10_advance_148 : decode cX10_advance 148 = .ok (.aload_n 0, 1) := by decide +kernel
theorem dX10_advance_149 : decode cX10_advance 149 = .ok (.aload_n 0, 1) := by decide +kernel
theorem dX10_advance_150 : decode cX10_advance 150 = .ok (.getfield 139, 3) := by decide +kernel
theorem dX10_advance_153 : decode cX10_advance 153 = .ok (.aload_n 0, 1) := by decide +kernel
theorem dX10_advance_154 : decode cX10_advance 154 = .ok (.getfield 142, 3) := by decide +kernel
theorem dX10_advance_157 : decode cX10_advance 157 = .ok (.isub, 1) := by decide +kernel
theorem dX10_advance_158 : decode cX10_advance 158 = .ok (.bipush 8, 2) := by decide +kernel
theorem dX10_advance_160 : decode cX10_advance 160 = .ok (.if_icmp .ge 28, 3) := by decide +kernel
theorem dX10_advance_163 : decode cX10_advance 163 = .ok (.ldc2_w 165, 3) := by decide +kernel
theorem dX10_advance_166 : decode cX10_advance 166 = .ok (.aload_n 0, 1) := by decide +kernel
theorem dX10_advance_167 : decode cX10_advance 167 = .ok (.getfield 158, 3) := by decide +kernel
theorem dX10_advance_170 : decode cX10_advance 170 = .ok (.lmul, 1) := by decide +kernel
theorem dX10_advance_171 : decode cX10_advance 171 = .ok (.aload_n 0, 1) := by decide +kernel
theorem dX10_advance_172 : decode cX10_advance 172 = .ok (.aload_n 0, 1) := by decide +kernel
theorem dX10_advance_173 : decode cX10_advance 173 = .ok (.getfield 139, 3) := by decide +kernel
theorem dX10_advance_176 : decode cX10_advance 176 = .ok (.invokevirtual 145, 3) := by decide +kernel
theorem dX10_advance_179 : decode cX10_advance 179 = .ok (.i2l, 1) := by decide +kernel
theorem dX10_advance_180 : decode cX10_advance 180 = .ok (.ladd, 1) := by decide +kernel
theorem dX10_advance_181 : decode cX10_advance 181 = .ok (.ldc2_w 167, 3) := by decide +kernel
theorem dX10_advance_184 : decode cX10_advance 184 = .ok (.lsub, 1) := by decide +kernel
theorem dX10_advance_185 : decode cX10_advance 185 = .ok (.goto 6, 3) := by decide +kernel
theorem dX10_advance_188 : decode cX10_advance 188 = .ok (.ldc2_w 169, 3) := by decide +kernel
theorem dX10_advance_191 : decode cX10_advance 191 = .ok (.putfield 158, 3) := by decide +kernel
theorem dX10_advance_194 : decode cX10_advance 194 = .ok (.aload_n 0, 1) := by decide +kernel
theorem dX10_advance_195 : decode cX10_advance 195 = .ok (.dup, 1) := by decide +kernel
theorem dX10_advance_196 : decode cX10_advance 196 = .ok (.getfield 139, 3) := by decide +kernel
theorem dX10_advance_199 : decode cX10_advance 199 = .ok (.iconst 1, 1) := by decide +kernel
theorem dX10_advance_200 : decode cX10_advance 200 = .ok (.iadd, 1) := by decide +kernel
theorem dX10_advance_201 : decode cX10_advance 201 = .ok (.putfield 139, 3) := by decide +kernel
theorem dX10_advance_204 : decode cX10_advance 204 = .ok (.goto (-78), 3) := by decide +kernel
theorem dX10_advance_207 : decode cX10_advance 207 = .ok (.aload_n 0, 1) := by decide +kernel
theorem dX10_advance_208 : decode cX10_advance 208 = .ok (.getfield 155, 3) := by decide +kernel
theorem dX10_advance_211 : decode cX10_advance 211 = .ok (.iconst 2, 1) := by decide +kernel
theorem dX10_advance_212 : decode cX10_advance 212 = .ok (.if_icmp .ne 70, 3) := by decide +kernel
theorem dX10_advance_215 : decode cX10_advance 215 = .ok (.aload_n 0, 1) := by decide +kernel
theorem dX10_advance_216 : decode cX10_advance 216 = .ok (.aload_n 0, 1) := by decide +kernel
theorem dX10_advance_217 : decode cX10_advance 217 = .ok (.getfield 139, 3) := by decide +kernel
theorem dX10_advance_220 : decode cX10_advance 220 = .ok (.invokevirtual 145, 3) := by decide +kernel
theorem dX10_advance_223 : decode cX10_advance 223 = .ok (.invokestatic 152, 3) := by decide +kernel
theorem dX10_advance_226 : decode cX10_advance 226 = .ok (.ifCond .eq 56, 3) := by decide +kernel
theorem dX10_advance_229 : decode cX10_advance 229 = .ok (.aload_n 0, 1) := by decide +kernel
theorem dX10_advance_230 : decode cX10_advance 230 = .ok (.aload_n 0, 1) := by decide +kernel
theorem dX10_advance_231 : decode cX10_advance 231 = .ok (.getfield 139, 3) := by decide +kernel
theorem dX10_advance_234 : decode cX10_advance 234 = .ok (.aload_n 0, 1) := by decide +kernel
theorem dX10_advance_235 : decode cX10_advance 235 = .ok (.getfield 142, 3) := by decide +kernel
theorem dX10_advance_238 : decode cX10_advance 238 = .ok (.isub, 1) := by decide +kernel
theorem dX10_advance_239 : decode cX10_advance 239 = .ok (.iconst 4, 1) := by decide +kernel
theorem dX10_advance_240 : decode cX10_advance 240 = .ok (.if_icmp .ge 25, 3) := by decide +kernel
theorem dX10_advance_243 : decode cX10_advance 243 = .ok (.bipush 10, 2) := by decide +kernel
theorem dX10_advance_245 : decode cX10_advance 245 = .ok (.aload_n 0, 1) := by decide +kernel
theorem dX10_advance_246 : decode cX10_advance 246 = .ok (.getfield 162, 3) := by decide +kernel
theorem dX10_advance_249 : decode cX10_advance 249 = .ok (.imul, 1) := by decide +kernel
theorem dX10_advance_250 : decode cX10_advance 250 = .ok (.aload_n 0, 1) := by decide +kernel
theorem dX10_advance_251 : decode cX10_advance 251 = .ok (.aload_n 0, 1) := by decide +kernel
theorem dX10_advance_252 : decode cX10_advance 252 = .ok (.getfield 139, 3) := by decide +kernel
theorem dX10_advance_255 : decode cX10_advance 255 = .ok (.invokevirtual 145, 3) := by decide +kernel
theorem dX10_advance_258 : decode cX10_advance 258 = .ok (.iadd, 1) := by decide +kernel
theorem dX10_advance_259 : decode cX10_advance 259 = .ok (.bipush 48, 2) := by decide +kernel
theorem dX10_advance_261 : decode cX10_advance 261 = .ok (.isub, 1) := by decide +kernel
theorem dX10_advance_262 : decode cX10_advance 262 = .ok (.goto 4, 3) := by decide +kernel
theorem dX10_advance_265 : decode cX10_advance 265 = .ok (.iconst (-1), 1) := by decide +kernel
theorem dX10_advance_266 : decode cX10_advance 266 = .ok (.putfield 162, 3) := by decide +kernel
theorem dX10_advance_269 : decode cX10_advance 269 = .ok (.aload_n 0, 1) := by decide +kernel
theorem dX10_advance_270 : decode cX10_advance 270 = .ok (.dup, 1) := by decide +kernel
theorem dX10_advance_271 : decode cX10_advance 271 = .ok (.getfield 139, 3) := by decide +kernel
theorem dX10_advance_274 : decode cX10_advance 274 = .ok (.iconst 1, 1) := by decide +kernel
theorem dX10_advance_275 : decode cX10_advance 275 = .ok (.iadd, 1) := by decide +kernel
theorem dX10_advance_276 : decode cX10_advance 276 = .ok (.putfield 139, 3) := by decide +kernel
theorem dX10_advance_279 : decode cX10_advance 279 = .ok (.goto (-72), 3) := by decide +kernel
theorem dX10_advance_282 : decode cX10_advance 282 = .ok (.return_, 1) := by decide +kernel
theorem dX10_isWord_0 : decode cX10_isWord 0 = .ok (.aload_n 0, 1) := by decide +kernel
theorem dX10_isWord_1 : decode cX10_isWord 1 = .ok (.getfield 155, 3) := by decide +kernel
theorem dX10_isWord_4 : decode cX10_isWord 4 = .ok (.iconst 1, 1) := by decide +kernel
theorem dX10_isWord_5 : decode cX10_isWord 5 = .ok (.if_icmp .ne 16, 3) := by decide +kernel
theorem dX10_isWord_8 : decode cX10_isWord 8 = .ok (.aload_n 0, 1) := by decide +kernel
theorem dX10_isWord_9 : decode cX10_isWord 9 = .ok (.getfield 158, 3) := by decide +kernel
theorem dX10_isWord_12 : decode cX10_isWord 12 = .ok (.lload_n 1, 1) := by decide +kernel
theorem dX10_isWord_13 : decode cX10_isWord 13 = .ok (.lcmp, 1) := by decide +kernel
theorem dX10_isWord_14 : decode cX10_isWord 14 = .ok (.ifCond .ne 7, 3) := by decide +kernel
theorem dX10_isWord_17 : decode cX10_isWord 17 = .ok (.iconst 1, 1) := by decide +kernel
theorem dX10_isWord_18 : decode cX10_isWord 18 = .ok (.goto 4, 3) := by decide +kernel
theorem dX10_isWord_21 : decode cX10_isWord 21 = .ok (.iconst 0, 1) := by decide +kernel
theorem dX10_isWord_22 : decode cX10_isWord 22 = .ok (.ireturn, 1) := by decide +kernel
theorem dX10_isMark_0 : decode cX10_isMark 0 = .ok (.aload_n 0, 1) := by decide +kernel
theorem dX10_isMark_1 : decode cX10_isMark 1 = .ok (.getfield 155, 3) := by decide +kernel
theorem dX10_isMark_4 : decode cX10_isMark 4 = .ok (.iconst 3, 1) := by decide +kernel
theorem dX10_isMark_5 : decode cX10_isMark 5 = .ok (.if_icmp .ne 15, 3) := by decide +kernel
theorem dX10_isMark_8 : decode cX10_isMark 8 = .ok (.aload_n 0, 1) := by decide +kernel
theorem dX10_isMark_9 : decode cX10_isMark 9 = .ok (.getfield 162, 3) := by decide +kernel
theorem dX10_isMark_12 : decode cX10_isMark 12 = .ok (.iload_n 1, 1) := by decide +kernel
theorem dX10_isMark_13 : decode cX10_isMark 13 = .ok (.if_icmp .ne 7, 3) := by decide +kernel
theorem dX10_isMark_16 : decode cX10_isMark 16 = .ok (.iconst 1, 1) := by decide +kernel
theorem dX10_isMark_17 : decode cX10_isMark 17 = .ok (.goto 4, 3) := by decide +kernel
theorem dX10_isMark_20 : decode cX10_isMark 20 = .ok (.iconst 0, 1) := by decide +kernel
theorem dX10_isMark_21 : decode cX10_isMark 21 = .ok (.ireturn, 1) := by decide +kernel
theorem dX10_kindHere_0 : decode cX10_kindHere 0 = .ok (.aload_n 0, 1) := by decide +kernel
theorem dX10_kindHere_1 : decode cX10_kindHere 1 = .ok (.ldc2_w 171, 3) := by decide +kernel
theorem dX10_kindHere_4 : decode cX10_kindHere 4 = .ok (.invokevirtual 173, 3) := by decide +kernel
theorem dX10_kindHere_7 : decode cX10_kindHere 7 = .ok (.ifCond .eq 7, 3) := by decide +kernel
theorem dX10_kindHere_10 : decode cX10_kindHere 10 = .ok (.iconst 0, 1) := by decide +kernel
theorem dX10_kindHere_11 : decode cX10_kindHere 11 = .ok (.goto 74, 3) := by decide +kernel
theorem dX10_kindHere_14 : decode cX10_kindHere 14 = .ok (.aload_n 0, 1) := by decide +kernel
theorem dX10_kindHere_15 : decode cX10_kindHere 15 = .ok (.ldc2_w 177, 3) := by decide +kernel
theorem dX10_kindHere_18 : decode cX10_kindHere 18 = .ok (.invokevirtual 173, 3) := by decide +kernel
theorem dX10_kindHere_21 : decode cX10_kindHere 21 = .ok (.ifCond .eq 7, 3) := by decide +kernel
theorem dX10_kindHere_24 : decode cX10_kindHere 24 = .ok (.iconst 1, 1) := by decide +kernel
theorem dX10_kindHere_25 : decode cX10_kindHere 25 = .ok (.goto 60, 3) := by decide +kernel
theorem dX10_kindHere_28 : decode cX10_kindHere 28 = .ok (.aload_n 0, 1) := by decide +kernel
theorem dX10_kindHere_29 : decode cX10_kindHere 29 = .ok (.ldc2_w 179, 3) := by decide +kernel
theorem dX10_kindHere_32 : decode cX10_kindHere 32 = .ok (.invokevirtual 173, 3) := by decide +kernel
theorem dX10_kindHere_35 : decode cX10_kindHere 35 = .ok (.ifCond .eq 7, 3) := by decide +kernel
theorem dX10_kindHere_38 : decode cX10_kindHere 38 = .ok (.iconst 2, 1) := by decide +kernel
theorem dX10_kindHere_39 : decode cX10_kindHere 39 = .ok (.goto 46, 3) := by decide +kernel
theorem dX10_kindHere_42 : decode cX10_kindHere 42 = .ok (.aload_n 0, 1) := by decide +kernel
theorem dX10_kindHere_43 : decode cX10_kindHere 43 = .ok (.ldc2_w 181, 3) := by decide +kernel
theorem dX10_kindHere_46 : decode cX10_kindHere 46 = .ok (.invokevirtual 173, 3) := by decide +kernel
theorem dX10_kindHere_49 : decode cX10_kindHere 49 = .ok (.ifCond .eq 7, 3) := by decide +kernel
theorem dX10_kindHere_52 : decode cX10_kindHere 52 = .ok (.iconst 3, 1) := by decide +kernel
theorem dX10_kindHere_53 : decode cX10_kindHere 53 = .ok (.goto 32, 3) := by decide +kernel
theorem dX10_kindHere_56 : decode cX10_kindHere 56 = .ok (.aload_n 0, 1) := by decide +kernel
theorem dX10_kindHere_57 : decode cX10_kindHere 57 = .ok (.ldc2_w 183, 3) := by decide +kernel
theorem dX10_kindHere_60 : decode cX10_kindHere 60 = .ok (.invokevirtual 173, 3) := by decide +kernel
theorem dX10_kindHere_63 : decode cX10_kindHere 63 = .ok (.ifCond .eq 7, 3) := by decide +kernel
theorem dX10_kindHere_66 : decode cX10_kindHere 66 = .ok (.iconst 4, 1) := by decide +kernel
theorem dX10_kindHere_67 : decode cX10_kindHere 67 = .ok (.goto 18, 3) := by decide +kernel
theorem dX10_kindHere_70 : decode cX10_kindHere 70 = .ok (.aload_n 0, 1) := by decide +kernel
theorem dX10_kindHere_71 : decode cX10_kindHere 71 = .ok (.ldc2_w 185, 3) := by decide +kernel
theorem dX10_kindHere_74 : decode cX10_kindHere 74 = .ok (.invokevirtual 173, 3) := by decide +kernel
theorem dX10_kindHere_77 : decode cX10_kindHere 77 = .ok (.ifCond .eq 7, 3) := by decide +kernel
theorem dX10_kindHere_80 : decode cX10_kindHere 80 = .ok (.iconst 5, 1) := by decide +kernel
theorem dX10_kindHere_81 : decode cX10_kindHere 81 = .ok (.goto 4, 3) := by decide +kernel
theorem dX10_kindHere_84 : decode cX10_kindHere 84 = .ok (.iconst (-1), 1) := by decide +kernel
theorem dX10_kindHere_85 : decode cX10_kindHere 85 = .ok (.ireturn, 1) := by decide +kernel
theorem dX10_wantNumber_0 : decode cX10_wantNumber 0 = .ok (.aload_n 0, 1) := by decide +kernel
theorem dX10_wantNumber_1 : decode cX10_wantNumber 1 = .ok (.getfield 162, 3) := by decide +kernel
theorem dX10_wantNumber_4 : decode cX10_wantNumber 4 = .ok (.istore_n 3, 1) := by decide +kernel
theorem dX10_wantNumber_5 : decode cX10_wantNumber 5 = .ok (.aload_n 0, 1) := by decide +kernel
theorem dX10_wantNumber_6 : decode cX10_wantNumber 6 = .ok (.aload_n 0, 1) := by decide +kernel
theorem dX10_wantNumber_7 : decode cX10_wantNumber 7 = .ok (.getfield 187, 3) := by decide +kernel
theorem dX10_wantNumber_10 : decode cX10_wantNumber 10 = .ok (.ifCond .eq 24, 3) := by decide +kernel
theorem dX10_wantNumber_13 : decode cX10_wantNumber 13 = .ok (.aload_n 0, 1) := by decide +kernel
theorem dX10_wantNumber_14 : decode cX10_wantNumber 14 = .ok (.getfield 155, 3) := by decide +kernel
theorem dX10_wantNumber_17 : decode cX10_wantNumber 17 = .ok (.iconst 2, 1) := by decide +kernel
theorem dX10_wantNumber_18 : decode cX10_wantNumber 18 = .ok (.if_icmp .ne 16, 3) := by decide +kernel
theorem dX10_wantNumber_21 : decode cX10_wantNumber 21 = .ok (.iload_n 3, 1) := by decide +kernel
theorem dX10_wantNumber_22 : decode cX10_wantNumber 22 = .ok (.iload_n 1, 1) := by decide +kernel
theorem dX10_wantNumber_23 : decode cX10_wantNumber 23 = .ok (.iload_n 2, 1) := by decide +kernel
theorem dX10_wantNumber_24 : decode cX10_wantNumber 24 = .ok (.invokestatic 120, 3) := by decide +kernel
theorem dX10_wantNumber_27 : decode cX10_wantNumber 27 = .ok (.ifCond .eq 7, 3) := by decide +kernel
theorem dX10_wantNumber_30 : decode cX10_wantNumber 30 = .ok (.iconst 1, 1) := by decide +kernel
theorem dX10_wantNumber_31 : decode cX10_wantNumber 31 = .ok (.goto 4, 3) := by decide +kernel
theorem dX10_wantNumber_34 : decode cX10_wantNumber 34 = .ok (.iconst 0, 1) := by decide +kernel
theorem dX10_wantNumber_35 : decode cX10_wantNumber 35 = .ok (.putfield 187, 3) := by decide +kernel
theorem dX10_wantNumber_38 : decode cX10_wantNumber 38 = .ok (.aload_n 0, 1) := by decide +kernel
theorem dX10_wantNumber_39 : decode cX10_wantNumber 39 = .ok (.getfield 187, 3) := by decide +kernel
theorem dX10_wantNumber_42 : decode cX10_wantNumber 42 = .ok (.ifCond .eq 7, 3) := by decide +kernel
theorem dX10_wantNumber_45 : decode cX10_wantNumber 45 = .ok (.aload_n 0, 1) := by decide +kernel
theorem dX10_wantNumber_46 : decode cX10_wantNumber 46 = .ok (.invokevirtual 191, 3) := by decide +kernel
theorem dX10_wantNumber_49 : decode cX10_wantNumber 49 = .ok (.iload_n 3, 1) := by decide +kernel
theorem dX10_wantNumber_50 : decode cX10_wantNumber 50 = .ok (.ireturn, 1) := by decide +kernel
theorem dX10_wantWord_0 : decode cX10_wantWord 0 = .ok (.aload_n 0, 1) := by decide +kernel
theorem dX10_wantWord_1 : decode cX10_wantWord 1 = .ok (.aload_n 0, 1) := by decide +kernel
theorem dX10_wantWord_2 : decode cX10_wantWord 2 = .ok (.getfield 187, 3) := by decide +kernel
theorem dX10_wantWord_5 : decode cX10_wantWord 5 = .ok (.ifCond .eq 15, 3) := by decide +kernel
theorem dX10_wantWord_8 : decode cX10_wantWord 8 = .ok (.aload_n 0, 1) := by decide +kernel
theorem dX10_wantWord_9 : decode cX10_wantWord 9 = .ok (.lload_n 1, 1) := by decide +kernel
theorem dX10_wantWord_10 : decode cX10_wantWord 10 = .ok (.invokevirtual 173, 3) := by decide +kernel
theorem dX10_wantWord_13 : decode cX10_wantWord 13 = .ok (.ifCond .eq 7, 3) := by decide +kernel
theorem dX10_wantWord_16 : decode cX10_wantWord 16 = .ok (.iconst 1, 1) := by decide +kernel
theorem dX10_wantWord_17 : decode cX10_wantWord 17 = .ok (.goto 4, 3) := by decide +kernel
theorem dX10_wantWord_20 : decode cX10_wantWord 20 = .ok (.iconst 0, 1) := by decide +kernel
theorem dX10_wantWord_21 : decode cX10_wantWord 21 = .ok (.putfield 187, 3) := by decide +kernel
theorem dX10_wantWord_24 : decode cX10_wantWord 24 = .ok (.aload_n 0, 1) := by decide +kernel
theorem dX10_wantWord_25 : decode cX10_wantWord 25 = .ok (.getfield 187, 3) := by decide +kernel
theorem dX10_wantWord_28 : decode cX10_wantWord 28 = .ok (.ifCond .eq 7, 3) := by decide +kernel
theorem dX10_wantWord_31 : decode cX10_wantWord 31 = .ok (.aload_n 0, 1) := by decide +kernel
theorem dX10_wantWord_32 : decode cX10_wantWord 32 = .ok (.invokevirtual 191, 3) := by decide +kernel
theorem dX10_wantWord_35 : decode cX10_wantWord 35 = .ok (.return_, 1) := by decide +kernel
theorem dX10_wantEnd_0 : decode cX10_wantEnd 0 = .ok (.aload_n 0, 1) := by decide +kernel
theorem dX10_wantEnd_1 : decode cX10_wantEnd 1 = .ok (.aload_n 0, 1) := by decide +kernel
theorem dX10_wantEnd_2 : decode cX10_wantEnd 2 = .ok (.getfield 187, 3) := by decide +kernel
theorem dX10_wantEnd_5 : decode cX10_wantEnd 5 = .ok (.ifCond .eq 16, 3) := by decide +kernel
theorem dX10_wantEnd_8 : decode cX10_wantEnd 8 = .ok (.aload_n 0, 1) := by decide +kernel
theorem dX10_wantEnd_9 : decode cX10_wantEnd 9 = .ok (.bipush 59, 2) := by decide +kernel
theorem dX10_wantEnd_11 : decode cX10_wantEnd 11 = .ok (.invokevirtual 194, 3) := by decide +kernel
theorem dX10_wantEnd_14 : decode cX10_wantEnd 14 = .ok (.ifCond .eq 7, 3) := by decide +kernel
theorem dX10_wantEnd_17 : decode cX10_wantEnd 17 = .ok (.iconst 1, 1) := by decide +kernel
theorem dX10_wantEnd_18 : decode cX10_wantEnd 18 = .ok (.goto 4, 3) := by decide +kernel
theorem dX10_wantEnd_21 : decode cX10_wantEnd 21 = .ok (.iconst 0, 1) := by decide +kernel
theorem dX10_wantEnd_22 : decode cX10_wantEnd 22 = .ok (.putfield 187, 3) := by decide +kernel
theorem dX10_wantEnd_25 : decode cX10_wantEnd 25 = .ok (.aload_n 0, 1) := by decide +kernel
theorem dX10_wantEnd_26 : decode cX10_wantEnd 26 = .ok (.getfield 187, 3) := by decide +kernel
theorem dX10_wantEnd_29 : decode cX10_wantEnd 29 = .ok (.ifCond .eq 7, 3) := by decide +kernel
theorem dX10_wantEnd_32 : decode cX10_wantEnd 32 = .ok (.aload_n 0, 1) := by decide +kernel
theorem dX10_wantEnd_33 : decode cX10_wantEnd 33 = .ok (.invokevirtual 191, 3) := by decide +kernel
theorem dX10_wantEnd_36 : decode cX10_wantEnd 36 = .ok (.return_, 1) := by decide +kernel
theorem dX10_wantLot_0 : decode cX10_wantLot 0 = .ok (.aload_n 0, 1) := by decide +kernel
theorem dX10_wantLot_1 : decode cX10_wantLot 1 = .ok (.aload_n 0, 1) := by decide +kernel
theorem dX10_wantLot_2 : decode cX10_wantLot 2 = .ok (.getfield 197, 3) := by decide +kernel
theorem dX10_wantLot_5 : decode cX10_wantLot 5 = .ok (.iconst 5, 1) := by decide +kernel
theorem dX10_wantLot_6 : decode cX10_wantLot 6 = .ok (.if_icmp .ge 7, 3) := by decide +kernel
theorem dX10_wantLot_9 : decode cX10_wantLot 9 = .ok (.iconst 1, 1) := by decide +kernel
theorem dX10_wantLot_10 : decode cX10_wantLot 10 = .ok (.goto 4, 3) := by decide +kernel
theorem dX10_wantLot_13 : decode cX10_wantLot 13 = .ok (.iconst 0, 1) := by decide +kernel
theorem dX10_wantLot_14 : decode cX10_wantLot 14 = .ok (.putfield 187, 3) := by decide +kernel
theorem dX10_wantLot_17 : decode cX10_wantLot 17 = .ok (.aload_n 0, 1) := by decide +kernel
theorem dX10_wantLot_18 : decode cX10_wantLot 18 = .ok (.getfield 187, 3) := by decide +kernel
theorem dX10_wantLot_21 : decode cX10_wantLot 21 = .ok (.ifCond .eq 7, 3) := by decide +kernel
theorem dX10_wantLot_24 : decode cX10_wantLot 24 = .ok (.aload_n 0, 1) := by decide +kernel
theorem dX10_wantLot_25 : decode cX10_wantLot 25 = .ok (.invokevirtual 191, 3) := by decide +kernel
theorem dX10_wantLot_28 : decode cX10_wantLot 28 = .ok (.aload_n 0, 1) := by decide +kernel
theorem dX10_wantLot_29 : decode cX10_wantLot 29 = .ok (.iconst 1, 1) := by decide +kernel
theorem dX10_wantLot_30 : decode cX10_wantLot 30 = .ok (.bipush 60, 2) := by decide +kernel
theorem dX10_wantLot_32 : decode cX10_wantLot 32 = .ok (.invokevirtual 200, 3) := by decide +kernel
theorem dX10_wantLot_35 : decode cX10_wantLot 35 = .ok (.istore_n 1, 1) := by decide +kernel
theorem dX10_wantLot_36 : decode cX10_wantLot 36 = .ok (.aload_n 0, 1) := by decide +kernel
theorem dX10_wantLot_37 : decode cX10_wantLot 37 = .ok (.ldc2_w 204, 3) := by decide +kernel
theorem dX10_wantLot_40 : decode cX10_wantLot 40 = .ok (.invokevirtual 206, 3) := by decide +kernel
theorem dX10_wantLot_43 : decode cX10_wantLot 43 = .ok (.aload_n 0, 1) := by decide +kernel
theorem dX10_wantLot_44 : decode cX10_wantLot 44 = .ok (.iconst 1, 1) := by decide +kernel
theorem dX10_wantLot_45 : decode cX10_wantLot 45 = .ok (.bipush 99, 2) := by decide +kernel
theorem dX10_wantLot_47 : decode cX10_wantLot 47 = .ok (.invokevirtual 200, 3) := by decide +kernel
theorem dX10_wantLot_50 : decode cX10_wantLot 50 = .ok (.istore_n 2, 1) := by decide +kernel
theorem dX10_wantLot_51 : decode cX10_wantLot 51 = .ok (.aload_n 0, 1) := by decide +kernel
theorem dX10_wantLot_52 : decode cX10_wantLot 52 = .ok (.invokevirtual 210, 3) := by decide +kernel
theorem dX10_wantLot_55 : decode cX10_wantLot 55 = .ok (.aload_n 0, 1) := by decide +kernel
theorem dX10_wantLot_56 : decode cX10_wantLot 56 = .ok (.getfield 187, 3) := by decide +kernel
theorem dX10_wantLot_59 : decode cX10_wantLot 59 = .ok (.ifCond .eq 33, 3) := by decide +kernel
theorem dX10_wantLot_62 : decode cX10_wantLot 62 = .ok (.aload_n 0, 1) := by decide +kernel
theorem dX10_wantLot_63 : decode cX10_wantLot 63 = .ok (.getfield 50, 3) := by decide +kernel
theorem dX10_wantLot_66 : decode cX10_wantLot 66 = .ok (.aload_n 0, 1) := by decide +kernel
theorem dX10_wantLot_67 : decode cX10_wantLot 67 = .ok (.getfield 197, 3) := by decide +kernel
theorem dX10_wantLot_70 : decode cX10_wantLot 70 = .ok (.iload_n 1, 1) := by decide +kernel
theorem dX10_wantLot_71 : decode cX10_wantLot 71 = .ok (.iastore, 1) := by decide +kernel
theorem dX10_wantLot_72 : decode cX10_wantLot 72 = .ok (.aload_n 0, 1) := by decide +kernel
theorem dX10_wantLot_73 : decode cX10_wantLot 73 = .ok (.getfield 53, 3) := by decide +kernel
theorem dX10_wantLot_76 : decode cX10_wantLot 76 = .ok (.aload_n 0, 1) := by decide +kernel
theorem dX10_wantLot_77 : decode cX10_wantLot 77 = .ok (.getfield 197, 3) := by decide +kernel
theorem dX10_wantLot_80 : decode cX10_wantLot 80 = .ok (.iload_n 2, 1) := by decide +kernel
theorem dX10_wantLot_81 : decode cX10_wantLot 81 = .ok (.iastore, 1) := by decide +kernel
theorem dX10_wantLot_82 : decode cX10_wantLot 82 = .ok (.aload_n 0, 1) := by decide +kernel
theorem dX10_wantLot_83 : decode cX10_wantLot 83 = .ok (.dup, 1) := by decide +kernel
theorem dX10_wantLot_84 : decode cX10_wantLot 84 = .ok (.getfield 197, 3) := by decide +kernel
theorem dX10_wantLot_87 : decode cX10_wantLot 87 = .ok (.iconst 1, 1) := by decide +kernel
theorem dX10_wantLot_88 : decode cX10_wantLot 88 = .ok (.iadd, 1) := by decide +kernel
theorem dX10_wantLot_89 : decode cX10_wantLot 89 = .ok (.putfield 197, 3) := by decide +kernel
theorem dX10_wantLot_92 : decode cX10_wantLot 92 = .ok (.return_, 1) := by decide +kernel
theorem dX10_wantBidder_0 : decode cX10_wantBidder 0 = .ok (.aload_n 0, 1) := by decide +kernel
theorem dX10_wantBidder_1 : decode cX10_wantBidder 1 = .ok (.aload_n 0, 1) := by decide +kernel
theorem dX10_wantBidder_2 : decode cX10_wantBidder 2 = .ok (.getfield 213, 3) := by decide +kernel
theorem dX10_wantBidder_5 : decode cX10_wantBidder 5 = .ok (.bipush 6, 2) := by decide +kernel
theorem dX10_wantBidder_7 : decode cX10_wantBidder 7 = .ok (.if_icmp .ge 7, 3) := by decide +kernel
theorem dX10_wantBidder_10 : decode cX10_wantBidder 10 = .ok (.iconst 1, 1) := by decide +kernel
theorem dX10_wantBidder_11 : decode cX10_wantBidder 11 = .ok (.goto 4, 3) := by decide +kernel
theorem dX10_wantBidder_14 : decode cX10_wantBidder 14 = .ok (.iconst 0, 1) := by decide +kernel
theorem dX10_wantBidder_15 : decode cX10_wantBidder 15 = .ok (.putfield 187, 3) := by decide +kernel
theorem dX10_wantBidder_18 : decode cX10_wantBidder 18 = .ok (.aload_n 0, 1) := by decide +kernel
theorem dX10_wantBidder_19 : decode cX10_wantBidder 19 = .ok (.getfield 187, 3) := by decide +kernel
theorem dX10_wantBidder_22 : decode cX10_wantBidder 22 = .ok (.ifCond .eq 7, 3) := by decide +kernel
theorem dX10_wantBidder_25 : decode cX10_wantBidder 25 = .ok (.aload_n 0, 1) := by decide +kernel
theorem dX10_wantBidder_26 : decode cX10_wantBidder 26 = .ok (.invokevirtual 191, 3) := by decide +kernel
theorem dX10_wantBidder_29 : decode cX10_wantBidder 29 = .ok (.aload_n 0, 1) := by decide +kernel
theorem dX10_wantBidder_30 : decode cX10_wantBidder 30 = .ok (.iconst 0, 1) := by decide +kernel
theorem dX10_wantBidder_31 : decode cX10_wantBidder 31 = .ok (.bipush 9, 2) := by decide +kernel
theorem dX10_wantBidder_33 : decode cX10_wantBidder 33 = .ok (.invokevirtual 200, 3) := by decide +kernel
theorem dX10_wantBidder_36 : decode cX10_wantBidder 36 = .ok (.istore_n 2, 1) := by decide +kernel
theorem dX10_wantBidder_37 : decode cX10_wantBidder 37 = .ok (.aload_n 0, 1) := by decide +kernel
theorem dX10_wantBidder_38 : decode cX10_wantBidder 38 = .ok (.ldc2_w 216, 3) := by decide +kernel
theorem dX10_wantBidder_41 : decode cX10_wantBidder 41 = .ok (.invokevirtual 206, 3) := by decide +kernel
theorem dX10_wantBidder_44 : decode cX10_wantBidder 44 = .ok (.aload_n 0, 1) := by decide +kernel
theorem dX10_wantBidder_45 : decode cX10_wantBidder 45 = .ok (.iconst 0, 1) := by decide +kernel
theorem dX10_wantBidder_46 : decode cX10_wantBidder 46 = .ok (.sipush 999, 3) := by decide +kernel
theorem dX10_wantBidder_49 : decode cX10_wantBidder 49 = .ok (.invokevirtual 200, 3) := by decide +kernel
theorem dX10_wantBidder_52 : decode cX10_wantBidder 52 = .ok (.istore_n 3, 1) := by decide +kernel
theorem dX10_wantBidder_53 : decode cX10_wantBidder 53 = .ok (.aload_n 0, 1) := by decide +kernel
theorem dX10_wantBidder_54 : decode cX10_wantBidder 54 = .ok (.ldc2_w 218, 3) := by decide +kernel
theorem dX10_wantBidder_57 : decode cX10_wantBidder 57 = .ok (.invokevirtual 206, 3) := by decide +kernel
theorem dX10_wantBidder_60 : decode cX10_wantBidder 60 = .ok (.aload_n 0, 1) := by decide +kernel
theorem dX10_wantBidder_61 : decode cX10_wantBidder 61 = .ok (.iconst 0, 1) := by decide +kernel
theorem dX10_wantBidder_62 : decode cX10_wantBidder 62 = .ok (.sipush 9999, 3) := by decide +kernel
theorem dX10_wantBidder_65 : decode cX10_wantBidder 65 = .ok (.invokevirtual 200, 3) := by decide +kernel
theorem dX10_wantBidder_68 : decode cX10_wantBidder 68 = .ok (.istore 4, 2) := by decide +kernel
theorem dX10_wantBidder_70 : decode cX10_wantBidder 70 = .ok (.aload_n 0, 1) := by decide +kernel
theorem dX10_wantBidder_71 : decode cX10_wantBidder 71 = .ok (.invokevirtual 210, 3) := by decide +kernel
theorem dX10_wantBidder_74 : decode cX10_wantBidder 74 = .ok (.aload_n 0, 1) := by decide +kernel
theorem dX10_wantBidder_75 : decode cX10_wantBidder 75 = .ok (.getfield 187, 3) := by decide +kernel
theorem dX10_wantBidder_78 : decode cX10_wantBidder 78 = .ok (.ifCond .eq 54, 3) := by decide +kernel
theorem dX10_wantBidder_81 : decode cX10_wantBidder 81 = .ok (.aload_n 0, 1) := by decide +kernel
theorem dX10_wantBidder_82 : decode cX10_wantBidder 82 = .ok (.getfield 56, 3) := by decide +kernel
theorem dX10_wantBidder_85 : decode cX10_wantBidder 85 = .ok (.aload_n 0, 1) := by decide +kernel
theorem dX10_wantBidder_86 : decode cX10_wantBidder 86 = .ok (.getfield 213, 3) := by decide +kernel
theorem dX10_wantBidder_89 : decode cX10_wantBidder 89 = .ok (.iload_n 1, 1) := by decide +kernel
theorem dX10_wantBidder_90 : decode cX10_wantBidder 90 = .ok (.iastore, 1) := by decide +kernel
theorem dX10_wantBidder_91 : decode cX10_wantBidder 91 = .ok (.aload_n 0, 1) := by decide +kernel
theorem dX10_wantBidder_92 : decode cX10_wantBidder 92 = .ok (.getfield 59, 3) := by decide +kernel
theorem dX10_wantBidder_95 : decode cX10_wantBidder 95 = .ok (.aload_n 0, 1) := by decide +kernel
theorem dX10_wantBidder_96 : decode cX10_wantBidder 96 = .ok (.getfield 213, 3) := by decide +kernel
theorem dX10_wantBidder_99 : decode cX10_wantBidder 99 = .ok (.iload_n 2, 1) := by decide +kernel
theorem dX10_wantBidder_100 : decode cX10_wantBidder 100 = .ok (.iastore, 1) := by decide +kernel
theorem dX10_wantBidder_101 : decode cX10_wantBidder 101 = .ok (.aload_n 0, 1) := by decide +kernel
theorem dX10_wantBidder_102 : decode cX10_wantBidder 102 = .ok (.getfield 62, 3) := by decide +kernel
theorem dX10_wantBidder_105 : decode cX10_wantBidder 105 = .ok (.aload_n 0, 1) := by decide +kernel
theorem dX10_wantBidder_106 : decode cX10_wantBidder 106 = .ok (.getfield 213, 3) := by decide +kernel
theorem dX10_wantBidder_109 : decode cX10_wantBidder 109 = .ok (.iload_n 3, 1) := by decide +kernel
theorem dX10_wantBidder_110 : decode cX10_wantBidder 110 = .ok (.iastore, 1) := by decide +kernel
theorem dX10_wantBidder_111 : decode cX10_wantBidder 111 = .ok (.aload_n 0, 1) := by decide +kernel
theorem dX10_wantBidder_112 : decode cX10_wantBidder 112 = .ok (.getfield 65, 3) := by decide +kernel
theorem dX10_wantBidder_115 : decode cX10_wantBidder 115 = .ok (.aload_n 0, 1) := by decide +kernel
theorem dX10_wantBidder_116 : decode cX10_wantBidder 116 = .ok (.getfield 213, 3) := by decide +kernel
theorem dX10_wantBidder_119 : decode cX10_wantBidder 119 = .ok (.iload 4, 2) := by decide +kernel
theorem dX10_wantBidder_121 : decode cX10_wantBidder 121 = .ok (.iastore, 1) := by decide +kernel
theorem dX10_wantBidder_122 : decode cX10_wantBidder 122 = .ok (.aload_n 0, 1) := by decide +kernel
theorem dX10_wantBidder_123 : decode cX10_wantBidder 123 = .ok (.dup, 1) := by decide +kernel
theorem dX10_wantBidder_124 : decode cX10_wantBidder 124 = .ok (.getfield 213, 3) := by decide +kernel
theorem dX10_wantBidder_127 : decode cX10_wantBidder 127 = .ok (.iconst 1, 1) := by decide +kernel
theorem dX10_wantBidder_128 : decode cX10_wantBidder 128 = .ok (.iadd, 1) := by decide +kernel
theorem dX10_wantBidder_129 : decode cX10_wantBidder 129 = .ok (.putfield 213, 3) := by decide +kernel
theorem dX10_wantBidder_132 : decode cX10_wantBidder 132 = .ok (.return_, 1) := by decide +kernel
theorem dX10_wantDraught_0 : decode cX10_wantDraught 0 = .ok (.aload_n 0, 1) := by decide +kernel
theorem dX10_wantDraught_1 : decode cX10_wantDraught 1 = .ok (.invokevirtual 191, 3) := by decide +kernel
theorem dX10_wantDraught_4 : decode cX10_wantDraught 4 = .ok (.aload_n 0, 1) := by decide +kernel
theorem dX10_wantDraught_5 : decode cX10_wantDraught 5 = .ok (.iconst 0, 1) := by decide +kernel
theorem dX10_wantDraught_6 : decode cX10_wantDraught 6 = .ok (.bipush 11, 2) := by decide +kernel
theorem dX10_wantDraught_8 : decode cX10_wantDraught 8 = .ok (.invokevirtual 200, 3) := by decide +kernel
theorem dX10_wantDraught_11 : decode cX10_wantDraught 11 = .ok (.istore_n 1, 1) := by decide +kernel
theorem dX10_wantDraught_12 : decode cX10_wantDraught 12 = .ok (.aload_n 0, 1) := by decide +kernel
theorem dX10_wantDraught_13 : decode cX10_wantDraught 13 = .ok (.iconst 0, 1) := by decide +kernel
theorem dX10_wantDraught_14 : decode cX10_wantDraught 14 = .ok (.iconst 3, 1) := by decide +kernel
theorem dX10_wantDraught_15 : decode cX10_wantDraught 15 = .ok (.invokevirtual 200, 3) := by decide +kernel
theorem dX10_wantDraught_18 : decode cX10_wantDraught 18 = .ok (.istore_n 2, 1) := by decide +kernel
theorem dX10_wantDraught_19 : decode cX10_wantDraught 19 = .ok (.aload_n 0, 1) := by decide +kernel
theorem dX10_wantDraught_20 : decode cX10_wantDraught 20 = .ok (.invokevirtual 210, 3) := by decide +kernel
theorem dX10_wantDraught_23 : decode cX10_wantDraught 23 = .ok (.aload_n 0, 1) := by decide +kernel
theorem dX10_wantDraught_24 : decode cX10_wantDraught 24 = .ok (.getfield 187, 3) := by decide +kernel
theorem dX10_wantDraught_27 : decode cX10_wantDraught 27 = .ok (.ifCond .eq 10, 3) := by decide +kernel
theorem dX10_wantDraught_30 : decode cX10_wantDraught 30 = .ok (.aload_n 0, 1) := by decide +kernel
theorem dX10_wantDraught_31 : decode cX10_wantDraught 31 = .ok (.getfield 68, 3) := by decide +kernel
theorem dX10_wantDraught_34 : decode cX10_wantDraught 34 = .ok (.iload_n 1, 1) := by decide +kernel
theorem dX10_wantDraught_35 : decode cX10_wantDraught 35 = .ok (.iload_n 2, 1) := by decide +kernel
theorem dX10_wantDraught_36 : decode cX10_wantDraught 36 = .ok (.iastore, 1) := by decide +kernel
theorem dX10_wantDraught_37 : decode cX10_wantDraught 37 = .ok (.return_, 1) := by decide +kernel
theorem dX10_wantClause_0 : decode cX10_wantClause 0 = .ok (.aload_n 0, 1) := by decide +kernel
theorem dX10_wantClause_1 : decode cX10_wantClause 1 = .ok (.ldc2_w 220, 3) := by decide +kernel
theorem dX10_wantClause_4 : decode cX10_wantClause 4 = .ok (.invokevirtual 173, 3) := by decide +kernel
theorem dX10_wantClause_7 : decode cX10_wantClause 7 = .ok (.ifCond .eq 10, 3) := by decide +kernel
theorem dX10_wantClause_10 : decode cX10_wantClause 10 = .ok (.aload_n 0, 1) := by decide +kernel
theorem dX10_wantClause_11 : decode cX10_wantClause 11 = .ok (.invokevirtual 222, 3) := by decide +kernel
theorem dX10_wantClause_14 : decode cX10_wantClause 14 = .ok (.goto 75, 3) := by decide +kernel
theorem dX10_wantClause_17 : decode cX10_wantClause 17 = .ok (.aload_n 0, 1) := by decide +kernel
theorem dX10_wantClause_18 : decode cX10_wantClause 18 = .ok (.ldc2_w 225, 3) := by decide +kernel
theorem dX10_wantClause_21 : decode cX10_wantClause 21 = .ok (.invokevirtual 173, 3) := by decide +kernel
theorem dX10_wantClause_24 : decode cX10_wantClause 24 = .ok (.ifCond .eq 10, 3) := by decide +kernel
theorem dX10_wantClause_27 : decode cX10_wantClause 27 = .ok (.aload_n 0, 1) := by decide +kernel
theorem dX10_wantClause_28 : decode cX10_wantClause 28 = .ok (.invokevirtual 227, 3) := by decide +kernel
theorem dX10_wantClause_31 : decode cX10_wantClause 31 = .ok (.goto 58, 3) := by decide +kernel
theorem dX10_wantClause_34 : decode cX10_wantClause 34 = .ok (.aload_n 0, 1) := by decide +kernel
theorem dX10_wantClause_35 : decode cX10_wantClause 35 = .ok (.ldc2_w 230, 3) := by decide +kernel
theorem dX10_wantClause_38 : decode cX10_wantClause 38 = .ok (.invokevirtual 173, 3) := by decide +kernel
theorem dX10_wantClause_41 : decode cX10_wantClause 41 = .ok (.ifCond .eq 25, 3) := by decide +kernel
theorem dX10_wantClause_44 : decode cX10_wantClause 44 = .ok (.aload_n 0, 1) := by decide +kernel
theorem dX10_wantClause_45 : decode cX10_wantClause 45 = .ok (.invokevirtual 191, 3) := by decide +kernel
theorem dX10_wantClause_48 : decode cX10_wantClause 48 = .ok (.aload_n 0, 1) := by decide +kernel
theorem dX10_wantClause_49 : decode cX10_wantClause 49 = .ok (.aload_n 0, 1) := by decide +kernel
theorem dX10_wantClause_50 : decode cX10_wantClause 50 = .ok (.iconst 1, 1) := by decide +kernel
theorem dX10_wantClause_51 : decode cX10_wantClause 51 = .ok (.bipush 20, 2) := by decide +kernel
theorem dX10_wantClause_53 : decode cX10_wantClause 53 = .ok (.invokevirtual 200, 3) := by decide +kernel
theorem dX10_wantClause_56 : decode cX10_wantClause 56 = .ok (.putfield 232, 3) := by decide +kernel
theorem dX10_wantClause_59 : decode cX10_wantClause 59 = .ok (.aload_n 0, 1) := by decide +kernel
theorem dX10_wantClause_60 : decode cX10_wantClause 60 = .ok (.invokevirtual 210, 3) := by decide +kernel
theorem dX10_wantClause_63 : decode cX10_wantClause 63 = .ok (.goto 26, 3) := by decide +kernel
theorem dX10_wantClause_66 : decode cX10_wantClause 66 = .ok (.aload_n 0, 1) := by decide +kernel
theorem dX10_wantClause_67 : decode cX10_wantClause 67 = .ok (.invokevirtual 235, 3) := by decide +kernel
theorem dX10_wantClause_70 : decode cX10_wantClause 70 = .ok (.ifCond .lt 14, 3) := by decide +kernel
theorem dX10_wantClause_73 : decode cX10_wantClause 73 = .ok (.aload_n 0, 1) := by decide +kernel
theorem dX10_wantClause_74 : decode cX10_wantClause 74 = .ok (.aload_n 0, 1) := by decide +kernel
theorem dX10_wantClause_75 : decode cX10_wantClause 75 = .ok (.invokevirtual 235, 3) := by decide +kernel
theorem dX10_wantClause_78 : decode cX10_wantClause 78 = .ok (.invokevirtual 239, 3) := by decide +kernel
theorem dX10_wantClause_81 : decode cX10_wantClause 81 = .ok (.goto 8, 3) := by decide +kernel
theorem dX10_wantClause_84 : decode cX10_wantClause 84 = .ok (.aload_n 0, 1) := by decide +kernel
theorem dX10_wantClause_85 : decode cX10_wantClause 85 = .ok (.iconst 0, 1) := by decide +kernel
theorem dX10_wantClause_86 : decode cX10_wantClause 86 = .ok (.putfield 187, 3) := by decide +kernel
theorem dX10_wantClause_89 : decode cX10_wantClause 89 = .ok (.return_, 1) := by decide +kernel
theorem dX10_hall_0 : decode cX10_hall 0 = .ok (.aload_n 0, 1) := by decide +kernel
theorem dX10_hall_1 : decode cX10_hall 1 = .ok (.iconst 0, 1) := by decide +kernel
theorem dX10_hall_2 : decode cX10_hall 2 = .ok (.putfield 139, 3) := by decide +kernel
theorem dX10_hall_5 : decode cX10_hall 5 = .ok (.aload_n 0, 1) := by decide +kernel
theorem dX10_hall_6 : decode cX10_hall 6 = .ok (.iconst 1, 1) := by decide +kernel
theorem dX10_hall_7 : decode cX10_hall 7 = .ok (.putfield 187, 3) := by decide +kernel
theorem dX10_hall_10 : decode cX10_hall 10 = .ok (.aload_n 0, 1) := by decide +kernel
theorem dX10_hall_11 : decode cX10_hall 11 = .ok (.iconst 0, 1) := by decide +kernel
theorem dX10_hall_12 : decode cX10_hall 12 = .ok (.putfield 197, 3) := by decide +kernel
theorem dX10_hall_15 : decode cX10_hall 15 = .ok (.aload_n 0, 1) := by decide +kernel
theorem dX10_hall_16 : decode cX10_hall 16 = .ok (.iconst 0, 1) := by decide +kernel
theorem dX10_hall_17 : decode cX10_hall 17 = .ok (.putfield 213, 3) := by decide +kernel
theorem dX10_hall_20 : decode cX10_hall 20 = .ok (.aload_n 0, 1) := by decide +kernel
theorem dX10_hall_21 : decode cX10_hall 21 = .ok (.iconst 5, 1) := by decide +kernel
theorem dX10_hall_22 : decode cX10_hall 22 = .ok (.putfield 232, 3) := by decide +kernel
theorem dX10_hall_25 : decode cX10_hall 25 = .ok (.iconst 0, 1) := by decide +kernel
theorem dX10_hall_26 : decode cX10_hall 26 = .ok (.istore_n 1, 1) := by decide +kernel
theorem dX10_hall_27 : decode cX10_hall 27 = .ok (.iload_n 1, 1) := by decide +kernel
theorem dX10_hall_28 : decode cX10_hall 28 = .ok (.bipush 12, 2) := by decide +kernel
theorem dX10_hall_30 : decode cX10_hall 30 = .ok (.if_icmp .ge 16, 3) := by decide +kernel
theorem dX10_hall_33 : decode cX10_hall 33 = .ok (.aload_n 0, 1) := by decide +kernel
theorem dX10_hall_34 : decode cX10_hall 34 = .ok (.getfield 68, 3) := by decide +kernel
theorem dX10_hall_37 : decode cX10_hall 37 = .ok (.iload_n 1, 1) := by decide +kernel
theorem dX10_hall_38 : decode cX10_hall 38 = .ok (.iconst 0, 1) := by decide +kernel
theorem dX10_hall_39 : decode cX10_hall 39 = .ok (.iastore, 1) := by decide +kernel
theorem dX10_hall_40 : decode cX10_hall 40 = .ok (.iinc 1 1, 3) := by decide +kernel
theorem dX10_hall_43 : decode cX10_hall 43 = .ok (.goto (-16), 3) := by decide +kernel
theorem dX10_hall_46 : decode cX10_hall 46 = .ok (.aload_n 0, 1) := by decide +kernel
theorem dX10_hall_47 : decode cX10_hall 47 = .ok (.invokevirtual 191, 3) := by decide +kernel
theorem dX10_hall_50 : decode cX10_hall 50 = .ok (.aload_n 0, 1) := by decide +kernel
theorem dX10_hall_51 : decode cX10_hall 51 = .ok (.getfield 187, 3) := by decide +kernel
theorem dX10_hall_54 : decode cX10_hall 54 = .ok (.ifCond .eq 17, 3) := by decide +kernel
theorem dX10_hall_57 : decode cX10_hall 57 = .ok (.aload_n 0, 1) := by decide +kernel
theorem dX10_hall_58 : decode cX10_hall 58 = .ok (.getfield 155, 3) := by decide +kernel
theorem dX10_hall_61 : decode cX10_hall 61 = .ok (.ifCond .eq 10, 3) := by decide +kernel
theorem dX10_hall_64 : decode cX10_hall 64 = .ok (.aload_n 0, 1) := by decide +kernel
theorem dX10_hall_65 : decode cX10_hall 65 = .ok (.invokevirtual 243, 3) := by decide +kernel
theorem dX10_hall_68 : decode cX10_hall 68 = .ok (.goto (-18), 3) := by decide +kernel
theorem dX10_hall_71 : decode cX10_hall 71 = .ok (.aload_n 0, 1) := by decide +kernel
theorem dX10_hall_72 : decode cX10_hall 72 = .ok (.iconst 0, 1) := by decide +kernel
theorem dX10_hall_73 : decode cX10_hall 73 = .ok (.putfield 134, 3) := by decide +kernel
theorem dX10_hall_76 : decode cX10_hall 76 = .ok (.aload_n 0, 1) := by decide +kernel
theorem dX10_hall_77 : decode cX10_hall 77 = .ok (.getfield 187, 3) := by decide +kernel
theorem dX10_hall_80 : decode cX10_hall 80 = .ok (.ifCond .ne 11, 3) := by decide +kernel
theorem dX10_hall_83 : decode cX10_hall 83 = .ok (.bipush (-100), 2) := by decide +kernel
theorem dX10_hall_85 : decode cX10_hall 85 = .ok (.aload_n 0, 1) := by decide +kernel
theorem dX10_hall_86 : decode cX10_hall 86 = .ok (.getfield 142, 3) := by decide +kernel
theorem dX10_hall_89 : decode cX10_hall 89 = .ok (.isub, 1) := by decide +kernel
theorem dX10_hall_90 : decode cX10_hall 90 = .ok (.ireturn, 1) := by decide +kernel
theorem dX10_hall_91 : decode cX10_hall 91 = .ok (.aload_n 0, 1) := by decide +kernel
theorem dX10_hall_92 : decode cX10_hall 92 = .ok (.invokevirtual 246, 3) := by decide +kernel
theorem dX10_hall_95 : decode cX10_hall 95 = .ok (.aload_n 0, 1) := by decide +kernel
theorem dX10_hall_96 : decode cX10_hall 96 = .ok (.iconst 0, 1) := by decide +kernel
theorem dX10_hall_97 : decode cX10_hall 97 = .ok (.putfield 249, 3) := by decide +kernel
theorem dX10_hall_100 : decode cX10_hall 100 = .ok (.aload_n 0, 1) := by decide +kernel
theorem dX10_hall_101 : decode cX10_hall 101 = .ok (.getfield 117, 3) := by decide +kernel
theorem dX10_hall_104 : decode cX10_hall 104 = .ok (.ireturn, 1) := by decide +kernel
theorem dX10_turnsInto_0 : decode cX10_turnsInto 0 = .ok (.aload_n 0, 1) := by decide +kernel
theorem dX10_turnsInto_1 : decode cX10_turnsInto 1 = .ok (.aload_n 0, 1) := by decide +kernel
theorem dX10_turnsInto_2 : decode cX10_turnsInto 2 = .ok (.getfield 197, 3) := by decide +kernel
theorem dX10_turnsInto_5 : decode cX10_turnsInto 5 = .ok (.putfield 117, 3) := by decide +kernel
theorem dX10_turnsInto_8 : decode cX10_turnsInto 8 = .ok (.aload_n 0, 1) := by decide +kernel
theorem dX10_turnsInto_9 : decode cX10_turnsInto 9 = .ok (.aload_n 0, 1) := by decide +kernel
theorem dX10_turnsInto_10 : decode cX10_turnsInto 10 = .ok (.getfield 213, 3) := by decide +kernel
theorem dX10_turnsInto_13 : decode cX10_turnsInto 13 = .ok (.putfield 128, 3) := by decide +kernel
theorem dX10_turnsInto_16 : decode cX10_turnsInto 16 = .ok (.aload_n 0, 1) := by decide +kernel
theorem dX10_turnsInto_17 : decode cX10_turnsInto 17 = .ok (.aload_n 0, 1) := by decide +kernel
theorem dX10_turnsInto_18 : decode cX10_turnsInto 18 = .ok (.getfield 232, 3) := by decide +kernel
theorem dX10_turnsInto_21 : decode cX10_turnsInto 21 = .ok (.putfield 28, 3) := by decide +kernel
theorem dX10_turnsInto_24 : decode cX10_turnsInto 24 = .ok (.iconst 0, 1) := by decide +kernel
theorem dX10_turnsInto_25 : decode cX10_turnsInto 25 = .ok (.istore_n 1, 1) := by decide +kernel
theorem dX10_turnsInto_26 : decode cX10_turnsInto 26 = .ok (.iload_n 1, 1) := by decide +kernel
theorem dX10_turnsInto_27 : decode cX10_turnsInto 27 = .ok (.iconst 5, 1) := by decide +kernel
theorem dX10_turnsInto_28 : decode cX10_turnsInto 28 = .ok (.if_icmp .ge 40, 3) := by decide +kernel
theorem dX10_turnsInto_31 : decode cX10_turnsInto 31 = .ok (.aload_n 0, 1) := by decide +kernel
theorem dX10_turnsInto_32 : decode cX10_turnsInto 32 = .ok (.getfield 7, 3) := by decide +kernel
theorem dX10_turnsInto_35 : decode cX10_turnsInto 35 = .ok (.iload_n 1, 1) := by decide +kernel
theorem dX10_turnsInto_36 : decode cX10_turnsInto 36 = .ok (.aload_n 0, 1) := by decide +kernel
theorem dX10_turnsInto_37 : decode cX10_turnsInto 37 = .ok (.getfield 50, 3) := by decide +kernel
theorem dX10_turnsInto_40 : decode cX10_turnsInto 40 = .ok (.iload_n 1, 1) := by decide +kernel
theorem dX10_turnsInto_41 : decode cX10_turnsInto 41 = .ok (.iaload, 1) := by decide +kernel
theorem dX10_turnsInto_42 : decode cX10_turnsInto 42 = .ok (.iastore, 1) := by decide +kernel
theorem dX10_turnsInto_43 : decode cX10_turnsInto 43 = .ok (.aload_n 0, 1) := by decide +kernel
theorem dX10_turnsInto_44 : decode cX10_turnsInto 44 = .ok (.getfield 13, 3) := by decide +kernel
theorem dX10_turnsInto_47 : decode cX10_turnsInto 47 = .ok (.iload_n 1, 1) := by decide +kernel
theorem dX10_turnsInto_48 : decode cX10_turnsInto 48 = .ok (.aload_n 0, 1) := by decide +kernel
theorem dX10_turnsInto_49 : decode cX10_turnsInto 49 = .ok (.getfield 53, 3) := by decide +kernel
theorem dX10_turnsInto_52 : decode cX10_turnsInto 52 = .ok (.iload_n 1, 1) := by decide +kernel
theorem dX10_turnsInto_53 : decode cX10_turnsInto 53 = .ok (.iaload, 1) := by decide +kernel
theorem dX10_turnsInto_54 : decode cX10_turnsInto 54 = .ok (.iastore, 1) := by decide +kernel
theorem dX10_turnsInto_55 : decode cX10_turnsInto 55 = .ok (.aload_n 0, 1) := by decide +kernel
theorem dX10_turnsInto_56 : decode cX10_turnsInto 56 = .ok (.getfield 16, 3) := by decide +kernel
theorem dX10_turnsInto_59 : decode cX10_turnsInto 59 = .ok (.iload_n 1, 1) := by decide +kernel
theorem dX10_turnsInto_60 : decode cX10_turnsInto 60 = .ok (.iconst 0, 1) := by decide +kernel
theorem dX10_turnsInto_61 : decode cX10_turnsInto 61 = .ok (.iastore, 1) := by decide +kernel
theorem dX10_turnsInto_62 : decode cX10_turnsInto 62 = .ok (.iinc 1 1, 3) := by decide +kernel
theorem dX10_turnsInto_65 : decode cX10_turnsInto 65 = .ok (.goto (-39), 3) := by decide +kernel
theorem dX10_turnsInto_68 : decode cX10_turnsInto 68 = .ok (.iconst 0, 1) := by decide +kernel
theorem dX10_turnsInto_69 : decode cX10_turnsInto 69 = .ok (.istore_n 1, 1) := by decide +kernel
theorem dX10_turnsInto_70 : decode cX10_turnsInto 70 = .ok (.iload_n 1, 1) := by decide +kernel
theorem dX10_turnsInto_71 : decode cX10_turnsInto 71 = .ok (.bipush 6, 2) := by decide +kernel
theorem dX10_turnsInto_73 : decode cX10_turnsInto 73 = .ok (.if_icmp .ge 59, 3) := by decide +kernel
theorem dX10_turnsInto_76 : decode cX10_turnsInto 76 = .ok (.aload_n 0, 1) := by decide +kernel
theorem dX10_turnsInto_77 : decode cX10_turnsInto 77 = .ok (.getfield 32, 3) := by decide +kernel
theorem dX10_turnsInto_80 : decode cX10_turnsInto 80 = .ok (.iload_n 1, 1) := by decide +kernel
theorem dX10_turnsInto_81 : decode cX10_turnsInto 81 = .ok (.aload_n 0, 1) := by decide +kernel
theorem dX10_turnsInto_82 : decode cX10_turnsInto 82 = .ok (.getfield 56, 3) := by decide +kernel
theorem dX10_turnsInto_85 : decode cX10_turnsInto 85 = .ok (.iload_n 1, 1) := by decide +kernel
theorem dX10_turnsInto_86 : decode cX10_turnsInto 86 = .ok (.iaload, 1) := by decide +kernel
theorem dX10_turnsInto_87 : decode cX10_turnsInto 87 = .ok (.iastore, 1) := by decide +kernel
theorem dX10_turnsInto_88 : decode cX10_turnsInto 88 = .ok (.aload_n 0, 1) := by decide +kernel
theorem dX10_turnsInto_89 : decode cX10_turnsInto 89 = .ok (.getfield 35, 3) := by decide +kernel
theorem dX10_turnsInto_92 : decode cX10_turnsInto 92 = .ok (.iload_n 1, 1) := by decide +kernel
theorem dX10_turnsInto_93 : decode cX10_turnsInto 93 = .ok (.aload_n 0, 1) := by decide +kernel
theorem dX10_turnsInto_94 : decode cX10_turnsInto 94 = .ok (.getfield 59, 3) := by decide +kernel
theorem dX10_turnsInto_97 : decode cX10_turnsInto 97 = .ok (.iload_n 1, 1) := by decide +kernel
theorem dX10_turnsInto_98 : decode cX10_turnsInto 98 = .ok (.iaload, 1) := by decide +kernel
theorem dX10_turnsInto_99 : decode cX10_turnsInto 99 = .ok (.iastore, 1) := by decide +kernel
theorem dX10_turnsInto_100 : decode cX10_turnsInto 100 = .ok (.aload_n 0, 1) := by decide +kernel
theorem dX10_turnsInto_101 : decode cX10_turnsInto 101 = .ok (.getfield 38, 3) := by decide +kernel
theorem dX10_turnsInto_104 : decode cX10_turnsInto 104 = .ok (.iload_n 1, 1) := by decide +kernel
theorem dX10_turnsInto_105 : decode cX10_turnsInto 105 = .ok (.aload_n 0, 1) := by decide +kernel
theorem dX10_turnsInto_106 : decode cX10_turnsInto 106 = .ok (.getfield 62, 3) := by decide +kernel
theorem dX10_turnsInto_109 : decode cX10_turnsInto 109 = .ok (.iload_n 1, 1) := by decide +kernel
theorem dX10_turnsInto_110 : decode cX10_turnsInto 110 = .ok (.iaload, 1) := by decide +kernel
theorem dX10_turnsInto_111 : decode cX10_turnsInto 111 = .ok (.iastore, 1) := by decide +kernel
theorem dX10_turnsInto_112 : decode cX10_turnsInto 112 = .ok (.aload_n 0, 1) := by decide +kernel
theorem dX10_turnsInto_113 : decode cX10_turnsInto 113 = .ok (.getfield 41, 3) := by decide +kernel
theorem dX10_turnsInto_116 : decode cX10_turnsInto 116 = .ok (.iconst 5, 1) := by decide +kernel
theorem dX10_turnsInto_117 : decode cX10_turnsInto 117 = .ok (.iload_n 1, 1) := by decide +kernel
theorem dX10_turnsInto_118 : decode cX10_turnsInto 118 = .ok (.iadd, 1) := by decide +kernel
theorem dX10_turnsInto_119 : decode cX10_turnsInto 119 = .ok (.aload_n 0, 1) := by decide +kernel
theorem dX10_turnsInto_120 : decode cX10_turnsInto 120 = .ok (.getfield 65, 3) := by decide +kernel
theorem dX10_turnsInto_123 : decode cX10_turnsInto 123 = .ok (.iload_n 1, 1) := by decide +kernel
theorem dX10_turnsInto_124 : decode cX10_turnsInto 124 = .ok (.iaload, 1) := by decide +kernel
theorem dX10_turnsInto_125 : decode cX10_turnsInto 125 = .ok (.iastore, 1) := by decide +kernel
theorem dX10_turnsInto_126 : decode cX10_turnsInto 126 = .ok (.iinc 1 1, 3) := by decide +kernel
theorem dX10_turnsInto_129 : decode cX10_turnsInto 129 = .ok (.goto (-59), 3) := by decide +kernel
theorem dX10_turnsInto_132 : decode cX10_turnsInto 132 = .ok (.iconst 0, 1) := by decide +kernel
theorem dX10_turnsInto_133 : decode cX10_turnsInto 133 = .ok (.istore_n 1, 1) := by decide +kernel
theorem dX10_turnsInto_134 : decode cX10_turnsInto 134 = .ok (.iload_n 1, 1) := by decide +kernel
theorem dX10_turnsInto_135 : decode cX10_turnsInto 135 = .ok (.bipush 12, 2) := by decide +kernel
theorem dX10_turnsInto_137 : decode cX10_turnsInto 137 = .ok (.if_icmp .ge 21, 3) := by decide +kernel
theorem dX10_turnsInto_140 : decode cX10_turnsInto 140 = .ok (.aload_n 0, 1) := by decide +kernel
theorem dX10_turnsInto_141 : decode cX10_turnsInto 141 = .ok (.getfield 25, 3) := by decide +kernel
theorem dX10_turnsInto_144 : decode cX10_turnsInto 144 = .ok (.iload_n 1, 1) := by decide +kernel
theorem dX10_turnsInto_145 : decode cX10_turnsInto 145 = .ok (.aload_n 0, 1) := by decide +kernel
theorem dX10_turnsInto_146 : decode cX10_turnsInto 146 = .ok (.getfield 68, 3) := by decide +kernel
theorem dX10_turnsInto_149 : decode cX10_turnsInto 149 = .ok (.iload_n 1, 1) := by decide +kernel
theorem dX10_turnsInto_150 : decode cX10_turnsInto 150 = .ok (.iaload, 1) := by decide +kernel
theorem dX10_turnsInto_151 : decode cX10_turnsInto 151 = .ok (.iastore, 1) := by decide +kernel
theorem dX10_turnsInto_152 : decode cX10_turnsInto 152 = .ok (.iinc 1 1, 3) := by decide +kernel
theorem dX10_turnsInto_155 : decode cX10_turnsInto 155 = .ok (.goto (-21), 3) := by decide +kernel
theorem dX10_turnsInto_158 : decode cX10_turnsInto 158 = .ok (.aload_n 0, 1) := by decide +kernel
theorem dX10_turnsInto_159 : decode cX10_turnsInto 159 = .ok (.invokevirtual 252, 3) := by decide +kernel
theorem dX10_turnsInto_162 : decode cX10_turnsInto 162 = .ok (.return_, 1) := by decide +kernel
theorem dX10_none_0 : decode cX10_none 0 = .ok (.aload_n 0, 1) := by decide +kernel
theorem dX10_none_1 : decode cX10_none 1 = .ok (.iconst 0, 1) := by decide +kernel
theorem dX10_none_2 : decode cX10_none 2 = .ok (.iconst (-1), 1) := by decide +kernel
theorem dX10_none_3 : decode cX10_none 3 = .ok (.invokevirtual 255, 3) := by decide +kernel
theorem dX10_none_6 : decode cX10_none 6 = .ok (.aload_n 0, 1) := by decide +kernel
theorem dX10_none_7 : decode cX10_none 7 = .ok (.iconst 1, 1) := by decide +kernel
theorem dX10_none_8 : decode cX10_none 8 = .ok (.iconst 0, 1) := by decide +kernel
theorem dX10_none_9 : decode cX10_none 9 = .ok (.invokevirtual 255, 3) := by decide +kernel
theorem dX10_none_12 : decode cX10_none 12 = .ok (.aload_n 0, 1) := by decide +kernel
theorem dX10_none_13 : decode cX10_none 13 = .ok (.iconst 2, 1) := by decide +kernel
theorem dX10_none_14 : decode cX10_none 14 = .ok (.iconst 0, 1) := by decide +kernel
theorem dX10_none_15 : decode cX10_none 15 = .ok (.invokevirtual 255, 3) := by decide +kernel
theorem dX10_none_18 : decode cX10_none 18 = .ok (.aload_n 0, 1) := by decide +kernel
theorem dX10_none_19 : decode cX10_none 19 = .ok (.iconst 3, 1) := by decide +kernel
theorem dX10_none_20 : decode cX10_none 20 = .ok (.iconst 0, 1) := by decide +kernel
theorem dX10_none_21 : decode cX10_none 21 = .ok (.invokevirtual 255, 3) := by decide +kernel
theorem dX10_none_24 : decode cX10_none 24 = .ok (.aload_n 0, 1) := by decide +kernel
theorem dX10_none_25 : decode cX10_none 25 = .ok (.iconst 4, 1) := by decide +kernel
theorem dX10_none_26 : decode cX10_none 26 = .ok (.iconst (-1), 1) := by decide +kernel
theorem dX10_none_27 : decode cX10_none 27 = .ok (.invokevirtual 255, 3) := by decide +kernel
theorem dX10_none_30 : decode cX10_none 30 = .ok (.return_, 1) := by decide +kernel
theorem dX10_isWax_0 : decode cX10_isWax 0 = .ok (.iload_n 0, 1) := by decide +kernel
theorem dX10_isWax_1 : decode cX10_isWax 1 = .ok (.iconst 1, 1) := by decide +kernel
theorem dX10_isWax_2 : decode cX10_isWax 2 = .ok (.bipush 60, 2) := by decide +kernel
theorem dX10_isWax_4 : decode cX10_isWax 4 = .ok (.invokestatic 120, 3) := by decide +kernel
theorem dX10_isWax_7 : decode cX10_isWax 7 = .ok (.ireturn, 1) := by decide +kernel
theorem dX10_isWorth_0 : decode cX10_isWorth 0 = .ok (.iload_n 0, 1) := by decide +kernel
theorem dX10_isWorth_1 : decode cX10_isWorth 1 = .ok (.iconst 1, 1) := by decide +kernel
theorem dX10_isWorth_2 : decode cX10_isWorth 2 = .ok (.bipush 99, 2) := by decide +kernel
theorem dX10_isWorth_4 : decode cX10_isWorth 4 = .ok (.invokestatic 120, 3) := by decide +kernel
theorem dX10_isWorth_7 : decode cX10_isWorth 7 = .ok (.ireturn, 1) := by decide +kernel
theorem dX10_lot_0 : decode cX10_lot 0 = .ok (.iload_n 1, 1) := by decide +kernel
theorem dX10_lot_1 : decode cX10_lot 1 = .ok (.invokestatic 259, 3) := by decide +kernel
theorem dX10_lot_4 : decode cX10_lot 4 = .ok (.ifCond .eq 10, 3) := by decide +kernel
theorem dX10_lot_7 : decode cX10_lot 7 = .ok (.iload_n 2, 1) := by decide +kernel
theorem dX10_lot_8 : decode cX10_lot 8 = .ok (.invokestatic 262, 3) := by decide +kernel
theorem dX10_lot_11 : decode cX10_lot 11 = .ok (.ifCond .ne 5, 3) := by decide +kernel
theorem dX10_lot_14 : decode cX10_lot 14 = .ok (.iconst (-1), 1) := by decide +kernel
theorem dX10_lot_15 : decode cX10_lot 15 = .ok (.ireturn, 1) := by decide +kernel
theorem dX10_lot_16 : decode cX10_lot 16 = .ok (.aload_n 0, 1) := by decide +kernel
theorem dX10_lot_17 : decode cX10_lot 17 = .ok (.getfield 117, 3) := by decide +kernel
theorem dX10_lot_20 : decode cX10_lot 20 = .ok (.iconst 5, 1) := by decide +kernel
theorem dX10_lot_21 : decode cX10_lot 21 = .ok (.if_icmp .ne 6, 3) := by decide +kernel
theorem dX10_lot_24 : decode cX10_lot 24 = .ok (.bipush (-2), 2) := by decide +kernel
theorem dX10_lot_26 : decode cX10_lot 26 = .ok (.ireturn, 1) := by decide +kernel
theorem dX10_lot_27 : decode cX10_lot 27 = .ok (.aload_n 0, 1) := by decide +kernel
theorem dX10_lot_28 : decode cX10_lot 28 = .ok (.getfield 7, 3) := by decide +kernel
theorem dX10_lot_31 : decode cX10_lot 31 = .ok (.aload_n 0, 1) := by decide +kernel
theorem dX10_lot_32 : decode cX10_lot 32 = .ok (.getfield 117, 3) := by decide +kernel
theorem dX10_lot_35 : decode cX10_lot 35 = .ok (.iload_n 1, 1) := by decide +kernel
theorem dX10_lot_36 : decode cX10_lot 36 = .ok (.iastore, 1) := by decide +kernel
theorem dX10_lot_37 : decode cX10_lot 37 = .ok (.aload_n 0, 1) := by decide +kernel
theorem dX10_lot_38 : decode cX10_lot 38 = .ok (.getfield 13, 3) := by decide +kernel
theorem dX10_lot_41 : decode cX10_lot 41 = .ok (.aload_n 0, 1) := by decide +kernel
theorem dX10_lot_42 : decode cX10_lot 42 = .ok (.getfield 117, 3) := by decide +kernel
theorem dX10_lot_45 : decode cX10_lot 45 = .ok (.iload_n 2, 1) := by decide +kernel
theorem dX10_lot_46 : decode cX10_lot 46 = .ok (.iastore, 1) := by decide +kernel
theorem dX10_lot_47 : decode cX10_lot 47 = .ok (.aload_n 0, 1) := by decide +kernel
theorem dX10_lot_48 : decode cX10_lot 48 = .ok (.getfield 16, 3) := by decide +kernel
theorem dX10_lot_51 : decode cX10_lot 51 = .ok (.aload_n 0, 1) := by decide +kernel
theorem dX10_lot_52 : decode cX10_lot 52 = .ok (.getfield 117, 3) := by decide +kernel
theorem dX10_lot_55 : decode cX10_lot 55 = .ok (.iconst 0, 1) := by decide +kernel
theorem dX10_lot_56 : decode cX10_lot 56 = .ok (.iastore, 1) := by decide +kernel
theorem dX10_lot_57 : decode cX10_lot 57 = .ok (.aload_n 0, 1) := by decide +kernel
theorem dX10_lot_58 : decode cX10_lot 58 = .ok (.dup, 1) := by decide +kernel
theorem dX10_lot_59 : decode cX10_lot 59 = .ok (.getfield 117, 3) := by decide +kernel
theorem dX10_lot_62 : decode cX10_lot 62 = .ok (.iconst 1, 1) := by decide +kernel
theorem dX10_lot_63 : decode cX10_lot 63 = .ok (.iadd, 1) := by decide +kernel
theorem dX10_lot_64 : decode cX10_lot 64 = .ok (.putfield 117, 3) := by decide +kernel
theorem dX10_lot_67 : decode cX10_lot 67 = .ok (.aload_n 0, 1) := by decide +kernel
theorem dX10_lot_68 : decode cX10_lot 68 = .ok (.getfield 117, 3) := by decide +kernel
theorem dX10_lot_71 : decode cX10_lot 71 = .ok (.iconst 1, 1) := by decide +kernel
theorem dX10_lot_72 : decode cX10_lot 72 = .ok (.isub, 1) := by decide +kernel
theorem dX10_lot_73 : decode cX10_lot 73 = .ok (.ireturn, 1) := by decide +kernel
theorem dX10_lotOf_0 : decode cX10_lotOf 0 = .ok (.aload_n 0, 1) := by decide +kernel
theorem dX10_lotOf_1 : decode cX10_lotOf 1 = .ok (.iload_n 1, 1) := by decide +kernel
theorem dX10_lotOf_2 : decode cX10_lotOf 2 = .ok (.invokevirtual 124, 3) := by decide +kernel
theorem dX10_lotOf_5 : decode cX10_lotOf 5 = .ok (.ifCond .eq 12, 3) := by decide +kernel
theorem dX10_lotOf_8 : decode cX10_lotOf 8 = .ok (.iload_n 2, 1) := by decide +kernel
theorem dX10_lotOf_9 : decode cX10_lotOf 9 = .ok (.iconst 0, 1) := by decide +kernel
theorem dX10_lotOf_10 : decode cX10_lotOf 10 = .ok (.iconst 4, 1) := by decide +kernel
theorem dX10_lotOf_11 : decode cX10_lotOf 11 = .ok (.invokestatic 120, 3) := by decide +kernel
theorem dX10_lotOf_14 : decode cX10_lotOf 14 = .ok (.ifCond .ne 5, 3) := by decide +kernel
theorem dX10_lotOf_17 : decode cX10_lotOf 17 = .ok (.iconst (-1), 1) := by decide +kernel
theorem dX10_lotOf_18 : decode cX10_lotOf 18 = .ok (.ireturn, 1) := by decide +kernel
theorem dX10_lotOf_19 : decode cX10_lotOf 19 = .ok (.iload_n 2, 1) := by decide +kernel
theorem dX10_lotOf_20 : decode cX10_lotOf 20 = .ok (.tableswitch 75 0 3 #[32, 39, 46, 53], 32) := by decide +kernel
theorem dX10_lotOf_52 : decode cX10_lotOf 52 = .ok (.aload_n 0, 1) := by decide +kernel
theorem dX10_lotOf_53 : decode cX10_lotOf 53 = .ok (.getfield 7, 3) := by decide +kernel
theorem dX10_lotOf_56 : decode cX10_lotOf 56 = .ok (.iload_n 1, 1) := by decide +kernel
theorem dX10_lotOf_57 : decode cX10_lotOf 57 = .ok (.iaload, 1) := by decide +kernel
theorem dX10_lotOf_58 : decode cX10_lotOf 58 = .ok (.ireturn, 1) := by decide +kernel
theorem dX10_lotOf_59 : decode cX10_lotOf 59 = .ok (.aload_n 0, 1) := by decide +kernel
theorem dX10_lotOf_60 : decode cX10_lotOf 60 = .ok (.getfield 13, 3) := by decide +kernel
theorem dX10_lotOf_63 : decode cX10_lotOf 63 = .ok (.iload_n 1, 1) := by decide +kernel
theorem dX10_lotOf_64 : decode cX10_lotOf 64 = .ok (.iaload, 1) := by decide +kernel
theorem dX10_lotOf_65 : decode cX10_lotOf 65 = .ok (.ireturn, 1) := by decide +kernel
theorem dX10_lotOf_66 : decode cX10_lotOf 66 = .ok (.aload_n 0, 1) := by decide +kernel
theorem dX10_lotOf_67 : decode cX10_lotOf 67 = .ok (.getfield 16, 3) := by decide +kernel
theorem dX10_lotOf_70 : decode cX10_lotOf 70 = .ok (.iload_n 1, 1) := by decide +kernel
theorem dX10_lotOf_71 : decode cX10_lotOf 71 = .ok (.iaload, 1) := by decide +kernel
theorem dX10_lotOf_72 : decode cX10_lotOf 72 = .ok (.ireturn, 1) := by decide +kernel
theorem dX10_lotOf_73 : decode cX10_lotOf 73 = .ok (.aload_n 0, 1) := by decide +kernel
theorem dX10_lotOf_74 : decode cX10_lotOf 74 = .ok (.getfield 16, 3) := by decide +kernel
theorem dX10_lotOf_77 : decode cX10_lotOf 77 = .ok (.iload_n 1, 1) := by decide +kernel
theorem dX10_lotOf_78 : decode cX10_lotOf 78 = .ok (.iaload, 1) := by decide +kernel
theorem dX10_lotOf_79 : decode cX10_lotOf 79 = .ok (.iconst 1, 1) := by decide +kernel
theorem dX10_lotOf_80 : decode cX10_lotOf 80 = .ok (.if_icmp .ne 12, 3) := by decide +kernel
theorem dX10_lotOf_83 : decode cX10_lotOf 83 = .ok (.aload_n 0, 1) := by decide +kernel
theorem dX10_lotOf_84 : decode cX10_lotOf 84 = .ok (.getfield 19, 3) := by decide +kernel
theorem dX10_lotOf_87 : decode cX10_lotOf 87 = .ok (.iload_n 1, 1) := by decide +kernel
theorem dX10_lotOf_88 : decode cX10_lotOf 88 = .ok (.iaload, 1) := by decide +kernel
theorem dX10_lotOf_89 : decode cX10_lotOf 89 = .ok (.goto 5, 3) := by decide +kernel
theorem dX10_lotOf_92 : decode cX10_lotOf 92 = .ok (.bipush (-9), 2) := by decide +kernel
theorem dX10_lotOf_94 : decode cX10_lotOf 94 = .ok (.ireturn, 1) := by decide +kernel
theorem dX10_lotOf_95 : decode cX10_lotOf 95 = .ok (.aload_n 0, 1) := by decide +kernel
theorem dX10_lotOf_96 : decode cX10_lotOf 96 = .ok (.getfield 16, 3) := by decide +kernel
theorem dX10_lotOf_99 : decode cX10_lotOf 99 = .ok (.iload_n 1, 1) := by decide +kernel
theorem dX10_lotOf_100 : decode cX10_lotOf 100 = .ok (.iaload, 1) := by decide +kernel
theorem dX10_lotOf_101 : decode cX10_lotOf 101 = .ok (.iconst 1, 1) := by decide +kernel
theorem dX10_lotOf_102 : decode cX10_lotOf 102 = .ok (.if_icmp .ne 21, 3) := by decide +kernel
theorem dX10_lotOf_105 : decode cX10_lotOf 105 = .ok (.aload_n 0, 1) := by decide +kernel
theorem dX10_lotOf_106 : decode cX10_lotOf 106 = .ok (.getfield 22, 3) := by decide +kernel
theorem dX10_lotOf_109 : decode cX10_lotOf 109 = .ok (.iload_n 1, 1) := by decide +kernel
theorem dX10_lotOf_110 : decode cX10_lotOf 110 = .ok (.iaload, 1) := by decide +kernel
theorem dX10_lotOf_111 : decode cX10_lotOf 111 = .ok (.ifCond .lt 12, 3) := by decide +kernel
theorem dX10_lotOf_114 : decode cX10_lotOf 114 = .ok (.aload_n 0, 1) := by decide +kernel
theorem dX10_lotOf_115 : decode cX10_lotOf 115 = .ok (.getfield 22, 3) := by decide +kernel
theorem dX10_lotOf_118 : decode cX10_lotOf 118 = .ok (.iload_n 1, 1) := by decide +kernel
theorem dX10_lotOf_119 : decode cX10_lotOf 119 = .ok (.iaload, 1) := by decide +kernel
theorem dX10_lotOf_120 : decode cX10_lotOf 120 = .ok (.goto 5, 3) := by decide +kernel
theorem dX10_lotOf_123 : decode cX10_lotOf 123 = .ok (.bipush (-9), 2) := by decide +kernel
theorem dX10_lotOf_125 : decode cX10_lotOf 125 = .ok (.ireturn, 1) := by decide +kernel
theorem dX10_trim_0 : decode cX10_trim 0 = .ok (.aload_n 0, 1) := by decide +kernel
theorem dX10_trim_1 : decode cX10_trim 1 = .ok (.iload_n 1, 1) := by decide +kernel
theorem dX10_trim_2 : decode cX10_trim 2 = .ok (.invokevirtual 124, 3) := by decide +kernel
theorem dX10_trim_5 : decode cX10_trim 5 = .ok (.ifCond .eq 31, 3) := by decide +kernel
theorem dX10_trim_8 : decode cX10_trim 8 = .ok (.iload_n 2, 1) := by decide +kernel
theorem dX10_trim_9 : decode cX10_trim 9 = .ok (.invokestatic 265, 3) := by decide +kernel
theorem dX10_trim_12 : decode cX10_trim 12 = .ok (.ifCond .eq 24, 3) := by decide +kernel
theorem dX10_trim_15 : decode cX10_trim 15 = .ok (.iload_n 2, 1) := by decide +kernel
theorem dX10_trim_16 : decode cX10_trim 16 = .ok (.ifCond .ne 13, 3) := by decide +kernel
theorem dX10_trim_19 : decode cX10_trim 19 = .ok (.iload_n 3, 1) := by decide +kernel
theorem dX10_trim_20 : decode cX10_trim 20 = .ok (.invokestatic 259, 3) := by decide +kernel
theorem dX10_trim_23 : decode cX10_trim 23 = .ok (.ifCond .eq 13, 3) := by decide +kernel
theorem dX10_trim_26 : decode cX10_trim 26 = .ok (.goto 12, 3) := by decide +kernel
theorem dX10_trim_29 : decode cX10_trim 29 = .ok (.iload_n 3, 1) := by decide +kernel
theorem dX10_trim_30 : decode cX10_trim 30 = .ok (.invokestatic 262, 3) := by decide +kernel
theorem dX10_trim_33 : decode cX10_trim 33 = .ok (.ifCond .ne 5, 3) := by decide +kernel
theorem dX10_trim_36 : decode cX10_trim 36 = .ok (.iconst (-1), 1) := by decide +kernel
theorem dX10_trim_37 : decode cX10_trim 37 = .ok (.ireturn, 1) := by decide +kernel
theorem dX10_trim_38 : decode cX10_trim 38 = .ok (.aload_n 0, 1) := by decide +kernel
theorem dX10_trim_39 : decode cX10_trim 39 = .ok (.getfield 16, 3) := by decide +kernel
theorem dX10_trim_42 : decode cX10_trim 42 = .ok (.iload_n 1, 1) := by decide +kernel
theorem dX10_trim_43 : decode cX10_trim 43 = .ok (.iaload, 1) := by decide +kernel
theorem dX10_trim_44 : decode cX10_trim 44 = .ok (.iconst 1, 1) := by decide +kernel
theorem dX10_trim_45 : decode cX10_trim 45 = .ok (.if_icmp .eq 13, 3) := by decide +kernel
theorem dX10_trim_48 : decode cX10_trim 48 = .ok (.aload_n 0, 1) := by decide +kernel
theorem dX10_trim_49 : decode cX10_trim 49 = .ok (.getfield 41, 3) := by decide +kernel
theorem dX10_trim_52 : decode cX10_trim 52 = .ok (.iconst 0, 1) := by decide +kernel
theorem dX10_trim_53 : decode cX10_trim 53 = .ok (.iaload, 1) := by decide +kernel
theorem dX10_trim_54 : decode cX10_trim 54 = .ok (.iload_n 1, 1) := by decide +kernel
theorem dX10_trim_55 : decode cX10_trim 55 = .ok (.if_icmp .ne 6, 3) := by decide +kernel
theorem dX10_trim_58 : decode cX10_trim 58 = .ok (.bipush (-4), 2) := by decide +kernel
theorem dX10_trim_60 : decode cX10_trim 60 = .ok (.ireturn, 1) := by decide +kernel
theorem dX10_trim_61 : decode cX10_trim 61 = .ok (.iload_n 2, 1) := by decide +kernel
theorem dX10_trim_62 : decode cX10_trim 62 = .ok (.ifCond .ne 12, 3) := by decide +kernel
theorem dX10_trim_65 : decode cX10_trim 65 = .ok (.aload_n 0, 1) := by decide +kernel
theorem dX10_trim_66 : decode cX10_trim 66 = .ok (.getfield 7, 3) := by decide +kernel
theorem dX10_trim_69 : decode cX10_trim 69 = .ok (.iload_n 1, 1) := by decide +kernel
theorem dX10_trim_70 : decode cX10_trim 70 = .ok (.iaload, 1) := by decide +kernel
theorem dX10_trim_71 : decode cX10_trim 71 = .ok (.goto 9, 3) := by decide +kernel
theorem dX10_trim_74 : decode cX10_trim 74 = .ok (.aload_n 0, 1) := by decide +kernel
theorem dX10_trim_75 : decode cX10_trim 75 = .ok (.getfield 13, 3) := by decide +kernel
theorem dX10_trim_78 : decode cX10_trim 78 = .ok (.iload_n 1, 1) := by decide +kernel
theorem dX10_trim_79 : decode cX10_trim 79 = .ok (.iaload, 1) := by decide +kernel
theorem dX10_trim_80 : decode cX10_trim 80 = .ok (.istore 4, 2) := by decide +kernel
theorem dX10_trim_82 : decode cX10_trim 82 = .ok (.iload_n 2, 1) := by decide +kernel
theorem dX10_trim_83 : decode cX10_trim 83 = .ok (.ifCond .ne 13, 3) := by decide +kernel
theorem dX10_trim_86 : decode cX10_trim 86 = .ok (.aload_n 0, 1) := by decide +kernel
theorem dX10_trim_87 : decode cX10_trim 87 = .ok (.getfield 7, 3) := by decide +kernel
theorem dX10_trim_90 : decode cX10_trim 90 = .ok (.iload_n 1, 1) := by decide +kernel
theorem dX10_trim_91 : decode cX10_trim 91 = .ok (.iload_n 3, 1) := by decide +kernel
theorem dX10_trim_92 : decode cX10_trim 92 = .ok (.iastore, 1) := by decide +kernel
theorem dX10_trim_93 : decode cX10_trim 93 = .ok (.goto 10, 3) := by decide +kernel
theorem dX10_trim_96 : decode cX10_trim 96 = .ok (.aload_n 0, 1) := by decide +kernel
theorem dX10_trim_97 : decode cX10_trim 97 = .ok (.getfield 13, 3) := by decide +kernel
theorem dX10_trim_100 : decode cX10_trim 100 = .ok (.iload_n 1, 1) := by decide +kernel
theorem dX10_trim_101 : decode cX10_trim 101 = .ok (.iload_n 3, 1) := by decide +kernel
theorem dX10_trim_102 : decode cX10_trim 102 = .ok (.iastore, 1) := by decide +kernel
theorem dX10_trim_103 : decode cX10_trim 103 = .ok (.iload 4, 2) := by decide +kernel
theorem dX10_trim_105 : decode cX10_trim 105 = .ok (.ireturn, 1) := by decide +kernel
theorem dX10_draught_0 : decode cX10_draught 0 = .ok (.iload_n 1, 1) := by decide +kernel
theorem dX10_draught_1 : decode cX10_draught 1 = .ok (.invokestatic 268, 3) := by decide +kernel
theorem dX10_draught_4 : decode cX10_draught 4 = .ok (.ifCond .eq 12, 3) := by decide +kernel
theorem dX10_draught_7 : decode cX10_draught 7 = .ok (.iload_n 2, 1) := by decide +kernel
theorem dX10_draught_8 : decode cX10_draught 8 = .ok (.iconst 0, 1) := by decide +kernel
theorem dX10_draught_9 : decode cX10_draught 9 = .ok (.iconst 3, 1) := by decide +kernel
theorem dX10_draught_10 : decode cX10_draught 10 = .ok (.invokestatic 120, 3) := by decide +kernel
theorem dX10_draught_13 : decode cX10_draught 13 = .ok (.ifCond .ne 5, 3) := by decide +kernel
theorem dX10_draught_16 : decode cX10_draught 16 = .ok (.iconst (-1), 1) := by decide +kernel
theorem dX10_draught_17 : decode cX10_draught 17 = .ok (.ireturn, 1) := by decide +kernel
theorem dX10_draught_18 : decode cX10_draught 18 = .ok (.aload_n 0, 1) := by decide +kernel
theorem dX10_draught_19 : decode cX10_draught 19 = .ok (.getfield 25, 3) := by decide +kernel
theorem dX10_draught_22 : decode cX10_draught 22 = .ok (.iload_n 1, 1) := by decide +kernel
theorem dX10_draught_23 : decode cX10_draught 23 = .ok (.iaload, 1) := by decide +kernel
theorem dX10_draught_24 : decode cX10_draught 24 = .ok (.istore_n 3, 1) := by decide +kernel
theorem dX10_draught_25 : decode cX10_draught 25 = .ok (.aload_n 0, 1) := by decide +kernel
theorem dX10_draught_26 : decode cX10_draught 26 = .ok (.getfield 25, 3) := by decide +kernel
theorem dX10_draught_29 : decode cX10_draught 29 = .ok (.iload_n 1, 1) := by decide +kernel
theorem dX10_draught_30 : decode cX10_draught 30 = .ok (.iload_n 2, 1) := by decide +kernel
theorem dX10_draught_31 : decode cX10_draught 31 = .ok (.iastore, 1) := by decide +kernel
theorem dX10_draught_32 : decode cX10_draught 32 = .ok (.iload_n 3, 1) := by decide +kernel
theorem dX10_draught_33 : decode cX10_draught 33 = .ok (.ireturn, 1) := by decide +kernel
theorem dX10_step_0 : decode cX10_step 0 = .ok (.iload_n 1, 1) := by decide +kernel
theorem dX10_step_1 : decode cX10_step 1 = .ok (.iconst 1, 1) := by decide +kernel
theorem dX10_step_2 : decode cX10_step 2 = .ok (.bipush 20, 2) := by decide +kernel
theorem dX10_step_4 : decode cX10_step 4 = .ok (.invokestatic 120, 3) := by decide +kernel
theorem dX10_step_7 : decode cX10_step 7 = .ok (.ifCond .ne 5, 3) := by decide +kernel
theorem dX10_step_10 : decode cX10_step 10 = .ok (.iconst (-1), 1) := by decide +kernel
theorem dX10_step_11 : decode cX10_step 11 = .ok (.ireturn, 1) := by decide +kernel
theorem dX10_step_12 : decode cX10_step 12 = .ok (.aload_n 0, 1) := by decide +kernel
theorem dX10_step_13 : decode cX10_step 13 = .ok (.getfield 28, 3) := by decide +kernel
theorem dX10_step_16 : decode cX10_step 16 = .ok (.istore_n 2, 1) := by decide +kernel
theorem dX10_step_17 : decode cX10_step 17 = .ok (.aload_n 0, 1) := by decide +kernel
theorem dX10_step_18 : decode cX10_step 18 = .ok (.iload_n 1, 1) := by decide +kernel
theorem dX10_step_19 : decode cX10_step 19 = .ok (.putfield 28, 3) := by decide +kernel
theorem dX10_step_22 : decode cX10_step 22 = .ok (.iload_n 2, 1) := by decide +kernel
theorem dX10_step_23 : decode cX10_step 23 = .ok (.ireturn, 1) := by decide +kernel
theorem dX10_bidder_0 : decode cX10_bidder 0 = .ok (.iload_n 1, 1) := by decide +kernel
theorem dX10_bidder_1 : decode cX10_bidder 1 = .ok (.iconst 0, 1) := by decide +kernel
theorem dX10_bidder_2 : decode cX10_bidder 2 = .ok (.iconst 5, 1) := by decide +kernel
theorem dX10_bidder_3 : decode cX10_bidder 3 = .ok (.invokestatic 120, 3) := by decide +kernel
theorem dX10_bidder_6 : decode cX10_bidder 6 = .ok (.ifCond .eq 36, 3) := by decide +kernel
theorem dX10_bidder_9 : decode cX10_bidder 9 = .ok (.iload_n 2, 1) := by decide +kernel
theorem dX10_bidder_10 : decode cX10_bidder 10 = .ok (.iconst 0, 1) := by decide +kernel
theorem dX10_bidder_11 : decode cX10_bidder 11 = .ok (.bipush 9, 2) := by decide +kernel
theorem dX10_bidder_13 : decode cX10_bidder 13 = .ok (.invokestatic 120, 3) := by decide +kernel
theorem dX10_bidder_16 : decode cX10_bidder 16 = .ok (.ifCond .eq 26, 3) := by decide +kernel
theorem dX10_bidder_19 : decode cX10_bidder 19 = .ok (.iload_n 3, 1) := by decide +kernel
theorem dX10_bidder_20 : decode cX10_bidder 20 = .ok (.iconst 0, 1) := by decide +kernel
theorem dX10_bidder_21 : decode cX10_bidder 21 = .ok (.sipush 999, 3) := by decide +kernel
theorem dX10_bidder_24 : decode cX10_bidder 24 = .ok (.invokestatic 120, 3) := by decide +kernel
theorem dX10_bidder_27 : decode cX10_bidder 27 = .ok (.ifCond .eq 15, 3) := by decide +kernel
theorem dX10_bidder_30 : decode cX10_bidder 30 = .ok (.iload 4, 2) := by decide +kernel
theorem dX10_bidder_32 : decode cX10_bidder 32 = .ok (.iconst 0, 1) := by decide +kernel
theorem dX10_bidder_33 : decode cX10_bidder 33 = .ok (.sipush 9999, 3) := by decide +kernel
theorem dX10_bidder_36 : decode cX10_bidder 36 = .ok (.invokestatic 120, 3) := by decide +kernel
theorem dX10_bidder_39 : decode cX10_bidder 39 = .ok (.ifCond .ne 5, 3) := by decide +kernel
theorem dX10_bidder_42 : decode cX10_bidder 42 = .ok (.iconst (-1), 1) := by decide +kernel
theorem dX10_bidder_43 : decode cX10_bidder 43 = .ok (.ireturn, 1) := by decide +kernel
theorem dX10_bidder_44 : decode cX10_bidder 44 = .ok (.aload_n 0, 1) := by decide +kernel
theorem dX10_bidder_45 : decode cX10_bidder 45 = .ok (.getfield 128, 3) := by decide +kernel
theorem dX10_bidder_48 : decode cX10_bidder 48 = .ok (.bipush 6, 2) := by decide +kernel
theorem dX10_bidder_50 : decode cX10_bidder 50 = .ok (.if_icmp .ne 6, 3) := by decide +kernel
theorem dX10_bidder_53 : decode cX10_bidder 53 = .ok (.bipush (-2), 2) := by decide +kernel
theorem dX10_bidder_55 : decode cX10_bidder 55 = .ok (.ireturn, 1) := by decide +kernel
theorem dX10_bidder_56 : decode cX10_bidder 56 = .ok (.aload_n 0, 1) := by decide +kernel
theorem dX10_bidder_57 : decode cX10_bidder 57 = .ok (.getfield 32, 3) := by decide +kernel
theorem dX10_bidder_60 : decode cX10_bidder 60 = .ok (.aload_n 0, 1) := by decide +kernel
theorem dX10_bidder_61 : decode cX10_bidder 61 = .ok (.getfield 128, 3) := by decide +kernel
theorem dX10_bidder_64 : decode cX10_bidder 64 = .ok (.iload_n 1, 1) := by decide +kernel
theorem dX10_bidder_65 : decode cX10_bidder 65 = .ok (.iastore, 1) := by decide +kernel
theorem dX10_bidder_66 : decode cX10_bidder 66 = .ok (.aload_n 0, 1) := by decide +kernel
theorem dX10_bidder_67 : decode cX10_bidder 67 = .ok (.getfield 35, 3) := by decide +kernel
theorem dX10_bidder_70 : decode cX10_bidder 70 = .ok (.aload_n 0, 1) := by decide +kernel
theorem dX10_bidder_71 : decode cX10_bidder 71 = .ok (.getfield 128, 3) := by decide +kernel
theorem dX10_bidder_74 : decode cX10_bidder 74 = .ok (.iload_n 2, 1) := by decide +kernel
theorem dX10_bidder_75 : decode cX10_bidder 75 = .ok (.iastore, 1) := by decide +kernel
theorem dX10_bidder_76 : decode cX10_bidder 76 = .ok (.aload_n 0, 1) := by decide +kernel
theorem dX10_bidder_77 : decode cX10_bidder 77 = .ok (.getfield 38, 3) := by decide +kernel
theorem dX10_bidder_80 : decode cX10_bidder 80 = .ok (.aload_n 0, 1) := by decide +kernel
theorem dX10_bidder_81 : decode cX10_bidder 81 = .ok (.getfield 128, 3) := by decide +kernel
theorem dX10_bidder_84 : decode cX10_bidder 84 = .ok (.iload_n 3, 1) := by decide +kernel
theorem dX10_bidder_85 : decode cX10_bidder 85 = .ok (.iastore, 1) := by decide +kernel
theorem dX10_bidder_86 : decode cX10_bidder 86 = .ok (.aload_n 0, 1) := by decide +kernel
theorem dX10_bidder_87 : decode cX10_bidder 87 = .ok (.getfield 41, 3) := by decide +kernel
theorem dX10_bidder_90 : decode cX10_bidder 90 = .ok (.iconst 5, 1) := by decide +kernel
theorem dX10_bidder_91 : decode cX10_bidder 91 = .ok (.aload_n 0, 1) := by decide +kernel
theorem dX10_bidder_92 : decode cX10_bidder 92 = .ok (.getfield 128, 3) := by decide +kernel
theorem dX10_bidder_95 : decode cX10_bidder 95 = .ok (.iadd, 1) := by decide +kernel
theorem dX10_bidder_96 : decode cX10_bidder 96 = .ok (.iload 4, 2) := by decide +kernel
theorem dX10_bidder_98 : decode cX10_bidder 98 = .ok (.iastore, 1) := by decide +kernel
theorem dX10_bidder_99 : decode cX10_bidder 99 = .ok (.aload_n 0, 1) := by decide +kernel
theorem dX10_bidder_100 : decode cX10_bidder 100 = .ok (.dup, 1) := by decide +kernel
theorem dX10_bidder_101 : decode cX10_bidder 101 = .ok (.getfield 128, 3) := by decide +kernel
theorem dX10_bidder_104 : decode cX10_bidder 104 = .ok (.iconst 1, 1) := by decide +kernel
theorem dX10_bidder_105 : decode cX10_bidder 105 = .ok (.iadd, 1) := by decide +kernel
theorem dX10_bidder_106 : decode cX10_bidder 106 = .ok (.putfield 128, 3) := by decide +kernel
theorem dX10_bidder_109 : decode cX10_bidder 109 = .ok (.aload_n 0, 1) := by decide +kernel
theorem dX10_bidder_110 : decode cX10_bidder 110 = .ok (.getfield 128, 3) := by decide +kernel
theorem dX10_bidder_113 : decode cX10_bidder 113 = .ok (.iconst 1, 1) := by decide +kernel
theorem dX10_bidder_114 : decode cX10_bidder 114 = .ok (.isub, 1) := by decide +kernel
theorem dX10_bidder_115 : decode cX10_bidder 115 = .ok (.ireturn, 1) := by decide +kernel
theorem dX10_lotsOf_0 : decode cX10_lotsOf 0 = .ok (.iconst 0, 1) := by decide +kernel
theorem dX10_lotsOf_1 : decode cX10_lotsOf 1 = .ok (.istore_n 2, 1) := by decide +kernel
theorem dX10_lotsOf_2 : decode cX10_lotsOf 2 = .ok (.iconst 0, 1) := by decide +kernel
theorem dX10_lotsOf_3 : decode cX10_lotsOf 3 = .ok (.istore_n 3, 1) := by decide +kernel
theorem dX10_lotsOf_4 : decode cX10_lotsOf 4 = .ok (.iload_n 3, 1) := by decide +kernel
theorem dX10_lotsOf_5 : decode cX10_lotsOf 5 = .ok (.aload_n 0, 1) := by decide +kernel
theorem dX10_lotsOf_6 : decode cX10_lotsOf 6 = .ok (.getfield 117, 3) := by decide +kernel
theorem dX10_lotsOf_9 : decode cX10_lotsOf 9 = .ok (.if_icmp .ge 37, 3) := by decide +kernel
theorem dX10_lotsOf_12 : decode cX10_lotsOf 12 = .ok (.iload_n 2, 1) := by decide +kernel
theorem dX10_lotsOf_13 : decode cX10_lotsOf 13 = .ok (.aload_n 0, 1) := by decide +kernel
theorem dX10_lotsOf_14 : decode cX10_lotsOf 14 = .ok (.getfield 16, 3) := by decide +kernel
theorem dX10_lotsOf_17 : decode cX10_lotsOf 17 = .ok (.iload_n 3, 1) := by decide +kernel
theorem dX10_lotsOf_18 : decode cX10_lotsOf 18 = .ok (.iaload, 1) := by decide +kernel
theorem dX10_lotsOf_19 : decode cX10_lotsOf 19 = .ok (.iconst 1, 1) := by decide +kernel
theorem dX10_lotsOf_20 : decode cX10_lotsOf 20 = .ok (.if_icmp .ne 17, 3) := by decide +kernel
theorem dX10_lotsOf_23 : decode cX10_lotsOf 23 = .ok (.aload_n 0, 1) := by decide +kernel
theorem dX10_lotsOf_24 : decode cX10_lotsOf 24 = .ok (.getfield 22, 3) := by decide +kernel
theorem dX10_lotsOf_27 : decode cX10_lotsOf 27 = .ok (.iload_n 3, 1) := by decide +kernel
theorem dX10_lotsOf_28 : decode cX10_lotsOf 28 = .ok (.iaload, 1) := by decide +kernel
theorem dX10_lotsOf_29 : decode cX10_lotsOf 29 = .ok (.iload_n 1, 1) := by decide +kernel
theorem dX10_lotsOf_30 : decode cX10_lotsOf 30 = .ok (.if_icmp .ne 7, 3) := by decide +kernel
theorem dX10_lotsOf_33 : decode cX10_lotsOf 33 = .ok (.iconst 1, 1) := by decide +kernel
theorem dX10_lotsOf_34 : decode cX10_lotsOf 34 = .ok (.goto 4, 3) := by decide +kernel
theorem dX10_lotsOf_37 : decode cX10_lotsOf 37 = .ok (.iconst 0, 1) := by decide +kernel
theorem dX10_lotsOf_38 : decode cX10_lotsOf 38 = .ok (.iadd, 1) := by decide +kernel
theorem dX10_lotsOf_39 : decode cX10_lotsOf 39 = .ok (.istore_n 2, 1) := by decide +kernel
theorem dX10_lotsOf_40 : decode cX10_lotsOf 40 = .ok (.iinc 3 1, 3) := by decide +kernel
theorem dX10_lotsOf_43 : decode cX10_lotsOf 43 = .ok (.goto (-39), 3) := by decide +kernel
theorem dX10_lotsOf_46 : decode cX10_lotsOf 46 = .ok (.iload_n 2, 1) := by decide +kernel
theorem dX10_lotsOf_47 : decode cX10_lotsOf 47 = .ok (.ireturn, 1) := by decide +kernel
theorem dX10_bidderOf_0 : decode cX10_bidderOf 0 = .ok (.aload_n 0, 1) := by decide +kernel
theorem dX10_bidderOf_1 : decode cX10_bidderOf 1 = .ok (.iload_n 1, 1) := by decide +kernel
theorem dX10_bidderOf_2 : decode cX10_bidderOf 2 = .ok (.invokevirtual 271, 3) := by decide +kernel
theorem dX10_bidderOf_5 : decode cX10_bidderOf 5 = .ok (.ifCond .eq 12, 3) := by decide +kernel
theorem dX10_bidderOf_8 : decode cX10_bidderOf 8 = .ok (.iload_n 2, 1) := by decide +kernel
theorem dX10_bidderOf_9 : decode cX10_bidderOf 9 = .ok (.iconst 0, 1) := by decide +kernel
theorem dX10_bidderOf_10 : decode cX10_bidderOf 10 = .ok (.iconst 4, 1) := by decide +kernel
theorem dX10_bidderOf_11 : decode cX10_bidderOf 11 = .ok (.invokestatic 120, 3) := by decide +kernel
theorem dX10_bidderOf_14 : decode cX10_bidderOf 14 = .ok (.ifCond .ne 5, 3) := by decide +kernel
theorem dX10_bidderOf_17 : decode cX10_bidderOf 17 = .ok (.iconst (-1), 1) := by decide +kernel
theorem dX10_bidderOf_18 : decode cX10_bidderOf 18 = .ok (.ireturn, 1) := by decide +kernel
theorem dX10_bidderOf_19 : decode cX10_bidderOf 19 = .ok (.iload_n 2, 1) := by decide +kernel
theorem dX10_bidderOf_20 : decode cX10_bidderOf 20 = .ok (.tableswitch 62 0 3 #[32, 39, 46, 53], 32) := by decide +kernel
theorem dX10_bidderOf_52 : decode cX10_bidderOf 52 = .ok (.aload_n 0, 1) := by decide +kernel
theorem dX10_bidderOf_53 : decode cX10_bidderOf 53 = .ok (.getfield 32, 3) := by decide +kernel
theorem dX10_bidderOf_56 : decode cX10_bidderOf 56 = .ok (.iload_n 1, 1) := by decide +kernel
theorem dX10_bidderOf_57 : decode cX10_bidderOf 57 = .ok (.iaload, 1) := by decide +kernel
theorem dX10_bidderOf_58 : decode cX10_bidderOf 58 = .ok (.ireturn, 1) := by decide +kernel
theorem dX10_bidderOf_59 : decode cX10_bidderOf 59 = .ok (.aload_n 0, 1) := by decide +kernel
theorem dX10_bidderOf_60 : decode cX10_bidderOf 60 = .ok (.getfield 35, 3) := by decide +kernel
theorem dX10_bidderOf_63 : decode cX10_bidderOf 63 = .ok (.iload_n 1, 1) := by decide +kernel
theorem dX10_bidderOf_64 : decode cX10_bidderOf 64 = .ok (.iaload, 1) := by decide +kernel
theorem dX10_bidderOf_65 : decode cX10_bidderOf 65 = .ok (.ireturn, 1) := by decide +kernel
theorem dX10_bidderOf_66 : decode cX10_bidderOf 66 = .ok (.aload_n 0, 1) := by decide +kernel
theorem dX10_bidderOf_67 : decode cX10_bidderOf 67 = .ok (.getfield 38, 3) := by decide +kernel
theorem dX10_bidderOf_70 : decode cX10_bidderOf 70 = .ok (.iload_n 1, 1) := by decide +kernel
theorem dX10_bidderOf_71 : decode cX10_bidderOf 71 = .ok (.iaload, 1) := by decide +kernel
theorem dX10_bidderOf_72 : decode cX10_bidderOf 72 = .ok (.ireturn, 1) := by decide +kernel
theorem dX10_bidderOf_73 : decode cX10_bidderOf 73 = .ok (.aload_n 0, 1) := by decide +kernel
theorem dX10_bidderOf_74 : decode cX10_bidderOf 74 = .ok (.getfield 41, 3) := by decide +kernel
theorem dX10_bidderOf_77 : decode cX10_bidderOf 77 = .ok (.iconst 5, 1) := by decide +kernel
theorem dX10_bidderOf_78 : decode cX10_bidderOf 78 = .ok (.iload_n 1, 1) := by decide +kernel
theorem dX10_bidderOf_79 : decode cX10_bidderOf 79 = .ok (.iadd, 1) := by decide +kernel
theorem dX10_bidderOf_80 : decode cX10_bidderOf 80 = .ok (.iaload, 1) := by decide +kernel
theorem dX10_bidderOf_81 : decode cX10_bidderOf 81 = .ok (.ireturn, 1) := by decide +kernel
theorem dX10_bidderOf_82 : decode cX10_bidderOf 82 = .ok (.aload_n 0, 1) := by decide +kernel
theorem dX10_bidderOf_83 : decode cX10_bidderOf 83 = .ok (.iload_n 1, 1) := by decide +kernel
theorem dX10_bidderOf_84 : decode cX10_bidderOf 84 = .ok (.invokevirtual 274, 3) := by decide +kernel
theorem dX10_bidderOf_87 : decode cX10_bidderOf 87 = .ok (.ireturn, 1) := by decide +kernel
theorem dX10_mind_0 : decode cX10_mind 0 = .ok (.aload_n 0, 1) := by decide +kernel
theorem dX10_mind_1 : decode cX10_mind 1 = .ok (.iload_n 1, 1) := by decide +kernel
theorem dX10_mind_2 : decode cX10_mind 2 = .ok (.invokevirtual 271, 3) := by decide +kernel
theorem dX10_mind_5 : decode cX10_mind 5 = .ok (.ifCond .eq 22, 3) := by decide +kernel
theorem dX10_mind_8 : decode cX10_mind 8 = .ok (.iload_n 2, 1) := by decide +kernel
theorem dX10_mind_9 : decode cX10_mind 9 = .ok (.iconst 0, 1) := by decide +kernel
theorem dX10_mind_10 : decode cX10_mind 10 = .ok (.iconst 5, 1) := by decide +kernel
theorem dX10_mind_11 : decode cX10_mind 11 = .ok (.invokestatic 120, 3) := by decide +kernel
theorem dX10_mind_14 : decode cX10_mind 14 = .ok (.ifCond .eq 13, 3) := by decide +kernel
theorem dX10_mind_17 : decode cX10_mind 17 = .ok (.iload_n 3, 1) := by decide +kernel
theorem dX10_mind_18 : decode cX10_mind 18 = .ok (.iconst 0, 1) := by decide +kernel
theorem dX10_mind_19 : decode cX10_mind 19 = .ok (.bipush 9, 2) := by decide +kernel
theorem dX10_mind_21 : decode cX10_mind 21 = .ok (.invokestatic 120, 3) := by decide +kernel
theorem dX10_mind_24 : decode cX10_mind 24 = .ok (.ifCond .ne 5, 3) := by decide +kernel
theorem dX10_mind_27 : decode cX10_mind 27 = .ok (.iconst (-1), 1) := by decide +kernel
theorem dX10_mind_28 : decode cX10_mind 28 = .ok (.ireturn, 1) := by decide +kernel
theorem dX10_mind_29 : decode cX10_mind 29 = .ok (.aload_n 0, 1) := by decide +kernel
theorem dX10_mind_30 : decode cX10_mind 30 = .ok (.getfield 32, 3) := by decide +kernel
theorem dX10_mind_33 : decode cX10_mind 33 = .ok (.iload_n 1, 1) := by decide +kernel
theorem dX10_mind_34 : decode cX10_mind 34 = .ok (.iaload, 1) := by decide +kernel
theorem dX10_mind_35 : decode cX10_mind 35 = .ok (.istore 4, 2) := by decide +kernel
theorem dX10_mind_37 : decode cX10_mind 37 = .ok (.aload_n 0, 1) := by decide +kernel
theorem dX10_mind_38 : decode cX10_mind 38 = .ok (.getfield 32, 3) := by decide +kernel
theorem dX10_mind_41 : decode cX10_mind 41 = .ok (.iload_n 1, 1) := by decide +kernel
theorem dX10_mind_42 : decode cX10_mind 42 = .ok (.iload_n 2, 1) := by decide +kernel
theorem dX10_mind_43 : decode cX10_mind 43 = .ok (.iastore, 1) := by decide +kernel
theorem dX10_mind_44 : decode cX10_mind 44 = .ok (.aload_n 0, 1) := by decide +kernel
theorem dX10_mind_45 : decode cX10_mind 45 = .ok (.getfield 35, 3) := by decide +kernel
theorem dX10_mind_48 : decode cX10_mind 48 = .ok (.iload_n 1, 1) := by decide +kernel
theorem dX10_mind_49 : decode cX10_mind 49 = .ok (.iload_n 3, 1) := by decide +kernel
theorem dX10_mind_50 : decode cX10_mind 50 = .ok (.iastore, 1) := by decide +kernel
theorem dX10_mind_51 : decode cX10_mind 51 = .ok (.iload 4, 2) := by decide +kernel
theorem dX10_mind_53 : decode cX10_mind 53 = .ok (.ireturn, 1) := by decide +kernel
theorem dX10_purse_0 : decode cX10_purse 0 = .ok (.aload_n 0, 1) := by decide +kernel
theorem dX10_purse_1 : decode cX10_purse 1 = .ok (.iload_n 1, 1) := by decide +kernel
theorem dX10_purse_2 : decode cX10_purse 2 = .ok (.invokevirtual 271, 3) := by decide +kernel
theorem dX10_purse_5 : decode cX10_purse 5 = .ok (.ifCond .eq 31, 3) := by decide +kernel
theorem dX10_purse_8 : decode cX10_purse 8 = .ok (.iload_n 2, 1) := by decide +kernel
theorem dX10_purse_9 : decode cX10_purse 9 = .ok (.invokestatic 265, 3) := by decide +kernel
theorem dX10_purse_12 : decode cX10_purse 12 = .ok (.ifCond .eq 24, 3) := by decide +kernel
theorem dX10_purse_15 : decode cX10_purse 15 = .ok (.iload_n 3, 1) := by decide +kernel
theorem dX10_purse_16 : decode cX10_purse 16 = .ok (.iconst 0, 1) := by decide +kernel
theorem dX10_purse_17 : decode cX10_purse 17 = .ok (.iload_n 2, 1) := by decide +kernel
theorem dX10_purse_18 : decode cX10_purse 18 = .ok (.ifCond .ne 9, 3) := by decide +kernel
theorem dX10_purse_21 : decode cX10_purse 21 = .ok (.sipush 999, 3) := by decide +kernel
theorem dX10_purse_24 : decode cX10_purse 24 = .ok (.goto 6, 3) := by decide +kernel
theorem dX10_purse_27 : decode cX10_purse 27 = .ok (.sipush 9999, 3) := by decide +kernel
theorem dX10_purse_30 : decode cX10_purse 30 = .ok (.invokestatic 120, 3) := by decide +kernel
theorem dX10_purse_33 : decode cX10_purse 33 = .ok (.ifCond .ne 5, 3) := by decide +kernel
theorem dX10_purse_36 : decode cX10_purse 36 = .ok (.iconst (-1), 1) := by decide +kernel
theorem dX10_purse_37 : decode cX10_purse 37 = .ok (.ireturn, 1) := by decide +kernel
theorem dX10_purse_38 : decode cX10_purse 38 = .ok (.iload_n 2, 1) := by decide +kernel
theorem dX10_purse_39 : decode cX10_purse 39 = .ok (.ifCond .ne 12, 3) := by decide +kernel
theorem dX10_purse_42 : decode cX10_purse 42 = .ok (.aload_n 0, 1) := by decide +kernel
theorem dX10_purse_43 : decode cX10_purse 43 = .ok (.getfield 38, 3) := by decide +kernel
theorem dX10_purse_46 : decode cX10_purse 46 = .ok (.iload_n 1, 1) := by decide +kernel
theorem dX10_purse_47 : decode cX10_purse 47 = .ok (.iaload, 1) := by decide +kernel
theorem dX10_purse_48 : decode cX10_purse 48 = .ok (.goto 11, 3) := by decide +kernel
theorem dX10_purse_51 : decode cX10_purse 51 = .ok (.aload_n 0, 1) := by decide +kernel
theorem dX10_purse_52 : decode cX10_purse 52 = .ok (.getfield 41, 3) := by decide +kernel
theorem dX10_purse_55 : decode cX10_purse 55 = .ok (.iconst 5, 1) := by decide +kernel
theorem dX10_purse_56 : decode cX10_purse 56 = .ok (.iload_n 1, 1) := by decide +kernel
theorem dX10_purse_57 : decode cX10_purse 57 = .ok (.iadd, 1) := by decide +kernel
theorem dX10_purse_58 : decode cX10_purse 58 = .ok (.iaload, 1) := by decide +kernel
theorem dX10_purse_59 : decode cX10_purse 59 = .ok (.istore 4, 2) := by decide +kernel
theorem dX10_purse_61 : decode cX10_purse 61 = .ok (.iload_n 2, 1) := by decide +kernel
theorem dX10_purse_62 : decode cX10_purse 62 = .ok (.ifCond .ne 13, 3) := by decide +kernel
theorem dX10_purse_65 : decode cX10_purse 65 = .ok (.aload_n 0, 1) := by decide +kernel
theorem dX10_purse_66 : decode cX10_purse 66 = .ok (.getfield 38, 3) := by decide +kernel
theorem dX10_purse_69 : decode cX10_purse 69 = .ok (.iload_n 1, 1) := by decide +kernel
theorem dX10_purse_70 : decode cX10_purse 70 = .ok (.iload_n 3, 1) := by decide +kernel
theorem dX10_purse_71 : decode cX10_purse 71 = .ok (.iastore, 1) := by decide +kernel
theorem dX10_purse_72 : decode cX10_purse 72 = .ok (.goto 12, 3) := by decide +kernel
theorem dX10_purse_75 : decode cX10_purse 75 = .ok (.aload_n 0, 1) := by decide +kernel
theorem dX10_purse_76 : decode cX10_purse 76 = .ok (.getfield 41, 3) := by decide +kernel
theorem dX10_purse_79 : decode cX10_purse 79 = .ok (.iconst 5, 1) := by decide +kernel
theorem dX10_purse_80 : decode cX10_purse 80 = .ok (.iload_n 1, 1) := by decide +kernel
theorem dX10_purse_81 : decode cX10_purse 81 = .ok (.iadd, 1) := by decide +kernel
theorem dX10_purse_82 : decode cX10_purse 82 = .ok (.iload_n 3, 1) := by decide +kernel
theorem dX10_purse_83 : decode cX10_purse 83 = .ok (.iastore, 1) := by decide +kernel
theorem dX10_purse_84 : decode cX10_purse 84 = .ok (.iload 4, 2) := by decide +kernel
theorem dX10_purse_86 : decode cX10_purse 86 = .ok (.ireturn, 1) := by decide +kernel
theorem dX10_limitOf_0 : decode cX10_limitOf 0 = .ok (.aload_n 0, 1) := by decide +kernel
theorem dX10_limitOf_1 : decode cX10_limitOf 1 = .ok (.getfield 38, 3) := by decide +kernel
theorem dX10_limitOf_4 : decode cX10_limitOf 4 = .ok (.iload_n 1, 1) := by decide +kernel
theorem dX10_limitOf_5 : decode cX10_limitOf 5 = .ok (.iaload, 1) := by decide +kernel
theorem dX10_limitOf_6 : decode cX10_limitOf 6 = .ok (.aload_n 0, 1) := by decide +kernel
theorem dX10_limitOf_7 : decode cX10_limitOf 7 = .ok (.getfield 13, 3) := by decide +kernel
theorem dX10_limitOf_10 : decode cX10_limitOf 10 = .ok (.iload_n 2, 1) := by decide +kernel
theorem dX10_limitOf_11 : decode cX10_limitOf 11 = .ok (.iaload, 1) := by decide +kernel
theorem dX10_limitOf_12 : decode cX10_limitOf 12 = .ok (.imul, 1) := by decide +kernel
theorem dX10_limitOf_13 : decode cX10_limitOf 13 = .ok (.bipush 100, 2) := by decide +kernel
theorem dX10_limitOf_15 : decode cX10_limitOf 15 = .ok (.idiv, 1) := by decide +kernel
theorem dX10_limitOf_16 : decode cX10_limitOf 16 = .ok (.istore_n 3, 1) := by decide +kernel
theorem dX10_limitOf_17 : decode cX10_limitOf 17 = .ok (.iload_n 3, 1) := by decide +kernel
theorem dX10_limitOf_18 : decode cX10_limitOf 18 = .ok (.aload_n 0, 1) := by decide +kernel
theorem dX10_limitOf_19 : decode cX10_limitOf 19 = .ok (.iconst 5, 1) := by decide +kernel
theorem dX10_limitOf_20 : decode cX10_limitOf 20 = .ok (.iload_n 1, 1) := by decide +kernel
theorem dX10_limitOf_21 : decode cX10_limitOf 21 = .ok (.iadd, 1) := by decide +kernel
theorem dX10_limitOf_22 : decode cX10_limitOf 22 = .ok (.invokevirtual 277, 3) := by decide +kernel
theorem dX10_limitOf_25 : decode cX10_limitOf 25 = .ok (.if_icmp .ge 7, 3) := by decide +kernel
theorem dX10_limitOf_28 : decode cX10_limitOf 28 = .ok (.iload_n 3, 1) := by decide +kernel
theorem dX10_limitOf_29 : decode cX10_limitOf 29 = .ok (.goto 10, 3) := by decide +kernel
theorem dX10_limitOf_32 : decode cX10_limitOf 32 = .ok (.aload_n 0, 1) := by decide +kernel
theorem dX10_limitOf_33 : decode cX10_limitOf 33 = .ok (.iconst 5, 1) := by decide +kernel
theorem dX10_limitOf_34 : decode cX10_limitOf 34 = .ok (.iload_n 1, 1) := by decide +kernel
theorem dX10_limitOf_35 : decode cX10_limitOf 35 = .ok (.iadd, 1) := by decide +kernel
theorem dX10_limitOf_36 : decode cX10_limitOf 36 = .ok (.invokevirtual 277, 3) := by decide +kernel
theorem dX10_limitOf_39 : decode cX10_limitOf 39 = .ok (.istore 4, 2) := by decide +kernel
theorem dX10_limitOf_41 : decode cX10_limitOf 41 = .ok (.aload_n 0, 1) := by decide +kernel
theorem dX10_limitOf_42 : decode cX10_limitOf 42 = .ok (.getfield 32, 3) := by decide +kernel
theorem dX10_limitOf_45 : decode cX10_limitOf 45 = .ok (.iload_n 1, 1) := by decide +kernel
theorem dX10_limitOf_46 : decode cX10_limitOf 46 = .ok (.iaload, 1) := by decide +kernel
theorem dX10_limitOf_47 : decode cX10_limitOf 47 = .ok (.iconst 4, 1) := by decide +kernel
theorem dX10_limitOf_48 : decode cX10_limitOf 48 = .ok (.if_icmp .ne 14, 3) := by decide +kernel
theorem dX10_limitOf_51 : decode cX10_limitOf 51 = .ok (.bipush 9, 2) := by decide +kernel
theorem dX10_limitOf_53 : decode cX10_limitOf 53 = .ok (.iload 4, 2) := by decide +kernel
theorem dX10_limitOf_55 : decode cX10_limitOf 55 = .ok (.imul, 1) := by decide +kernel
theorem dX10_limitOf_56 : decode cX10_limitOf 56 = .ok (.bipush 10, 2) := by decide +kernel
theorem dX10_limitOf_58 : decode cX10_limitOf 58 = .ok (.idiv, 1) := by decide +kernel
theorem dX10_limitOf_59 : decode cX10_limitOf 59 = .ok (.goto 5, 3) := by decide +kernel
theorem dX10_limitOf_62 : decode cX10_limitOf 62 = .ok (.iload 4, 2) := by decide +kernel
theorem dX10_limitOf_64 : decode cX10_limitOf 64 = .ok (.ireturn, 1) := by decide +kernel
theorem dX10_limit_0 : decode cX10_limit 0 = .ok (.aload_n 0, 1) := by decide +kernel
theorem dX10_limit_1 : decode cX10_limit 1 = .ok (.iload_n 1, 1) := by decide +kernel
theorem dX10_limit_2 : decode cX10_limit 2 = .ok (.invokevirtual 271, 3) := by decide +kernel
theorem dX10_limit_5 : decode cX10_limit 5 = .ok (.ifCond .eq 20, 3) := by decide +kernel
theorem dX10_limit_8 : decode cX10_limit 8 = .ok (.aload_n 0, 1) := by decide +kernel
theorem dX10_limit_9 : decode cX10_limit 9 = .ok (.iload_n 2, 1) := by decide +kernel
theorem dX10_limit_10 : decode cX10_limit 10 = .ok (.invokevirtual 124, 3) := by decide +kernel
theorem dX10_limit_13 : decode cX10_limit 13 = .ok (.ifCond .eq 12, 3) := by decide +kernel
theorem dX10_limit_16 : decode cX10_limit 16 = .ok (.aload_n 0, 1) := by decide +kernel
theorem dX10_limit_17 : decode cX10_limit 17 = .ok (.iload_n 1, 1) := by decide +kernel
theorem dX10_limit_18 : decode cX10_limit 18 = .ok (.iload_n 2, 1) := by decide +kernel
theorem dX10_limit_19 : decode cX10_limit 19 = .ok (.invokevirtual 280, 3) := by decide +kernel
theorem dX10_limit_22 : decode cX10_limit 22 = .ok (.goto 4, 3) := by decide +kernel
theorem dX10_limit_25 : decode cX10_limit 25 = .ok (.iconst (-1), 1) := by decide +kernel
theorem dX10_limit_26 : decode cX10_limit 26 = .ok (.ireturn, 1) := by decide +kernel
theorem dX10_burns_0 : decode cX10_burns 0 = .ok (.iconst 1, 1) := by decide +kernel
theorem dX10_burns_1 : decode cX10_burns 1 = .ok (.aload_n 0, 1) := by decide +kernel
theorem dX10_burns_2 : decode cX10_burns 2 = .ok (.getfield 25, 3) := by decide +kernel
theorem dX10_burns_5 : decode cX10_burns 5 = .ok (.aload_n 0, 1) := by decide +kernel
theorem dX10_burns_6 : decode cX10_burns 6 = .ok (.iconst 1, 1) := by decide +kernel
theorem dX10_burns_7 : decode cX10_burns 7 = .ok (.invokevirtual 277, 3) := by decide +kernel
theorem dX10_burns_10 : decode cX10_burns 10 = .ok (.bipush 12, 2) := by decide +kernel
theorem dX10_burns_12 : decode cX10_burns 12 = .ok (.irem, 1) := by decide +kernel
theorem dX10_burns_13 : decode cX10_burns 13 = .ok (.iaload, 1) := by decide +kernel
theorem dX10_burns_14 : decode cX10_burns 14 = .ok (.iadd, 1) := by decide +kernel
theorem dX10_burns_15 : decode cX10_burns 15 = .ok (.ireturn, 1) := by decide +kernel
theorem dX10_leftOf_0 : decode cX10_leftOf 0 = .ok (.aload_n 0, 1) := by decide +kernel
theorem dX10_leftOf_1 : decode cX10_leftOf 1 = .ok (.getfield 7, 3) := by decide +kernel
theorem dX10_leftOf_4 : decode cX10_leftOf 4 = .ok (.aload_n 0, 1) := by decide +kernel
theorem dX10_leftOf_5 : decode cX10_leftOf 5 = .ok (.iconst 0, 1) := by decide +kernel
theorem dX10_leftOf_6 : decode cX10_leftOf 6 = .ok (.invokevirtual 277, 3) := by decide +kernel
theorem dX10_leftOf_9 : decode cX10_leftOf 9 = .ok (.iaload, 1) := by decide +kernel
theorem dX10_leftOf_10 : decode cX10_leftOf 10 = .ok (.aload_n 0, 1) := by decide +kernel
theorem dX10_leftOf_11 : decode cX10_leftOf 11 = .ok (.iconst 2, 1) := by decide +kernel
theorem dX10_leftOf_12 : decode cX10_leftOf 12 = .ok (.invokevirtual 277, 3) := by decide +kernel
theorem dX10_leftOf_15 : decode cX10_leftOf 15 = .ok (.isub, 1) := by decide +kernel
theorem dX10_leftOf_16 : decode cX10_leftOf 16 = .ok (.ireturn, 1) := by decide +kernel
theorem dX10_isInTurn_0 : decode cX10_isInTurn 0 = .ok (.aload_n 0, 1) := by decide +kernel
theorem dX10_isInTurn_1 : decode cX10_isInTurn 1 = .ok (.iconst 1, 1) := by decide +kernel
theorem dX10_isInTurn_2 : decode cX10_isInTurn 2 = .ok (.invokevirtual 277, 3) := by decide +kernel
theorem dX10_isInTurn_5 : decode cX10_isInTurn 5 = .ok (.aload_n 0, 1) := by decide +kernel
theorem dX10_isInTurn_6 : decode cX10_isInTurn 6 = .ok (.getfield 35, 3) := by decide +kernel
theorem dX10_isInTurn_9 : decode cX10_isInTurn 9 = .ok (.iload_n 1, 1) := by decide +kernel
theorem dX10_isInTurn_10 : decode cX10_isInTurn 10 = .ok (.iaload, 1) := by decide +kernel
theorem dX10_isInTurn_11 : decode cX10_isInTurn 11 = .ok (.iconst 1, 1) := by decide +kernel
theorem dX10_isInTurn_12 : decode cX10_isInTurn 12 = .ok (.iadd, 1) := by decide +kernel
theorem dX10_isInTurn_13 : decode cX10_isInTurn 13 = .ok (.irem, 1) := by decide +kernel
theorem dX10_isInTurn_14 : decode cX10_isInTurn 14 = .ok (.ifCond .ne 7, 3) := by decide +kernel
theorem dX10_isInTurn_17 : decode cX10_isInTurn 17 = .ok (.iconst 1, 1) := by decide +kernel
theorem dX10_isInTurn_18 : decode cX10_isInTurn 18 = .ok (.goto 4, 3) := by decide +kernel
theorem dX10_isInTurn_21 : decode cX10_isInTurn 21 = .ok (.iconst 0, 1) := by decide +kernel
theorem dX10_isInTurn_22 : decode cX10_isInTurn 22 = .ok (.ireturn, 1) := by decide +kernel
theorem dX10_isTime_0 : decode cX10_isTime 0 = .ok (.aload_n 0, 1) := by decide +kernel
theorem dX10_isTime_1 : decode cX10_isTime 1 = .ok (.getfield 32, 3) := by decide +kernel
theorem dX10_isTime_4 : decode cX10_isTime 4 = .ok (.iload_n 1, 1) := by decide +kernel
theorem dX10_isTime_5 : decode cX10_isTime 5 = .ok (.iaload, 1) := by decide +kernel
theorem dX10_isTime_6 : decode cX10_isTime 6 = .ok (.tableswitch 117 1 5 #[34, 117, 63, 117, 100], 34) := by decide +kernel
theorem dX10_isTime_40 : decode cX10_isTime 40 = .ok (.aload_n 0, 1) := by decide +kernel
theorem dX10_isTime_41 : decode cX10_isTime 41 = .ok (.iload_n 1, 1) := by decide +kernel
theorem dX10_isTime_42 : decode cX10_isTime 42 = .ok (.invokevirtual 283, 3) := by decide +kernel
theorem dX10_isTime_45 : decode cX10_isTime 45 = .ok (.ifCond .eq 22, 3) := by decide +kernel
theorem dX10_isTime_48 : decode cX10_isTime 48 = .ok (.aload_n 0, 1) := by decide +kernel
theorem dX10_isTime_49 : decode cX10_isTime 49 = .ok (.invokevirtual 286, 3) := by decide +kernel
theorem dX10_isTime_52 : decode cX10_isTime 52 = .ok (.iconst 3, 1) := by decide +kernel
theorem dX10_isTime_53 : decode cX10_isTime 53 = .ok (.aload_n 0, 1) := by decide +kernel
theorem dX10_isTime_54 : decode cX10_isTime 54 = .ok (.getfield 35, 3) := by decide +kernel
theorem dX10_isTime_57 : decode cX10_isTime 57 = .ok (.iload_n 1, 1) := by decide +kernel
theorem dX10_isTime_58 : decode cX10_isTime 58 = .ok (.iaload, 1) := by decide +kernel
theorem dX10_isTime_59 : decode cX10_isTime 59 = .ok (.imul, 1) := by decide +kernel
theorem dX10_isTime_60 : decode cX10_isTime 60 = .ok (.if_icmp .gt 7, 3) := by decide +kernel
theorem dX10_isTime_63 : decode cX10_isTime 63 = .ok (.iconst 1, 1) := by decide +kernel
theorem dX10_isTime_64 : decode cX10_isTime 64 = .ok (.goto 4, 3) := by decide +kernel
theorem dX10_isTime_67 : decode cX10_isTime 67 = .ok (.iconst 0, 1) := by decide +kernel
theorem dX10_isTime_68 : decode cX10_isTime 68 = .ok (.ireturn, 1) := by decide +kernel
theorem dX10_isTime_69 : decode cX10_isTime 69 = .ok (.aload_n 0, 1) := by decide +kernel
theorem dX10_isTime_70 : decode cX10_isTime 70 = .ok (.iload_n 1, 1) := by decide +kernel
theorem dX10_isTime_71 : decode cX10_isTime 71 = .ok (.invokevirtual 283, 3) := by decide +kernel
theorem dX10_isTime_74 : decode cX10_isTime 74 = .ok (.ifCond .eq 30, 3) := by decide +kernel
theorem dX10_isTime_77 : decode cX10_isTime 77 = .ok (.aload_n 0, 1) := by decide +kernel
theorem dX10_isTime_78 : decode cX10_isTime 78 = .ok (.invokevirtual 286, 3) := by decide +kernel
theorem dX10_isTime_81 : decode cX10_isTime 81 = .ok (.iconst 3, 1) := by decide +kernel
theorem dX10_isTime_82 : decode cX10_isTime 82 = .ok (.aload_n 0, 1) := by decide +kernel
theorem dX10_isTime_83 : decode cX10_isTime 83 = .ok (.getfield 35, 3) := by decide +kernel
theorem dX10_isTime_86 : decode cX10_isTime 86 = .ok (.iload_n 1, 1) := by decide +kernel
theorem dX10_isTime_87 : decode cX10_isTime 87 = .ok (.iaload, 1) := by decide +kernel
theorem dX10_isTime_88 : decode cX10_isTime 88 = .ok (.imul, 1) := by decide +kernel
theorem dX10_isTime_89 : decode cX10_isTime 89 = .ok (.if_icmp .gt 15, 3) := by decide +kernel
theorem dX10_isTime_92 : decode cX10_isTime 92 = .ok (.aload_n 0, 1) := by decide +kernel
theorem dX10_isTime_93 : decode cX10_isTime 93 = .ok (.iconst 3, 1) := by decide +kernel
theorem dX10_isTime_94 : decode cX10_isTime 94 = .ok (.invokevirtual 277, 3) := by decide +kernel
theorem dX10_isTime_97 : decode cX10_isTime 97 = .ok (.ifCond .le 7, 3) := by decide +kernel
theorem dX10_isTime_100 : decode cX10_isTime 100 = .ok (.iconst 1, 1) := by decide +kernel
theorem dX10_isTime_101 : decode cX10_isTime 101 = .ok (.goto 4, 3) := by decide +kernel
theorem dX10_isTime_104 : decode cX10_isTime 104 = .ok (.iconst 0, 1) := by decide +kernel
theorem dX10_isTime_105 : decode cX10_isTime 105 = .ok (.ireturn, 1) := by decide +kernel
theorem dX10_isTime_106 : decode cX10_isTime 106 = .ok (.aload_n 0, 1) := by decide +kernel
theorem dX10_isTime_107 : decode cX10_isTime 107 = .ok (.invokevirtual 286, 3) := by decide +kernel
theorem dX10_isTime_110 : decode cX10_isTime 110 = .ok (.aload_n 0, 1) := by decide +kernel
theorem dX10_isTime_111 : decode cX10_isTime 111 = .ok (.invokevirtual 289, 3) := by decide +kernel
theorem dX10_isTime_114 : decode cX10_isTime 114 = .ok (.if_icmp .gt 7, 3) := by decide +kernel
theorem dX10_isTime_117 : decode cX10_isTime 117 = .ok (.iconst 1, 1) := by decide +kernel
theorem dX10_isTime_118 : decode cX10_isTime 118 = .ok (.goto 4, 3) := by decide +kernel
theorem dX10_isTime_121 : decode cX10_isTime 121 = .ok (.iconst 0, 1) := by decide +kernel
theorem dX10_isTime_122 : decode cX10_isTime 122 = .ok (.ireturn, 1) := by decide +kernel
theorem dX10_isTime_123 : decode cX10_isTime 123 = .ok (.aload_n 0, 1) := by decide +kernel
theorem dX10_isTime_124 : decode cX10_isTime 124 = .ok (.iload_n 1, 1) := by decide +kernel
theorem dX10_isTime_125 : decode cX10_isTime 125 = .ok (.invokevirtual 283, 3) := by decide +kernel
theorem dX10_isTime_128 : decode cX10_isTime 128 = .ok (.ireturn, 1) := by decide +kernel
theorem dX10_callOf_0 : decode cX10_callOf 0 = .ok (.aload_n 0, 1) := by decide +kernel
theorem dX10_callOf_1 : decode cX10_callOf 1 = .ok (.getfield 32, 3) := by decide +kernel
theorem dX10_callOf_4 : decode cX10_callOf 4 = .ok (.iload_n 1, 1) := by decide +kernel
theorem dX10_callOf_5 : decode cX10_callOf 5 = .ok (.iaload, 1) := by decide +kernel
theorem dX10_callOf_6 : decode cX10_callOf 6 = .ok (.iconst 2, 1) := by decide +kernel
theorem dX10_callOf_7 : decode cX10_callOf 7 = .ok (.if_icmp .eq 13, 3) := by decide +kernel
theorem dX10_callOf_10 : decode cX10_callOf 10 = .ok (.aload_n 0, 1) := by decide +kernel
theorem dX10_callOf_11 : decode cX10_callOf 11 = .ok (.getfield 32, 3) := by decide +kernel
theorem dX10_callOf_14 : decode cX10_callOf 14 = .ok (.iload_n 1, 1) := by decide +kernel
theorem dX10_callOf_15 : decode cX10_callOf 15 = .ok (.iaload, 1) := by decide +kernel
theorem dX10_callOf_16 : decode cX10_callOf 16 = .ok (.iconst 4, 1) := by decide +kernel
theorem dX10_callOf_17 : decode cX10_callOf 17 = .ok (.if_icmp .ne 19, 3) := by decide +kernel
theorem dX10_callOf_20 : decode cX10_callOf 20 = .ok (.iconst 2, 1) := by decide +kernel
theorem dX10_callOf_21 : decode cX10_callOf 21 = .ok (.aload_n 0, 1) := by decide +kernel
theorem dX10_callOf_22 : decode cX10_callOf 22 = .ok (.getfield 28, 3) := by decide +kernel
theorem dX10_callOf_25 : decode cX10_callOf 25 = .ok (.imul, 1) := by decide +kernel
theorem dX10_callOf_26 : decode cX10_callOf 26 = .ok (.aload_n 0, 1) := by decide +kernel
theorem dX10_callOf_27 : decode cX10_callOf 27 = .ok (.getfield 35, 3) := by decide +kernel
theorem dX10_callOf_30 : decode cX10_callOf 30 = .ok (.iload_n 1, 1) := by decide +kernel
theorem dX10_callOf_31 : decode cX10_callOf 31 = .ok (.iaload, 1) := by decide +kernel
theorem dX10_callOf_32 : decode cX10_callOf 32 = .ok (.iadd, 1) := by decide +kernel
theorem dX10_callOf_33 : decode cX10_callOf 33 = .ok (.goto 7, 3) := by decide +kernel
theorem dX10_callOf_36 : decode cX10_callOf 36 = .ok (.aload_n 0, 1) := by decide +kernel
theorem dX10_callOf_37 : decode cX10_callOf 37 = .ok (.getfield 28, 3) := by decide +kernel
theorem dX10_callOf_40 : decode cX10_callOf 40 = .ok (.istore_n 2, 1) := by decide +kernel
theorem dX10_callOf_41 : decode cX10_callOf 41 = .ok (.aload_n 0, 1) := by decide +kernel
theorem dX10_callOf_42 : decode cX10_callOf 42 = .ok (.iconst 3, 1) := by decide +kernel
theorem dX10_callOf_43 : decode cX10_callOf 43 = .ok (.invokevirtual 277, 3) := by decide +kernel
theorem dX10_callOf_46 : decode cX10_callOf 46 = .ok (.iload_n 2, 1) := by decide +kernel
theorem dX10_callOf_47 : decode cX10_callOf 47 = .ok (.iadd, 1) := by decide +kernel
theorem dX10_callOf_48 : decode cX10_callOf 48 = .ok (.istore_n 3, 1) := by decide +kernel
theorem dX10_callOf_49 : decode cX10_callOf 49 = .ok (.aload_n 0, 1) := by decide +kernel
theorem dX10_callOf_50 : decode cX10_callOf 50 = .ok (.iconst 4, 1) := by decide +kernel
theorem dX10_callOf_51 : decode cX10_callOf 51 = .ok (.invokevirtual 277, 3) := by decide +kernel
theorem dX10_callOf_54 : decode cX10_callOf 54 = .ok (.iload_n 1, 1) := by decide +kernel
theorem dX10_callOf_55 : decode cX10_callOf 55 = .ok (.if_icmp .eq 29, 3) := by decide +kernel
theorem dX10_callOf_58 : decode cX10_callOf 58 = .ok (.iload_n 3, 1) := by decide +kernel
theorem dX10_callOf_59 : decode cX10_callOf 59 = .ok (.aload_n 0, 1) := by decide +kernel
theorem dX10_callOf_60 : decode cX10_callOf 60 = .ok (.iload_n 1, 1) := by decide +kernel
theorem dX10_callOf_61 : decode cX10_callOf 61 = .ok (.aload_n 0, 1) := by decide +kernel
theorem dX10_callOf_62 : decode cX10_callOf 62 = .ok (.iconst 0, 1) := by decide +kernel
theorem dX10_callOf_63 : decode cX10_callOf 63 = .ok (.invokevirtual 277, 3) := by decide +kernel
theorem dX10_callOf_66 : decode cX10_callOf 66 = .ok (.invokevirtual 280, 3) := by decide +kernel
theorem dX10_callOf_69 : decode cX10_callOf 69 = .ok (.if_icmp .gt 15, 3) := by decide +kernel
theorem dX10_callOf_72 : decode cX10_callOf 72 = .ok (.aload_n 0, 1) := by decide +kernel
theorem dX10_callOf_73 : decode cX10_callOf 73 = .ok (.iload_n 1, 1) := by decide +kernel
theorem dX10_callOf_74 : decode cX10_callOf 74 = .ok (.invokevirtual 292, 3) := by decide +kernel
theorem dX10_callOf_77 : decode cX10_callOf 77 = .ok (.ifCond .eq 7, 3) := by decide +kernel
theorem dX10_callOf_80 : decode cX10_callOf 80 = .ok (.iload_n 3, 1) := by decide +kernel
theorem dX10_callOf_81 : decode cX10_callOf 81 = .ok (.goto 4, 3) := by decide +kernel
theorem dX10_callOf_84 : decode cX10_callOf 84 = .ok (.iconst 0, 1) := by decide +kernel
theorem dX10_callOf_85 : decode cX10_callOf 85 = .ok (.ireturn, 1) := by decide +kernel
theorem dX10_notes_0 : decode cX10_notes 0 = .ok (.aload_n 0, 1) := by decide +kernel
theorem dX10_notes_1 : decode cX10_notes 1 = .ok (.getfield 295, 3) := by decide +kernel
theorem dX10_notes_4 : decode cX10_notes 4 = .ok (.bipush 20, 2) := by decide +kernel
theorem dX10_notes_6 : decode cX10_notes 6 = .ok (.if_icmp .ge 57, 3) := by decide +kernel
theorem dX10_notes_9 : decode cX10_notes 9 = .ok (.aload_n 0, 1) := by decide +kernel
theorem dX10_notes_10 : decode cX10_notes 10 = .ok (.getfield 74, 3) := by decide +kernel
theorem dX10_notes_13 : decode cX10_notes 13 = .ok (.iconst 3, 1) := by decide +kernel
theorem dX10_notes_14 : decode cX10_notes 14 = .ok (.aload_n 0, 1) := by decide +kernel
theorem dX10_notes_15 : decode cX10_notes 15 = .ok (.getfield 295, 3) := by decide +kernel
theorem dX10_notes_18 : decode cX10_notes 18 = .ok (.imul, 1) := by decide +kernel
theorem dX10_notes_19 : decode cX10_notes 19 = .ok (.aload_n 0, 1) := by decide +kernel
theorem dX10_notes_20 : decode cX10_notes 20 = .ok (.iconst 1, 1) := by decide +kernel
theorem dX10_notes_21 : decode cX10_notes 21 = .ok (.invokevirtual 277, 3) := by decide +kernel
theorem dX10_notes_24 : decode cX10_notes 24 = .ok (.iastore, 1) := by decide +kernel
theorem dX10_notes_25 : decode cX10_notes 25 = .ok (.aload_n 0, 1) := by decide +kernel
theorem dX10_notes_26 : decode cX10_notes 26 = .ok (.getfield 74, 3) := by decide +kernel
theorem dX10_notes_29 : decode cX10_notes 29 = .ok (.iconst 3, 1) := by decide +kernel
theorem dX10_notes_30 : decode cX10_notes 30 = .ok (.aload_n 0, 1) := by decide +kernel
theorem dX10_notes_31 : decode cX10_notes 31 = .ok (.getfield 295, 3) := by decide +kernel
theorem dX10_notes_34 : decode cX10_notes 34 = .ok (.imul, 1) := by decide +kernel
theorem dX10_notes_35 : decode cX10_notes 35 = .ok (.iconst 1, 1) := by decide +kernel
theorem dX10_notes_36 : decode cX10_notes 36 = .ok (.iadd, 1) := by decide +kernel
theorem dX10_notes_37 : decode cX10_notes 37 = .ok (.iload_n 1, 1) := by decide +kernel
theorem dX10_notes_38 : decode cX10_notes 38 = .ok (.iastore, 1) := by decide +kernel
theorem dX10_notes_39 : decode cX10_notes 39 = .ok (.aload_n 0, 1) := by decide +kernel
theorem dX10_notes_40 : decode cX10_notes 40 = .ok (.getfield 74, 3) := by decide +kernel
theorem dX10_notes_43 : decode cX10_notes 43 = .ok (.iconst 3, 1) := by decide +kernel
theorem dX10_notes_44 : decode cX10_notes 44 = .ok (.aload_n 0, 1) := by decide +kernel
theorem dX10_notes_45 : decode cX10_notes 45 = .ok (.getfield 295, 3) := by decide +kernel
theorem dX10_notes_48 : decode cX10_notes 48 = .ok (.imul, 1) := by decide +kernel
theorem dX10_notes_49 : decode cX10_notes 49 = .ok (.iconst 2, 1) := by decide +kernel
theorem dX10_notes_50 : decode cX10_notes 50 = .ok (.iadd, 1) := by decide +kernel
theorem dX10_notes_51 : decode cX10_notes 51 = .ok (.iload_n 2, 1) := by decide +kernel
theorem dX10_notes_52 : decode cX10_notes 52 = .ok (.iastore, 1) := by decide +kernel
theorem dX10_notes_53 : decode cX10_notes 53 = .ok (.aload_n 0, 1) := by decide +kernel
theorem dX10_notes_54 : decode cX10_notes 54 = .ok (.dup, 1) := by decide +kernel
theorem dX10_notes_55 : decode cX10_notes 55 = .ok (.getfield 295, 3) := by decide +kernel
theorem dX10_notes_58 : decode cX10_notes 58 = .ok (.iconst 1, 1) := by decide +kernel
theorem dX10_notes_59 : decode cX10_notes 59 = .ok (.iadd, 1) := by decide +kernel
theorem dX10_notes_60 : decode cX10_notes 60 = .ok (.putfield 295, 3) := by decide +kernel
theorem dX10_notes_63 : decode cX10_notes 63 = .ok (.return_, 1) := by decide +kernel
theorem dX10_tickGoes_0 : decode cX10_tickGoes 0 = .ok (.iconst 0, 1) := by decide +kernel
theorem dX10_tickGoes_1 : decode cX10_tickGoes 1 = .ok (.istore_n 1, 1) := by decide +kernel
theorem dX10_tickGoes_2 : decode cX10_tickGoes 2 = .ok (.iload_n 1, 1) := by decide +kernel
theorem dX10_tickGoes_3 : decode cX10_tickGoes 3 = .ok (.aload_n 0, 1) := by decide +kernel
theorem dX10_tickGoes_4 : decode cX10_tickGoes 4 = .ok (.getfield 128, 3) := by decide +kernel
theorem dX10_tickGoes_7 : decode cX10_tickGoes 7 = .ok (.if_icmp .ge 49, 3) := by decide +kernel
theorem dX10_tickGoes_10 : decode cX10_tickGoes 10 = .ok (.iload_n 1, 1) := by decide +kernel
theorem dX10_tickGoes_11 : decode cX10_tickGoes 11 = .ok (.aload_n 0, 1) := by decide +kernel
theorem dX10_tickGoes_12 : decode cX10_tickGoes 12 = .ok (.getfield 71, 3) := by decide +kernel
theorem dX10_tickGoes_15 : decode cX10_tickGoes 15 = .ok (.if_icmp .ne 7, 3) := by decide +kernel
theorem dX10_tickGoes_18 : decode cX10_tickGoes 18 = .ok (.iconst 0, 1) := by decide +kernel
theorem dX10_tickGoes_19 : decode cX10_tickGoes 19 = .ok (.goto 8, 3) := by decide +kernel
theorem dX10_tickGoes_22 : decode cX10_tickGoes 22 = .ok (.aload_n 0, 1) := by decide +kernel
theorem dX10_tickGoes_23 : decode cX10_tickGoes 23 = .ok (.iload_n 1, 1) := by decide +kernel
theorem dX10_tickGoes_24 : decode cX10_tickGoes 24 = .ok (.invokevirtual 298, 3) := by decide +kernel
theorem dX10_tickGoes_27 : decode cX10_tickGoes 27 = .ok (.istore_n 2, 1) := by decide +kernel
theorem dX10_tickGoes_28 : decode cX10_tickGoes 28 = .ok (.iload_n 2, 1) := by decide +kernel
theorem dX10_tickGoes_29 : decode cX10_tickGoes 29 = .ok (.ifCond .le 21, 3) := by decide +kernel
theorem dX10_tickGoes_32 : decode cX10_tickGoes 32 = .ok (.aload_n 0, 1) := by decide +kernel
theorem dX10_tickGoes_33 : decode cX10_tickGoes 33 = .ok (.iconst 4, 1) := by decide +kernel
theorem dX10_tickGoes_34 : decode cX10_tickGoes 34 = .ok (.iload_n 1, 1) := by decide +kernel
theorem dX10_tickGoes_35 : decode cX10_tickGoes 35 = .ok (.invokevirtual 255, 3) := by decide +kernel
theorem dX10_tickGoes_38 : decode cX10_tickGoes 38 = .ok (.aload_n 0, 1) := by decide +kernel
theorem dX10_tickGoes_39 : decode cX10_tickGoes 39 = .ok (.iconst 3, 1) := by decide +kernel
theorem dX10_tickGoes_40 : decode cX10_tickGoes 40 = .ok (.iload_n 2, 1) := by decide +kernel
theorem dX10_tickGoes_41 : decode cX10_tickGoes 41 = .ok (.invokevirtual 255, 3) := by decide +kernel
theorem dX10_tickGoes_44 : decode cX10_tickGoes 44 = .ok (.aload_n 0, 1) := by decide +kernel
theorem dX10_tickGoes_45 : decode cX10_tickGoes 45 = .ok (.iload_n 1, 1) := by decide +kernel
theorem dX10_tickGoes_46 : decode cX10_tickGoes 46 = .ok (.iload_n 2, 1) := by decide +kernel
theorem dX10_tickGoes_47 : decode cX10_tickGoes 47 = .ok (.invokevirtual 301, 3) := by decide +kernel
theorem dX10_tickGoes_50 : decode cX10_tickGoes 50 = .ok (.iinc 1 1, 3) := by decide +kernel
theorem dX10_tickGoes_53 : decode cX10_tickGoes 53 = .ok (.goto (-51), 3) := by decide +kernel
theorem dX10_tickGoes_56 : decode cX10_tickGoes 56 = .ok (.aload_n 0, 1) := by decide +kernel
theorem dX10_tickGoes_57 : decode cX10_tickGoes 57 = .ok (.iconst 2, 1) := by decide +kernel
theorem dX10_tickGoes_58 : decode cX10_tickGoes 58 = .ok (.aload_n 0, 1) := by decide +kernel
theorem dX10_tickGoes_59 : decode cX10_tickGoes 59 = .ok (.iconst 2, 1) := by decide +kernel
theorem dX10_tickGoes_60 : decode cX10_tickGoes 60 = .ok (.invokevirtual 277, 3) := by decide +kernel
theorem dX10_tickGoes_63 : decode cX10_tickGoes 63 = .ok (.aload_n 0, 1) := by decide +kernel
theorem dX10_tickGoes_64 : decode cX10_tickGoes 64 = .ok (.invokevirtual 289, 3) := by decide +kernel
theorem dX10_tickGoes_67 : decode cX10_tickGoes 67 = .ok (.iadd, 1) := by decide +kernel
theorem dX10_tickGoes_68 : decode cX10_tickGoes 68 = .ok (.invokevirtual 255, 3) := by decide +kernel
theorem dX10_tickGoes_71 : decode cX10_tickGoes 71 = .ok (.aload_n 0, 1) := by decide +kernel
theorem dX10_tickGoes_72 : decode cX10_tickGoes 72 = .ok (.iconst 1, 1) := by decide +kernel
theorem dX10_tickGoes_73 : decode cX10_tickGoes 73 = .ok (.aload_n 0, 1) := by decide +kernel
theorem dX10_tickGoes_74 : decode cX10_tickGoes 74 = .ok (.iconst 1, 1) := by decide +kernel
theorem dX10_tickGoes_75 : decode cX10_tickGoes 75 = .ok (.invokevirtual 277, 3) := by decide +kernel
theorem dX10_tickGoes_78 : decode cX10_tickGoes 78 = .ok (.iconst 1, 1) := by decide +kernel
theorem dX10_tickGoes_79 : decode cX10_tickGoes 79 = .ok (.iadd, 1) := by decide +kernel
theorem dX10_tickGoes_80 : decode cX10_tickGoes 80 = .ok (.invokevirtual 255, 3) := by decide +kernel
theorem dX10_tickGoes_83 : decode cX10_tickGoes 83 = .ok (.aload_n 0, 1) := by decide +kernel
theorem dX10_tickGoes_84 : decode cX10_tickGoes 84 = .ok (.iconst 2, 1) := by decide +kernel
theorem dX10_tickGoes_85 : decode cX10_tickGoes 85 = .ok (.invokevirtual 277, 3) := by decide +kernel
theorem dX10_tickGoes_88 : decode cX10_tickGoes 88 = .ok (.aload_n 0, 1) := by decide +kernel
theorem dX10_tickGoes_89 : decode cX10_tickGoes 89 = .ok (.getfield 7, 3) := by decide +kernel
theorem dX10_tickGoes_92 : decode cX10_tickGoes 92 = .ok (.aload_n 0, 1) := by decide +kernel
theorem dX10_tickGoes_93 : decode cX10_tickGoes 93 = .ok (.iconst 0, 1) := by decide +kernel
theorem dX10_tickGoes_94 : decode cX10_tickGoes 94 = .ok (.invokevirtual 277, 3) := by decide +kernel
theorem dX10_tickGoes_97 : decode cX10_tickGoes 97 = .ok (.iaload, 1) := by decide +kernel
theorem dX10_tickGoes_98 : decode cX10_tickGoes 98 = .ok (.if_icmp .lt 7, 3) := by decide +kernel
theorem dX10_tickGoes_101 : decode cX10_tickGoes 101 = .ok (.iconst 1, 1) := by decide +kernel
theorem dX10_tickGoes_102 : decode cX10_tickGoes 102 = .ok (.goto 4, 3) := by decide +kernel
theorem dX10_tickGoes_105 : decode cX10_tickGoes 105 = .ok (.iconst 0, 1) := by decide +kernel
theorem dX10_tickGoes_106 : decode cX10_tickGoes 106 = .ok (.ireturn, 1) := by decide +kernel
theorem dX10_pays_0 : decode cX10_pays 0 = .ok (.aload_n 0, 1) := by decide +kernel
theorem dX10_pays_1 : decode cX10_pays 1 = .ok (.iconst 4, 1) := by decide +kernel
theorem dX10_pays_2 : decode cX10_pays 2 = .ok (.invokevirtual 277, 3) := by decide +kernel
theorem dX10_pays_5 : decode cX10_pays 5 = .ok (.istore_n 1, 1) := by decide +kernel
theorem dX10_pays_6 : decode cX10_pays 6 = .ok (.iload_n 1, 1) := by decide +kernel
theorem dX10_pays_7 : decode cX10_pays 7 = .ok (.ifCond .lt 33, 3) := by decide +kernel
theorem dX10_pays_10 : decode cX10_pays 10 = .ok (.aload_n 0, 1) := by decide +kernel
theorem dX10_pays_11 : decode cX10_pays 11 = .ok (.iconst 5, 1) := by decide +kernel
theorem dX10_pays_12 : decode cX10_pays 12 = .ok (.iload_n 1, 1) := by decide +kernel
theorem dX10_pays_13 : decode cX10_pays 13 = .ok (.iadd, 1) := by decide +kernel
theorem dX10_pays_14 : decode cX10_pays 14 = .ok (.invokevirtual 277, 3) := by decide +kernel
theorem dX10_pays_17 : decode cX10_pays 17 = .ok (.aload_n 0, 1) := by decide +kernel
theorem dX10_pays_18 : decode cX10_pays 18 = .ok (.iconst 3, 1) := by decide +kernel
theorem dX10_pays_19 : decode cX10_pays 19 = .ok (.invokevirtual 277, 3) := by decide +kernel
theorem dX10_pays_22 : decode cX10_pays 22 = .ok (.isub, 1) := by decide +kernel
theorem dX10_pays_23 : decode cX10_pays 23 = .ok (.istore_n 2, 1) := by decide +kernel
theorem dX10_pays_24 : decode cX10_pays 24 = .ok (.aload_n 0, 1) := by decide +kernel
theorem dX10_pays_25 : decode cX10_pays 25 = .ok (.iconst 5, 1) := by decide +kernel
theorem dX10_pays_26 : decode cX10_pays 26 = .ok (.iload_n 1, 1) := by decide +kernel
theorem dX10_pays_27 : decode cX10_pays 27 = .ok (.iadd, 1) := by decide +kernel
theorem dX10_pays_28 : decode cX10_pays 28 = .ok (.iload_n 2, 1) := by decide +kernel
theorem dX10_pays_29 : decode cX10_pays 29 = .ok (.ifCond .ge 7, 3) := by decide +kernel
theorem dX10_pays_32 : decode cX10_pays 32 = .ok (.iconst 0, 1) := by decide +kernel
theorem dX10_pays_33 : decode cX10_pays 33 = .ok (.goto 4, 3) := by decide +kernel
theorem dX10_pays_36 : decode cX10_pays 36 = .ok (.iload_n 2, 1) := by decide +kernel
theorem dX10_pays_37 : decode cX10_pays 37 = .ok (.invokevirtual 255, 3) := by decide +kernel
theorem dX10_pays_40 : decode cX10_pays 40 = .ok (.return_, 1) := by decide +kernel
theorem dX10_lights_0 : decode cX10_lights 0 = .ok (.aload_n 0, 1) := by decide +kernel
theorem dX10_lights_1 : decode cX10_lights 1 = .ok (.invokevirtual 252, 3) := by decide +kernel
theorem dX10_lights_4 : decode cX10_lights 4 = .ok (.aload_n 0, 1) := by decide +kernel
theorem dX10_lights_5 : decode cX10_lights 5 = .ok (.iconst 0, 1) := by decide +kernel
theorem dX10_lights_6 : decode cX10_lights 6 = .ok (.iload_n 1, 1) := by decide +kernel
theorem dX10_lights_7 : decode cX10_lights 7 = .ok (.invokevirtual 255, 3) := by decide +kernel
theorem dX10_lights_10 : decode cX10_lights 10 = .ok (.return_, 1) := by decide +kernel
theorem dX10_light_0 : decode cX10_light 0 = .ok (.aload_n 0, 1) := by decide +kernel
theorem dX10_light_1 : decode cX10_light 1 = .ok (.iload_n 1, 1) := by decide +kernel
theorem dX10_light_2 : decode cX10_light 2 = .ok (.invokevirtual 124, 3) := by decide +kernel
theorem dX10_light_5 : decode cX10_light 5 = .ok (.ifCond .ne 5, 3) := by decide +kernel
theorem dX10_light_8 : decode cX10_light 8 = .ok (.iconst (-1), 1) := by decide +kernel
theorem dX10_light_9 : decode cX10_light 9 = .ok (.ireturn, 1) := by decide +kernel
theorem dX10_light_10 : decode cX10_light 10 = .ok (.aload_n 0, 1) := by decide +kernel
theorem dX10_light_11 : decode cX10_light 11 = .ok (.getfield 16, 3) := by decide +kernel
theorem dX10_light_14 : decode cX10_light 14 = .ok (.iload_n 1, 1) := by decide +kernel
theorem dX10_light_15 : decode cX10_light 15 = .ok (.iaload, 1) := by decide +kernel
theorem dX10_light_16 : decode cX10_light 16 = .ok (.iconst 1, 1) := by decide +kernel
theorem dX10_light_17 : decode cX10_light 17 = .ok (.if_icmp .eq 12, 3) := by decide +kernel
theorem dX10_light_20 : decode cX10_light 20 = .ok (.aload_n 0, 1) := by decide +kernel
theorem dX10_light_21 : decode cX10_light 21 = .ok (.getfield 41, 3) := by decide +kernel
theorem dX10_light_24 : decode cX10_light 24 = .ok (.iconst 0, 1) := by decide +kernel
theorem dX10_light_25 : decode cX10_light 25 = .ok (.iaload, 1) := by decide +kernel
theorem dX10_light_26 : decode cX10_light 26 = .ok (.ifCond .lt 6, 3) := by decide +kernel
theorem dX10_light_29 : decode cX10_light 29 = .ok (.bipush (-4), 2) := by decide +kernel
theorem dX10_light_31 : decode cX10_light 31 = .ok (.ireturn, 1) := by decide +kernel
theorem dX10_light_32 : decode cX10_light 32 = .ok (.aload_n 0, 1) := by decide +kernel
theorem dX10_light_33 : decode cX10_light 33 = .ok (.iload_n 1, 1) := by decide +kernel
theorem dX10_light_34 : decode cX10_light 34 = .ok (.invokevirtual 304, 3) := by decide +kernel
theorem dX10_light_37 : decode cX10_light 37 = .ok (.iconst 1, 1) := by decide +kernel
theorem dX10_light_38 : decode cX10_light 38 = .ok (.ireturn, 1) := by decide +kernel
theorem dX10_orNot_0 : decode cX10_orNot 0 = .ok (.iload_n 0, 1) := by decide +kernel
theorem dX10_orNot_1 : decode cX10_orNot 1 = .ok (.ifCond .ge 8, 3) := by decide +kernel
theorem dX10_orNot_4 : decode cX10_orNot 4 = .ok (.bipush (-9), 2) := by decide +kernel
theorem dX10_orNot_6 : decode cX10_orNot 6 = .ok (.goto 4, 3) := by decide +kernel
theorem dX10_orNot_9 : decode cX10_orNot 9 = .ok (.iload_n 0, 1) := by decide +kernel
theorem dX10_orNot_10 : decode cX10_orNot 10 = .ok (.ireturn, 1) := by decide +kernel
theorem dX10_now_0 : decode cX10_now 0 = .ok (.iload_n 1, 1) := by decide +kernel
theorem dX10_now_1 : decode cX10_now 1 = .ok (.iconst 0, 1) := by decide +kernel
theorem dX10_now_2 : decode cX10_now 2 = .ok (.bipush 6, 2) := by decide +kernel
theorem dX10_now_4 : decode cX10_now 4 = .ok (.invokestatic 120, 3) := by decide +kernel
theorem dX10_now_7 : decode cX10_now 7 = .ok (.ifCond .ne 5, 3) := by decide +kernel
theorem dX10_now_10 : decode cX10_now 10 = .ok (.iconst (-1), 1) := by decide +kernel
theorem dX10_now_11 : decode cX10_now 11 = .ok (.ireturn, 1) := by decide +kernel
theorem dX10_now_12 : decode cX10_now 12 = .ok (.iload_n 1, 1) := by decide +kernel
theorem dX10_now_13 : decode cX10_now 13 = .ok (.tableswitch 99 0 6 #[43, 99, 99, 99, 53, 63, 81], 43) := by decide +kernel
theorem dX10_now_56 : decode cX10_now 56 = .ok (.aload_n 0, 1) := by decide +kernel
theorem dX10_now_57 : decode cX10_now 57 = .ok (.getfield 41, 3) := by decide +kernel
theorem dX10_now_60 : decode cX10_now 60 = .ok (.iconst 0, 1) := by decide +kernel
theorem dX10_now_61 : decode cX10_now 61 = .ok (.iaload, 1) := by decide +kernel
theorem dX10_now_62 : decode cX10_now 62 = .ok (.invokestatic 307, 3) := by decide +kernel
theorem dX10_now_65 : decode cX10_now 65 = .ok (.ireturn, 1) := by decide +kernel
theorem dX10_now_66 : decode cX10_now 66 = .ok (.aload_n 0, 1) := by decide +kernel
theorem dX10_now_67 : decode cX10_now 67 = .ok (.getfield 41, 3) := by decide +kernel
theorem dX10_now_70 : decode cX10_now 70 = .ok (.iconst 4, 1) := by decide +kernel
theorem dX10_now_71 : decode cX10_now 71 = .ok (.iaload, 1) := by decide +kernel
theorem dX10_now_72 : decode cX10_now 72 = .ok (.invokestatic 307, 3) := by decide +kernel
theorem dX10_now_75 : decode cX10_now 75 = .ok (.ireturn, 1) := by decide +kernel
theorem dX10_now_76 : decode cX10_now 76 = .ok (.aload_n 0, 1) := by decide +kernel
theorem dX10_now_77 : decode cX10_now 77 = .ok (.getfield 41, 3) := by decide +kernel
theorem dX10_now_80 : decode cX10_now 80 = .ok (.iconst 0, 1) := by decide +kernel
theorem dX10_now_81 : decode cX10_now 81 = .ok (.iaload, 1) := by decide +kernel
theorem dX10_now_82 : decode cX10_now 82 = .ok (.ifCond .ge 7, 3) := by decide +kernel
theorem dX10_now_85 : decode cX10_now 85 = .ok (.iconst 0, 1) := by decide +kernel
theorem dX10_now_86 : decode cX10_now 86 = .ok (.goto 7, 3) := by decide +kernel
theorem dX10_now_89 : decode cX10_now 89 = .ok (.aload_n 0, 1) := by decide +kernel
theorem dX10_now_90 : decode cX10_now 90 = .ok (.invokevirtual 286, 3) := by decide +kernel
theorem dX10_now_93 : decode cX10_now 93 = .ok (.ireturn, 1) := by decide +kernel
theorem dX10_now_94 : decode cX10_now 94 = .ok (.aload_n 0, 1) := by decide +kernel
theorem dX10_now_95 : decode cX10_now 95 = .ok (.getfield 41, 3) := by decide +kernel
theorem dX10_now_98 : decode cX10_now 98 = .ok (.iconst 0, 1) := by decide +kernel
theorem dX10_now_99 : decode cX10_now 99 = .ok (.iaload, 1) := by decide +kernel
theorem dX10_now_100 : decode cX10_now 100 = .ok (.ifCond .ge 7, 3) := by decide +kernel
theorem dX10_now_103 : decode cX10_now 103 = .ok (.iconst 0, 1) := by decide +kernel
theorem dX10_now_104 : decode cX10_now 104 = .ok (.goto 7, 3) := by decide +kernel
theorem dX10_now_107 : decode cX10_now 107 = .ok (.aload_n 0, 1) := by decide +kernel
theorem dX10_now_108 : decode cX10_now 108 = .ok (.invokevirtual 289, 3) := by decide +kernel
theorem dX10_now_111 : decode cX10_now 111 = .ok (.ireturn, 1) := by decide +kernel
theorem dX10_now_112 : decode cX10_now 112 = .ok (.aload_n 0, 1) := by decide +kernel
theorem dX10_now_113 : decode cX10_now 113 = .ok (.getfield 41, 3) := by decide +kernel
theorem dX10_now_116 : decode cX10_now 116 = .ok (.iload_n 1, 1) := by decide +kernel
theorem dX10_now_117 : decode cX10_now 117 = .ok (.iaload, 1) := by decide +kernel
theorem dX10_now_118 : decode cX10_now 118 = .ok (.ireturn, 1) := by decide +kernel
theorem dX10_would_0 : decode cX10_would 0 = .ok (.aload_n 0, 1) := by decide +kernel
theorem dX10_would_1 : decode cX10_would 1 = .ok (.iload_n 1, 1) := by decide +kernel
theorem dX10_would_2 : decode cX10_would 2 = .ok (.invokevirtual 271, 3) := by decide +kernel
theorem dX10_would_5 : decode cX10_would 5 = .ok (.ifCond .ne 5, 3) := by decide +kernel
theorem dX10_would_8 : decode cX10_would 8 = .ok (.iconst (-1), 1) := by decide +kernel
theorem dX10_would_9 : decode cX10_would 9 = .ok (.ireturn, 1) := by decide +kernel
theorem dX10_would_10 : decode cX10_would 10 = .ok (.aload_n 0, 1) := by decide +kernel
theorem dX10_would_11 : decode cX10_would 11 = .ok (.getfield 41, 3) := by decide +kernel
theorem dX10_would_14 : decode cX10_would 14 = .ok (.iconst 0, 1) := by decide +kernel
theorem dX10_would_15 : decode cX10_would 15 = .ok (.iaload, 1) := by decide +kernel
theorem dX10_would_16 : decode cX10_would 16 = .ok (.ifCond .ge 7, 3) := by decide +kernel
theorem dX10_would_19 : decode cX10_would 19 = .ok (.iconst 0, 1) := by decide +kernel
theorem dX10_would_20 : decode cX10_would 20 = .ok (.goto 8, 3) := by decide +kernel
theorem dX10_would_23 : decode cX10_would 23 = .ok (.aload_n 0, 1) := by decide +kernel
theorem dX10_would_24 : decode cX10_would 24 = .ok (.iload_n 1, 1) := by decide +kernel
theorem dX10_would_25 : decode cX10_would 25 = .ok (.invokevirtual 298, 3) := by decide +kernel
theorem dX10_would_28 : decode cX10_would 28 = .ok (.ireturn, 1) := by decide +kernel
theorem dX10_sells_0 : decode cX10_sells 0 = .ok (.aload_n 0, 1) := by decide +kernel
theorem dX10_sells_1 : decode cX10_sells 1 = .ok (.getfield 41, 3) := by decide +kernel
theorem dX10_sells_4 : decode cX10_sells 4 = .ok (.iconst 0, 1) := by decide +kernel
theorem dX10_sells_5 : decode cX10_sells 5 = .ok (.iaload, 1) := by decide +kernel
theorem dX10_sells_6 : decode cX10_sells 6 = .ok (.istore_n 1, 1) := by decide +kernel
theorem dX10_sells_7 : decode cX10_sells 7 = .ok (.aload_n 0, 1) := by decide +kernel
theorem dX10_sells_8 : decode cX10_sells 8 = .ok (.getfield 41, 3) := by decide +kernel
theorem dX10_sells_11 : decode cX10_sells 11 = .ok (.iconst 4, 1) := by decide +kernel
theorem dX10_sells_12 : decode cX10_sells 12 = .ok (.iaload, 1) := by decide +kernel
theorem dX10_sells_13 : decode cX10_sells 13 = .ok (.istore_n 2, 1) := by decide +kernel
theorem dX10_sells_14 : decode cX10_sells 14 = .ok (.aload_n 0, 1) := by decide +kernel
theorem dX10_sells_15 : decode cX10_sells 15 = .ok (.getfield 16, 3) := by decide +kernel
theorem dX10_sells_18 : decode cX10_sells 18 = .ok (.iload_n 1, 1) := by decide +kernel
theorem dX10_sells_19 : decode cX10_sells 19 = .ok (.iconst 1, 1) := by decide +kernel
theorem dX10_sells_20 : decode cX10_sells 20 = .ok (.iastore, 1) := by decide +kernel
theorem dX10_sells_21 : decode cX10_sells 21 = .ok (.aload_n 0, 1) := by decide +kernel
theorem dX10_sells_22 : decode cX10_sells 22 = .ok (.getfield 19, 3) := by decide +kernel
theorem dX10_sells_25 : decode cX10_sells 25 = .ok (.iload_n 1, 1) := by decide +kernel
theorem dX10_sells_26 : decode cX10_sells 26 = .ok (.iload_n 2, 1) := by decide +kernel
theorem dX10_sells_27 : decode cX10_sells 27 = .ok (.ifCond .ge 7, 3) := by decide +kernel
theorem dX10_sells_30 : decode cX10_sells 30 = .ok (.iconst 0, 1) := by decide +kernel
theorem dX10_sells_31 : decode cX10_sells 31 = .ok (.goto 9, 3) := by decide +kernel
theorem dX10_sells_34 : decode cX10_sells 34 = .ok (.aload_n 0, 1) := by decide +kernel
theorem dX10_sells_35 : decode cX10_sells 35 = .ok (.getfield 41, 3) := by decide +kernel
theorem dX10_sells_38 : decode cX10_sells 38 = .ok (.iconst 3, 1) := by decide +kernel
theorem dX10_sells_39 : decode cX10_sells 39 = .ok (.iaload, 1) := by decide +kernel
theorem dX10_sells_40 : decode cX10_sells 40 = .ok (.iastore, 1) := by decide +kernel
theorem dX10_sells_41 : decode cX10_sells 41 = .ok (.aload_n 0, 1) := by decide +kernel
theorem dX10_sells_42 : decode cX10_sells 42 = .ok (.getfield 22, 3) := by decide +kernel
theorem dX10_sells_45 : decode cX10_sells 45 = .ok (.iload_n 1, 1) := by decide +kernel
theorem dX10_sells_46 : decode cX10_sells 46 = .ok (.iload_n 2, 1) := by decide +kernel
theorem dX10_sells_47 : decode cX10_sells 47 = .ok (.iastore, 1) := by decide +kernel
theorem dX10_sells_48 : decode cX10_sells 48 = .ok (.aload_n 0, 1) := by decide +kernel
theorem dX10_sells_49 : decode cX10_sells 49 = .ok (.invokevirtual 310, 3) := by decide +kernel
theorem dX10_sells_52 : decode cX10_sells 52 = .ok (.aload_n 0, 1) := by decide +kernel
theorem dX10_sells_53 : decode cX10_sells 53 = .ok (.invokevirtual 252, 3) := by decide +kernel
theorem dX10_sells_56 : decode cX10_sells 56 = .ok (.iload_n 2, 1) := by decide +kernel
theorem dX10_sells_57 : decode cX10_sells 57 = .ok (.invokestatic 307, 3) := by decide +kernel
theorem dX10_sells_60 : decode cX10_sells 60 = .ok (.ireturn, 1) := by decide +kernel
theorem dX10_ticks_0 : decode cX10_ticks 0 = .ok (.iload_n 1, 1) := by decide +kernel
theorem dX10_ticks_1 : decode cX10_ticks 1 = .ok (.iconst 0, 1) := by decide +kernel
theorem dX10_ticks_2 : decode cX10_ticks 2 = .ok (.bipush 60, 2) := by decide +kernel
theorem dX10_ticks_4 : decode cX10_ticks 4 = .ok (.invokestatic 120, 3) := by decide +kernel
theorem dX10_ticks_7 : decode cX10_ticks 7 = .ok (.ifCond .ne 5, 3) := by decide +kernel
theorem dX10_ticks_10 : decode cX10_ticks 10 = .ok (.iconst (-1), 1) := by decide +kernel
theorem dX10_ticks_11 : decode cX10_ticks 11 = .ok (.ireturn, 1) := by decide +kernel
theorem dX10_ticks_12 : decode cX10_ticks 12 = .ok (.iconst 0, 1) := by decide +kernel
theorem dX10_ticks_13 : decode cX10_ticks 13 = .ok (.istore_n 2, 1) := by decide +kernel
theorem dX10_ticks_14 : decode cX10_ticks 14 = .ok (.iload_n 2, 1) := by decide +kernel
theorem dX10_ticks_15 : decode cX10_ticks 15 = .ok (.iload_n 1, 1) := by decide +kernel
theorem dX10_ticks_16 : decode cX10_ticks 16 = .ok (.if_icmp .ge 30, 3) := by decide +kernel
theorem dX10_ticks_19 : decode cX10_ticks 19 = .ok (.aload_n 0, 1) := by decide +kernel
theorem dX10_ticks_20 : decode cX10_ticks 20 = .ok (.getfield 41, 3) := by decide +kernel
theorem dX10_ticks_23 : decode cX10_ticks 23 = .ok (.iconst 0, 1) := by decide +kernel
theorem dX10_ticks_24 : decode cX10_ticks 24 = .ok (.iaload, 1) := by decide +kernel
theorem dX10_ticks_25 : decode cX10_ticks 25 = .ok (.ifCond .lt 21, 3) := by decide +kernel
theorem dX10_ticks_28 : decode cX10_ticks 28 = .ok (.aload_n 0, 1) := by decide +kernel
theorem dX10_ticks_29 : decode cX10_ticks 29 = .ok (.invokevirtual 313, 3) := by decide +kernel
theorem dX10_ticks_32 : decode cX10_ticks 32 = .ok (.ifCond .eq 8, 3) := by decide +kernel
theorem dX10_ticks_35 : decode cX10_ticks 35 = .ok (.aload_n 0, 1) := by decide +kernel
theorem dX10_ticks_36 : decode cX10_ticks 36 = .ok (.invokevirtual 317, 3) := by decide +kernel
theorem dX10_ticks_39 : decode cX10_ticks 39 = .ok (.istore_n 3, 1) := by decide +kernel
theorem dX10_ticks_40 : decode cX10_ticks 40 = .ok (.iinc 2 1, 3) := by decide +kernel
theorem dX10_ticks_43 : decode cX10_ticks 43 = .ok (.goto (-29), 3) := by decide +kernel
theorem dX10_ticks_46 : decode cX10_ticks 46 = .ok (.iload_n 2, 1) := by decide +kernel
theorem dX10_ticks_47 : decode cX10_ticks 47 = .ok (.ireturn, 1) := by decide +kernel
theorem dX10_call_0 : decode cX10_call 0 = .ok (.aload_n 0, 1) := by decide +kernel
