theorem dX10_init_0 : decode cX10_init 0 = .ok (.aload_n 0, 1) := by decide +kernel
theorem dX10_init_1 : decode cX10_init 1 = .ok (.invokespecial 7, 3) := by decide +kernel
theorem dX10_init_4 : decode cX10_init 4 = .ok (.aload_n 0, 1) := by decide +kernel
theorem dX10_init_5 : decode cX10_init 5 = .ok (.sipush 167, 3) := by decide +kernel
theorem dX10_init_8 : decode cX10_init 8 = .ok (.newarray .int, 2) := by decide +kernel
theorem dX10_init_10 : decode cX10_init 10 = .ok (.putfield 13, 3) := by decide +kernel
theorem dX10_init_13 : decode cX10_init 13 = .ok (.aload_n 0, 1) := by decide +kernel
theorem dX10_init_14 : decode cX10_init 14 = .ok (.sipush 167, 3) := by decide +kernel
theorem dX10_init_17 : decode cX10_init 17 = .ok (.newarray .int, 2) := by decide +kernel
theorem dX10_init_19 : decode cX10_init 19 = .ok (.putfield 17, 3) := by decide +kernel
theorem dX10_init_22 : decode cX10_init 22 = .ok (.aload_n 0, 1) := by decide +kernel
theorem dX10_init_23 : decode cX10_init 23 = .ok (.sipush 167, 3) := by decide +kernel
theorem dX10_init_26 : decode cX10_init 26 = .ok (.newarray .int, 2) := by decide +kernel
theorem dX10_init_28 : decode cX10_init 28 = .ok (.putfield 20, 3) := by decide +kernel
theorem dX10_init_31 : decode cX10_init 31 = .ok (.aload_n 0, 1) := by decide +kernel
theorem dX10_init_32 : decode cX10_init 32 = .ok (.sipush 2004, 3) := by decide +kernel
theorem dX10_init_35 : decode cX10_init 35 = .ok (.newarray .int, 2) := by decide +kernel
theorem dX10_init_37 : decode cX10_init 37 = .ok (.putfield 23, 3) := by decide +kernel
theorem dX10_init_40 : decode cX10_init 40 = .ok (.aload_n 0, 1) := by decide +kernel
theorem dX10_init_41 : decode cX10_init 41 = .ok (.sipush 168, 3) := by decide +kernel
theorem dX10_init_44 : decode cX10_init 44 = .ok (.newarray .long, 2) := by decide +kernel
theorem dX10_init_46 : decode cX10_init 46 = .ok (.putfield 26, 3) := by decide +kernel
theorem dX10_init_49 : decode cX10_init 49 = .ok (.aload_n 0, 1) := by decide +kernel
theorem dX10_init_50 : decode cX10_init 50 = .ok (.sipush 168, 3) := by decide +kernel
theorem dX10_init_53 : decode cX10_init 53 = .ok (.newarray .boolean, 2) := by decide +kernel
theorem dX10_init_55 : decode cX10_init 55 = .ok (.putfield 30, 3) := by decide +kernel
theorem dX10_init_58 : decode cX10_init 58 = .ok (.aload_n 0, 1) := by decide +kernel
theorem dX10_init_59 : decode cX10_init 59 = .ok (.bipush 42, 2) := by decide +kernel
theorem dX10_init_61 : decode cX10_init 61 = .ok (.newarray .long, 2) := by decide +kernel
theorem dX10_init_63 : decode cX10_init 63 = .ok (.putfield 34, 3) := by decide +kernel
theorem dX10_init_66 : decode cX10_init 66 = .ok (.aload_n 0, 1) := by decide +kernel
theorem dX10_init_67 : decode cX10_init 67 = .ok (.bipush 8, 2) := by decide +kernel
theorem dX10_init_69 : decode cX10_init 69 = .ok (.newarray .long, 2) := by decide +kernel
theorem dX10_init_71 : decode cX10_init 71 = .ok (.putfield 37, 3) := by decide +kernel
theorem dX10_init_74 : decode cX10_init 74 = .ok (.aload_n 0, 1) := by decide +kernel
theorem dX10_init_75 : decode cX10_init 75 = .ok (.bipush 8, 2) := by decide +kernel
theorem dX10_init_77 : decode cX10_init 77 = .ok (.newarray .long, 2) := by decide +kernel
theorem dX10_init_79 : decode cX10_init 79 = .ok (.putfield 40, 3) := by decide +kernel
theorem dX10_init_82 : decode cX10_init 82 = .ok (.aload_n 0, 1) := by decide +kernel
theorem dX10_init_83 : decode cX10_init 83 = .ok (.sipush 1344, 3) := by decide +kernel
theorem dX10_init_86 : decode cX10_init 86 = .ok (.newarray .long, 2) := by decide +kernel
theorem dX10_init_88 : decode cX10_init 88 = .ok (.putfield 43, 3) := by decide +kernel
theorem dX10_init_91 : decode cX10_init 91 = .ok (.aload_n 0, 1) := by decide +kernel
theorem dX10_init_92 : decode cX10_init 92 = .ok (.bipush 63, 2) := by decide +kernel
theorem dX10_init_94 : decode cX10_init 94 = .ok (.newarray .long, 2) := by decide +kernel
theorem dX10_init_96 : decode cX10_init 96 = .ok (.putfield 46, 3) := by decide +kernel
theorem dX10_init_99 : decode cX10_init 99 = .ok (.aload_n 0, 1) := by decide +kernel
theorem dX10_init_100 : decode cX10_init 100 = .ok (.sipush 400, 3) := by decide +kernel
theorem dX10_init_103 : decode cX10_init 103 = .ok (.newarray .int, 2) := by decide +kernel
theorem dX10_init_105 : decode cX10_init 105 = .ok (.putfield 49, 3) := by decide +kernel
theorem dX10_init_108 : decode cX10_init 108 = .ok (.aload_n 0, 1) := by decide +kernel
theorem dX10_init_109 : decode cX10_init 109 = .ok (.sipush 400, 3) := by decide +kernel
theorem dX10_init_112 : decode cX10_init 112 = .ok (.newarray .int, 2) := by decide +kernel
theorem dX10_init_114 : decode cX10_init 114 = .ok (.putfield 52, 3) := by decide +kernel
theorem dX10_init_117 : decode cX10_init 117 = .ok (.aload_n 0, 1) := by decide +kernel
theorem dX10_init_118 : decode cX10_init 118 = .ok (.bipush 45, 2) := by decide +kernel
theorem dX10_init_120 : decode cX10_init 120 = .ok (.newarray .byte, 2) := by decide +kernel
theorem dX10_init_122 : decode cX10_init 122 = .ok (.dup, 1) := by decide +kernel
theorem dX10_init_123 : decode cX10_init 123 = .ok (.iconst 0, 1) := by decide +kernel
theorem dX10_init_124 : decode cX10_init 124 = .ok (.bipush 99, 2) := by decide +kernel
theorem dX10_init_126 : decode cX10_init 126 = .ok (.bastore, 1) := by decide +kernel
theorem dX10_init_127 : decode cX10_init 127 = .ok (.dup, 1) := by decide +kernel
theorem dX10_init_128 : decode cX10_init 128 = .ok (.iconst 1, 1) := by decide +kernel
theorem dX10_init_129 : decode cX10_init 129 = .ok (.bipush 108, 2) := by decide +kernel
theorem dX10_init_131 : decode cX10_init 131 = .ok (.bastore, 1) := by decide +kernel
theorem dX10_init_132 : decode cX10_init 132 = .ok (.dup, 1) := by decide +kernel
theorem dX10_init_133 : decode cX10_init 133 = .ok (.iconst 2, 1) := by decide +kernel
theorem dX10_init_134 : decode cX10_init 134 = .ok (.bipush 97, 2) := by decide +kernel
theorem dX10_init_136 : decode cX10_init 136 = .ok (.bastore, 1) := by decide +kernel
theorem dX10_init_137 : decode cX10_init 137 = .ok (.dup, 1) := by decide +kernel
theorem dX10_init_138 : decode cX10_init 138 = .ok (.iconst 3, 1) := by decide +kernel
theorem dX10_init_139 : decode cX10_init 139 = .ok (.bipush 115, 2) := by decide +kernel
theorem dX10_init_141 : decode cX10_init 141 = .ok (.bastore, 1) := by decide +kernel
theorem dX10_init_142 : decode cX10_init 142 = .ok (.dup, 1) := by decide +kernel
theorem dX10_init_143 : decode cX10_init 143 = .ok (.iconst 4, 1) := by decide +kernel
theorem dX10_init_144 : decode cX10_init 144 = .ok (.bipush 115, 2) := by decide +kernel
theorem dX10_init_146 : decode cX10_init 146 = .ok (.bastore, 1) := by decide +kernel
theorem dX10_init_147 : decode cX10_init 147 = .ok (.dup, 1) := by decide +kernel
theorem dX10_init_148 : decode cX10_init 148 = .ok (.iconst 5, 1) := by decide +kernel
theorem dX10_init_149 : decode cX10_init 149 = .ok (.iconst 0, 1) := by decide +kernel
theorem dX10_init_150 : decode cX10_init 150 = .ok (.bastore, 1) := by decide +kernel
theorem dX10_init_151 : decode cX10_init 151 = .ok (.dup, 1) := by decide +kernel
theorem dX10_init_152 : decode cX10_init 152 = .ok (.bipush 6, 2) := by decide +kernel
theorem dX10_init_154 : decode cX10_init 154 = .ok (.bipush 108, 2) := by decide +kernel
theorem dX10_init_156 : decode cX10_init 156 = .ok (.bastore, 1) := by decide +kernel
theorem dX10_init_157 : decode cX10_init 157 = .ok (.dup, 1) := by decide +kernel
theorem dX10_init_158 : decode cX10_init 158 = .ok (.bipush 7, 2) := by decide +kernel
theorem dX10_init_160 : decode cX10_init 160 = .ok (.bipush 111, 2) := by decide +kernel
theorem dX10_init_162 : decode cX10_init 162 = .ok (.bastore, 1) := by decide +kernel
theorem dX10_init_163 : decode cX10_init 163 = .ok (.dup, 1) := by decide +kernel
theorem dX10_init_164 : decode cX10_init 164 = .ok (.bipush 8, 2) := by decide +kernel
theorem dX10_init_166 : decode cX10_init 166 = .ok (.bipush 115, 2) := by decide +kernel
theorem dX10_init_168 : decode cX10_init 168 = .ok (.bastore, 1) := by decide +kernel
theorem dX10_init_169 : decode cX10_init 169 = .ok (.dup, 1) := by decide +kernel
theorem dX10_init_170 : decode cX10_init 170 = .ok (.bipush 9, 2) := by decide +kernel
theorem dX10_init_172 : decode cX10_init 172 = .ok (.bipush 115, 2) := by decide +kernel
theorem dX10_init_174 : decode cX10_init 174 = .ok (.bastore, 1) := by decide +kernel
theorem dX10_init_175 : decode cX10_init 175 = .ok (.dup, 1) := by decide +kernel
theorem dX10_init_176 : decode cX10_init 176 = .ok (.bipush 10, 2) := by decide +kernel
theorem dX10_init_178 : decode cX10_init 178 = .ok (.iconst 0, 1) := by decide +kernel
theorem dX10_init_179 : decode cX10_init 179 = .ok (.bastore, 1) := by decide +kernel
theorem dX10_init_180 : decode cX10_init 180 = .ok (.dup, 1) := by decide +kernel
theorem dX10_init_181 : decode cX10_init 181 = .ok (.bipush 11, 2) := by decide +kernel
theorem dX10_init_183 : decode cX10_init 183 = .ok (.bipush 99, 2) := by decide +kernel
theorem dX10_init_185 : decode cX10_init 185 = .ok (.bastore, 1) := by decide +kernel
theorem dX10_init_186 : decode cX10_init 186 = .ok (.dup, 1) := by decide +kernel
theorem dX10_init_187 : decode cX10_init 187 = .ok (.bipush 12, 2) := by decide +kernel
theorem dX10_init_189 : decode cX10_init 189 = .ok (.bipush 104, 2) := by decide +kernel
theorem dX10_init_191 : decode cX10_init 191 = .ok (.bastore, 1) := by decide +kernel
theorem dX10_init_192 : decode cX10_init 192 = .ok (.dup, 1) := by decide +kernel
theorem dX10_init_193 : decode cX10_init 193 = .ok (.bipush 13, 2) := by decide +kernel
theorem dX10_init_195 : decode cX10_init 195 = .ok (.bipush 97, 2) := by decide +kernel
theorem dX10_init_197 : decode cX10_init 197 = .ok (.bastore, 1) := by decide +kernel
theorem dX10_init_198 : decode cX10_init 198 = .ok (.dup, 1) := by decide +kernel
theorem dX10_init_199 : decode cX10_init 199 = .ok (.bipush 14, 2) := by decide +kernel
theorem dX10_init_201 : decode cX10_init 201 = .ok (.bipush 110, 2) := by decide +kernel
theorem dX10_init_203 : decode cX10_init 203 = .ok (.bastore, 1) := by decide +kernel
theorem dX10_init_204 : decode cX10_init 204 = .ok (.dup, 1) := by decide +kernel
theorem dX10_init_205 : decode cX10_init 205 = .ok (.bipush 15, 2) := by decide +kernel
theorem dX10_init_207 : decode cX10_init 207 = .ok (.bipush 99, 2) := by decide +kernel
theorem dX10_init_209 : decode cX10_init 209 = .ok (.bastore, 1) := by decide +kernel
theorem dX10_init_210 : decode cX10_init 210 = .ok (.dup, 1) := by decide +kernel
theorem dX10_init_211 : decode cX10_init 211 = .ok (.bipush 16, 2) := by decide +kernel
theorem dX10_init_213 : decode cX10_init 213 = .ok (.bipush 101, 2) := by decide +kernel
theorem dX10_init_215 : decode cX10_init 215 = .ok (.bastore, 1) := by decide +kernel
theorem dX10_init_216 : decode cX10_init 216 = .ok (.dup, 1) := by decide +kernel
theorem dX10_init_217 : decode cX10_init 217 = .ok (.bipush 17, 2) := by decide +kernel
theorem dX10_init_219 : decode cX10_init 219 = .ok (.bipush 115, 2) := by decide +kernel
theorem dX10_init_221 : decode cX10_init 221 = .ok (.bastore, 1) := by decide +kernel
theorem dX10_init_222 : decode cX10_init 222 = .ok (.dup, 1) := by decide +kernel
theorem dX10_init_223 : decode cX10_init 223 = .ok (.bipush 18, 2) := by decide +kernel
theorem dX10_init_225 : decode cX10_init 225 = .ok (.iconst 0, 1) := by decide +kernel
theorem dX10_init_226 : decode cX10_init 226 = .ok (.bastore, 1) := by decide +kernel
theorem dX10_init_227 : decode cX10_init 227 = .ok (.dup, 1) := by decide +kernel
theorem dX10_init_228 : decode cX10_init 228 = .ok (.bipush 19, 2) := by decide +kernel
theorem dX10_init_230 : decode cX10_init 230 = .ok (.bipush 111, 2) := by decide +kernel
theorem dX10_init_232 : decode cX10_init 232 = .ok (.bastore, 1) := by decide +kernel
theorem dX10_init_233 : decode cX10_init 233 = .ok (.dup, 1) := by decide +kernel
theorem dX10_init_234 : decode cX10_init 234 = .ok (.bipush 20, 2) := by decide +kernel
theorem dX10_init_236 : decode cX10_init 236 = .ok (.bipush 100, 2) := by decide +kernel
theorem dX10_init_238 : decode cX10_init 238 = .ok (.bastore, 1) := by decide +kernel
theorem dX10_init_239 : decode cX10_init 239 = .ok (.dup, 1) := by decide +kernel
theorem dX10_init_240 : decode cX10_init 240 = .ok (.bipush 21, 2) := by decide +kernel
theorem dX10_init_242 : decode cX10_init 242 = .ok (.bipush 100, 2) := by decide +kernel
theorem dX10_init_244 : decode cX10_init 244 = .ok (.bastore, 1) := by decide +kernel
theorem dX10_init_245 : decode cX10_init 245 = .ok (.dup, 1) := by decide +kernel
theorem dX10_init_246 : decode cX10_init 246 = .ok (.bipush 22, 2) := by decide +kernel
theorem dX10_init_248 : decode cX10_init 248 = .ok (.bipush 115, 2) := by decide +kernel
theorem dX10_init_250 : decode cX10_init 250 = .ok (.bastore, 1) := by decide +kernel
theorem dX10_init_251 : decode cX10_init 251 = .ok (.dup, 1) := by decide +kernel
theorem dX10_init_252 : decode cX10_init 252 = .ok (.bipush 23, 2) := by decide +kernel
theorem dX10_init_254 : decode cX10_init 254 = .ok (.iconst 0, 1) := by decide +kernel
theorem dX10_init_255 : decode cX10_init 255 = .ok (.bastore, 1) := by decide +kernel
theorem dX10_init_256 : decode cX10_init 256 = .ok (.dup, 1) := by decide +kernel
theorem dX10_init_257 : decode cX10_init 257 = .ok (.bipush 24, 2) := by decide +kernel
theorem dX10_init_259 : decode cX10_init 259 = .ok (.bipush 111, 2) := by decide +kernel
theorem dX10_init_261 : decode cX10_init 261 = .ok (.bastore, 1) := by decide +kernel
theorem dX10_init_262 : decode cX10_init 262 = .ok (.dup, 1) := by decide +kernel
theorem dX10_init_263 : decode cX10_init 263 = .ok (.bipush 25, 2) := by decide +kernel
theorem dX10_init_265 : decode cX10_init 265 = .ok (.bipush 119, 2) := by decide +kernel
theorem dX10_init_267 : decode cX10_init 267 = .ok (.bastore, 1) := by decide +kernel
theorem dX10_init_268 : decode cX10_init 268 = .ok (.dup, 1) := by decide +kernel
theorem dX10_init_269 : decode cX10_init 269 = .ok (.bipush 26, 2) := by decide +kernel
theorem dX10_init_271 : decode cX10_init 271 = .ok (.bipush 110, 2) := by decide +kernel
theorem dX10_init_273 : decode cX10_init 273 = .ok (.bastore, 1) := by decide +kernel
theorem dX10_init_274 : decode cX10_init 274 = .ok (.dup, 1) := by decide +kernel
theorem dX10_init_275 : decode cX10_init 275 = .ok (.bipush 27, 2) := by decide +kernel
theorem dX10_init_277 : decode cX10_init 277 = .ok (.iconst 0, 1) := by decide +kernel
theorem dX10_init_278 : decode cX10_init 278 = .ok (.bastore, 1) := by decide +kernel
theorem dX10_init_279 : decode cX10_init 279 = .ok (.dup, 1) := by decide +kernel
theorem dX10_init_280 : decode cX10_init 280 = .ok (.bipush 28, 2) := by decide +kernel
theorem dX10_init_282 : decode cX10_init 282 = .ok (.bipush 103, 2) := by decide +kernel
theorem dX10_init_284 : decode cX10_init 284 = .ok (.bastore, 1) := by decide +kernel
theorem dX10_init_285 : decode cX10_init 285 = .ok (.dup, 1) := by decide +kernel
theorem dX10_init_286 : decode cX10_init 286 = .ok (.bipush 29, 2) := by decide +kernel
theorem dX10_init_288 : decode cX10_init 288 = .ok (.bipush 117, 2) := by decide +kernel
theorem dX10_init_290 : decode cX10_init 290 = .ok (.bastore, 1) := by decide +kernel
theorem dX10_init_291 : decode cX10_init 291 = .ok (.dup, 1) := by decide +kernel
theorem dX10_init_292 : decode cX10_init 292 = .ok (.bipush 30, 2) := by decide +kernel
theorem dX10_init_294 : decode cX10_init 294 = .ok (.bipush 97, 2) := by decide +kernel
theorem dX10_init_296 : decode cX10_init 296 = .ok (.bastore, 1) := by decide +kernel
theorem dX10_init_297 : decode cX10_init 297 = .ok (.dup, 1) := by decide +kernel
theorem dX10_init_298 : decode cX10_init 298 = .ok (.bipush 31, 2) := by decide +kernel
theorem dX10_init_300 : decode cX10_init 300 = .ok (.bipush 114, 2) := by decide +kernel
theorem dX10_init_302 : decode cX10_init 302 = .ok (.bastore, 1) := by decide +kernel
theorem dX10_init_303 : decode cX10_init 303 = .ok (.dup, 1) := by decide +kernel
theorem dX10_init_304 : decode cX10_init 304 = .ok (.bipush 32, 2) := by decide +kernel
theorem dX10_init_306 : decode cX10_init 306 = .ok (.bipush 100, 2) := by decide +kernel
theorem dX10_init_308 : decode cX10_init 308 = .ok (.bastore, 1) := by decide +kernel
theorem dX10_init_309 : decode cX10_init 309 = .ok (.dup, 1) := by decide +kernel
theorem dX10_init_310 : decode cX10_init 310 = .ok (.bipush 33, 2) := by decide +kernel
theorem dX10_init_312 : decode cX10_init 312 = .ok (.iconst 0, 1) := by decide +kernel
theorem dX10_init_313 : decode cX10_init 313 = .ok (.bastore, 1) := by decide +kernel
theorem dX10_init_314 : decode cX10_init 314 = .ok (.dup, 1) := by decide +kernel
theorem dX10_init_315 : decode cX10_init 315 = .ok (.bipush 34, 2) := by decide +kernel
theorem dX10_init_317 : decode cX10_init 317 = .ok (.bipush 108, 2) := by decide +kernel
theorem dX10_init_319 : decode cX10_init 319 = .ok (.bastore, 1) := by decide +kernel
theorem dX10_init_320 : decode cX10_init 320 = .ok (.dup, 1) := by decide +kernel
theorem dX10_init_321 : decode cX10_init 321 = .ok (.bipush 35, 2) := by decide +kernel
theorem dX10_init_323 : decode cX10_init 323 = .ok (.bipush 101, 2) := by decide +kernel
theorem dX10_init_325 : decode cX10_init 325 = .ok (.bastore, 1) := by decide +kernel
theorem dX10_init_326 : decode cX10_init 326 = .ok (.dup, 1) := by decide +kernel
theorem dX10_init_327 : decode cX10_init 327 = .ok (.bipush 36, 2) := by decide +kernel
theorem dX10_init_329 : decode cX10_init 329 = .ok (.bipush 97, 2) := by decide +kernel
theorem dX10_init_331 : decode cX10_init 331 = .ok (.bastore, 1) := by decide +kernel
theorem dX10_init_332 : decode cX10_init 332 = .ok (.dup, 1) := by decide +kernel
theorem dX10_init_333 : decode cX10_init 333 = .ok (.bipush 37, 2) := by decide +kernel
theorem dX10_init_335 : decode cX10_init 335 = .ok (.bipush 115, 2) := by decide +kernel
theorem dX10_init_337 : decode cX10_init 337 = .ok (.bastore, 1) := by decide +kernel
theorem dX10_init_338 : decode cX10_init 338 = .ok (.dup, 1) := by decide +kernel
theorem dX10_init_339 : decode cX10_init 339 = .ok (.bipush 38, 2) := by decide +kernel
theorem dX10_init_341 : decode cX10_init 341 = .ok (.bipush 116, 2) := by decide +kernel
theorem dX10_init_343 : decode cX10_init 343 = .ok (.bastore, 1) := by decide +kernel
theorem dX10_init_344 : decode cX10_init 344 = .ok (.dup, 1) := by decide +kernel
theorem dX10_init_345 : decode cX10_init 345 = .ok (.bipush 39, 2) := by decide +kernel
theorem dX10_init_347 : decode cX10_init 347 = .ok (.iconst 0, 1) := by decide +kernel
theorem dX10_init_348 : decode cX10_init 348 = .ok (.bastore, 1) := by decide +kernel
theorem dX10_init_349 : decode cX10_init 349 = .ok (.dup, 1) := by decide +kernel
theorem dX10_init_350 : decode cX10_init 350 = .ok (.bipush 40, 2) := by decide +kernel
theorem dX10_init_352 : decode cX10_init 352 = .ok (.bipush 110, 2) := by decide +kernel
theorem dX10_init_354 : decode cX10_init 354 = .ok (.bastore, 1) := by decide +kernel
theorem dX10_init_355 : decode cX10_init 355 = .ok (.dup, 1) := by decide +kernel
theorem dX10_init_356 : decode cX10_init 356 = .ok (.bipush 41, 2) := by decide +kernel
theorem dX10_init_358 : decode cX10_init 358 = .ok (.bipush 111, 2) := by decide +kernel
theorem dX10_init_360 : decode cX10_init 360 = .ok (.bastore, 1) := by decide +kernel
theorem dX10_init_361 : decode cX10_init 361 = .ok (.dup, 1) := by decide +kernel
theorem dX10_init_362 : decode cX10_init 362 = .ok (.bipush 42, 2) := by decide +kernel
theorem dX10_init_364 : decode cX10_init 364 = .ok (.bipush 110, 2) := by decide +kernel
theorem dX10_init_366 : decode cX10_init 366 = .ok (.bastore, 1) := by decide +kernel
theorem dX10_init_367 : decode cX10_init 367 = .ok (.dup, 1) := by decide +kernel
theorem dX10_init_368 : decode cX10_init 368 = .ok (.bipush 43, 2) := by decide +kernel
theorem dX10_init_370 : decode cX10_init 370 = .ok (.bipush 101, 2) := by decide +kernel
theorem dX10_init_372 : decode cX10_init 372 = .ok (.bastore, 1) := by decide +kernel
theorem dX10_init_373 : decode cX10_init 373 = .ok (.dup, 1) := by decide +kernel
theorem dX10_init_374 : decode cX10_init 374 = .ok (.bipush 44, 2) := by decide +kernel
theorem dX10_init_376 : decode cX10_init 376 = .ok (.iconst 0, 1) := by decide +kernel
theorem dX10_init_377 : decode cX10_init 377 = .ok (.bastore, 1) := by decide +kernel
theorem dX10_init_378 : decode cX10_init 378 = .ok (.putfield 55, 3) := by decide +kernel
theorem dX10_init_381 : decode cX10_init 381 = .ok (.aload_n 0, 1) := by decide +kernel
theorem dX10_init_382 : decode cX10_init 382 = .ok (.getfield 13, 3) := by decide +kernel
theorem dX10_init_385 : decode cX10_init 385 = .ok (.invokestatic 59, 3) := by decide +kernel
theorem dX10_init_388 : decode cX10_init 388 = .ok (.return_, 1) := by decide +kernel
theorem dX10_in_0 : decode cX10_in 0 = .ok (.lload_n 0, 1) := by decide +kernel
theorem dX10_in_1 : decode cX10_in 1 = .ok (.lload_n 2, 1) := by decide +kernel
theorem dX10_in_2 : decode cX10_in 2 = .ok (.lcmp, 1) := by decide +kernel
theorem dX10_in_3 : decode cX10_in 3 = .ok (.ifCond .lt 14, 3) := by decide +kernel
theorem dX10_in_6 : decode cX10_in 6 = .ok (.lload_n 0, 1) := by decide +kernel
theorem dX10_in_7 : decode cX10_in 7 = .ok (.lload 4, 2) := by decide +kernel
theorem dX10_in_9 : decode cX10_in 9 = .ok (.lcmp, 1) := by decide +kernel
theorem dX10_in_10 : decode cX10_in 10 = .ok (.ifCond .gt 7, 3) := by decide +kernel
theorem dX10_in_13 : decode cX10_in 13 = .ok (.iconst 1, 1) := by decide +kernel
theorem dX10_in_14 : decode cX10_in 14 = .ok (.goto 4, 3) := by decide +kernel
theorem dX10_in_17 : decode cX10_in 17 = .ok (.iconst 0, 1) := by decide +kernel
theorem dX10_in_18 : decode cX10_in 18 = .ok (.ireturn, 1) := by decide +kernel
theorem dX10_lesser_0 : decode cX10_lesser 0 = .ok (.lload_n 0, 1) := by decide +kernel
theorem dX10_lesser_1 : decode cX10_lesser 1 = .ok (.lload_n 2, 1) := by decide +kernel
theorem dX10_lesser_2 : decode cX10_lesser 2 = .ok (.lcmp, 1) := by decide +kernel
theorem dX10_lesser_3 : decode cX10_lesser 3 = .ok (.ifCond .ge 7, 3) := by decide +kernel
theorem dX10_lesser_6 : decode cX10_lesser 6 = .ok (.lload_n 0, 1) := by decide +kernel
theorem dX10_lesser_7 : decode cX10_lesser 7 = .ok (.goto 4, 3) := by decide +kernel
theorem dX10_lesser_10 : decode cX10_lesser 10 = .ok (.lload_n 2, 1) := by decide +kernel
theorem dX10_lesser_11 : decode cX10_lesser 11 = .ok (.lreturn, 1) := by decide +kernel
theorem dX10_greater_0 : decode cX10_greater 0 = .ok (.lload_n 0, 1) := by decide +kernel
theorem dX10_greater_1 : decode cX10_greater 1 = .ok (.lload_n 2, 1) := by decide +kernel
theorem dX10_greater_2 : decode cX10_greater 2 = .ok (.lcmp, 1) := by decide +kernel
theorem dX10_greater_3 : decode cX10_greater 3 = .ok (.ifCond .le 7, 3) := by decide +kernel
theorem dX10_greater_6 : decode cX10_greater 6 = .ok (.lload_n 0, 1) := by decide +kernel
theorem dX10_greater_7 : decode cX10_greater 7 = .ok (.goto 4, 3) := by decide +kernel
theorem dX10_greater_10 : decode cX10_greater 10 = .ok (.lload_n 2, 1) := by decide +kernel
theorem dX10_greater_11 : decode cX10_greater 11 = .ok (.lreturn, 1) := by decide +kernel
theorem dX10_starts_0 : decode cX10_starts 0 = .ok (.iconst 0, 1) := by decide +kernel
theorem dX10_starts_1 : decode cX10_starts 1 = .ok (.istore_n 1, 1) := by decide +kernel
theorem dX10_starts_2 : decode cX10_starts 2 = .ok (.iload_n 1, 1) := by decide +kernel
theorem dX10_starts_3 : decode cX10_starts 3 = .ok (.sipush 167, 3) := by decide +kernel
theorem dX10_starts_6 : decode cX10_starts 6 = .ok (.if_icmp .ge 13, 3) := by decide +kernel
theorem dX10_starts_9 : decode cX10_starts 9 = .ok (.aload_n 0, 1) := by decide +kernel
theorem dX10_starts_10 : decode cX10_starts 10 = .ok (.iload_n 1, 1) := by decide +kernel
theorem dX10_starts_11 : decode cX10_starts 11 = .ok (.iconst 0, 1) := by decide +kernel
theorem dX10_starts_12 : decode cX10_starts 12 = .ok (.iastore, 1) := by decide +kernel
theorem dX10_starts_13 : decode cX10_starts 13 = .ok (.iinc 1 1, 3) := by decide +kernel
theorem dX10_starts_16 : decode cX10_starts 16 = .ok (.goto (-14), 3) := by decide +kernel
theorem dX10_starts_19 : decode cX10_starts 19 = .ok (.aload_n 0, 1) := by decide +kernel
theorem dX10_starts_20 : decode cX10_starts 20 = .ok (.iconst 2, 1) := by decide +kernel
theorem dX10_starts_21 : decode cX10_starts 21 = .ok (.iconst 2, 1) := by decide +kernel
theorem dX10_starts_22 : decode cX10_starts 22 = .ok (.iastore, 1) := by decide +kernel
theorem dX10_starts_23 : decode cX10_starts 23 = .ok (.aload_n 0, 1) := by decide +kernel
theorem dX10_starts_24 : decode cX10_starts 24 = .ok (.iconst 3, 1) := by decide +kernel
theorem dX10_starts_25 : decode cX10_starts 25 = .ok (.iconst 3, 1) := by decide +kernel
theorem dX10_starts_26 : decode cX10_starts 26 = .ok (.iastore, 1) := by decide +kernel
theorem dX10_starts_27 : decode cX10_starts 27 = .ok (.return_, 1) := by decide +kernel
theorem dX10_copies_0 : decode cX10_copies 0 = .ok (.iconst 0, 1) := by decide +kernel
theorem dX10_copies_1 : decode cX10_copies 1 = .ok (.istore_n 2, 1) := by decide +kernel
theorem dX10_copies_2 : decode cX10_copies 2 = .ok (.iload_n 2, 1) := by decide +kernel
theorem dX10_copies_3 : decode cX10_copies 3 = .ok (.sipush 167, 3) := by decide +kernel
theorem dX10_copies_6 : decode cX10_copies 6 = .ok (.if_icmp .ge 15, 3) := by decide +kernel
theorem dX10_copies_9 : decode cX10_copies 9 = .ok (.aload_n 1, 1) := by decide +kernel
theorem dX10_copies_10 : decode cX10_copies 10 = .ok (.iload_n 2, 1) := by decide +kernel
theorem dX10_copies_11 : decode cX10_copies 11 = .ok (.aload_n 0, 1) := by decide +kernel
theorem dX10_copies_12 : decode cX10_copies 12 = .ok (.iload_n 2, 1) := by decide +kernel
theorem dX10_copies_13 : decode cX10_copies 13 = .ok (.iaload, 1) := by decide +kernel
theorem dX10_copies_14 : decode cX10_copies 14 = .ok (.iastore, 1) := by decide +kernel
theorem dX10_copies_15 : decode cX10_copies 15 = .ok (.iinc 2 1, 3) := by decide +kernel
theorem dX10_copies_18 : decode cX10_copies 18 = .ok (.goto (-16), 3) := by decide +kernel
theorem dX10_copies_21 : decode cX10_copies 21 = .ok (.return_, 1) := by decide +kernel
theorem dX10_keeps_0 : decode cX10_keeps 0 = .ok (.aload_n 0, 1) := by decide +kernel
theorem dX10_keeps_1 : decode cX10_keeps 1 = .ok (.getfield 63, 3) := by decide +kernel
theorem dX10_keeps_4 : decode cX10_keeps 4 = .ok (.bipush 12, 2) := by decide +kernel
theorem dX10_keeps_6 : decode cX10_keeps 6 = .ok (.if_icmp .ne 46, 3) := by decide +kernel
theorem dX10_keeps_9 : decode cX10_keeps 9 = .ok (.sipush 167, 3) := by decide +kernel
theorem dX10_keeps_12 : decode cX10_keeps 12 = .ok (.istore_n 1, 1) := by decide +kernel
theorem dX10_keeps_13 : decode cX10_keeps 13 = .ok (.iload_n 1, 1) := by decide +kernel
theorem dX10_keeps_14 : decode cX10_keeps 14 = .ok (.sipush 2004, 3) := by decide +kernel
theorem dX10_keeps_17 : decode cX10_keeps 17 = .ok (.if_icmp .ge 25, 3) := by decide +kernel
theorem dX10_keeps_20 : decode cX10_keeps 20 = .ok (.aload_n 0, 1) := by decide +kernel
theorem dX10_keeps_21 : decode cX10_keeps 21 = .ok (.getfield 23, 3) := by decide +kernel
theorem dX10_keeps_24 : decode cX10_keeps 24 = .ok (.iload_n 1, 1) := by decide +kernel
theorem dX10_keeps_25 : decode cX10_keeps 25 = .ok (.sipush 167, 3) := by decide +kernel
theorem dX10_keeps_28 : decode cX10_keeps 28 = .ok (.isub, 1) := by decide +kernel
theorem dX10_keeps_29 : decode cX10_keeps 29 = .ok (.aload_n 0, 1) := by decide +kernel
theorem dX10_keeps_30 : decode cX10_keeps 30 = .ok (.getfield 23, 3) := by decide +kernel
theorem dX10_keeps_33 : decode cX10_keeps 33 = .ok (.iload_n 1, 1) := by decide +kernel
theorem dX10_keeps_34 : decode cX10_keeps 34 = .ok (.iaload, 1) := by decide +kernel
theorem dX10_keeps_35 : decode cX10_keeps 35 = .ok (.iastore, 1) := by decide +kernel
theorem dX10_keeps_36 : decode cX10_keeps 36 = .ok (.iinc 1 1, 3) := by decide +kernel
theorem dX10_keeps_39 : decode cX10_keeps 39 = .ok (.goto (-26), 3) := by decide +kernel
theorem dX10_keeps_42 : decode cX10_keeps 42 = .ok (.aload_n 0, 1) := by decide +kernel
theorem dX10_keeps_43 : decode cX10_keeps 43 = .ok (.dup, 1) := by decide +kernel
theorem dX10_keeps_44 : decode cX10_keeps 44 = .ok (.getfield 63, 3) := by decide +kernel
theorem dX10_keeps_47 : decode cX10_keeps 47 = .ok (.iconst 1, 1) := by decide +kernel
theorem dX10_keeps_48 : decode cX10_keeps 48 = .ok (.isub, 1) := by decide +kernel
theorem dX10_keeps_49 : decode cX10_keeps 49 = .ok (.putfield 63, 3) := by decide +kernel
theorem dX10_keeps_52 : decode cX10_keeps 52 = .ok (.iconst 0, 1) := by decide +kernel
theorem dX10_keeps_53 : decode cX10_keeps 53 = .ok (.istore_n 1, 1) := by decide +kernel
theorem dX10_keeps_54 : decode cX10_keeps 54 = .ok (.iload_n 1, 1) := by decide +kernel
theorem dX10_keeps_55 : decode cX10_keeps 55 = .ok (.sipush 167, 3) := by decide +kernel
theorem dX10_keeps_58 : decode cX10_keeps 58 = .ok (.if_icmp .ge 30, 3) := by decide +kernel
theorem dX10_keeps_61 : decode cX10_keeps 61 = .ok (.aload_n 0, 1) := by decide +kernel
theorem dX10_keeps_62 : decode cX10_keeps 62 = .ok (.getfield 23, 3) := by decide +kernel
theorem dX10_keeps_65 : decode cX10_keeps 65 = .ok (.sipush 167, 3) := by decide +kernel
theorem dX10_keeps_68 : decode cX10_keeps 68 = .ok (.aload_n 0, 1) := by decide +kernel
theorem dX10_keeps_69 : decode cX10_keeps 69 = .ok (.getfield 63, 3) := by decide +kernel
theorem dX10_keeps_72 : decode cX10_keeps 72 = .ok (.imul, 1) := by decide +kernel
theorem dX10_keeps_73 : decode cX10_keeps 73 = .ok (.iload_n 1, 1) := by decide +kernel
theorem dX10_keeps_74 : decode cX10_keeps 74 = .ok (.iadd, 1) := by decide +kernel
theorem dX10_keeps_75 : decode cX10_keeps 75 = .ok (.aload_n 0, 1) := by decide +kernel
theorem dX10_keeps_76 : decode cX10_keeps 76 = .ok (.getfield 13, 3) := by decide +kernel
theorem dX10_keeps_79 : decode cX10_keeps 79 = .ok (.iload_n 1, 1) := by decide +kernel
theorem dX10_keeps_80 : decode cX10_keeps 80 = .ok (.iaload, 1) := by decide +kernel
theorem dX10_keeps_81 : decode cX10_keeps 81 = .ok (.iastore, 1) := by decide +kernel
theorem dX10_keeps_82 : decode cX10_keeps 82 = .ok (.iinc 1 1, 3) := by decide +kernel
theorem dX10_keeps_85 : decode cX10_keeps 85 = .ok (.goto (-31), 3) := by decide +kernel
theorem dX10_keeps_88 : decode cX10_keeps 88 = .ok (.aload_n 0, 1) := by decide +kernel
theorem dX10_keeps_89 : decode cX10_keeps 89 = .ok (.dup, 1) := by decide +kernel
theorem dX10_keeps_90 : decode cX10_keeps 90 = .ok (.getfield 63, 3) := by decide +kernel
theorem dX10_keeps_93 : decode cX10_keeps 93 = .ok (.iconst 1, 1) := by decide +kernel
theorem dX10_keeps_94 : decode cX10_keeps 94 = .ok (.iadd, 1) := by decide +kernel
theorem dX10_keeps_95 : decode cX10_keeps 95 = .ok (.putfield 63, 3) := by decide +kernel
theorem dX10_keeps_98 : decode cX10_keeps 98 = .ok (.return_, 1) := by decide +kernel
theorem dX10_isClass_0 : decode cX10_isClass 0 = .ok (.iload_n 1, 1) := by decide +kernel
theorem dX10_isClass_1 : decode cX10_isClass 1 = .ok (.i2l, 1) := by decide +kernel
theorem dX10_isClass_2 : decode cX10_isClass 2 = .ok (.lconst 0, 1) := by decide +kernel
theorem dX10_isClass_3 : decode cX10_isClass 3 = .ok (.aload_n 0, 1) := by decide +kernel
theorem dX10_isClass_4 : decode cX10_isClass 4 = .ok (.getfield 13, 3) := by decide +kernel
theorem dX10_isClass_7 : decode cX10_isClass 7 = .ok (.iconst 0, 1) := by decide +kernel
theorem dX10_isClass_8 : decode cX10_isClass 8 = .ok (.iaload, 1) := by decide +kernel
theorem dX10_isClass_9 : decode cX10_isClass 9 = .ok (.iconst 1, 1) := by decide +kernel
theorem dX10_isClass_10 : decode cX10_isClass 10 = .ok (.isub, 1) := by decide +kernel
theorem dX10_isClass_11 : decode cX10_isClass 11 = .ok (.i2l, 1) := by decide +kernel
theorem dX10_isClass_12 : decode cX10_isClass 12 = .ok (.invokestatic 66, 3) := by decide +kernel
theorem dX10_isClass_15 : decode cX10_isClass 15 = .ok (.ireturn, 1) := by decide +kernel
theorem dX10_isSort_0 : decode cX10_isSort 0 = .ok (.iload_n 1, 1) := by decide +kernel
theorem dX10_isSort_1 : decode cX10_isSort 1 = .ok (.i2l, 1) := by decide +kernel
theorem dX10_isSort_2 : decode cX10_isSort 2 = .ok (.lconst 0, 1) := by decide +kernel
theorem dX10_isSort_3 : decode cX10_isSort 3 = .ok (.aload_n 0, 1) := by decide +kernel
theorem dX10_isSort_4 : decode cX10_isSort 4 = .ok (.getfield 13, 3) := by decide +kernel
theorem dX10_isSort_7 : decode cX10_isSort 7 = .ok (.iconst 1, 1) := by decide +kernel
theorem dX10_isSort_8 : decode cX10_isSort 8 = .ok (.iaload, 1) := by decide +kernel
theorem dX10_isSort_9 : decode cX10_isSort 9 = .ok (.iconst 1, 1) := by decide +kernel
theorem dX10_isSort_10 : decode cX10_isSort 10 = .ok (.isub, 1) := by decide +kernel
theorem dX10_isSort_11 : decode cX10_isSort 11 = .ok (.i2l, 1) := by decide +kernel
theorem dX10_isSort_12 : decode cX10_isSort 12 = .ok (.invokestatic 66, 3) := by decide +kernel
theorem dX10_isSort_15 : decode cX10_isSort 15 = .ok (.ireturn, 1) := by decide +kernel
theorem dX10_ofClass_0 : decode cX10_ofClass 0 = .ok (.aload_n 0, 1) := by decide +kernel
theorem dX10_ofClass_1 : decode cX10_ofClass 1 = .ok (.getfield 13, 3) := by decide +kernel
theorem dX10_ofClass_4 : decode cX10_ofClass 4 = .ok (.iconst 5, 1) := by decide +kernel
theorem dX10_ofClass_5 : decode cX10_ofClass 5 = .ok (.iconst 5, 1) := by decide +kernel
theorem dX10_ofClass_6 : decode cX10_ofClass 6 = .ok (.iload_n 1, 1) := by decide +kernel
theorem dX10_ofClass_7 : decode cX10_ofClass 7 = .ok (.imul, 1) := by decide +kernel
theorem dX10_ofClass_8 : decode cX10_ofClass 8 = .ok (.iadd, 1) := by decide +kernel
theorem dX10_ofClass_9 : decode cX10_ofClass 9 = .ok (.iload_n 2, 1) := by decide +kernel
theorem dX10_ofClass_10 : decode cX10_ofClass 10 = .ok (.iadd, 1) := by decide +kernel
theorem dX10_ofClass_11 : decode cX10_ofClass 11 = .ok (.iaload, 1) := by decide +kernel
theorem dX10_ofClass_12 : decode cX10_ofClass 12 = .ok (.ireturn, 1) := by decide +kernel
theorem dX10_size_0 : decode cX10_size 0 = .ok (.aload_n 0, 1) := by decide +kernel
theorem dX10_size_1 : decode cX10_size 1 = .ok (.getfield 13, 3) := by decide +kernel
theorem dX10_size_4 : decode cX10_size 4 = .ok (.bipush 45, 2) := by decide +kernel
theorem dX10_size_6 : decode cX10_size 6 = .ok (.iconst 2, 1) := by decide +kernel
theorem dX10_size_7 : decode cX10_size 7 = .ok (.iload_n 1, 1) := by decide +kernel
theorem dX10_size_8 : decode cX10_size 8 = .ok (.imul, 1) := by decide +kernel
theorem dX10_size_9 : decode cX10_size 9 = .ok (.iadd, 1) := by decide +kernel
theorem dX10_size_10 : decode cX10_size 10 = .ok (.iaload, 1) := by decide +kernel
theorem dX10_size_11 : decode cX10_size 11 = .ok (.ireturn, 1) := by decide +kernel
theorem dX10_weight_0 : decode cX10_weight 0 = .ok (.aload_n 0, 1) := by decide +kernel
theorem dX10_weight_1 : decode cX10_weight 1 = .ok (.getfield 13, 3) := by decide +kernel
theorem dX10_weight_4 : decode cX10_weight 4 = .ok (.bipush 45, 2) := by decide +kernel
theorem dX10_weight_6 : decode cX10_weight 6 = .ok (.iconst 2, 1) := by decide +kernel
theorem dX10_weight_7 : decode cX10_weight 7 = .ok (.iload_n 1, 1) := by decide +kernel
theorem dX10_weight_8 : decode cX10_weight 8 = .ok (.imul, 1) := by decide +kernel
theorem dX10_weight_9 : decode cX10_weight 9 = .ok (.iadd, 1) := by decide +kernel
theorem dX10_weight_10 : decode cX10_weight 10 = .ok (.iconst 1, 1) := by decide +kernel
theorem dX10_weight_11 : decode cX10_weight 11 = .ok (.iadd, 1) := by decide +kernel
theorem dX10_weight_12 : decode cX10_weight 12 = .ok (.iaload, 1) := by decide +kernel
theorem dX10_weight_13 : decode cX10_weight 13 = .ok (.ireturn, 1) := by decide +kernel
theorem dX10_weights_0 : decode cX10_weights 0 = .ok (.iconst 0, 1) := by decide +kernel
theorem dX10_weights_1 : decode cX10_weights 1 = .ok (.istore_n 1, 1) := by decide +kernel
theorem dX10_weights_2 : decode cX10_weights 2 = .ok (.iconst 0, 1) := by decide +kernel
theorem dX10_weights_3 : decode cX10_weights 3 = .ok (.istore_n 2, 1) := by decide +kernel
theorem dX10_weights_4 : decode cX10_weights 4 = .ok (.iload_n 2, 1) := by decide +kernel
theorem dX10_weights_5 : decode cX10_weights 5 = .ok (.aload_n 0, 1) := by decide +kernel
theorem dX10_weights_6 : decode cX10_weights 6 = .ok (.getfield 13, 3) := by decide +kernel
theorem dX10_weights_9 : decode cX10_weights 9 = .ok (.iconst 1, 1) := by decide +kernel
theorem dX10_weights_10 : decode cX10_weights 10 = .ok (.iaload, 1) := by decide +kernel
theorem dX10_weights_11 : decode cX10_weights 11 = .ok (.if_icmp .ge 17, 3) := by decide +kernel
theorem dX10_weights_14 : decode cX10_weights 14 = .ok (.iload_n 1, 1) := by decide +kernel
theorem dX10_weights_15 : decode cX10_weights 15 = .ok (.aload_n 0, 1) := by decide +kernel
theorem dX10_weights_16 : decode cX10_weights 16 = .ok (.iload_n 2, 1) := by decide +kernel
theorem dX10_weights_17 : decode cX10_weights 17 = .ok (.invokevirtual 70, 3) := by decide +kernel
theorem dX10_weights_20 : decode cX10_weights 20 = .ok (.iadd, 1) := by decide +kernel
theorem dX10_weights_21 : decode cX10_weights 21 = .ok (.istore_n 1, 1) := by decide +kernel
theorem dX10_weights_22 : decode cX10_weights 22 = .ok (.iinc 2 1, 3) := by decide +kernel
theorem dX10_weights_25 : decode cX10_weights 25 = .ok (.goto (-21), 3) := by decide +kernel
theorem dX10_weights_28 : decode cX10_weights 28 = .ok (.iload_n 1, 1) := by decide +kernel
theorem dX10_weights_29 : decode cX10_weights 29 = .ok (.ireturn, 1) := by decide +kernel
theorem dX10_behind_0 : decode cX10_behind 0 = .ok (.aload_n 0, 1) := by decide +kernel
theorem dX10_behind_1 : decode cX10_behind 1 = .ok (.iload_n 1, 1) := by decide +kernel
theorem dX10_behind_2 : decode cX10_behind 2 = .ok (.iconst 1, 1) := by decide +kernel
theorem dX10_behind_3 : decode cX10_behind 3 = .ok (.iload_n 2, 1) := by decide +kernel
theorem dX10_behind_4 : decode cX10_behind 4 = .ok (.iconst 2, 1) := by decide +kernel
theorem dX10_behind_5 : decode cX10_behind 5 = .ok (.if_icmp .le 7, 3) := by decide +kernel
theorem dX10_behind_8 : decode cX10_behind 8 = .ok (.iconst 2, 1) := by decide +kernel
theorem dX10_behind_9 : decode cX10_behind 9 = .ok (.goto 4, 3) := by decide +kernel
theorem dX10_behind_12 : decode cX10_behind 12 = .ok (.iload_n 2, 1) := by decide +kernel
theorem dX10_behind_13 : decode cX10_behind 13 = .ok (.iadd, 1) := by decide +kernel
theorem dX10_behind_14 : decode cX10_behind 14 = .ok (.invokevirtual 74, 3) := by decide +kernel
theorem dX10_behind_17 : decode cX10_behind 17 = .ok (.ireturn, 1) := by decide +kernel
theorem dX10_toldPays_0 : decode cX10_toldPays 0 = .ok (.aload_n 0, 1) := by decide +kernel
theorem dX10_toldPays_1 : decode cX10_toldPays 1 = .ok (.getfield 13, 3) := by decide +kernel
theorem dX10_toldPays_4 : decode cX10_toldPays 4 = .ok (.iconst 4, 1) := by decide +kernel
theorem dX10_toldPays_5 : decode cX10_toldPays 5 = .ok (.iaload, 1) := by decide +kernel
theorem dX10_toldPays_6 : decode cX10_toldPays 6 = .ok (.aload_n 0, 1) := by decide +kernel
theorem dX10_toldPays_7 : decode cX10_toldPays 7 = .ok (.iload_n 1, 1) := by decide +kernel
theorem dX10_toldPays_8 : decode cX10_toldPays 8 = .ok (.invokevirtual 78, 3) := by decide +kernel
theorem dX10_toldPays_11 : decode cX10_toldPays 11 = .ok (.if_icmp .ge 12, 3) := by decide +kernel
theorem dX10_toldPays_14 : decode cX10_toldPays 14 = .ok (.aload_n 0, 1) := by decide +kernel
theorem dX10_toldPays_15 : decode cX10_toldPays 15 = .ok (.getfield 13, 3) := by decide +kernel
theorem dX10_toldPays_18 : decode cX10_toldPays 18 = .ok (.iconst 4, 1) := by decide +kernel
theorem dX10_toldPays_19 : decode cX10_toldPays 19 = .ok (.iaload, 1) := by decide +kernel
theorem dX10_toldPays_20 : decode cX10_toldPays 20 = .ok (.goto 8, 3) := by decide +kernel
theorem dX10_toldPays_23 : decode cX10_toldPays 23 = .ok (.aload_n 0, 1) := by decide +kernel
theorem dX10_toldPays_24 : decode cX10_toldPays 24 = .ok (.iload_n 1, 1) := by decide +kernel
theorem dX10_toldPays_25 : decode cX10_toldPays 25 = .ok (.invokevirtual 78, 3) := by decide +kernel
theorem dX10_toldPays_28 : decode cX10_toldPays 28 = .ok (.ireturn, 1) := by decide +kernel
theorem dX10_becomes_0 : decode cX10_becomes 0 = .ok (.aload_n 0, 1) := by decide +kernel
theorem dX10_becomes_1 : decode cX10_becomes 1 = .ok (.getfield 13, 3) := by decide +kernel
theorem dX10_becomes_4 : decode cX10_becomes 4 = .ok (.iload_n 1, 1) := by decide +kernel
theorem dX10_becomes_5 : decode cX10_becomes 5 = .ok (.iaload, 1) := by decide +kernel
theorem dX10_becomes_6 : decode cX10_becomes 6 = .ok (.iload_n 2, 1) := by decide +kernel
theorem dX10_becomes_7 : decode cX10_becomes 7 = .ok (.if_icmp .ne 5, 3) := by decide +kernel
theorem dX10_becomes_10 : decode cX10_becomes 10 = .ok (.iconst (-1), 1) := by decide +kernel
theorem dX10_becomes_11 : decode cX10_becomes 11 = .ok (.ireturn, 1) := by decide +kernel
theorem dX10_becomes_12 : decode cX10_becomes 12 = .ok (.aload_n 0, 1) := by decide +kernel
theorem dX10_becomes_13 : decode cX10_becomes 13 = .ok (.invokevirtual 81, 3) := by decide +kernel
theorem dX10_becomes_16 : decode cX10_becomes 16 = .ok (.aload_n 0, 1) := by decide +kernel
theorem dX10_becomes_17 : decode cX10_becomes 17 = .ok (.getfield 13, 3) := by decide +kernel
theorem dX10_becomes_20 : decode cX10_becomes 20 = .ok (.iload_n 1, 1) := by decide +kernel
theorem dX10_becomes_21 : decode cX10_becomes 21 = .ok (.iaload, 1) := by decide +kernel
theorem dX10_becomes_22 : decode cX10_becomes 22 = .ok (.istore_n 3, 1) := by decide +kernel
theorem dX10_becomes_23 : decode cX10_becomes 23 = .ok (.aload_n 0, 1) := by decide +kernel
theorem dX10_becomes_24 : decode cX10_becomes 24 = .ok (.getfield 13, 3) := by decide +kernel
theorem dX10_becomes_27 : decode cX10_becomes 27 = .ok (.iload_n 1, 1) := by decide +kernel
theorem dX10_becomes_28 : decode cX10_becomes 28 = .ok (.iload_n 2, 1) := by decide +kernel
theorem dX10_becomes_29 : decode cX10_becomes 29 = .ok (.iastore, 1) := by decide +kernel
theorem dX10_becomes_30 : decode cX10_becomes 30 = .ok (.iload_n 3, 1) := by decide +kernel
theorem dX10_becomes_31 : decode cX10_becomes 31 = .ok (.ireturn, 1) := by decide +kernel
theorem dX10_set_0 : decode cX10_set 0 = .ok (.aload_n 0, 1) := by decide +kernel
theorem dX10_set_1 : decode cX10_set 1 = .ok (.iload_n 1, 1) := by decide +kernel
theorem dX10_set_2 : decode cX10_set 2 = .ok (.invokevirtual 84, 3) := by decide +kernel
theorem dX10_set_5 : decode cX10_set 5 = .ok (.ifCond .eq 15, 3) := by decide +kernel
theorem dX10_set_8 : decode cX10_set 8 = .ok (.iload_n 2, 1) := by decide +kernel
theorem dX10_set_9 : decode cX10_set 9 = .ok (.i2l, 1) := by decide +kernel
theorem dX10_set_10 : decode cX10_set 10 = .ok (.lconst 0, 1) := by decide +kernel
theorem dX10_set_11 : decode cX10_set 11 = .ok (.ldc2_w 88, 3) := by decide +kernel
theorem dX10_set_14 : decode cX10_set 14 = .ok (.invokestatic 66, 3) := by decide +kernel
theorem dX10_set_17 : decode cX10_set 17 = .ok (.ifCond .ne 5, 3) := by decide +kernel
theorem dX10_set_20 : decode cX10_set 20 = .ok (.iconst (-1), 1) := by decide +kernel
theorem dX10_set_21 : decode cX10_set 21 = .ok (.ireturn, 1) := by decide +kernel
theorem dX10_set_22 : decode cX10_set 22 = .ok (.iload_n 2, 1) := by decide +kernel
theorem dX10_set_23 : decode cX10_set 23 = .ok (.ifCond .ne 9, 3) := by decide +kernel
theorem dX10_set_26 : decode cX10_set 26 = .ok (.sipush 999, 3) := by decide +kernel
theorem dX10_set_29 : decode cX10_set 29 = .ok (.goto 21, 3) := by decide +kernel
theorem dX10_set_32 : decode cX10_set 32 = .ok (.iload_n 2, 1) := by decide +kernel
theorem dX10_set_33 : decode cX10_set 33 = .ok (.iconst 4, 1) := by decide +kernel
theorem dX10_set_34 : decode cX10_set 34 = .ok (.if_icmp .ne 8, 3) := by decide +kernel
theorem dX10_set_37 : decode cX10_set 37 = .ok (.bipush 99, 2) := by decide +kernel
theorem dX10_set_39 : decode cX10_set 39 = .ok (.goto 11, 3) := by decide +kernel
theorem dX10_set_42 : decode cX10_set 42 = .ok (.aload_n 0, 1) := by decide +kernel
theorem dX10_set_43 : decode cX10_set 43 = .ok (.getfield 13, 3) := by decide +kernel
theorem dX10_set_46 : decode cX10_set 46 = .ok (.iconst 0, 1) := by decide +kernel
theorem dX10_set_47 : decode cX10_set 47 = .ok (.iaload, 1) := by decide +kernel
theorem dX10_set_48 : decode cX10_set 48 = .ok (.iconst 1, 1) := by decide +kernel
theorem dX10_set_49 : decode cX10_set 49 = .ok (.isub, 1) := by decide +kernel
theorem dX10_set_50 : decode cX10_set 50 = .ok (.istore 4, 2) := by decide +kernel
theorem dX10_set_52 : decode cX10_set 52 = .ok (.iload_n 3, 1) := by decide +kernel
theorem dX10_set_53 : decode cX10_set 53 = .ok (.i2l, 1) := by decide +kernel
theorem dX10_set_54 : decode cX10_set 54 = .ok (.lconst 0, 1) := by decide +kernel
theorem dX10_set_55 : decode cX10_set 55 = .ok (.iload 4, 2) := by decide +kernel
theorem dX10_set_57 : decode cX10_set 57 = .ok (.i2l, 1) := by decide +kernel
theorem dX10_set_58 : decode cX10_set 58 = .ok (.invokestatic 66, 3) := by decide +kernel
theorem dX10_set_61 : decode cX10_set 61 = .ok (.ifCond .eq 18, 3) := by decide +kernel
theorem dX10_set_64 : decode cX10_set 64 = .ok (.aload_n 0, 1) := by decide +kernel
theorem dX10_set_65 : decode cX10_set 65 = .ok (.iconst 5, 1) := by decide +kernel
theorem dX10_set_66 : decode cX10_set 66 = .ok (.iconst 5, 1) := by decide +kernel
theorem dX10_set_67 : decode cX10_set 67 = .ok (.iload_n 1, 1) := by decide +kernel
theorem dX10_set_68 : decode cX10_set 68 = .ok (.imul, 1) := by decide +kernel
theorem dX10_set_69 : decode cX10_set 69 = .ok (.iadd, 1) := by decide +kernel
theorem dX10_set_70 : decode cX10_set 70 = .ok (.iload_n 2, 1) := by decide +kernel
theorem dX10_set_71 : decode cX10_set 71 = .ok (.iadd, 1) := by decide +kernel
theorem dX10_set_72 : decode cX10_set 72 = .ok (.iload_n 3, 1) := by decide +kernel
theorem dX10_set_73 : decode cX10_set 73 = .ok (.invokevirtual 90, 3) := by decide +kernel
theorem dX10_set_76 : decode cX10_set 76 = .ok (.goto 4, 3) := by decide +kernel
theorem dX10_set_79 : decode cX10_set 79 = .ok (.iconst (-1), 1) := by decide +kernel
theorem dX10_set_80 : decode cX10_set 80 = .ok (.ireturn, 1) := by decide +kernel
theorem dX10_sort_0 : decode cX10_sort 0 = .ok (.aload_n 0, 1) := by decide +kernel
theorem dX10_sort_1 : decode cX10_sort 1 = .ok (.iload_n 1, 1) := by decide +kernel
theorem dX10_sort_2 : decode cX10_sort 2 = .ok (.invokevirtual 93, 3) := by decide +kernel
theorem dX10_sort_5 : decode cX10_sort 5 = .ok (.ifCond .eq 35, 3) := by decide +kernel
theorem dX10_sort_8 : decode cX10_sort 8 = .ok (.iload_n 2, 1) := by decide +kernel
theorem dX10_sort_9 : decode cX10_sort 9 = .ok (.i2l, 1) := by decide +kernel
theorem dX10_sort_10 : decode cX10_sort 10 = .ok (.lconst 0, 1) := by decide +kernel
theorem dX10_sort_11 : decode cX10_sort 11 = .ok (.lconst 1, 1) := by decide +kernel
theorem dX10_sort_12 : decode cX10_sort 12 = .ok (.invokestatic 66, 3) := by decide +kernel
theorem dX10_sort_15 : decode cX10_sort 15 = .ok (.ifCond .eq 25, 3) := by decide +kernel
theorem dX10_sort_18 : decode cX10_sort 18 = .ok (.iload_n 3, 1) := by decide +kernel
theorem dX10_sort_19 : decode cX10_sort 19 = .ok (.i2l, 1) := by decide +kernel
theorem dX10_sort_20 : decode cX10_sort 20 = .ok (.lconst 1, 1) := by decide +kernel
theorem dX10_sort_21 : decode cX10_sort 21 = .ok (.iload_n 2, 1) := by decide +kernel
theorem dX10_sort_22 : decode cX10_sort 22 = .ok (.ifCond .ne 9, 3) := by decide +kernel
theorem dX10_sort_25 : decode cX10_sort 25 = .ok (.ldc2_w 96, 3) := by decide +kernel
theorem dX10_sort_28 : decode cX10_sort 28 = .ok (.goto 6, 3) := by decide +kernel
theorem dX10_sort_31 : decode cX10_sort 31 = .ok (.ldc2_w 98, 3) := by decide +kernel
theorem dX10_sort_34 : decode cX10_sort 34 = .ok (.invokestatic 66, 3) := by decide +kernel
theorem dX10_sort_37 : decode cX10_sort 37 = .ok (.ifCond .ne 5, 3) := by decide +kernel
theorem dX10_sort_40 : decode cX10_sort 40 = .ok (.iconst (-1), 1) := by decide +kernel
theorem dX10_sort_41 : decode cX10_sort 41 = .ok (.ireturn, 1) := by decide +kernel
theorem dX10_sort_42 : decode cX10_sort 42 = .ok (.aload_n 0, 1) := by decide +kernel
theorem dX10_sort_43 : decode cX10_sort 43 = .ok (.bipush 45, 2) := by decide +kernel
theorem dX10_sort_45 : decode cX10_sort 45 = .ok (.iconst 2, 1) := by decide +kernel
theorem dX10_sort_46 : decode cX10_sort 46 = .ok (.iload_n 1, 1) := by decide +kernel
theorem dX10_sort_47 : decode cX10_sort 47 = .ok (.imul, 1) := by decide +kernel
theorem dX10_sort_48 : decode cX10_sort 48 = .ok (.iadd, 1) := by decide +kernel
theorem dX10_sort_49 : decode cX10_sort 49 = .ok (.iload_n 2, 1) := by decide +kernel
theorem dX10_sort_50 : decode cX10_sort 50 = .ok (.iadd, 1) := by decide +kernel
theorem dX10_sort_51 : decode cX10_sort 51 = .ok (.iload_n 3, 1) := by decide +kernel
theorem dX10_sort_52 : decode cX10_sort 52 = .ok (.invokevirtual 90, 3) := by decide +kernel
theorem dX10_sort_55 : decode cX10_sort 55 = .ok (.ireturn, 1) := by decide +kernel
theorem dX10_isRule_0 : decode cX10_isRule 0 = .ok (.iload_n 0, 1) := by decide +kernel
theorem dX10_isRule_1 : decode cX10_isRule 1 = .ok (.ifCond .ne 15, 3) := by decide +kernel
theorem dX10_isRule_4 : decode cX10_isRule 4 = .ok (.iload_n 1, 1) := by decide +kernel
theorem dX10_isRule_5 : decode cX10_isRule 5 = .ok (.i2l, 1) := by decide +kernel
theorem dX10_isRule_6 : decode cX10_isRule 6 = .ok (.lconst 1, 1) := by decide +kernel
theorem dX10_isRule_7 : decode cX10_isRule 7 = .ok (.ldc2_w 100, 3) := by decide +kernel
theorem dX10_isRule_10 : decode cX10_isRule 10 = .ok (.invokestatic 66, 3) := by decide +kernel
theorem dX10_isRule_13 : decode cX10_isRule 13 = .ok (.goto 42, 3) := by decide +kernel
theorem dX10_isRule_16 : decode cX10_isRule 16 = .ok (.iload_n 0, 1) := by decide +kernel
theorem dX10_isRule_17 : decode cX10_isRule 17 = .ok (.iconst 1, 1) := by decide +kernel
theorem dX10_isRule_18 : decode cX10_isRule 18 = .ok (.if_icmp .ne 15, 3) := by decide +kernel
theorem dX10_isRule_21 : decode cX10_isRule 21 = .ok (.iload_n 1, 1) := by decide +kernel
theorem dX10_isRule_22 : decode cX10_isRule 22 = .ok (.i2l, 1) := by decide +kernel
theorem dX10_isRule_23 : decode cX10_isRule 23 = .ok (.lconst 0, 1) := by decide +kernel
theorem dX10_isRule_24 : decode cX10_isRule 24 = .ok (.ldc2_w 102, 3) := by decide +kernel
theorem dX10_isRule_27 : decode cX10_isRule 27 = .ok (.invokestatic 66, 3) := by decide +kernel
theorem dX10_isRule_30 : decode cX10_isRule 30 = .ok (.goto 25, 3) := by decide +kernel
theorem dX10_isRule_33 : decode cX10_isRule 33 = .ok (.iload_n 0, 1) := by decide +kernel
theorem dX10_isRule_34 : decode cX10_isRule 34 = .ok (.iconst 2, 1) := by decide +kernel
theorem dX10_isRule_35 : decode cX10_isRule 35 = .ok (.if_icmp .ne 19, 3) := by decide +kernel
theorem dX10_isRule_38 : decode cX10_isRule 38 = .ok (.iload_n 1, 1) := by decide +kernel
theorem dX10_isRule_39 : decode cX10_isRule 39 = .ok (.i2l, 1) := by decide +kernel
theorem dX10_isRule_40 : decode cX10_isRule 40 = .ok (.lconst 0, 1) := by decide +kernel
theorem dX10_isRule_41 : decode cX10_isRule 41 = .ok (.ldc2_w 104, 3) := by decide +kernel
theorem dX10_isRule_44 : decode cX10_isRule 44 = .ok (.invokestatic 66, 3) := by decide +kernel
theorem dX10_isRule_47 : decode cX10_isRule 47 = .ok (.ifCond .eq 7, 3) := by decide +kernel
theorem dX10_isRule_50 : decode cX10_isRule 50 = .ok (.iconst 1, 1) := by decide +kernel
theorem dX10_isRule_51 : decode cX10_isRule 51 = .ok (.goto 4, 3) := by decide +kernel
theorem dX10_isRule_54 : decode cX10_isRule 54 = .ok (.iconst 0, 1) := by decide +kernel
theorem dX10_isRule_55 : decode cX10_isRule 55 = .ok (.ireturn, 1) := by decide +kernel
theorem dX10_rule_0 : decode cX10_rule 0 = .ok (.iload_n 1, 1) := by decide +kernel
theorem dX10_rule_1 : decode cX10_rule 1 = .ok (.iload_n 2, 1) := by decide +kernel
theorem dX10_rule_2 : decode cX10_rule 2 = .ok (.invokestatic 106, 3) := by decide +kernel
theorem dX10_rule_5 : decode cX10_rule 5 = .ok (.ifCond .eq 18, 3) := by decide +kernel
theorem dX10_rule_8 : decode cX10_rule 8 = .ok (.iload_n 1, 1) := by decide +kernel
theorem dX10_rule_9 : decode cX10_rule 9 = .ok (.ifCond .ne 16, 3) := by decide +kernel
theorem dX10_rule_12 : decode cX10_rule 12 = .ok (.aload_n 0, 1) := by decide +kernel
theorem dX10_rule_13 : decode cX10_rule 13 = .ok (.getfield 13, 3) := by decide +kernel
theorem dX10_rule_16 : decode cX10_rule 16 = .ok (.bipush 56, 2) := by decide +kernel
theorem dX10_rule_18 : decode cX10_rule 18 = .ok (.iaload, 1) := by decide +kernel
theorem dX10_rule_19 : decode cX10_rule 19 = .ok (.iconst 1, 1) := by decide +kernel
theorem dX10_rule_20 : decode cX10_rule 20 = .ok (.if_icmp .ne 5, 3) := by decide +kernel
theorem dX10_rule_23 : decode cX10_rule 23 = .ok (.iconst (-1), 1) := by decide +kernel
theorem dX10_rule_24 : decode cX10_rule 24 = .ok (.ireturn, 1) := by decide +kernel
theorem dX10_rule_25 : decode cX10_rule 25 = .ok (.aload_n 0, 1) := by decide +kernel
theorem dX10_rule_26 : decode cX10_rule 26 = .ok (.iconst 2, 1) := by decide +kernel
theorem dX10_rule_27 : decode cX10_rule 27 = .ok (.iload_n 1, 1) := by decide +kernel
theorem dX10_rule_28 : decode cX10_rule 28 = .ok (.iadd, 1) := by decide +kernel
theorem dX10_rule_29 : decode cX10_rule 29 = .ok (.iload_n 2, 1) := by decide +kernel
theorem dX10_rule_30 : decode cX10_rule 30 = .ok (.invokevirtual 90, 3) := by decide +kernel
theorem dX10_rule_33 : decode cX10_rule 33 = .ok (.ireturn, 1) := by decide +kernel
theorem dX10_begins_0 : decode cX10_begins 0 = .ok (.aload_n 0, 1) := by decide +kernel
theorem dX10_begins_1 : decode cX10_begins 1 = .ok (.getfield 13, 3) := by decide +kernel
theorem dX10_begins_4 : decode cX10_begins 4 = .ok (.bipush 56, 2) := by decide +kernel
theorem dX10_begins_6 : decode cX10_begins 6 = .ok (.iconst 1, 1) := by decide +kernel
theorem dX10_begins_7 : decode cX10_begins 7 = .ok (.iastore, 1) := by decide +kernel
theorem dX10_begins_8 : decode cX10_begins 8 = .ok (.aload_n 0, 1) := by decide +kernel
theorem dX10_begins_9 : decode cX10_begins 9 = .ok (.getfield 13, 3) := by decide +kernel
theorem dX10_begins_12 : decode cX10_begins 12 = .ok (.bipush 57, 2) := by decide +kernel
theorem dX10_begins_14 : decode cX10_begins 14 = .ok (.iconst 0, 1) := by decide +kernel
theorem dX10_begins_15 : decode cX10_begins 15 = .ok (.iastore, 1) := by decide +kernel
theorem dX10_begins_16 : decode cX10_begins 16 = .ok (.aload_n 0, 1) := by decide +kernel
theorem dX10_begins_17 : decode cX10_begins 17 = .ok (.getfield 13, 3) := by decide +kernel
theorem dX10_begins_20 : decode cX10_begins 20 = .ok (.bipush 58, 2) := by decide +kernel
theorem dX10_begins_22 : decode cX10_begins 22 = .ok (.iconst 0, 1) := by decide +kernel
theorem dX10_begins_23 : decode cX10_begins 23 = .ok (.iastore, 1) := by decide +kernel
theorem dX10_begins_24 : decode cX10_begins 24 = .ok (.aload_n 0, 1) := by decide +kernel
theorem dX10_begins_25 : decode cX10_begins 25 = .ok (.getfield 13, 3) := by decide +kernel
theorem dX10_begins_28 : decode cX10_begins 28 = .ok (.bipush 59, 2) := by decide +kernel
theorem dX10_begins_30 : decode cX10_begins 30 = .ok (.iload_n 1, 1) := by decide +kernel
theorem dX10_begins_31 : decode cX10_begins 31 = .ok (.ifCond .eq 7, 3) := by decide +kernel
theorem dX10_begins_34 : decode cX10_begins 34 = .ok (.iconst 1, 1) := by decide +kernel
theorem dX10_begins_35 : decode cX10_begins 35 = .ok (.goto 4, 3) := by decide +kernel
theorem dX10_begins_38 : decode cX10_begins 38 = .ok (.iconst 0, 1) := by decide +kernel
theorem dX10_begins_39 : decode cX10_begins 39 = .ok (.iastore, 1) := by decide +kernel
theorem dX10_begins_40 : decode cX10_begins 40 = .ok (.aload_n 0, 1) := by decide +kernel
theorem dX10_begins_41 : decode cX10_begins 41 = .ok (.getfield 13, 3) := by decide +kernel
theorem dX10_begins_44 : decode cX10_begins 44 = .ok (.bipush 68, 2) := by decide +kernel
theorem dX10_begins_46 : decode cX10_begins 46 = .ok (.aload_n 0, 1) := by decide +kernel
theorem dX10_begins_47 : decode cX10_begins 47 = .ok (.getfield 13, 3) := by decide +kernel
theorem dX10_begins_50 : decode cX10_begins 50 = .ok (.bipush 55, 2) := by decide +kernel
theorem dX10_begins_52 : decode cX10_begins 52 = .ok (.iaload, 1) := by decide +kernel
theorem dX10_begins_53 : decode cX10_begins 53 = .ok (.iastore, 1) := by decide +kernel
theorem dX10_begins_54 : decode cX10_begins 54 = .ok (.aload_n 0, 1) := by decide +kernel
theorem dX10_begins_55 : decode cX10_begins 55 = .ok (.getfield 13, 3) := by decide +kernel
theorem dX10_begins_58 : decode cX10_begins 58 = .ok (.bipush 67, 2) := by decide +kernel
theorem dX10_begins_60 : decode cX10_begins 60 = .ok (.aload_n 0, 1) := by decide +kernel
theorem dX10_begins_61 : decode cX10_begins 61 = .ok (.aload_n 0, 1) := by decide +kernel
theorem dX10_begins_62 : decode cX10_begins 62 = .ok (.getfield 13, 3) := by decide +kernel
theorem dX10_begins_65 : decode cX10_begins 65 = .ok (.bipush 55, 2) := by decide +kernel
theorem dX10_begins_67 : decode cX10_begins 67 = .ok (.iaload, 1) := by decide +kernel
theorem dX10_begins_68 : decode cX10_begins 68 = .ok (.iconst 0, 1) := by decide +kernel
theorem dX10_begins_69 : decode cX10_begins 69 = .ok (.invokevirtual 74, 3) := by decide +kernel
theorem dX10_begins_72 : decode cX10_begins 72 = .ok (.iload_n 1, 1) := by decide +kernel
theorem dX10_begins_73 : decode cX10_begins 73 = .ok (.ifCond .eq 18, 3) := by decide +kernel
theorem dX10_begins_76 : decode cX10_begins 76 = .ok (.aload_n 0, 1) := by decide +kernel
theorem dX10_begins_77 : decode cX10_begins 77 = .ok (.aload_n 0, 1) := by decide +kernel
theorem dX10_begins_78 : decode cX10_begins 78 = .ok (.getfield 13, 3) := by decide +kernel
theorem dX10_begins_81 : decode cX10_begins 81 = .ok (.bipush 55, 2) := by decide +kernel
theorem dX10_begins_83 : decode cX10_begins 83 = .ok (.iaload, 1) := by decide +kernel
theorem dX10_begins_84 : decode cX10_begins 84 = .ok (.iconst 4, 1) := by decide +kernel
theorem dX10_begins_85 : decode cX10_begins 85 = .ok (.invokevirtual 74, 3) := by decide +kernel
theorem dX10_begins_88 : decode cX10_begins 88 = .ok (.goto 4, 3) := by decide +kernel
theorem dX10_begins_91 : decode cX10_begins 91 = .ok (.iconst 0, 1) := by decide +kernel
theorem dX10_begins_92 : decode cX10_begins 92 = .ok (.iadd, 1) := by decide +kernel
theorem dX10_begins_93 : decode cX10_begins 93 = .ok (.iastore, 1) := by decide +kernel
theorem dX10_begins_94 : decode cX10_begins 94 = .ok (.aload_n 0, 1) := by decide +kernel
theorem dX10_begins_95 : decode cX10_begins 95 = .ok (.getfield 13, 3) := by decide +kernel
theorem dX10_begins_98 : decode cX10_begins 98 = .ok (.bipush 61, 2) := by decide +kernel
theorem dX10_begins_100 : decode cX10_begins 100 = .ok (.dup2, 1) := by decide +kernel
theorem dX10_begins_101 : decode cX10_begins 101 = .ok (.iaload, 1) := by decide +kernel
theorem dX10_begins_102 : decode cX10_begins 102 = .ok (.aload_n 0, 1) := by decide +kernel
theorem dX10_begins_103 : decode cX10_begins 103 = .ok (.aload_n 0, 1) := by decide +kernel
theorem dX10_begins_104 : decode cX10_begins 104 = .ok (.getfield 13, 3) := by decide +kernel
theorem dX10_begins_107 : decode cX10_begins 107 = .ok (.bipush 55, 2) := by decide +kernel
theorem dX10_begins_109 : decode cX10_begins 109 = .ok (.iaload, 1) := by decide +kernel
theorem dX10_begins_110 : decode cX10_begins 110 = .ok (.iconst 0, 1) := by decide +kernel
theorem dX10_begins_111 : decode cX10_begins 111 = .ok (.invokevirtual 74, 3) := by decide +kernel
theorem dX10_begins_114 : decode cX10_begins 114 = .ok (.iadd, 1) := by decide +kernel
theorem dX10_begins_115 : decode cX10_begins 115 = .ok (.iastore, 1) := by decide +kernel
theorem dX10_begins_116 : decode cX10_begins 116 = .ok (.aload_n 0, 1) := by decide +kernel
theorem dX10_begins_117 : decode cX10_begins 117 = .ok (.getfield 13, 3) := by decide +kernel
theorem dX10_begins_120 : decode cX10_begins 120 = .ok (.bipush 62, 2) := by decide +kernel
theorem dX10_begins_122 : decode cX10_begins 122 = .ok (.dup2, 1) := by decide +kernel
theorem dX10_begins_123 : decode cX10_begins 123 = .ok (.iaload, 1) := by decide +kernel
theorem dX10_begins_124 : decode cX10_begins 124 = .ok (.iload_n 1, 1) := by decide +kernel
theorem dX10_begins_125 : decode cX10_begins 125 = .ok (.ifCond .eq 18, 3) := by decide +kernel
theorem dX10_begins_128 : decode cX10_begins 128 = .ok (.aload_n 0, 1) := by decide +kernel
theorem dX10_begins_129 : decode cX10_begins 129 = .ok (.aload_n 0, 1) := by decide +kernel
theorem dX10_begins_130 : decode cX10_begins 130 = .ok (.getfield 13, 3) := by decide +kernel
theorem dX10_begins_133 : decode cX10_begins 133 = .ok (.bipush 55, 2) := by decide +kernel
theorem dX10_begins_135 : decode cX10_begins 135 = .ok (.iaload, 1) := by decide +kernel
theorem dX10_begins_136 : decode cX10_begins 136 = .ok (.iconst 4, 1) := by decide +kernel
theorem dX10_begins_137 : decode cX10_begins 137 = .ok (.invokevirtual 74, 3) := by decide +kernel
theorem dX10_begins_140 : decode cX10_begins 140 = .ok (.goto 4, 3) := by decide +kernel
theorem dX10_begins_143 : decode cX10_begins 143 = .ok (.iconst 0, 1) := by decide +kernel
theorem dX10_begins_144 : decode cX10_begins 144 = .ok (.iadd, 1) := by decide +kernel
theorem dX10_begins_145 : decode cX10_begins 145 = .ok (.iastore, 1) := by decide +kernel
theorem dX10_begins_146 : decode cX10_begins 146 = .ok (.return_, 1) := by decide +kernel
theorem dX10_begin_0 : decode cX10_begin 0 = .ok (.aload_n 0, 1) := by decide +kernel
theorem dX10_begin_1 : decode cX10_begin 1 = .ok (.getfield 13, 3) := by decide +kernel
theorem dX10_begin_4 : decode cX10_begin 4 = .ok (.iconst 0, 1) := by decide +kernel
theorem dX10_begin_5 : decode cX10_begin 5 = .ok (.iaload, 1) := by decide +kernel
theorem dX10_begin_6 : decode cX10_begin 6 = .ok (.ifCond .eq 14, 3) := by decide +kernel
theorem dX10_begin_9 : decode cX10_begin 9 = .ok (.aload_n 0, 1) := by decide +kernel
theorem dX10_begin_10 : decode cX10_begin 10 = .ok (.getfield 13, 3) := by decide +kernel
theorem dX10_begin_13 : decode cX10_begin 13 = .ok (.bipush 56, 2) := by decide +kernel
theorem dX10_begin_15 : decode cX10_begin 15 = .ok (.iaload, 1) := by decide +kernel
theorem dX10_begin_16 : decode cX10_begin 16 = .ok (.iconst 1, 1) := by decide +kernel
theorem dX10_begin_17 : decode cX10_begin 17 = .ok (.if_icmp .ne 5, 3) := by decide +kernel
theorem dX10_begin_20 : decode cX10_begin 20 = .ok (.iconst (-1), 1) := by decide +kernel
theorem dX10_begin_21 : decode cX10_begin 21 = .ok (.ireturn, 1) := by decide +kernel
theorem dX10_begin_22 : decode cX10_begin 22 = .ok (.aload_n 0, 1) := by decide +kernel
theorem dX10_begin_23 : decode cX10_begin 23 = .ok (.invokevirtual 81, 3) := by decide +kernel
theorem dX10_begin_26 : decode cX10_begin 26 = .ok (.aload_n 0, 1) := by decide +kernel
theorem dX10_begin_27 : decode cX10_begin 27 = .ok (.iload_n 1, 1) := by decide +kernel
theorem dX10_begin_28 : decode cX10_begin 28 = .ok (.invokevirtual 110, 3) := by decide +kernel
theorem dX10_begin_31 : decode cX10_begin 31 = .ok (.aload_n 0, 1) := by decide +kernel
theorem dX10_begin_32 : decode cX10_begin 32 = .ok (.getfield 13, 3) := by decide +kernel
theorem dX10_begin_35 : decode cX10_begin 35 = .ok (.bipush 67, 2) := by decide +kernel
theorem dX10_begin_37 : decode cX10_begin 37 = .ok (.iaload, 1) := by decide +kernel
theorem dX10_begin_38 : decode cX10_begin 38 = .ok (.ireturn, 1) := by decide +kernel
theorem dX10_writes_0 : decode cX10_writes 0 = .ok (.aload_n 0, 1) := by decide +kernel
theorem dX10_writes_1 : decode cX10_writes 1 = .ok (.getfield 13, 3) := by decide +kernel
theorem dX10_writes_4 : decode cX10_writes 4 = .ok (.iload_n 1, 1) := by decide +kernel
theorem dX10_writes_5 : decode cX10_writes 5 = .ok (.iaload, 1) := by decide +kernel
theorem dX10_writes_6 : decode cX10_writes 6 = .ok (.bipush 16, 2) := by decide +kernel
theorem dX10_writes_8 : decode cX10_writes 8 = .ok (.if_icmp .ne 53, 3) := by decide +kernel
theorem dX10_writes_11 : decode cX10_writes 11 = .ok (.iconst 3, 1) := by decide +kernel
theorem dX10_writes_12 : decode cX10_writes 12 = .ok (.istore 5, 2) := by decide +kernel
theorem dX10_writes_14 : decode cX10_writes 14 = .ok (.iload 5, 2) := by decide +kernel
theorem dX10_writes_16 : decode cX10_writes 16 = .ok (.bipush 48, 2) := by decide +kernel
theorem dX10_writes_18 : decode cX10_writes 18 = .ok (.if_icmp .ge 33, 3) := by decide +kernel
theorem dX10_writes_21 : decode cX10_writes 21 = .ok (.aload_n 0, 1) := by decide +kernel
theorem dX10_writes_22 : decode cX10_writes 22 = .ok (.getfield 13, 3) := by decide +kernel
theorem dX10_writes_25 : decode cX10_writes 25 = .ok (.iload_n 1, 1) := by decide +kernel
theorem dX10_writes_26 : decode cX10_writes 26 = .ok (.iconst 1, 1) := by decide +kernel
theorem dX10_writes_27 : decode cX10_writes 27 = .ok (.iadd, 1) := by decide +kernel
theorem dX10_writes_28 : decode cX10_writes 28 = .ok (.iload 5, 2) := by decide +kernel
theorem dX10_writes_30 : decode cX10_writes 30 = .ok (.iadd, 1) := by decide +kernel
theorem dX10_writes_31 : decode cX10_writes 31 = .ok (.iconst 3, 1) := by decide +kernel
theorem dX10_writes_32 : decode cX10_writes 32 = .ok (.isub, 1) := by decide +kernel
theorem dX10_writes_33 : decode cX10_writes 33 = .ok (.aload_n 0, 1) := by decide +kernel
theorem dX10_writes_34 : decode cX10_writes 34 = .ok (.getfield 13, 3) := by decide +kernel
theorem dX10_writes_37 : decode cX10_writes 37 = .ok (.iload_n 1, 1) := by decide +kernel
theorem dX10_writes_38 : decode cX10_writes 38 = .ok (.iconst 1, 1) := by decide +kernel
theorem dX10_writes_39 : decode cX10_writes 39 = .ok (.iadd, 1) := by decide +kernel
theorem dX10_writes_40 : decode cX10_writes 40 = .ok (.iload 5, 2) := by decide +kernel
theorem dX10_writes_42 : decode cX10_writes 42 = .ok (.iadd, 1) := by decide +kernel
theorem dX10_writes_43 : decode cX10_writes 43 = .ok (.iaload, 1) := by decide +kernel
theorem dX10_writes_44 : decode cX10_writes 44 = .ok (.iastore, 1) := by decide +kernel
theorem dX10_writes_45 : decode cX10_writes 45 = .ok (.iinc 5 1, 3) := by decide +kernel
theorem dX10_writes_48 : decode cX10_writes 48 = .ok (.goto (-34), 3) := by decide +kernel
theorem dX10_writes_51 : decode cX10_writes 51 = .ok (.aload_n 0, 1) := by decide +kernel
theorem dX10_writes_52 : decode cX10_writes 52 = .ok (.getfield 13, 3) := by decide +kernel
theorem dX10_writes_55 : decode cX10_writes 55 = .ok (.iload_n 1, 1) := by decide +kernel
theorem dX10_writes_56 : decode cX10_writes 56 = .ok (.dup2, 1) := by decide +kernel
theorem dX10_writes_57 : decode cX10_writes 57 = .ok (.iaload, 1) := by decide +kernel
theorem dX10_writes_58 : decode cX10_writes 58 = .ok (.iconst 1, 1) := by decide +kernel
theorem dX10_writes_59 : decode cX10_writes 59 = .ok (.isub, 1) := by decide +kernel
theorem dX10_writes_60 : decode cX10_writes 60 = .ok (.iastore, 1) := by decide +kernel
theorem dX10_writes_61 : decode cX10_writes 61 = .ok (.iload_n 1, 1) := by decide +kernel
theorem dX10_writes_62 : decode cX10_writes 62 = .ok (.iconst 1, 1) := by decide +kernel
theorem dX10_writes_63 : decode cX10_writes 63 = .ok (.iadd, 1) := by decide +kernel
theorem dX10_writes_64 : decode cX10_writes 64 = .ok (.iconst 3, 1) := by decide +kernel
theorem dX10_writes_65 : decode cX10_writes 65 = .ok (.aload_n 0, 1) := by decide +kernel
theorem dX10_writes_66 : decode cX10_writes 66 = .ok (.getfield 13, 3) := by decide +kernel
theorem dX10_writes_69 : decode cX10_writes 69 = .ok (.iload_n 1, 1) := by decide +kernel
theorem dX10_writes_70 : decode cX10_writes 70 = .ok (.iaload, 1) := by decide +kernel
theorem dX10_writes_71 : decode cX10_writes 71 = .ok (.imul, 1) := by decide +kernel
theorem dX10_writes_72 : decode cX10_writes 72 = .ok (.iadd, 1) := by decide +kernel
theorem dX10_writes_73 : decode cX10_writes 73 = .ok (.istore 5, 2) := by decide +kernel
theorem dX10_writes_75 : decode cX10_writes 75 = .ok (.aload_n 0, 1) := by decide +kernel
theorem dX10_writes_76 : decode cX10_writes 76 = .ok (.getfield 13, 3) := by decide +kernel
theorem dX10_writes_79 : decode cX10_writes 79 = .ok (.iload 5, 2) := by decide +kernel
theorem dX10_writes_81 : decode cX10_writes 81 = .ok (.iload_n 2, 1) := by decide +kernel
theorem dX10_writes_82 : decode cX10_writes 82 = .ok (.iastore, 1) := by decide +kernel
theorem dX10_writes_83 : decode cX10_writes 83 = .ok (.aload_n 0, 1) := by decide +kernel
theorem dX10_writes_84 : decode cX10_writes 84 = .ok (.getfield 13, 3) := by decide +kernel
theorem dX10_writes_87 : decode cX10_writes 87 = .ok (.iload 5, 2) := by decide +kernel
theorem dX10_writes_89 : decode cX10_writes 89 = .ok (.iconst 1, 1) := by decide +kernel
theorem dX10_writes_90 : decode cX10_writes 90 = .ok (.iadd, 1) := by decide +kernel
theorem dX10_writes_91 : decode cX10_writes 91 = .ok (.iload_n 3, 1) := by decide +kernel
theorem dX10_writes_92 : decode cX10_writes 92 = .ok (.iastore, 1) := by decide +kernel
theorem dX10_writes_93 : decode cX10_writes 93 = .ok (.aload_n 0, 1) := by decide +kernel
theorem dX10_writes_94 : decode cX10_writes 94 = .ok (.getfield 13, 3) := by decide +kernel
theorem dX10_writes_97 : decode cX10_writes 97 = .ok (.iload 5, 2) := by decide +kernel
theorem dX10_writes_99 : decode cX10_writes 99 = .ok (.iconst 2, 1) := by decide +kernel
theorem dX10_writes_100 : decode cX10_writes 100 = .ok (.iadd, 1) := by decide +kernel
theorem dX10_writes_101 : decode cX10_writes 101 = .ok (.iload 4, 2) := by decide +kernel
theorem dX10_writes_103 : decode cX10_writes 103 = .ok (.iastore, 1) := by decide +kernel
theorem dX10_writes_104 : decode cX10_writes 104 = .ok (.aload_n 0, 1) := by decide +kernel
theorem dX10_writes_105 : decode cX10_writes 105 = .ok (.getfield 13, 3) := by decide +kernel
theorem dX10_writes_108 : decode cX10_writes 108 = .ok (.iload_n 1, 1) := by decide +kernel
theorem dX10_writes_109 : decode cX10_writes 109 = .ok (.dup2, 1) := by decide +kernel
theorem dX10_writes_110 : decode cX10_writes 110 = .ok (.iaload, 1) := by decide +kernel
theorem dX10_writes_111 : decode cX10_writes 111 = .ok (.iconst 1, 1) := by decide +kernel
theorem dX10_writes_112 : decode cX10_writes 112 = .ok (.iadd, 1) := by decide +kernel
theorem dX10_writes_113 : decode cX10_writes 113 = .ok (.iastore, 1) := by decide +kernel
theorem dX10_writes_114 : decode cX10_writes 114 = .ok (.return_, 1) := by decide +kernel
theorem dX10_goesBy_0 : decode cX10_goesBy 0 = .ok (.aload_n 0, 1) := by decide +kernel
theorem dX10_goesBy_1 : decode cX10_goesBy 1 = .ok (.getfield 13, 3) := by decide +kernel
theorem dX10_goesBy_4 : decode cX10_goesBy 4 = .ok (.bipush 57, 2) := by decide +kernel
theorem dX10_goesBy_6 : decode cX10_goesBy 6 = .ok (.dup2, 1) := by decide +kernel
theorem dX10_goesBy_7 : decode cX10_goesBy 7 = .ok (.iaload, 1) := by decide +kernel
theorem dX10_goesBy_8 : decode cX10_goesBy 8 = .ok (.iconst 1, 1) := by decide +kernel
theorem dX10_goesBy_9 : decode cX10_goesBy 9 = .ok (.iadd, 1) := by decide +kernel
theorem dX10_goesBy_10 : decode cX10_goesBy 10 = .ok (.iastore, 1) := by decide +kernel
theorem dX10_goesBy_11 : decode cX10_goesBy 11 = .ok (.aload_n 0, 1) := by decide +kernel
theorem dX10_goesBy_12 : decode cX10_goesBy 12 = .ok (.getfield 13, 3) := by decide +kernel
theorem dX10_goesBy_15 : decode cX10_goesBy 15 = .ok (.bipush 57, 2) := by decide +kernel
theorem dX10_goesBy_17 : decode cX10_goesBy 17 = .ok (.iaload, 1) := by decide +kernel
theorem dX10_goesBy_18 : decode cX10_goesBy 18 = .ok (.aload_n 0, 1) := by decide +kernel
theorem dX10_goesBy_19 : decode cX10_goesBy 19 = .ok (.getfield 13, 3) := by decide +kernel
theorem dX10_goesBy_22 : decode cX10_goesBy 22 = .ok (.iconst 2, 1) := by decide +kernel
theorem dX10_goesBy_23 : decode cX10_goesBy 23 = .ok (.iaload, 1) := by decide +kernel
theorem dX10_goesBy_24 : decode cX10_goesBy 24 = .ok (.if_icmp .ge 4, 3) := by decide +kernel
theorem dX10_goesBy_27 : decode cX10_goesBy 27 = .ok (.return_, 1) := by decide +kernel
theorem dX10_goesBy_28 : decode cX10_goesBy 28 = .ok (.aload_n 0, 1) := by decide +kernel
theorem dX10_goesBy_29 : decode cX10_goesBy 29 = .ok (.bipush 118, 2) := by decide +kernel
theorem dX10_goesBy_31 : decode cX10_goesBy 31 = .ok (.aload_n 0, 1) := by decide +kernel
theorem dX10_goesBy_32 : decode cX10_goesBy 32 = .ok (.getfield 13, 3) := by decide +kernel
theorem dX10_goesBy_35 : decode cX10_goesBy 35 = .ok (.bipush 68, 2) := by decide +kernel
theorem dX10_goesBy_37 : decode cX10_goesBy 37 = .ok (.iaload, 1) := by decide +kernel
theorem dX10_goesBy_38 : decode cX10_goesBy 38 = .ok (.aload_n 0, 1) := by decide +kernel
theorem dX10_goesBy_39 : decode cX10_goesBy 39 = .ok (.getfield 13, 3) := by decide +kernel
theorem dX10_goesBy_42 : decode cX10_goesBy 42 = .ok (.bipush 67, 2) := by decide +kernel
theorem dX10_goesBy_44 : decode cX10_goesBy 44 = .ok (.iaload, 1) := by decide +kernel
theorem dX10_goesBy_45 : decode cX10_goesBy 45 = .ok (.aload_n 0, 1) := by decide +kernel
theorem dX10_goesBy_46 : decode cX10_goesBy 46 = .ok (.getfield 13, 3) := by decide +kernel
theorem dX10_goesBy_49 : decode cX10_goesBy 49 = .ok (.bipush 58, 2) := by decide +kernel
theorem dX10_goesBy_51 : decode cX10_goesBy 51 = .ok (.iaload, 1) := by decide +kernel
theorem dX10_goesBy_52 : decode cX10_goesBy 52 = .ok (.invokevirtual 114, 3) := by decide +kernel
theorem dX10_goesBy_55 : decode cX10_goesBy 55 = .ok (.aload_n 0, 1) := by decide +kernel
theorem dX10_goesBy_56 : decode cX10_goesBy 56 = .ok (.getfield 13, 3) := by decide +kernel
theorem dX10_goesBy_59 : decode cX10_goesBy 59 = .ok (.bipush 55, 2) := by decide +kernel
theorem dX10_goesBy_61 : decode cX10_goesBy 61 = .ok (.aload_n 0, 1) := by decide +kernel
theorem dX10_goesBy_62 : decode cX10_goesBy 62 = .ok (.aload_n 0, 1) := by decide +kernel
theorem dX10_goesBy_63 : decode cX10_goesBy 63 = .ok (.getfield 13, 3) := by decide +kernel
theorem dX10_goesBy_66 : decode cX10_goesBy 66 = .ok (.bipush 55, 2) := by decide +kernel
theorem dX10_goesBy_68 : decode cX10_goesBy 68 = .ok (.iaload, 1) := by decide +kernel
theorem dX10_goesBy_69 : decode cX10_goesBy 69 = .ok (.aload_n 0, 1) := by decide +kernel
theorem dX10_goesBy_70 : decode cX10_goesBy 70 = .ok (.getfield 13, 3) := by decide +kernel
theorem dX10_goesBy_73 : decode cX10_goesBy 73 = .ok (.bipush 58, 2) := by decide +kernel
theorem dX10_goesBy_75 : decode cX10_goesBy 75 = .ok (.iaload, 1) := by decide +kernel
theorem dX10_goesBy_76 : decode cX10_goesBy 76 = .ok (.invokevirtual 118, 3) := by decide +kernel
theorem dX10_goesBy_79 : decode cX10_goesBy 79 = .ok (.iastore, 1) := by decide +kernel
theorem dX10_goesBy_80 : decode cX10_goesBy 80 = .ok (.aload_n 0, 1) := by decide +kernel
theorem dX10_goesBy_81 : decode cX10_goesBy 81 = .ok (.getfield 13, 3) := by decide +kernel
theorem dX10_goesBy_84 : decode cX10_goesBy 84 = .ok (.bipush 60, 2) := by decide +kernel
theorem dX10_goesBy_86 : decode cX10_goesBy 86 = .ok (.dup2, 1) := by decide +kernel
theorem dX10_goesBy_87 : decode cX10_goesBy 87 = .ok (.iaload, 1) := by decide +kernel
theorem dX10_goesBy_88 : decode cX10_goesBy 88 = .ok (.iconst 1, 1) := by decide +kernel
theorem dX10_goesBy_89 : decode cX10_goesBy 89 = .ok (.iadd, 1) := by decide +kernel
theorem dX10_goesBy_90 : decode cX10_goesBy 90 = .ok (.iastore, 1) := by decide +kernel
theorem dX10_goesBy_91 : decode cX10_goesBy 91 = .ok (.aload_n 0, 1) := by decide +kernel
theorem dX10_goesBy_92 : decode cX10_goesBy 92 = .ok (.getfield 13, 3) := by decide +kernel
theorem dX10_goesBy_95 : decode cX10_goesBy 95 = .ok (.bipush 56, 2) := by decide +kernel
theorem dX10_goesBy_97 : decode cX10_goesBy 97 = .ok (.iconst 0, 1) := by decide +kernel
theorem dX10_goesBy_98 : decode cX10_goesBy 98 = .ok (.iastore, 1) := by decide +kernel
theorem dX10_goesBy_99 : decode cX10_goesBy 99 = .ok (.aload_n 0, 1) := by decide +kernel
theorem dX10_goesBy_100 : decode cX10_goesBy 100 = .ok (.getfield 13, 3) := by decide +kernel
theorem dX10_goesBy_103 : decode cX10_goesBy 103 = .ok (.bipush 57, 2) := by decide +kernel
theorem dX10_goesBy_105 : decode cX10_goesBy 105 = .ok (.iconst 0, 1) := by decide +kernel
theorem dX10_goesBy_106 : decode cX10_goesBy 106 = .ok (.iastore, 1) := by decide +kernel
theorem dX10_goesBy_107 : decode cX10_goesBy 107 = .ok (.aload_n 0, 1) := by decide +kernel
theorem dX10_goesBy_108 : decode cX10_goesBy 108 = .ok (.getfield 13, 3) := by decide +kernel
theorem dX10_goesBy_111 : decode cX10_goesBy 111 = .ok (.bipush 58, 2) := by decide +kernel
theorem dX10_goesBy_113 : decode cX10_goesBy 113 = .ok (.iconst 0, 1) := by decide +kernel
theorem dX10_goesBy_114 : decode cX10_goesBy 114 = .ok (.iastore, 1) := by decide +kernel
theorem dX10_goesBy_115 : decode cX10_goesBy 115 = .ok (.aload_n 0, 1) := by decide +kernel
theorem dX10_goesBy_116 : decode cX10_goesBy 116 = .ok (.getfield 13, 3) := by decide +kernel
theorem dX10_goesBy_119 : decode cX10_goesBy 119 = .ok (.bipush 59, 2) := by decide +kernel
theorem dX10_goesBy_121 : decode cX10_goesBy 121 = .ok (.iconst 0, 1) := by decide +kernel
theorem dX10_goesBy_122 : decode cX10_goesBy 122 = .ok (.iastore, 1) := by decide +kernel
theorem dX10_goesBy_123 : decode cX10_goesBy 123 = .ok (.return_, 1) := by decide +kernel
theorem dX10_quiet_0 : decode cX10_quiet 0 = .ok (.aload_n 0, 1) := by decide +kernel
theorem dX10_quiet_1 : decode cX10_quiet 1 = .ok (.getfield 13, 3) := by decide +kernel
theorem dX10_quiet_4 : decode cX10_quiet 4 = .ok (.bipush 56, 2) := by decide +kernel
theorem dX10_quiet_6 : decode cX10_quiet 6 = .ok (.iaload, 1) := by decide +kernel
theorem dX10_quiet_7 : decode cX10_quiet 7 = .ok (.ifCond .ne 5, 3) := by decide +kernel
theorem dX10_quiet_10 : decode cX10_quiet 10 = .ok (.iconst (-1), 1) := by decide +kernel
theorem dX10_quiet_11 : decode cX10_quiet 11 = .ok (.ireturn, 1) := by decide +kernel
theorem dX10_quiet_12 : decode cX10_quiet 12 = .ok (.aload_n 0, 1) := by decide +kernel
theorem dX10_quiet_13 : decode cX10_quiet 13 = .ok (.invokevirtual 81, 3) := by decide +kernel
theorem dX10_quiet_16 : decode cX10_quiet 16 = .ok (.aload_n 0, 1) := by decide +kernel
theorem dX10_quiet_17 : decode cX10_quiet 17 = .ok (.getfield 13, 3) := by decide +kernel
theorem dX10_quiet_20 : decode cX10_quiet 20 = .ok (.iconst 2, 1) := by decide +kernel
theorem dX10_quiet_21 : decode cX10_quiet 21 = .ok (.iaload, 1) := by decide +kernel
theorem dX10_quiet_22 : decode cX10_quiet 22 = .ok (.aload_n 0, 1) := by decide +kernel
theorem dX10_quiet_23 : decode cX10_quiet 23 = .ok (.getfield 13, 3) := by decide +kernel
theorem dX10_quiet_26 : decode cX10_quiet 26 = .ok (.bipush 57, 2) := by decide +kernel
theorem dX10_quiet_28 : decode cX10_quiet 28 = .ok (.iaload, 1) := by decide +kernel
theorem dX10_quiet_29 : decode cX10_quiet 29 = .ok (.isub, 1) := by decide +kernel
theorem dX10_quiet_30 : decode cX10_quiet 30 = .ok (.iconst 1, 1) := by decide +kernel
theorem dX10_quiet_31 : decode cX10_quiet 31 = .ok (.isub, 1) := by decide +kernel
theorem dX10_quiet_32 : decode cX10_quiet 32 = .ok (.istore_n 1, 1) := by decide +kernel
theorem dX10_quiet_33 : decode cX10_quiet 33 = .ok (.aload_n 0, 1) := by decide +kernel
theorem dX10_quiet_34 : decode cX10_quiet 34 = .ok (.invokevirtual 121, 3) := by decide +kernel
theorem dX10_quiet_37 : decode cX10_quiet 37 = .ok (.iload_n 1, 1) := by decide +kernel
theorem dX10_quiet_38 : decode cX10_quiet 38 = .ok (.ireturn, 1) := by decide +kernel
theorem dX10_loses_0 : decode cX10_loses 0 = .ok (.iload_n 2, 1) := by decide +kernel
theorem dX10_loses_1 : decode cX10_loses 1 = .ok (.ifCond .eq 11, 3) := by decide +kernel
theorem dX10_loses_4 : decode cX10_loses 4 = .ok (.aload_n 0, 1) := by decide +kernel
theorem dX10_loses_5 : decode cX10_loses 5 = .ok (.iload_n 1, 1) := by decide +kernel
theorem dX10_loses_6 : decode cX10_loses 6 = .ok (.invokevirtual 124, 3) := by decide +kernel
theorem dX10_loses_9 : decode cX10_loses 9 = .ok (.goto 8, 3) := by decide +kernel
theorem dX10_loses_12 : decode cX10_loses 12 = .ok (.aload_n 0, 1) := by decide +kernel
theorem dX10_loses_13 : decode cX10_loses 13 = .ok (.iload_n 1, 1) := by decide +kernel
theorem dX10_loses_14 : decode cX10_loses 14 = .ok (.invokevirtual 78, 3) := by decide +kernel
theorem dX10_loses_17 : decode cX10_loses 17 = .ok (.istore_n 3, 1) := by decide +kernel
theorem dX10_loses_18 : decode cX10_loses 18 = .ok (.aload_n 0, 1) := by decide +kernel
theorem dX10_loses_19 : decode cX10_loses 19 = .ok (.bipush 69, 2) := by decide +kernel
theorem dX10_loses_21 : decode cX10_loses 21 = .ok (.aload_n 0, 1) := by decide +kernel
theorem dX10_loses_22 : decode cX10_loses 22 = .ok (.getfield 13, 3) := by decide +kernel
theorem dX10_loses_25 : decode cX10_loses 25 = .ok (.bipush 60, 2) := by decide +kernel
theorem dX10_loses_27 : decode cX10_loses 27 = .ok (.iaload, 1) := by decide +kernel
theorem dX10_loses_28 : decode cX10_loses 28 = .ok (.iload_n 1, 1) := by decide +kernel
theorem dX10_loses_29 : decode cX10_loses 29 = .ok (.iload_n 2, 1) := by decide +kernel
theorem dX10_loses_30 : decode cX10_loses 30 = .ok (.ifCond .eq 7, 3) := by decide +kernel
theorem dX10_loses_33 : decode cX10_loses 33 = .ok (.iconst 1, 1) := by decide +kernel
theorem dX10_loses_34 : decode cX10_loses 34 = .ok (.goto 4, 3) := by decide +kernel
theorem dX10_loses_37 : decode cX10_loses 37 = .ok (.iconst 0, 1) := by decide +kernel
theorem dX10_loses_38 : decode cX10_loses 38 = .ok (.invokevirtual 114, 3) := by decide +kernel
theorem dX10_loses_41 : decode cX10_loses 41 = .ok (.aload_n 0, 1) := by decide +kernel
theorem dX10_loses_42 : decode cX10_loses 42 = .ok (.getfield 13, 3) := by decide +kernel
theorem dX10_loses_45 : decode cX10_loses 45 = .ok (.bipush 67, 2) := by decide +kernel
theorem dX10_loses_47 : decode cX10_loses 47 = .ok (.dup2, 1) := by decide +kernel
theorem dX10_loses_48 : decode cX10_loses 48 = .ok (.iaload, 1) := by decide +kernel
theorem dX10_loses_49 : decode cX10_loses 49 = .ok (.iload_n 3, 1) := by decide +kernel
theorem dX10_loses_50 : decode cX10_loses 50 = .ok (.iadd, 1) := by decide +kernel
theorem dX10_loses_51 : decode cX10_loses 51 = .ok (.iastore, 1) := by decide +kernel
theorem dX10_loses_52 : decode cX10_loses 52 = .ok (.iload_n 2, 1) := by decide +kernel
theorem dX10_loses_53 : decode cX10_loses 53 = .ok (.ifCond .eq 61, 3) := by decide +kernel
theorem dX10_loses_56 : decode cX10_loses 56 = .ok (.aload_n 0, 1) := by decide +kernel
theorem dX10_loses_57 : decode cX10_loses 57 = .ok (.getfield 13, 3) := by decide +kernel
theorem dX10_loses_60 : decode cX10_loses 60 = .ok (.bipush 65, 2) := by decide +kernel
theorem dX10_loses_62 : decode cX10_loses 62 = .ok (.dup2, 1) := by decide +kernel
theorem dX10_loses_63 : decode cX10_loses 63 = .ok (.iaload, 1) := by decide +kernel
theorem dX10_loses_64 : decode cX10_loses 64 = .ok (.iconst 1, 1) := by decide +kernel
theorem dX10_loses_65 : decode cX10_loses 65 = .ok (.iadd, 1) := by decide +kernel
theorem dX10_loses_66 : decode cX10_loses 66 = .ok (.iastore, 1) := by decide +kernel
theorem dX10_loses_67 : decode cX10_loses 67 = .ok (.aload_n 0, 1) := by decide +kernel
theorem dX10_loses_68 : decode cX10_loses 68 = .ok (.getfield 13, 3) := by decide +kernel
theorem dX10_loses_71 : decode cX10_loses 71 = .ok (.bipush 63, 2) := by decide +kernel
theorem dX10_loses_73 : decode cX10_loses 73 = .ok (.dup2, 1) := by decide +kernel
theorem dX10_loses_74 : decode cX10_loses 74 = .ok (.iaload, 1) := by decide +kernel
theorem dX10_loses_75 : decode cX10_loses 75 = .ok (.iload_n 3, 1) := by decide +kernel
theorem dX10_loses_76 : decode cX10_loses 76 = .ok (.iadd, 1) := by decide +kernel
theorem dX10_loses_77 : decode cX10_loses 77 = .ok (.iastore, 1) := by decide +kernel
theorem dX10_loses_78 : decode cX10_loses 78 = .ok (.aload_n 0, 1) := by decide +kernel
theorem dX10_loses_79 : decode cX10_loses 79 = .ok (.getfield 13, 3) := by decide +kernel
theorem dX10_loses_82 : decode cX10_loses 82 = .ok (.bipush 59, 2) := by decide +kernel
theorem dX10_loses_84 : decode cX10_loses 84 = .ok (.iaload, 1) := by decide +kernel
theorem dX10_loses_85 : decode cX10_loses 85 = .ok (.iconst 1, 1) := by decide +kernel
theorem dX10_loses_86 : decode cX10_loses 86 = .ok (.if_icmp .ne 14, 3) := by decide +kernel
theorem dX10_loses_89 : decode cX10_loses 89 = .ok (.aload_n 0, 1) := by decide +kernel
theorem dX10_loses_90 : decode cX10_loses 90 = .ok (.getfield 13, 3) := by decide +kernel
theorem dX10_loses_93 : decode cX10_loses 93 = .ok (.bipush 59, 2) := by decide +kernel
theorem dX10_loses_95 : decode cX10_loses 95 = .ok (.iconst 0, 1) := by decide +kernel
theorem dX10_loses_96 : decode cX10_loses 96 = .ok (.iastore, 1) := by decide +kernel
theorem dX10_loses_97 : decode cX10_loses 97 = .ok (.goto 39, 3) := by decide +kernel
theorem dX10_loses_100 : decode cX10_loses 100 = .ok (.aload_n 0, 1) := by decide +kernel
theorem dX10_loses_101 : decode cX10_loses 101 = .ok (.getfield 13, 3) := by decide +kernel
theorem dX10_loses_104 : decode cX10_loses 104 = .ok (.bipush 58, 2) := by decide +kernel
theorem dX10_loses_106 : decode cX10_loses 106 = .ok (.dup2, 1) := by decide +kernel
theorem dX10_loses_107 : decode cX10_loses 107 = .ok (.iaload, 1) := by decide +kernel
theorem dX10_loses_108 : decode cX10_loses 108 = .ok (.iconst 1, 1) := by decide +kernel
theorem dX10_loses_109 : decode cX10_loses 109 = .ok (.iadd, 1) := by decide +kernel
theorem dX10_loses_110 : decode cX10_loses 110 = .ok (.iastore, 1) := by decide +kernel
theorem dX10_loses_111 : decode cX10_loses 111 = .ok (.goto 25, 3) := by decide +kernel
theorem dX10_loses_114 : decode cX10_loses 114 = .ok (.aload_n 0, 1) := by decide +kernel
theorem dX10_loses_115 : decode cX10_loses 115 = .ok (.getfield 13, 3) := by decide +kernel
theorem dX10_loses_118 : decode cX10_loses 118 = .ok (.bipush 66, 2) := by decide +kernel
theorem dX10_loses_120 : decode cX10_loses 120 = .ok (.dup2, 1) := by decide +kernel
theorem dX10_loses_121 : decode cX10_loses 121 = .ok (.iaload, 1) := by decide +kernel
theorem dX10_loses_122 : decode cX10_loses 122 = .ok (.iconst 1, 1) := by decide +kernel
theorem dX10_loses_123 : decode cX10_loses 123 = .ok (.iadd, 1) := by decide +kernel
theorem dX10_loses_124 : decode cX10_loses 124 = .ok (.iastore, 1) := by decide +kernel
theorem dX10_loses_125 : decode cX10_loses 125 = .ok (.aload_n 0, 1) := by decide +kernel
theorem dX10_loses_126 : decode cX10_loses 126 = .ok (.getfield 13, 3) := by decide +kernel
theorem dX10_loses_129 : decode cX10_loses 129 = .ok (.bipush 64, 2) := by decide +kernel
theorem dX10_loses_131 : decode cX10_loses 131 = .ok (.dup2, 1) := by decide +kernel
theorem dX10_loses_132 : decode cX10_loses 132 = .ok (.iaload, 1) := by decide +kernel
theorem dX10_loses_133 : decode cX10_loses 133 = .ok (.iload_n 3, 1) := by decide +kernel
theorem dX10_loses_134 : decode cX10_loses 134 = .ok (.iadd, 1) := by decide +kernel
theorem dX10_loses_135 : decode cX10_loses 135 = .ok (.iastore, 1) := by decide +kernel
theorem dX10_loses_136 : decode cX10_loses 136 = .ok (.aload_n 0, 1) := by decide +kernel
theorem dX10_loses_137 : decode cX10_loses 137 = .ok (.invokevirtual 121, 3) := by decide +kernel
theorem dX10_loses_140 : decode cX10_loses 140 = .ok (.iload_n 3, 1) := by decide +kernel
theorem dX10_loses_141 : decode cX10_loses 141 = .ok (.ireturn, 1) := by decide +kernel
theorem dX10_loss_0 : decode cX10_loss 0 = .ok (.aload_n 0, 1) := by decide +kernel
theorem dX10_loss_1 : decode cX10_loss 1 = .ok (.getfield 13, 3) := by decide +kernel
theorem dX10_loss_4 : decode cX10_loss 4 = .ok (.bipush 56, 2) := by decide +kernel
theorem dX10_loss_6 : decode cX10_loss 6 = .ok (.iaload, 1) := by decide +kernel
theorem dX10_loss_7 : decode cX10_loss 7 = .ok (.ifCond .eq 11, 3) := by decide +kernel
theorem dX10_loss_10 : decode cX10_loss 10 = .ok (.aload_n 0, 1) := by decide +kernel
theorem dX10_loss_11 : decode cX10_loss 11 = .ok (.iload_n 1, 1) := by decide +kernel
theorem dX10_loss_12 : decode cX10_loss 12 = .ok (.invokevirtual 93, 3) := by decide +kernel
theorem dX10_loss_15 : decode cX10_loss 15 = .ok (.ifCond .ne 5, 3) := by decide +kernel
theorem dX10_loss_18 : decode cX10_loss 18 = .ok (.iconst (-1), 1) := by decide +kernel
theorem dX10_loss_19 : decode cX10_loss 19 = .ok (.ireturn, 1) := by decide +kernel
theorem dX10_loss_20 : decode cX10_loss 20 = .ok (.aload_n 0, 1) := by decide +kernel
theorem dX10_loss_21 : decode cX10_loss 21 = .ok (.invokevirtual 81, 3) := by decide +kernel
theorem dX10_loss_24 : decode cX10_loss 24 = .ok (.aload_n 0, 1) := by decide +kernel
theorem dX10_loss_25 : decode cX10_loss 25 = .ok (.iload_n 1, 1) := by decide +kernel
theorem dX10_loss_26 : decode cX10_loss 26 = .ok (.iload_n 2, 1) := by decide +kernel
theorem dX10_loss_27 : decode cX10_loss 27 = .ok (.invokevirtual 127, 3) := by decide +kernel
theorem dX10_loss_30 : decode cX10_loss 30 = .ok (.ireturn, 1) := by decide +kernel
theorem dX10_allPaid_0 : decode cX10_allPaid 0 = .ok (.aload_n 0, 1) := by decide +kernel
theorem dX10_allPaid_1 : decode cX10_allPaid 1 = .ok (.getfield 13, 3) := by decide +kernel
theorem dX10_allPaid_4 : decode cX10_allPaid 4 = .ok (.bipush 61, 2) := by decide +kernel
theorem dX10_allPaid_6 : decode cX10_allPaid 6 = .ok (.iaload, 1) := by decide +kernel
theorem dX10_allPaid_7 : decode cX10_allPaid 7 = .ok (.aload_n 0, 1) := by decide +kernel
theorem dX10_allPaid_8 : decode cX10_allPaid 8 = .ok (.getfield 13, 3) := by decide +kernel
theorem dX10_allPaid_11 : decode cX10_allPaid 11 = .ok (.bipush 62, 2) := by decide +kernel
theorem dX10_allPaid_13 : decode cX10_allPaid 13 = .ok (.iaload, 1) := by decide +kernel
theorem dX10_allPaid_14 : decode cX10_allPaid 14 = .ok (.iadd, 1) := by decide +kernel
theorem dX10_allPaid_15 : decode cX10_allPaid 15 = .ok (.aload_n 0, 1) := by decide +kernel
theorem dX10_allPaid_16 : decode cX10_allPaid 16 = .ok (.getfield 13, 3) := by decide +kernel
theorem dX10_allPaid_19 : decode cX10_allPaid 19 = .ok (.bipush 63, 2) := by decide +kernel
theorem dX10_allPaid_21 : decode cX10_allPaid 21 = .ok (.iaload, 1) := by decide +kernel
theorem dX10_allPaid_22 : decode cX10_allPaid 22 = .ok (.iadd, 1) := by decide +kernel
theorem dX10_allPaid_23 : decode cX10_allPaid 23 = .ok (.aload_n 0, 1) := by decide +kernel
theorem dX10_allPaid_24 : decode cX10_allPaid 24 = .ok (.getfield 13, 3) := by decide +kernel
theorem dX10_allPaid_27 : decode cX10_allPaid 27 = .ok (.bipush 64, 2) := by decide +kernel
theorem dX10_allPaid_29 : decode cX10_allPaid 29 = .ok (.iaload, 1) := by decide +kernel
theorem dX10_allPaid_30 : decode cX10_allPaid 30 = .ok (.iadd, 1) := by decide +kernel
theorem dX10_allPaid_31 : decode cX10_allPaid 31 = .ok (.ireturn, 1) := by decide +kernel
theorem dX10_draws_0 : decode cX10_draws 0 = .ok (.aload_n 0, 1) := by decide +kernel
theorem dX10_draws_1 : decode cX10_draws 1 = .ok (.aload_n 0, 1) := by decide +kernel
theorem dX10_draws_2 : decode cX10_draws 2 = .ok (.getfield 131, 3) := by decide +kernel
theorem dX10_draws_5 : decode cX10_draws 5 = .ok (.ldc 134, 2) := by decide +kernel
theorem dX10_draws_7 : decode cX10_draws 7 = .ok (.imul, 1) := by decide +kernel
theorem dX10_draws_8 : decode cX10_draws 8 = .ok (.sipush 12345, 3) := by decide +kernel
theorem dX10_draws_11 : decode cX10_draws 11 = .ok (.iadd, 1) := by decide +kernel
theorem dX10_draws_12 : decode cX10_draws 12 = .ok (.putfield 131, 3) := by decide +kernel
theorem dX10_draws_15 : decode cX10_draws 15 = .ok (.aload_n 0, 1) := by decide +kernel
theorem dX10_draws_16 : decode cX10_draws 16 = .ok (.getfield 131, 3) := by decide +kernel
theorem dX10_draws_19 : decode cX10_draws 19 = .ok (.bipush 8, 2) := by decide +kernel
theorem dX10_draws_21 : decode cX10_draws 21 = .ok (.iushr, 1) := by decide +kernel
theorem dX10_draws_22 : decode cX10_draws 22 = .ok (.iload_n 1, 1) := by decide +kernel
theorem dX10_draws_23 : decode cX10_draws 23 = .ok (.irem, 1) := by decide +kernel
theorem dX10_draws_24 : decode cX10_draws 24 = .ok (.ireturn, 1) := by decide +kernel
theorem dX10_sortDrawn_0 : decode cX10_sortDrawn 0 = .ok (.aload_n 0, 1) := by decide +kernel
theorem dX10_sortDrawn_1 : decode cX10_sortDrawn 1 = .ok (.aload_n 0, 1) := by decide +kernel
theorem dX10_sortDrawn_2 : decode cX10_sortDrawn 2 = .ok (.invokevirtual 135, 3) := by decide +kernel
theorem dX10_sortDrawn_5 : decode cX10_sortDrawn 5 = .ok (.invokevirtual 139, 3) := by decide +kernel
theorem dX10_sortDrawn_8 : decode cX10_sortDrawn 8 = .ok (.istore_n 1, 1) := by decide +kernel
theorem dX10_sortDrawn_9 : decode cX10_sortDrawn 9 = .ok (.iconst 0, 1) := by decide +kernel
theorem dX10_sortDrawn_10 : decode cX10_sortDrawn 10 = .ok (.istore_n 2, 1) := by decide +kernel
theorem dX10_sortDrawn_11 : decode cX10_sortDrawn 11 = .ok (.iload_n 1, 1) := by decide +kernel
theorem dX10_sortDrawn_12 : decode cX10_sortDrawn 12 = .ok (.aload_n 0, 1) := by decide +kernel
theorem dX10_sortDrawn_13 : decode cX10_sortDrawn 13 = .ok (.iload_n 2, 1) := by decide +kernel
theorem dX10_sortDrawn_14 : decode cX10_sortDrawn 14 = .ok (.invokevirtual 70, 3) := by decide +kernel
theorem dX10_sortDrawn_17 : decode cX10_sortDrawn 17 = .ok (.if_icmp .lt 17, 3) := by decide +kernel
theorem dX10_sortDrawn_20 : decode cX10_sortDrawn 20 = .ok (.iload_n 1, 1) := by decide +kernel
theorem dX10_sortDrawn_21 : decode cX10_sortDrawn 21 = .ok (.aload_n 0, 1) := by decide +kernel
theorem dX10_sortDrawn_22 : decode cX10_sortDrawn 22 = .ok (.iload_n 2, 1) := by decide +kernel
theorem dX10_sortDrawn_23 : decode cX10_sortDrawn 23 = .ok (.invokevirtual 70, 3) := by decide +kernel
theorem dX10_sortDrawn_26 : decode cX10_sortDrawn 26 = .ok (.isub, 1) := by decide +kernel
theorem dX10_sortDrawn_27 : decode cX10_sortDrawn 27 = .ok (.istore_n 1, 1) := by decide +kernel
theorem dX10_sortDrawn_28 : decode cX10_sortDrawn 28 = .ok (.iinc 2 1, 3) := by decide +kernel
theorem dX10_sortDrawn_31 : decode cX10_sortDrawn 31 = .ok (.goto (-20), 3) := by decide +kernel
theorem dX10_sortDrawn_34 : decode cX10_sortDrawn 34 = .ok (.iload_n 2, 1) := by decide +kernel
theorem dX10_sortDrawn_35 : decode cX10_sortDrawn 35 = .ok (.ireturn, 1) := by decide +kernel
theorem dX10_lives_0 : decode cX10_lives 0 = .ok (.aload_n 0, 1) := by decide +kernel
theorem dX10_lives_1 : decode cX10_lives 1 = .ok (.iload 4, 2) := by decide +kernel
theorem dX10_lives_3 : decode cX10_lives 3 = .ok (.putfield 131, 3) := by decide +kernel
theorem dX10_lives_6 : decode cX10_lives 6 = .ok (.iload_n 2, 1) := by decide +kernel
theorem dX10_lives_7 : decode cX10_lives 7 = .ok (.ifCond .ne 11, 3) := by decide +kernel
theorem dX10_lives_10 : decode cX10_lives 10 = .ok (.aload_n 0, 1) := by decide +kernel
theorem dX10_lives_11 : decode cX10_lives 11 = .ok (.iload_n 1, 1) := by decide +kernel
theorem dX10_lives_12 : decode cX10_lives 12 = .ok (.iconst 1, 1) := by decide +kernel
theorem dX10_lives_13 : decode cX10_lives 13 = .ok (.iconst 0, 1) := by decide +kernel
theorem dX10_lives_14 : decode cX10_lives 14 = .ok (.iconst 0, 1) := by decide +kernel
theorem dX10_lives_15 : decode cX10_lives 15 = .ok (.invokevirtual 142, 3) := by decide +kernel
theorem dX10_lives_18 : decode cX10_lives 18 = .ok (.iload_n 1, 1) := by decide +kernel
theorem dX10_lives_19 : decode cX10_lives 19 = .ok (.istore 5, 2) := by decide +kernel
theorem dX10_lives_21 : decode cX10_lives 21 = .ok (.iload 5, 2) := by decide +kernel
theorem dX10_lives_23 : decode cX10_lives 23 = .ok (.ifCond .le 175, 3) := by decide +kernel
theorem dX10_lives_26 : decode cX10_lives 26 = .ok (.aload_n 0, 1) := by decide +kernel
theorem dX10_lives_27 : decode cX10_lives 27 = .ok (.iload_n 2, 1) := by decide +kernel
theorem dX10_lives_28 : decode cX10_lives 28 = .ok (.ifCond .ne 23, 3) := by decide +kernel
theorem dX10_lives_31 : decode cX10_lives 31 = .ok (.aload_n 0, 1) := by decide +kernel
theorem dX10_lives_32 : decode cX10_lives 32 = .ok (.iload 5, 2) := by decide +kernel
theorem dX10_lives_34 : decode cX10_lives 34 = .ok (.aload_n 0, 1) := by decide +kernel
theorem dX10_lives_35 : decode cX10_lives 35 = .ok (.getfield 13, 3) := by decide +kernel
theorem dX10_lives_38 : decode cX10_lives 38 = .ok (.bipush 55, 2) := by decide +kernel
theorem dX10_lives_40 : decode cX10_lives 40 = .ok (.iaload, 1) := by decide +kernel
theorem dX10_lives_41 : decode cX10_lives 41 = .ok (.invokevirtual 146, 3) := by decide +kernel
theorem dX10_lives_44 : decode cX10_lives 44 = .ok (.ifCond .eq 7, 3) := by decide +kernel
theorem dX10_lives_47 : decode cX10_lives 47 = .ok (.iconst 1, 1) := by decide +kernel
theorem dX10_lives_48 : decode cX10_lives 48 = .ok (.goto 4, 3) := by decide +kernel
theorem dX10_lives_51 : decode cX10_lives 51 = .ok (.iconst 0, 1) := by decide +kernel
theorem dX10_lives_52 : decode cX10_lives 52 = .ok (.invokevirtual 110, 3) := by decide +kernel
theorem dX10_lives_55 : decode cX10_lives 55 = .ok (.aload_n 0, 1) := by decide +kernel
theorem dX10_lives_56 : decode cX10_lives 56 = .ok (.getfield 13, 3) := by decide +kernel
theorem dX10_lives_59 : decode cX10_lives 59 = .ok (.iconst 2, 1) := by decide +kernel
theorem dX10_lives_60 : decode cX10_lives 60 = .ok (.iaload, 1) := by decide +kernel
theorem dX10_lives_61 : decode cX10_lives 61 = .ok (.istore 6, 2) := by decide +kernel
theorem dX10_lives_63 : decode cX10_lives 63 = .ok (.iconst 0, 1) := by decide +kernel
theorem dX10_lives_64 : decode cX10_lives 64 = .ok (.istore 7, 2) := by decide +kernel
theorem dX10_lives_66 : decode cX10_lives 66 = .ok (.iload 7, 2) := by decide +kernel
theorem dX10_lives_68 : decode cX10_lives 68 = .ok (.iload 6, 2) := by decide +kernel
theorem dX10_lives_70 : decode cX10_lives 70 = .ok (.if_icmp .ge 122, 3) := by decide +kernel
theorem dX10_lives_73 : decode cX10_lives 73 = .ok (.aload_n 0, 1) := by decide +kernel
theorem dX10_lives_74 : decode cX10_lives 74 = .ok (.bipush 12, 2) := by decide +kernel
theorem dX10_lives_76 : decode cX10_lives 76 = .ok (.invokevirtual 139, 3) := by decide +kernel
theorem dX10_lives_79 : decode cX10_lives 79 = .ok (.aload_n 0, 1) := by decide +kernel
theorem dX10_lives_80 : decode cX10_lives 80 = .ok (.getfield 13, 3) := by decide +kernel
theorem dX10_lives_83 : decode cX10_lives 83 = .ok (.iconst 3, 1) := by decide +kernel
theorem dX10_lives_84 : decode cX10_lives 84 = .ok (.iaload, 1) := by decide +kernel
theorem dX10_lives_85 : decode cX10_lives 85 = .ok (.if_icmp .lt 10, 3) := by decide +kernel
theorem dX10_lives_88 : decode cX10_lives 88 = .ok (.aload_n 0, 1) := by decide +kernel
theorem dX10_lives_89 : decode cX10_lives 89 = .ok (.invokevirtual 121, 3) := by decide +kernel
theorem dX10_lives_92 : decode cX10_lives 92 = .ok (.goto 94, 3) := by decide +kernel
theorem dX10_lives_95 : decode cX10_lives 95 = .ok (.aload_n 0, 1) := by decide +kernel
theorem dX10_lives_96 : decode cX10_lives 96 = .ok (.invokevirtual 149, 3) := by decide +kernel
theorem dX10_lives_99 : decode cX10_lives 99 = .ok (.istore 8, 2) := by decide +kernel
theorem dX10_lives_101 : decode cX10_lives 101 = .ok (.iload_n 2, 1) := by decide +kernel
theorem dX10_lives_102 : decode cX10_lives 102 = .ok (.iconst 1, 1) := by decide +kernel
theorem dX10_lives_103 : decode cX10_lives 103 = .ok (.if_icmp .eq 18, 3) := by decide +kernel
theorem dX10_lives_106 : decode cX10_lives 106 = .ok (.iload_n 2, 1) := by decide +kernel
theorem dX10_lives_107 : decode cX10_lives 107 = .ok (.iconst 3, 1) := by decide +kernel
theorem dX10_lives_108 : decode cX10_lives 108 = .ok (.if_icmp .ne 17, 3) := by decide +kernel
theorem dX10_lives_111 : decode cX10_lives 111 = .ok (.aload_n 0, 1) := by decide +kernel
theorem dX10_lives_112 : decode cX10_lives 112 = .ok (.iload 8, 2) := by decide +kernel
theorem dX10_lives_114 : decode cX10_lives 114 = .ok (.invokevirtual 78, 3) := by decide +kernel
theorem dX10_lives_117 : decode cX10_lives 117 = .ok (.iload_n 3, 1) := by decide +kernel
theorem dX10_lives_118 : decode cX10_lives 118 = .ok (.if_icmp .le 7, 3) := by decide +kernel
theorem dX10_lives_121 : decode cX10_lives 121 = .ok (.iconst 1, 1) := by decide +kernel
theorem dX10_lives_122 : decode cX10_lives 122 = .ok (.goto 4, 3) := by decide +kernel
theorem dX10_lives_125 : decode cX10_lives 125 = .ok (.iconst 0, 1) := by decide +kernel
theorem dX10_lives_126 : decode cX10_lives 126 = .ok (.istore 9, 2) := by decide +kernel
theorem dX10_lives_128 : decode cX10_lives 128 = .ok (.iload_n 2, 1) := by decide +kernel
theorem dX10_lives_129 : decode cX10_lives 129 = .ok (.ifCond .ne 47, 3) := by decide +kernel
theorem dX10_lives_132 : decode cX10_lives 132 = .ok (.aload_n 0, 1) := by decide +kernel
theorem dX10_lives_133 : decode cX10_lives 133 = .ok (.iload 5, 2) := by decide +kernel
theorem dX10_lives_135 : decode cX10_lives 135 = .ok (.aload_n 0, 1) := by decide +kernel
theorem dX10_lives_136 : decode cX10_lives 136 = .ok (.getfield 13, 3) := by decide +kernel
theorem dX10_lives_139 : decode cX10_lives 139 = .ok (.bipush 55, 2) := by decide +kernel
theorem dX10_lives_141 : decode cX10_lives 141 = .ok (.iaload, 1) := by decide +kernel
theorem dX10_lives_142 : decode cX10_lives 142 = .ok (.invokevirtual 152, 3) := by decide +kernel
theorem dX10_lives_145 : decode cX10_lives 145 = .ok (.aload_n 0, 1) := by decide +kernel
theorem dX10_lives_146 : decode cX10_lives 146 = .ok (.iload 8, 2) := by decide +kernel
theorem dX10_lives_148 : decode cX10_lives 148 = .ok (.iload 7, 2) := by decide +kernel
theorem dX10_lives_150 : decode cX10_lives 150 = .ok (.aload_n 0, 1) := by decide +kernel
theorem dX10_lives_151 : decode cX10_lives 151 = .ok (.invokevirtual 156, 3) := by decide +kernel
theorem dX10_lives_154 : decode cX10_lives 154 = .ok (.aload_n 0, 1) := by decide +kernel
theorem dX10_lives_155 : decode cX10_lives 155 = .ok (.getfield 13, 3) := by decide +kernel
theorem dX10_lives_158 : decode cX10_lives 158 = .ok (.bipush 59, 2) := by decide +kernel
theorem dX10_lives_160 : decode cX10_lives 160 = .ok (.iaload, 1) := by decide +kernel
theorem dX10_lives_161 : decode cX10_lives 161 = .ok (.invokevirtual 159, 3) := by decide +kernel
theorem dX10_lives_164 : decode cX10_lives 164 = .ok (.lconst 0, 1) := by decide +kernel
theorem dX10_lives_165 : decode cX10_lives 165 = .ok (.lcmp, 1) := by decide +kernel
theorem dX10_lives_166 : decode cX10_lives 166 = .ok (.ifCond .le 7, 3) := by decide +kernel
theorem dX10_lives_169 : decode cX10_lives 169 = .ok (.iconst 1, 1) := by decide +kernel
theorem dX10_lives_170 : decode cX10_lives 170 = .ok (.goto 4, 3) := by decide +kernel
theorem dX10_lives_173 : decode cX10_lives 173 = .ok (.iconst 0, 1) := by decide +kernel
theorem dX10_lives_174 : decode cX10_lives 174 = .ok (.istore 9, 2) := by decide +kernel
theorem dX10_lives_176 : decode cX10_lives 176 = .ok (.aload_n 0, 1) := by decide +kernel
theorem dX10_lives_177 : decode cX10_lives 177 = .ok (.iload 8, 2) := by decide +kernel
theorem dX10_lives_179 : decode cX10_lives 179 = .ok (.iload 9, 2) := by decide +kernel
theorem dX10_lives_181 : decode cX10_lives 181 = .ok (.invokevirtual 127, 3) := by decide +kernel
theorem dX10_lives_184 : decode cX10_lives 184 = .ok (.istore 10, 2) := by decide +kernel
theorem dX10_lives_186 : decode cX10_lives 186 = .ok (.iinc 7 1, 3) := by decide +kernel
theorem dX10_lives_189 : decode cX10_lives 189 = .ok (.goto (-123), 3) := by decide +kernel
theorem dX10_lives_192 : decode cX10_lives 192 = .ok (.iinc 5 (-1), 3) := by decide +kernel
theorem dX10_lives_195 : decode cX10_lives 195 = .ok (.goto (-174), 3) := by decide +kernel
theorem dX10_lives_198 : decode cX10_lives 198 = .ok (.return_, 1) := by decide +kernel
theorem dX10_countedNow_0 : decode cX10_countedNow 0 = .ok (.aload_n 0, 1) := by decide +kernel
theorem dX10_countedNow_1 : decode cX10_countedNow 1 = .ok (.getfield 13, 3) := by decide +kernel
theorem dX10_countedNow_4 : decode cX10_countedNow 4 = .ok (.bipush 58, 2) := by decide +kernel
theorem dX10_countedNow_6 : decode cX10_countedNow 6 = .ok (.iaload, 1) := by decide +kernel
theorem dX10_countedNow_7 : decode cX10_countedNow 7 = .ok (.iconst 2, 1) := by decide +kernel
theorem dX10_countedNow_8 : decode cX10_countedNow 8 = .ok (.if_icmp .le 7, 3) := by decide +kernel
theorem dX10_countedNow_11 : decode cX10_countedNow 11 = .ok (.iconst 2, 1) := by decide +kernel
theorem dX10_countedNow_12 : decode cX10_countedNow 12 = .ok (.goto 10, 3) := by decide +kernel
theorem dX10_countedNow_15 : decode cX10_countedNow 15 = .ok (.aload_n 0, 1) := by decide +kernel
theorem dX10_countedNow_16 : decode cX10_countedNow 16 = .ok (.getfield 13, 3) := by decide +kernel
theorem dX10_countedNow_19 : decode cX10_countedNow 19 = .ok (.bipush 58, 2) := by decide +kernel
theorem dX10_countedNow_21 : decode cX10_countedNow 21 = .ok (.iaload, 1) := by decide +kernel
theorem dX10_countedNow_22 : decode cX10_countedNow 22 = .ok (.ireturn, 1) := by decide +kernel
theorem dX10_isLived_0 : decode cX10_isLived 0 = .ok (.iload_n 0, 1) := by decide +kernel
theorem dX10_isLived_1 : decode cX10_isLived 1 = .ok (.i2l, 1) := by decide +kernel
theorem dX10_isLived_2 : decode cX10_isLived 2 = .ok (.lconst 1, 1) := by decide +kernel
theorem dX10_isLived_3 : decode cX10_isLived 3 = .ok (.ldc2_w 163, 3) := by decide +kernel
theorem dX10_isLived_6 : decode cX10_isLived 6 = .ok (.invokestatic 66, 3) := by decide +kernel
theorem dX10_isLived_9 : decode cX10_isLived 9 = .ok (.ifCond .eq 40, 3) := by decide +kernel
theorem dX10_isLived_12 : decode cX10_isLived 12 = .ok (.iload_n 1, 1) := by decide +kernel
theorem dX10_isLived_13 : decode cX10_isLived 13 = .ok (.i2l, 1) := by decide +kernel
theorem dX10_isLived_14 : decode cX10_isLived 14 = .ok (.lconst 0, 1) := by decide +kernel
theorem dX10_isLived_15 : decode cX10_isLived 15 = .ok (.ldc2_w 100, 3) := by decide +kernel
theorem dX10_isLived_18 : decode cX10_isLived 18 = .ok (.invokestatic 66, 3) := by decide +kernel
theorem dX10_isLived_21 : decode cX10_isLived 21 = .ok (.ifCond .eq 28, 3) := by decide +kernel
theorem dX10_isLived_24 : decode cX10_isLived 24 = .ok (.iload_n 2, 1) := by decide +kernel
theorem dX10_isLived_25 : decode cX10_isLived 25 = .ok (.i2l, 1) := by decide +kernel
theorem dX10_isLived_26 : decode cX10_isLived 26 = .ok (.lconst 0, 1) := by decide +kernel
theorem dX10_isLived_27 : decode cX10_isLived 27 = .ok (.iload_n 1, 1) := by decide +kernel
theorem dX10_isLived_28 : decode cX10_isLived 28 = .ok (.iconst 3, 1) := by decide +kernel
theorem dX10_isLived_29 : decode cX10_isLived 29 = .ok (.if_icmp .ne 9, 3) := by decide +kernel
theorem dX10_isLived_32 : decode cX10_isLived 32 = .ok (.ldc2_w 96, 3) := by decide +kernel
theorem dX10_isLived_35 : decode cX10_isLived 35 = .ok (.goto 4, 3) := by decide +kernel
theorem dX10_isLived_38 : decode cX10_isLived 38 = .ok (.lconst 0, 1) := by decide +kernel
theorem dX10_isLived_39 : decode cX10_isLived 39 = .ok (.invokestatic 66, 3) := by decide +kernel
theorem dX10_isLived_42 : decode cX10_isLived 42 = .ok (.ifCond .eq 7, 3) := by decide +kernel
theorem dX10_isLived_45 : decode cX10_isLived 45 = .ok (.iconst 1, 1) := by decide +kernel
theorem dX10_isLived_46 : decode cX10_isLived 46 = .ok (.goto 4, 3) := by decide +kernel
theorem dX10_isLived_49 : decode cX10_isLived 49 = .ok (.iconst 0, 1) := by decide +kernel
theorem dX10_isLived_50 : decode cX10_isLived 50 = .ok (.ireturn, 1) := by decide +kernel
theorem dX10_live_0 : decode cX10_live 0 = .ok (.aload_n 0, 1) := by decide +kernel
theorem dX10_live_1 : decode cX10_live 1 = .ok (.getfield 13, 3) := by decide +kernel
theorem dX10_live_4 : decode cX10_live 4 = .ok (.iconst 0, 1) := by decide +kernel
theorem dX10_live_5 : decode cX10_live 5 = .ok (.iaload, 1) := by decide +kernel
theorem dX10_live_6 : decode cX10_live 6 = .ok (.ifCond .eq 23, 3) := by decide +kernel
theorem dX10_live_9 : decode cX10_live 9 = .ok (.aload_n 0, 1) := by decide +kernel
theorem dX10_live_10 : decode cX10_live 10 = .ok (.getfield 13, 3) := by decide +kernel
theorem dX10_live_13 : decode cX10_live 13 = .ok (.bipush 56, 2) := by decide +kernel
theorem dX10_live_15 : decode cX10_live 15 = .ok (.iaload, 1) := by decide +kernel
theorem dX10_live_16 : decode cX10_live 16 = .ok (.iconst 1, 1) := by decide +kernel
theorem dX10_live_17 : decode cX10_live 17 = .ok (.if_icmp .eq 12, 3) := by decide +kernel
theorem dX10_live_20 : decode cX10_live 20 = .ok (.iload_n 1, 1) := by decide +kernel
theorem dX10_live_21 : decode cX10_live 21 = .ok (.iload_n 2, 1) := by decide +kernel
theorem dX10_live_22 : decode cX10_live 22 = .ok (.iload_n 3, 1) := by decide +kernel
theorem dX10_live_23 : decode cX10_live 23 = .ok (.invokestatic 165, 3) := by decide +kernel
theorem dX10_live_26 : decode cX10_live 26 = .ok (.ifCond .ne 5, 3) := by decide +kernel
theorem dX10_live_29 : decode cX10_live 29 = .ok (.iconst (-1), 1) := by decide +kernel
theorem dX10_live_30 : decode cX10_live 30 = .ok (.ireturn, 1) := by decide +kernel
theorem dX10_live_31 : decode cX10_live 31 = .ok (.aload_n 0, 1) := by decide +kernel
theorem dX10_live_32 : decode cX10_live 32 = .ok (.invokevirtual 81, 3) := by decide +kernel
theorem dX10_live_35 : decode cX10_live 35 = .ok (.aload_n 0, 1) := by decide +kernel
theorem dX10_live_36 : decode cX10_live 36 = .ok (.invokevirtual 169, 3) := by decide +kernel
theorem dX10_live_39 : decode cX10_live 39 = .ok (.istore 5, 2) := by decide +kernel
theorem dX10_live_41 : decode cX10_live 41 = .ok (.aload_n 0, 1) := by decide +kernel
theorem dX10_live_42 : decode cX10_live 42 = .ok (.iload_n 1, 1) := by decide +kernel
theorem dX10_live_43 : decode cX10_live 43 = .ok (.iload_n 2, 1) := by decide +kernel
theorem dX10_live_44 : decode cX10_live 44 = .ok (.iload_n 3, 1) := by decide +kernel
theorem dX10_live_45 : decode cX10_live 45 = .ok (.iload 4, 2) := by decide +kernel
theorem dX10_live_47 : decode cX10_live 47 = .ok (.invokevirtual 172, 3) := by decide +kernel
theorem dX10_live_50 : decode cX10_live 50 = .ok (.aload_n 0, 1) := by decide +kernel
theorem dX10_live_51 : decode cX10_live 51 = .ok (.invokevirtual 169, 3) := by decide +kernel
theorem dX10_live_54 : decode cX10_live 54 = .ok (.iload 5, 2) := by decide +kernel
theorem dX10_live_56 : decode cX10_live 56 = .ok (.isub, 1) := by decide +kernel
theorem dX10_live_57 : decode cX10_live 57 = .ok (.ireturn, 1) := by decide +kernel
theorem dX10_come_0 : decode cX10_come 0 = .ok (.aload_n 0, 1) := by decide +kernel
theorem dX10_come_1 : decode cX10_come 1 = .ok (.getfield 13, 3) := by decide +kernel
theorem dX10_come_4 : decode cX10_come 4 = .ok (.iconst 0, 1) := by decide +kernel
theorem dX10_come_5 : decode cX10_come 5 = .ok (.iaload, 1) := by decide +kernel
theorem dX10_come_6 : decode cX10_come 6 = .ok (.ifCond .eq 37, 3) := by decide +kernel
theorem dX10_come_9 : decode cX10_come 9 = .ok (.iload_n 1, 1) := by decide +kernel
theorem dX10_come_10 : decode cX10_come 10 = .ok (.i2l, 1) := by decide +kernel
theorem dX10_come_11 : decode cX10_come 11 = .ok (.lconst 1, 1) := by decide +kernel
theorem dX10_come_12 : decode cX10_come 12 = .ok (.ldc2_w 96, 3) := by decide +kernel
theorem dX10_come_15 : decode cX10_come 15 = .ok (.invokestatic 66, 3) := by decide +kernel
theorem dX10_come_18 : decode cX10_come 18 = .ok (.ifCond .eq 25, 3) := by decide +kernel
theorem dX10_come_21 : decode cX10_come 21 = .ok (.iload_n 2, 1) := by decide +kernel
theorem dX10_come_22 : decode cX10_come 22 = .ok (.i2l, 1) := by decide +kernel
theorem dX10_come_23 : decode cX10_come 23 = .ok (.lconst 1, 1) := by decide +kernel
theorem dX10_come_24 : decode cX10_come 24 = .ok (.ldc2_w 98, 3) := by decide +kernel
theorem dX10_come_27 : decode cX10_come 27 = .ok (.invokestatic 66, 3) := by decide +kernel
theorem dX10_come_30 : decode cX10_come 30 = .ok (.ifCond .eq 13, 3) := by decide +kernel
theorem dX10_come_33 : decode cX10_come 33 = .ok (.aload_n 0, 1) := by decide +kernel
theorem dX10_come_34 : decode cX10_come 34 = .ok (.getfield 13, 3) := by decide +kernel
theorem dX10_come_37 : decode cX10_come 37 = .ok (.iconst 1, 1) := by decide +kernel
theorem dX10_come_38 : decode cX10_come 38 = .ok (.iaload, 1) := by decide +kernel
theorem dX10_come_39 : decode cX10_come 39 = .ok (.iconst 5, 1) := by decide +kernel
theorem dX10_come_40 : decode cX10_come 40 = .ok (.if_icmp .ne 5, 3) := by decide +kernel
theorem dX10_come_43 : decode cX10_come 43 = .ok (.iconst (-1), 1) := by decide +kernel
theorem dX10_come_44 : decode cX10_come 44 = .ok (.ireturn, 1) := by decide +kernel
theorem dX10_come_45 : decode cX10_come 45 = .ok (.aload_n 0, 1) := by decide +kernel
theorem dX10_come_46 : decode cX10_come 46 = .ok (.invokevirtual 81, 3) := by decide +kernel
theorem dX10_come_49 : decode cX10_come 49 = .ok (.aload_n 0, 1) := by decide +kernel
theorem dX10_come_50 : decode cX10_come 50 = .ok (.getfield 13, 3) := by decide +kernel
theorem dX10_come_53 : decode cX10_come 53 = .ok (.bipush 45, 2) := by decide +kernel
theorem dX10_come_55 : decode cX10_come 55 = .ok (.iconst 2, 1) := by decide +kernel
theorem dX10_come_56 : decode cX10_come 56 = .ok (.aload_n 0, 1) := by decide +kernel
theorem dX10_come_57 : decode cX10_come 57 = .ok (.getfield 13, 3) := by decide +kernel
theorem dX10_come_60 : decode cX10_come 60 = .ok (.iconst 1, 1) := by decide +kernel
theorem dX10_come_61 : decode cX10_come 61 = .ok (.iaload, 1) := by decide +kernel
theorem dX10_come_62 : decode cX10_come 62 = .ok (.imul, 1) := by decide +kernel
theorem dX10_come_63 : decode cX10_come 63 = .ok (.iadd, 1) := by decide +kernel
theorem dX10_come_64 : decode cX10_come 64 = .ok (.iload_n 1, 1) := by decide +kernel
theorem dX10_come_65 : decode cX10_come 65 = .ok (.iastore, 1) := by decide +kernel
theorem dX10_come_66 : decode cX10_come 66 = .ok (.aload_n 0, 1) := by decide +kernel
theorem dX10_come_67 : decode cX10_come 67 = .ok (.getfield 13, 3) := by decide +kernel
theorem dX10_come_70 : decode cX10_come 70 = .ok (.bipush 45, 2) := by decide +kernel
theorem dX10_come_72 : decode cX10_come 72 = .ok (.iconst 2, 1) := by decide +kernel
theorem dX10_come_73 : decode cX10_come 73 = .ok (.aload_n 0, 1) := by decide +kernel
theorem dX10_come_74 : decode cX10_come 74 = .ok (.getfield 13, 3) := by decide +kernel
theorem dX10_come_77 : decode cX10_come 77 = .ok (.iconst 1, 1) := by decide +kernel
theorem dX10_come_78 : decode cX10_come 78 = .ok (.iaload, 1) := by decide +kernel
theorem dX10_come_79 : decode cX10_come 79 = .ok (.imul, 1) := by decide +kernel
theorem dX10_come_80 : decode cX10_come 80 = .ok (.iadd, 1) := by decide +kernel
theorem dX10_come_81 : decode cX10_come 81 = .ok (.iconst 1, 1) := by decide +kernel
