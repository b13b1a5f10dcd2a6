/-! THE LAW'S CASES -/
theorem dL_law_0 : decode cL_law 0 = .ok (.new 7, 3) := by decide +kernel
theorem dL_law_3 : decode cL_law 3 = .ok (.dup, 1) := by decide +kernel
theorem dL_law_4 : decode cL_law 4 = .ok (.invokespecial 9, 3) := by decide +kernel
theorem dL_law_7 : decode cL_law 7 = .ok (.astore_n 1, 1) := by decide +kernel
theorem dL_law_8 : decode cL_law 8 = .ok (.new 10, 3) := by decide +kernel
theorem dL_law_11 : decode cL_law 11 = .ok (.dup, 1) := by decide +kernel
theorem dL_law_12 : decode cL_law 12 = .ok (.invokespecial 12, 3) := by decide +kernel
theorem dL_law_15 : decode cL_law 15 = .ok (.astore_n 2, 1) := by decide +kernel
theorem dL_law_16 : decode cL_law 16 = .ok (.iconst 0, 1) := by decide +kernel
theorem dL_law_17 : decode cL_law 17 = .ok (.istore_n 3, 1) := by decide +kernel
theorem dL_law_18 : decode cL_law 18 = .ok (.iload_n 3, 1) := by decide +kernel
theorem dL_law_19 : decode cL_law 19 = .ok (.aload_n 0, 1) := by decide +kernel
theorem dL_law_20 : decode cL_law 20 = .ok (.arraylength, 1) := by decide +kernel
theorem dL_law_21 : decode cL_law 21 = .ok (.bipush 6, 2) := by decide +kernel
theorem dL_law_23 : decode cL_law 23 = .ok (.isub, 1) := by decide +kernel
theorem dL_law_24 : decode cL_law 24 = .ok (.if_icmp .gt 469, 3) := by decide +kernel
theorem dL_law_27 : decode cL_law 27 = .ok (.aload_n 0, 1) := by decide +kernel
theorem dL_law_28 : decode cL_law 28 = .ok (.iload_n 3, 1) := by decide +kernel
theorem dL_law_29 : decode cL_law 29 = .ok (.iaload, 1) := by decide +kernel
theorem dL_law_30 : decode cL_law 30 = .ok (.bipush 15, 2) := by decide +kernel
theorem dL_law_32 : decode cL_law 32 = .ok (.iand, 1) := by decide +kernel
theorem dL_law_33 : decode cL_law 33 = .ok (.tableswitch 454 0 14 #[75, 138, 151, 174, 188, 201, 214, 227, 250, 273, 297, 330, 364, 398, 431], 75) := by decide +kernel
theorem dL_law_108 : decode cL_law 108 = .ok (.aload_n 1, 1) := by decide +kernel
theorem dL_law_109 : decode cL_law 109 = .ok (.aload_n 0, 1) := by decide +kernel
theorem dL_law_110 : decode cL_law 110 = .ok (.iload_n 3, 1) := by decide +kernel
theorem dL_law_111 : decode cL_law 111 = .ok (.iconst 1, 1) := by decide +kernel
theorem dL_law_112 : decode cL_law 112 = .ok (.iadd, 1) := by decide +kernel
theorem dL_law_113 : decode cL_law 113 = .ok (.iaload, 1) := by decide +kernel
theorem dL_law_114 : decode cL_law 114 = .ok (.aload_n 0, 1) := by decide +kernel
theorem dL_law_115 : decode cL_law 115 = .ok (.iload_n 3, 1) := by decide +kernel
theorem dL_law_116 : decode cL_law 116 = .ok (.iconst 2, 1) := by decide +kernel
theorem dL_law_117 : decode cL_law 117 = .ok (.iadd, 1) := by decide +kernel
theorem dL_law_118 : decode cL_law 118 = .ok (.iaload, 1) := by decide +kernel
theorem dL_law_119 : decode cL_law 119 = .ok (.aload_n 0, 1) := by decide +kernel
theorem dL_law_120 : decode cL_law 120 = .ok (.iload_n 3, 1) := by decide +kernel
theorem dL_law_121 : decode cL_law 121 = .ok (.iconst 3, 1) := by decide +kernel
theorem dL_law_122 : decode cL_law 122 = .ok (.iadd, 1) := by decide +kernel
theorem dL_law_123 : decode cL_law 123 = .ok (.iaload, 1) := by decide +kernel
theorem dL_law_124 : decode cL_law 124 = .ok (.aload_n 0, 1) := by decide +kernel
theorem dL_law_125 : decode cL_law 125 = .ok (.iload_n 3, 1) := by decide +kernel
theorem dL_law_126 : decode cL_law 126 = .ok (.iconst 4, 1) := by decide +kernel
theorem dL_law_127 : decode cL_law 127 = .ok (.iadd, 1) := by decide +kernel
theorem dL_law_128 : decode cL_law 128 = .ok (.iaload, 1) := by decide +kernel
theorem dL_law_129 : decode cL_law 129 = .ok (.aload_n 0, 1) := by decide +kernel
theorem dL_law_130 : decode cL_law 130 = .ok (.iload_n 3, 1) := by decide +kernel
theorem dL_law_131 : decode cL_law 131 = .ok (.iconst 5, 1) := by decide +kernel
theorem dL_law_132 : decode cL_law 132 = .ok (.iadd, 1) := by decide +kernel
theorem dL_law_133 : decode cL_law 133 = .ok (.iaload, 1) := by decide +kernel
theorem dL_law_134 : decode cL_law 134 = .ok (.invokevirtual 13, 3) := by decide +kernel
theorem dL_law_137 : decode cL_law 137 = .ok (.aload_n 2, 1) := by decide +kernel
theorem dL_law_138 : decode cL_law 138 = .ok (.aload_n 0, 1) := by decide +kernel
theorem dL_law_139 : decode cL_law 139 = .ok (.iload_n 3, 1) := by decide +kernel
theorem dL_law_140 : decode cL_law 140 = .ok (.iconst 1, 1) := by decide +kernel
theorem dL_law_141 : decode cL_law 141 = .ok (.iadd, 1) := by decide +kernel
theorem dL_law_142 : decode cL_law 142 = .ok (.iaload, 1) := by decide +kernel
theorem dL_law_143 : decode cL_law 143 = .ok (.aload_n 0, 1) := by decide +kernel
theorem dL_law_144 : decode cL_law 144 = .ok (.iload_n 3, 1) := by decide +kernel
theorem dL_law_145 : decode cL_law 145 = .ok (.iconst 2, 1) := by decide +kernel
theorem dL_law_146 : decode cL_law 146 = .ok (.iadd, 1) := by decide +kernel
theorem dL_law_147 : decode cL_law 147 = .ok (.iaload, 1) := by decide +kernel
theorem dL_law_148 : decode cL_law 148 = .ok (.aload_n 0, 1) := by decide +kernel
theorem dL_law_149 : decode cL_law 149 = .ok (.iload_n 3, 1) := by decide +kernel
theorem dL_law_150 : decode cL_law 150 = .ok (.iconst 3, 1) := by decide +kernel
theorem dL_law_151 : decode cL_law 151 = .ok (.iadd, 1) := by decide +kernel
theorem dL_law_152 : decode cL_law 152 = .ok (.iaload, 1) := by decide +kernel
theorem dL_law_153 : decode cL_law 153 = .ok (.aload_n 0, 1) := by decide +kernel
theorem dL_law_154 : decode cL_law 154 = .ok (.iload_n 3, 1) := by decide +kernel
theorem dL_law_155 : decode cL_law 155 = .ok (.iconst 4, 1) := by decide +kernel
theorem dL_law_156 : decode cL_law 156 = .ok (.iadd, 1) := by decide +kernel
theorem dL_law_157 : decode cL_law 157 = .ok (.iaload, 1) := by decide +kernel
theorem dL_law_158 : decode cL_law 158 = .ok (.aload_n 0, 1) := by decide +kernel
theorem dL_law_159 : decode cL_law 159 = .ok (.iload_n 3, 1) := by decide +kernel
theorem dL_law_160 : decode cL_law 160 = .ok (.iconst 5, 1) := by decide +kernel
theorem dL_law_161 : decode cL_law 161 = .ok (.iadd, 1) := by decide +kernel
theorem dL_law_162 : decode cL_law 162 = .ok (.iaload, 1) := by decide +kernel
theorem dL_law_163 : decode cL_law 163 = .ok (.invokevirtual 17, 3) := by decide +kernel
theorem dL_law_166 : decode cL_law 166 = .ok (.if_icmp .eq 321, 3) := by decide +kernel
theorem dL_law_169 : decode cL_law 169 = .ok (.iconst 0, 1) := by decide +kernel
theorem dL_law_170 : decode cL_law 170 = .ok (.ireturn, 1) := by decide +kernel
theorem dL_law_171 : decode cL_law 171 = .ok (.aload_n 1, 1) := by decide +kernel
theorem dL_law_172 : decode cL_law 172 = .ok (.invokevirtual 18, 3) := by decide +kernel
theorem dL_law_175 : decode cL_law 175 = .ok (.aload_n 2, 1) := by decide +kernel
theorem dL_law_176 : decode cL_law 176 = .ok (.invokevirtual 22, 3) := by decide +kernel
theorem dL_law_179 : decode cL_law 179 = .ok (.if_icmp .eq 308, 3) := by decide +kernel
theorem dL_law_182 : decode cL_law 182 = .ok (.iconst 0, 1) := by decide +kernel
theorem dL_law_183 : decode cL_law 183 = .ok (.ireturn, 1) := by decide +kernel
theorem dL_law_184 : decode cL_law 184 = .ok (.aload_n 1, 1) := by decide +kernel
theorem dL_law_185 : decode cL_law 185 = .ok (.aload_n 0, 1) := by decide +kernel
theorem dL_law_186 : decode cL_law 186 = .ok (.iload_n 3, 1) := by decide +kernel
theorem dL_law_187 : decode cL_law 187 = .ok (.iconst 1, 1) := by decide +kernel
theorem dL_law_188 : decode cL_law 188 = .ok (.iadd, 1) := by decide +kernel
theorem dL_law_189 : decode cL_law 189 = .ok (.iaload, 1) := by decide +kernel
theorem dL_law_190 : decode cL_law 190 = .ok (.invokevirtual 23, 3) := by decide +kernel
theorem dL_law_193 : decode cL_law 193 = .ok (.aload_n 2, 1) := by decide +kernel
theorem dL_law_194 : decode cL_law 194 = .ok (.aload_n 0, 1) := by decide +kernel
theorem dL_law_195 : decode cL_law 195 = .ok (.iload_n 3, 1) := by decide +kernel
theorem dL_law_196 : decode cL_law 196 = .ok (.iconst 1, 1) := by decide +kernel
theorem dL_law_197 : decode cL_law 197 = .ok (.iadd, 1) := by decide +kernel
theorem dL_law_198 : decode cL_law 198 = .ok (.iaload, 1) := by decide +kernel
theorem dL_law_199 : decode cL_law 199 = .ok (.invokevirtual 27, 3) := by decide +kernel
theorem dL_law_202 : decode cL_law 202 = .ok (.if_icmp .eq 285, 3) := by decide +kernel
theorem dL_law_205 : decode cL_law 205 = .ok (.iconst 0, 1) := by decide +kernel
theorem dL_law_206 : decode cL_law 206 = .ok (.ireturn, 1) := by decide +kernel
theorem dL_law_207 : decode cL_law 207 = .ok (.aload_n 1, 1) := by decide +kernel
theorem dL_law_208 : decode cL_law 208 = .ok (.invokevirtual 28, 3) := by decide +kernel
theorem dL_law_211 : decode cL_law 211 = .ok (.aload_n 2, 1) := by decide +kernel
theorem dL_law_212 : decode cL_law 212 = .ok (.invokevirtual 32, 3) := by decide +kernel
theorem dL_law_215 : decode cL_law 215 = .ok (.lcmp, 1) := by decide +kernel
theorem dL_law_216 : decode cL_law 216 = .ok (.ifCond .eq 271, 3) := by decide +kernel
theorem dL_law_219 : decode cL_law 219 = .ok (.iconst 0, 1) := by decide +kernel
theorem dL_law_220 : decode cL_law 220 = .ok (.ireturn, 1) := by decide +kernel
theorem dL_law_221 : decode cL_law 221 = .ok (.aload_n 1, 1) := by decide +kernel
theorem dL_law_222 : decode cL_law 222 = .ok (.invokevirtual 33, 3) := by decide +kernel
theorem dL_law_225 : decode cL_law 225 = .ok (.aload_n 2, 1) := by decide +kernel
theorem dL_law_226 : decode cL_law 226 = .ok (.invokevirtual 36, 3) := by decide +kernel
theorem dL_law_229 : decode cL_law 229 = .ok (.if_icmp .eq 258, 3) := by decide +kernel
theorem dL_law_232 : decode cL_law 232 = .ok (.iconst 0, 1) := by decide +kernel
theorem dL_law_233 : decode cL_law 233 = .ok (.ireturn, 1) := by decide +kernel
theorem dL_law_234 : decode cL_law 234 = .ok (.aload_n 1, 1) := by decide +kernel
theorem dL_law_235 : decode cL_law 235 = .ok (.invokevirtual 37, 3) := by decide +kernel
theorem dL_law_238 : decode cL_law 238 = .ok (.aload_n 2, 1) := by decide +kernel
theorem dL_law_239 : decode cL_law 239 = .ok (.invokevirtual 40, 3) := by decide +kernel
theorem dL_law_242 : decode cL_law 242 = .ok (.if_icmp .eq 245, 3) := by decide +kernel
theorem dL_law_245 : decode cL_law 245 = .ok (.iconst 0, 1) := by decide +kernel
theorem dL_law_246 : decode cL_law 246 = .ok (.ireturn, 1) := by decide +kernel
theorem dL_law_247 : decode cL_law 247 = .ok (.aload_n 1, 1) := by decide +kernel
theorem dL_law_248 : decode cL_law 248 = .ok (.invokevirtual 41, 3) := by decide +kernel
theorem dL_law_251 : decode cL_law 251 = .ok (.aload_n 2, 1) := by decide +kernel
theorem dL_law_252 : decode cL_law 252 = .ok (.invokevirtual 44, 3) := by decide +kernel
theorem dL_law_255 : decode cL_law 255 = .ok (.if_icmp .eq 232, 3) := by decide +kernel
theorem dL_law_258 : decode cL_law 258 = .ok (.iconst 0, 1) := by decide +kernel
theorem dL_law_259 : decode cL_law 259 = .ok (.ireturn, 1) := by decide +kernel
theorem dL_law_260 : decode cL_law 260 = .ok (.aload_n 1, 1) := by decide +kernel
theorem dL_law_261 : decode cL_law 261 = .ok (.aload_n 0, 1) := by decide +kernel
theorem dL_law_262 : decode cL_law 262 = .ok (.iload_n 3, 1) := by decide +kernel
theorem dL_law_263 : decode cL_law 263 = .ok (.iconst 1, 1) := by decide +kernel
theorem dL_law_264 : decode cL_law 264 = .ok (.iadd, 1) := by decide +kernel
theorem dL_law_265 : decode cL_law 265 = .ok (.iaload, 1) := by decide +kernel
theorem dL_law_266 : decode cL_law 266 = .ok (.invokevirtual 45, 3) := by decide +kernel
theorem dL_law_269 : decode cL_law 269 = .ok (.aload_n 2, 1) := by decide +kernel
theorem dL_law_270 : decode cL_law 270 = .ok (.aload_n 0, 1) := by decide +kernel
theorem dL_law_271 : decode cL_law 271 = .ok (.iload_n 3, 1) := by decide +kernel
theorem dL_law_272 : decode cL_law 272 = .ok (.iconst 1, 1) := by decide +kernel
theorem dL_law_273 : decode cL_law 273 = .ok (.iadd, 1) := by decide +kernel
theorem dL_law_274 : decode cL_law 274 = .ok (.iaload, 1) := by decide +kernel
theorem dL_law_275 : decode cL_law 275 = .ok (.invokevirtual 48, 3) := by decide +kernel
theorem dL_law_278 : decode cL_law 278 = .ok (.if_icmp .eq 209, 3) := by decide +kernel
theorem dL_law_281 : decode cL_law 281 = .ok (.iconst 0, 1) := by decide +kernel
theorem dL_law_282 : decode cL_law 282 = .ok (.ireturn, 1) := by decide +kernel
theorem dL_law_283 : decode cL_law 283 = .ok (.aload_n 1, 1) := by decide +kernel
theorem dL_law_284 : decode cL_law 284 = .ok (.aload_n 0, 1) := by decide +kernel
theorem dL_law_285 : decode cL_law 285 = .ok (.iload_n 3, 1) := by decide +kernel
theorem dL_law_286 : decode cL_law 286 = .ok (.iconst 1, 1) := by decide +kernel
theorem dL_law_287 : decode cL_law 287 = .ok (.iadd, 1) := by decide +kernel
theorem dL_law_288 : decode cL_law 288 = .ok (.iaload, 1) := by decide +kernel
theorem dL_law_289 : decode cL_law 289 = .ok (.invokevirtual 49, 3) := by decide +kernel
theorem dL_law_292 : decode cL_law 292 = .ok (.aload_n 2, 1) := by decide +kernel
theorem dL_law_293 : decode cL_law 293 = .ok (.aload_n 0, 1) := by decide +kernel
theorem dL_law_294 : decode cL_law 294 = .ok (.iload_n 3, 1) := by decide +kernel
theorem dL_law_295 : decode cL_law 295 = .ok (.iconst 1, 1) := by decide +kernel
theorem dL_law_296 : decode cL_law 296 = .ok (.iadd, 1) := by decide +kernel
theorem dL_law_297 : decode cL_law 297 = .ok (.iaload, 1) := by decide +kernel
theorem dL_law_298 : decode cL_law 298 = .ok (.invokevirtual 52, 3) := by decide +kernel
theorem dL_law_301 : decode cL_law 301 = .ok (.if_icmp .eq 186, 3) := by decide +kernel
theorem dL_law_304 : decode cL_law 304 = .ok (.iconst 0, 1) := by decide +kernel
theorem dL_law_305 : decode cL_law 305 = .ok (.ireturn, 1) := by decide +kernel
theorem dL_law_306 : decode cL_law 306 = .ok (.aload_n 1, 1) := by decide +kernel
theorem dL_law_307 : decode cL_law 307 = .ok (.aload_n 0, 1) := by decide +kernel
theorem dL_law_308 : decode cL_law 308 = .ok (.iload_n 3, 1) := by decide +kernel
theorem dL_law_309 : decode cL_law 309 = .ok (.iconst 1, 1) := by decide +kernel
theorem dL_law_310 : decode cL_law 310 = .ok (.iadd, 1) := by decide +kernel
theorem dL_law_311 : decode cL_law 311 = .ok (.iaload, 1) := by decide +kernel
theorem dL_law_312 : decode cL_law 312 = .ok (.invokevirtual 53, 3) := by decide +kernel
theorem dL_law_315 : decode cL_law 315 = .ok (.aload_n 2, 1) := by decide +kernel
theorem dL_law_316 : decode cL_law 316 = .ok (.aload_n 0, 1) := by decide +kernel
theorem dL_law_317 : decode cL_law 317 = .ok (.iload_n 3, 1) := by decide +kernel
theorem dL_law_318 : decode cL_law 318 = .ok (.iconst 1, 1) := by decide +kernel
theorem dL_law_319 : decode cL_law 319 = .ok (.iadd, 1) := by decide +kernel
theorem dL_law_320 : decode cL_law 320 = .ok (.iaload, 1) := by decide +kernel
theorem dL_law_321 : decode cL_law 321 = .ok (.invokevirtual 57, 3) := by decide +kernel
theorem dL_law_324 : decode cL_law 324 = .ok (.lcmp, 1) := by decide +kernel
theorem dL_law_325 : decode cL_law 325 = .ok (.ifCond .eq 162, 3) := by decide +kernel
theorem dL_law_328 : decode cL_law 328 = .ok (.iconst 0, 1) := by decide +kernel
theorem dL_law_329 : decode cL_law 329 = .ok (.ireturn, 1) := by decide +kernel
theorem dL_law_330 : decode cL_law 330 = .ok (.aload_n 1, 1) := by decide +kernel
theorem dL_law_331 : decode cL_law 331 = .ok (.aload_n 0, 1) := by decide +kernel
theorem dL_law_332 : decode cL_law 332 = .ok (.iload_n 3, 1) := by decide +kernel
theorem dL_law_333 : decode cL_law 333 = .ok (.iconst 1, 1) := by decide +kernel
theorem dL_law_334 : decode cL_law 334 = .ok (.iadd, 1) := by decide +kernel
theorem dL_law_335 : decode cL_law 335 = .ok (.iaload, 1) := by decide +kernel
theorem dL_law_336 : decode cL_law 336 = .ok (.aload_n 0, 1) := by decide +kernel
theorem dL_law_337 : decode cL_law 337 = .ok (.iload_n 3, 1) := by decide +kernel
theorem dL_law_338 : decode cL_law 338 = .ok (.iconst 2, 1) := by decide +kernel
theorem dL_law_339 : decode cL_law 339 = .ok (.iadd, 1) := by decide +kernel
theorem dL_law_340 : decode cL_law 340 = .ok (.iaload, 1) := by decide +kernel
theorem dL_law_341 : decode cL_law 341 = .ok (.invokevirtual 58, 3) := by decide +kernel
theorem dL_law_344 : decode cL_law 344 = .ok (.aload_n 2, 1) := by decide +kernel
theorem dL_law_345 : decode cL_law 345 = .ok (.aload_n 0, 1) := by decide +kernel
theorem dL_law_346 : decode cL_law 346 = .ok (.iload_n 3, 1) := by decide +kernel
theorem dL_law_347 : decode cL_law 347 = .ok (.iconst 1, 1) := by decide +kernel
theorem dL_law_348 : decode cL_law 348 = .ok (.iadd, 1) := by decide +kernel
theorem dL_law_349 : decode cL_law 349 = .ok (.iaload, 1) := by decide +kernel
theorem dL_law_350 : decode cL_law 350 = .ok (.aload_n 0, 1) := by decide +kernel
theorem dL_law_351 : decode cL_law 351 = .ok (.iload_n 3, 1) := by decide +kernel
theorem dL_law_352 : decode cL_law 352 = .ok (.iconst 2, 1) := by decide +kernel
theorem dL_law_353 : decode cL_law 353 = .ok (.iadd, 1) := by decide +kernel
theorem dL_law_354 : decode cL_law 354 = .ok (.iaload, 1) := by decide +kernel
theorem dL_law_355 : decode cL_law 355 = .ok (.invokevirtual 62, 3) := by decide +kernel
theorem dL_law_358 : decode cL_law 358 = .ok (.if_icmp .eq 129, 3) := by decide +kernel
theorem dL_law_361 : decode cL_law 361 = .ok (.iconst 0, 1) := by decide +kernel
theorem dL_law_362 : decode cL_law 362 = .ok (.ireturn, 1) := by decide +kernel
theorem dL_law_363 : decode cL_law 363 = .ok (.aload_n 1, 1) := by decide +kernel
theorem dL_law_364 : decode cL_law 364 = .ok (.aload_n 0, 1) := by decide +kernel
theorem dL_law_365 : decode cL_law 365 = .ok (.iload_n 3, 1) := by decide +kernel
theorem dL_law_366 : decode cL_law 366 = .ok (.iconst 1, 1) := by decide +kernel
theorem dL_law_367 : decode cL_law 367 = .ok (.iadd, 1) := by decide +kernel
theorem dL_law_368 : decode cL_law 368 = .ok (.iaload, 1) := by decide +kernel
theorem dL_law_369 : decode cL_law 369 = .ok (.aload_n 0, 1) := by decide +kernel
theorem dL_law_370 : decode cL_law 370 = .ok (.iload_n 3, 1) := by decide +kernel
theorem dL_law_371 : decode cL_law 371 = .ok (.iconst 2, 1) := by decide +kernel
theorem dL_law_372 : decode cL_law 372 = .ok (.iadd, 1) := by decide +kernel
theorem dL_law_373 : decode cL_law 373 = .ok (.iaload, 1) := by decide +kernel
theorem dL_law_374 : decode cL_law 374 = .ok (.invokevirtual 63, 3) := by decide +kernel
theorem dL_law_377 : decode cL_law 377 = .ok (.aload_n 2, 1) := by decide +kernel
theorem dL_law_378 : decode cL_law 378 = .ok (.aload_n 0, 1) := by decide +kernel
theorem dL_law_379 : decode cL_law 379 = .ok (.iload_n 3, 1) := by decide +kernel
theorem dL_law_380 : decode cL_law 380 = .ok (.iconst 1, 1) := by decide +kernel
theorem dL_law_381 : decode cL_law 381 = .ok (.iadd, 1) := by decide +kernel
theorem dL_law_382 : decode cL_law 382 = .ok (.iaload, 1) := by decide +kernel
theorem dL_law_383 : decode cL_law 383 = .ok (.aload_n 0, 1) := by decide +kernel
theorem dL_law_384 : decode cL_law 384 = .ok (.iload_n 3, 1) := by decide +kernel
theorem dL_law_385 : decode cL_law 385 = .ok (.iconst 2, 1) := by decide +kernel
theorem dL_law_386 : decode cL_law 386 = .ok (.iadd, 1) := by decide +kernel
theorem dL_law_387 : decode cL_law 387 = .ok (.iaload, 1) := by decide +kernel
theorem dL_law_388 : decode cL_law 388 = .ok (.invokevirtual 67, 3) := by decide +kernel
theorem dL_law_391 : decode cL_law 391 = .ok (.lcmp, 1) := by decide +kernel
theorem dL_law_392 : decode cL_law 392 = .ok (.ifCond .eq 95, 3) := by decide +kernel
theorem dL_law_395 : decode cL_law 395 = .ok (.iconst 0, 1) := by decide +kernel
theorem dL_law_396 : decode cL_law 396 = .ok (.ireturn, 1) := by decide +kernel
theorem dL_law_397 : decode cL_law 397 = .ok (.aload_n 1, 1) := by decide +kernel
theorem dL_law_398 : decode cL_law 398 = .ok (.aload_n 0, 1) := by decide +kernel
theorem dL_law_399 : decode cL_law 399 = .ok (.iload_n 3, 1) := by decide +kernel
theorem dL_law_400 : decode cL_law 400 = .ok (.iconst 1, 1) := by decide +kernel
theorem dL_law_401 : decode cL_law 401 = .ok (.iadd, 1) := by decide +kernel
theorem dL_law_402 : decode cL_law 402 = .ok (.iaload, 1) := by decide +kernel
theorem dL_law_403 : decode cL_law 403 = .ok (.aload_n 0, 1) := by decide +kernel
theorem dL_law_404 : decode cL_law 404 = .ok (.iload_n 3, 1) := by decide +kernel
theorem dL_law_405 : decode cL_law 405 = .ok (.iconst 2, 1) := by decide +kernel
theorem dL_law_406 : decode cL_law 406 = .ok (.iadd, 1) := by decide +kernel
theorem dL_law_407 : decode cL_law 407 = .ok (.iaload, 1) := by decide +kernel
theorem dL_law_408 : decode cL_law 408 = .ok (.invokevirtual 68, 3) := by decide +kernel
theorem dL_law_411 : decode cL_law 411 = .ok (.aload_n 2, 1) := by decide +kernel
theorem dL_law_412 : decode cL_law 412 = .ok (.aload_n 0, 1) := by decide +kernel
theorem dL_law_413 : decode cL_law 413 = .ok (.iload_n 3, 1) := by decide +kernel
theorem dL_law_414 : decode cL_law 414 = .ok (.iconst 1, 1) := by decide +kernel
theorem dL_law_415 : decode cL_law 415 = .ok (.iadd, 1) := by decide +kernel
theorem dL_law_416 : decode cL_law 416 = .ok (.iaload, 1) := by decide +kernel
theorem dL_law_417 : decode cL_law 417 = .ok (.aload_n 0, 1) := by decide +kernel
theorem dL_law_418 : decode cL_law 418 = .ok (.iload_n 3, 1) := by decide +kernel
theorem dL_law_419 : decode cL_law 419 = .ok (.iconst 2, 1) := by decide +kernel
theorem dL_law_420 : decode cL_law 420 = .ok (.iadd, 1) := by decide +kernel
theorem dL_law_421 : decode cL_law 421 = .ok (.iaload, 1) := by decide +kernel
theorem dL_law_422 : decode cL_law 422 = .ok (.invokevirtual 71, 3) := by decide +kernel
theorem dL_law_425 : decode cL_law 425 = .ok (.lcmp, 1) := by decide +kernel
theorem dL_law_426 : decode cL_law 426 = .ok (.ifCond .eq 61, 3) := by decide +kernel
theorem dL_law_429 : decode cL_law 429 = .ok (.iconst 0, 1) := by decide +kernel
theorem dL_law_430 : decode cL_law 430 = .ok (.ireturn, 1) := by decide +kernel
theorem dL_law_431 : decode cL_law 431 = .ok (.aload_n 1, 1) := by decide +kernel
theorem dL_law_432 : decode cL_law 432 = .ok (.aload_n 0, 1) := by decide +kernel
theorem dL_law_433 : decode cL_law 433 = .ok (.iload_n 3, 1) := by decide +kernel
theorem dL_law_434 : decode cL_law 434 = .ok (.iconst 1, 1) := by decide +kernel
theorem dL_law_435 : decode cL_law 435 = .ok (.iadd, 1) := by decide +kernel
theorem dL_law_436 : decode cL_law 436 = .ok (.iaload, 1) := by decide +kernel
theorem dL_law_437 : decode cL_law 437 = .ok (.aload_n 0, 1) := by decide +kernel
theorem dL_law_438 : decode cL_law 438 = .ok (.iload_n 3, 1) := by decide +kernel
theorem dL_law_439 : decode cL_law 439 = .ok (.iconst 2, 1) := by decide +kernel
theorem dL_law_440 : decode cL_law 440 = .ok (.iadd, 1) := by decide +kernel
theorem dL_law_441 : decode cL_law 441 = .ok (.iaload, 1) := by decide +kernel
theorem dL_law_442 : decode cL_law 442 = .ok (.invokevirtual 72, 3) := by decide +kernel
theorem dL_law_445 : decode cL_law 445 = .ok (.aload_n 2, 1) := by decide +kernel
theorem dL_law_446 : decode cL_law 446 = .ok (.aload_n 0, 1) := by decide +kernel
theorem dL_law_447 : decode cL_law 447 = .ok (.iload_n 3, 1) := by decide +kernel
theorem dL_law_448 : decode cL_law 448 = .ok (.iconst 1, 1) := by decide +kernel
theorem dL_law_449 : decode cL_law 449 = .ok (.iadd, 1) := by decide +kernel
theorem dL_law_450 : decode cL_law 450 = .ok (.iaload, 1) := by decide +kernel
theorem dL_law_451 : decode cL_law 451 = .ok (.aload_n 0, 1) := by decide +kernel
theorem dL_law_452 : decode cL_law 452 = .ok (.iload_n 3, 1) := by decide +kernel
theorem dL_law_453 : decode cL_law 453 = .ok (.iconst 2, 1) := by decide +kernel
theorem dL_law_454 : decode cL_law 454 = .ok (.iadd, 1) := by decide +kernel
theorem dL_law_455 : decode cL_law 455 = .ok (.iaload, 1) := by decide +kernel
theorem dL_law_456 : decode cL_law 456 = .ok (.invokevirtual 75, 3) := by decide +kernel
theorem dL_law_459 : decode cL_law 459 = .ok (.if_icmp .eq 28, 3) := by decide +kernel
theorem dL_law_462 : decode cL_law 462 = .ok (.iconst 0, 1) := by decide +kernel
theorem dL_law_463 : decode cL_law 463 = .ok (.ireturn, 1) := by decide +kernel
theorem dL_law_464 : decode cL_law 464 = .ok (.aload_n 1, 1) := by decide +kernel
theorem dL_law_465 : decode cL_law 465 = .ok (.aload_n 0, 1) := by decide +kernel
theorem dL_law_466 : decode cL_law 466 = .ok (.iload_n 3, 1) := by decide +kernel
theorem dL_law_467 : decode cL_law 467 = .ok (.iconst 1, 1) := by decide +kernel
theorem dL_law_468 : decode cL_law 468 = .ok (.iadd, 1) := by decide +kernel
theorem dL_law_469 : decode cL_law 469 = .ok (.iaload, 1) := by decide +kernel
theorem dL_law_470 : decode cL_law 470 = .ok (.invokevirtual 76, 3) := by decide +kernel
theorem dL_law_473 : decode cL_law 473 = .ok (.aload_n 2, 1) := by decide +kernel
theorem dL_law_474 : decode cL_law 474 = .ok (.aload_n 0, 1) := by decide +kernel
theorem dL_law_475 : decode cL_law 475 = .ok (.iload_n 3, 1) := by decide +kernel
theorem dL_law_476 : decode cL_law 476 = .ok (.iconst 1, 1) := by decide +kernel
theorem dL_law_477 : decode cL_law 477 = .ok (.iadd, 1) := by decide +kernel
theorem dL_law_478 : decode cL_law 478 = .ok (.iaload, 1) := by decide +kernel
theorem dL_law_479 : decode cL_law 479 = .ok (.invokevirtual 79, 3) := by decide +kernel
theorem dL_law_482 : decode cL_law 482 = .ok (.if_icmp .eq 5, 3) := by decide +kernel
theorem dL_law_485 : decode cL_law 485 = .ok (.iconst 0, 1) := by decide +kernel
theorem dL_law_486 : decode cL_law 486 = .ok (.ireturn, 1) := by decide +kernel
theorem dL_law_487 : decode cL_law 487 = .ok (.iinc 3 6, 3) := by decide +kernel
theorem dL_law_490 : decode cL_law 490 = .ok (.goto (-472), 3) := by decide +kernel
theorem dL_law_493 : decode cL_law 493 = .ok (.iconst 1, 1) := by decide +kernel
theorem dL_law_494 : decode cL_law 494 = .ok (.ireturn, 1) := by decide +kernel
/-- what stands between two calls of the law -/
def LI (κ : Int) (P : SP) (S : SS) (m : MS) : Prop := pWF P ∧ CI GG κ S ∧ RM S m ∧ mCame m = rA S.2.2
section CASES
variable {p : Program} {l : Launch} {e : Env} {s : State} {m : MethodId} {below : List Frame} {meth : Method} {c : Code} {b L j : Nat} {xs : Nat → Int32} {D : va_G} {cT : Nat → ClassId} {adC adM : Nat → Nat} {Z : State → Prop} {ls : Array Slot} {κ : Int} {P : SP} {S : SS} {mm : MS} {H : Heap} {locs : List Loc}
def LX (p : Program) (s : State) (m : MethodId) (c : Code) (b L : Nat) (xs : Nat → Int32) (D : va_G) (cT : Nat → ClassId) : Prop := p.tables.exec = Jvm.exec ∧ c.code = code ∧ c.maxLocals = 4 ∧ s.vm.findClass R_law = some m.cls ∧ (∀ z ∈ xTs, z.before #[Value.ref b] s = true) ∧ va_X b L xs s s.heap ∧ b < s.heap.size ∧ va_K D vwCl (x_tys cT) s ∧ ∀ c ∈ xNs, va_Nw c s
set_option maxHeartbeats 4000000 in
set_option maxRecDepth 100000 in
theorem law_node (lx : LX p s m c b L xs D cT) (hj : 6 * j + 6 ≤ L) (hL : L ≤ 3072) (hI : LI κ P S mm) (hκ : κ ≤ gB) (hP : va_P D vwCl (x_cw adC cT (wC P S) ++ x_cw adM cT (wM P S mm)) H) (hD : va_D (fun q : Nat => s.heap.size ≤ q) (x_cw adC cT (wC P S) ++ x_cw adM cT (wM P S mm))) (hS : va_S (fun q : Nat => s.heap.size ≤ q) s.heap H locs) (hl : lv_has ls 4 [(0, .ref b), (1, .ref (adC 0)), (2, .ref (adM 0)), (3, .int (nI (6 * j)))])
    (nx : ∀ κ' P' S' mm' (H : Heap) (locs : List Loc), LI κ' P' S' mm' → κ' ≤ κ + 3000 → va_P D vwCl (x_cw adC cT (wC P' S') ++ x_cw adM cT (wM P' S' mm')) H → va_D (fun q : Nat => s.heap.size ≤ q) (x_cw adC cT (wC P' S') ++ x_cw adM cT (wM P' S' mm')) → va_S (fun q : Nat => s.heap.size ≤ q) s.heap H locs → W p l e room_1 s m #[Value.ref b] below meth c H locs 60 60000 Z (F0 m 487 ls [])) : W p l e room_1 s m #[Value.ref b] below meth c H locs 60 60000 Z (F0 m 108 ls []) := by
  obtain ⟨hx, hb, hml, hown, hts, hX, hbl, hK, hN⟩ := lx
  have hA : ∀ q : Nat, s.heap.size ≤ q → (fun q : Nat => s.heap.size ≤ q) q := fun _ h => h
  have hbA : ¬ (fun q : Nat => s.heap.size ≤ q) b := Nat.not_le.mpr hbl
  have hk1 : vp_in (nI (6 * j) + 1) L := by rw [show (1 : Int32) = nI 1 from rfl, nI_add]; exact vp_in_nI (by omega) (by omega)
  have hk2 : vp_in (nI (6 * j) + 2) L := by rw [show (2 : Int32) = nI 2 from rfl, nI_add]; exact vp_in_nI (by omega) (by omega)
  have hk3 : vp_in (nI (6 * j) + 3) L := by rw [show (3 : Int32) = nI 3 from rfl, nI_add]; exact vp_in_nI (by omega) (by omega)
  have hk4 : vp_in (nI (6 * j) + 4) L := by rw [show (4 : Int32) = nI 4 from rfl, nI_add]; exact vp_in_nI (by omega) (by omega)
  have hk5 : vp_in (nI (6 * j) + 5) L := by rw [show (5 : Int32) = nI 5 from rfl, nI_add]; exact vp_in_nI (by omega) (by omega)
  refine lv_aload_n hx hb dL_law_108 rfl (lv_at hl 1 rfl) ?_
  refine lv_aload_n hx hb dL_law_109 rfl (lv_at hl 0 rfl) ?_
  refine lv_iload_n hx hb dL_law_110 rfl (lv_at hl 3 rfl) ?_
  refine lv_iconst (v := 1) hx hb dL_law_111 (by decide) ?_
  refine lv_iadd hx hb dL_law_112 ?_
  refine va_sld hx hb hX hbl hbA hS hk1 dL_law_113 ?_
  refine lv_aload_n hx hb dL_law_114 rfl (lv_at hl 0 rfl) ?_
  refine lv_iload_n hx hb dL_law_115 rfl (lv_at hl 3 rfl) ?_
  refine lv_iconst (v := 2) hx hb dL_law_116 (by decide) ?_
  refine lv_iadd hx hb dL_law_117 ?_
  refine va_sld hx hb hX hbl hbA hS hk2 dL_law_118 ?_
  refine lv_aload_n hx hb dL_law_119 rfl (lv_at hl 0 rfl) ?_
  refine lv_iload_n hx hb dL_law_120 rfl (lv_at hl 3 rfl) ?_
  refine lv_iconst (v := 3) hx hb dL_law_121 (by decide) ?_
  refine lv_iadd hx hb dL_law_122 ?_
  refine va_sld hx hb hX hbl hbA hS hk3 dL_law_123 ?_
  refine lv_aload_n hx hb dL_law_124 rfl (lv_at hl 0 rfl) ?_
  refine lv_iload_n hx hb dL_law_125 rfl (lv_at hl 3 rfl) ?_
  refine lv_iconst (v := 4) hx hb dL_law_126 (by decide) ?_
  refine lv_iadd hx hb dL_law_127 ?_
  refine va_sld hx hb hX hbl hbA hS hk4 dL_law_128 ?_
  refine lv_aload_n hx hb dL_law_129 rfl (lv_at hl 0 rfl) ?_
  refine lv_iload_n hx hb dL_law_130 rfl (lv_at hl 3 rfl) ?_
  refine lv_iconst (v := 5) hx hb dL_law_131 (by decide) ?_
  refine lv_iadd hx hb dL_law_132 ?_
  refine va_sld hx hb hX hbl hbA hS hk5 dL_law_133 ?_
  refine law_call (D := D) (ad := adC) (cT := cT) (w := wC P S) (M := 80) (d := 260) (r2 := [.int (xs (nI (6 * j) + 1).toNatClampNeg), .int (xs (nI (6 * j) + 2).toNatClampNeg), .int (xs (nI (6 * j) + 3).toNatClampNeg), .int (xs (nI (6 * j) + 4).toNatClampNeg), .int (xs (nI (6 * j) + 5).toNatClampNeg)]) (rest := []) (Q1 := fun r w => r = some (.int ((pTell P (xs (nI (6 * j) + 1).toNatClampNeg) (xs (nI (6 * j) + 2).toNatClampNeg) (xs (nI (6 * j) + 3).toNatClampNeg) (xs (nI (6 * j) + 4).toNatClampNeg) (xs (nI (6 * j) + 5).toNatClampNeg)).1)) ∧ w = wC (pTell P (xs (nI (6 * j) + 1).toNatClampNeg) (xs (nI (6 * j) + 2).toNatClampNeg) (xs (nI (6 * j) + 3).toNatClampNeg) (xs (nI (6 * j) + 4).toNatClampNeg) (xs (nI (6 * j) + 5).toNatClampNeg)).2 S) hx hb hml hown hts hK hN hA hP hD hS hl.1 rfl (by decide) (x_t1 (i := 152) rfl rfl) (k_node (D := 260) (by decide) hI.1.1 (xs (nI (6 * j) + 1).toNatClampNeg) (xs (nI (6 * j) + 2).toNatClampNeg) (xs (nI (6 * j) + 3).toNatClampNeg) (xs (nI (6 * j) + 4).toNatClampNeg) (xs (nI (6 * j) + 5).toNatClampNeg) ⟨rfl, rfl⟩) (Nat.le_refl _) (Nat.le_of_ble_eq_true rfl) dL_law_134 (Nat.le_of_ble_eq_true rfl) (Nat.le_of_ble_eq_true rfl) ?_
  rintro _ _ H locs ⟨rfl, rfl⟩ hP hD hS
  refine lv_aload_n hx hb dL_law_137 rfl (lv_at hl 2 rfl) ?_
  refine lv_aload_n hx hb dL_law_138 rfl (lv_at hl 0 rfl) ?_
  refine lv_iload_n hx hb dL_law_139 rfl (lv_at hl 3 rfl) ?_
  refine lv_iconst (v := 1) hx hb dL_law_140 (by decide) ?_
  refine lv_iadd hx hb dL_law_141 ?_
  refine va_sld hx hb hX hbl hbA hS hk1 dL_law_142 ?_
  refine lv_aload_n hx hb dL_law_143 rfl (lv_at hl 0 rfl) ?_
  refine lv_iload_n hx hb dL_law_144 rfl (lv_at hl 3 rfl) ?_
  refine lv_iconst (v := 2) hx hb dL_law_145 (by decide) ?_
  refine lv_iadd hx hb dL_law_146 ?_
  refine va_sld hx hb hX hbl hbA hS hk2 dL_law_147 ?_
  refine lv_aload_n hx hb dL_law_148 rfl (lv_at hl 0 rfl) ?_
  refine lv_iload_n hx hb dL_law_149 rfl (lv_at hl 3 rfl) ?_
  refine lv_iconst (v := 3) hx hb dL_law_150 (by decide) ?_
  refine lv_iadd hx hb dL_law_151 ?_
  refine va_sld hx hb hX hbl hbA hS hk3 dL_law_152 ?_
  refine lv_aload_n hx hb dL_law_153 rfl (lv_at hl 0 rfl) ?_
  refine lv_iload_n hx hb dL_law_154 rfl (lv_at hl 3 rfl) ?_
  refine lv_iconst (v := 4) hx hb dL_law_155 (by decide) ?_
  refine lv_iadd hx hb dL_law_156 ?_
  refine va_sld hx hb hX hbl hbA hS hk4 dL_law_157 ?_
  refine lv_aload_n hx hb dL_law_158 rfl (lv_at hl 0 rfl) ?_
  refine lv_iload_n hx hb dL_law_159 rfl (lv_at hl 3 rfl) ?_
  refine lv_iconst (v := 5) hx hb dL_law_160 (by decide) ?_
  refine lv_iadd hx hb dL_law_161 ?_
  refine va_sld hx hb hX hbl hbA hS hk5 dL_law_162 ?_
  refine law_call (D := D) (ad := adM) (cT := cT) (w := wM P S mm) (M := 110) (d := 260) (r2 := [.int (xs (nI (6 * j) + 1).toNatClampNeg), .int (xs (nI (6 * j) + 2).toNatClampNeg), .int (xs (nI (6 * j) + 3).toNatClampNeg), .int (xs (nI (6 * j) + 4).toNatClampNeg), .int (xs (nI (6 * j) + 5).toNatClampNeg)]) (rest := [.int ((pTell P (xs (nI (6 * j) + 1).toNatClampNeg) (xs (nI (6 * j) + 2).toNatClampNeg) (xs (nI (6 * j) + 3).toNatClampNeg) (xs (nI (6 * j) + 4).toNatClampNeg) (xs (nI (6 * j) + 5).toNatClampNeg)).1)]) (Q1 := fun r w => ∃ mm2 : MS, r = some (.int ((pTell P (xs (nI (6 * j) + 1).toNatClampNeg) (xs (nI (6 * j) + 2).toNatClampNeg) (xs (nI (6 * j) + 3).toNatClampNeg) (xs (nI (6 * j) + 4).toNatClampNeg) (xs (nI (6 * j) + 5).toNatClampNeg)).1)) ∧ w = wM (pTell P (xs (nI (6 * j) + 1).toNatClampNeg) (xs (nI (6 * j) + 2).toNatClampNeg) (xs (nI (6 * j) + 3).toNatClampNeg) (xs (nI (6 * j) + 4).toNatClampNeg) (xs (nI (6 * j) + 5).toNatClampNeg)).2 S mm2 ∧ RM S mm2 ∧ mCame mm2 = rA S.2.2) hx hb hml hown hts hK hN hA hP hD hS hl.1 rfl (by decide) (x_t3 (i := 215) rfl rfl) (m_node (D := 260) (by decide) hI.1 (xs (nI (6 * j) + 1).toNatClampNeg) (xs (nI (6 * j) + 2).toNatClampNeg) (xs (nI (6 * j) + 3).toNatClampNeg) (xs (nI (6 * j) + 4).toNatClampNeg) (xs (nI (6 * j) + 5).toNatClampNeg) ⟨mm, rfl, rfl, hI.2.2⟩) (Nat.le_refl _) (Nat.le_of_ble_eq_true rfl) dL_law_163 (Nat.le_of_ble_eq_true rfl) (Nat.le_of_ble_eq_true rfl) ?_
  rintro _ _ H locs ⟨mm2, rfl, rfl, HM⟩ hP hD hS
  refine lv_icmp_eq (tgt := 487) hx hb dL_law_166 (by decide) (fun _ => ?_) (fun z => absurd rfl z)
  exact nx _ _ _ _ H locs ⟨pWF_tell hI.1 (xs (nI (6 * j) + 1).toNatClampNeg) (xs (nI (6 * j) + 2).toNatClampNeg) (xs (nI (6 * j) + 3).toNatClampNeg) (xs (nI (6 * j) + 4).toNatClampNeg) (xs (nI (6 * j) + 5).toNatClampNeg), hI.2.1, HM⟩ (by omega) hP hD hS
set_option maxHeartbeats 4000000 in
set_option maxRecDepth 100000 in
theorem law_clear (lx : LX p s m c b L xs D cT) (hj : 6 * j + 6 ≤ L) (hL : L ≤ 3072) (hI : LI κ P S mm) (hκ : κ ≤ gB) (hP : va_P D vwCl (x_cw adC cT (wC P S) ++ x_cw adM cT (wM P S mm)) H) (hD : va_D (fun q : Nat => s.heap.size ≤ q) (x_cw adC cT (wC P S) ++ x_cw adM cT (wM P S mm))) (hS : va_S (fun q : Nat => s.heap.size ≤ q) s.heap H locs) (hl : lv_has ls 4 [(0, .ref b), (1, .ref (adC 0)), (2, .ref (adM 0)), (3, .int (nI (6 * j)))])
    (nx : ∀ κ' P' S' mm' (H : Heap) (locs : List Loc), LI κ' P' S' mm' → κ' ≤ κ + 3000 → va_P D vwCl (x_cw adC cT (wC P' S') ++ x_cw adM cT (wM P' S' mm')) H → va_D (fun q : Nat => s.heap.size ≤ q) (x_cw adC cT (wC P' S') ++ x_cw adM cT (wM P' S' mm')) → va_S (fun q : Nat => s.heap.size ≤ q) s.heap H locs → W p l e room_1 s m #[Value.ref b] below meth c H locs 60 60000 Z (F0 m 487 ls [])) : W p l e room_1 s m #[Value.ref b] below meth c H locs 60 60000 Z (F0 m 171 ls []) := by
  obtain ⟨hx, hb, hml, hown, hts, hX, hbl, hK, hN⟩ := lx
  have hA : ∀ q : Nat, s.heap.size ≤ q → (fun q : Nat => s.heap.size ≤ q) q := fun _ h => h
  have hbA : ¬ (fun q : Nat => s.heap.size ≤ q) b := Nat.not_le.mpr hbl
  refine lv_aload_n hx hb dL_law_171 rfl (lv_at hl 1 rfl) ?_
  refine law_call (D := D) (ad := adC) (cT := cT) (w := wC P S) (M := 81) (d := 260) (r2 := []) (rest := []) (Q1 := fun r w => r = some (.int (pN P)) ∧ w = wC (pForget P) S) hx hb hml hown hts hK hN hA hP hD hS hl.1 rfl (by decide) (x_t1 (i := 208) rfl rfl) (k_clear (D := 260) (by decide) ⟨rfl, rfl⟩) (Nat.le_refl _) (Nat.le_of_ble_eq_true rfl) dL_law_172 (Nat.le_of_ble_eq_true rfl) (Nat.le_of_ble_eq_true rfl) ?_
  rintro _ _ H locs ⟨rfl, rfl⟩ hP hD hS
  refine lv_aload_n hx hb dL_law_175 rfl (lv_at hl 2 rfl) ?_
  refine law_call (D := D) (ad := adM) (cT := cT) (w := wM P S mm) (M := 111) (d := 260) (r2 := []) (rest := [.int (pN P)]) (Q1 := fun r w => ∃ mm2 : MS, r = some (.int (pN P)) ∧ w = wM (pForget P) S mm2 ∧ RM S mm2 ∧ mCame mm2 = rA S.2.2) hx hb hml hown hts hK hN hA hP hD hS hl.1 rfl (by decide) (x_t4 (i := 14) rfl rfl) (m_clear (D := 260) (by decide) ⟨mm, rfl, rfl, hI.2.2⟩) (Nat.le_refl _) (Nat.le_of_ble_eq_true rfl) dL_law_176 (Nat.le_of_ble_eq_true rfl) (Nat.le_of_ble_eq_true rfl) ?_
  rintro _ _ H locs ⟨mm2, rfl, rfl, HM⟩ hP hD hS
  refine lv_icmp_eq (tgt := 487) hx hb dL_law_179 (by decide) (fun _ => ?_) (fun z => absurd rfl z)
  exact nx _ _ _ _ H locs ⟨pWF_forget, hI.2.1, HM⟩ (by omega) hP hD hS
set_option maxHeartbeats 4000000 in
set_option maxRecDepth 100000 in
theorem law_run (lx : LX p s m c b L xs D cT) (hj : 6 * j + 6 ≤ L) (hL : L ≤ 3072) (hI : LI κ P S mm) (hκ : κ ≤ gB) (hP : va_P D vwCl (x_cw adC cT (wC P S) ++ x_cw adM cT (wM P S mm)) H) (hD : va_D (fun q : Nat => s.heap.size ≤ q) (x_cw adC cT (wC P S) ++ x_cw adM cT (wM P S mm))) (hS : va_S (fun q : Nat => s.heap.size ≤ q) s.heap H locs) (hl : lv_has ls 4 [(0, .ref b), (1, .ref (adC 0)), (2, .ref (adM 0)), (3, .int (nI (6 * j)))])
    (nx : ∀ κ' P' S' mm' (H : Heap) (locs : List Loc), LI κ' P' S' mm' → κ' ≤ κ + 3000 → va_P D vwCl (x_cw adC cT (wC P' S') ++ x_cw adM cT (wM P' S' mm')) H → va_D (fun q : Nat => s.heap.size ≤ q) (x_cw adC cT (wC P' S') ++ x_cw adM cT (wM P' S' mm')) → va_S (fun q : Nat => s.heap.size ≤ q) s.heap H locs → W p l e room_1 s m #[Value.ref b] below meth c H locs 60 60000 Z (F0 m 487 ls [])) : W p l e room_1 s m #[Value.ref b] below meth c H locs 60 60000 Z (F0 m 184 ls []) := by
  obtain ⟨hx, hb, hml, hown, hts, hX, hbl, hK, hN⟩ := lx
  have hA : ∀ q : Nat, s.heap.size ≤ q → (fun q : Nat => s.heap.size ≤ q) q := fun _ h => h
  have hbA : ¬ (fun q : Nat => s.heap.size ≤ q) b := Nat.not_le.mpr hbl
  have hk1 : vp_in (nI (6 * j) + 1) L := by rw [show (1 : Int32) = nI 1 from rfl, nI_add]; exact vp_in_nI (by omega) (by omega)
  cases hn : pIsNode P (xs (nI (6 * j) + 1).toNatClampNeg)
  · skip
    refine lv_aload_n hx hb dL_law_184 rfl (lv_at hl 1 rfl) ?_
    refine lv_aload_n hx hb dL_law_185 rfl (lv_at hl 0 rfl) ?_
    refine lv_iload_n hx hb dL_law_186 rfl (lv_at hl 3 rfl) ?_
    refine lv_iconst (v := 1) hx hb dL_law_187 (by decide) ?_
    refine lv_iadd hx hb dL_law_188 ?_
    refine va_sld hx hb hX hbl hbA hS hk1 dL_law_189 ?_
    refine law_call (D := D) (ad := adC) (cT := cT) (w := wC P S) (M := 82) (d := 260) (r2 := [.int (xs (nI (6 * j) + 1).toNatClampNeg)]) (rest := []) (Q1 := fun r w => r = some (.int ((-2 : Int32))) ∧ w = wC P S) hx hb hml hown hts hK hN hA hP hD hS hl.1 rfl (by decide) (x_t1 (i := 216) rfl rfl) (k_run2 (D := 260) (by decide) hI.1 f1_ok go_ok hI.2.1 hκ (xs (nI (6 * j) + 1).toNatClampNeg) (fun z => absurd (hn.symm.trans z) (by decide)) (fun _ => ⟨rfl, rfl⟩)) (Nat.le_refl _) (Nat.le_of_ble_eq_true rfl) dL_law_190 (Nat.le_of_ble_eq_true rfl) (Nat.le_of_ble_eq_true rfl) ?_
    rintro _ _ H locs ⟨rfl, rfl⟩ hP hD hS
    refine lv_aload_n hx hb dL_law_193 rfl (lv_at hl 2 rfl) ?_
    refine lv_aload_n hx hb dL_law_194 rfl (lv_at hl 0 rfl) ?_
    refine lv_iload_n hx hb dL_law_195 rfl (lv_at hl 3 rfl) ?_
    refine lv_iconst (v := 1) hx hb dL_law_196 (by decide) ?_
    refine lv_iadd hx hb dL_law_197 ?_
    refine va_sld hx hb hX hbl hbA hS hk1 dL_law_198 ?_
    refine law_call (D := D) (ad := adM) (cT := cT) (w := wM P S mm) (M := 148) (d := 260) (r2 := [.int (xs (nI (6 * j) + 1).toNatClampNeg)]) (rest := [.int ((-2 : Int32))]) (Q1 := fun r w => ∃ mm2 : MS, r = some (.int ((-2 : Int32))) ∧ w = wM P S mm2 ∧ RM S mm2 ∧ mCame mm2 = rA S.2.2) hx hb hml hown hts hK hN hA hP hD hS hl.1 rfl (by decide) (x_t4 (i := 18) rfl rfl) (m_run (D := 260) (by decide) hI.1 f1_ok fc_ok go_ok hI.2.1 hκ hI.2.2.1 (xs (nI (6 * j) + 1).toNatClampNeg) (fun z => absurd (hn.symm.trans z) (by decide)) (fun _ => ⟨mm, rfl, rfl, hI.2.2⟩)) (Nat.le_refl _) (Nat.le_of_ble_eq_true rfl) dL_law_199 (Nat.le_of_ble_eq_true rfl) (Nat.le_of_ble_eq_true rfl) ?_
    rintro _ _ H locs ⟨mm2, rfl, rfl, HM⟩ hP hD hS
    refine lv_icmp_eq (tgt := 487) hx hb dL_law_202 (by decide) (fun _ => ?_) (fun z => absurd rfl z)
    exact nx _ _ _ _ H locs ⟨hI.1, hI.2.1, HM⟩ (by omega) hP hD hS
  · skip
    refine lv_aload_n hx hb dL_law_184 rfl (lv_at hl 1 rfl) ?_
    refine lv_aload_n hx hb dL_law_185 rfl (lv_at hl 0 rfl) ?_
    refine lv_iload_n hx hb dL_law_186 rfl (lv_at hl 3 rfl) ?_
    refine lv_iconst (v := 1) hx hb dL_law_187 (by decide) ?_
    refine lv_iadd hx hb dL_law_188 ?_
    refine va_sld hx hb hX hbl hbA hS hk1 dL_law_189 ?_
    refine law_call (D := D) (ad := adC) (cT := cT) (w := wC P S) (M := 82) (d := 260) (r2 := [.int (xs (nI (6 * j) + 1).toNatClampNeg)]) (rest := []) (Q1 := fun r w => r = some (.int ((sRun P (xs (nI (6 * j) + 1).toNatClampNeg) S).1)) ∧ w = wC P (sRun P (xs (nI (6 * j) + 1).toNatClampNeg) S).2) hx hb hml hown hts hK hN hA hP hD hS hl.1 rfl (by decide) (x_t1 (i := 216) rfl rfl) (k_run2 (D := 260) (by decide) hI.1 f1_ok go_ok hI.2.1 hκ (xs (nI (6 * j) + 1).toNatClampNeg) (fun _ => ⟨rfl, rfl⟩) (fun z => absurd (hn.symm.trans z) (by decide))) (Nat.le_refl _) (Nat.le_of_ble_eq_true rfl) dL_law_190 (Nat.le_of_ble_eq_true rfl) (Nat.le_of_ble_eq_true rfl) ?_
    rintro _ _ H locs ⟨rfl, rfl⟩ hP hD hS
    refine lv_aload_n hx hb dL_law_193 rfl (lv_at hl 2 rfl) ?_
    refine lv_aload_n hx hb dL_law_194 rfl (lv_at hl 0 rfl) ?_
    refine lv_iload_n hx hb dL_law_195 rfl (lv_at hl 3 rfl) ?_
    refine lv_iconst (v := 1) hx hb dL_law_196 (by decide) ?_
    refine lv_iadd hx hb dL_law_197 ?_
    refine va_sld hx hb hX hbl hbA hS hk1 dL_law_198 ?_
    refine law_call (D := D) (ad := adM) (cT := cT) (w := wM P S mm) (M := 148) (d := 260) (r2 := [.int (xs (nI (6 * j) + 1).toNatClampNeg)]) (rest := [.int ((sRun P (xs (nI (6 * j) + 1).toNatClampNeg) S).1)]) (Q1 := fun r w => ∃ mm2 : MS, r = some (.int ((sRun P (xs (nI (6 * j) + 1).toNatClampNeg) S).1)) ∧ w = wM P (sRun P (xs (nI (6 * j) + 1).toNatClampNeg) S).2 mm2 ∧ RM (sRun P (xs (nI (6 * j) + 1).toNatClampNeg) S).2 mm2 ∧ mCame mm2 = rA (sRun P (xs (nI (6 * j) + 1).toNatClampNeg) S).2.2.2) hx hb hml hown hts hK hN hA hP hD hS hl.1 rfl (by decide) (x_t4 (i := 18) rfl rfl) (m_run (D := 260) (by decide) hI.1 f1_ok fc_ok go_ok hI.2.1 hκ hI.2.2.1 (xs (nI (6 * j) + 1).toNatClampNeg) (fun _ m2 h1 h2 => ⟨m2, rfl, rfl, h1, h2⟩) (fun z => absurd (hn.symm.trans z) (by decide))) (Nat.le_refl _) (Nat.le_of_ble_eq_true rfl) dL_law_199 (Nat.le_of_ble_eq_true rfl) (Nat.le_of_ble_eq_true rfl) ?_
    rintro _ _ H locs ⟨mm2, rfl, rfl, HM⟩ hP hD hS
    refine lv_icmp_eq (tgt := 487) hx hb dL_law_202 (by decide) (fun _ => ?_) (fun z => absurd rfl z)
    exact nx _ _ _ _ H locs ⟨hI.1, sRun_CI hI.1 go_ok hI.2.1 hκ (xs (nI (6 * j) + 1).toNatClampNeg), HM⟩ (Int.le_refl _) hP hD hS
set_option maxHeartbeats 4000000 in
set_option maxRecDepth 100000 in
theorem law_value (lx : LX p s m c b L xs D cT) (hj : 6 * j + 6 ≤ L) (hL : L ≤ 3072) (hI : LI κ P S mm) (hκ : κ ≤ gB) (hP : va_P D vwCl (x_cw adC cT (wC P S) ++ x_cw adM cT (wM P S mm)) H) (hD : va_D (fun q : Nat => s.heap.size ≤ q) (x_cw adC cT (wC P S) ++ x_cw adM cT (wM P S mm))) (hS : va_S (fun q : Nat => s.heap.size ≤ q) s.heap H locs) (hl : lv_has ls 4 [(0, .ref b), (1, .ref (adC 0)), (2, .ref (adM 0)), (3, .int (nI (6 * j)))])
    (nx : ∀ κ' P' S' mm' (H : Heap) (locs : List Loc), LI κ' P' S' mm' → κ' ≤ κ + 3000 → va_P D vwCl (x_cw adC cT (wC P' S') ++ x_cw adM cT (wM P' S' mm')) H → va_D (fun q : Nat => s.heap.size ≤ q) (x_cw adC cT (wC P' S') ++ x_cw adM cT (wM P' S' mm')) → va_S (fun q : Nat => s.heap.size ≤ q) s.heap H locs → W p l e room_1 s m #[Value.ref b] below meth c H locs 60 60000 Z (F0 m 487 ls [])) : W p l e room_1 s m #[Value.ref b] below meth c H locs 60 60000 Z (F0 m 207 ls []) := by
  obtain ⟨hx, hb, hml, hown, hts, hX, hbl, hK, hN⟩ := lx
  have hA : ∀ q : Nat, s.heap.size ≤ q → (fun q : Nat => s.heap.size ≤ q) q := fun _ h => h
  have hbA : ¬ (fun q : Nat => s.heap.size ≤ q) b := Nat.not_le.mpr hbl
  refine lv_aload_n hx hb dL_law_207 rfl (lv_at hl 1 rfl) ?_
  refine law_call (D := D) (ad := adC) (cT := cT) (w := wC P S) (M := 83) (d := 260) (r2 := []) (rest := []) (Q1 := fun r w => r = some (.long (rA S.2.2)) ∧ w = wC P S) hx hb hml hown hts hK hN hA hP hD hS hl.1 rfl (by decide) (x_t3 (i := 0) rfl rfl) (k_value (D := 260) (by decide) ⟨rfl, rfl⟩) (Nat.le_refl _) (Nat.le_of_ble_eq_true rfl) dL_law_208 (Nat.le_of_ble_eq_true rfl) (Nat.le_of_ble_eq_true rfl) ?_
  rintro _ _ H locs ⟨rfl, rfl⟩ hP hD hS
  refine lv_aload_n hx hb dL_law_211 rfl (lv_at hl 2 rfl) ?_
  refine law_call (D := D) (ad := adM) (cT := cT) (w := wM P S mm) (M := 149) (d := 260) (r2 := []) (rest := [.long (rA S.2.2)]) (Q1 := fun r w => ∃ mm2 : MS, r = some (.long (rA S.2.2)) ∧ w = wM P S mm2 ∧ RM S mm2 ∧ mCame mm2 = rA S.2.2) hx hb hml hown hts hK hN hA hP hD hS hl.1 rfl (by decide) (x_t4 (i := 172) rfl rfl) (m_value (D := 260) (by decide) ⟨mm, by rw [hI.2.2.2], rfl, hI.2.2⟩) (Nat.le_refl _) (Nat.le_of_ble_eq_true rfl) dL_law_212 (Nat.le_of_ble_eq_true rfl) (Nat.le_of_ble_eq_true rfl) ?_
  rintro _ _ H locs ⟨mm2, rfl, rfl, HM⟩ hP hD hS
  refine W.lcmp hx hb dL_law_215 ?_
  refine lv_if_eq (tgt := 487) hx hb dL_law_216 (by decide) (fun _ => ?_) (fun z => absurd (by rw [lc_0]) z)
  exact nx _ _ _ _ H locs ⟨hI.1, hI.2.1, HM⟩ (by omega) hP hD hS
set_option maxHeartbeats 4000000 in
set_option maxRecDepth 100000 in
theorem law_where (lx : LX p s m c b L xs D cT) (hj : 6 * j + 6 ≤ L) (hL : L ≤ 3072) (hI : LI κ P S mm) (hκ : κ ≤ gB) (hP : va_P D vwCl (x_cw adC cT (wC P S) ++ x_cw adM cT (wM P S mm)) H) (hD : va_D (fun q : Nat => s.heap.size ≤ q) (x_cw adC cT (wC P S) ++ x_cw adM cT (wM P S mm))) (hS : va_S (fun q : Nat => s.heap.size ≤ q) s.heap H locs) (hl : lv_has ls 4 [(0, .ref b), (1, .ref (adC 0)), (2, .ref (adM 0)), (3, .int (nI (6 * j)))])
    (nx : ∀ κ' P' S' mm' (H : Heap) (locs : List Loc), LI κ' P' S' mm' → κ' ≤ κ + 3000 → va_P D vwCl (x_cw adC cT (wC P' S') ++ x_cw adM cT (wM P' S' mm')) H → va_D (fun q : Nat => s.heap.size ≤ q) (x_cw adC cT (wC P' S') ++ x_cw adM cT (wM P' S' mm')) → va_S (fun q : Nat => s.heap.size ≤ q) s.heap H locs → W p l e room_1 s m #[Value.ref b] below meth c H locs 60 60000 Z (F0 m 487 ls [])) : W p l e room_1 s m #[Value.ref b] below meth c H locs 60 60000 Z (F0 m 221 ls []) := by
  obtain ⟨hx, hb, hml, hown, hts, hX, hbl, hK, hN⟩ := lx
  have hA : ∀ q : Nat, s.heap.size ≤ q → (fun q : Nat => s.heap.size ≤ q) q := fun _ h => h
  have hbA : ¬ (fun q : Nat => s.heap.size ≤ q) b := Nat.not_le.mpr hbl
  refine lv_aload_n hx hb dL_law_221 rfl (lv_at hl 1 rfl) ?_
  refine law_call (D := D) (ad := adC) (cT := cT) (w := wC P S) (M := 84) (d := 260) (r2 := []) (rest := []) (Q1 := fun r w => r = some (.int (rW S.2.2)) ∧ w = wC P S) hx hb hml hown hts hK hN hA hP hD hS hl.1 rfl (by decide) (x_t3 (i := 4) rfl rfl) (k_where (D := 260) (by decide) ⟨rfl, rfl⟩) (Nat.le_refl _) (Nat.le_of_ble_eq_true rfl) dL_law_222 (Nat.le_of_ble_eq_true rfl) (Nat.le_of_ble_eq_true rfl) ?_
  rintro _ _ H locs ⟨rfl, rfl⟩ hP hD hS
  refine lv_aload_n hx hb dL_law_225 rfl (lv_at hl 2 rfl) ?_
  refine law_call (D := D) (ad := adM) (cT := cT) (w := wM P S mm) (M := 150) (d := 260) (r2 := []) (rest := [.int (rW S.2.2)]) (Q1 := fun r w => ∃ mm2 : MS, r = some (.int (rW S.2.2)) ∧ w = wM P S mm2 ∧ RM S mm2 ∧ mCame mm2 = rA S.2.2) hx hb hml hown hts hK hN hA hP hD hS hl.1 rfl (by decide) (x_t4 (i := 176) rfl rfl) (m_where (D := 260) (by decide) ⟨mm, rfl, rfl, hI.2.2⟩) (Nat.le_refl _) (Nat.le_of_ble_eq_true rfl) dL_law_226 (Nat.le_of_ble_eq_true rfl) (Nat.le_of_ble_eq_true rfl) ?_
  rintro _ _ H locs ⟨mm2, rfl, rfl, HM⟩ hP hD hS
  refine lv_icmp_eq (tgt := 487) hx hb dL_law_229 (by decide) (fun _ => ?_) (fun z => absurd rfl z)
  exact nx _ _ _ _ H locs ⟨hI.1, hI.2.1, HM⟩ (by omega) hP hD hS
set_option maxHeartbeats 4000000 in
set_option maxRecDepth 100000 in
theorem law_worked (lx : LX p s m c b L xs D cT) (hj : 6 * j + 6 ≤ L) (hL : L ≤ 3072) (hI : LI κ P S mm) (hκ : κ ≤ gB) (hP : va_P D vwCl (x_cw adC cT (wC P S) ++ x_cw adM cT (wM P S mm)) H) (hD : va_D (fun q : Nat => s.heap.size ≤ q) (x_cw adC cT (wC P S) ++ x_cw adM cT (wM P S mm))) (hS : va_S (fun q : Nat => s.heap.size ≤ q) s.heap H locs) (hl : lv_has ls 4 [(0, .ref b), (1, .ref (adC 0)), (2, .ref (adM 0)), (3, .int (nI (6 * j)))])
    (nx : ∀ κ' P' S' mm' (H : Heap) (locs : List Loc), LI κ' P' S' mm' → κ' ≤ κ + 3000 → va_P D vwCl (x_cw adC cT (wC P' S') ++ x_cw adM cT (wM P' S' mm')) H → va_D (fun q : Nat => s.heap.size ≤ q) (x_cw adC cT (wC P' S') ++ x_cw adM cT (wM P' S' mm')) → va_S (fun q : Nat => s.heap.size ≤ q) s.heap H locs → W p l e room_1 s m #[Value.ref b] below meth c H locs 60 60000 Z (F0 m 487 ls [])) : W p l e room_1 s m #[Value.ref b] below meth c H locs 60 60000 Z (F0 m 234 ls []) := by
  obtain ⟨hx, hb, hml, hown, hts, hX, hbl, hK, hN⟩ := lx
  have hA : ∀ q : Nat, s.heap.size ≤ q → (fun q : Nat => s.heap.size ≤ q) q := fun _ h => h
  have hbA : ¬ (fun q : Nat => s.heap.size ≤ q) b := Nat.not_le.mpr hbl
  refine lv_aload_n hx hb dL_law_234 rfl (lv_at hl 1 rfl) ?_
  refine law_call (D := D) (ad := adC) (cT := cT) (w := wC P S) (M := 85) (d := 260) (r2 := []) (rest := []) (Q1 := fun r w => r = some (.int (rN S.2.2)) ∧ w = wC P S) hx hb hml hown hts hK hN hA hP hD hS hl.1 rfl (by decide) (x_t3 (i := 8) rfl rfl) (k_worked (D := 260) (by decide) ⟨rfl, rfl⟩) (Nat.le_refl _) (Nat.le_of_ble_eq_true rfl) dL_law_235 (Nat.le_of_ble_eq_true rfl) (Nat.le_of_ble_eq_true rfl) ?_
  rintro _ _ H locs ⟨rfl, rfl⟩ hP hD hS
  refine lv_aload_n hx hb dL_law_238 rfl (lv_at hl 2 rfl) ?_
  refine law_call (D := D) (ad := adM) (cT := cT) (w := wM P S mm) (M := 151) (d := 260) (r2 := []) (rest := [.int (rN S.2.2)]) (Q1 := fun r w => ∃ mm2 : MS, r = some (.int (rN S.2.2)) ∧ w = wM P S mm2 ∧ RM S mm2 ∧ mCame mm2 = rA S.2.2) hx hb hml hown hts hK hN hA hP hD hS hl.1 rfl (by decide) (x_t4 (i := 180) rfl rfl) (m_worked (D := 260) (by decide) ⟨mm, rfl, rfl, hI.2.2⟩) (Nat.le_refl _) (Nat.le_of_ble_eq_true rfl) dL_law_239 (Nat.le_of_ble_eq_true rfl) (Nat.le_of_ble_eq_true rfl) ?_
  rintro _ _ H locs ⟨mm2, rfl, rfl, HM⟩ hP hD hS
  refine lv_icmp_eq (tgt := 487) hx hb dL_law_242 (by decide) (fun _ => ?_) (fun z => absurd rfl z)
  exact nx _ _ _ _ H locs ⟨hI.1, hI.2.1, HM⟩ (by omega) hP hD hS
set_option maxHeartbeats 4000000 in
set_option maxRecDepth 100000 in
theorem law_notes (lx : LX p s m c b L xs D cT) (hj : 6 * j + 6 ≤ L) (hL : L ≤ 3072) (hI : LI κ P S mm) (hκ : κ ≤ gB) (hP : va_P D vwCl (x_cw adC cT (wC P S) ++ x_cw adM cT (wM P S mm)) H) (hD : va_D (fun q : Nat => s.heap.size ≤ q) (x_cw adC cT (wC P S) ++ x_cw adM cT (wM P S mm))) (hS : va_S (fun q : Nat => s.heap.size ≤ q) s.heap H locs) (hl : lv_has ls 4 [(0, .ref b), (1, .ref (adC 0)), (2, .ref (adM 0)), (3, .int (nI (6 * j)))])
    (nx : ∀ κ' P' S' mm' (H : Heap) (locs : List Loc), LI κ' P' S' mm' → κ' ≤ κ + 3000 → va_P D vwCl (x_cw adC cT (wC P' S') ++ x_cw adM cT (wM P' S' mm')) H → va_D (fun q : Nat => s.heap.size ≤ q) (x_cw adC cT (wC P' S') ++ x_cw adM cT (wM P' S' mm')) → va_S (fun q : Nat => s.heap.size ≤ q) s.heap H locs → W p l e room_1 s m #[Value.ref b] below meth c H locs 60 60000 Z (F0 m 487 ls [])) : W p l e room_1 s m #[Value.ref b] below meth c H locs 60 60000 Z (F0 m 247 ls []) := by
  obtain ⟨hx, hb, hml, hown, hts, hX, hbl, hK, hN⟩ := lx
  have hA : ∀ q : Nat, s.heap.size ≤ q → (fun q : Nat => s.heap.size ≤ q) q := fun _ h => h
  have hbA : ¬ (fun q : Nat => s.heap.size ≤ q) b := Nat.not_le.mpr hbl
  refine lv_aload_n hx hb dL_law_247 rfl (lv_at hl 1 rfl) ?_
  refine law_call (D := D) (ad := adC) (cT := cT) (w := wC P S) (M := 86) (d := 260) (r2 := []) (rest := []) (Q1 := fun r w => r = some (.int (rT S.2.2)) ∧ w = wC P S) hx hb hml hown hts hK hN hA hP hD hS hl.1 rfl (by decide) (x_t3 (i := 12) rfl rfl) (k_notes (D := 260) (by decide) ⟨rfl, rfl⟩) (Nat.le_refl _) (Nat.le_of_ble_eq_true rfl) dL_law_248 (Nat.le_of_ble_eq_true rfl) (Nat.le_of_ble_eq_true rfl) ?_
  rintro _ _ H locs ⟨rfl, rfl⟩ hP hD hS
  refine lv_aload_n hx hb dL_law_251 rfl (lv_at hl 2 rfl) ?_
  refine law_call (D := D) (ad := adM) (cT := cT) (w := wM P S mm) (M := 152) (d := 260) (r2 := []) (rest := [.int (rT S.2.2)]) (Q1 := fun r w => ∃ mm2 : MS, r = some (.int (rT S.2.2)) ∧ w = wM P S mm2 ∧ RM S mm2 ∧ mCame mm2 = rA S.2.2) hx hb hml hown hts hK hN hA hP hD hS hl.1 rfl (by decide) (x_t4 (i := 184) rfl rfl) (m_notes (D := 260) (by decide) ⟨mm, rfl, rfl, hI.2.2⟩) (Nat.le_refl _) (Nat.le_of_ble_eq_true rfl) dL_law_252 (Nat.le_of_ble_eq_true rfl) (Nat.le_of_ble_eq_true rfl) ?_
  rintro _ _ H locs ⟨mm2, rfl, rfl, HM⟩ hP hD hS
  refine lv_icmp_eq (tgt := 487) hx hb dL_law_255 (by decide) (fun _ => ?_) (fun z => absurd rfl z)
  exact nx _ _ _ _ H locs ⟨hI.1, hI.2.1, HM⟩ (by omega) hP hD hS
set_option maxHeartbeats 4000000 in
set_option maxRecDepth 100000 in
theorem law_note (lx : LX p s m c b L xs D cT) (hj : 6 * j + 6 ≤ L) (hL : L ≤ 3072) (hI : LI κ P S mm) (hκ : κ ≤ gB) (hP : va_P D vwCl (x_cw adC cT (wC P S) ++ x_cw adM cT (wM P S mm)) H) (hD : va_D (fun q : Nat => s.heap.size ≤ q) (x_cw adC cT (wC P S) ++ x_cw adM cT (wM P S mm))) (hS : va_S (fun q : Nat => s.heap.size ≤ q) s.heap H locs) (hl : lv_has ls 4 [(0, .ref b), (1, .ref (adC 0)), (2, .ref (adM 0)), (3, .int (nI (6 * j)))])
    (nx : ∀ κ' P' S' mm' (H : Heap) (locs : List Loc), LI κ' P' S' mm' → κ' ≤ κ + 3000 → va_P D vwCl (x_cw adC cT (wC P' S') ++ x_cw adM cT (wM P' S' mm')) H → va_D (fun q : Nat => s.heap.size ≤ q) (x_cw adC cT (wC P' S') ++ x_cw adM cT (wM P' S' mm')) → va_S (fun q : Nat => s.heap.size ≤ q) s.heap H locs → W p l e room_1 s m #[Value.ref b] below meth c H locs 60 60000 Z (F0 m 487 ls [])) : W p l e room_1 s m #[Value.ref b] below meth c H locs 60 60000 Z (F0 m 260 ls []) := by
  obtain ⟨hx, hb, hml, hown, hts, hX, hbl, hK, hN⟩ := lx
  have hA : ∀ q : Nat, s.heap.size ≤ q → (fun q : Nat => s.heap.size ≤ q) q := fun _ h => h
  have hbA : ¬ (fun q : Nat => s.heap.size ≤ q) b := Nat.not_le.mpr hbl
  have hk1 : vp_in (nI (6 * j) + 1) L := by rw [show (1 : Int32) = nI 1 from rfl, nI_add]; exact vp_in_nI (by omega) (by omega)
  refine lv_aload_n hx hb dL_law_260 rfl (lv_at hl 1 rfl) ?_
  refine lv_aload_n hx hb dL_law_261 rfl (lv_at hl 0 rfl) ?_
  refine lv_iload_n hx hb dL_law_262 rfl (lv_at hl 3 rfl) ?_
  refine lv_iconst (v := 1) hx hb dL_law_263 (by decide) ?_
  refine lv_iadd hx hb dL_law_264 ?_
  refine va_sld hx hb hX hbl hbA hS hk1 dL_law_265 ?_
  refine law_call (D := D) (ad := adC) (cT := cT) (w := wC P S) (M := 87) (d := 260) (r2 := [.int (xs (nI (6 * j) + 1).toNatClampNeg)]) (rest := []) (Q1 := fun r w => r = some (.int (sKept S (xs (nI (6 * j) + 1).toNatClampNeg))) ∧ w = wC P S) hx hb hml hown hts hK hN hA hP hD hS hl.1 rfl (by decide) (x_t3 (i := 16) rfl rfl) (k_note (D := 260) (by decide) (xs (nI (6 * j) + 1).toNatClampNeg) ⟨rfl, rfl⟩) (Nat.le_refl _) (Nat.le_of_ble_eq_true rfl) dL_law_266 (Nat.le_of_ble_eq_true rfl) (Nat.le_of_ble_eq_true rfl) ?_
  rintro _ _ H locs ⟨rfl, rfl⟩ hP hD hS
  refine lv_aload_n hx hb dL_law_269 rfl (lv_at hl 2 rfl) ?_
  refine lv_aload_n hx hb dL_law_270 rfl (lv_at hl 0 rfl) ?_
  refine lv_iload_n hx hb dL_law_271 rfl (lv_at hl 3 rfl) ?_
  refine lv_iconst (v := 1) hx hb dL_law_272 (by decide) ?_
  refine lv_iadd hx hb dL_law_273 ?_
  refine va_sld hx hb hX hbl hbA hS hk1 dL_law_274 ?_
  refine law_call (D := D) (ad := adM) (cT := cT) (w := wM P S mm) (M := 153) (d := 260) (r2 := [.int (xs (nI (6 * j) + 1).toNatClampNeg)]) (rest := [.int (sKept S (xs (nI (6 * j) + 1).toNatClampNeg))]) (Q1 := fun r w => ∃ mm2 : MS, r = some (.int (sKept S (xs (nI (6 * j) + 1).toNatClampNeg))) ∧ w = wM P S mm2 ∧ RM S mm2 ∧ mCame mm2 = rA S.2.2) hx hb hml hown hts hK hN hA hP hD hS hl.1 rfl (by decide) (x_t4 (i := 188) rfl rfl) (m_note (D := 260) (by decide) hI.2.1.2.2.2.2.2 (xs (nI (6 * j) + 1).toNatClampNeg) ⟨mm, rfl, rfl, hI.2.2⟩) (Nat.le_refl _) (Nat.le_of_ble_eq_true rfl) dL_law_275 (Nat.le_of_ble_eq_true rfl) (Nat.le_of_ble_eq_true rfl) ?_
  rintro _ _ H locs ⟨mm2, rfl, rfl, HM⟩ hP hD hS
  refine lv_icmp_eq (tgt := 487) hx hb dL_law_278 (by decide) (fun _ => ?_) (fun z => absurd rfl z)
  exact nx _ _ _ _ H locs ⟨hI.1, hI.2.1, HM⟩ (by omega) hP hD hS
set_option maxHeartbeats 4000000 in
set_option maxRecDepth 100000 in
theorem law_has (lx : LX p s m c b L xs D cT) (hj : 6 * j + 6 ≤ L) (hL : L ≤ 3072) (hI : LI κ P S mm) (hκ : κ ≤ gB) (hP : va_P D vwCl (x_cw adC cT (wC P S) ++ x_cw adM cT (wM P S mm)) H) (hD : va_D (fun q : Nat => s.heap.size ≤ q) (x_cw adC cT (wC P S) ++ x_cw adM cT (wM P S mm))) (hS : va_S (fun q : Nat => s.heap.size ≤ q) s.heap H locs) (hl : lv_has ls 4 [(0, .ref b), (1, .ref (adC 0)), (2, .ref (adM 0)), (3, .int (nI (6 * j)))])
    (nx : ∀ κ' P' S' mm' (H : Heap) (locs : List Loc), LI κ' P' S' mm' → κ' ≤ κ + 3000 → va_P D vwCl (x_cw adC cT (wC P' S') ++ x_cw adM cT (wM P' S' mm')) H → va_D (fun q : Nat => s.heap.size ≤ q) (x_cw adC cT (wC P' S') ++ x_cw adM cT (wM P' S' mm')) → va_S (fun q : Nat => s.heap.size ≤ q) s.heap H locs → W p l e room_1 s m #[Value.ref b] below meth c H locs 60 60000 Z (F0 m 487 ls [])) : W p l e room_1 s m #[Value.ref b] below meth c H locs 60 60000 Z (F0 m 283 ls []) := by
  obtain ⟨hx, hb, hml, hown, hts, hX, hbl, hK, hN⟩ := lx
  have hA : ∀ q : Nat, s.heap.size ≤ q → (fun q : Nat => s.heap.size ≤ q) q := fun _ h => h
  have hbA : ¬ (fun q : Nat => s.heap.size ≤ q) b := Nat.not_le.mpr hbl
  have hk1 : vp_in (nI (6 * j) + 1) L := by rw [show (1 : Int32) = nI 1 from rfl, nI_add]; exact vp_in_nI (by omega) (by omega)
  refine lv_aload_n hx hb dL_law_283 rfl (lv_at hl 1 rfl) ?_
  refine lv_aload_n hx hb dL_law_284 rfl (lv_at hl 0 rfl) ?_
  refine lv_iload_n hx hb dL_law_285 rfl (lv_at hl 3 rfl) ?_
  refine lv_iconst (v := 1) hx hb dL_law_286 (by decide) ?_
  refine lv_iadd hx hb dL_law_287 ?_
  refine va_sld hx hb hX hbl hbA hS hk1 dL_law_288 ?_
  refine law_call (D := D) (ad := adC) (cT := cT) (w := wC P S) (M := 88) (d := 260) (r2 := [.int (xs (nI (6 * j) + 1).toNatClampNeg)]) (rest := []) (Q1 := fun r w => r = some (.int ((bif isVar (xs (nI (6 * j) + 1).toNatClampNeg) then vK S.2.1 (ix (xs (nI (6 * j) + 1).toNatClampNeg)) else -2))) ∧ w = wC P S) hx hb hml hown hts hK hN hA hP hD hS hl.1 rfl (by decide) (x_t3 (i := 24) rfl rfl) (k_has (D := 260) (by decide) (xs (nI (6 * j) + 1).toNatClampNeg) ⟨rfl, rfl⟩) (Nat.le_refl _) (Nat.le_of_ble_eq_true rfl) dL_law_289 (Nat.le_of_ble_eq_true rfl) (Nat.le_of_ble_eq_true rfl) ?_
  rintro _ _ H locs ⟨rfl, rfl⟩ hP hD hS
  refine lv_aload_n hx hb dL_law_292 rfl (lv_at hl 2 rfl) ?_
  refine lv_aload_n hx hb dL_law_293 rfl (lv_at hl 0 rfl) ?_
  refine lv_iload_n hx hb dL_law_294 rfl (lv_at hl 3 rfl) ?_
  refine lv_iconst (v := 1) hx hb dL_law_295 (by decide) ?_
  refine lv_iadd hx hb dL_law_296 ?_
  refine va_sld hx hb hX hbl hbA hS hk1 dL_law_297 ?_
  refine law_call (D := D) (ad := adM) (cT := cT) (w := wM P S mm) (M := 154) (d := 260) (r2 := [.int (xs (nI (6 * j) + 1).toNatClampNeg)]) (rest := [.int ((bif isVar (xs (nI (6 * j) + 1).toNatClampNeg) then vK S.2.1 (ix (xs (nI (6 * j) + 1).toNatClampNeg)) else -2))]) (Q1 := fun r w => ∃ mm2 : MS, r = some (.int ((bif isVar (xs (nI (6 * j) + 1).toNatClampNeg) then vK S.2.1 (ix (xs (nI (6 * j) + 1).toNatClampNeg)) else -2))) ∧ w = wM P S mm2 ∧ RM S mm2 ∧ mCame mm2 = rA S.2.2) hx hb hml hown hts hK hN hA hP hD hS hl.1 rfl (by decide) (x_t4 (i := 192) rfl rfl) (m_has (D := 260) (by decide) hI.2.2.1 hI.2.1.2.1 (xs (nI (6 * j) + 1).toNatClampNeg) ⟨mm, rfl, rfl, hI.2.2⟩) (Nat.le_refl _) (Nat.le_of_ble_eq_true rfl) dL_law_298 (Nat.le_of_ble_eq_true rfl) (Nat.le_of_ble_eq_true rfl) ?_
  rintro _ _ H locs ⟨mm2, rfl, rfl, HM⟩ hP hD hS
  refine lv_icmp_eq (tgt := 487) hx hb dL_law_301 (by decide) (fun _ => ?_) (fun z => absurd rfl z)
  exact nx _ _ _ _ H locs ⟨hI.1, hI.2.1, HM⟩ (by omega) hP hD hS
set_option maxHeartbeats 4000000 in
set_option maxRecDepth 100000 in
theorem law_get (lx : LX p s m c b L xs D cT) (hj : 6 * j + 6 ≤ L) (hL : L ≤ 3072) (hI : LI κ P S mm) (hκ : κ ≤ gB) (hP : va_P D vwCl (x_cw adC cT (wC P S) ++ x_cw adM cT (wM P S mm)) H) (hD : va_D (fun q : Nat => s.heap.size ≤ q) (x_cw adC cT (wC P S) ++ x_cw adM cT (wM P S mm))) (hS : va_S (fun q : Nat => s.heap.size ≤ q) s.heap H locs) (hl : lv_has ls 4 [(0, .ref b), (1, .ref (adC 0)), (2, .ref (adM 0)), (3, .int (nI (6 * j)))])
    (nx : ∀ κ' P' S' mm' (H : Heap) (locs : List Loc), LI κ' P' S' mm' → κ' ≤ κ + 3000 → va_P D vwCl (x_cw adC cT (wC P' S') ++ x_cw adM cT (wM P' S' mm')) H → va_D (fun q : Nat => s.heap.size ≤ q) (x_cw adC cT (wC P' S') ++ x_cw adM cT (wM P' S' mm')) → va_S (fun q : Nat => s.heap.size ≤ q) s.heap H locs → W p l e room_1 s m #[Value.ref b] below meth c H locs 60 60000 Z (F0 m 487 ls [])) : W p l e room_1 s m #[Value.ref b] below meth c H locs 60 60000 Z (F0 m 306 ls []) := by
  obtain ⟨hx, hb, hml, hown, hts, hX, hbl, hK, hN⟩ := lx
  have hA : ∀ q : Nat, s.heap.size ≤ q → (fun q : Nat => s.heap.size ≤ q) q := fun _ h => h
  have hbA : ¬ (fun q : Nat => s.heap.size ≤ q) b := Nat.not_le.mpr hbl
  have hk1 : vp_in (nI (6 * j) + 1) L := by rw [show (1 : Int32) = nI 1 from rfl, nI_add]; exact vp_in_nI (by omega) (by omega)
  refine lv_aload_n hx hb dL_law_306 rfl (lv_at hl 1 rfl) ?_
  refine lv_aload_n hx hb dL_law_307 rfl (lv_at hl 0 rfl) ?_
  refine lv_iload_n hx hb dL_law_308 rfl (lv_at hl 3 rfl) ?_
  refine lv_iconst (v := 1) hx hb dL_law_309 (by decide) ?_
  refine lv_iadd hx hb dL_law_310 ?_
  refine va_sld hx hb hX hbl hbA hS hk1 dL_law_311 ?_
  refine law_call (D := D) (ad := adC) (cT := cT) (w := wC P S) (M := 89) (d := 260) (r2 := [.int (xs (nI (6 * j) + 1).toNatClampNeg)]) (rest := []) (Q1 := fun r w => r = some (.long ((bif isVar (xs (nI (6 * j) + 1).toNatClampNeg) then vA S.2.1 (ix (xs (nI (6 * j) + 1).toNatClampNeg)) else 0))) ∧ w = wC P S) hx hb hml hown hts hK hN hA hP hD hS hl.1 rfl (by decide) (x_t3 (i := 29) rfl rfl) (k_get (D := 260) (by decide) (xs (nI (6 * j) + 1).toNatClampNeg) ⟨rfl, rfl⟩) (Nat.le_refl _) (Nat.le_of_ble_eq_true rfl) dL_law_312 (Nat.le_of_ble_eq_true rfl) (Nat.le_of_ble_eq_true rfl) ?_
  rintro _ _ H locs ⟨rfl, rfl⟩ hP hD hS
  refine lv_aload_n hx hb dL_law_315 rfl (lv_at hl 2 rfl) ?_
  refine lv_aload_n hx hb dL_law_316 rfl (lv_at hl 0 rfl) ?_
  refine lv_iload_n hx hb dL_law_317 rfl (lv_at hl 3 rfl) ?_
  refine lv_iconst (v := 1) hx hb dL_law_318 (by decide) ?_
  refine lv_iadd hx hb dL_law_319 ?_
  refine va_sld hx hb hX hbl hbA hS hk1 dL_law_320 ?_
  refine law_call (D := D) (ad := adM) (cT := cT) (w := wM P S mm) (M := 155) (d := 260) (r2 := [.int (xs (nI (6 * j) + 1).toNatClampNeg)]) (rest := [.long ((bif isVar (xs (nI (6 * j) + 1).toNatClampNeg) then vA S.2.1 (ix (xs (nI (6 * j) + 1).toNatClampNeg)) else 0))]) (Q1 := fun r w => ∃ mm2 : MS, r = some (.long ((bif isVar (xs (nI (6 * j) + 1).toNatClampNeg) then vA S.2.1 (ix (xs (nI (6 * j) + 1).toNatClampNeg)) else 0))) ∧ w = wM P S mm2 ∧ RM S mm2 ∧ mCame mm2 = rA S.2.2) hx hb hml hown hts hK hN hA hP hD hS hl.1 rfl (by decide) (x_t4 (i := 196) rfl rfl) (m_get (D := 260) (by decide) (xs (nI (6 * j) + 1).toNatClampNeg) ⟨mm, rfl, rfl, hI.2.2⟩) (Nat.le_refl _) (Nat.le_of_ble_eq_true rfl) dL_law_321 (Nat.le_of_ble_eq_true rfl) (Nat.le_of_ble_eq_true rfl) ?_
  rintro _ _ H locs ⟨mm2, rfl, rfl, HM⟩ hP hD hS
  refine W.lcmp hx hb dL_law_324 ?_
  refine lv_if_eq (tgt := 487) hx hb dL_law_325 (by decide) (fun _ => ?_) (fun z => absurd (by rw [lc_0]) z)
  exact nx _ _ _ _ H locs ⟨hI.1, hI.2.1, HM⟩ (by omega) hP hD hS
set_option maxHeartbeats 4000000 in
set_option maxRecDepth 100000 in
theorem law_thing (lx : LX p s m c b L xs D cT) (hj : 6 * j + 6 ≤ L) (hL : L ≤ 3072) (hI : LI κ P S mm) (hκ : κ ≤ gB) (hP : va_P D vwCl (x_cw adC cT (wC P S) ++ x_cw adM cT (wM P S mm)) H) (hD : va_D (fun q : Nat => s.heap.size ≤ q) (x_cw adC cT (wC P S) ++ x_cw adM cT (wM P S mm))) (hS : va_S (fun q : Nat => s.heap.size ≤ q) s.heap H locs) (hl : lv_has ls 4 [(0, .ref b), (1, .ref (adC 0)), (2, .ref (adM 0)), (3, .int (nI (6 * j)))])
    (nx : ∀ κ' P' S' mm' (H : Heap) (locs : List Loc), LI κ' P' S' mm' → κ' ≤ κ + 3000 → va_P D vwCl (x_cw adC cT (wC P' S') ++ x_cw adM cT (wM P' S' mm')) H → va_D (fun q : Nat => s.heap.size ≤ q) (x_cw adC cT (wC P' S') ++ x_cw adM cT (wM P' S' mm')) → va_S (fun q : Nat => s.heap.size ≤ q) s.heap H locs → W p l e room_1 s m #[Value.ref b] below meth c H locs 60 60000 Z (F0 m 487 ls [])) : W p l e room_1 s m #[Value.ref b] below meth c H locs 60 60000 Z (F0 m 330 ls []) := by
  obtain ⟨hx, hb, hml, hown, hts, hX, hbl, hK, hN⟩ := lx
  have hA : ∀ q : Nat, s.heap.size ≤ q → (fun q : Nat => s.heap.size ≤ q) q := fun _ h => h
  have hbA : ¬ (fun q : Nat => s.heap.size ≤ q) b := Nat.not_le.mpr hbl
  have hk1 : vp_in (nI (6 * j) + 1) L := by rw [show (1 : Int32) = nI 1 from rfl, nI_add]; exact vp_in_nI (by omega) (by omega)
  have hk2 : vp_in (nI (6 * j) + 2) L := by rw [show (2 : Int32) = nI 2 from rfl, nI_add]; exact vp_in_nI (by omega) (by omega)
  refine lv_aload_n hx hb dL_law_330 rfl (lv_at hl 1 rfl) ?_
  refine lv_aload_n hx hb dL_law_331 rfl (lv_at hl 0 rfl) ?_
  refine lv_iload_n hx hb dL_law_332 rfl (lv_at hl 3 rfl) ?_
  refine lv_iconst (v := 1) hx hb dL_law_333 (by decide) ?_
  refine lv_iadd hx hb dL_law_334 ?_
  refine va_sld hx hb hX hbl hbA hS hk1 dL_law_335 ?_
  refine lv_aload_n hx hb dL_law_336 rfl (lv_at hl 0 rfl) ?_
  refine lv_iload_n hx hb dL_law_337 rfl (lv_at hl 3 rfl) ?_
  refine lv_iconst (v := 2) hx hb dL_law_338 (by decide) ?_
  refine lv_iadd hx hb dL_law_339 ?_
  refine va_sld hx hb hX hbl hbA hS hk2 dL_law_340 ?_
  refine law_call (D := D) (ad := adC) (cT := cT) (w := wC P S) (M := 90) (d := 260) (r2 := [.int (xs (nI (6 * j) + 1).toNatClampNeg), .int (xs (nI (6 * j) + 2).toNatClampNeg)]) (rest := []) (Q1 := fun r w => r = some (.int (hThing S.1 (xs (nI (6 * j) + 1).toNatClampNeg) (xs (nI (6 * j) + 2).toNatClampNeg))) ∧ w = wC P S) hx hb hml hown hts hK hN hA hP hD hS hl.1 rfl (by decide) (x_t3 (i := 33) rfl rfl) (k_thing (D := 260) (by decide) hI.2.1.1.1 (xs (nI (6 * j) + 1).toNatClampNeg) (xs (nI (6 * j) + 2).toNatClampNeg) ⟨rfl, rfl⟩) (Nat.le_refl _) (Nat.le_of_ble_eq_true rfl) dL_law_341 (Nat.le_of_ble_eq_true rfl) (Nat.le_of_ble_eq_true rfl) ?_
  rintro _ _ H locs ⟨rfl, rfl⟩ hP hD hS
  refine lv_aload_n hx hb dL_law_344 rfl (lv_at hl 2 rfl) ?_
  refine lv_aload_n hx hb dL_law_345 rfl (lv_at hl 0 rfl) ?_
  refine lv_iload_n hx hb dL_law_346 rfl (lv_at hl 3 rfl) ?_
  refine lv_iconst (v := 1) hx hb dL_law_347 (by decide) ?_
  refine lv_iadd hx hb dL_law_348 ?_
  refine va_sld hx hb hX hbl hbA hS hk1 dL_law_349 ?_
  refine lv_aload_n hx hb dL_law_350 rfl (lv_at hl 0 rfl) ?_
  refine lv_iload_n hx hb dL_law_351 rfl (lv_at hl 3 rfl) ?_
  refine lv_iconst (v := 2) hx hb dL_law_352 (by decide) ?_
  refine lv_iadd hx hb dL_law_353 ?_
  refine va_sld hx hb hX hbl hbA hS hk2 dL_law_354 ?_
  refine law_call (D := D) (ad := adM) (cT := cT) (w := wM P S mm) (M := 156) (d := 260) (r2 := [.int (xs (nI (6 * j) + 1).toNatClampNeg), .int (xs (nI (6 * j) + 2).toNatClampNeg)]) (rest := [.int (hThing S.1 (xs (nI (6 * j) + 1).toNatClampNeg) (xs (nI (6 * j) + 2).toNatClampNeg))]) (Q1 := fun r w => ∃ mm2 : MS, r = some (.int (hThing S.1 (xs (nI (6 * j) + 1).toNatClampNeg) (xs (nI (6 * j) + 2).toNatClampNeg))) ∧ w = wM P S mm2 ∧ RM S mm2 ∧ mCame mm2 = rA S.2.2) hx hb hml hown hts hK hN hA hP hD hS hl.1 rfl (by decide) (x_t4 (i := 200) rfl rfl) (m_thing (D := 260) (by decide) hI.2.1.1 (xs (nI (6 * j) + 1).toNatClampNeg) (xs (nI (6 * j) + 2).toNatClampNeg) ⟨mm, rfl, rfl, hI.2.2⟩) (Nat.le_refl _) (Nat.le_of_ble_eq_true rfl) dL_law_355 (Nat.le_of_ble_eq_true rfl) (Nat.le_of_ble_eq_true rfl) ?_
  rintro _ _ H locs ⟨mm2, rfl, rfl, HM⟩ hP hD hS
  refine lv_icmp_eq (tgt := 487) hx hb dL_law_358 (by decide) (fun _ => ?_) (fun z => absurd rfl z)
  exact nx _ _ _ _ H locs ⟨hI.1, hI.2.1, HM⟩ (by omega) hP hD hS
set_option maxHeartbeats 4000000 in
set_option maxRecDepth 100000 in
theorem law_element (lx : LX p s m c b L xs D cT) (hj : 6 * j + 6 ≤ L) (hL : L ≤ 3072) (hI : LI κ P S mm) (hκ : κ ≤ gB) (hP : va_P D vwCl (x_cw adC cT (wC P S) ++ x_cw adM cT (wM P S mm)) H) (hD : va_D (fun q : Nat => s.heap.size ≤ q) (x_cw adC cT (wC P S) ++ x_cw adM cT (wM P S mm))) (hS : va_S (fun q : Nat => s.heap.size ≤ q) s.heap H locs) (hl : lv_has ls 4 [(0, .ref b), (1, .ref (adC 0)), (2, .ref (adM 0)), (3, .int (nI (6 * j)))])
    (nx : ∀ κ' P' S' mm' (H : Heap) (locs : List Loc), LI κ' P' S' mm' → κ' ≤ κ + 3000 → va_P D vwCl (x_cw adC cT (wC P' S') ++ x_cw adM cT (wM P' S' mm')) H → va_D (fun q : Nat => s.heap.size ≤ q) (x_cw adC cT (wC P' S') ++ x_cw adM cT (wM P' S' mm')) → va_S (fun q : Nat => s.heap.size ≤ q) s.heap H locs → W p l e room_1 s m #[Value.ref b] below meth c H locs 60 60000 Z (F0 m 487 ls [])) : W p l e room_1 s m #[Value.ref b] below meth c H locs 60 60000 Z (F0 m 363 ls []) := by
  obtain ⟨hx, hb, hml, hown, hts, hX, hbl, hK, hN⟩ := lx
  have hA : ∀ q : Nat, s.heap.size ≤ q → (fun q : Nat => s.heap.size ≤ q) q := fun _ h => h
  have hbA : ¬ (fun q : Nat => s.heap.size ≤ q) b := Nat.not_le.mpr hbl
  have hk1 : vp_in (nI (6 * j) + 1) L := by rw [show (1 : Int32) = nI 1 from rfl, nI_add]; exact vp_in_nI (by omega) (by omega)
  have hk2 : vp_in (nI (6 * j) + 2) L := by rw [show (2 : Int32) = nI 2 from rfl, nI_add]; exact vp_in_nI (by omega) (by omega)
  refine lv_aload_n hx hb dL_law_363 rfl (lv_at hl 1 rfl) ?_
  refine lv_aload_n hx hb dL_law_364 rfl (lv_at hl 0 rfl) ?_
  refine lv_iload_n hx hb dL_law_365 rfl (lv_at hl 3 rfl) ?_
  refine lv_iconst (v := 1) hx hb dL_law_366 (by decide) ?_
  refine lv_iadd hx hb dL_law_367 ?_
  refine va_sld hx hb hX hbl hbA hS hk1 dL_law_368 ?_
  refine lv_aload_n hx hb dL_law_369 rfl (lv_at hl 0 rfl) ?_
  refine lv_iload_n hx hb dL_law_370 rfl (lv_at hl 3 rfl) ?_
  refine lv_iconst (v := 2) hx hb dL_law_371 (by decide) ?_
  refine lv_iadd hx hb dL_law_372 ?_
  refine va_sld hx hb hX hbl hbA hS hk2 dL_law_373 ?_
  refine law_call (D := D) (ad := adC) (cT := cT) (w := wC P S) (M := 91) (d := 260) (r2 := [.int (xs (nI (6 * j) + 1).toNatClampNeg), .int (xs (nI (6 * j) + 2).toNatClampNeg)]) (rest := []) (Q1 := fun r w => r = some (.long (hAmAt S.1 (xs (nI (6 * j) + 1).toNatClampNeg) (xs (nI (6 * j) + 2).toNatClampNeg))) ∧ w = wC P S) hx hb hml hown hts hK hN hA hP hD hS hl.1 rfl (by decide) (x_t3 (i := 45) rfl rfl) (k_element (D := 260) (by decide) hI.2.1.1.1 (xs (nI (6 * j) + 1).toNatClampNeg) (xs (nI (6 * j) + 2).toNatClampNeg) ⟨rfl, rfl⟩) (Nat.le_refl _) (Nat.le_of_ble_eq_true rfl) dL_law_374 (Nat.le_of_ble_eq_true rfl) (Nat.le_of_ble_eq_true rfl) ?_
  rintro _ _ H locs ⟨rfl, rfl⟩ hP hD hS
  refine lv_aload_n hx hb dL_law_377 rfl (lv_at hl 2 rfl) ?_
  refine lv_aload_n hx hb dL_law_378 rfl (lv_at hl 0 rfl) ?_
  refine lv_iload_n hx hb dL_law_379 rfl (lv_at hl 3 rfl) ?_
  refine lv_iconst (v := 1) hx hb dL_law_380 (by decide) ?_
  refine lv_iadd hx hb dL_law_381 ?_
  refine va_sld hx hb hX hbl hbA hS hk1 dL_law_382 ?_
  refine lv_aload_n hx hb dL_law_383 rfl (lv_at hl 0 rfl) ?_
  refine lv_iload_n hx hb dL_law_384 rfl (lv_at hl 3 rfl) ?_
  refine lv_iconst (v := 2) hx hb dL_law_385 (by decide) ?_
  refine lv_iadd hx hb dL_law_386 ?_
  refine va_sld hx hb hX hbl hbA hS hk2 dL_law_387 ?_
  refine law_call (D := D) (ad := adM) (cT := cT) (w := wM P S mm) (M := 157) (d := 260) (r2 := [.int (xs (nI (6 * j) + 1).toNatClampNeg), .int (xs (nI (6 * j) + 2).toNatClampNeg)]) (rest := [.long (hAmAt S.1 (xs (nI (6 * j) + 1).toNatClampNeg) (xs (nI (6 * j) + 2).toNatClampNeg))]) (Q1 := fun r w => ∃ mm2 : MS, r = some (.long (hAmAt S.1 (xs (nI (6 * j) + 1).toNatClampNeg) (xs (nI (6 * j) + 2).toNatClampNeg))) ∧ w = wM P S mm2 ∧ RM S mm2 ∧ mCame mm2 = rA S.2.2) hx hb hml hown hts hK hN hA hP hD hS hl.1 rfl (by decide) (x_t4 (i := 205) rfl rfl) (m_element (D := 260) (by decide) hI.2.1.1 (xs (nI (6 * j) + 1).toNatClampNeg) (xs (nI (6 * j) + 2).toNatClampNeg) ⟨mm, rfl, rfl, hI.2.2⟩) (Nat.le_refl _) (Nat.le_of_ble_eq_true rfl) dL_law_388 (Nat.le_of_ble_eq_true rfl) (Nat.le_of_ble_eq_true rfl) ?_
  rintro _ _ H locs ⟨mm2, rfl, rfl, HM⟩ hP hD hS
  refine W.lcmp hx hb dL_law_391 ?_
  refine lv_if_eq (tgt := 487) hx hb dL_law_392 (by decide) (fun _ => ?_) (fun z => absurd (by rw [lc_0]) z)
  exact nx _ _ _ _ H locs ⟨hI.1, hI.2.1, HM⟩ (by omega) hP hD hS
set_option maxHeartbeats 4000000 in
set_option maxRecDepth 100000 in
theorem law_bits (lx : LX p s m c b L xs D cT) (hj : 6 * j + 6 ≤ L) (hL : L ≤ 3072) (hI : LI κ P S mm) (hκ : κ ≤ gB) (hP : va_P D vwCl (x_cw adC cT (wC P S) ++ x_cw adM cT (wM P S mm)) H) (hD : va_D (fun q : Nat => s.heap.size ≤ q) (x_cw adC cT (wC P S) ++ x_cw adM cT (wM P S mm))) (hS : va_S (fun q : Nat => s.heap.size ≤ q) s.heap H locs) (hl : lv_has ls 4 [(0, .ref b), (1, .ref (adC 0)), (2, .ref (adM 0)), (3, .int (nI (6 * j)))])
    (nx : ∀ κ' P' S' mm' (H : Heap) (locs : List Loc), LI κ' P' S' mm' → κ' ≤ κ + 3000 → va_P D vwCl (x_cw adC cT (wC P' S') ++ x_cw adM cT (wM P' S' mm')) H → va_D (fun q : Nat => s.heap.size ≤ q) (x_cw adC cT (wC P' S') ++ x_cw adM cT (wM P' S' mm')) → va_S (fun q : Nat => s.heap.size ≤ q) s.heap H locs → W p l e room_1 s m #[Value.ref b] below meth c H locs 60 60000 Z (F0 m 487 ls [])) : W p l e room_1 s m #[Value.ref b] below meth c H locs 60 60000 Z (F0 m 397 ls []) := by
  obtain ⟨hx, hb, hml, hown, hts, hX, hbl, hK, hN⟩ := lx
  have hA : ∀ q : Nat, s.heap.size ≤ q → (fun q : Nat => s.heap.size ≤ q) q := fun _ h => h
  have hbA : ¬ (fun q : Nat => s.heap.size ≤ q) b := Nat.not_le.mpr hbl
  have hk1 : vp_in (nI (6 * j) + 1) L := by rw [show (1 : Int32) = nI 1 from rfl, nI_add]; exact vp_in_nI (by omega) (by omega)
  have hk2 : vp_in (nI (6 * j) + 2) L := by rw [show (2 : Int32) = nI 2 from rfl, nI_add]; exact vp_in_nI (by omega) (by omega)
  refine lv_aload_n hx hb dL_law_397 rfl (lv_at hl 1 rfl) ?_
  refine lv_aload_n hx hb dL_law_398 rfl (lv_at hl 0 rfl) ?_
  refine lv_iload_n hx hb dL_law_399 rfl (lv_at hl 3 rfl) ?_
  refine lv_iconst (v := 1) hx hb dL_law_400 (by decide) ?_
  refine lv_iadd hx hb dL_law_401 ?_
  refine va_sld hx hb hX hbl hbA hS hk1 dL_law_402 ?_
  refine lv_aload_n hx hb dL_law_403 rfl (lv_at hl 0 rfl) ?_
  refine lv_iload_n hx hb dL_law_404 rfl (lv_at hl 3 rfl) ?_
  refine lv_iconst (v := 2) hx hb dL_law_405 (by decide) ?_
  refine lv_iadd hx hb dL_law_406 ?_
  refine va_sld hx hb hX hbl hbA hS hk2 dL_law_407 ?_
  refine law_call (D := D) (ad := adC) (cT := cT) (w := wC P S) (M := 92) (d := 260) (r2 := [.int (xs (nI (6 * j) + 1).toNatClampNeg), .int (xs (nI (6 * j) + 2).toNatClampNeg)]) (rest := []) (Q1 := fun r w => r = some (.long (bitsQ S.1 (xs (nI (6 * j) + 1).toNatClampNeg) (xs (nI (6 * j) + 2).toNatClampNeg))) ∧ w = wC P S) hx hb hml hown hts hK hN hA hP hD hS hl.1 rfl (by decide) (x_t3 (i := 50) rfl rfl) (k_bits (D := 260) (by decide) hI.2.1.1.1 (CI_rOK hI.2.1 (by omega)) (xs (nI (6 * j) + 1).toNatClampNeg) (xs (nI (6 * j) + 2).toNatClampNeg) ⟨rfl, rfl⟩) (Nat.le_refl _) (Nat.le_of_ble_eq_true rfl) dL_law_408 (Nat.le_of_ble_eq_true rfl) (Nat.le_of_ble_eq_true rfl) ?_
  rintro _ _ H locs ⟨rfl, rfl⟩ hP hD hS
  refine lv_aload_n hx hb dL_law_411 rfl (lv_at hl 2 rfl) ?_
  refine lv_aload_n hx hb dL_law_412 rfl (lv_at hl 0 rfl) ?_
  refine lv_iload_n hx hb dL_law_413 rfl (lv_at hl 3 rfl) ?_
  refine lv_iconst (v := 1) hx hb dL_law_414 (by decide) ?_
  refine lv_iadd hx hb dL_law_415 ?_
  refine va_sld hx hb hX hbl hbA hS hk1 dL_law_416 ?_
  refine lv_aload_n hx hb dL_law_417 rfl (lv_at hl 0 rfl) ?_
  refine lv_iload_n hx hb dL_law_418 rfl (lv_at hl 3 rfl) ?_
  refine lv_iconst (v := 2) hx hb dL_law_419 (by decide) ?_
  refine lv_iadd hx hb dL_law_420 ?_
  refine va_sld hx hb hX hbl hbA hS hk2 dL_law_421 ?_
  refine law_call (D := D) (ad := adM) (cT := cT) (w := wM P S mm) (M := 158) (d := 260) (r2 := [.int (xs (nI (6 * j) + 1).toNatClampNeg), .int (xs (nI (6 * j) + 2).toNatClampNeg)]) (rest := [.long (bitsQ S.1 (xs (nI (6 * j) + 1).toNatClampNeg) (xs (nI (6 * j) + 2).toNatClampNeg))]) (Q1 := fun r w => ∃ mm2 : MS, r = some (.long (bitsQ S.1 (xs (nI (6 * j) + 1).toNatClampNeg) (xs (nI (6 * j) + 2).toNatClampNeg))) ∧ w = wM P S mm2 ∧ RM S mm2 ∧ mCame mm2 = rA S.2.2) hx hb hml hown hts hK hN hA hP hD hS hl.1 rfl (by decide) (x_t4 (i := 209) rfl rfl) (m_bits (D := 260) (by decide) hI.2.1.1 (CI_rOK hI.2.1 (by omega)) (xs (nI (6 * j) + 1).toNatClampNeg) (xs (nI (6 * j) + 2).toNatClampNeg) ⟨mm, rfl, rfl, hI.2.2⟩) (Nat.le_refl _) (Nat.le_of_ble_eq_true rfl) dL_law_422 (Nat.le_of_ble_eq_true rfl) (Nat.le_of_ble_eq_true rfl) ?_
  rintro _ _ H locs ⟨mm2, rfl, rfl, HM⟩ hP hD hS
  refine W.lcmp hx hb dL_law_425 ?_
  refine lv_if_eq (tgt := 487) hx hb dL_law_426 (by decide) (fun _ => ?_) (fun z => absurd (by rw [lc_0]) z)
  exact nx _ _ _ _ H locs ⟨hI.1, hI.2.1, HM⟩ (by omega) hP hD hS
set_option maxHeartbeats 4000000 in
set_option maxRecDepth 100000 in
theorem law_sub (lx : LX p s m c b L xs D cT) (hj : 6 * j + 6 ≤ L) (hL : L ≤ 3072) (hI : LI κ P S mm) (hκ : κ ≤ gB) (hP : va_P D vwCl (x_cw adC cT (wC P S) ++ x_cw adM cT (wM P S mm)) H) (hD : va_D (fun q : Nat => s.heap.size ≤ q) (x_cw adC cT (wC P S) ++ x_cw adM cT (wM P S mm))) (hS : va_S (fun q : Nat => s.heap.size ≤ q) s.heap H locs) (hl : lv_has ls 4 [(0, .ref b), (1, .ref (adC 0)), (2, .ref (adM 0)), (3, .int (nI (6 * j)))])
    (nx : ∀ κ' P' S' mm' (H : Heap) (locs : List Loc), LI κ' P' S' mm' → κ' ≤ κ + 3000 → va_P D vwCl (x_cw adC cT (wC P' S') ++ x_cw adM cT (wM P' S' mm')) H → va_D (fun q : Nat => s.heap.size ≤ q) (x_cw adC cT (wC P' S') ++ x_cw adM cT (wM P' S' mm')) → va_S (fun q : Nat => s.heap.size ≤ q) s.heap H locs → W p l e room_1 s m #[Value.ref b] below meth c H locs 60 60000 Z (F0 m 487 ls [])) : W p l e room_1 s m #[Value.ref b] below meth c H locs 60 60000 Z (F0 m 431 ls []) := by
  obtain ⟨hx, hb, hml, hown, hts, hX, hbl, hK, hN⟩ := lx
  have hA : ∀ q : Nat, s.heap.size ≤ q → (fun q : Nat => s.heap.size ≤ q) q := fun _ h => h
  have hbA : ¬ (fun q : Nat => s.heap.size ≤ q) b := Nat.not_le.mpr hbl
  have hk1 : vp_in (nI (6 * j) + 1) L := by rw [show (1 : Int32) = nI 1 from rfl, nI_add]; exact vp_in_nI (by omega) (by omega)
  have hk2 : vp_in (nI (6 * j) + 2) L := by rw [show (2 : Int32) = nI 2 from rfl, nI_add]; exact vp_in_nI (by omega) (by omega)
  refine lv_aload_n hx hb dL_law_431 rfl (lv_at hl 1 rfl) ?_
  refine lv_aload_n hx hb dL_law_432 rfl (lv_at hl 0 rfl) ?_
  refine lv_iload_n hx hb dL_law_433 rfl (lv_at hl 3 rfl) ?_
  refine lv_iconst (v := 1) hx hb dL_law_434 (by decide) ?_
  refine lv_iadd hx hb dL_law_435 ?_
  refine va_sld hx hb hX hbl hbA hS hk1 dL_law_436 ?_
  refine lv_aload_n hx hb dL_law_437 rfl (lv_at hl 0 rfl) ?_
  refine lv_iload_n hx hb dL_law_438 rfl (lv_at hl 3 rfl) ?_
  refine lv_iconst (v := 2) hx hb dL_law_439 (by decide) ?_
  refine lv_iadd hx hb dL_law_440 ?_
  refine va_sld hx hb hX hbl hbA hS hk2 dL_law_441 ?_
  refine law_call (D := D) (ad := adC) (cT := cT) (w := wC P S) (M := 93) (d := 260) (r2 := [.int (xs (nI (6 * j) + 1).toNatClampNeg), .int (xs (nI (6 * j) + 2).toNatClampNeg)]) (rest := []) (Q1 := fun r w => r = some (.int (tSubQ (xs (nI (6 * j) + 1).toNatClampNeg) (xs (nI (6 * j) + 2).toNatClampNeg))) ∧ w = wC P S) hx hb hml hown hts hK hN hA hP hD hS hl.1 rfl (by decide) (x_t3 (i := 70) rfl rfl) (k_sub (D := 260) (by decide) (xs (nI (6 * j) + 1).toNatClampNeg) (xs (nI (6 * j) + 2).toNatClampNeg) ⟨rfl, rfl⟩) (Nat.le_refl _) (Nat.le_of_ble_eq_true rfl) dL_law_442 (Nat.le_of_ble_eq_true rfl) (Nat.le_of_ble_eq_true rfl) ?_
  rintro _ _ H locs ⟨rfl, rfl⟩ hP hD hS
  refine lv_aload_n hx hb dL_law_445 rfl (lv_at hl 2 rfl) ?_
  refine lv_aload_n hx hb dL_law_446 rfl (lv_at hl 0 rfl) ?_
  refine lv_iload_n hx hb dL_law_447 rfl (lv_at hl 3 rfl) ?_
  refine lv_iconst (v := 1) hx hb dL_law_448 (by decide) ?_
  refine lv_iadd hx hb dL_law_449 ?_
  refine va_sld hx hb hX hbl hbA hS hk1 dL_law_450 ?_
  refine lv_aload_n hx hb dL_law_451 rfl (lv_at hl 0 rfl) ?_
  refine lv_iload_n hx hb dL_law_452 rfl (lv_at hl 3 rfl) ?_
  refine lv_iconst (v := 2) hx hb dL_law_453 (by decide) ?_
  refine lv_iadd hx hb dL_law_454 ?_
  refine va_sld hx hb hX hbl hbA hS hk2 dL_law_455 ?_
  refine law_call (D := D) (ad := adM) (cT := cT) (w := wM P S mm) (M := 100) (d := 260) (r2 := [.int (xs (nI (6 * j) + 1).toNatClampNeg), .int (xs (nI (6 * j) + 2).toNatClampNeg)]) (rest := [.int (tSubQ (xs (nI (6 * j) + 1).toNatClampNeg) (xs (nI (6 * j) + 2).toNatClampNeg))]) (Q1 := fun r w => ∃ mm2 : MS, r = some (.int (tSubQ (xs (nI (6 * j) + 1).toNatClampNeg) (xs (nI (6 * j) + 2).toNatClampNeg))) ∧ w = wM P S mm2 ∧ RM S mm2 ∧ mCame mm2 = rA S.2.2) hx hb hml hown hts hK hN hA hP hD hS hl.1 rfl (by decide) (x_t3 (i := 205) rfl rfl) (m_sub (D := 260) (by decide) (xs (nI (6 * j) + 1).toNatClampNeg) (xs (nI (6 * j) + 2).toNatClampNeg) ⟨mm, rfl, rfl, hI.2.2⟩) (Nat.le_refl _) (Nat.le_of_ble_eq_true rfl) dL_law_456 (Nat.le_of_ble_eq_true rfl) (Nat.le_of_ble_eq_true rfl) ?_
  rintro _ _ H locs ⟨mm2, rfl, rfl, HM⟩ hP hD hS
  refine lv_icmp_eq (tgt := 487) hx hb dL_law_459 (by decide) (fun _ => ?_) (fun z => absurd rfl z)
  exact nx _ _ _ _ H locs ⟨hI.1, hI.2.1, HM⟩ (by omega) hP hD hS
set_option maxHeartbeats 4000000 in
set_option maxRecDepth 100000 in
theorem law_told (lx : LX p s m c b L xs D cT) (hj : 6 * j + 6 ≤ L) (hL : L ≤ 3072) (hI : LI κ P S mm) (hκ : κ ≤ gB) (hP : va_P D vwCl (x_cw adC cT (wC P S) ++ x_cw adM cT (wM P S mm)) H) (hD : va_D (fun q : Nat => s.heap.size ≤ q) (x_cw adC cT (wC P S) ++ x_cw adM cT (wM P S mm))) (hS : va_S (fun q : Nat => s.heap.size ≤ q) s.heap H locs) (hl : lv_has ls 4 [(0, .ref b), (1, .ref (adC 0)), (2, .ref (adM 0)), (3, .int (nI (6 * j)))])
    (nx : ∀ κ' P' S' mm' (H : Heap) (locs : List Loc), LI κ' P' S' mm' → κ' ≤ κ + 3000 → va_P D vwCl (x_cw adC cT (wC P' S') ++ x_cw adM cT (wM P' S' mm')) H → va_D (fun q : Nat => s.heap.size ≤ q) (x_cw adC cT (wC P' S') ++ x_cw adM cT (wM P' S' mm')) → va_S (fun q : Nat => s.heap.size ≤ q) s.heap H locs → W p l e room_1 s m #[Value.ref b] below meth c H locs 60 60000 Z (F0 m 487 ls [])) : W p l e room_1 s m #[Value.ref b] below meth c H locs 60 60000 Z (F0 m 464 ls []) := by
  obtain ⟨hx, hb, hml, hown, hts, hX, hbl, hK, hN⟩ := lx
  have hA : ∀ q : Nat, s.heap.size ≤ q → (fun q : Nat => s.heap.size ≤ q) q := fun _ h => h
  have hbA : ¬ (fun q : Nat => s.heap.size ≤ q) b := Nat.not_le.mpr hbl
  have hk1 : vp_in (nI (6 * j) + 1) L := by rw [show (1 : Int32) = nI 1 from rfl, nI_add]; exact vp_in_nI (by omega) (by omega)
  refine lv_aload_n hx hb dL_law_464 rfl (lv_at hl 1 rfl) ?_
  refine lv_aload_n hx hb dL_law_465 rfl (lv_at hl 0 rfl) ?_
  refine lv_iload_n hx hb dL_law_466 rfl (lv_at hl 3 rfl) ?_
  refine lv_iconst (v := 1) hx hb dL_law_467 (by decide) ?_
  refine lv_iadd hx hb dL_law_468 ?_
  refine va_sld hx hb hX hbl hbA hS hk1 dL_law_469 ?_
  refine law_call (D := D) (ad := adC) (cT := cT) (w := wC P S) (M := 94) (d := 260) (r2 := [.int (xs (nI (6 * j) + 1).toNatClampNeg)]) (rest := []) (Q1 := fun r w => r = some (.int (toldQ P S (xs (nI (6 * j) + 1).toNatClampNeg))) ∧ w = wC P S) hx hb hml hown hts hK hN hA hP hD hS hl.1 rfl (by decide) (x_t3 (i := 76) rfl rfl) (k_told (D := 260) (by decide) (xs (nI (6 * j) + 1).toNatClampNeg) ⟨rfl, rfl⟩) (Nat.le_refl _) (Nat.le_of_ble_eq_true rfl) dL_law_470 (Nat.le_of_ble_eq_true rfl) (Nat.le_of_ble_eq_true rfl) ?_
  rintro _ _ H locs ⟨rfl, rfl⟩ hP hD hS
  refine lv_aload_n hx hb dL_law_473 rfl (lv_at hl 2 rfl) ?_
  refine lv_aload_n hx hb dL_law_474 rfl (lv_at hl 0 rfl) ?_
  refine lv_iload_n hx hb dL_law_475 rfl (lv_at hl 3 rfl) ?_
  refine lv_iconst (v := 1) hx hb dL_law_476 (by decide) ?_
  refine lv_iadd hx hb dL_law_477 ?_
  refine va_sld hx hb hX hbl hbA hS hk1 dL_law_478 ?_
  refine law_call (D := D) (ad := adM) (cT := cT) (w := wM P S mm) (M := 159) (d := 260) (r2 := [.int (xs (nI (6 * j) + 1).toNatClampNeg)]) (rest := [.int (toldQ P S (xs (nI (6 * j) + 1).toNatClampNeg))]) (Q1 := fun r w => ∃ mm2 : MS, r = some (.int (toldQ P S (xs (nI (6 * j) + 1).toNatClampNeg))) ∧ w = wM P S mm2 ∧ RM S mm2 ∧ mCame mm2 = rA S.2.2) hx hb hml hown hts hK hN hA hP hD hS hl.1 rfl (by decide) (x_t4 (i := 222) rfl rfl) (m_told (D := 260) (by decide) (xs (nI (6 * j) + 1).toNatClampNeg) ⟨mm, rfl, rfl, hI.2.2⟩) (Nat.le_refl _) (Nat.le_of_ble_eq_true rfl) dL_law_479 (Nat.le_of_ble_eq_true rfl) (Nat.le_of_ble_eq_true rfl) ?_
  rintro _ _ H locs ⟨mm2, rfl, rfl, HM⟩ hP hD hS
  refine lv_icmp_eq (tgt := 487) hx hb dL_law_482 (by decide) (fun _ => ?_) (fun z => absurd rfl z)
  exact nx _ _ _ _ H locs ⟨hI.1, hI.2.1, HM⟩ (by omega) hP hD hS
end CASES
