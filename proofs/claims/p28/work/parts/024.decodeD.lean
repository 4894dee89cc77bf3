theorem dL_acts_0 : decode cL_acts 0 = .ok (.iload 5, 2) := by decide +kernel
theorem dL_acts_2 : decode cL_acts 2 = .ok (.iconst 5, 1) := by decide +kernel
theorem dL_acts_3 : decode cL_acts 3 = .ok (.ishr, 1) := by decide +kernel
theorem dL_acts_4 : decode cL_acts 4 = .ok (.ldc 46, 2) := by decide +kernel
theorem dL_acts_6 : decode cL_acts 6 = .ok (.invokestatic 47, 3) := by decide +kernel
theorem dL_acts_9 : decode cL_acts 9 = .ok (.istore 6, 2) := by decide +kernel
theorem dL_acts_11 : decode cL_acts 11 = .ok (.aload_n 1, 1) := by decide +kernel
theorem dL_acts_12 : decode cL_acts 12 = .ok (.iconst 0, 1) := by decide +kernel
theorem dL_acts_13 : decode cL_acts 13 = .ok (.iaload, 1) := by decide +kernel
theorem dL_acts_14 : decode cL_acts 14 = .ok (.ifCond .ne 7, 3) := by decide +kernel
theorem dL_acts_17 : decode cL_acts 17 = .ok (.iconst 0, 1) := by decide +kernel
theorem dL_acts_18 : decode cL_acts 18 = .ok (.goto 9, 3) := by decide +kernel
theorem dL_acts_21 : decode cL_acts 21 = .ok (.iload 6, 2) := by decide +kernel
theorem dL_acts_23 : decode cL_acts 23 = .ok (.aload_n 1, 1) := by decide +kernel
theorem dL_acts_24 : decode cL_acts 24 = .ok (.iconst 0, 1) := by decide +kernel
theorem dL_acts_25 : decode cL_acts 25 = .ok (.iaload, 1) := by decide +kernel
theorem dL_acts_26 : decode cL_acts 26 = .ok (.irem, 1) := by decide +kernel
theorem dL_acts_27 : decode cL_acts 27 = .ok (.istore 7, 2) := by decide +kernel
theorem dL_acts_29 : decode cL_acts 29 = .ok (.iload 5, 2) := by decide +kernel
theorem dL_acts_31 : decode cL_acts 31 = .ok (.bipush 18, 2) := by decide +kernel
theorem dL_acts_33 : decode cL_acts 33 = .ok (.invokestatic 47, 3) := by decide +kernel
theorem dL_acts_36 : decode cL_acts 36 = .ok (.tableswitch 944 0 9 #[56, 56, 56, 252, 252, 367, 367, 589, 673, 877], 56) := by decide +kernel
theorem dL_acts_92 : decode cL_acts 92 = .ok (.iconst 1, 1) := by decide +kernel
theorem dL_acts_93 : decode cL_acts 93 = .ok (.iload 6, 2) := by decide +kernel
theorem dL_acts_95 : decode cL_acts 95 = .ok (.iload 6, 2) := by decide +kernel
theorem dL_acts_97 : decode cL_acts 97 = .ok (.iconst 5, 1) := by decide +kernel
theorem dL_acts_98 : decode cL_acts 98 = .ok (.irem, 1) := by decide +kernel
theorem dL_acts_99 : decode cL_acts 99 = .ok (.ifCond .ne 9, 3) := by decide +kernel
theorem dL_acts_102 : decode cL_acts 102 = .ok (.sipush 1800, 3) := by decide +kernel
theorem dL_acts_105 : decode cL_acts 105 = .ok (.goto 6, 3) := by decide +kernel
theorem dL_acts_108 : decode cL_acts 108 = .ok (.sipush 700, 3) := by decide +kernel
theorem dL_acts_111 : decode cL_acts 111 = .ok (.irem, 1) := by decide +kernel
theorem dL_acts_112 : decode cL_acts 112 = .ok (.iadd, 1) := by decide +kernel
theorem dL_acts_113 : decode cL_acts 113 = .ok (.istore 8, 2) := by decide +kernel
theorem dL_acts_115 : decode cL_acts 115 = .ok (.iload 6, 2) := by decide +kernel
theorem dL_acts_117 : decode cL_acts 117 = .ok (.bipush 7, 2) := by decide +kernel
theorem dL_acts_119 : decode cL_acts 119 = .ok (.idiv, 1) := by decide +kernel
theorem dL_acts_120 : decode cL_acts 120 = .ok (.iconst 3, 1) := by decide +kernel
theorem dL_acts_121 : decode cL_acts 121 = .ok (.irem, 1) := by decide +kernel
theorem dL_acts_122 : decode cL_acts 122 = .ok (.ifCond .le 7, 3) := by decide +kernel
theorem dL_acts_125 : decode cL_acts 125 = .ok (.iconst (-1), 1) := by decide +kernel
theorem dL_acts_126 : decode cL_acts 126 = .ok (.goto 12, 3) := by decide +kernel
theorem dL_acts_129 : decode cL_acts 129 = .ok (.iload 6, 2) := by decide +kernel
theorem dL_acts_131 : decode cL_acts 131 = .ok (.bipush 21, 2) := by decide +kernel
theorem dL_acts_133 : decode cL_acts 133 = .ok (.idiv, 1) := by decide +kernel
theorem dL_acts_134 : decode cL_acts 134 = .ok (.sipush 3600, 3) := by decide +kernel
theorem dL_acts_137 : decode cL_acts 137 = .ok (.irem, 1) := by decide +kernel
theorem dL_acts_138 : decode cL_acts 138 = .ok (.istore 9, 2) := by decide +kernel
theorem dL_acts_140 : decode cL_acts 140 = .ok (.iload 6, 2) := by decide +kernel
theorem dL_acts_142 : decode cL_acts 142 = .ok (.iconst 3, 1) := by decide +kernel
theorem dL_acts_143 : decode cL_acts 143 = .ok (.idiv, 1) := by decide +kernel
theorem dL_acts_144 : decode cL_acts 144 = .ok (.bipush 10, 2) := by decide +kernel
theorem dL_acts_146 : decode cL_acts 146 = .ok (.irem, 1) := by decide +kernel
theorem dL_acts_147 : decode cL_acts 147 = .ok (.istore 10, 2) := by decide +kernel
theorem dL_acts_149 : decode cL_acts 149 = .ok (.aload_n 1, 1) := by decide +kernel
theorem dL_acts_150 : decode cL_acts 150 = .ok (.iconst 3, 1) := by decide +kernel
theorem dL_acts_151 : decode cL_acts 151 = .ok (.iaload, 1) := by decide +kernel
theorem dL_acts_152 : decode cL_acts 152 = .ok (.iconst 1, 1) := by decide +kernel
theorem dL_acts_153 : decode cL_acts 153 = .ok (.if_icmp .ne 24, 3) := by decide +kernel
theorem dL_acts_156 : decode cL_acts 156 = .ok (.aload_n 0, 1) := by decide +kernel
theorem dL_acts_157 : decode cL_acts 157 = .ok (.iload 8, 2) := by decide +kernel
theorem dL_acts_159 : decode cL_acts 159 = .ok (.iload 9, 2) := by decide +kernel
theorem dL_acts_161 : decode cL_acts 161 = .ok (.iload 10, 2) := by decide +kernel
theorem dL_acts_163 : decode cL_acts 163 = .ok (.invokestatic 51, 3) := by decide +kernel
theorem dL_acts_166 : decode cL_acts 166 = .ok (.ldc 55, 2) := by decide +kernel
theorem dL_acts_168 : decode cL_acts 168 = .ok (.if_icmp .ne 7, 3) := by decide +kernel
theorem dL_acts_171 : decode cL_acts 171 = .ok (.iconst 1, 1) := by decide +kernel
theorem dL_acts_172 : decode cL_acts 172 = .ok (.goto 4, 3) := by decide +kernel
theorem dL_acts_175 : decode cL_acts 175 = .ok (.iconst 0, 1) := by decide +kernel
theorem dL_acts_176 : decode cL_acts 176 = .ok (.ireturn, 1) := by decide +kernel
theorem dL_acts_177 : decode cL_acts 177 = .ok (.aload_n 1, 1) := by decide +kernel
theorem dL_acts_178 : decode cL_acts 178 = .ok (.iconst 0, 1) := by decide +kernel
theorem dL_acts_179 : decode cL_acts 179 = .ok (.iaload, 1) := by decide +kernel
theorem dL_acts_180 : decode cL_acts 180 = .ok (.bipush 6, 2) := by decide +kernel
theorem dL_acts_182 : decode cL_acts 182 = .ok (.if_icmp .ne 24, 3) := by decide +kernel
theorem dL_acts_185 : decode cL_acts 185 = .ok (.aload_n 0, 1) := by decide +kernel
theorem dL_acts_186 : decode cL_acts 186 = .ok (.iload 8, 2) := by decide +kernel
theorem dL_acts_188 : decode cL_acts 188 = .ok (.iload 9, 2) := by decide +kernel
theorem dL_acts_190 : decode cL_acts 190 = .ok (.bipush 10, 2) := by decide +kernel
theorem dL_acts_192 : decode cL_acts 192 = .ok (.invokestatic 51, 3) := by decide +kernel
theorem dL_acts_195 : decode cL_acts 195 = .ok (.ldc 56, 2) := by decide +kernel
theorem dL_acts_197 : decode cL_acts 197 = .ok (.if_icmp .ne 7, 3) := by decide +kernel
theorem dL_acts_200 : decode cL_acts 200 = .ok (.iconst 1, 1) := by decide +kernel
theorem dL_acts_201 : decode cL_acts 201 = .ok (.goto 4, 3) := by decide +kernel
theorem dL_acts_204 : decode cL_acts 204 = .ok (.iconst 0, 1) := by decide +kernel
theorem dL_acts_205 : decode cL_acts 205 = .ok (.ireturn, 1) := by decide +kernel
theorem dL_acts_206 : decode cL_acts 206 = .ok (.aload_n 2, 1) := by decide +kernel
theorem dL_acts_207 : decode cL_acts 207 = .ok (.iconst 5, 1) := by decide +kernel
theorem dL_acts_208 : decode cL_acts 208 = .ok (.aload_n 1, 1) := by decide +kernel
theorem dL_acts_209 : decode cL_acts 209 = .ok (.iconst 0, 1) := by decide +kernel
theorem dL_acts_210 : decode cL_acts 210 = .ok (.iaload, 1) := by decide +kernel
theorem dL_acts_211 : decode cL_acts 211 = .ok (.imul, 1) := by decide +kernel
theorem dL_acts_212 : decode cL_acts 212 = .ok (.iload 8, 2) := by decide +kernel
theorem dL_acts_214 : decode cL_acts 214 = .ok (.iastore, 1) := by decide +kernel
theorem dL_acts_215 : decode cL_acts 215 = .ok (.aload_n 2, 1) := by decide +kernel
theorem dL_acts_216 : decode cL_acts 216 = .ok (.iconst 5, 1) := by decide +kernel
theorem dL_acts_217 : decode cL_acts 217 = .ok (.aload_n 1, 1) := by decide +kernel
theorem dL_acts_218 : decode cL_acts 218 = .ok (.iconst 0, 1) := by decide +kernel
theorem dL_acts_219 : decode cL_acts 219 = .ok (.iaload, 1) := by decide +kernel
theorem dL_acts_220 : decode cL_acts 220 = .ok (.imul, 1) := by decide +kernel
theorem dL_acts_221 : decode cL_acts 221 = .ok (.iconst 1, 1) := by decide +kernel
theorem dL_acts_222 : decode cL_acts 222 = .ok (.iadd, 1) := by decide +kernel
theorem dL_acts_223 : decode cL_acts 223 = .ok (.iload 9, 2) := by decide +kernel
theorem dL_acts_225 : decode cL_acts 225 = .ok (.iastore, 1) := by decide +kernel
theorem dL_acts_226 : decode cL_acts 226 = .ok (.aload_n 2, 1) := by decide +kernel
theorem dL_acts_227 : decode cL_acts 227 = .ok (.iconst 5, 1) := by decide +kernel
theorem dL_acts_228 : decode cL_acts 228 = .ok (.aload_n 1, 1) := by decide +kernel
theorem dL_acts_229 : decode cL_acts 229 = .ok (.iconst 0, 1) := by decide +kernel
theorem dL_acts_230 : decode cL_acts 230 = .ok (.iaload, 1) := by decide +kernel
theorem dL_acts_231 : decode cL_acts 231 = .ok (.imul, 1) := by decide +kernel
theorem dL_acts_232 : decode cL_acts 232 = .ok (.iconst 2, 1) := by decide +kernel
theorem dL_acts_233 : decode cL_acts 233 = .ok (.iadd, 1) := by decide +kernel
theorem dL_acts_234 : decode cL_acts 234 = .ok (.iload 10, 2) := by decide +kernel
theorem dL_acts_236 : decode cL_acts 236 = .ok (.iastore, 1) := by decide +kernel
theorem dL_acts_237 : decode cL_acts 237 = .ok (.aload_n 2, 1) := by decide +kernel
theorem dL_acts_238 : decode cL_acts 238 = .ok (.iconst 5, 1) := by decide +kernel
theorem dL_acts_239 : decode cL_acts 239 = .ok (.aload_n 1, 1) := by decide +kernel
theorem dL_acts_240 : decode cL_acts 240 = .ok (.iconst 0, 1) := by decide +kernel
theorem dL_acts_241 : decode cL_acts 241 = .ok (.iaload, 1) := by decide +kernel
theorem dL_acts_242 : decode cL_acts 242 = .ok (.imul, 1) := by decide +kernel
theorem dL_acts_243 : decode cL_acts 243 = .ok (.iconst 3, 1) := by decide +kernel
theorem dL_acts_244 : decode cL_acts 244 = .ok (.iadd, 1) := by decide +kernel
theorem dL_acts_245 : decode cL_acts 245 = .ok (.iconst 0, 1) := by decide +kernel
theorem dL_acts_246 : decode cL_acts 246 = .ok (.iastore, 1) := by decide +kernel
theorem dL_acts_247 : decode cL_acts 247 = .ok (.aload_n 2, 1) := by decide +kernel
theorem dL_acts_248 : decode cL_acts 248 = .ok (.iconst 5, 1) := by decide +kernel
theorem dL_acts_249 : decode cL_acts 249 = .ok (.aload_n 1, 1) := by decide +kernel
theorem dL_acts_250 : decode cL_acts 250 = .ok (.iconst 0, 1) := by decide +kernel
theorem dL_acts_251 : decode cL_acts 251 = .ok (.iaload, 1) := by decide +kernel
theorem dL_acts_252 : decode cL_acts 252 = .ok (.imul, 1) := by decide +kernel
theorem dL_acts_253 : decode cL_acts 253 = .ok (.iconst 4, 1) := by decide +kernel
theorem dL_acts_254 : decode cL_acts 254 = .ok (.iadd, 1) := by decide +kernel
theorem dL_acts_255 : decode cL_acts 255 = .ok (.iconst (-1), 1) := by decide +kernel
theorem dL_acts_256 : decode cL_acts 256 = .ok (.iastore, 1) := by decide +kernel
theorem dL_acts_257 : decode cL_acts 257 = .ok (.aload_n 1, 1) := by decide +kernel
theorem dL_acts_258 : decode cL_acts 258 = .ok (.iconst 0, 1) := by decide +kernel
theorem dL_acts_259 : decode cL_acts 259 = .ok (.dup2, 1) := by decide +kernel
theorem dL_acts_260 : decode cL_acts 260 = .ok (.iaload, 1) := by decide +kernel
theorem dL_acts_261 : decode cL_acts 261 = .ok (.iconst 1, 1) := by decide +kernel
theorem dL_acts_262 : decode cL_acts 262 = .ok (.iadd, 1) := by decide +kernel
theorem dL_acts_263 : decode cL_acts 263 = .ok (.iastore, 1) := by decide +kernel
theorem dL_acts_264 : decode cL_acts 264 = .ok (.aload_n 0, 1) := by decide +kernel
theorem dL_acts_265 : decode cL_acts 265 = .ok (.iload 8, 2) := by decide +kernel
theorem dL_acts_267 : decode cL_acts 267 = .ok (.iload 9, 2) := by decide +kernel
theorem dL_acts_269 : decode cL_acts 269 = .ok (.iload 10, 2) := by decide +kernel
theorem dL_acts_271 : decode cL_acts 271 = .ok (.invokestatic 51, 3) := by decide +kernel
theorem dL_acts_274 : decode cL_acts 274 = .ok (.aload_n 1, 1) := by decide +kernel
theorem dL_acts_275 : decode cL_acts 275 = .ok (.iconst 0, 1) := by decide +kernel
theorem dL_acts_276 : decode cL_acts 276 = .ok (.iaload, 1) := by decide +kernel
theorem dL_acts_277 : decode cL_acts 277 = .ok (.iconst 1, 1) := by decide +kernel
theorem dL_acts_278 : decode cL_acts 278 = .ok (.isub, 1) := by decide +kernel
theorem dL_acts_279 : decode cL_acts 279 = .ok (.if_icmp .ne 7, 3) := by decide +kernel
theorem dL_acts_282 : decode cL_acts 282 = .ok (.iconst 1, 1) := by decide +kernel
theorem dL_acts_283 : decode cL_acts 283 = .ok (.goto 4, 3) := by decide +kernel
theorem dL_acts_286 : decode cL_acts 286 = .ok (.iconst 0, 1) := by decide +kernel
theorem dL_acts_287 : decode cL_acts 287 = .ok (.ireturn, 1) := by decide +kernel
theorem dL_acts_288 : decode cL_acts 288 = .ok (.iconst 1, 1) := by decide +kernel
theorem dL_acts_289 : decode cL_acts 289 = .ok (.iload 6, 2) := by decide +kernel
theorem dL_acts_291 : decode cL_acts 291 = .ok (.sipush 900, 3) := by decide +kernel
theorem dL_acts_294 : decode cL_acts 294 = .ok (.irem, 1) := by decide +kernel
theorem dL_acts_295 : decode cL_acts 295 = .ok (.iadd, 1) := by decide +kernel
theorem dL_acts_296 : decode cL_acts 296 = .ok (.istore 11, 2) := by decide +kernel
theorem dL_acts_298 : decode cL_acts 298 = .ok (.aload_n 1, 1) := by decide +kernel
theorem dL_acts_299 : decode cL_acts 299 = .ok (.iconst 3, 1) := by decide +kernel
theorem dL_acts_300 : decode cL_acts 300 = .ok (.iaload, 1) := by decide +kernel
theorem dL_acts_301 : decode cL_acts 301 = .ok (.iconst 1, 1) := by decide +kernel
theorem dL_acts_302 : decode cL_acts 302 = .ok (.if_icmp .ne 20, 3) := by decide +kernel
theorem dL_acts_305 : decode cL_acts 305 = .ok (.aload_n 0, 1) := by decide +kernel
theorem dL_acts_306 : decode cL_acts 306 = .ok (.iload 11, 2) := by decide +kernel
theorem dL_acts_308 : decode cL_acts 308 = .ok (.invokestatic 57, 3) := by decide +kernel
theorem dL_acts_311 : decode cL_acts 311 = .ok (.ldc 55, 2) := by decide +kernel
theorem dL_acts_313 : decode cL_acts 313 = .ok (.if_icmp .ne 7, 3) := by decide +kernel
theorem dL_acts_316 : decode cL_acts 316 = .ok (.iconst 1, 1) := by decide +kernel
theorem dL_acts_317 : decode cL_acts 317 = .ok (.goto 4, 3) := by decide +kernel
theorem dL_acts_320 : decode cL_acts 320 = .ok (.iconst 0, 1) := by decide +kernel
theorem dL_acts_321 : decode cL_acts 321 = .ok (.ireturn, 1) := by decide +kernel
theorem dL_acts_322 : decode cL_acts 322 = .ok (.aload_n 1, 1) := by decide +kernel
theorem dL_acts_323 : decode cL_acts 323 = .ok (.iconst 1, 1) := by decide +kernel
theorem dL_acts_324 : decode cL_acts 324 = .ok (.iaload, 1) := by decide +kernel
theorem dL_acts_325 : decode cL_acts 325 = .ok (.iconst 5, 1) := by decide +kernel
theorem dL_acts_326 : decode cL_acts 326 = .ok (.if_icmp .ne 21, 3) := by decide +kernel
theorem dL_acts_329 : decode cL_acts 329 = .ok (.aload_n 0, 1) := by decide +kernel
theorem dL_acts_330 : decode cL_acts 330 = .ok (.sipush 901, 3) := by decide +kernel
theorem dL_acts_333 : decode cL_acts 333 = .ok (.invokestatic 57, 3) := by decide +kernel
theorem dL_acts_336 : decode cL_acts 336 = .ok (.ldc 56, 2) := by decide +kernel
theorem dL_acts_338 : decode cL_acts 338 = .ok (.if_icmp .ne 7, 3) := by decide +kernel
theorem dL_acts_341 : decode cL_acts 341 = .ok (.iconst 1, 1) := by decide +kernel
theorem dL_acts_342 : decode cL_acts 342 = .ok (.goto 4, 3) := by decide +kernel
theorem dL_acts_345 : decode cL_acts 345 = .ok (.iconst 0, 1) := by decide +kernel
theorem dL_acts_346 : decode cL_acts 346 = .ok (.ireturn, 1) := by decide +kernel
theorem dL_acts_347 : decode cL_acts 347 = .ok (.aload_n 3, 1) := by decide +kernel
theorem dL_acts_348 : decode cL_acts 348 = .ok (.iconst 3, 1) := by decide +kernel
theorem dL_acts_349 : decode cL_acts 349 = .ok (.aload_n 1, 1) := by decide +kernel
theorem dL_acts_350 : decode cL_acts 350 = .ok (.iconst 1, 1) := by decide +kernel
theorem dL_acts_351 : decode cL_acts 351 = .ok (.iaload, 1) := by decide +kernel
theorem dL_acts_352 : decode cL_acts 352 = .ok (.imul, 1) := by decide +kernel
theorem dL_acts_353 : decode cL_acts 353 = .ok (.iload 11, 2) := by decide +kernel
theorem dL_acts_355 : decode cL_acts 355 = .ok (.iastore, 1) := by decide +kernel
theorem dL_acts_356 : decode cL_acts 356 = .ok (.aload_n 3, 1) := by decide +kernel
theorem dL_acts_357 : decode cL_acts 357 = .ok (.iconst 3, 1) := by decide +kernel
theorem dL_acts_358 : decode cL_acts 358 = .ok (.aload_n 1, 1) := by decide +kernel
theorem dL_acts_359 : decode cL_acts 359 = .ok (.iconst 1, 1) := by decide +kernel
theorem dL_acts_360 : decode cL_acts 360 = .ok (.iaload, 1) := by decide +kernel
theorem dL_acts_361 : decode cL_acts 361 = .ok (.imul, 1) := by decide +kernel
theorem dL_acts_362 : decode cL_acts 362 = .ok (.iconst 1, 1) := by decide +kernel
theorem dL_acts_363 : decode cL_acts 363 = .ok (.iadd, 1) := by decide +kernel
theorem dL_acts_364 : decode cL_acts 364 = .ok (.iconst 0, 1) := by decide +kernel
theorem dL_acts_365 : decode cL_acts 365 = .ok (.iastore, 1) := by decide +kernel
theorem dL_acts_366 : decode cL_acts 366 = .ok (.aload_n 3, 1) := by decide +kernel
theorem dL_acts_367 : decode cL_acts 367 = .ok (.iconst 3, 1) := by decide +kernel
theorem dL_acts_368 : decode cL_acts 368 = .ok (.aload_n 1, 1) := by decide +kernel
theorem dL_acts_369 : decode cL_acts 369 = .ok (.iconst 1, 1) := by decide +kernel
theorem dL_acts_370 : decode cL_acts 370 = .ok (.iaload, 1) := by decide +kernel
theorem dL_acts_371 : decode cL_acts 371 = .ok (.imul, 1) := by decide +kernel
theorem dL_acts_372 : decode cL_acts 372 = .ok (.iconst 2, 1) := by decide +kernel
theorem dL_acts_373 : decode cL_acts 373 = .ok (.iadd, 1) := by decide +kernel
theorem dL_acts_374 : decode cL_acts 374 = .ok (.iconst (-1), 1) := by decide +kernel
theorem dL_acts_375 : decode cL_acts 375 = .ok (.iastore, 1) := by decide +kernel
theorem dL_acts_376 : decode cL_acts 376 = .ok (.aload_n 1, 1) := by decide +kernel
theorem dL_acts_377 : decode cL_acts 377 = .ok (.iconst 1, 1) := by decide +kernel
theorem dL_acts_378 : decode cL_acts 378 = .ok (.dup2, 1) := by decide +kernel
theorem dL_acts_379 : decode cL_acts 379 = .ok (.iaload, 1) := by decide +kernel
theorem dL_acts_380 : decode cL_acts 380 = .ok (.iconst 1, 1) := by decide +kernel
theorem dL_acts_381 : decode cL_acts 381 = .ok (.iadd, 1) := by decide +kernel
theorem dL_acts_382 : decode cL_acts 382 = .ok (.iastore, 1) := by decide +kernel
theorem dL_acts_383 : decode cL_acts 383 = .ok (.aload_n 0, 1) := by decide +kernel
theorem dL_acts_384 : decode cL_acts 384 = .ok (.iload 11, 2) := by decide +kernel
theorem dL_acts_386 : decode cL_acts 386 = .ok (.invokestatic 57, 3) := by decide +kernel
theorem dL_acts_389 : decode cL_acts 389 = .ok (.aload_n 1, 1) := by decide +kernel
theorem dL_acts_390 : decode cL_acts 390 = .ok (.iconst 1, 1) := by decide +kernel
theorem dL_acts_391 : decode cL_acts 391 = .ok (.iaload, 1) := by decide +kernel
theorem dL_acts_392 : decode cL_acts 392 = .ok (.iconst 1, 1) := by decide +kernel
theorem dL_acts_393 : decode cL_acts 393 = .ok (.isub, 1) := by decide +kernel
theorem dL_acts_394 : decode cL_acts 394 = .ok (.if_icmp .ne 7, 3) := by decide +kernel
theorem dL_acts_397 : decode cL_acts 397 = .ok (.iconst 1, 1) := by decide +kernel
theorem dL_acts_398 : decode cL_acts 398 = .ok (.goto 4, 3) := by decide +kernel
theorem dL_acts_401 : decode cL_acts 401 = .ok (.iconst 0, 1) := by decide +kernel
theorem dL_acts_402 : decode cL_acts 402 = .ok (.ireturn, 1) := by decide +kernel
theorem dL_acts_403 : decode cL_acts 403 = .ok (.iload 6, 2) := by decide +kernel
theorem dL_acts_405 : decode cL_acts 405 = .ok (.bipush 6, 2) := by decide +kernel
theorem dL_acts_407 : decode cL_acts 407 = .ok (.idiv, 1) := by decide +kernel
theorem dL_acts_408 : decode cL_acts 408 = .ok (.iload 6, 2) := by decide +kernel
theorem dL_acts_410 : decode cL_acts 410 = .ok (.iconst 2, 1) := by decide +kernel
theorem dL_acts_411 : decode cL_acts 411 = .ok (.irem, 1) := by decide +kernel
theorem dL_acts_412 : decode cL_acts 412 = .ok (.ifCond .ne 9, 3) := by decide +kernel
theorem dL_acts_415 : decode cL_acts 415 = .ok (.sipush 3601, 3) := by decide +kernel
theorem dL_acts_418 : decode cL_acts 418 = .ok (.goto 6, 3) := by decide +kernel
theorem dL_acts_421 : decode cL_acts 421 = .ok (.sipush 201, 3) := by decide +kernel
theorem dL_acts_424 : decode cL_acts 424 = .ok (.irem, 1) := by decide +kernel
theorem dL_acts_425 : decode cL_acts 425 = .ok (.iload 6, 2) := by decide +kernel
theorem dL_acts_427 : decode cL_acts 427 = .ok (.iconst 2, 1) := by decide +kernel
theorem dL_acts_428 : decode cL_acts 428 = .ok (.irem, 1) := by decide +kernel
theorem dL_acts_429 : decode cL_acts 429 = .ok (.ifCond .ne 9, 3) := by decide +kernel
theorem dL_acts_432 : decode cL_acts 432 = .ok (.sipush 1800, 3) := by decide +kernel
theorem dL_acts_435 : decode cL_acts 435 = .ok (.goto 5, 3) := by decide +kernel
theorem dL_acts_438 : decode cL_acts 438 = .ok (.bipush 100, 2) := by decide +kernel
theorem dL_acts_440 : decode cL_acts 440 = .ok (.isub, 1) := by decide +kernel
theorem dL_acts_441 : decode cL_acts 441 = .ok (.istore 12, 2) := by decide +kernel
theorem dL_acts_443 : decode cL_acts 443 = .ok (.aload_n 1, 1) := by decide +kernel
theorem dL_acts_444 : decode cL_acts 444 = .ok (.iconst 0, 1) := by decide +kernel
theorem dL_acts_445 : decode cL_acts 445 = .ok (.iaload, 1) := by decide +kernel
theorem dL_acts_446 : decode cL_acts 446 = .ok (.ifCond .ne 21, 3) := by decide +kernel
theorem dL_acts_449 : decode cL_acts 449 = .ok (.aload_n 0, 1) := by decide +kernel
theorem dL_acts_450 : decode cL_acts 450 = .ok (.iconst 0, 1) := by decide +kernel
theorem dL_acts_451 : decode cL_acts 451 = .ok (.iload 12, 2) := by decide +kernel
theorem dL_acts_453 : decode cL_acts 453 = .ok (.invokestatic 61, 3) := by decide +kernel
theorem dL_acts_456 : decode cL_acts 456 = .ok (.ldc 65, 2) := by decide +kernel
theorem dL_acts_458 : decode cL_acts 458 = .ok (.if_icmp .ne 7, 3) := by decide +kernel
theorem dL_acts_461 : decode cL_acts 461 = .ok (.iconst 1, 1) := by decide +kernel
theorem dL_acts_462 : decode cL_acts 462 = .ok (.goto 4, 3) := by decide +kernel
theorem dL_acts_465 : decode cL_acts 465 = .ok (.iconst 0, 1) := by decide +kernel
theorem dL_acts_466 : decode cL_acts 466 = .ok (.ireturn, 1) := by decide +kernel
theorem dL_acts_467 : decode cL_acts 467 = .ok (.aload_n 2, 1) := by decide +kernel
theorem dL_acts_468 : decode cL_acts 468 = .ok (.iconst 5, 1) := by decide +kernel
theorem dL_acts_469 : decode cL_acts 469 = .ok (.iload 7, 2) := by decide +kernel
theorem dL_acts_471 : decode cL_acts 471 = .ok (.imul, 1) := by decide +kernel
theorem dL_acts_472 : decode cL_acts 472 = .ok (.iaload, 1) := by decide +kernel
theorem dL_acts_473 : decode cL_acts 473 = .ok (.iload 12, 2) := by decide +kernel
theorem dL_acts_475 : decode cL_acts 475 = .ok (.iadd, 1) := by decide +kernel
theorem dL_acts_476 : decode cL_acts 476 = .ok (.istore 13, 2) := by decide +kernel
theorem dL_acts_478 : decode cL_acts 478 = .ok (.aload_n 2, 1) := by decide +kernel
theorem dL_acts_479 : decode cL_acts 479 = .ok (.iconst 5, 1) := by decide +kernel
theorem dL_acts_480 : decode cL_acts 480 = .ok (.iload 7, 2) := by decide +kernel
theorem dL_acts_482 : decode cL_acts 482 = .ok (.imul, 1) := by decide +kernel
theorem dL_acts_483 : decode cL_acts 483 = .ok (.iconst 3, 1) := by decide +kernel
theorem dL_acts_484 : decode cL_acts 484 = .ok (.iadd, 1) := by decide +kernel
theorem dL_acts_485 : decode cL_acts 485 = .ok (.iaload, 1) := by decide +kernel
theorem dL_acts_486 : decode cL_acts 486 = .ok (.iconst 1, 1) := by decide +kernel
theorem dL_acts_487 : decode cL_acts 487 = .ok (.if_icmp .ne 7, 3) := by decide +kernel
theorem dL_acts_490 : decode cL_acts 490 = .ok (.iconst 1, 1) := by decide +kernel
theorem dL_acts_491 : decode cL_acts 491 = .ok (.goto 4, 3) := by decide +kernel
theorem dL_acts_494 : decode cL_acts 494 = .ok (.iconst 0, 1) := by decide +kernel
theorem dL_acts_495 : decode cL_acts 495 = .ok (.istore 14, 2) := by decide +kernel
theorem dL_acts_497 : decode cL_acts 497 = .ok (.iload 13, 2) := by decide +kernel
theorem dL_acts_499 : decode cL_acts 499 = .ok (.iconst 1, 1) := by decide +kernel
theorem dL_acts_500 : decode cL_acts 500 = .ok (.if_icmp .lt 45, 3) := by decide +kernel
theorem dL_acts_503 : decode cL_acts 503 = .ok (.iload 13, 2) := by decide +kernel
theorem dL_acts_505 : decode cL_acts 505 = .ok (.sipush 3600, 3) := by decide +kernel
theorem dL_acts_508 : decode cL_acts 508 = .ok (.if_icmp .gt 37, 3) := by decide +kernel
theorem dL_acts_511 : decode cL_acts 511 = .ok (.aload_n 2, 1) := by decide +kernel
theorem dL_acts_512 : decode cL_acts 512 = .ok (.iconst 5, 1) := by decide +kernel
theorem dL_acts_513 : decode cL_acts 513 = .ok (.iload 7, 2) := by decide +kernel
theorem dL_acts_515 : decode cL_acts 515 = .ok (.imul, 1) := by decide +kernel
theorem dL_acts_516 : decode cL_acts 516 = .ok (.iconst 3, 1) := by decide +kernel
theorem dL_acts_517 : decode cL_acts 517 = .ok (.iadd, 1) := by decide +kernel
theorem dL_acts_518 : decode cL_acts 518 = .ok (.iaload, 1) := by decide +kernel
theorem dL_acts_519 : decode cL_acts 519 = .ok (.iconst 1, 1) := by decide +kernel
theorem dL_acts_520 : decode cL_acts 520 = .ok (.if_icmp .gt 25, 3) := by decide +kernel
theorem dL_acts_523 : decode cL_acts 523 = .ok (.iload 14, 2) := by decide +kernel
theorem dL_acts_525 : decode cL_acts 525 = .ok (.ifCond .eq 39, 3) := by decide +kernel
theorem dL_acts_528 : decode cL_acts 528 = .ok (.aload_n 2, 1) := by decide +kernel
theorem dL_acts_529 : decode cL_acts 529 = .ok (.iconst 5, 1) := by decide +kernel
theorem dL_acts_530 : decode cL_acts 530 = .ok (.iload 7, 2) := by decide +kernel
theorem dL_acts_532 : decode cL_acts 532 = .ok (.imul, 1) := by decide +kernel
theorem dL_acts_533 : decode cL_acts 533 = .ok (.iconst 4, 1) := by decide +kernel
theorem dL_acts_534 : decode cL_acts 534 = .ok (.iadd, 1) := by decide +kernel
theorem dL_acts_535 : decode cL_acts 535 = .ok (.iaload, 1) := by decide +kernel
theorem dL_acts_536 : decode cL_acts 536 = .ok (.iload 13, 2) := by decide +kernel
theorem dL_acts_538 : decode cL_acts 538 = .ok (.iadd, 1) := by decide +kernel
theorem dL_acts_539 : decode cL_acts 539 = .ok (.aload_n 1, 1) := by decide +kernel
theorem dL_acts_540 : decode cL_acts 540 = .ok (.iconst 2, 1) := by decide +kernel
theorem dL_acts_541 : decode cL_acts 541 = .ok (.iaload, 1) := by decide +kernel
theorem dL_acts_542 : decode cL_acts 542 = .ok (.if_icmp .ge 22, 3) := by decide +kernel
theorem dL_acts_545 : decode cL_acts 545 = .ok (.aload_n 0, 1) := by decide +kernel
theorem dL_acts_546 : decode cL_acts 546 = .ok (.iload 7, 2) := by decide +kernel
theorem dL_acts_548 : decode cL_acts 548 = .ok (.iload 12, 2) := by decide +kernel
theorem dL_acts_550 : decode cL_acts 550 = .ok (.invokestatic 61, 3) := by decide +kernel
theorem dL_acts_553 : decode cL_acts 553 = .ok (.ldc 55, 2) := by decide +kernel
theorem dL_acts_555 : decode cL_acts 555 = .ok (.if_icmp .ne 7, 3) := by decide +kernel
theorem dL_acts_558 : decode cL_acts 558 = .ok (.iconst 1, 1) := by decide +kernel
theorem dL_acts_559 : decode cL_acts 559 = .ok (.goto 4, 3) := by decide +kernel
theorem dL_acts_562 : decode cL_acts 562 = .ok (.iconst 0, 1) := by decide +kernel
theorem dL_acts_563 : decode cL_acts 563 = .ok (.ireturn, 1) := by decide +kernel
theorem dL_acts_564 : decode cL_acts 564 = .ok (.aload_n 2, 1) := by decide +kernel
theorem dL_acts_565 : decode cL_acts 565 = .ok (.iconst 5, 1) := by decide +kernel
theorem dL_acts_566 : decode cL_acts 566 = .ok (.iload 7, 2) := by decide +kernel
theorem dL_acts_568 : decode cL_acts 568 = .ok (.imul, 1) := by decide +kernel
theorem dL_acts_569 : decode cL_acts 569 = .ok (.iload 13, 2) := by decide +kernel
theorem dL_acts_571 : decode cL_acts 571 = .ok (.iastore, 1) := by decide +kernel
theorem dL_acts_572 : decode cL_acts 572 = .ok (.aload_n 1, 1) := by decide +kernel
theorem dL_acts_573 : decode cL_acts 573 = .ok (.iconst 5, 1) := by decide +kernel
theorem dL_acts_574 : decode cL_acts 574 = .ok (.dup2, 1) := by decide +kernel
theorem dL_acts_575 : decode cL_acts 575 = .ok (.iaload, 1) := by decide +kernel
theorem dL_acts_576 : decode cL_acts 576 = .ok (.iload 14, 2) := by decide +kernel
theorem dL_acts_578 : decode cL_acts 578 = .ok (.ifCond .eq 8, 3) := by decide +kernel
theorem dL_acts_581 : decode cL_acts 581 = .ok (.iload 12, 2) := by decide +kernel
theorem dL_acts_583 : decode cL_acts 583 = .ok (.goto 4, 3) := by decide +kernel
theorem dL_acts_586 : decode cL_acts 586 = .ok (.iconst 0, 1) := by decide +kernel
theorem dL_acts_587 : decode cL_acts 587 = .ok (.iadd, 1) := by decide +kernel
theorem dL_acts_588 : decode cL_acts 588 = .ok (.iastore, 1) := by decide +kernel
theorem dL_acts_589 : decode cL_acts 589 = .ok (.iload 14, 2) := by decide +kernel
theorem dL_acts_591 : decode cL_acts 591 = .ok (.ifCond .eq 15, 3) := by decide +kernel
theorem dL_acts_594 : decode cL_acts 594 = .ok (.aload_n 1, 1) := by decide +kernel
theorem dL_acts_595 : decode cL_acts 595 = .ok (.iconst 5, 1) := by decide +kernel
theorem dL_acts_596 : decode cL_acts 596 = .ok (.iaload, 1) := by decide +kernel
theorem dL_acts_597 : decode cL_acts 597 = .ok (.ifCond .ne 9, 3) := by decide +kernel
theorem dL_acts_600 : decode cL_acts 600 = .ok (.aload_n 1, 1) := by decide +kernel
theorem dL_acts_601 : decode cL_acts 601 = .ok (.aload_n 2, 1) := by decide +kernel
theorem dL_acts_602 : decode cL_acts 602 = .ok (.aload_n 3, 1) := by decide +kernel
theorem dL_acts_603 : decode cL_acts 603 = .ok (.invokestatic 42, 3) := by decide +kernel
theorem dL_acts_606 : decode cL_acts 606 = .ok (.aload_n 0, 1) := by decide +kernel
theorem dL_acts_607 : decode cL_acts 607 = .ok (.iload 7, 2) := by decide +kernel
theorem dL_acts_609 : decode cL_acts 609 = .ok (.iload 12, 2) := by decide +kernel
theorem dL_acts_611 : decode cL_acts 611 = .ok (.invokestatic 61, 3) := by decide +kernel
theorem dL_acts_614 : decode cL_acts 614 = .ok (.iload 13, 2) := by decide +kernel
theorem dL_acts_616 : decode cL_acts 616 = .ok (.if_icmp .ne 7, 3) := by decide +kernel
theorem dL_acts_619 : decode cL_acts 619 = .ok (.iconst 1, 1) := by decide +kernel
theorem dL_acts_620 : decode cL_acts 620 = .ok (.goto 4, 3) := by decide +kernel
theorem dL_acts_623 : decode cL_acts 623 = .ok (.iconst 0, 1) := by decide +kernel
theorem dL_acts_624 : decode cL_acts 624 = .ok (.ireturn, 1) := by decide +kernel
theorem dL_acts_625 : decode cL_acts 625 = .ok (.aload_n 1, 1) := by decide +kernel
theorem dL_acts_626 : decode cL_acts 626 = .ok (.iconst 0, 1) := by decide +kernel
theorem dL_acts_627 : decode cL_acts 627 = .ok (.iaload, 1) := by decide +kernel
theorem dL_acts_628 : decode cL_acts 628 = .ok (.ifCond .eq 14, 3) := by decide +kernel
theorem dL_acts_631 : decode cL_acts 631 = .ok (.aload_n 2, 1) := by decide +kernel
theorem dL_acts_632 : decode cL_acts 632 = .ok (.iconst 5, 1) := by decide +kernel
theorem dL_acts_633 : decode cL_acts 633 = .ok (.iload 7, 2) := by decide +kernel
theorem dL_acts_635 : decode cL_acts 635 = .ok (.imul, 1) := by decide +kernel
theorem dL_acts_636 : decode cL_acts 636 = .ok (.iconst 3, 1) := by decide +kernel
theorem dL_acts_637 : decode cL_acts 637 = .ok (.iadd, 1) := by decide +kernel
theorem dL_acts_638 : decode cL_acts 638 = .ok (.iaload, 1) := by decide +kernel
theorem dL_acts_639 : decode cL_acts 639 = .ok (.ifCond .eq 31, 3) := by decide +kernel
theorem dL_acts_642 : decode cL_acts 642 = .ok (.aload_n 0, 1) := by decide +kernel
theorem dL_acts_643 : decode cL_acts 643 = .ok (.iload 7, 2) := by decide +kernel
theorem dL_acts_645 : decode cL_acts 645 = .ok (.invokestatic 66, 3) := by decide +kernel
theorem dL_acts_648 : decode cL_acts 648 = .ok (.aload_n 1, 1) := by decide +kernel
theorem dL_acts_649 : decode cL_acts 649 = .ok (.iconst 0, 1) := by decide +kernel
theorem dL_acts_650 : decode cL_acts 650 = .ok (.iaload, 1) := by decide +kernel
theorem dL_acts_651 : decode cL_acts 651 = .ok (.ifCond .ne 8, 3) := by decide +kernel
theorem dL_acts_654 : decode cL_acts 654 = .ok (.ldc 65, 2) := by decide +kernel
theorem dL_acts_656 : decode cL_acts 656 = .ok (.goto 5, 3) := by decide +kernel
theorem dL_acts_659 : decode cL_acts 659 = .ok (.ldc 55, 2) := by decide +kernel
theorem dL_acts_661 : decode cL_acts 661 = .ok (.if_icmp .ne 7, 3) := by decide +kernel
theorem dL_acts_664 : decode cL_acts 664 = .ok (.iconst 1, 1) := by decide +kernel
theorem dL_acts_665 : decode cL_acts 665 = .ok (.goto 4, 3) := by decide +kernel
theorem dL_acts_668 : decode cL_acts 668 = .ok (.iconst 0, 1) := by decide +kernel
theorem dL_acts_669 : decode cL_acts 669 = .ok (.ireturn, 1) := by decide +kernel
theorem dL_acts_670 : decode cL_acts 670 = .ok (.aload_n 2, 1) := by decide +kernel
theorem dL_acts_671 : decode cL_acts 671 = .ok (.iconst 5, 1) := by decide +kernel
theorem dL_acts_672 : decode cL_acts 672 = .ok (.iload 7, 2) := by decide +kernel
theorem dL_acts_674 : decode cL_acts 674 = .ok (.imul, 1) := by decide +kernel
theorem dL_acts_675 : decode cL_acts 675 = .ok (.iconst 3, 1) := by decide +kernel
theorem dL_acts_676 : decode cL_acts 676 = .ok (.iadd, 1) := by decide +kernel
theorem dL_acts_677 : decode cL_acts 677 = .ok (.iconst 3, 1) := by decide +kernel
theorem dL_acts_678 : decode cL_acts 678 = .ok (.iastore, 1) := by decide +kernel
theorem dL_acts_679 : decode cL_acts 679 = .ok (.aload_n 1, 1) := by decide +kernel
theorem dL_acts_680 : decode cL_acts 680 = .ok (.aload 4, 2) := by decide +kernel
theorem dL_acts_682 : decode cL_acts 682 = .ok (.iconst 3, 1) := by decide +kernel
theorem dL_acts_683 : decode cL_acts 683 = .ok (.iload 7, 2) := by decide +kernel
theorem dL_acts_685 : decode cL_acts 685 = .ok (.invokestatic 17, 3) := by decide +kernel
theorem dL_acts_688 : decode cL_acts 688 = .ok (.aload_n 0, 1) := by decide +kernel
theorem dL_acts_689 : decode cL_acts 689 = .ok (.iload 7, 2) := by decide +kernel
theorem dL_acts_691 : decode cL_acts 691 = .ok (.invokestatic 66, 3) := by decide +kernel
theorem dL_acts_694 : decode cL_acts 694 = .ok (.aload_n 1, 1) := by decide +kernel
theorem dL_acts_695 : decode cL_acts 695 = .ok (.aload_n 2, 1) := by decide +kernel
theorem dL_acts_696 : decode cL_acts 696 = .ok (.iconst 0, 1) := by decide +kernel
theorem dL_acts_697 : decode cL_acts 697 = .ok (.invokestatic 69, 3) := by decide +kernel
theorem dL_acts_700 : decode cL_acts 700 = .ok (.if_icmp .ne 7, 3) := by decide +kernel
theorem dL_acts_703 : decode cL_acts 703 = .ok (.iconst 1, 1) := by decide +kernel
theorem dL_acts_704 : decode cL_acts 704 = .ok (.goto 4, 3) := by decide +kernel
theorem dL_acts_707 : decode cL_acts 707 = .ok (.iconst 0, 1) := by decide +kernel
theorem dL_acts_708 : decode cL_acts 708 = .ok (.ireturn, 1) := by decide +kernel
theorem dL_acts_709 : decode cL_acts 709 = .ok (.aload_n 1, 1) := by decide +kernel
theorem dL_acts_710 : decode cL_acts 710 = .ok (.iconst 3, 1) := by decide +kernel
theorem dL_acts_711 : decode cL_acts 711 = .ok (.iaload, 1) := by decide +kernel
theorem dL_acts_712 : decode cL_acts 712 = .ok (.iconst 1, 1) := by decide +kernel
theorem dL_acts_713 : decode cL_acts 713 = .ok (.if_icmp .ne 7, 3) := by decide +kernel
theorem dL_acts_716 : decode cL_acts 716 = .ok (.iconst 1, 1) := by decide +kernel
theorem dL_acts_717 : decode cL_acts 717 = .ok (.goto 4, 3) := by decide +kernel
theorem dL_acts_720 : decode cL_acts 720 = .ok (.iconst 0, 1) := by decide +kernel
theorem dL_acts_721 : decode cL_acts 721 = .ok (.istore 15, 2) := by decide +kernel
theorem dL_acts_723 : decode cL_acts 723 = .ok (.iconst 0, 1) := by decide +kernel
theorem dL_acts_724 : decode cL_acts 724 = .ok (.istore 16, 2) := by decide +kernel
theorem dL_acts_726 : decode cL_acts 726 = .ok (.iload 16, 2) := by decide +kernel
theorem dL_acts_728 : decode cL_acts 728 = .ok (.bipush 30, 2) := by decide +kernel
theorem dL_acts_730 : decode cL_acts 730 = .ok (.if_icmp .ge 86, 3) := by decide +kernel
theorem dL_acts_733 : decode cL_acts 733 = .ok (.iload 15, 2) := by decide +kernel
theorem dL_acts_735 : decode cL_acts 735 = .ok (.ifCond .eq 81, 3) := by decide +kernel
theorem dL_acts_738 : decode cL_acts 738 = .ok (.aload_n 2, 1) := by decide +kernel
theorem dL_acts_739 : decode cL_acts 739 = .ok (.iload 16, 2) := by decide +kernel
theorem dL_acts_741 : decode cL_acts 741 = .ok (.iload 16, 2) := by decide +kernel
theorem dL_acts_743 : decode cL_acts 743 = .ok (.iconst 5, 1) := by decide +kernel
theorem dL_acts_744 : decode cL_acts 744 = .ok (.irem, 1) := by decide +kernel
theorem dL_acts_745 : decode cL_acts 745 = .ok (.iconst 3, 1) := by decide +kernel
theorem dL_acts_746 : decode cL_acts 746 = .ok (.if_icmp .ne 7, 3) := by decide +kernel
theorem dL_acts_749 : decode cL_acts 749 = .ok (.iconst 0, 1) := by decide +kernel
theorem dL_acts_750 : decode cL_acts 750 = .ok (.goto 19, 3) := by decide +kernel
theorem dL_acts_753 : decode cL_acts 753 = .ok (.iload 16, 2) := by decide +kernel
theorem dL_acts_755 : decode cL_acts 755 = .ok (.iconst 5, 1) := by decide +kernel
theorem dL_acts_756 : decode cL_acts 756 = .ok (.irem, 1) := by decide +kernel
theorem dL_acts_757 : decode cL_acts 757 = .ok (.iconst 4, 1) := by decide +kernel
theorem dL_acts_758 : decode cL_acts 758 = .ok (.if_icmp .ne 7, 3) := by decide +kernel
theorem dL_acts_761 : decode cL_acts 761 = .ok (.iconst (-1), 1) := by decide +kernel
theorem dL_acts_762 : decode cL_acts 762 = .ok (.goto 7, 3) := by decide +kernel
theorem dL_acts_765 : decode cL_acts 765 = .ok (.aload_n 2, 1) := by decide +kernel
theorem dL_acts_766 : decode cL_acts 766 = .ok (.iload 16, 2) := by decide +kernel
theorem dL_acts_768 : decode cL_acts 768 = .ok (.iaload, 1) := by decide +kernel
theorem dL_acts_769 : decode cL_acts 769 = .ok (.iastore, 1) := by decide +kernel
theorem dL_acts_770 : decode cL_acts 770 = .ok (.aload_n 3, 1) := by decide +kernel
theorem dL_acts_771 : decode cL_acts 771 = .ok (.iload 16, 2) := by decide +kernel
theorem dL_acts_773 : decode cL_acts 773 = .ok (.iconst 2, 1) := by decide +kernel
theorem dL_acts_774 : decode cL_acts 774 = .ok (.idiv, 1) := by decide +kernel
theorem dL_acts_775 : decode cL_acts 775 = .ok (.iload 16, 2) := by decide +kernel
theorem dL_acts_777 : decode cL_acts 777 = .ok (.iconst 2, 1) := by decide +kernel
theorem dL_acts_778 : decode cL_acts 778 = .ok (.idiv, 1) := by decide +kernel
theorem dL_acts_779 : decode cL_acts 779 = .ok (.iconst 3, 1) := by decide +kernel
theorem dL_acts_780 : decode cL_acts 780 = .ok (.irem, 1) := by decide +kernel
theorem dL_acts_781 : decode cL_acts 781 = .ok (.iconst 1, 1) := by decide +kernel
theorem dL_acts_782 : decode cL_acts 782 = .ok (.if_icmp .ne 7, 3) := by decide +kernel
theorem dL_acts_785 : decode cL_acts 785 = .ok (.iconst 0, 1) := by decide +kernel
theorem dL_acts_786 : decode cL_acts 786 = .ok (.goto 23, 3) := by decide +kernel
theorem dL_acts_789 : decode cL_acts 789 = .ok (.iload 16, 2) := by decide +kernel
theorem dL_acts_791 : decode cL_acts 791 = .ok (.iconst 2, 1) := by decide +kernel
theorem dL_acts_792 : decode cL_acts 792 = .ok (.idiv, 1) := by decide +kernel
theorem dL_acts_793 : decode cL_acts 793 = .ok (.iconst 3, 1) := by decide +kernel
theorem dL_acts_794 : decode cL_acts 794 = .ok (.irem, 1) := by decide +kernel
theorem dL_acts_795 : decode cL_acts 795 = .ok (.iconst 2, 1) := by decide +kernel
theorem dL_acts_796 : decode cL_acts 796 = .ok (.if_icmp .ne 7, 3) := by decide +kernel
theorem dL_acts_799 : decode cL_acts 799 = .ok (.iconst (-1), 1) := by decide +kernel
theorem dL_acts_800 : decode cL_acts 800 = .ok (.goto 9, 3) := by decide +kernel
theorem dL_acts_803 : decode cL_acts 803 = .ok (.aload_n 3, 1) := by decide +kernel
theorem dL_acts_804 : decode cL_acts 804 = .ok (.iload 16, 2) := by decide +kernel
theorem dL_acts_806 : decode cL_acts 806 = .ok (.iconst 2, 1) := by decide +kernel
theorem dL_acts_807 : decode cL_acts 807 = .ok (.idiv, 1) := by decide +kernel
theorem dL_acts_808 : decode cL_acts 808 = .ok (.iaload, 1) := by decide +kernel
theorem dL_acts_809 : decode cL_acts 809 = .ok (.iastore, 1) := by decide +kernel
theorem dL_acts_810 : decode cL_acts 810 = .ok (.iinc 16 1, 3) := by decide +kernel
theorem dL_acts_813 : decode cL_acts 813 = .ok (.goto (-87), 3) := by decide +kernel
theorem dL_acts_816 : decode cL_acts 816 = .ok (.aload_n 1, 1) := by decide +kernel
theorem dL_acts_817 : decode cL_acts 817 = .ok (.iconst 2, 1) := by decide +kernel
theorem dL_acts_818 : decode cL_acts 818 = .ok (.iload 15, 2) := by decide +kernel
theorem dL_acts_820 : decode cL_acts 820 = .ok (.ifCond .eq 7, 3) := by decide +kernel
theorem dL_acts_823 : decode cL_acts 823 = .ok (.iconst 0, 1) := by decide +kernel
theorem dL_acts_824 : decode cL_acts 824 = .ok (.goto 6, 3) := by decide +kernel
theorem dL_acts_827 : decode cL_acts 827 = .ok (.aload_n 1, 1) := by decide +kernel
theorem dL_acts_828 : decode cL_acts 828 = .ok (.iconst 2, 1) := by decide +kernel
theorem dL_acts_829 : decode cL_acts 829 = .ok (.iaload, 1) := by decide +kernel
theorem dL_acts_830 : decode cL_acts 830 = .ok (.iastore, 1) := by decide +kernel
theorem dL_acts_831 : decode cL_acts 831 = .ok (.aload_n 1, 1) := by decide +kernel
theorem dL_acts_832 : decode cL_acts 832 = .ok (.iconst 3, 1) := by decide +kernel
theorem dL_acts_833 : decode cL_acts 833 = .ok (.iconst 0, 1) := by decide +kernel
theorem dL_acts_834 : decode cL_acts 834 = .ok (.iastore, 1) := by decide +kernel
theorem dL_acts_835 : decode cL_acts 835 = .ok (.aload_n 1, 1) := by decide +kernel
theorem dL_acts_836 : decode cL_acts 836 = .ok (.bipush 6, 2) := by decide +kernel
theorem dL_acts_838 : decode cL_acts 838 = .ok (.iload 15, 2) := by decide +kernel
theorem dL_acts_840 : decode cL_acts 840 = .ok (.ifCond .eq 7, 3) := by decide +kernel
theorem dL_acts_843 : decode cL_acts 843 = .ok (.iconst 0, 1) := by decide +kernel
theorem dL_acts_844 : decode cL_acts 844 = .ok (.goto 7, 3) := by decide +kernel
theorem dL_acts_847 : decode cL_acts 847 = .ok (.aload_n 1, 1) := by decide +kernel
theorem dL_acts_848 : decode cL_acts 848 = .ok (.bipush 6, 2) := by decide +kernel
theorem dL_acts_850 : decode cL_acts 850 = .ok (.iaload, 1) := by decide +kernel
theorem dL_acts_851 : decode cL_acts 851 = .ok (.iastore, 1) := by decide +kernel
theorem dL_acts_852 : decode cL_acts 852 = .ok (.aload_n 1, 1) := by decide +kernel
theorem dL_acts_853 : decode cL_acts 853 = .ok (.bipush 7, 2) := by decide +kernel
theorem dL_acts_855 : decode cL_acts 855 = .ok (.dup2, 1) := by decide +kernel
theorem dL_acts_856 : decode cL_acts 856 = .ok (.iaload, 1) := by decide +kernel
theorem dL_acts_857 : decode cL_acts 857 = .ok (.iload 15, 2) := by decide +kernel
theorem dL_acts_859 : decode cL_acts 859 = .ok (.ifCond .eq 7, 3) := by decide +kernel
theorem dL_acts_862 : decode cL_acts 862 = .ok (.iconst 1, 1) := by decide +kernel
theorem dL_acts_863 : decode cL_acts 863 = .ok (.goto 4, 3) := by decide +kernel
theorem dL_acts_866 : decode cL_acts 866 = .ok (.iconst 0, 1) := by decide +kernel
theorem dL_acts_867 : decode cL_acts 867 = .ok (.iadd, 1) := by decide +kernel
theorem dL_acts_868 : decode cL_acts 868 = .ok (.iastore, 1) := by decide +kernel
theorem dL_acts_869 : decode cL_acts 869 = .ok (.aload_n 1, 1) := by decide +kernel
theorem dL_acts_870 : decode cL_acts 870 = .ok (.bipush 8, 2) := by decide +kernel
theorem dL_acts_872 : decode cL_acts 872 = .ok (.iload 15, 2) := by decide +kernel
theorem dL_acts_874 : decode cL_acts 874 = .ok (.ifCond .eq 7, 3) := by decide +kernel
theorem dL_acts_877 : decode cL_acts 877 = .ok (.iconst 0, 1) := by decide +kernel
theorem dL_acts_878 : decode cL_acts 878 = .ok (.goto 7, 3) := by decide +kernel
theorem dL_acts_881 : decode cL_acts 881 = .ok (.aload_n 1, 1) := by decide +kernel
theorem dL_acts_882 : decode cL_acts 882 = .ok (.bipush 8, 2) := by decide +kernel
theorem dL_acts_884 : decode cL_acts 884 = .ok (.iaload, 1) := by decide +kernel
theorem dL_acts_885 : decode cL_acts 885 = .ok (.iastore, 1) := by decide +kernel
theorem dL_acts_886 : decode cL_acts 886 = .ok (.aload_n 0, 1) := by decide +kernel
theorem dL_acts_887 : decode cL_acts 887 = .ok (.invokestatic 72, 3) := by decide +kernel
theorem dL_acts_890 : decode cL_acts 890 = .ok (.iload 15, 2) := by decide +kernel
theorem dL_acts_892 : decode cL_acts 892 = .ok (.ifCond .eq 10, 3) := by decide +kernel
theorem dL_acts_895 : decode cL_acts 895 = .ok (.aload_n 1, 1) := by decide +kernel
theorem dL_acts_896 : decode cL_acts 896 = .ok (.bipush 7, 2) := by decide +kernel
theorem dL_acts_898 : decode cL_acts 898 = .ok (.iaload, 1) := by decide +kernel
theorem dL_acts_899 : decode cL_acts 899 = .ok (.goto 5, 3) := by decide +kernel
theorem dL_acts_902 : decode cL_acts 902 = .ok (.ldc 55, 2) := by decide +kernel
theorem dL_acts_904 : decode cL_acts 904 = .ok (.if_icmp .ne 7, 3) := by decide +kernel
theorem dL_acts_907 : decode cL_acts 907 = .ok (.iconst 1, 1) := by decide +kernel
theorem dL_acts_908 : decode cL_acts 908 = .ok (.goto 4, 3) := by decide +kernel
theorem dL_acts_911 : decode cL_acts 911 = .ok (.iconst 0, 1) := by decide +kernel
theorem dL_acts_912 : decode cL_acts 912 = .ok (.ireturn, 1) := by decide +kernel
theorem dL_acts_913 : decode cL_acts 913 = .ok (.iload 6, 2) := by decide +kernel
theorem dL_acts_915 : decode cL_acts 915 = .ok (.iconst 3, 1) := by decide +kernel
theorem dL_acts_916 : decode cL_acts 916 = .ok (.irem, 1) := by decide +kernel
theorem dL_acts_917 : decode cL_acts 917 = .ok (.ifCond .le 31, 3) := by decide +kernel
theorem dL_acts_920 : decode cL_acts 920 = .ok (.aload_n 0, 1) := by decide +kernel
theorem dL_acts_921 : decode cL_acts 921 = .ok (.iconst 0, 1) := by decide +kernel
theorem dL_acts_922 : decode cL_acts 922 = .ok (.invokestatic 76, 3) := by decide +kernel
theorem dL_acts_925 : decode cL_acts 925 = .ok (.ldc 56, 2) := by decide +kernel
theorem dL_acts_927 : decode cL_acts 927 = .ok (.if_icmp .ne 19, 3) := by decide +kernel
theorem dL_acts_930 : decode cL_acts 930 = .ok (.aload_n 0, 1) := by decide +kernel
theorem dL_acts_931 : decode cL_acts 931 = .ok (.sipush 3601, 3) := by decide +kernel
theorem dL_acts_934 : decode cL_acts 934 = .ok (.invokestatic 76, 3) := by decide +kernel
theorem dL_acts_937 : decode cL_acts 937 = .ok (.ldc 56, 2) := by decide +kernel
theorem dL_acts_939 : decode cL_acts 939 = .ok (.if_icmp .ne 7, 3) := by decide +kernel
theorem dL_acts_942 : decode cL_acts 942 = .ok (.iconst 1, 1) := by decide +kernel
theorem dL_acts_943 : decode cL_acts 943 = .ok (.goto 4, 3) := by decide +kernel
theorem dL_acts_946 : decode cL_acts 946 = .ok (.iconst 0, 1) := by decide +kernel
theorem dL_acts_947 : decode cL_acts 947 = .ok (.ireturn, 1) := by decide +kernel
theorem dL_acts_948 : decode cL_acts 948 = .ok (.aload_n 1, 1) := by decide +kernel
theorem dL_acts_949 : decode cL_acts 949 = .ok (.aload_n 2, 1) := by decide +kernel
theorem dL_acts_950 : decode cL_acts 950 = .ok (.aload_n 3, 1) := by decide +kernel
theorem dL_acts_951 : decode cL_acts 951 = .ok (.aload 4, 2) := by decide +kernel
theorem dL_acts_953 : decode cL_acts 953 = .ok (.ldc 16, 2) := by decide +kernel
theorem dL_acts_955 : decode cL_acts 955 = .ok (.invokestatic 79, 3) := by decide +kernel
theorem dL_acts_958 : decode cL_acts 958 = .ok (.istore 16, 2) := by decide +kernel
theorem dL_acts_960 : decode cL_acts 960 = .ok (.aload_n 0, 1) := by decide +kernel
theorem dL_acts_961 : decode cL_acts 961 = .ok (.invokevirtual 83, 3) := by decide +kernel
theorem dL_acts_964 : decode cL_acts 964 = .ok (.aload_n 1, 1) := by decide +kernel
theorem dL_acts_965 : decode cL_acts 965 = .ok (.iconst 2, 1) := by decide +kernel
theorem dL_acts_966 : decode cL_acts 966 = .ok (.iaload, 1) := by decide +kernel
theorem dL_acts_967 : decode cL_acts 967 = .ok (.sipush 3600, 3) := by decide +kernel
theorem dL_acts_970 : decode cL_acts 970 = .ok (.isub, 1) := by decide +kernel
theorem dL_acts_971 : decode cL_acts 971 = .ok (.if_icmp .ne 7, 3) := by decide +kernel
theorem dL_acts_974 : decode cL_acts 974 = .ok (.iconst 1, 1) := by decide +kernel
theorem dL_acts_975 : decode cL_acts 975 = .ok (.goto 4, 3) := by decide +kernel
theorem dL_acts_978 : decode cL_acts 978 = .ok (.iconst 0, 1) := by decide +kernel
theorem dL_acts_979 : decode cL_acts 979 = .ok (.ireturn, 1) := by decide +kernel
theorem dL_acts_980 : decode cL_acts 980 = .ok (.iconst 1, 1) := by decide +kernel
theorem dL_acts_981 : decode cL_acts 981 = .ok (.iload 6, 2) := by decide +kernel
theorem dL_acts_983 : decode cL_acts 983 = .ok (.iload 6, 2) := by decide +kernel
theorem dL_acts_985 : decode cL_acts 985 = .ok (.iconst 4, 1) := by decide +kernel
theorem dL_acts_986 : decode cL_acts 986 = .ok (.irem, 1) := by decide +kernel
theorem dL_acts_987 : decode cL_acts 987 = .ok (.ifCond .ne 9, 3) := by decide +kernel
theorem dL_acts_990 : decode cL_acts 990 = .ok (.sipush 3600, 3) := by decide +kernel
theorem dL_acts_993 : decode cL_acts 993 = .ok (.goto 6, 3) := by decide +kernel
theorem dL_acts_996 : decode cL_acts 996 = .ok (.sipush 500, 3) := by decide +kernel
theorem dL_acts_999 : decode cL_acts 999 = .ok (.irem, 1) := by decide +kernel
theorem dL_acts_1000 : decode cL_acts 1000 = .ok (.iadd, 1) := by decide +kernel
theorem dL_acts_1001 : decode cL_acts 1001 = .ok (.istore 17, 2) := by decide +kernel
theorem dL_acts_1003 : decode cL_acts 1003 = .ok (.aload_n 1, 1) := by decide +kernel
theorem dL_acts_1004 : decode cL_acts 1004 = .ok (.aload_n 2, 1) := by decide +kernel
theorem dL_acts_1005 : decode cL_acts 1005 = .ok (.aload_n 3, 1) := by decide +kernel
theorem dL_acts_1006 : decode cL_acts 1006 = .ok (.aload 4, 2) := by decide +kernel
theorem dL_acts_1008 : decode cL_acts 1008 = .ok (.iload 17, 2) := by decide +kernel
theorem dL_acts_1010 : decode cL_acts 1010 = .ok (.invokestatic 79, 3) := by decide +kernel
theorem dL_acts_1013 : decode cL_acts 1013 = .ok (.istore 18, 2) := by decide +kernel
theorem dL_acts_1015 : decode cL_acts 1015 = .ok (.aload_n 0, 1) := by decide +kernel
theorem dL_acts_1016 : decode cL_acts 1016 = .ok (.iload 17, 2) := by decide +kernel
theorem dL_acts_1018 : decode cL_acts 1018 = .ok (.invokestatic 76, 3) := by decide +kernel
theorem dL_acts_1021 : decode cL_acts 1021 = .ok (.iload 18, 2) := by decide +kernel
theorem dL_acts_1023 : decode cL_acts 1023 = .ok (.if_icmp .ne 7, 3) := by decide +kernel
theorem dL_acts_1026 : decode cL_acts 1026 = .ok (.iconst 1, 1) := by decide +kernel
theorem dL_acts_1027 : decode cL_acts 1027 = .ok (.goto 4, 3) := by decide +kernel
theorem dL_acts_1030 : decode cL_acts 1030 = .ok (.iconst 0, 1) := by decide +kernel
theorem dL_acts_1031 : decode cL_acts 1031 = .ok (.ireturn, 1) := by decide +kernel
theorem dL_adds_0 : decode cL_adds 0 = .ok (.aload_n 0, 1) := by decide +kernel
theorem dL_adds_1 : decode cL_adds 1 = .ok (.iload_n 1, 1) := by decide +kernel
theorem dL_adds_2 : decode cL_adds 2 = .ok (.iload_n 2, 1) := by decide +kernel
theorem dL_adds_3 : decode cL_adds 3 = .ok (.iload_n 3, 1) := by decide +kernel
theorem dL_adds_4 : decode cL_adds 4 = .ok (.invokevirtual 89, 3) := by decide +kernel
theorem dL_adds_7 : decode cL_adds 7 = .ok (.ireturn, 1) := by decide +kernel
theorem dL_adds_8 : decode cL_adds 8 = .ok (.astore 4, 2) := by decide +kernel
theorem dL_adds_10 : decode cL_adds 10 = .ok (.ldc 56, 2) := by decide +kernel
theorem dL_adds_12 : decode cL_adds 12 = .ok (.ireturn, 1) := by decide +kernel
theorem dL_adds_13 : decode cL_adds 13 = .ok (.astore 4, 2) := by decide +kernel
theorem dL_adds_15 : decode cL_adds 15 = .ok (.ldc 55, 2) := by decide +kernel
theorem dL_adds_17 : decode cL_adds 17 = .ok (.ireturn, 1) := by decide +kernel
theorem dL_fills_0 : decode cL_fills 0 = .ok (.aload_n 0, 1) := by decide +kernel
theorem dL_fills_1 : decode cL_fills 1 = .ok (.iload_n 1, 1) := by decide +kernel
theorem dL_fills_2 : decode cL_fills 2 = .ok (.invokevirtual 97, 3) := by decide +kernel
theorem dL_fills_5 : decode cL_fills 5 = .ok (.ireturn, 1) := by decide +kernel
theorem dL_fills_6 : decode cL_fills 6 = .ok (.astore_n 2, 1) := by decide +kernel
theorem dL_fills_7 : decode cL_fills 7 = .ok (.ldc 56, 2) := by decide +kernel
theorem dL_fills_9 : decode cL_fills 9 = .ok (.ireturn, 1) := by decide +kernel
theorem dL_fills_10 : decode cL_fills 10 = .ok (.astore_n 2, 1) := by decide +kernel
theorem dL_fills_11 : decode cL_fills 11 = .ok (.ldc 55, 2) := by decide +kernel
theorem dL_fills_13 : decode cL_fills 13 = .ok (.ireturn, 1) := by decide +kernel
theorem dL_stretches_0 : decode cL_stretches 0 = .ok (.aload_n 0, 1) := by decide +kernel
theorem dL_stretches_1 : decode cL_stretches 1 = .ok (.iload_n 1, 1) := by decide +kernel
theorem dL_stretches_2 : decode cL_stretches 2 = .ok (.iload_n 2, 1) := by decide +kernel
theorem dL_stretches_3 : decode cL_stretches 3 = .ok (.invokevirtual 101, 3) := by decide +kernel
theorem dL_stretches_6 : decode cL_stretches 6 = .ok (.ireturn, 1) := by decide +kernel
theorem dL_stretches_7 : decode cL_stretches 7 = .ok (.astore_n 3, 1) := by decide +kernel
theorem dL_stretches_8 : decode cL_stretches 8 = .ok (.ldc 65, 2) := by decide +kernel
theorem dL_stretches_10 : decode cL_stretches 10 = .ok (.ireturn, 1) := by decide +kernel
theorem dL_stretches_11 : decode cL_stretches 11 = .ok (.astore_n 3, 1) := by decide +kernel
theorem dL_stretches_12 : decode cL_stretches 12 = .ok (.ldc 56, 2) := by decide +kernel
theorem dL_stretches_14 : decode cL_stretches 14 = .ok (.ireturn, 1) := by decide +kernel
theorem dL_stretches_15 : decode cL_stretches 15 = .ok (.astore_n 3, 1) := by decide +kernel
theorem dL_stretches_16 : decode cL_stretches 16 = .ok (.ldc 55, 2) := by decide +kernel
theorem dL_stretches_18 : decode cL_stretches 18 = .ok (.ireturn, 1) := by decide +kernel
theorem dL_drops_0 : decode cL_drops 0 = .ok (.aload_n 0, 1) := by decide +kernel
theorem dL_drops_1 : decode cL_drops 1 = .ok (.iload_n 1, 1) := by decide +kernel
theorem dL_drops_2 : decode cL_drops 2 = .ok (.invokevirtual 106, 3) := by decide +kernel
theorem dL_drops_5 : decode cL_drops 5 = .ok (.ireturn, 1) := by decide +kernel
theorem dL_drops_6 : decode cL_drops 6 = .ok (.astore_n 2, 1) := by decide +kernel
theorem dL_drops_7 : decode cL_drops 7 = .ok (.ldc 65, 2) := by decide +kernel
theorem dL_drops_9 : decode cL_drops 9 = .ok (.ireturn, 1) := by decide +kernel
theorem dL_drops_10 : decode cL_drops 10 = .ok (.astore_n 2, 1) := by decide +kernel
theorem dL_drops_11 : decode cL_drops 11 = .ok (.ldc 55, 2) := by decide +kernel
theorem dL_drops_13 : decode cL_drops 13 = .ok (.ireturn, 1) := by decide +kernel
theorem dL_passes_0 : decode cL_passes 0 = .ok (.aload_n 0, 1) := by decide +kernel
theorem dL_passes_1 : decode cL_passes 1 = .ok (.iload_n 1, 1) := by decide +kernel
theorem dL_passes_2 : decode cL_passes 2 = .ok (.invokevirtual 109, 3) := by decide +kernel
theorem dL_passes_5 : decode cL_passes 5 = .ok (.ireturn, 1) := by decide +kernel
theorem dL_passes_6 : decode cL_passes 6 = .ok (.astore_n 2, 1) := by decide +kernel
theorem dL_passes_7 : decode cL_passes 7 = .ok (.ldc 56, 2) := by decide +kernel
theorem dL_passes_9 : decode cL_passes 9 = .ok (.ireturn, 1) := by decide +kernel
theorem dL_agains_0 : decode cL_agains 0 = .ok (.aload_n 0, 1) := by decide +kernel
theorem dL_agains_1 : decode cL_agains 1 = .ok (.invokevirtual 112, 3) := by decide +kernel
theorem dL_agains_4 : decode cL_agains 4 = .ok (.ireturn, 1) := by decide +kernel
theorem dL_agains_5 : decode cL_agains 5 = .ok (.astore_n 1, 1) := by decide +kernel
theorem dL_agains_6 : decode cL_agains 6 = .ok (.ldc 55, 2) := by decide +kernel
theorem dL_agains_8 : decode cL_agains 8 = .ok (.ireturn, 1) := by decide +kernel
theorem dL_elementOf_0 : decode cL_elementOf 0 = .ok (.aload_n 0, 1) := by decide +kernel
theorem dL_elementOf_1 : decode cL_elementOf 1 = .ok (.iload_n 1, 1) := by decide +kernel
theorem dL_elementOf_2 : decode cL_elementOf 2 = .ok (.iload_n 2, 1) := by decide +kernel
theorem dL_elementOf_3 : decode cL_elementOf 3 = .ok (.invokevirtual 115, 3) := by decide +kernel
theorem dL_elementOf_6 : decode cL_elementOf 6 = .ok (.ireturn, 1) := by decide +kernel
theorem dL_elementOf_7 : decode cL_elementOf 7 = .ok (.astore_n 3, 1) := by decide +kernel
theorem dL_elementOf_8 : decode cL_elementOf 8 = .ok (.ldc 65, 2) := by decide +kernel
theorem dL_elementOf_10 : decode cL_elementOf 10 = .ok (.ireturn, 1) := by decide +kernel
theorem dL_elementOf_11 : decode cL_elementOf 11 = .ok (.astore_n 3, 1) := by decide +kernel
theorem dL_elementOf_12 : decode cL_elementOf 12 = .ok (.ldc 56, 2) := by decide +kernel
theorem dL_elementOf_14 : decode cL_elementOf 14 = .ok (.ireturn, 1) := by decide +kernel
theorem dL_fillerOf_0 : decode cL_fillerOf 0 = .ok (.aload_n 0, 1) := by decide +kernel
theorem dL_fillerOf_1 : decode cL_fillerOf 1 = .ok (.iload_n 1, 1) := by decide +kernel
theorem dL_fillerOf_2 : decode cL_fillerOf 2 = .ok (.iload_n 2, 1) := by decide +kernel
theorem dL_fillerOf_3 : decode cL_fillerOf 3 = .ok (.invokevirtual 118, 3) := by decide +kernel
theorem dL_fillerOf_6 : decode cL_fillerOf 6 = .ok (.ireturn, 1) := by decide +kernel
theorem dL_fillerOf_7 : decode cL_fillerOf 7 = .ok (.astore_n 3, 1) := by decide +kernel
theorem dL_fillerOf_8 : decode cL_fillerOf 8 = .ok (.ldc 65, 2) := by decide +kernel
theorem dL_fillerOf_10 : decode cL_fillerOf 10 = .ok (.ireturn, 1) := by decide +kernel
theorem dL_fillerOf_11 : decode cL_fillerOf 11 = .ok (.astore_n 3, 1) := by decide +kernel
theorem dL_fillerOf_12 : decode cL_fillerOf 12 = .ok (.ldc 56, 2) := by decide +kernel
theorem dL_fillerOf_14 : decode cL_fillerOf 14 = .ok (.ireturn, 1) := by decide +kernel
theorem dL_valueOf_0 : decode cL_valueOf 0 = .ok (.aload_n 0, 1) := by decide +kernel
theorem dL_valueOf_1 : decode cL_valueOf 1 = .ok (.iload_n 1, 1) := by decide +kernel
theorem dL_valueOf_2 : decode cL_valueOf 2 = .ok (.invokevirtual 121, 3) := by decide +kernel
theorem dL_valueOf_5 : decode cL_valueOf 5 = .ok (.ireturn, 1) := by decide +kernel
theorem dL_valueOf_6 : decode cL_valueOf 6 = .ok (.astore_n 2, 1) := by decide +kernel
theorem dL_valueOf_7 : decode cL_valueOf 7 = .ok (.ldc 56, 2) := by decide +kernel
theorem dL_valueOf_9 : decode cL_valueOf 9 = .ok (.ireturn, 1) := by decide +kernel
theorem dL_entryOf_0 : decode cL_entryOf 0 = .ok (.aload_n 0, 1) := by decide +kernel
theorem dL_entryOf_1 : decode cL_entryOf 1 = .ok (.iload_n 1, 1) := by decide +kernel
theorem dL_entryOf_2 : decode cL_entryOf 2 = .ok (.iload_n 2, 1) := by decide +kernel
theorem dL_entryOf_3 : decode cL_entryOf 3 = .ok (.invokevirtual 124, 3) := by decide +kernel
theorem dL_entryOf_6 : decode cL_entryOf 6 = .ok (.ireturn, 1) := by decide +kernel
theorem dL_entryOf_7 : decode cL_entryOf 7 = .ok (.astore_n 3, 1) := by decide +kernel
theorem dL_entryOf_8 : decode cL_entryOf 8 = .ok (.ldc 65, 2) := by decide +kernel
theorem dL_entryOf_10 : decode cL_entryOf 10 = .ok (.ireturn, 1) := by decide +kernel
theorem dL_entryOf_11 : decode cL_entryOf 11 = .ok (.astore_n 3, 1) := by decide +kernel
theorem dL_entryOf_12 : decode cL_entryOf 12 = .ok (.ldc 56, 2) := by decide +kernel
theorem dL_entryOf_14 : decode cL_entryOf 14 = .ok (.ireturn, 1) := by decide +kernel
theorem dL_backOf_0 : decode cL_backOf 0 = .ok (.aload_n 0, 1) := by decide +kernel
theorem dL_backOf_1 : decode cL_backOf 1 = .ok (.iload_n 1, 1) := by decide +kernel
theorem dL_backOf_2 : decode cL_backOf 2 = .ok (.invokevirtual 127, 3) := by decide +kernel
theorem dL_backOf_5 : decode cL_backOf 5 = .ok (.ireturn, 1) := by decide +kernel
theorem dL_backOf_6 : decode cL_backOf 6 = .ok (.astore_n 2, 1) := by decide +kernel
theorem dL_backOf_7 : decode cL_backOf 7 = .ok (.ldc 65, 2) := by decide +kernel
theorem dL_backOf_9 : decode cL_backOf 9 = .ok (.ireturn, 1) := by decide +kernel
theorem dL_law_0 : decode cL_law 0 = .ok (.new 84, 3) := by decide +kernel
theorem dL_law_3 : decode cL_law 3 = .ok (.dup, 1) := by decide +kernel
theorem dL_law_4 : decode cL_law 4 = .ok (.invokespecial 149, 3) := by decide +kernel
theorem dL_law_7 : decode cL_law 7 = .ok (.astore_n 1, 1) := by decide +kernel
theorem dL_law_8 : decode cL_law 8 = .ok (.bipush 9, 2) := by decide +kernel
theorem dL_law_10 : decode cL_law 10 = .ok (.newarray .int, 2) := by decide +kernel
theorem dL_law_12 : decode cL_law 12 = .ok (.astore_n 2, 1) := by decide +kernel
theorem dL_law_13 : decode cL_law 13 = .ok (.bipush 30, 2) := by decide +kernel
theorem dL_law_15 : decode cL_law 15 = .ok (.newarray .int, 2) := by decide +kernel
theorem dL_law_17 : decode cL_law 17 = .ok (.astore_n 3, 1) := by decide +kernel
theorem dL_law_18 : decode cL_law 18 = .ok (.bipush 15, 2) := by decide +kernel
theorem dL_law_20 : decode cL_law 20 = .ok (.newarray .int, 2) := by decide +kernel
theorem dL_law_22 : decode cL_law 22 = .ok (.astore 4, 2) := by decide +kernel
theorem dL_law_24 : decode cL_law 24 = .ok (.bipush 63, 2) := by decide +kernel
theorem dL_law_26 : decode cL_law 26 = .ok (.newarray .int, 2) := by decide +kernel
theorem dL_law_28 : decode cL_law 28 = .ok (.astore 5, 2) := by decide +kernel
theorem dL_law_30 : decode cL_law 30 = .ok (.aload_n 1, 1) := by decide +kernel
theorem dL_law_31 : decode cL_law 31 = .ok (.aload_n 2, 1) := by decide +kernel
theorem dL_law_32 : decode cL_law 32 = .ok (.aload_n 3, 1) := by decide +kernel
theorem dL_law_33 : decode cL_law 33 = .ok (.aload 4, 2) := by decide +kernel
theorem dL_law_35 : decode cL_law 35 = .ok (.aload 5, 2) := by decide +kernel
theorem dL_law_37 : decode cL_law 37 = .ok (.invokestatic 150, 3) := by decide +kernel
theorem dL_law_40 : decode cL_law 40 = .ok (.istore 6, 2) := by decide +kernel
theorem dL_law_42 : decode cL_law 42 = .ok (.iconst 0, 1) := by decide +kernel
theorem dL_law_43 : decode cL_law 43 = .ok (.istore 7, 2) := by decide +kernel
theorem dL_law_45 : decode cL_law 45 = .ok (.iload 7, 2) := by decide +kernel
theorem dL_law_47 : decode cL_law 47 = .ok (.bipush 7, 2) := by decide +kernel
theorem dL_law_49 : decode cL_law 49 = .ok (.if_icmp .ge 57, 3) := by decide +kernel
theorem dL_law_52 : decode cL_law 52 = .ok (.iload 6, 2) := by decide +kernel
theorem dL_law_54 : decode cL_law 54 = .ok (.ifCond .eq 52, 3) := by decide +kernel
theorem dL_law_57 : decode cL_law 57 = .ok (.aload_n 1, 1) := by decide +kernel
theorem dL_law_58 : decode cL_law 58 = .ok (.aload_n 2, 1) := by decide +kernel
theorem dL_law_59 : decode cL_law 59 = .ok (.aload_n 3, 1) := by decide +kernel
theorem dL_law_60 : decode cL_law 60 = .ok (.aload 4, 2) := by decide +kernel
theorem dL_law_62 : decode cL_law 62 = .ok (.aload 5, 2) := by decide +kernel
theorem dL_law_64 : decode cL_law 64 = .ok (.aload_n 0, 1) := by decide +kernel
theorem dL_law_65 : decode cL_law 65 = .ok (.iconst 1, 1) := by decide +kernel
theorem dL_law_66 : decode cL_law 66 = .ok (.iload 7, 2) := by decide +kernel
theorem dL_law_68 : decode cL_law 68 = .ok (.iadd, 1) := by decide +kernel
theorem dL_law_69 : decode cL_law 69 = .ok (.invokestatic 154, 3) := by decide +kernel
theorem dL_law_72 : decode cL_law 72 = .ok (.ldc 8, 2) := by decide +kernel
theorem dL_law_74 : decode cL_law 74 = .ok (.iand, 1) := by decide +kernel
theorem dL_law_75 : decode cL_law 75 = .ok (.sipush 576, 3) := by decide +kernel
theorem dL_law_78 : decode cL_law 78 = .ok (.idiv, 1) := by decide +kernel
theorem dL_law_79 : decode cL_law 79 = .ok (.sipush 576, 3) := by decide +kernel
theorem dL_law_82 : decode cL_law 82 = .ok (.imul, 1) := by decide +kernel
theorem dL_law_83 : decode cL_law 83 = .ok (.iload 7, 2) := by decide +kernel
theorem dL_law_85 : decode cL_law 85 = .ok (.iconst 4, 1) := by decide +kernel
theorem dL_law_86 : decode cL_law 86 = .ok (.if_icmp .ge 7, 3) := by decide +kernel
theorem dL_law_89 : decode cL_law 89 = .ok (.iconst 1, 1) := by decide +kernel
theorem dL_law_90 : decode cL_law 90 = .ok (.goto 4, 3) := by decide +kernel
theorem dL_law_93 : decode cL_law 93 = .ok (.iconst 3, 1) := by decide +kernel
theorem dL_law_94 : decode cL_law 94 = .ok (.iadd, 1) := by decide +kernel
theorem dL_law_95 : decode cL_law 95 = .ok (.invokestatic 158, 3) := by decide +kernel
theorem dL_law_98 : decode cL_law 98 = .ok (.istore 6, 2) := by decide +kernel
theorem dL_law_100 : decode cL_law 100 = .ok (.iinc 7 1, 3) := by decide +kernel
theorem dL_law_103 : decode cL_law 103 = .ok (.goto (-58), 3) := by decide +kernel
theorem dL_law_106 : decode cL_law 106 = .ok (.bipush 8, 2) := by decide +kernel
theorem dL_law_108 : decode cL_law 108 = .ok (.aload_n 0, 1) := by decide +kernel
theorem dL_law_109 : decode cL_law 109 = .ok (.iconst 0, 1) := by decide +kernel
theorem dL_law_110 : decode cL_law 110 = .ok (.invokestatic 154, 3) := by decide +kernel
theorem dL_law_113 : decode cL_law 113 = .ok (.bipush 50, 2) := by decide +kernel
theorem dL_law_115 : decode cL_law 115 = .ok (.invokestatic 47, 3) := by decide +kernel
theorem dL_law_118 : decode cL_law 118 = .ok (.iadd, 1) := by decide +kernel
theorem dL_law_119 : decode cL_law 119 = .ok (.istore 7, 2) := by decide +kernel
theorem dL_law_121 : decode cL_law 121 = .ok (.iconst 0, 1) := by decide +kernel
theorem dL_law_122 : decode cL_law 122 = .ok (.istore 8, 2) := by decide +kernel
theorem dL_law_124 : decode cL_law 124 = .ok (.iload 8, 2) := by decide +kernel
theorem dL_law_126 : decode cL_law 126 = .ok (.iload 7, 2) := by decide +kernel
theorem dL_law_128 : decode cL_law 128 = .ok (.if_icmp .ge 63, 3) := by decide +kernel
theorem dL_law_131 : decode cL_law 131 = .ok (.iload 6, 2) := by decide +kernel
theorem dL_law_133 : decode cL_law 133 = .ok (.ifCond .eq 58, 3) := by decide +kernel
theorem dL_law_136 : decode cL_law 136 = .ok (.aload_n 1, 1) := by decide +kernel
theorem dL_law_137 : decode cL_law 137 = .ok (.aload_n 2, 1) := by decide +kernel
theorem dL_law_138 : decode cL_law 138 = .ok (.aload_n 3, 1) := by decide +kernel
theorem dL_law_139 : decode cL_law 139 = .ok (.aload 4, 2) := by decide +kernel
theorem dL_law_141 : decode cL_law 141 = .ok (.aload 5, 2) := by decide +kernel
theorem dL_law_143 : decode cL_law 143 = .ok (.aload_n 0, 1) := by decide +kernel
theorem dL_law_144 : decode cL_law 144 = .ok (.bipush 8, 2) := by decide +kernel
theorem dL_law_146 : decode cL_law 146 = .ok (.iload 8, 2) := by decide +kernel
theorem dL_law_148 : decode cL_law 148 = .ok (.iadd, 1) := by decide +kernel
theorem dL_law_149 : decode cL_law 149 = .ok (.invokestatic 154, 3) := by decide +kernel
theorem dL_law_152 : decode cL_law 152 = .ok (.sipush 7919, 3) := by decide +kernel
theorem dL_law_155 : decode cL_law 155 = .ok (.iload 8, 2) := by decide +kernel
theorem dL_law_157 : decode cL_law 157 = .ok (.imul, 1) := by decide +kernel
theorem dL_law_158 : decode cL_law 158 = .ok (.ixor, 1) := by decide +kernel
theorem dL_law_159 : decode cL_law 159 = .ok (.invokestatic 158, 3) := by decide +kernel
theorem dL_law_162 : decode cL_law 162 = .ok (.ifCond .eq 20, 3) := by decide +kernel
theorem dL_law_165 : decode cL_law 165 = .ok (.aload_n 1, 1) := by decide +kernel
theorem dL_law_166 : decode cL_law 166 = .ok (.aload_n 2, 1) := by decide +kernel
theorem dL_law_167 : decode cL_law 167 = .ok (.aload_n 3, 1) := by decide +kernel
theorem dL_law_168 : decode cL_law 168 = .ok (.aload 4, 2) := by decide +kernel
theorem dL_law_170 : decode cL_law 170 = .ok (.aload 5, 2) := by decide +kernel
theorem dL_law_172 : decode cL_law 172 = .ok (.invokestatic 150, 3) := by decide +kernel
theorem dL_law_175 : decode cL_law 175 = .ok (.ifCond .eq 7, 3) := by decide +kernel
theorem dL_law_178 : decode cL_law 178 = .ok (.iconst 1, 1) := by decide +kernel
theorem dL_law_179 : decode cL_law 179 = .ok (.goto 4, 3) := by decide +kernel
theorem dL_law_182 : decode cL_law 182 = .ok (.iconst 0, 1) := by decide +kernel
theorem dL_law_183 : decode cL_law 183 = .ok (.istore 6, 2) := by decide +kernel
theorem dL_law_185 : decode cL_law 185 = .ok (.iinc 8 1, 3) := by decide +kernel
theorem dL_law_188 : decode cL_law 188 = .ok (.goto (-64), 3) := by decide +kernel
theorem dL_law_191 : decode cL_law 191 = .ok (.iload 6, 2) := by decide +kernel
theorem dL_law_193 : decode cL_law 193 = .ok (.ifCond .eq 18, 3) := by decide +kernel
theorem dL_law_196 : decode cL_law 196 = .ok (.aload_n 1, 1) := by decide +kernel
theorem dL_law_197 : decode cL_law 197 = .ok (.bipush 14, 2) := by decide +kernel
theorem dL_law_199 : decode cL_law 199 = .ok (.invokestatic 130, 3) := by decide +kernel
theorem dL_law_202 : decode cL_law 202 = .ok (.ldc 56, 2) := by decide +kernel
theorem dL_law_204 : decode cL_law 204 = .ok (.if_icmp .ne 7, 3) := by decide +kernel
theorem dL_law_207 : decode cL_law 207 = .ok (.iconst 1, 1) := by decide +kernel
theorem dL_law_208 : decode cL_law 208 = .ok (.goto 4, 3) := by decide +kernel
theorem dL_law_211 : decode cL_law 211 = .ok (.iconst 0, 1) := by decide +kernel
theorem dL_law_212 : decode cL_law 212 = .ok (.ireturn, 1) := by decide +kernel
