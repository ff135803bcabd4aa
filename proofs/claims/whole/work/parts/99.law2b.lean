abbrev b_W_law : ByteArray := code
def y_W_law : MethodName := ⟨"RegistryLogLaw", "law", "([I)Z"⟩
theorem d_W_law_0 : decode b_W_law 0 = .ok (.new 8, 3) := by decide +kernel
theorem d_W_law_3 : decode b_W_law 3 = .ok (.dup, 1) := by decide +kernel
theorem d_W_law_4 : decode b_W_law 4 = .ok (.invokespecial 28, 3) := by decide +kernel
theorem d_W_law_7 : decode b_W_law 7 = .ok (.astore_n 1, 1) := by decide +kernel
theorem d_W_law_8 : decode b_W_law 8 = .ok (.new 29, 3) := by decide +kernel
theorem d_W_law_11 : decode b_W_law 11 = .ok (.dup, 1) := by decide +kernel
theorem d_W_law_12 : decode b_W_law 12 = .ok (.invokespecial 31, 3) := by decide +kernel
theorem d_W_law_15 : decode b_W_law 15 = .ok (.astore_n 2, 1) := by decide +kernel
theorem d_W_law_16 : decode b_W_law 16 = .ok (.iconst 1, 1) := by decide +kernel
theorem d_W_law_17 : decode b_W_law 17 = .ok (.newarray .long, 2) := by decide +kernel
theorem d_W_law_19 : decode b_W_law 19 = .ok (.astore_n 3, 1) := by decide +kernel
theorem d_W_law_20 : decode b_W_law 20 = .ok (.iconst 0, 1) := by decide +kernel
theorem d_W_law_21 : decode b_W_law 21 = .ok (.istore 4, 2) := by decide +kernel
theorem d_W_law_23 : decode b_W_law 23 = .ok (.iload 4, 2) := by decide +kernel
theorem d_W_law_25 : decode b_W_law 25 = .ok (.aload_n 0, 1) := by decide +kernel
theorem d_W_law_26 : decode b_W_law 26 = .ok (.arraylength, 1) := by decide +kernel
theorem d_W_law_27 : decode b_W_law 27 = .ok (.bipush 7, 2) := by decide +kernel
theorem d_W_law_29 : decode b_W_law 29 = .ok (.isub, 1) := by decide +kernel
theorem d_W_law_30 : decode b_W_law 30 = .ok (.if_icmp .gt 1265, 3) := by decide +kernel
theorem d_W_law_33 : decode b_W_law 33 = .ok (.aload_n 0, 1) := by decide +kernel
theorem d_W_law_34 : decode b_W_law 34 = .ok (.iload 4, 2) := by decide +kernel
theorem d_W_law_36 : decode b_W_law 36 = .ok (.iaload, 1) := by decide +kernel
theorem d_W_law_37 : decode b_W_law 37 = .ok (.bipush 31, 2) := by decide +kernel
theorem d_W_law_39 : decode b_W_law 39 = .ok (.iand, 1) := by decide +kernel
theorem d_W_law_40 : decode b_W_law 40 = .ok (.tableswitch 1249 0 22 #[108, 135, 215, 311, 407, 463, 476, 513, 539, 565, 602, 639, 665, 722, 849, 976, 1013, 1062, 1088, 1113, 1138, 1175, 1212], 108) := by decide +kernel
theorem d_W_law_148 : decode b_W_law 148 = .ok (.aload_n 1, 1) := by decide +kernel
theorem d_W_law_149 : decode b_W_law 149 = .ok (.aload_n 0, 1) := by decide +kernel
theorem d_W_law_150 : decode b_W_law 150 = .ok (.iload 4, 2) := by decide +kernel
theorem d_W_law_152 : decode b_W_law 152 = .ok (.iconst 1, 1) := by decide +kernel
theorem d_W_law_153 : decode b_W_law 153 = .ok (.iadd, 1) := by decide +kernel
theorem d_W_law_154 : decode b_W_law 154 = .ok (.iaload, 1) := by decide +kernel
theorem d_W_law_155 : decode b_W_law 155 = .ok (.i2c, 1) := by decide +kernel
theorem d_W_law_156 : decode b_W_law 156 = .ok (.invokevirtual 32, 3) := by decide +kernel
theorem d_W_law_159 : decode b_W_law 159 = .ok (.aload_n 2, 1) := by decide +kernel
theorem d_W_law_160 : decode b_W_law 160 = .ok (.aload_n 0, 1) := by decide +kernel
theorem d_W_law_161 : decode b_W_law 161 = .ok (.iload 4, 2) := by decide +kernel
theorem d_W_law_163 : decode b_W_law 163 = .ok (.iconst 1, 1) := by decide +kernel
theorem d_W_law_164 : decode b_W_law 164 = .ok (.iadd, 1) := by decide +kernel
theorem d_W_law_165 : decode b_W_law 165 = .ok (.iaload, 1) := by decide +kernel
theorem d_W_law_166 : decode b_W_law 166 = .ok (.i2c, 1) := by decide +kernel
theorem d_W_law_167 : decode b_W_law 167 = .ok (.invokevirtual 36, 3) := by decide +kernel
theorem d_W_law_170 : decode b_W_law 170 = .ok (.if_icmp .eq 1119, 3) := by decide +kernel
theorem d_W_law_173 : decode b_W_law 173 = .ok (.iconst 0, 1) := by decide +kernel
theorem d_W_law_174 : decode b_W_law 174 = .ok (.ireturn, 1) := by decide +kernel
theorem d_W_law_175 : decode b_W_law 175 = .ok (.aload_n 1, 1) := by decide +kernel
theorem d_W_law_176 : decode b_W_law 176 = .ok (.aload_n 0, 1) := by decide +kernel
theorem d_W_law_177 : decode b_W_law 177 = .ok (.iload 4, 2) := by decide +kernel
theorem d_W_law_179 : decode b_W_law 179 = .ok (.iconst 1, 1) := by decide +kernel
theorem d_W_law_180 : decode b_W_law 180 = .ok (.iadd, 1) := by decide +kernel
theorem d_W_law_181 : decode b_W_law 181 = .ok (.iaload, 1) := by decide +kernel
theorem d_W_law_182 : decode b_W_law 182 = .ok (.aload_n 0, 1) := by decide +kernel
theorem d_W_law_183 : decode b_W_law 183 = .ok (.iload 4, 2) := by decide +kernel
theorem d_W_law_185 : decode b_W_law 185 = .ok (.iconst 2, 1) := by decide +kernel
theorem d_W_law_186 : decode b_W_law 186 = .ok (.iadd, 1) := by decide +kernel
theorem d_W_law_187 : decode b_W_law 187 = .ok (.iaload, 1) := by decide +kernel
theorem d_W_law_188 : decode b_W_law 188 = .ok (.aload_n 0, 1) := by decide +kernel
theorem d_W_law_189 : decode b_W_law 189 = .ok (.iload 4, 2) := by decide +kernel
theorem d_W_law_191 : decode b_W_law 191 = .ok (.iconst 3, 1) := by decide +kernel
theorem d_W_law_192 : decode b_W_law 192 = .ok (.iadd, 1) := by decide +kernel
theorem d_W_law_193 : decode b_W_law 193 = .ok (.iaload, 1) := by decide +kernel
theorem d_W_law_194 : decode b_W_law 194 = .ok (.aload_n 3, 1) := by decide +kernel
theorem d_W_law_195 : decode b_W_law 195 = .ok (.invokestatic 37, 3) := by decide +kernel
theorem d_W_law_198 : decode b_W_law 198 = .ok (.istore 5, 2) := by decide +kernel
theorem d_W_law_200 : decode b_W_law 200 = .ok (.aload_n 2, 1) := by decide +kernel
theorem d_W_law_201 : decode b_W_law 201 = .ok (.aload_n 0, 1) := by decide +kernel
theorem d_W_law_202 : decode b_W_law 202 = .ok (.iload 4, 2) := by decide +kernel
theorem d_W_law_204 : decode b_W_law 204 = .ok (.iconst 1, 1) := by decide +kernel
theorem d_W_law_205 : decode b_W_law 205 = .ok (.iadd, 1) := by decide +kernel
theorem d_W_law_206 : decode b_W_law 206 = .ok (.iaload, 1) := by decide +kernel
theorem d_W_law_207 : decode b_W_law 207 = .ok (.aload_n 0, 1) := by decide +kernel
theorem d_W_law_208 : decode b_W_law 208 = .ok (.iload 4, 2) := by decide +kernel
theorem d_W_law_210 : decode b_W_law 210 = .ok (.iconst 2, 1) := by decide +kernel
theorem d_W_law_211 : decode b_W_law 211 = .ok (.iadd, 1) := by decide +kernel
theorem d_W_law_212 : decode b_W_law 212 = .ok (.iaload, 1) := by decide +kernel
theorem d_W_law_213 : decode b_W_law 213 = .ok (.aload_n 0, 1) := by decide +kernel
theorem d_W_law_214 : decode b_W_law 214 = .ok (.iload 4, 2) := by decide +kernel
theorem d_W_law_216 : decode b_W_law 216 = .ok (.iconst 3, 1) := by decide +kernel
theorem d_W_law_217 : decode b_W_law 217 = .ok (.iadd, 1) := by decide +kernel
theorem d_W_law_218 : decode b_W_law 218 = .ok (.iaload, 1) := by decide +kernel
theorem d_W_law_219 : decode b_W_law 219 = .ok (.invokevirtual 42, 3) := by decide +kernel
theorem d_W_law_222 : decode b_W_law 222 = .ok (.istore 6, 2) := by decide +kernel
theorem d_W_law_224 : decode b_W_law 224 = .ok (.aload_n 2, 1) := by decide +kernel
theorem d_W_law_225 : decode b_W_law 225 = .ok (.invokevirtual 43, 3) := by decide +kernel
theorem d_W_law_228 : decode b_W_law 228 = .ok (.iload 5, 2) := by decide +kernel
theorem d_W_law_230 : decode b_W_law 230 = .ok (.if_icmp .eq 5, 3) := by decide +kernel
theorem d_W_law_233 : decode b_W_law 233 = .ok (.iconst 0, 1) := by decide +kernel
theorem d_W_law_234 : decode b_W_law 234 = .ok (.ireturn, 1) := by decide +kernel
theorem d_W_law_235 : decode b_W_law 235 = .ok (.iload 5, 2) := by decide +kernel
theorem d_W_law_237 : decode b_W_law 237 = .ok (.ifCond .ne 15, 3) := by decide +kernel
theorem d_W_law_240 : decode b_W_law 240 = .ok (.aload_n 3, 1) := by decide +kernel
theorem d_W_law_241 : decode b_W_law 241 = .ok (.iconst 0, 1) := by decide +kernel
theorem d_W_law_242 : decode b_W_law 242 = .ok (.laload, 1) := by decide +kernel
theorem d_W_law_243 : decode b_W_law 243 = .ok (.iload 6, 2) := by decide +kernel
theorem d_W_law_245 : decode b_W_law 245 = .ok (.i2l, 1) := by decide +kernel
theorem d_W_law_246 : decode b_W_law 246 = .ok (.lcmp, 1) := by decide +kernel
theorem d_W_law_247 : decode b_W_law 247 = .ok (.ifCond .eq 5, 3) := by decide +kernel
theorem d_W_law_250 : decode b_W_law 250 = .ok (.iconst 0, 1) := by decide +kernel
theorem d_W_law_251 : decode b_W_law 251 = .ok (.ireturn, 1) := by decide +kernel
theorem d_W_law_252 : decode b_W_law 252 = .ok (.goto 1037, 3) := by decide +kernel
theorem d_W_law_255 : decode b_W_law 255 = .ok (.aload_n 1, 1) := by decide +kernel
theorem d_W_law_256 : decode b_W_law 256 = .ok (.aload_n 0, 1) := by decide +kernel
theorem d_W_law_257 : decode b_W_law 257 = .ok (.iload 4, 2) := by decide +kernel
theorem d_W_law_259 : decode b_W_law 259 = .ok (.iconst 1, 1) := by decide +kernel
theorem d_W_law_260 : decode b_W_law 260 = .ok (.iadd, 1) := by decide +kernel
theorem d_W_law_261 : decode b_W_law 261 = .ok (.iaload, 1) := by decide +kernel
theorem d_W_law_262 : decode b_W_law 262 = .ok (.aload_n 0, 1) := by decide +kernel
theorem d_W_law_263 : decode b_W_law 263 = .ok (.iload 4, 2) := by decide +kernel
theorem d_W_law_265 : decode b_W_law 265 = .ok (.iconst 2, 1) := by decide +kernel
theorem d_W_law_266 : decode b_W_law 266 = .ok (.iadd, 1) := by decide +kernel
theorem d_W_law_267 : decode b_W_law 267 = .ok (.iaload, 1) := by decide +kernel
theorem d_W_law_268 : decode b_W_law 268 = .ok (.aload_n 0, 1) := by decide +kernel
theorem d_W_law_269 : decode b_W_law 269 = .ok (.iload 4, 2) := by decide +kernel
theorem d_W_law_271 : decode b_W_law 271 = .ok (.iconst 3, 1) := by decide +kernel
theorem d_W_law_272 : decode b_W_law 272 = .ok (.iadd, 1) := by decide +kernel
theorem d_W_law_273 : decode b_W_law 273 = .ok (.iaload, 1) := by decide +kernel
theorem d_W_law_274 : decode b_W_law 274 = .ok (.ifCond .eq 7, 3) := by decide +kernel
theorem d_W_law_277 : decode b_W_law 277 = .ok (.iconst 1, 1) := by decide +kernel
theorem d_W_law_278 : decode b_W_law 278 = .ok (.goto 4, 3) := by decide +kernel
theorem d_W_law_281 : decode b_W_law 281 = .ok (.iconst 0, 1) := by decide +kernel
theorem d_W_law_282 : decode b_W_law 282 = .ok (.aload_n 3, 1) := by decide +kernel
theorem d_W_law_283 : decode b_W_law 283 = .ok (.invokestatic 47, 3) := by decide +kernel
theorem d_W_law_286 : decode b_W_law 286 = .ok (.istore 5, 2) := by decide +kernel
theorem d_W_law_288 : decode b_W_law 288 = .ok (.aload_n 2, 1) := by decide +kernel
theorem d_W_law_289 : decode b_W_law 289 = .ok (.aload_n 0, 1) := by decide +kernel
theorem d_W_law_290 : decode b_W_law 290 = .ok (.iload 4, 2) := by decide +kernel
theorem d_W_law_292 : decode b_W_law 292 = .ok (.iconst 1, 1) := by decide +kernel
theorem d_W_law_293 : decode b_W_law 293 = .ok (.iadd, 1) := by decide +kernel
theorem d_W_law_294 : decode b_W_law 294 = .ok (.iaload, 1) := by decide +kernel
theorem d_W_law_295 : decode b_W_law 295 = .ok (.aload_n 0, 1) := by decide +kernel
theorem d_W_law_296 : decode b_W_law 296 = .ok (.iload 4, 2) := by decide +kernel
theorem d_W_law_298 : decode b_W_law 298 = .ok (.iconst 2, 1) := by decide +kernel
theorem d_W_law_299 : decode b_W_law 299 = .ok (.iadd, 1) := by decide +kernel
theorem d_W_law_300 : decode b_W_law 300 = .ok (.iaload, 1) := by decide +kernel
theorem d_W_law_301 : decode b_W_law 301 = .ok (.aload_n 0, 1) := by decide +kernel
theorem d_W_law_302 : decode b_W_law 302 = .ok (.iload 4, 2) := by decide +kernel
theorem d_W_law_304 : decode b_W_law 304 = .ok (.iconst 3, 1) := by decide +kernel
theorem d_W_law_305 : decode b_W_law 305 = .ok (.iadd, 1) := by decide +kernel
theorem d_W_law_306 : decode b_W_law 306 = .ok (.iaload, 1) := by decide +kernel
theorem d_W_law_307 : decode b_W_law 307 = .ok (.ifCond .eq 7, 3) := by decide +kernel
theorem d_W_law_310 : decode b_W_law 310 = .ok (.iconst 1, 1) := by decide +kernel
theorem d_W_law_311 : decode b_W_law 311 = .ok (.goto 4, 3) := by decide +kernel
theorem d_W_law_314 : decode b_W_law 314 = .ok (.iconst 0, 1) := by decide +kernel
theorem d_W_law_315 : decode b_W_law 315 = .ok (.invokevirtual 50, 3) := by decide +kernel
theorem d_W_law_318 : decode b_W_law 318 = .ok (.istore 6, 2) := by decide +kernel
theorem d_W_law_320 : decode b_W_law 320 = .ok (.aload_n 2, 1) := by decide +kernel
theorem d_W_law_321 : decode b_W_law 321 = .ok (.invokevirtual 43, 3) := by decide +kernel
theorem d_W_law_324 : decode b_W_law 324 = .ok (.iload 5, 2) := by decide +kernel
theorem d_W_law_326 : decode b_W_law 326 = .ok (.if_icmp .eq 5, 3) := by decide +kernel
theorem d_W_law_329 : decode b_W_law 329 = .ok (.iconst 0, 1) := by decide +kernel
theorem d_W_law_330 : decode b_W_law 330 = .ok (.ireturn, 1) := by decide +kernel
theorem d_W_law_331 : decode b_W_law 331 = .ok (.iload 5, 2) := by decide +kernel
theorem d_W_law_333 : decode b_W_law 333 = .ok (.ifCond .ne 15, 3) := by decide +kernel
theorem d_W_law_336 : decode b_W_law 336 = .ok (.aload_n 3, 1) := by decide +kernel
theorem d_W_law_337 : decode b_W_law 337 = .ok (.iconst 0, 1) := by decide +kernel
theorem d_W_law_338 : decode b_W_law 338 = .ok (.laload, 1) := by decide +kernel
theorem d_W_law_339 : decode b_W_law 339 = .ok (.iload 6, 2) := by decide +kernel
theorem d_W_law_341 : decode b_W_law 341 = .ok (.i2l, 1) := by decide +kernel
theorem d_W_law_342 : decode b_W_law 342 = .ok (.lcmp, 1) := by decide +kernel
theorem d_W_law_343 : decode b_W_law 343 = .ok (.ifCond .eq 5, 3) := by decide +kernel
theorem d_W_law_346 : decode b_W_law 346 = .ok (.iconst 0, 1) := by decide +kernel
theorem d_W_law_347 : decode b_W_law 347 = .ok (.ireturn, 1) := by decide +kernel
theorem d_W_law_348 : decode b_W_law 348 = .ok (.goto 941, 3) := by decide +kernel
theorem d_W_law_351 : decode b_W_law 351 = .ok (.aload_n 1, 1) := by decide +kernel
theorem d_W_law_352 : decode b_W_law 352 = .ok (.aload_n 0, 1) := by decide +kernel
theorem d_W_law_353 : decode b_W_law 353 = .ok (.iload 4, 2) := by decide +kernel
theorem d_W_law_355 : decode b_W_law 355 = .ok (.iconst 1, 1) := by decide +kernel
theorem d_W_law_356 : decode b_W_law 356 = .ok (.iadd, 1) := by decide +kernel
theorem d_W_law_357 : decode b_W_law 357 = .ok (.iaload, 1) := by decide +kernel
theorem d_W_law_358 : decode b_W_law 358 = .ok (.aload_n 0, 1) := by decide +kernel
theorem d_W_law_359 : decode b_W_law 359 = .ok (.iload 4, 2) := by decide +kernel
theorem d_W_law_361 : decode b_W_law 361 = .ok (.iconst 2, 1) := by decide +kernel
theorem d_W_law_362 : decode b_W_law 362 = .ok (.iadd, 1) := by decide +kernel
theorem d_W_law_363 : decode b_W_law 363 = .ok (.iaload, 1) := by decide +kernel
theorem d_W_law_364 : decode b_W_law 364 = .ok (.aload_n 0, 1) := by decide +kernel
theorem d_W_law_365 : decode b_W_law 365 = .ok (.iload 4, 2) := by decide +kernel
theorem d_W_law_367 : decode b_W_law 367 = .ok (.iconst 3, 1) := by decide +kernel
theorem d_W_law_368 : decode b_W_law 368 = .ok (.iadd, 1) := by decide +kernel
theorem d_W_law_369 : decode b_W_law 369 = .ok (.iaload, 1) := by decide +kernel
theorem d_W_law_370 : decode b_W_law 370 = .ok (.ifCond .eq 7, 3) := by decide +kernel
theorem d_W_law_373 : decode b_W_law 373 = .ok (.iconst 1, 1) := by decide +kernel
theorem d_W_law_374 : decode b_W_law 374 = .ok (.goto 4, 3) := by decide +kernel
theorem d_W_law_377 : decode b_W_law 377 = .ok (.iconst 0, 1) := by decide +kernel
theorem d_W_law_378 : decode b_W_law 378 = .ok (.aload_n 3, 1) := by decide +kernel
theorem d_W_law_379 : decode b_W_law 379 = .ok (.invokestatic 51, 3) := by decide +kernel
theorem d_W_law_382 : decode b_W_law 382 = .ok (.istore 5, 2) := by decide +kernel
theorem d_W_law_384 : decode b_W_law 384 = .ok (.aload_n 2, 1) := by decide +kernel
theorem d_W_law_385 : decode b_W_law 385 = .ok (.aload_n 0, 1) := by decide +kernel
theorem d_W_law_386 : decode b_W_law 386 = .ok (.iload 4, 2) := by decide +kernel
theorem d_W_law_388 : decode b_W_law 388 = .ok (.iconst 1, 1) := by decide +kernel
theorem d_W_law_389 : decode b_W_law 389 = .ok (.iadd, 1) := by decide +kernel
theorem d_W_law_390 : decode b_W_law 390 = .ok (.iaload, 1) := by decide +kernel
theorem d_W_law_391 : decode b_W_law 391 = .ok (.aload_n 0, 1) := by decide +kernel
theorem d_W_law_392 : decode b_W_law 392 = .ok (.iload 4, 2) := by decide +kernel
theorem d_W_law_394 : decode b_W_law 394 = .ok (.iconst 2, 1) := by decide +kernel
theorem d_W_law_395 : decode b_W_law 395 = .ok (.iadd, 1) := by decide +kernel
theorem d_W_law_396 : decode b_W_law 396 = .ok (.iaload, 1) := by decide +kernel
theorem d_W_law_397 : decode b_W_law 397 = .ok (.aload_n 0, 1) := by decide +kernel
theorem d_W_law_398 : decode b_W_law 398 = .ok (.iload 4, 2) := by decide +kernel
theorem d_W_law_400 : decode b_W_law 400 = .ok (.iconst 3, 1) := by decide +kernel
theorem d_W_law_401 : decode b_W_law 401 = .ok (.iadd, 1) := by decide +kernel
theorem d_W_law_402 : decode b_W_law 402 = .ok (.iaload, 1) := by decide +kernel
theorem d_W_law_403 : decode b_W_law 403 = .ok (.ifCond .eq 7, 3) := by decide +kernel
theorem d_W_law_406 : decode b_W_law 406 = .ok (.iconst 1, 1) := by decide +kernel
theorem d_W_law_407 : decode b_W_law 407 = .ok (.goto 4, 3) := by decide +kernel
theorem d_W_law_410 : decode b_W_law 410 = .ok (.iconst 0, 1) := by decide +kernel
theorem d_W_law_411 : decode b_W_law 411 = .ok (.invokevirtual 53, 3) := by decide +kernel
theorem d_W_law_414 : decode b_W_law 414 = .ok (.istore 6, 2) := by decide +kernel
theorem d_W_law_416 : decode b_W_law 416 = .ok (.aload_n 2, 1) := by decide +kernel
theorem d_W_law_417 : decode b_W_law 417 = .ok (.invokevirtual 43, 3) := by decide +kernel
theorem d_W_law_420 : decode b_W_law 420 = .ok (.iload 5, 2) := by decide +kernel
theorem d_W_law_422 : decode b_W_law 422 = .ok (.if_icmp .eq 5, 3) := by decide +kernel
theorem d_W_law_425 : decode b_W_law 425 = .ok (.iconst 0, 1) := by decide +kernel
theorem d_W_law_426 : decode b_W_law 426 = .ok (.ireturn, 1) := by decide +kernel
theorem d_W_law_427 : decode b_W_law 427 = .ok (.iload 5, 2) := by decide +kernel
theorem d_W_law_429 : decode b_W_law 429 = .ok (.ifCond .ne 15, 3) := by decide +kernel
theorem d_W_law_432 : decode b_W_law 432 = .ok (.aload_n 3, 1) := by decide +kernel
theorem d_W_law_433 : decode b_W_law 433 = .ok (.iconst 0, 1) := by decide +kernel
theorem d_W_law_434 : decode b_W_law 434 = .ok (.laload, 1) := by decide +kernel
theorem d_W_law_435 : decode b_W_law 435 = .ok (.iload 6, 2) := by decide +kernel
theorem d_W_law_437 : decode b_W_law 437 = .ok (.i2l, 1) := by decide +kernel
theorem d_W_law_438 : decode b_W_law 438 = .ok (.lcmp, 1) := by decide +kernel
theorem d_W_law_439 : decode b_W_law 439 = .ok (.ifCond .eq 5, 3) := by decide +kernel
theorem d_W_law_442 : decode b_W_law 442 = .ok (.iconst 0, 1) := by decide +kernel
theorem d_W_law_443 : decode b_W_law 443 = .ok (.ireturn, 1) := by decide +kernel
theorem d_W_law_444 : decode b_W_law 444 = .ok (.goto 845, 3) := by decide +kernel
theorem d_W_law_447 : decode b_W_law 447 = .ok (.aload_n 1, 1) := by decide +kernel
theorem d_W_law_448 : decode b_W_law 448 = .ok (.aload_n 0, 1) := by decide +kernel
theorem d_W_law_449 : decode b_W_law 449 = .ok (.iload 4, 2) := by decide +kernel
theorem d_W_law_451 : decode b_W_law 451 = .ok (.iconst 1, 1) := by decide +kernel
theorem d_W_law_452 : decode b_W_law 452 = .ok (.iadd, 1) := by decide +kernel
theorem d_W_law_453 : decode b_W_law 453 = .ok (.iaload, 1) := by decide +kernel
theorem d_W_law_454 : decode b_W_law 454 = .ok (.aload_n 3, 1) := by decide +kernel
theorem d_W_law_455 : decode b_W_law 455 = .ok (.invokestatic 54, 3) := by decide +kernel
theorem d_W_law_458 : decode b_W_law 458 = .ok (.istore 5, 2) := by decide +kernel
theorem d_W_law_460 : decode b_W_law 460 = .ok (.aload_n 2, 1) := by decide +kernel
theorem d_W_law_461 : decode b_W_law 461 = .ok (.aload_n 0, 1) := by decide +kernel
theorem d_W_law_462 : decode b_W_law 462 = .ok (.iload 4, 2) := by decide +kernel
theorem d_W_law_464 : decode b_W_law 464 = .ok (.iconst 1, 1) := by decide +kernel
theorem d_W_law_465 : decode b_W_law 465 = .ok (.iadd, 1) := by decide +kernel
theorem d_W_law_466 : decode b_W_law 466 = .ok (.iaload, 1) := by decide +kernel
theorem d_W_law_467 : decode b_W_law 467 = .ok (.invokevirtual 57, 3) := by decide +kernel
theorem d_W_law_470 : decode b_W_law 470 = .ok (.istore 6, 2) := by decide +kernel
theorem d_W_law_472 : decode b_W_law 472 = .ok (.aload_n 2, 1) := by decide +kernel
theorem d_W_law_473 : decode b_W_law 473 = .ok (.invokevirtual 43, 3) := by decide +kernel
theorem d_W_law_476 : decode b_W_law 476 = .ok (.iload 5, 2) := by decide +kernel
theorem d_W_law_478 : decode b_W_law 478 = .ok (.if_icmp .eq 5, 3) := by decide +kernel
theorem d_W_law_481 : decode b_W_law 481 = .ok (.iconst 0, 1) := by decide +kernel
theorem d_W_law_482 : decode b_W_law 482 = .ok (.ireturn, 1) := by decide +kernel
theorem d_W_law_483 : decode b_W_law 483 = .ok (.iload 5, 2) := by decide +kernel
theorem d_W_law_485 : decode b_W_law 485 = .ok (.ifCond .ne 15, 3) := by decide +kernel
theorem d_W_law_488 : decode b_W_law 488 = .ok (.aload_n 3, 1) := by decide +kernel
theorem d_W_law_489 : decode b_W_law 489 = .ok (.iconst 0, 1) := by decide +kernel
theorem d_W_law_490 : decode b_W_law 490 = .ok (.laload, 1) := by decide +kernel
theorem d_W_law_491 : decode b_W_law 491 = .ok (.iload 6, 2) := by decide +kernel
theorem d_W_law_493 : decode b_W_law 493 = .ok (.i2l, 1) := by decide +kernel
theorem d_W_law_494 : decode b_W_law 494 = .ok (.lcmp, 1) := by decide +kernel
theorem d_W_law_495 : decode b_W_law 495 = .ok (.ifCond .eq 5, 3) := by decide +kernel
theorem d_W_law_498 : decode b_W_law 498 = .ok (.iconst 0, 1) := by decide +kernel
theorem d_W_law_499 : decode b_W_law 499 = .ok (.ireturn, 1) := by decide +kernel
theorem d_W_law_500 : decode b_W_law 500 = .ok (.goto 789, 3) := by decide +kernel
theorem d_W_law_503 : decode b_W_law 503 = .ok (.aload_n 1, 1) := by decide +kernel
theorem d_W_law_504 : decode b_W_law 504 = .ok (.invokevirtual 58, 3) := by decide +kernel
theorem d_W_law_507 : decode b_W_law 507 = .ok (.aload_n 2, 1) := by decide +kernel
theorem d_W_law_508 : decode b_W_law 508 = .ok (.invokevirtual 61, 3) := by decide +kernel
theorem d_W_law_511 : decode b_W_law 511 = .ok (.if_icmp .eq 778, 3) := by decide +kernel
theorem d_W_law_514 : decode b_W_law 514 = .ok (.iconst 0, 1) := by decide +kernel
theorem d_W_law_515 : decode b_W_law 515 = .ok (.ireturn, 1) := by decide +kernel
theorem d_W_law_516 : decode b_W_law 516 = .ok (.aload_n 1, 1) := by decide +kernel
theorem d_W_law_517 : decode b_W_law 517 = .ok (.aload_n 0, 1) := by decide +kernel
theorem d_W_law_518 : decode b_W_law 518 = .ok (.iload 4, 2) := by decide +kernel
theorem d_W_law_520 : decode b_W_law 520 = .ok (.iconst 1, 1) := by decide +kernel
theorem d_W_law_521 : decode b_W_law 521 = .ok (.iadd, 1) := by decide +kernel
theorem d_W_law_522 : decode b_W_law 522 = .ok (.iaload, 1) := by decide +kernel
theorem d_W_law_523 : decode b_W_law 523 = .ok (.aload_n 0, 1) := by decide +kernel
theorem d_W_law_524 : decode b_W_law 524 = .ok (.iload 4, 2) := by decide +kernel
theorem d_W_law_526 : decode b_W_law 526 = .ok (.iconst 2, 1) := by decide +kernel
theorem d_W_law_527 : decode b_W_law 527 = .ok (.iadd, 1) := by decide +kernel
theorem d_W_law_528 : decode b_W_law 528 = .ok (.iaload, 1) := by decide +kernel
theorem d_W_law_529 : decode b_W_law 529 = .ok (.invokevirtual 62, 3) := by decide +kernel
theorem d_W_law_532 : decode b_W_law 532 = .ok (.aload_n 2, 1) := by decide +kernel
theorem d_W_law_533 : decode b_W_law 533 = .ok (.aload_n 0, 1) := by decide +kernel
theorem d_W_law_534 : decode b_W_law 534 = .ok (.iload 4, 2) := by decide +kernel
theorem d_W_law_536 : decode b_W_law 536 = .ok (.iconst 1, 1) := by decide +kernel
theorem d_W_law_537 : decode b_W_law 537 = .ok (.iadd, 1) := by decide +kernel
theorem d_W_law_538 : decode b_W_law 538 = .ok (.iaload, 1) := by decide +kernel
theorem d_W_law_539 : decode b_W_law 539 = .ok (.aload_n 0, 1) := by decide +kernel
theorem d_W_law_540 : decode b_W_law 540 = .ok (.iload 4, 2) := by decide +kernel
theorem d_W_law_542 : decode b_W_law 542 = .ok (.iconst 2, 1) := by decide +kernel
theorem d_W_law_543 : decode b_W_law 543 = .ok (.iadd, 1) := by decide +kernel
theorem d_W_law_544 : decode b_W_law 544 = .ok (.iaload, 1) := by decide +kernel
theorem d_W_law_545 : decode b_W_law 545 = .ok (.invokevirtual 66, 3) := by decide +kernel
theorem d_W_law_548 : decode b_W_law 548 = .ok (.if_icmp .eq 741, 3) := by decide +kernel
theorem d_W_law_551 : decode b_W_law 551 = .ok (.iconst 0, 1) := by decide +kernel
theorem d_W_law_552 : decode b_W_law 552 = .ok (.ireturn, 1) := by decide +kernel
theorem d_W_law_553 : decode b_W_law 553 = .ok (.aload_n 1, 1) := by decide +kernel
theorem d_W_law_554 : decode b_W_law 554 = .ok (.aload_n 0, 1) := by decide +kernel
theorem d_W_law_555 : decode b_W_law 555 = .ok (.iload 4, 2) := by decide +kernel
theorem d_W_law_557 : decode b_W_law 557 = .ok (.iconst 1, 1) := by decide +kernel
theorem d_W_law_558 : decode b_W_law 558 = .ok (.iadd, 1) := by decide +kernel
theorem d_W_law_559 : decode b_W_law 559 = .ok (.iaload, 1) := by decide +kernel
theorem d_W_law_560 : decode b_W_law 560 = .ok (.invokevirtual 67, 3) := by decide +kernel
theorem d_W_law_563 : decode b_W_law 563 = .ok (.aload_n 2, 1) := by decide +kernel
theorem d_W_law_564 : decode b_W_law 564 = .ok (.aload_n 0, 1) := by decide +kernel
theorem d_W_law_565 : decode b_W_law 565 = .ok (.iload 4, 2) := by decide +kernel
theorem d_W_law_567 : decode b_W_law 567 = .ok (.iconst 1, 1) := by decide +kernel
theorem d_W_law_568 : decode b_W_law 568 = .ok (.iadd, 1) := by decide +kernel
theorem d_W_law_569 : decode b_W_law 569 = .ok (.iaload, 1) := by decide +kernel
theorem d_W_law_570 : decode b_W_law 570 = .ok (.invokevirtual 71, 3) := by decide +kernel
theorem d_W_law_573 : decode b_W_law 573 = .ok (.lcmp, 1) := by decide +kernel
theorem d_W_law_574 : decode b_W_law 574 = .ok (.ifCond .eq 715, 3) := by decide +kernel
theorem d_W_law_577 : decode b_W_law 577 = .ok (.iconst 0, 1) := by decide +kernel
theorem d_W_law_578 : decode b_W_law 578 = .ok (.ireturn, 1) := by decide +kernel
theorem d_W_law_579 : decode b_W_law 579 = .ok (.aload_n 1, 1) := by decide +kernel
theorem d_W_law_580 : decode b_W_law 580 = .ok (.aload_n 0, 1) := by decide +kernel
theorem d_W_law_581 : decode b_W_law 581 = .ok (.iload 4, 2) := by decide +kernel
theorem d_W_law_583 : decode b_W_law 583 = .ok (.iconst 1, 1) := by decide +kernel
theorem d_W_law_584 : decode b_W_law 584 = .ok (.iadd, 1) := by decide +kernel
theorem d_W_law_585 : decode b_W_law 585 = .ok (.iaload, 1) := by decide +kernel
theorem d_W_law_586 : decode b_W_law 586 = .ok (.invokevirtual 72, 3) := by decide +kernel
theorem d_W_law_589 : decode b_W_law 589 = .ok (.aload_n 2, 1) := by decide +kernel
theorem d_W_law_590 : decode b_W_law 590 = .ok (.aload_n 0, 1) := by decide +kernel
theorem d_W_law_591 : decode b_W_law 591 = .ok (.iload 4, 2) := by decide +kernel
theorem d_W_law_593 : decode b_W_law 593 = .ok (.iconst 1, 1) := by decide +kernel
theorem d_W_law_594 : decode b_W_law 594 = .ok (.iadd, 1) := by decide +kernel
theorem d_W_law_595 : decode b_W_law 595 = .ok (.iaload, 1) := by decide +kernel
theorem d_W_law_596 : decode b_W_law 596 = .ok (.invokevirtual 75, 3) := by decide +kernel
theorem d_W_law_599 : decode b_W_law 599 = .ok (.lcmp, 1) := by decide +kernel
theorem d_W_law_600 : decode b_W_law 600 = .ok (.ifCond .eq 689, 3) := by decide +kernel
theorem d_W_law_603 : decode b_W_law 603 = .ok (.iconst 0, 1) := by decide +kernel
theorem d_W_law_604 : decode b_W_law 604 = .ok (.ireturn, 1) := by decide +kernel
theorem d_W_law_605 : decode b_W_law 605 = .ok (.aload_n 1, 1) := by decide +kernel
theorem d_W_law_606 : decode b_W_law 606 = .ok (.aload_n 0, 1) := by decide +kernel
theorem d_W_law_607 : decode b_W_law 607 = .ok (.iload 4, 2) := by decide +kernel
theorem d_W_law_609 : decode b_W_law 609 = .ok (.iconst 1, 1) := by decide +kernel
theorem d_W_law_610 : decode b_W_law 610 = .ok (.iadd, 1) := by decide +kernel
theorem d_W_law_611 : decode b_W_law 611 = .ok (.iaload, 1) := by decide +kernel
theorem d_W_law_612 : decode b_W_law 612 = .ok (.aload_n 0, 1) := by decide +kernel
theorem d_W_law_613 : decode b_W_law 613 = .ok (.iload 4, 2) := by decide +kernel
theorem d_W_law_615 : decode b_W_law 615 = .ok (.iconst 2, 1) := by decide +kernel
theorem d_W_law_616 : decode b_W_law 616 = .ok (.iadd, 1) := by decide +kernel
theorem d_W_law_617 : decode b_W_law 617 = .ok (.iaload, 1) := by decide +kernel
theorem d_W_law_618 : decode b_W_law 618 = .ok (.invokevirtual 76, 3) := by decide +kernel
theorem d_W_law_621 : decode b_W_law 621 = .ok (.aload_n 2, 1) := by decide +kernel
theorem d_W_law_622 : decode b_W_law 622 = .ok (.aload_n 0, 1) := by decide +kernel
theorem d_W_law_623 : decode b_W_law 623 = .ok (.iload 4, 2) := by decide +kernel
theorem d_W_law_625 : decode b_W_law 625 = .ok (.iconst 1, 1) := by decide +kernel
theorem d_W_law_626 : decode b_W_law 626 = .ok (.iadd, 1) := by decide +kernel
theorem d_W_law_627 : decode b_W_law 627 = .ok (.iaload, 1) := by decide +kernel
theorem d_W_law_628 : decode b_W_law 628 = .ok (.aload_n 0, 1) := by decide +kernel
theorem d_W_law_629 : decode b_W_law 629 = .ok (.iload 4, 2) := by decide +kernel
theorem d_W_law_631 : decode b_W_law 631 = .ok (.iconst 2, 1) := by decide +kernel
theorem d_W_law_632 : decode b_W_law 632 = .ok (.iadd, 1) := by decide +kernel
theorem d_W_law_633 : decode b_W_law 633 = .ok (.iaload, 1) := by decide +kernel
theorem d_W_law_634 : decode b_W_law 634 = .ok (.invokevirtual 79, 3) := by decide +kernel
theorem d_W_law_637 : decode b_W_law 637 = .ok (.if_icmp .eq 652, 3) := by decide +kernel
theorem d_W_law_640 : decode b_W_law 640 = .ok (.iconst 0, 1) := by decide +kernel
theorem d_W_law_641 : decode b_W_law 641 = .ok (.ireturn, 1) := by decide +kernel
theorem d_W_law_642 : decode b_W_law 642 = .ok (.aload_n 1, 1) := by decide +kernel
theorem d_W_law_643 : decode b_W_law 643 = .ok (.aload_n 0, 1) := by decide +kernel
theorem d_W_law_644 : decode b_W_law 644 = .ok (.iload 4, 2) := by decide +kernel
theorem d_W_law_646 : decode b_W_law 646 = .ok (.iconst 1, 1) := by decide +kernel
theorem d_W_law_647 : decode b_W_law 647 = .ok (.iadd, 1) := by decide +kernel
theorem d_W_law_648 : decode b_W_law 648 = .ok (.iaload, 1) := by decide +kernel
theorem d_W_law_649 : decode b_W_law 649 = .ok (.aload_n 0, 1) := by decide +kernel
theorem d_W_law_650 : decode b_W_law 650 = .ok (.iload 4, 2) := by decide +kernel
theorem d_W_law_652 : decode b_W_law 652 = .ok (.iconst 2, 1) := by decide +kernel
theorem d_W_law_653 : decode b_W_law 653 = .ok (.iadd, 1) := by decide +kernel
theorem d_W_law_654 : decode b_W_law 654 = .ok (.iaload, 1) := by decide +kernel
theorem d_W_law_655 : decode b_W_law 655 = .ok (.invokevirtual 80, 3) := by decide +kernel
theorem d_W_law_658 : decode b_W_law 658 = .ok (.aload_n 2, 1) := by decide +kernel
theorem d_W_law_659 : decode b_W_law 659 = .ok (.aload_n 0, 1) := by decide +kernel
theorem d_W_law_660 : decode b_W_law 660 = .ok (.iload 4, 2) := by decide +kernel
theorem d_W_law_662 : decode b_W_law 662 = .ok (.iconst 1, 1) := by decide +kernel
theorem d_W_law_663 : decode b_W_law 663 = .ok (.iadd, 1) := by decide +kernel
theorem d_W_law_664 : decode b_W_law 664 = .ok (.iaload, 1) := by decide +kernel
theorem d_W_law_665 : decode b_W_law 665 = .ok (.aload_n 0, 1) := by decide +kernel
theorem d_W_law_666 : decode b_W_law 666 = .ok (.iload 4, 2) := by decide +kernel
theorem d_W_law_668 : decode b_W_law 668 = .ok (.iconst 2, 1) := by decide +kernel
theorem d_W_law_669 : decode b_W_law 669 = .ok (.iadd, 1) := by decide +kernel
theorem d_W_law_670 : decode b_W_law 670 = .ok (.iaload, 1) := by decide +kernel
theorem d_W_law_671 : decode b_W_law 671 = .ok (.invokevirtual 83, 3) := by decide +kernel
theorem d_W_law_674 : decode b_W_law 674 = .ok (.if_icmp .eq 615, 3) := by decide +kernel
theorem d_W_law_677 : decode b_W_law 677 = .ok (.iconst 0, 1) := by decide +kernel
theorem d_W_law_678 : decode b_W_law 678 = .ok (.ireturn, 1) := by decide +kernel
theorem d_W_law_679 : decode b_W_law 679 = .ok (.aload_n 1, 1) := by decide +kernel
theorem d_W_law_680 : decode b_W_law 680 = .ok (.aload_n 0, 1) := by decide +kernel
theorem d_W_law_681 : decode b_W_law 681 = .ok (.iload 4, 2) := by decide +kernel
theorem d_W_law_683 : decode b_W_law 683 = .ok (.iconst 1, 1) := by decide +kernel
theorem d_W_law_684 : decode b_W_law 684 = .ok (.iadd, 1) := by decide +kernel
theorem d_W_law_685 : decode b_W_law 685 = .ok (.iaload, 1) := by decide +kernel
theorem d_W_law_686 : decode b_W_law 686 = .ok (.invokevirtual 84, 3) := by decide +kernel
theorem d_W_law_689 : decode b_W_law 689 = .ok (.aload_n 2, 1) := by decide +kernel
theorem d_W_law_690 : decode b_W_law 690 = .ok (.aload_n 0, 1) := by decide +kernel
theorem d_W_law_691 : decode b_W_law 691 = .ok (.iload 4, 2) := by decide +kernel
theorem d_W_law_693 : decode b_W_law 693 = .ok (.iconst 1, 1) := by decide +kernel
theorem d_W_law_694 : decode b_W_law 694 = .ok (.iadd, 1) := by decide +kernel
theorem d_W_law_695 : decode b_W_law 695 = .ok (.iaload, 1) := by decide +kernel
theorem d_W_law_696 : decode b_W_law 696 = .ok (.invokevirtual 87, 3) := by decide +kernel
theorem d_W_law_699 : decode b_W_law 699 = .ok (.lcmp, 1) := by decide +kernel
theorem d_W_law_700 : decode b_W_law 700 = .ok (.ifCond .eq 589, 3) := by decide +kernel
theorem d_W_law_703 : decode b_W_law 703 = .ok (.iconst 0, 1) := by decide +kernel
theorem d_W_law_704 : decode b_W_law 704 = .ok (.ireturn, 1) := by decide +kernel
theorem d_W_law_705 : decode b_W_law 705 = .ok (.aload_n 1, 1) := by decide +kernel
theorem d_W_law_706 : decode b_W_law 706 = .ok (.aload_n 0, 1) := by decide +kernel
theorem d_W_law_707 : decode b_W_law 707 = .ok (.iload 4, 2) := by decide +kernel
theorem d_W_law_709 : decode b_W_law 709 = .ok (.iconst 1, 1) := by decide +kernel
theorem d_W_law_710 : decode b_W_law 710 = .ok (.iadd, 1) := by decide +kernel
theorem d_W_law_711 : decode b_W_law 711 = .ok (.iaload, 1) := by decide +kernel
theorem d_W_law_712 : decode b_W_law 712 = .ok (.i2l, 1) := by decide +kernel
theorem d_W_law_713 : decode b_W_law 713 = .ok (.bipush 32, 2) := by decide +kernel
theorem d_W_law_715 : decode b_W_law 715 = .ok (.lshl, 1) := by decide +kernel
theorem d_W_law_716 : decode b_W_law 716 = .ok (.aload_n 0, 1) := by decide +kernel
theorem d_W_law_717 : decode b_W_law 717 = .ok (.iload 4, 2) := by decide +kernel
theorem d_W_law_719 : decode b_W_law 719 = .ok (.iconst 2, 1) := by decide +kernel
theorem d_W_law_720 : decode b_W_law 720 = .ok (.iadd, 1) := by decide +kernel
theorem d_W_law_721 : decode b_W_law 721 = .ok (.iaload, 1) := by decide +kernel
theorem d_W_law_722 : decode b_W_law 722 = .ok (.i2l, 1) := by decide +kernel
theorem d_W_law_723 : decode b_W_law 723 = .ok (.ldc2_w 88, 3) := by decide +kernel
theorem d_W_law_726 : decode b_W_law 726 = .ok (.land, 1) := by decide +kernel
theorem d_W_law_727 : decode b_W_law 727 = .ok (.lor, 1) := by decide +kernel
theorem d_W_law_728 : decode b_W_law 728 = .ok (.invokevirtual 90, 3) := by decide +kernel
theorem d_W_law_731 : decode b_W_law 731 = .ok (.aload_n 2, 1) := by decide +kernel
theorem d_W_law_732 : decode b_W_law 732 = .ok (.aload_n 0, 1) := by decide +kernel
theorem d_W_law_733 : decode b_W_law 733 = .ok (.iload 4, 2) := by decide +kernel
theorem d_W_law_735 : decode b_W_law 735 = .ok (.iconst 1, 1) := by decide +kernel
theorem d_W_law_736 : decode b_W_law 736 = .ok (.iadd, 1) := by decide +kernel
theorem d_W_law_737 : decode b_W_law 737 = .ok (.iaload, 1) := by decide +kernel
theorem d_W_law_738 : decode b_W_law 738 = .ok (.i2l, 1) := by decide +kernel
theorem d_W_law_739 : decode b_W_law 739 = .ok (.bipush 32, 2) := by decide +kernel
theorem d_W_law_741 : decode b_W_law 741 = .ok (.lshl, 1) := by decide +kernel
theorem d_W_law_742 : decode b_W_law 742 = .ok (.aload_n 0, 1) := by decide +kernel
theorem d_W_law_743 : decode b_W_law 743 = .ok (.iload 4, 2) := by decide +kernel
theorem d_W_law_745 : decode b_W_law 745 = .ok (.iconst 2, 1) := by decide +kernel
theorem d_W_law_746 : decode b_W_law 746 = .ok (.iadd, 1) := by decide +kernel
theorem d_W_law_747 : decode b_W_law 747 = .ok (.iaload, 1) := by decide +kernel
theorem d_W_law_748 : decode b_W_law 748 = .ok (.i2l, 1) := by decide +kernel
theorem d_W_law_749 : decode b_W_law 749 = .ok (.ldc2_w 88, 3) := by decide +kernel
theorem d_W_law_752 : decode b_W_law 752 = .ok (.land, 1) := by decide +kernel
theorem d_W_law_753 : decode b_W_law 753 = .ok (.lor, 1) := by decide +kernel
theorem d_W_law_754 : decode b_W_law 754 = .ok (.invokevirtual 94, 3) := by decide +kernel
theorem d_W_law_757 : decode b_W_law 757 = .ok (.if_icmp .eq 532, 3) := by decide +kernel
theorem d_W_law_760 : decode b_W_law 760 = .ok (.iconst 0, 1) := by decide +kernel
theorem d_W_law_761 : decode b_W_law 761 = .ok (.ireturn, 1) := by decide +kernel
theorem d_W_law_762 : decode b_W_law 762 = .ok (.aload_n 1, 1) := by decide +kernel
theorem d_W_law_763 : decode b_W_law 763 = .ok (.aload_n 0, 1) := by decide +kernel
theorem d_W_law_764 : decode b_W_law 764 = .ok (.iload 4, 2) := by decide +kernel
theorem d_W_law_766 : decode b_W_law 766 = .ok (.iconst 1, 1) := by decide +kernel
theorem d_W_law_767 : decode b_W_law 767 = .ok (.iadd, 1) := by decide +kernel
theorem d_W_law_768 : decode b_W_law 768 = .ok (.iaload, 1) := by decide +kernel
theorem d_W_law_769 : decode b_W_law 769 = .ok (.aload_n 0, 1) := by decide +kernel
theorem d_W_law_770 : decode b_W_law 770 = .ok (.iload 4, 2) := by decide +kernel
theorem d_W_law_772 : decode b_W_law 772 = .ok (.iconst 2, 1) := by decide +kernel
theorem d_W_law_773 : decode b_W_law 773 = .ok (.iadd, 1) := by decide +kernel
theorem d_W_law_774 : decode b_W_law 774 = .ok (.iaload, 1) := by decide +kernel
theorem d_W_law_775 : decode b_W_law 775 = .ok (.aload_n 0, 1) := by decide +kernel
theorem d_W_law_776 : decode b_W_law 776 = .ok (.iload 4, 2) := by decide +kernel
theorem d_W_law_778 : decode b_W_law 778 = .ok (.iconst 3, 1) := by decide +kernel
theorem d_W_law_779 : decode b_W_law 779 = .ok (.iadd, 1) := by decide +kernel
theorem d_W_law_780 : decode b_W_law 780 = .ok (.iaload, 1) := by decide +kernel
theorem d_W_law_781 : decode b_W_law 781 = .ok (.i2l, 1) := by decide +kernel
theorem d_W_law_782 : decode b_W_law 782 = .ok (.bipush 32, 2) := by decide +kernel
theorem d_W_law_784 : decode b_W_law 784 = .ok (.lshl, 1) := by decide +kernel
theorem d_W_law_785 : decode b_W_law 785 = .ok (.aload_n 0, 1) := by decide +kernel
theorem d_W_law_786 : decode b_W_law 786 = .ok (.iload 4, 2) := by decide +kernel
theorem d_W_law_788 : decode b_W_law 788 = .ok (.iconst 4, 1) := by decide +kernel
theorem d_W_law_789 : decode b_W_law 789 = .ok (.iadd, 1) := by decide +kernel
theorem d_W_law_790 : decode b_W_law 790 = .ok (.iaload, 1) := by decide +kernel
theorem d_W_law_791 : decode b_W_law 791 = .ok (.i2l, 1) := by decide +kernel
theorem d_W_law_792 : decode b_W_law 792 = .ok (.ldc2_w 88, 3) := by decide +kernel
theorem d_W_law_795 : decode b_W_law 795 = .ok (.land, 1) := by decide +kernel
theorem d_W_law_796 : decode b_W_law 796 = .ok (.lor, 1) := by decide +kernel
theorem d_W_law_797 : decode b_W_law 797 = .ok (.aload_n 0, 1) := by decide +kernel
theorem d_W_law_798 : decode b_W_law 798 = .ok (.iload 4, 2) := by decide +kernel
theorem d_W_law_800 : decode b_W_law 800 = .ok (.iconst 5, 1) := by decide +kernel
theorem d_W_law_801 : decode b_W_law 801 = .ok (.iadd, 1) := by decide +kernel
theorem d_W_law_802 : decode b_W_law 802 = .ok (.iaload, 1) := by decide +kernel
theorem d_W_law_803 : decode b_W_law 803 = .ok (.i2l, 1) := by decide +kernel
theorem d_W_law_804 : decode b_W_law 804 = .ok (.bipush 32, 2) := by decide +kernel
theorem d_W_law_806 : decode b_W_law 806 = .ok (.lshl, 1) := by decide +kernel
theorem d_W_law_807 : decode b_W_law 807 = .ok (.aload_n 0, 1) := by decide +kernel
theorem d_W_law_808 : decode b_W_law 808 = .ok (.iload 4, 2) := by decide +kernel
theorem d_W_law_810 : decode b_W_law 810 = .ok (.bipush 6, 2) := by decide +kernel
theorem d_W_law_812 : decode b_W_law 812 = .ok (.iadd, 1) := by decide +kernel
theorem d_W_law_813 : decode b_W_law 813 = .ok (.iaload, 1) := by decide +kernel
theorem d_W_law_814 : decode b_W_law 814 = .ok (.i2l, 1) := by decide +kernel
theorem d_W_law_815 : decode b_W_law 815 = .ok (.ldc2_w 88, 3) := by decide +kernel
theorem d_W_law_818 : decode b_W_law 818 = .ok (.land, 1) := by decide +kernel
theorem d_W_law_819 : decode b_W_law 819 = .ok (.lor, 1) := by decide +kernel
theorem d_W_law_820 : decode b_W_law 820 = .ok (.invokevirtual 95, 3) := by decide +kernel
theorem d_W_law_823 : decode b_W_law 823 = .ok (.aload_n 2, 1) := by decide +kernel
theorem d_W_law_824 : decode b_W_law 824 = .ok (.aload_n 0, 1) := by decide +kernel
theorem d_W_law_825 : decode b_W_law 825 = .ok (.iload 4, 2) := by decide +kernel
theorem d_W_law_827 : decode b_W_law 827 = .ok (.iconst 1, 1) := by decide +kernel
theorem d_W_law_828 : decode b_W_law 828 = .ok (.iadd, 1) := by decide +kernel
theorem d_W_law_829 : decode b_W_law 829 = .ok (.iaload, 1) := by decide +kernel
theorem d_W_law_830 : decode b_W_law 830 = .ok (.aload_n 0, 1) := by decide +kernel
theorem d_W_law_831 : decode b_W_law 831 = .ok (.iload 4, 2) := by decide +kernel
theorem d_W_law_833 : decode b_W_law 833 = .ok (.iconst 2, 1) := by decide +kernel
theorem d_W_law_834 : decode b_W_law 834 = .ok (.iadd, 1) := by decide +kernel
theorem d_W_law_835 : decode b_W_law 835 = .ok (.iaload, 1) := by decide +kernel
theorem d_W_law_836 : decode b_W_law 836 = .ok (.aload_n 0, 1) := by decide +kernel
theorem d_W_law_837 : decode b_W_law 837 = .ok (.iload 4, 2) := by decide +kernel
theorem d_W_law_839 : decode b_W_law 839 = .ok (.iconst 3, 1) := by decide +kernel
theorem d_W_law_840 : decode b_W_law 840 = .ok (.iadd, 1) := by decide +kernel
theorem d_W_law_841 : decode b_W_law 841 = .ok (.iaload, 1) := by decide +kernel
theorem d_W_law_842 : decode b_W_law 842 = .ok (.i2l, 1) := by decide +kernel
theorem d_W_law_843 : decode b_W_law 843 = .ok (.bipush 32, 2) := by decide +kernel
theorem d_W_law_845 : decode b_W_law 845 = .ok (.lshl, 1) := by decide +kernel
theorem d_W_law_846 : decode b_W_law 846 = .ok (.aload_n 0, 1) := by decide +kernel
theorem d_W_law_847 : decode b_W_law 847 = .ok (.iload 4, 2) := by decide +kernel
theorem d_W_law_849 : decode b_W_law 849 = .ok (.iconst 4, 1) := by decide +kernel
theorem d_W_law_850 : decode b_W_law 850 = .ok (.iadd, 1) := by decide +kernel
theorem d_W_law_851 : decode b_W_law 851 = .ok (.iaload, 1) := by decide +kernel
theorem d_W_law_852 : decode b_W_law 852 = .ok (.i2l, 1) := by decide +kernel
theorem d_W_law_853 : decode b_W_law 853 = .ok (.ldc2_w 88, 3) := by decide +kernel
theorem d_W_law_856 : decode b_W_law 856 = .ok (.land, 1) := by decide +kernel
theorem d_W_law_857 : decode b_W_law 857 = .ok (.lor, 1) := by decide +kernel
theorem d_W_law_858 : decode b_W_law 858 = .ok (.aload_n 0, 1) := by decide +kernel
theorem d_W_law_859 : decode b_W_law 859 = .ok (.iload 4, 2) := by decide +kernel
theorem d_W_law_861 : decode b_W_law 861 = .ok (.iconst 5, 1) := by decide +kernel
theorem d_W_law_862 : decode b_W_law 862 = .ok (.iadd, 1) := by decide +kernel
theorem d_W_law_863 : decode b_W_law 863 = .ok (.iaload, 1) := by decide +kernel
theorem d_W_law_864 : decode b_W_law 864 = .ok (.i2l, 1) := by decide +kernel
theorem d_W_law_865 : decode b_W_law 865 = .ok (.bipush 32, 2) := by decide +kernel
theorem d_W_law_867 : decode b_W_law 867 = .ok (.lshl, 1) := by decide +kernel
theorem d_W_law_868 : decode b_W_law 868 = .ok (.aload_n 0, 1) := by decide +kernel
theorem d_W_law_869 : decode b_W_law 869 = .ok (.iload 4, 2) := by decide +kernel
theorem d_W_law_871 : decode b_W_law 871 = .ok (.bipush 6, 2) := by decide +kernel
theorem d_W_law_873 : decode b_W_law 873 = .ok (.iadd, 1) := by decide +kernel
theorem d_W_law_874 : decode b_W_law 874 = .ok (.iaload, 1) := by decide +kernel
theorem d_W_law_875 : decode b_W_law 875 = .ok (.i2l, 1) := by decide +kernel
theorem d_W_law_876 : decode b_W_law 876 = .ok (.ldc2_w 88, 3) := by decide +kernel
theorem d_W_law_879 : decode b_W_law 879 = .ok (.land, 1) := by decide +kernel
theorem d_W_law_880 : decode b_W_law 880 = .ok (.lor, 1) := by decide +kernel
theorem d_W_law_881 : decode b_W_law 881 = .ok (.invokevirtual 99, 3) := by decide +kernel
theorem d_W_law_884 : decode b_W_law 884 = .ok (.if_icmp .eq 405, 3) := by decide +kernel
theorem d_W_law_887 : decode b_W_law 887 = .ok (.iconst 0, 1) := by decide +kernel
theorem d_W_law_888 : decode b_W_law 888 = .ok (.ireturn, 1) := by decide +kernel
theorem d_W_law_889 : decode b_W_law 889 = .ok (.aload_n 1, 1) := by decide +kernel
theorem d_W_law_890 : decode b_W_law 890 = .ok (.aload_n 0, 1) := by decide +kernel
theorem d_W_law_891 : decode b_W_law 891 = .ok (.iload 4, 2) := by decide +kernel
theorem d_W_law_893 : decode b_W_law 893 = .ok (.iconst 1, 1) := by decide +kernel
theorem d_W_law_894 : decode b_W_law 894 = .ok (.iadd, 1) := by decide +kernel
theorem d_W_law_895 : decode b_W_law 895 = .ok (.iaload, 1) := by decide +kernel
theorem d_W_law_896 : decode b_W_law 896 = .ok (.aload_n 0, 1) := by decide +kernel
theorem d_W_law_897 : decode b_W_law 897 = .ok (.iload 4, 2) := by decide +kernel
theorem d_W_law_899 : decode b_W_law 899 = .ok (.iconst 2, 1) := by decide +kernel
theorem d_W_law_900 : decode b_W_law 900 = .ok (.iadd, 1) := by decide +kernel
theorem d_W_law_901 : decode b_W_law 901 = .ok (.iaload, 1) := by decide +kernel
theorem d_W_law_902 : decode b_W_law 902 = .ok (.aload_n 0, 1) := by decide +kernel
theorem d_W_law_903 : decode b_W_law 903 = .ok (.iload 4, 2) := by decide +kernel
theorem d_W_law_905 : decode b_W_law 905 = .ok (.iconst 3, 1) := by decide +kernel
theorem d_W_law_906 : decode b_W_law 906 = .ok (.iadd, 1) := by decide +kernel
theorem d_W_law_907 : decode b_W_law 907 = .ok (.iaload, 1) := by decide +kernel
theorem d_W_law_908 : decode b_W_law 908 = .ok (.i2l, 1) := by decide +kernel
theorem d_W_law_909 : decode b_W_law 909 = .ok (.bipush 32, 2) := by decide +kernel
theorem d_W_law_911 : decode b_W_law 911 = .ok (.lshl, 1) := by decide +kernel
theorem d_W_law_912 : decode b_W_law 912 = .ok (.aload_n 0, 1) := by decide +kernel
theorem d_W_law_913 : decode b_W_law 913 = .ok (.iload 4, 2) := by decide +kernel
theorem d_W_law_915 : decode b_W_law 915 = .ok (.iconst 4, 1) := by decide +kernel
theorem d_W_law_916 : decode b_W_law 916 = .ok (.iadd, 1) := by decide +kernel
theorem d_W_law_917 : decode b_W_law 917 = .ok (.iaload, 1) := by decide +kernel
theorem d_W_law_918 : decode b_W_law 918 = .ok (.i2l, 1) := by decide +kernel
theorem d_W_law_919 : decode b_W_law 919 = .ok (.ldc2_w 88, 3) := by decide +kernel
theorem d_W_law_922 : decode b_W_law 922 = .ok (.land, 1) := by decide +kernel
theorem d_W_law_923 : decode b_W_law 923 = .ok (.lor, 1) := by decide +kernel
theorem d_W_law_924 : decode b_W_law 924 = .ok (.aload_n 0, 1) := by decide +kernel
theorem d_W_law_925 : decode b_W_law 925 = .ok (.iload 4, 2) := by decide +kernel
theorem d_W_law_927 : decode b_W_law 927 = .ok (.iconst 5, 1) := by decide +kernel
theorem d_W_law_928 : decode b_W_law 928 = .ok (.iadd, 1) := by decide +kernel
theorem d_W_law_929 : decode b_W_law 929 = .ok (.iaload, 1) := by decide +kernel
theorem d_W_law_930 : decode b_W_law 930 = .ok (.i2l, 1) := by decide +kernel
theorem d_W_law_931 : decode b_W_law 931 = .ok (.bipush 32, 2) := by decide +kernel
theorem d_W_law_933 : decode b_W_law 933 = .ok (.lshl, 1) := by decide +kernel
theorem d_W_law_934 : decode b_W_law 934 = .ok (.aload_n 0, 1) := by decide +kernel
theorem d_W_law_935 : decode b_W_law 935 = .ok (.iload 4, 2) := by decide +kernel
theorem d_W_law_937 : decode b_W_law 937 = .ok (.bipush 6, 2) := by decide +kernel
theorem d_W_law_939 : decode b_W_law 939 = .ok (.iadd, 1) := by decide +kernel
theorem d_W_law_940 : decode b_W_law 940 = .ok (.iaload, 1) := by decide +kernel
theorem d_W_law_941 : decode b_W_law 941 = .ok (.i2l, 1) := by decide +kernel
theorem d_W_law_942 : decode b_W_law 942 = .ok (.ldc2_w 88, 3) := by decide +kernel
theorem d_W_law_945 : decode b_W_law 945 = .ok (.land, 1) := by decide +kernel
theorem d_W_law_946 : decode b_W_law 946 = .ok (.lor, 1) := by decide +kernel
theorem d_W_law_947 : decode b_W_law 947 = .ok (.invokevirtual 100, 3) := by decide +kernel
theorem d_W_law_950 : decode b_W_law 950 = .ok (.aload_n 2, 1) := by decide +kernel
theorem d_W_law_951 : decode b_W_law 951 = .ok (.aload_n 0, 1) := by decide +kernel
theorem d_W_law_952 : decode b_W_law 952 = .ok (.iload 4, 2) := by decide +kernel
theorem d_W_law_954 : decode b_W_law 954 = .ok (.iconst 1, 1) := by decide +kernel
theorem d_W_law_955 : decode b_W_law 955 = .ok (.iadd, 1) := by decide +kernel
theorem d_W_law_956 : decode b_W_law 956 = .ok (.iaload, 1) := by decide +kernel
theorem d_W_law_957 : decode b_W_law 957 = .ok (.aload_n 0, 1) := by decide +kernel
theorem d_W_law_958 : decode b_W_law 958 = .ok (.iload 4, 2) := by decide +kernel
theorem d_W_law_960 : decode b_W_law 960 = .ok (.iconst 2, 1) := by decide +kernel
theorem d_W_law_961 : decode b_W_law 961 = .ok (.iadd, 1) := by decide +kernel
theorem d_W_law_962 : decode b_W_law 962 = .ok (.iaload, 1) := by decide +kernel
theorem d_W_law_963 : decode b_W_law 963 = .ok (.aload_n 0, 1) := by decide +kernel
theorem d_W_law_964 : decode b_W_law 964 = .ok (.iload 4, 2) := by decide +kernel
theorem d_W_law_966 : decode b_W_law 966 = .ok (.iconst 3, 1) := by decide +kernel
theorem d_W_law_967 : decode b_W_law 967 = .ok (.iadd, 1) := by decide +kernel
theorem d_W_law_968 : decode b_W_law 968 = .ok (.iaload, 1) := by decide +kernel
theorem d_W_law_969 : decode b_W_law 969 = .ok (.i2l, 1) := by decide +kernel
theorem d_W_law_970 : decode b_W_law 970 = .ok (.bipush 32, 2) := by decide +kernel
theorem d_W_law_972 : decode b_W_law 972 = .ok (.lshl, 1) := by decide +kernel
theorem d_W_law_973 : decode b_W_law 973 = .ok (.aload_n 0, 1) := by decide +kernel
theorem d_W_law_974 : decode b_W_law 974 = .ok (.iload 4, 2) := by decide +kernel
theorem d_W_law_976 : decode b_W_law 976 = .ok (.iconst 4, 1) := by decide +kernel
theorem d_W_law_977 : decode b_W_law 977 = .ok (.iadd, 1) := by decide +kernel
theorem d_W_law_978 : decode b_W_law 978 = .ok (.iaload, 1) := by decide +kernel
theorem d_W_law_979 : decode b_W_law 979 = .ok (.i2l, 1) := by decide +kernel
theorem d_W_law_980 : decode b_W_law 980 = .ok (.ldc2_w 88, 3) := by decide +kernel
theorem d_W_law_983 : decode b_W_law 983 = .ok (.land, 1) := by decide +kernel
theorem d_W_law_984 : decode b_W_law 984 = .ok (.lor, 1) := by decide +kernel
theorem d_W_law_985 : decode b_W_law 985 = .ok (.aload_n 0, 1) := by decide +kernel
theorem d_W_law_986 : decode b_W_law 986 = .ok (.iload 4, 2) := by decide +kernel
theorem d_W_law_988 : decode b_W_law 988 = .ok (.iconst 5, 1) := by decide +kernel
theorem d_W_law_989 : decode b_W_law 989 = .ok (.iadd, 1) := by decide +kernel
theorem d_W_law_990 : decode b_W_law 990 = .ok (.iaload, 1) := by decide +kernel
theorem d_W_law_991 : decode b_W_law 991 = .ok (.i2l, 1) := by decide +kernel
theorem d_W_law_992 : decode b_W_law 992 = .ok (.bipush 32, 2) := by decide +kernel
theorem d_W_law_994 : decode b_W_law 994 = .ok (.lshl, 1) := by decide +kernel
theorem d_W_law_995 : decode b_W_law 995 = .ok (.aload_n 0, 1) := by decide +kernel
theorem d_W_law_996 : decode b_W_law 996 = .ok (.iload 4, 2) := by decide +kernel
theorem d_W_law_998 : decode b_W_law 998 = .ok (.bipush 6, 2) := by decide +kernel
theorem d_W_law_1000 : decode b_W_law 1000 = .ok (.iadd, 1) := by decide +kernel
theorem d_W_law_1001 : decode b_W_law 1001 = .ok (.iaload, 1) := by decide +kernel
theorem d_W_law_1002 : decode b_W_law 1002 = .ok (.i2l, 1) := by decide +kernel
theorem d_W_law_1003 : decode b_W_law 1003 = .ok (.ldc2_w 88, 3) := by decide +kernel
theorem d_W_law_1006 : decode b_W_law 1006 = .ok (.land, 1) := by decide +kernel
theorem d_W_law_1007 : decode b_W_law 1007 = .ok (.lor, 1) := by decide +kernel
theorem d_W_law_1008 : decode b_W_law 1008 = .ok (.invokevirtual 103, 3) := by decide +kernel
theorem d_W_law_1011 : decode b_W_law 1011 = .ok (.if_icmp .eq 278, 3) := by decide +kernel
theorem d_W_law_1014 : decode b_W_law 1014 = .ok (.iconst 0, 1) := by decide +kernel
theorem d_W_law_1015 : decode b_W_law 1015 = .ok (.ireturn, 1) := by decide +kernel
theorem d_W_law_1016 : decode b_W_law 1016 = .ok (.aload_n 1, 1) := by decide +kernel
theorem d_W_law_1017 : decode b_W_law 1017 = .ok (.aload_n 0, 1) := by decide +kernel
theorem d_W_law_1018 : decode b_W_law 1018 = .ok (.iload 4, 2) := by decide +kernel
theorem d_W_law_1020 : decode b_W_law 1020 = .ok (.iconst 1, 1) := by decide +kernel
theorem d_W_law_1021 : decode b_W_law 1021 = .ok (.iadd, 1) := by decide +kernel
theorem d_W_law_1022 : decode b_W_law 1022 = .ok (.iaload, 1) := by decide +kernel
theorem d_W_law_1023 : decode b_W_law 1023 = .ok (.aload_n 0, 1) := by decide +kernel
theorem d_W_law_1024 : decode b_W_law 1024 = .ok (.iload 4, 2) := by decide +kernel
theorem d_W_law_1026 : decode b_W_law 1026 = .ok (.iconst 2, 1) := by decide +kernel
theorem d_W_law_1027 : decode b_W_law 1027 = .ok (.iadd, 1) := by decide +kernel
theorem d_W_law_1028 : decode b_W_law 1028 = .ok (.iaload, 1) := by decide +kernel
theorem d_W_law_1029 : decode b_W_law 1029 = .ok (.invokevirtual 104, 3) := by decide +kernel
theorem d_W_law_1032 : decode b_W_law 1032 = .ok (.aload_n 2, 1) := by decide +kernel
theorem d_W_law_1033 : decode b_W_law 1033 = .ok (.aload_n 0, 1) := by decide +kernel
theorem d_W_law_1034 : decode b_W_law 1034 = .ok (.iload 4, 2) := by decide +kernel
theorem d_W_law_1036 : decode b_W_law 1036 = .ok (.iconst 1, 1) := by decide +kernel
theorem d_W_law_1037 : decode b_W_law 1037 = .ok (.iadd, 1) := by decide +kernel
theorem d_W_law_1038 : decode b_W_law 1038 = .ok (.iaload, 1) := by decide +kernel
theorem d_W_law_1039 : decode b_W_law 1039 = .ok (.aload_n 0, 1) := by decide +kernel
theorem d_W_law_1040 : decode b_W_law 1040 = .ok (.iload 4, 2) := by decide +kernel
theorem d_W_law_1042 : decode b_W_law 1042 = .ok (.iconst 2, 1) := by decide +kernel
theorem d_W_law_1043 : decode b_W_law 1043 = .ok (.iadd, 1) := by decide +kernel
theorem d_W_law_1044 : decode b_W_law 1044 = .ok (.iaload, 1) := by decide +kernel
theorem d_W_law_1045 : decode b_W_law 1045 = .ok (.invokevirtual 107, 3) := by decide +kernel
theorem d_W_law_1048 : decode b_W_law 1048 = .ok (.if_icmp .eq 241, 3) := by decide +kernel
theorem d_W_law_1051 : decode b_W_law 1051 = .ok (.iconst 0, 1) := by decide +kernel
theorem d_W_law_1052 : decode b_W_law 1052 = .ok (.ireturn, 1) := by decide +kernel
theorem d_W_law_1053 : decode b_W_law 1053 = .ok (.aload_n 1, 1) := by decide +kernel
theorem d_W_law_1054 : decode b_W_law 1054 = .ok (.aload_n 0, 1) := by decide +kernel
theorem d_W_law_1055 : decode b_W_law 1055 = .ok (.iload 4, 2) := by decide +kernel
theorem d_W_law_1057 : decode b_W_law 1057 = .ok (.iconst 1, 1) := by decide +kernel
theorem d_W_law_1058 : decode b_W_law 1058 = .ok (.iadd, 1) := by decide +kernel
theorem d_W_law_1059 : decode b_W_law 1059 = .ok (.iaload, 1) := by decide +kernel
theorem d_W_law_1060 : decode b_W_law 1060 = .ok (.aload_n 0, 1) := by decide +kernel
theorem d_W_law_1061 : decode b_W_law 1061 = .ok (.iload 4, 2) := by decide +kernel
theorem d_W_law_1063 : decode b_W_law 1063 = .ok (.iconst 2, 1) := by decide +kernel
theorem d_W_law_1064 : decode b_W_law 1064 = .ok (.iadd, 1) := by decide +kernel
theorem d_W_law_1065 : decode b_W_law 1065 = .ok (.iaload, 1) := by decide +kernel
theorem d_W_law_1066 : decode b_W_law 1066 = .ok (.aload_n 0, 1) := by decide +kernel
theorem d_W_law_1067 : decode b_W_law 1067 = .ok (.iload 4, 2) := by decide +kernel
theorem d_W_law_1069 : decode b_W_law 1069 = .ok (.iconst 3, 1) := by decide +kernel
theorem d_W_law_1070 : decode b_W_law 1070 = .ok (.iadd, 1) := by decide +kernel
theorem d_W_law_1071 : decode b_W_law 1071 = .ok (.iaload, 1) := by decide +kernel
theorem d_W_law_1072 : decode b_W_law 1072 = .ok (.invokevirtual 108, 3) := by decide +kernel
theorem d_W_law_1075 : decode b_W_law 1075 = .ok (.aload_n 2, 1) := by decide +kernel
theorem d_W_law_1076 : decode b_W_law 1076 = .ok (.aload_n 0, 1) := by decide +kernel
theorem d_W_law_1077 : decode b_W_law 1077 = .ok (.iload 4, 2) := by decide +kernel
theorem d_W_law_1079 : decode b_W_law 1079 = .ok (.iconst 1, 1) := by decide +kernel
theorem d_W_law_1080 : decode b_W_law 1080 = .ok (.iadd, 1) := by decide +kernel
theorem d_W_law_1081 : decode b_W_law 1081 = .ok (.iaload, 1) := by decide +kernel
theorem d_W_law_1082 : decode b_W_law 1082 = .ok (.aload_n 0, 1) := by decide +kernel
theorem d_W_law_1083 : decode b_W_law 1083 = .ok (.iload 4, 2) := by decide +kernel
theorem d_W_law_1085 : decode b_W_law 1085 = .ok (.iconst 2, 1) := by decide +kernel
theorem d_W_law_1086 : decode b_W_law 1086 = .ok (.iadd, 1) := by decide +kernel
theorem d_W_law_1087 : decode b_W_law 1087 = .ok (.iaload, 1) := by decide +kernel
theorem d_W_law_1088 : decode b_W_law 1088 = .ok (.aload_n 0, 1) := by decide +kernel
theorem d_W_law_1089 : decode b_W_law 1089 = .ok (.iload 4, 2) := by decide +kernel
theorem d_W_law_1091 : decode b_W_law 1091 = .ok (.iconst 3, 1) := by decide +kernel
theorem d_W_law_1092 : decode b_W_law 1092 = .ok (.iadd, 1) := by decide +kernel
theorem d_W_law_1093 : decode b_W_law 1093 = .ok (.iaload, 1) := by decide +kernel
theorem d_W_law_1094 : decode b_W_law 1094 = .ok (.invokevirtual 112, 3) := by decide +kernel
theorem d_W_law_1097 : decode b_W_law 1097 = .ok (.if_icmp .eq 192, 3) := by decide +kernel
theorem d_W_law_1100 : decode b_W_law 1100 = .ok (.iconst 0, 1) := by decide +kernel
theorem d_W_law_1101 : decode b_W_law 1101 = .ok (.ireturn, 1) := by decide +kernel
theorem d_W_law_1102 : decode b_W_law 1102 = .ok (.aload_n 1, 1) := by decide +kernel
theorem d_W_law_1103 : decode b_W_law 1103 = .ok (.aload_n 0, 1) := by decide +kernel
theorem d_W_law_1104 : decode b_W_law 1104 = .ok (.iload 4, 2) := by decide +kernel
theorem d_W_law_1106 : decode b_W_law 1106 = .ok (.iconst 1, 1) := by decide +kernel
theorem d_W_law_1107 : decode b_W_law 1107 = .ok (.iadd, 1) := by decide +kernel
theorem d_W_law_1108 : decode b_W_law 1108 = .ok (.iaload, 1) := by decide +kernel
theorem d_W_law_1109 : decode b_W_law 1109 = .ok (.invokevirtual 113, 3) := by decide +kernel
theorem d_W_law_1112 : decode b_W_law 1112 = .ok (.aload_n 2, 1) := by decide +kernel
theorem d_W_law_1113 : decode b_W_law 1113 = .ok (.aload_n 0, 1) := by decide +kernel
theorem d_W_law_1114 : decode b_W_law 1114 = .ok (.iload 4, 2) := by decide +kernel
theorem d_W_law_1116 : decode b_W_law 1116 = .ok (.iconst 1, 1) := by decide +kernel
theorem d_W_law_1117 : decode b_W_law 1117 = .ok (.iadd, 1) := by decide +kernel
theorem d_W_law_1118 : decode b_W_law 1118 = .ok (.iaload, 1) := by decide +kernel
theorem d_W_law_1119 : decode b_W_law 1119 = .ok (.invokevirtual 116, 3) := by decide +kernel
theorem d_W_law_1122 : decode b_W_law 1122 = .ok (.lcmp, 1) := by decide +kernel
theorem d_W_law_1123 : decode b_W_law 1123 = .ok (.ifCond .eq 166, 3) := by decide +kernel
theorem d_W_law_1126 : decode b_W_law 1126 = .ok (.iconst 0, 1) := by decide +kernel
theorem d_W_law_1127 : decode b_W_law 1127 = .ok (.ireturn, 1) := by decide +kernel
theorem d_W_law_1128 : decode b_W_law 1128 = .ok (.aload_n 1, 1) := by decide +kernel
theorem d_W_law_1129 : decode b_W_law 1129 = .ok (.aload_n 0, 1) := by decide +kernel
theorem d_W_law_1130 : decode b_W_law 1130 = .ok (.iload 4, 2) := by decide +kernel
theorem d_W_law_1132 : decode b_W_law 1132 = .ok (.iconst 1, 1) := by decide +kernel
theorem d_W_law_1133 : decode b_W_law 1133 = .ok (.iadd, 1) := by decide +kernel
theorem d_W_law_1134 : decode b_W_law 1134 = .ok (.iaload, 1) := by decide +kernel
theorem d_W_law_1135 : decode b_W_law 1135 = .ok (.invokevirtual 117, 3) := by decide +kernel
theorem d_W_law_1138 : decode b_W_law 1138 = .ok (.aload_n 2, 1) := by decide +kernel
theorem d_W_law_1139 : decode b_W_law 1139 = .ok (.aload_n 0, 1) := by decide +kernel
theorem d_W_law_1140 : decode b_W_law 1140 = .ok (.iload 4, 2) := by decide +kernel
theorem d_W_law_1142 : decode b_W_law 1142 = .ok (.iconst 1, 1) := by decide +kernel
theorem d_W_law_1143 : decode b_W_law 1143 = .ok (.iadd, 1) := by decide +kernel
theorem d_W_law_1144 : decode b_W_law 1144 = .ok (.iaload, 1) := by decide +kernel
theorem d_W_law_1145 : decode b_W_law 1145 = .ok (.invokevirtual 120, 3) := by decide +kernel
theorem d_W_law_1148 : decode b_W_law 1148 = .ok (.if_icmp .eq 141, 3) := by decide +kernel
theorem d_W_law_1151 : decode b_W_law 1151 = .ok (.iconst 0, 1) := by decide +kernel
theorem d_W_law_1152 : decode b_W_law 1152 = .ok (.ireturn, 1) := by decide +kernel
theorem d_W_law_1153 : decode b_W_law 1153 = .ok (.aload_n 1, 1) := by decide +kernel
theorem d_W_law_1154 : decode b_W_law 1154 = .ok (.aload_n 0, 1) := by decide +kernel
theorem d_W_law_1155 : decode b_W_law 1155 = .ok (.iload 4, 2) := by decide +kernel
theorem d_W_law_1157 : decode b_W_law 1157 = .ok (.iconst 1, 1) := by decide +kernel
theorem d_W_law_1158 : decode b_W_law 1158 = .ok (.iadd, 1) := by decide +kernel
theorem d_W_law_1159 : decode b_W_law 1159 = .ok (.iaload, 1) := by decide +kernel
theorem d_W_law_1160 : decode b_W_law 1160 = .ok (.invokevirtual 121, 3) := by decide +kernel
theorem d_W_law_1163 : decode b_W_law 1163 = .ok (.aload_n 2, 1) := by decide +kernel
theorem d_W_law_1164 : decode b_W_law 1164 = .ok (.aload_n 0, 1) := by decide +kernel
theorem d_W_law_1165 : decode b_W_law 1165 = .ok (.iload 4, 2) := by decide +kernel
theorem d_W_law_1167 : decode b_W_law 1167 = .ok (.iconst 1, 1) := by decide +kernel
theorem d_W_law_1168 : decode b_W_law 1168 = .ok (.iadd, 1) := by decide +kernel
theorem d_W_law_1169 : decode b_W_law 1169 = .ok (.iaload, 1) := by decide +kernel
theorem d_W_law_1170 : decode b_W_law 1170 = .ok (.invokevirtual 124, 3) := by decide +kernel
theorem d_W_law_1173 : decode b_W_law 1173 = .ok (.if_icmp .eq 116, 3) := by decide +kernel
theorem d_W_law_1176 : decode b_W_law 1176 = .ok (.iconst 0, 1) := by decide +kernel
theorem d_W_law_1177 : decode b_W_law 1177 = .ok (.ireturn, 1) := by decide +kernel
theorem d_W_law_1178 : decode b_W_law 1178 = .ok (.aload_n 1, 1) := by decide +kernel
theorem d_W_law_1179 : decode b_W_law 1179 = .ok (.aload_n 0, 1) := by decide +kernel
theorem d_W_law_1180 : decode b_W_law 1180 = .ok (.iload 4, 2) := by decide +kernel
theorem d_W_law_1182 : decode b_W_law 1182 = .ok (.iconst 1, 1) := by decide +kernel
theorem d_W_law_1183 : decode b_W_law 1183 = .ok (.iadd, 1) := by decide +kernel
theorem d_W_law_1184 : decode b_W_law 1184 = .ok (.iaload, 1) := by decide +kernel
theorem d_W_law_1185 : decode b_W_law 1185 = .ok (.aload_n 0, 1) := by decide +kernel
theorem d_W_law_1186 : decode b_W_law 1186 = .ok (.iload 4, 2) := by decide +kernel
theorem d_W_law_1188 : decode b_W_law 1188 = .ok (.iconst 2, 1) := by decide +kernel
theorem d_W_law_1189 : decode b_W_law 1189 = .ok (.iadd, 1) := by decide +kernel
theorem d_W_law_1190 : decode b_W_law 1190 = .ok (.iaload, 1) := by decide +kernel
theorem d_W_law_1191 : decode b_W_law 1191 = .ok (.invokevirtual 125, 3) := by decide +kernel
theorem d_W_law_1194 : decode b_W_law 1194 = .ok (.aload_n 2, 1) := by decide +kernel
theorem d_W_law_1195 : decode b_W_law 1195 = .ok (.aload_n 0, 1) := by decide +kernel
theorem d_W_law_1196 : decode b_W_law 1196 = .ok (.iload 4, 2) := by decide +kernel
theorem d_W_law_1198 : decode b_W_law 1198 = .ok (.iconst 1, 1) := by decide +kernel
theorem d_W_law_1199 : decode b_W_law 1199 = .ok (.iadd, 1) := by decide +kernel
theorem d_W_law_1200 : decode b_W_law 1200 = .ok (.iaload, 1) := by decide +kernel
theorem d_W_law_1201 : decode b_W_law 1201 = .ok (.aload_n 0, 1) := by decide +kernel
theorem d_W_law_1202 : decode b_W_law 1202 = .ok (.iload 4, 2) := by decide +kernel
theorem d_W_law_1204 : decode b_W_law 1204 = .ok (.iconst 2, 1) := by decide +kernel
theorem d_W_law_1205 : decode b_W_law 1205 = .ok (.iadd, 1) := by decide +kernel
theorem d_W_law_1206 : decode b_W_law 1206 = .ok (.iaload, 1) := by decide +kernel
theorem d_W_law_1207 : decode b_W_law 1207 = .ok (.invokevirtual 129, 3) := by decide +kernel
theorem d_W_law_1210 : decode b_W_law 1210 = .ok (.if_icmp .eq 79, 3) := by decide +kernel
theorem d_W_law_1213 : decode b_W_law 1213 = .ok (.iconst 0, 1) := by decide +kernel
theorem d_W_law_1214 : decode b_W_law 1214 = .ok (.ireturn, 1) := by decide +kernel
theorem d_W_law_1215 : decode b_W_law 1215 = .ok (.aload_n 1, 1) := by decide +kernel
theorem d_W_law_1216 : decode b_W_law 1216 = .ok (.aload_n 0, 1) := by decide +kernel
theorem d_W_law_1217 : decode b_W_law 1217 = .ok (.iload 4, 2) := by decide +kernel
theorem d_W_law_1219 : decode b_W_law 1219 = .ok (.iconst 1, 1) := by decide +kernel
theorem d_W_law_1220 : decode b_W_law 1220 = .ok (.iadd, 1) := by decide +kernel
theorem d_W_law_1221 : decode b_W_law 1221 = .ok (.iaload, 1) := by decide +kernel
theorem d_W_law_1222 : decode b_W_law 1222 = .ok (.aload_n 0, 1) := by decide +kernel
theorem d_W_law_1223 : decode b_W_law 1223 = .ok (.iload 4, 2) := by decide +kernel
theorem d_W_law_1225 : decode b_W_law 1225 = .ok (.iconst 2, 1) := by decide +kernel
theorem d_W_law_1226 : decode b_W_law 1226 = .ok (.iadd, 1) := by decide +kernel
theorem d_W_law_1227 : decode b_W_law 1227 = .ok (.iaload, 1) := by decide +kernel
theorem d_W_law_1228 : decode b_W_law 1228 = .ok (.invokevirtual 130, 3) := by decide +kernel
theorem d_W_law_1231 : decode b_W_law 1231 = .ok (.aload_n 2, 1) := by decide +kernel
theorem d_W_law_1232 : decode b_W_law 1232 = .ok (.aload_n 0, 1) := by decide +kernel
theorem d_W_law_1233 : decode b_W_law 1233 = .ok (.iload 4, 2) := by decide +kernel
theorem d_W_law_1235 : decode b_W_law 1235 = .ok (.iconst 1, 1) := by decide +kernel
theorem d_W_law_1236 : decode b_W_law 1236 = .ok (.iadd, 1) := by decide +kernel
theorem d_W_law_1237 : decode b_W_law 1237 = .ok (.iaload, 1) := by decide +kernel
theorem d_W_law_1238 : decode b_W_law 1238 = .ok (.aload_n 0, 1) := by decide +kernel
theorem d_W_law_1239 : decode b_W_law 1239 = .ok (.iload 4, 2) := by decide +kernel
theorem d_W_law_1241 : decode b_W_law 1241 = .ok (.iconst 2, 1) := by decide +kernel
theorem d_W_law_1242 : decode b_W_law 1242 = .ok (.iadd, 1) := by decide +kernel
theorem d_W_law_1243 : decode b_W_law 1243 = .ok (.iaload, 1) := by decide +kernel
theorem d_W_law_1244 : decode b_W_law 1244 = .ok (.invokevirtual 133, 3) := by decide +kernel
theorem d_W_law_1247 : decode b_W_law 1247 = .ok (.if_icmp .eq 42, 3) := by decide +kernel
theorem d_W_law_1250 : decode b_W_law 1250 = .ok (.iconst 0, 1) := by decide +kernel
theorem d_W_law_1251 : decode b_W_law 1251 = .ok (.ireturn, 1) := by decide +kernel
theorem d_W_law_1252 : decode b_W_law 1252 = .ok (.aload_n 1, 1) := by decide +kernel
theorem d_W_law_1253 : decode b_W_law 1253 = .ok (.aload_n 0, 1) := by decide +kernel
theorem d_W_law_1254 : decode b_W_law 1254 = .ok (.iload 4, 2) := by decide +kernel
theorem d_W_law_1256 : decode b_W_law 1256 = .ok (.iconst 1, 1) := by decide +kernel
theorem d_W_law_1257 : decode b_W_law 1257 = .ok (.iadd, 1) := by decide +kernel
theorem d_W_law_1258 : decode b_W_law 1258 = .ok (.iaload, 1) := by decide +kernel
theorem d_W_law_1259 : decode b_W_law 1259 = .ok (.aload_n 0, 1) := by decide +kernel
theorem d_W_law_1260 : decode b_W_law 1260 = .ok (.iload 4, 2) := by decide +kernel
theorem d_W_law_1262 : decode b_W_law 1262 = .ok (.iconst 2, 1) := by decide +kernel
theorem d_W_law_1263 : decode b_W_law 1263 = .ok (.iadd, 1) := by decide +kernel
theorem d_W_law_1264 : decode b_W_law 1264 = .ok (.iaload, 1) := by decide +kernel
theorem d_W_law_1265 : decode b_W_law 1265 = .ok (.invokevirtual 134, 3) := by decide +kernel
theorem d_W_law_1268 : decode b_W_law 1268 = .ok (.aload_n 2, 1) := by decide +kernel
theorem d_W_law_1269 : decode b_W_law 1269 = .ok (.aload_n 0, 1) := by decide +kernel
theorem d_W_law_1270 : decode b_W_law 1270 = .ok (.iload 4, 2) := by decide +kernel
theorem d_W_law_1272 : decode b_W_law 1272 = .ok (.iconst 1, 1) := by decide +kernel
theorem d_W_law_1273 : decode b_W_law 1273 = .ok (.iadd, 1) := by decide +kernel
theorem d_W_law_1274 : decode b_W_law 1274 = .ok (.iaload, 1) := by decide +kernel
theorem d_W_law_1275 : decode b_W_law 1275 = .ok (.aload_n 0, 1) := by decide +kernel
theorem d_W_law_1276 : decode b_W_law 1276 = .ok (.iload 4, 2) := by decide +kernel
theorem d_W_law_1278 : decode b_W_law 1278 = .ok (.iconst 2, 1) := by decide +kernel
theorem d_W_law_1279 : decode b_W_law 1279 = .ok (.iadd, 1) := by decide +kernel
theorem d_W_law_1280 : decode b_W_law 1280 = .ok (.iaload, 1) := by decide +kernel
theorem d_W_law_1281 : decode b_W_law 1281 = .ok (.invokevirtual 137, 3) := by decide +kernel
theorem d_W_law_1284 : decode b_W_law 1284 = .ok (.if_icmp .eq 5, 3) := by decide +kernel
theorem d_W_law_1287 : decode b_W_law 1287 = .ok (.iconst 0, 1) := by decide +kernel
theorem d_W_law_1288 : decode b_W_law 1288 = .ok (.ireturn, 1) := by decide +kernel
theorem d_W_law_1289 : decode b_W_law 1289 = .ok (.iinc 4 7, 3) := by decide +kernel
theorem d_W_law_1292 : decode b_W_law 1292 = .ok (.goto (-1269), 3) := by decide +kernel
theorem d_W_law_1295 : decode b_W_law 1295 = .ok (.iconst 1, 1) := by decide +kernel
theorem d_W_law_1296 : decode b_W_law 1296 = .ok (.ireturn, 1) := by decide +kernel

