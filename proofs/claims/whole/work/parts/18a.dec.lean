/-- HeardBarrelsLaw.law([I)Z -/
def M_0 : am_MT := (0, ⟨"HeardBarrelsLaw", "law", "([I)Z"⟩, code, 4, some .boolean, false, 1, (76, 400000))
theorem hM_0 : am_ms[0]? = some M_0 := rfl
theorem d_0_0 : decode M_0.2.2.1 0 = .ok (.new 7, 3) := by decide +kernel
theorem d_0_3 : decode M_0.2.2.1 3 = .ok (.dup, 1) := by decide +kernel
theorem d_0_4 : decode M_0.2.2.1 4 = .ok (.invokespecial 9, 3) := by decide +kernel
theorem d_0_7 : decode M_0.2.2.1 7 = .ok (.astore_n 1, 1) := by decide +kernel
theorem d_0_8 : decode M_0.2.2.1 8 = .ok (.new 10, 3) := by decide +kernel
theorem d_0_11 : decode M_0.2.2.1 11 = .ok (.dup, 1) := by decide +kernel
theorem d_0_12 : decode M_0.2.2.1 12 = .ok (.invokespecial 12, 3) := by decide +kernel
theorem d_0_15 : decode M_0.2.2.1 15 = .ok (.astore_n 2, 1) := by decide +kernel
theorem d_0_16 : decode M_0.2.2.1 16 = .ok (.iconst 0, 1) := by decide +kernel
theorem d_0_17 : decode M_0.2.2.1 17 = .ok (.istore_n 3, 1) := by decide +kernel
theorem d_0_18 : decode M_0.2.2.1 18 = .ok (.iload_n 3, 1) := by decide +kernel
theorem d_0_19 : decode M_0.2.2.1 19 = .ok (.aload_n 0, 1) := by decide +kernel
theorem d_0_20 : decode M_0.2.2.1 20 = .ok (.arraylength, 1) := by decide +kernel
theorem d_0_21 : decode M_0.2.2.1 21 = .ok (.bipush 6, 2) := by decide +kernel
theorem d_0_23 : decode M_0.2.2.1 23 = .ok (.isub, 1) := by decide +kernel
theorem d_0_24 : decode M_0.2.2.1 24 = .ok (.if_icmp .gt 1313, 3) := by decide +kernel
theorem d_0_27 : decode M_0.2.2.1 27 = .ok (.aload_n 0, 1) := by decide +kernel
theorem d_0_28 : decode M_0.2.2.1 28 = .ok (.iload_n 3, 1) := by decide +kernel
theorem d_0_29 : decode M_0.2.2.1 29 = .ok (.iaload, 1) := by decide +kernel
theorem d_0_30 : decode M_0.2.2.1 30 = .ok (.bipush 63, 2) := by decide +kernel
theorem d_0_32 : decode M_0.2.2.1 32 = .ok (.iand, 1) := by decide +kernel
theorem d_0_33 : decode M_0.2.2.1 33 = .ok (.tableswitch 1298 0 37 #[167, 230, 253, 276, 309, 342, 365, 398, 421, 454, 477, 510, 533, 566, 599, 622, 645, 678, 701, 734, 783, 806, 829, 862, 885, 898, 921, 954, 967, 990, 1023, 1056, 1079, 1122, 1196, 1229, 1252, 1275], 167) := by decide +kernel
theorem d_0_200 : decode M_0.2.2.1 200 = .ok (.aload_n 1, 1) := by decide +kernel
theorem d_0_201 : decode M_0.2.2.1 201 = .ok (.aload_n 0, 1) := by decide +kernel
theorem d_0_202 : decode M_0.2.2.1 202 = .ok (.iload_n 3, 1) := by decide +kernel
theorem d_0_203 : decode M_0.2.2.1 203 = .ok (.iconst 1, 1) := by decide +kernel
theorem d_0_204 : decode M_0.2.2.1 204 = .ok (.iadd, 1) := by decide +kernel
theorem d_0_205 : decode M_0.2.2.1 205 = .ok (.iaload, 1) := by decide +kernel
theorem d_0_206 : decode M_0.2.2.1 206 = .ok (.aload_n 0, 1) := by decide +kernel
theorem d_0_207 : decode M_0.2.2.1 207 = .ok (.iload_n 3, 1) := by decide +kernel
theorem d_0_208 : decode M_0.2.2.1 208 = .ok (.iconst 2, 1) := by decide +kernel
theorem d_0_209 : decode M_0.2.2.1 209 = .ok (.iadd, 1) := by decide +kernel
theorem d_0_210 : decode M_0.2.2.1 210 = .ok (.iaload, 1) := by decide +kernel
theorem d_0_211 : decode M_0.2.2.1 211 = .ok (.aload_n 0, 1) := by decide +kernel
theorem d_0_212 : decode M_0.2.2.1 212 = .ok (.iload_n 3, 1) := by decide +kernel
theorem d_0_213 : decode M_0.2.2.1 213 = .ok (.iconst 3, 1) := by decide +kernel
theorem d_0_214 : decode M_0.2.2.1 214 = .ok (.iadd, 1) := by decide +kernel
theorem d_0_215 : decode M_0.2.2.1 215 = .ok (.iaload, 1) := by decide +kernel
theorem d_0_216 : decode M_0.2.2.1 216 = .ok (.aload_n 0, 1) := by decide +kernel
theorem d_0_217 : decode M_0.2.2.1 217 = .ok (.iload_n 3, 1) := by decide +kernel
theorem d_0_218 : decode M_0.2.2.1 218 = .ok (.iconst 4, 1) := by decide +kernel
theorem d_0_219 : decode M_0.2.2.1 219 = .ok (.iadd, 1) := by decide +kernel
theorem d_0_220 : decode M_0.2.2.1 220 = .ok (.iaload, 1) := by decide +kernel
theorem d_0_221 : decode M_0.2.2.1 221 = .ok (.aload_n 0, 1) := by decide +kernel
theorem d_0_222 : decode M_0.2.2.1 222 = .ok (.iload_n 3, 1) := by decide +kernel
theorem d_0_223 : decode M_0.2.2.1 223 = .ok (.iconst 5, 1) := by decide +kernel
theorem d_0_224 : decode M_0.2.2.1 224 = .ok (.iadd, 1) := by decide +kernel
theorem d_0_225 : decode M_0.2.2.1 225 = .ok (.iaload, 1) := by decide +kernel
theorem d_0_226 : decode M_0.2.2.1 226 = .ok (.invokevirtual 13, 3) := by decide +kernel
theorem d_0_229 : decode M_0.2.2.1 229 = .ok (.aload_n 2, 1) := by decide +kernel
theorem d_0_230 : decode M_0.2.2.1 230 = .ok (.aload_n 0, 1) := by decide +kernel
theorem d_0_231 : decode M_0.2.2.1 231 = .ok (.iload_n 3, 1) := by decide +kernel
theorem d_0_232 : decode M_0.2.2.1 232 = .ok (.iconst 1, 1) := by decide +kernel
theorem d_0_233 : decode M_0.2.2.1 233 = .ok (.iadd, 1) := by decide +kernel
theorem d_0_234 : decode M_0.2.2.1 234 = .ok (.iaload, 1) := by decide +kernel
theorem d_0_235 : decode M_0.2.2.1 235 = .ok (.aload_n 0, 1) := by decide +kernel
theorem d_0_236 : decode M_0.2.2.1 236 = .ok (.iload_n 3, 1) := by decide +kernel
theorem d_0_237 : decode M_0.2.2.1 237 = .ok (.iconst 2, 1) := by decide +kernel
theorem d_0_238 : decode M_0.2.2.1 238 = .ok (.iadd, 1) := by decide +kernel
theorem d_0_239 : decode M_0.2.2.1 239 = .ok (.iaload, 1) := by decide +kernel
theorem d_0_240 : decode M_0.2.2.1 240 = .ok (.aload_n 0, 1) := by decide +kernel
theorem d_0_241 : decode M_0.2.2.1 241 = .ok (.iload_n 3, 1) := by decide +kernel
theorem d_0_242 : decode M_0.2.2.1 242 = .ok (.iconst 3, 1) := by decide +kernel
theorem d_0_243 : decode M_0.2.2.1 243 = .ok (.iadd, 1) := by decide +kernel
theorem d_0_244 : decode M_0.2.2.1 244 = .ok (.iaload, 1) := by decide +kernel
theorem d_0_245 : decode M_0.2.2.1 245 = .ok (.aload_n 0, 1) := by decide +kernel
theorem d_0_246 : decode M_0.2.2.1 246 = .ok (.iload_n 3, 1) := by decide +kernel
theorem d_0_247 : decode M_0.2.2.1 247 = .ok (.iconst 4, 1) := by decide +kernel
theorem d_0_248 : decode M_0.2.2.1 248 = .ok (.iadd, 1) := by decide +kernel
theorem d_0_249 : decode M_0.2.2.1 249 = .ok (.iaload, 1) := by decide +kernel
theorem d_0_250 : decode M_0.2.2.1 250 = .ok (.aload_n 0, 1) := by decide +kernel
theorem d_0_251 : decode M_0.2.2.1 251 = .ok (.iload_n 3, 1) := by decide +kernel
theorem d_0_252 : decode M_0.2.2.1 252 = .ok (.iconst 5, 1) := by decide +kernel
theorem d_0_253 : decode M_0.2.2.1 253 = .ok (.iadd, 1) := by decide +kernel
theorem d_0_254 : decode M_0.2.2.1 254 = .ok (.iaload, 1) := by decide +kernel
theorem d_0_255 : decode M_0.2.2.1 255 = .ok (.invokevirtual 17, 3) := by decide +kernel
theorem d_0_258 : decode M_0.2.2.1 258 = .ok (.if_icmp .eq 1073, 3) := by decide +kernel
theorem d_0_261 : decode M_0.2.2.1 261 = .ok (.iconst 0, 1) := by decide +kernel
theorem d_0_262 : decode M_0.2.2.1 262 = .ok (.ireturn, 1) := by decide +kernel
theorem d_0_263 : decode M_0.2.2.1 263 = .ok (.aload_n 1, 1) := by decide +kernel
theorem d_0_264 : decode M_0.2.2.1 264 = .ok (.aload_n 0, 1) := by decide +kernel
theorem d_0_265 : decode M_0.2.2.1 265 = .ok (.iload_n 3, 1) := by decide +kernel
theorem d_0_266 : decode M_0.2.2.1 266 = .ok (.iconst 1, 1) := by decide +kernel
theorem d_0_267 : decode M_0.2.2.1 267 = .ok (.iadd, 1) := by decide +kernel
theorem d_0_268 : decode M_0.2.2.1 268 = .ok (.iaload, 1) := by decide +kernel
theorem d_0_269 : decode M_0.2.2.1 269 = .ok (.invokevirtual 18, 3) := by decide +kernel
theorem d_0_272 : decode M_0.2.2.1 272 = .ok (.aload_n 2, 1) := by decide +kernel
theorem d_0_273 : decode M_0.2.2.1 273 = .ok (.aload_n 0, 1) := by decide +kernel
theorem d_0_274 : decode M_0.2.2.1 274 = .ok (.iload_n 3, 1) := by decide +kernel
theorem d_0_275 : decode M_0.2.2.1 275 = .ok (.iconst 1, 1) := by decide +kernel
theorem d_0_276 : decode M_0.2.2.1 276 = .ok (.iadd, 1) := by decide +kernel
theorem d_0_277 : decode M_0.2.2.1 277 = .ok (.iaload, 1) := by decide +kernel
theorem d_0_278 : decode M_0.2.2.1 278 = .ok (.invokevirtual 22, 3) := by decide +kernel
theorem d_0_281 : decode M_0.2.2.1 281 = .ok (.if_icmp .eq 1050, 3) := by decide +kernel
theorem d_0_284 : decode M_0.2.2.1 284 = .ok (.iconst 0, 1) := by decide +kernel
theorem d_0_285 : decode M_0.2.2.1 285 = .ok (.ireturn, 1) := by decide +kernel
theorem d_0_286 : decode M_0.2.2.1 286 = .ok (.aload_n 1, 1) := by decide +kernel
theorem d_0_287 : decode M_0.2.2.1 287 = .ok (.aload_n 0, 1) := by decide +kernel
theorem d_0_288 : decode M_0.2.2.1 288 = .ok (.iload_n 3, 1) := by decide +kernel
theorem d_0_289 : decode M_0.2.2.1 289 = .ok (.iconst 1, 1) := by decide +kernel
theorem d_0_290 : decode M_0.2.2.1 290 = .ok (.iadd, 1) := by decide +kernel
theorem d_0_291 : decode M_0.2.2.1 291 = .ok (.iaload, 1) := by decide +kernel
theorem d_0_292 : decode M_0.2.2.1 292 = .ok (.invokevirtual 23, 3) := by decide +kernel
theorem d_0_295 : decode M_0.2.2.1 295 = .ok (.aload_n 2, 1) := by decide +kernel
theorem d_0_296 : decode M_0.2.2.1 296 = .ok (.aload_n 0, 1) := by decide +kernel
theorem d_0_297 : decode M_0.2.2.1 297 = .ok (.iload_n 3, 1) := by decide +kernel
theorem d_0_298 : decode M_0.2.2.1 298 = .ok (.iconst 1, 1) := by decide +kernel
theorem d_0_299 : decode M_0.2.2.1 299 = .ok (.iadd, 1) := by decide +kernel
theorem d_0_300 : decode M_0.2.2.1 300 = .ok (.iaload, 1) := by decide +kernel
theorem d_0_301 : decode M_0.2.2.1 301 = .ok (.invokevirtual 26, 3) := by decide +kernel
theorem d_0_304 : decode M_0.2.2.1 304 = .ok (.if_icmp .eq 1027, 3) := by decide +kernel
theorem d_0_307 : decode M_0.2.2.1 307 = .ok (.iconst 0, 1) := by decide +kernel
theorem d_0_308 : decode M_0.2.2.1 308 = .ok (.ireturn, 1) := by decide +kernel
theorem d_0_309 : decode M_0.2.2.1 309 = .ok (.aload_n 1, 1) := by decide +kernel
theorem d_0_310 : decode M_0.2.2.1 310 = .ok (.aload_n 0, 1) := by decide +kernel
theorem d_0_311 : decode M_0.2.2.1 311 = .ok (.iload_n 3, 1) := by decide +kernel
theorem d_0_312 : decode M_0.2.2.1 312 = .ok (.iconst 1, 1) := by decide +kernel
theorem d_0_313 : decode M_0.2.2.1 313 = .ok (.iadd, 1) := by decide +kernel
theorem d_0_314 : decode M_0.2.2.1 314 = .ok (.iaload, 1) := by decide +kernel
theorem d_0_315 : decode M_0.2.2.1 315 = .ok (.aload_n 0, 1) := by decide +kernel
theorem d_0_316 : decode M_0.2.2.1 316 = .ok (.iload_n 3, 1) := by decide +kernel
theorem d_0_317 : decode M_0.2.2.1 317 = .ok (.iconst 2, 1) := by decide +kernel
theorem d_0_318 : decode M_0.2.2.1 318 = .ok (.iadd, 1) := by decide +kernel
theorem d_0_319 : decode M_0.2.2.1 319 = .ok (.iaload, 1) := by decide +kernel
theorem d_0_320 : decode M_0.2.2.1 320 = .ok (.invokevirtual 27, 3) := by decide +kernel
theorem d_0_323 : decode M_0.2.2.1 323 = .ok (.aload_n 2, 1) := by decide +kernel
theorem d_0_324 : decode M_0.2.2.1 324 = .ok (.aload_n 0, 1) := by decide +kernel
theorem d_0_325 : decode M_0.2.2.1 325 = .ok (.iload_n 3, 1) := by decide +kernel
theorem d_0_326 : decode M_0.2.2.1 326 = .ok (.iconst 1, 1) := by decide +kernel
theorem d_0_327 : decode M_0.2.2.1 327 = .ok (.iadd, 1) := by decide +kernel
theorem d_0_328 : decode M_0.2.2.1 328 = .ok (.iaload, 1) := by decide +kernel
theorem d_0_329 : decode M_0.2.2.1 329 = .ok (.aload_n 0, 1) := by decide +kernel
theorem d_0_330 : decode M_0.2.2.1 330 = .ok (.iload_n 3, 1) := by decide +kernel
theorem d_0_331 : decode M_0.2.2.1 331 = .ok (.iconst 2, 1) := by decide +kernel
theorem d_0_332 : decode M_0.2.2.1 332 = .ok (.iadd, 1) := by decide +kernel
theorem d_0_333 : decode M_0.2.2.1 333 = .ok (.iaload, 1) := by decide +kernel
theorem d_0_334 : decode M_0.2.2.1 334 = .ok (.invokevirtual 31, 3) := by decide +kernel
theorem d_0_337 : decode M_0.2.2.1 337 = .ok (.if_icmp .eq 994, 3) := by decide +kernel
theorem d_0_340 : decode M_0.2.2.1 340 = .ok (.iconst 0, 1) := by decide +kernel
theorem d_0_341 : decode M_0.2.2.1 341 = .ok (.ireturn, 1) := by decide +kernel
theorem d_0_342 : decode M_0.2.2.1 342 = .ok (.aload_n 1, 1) := by decide +kernel
theorem d_0_343 : decode M_0.2.2.1 343 = .ok (.aload_n 0, 1) := by decide +kernel
theorem d_0_344 : decode M_0.2.2.1 344 = .ok (.iload_n 3, 1) := by decide +kernel
theorem d_0_345 : decode M_0.2.2.1 345 = .ok (.iconst 1, 1) := by decide +kernel
theorem d_0_346 : decode M_0.2.2.1 346 = .ok (.iadd, 1) := by decide +kernel
theorem d_0_347 : decode M_0.2.2.1 347 = .ok (.iaload, 1) := by decide +kernel
theorem d_0_348 : decode M_0.2.2.1 348 = .ok (.aload_n 0, 1) := by decide +kernel
theorem d_0_349 : decode M_0.2.2.1 349 = .ok (.iload_n 3, 1) := by decide +kernel
theorem d_0_350 : decode M_0.2.2.1 350 = .ok (.iconst 2, 1) := by decide +kernel
theorem d_0_351 : decode M_0.2.2.1 351 = .ok (.iadd, 1) := by decide +kernel
theorem d_0_352 : decode M_0.2.2.1 352 = .ok (.iaload, 1) := by decide +kernel
theorem d_0_353 : decode M_0.2.2.1 353 = .ok (.invokevirtual 32, 3) := by decide +kernel
theorem d_0_356 : decode M_0.2.2.1 356 = .ok (.aload_n 2, 1) := by decide +kernel
theorem d_0_357 : decode M_0.2.2.1 357 = .ok (.aload_n 0, 1) := by decide +kernel
theorem d_0_358 : decode M_0.2.2.1 358 = .ok (.iload_n 3, 1) := by decide +kernel
theorem d_0_359 : decode M_0.2.2.1 359 = .ok (.iconst 1, 1) := by decide +kernel
theorem d_0_360 : decode M_0.2.2.1 360 = .ok (.iadd, 1) := by decide +kernel
theorem d_0_361 : decode M_0.2.2.1 361 = .ok (.iaload, 1) := by decide +kernel
theorem d_0_362 : decode M_0.2.2.1 362 = .ok (.aload_n 0, 1) := by decide +kernel
theorem d_0_363 : decode M_0.2.2.1 363 = .ok (.iload_n 3, 1) := by decide +kernel
theorem d_0_364 : decode M_0.2.2.1 364 = .ok (.iconst 2, 1) := by decide +kernel
theorem d_0_365 : decode M_0.2.2.1 365 = .ok (.iadd, 1) := by decide +kernel
theorem d_0_366 : decode M_0.2.2.1 366 = .ok (.iaload, 1) := by decide +kernel
theorem d_0_367 : decode M_0.2.2.1 367 = .ok (.invokevirtual 35, 3) := by decide +kernel
theorem d_0_370 : decode M_0.2.2.1 370 = .ok (.if_icmp .eq 961, 3) := by decide +kernel
theorem d_0_373 : decode M_0.2.2.1 373 = .ok (.iconst 0, 1) := by decide +kernel
theorem d_0_374 : decode M_0.2.2.1 374 = .ok (.ireturn, 1) := by decide +kernel
theorem d_0_375 : decode M_0.2.2.1 375 = .ok (.aload_n 1, 1) := by decide +kernel
theorem d_0_376 : decode M_0.2.2.1 376 = .ok (.aload_n 0, 1) := by decide +kernel
theorem d_0_377 : decode M_0.2.2.1 377 = .ok (.iload_n 3, 1) := by decide +kernel
theorem d_0_378 : decode M_0.2.2.1 378 = .ok (.iconst 1, 1) := by decide +kernel
theorem d_0_379 : decode M_0.2.2.1 379 = .ok (.iadd, 1) := by decide +kernel
theorem d_0_380 : decode M_0.2.2.1 380 = .ok (.iaload, 1) := by decide +kernel
theorem d_0_381 : decode M_0.2.2.1 381 = .ok (.invokevirtual 36, 3) := by decide +kernel
theorem d_0_384 : decode M_0.2.2.1 384 = .ok (.aload_n 2, 1) := by decide +kernel
theorem d_0_385 : decode M_0.2.2.1 385 = .ok (.aload_n 0, 1) := by decide +kernel
theorem d_0_386 : decode M_0.2.2.1 386 = .ok (.iload_n 3, 1) := by decide +kernel
theorem d_0_387 : decode M_0.2.2.1 387 = .ok (.iconst 1, 1) := by decide +kernel
theorem d_0_388 : decode M_0.2.2.1 388 = .ok (.iadd, 1) := by decide +kernel
theorem d_0_389 : decode M_0.2.2.1 389 = .ok (.iaload, 1) := by decide +kernel
theorem d_0_390 : decode M_0.2.2.1 390 = .ok (.invokevirtual 39, 3) := by decide +kernel
theorem d_0_393 : decode M_0.2.2.1 393 = .ok (.if_icmp .eq 938, 3) := by decide +kernel
theorem d_0_396 : decode M_0.2.2.1 396 = .ok (.iconst 0, 1) := by decide +kernel
theorem d_0_397 : decode M_0.2.2.1 397 = .ok (.ireturn, 1) := by decide +kernel
theorem d_0_398 : decode M_0.2.2.1 398 = .ok (.aload_n 1, 1) := by decide +kernel
theorem d_0_399 : decode M_0.2.2.1 399 = .ok (.aload_n 0, 1) := by decide +kernel
theorem d_0_400 : decode M_0.2.2.1 400 = .ok (.iload_n 3, 1) := by decide +kernel
theorem d_0_401 : decode M_0.2.2.1 401 = .ok (.iconst 1, 1) := by decide +kernel
theorem d_0_402 : decode M_0.2.2.1 402 = .ok (.iadd, 1) := by decide +kernel
theorem d_0_403 : decode M_0.2.2.1 403 = .ok (.iaload, 1) := by decide +kernel
theorem d_0_404 : decode M_0.2.2.1 404 = .ok (.aload_n 0, 1) := by decide +kernel
theorem d_0_405 : decode M_0.2.2.1 405 = .ok (.iload_n 3, 1) := by decide +kernel
theorem d_0_406 : decode M_0.2.2.1 406 = .ok (.iconst 2, 1) := by decide +kernel
theorem d_0_407 : decode M_0.2.2.1 407 = .ok (.iadd, 1) := by decide +kernel
theorem d_0_408 : decode M_0.2.2.1 408 = .ok (.iaload, 1) := by decide +kernel
theorem d_0_409 : decode M_0.2.2.1 409 = .ok (.invokevirtual 40, 3) := by decide +kernel
theorem d_0_412 : decode M_0.2.2.1 412 = .ok (.aload_n 2, 1) := by decide +kernel
theorem d_0_413 : decode M_0.2.2.1 413 = .ok (.aload_n 0, 1) := by decide +kernel
theorem d_0_414 : decode M_0.2.2.1 414 = .ok (.iload_n 3, 1) := by decide +kernel
theorem d_0_415 : decode M_0.2.2.1 415 = .ok (.iconst 1, 1) := by decide +kernel
theorem d_0_416 : decode M_0.2.2.1 416 = .ok (.iadd, 1) := by decide +kernel
theorem d_0_417 : decode M_0.2.2.1 417 = .ok (.iaload, 1) := by decide +kernel
theorem d_0_418 : decode M_0.2.2.1 418 = .ok (.aload_n 0, 1) := by decide +kernel
theorem d_0_419 : decode M_0.2.2.1 419 = .ok (.iload_n 3, 1) := by decide +kernel
theorem d_0_420 : decode M_0.2.2.1 420 = .ok (.iconst 2, 1) := by decide +kernel
theorem d_0_421 : decode M_0.2.2.1 421 = .ok (.iadd, 1) := by decide +kernel
theorem d_0_422 : decode M_0.2.2.1 422 = .ok (.iaload, 1) := by decide +kernel
theorem d_0_423 : decode M_0.2.2.1 423 = .ok (.invokevirtual 43, 3) := by decide +kernel
theorem d_0_426 : decode M_0.2.2.1 426 = .ok (.if_icmp .eq 905, 3) := by decide +kernel
theorem d_0_429 : decode M_0.2.2.1 429 = .ok (.iconst 0, 1) := by decide +kernel
theorem d_0_430 : decode M_0.2.2.1 430 = .ok (.ireturn, 1) := by decide +kernel
theorem d_0_431 : decode M_0.2.2.1 431 = .ok (.aload_n 1, 1) := by decide +kernel
theorem d_0_432 : decode M_0.2.2.1 432 = .ok (.aload_n 0, 1) := by decide +kernel
theorem d_0_433 : decode M_0.2.2.1 433 = .ok (.iload_n 3, 1) := by decide +kernel
theorem d_0_434 : decode M_0.2.2.1 434 = .ok (.iconst 1, 1) := by decide +kernel
theorem d_0_435 : decode M_0.2.2.1 435 = .ok (.iadd, 1) := by decide +kernel
theorem d_0_436 : decode M_0.2.2.1 436 = .ok (.iaload, 1) := by decide +kernel
theorem d_0_437 : decode M_0.2.2.1 437 = .ok (.invokevirtual 44, 3) := by decide +kernel
theorem d_0_440 : decode M_0.2.2.1 440 = .ok (.aload_n 2, 1) := by decide +kernel
theorem d_0_441 : decode M_0.2.2.1 441 = .ok (.aload_n 0, 1) := by decide +kernel
theorem d_0_442 : decode M_0.2.2.1 442 = .ok (.iload_n 3, 1) := by decide +kernel
theorem d_0_443 : decode M_0.2.2.1 443 = .ok (.iconst 1, 1) := by decide +kernel
theorem d_0_444 : decode M_0.2.2.1 444 = .ok (.iadd, 1) := by decide +kernel
theorem d_0_445 : decode M_0.2.2.1 445 = .ok (.iaload, 1) := by decide +kernel
theorem d_0_446 : decode M_0.2.2.1 446 = .ok (.invokevirtual 47, 3) := by decide +kernel
theorem d_0_449 : decode M_0.2.2.1 449 = .ok (.if_icmp .eq 882, 3) := by decide +kernel
theorem d_0_452 : decode M_0.2.2.1 452 = .ok (.iconst 0, 1) := by decide +kernel
theorem d_0_453 : decode M_0.2.2.1 453 = .ok (.ireturn, 1) := by decide +kernel
theorem d_0_454 : decode M_0.2.2.1 454 = .ok (.aload_n 1, 1) := by decide +kernel
theorem d_0_455 : decode M_0.2.2.1 455 = .ok (.aload_n 0, 1) := by decide +kernel
theorem d_0_456 : decode M_0.2.2.1 456 = .ok (.iload_n 3, 1) := by decide +kernel
theorem d_0_457 : decode M_0.2.2.1 457 = .ok (.iconst 1, 1) := by decide +kernel
theorem d_0_458 : decode M_0.2.2.1 458 = .ok (.iadd, 1) := by decide +kernel
theorem d_0_459 : decode M_0.2.2.1 459 = .ok (.iaload, 1) := by decide +kernel
theorem d_0_460 : decode M_0.2.2.1 460 = .ok (.aload_n 0, 1) := by decide +kernel
theorem d_0_461 : decode M_0.2.2.1 461 = .ok (.iload_n 3, 1) := by decide +kernel
theorem d_0_462 : decode M_0.2.2.1 462 = .ok (.iconst 2, 1) := by decide +kernel
theorem d_0_463 : decode M_0.2.2.1 463 = .ok (.iadd, 1) := by decide +kernel
theorem d_0_464 : decode M_0.2.2.1 464 = .ok (.iaload, 1) := by decide +kernel
theorem d_0_465 : decode M_0.2.2.1 465 = .ok (.invokevirtual 48, 3) := by decide +kernel
theorem d_0_468 : decode M_0.2.2.1 468 = .ok (.aload_n 2, 1) := by decide +kernel
theorem d_0_469 : decode M_0.2.2.1 469 = .ok (.aload_n 0, 1) := by decide +kernel
theorem d_0_470 : decode M_0.2.2.1 470 = .ok (.iload_n 3, 1) := by decide +kernel
theorem d_0_471 : decode M_0.2.2.1 471 = .ok (.iconst 1, 1) := by decide +kernel
theorem d_0_472 : decode M_0.2.2.1 472 = .ok (.iadd, 1) := by decide +kernel
theorem d_0_473 : decode M_0.2.2.1 473 = .ok (.iaload, 1) := by decide +kernel
theorem d_0_474 : decode M_0.2.2.1 474 = .ok (.aload_n 0, 1) := by decide +kernel
theorem d_0_475 : decode M_0.2.2.1 475 = .ok (.iload_n 3, 1) := by decide +kernel
theorem d_0_476 : decode M_0.2.2.1 476 = .ok (.iconst 2, 1) := by decide +kernel
theorem d_0_477 : decode M_0.2.2.1 477 = .ok (.iadd, 1) := by decide +kernel
theorem d_0_478 : decode M_0.2.2.1 478 = .ok (.iaload, 1) := by decide +kernel
theorem d_0_479 : decode M_0.2.2.1 479 = .ok (.invokevirtual 51, 3) := by decide +kernel
theorem d_0_482 : decode M_0.2.2.1 482 = .ok (.if_icmp .eq 849, 3) := by decide +kernel
theorem d_0_485 : decode M_0.2.2.1 485 = .ok (.iconst 0, 1) := by decide +kernel
theorem d_0_486 : decode M_0.2.2.1 486 = .ok (.ireturn, 1) := by decide +kernel
theorem d_0_487 : decode M_0.2.2.1 487 = .ok (.aload_n 1, 1) := by decide +kernel
theorem d_0_488 : decode M_0.2.2.1 488 = .ok (.aload_n 0, 1) := by decide +kernel
theorem d_0_489 : decode M_0.2.2.1 489 = .ok (.iload_n 3, 1) := by decide +kernel
theorem d_0_490 : decode M_0.2.2.1 490 = .ok (.iconst 1, 1) := by decide +kernel
theorem d_0_491 : decode M_0.2.2.1 491 = .ok (.iadd, 1) := by decide +kernel
theorem d_0_492 : decode M_0.2.2.1 492 = .ok (.iaload, 1) := by decide +kernel
theorem d_0_493 : decode M_0.2.2.1 493 = .ok (.invokevirtual 52, 3) := by decide +kernel
theorem d_0_496 : decode M_0.2.2.1 496 = .ok (.aload_n 2, 1) := by decide +kernel
theorem d_0_497 : decode M_0.2.2.1 497 = .ok (.aload_n 0, 1) := by decide +kernel
theorem d_0_498 : decode M_0.2.2.1 498 = .ok (.iload_n 3, 1) := by decide +kernel
theorem d_0_499 : decode M_0.2.2.1 499 = .ok (.iconst 1, 1) := by decide +kernel
theorem d_0_500 : decode M_0.2.2.1 500 = .ok (.iadd, 1) := by decide +kernel
theorem d_0_501 : decode M_0.2.2.1 501 = .ok (.iaload, 1) := by decide +kernel
theorem d_0_502 : decode M_0.2.2.1 502 = .ok (.invokevirtual 55, 3) := by decide +kernel
theorem d_0_505 : decode M_0.2.2.1 505 = .ok (.if_icmp .eq 826, 3) := by decide +kernel
theorem d_0_508 : decode M_0.2.2.1 508 = .ok (.iconst 0, 1) := by decide +kernel
theorem d_0_509 : decode M_0.2.2.1 509 = .ok (.ireturn, 1) := by decide +kernel
theorem d_0_510 : decode M_0.2.2.1 510 = .ok (.aload_n 1, 1) := by decide +kernel
theorem d_0_511 : decode M_0.2.2.1 511 = .ok (.aload_n 0, 1) := by decide +kernel
theorem d_0_512 : decode M_0.2.2.1 512 = .ok (.iload_n 3, 1) := by decide +kernel
theorem d_0_513 : decode M_0.2.2.1 513 = .ok (.iconst 1, 1) := by decide +kernel
theorem d_0_514 : decode M_0.2.2.1 514 = .ok (.iadd, 1) := by decide +kernel
theorem d_0_515 : decode M_0.2.2.1 515 = .ok (.iaload, 1) := by decide +kernel
theorem d_0_516 : decode M_0.2.2.1 516 = .ok (.aload_n 0, 1) := by decide +kernel
theorem d_0_517 : decode M_0.2.2.1 517 = .ok (.iload_n 3, 1) := by decide +kernel
theorem d_0_518 : decode M_0.2.2.1 518 = .ok (.iconst 2, 1) := by decide +kernel
theorem d_0_519 : decode M_0.2.2.1 519 = .ok (.iadd, 1) := by decide +kernel
theorem d_0_520 : decode M_0.2.2.1 520 = .ok (.iaload, 1) := by decide +kernel
theorem d_0_521 : decode M_0.2.2.1 521 = .ok (.invokevirtual 56, 3) := by decide +kernel
theorem d_0_524 : decode M_0.2.2.1 524 = .ok (.aload_n 2, 1) := by decide +kernel
theorem d_0_525 : decode M_0.2.2.1 525 = .ok (.aload_n 0, 1) := by decide +kernel
theorem d_0_526 : decode M_0.2.2.1 526 = .ok (.iload_n 3, 1) := by decide +kernel
theorem d_0_527 : decode M_0.2.2.1 527 = .ok (.iconst 1, 1) := by decide +kernel
theorem d_0_528 : decode M_0.2.2.1 528 = .ok (.iadd, 1) := by decide +kernel
theorem d_0_529 : decode M_0.2.2.1 529 = .ok (.iaload, 1) := by decide +kernel
theorem d_0_530 : decode M_0.2.2.1 530 = .ok (.aload_n 0, 1) := by decide +kernel
theorem d_0_531 : decode M_0.2.2.1 531 = .ok (.iload_n 3, 1) := by decide +kernel
theorem d_0_532 : decode M_0.2.2.1 532 = .ok (.iconst 2, 1) := by decide +kernel
theorem d_0_533 : decode M_0.2.2.1 533 = .ok (.iadd, 1) := by decide +kernel
theorem d_0_534 : decode M_0.2.2.1 534 = .ok (.iaload, 1) := by decide +kernel
theorem d_0_535 : decode M_0.2.2.1 535 = .ok (.invokevirtual 59, 3) := by decide +kernel
theorem d_0_538 : decode M_0.2.2.1 538 = .ok (.if_icmp .eq 793, 3) := by decide +kernel
theorem d_0_541 : decode M_0.2.2.1 541 = .ok (.iconst 0, 1) := by decide +kernel
theorem d_0_542 : decode M_0.2.2.1 542 = .ok (.ireturn, 1) := by decide +kernel
theorem d_0_543 : decode M_0.2.2.1 543 = .ok (.aload_n 1, 1) := by decide +kernel
theorem d_0_544 : decode M_0.2.2.1 544 = .ok (.aload_n 0, 1) := by decide +kernel
theorem d_0_545 : decode M_0.2.2.1 545 = .ok (.iload_n 3, 1) := by decide +kernel
theorem d_0_546 : decode M_0.2.2.1 546 = .ok (.iconst 1, 1) := by decide +kernel
theorem d_0_547 : decode M_0.2.2.1 547 = .ok (.iadd, 1) := by decide +kernel
theorem d_0_548 : decode M_0.2.2.1 548 = .ok (.iaload, 1) := by decide +kernel
theorem d_0_549 : decode M_0.2.2.1 549 = .ok (.invokevirtual 60, 3) := by decide +kernel
theorem d_0_552 : decode M_0.2.2.1 552 = .ok (.aload_n 2, 1) := by decide +kernel
theorem d_0_553 : decode M_0.2.2.1 553 = .ok (.aload_n 0, 1) := by decide +kernel
theorem d_0_554 : decode M_0.2.2.1 554 = .ok (.iload_n 3, 1) := by decide +kernel
theorem d_0_555 : decode M_0.2.2.1 555 = .ok (.iconst 1, 1) := by decide +kernel
theorem d_0_556 : decode M_0.2.2.1 556 = .ok (.iadd, 1) := by decide +kernel
theorem d_0_557 : decode M_0.2.2.1 557 = .ok (.iaload, 1) := by decide +kernel
theorem d_0_558 : decode M_0.2.2.1 558 = .ok (.invokevirtual 63, 3) := by decide +kernel
theorem d_0_561 : decode M_0.2.2.1 561 = .ok (.if_icmp .eq 770, 3) := by decide +kernel
theorem d_0_564 : decode M_0.2.2.1 564 = .ok (.iconst 0, 1) := by decide +kernel
theorem d_0_565 : decode M_0.2.2.1 565 = .ok (.ireturn, 1) := by decide +kernel
theorem d_0_566 : decode M_0.2.2.1 566 = .ok (.aload_n 1, 1) := by decide +kernel
theorem d_0_567 : decode M_0.2.2.1 567 = .ok (.aload_n 0, 1) := by decide +kernel
theorem d_0_568 : decode M_0.2.2.1 568 = .ok (.iload_n 3, 1) := by decide +kernel
theorem d_0_569 : decode M_0.2.2.1 569 = .ok (.iconst 1, 1) := by decide +kernel
theorem d_0_570 : decode M_0.2.2.1 570 = .ok (.iadd, 1) := by decide +kernel
theorem d_0_571 : decode M_0.2.2.1 571 = .ok (.iaload, 1) := by decide +kernel
theorem d_0_572 : decode M_0.2.2.1 572 = .ok (.aload_n 0, 1) := by decide +kernel
theorem d_0_573 : decode M_0.2.2.1 573 = .ok (.iload_n 3, 1) := by decide +kernel
theorem d_0_574 : decode M_0.2.2.1 574 = .ok (.iconst 2, 1) := by decide +kernel
theorem d_0_575 : decode M_0.2.2.1 575 = .ok (.iadd, 1) := by decide +kernel
theorem d_0_576 : decode M_0.2.2.1 576 = .ok (.iaload, 1) := by decide +kernel
theorem d_0_577 : decode M_0.2.2.1 577 = .ok (.invokevirtual 64, 3) := by decide +kernel
theorem d_0_580 : decode M_0.2.2.1 580 = .ok (.aload_n 2, 1) := by decide +kernel
theorem d_0_581 : decode M_0.2.2.1 581 = .ok (.aload_n 0, 1) := by decide +kernel
theorem d_0_582 : decode M_0.2.2.1 582 = .ok (.iload_n 3, 1) := by decide +kernel
theorem d_0_583 : decode M_0.2.2.1 583 = .ok (.iconst 1, 1) := by decide +kernel
theorem d_0_584 : decode M_0.2.2.1 584 = .ok (.iadd, 1) := by decide +kernel
theorem d_0_585 : decode M_0.2.2.1 585 = .ok (.iaload, 1) := by decide +kernel
theorem d_0_586 : decode M_0.2.2.1 586 = .ok (.aload_n 0, 1) := by decide +kernel
theorem d_0_587 : decode M_0.2.2.1 587 = .ok (.iload_n 3, 1) := by decide +kernel
theorem d_0_588 : decode M_0.2.2.1 588 = .ok (.iconst 2, 1) := by decide +kernel
theorem d_0_589 : decode M_0.2.2.1 589 = .ok (.iadd, 1) := by decide +kernel
theorem d_0_590 : decode M_0.2.2.1 590 = .ok (.iaload, 1) := by decide +kernel
theorem d_0_591 : decode M_0.2.2.1 591 = .ok (.invokevirtual 67, 3) := by decide +kernel
theorem d_0_594 : decode M_0.2.2.1 594 = .ok (.if_icmp .eq 737, 3) := by decide +kernel
theorem d_0_597 : decode M_0.2.2.1 597 = .ok (.iconst 0, 1) := by decide +kernel
theorem d_0_598 : decode M_0.2.2.1 598 = .ok (.ireturn, 1) := by decide +kernel
theorem d_0_599 : decode M_0.2.2.1 599 = .ok (.aload_n 1, 1) := by decide +kernel
theorem d_0_600 : decode M_0.2.2.1 600 = .ok (.aload_n 0, 1) := by decide +kernel
theorem d_0_601 : decode M_0.2.2.1 601 = .ok (.iload_n 3, 1) := by decide +kernel
theorem d_0_602 : decode M_0.2.2.1 602 = .ok (.iconst 1, 1) := by decide +kernel
theorem d_0_603 : decode M_0.2.2.1 603 = .ok (.iadd, 1) := by decide +kernel
theorem d_0_604 : decode M_0.2.2.1 604 = .ok (.iaload, 1) := by decide +kernel
theorem d_0_605 : decode M_0.2.2.1 605 = .ok (.aload_n 0, 1) := by decide +kernel
theorem d_0_606 : decode M_0.2.2.1 606 = .ok (.iload_n 3, 1) := by decide +kernel
theorem d_0_607 : decode M_0.2.2.1 607 = .ok (.iconst 2, 1) := by decide +kernel
theorem d_0_608 : decode M_0.2.2.1 608 = .ok (.iadd, 1) := by decide +kernel
theorem d_0_609 : decode M_0.2.2.1 609 = .ok (.iaload, 1) := by decide +kernel
theorem d_0_610 : decode M_0.2.2.1 610 = .ok (.invokevirtual 68, 3) := by decide +kernel
theorem d_0_613 : decode M_0.2.2.1 613 = .ok (.aload_n 2, 1) := by decide +kernel
theorem d_0_614 : decode M_0.2.2.1 614 = .ok (.aload_n 0, 1) := by decide +kernel
theorem d_0_615 : decode M_0.2.2.1 615 = .ok (.iload_n 3, 1) := by decide +kernel
theorem d_0_616 : decode M_0.2.2.1 616 = .ok (.iconst 1, 1) := by decide +kernel
theorem d_0_617 : decode M_0.2.2.1 617 = .ok (.iadd, 1) := by decide +kernel
theorem d_0_618 : decode M_0.2.2.1 618 = .ok (.iaload, 1) := by decide +kernel
theorem d_0_619 : decode M_0.2.2.1 619 = .ok (.aload_n 0, 1) := by decide +kernel
theorem d_0_620 : decode M_0.2.2.1 620 = .ok (.iload_n 3, 1) := by decide +kernel
theorem d_0_621 : decode M_0.2.2.1 621 = .ok (.iconst 2, 1) := by decide +kernel
theorem d_0_622 : decode M_0.2.2.1 622 = .ok (.iadd, 1) := by decide +kernel
theorem d_0_623 : decode M_0.2.2.1 623 = .ok (.iaload, 1) := by decide +kernel
theorem d_0_624 : decode M_0.2.2.1 624 = .ok (.invokevirtual 71, 3) := by decide +kernel
theorem d_0_627 : decode M_0.2.2.1 627 = .ok (.if_icmp .eq 704, 3) := by decide +kernel
theorem d_0_630 : decode M_0.2.2.1 630 = .ok (.iconst 0, 1) := by decide +kernel
theorem d_0_631 : decode M_0.2.2.1 631 = .ok (.ireturn, 1) := by decide +kernel
theorem d_0_632 : decode M_0.2.2.1 632 = .ok (.aload_n 1, 1) := by decide +kernel
theorem d_0_633 : decode M_0.2.2.1 633 = .ok (.aload_n 0, 1) := by decide +kernel
theorem d_0_634 : decode M_0.2.2.1 634 = .ok (.iload_n 3, 1) := by decide +kernel
theorem d_0_635 : decode M_0.2.2.1 635 = .ok (.iconst 1, 1) := by decide +kernel
theorem d_0_636 : decode M_0.2.2.1 636 = .ok (.iadd, 1) := by decide +kernel
theorem d_0_637 : decode M_0.2.2.1 637 = .ok (.iaload, 1) := by decide +kernel
theorem d_0_638 : decode M_0.2.2.1 638 = .ok (.invokevirtual 72, 3) := by decide +kernel
theorem d_0_641 : decode M_0.2.2.1 641 = .ok (.aload_n 2, 1) := by decide +kernel
theorem d_0_642 : decode M_0.2.2.1 642 = .ok (.aload_n 0, 1) := by decide +kernel
theorem d_0_643 : decode M_0.2.2.1 643 = .ok (.iload_n 3, 1) := by decide +kernel
theorem d_0_644 : decode M_0.2.2.1 644 = .ok (.iconst 1, 1) := by decide +kernel
theorem d_0_645 : decode M_0.2.2.1 645 = .ok (.iadd, 1) := by decide +kernel
theorem d_0_646 : decode M_0.2.2.1 646 = .ok (.iaload, 1) := by decide +kernel
theorem d_0_647 : decode M_0.2.2.1 647 = .ok (.invokevirtual 75, 3) := by decide +kernel
theorem d_0_650 : decode M_0.2.2.1 650 = .ok (.if_icmp .eq 681, 3) := by decide +kernel
theorem d_0_653 : decode M_0.2.2.1 653 = .ok (.iconst 0, 1) := by decide +kernel
theorem d_0_654 : decode M_0.2.2.1 654 = .ok (.ireturn, 1) := by decide +kernel
theorem d_0_655 : decode M_0.2.2.1 655 = .ok (.aload_n 1, 1) := by decide +kernel
theorem d_0_656 : decode M_0.2.2.1 656 = .ok (.aload_n 0, 1) := by decide +kernel
theorem d_0_657 : decode M_0.2.2.1 657 = .ok (.iload_n 3, 1) := by decide +kernel
theorem d_0_658 : decode M_0.2.2.1 658 = .ok (.iconst 1, 1) := by decide +kernel
theorem d_0_659 : decode M_0.2.2.1 659 = .ok (.iadd, 1) := by decide +kernel
theorem d_0_660 : decode M_0.2.2.1 660 = .ok (.iaload, 1) := by decide +kernel
theorem d_0_661 : decode M_0.2.2.1 661 = .ok (.invokevirtual 76, 3) := by decide +kernel
theorem d_0_664 : decode M_0.2.2.1 664 = .ok (.aload_n 2, 1) := by decide +kernel
theorem d_0_665 : decode M_0.2.2.1 665 = .ok (.aload_n 0, 1) := by decide +kernel
theorem d_0_666 : decode M_0.2.2.1 666 = .ok (.iload_n 3, 1) := by decide +kernel
theorem d_0_667 : decode M_0.2.2.1 667 = .ok (.iconst 1, 1) := by decide +kernel
theorem d_0_668 : decode M_0.2.2.1 668 = .ok (.iadd, 1) := by decide +kernel
theorem d_0_669 : decode M_0.2.2.1 669 = .ok (.iaload, 1) := by decide +kernel
theorem d_0_670 : decode M_0.2.2.1 670 = .ok (.invokevirtual 79, 3) := by decide +kernel
theorem d_0_673 : decode M_0.2.2.1 673 = .ok (.if_icmp .eq 658, 3) := by decide +kernel
theorem d_0_676 : decode M_0.2.2.1 676 = .ok (.iconst 0, 1) := by decide +kernel
theorem d_0_677 : decode M_0.2.2.1 677 = .ok (.ireturn, 1) := by decide +kernel
theorem d_0_678 : decode M_0.2.2.1 678 = .ok (.aload_n 1, 1) := by decide +kernel
theorem d_0_679 : decode M_0.2.2.1 679 = .ok (.aload_n 0, 1) := by decide +kernel
theorem d_0_680 : decode M_0.2.2.1 680 = .ok (.iload_n 3, 1) := by decide +kernel
theorem d_0_681 : decode M_0.2.2.1 681 = .ok (.iconst 1, 1) := by decide +kernel
theorem d_0_682 : decode M_0.2.2.1 682 = .ok (.iadd, 1) := by decide +kernel
theorem d_0_683 : decode M_0.2.2.1 683 = .ok (.iaload, 1) := by decide +kernel
theorem d_0_684 : decode M_0.2.2.1 684 = .ok (.aload_n 0, 1) := by decide +kernel
theorem d_0_685 : decode M_0.2.2.1 685 = .ok (.iload_n 3, 1) := by decide +kernel
theorem d_0_686 : decode M_0.2.2.1 686 = .ok (.iconst 2, 1) := by decide +kernel
theorem d_0_687 : decode M_0.2.2.1 687 = .ok (.iadd, 1) := by decide +kernel
theorem d_0_688 : decode M_0.2.2.1 688 = .ok (.iaload, 1) := by decide +kernel
theorem d_0_689 : decode M_0.2.2.1 689 = .ok (.invokevirtual 80, 3) := by decide +kernel
theorem d_0_692 : decode M_0.2.2.1 692 = .ok (.aload_n 2, 1) := by decide +kernel
theorem d_0_693 : decode M_0.2.2.1 693 = .ok (.aload_n 0, 1) := by decide +kernel
theorem d_0_694 : decode M_0.2.2.1 694 = .ok (.iload_n 3, 1) := by decide +kernel
theorem d_0_695 : decode M_0.2.2.1 695 = .ok (.iconst 1, 1) := by decide +kernel
theorem d_0_696 : decode M_0.2.2.1 696 = .ok (.iadd, 1) := by decide +kernel
theorem d_0_697 : decode M_0.2.2.1 697 = .ok (.iaload, 1) := by decide +kernel
theorem d_0_698 : decode M_0.2.2.1 698 = .ok (.aload_n 0, 1) := by decide +kernel
theorem d_0_699 : decode M_0.2.2.1 699 = .ok (.iload_n 3, 1) := by decide +kernel
theorem d_0_700 : decode M_0.2.2.1 700 = .ok (.iconst 2, 1) := by decide +kernel
theorem d_0_701 : decode M_0.2.2.1 701 = .ok (.iadd, 1) := by decide +kernel
theorem d_0_702 : decode M_0.2.2.1 702 = .ok (.iaload, 1) := by decide +kernel
theorem d_0_703 : decode M_0.2.2.1 703 = .ok (.invokevirtual 83, 3) := by decide +kernel
theorem d_0_706 : decode M_0.2.2.1 706 = .ok (.if_icmp .eq 625, 3) := by decide +kernel
theorem d_0_709 : decode M_0.2.2.1 709 = .ok (.iconst 0, 1) := by decide +kernel
theorem d_0_710 : decode M_0.2.2.1 710 = .ok (.ireturn, 1) := by decide +kernel
theorem d_0_711 : decode M_0.2.2.1 711 = .ok (.aload_n 1, 1) := by decide +kernel
theorem d_0_712 : decode M_0.2.2.1 712 = .ok (.aload_n 0, 1) := by decide +kernel
theorem d_0_713 : decode M_0.2.2.1 713 = .ok (.iload_n 3, 1) := by decide +kernel
theorem d_0_714 : decode M_0.2.2.1 714 = .ok (.iconst 1, 1) := by decide +kernel
theorem d_0_715 : decode M_0.2.2.1 715 = .ok (.iadd, 1) := by decide +kernel
theorem d_0_716 : decode M_0.2.2.1 716 = .ok (.iaload, 1) := by decide +kernel
theorem d_0_717 : decode M_0.2.2.1 717 = .ok (.invokevirtual 84, 3) := by decide +kernel
theorem d_0_720 : decode M_0.2.2.1 720 = .ok (.aload_n 2, 1) := by decide +kernel
theorem d_0_721 : decode M_0.2.2.1 721 = .ok (.aload_n 0, 1) := by decide +kernel
theorem d_0_722 : decode M_0.2.2.1 722 = .ok (.iload_n 3, 1) := by decide +kernel
theorem d_0_723 : decode M_0.2.2.1 723 = .ok (.iconst 1, 1) := by decide +kernel
theorem d_0_724 : decode M_0.2.2.1 724 = .ok (.iadd, 1) := by decide +kernel
theorem d_0_725 : decode M_0.2.2.1 725 = .ok (.iaload, 1) := by decide +kernel
theorem d_0_726 : decode M_0.2.2.1 726 = .ok (.invokevirtual 87, 3) := by decide +kernel
theorem d_0_729 : decode M_0.2.2.1 729 = .ok (.if_icmp .eq 602, 3) := by decide +kernel
theorem d_0_732 : decode M_0.2.2.1 732 = .ok (.iconst 0, 1) := by decide +kernel
theorem d_0_733 : decode M_0.2.2.1 733 = .ok (.ireturn, 1) := by decide +kernel
theorem d_0_734 : decode M_0.2.2.1 734 = .ok (.aload_n 1, 1) := by decide +kernel
theorem d_0_735 : decode M_0.2.2.1 735 = .ok (.aload_n 0, 1) := by decide +kernel
theorem d_0_736 : decode M_0.2.2.1 736 = .ok (.iload_n 3, 1) := by decide +kernel
theorem d_0_737 : decode M_0.2.2.1 737 = .ok (.iconst 1, 1) := by decide +kernel
theorem d_0_738 : decode M_0.2.2.1 738 = .ok (.iadd, 1) := by decide +kernel
theorem d_0_739 : decode M_0.2.2.1 739 = .ok (.iaload, 1) := by decide +kernel
theorem d_0_740 : decode M_0.2.2.1 740 = .ok (.aload_n 0, 1) := by decide +kernel
theorem d_0_741 : decode M_0.2.2.1 741 = .ok (.iload_n 3, 1) := by decide +kernel
theorem d_0_742 : decode M_0.2.2.1 742 = .ok (.iconst 2, 1) := by decide +kernel
theorem d_0_743 : decode M_0.2.2.1 743 = .ok (.iadd, 1) := by decide +kernel
theorem d_0_744 : decode M_0.2.2.1 744 = .ok (.iaload, 1) := by decide +kernel
theorem d_0_745 : decode M_0.2.2.1 745 = .ok (.invokevirtual 88, 3) := by decide +kernel
theorem d_0_748 : decode M_0.2.2.1 748 = .ok (.aload_n 2, 1) := by decide +kernel
theorem d_0_749 : decode M_0.2.2.1 749 = .ok (.aload_n 0, 1) := by decide +kernel
theorem d_0_750 : decode M_0.2.2.1 750 = .ok (.iload_n 3, 1) := by decide +kernel
theorem d_0_751 : decode M_0.2.2.1 751 = .ok (.iconst 1, 1) := by decide +kernel
theorem d_0_752 : decode M_0.2.2.1 752 = .ok (.iadd, 1) := by decide +kernel
theorem d_0_753 : decode M_0.2.2.1 753 = .ok (.iaload, 1) := by decide +kernel
theorem d_0_754 : decode M_0.2.2.1 754 = .ok (.aload_n 0, 1) := by decide +kernel
theorem d_0_755 : decode M_0.2.2.1 755 = .ok (.iload_n 3, 1) := by decide +kernel
theorem d_0_756 : decode M_0.2.2.1 756 = .ok (.iconst 2, 1) := by decide +kernel
theorem d_0_757 : decode M_0.2.2.1 757 = .ok (.iadd, 1) := by decide +kernel
theorem d_0_758 : decode M_0.2.2.1 758 = .ok (.iaload, 1) := by decide +kernel
theorem d_0_759 : decode M_0.2.2.1 759 = .ok (.invokevirtual 91, 3) := by decide +kernel
theorem d_0_762 : decode M_0.2.2.1 762 = .ok (.if_icmp .eq 569, 3) := by decide +kernel
theorem d_0_765 : decode M_0.2.2.1 765 = .ok (.iconst 0, 1) := by decide +kernel
theorem d_0_766 : decode M_0.2.2.1 766 = .ok (.ireturn, 1) := by decide +kernel
theorem d_0_767 : decode M_0.2.2.1 767 = .ok (.aload_n 1, 1) := by decide +kernel
theorem d_0_768 : decode M_0.2.2.1 768 = .ok (.aload_n 0, 1) := by decide +kernel
theorem d_0_769 : decode M_0.2.2.1 769 = .ok (.iload_n 3, 1) := by decide +kernel
theorem d_0_770 : decode M_0.2.2.1 770 = .ok (.iconst 1, 1) := by decide +kernel
theorem d_0_771 : decode M_0.2.2.1 771 = .ok (.iadd, 1) := by decide +kernel
theorem d_0_772 : decode M_0.2.2.1 772 = .ok (.iaload, 1) := by decide +kernel
theorem d_0_773 : decode M_0.2.2.1 773 = .ok (.aload_n 0, 1) := by decide +kernel
theorem d_0_774 : decode M_0.2.2.1 774 = .ok (.iload_n 3, 1) := by decide +kernel
theorem d_0_775 : decode M_0.2.2.1 775 = .ok (.iconst 2, 1) := by decide +kernel
theorem d_0_776 : decode M_0.2.2.1 776 = .ok (.iadd, 1) := by decide +kernel
theorem d_0_777 : decode M_0.2.2.1 777 = .ok (.iaload, 1) := by decide +kernel
theorem d_0_778 : decode M_0.2.2.1 778 = .ok (.ifCond .eq 7, 3) := by decide +kernel
theorem d_0_781 : decode M_0.2.2.1 781 = .ok (.iconst 1, 1) := by decide +kernel
theorem d_0_782 : decode M_0.2.2.1 782 = .ok (.goto 4, 3) := by decide +kernel
theorem d_0_785 : decode M_0.2.2.1 785 = .ok (.iconst 0, 1) := by decide +kernel
theorem d_0_786 : decode M_0.2.2.1 786 = .ok (.invokevirtual 92, 3) := by decide +kernel
theorem d_0_789 : decode M_0.2.2.1 789 = .ok (.aload_n 2, 1) := by decide +kernel
theorem d_0_790 : decode M_0.2.2.1 790 = .ok (.aload_n 0, 1) := by decide +kernel
theorem d_0_791 : decode M_0.2.2.1 791 = .ok (.iload_n 3, 1) := by decide +kernel
theorem d_0_792 : decode M_0.2.2.1 792 = .ok (.iconst 1, 1) := by decide +kernel
theorem d_0_793 : decode M_0.2.2.1 793 = .ok (.iadd, 1) := by decide +kernel
theorem d_0_794 : decode M_0.2.2.1 794 = .ok (.iaload, 1) := by decide +kernel
theorem d_0_795 : decode M_0.2.2.1 795 = .ok (.aload_n 0, 1) := by decide +kernel
theorem d_0_796 : decode M_0.2.2.1 796 = .ok (.iload_n 3, 1) := by decide +kernel
theorem d_0_797 : decode M_0.2.2.1 797 = .ok (.iconst 2, 1) := by decide +kernel
theorem d_0_798 : decode M_0.2.2.1 798 = .ok (.iadd, 1) := by decide +kernel
theorem d_0_799 : decode M_0.2.2.1 799 = .ok (.iaload, 1) := by decide +kernel
theorem d_0_800 : decode M_0.2.2.1 800 = .ok (.ifCond .eq 7, 3) := by decide +kernel
theorem d_0_803 : decode M_0.2.2.1 803 = .ok (.iconst 1, 1) := by decide +kernel
theorem d_0_804 : decode M_0.2.2.1 804 = .ok (.goto 4, 3) := by decide +kernel
theorem d_0_807 : decode M_0.2.2.1 807 = .ok (.iconst 0, 1) := by decide +kernel
theorem d_0_808 : decode M_0.2.2.1 808 = .ok (.invokevirtual 96, 3) := by decide +kernel
theorem d_0_811 : decode M_0.2.2.1 811 = .ok (.if_icmp .eq 520, 3) := by decide +kernel
theorem d_0_814 : decode M_0.2.2.1 814 = .ok (.iconst 0, 1) := by decide +kernel
theorem d_0_815 : decode M_0.2.2.1 815 = .ok (.ireturn, 1) := by decide +kernel
theorem d_0_816 : decode M_0.2.2.1 816 = .ok (.aload_n 1, 1) := by decide +kernel
theorem d_0_817 : decode M_0.2.2.1 817 = .ok (.aload_n 0, 1) := by decide +kernel
theorem d_0_818 : decode M_0.2.2.1 818 = .ok (.iload_n 3, 1) := by decide +kernel
theorem d_0_819 : decode M_0.2.2.1 819 = .ok (.iconst 1, 1) := by decide +kernel
theorem d_0_820 : decode M_0.2.2.1 820 = .ok (.iadd, 1) := by decide +kernel
theorem d_0_821 : decode M_0.2.2.1 821 = .ok (.iaload, 1) := by decide +kernel
theorem d_0_822 : decode M_0.2.2.1 822 = .ok (.invokevirtual 97, 3) := by decide +kernel
theorem d_0_825 : decode M_0.2.2.1 825 = .ok (.aload_n 2, 1) := by decide +kernel
theorem d_0_826 : decode M_0.2.2.1 826 = .ok (.aload_n 0, 1) := by decide +kernel
theorem d_0_827 : decode M_0.2.2.1 827 = .ok (.iload_n 3, 1) := by decide +kernel
theorem d_0_828 : decode M_0.2.2.1 828 = .ok (.iconst 1, 1) := by decide +kernel
theorem d_0_829 : decode M_0.2.2.1 829 = .ok (.iadd, 1) := by decide +kernel
theorem d_0_830 : decode M_0.2.2.1 830 = .ok (.iaload, 1) := by decide +kernel
theorem d_0_831 : decode M_0.2.2.1 831 = .ok (.invokevirtual 100, 3) := by decide +kernel
theorem d_0_834 : decode M_0.2.2.1 834 = .ok (.if_icmp .eq 497, 3) := by decide +kernel
theorem d_0_837 : decode M_0.2.2.1 837 = .ok (.iconst 0, 1) := by decide +kernel
theorem d_0_838 : decode M_0.2.2.1 838 = .ok (.ireturn, 1) := by decide +kernel
theorem d_0_839 : decode M_0.2.2.1 839 = .ok (.aload_n 1, 1) := by decide +kernel
theorem d_0_840 : decode M_0.2.2.1 840 = .ok (.aload_n 0, 1) := by decide +kernel
theorem d_0_841 : decode M_0.2.2.1 841 = .ok (.iload_n 3, 1) := by decide +kernel
theorem d_0_842 : decode M_0.2.2.1 842 = .ok (.iconst 1, 1) := by decide +kernel
theorem d_0_843 : decode M_0.2.2.1 843 = .ok (.iadd, 1) := by decide +kernel
theorem d_0_844 : decode M_0.2.2.1 844 = .ok (.iaload, 1) := by decide +kernel
theorem d_0_845 : decode M_0.2.2.1 845 = .ok (.invokevirtual 101, 3) := by decide +kernel
theorem d_0_848 : decode M_0.2.2.1 848 = .ok (.aload_n 2, 1) := by decide +kernel
theorem d_0_849 : decode M_0.2.2.1 849 = .ok (.aload_n 0, 1) := by decide +kernel
theorem d_0_850 : decode M_0.2.2.1 850 = .ok (.iload_n 3, 1) := by decide +kernel
theorem d_0_851 : decode M_0.2.2.1 851 = .ok (.iconst 1, 1) := by decide +kernel
theorem d_0_852 : decode M_0.2.2.1 852 = .ok (.iadd, 1) := by decide +kernel
theorem d_0_853 : decode M_0.2.2.1 853 = .ok (.iaload, 1) := by decide +kernel
theorem d_0_854 : decode M_0.2.2.1 854 = .ok (.invokevirtual 104, 3) := by decide +kernel
theorem d_0_857 : decode M_0.2.2.1 857 = .ok (.if_icmp .eq 474, 3) := by decide +kernel
theorem d_0_860 : decode M_0.2.2.1 860 = .ok (.iconst 0, 1) := by decide +kernel
theorem d_0_861 : decode M_0.2.2.1 861 = .ok (.ireturn, 1) := by decide +kernel
theorem d_0_862 : decode M_0.2.2.1 862 = .ok (.aload_n 1, 1) := by decide +kernel
theorem d_0_863 : decode M_0.2.2.1 863 = .ok (.aload_n 0, 1) := by decide +kernel
theorem d_0_864 : decode M_0.2.2.1 864 = .ok (.iload_n 3, 1) := by decide +kernel
theorem d_0_865 : decode M_0.2.2.1 865 = .ok (.iconst 1, 1) := by decide +kernel
theorem d_0_866 : decode M_0.2.2.1 866 = .ok (.iadd, 1) := by decide +kernel
theorem d_0_867 : decode M_0.2.2.1 867 = .ok (.iaload, 1) := by decide +kernel
theorem d_0_868 : decode M_0.2.2.1 868 = .ok (.aload_n 0, 1) := by decide +kernel
theorem d_0_869 : decode M_0.2.2.1 869 = .ok (.iload_n 3, 1) := by decide +kernel
theorem d_0_870 : decode M_0.2.2.1 870 = .ok (.iconst 2, 1) := by decide +kernel
theorem d_0_871 : decode M_0.2.2.1 871 = .ok (.iadd, 1) := by decide +kernel
theorem d_0_872 : decode M_0.2.2.1 872 = .ok (.iaload, 1) := by decide +kernel
theorem d_0_873 : decode M_0.2.2.1 873 = .ok (.invokevirtual 105, 3) := by decide +kernel
theorem d_0_876 : decode M_0.2.2.1 876 = .ok (.aload_n 2, 1) := by decide +kernel
theorem d_0_877 : decode M_0.2.2.1 877 = .ok (.aload_n 0, 1) := by decide +kernel
theorem d_0_878 : decode M_0.2.2.1 878 = .ok (.iload_n 3, 1) := by decide +kernel
theorem d_0_879 : decode M_0.2.2.1 879 = .ok (.iconst 1, 1) := by decide +kernel
theorem d_0_880 : decode M_0.2.2.1 880 = .ok (.iadd, 1) := by decide +kernel
theorem d_0_881 : decode M_0.2.2.1 881 = .ok (.iaload, 1) := by decide +kernel
theorem d_0_882 : decode M_0.2.2.1 882 = .ok (.aload_n 0, 1) := by decide +kernel
theorem d_0_883 : decode M_0.2.2.1 883 = .ok (.iload_n 3, 1) := by decide +kernel
theorem d_0_884 : decode M_0.2.2.1 884 = .ok (.iconst 2, 1) := by decide +kernel
theorem d_0_885 : decode M_0.2.2.1 885 = .ok (.iadd, 1) := by decide +kernel
theorem d_0_886 : decode M_0.2.2.1 886 = .ok (.iaload, 1) := by decide +kernel
theorem d_0_887 : decode M_0.2.2.1 887 = .ok (.invokevirtual 108, 3) := by decide +kernel
theorem d_0_890 : decode M_0.2.2.1 890 = .ok (.if_icmp .eq 441, 3) := by decide +kernel
theorem d_0_893 : decode M_0.2.2.1 893 = .ok (.iconst 0, 1) := by decide +kernel
theorem d_0_894 : decode M_0.2.2.1 894 = .ok (.ireturn, 1) := by decide +kernel
theorem d_0_895 : decode M_0.2.2.1 895 = .ok (.aload_n 1, 1) := by decide +kernel
theorem d_0_896 : decode M_0.2.2.1 896 = .ok (.aload_n 0, 1) := by decide +kernel
theorem d_0_897 : decode M_0.2.2.1 897 = .ok (.iload_n 3, 1) := by decide +kernel
theorem d_0_898 : decode M_0.2.2.1 898 = .ok (.iconst 1, 1) := by decide +kernel
theorem d_0_899 : decode M_0.2.2.1 899 = .ok (.iadd, 1) := by decide +kernel
theorem d_0_900 : decode M_0.2.2.1 900 = .ok (.iaload, 1) := by decide +kernel
theorem d_0_901 : decode M_0.2.2.1 901 = .ok (.invokevirtual 109, 3) := by decide +kernel
theorem d_0_904 : decode M_0.2.2.1 904 = .ok (.aload_n 2, 1) := by decide +kernel
theorem d_0_905 : decode M_0.2.2.1 905 = .ok (.aload_n 0, 1) := by decide +kernel
theorem d_0_906 : decode M_0.2.2.1 906 = .ok (.iload_n 3, 1) := by decide +kernel
theorem d_0_907 : decode M_0.2.2.1 907 = .ok (.iconst 1, 1) := by decide +kernel
theorem d_0_908 : decode M_0.2.2.1 908 = .ok (.iadd, 1) := by decide +kernel
theorem d_0_909 : decode M_0.2.2.1 909 = .ok (.iaload, 1) := by decide +kernel
theorem d_0_910 : decode M_0.2.2.1 910 = .ok (.invokevirtual 112, 3) := by decide +kernel
theorem d_0_913 : decode M_0.2.2.1 913 = .ok (.if_icmp .eq 418, 3) := by decide +kernel
theorem d_0_916 : decode M_0.2.2.1 916 = .ok (.iconst 0, 1) := by decide +kernel
theorem d_0_917 : decode M_0.2.2.1 917 = .ok (.ireturn, 1) := by decide +kernel
theorem d_0_918 : decode M_0.2.2.1 918 = .ok (.aload_n 1, 1) := by decide +kernel
theorem d_0_919 : decode M_0.2.2.1 919 = .ok (.invokevirtual 113, 3) := by decide +kernel
theorem d_0_922 : decode M_0.2.2.1 922 = .ok (.aload_n 2, 1) := by decide +kernel
theorem d_0_923 : decode M_0.2.2.1 923 = .ok (.invokevirtual 117, 3) := by decide +kernel
theorem d_0_926 : decode M_0.2.2.1 926 = .ok (.if_icmp .eq 405, 3) := by decide +kernel
theorem d_0_929 : decode M_0.2.2.1 929 = .ok (.iconst 0, 1) := by decide +kernel
theorem d_0_930 : decode M_0.2.2.1 930 = .ok (.ireturn, 1) := by decide +kernel
theorem d_0_931 : decode M_0.2.2.1 931 = .ok (.aload_n 1, 1) := by decide +kernel
theorem d_0_932 : decode M_0.2.2.1 932 = .ok (.aload_n 0, 1) := by decide +kernel
theorem d_0_933 : decode M_0.2.2.1 933 = .ok (.iload_n 3, 1) := by decide +kernel
theorem d_0_934 : decode M_0.2.2.1 934 = .ok (.iconst 1, 1) := by decide +kernel
theorem d_0_935 : decode M_0.2.2.1 935 = .ok (.iadd, 1) := by decide +kernel
theorem d_0_936 : decode M_0.2.2.1 936 = .ok (.iaload, 1) := by decide +kernel
theorem d_0_937 : decode M_0.2.2.1 937 = .ok (.invokevirtual 118, 3) := by decide +kernel
theorem d_0_940 : decode M_0.2.2.1 940 = .ok (.aload_n 2, 1) := by decide +kernel
theorem d_0_941 : decode M_0.2.2.1 941 = .ok (.aload_n 0, 1) := by decide +kernel
theorem d_0_942 : decode M_0.2.2.1 942 = .ok (.iload_n 3, 1) := by decide +kernel
theorem d_0_943 : decode M_0.2.2.1 943 = .ok (.iconst 1, 1) := by decide +kernel
theorem d_0_944 : decode M_0.2.2.1 944 = .ok (.iadd, 1) := by decide +kernel
theorem d_0_945 : decode M_0.2.2.1 945 = .ok (.iaload, 1) := by decide +kernel
theorem d_0_946 : decode M_0.2.2.1 946 = .ok (.invokevirtual 121, 3) := by decide +kernel
theorem d_0_949 : decode M_0.2.2.1 949 = .ok (.if_icmp .eq 382, 3) := by decide +kernel
theorem d_0_952 : decode M_0.2.2.1 952 = .ok (.iconst 0, 1) := by decide +kernel
theorem d_0_953 : decode M_0.2.2.1 953 = .ok (.ireturn, 1) := by decide +kernel
theorem d_0_954 : decode M_0.2.2.1 954 = .ok (.aload_n 1, 1) := by decide +kernel
theorem d_0_955 : decode M_0.2.2.1 955 = .ok (.aload_n 0, 1) := by decide +kernel
theorem d_0_956 : decode M_0.2.2.1 956 = .ok (.iload_n 3, 1) := by decide +kernel
theorem d_0_957 : decode M_0.2.2.1 957 = .ok (.iconst 1, 1) := by decide +kernel
theorem d_0_958 : decode M_0.2.2.1 958 = .ok (.iadd, 1) := by decide +kernel
theorem d_0_959 : decode M_0.2.2.1 959 = .ok (.iaload, 1) := by decide +kernel
theorem d_0_960 : decode M_0.2.2.1 960 = .ok (.aload_n 0, 1) := by decide +kernel
theorem d_0_961 : decode M_0.2.2.1 961 = .ok (.iload_n 3, 1) := by decide +kernel
theorem d_0_962 : decode M_0.2.2.1 962 = .ok (.iconst 2, 1) := by decide +kernel
theorem d_0_963 : decode M_0.2.2.1 963 = .ok (.iadd, 1) := by decide +kernel
theorem d_0_964 : decode M_0.2.2.1 964 = .ok (.iaload, 1) := by decide +kernel
theorem d_0_965 : decode M_0.2.2.1 965 = .ok (.invokevirtual 122, 3) := by decide +kernel
theorem d_0_968 : decode M_0.2.2.1 968 = .ok (.aload_n 2, 1) := by decide +kernel
theorem d_0_969 : decode M_0.2.2.1 969 = .ok (.aload_n 0, 1) := by decide +kernel
theorem d_0_970 : decode M_0.2.2.1 970 = .ok (.iload_n 3, 1) := by decide +kernel
theorem d_0_971 : decode M_0.2.2.1 971 = .ok (.iconst 1, 1) := by decide +kernel
theorem d_0_972 : decode M_0.2.2.1 972 = .ok (.iadd, 1) := by decide +kernel
theorem d_0_973 : decode M_0.2.2.1 973 = .ok (.iaload, 1) := by decide +kernel
theorem d_0_974 : decode M_0.2.2.1 974 = .ok (.aload_n 0, 1) := by decide +kernel
theorem d_0_975 : decode M_0.2.2.1 975 = .ok (.iload_n 3, 1) := by decide +kernel
theorem d_0_976 : decode M_0.2.2.1 976 = .ok (.iconst 2, 1) := by decide +kernel
theorem d_0_977 : decode M_0.2.2.1 977 = .ok (.iadd, 1) := by decide +kernel
theorem d_0_978 : decode M_0.2.2.1 978 = .ok (.iaload, 1) := by decide +kernel
theorem d_0_979 : decode M_0.2.2.1 979 = .ok (.invokevirtual 125, 3) := by decide +kernel
theorem d_0_982 : decode M_0.2.2.1 982 = .ok (.if_icmp .eq 349, 3) := by decide +kernel
theorem d_0_985 : decode M_0.2.2.1 985 = .ok (.iconst 0, 1) := by decide +kernel
theorem d_0_986 : decode M_0.2.2.1 986 = .ok (.ireturn, 1) := by decide +kernel
theorem d_0_987 : decode M_0.2.2.1 987 = .ok (.aload_n 1, 1) := by decide +kernel
theorem d_0_988 : decode M_0.2.2.1 988 = .ok (.invokevirtual 126, 3) := by decide +kernel
theorem d_0_991 : decode M_0.2.2.1 991 = .ok (.aload_n 2, 1) := by decide +kernel
theorem d_0_992 : decode M_0.2.2.1 992 = .ok (.invokevirtual 129, 3) := by decide +kernel
theorem d_0_995 : decode M_0.2.2.1 995 = .ok (.if_icmp .eq 336, 3) := by decide +kernel
theorem d_0_998 : decode M_0.2.2.1 998 = .ok (.iconst 0, 1) := by decide +kernel
theorem d_0_999 : decode M_0.2.2.1 999 = .ok (.ireturn, 1) := by decide +kernel
theorem d_0_1000 : decode M_0.2.2.1 1000 = .ok (.aload_n 1, 1) := by decide +kernel
theorem d_0_1001 : decode M_0.2.2.1 1001 = .ok (.aload_n 0, 1) := by decide +kernel
theorem d_0_1002 : decode M_0.2.2.1 1002 = .ok (.iload_n 3, 1) := by decide +kernel
theorem d_0_1003 : decode M_0.2.2.1 1003 = .ok (.iconst 1, 1) := by decide +kernel
theorem d_0_1004 : decode M_0.2.2.1 1004 = .ok (.iadd, 1) := by decide +kernel
theorem d_0_1005 : decode M_0.2.2.1 1005 = .ok (.iaload, 1) := by decide +kernel
theorem d_0_1006 : decode M_0.2.2.1 1006 = .ok (.invokevirtual 130, 3) := by decide +kernel
theorem d_0_1009 : decode M_0.2.2.1 1009 = .ok (.aload_n 2, 1) := by decide +kernel
theorem d_0_1010 : decode M_0.2.2.1 1010 = .ok (.aload_n 0, 1) := by decide +kernel
theorem d_0_1011 : decode M_0.2.2.1 1011 = .ok (.iload_n 3, 1) := by decide +kernel
theorem d_0_1012 : decode M_0.2.2.1 1012 = .ok (.iconst 1, 1) := by decide +kernel
theorem d_0_1013 : decode M_0.2.2.1 1013 = .ok (.iadd, 1) := by decide +kernel
theorem d_0_1014 : decode M_0.2.2.1 1014 = .ok (.iaload, 1) := by decide +kernel
theorem d_0_1015 : decode M_0.2.2.1 1015 = .ok (.invokevirtual 133, 3) := by decide +kernel
theorem d_0_1018 : decode M_0.2.2.1 1018 = .ok (.if_icmp .eq 313, 3) := by decide +kernel
theorem d_0_1021 : decode M_0.2.2.1 1021 = .ok (.iconst 0, 1) := by decide +kernel
theorem d_0_1022 : decode M_0.2.2.1 1022 = .ok (.ireturn, 1) := by decide +kernel
theorem d_0_1023 : decode M_0.2.2.1 1023 = .ok (.aload_n 1, 1) := by decide +kernel
theorem d_0_1024 : decode M_0.2.2.1 1024 = .ok (.aload_n 0, 1) := by decide +kernel
theorem d_0_1025 : decode M_0.2.2.1 1025 = .ok (.iload_n 3, 1) := by decide +kernel
theorem d_0_1026 : decode M_0.2.2.1 1026 = .ok (.iconst 1, 1) := by decide +kernel
theorem d_0_1027 : decode M_0.2.2.1 1027 = .ok (.iadd, 1) := by decide +kernel
theorem d_0_1028 : decode M_0.2.2.1 1028 = .ok (.iaload, 1) := by decide +kernel
theorem d_0_1029 : decode M_0.2.2.1 1029 = .ok (.aload_n 0, 1) := by decide +kernel
theorem d_0_1030 : decode M_0.2.2.1 1030 = .ok (.iload_n 3, 1) := by decide +kernel
theorem d_0_1031 : decode M_0.2.2.1 1031 = .ok (.iconst 2, 1) := by decide +kernel
theorem d_0_1032 : decode M_0.2.2.1 1032 = .ok (.iadd, 1) := by decide +kernel
theorem d_0_1033 : decode M_0.2.2.1 1033 = .ok (.iaload, 1) := by decide +kernel
theorem d_0_1034 : decode M_0.2.2.1 1034 = .ok (.invokevirtual 134, 3) := by decide +kernel
theorem d_0_1037 : decode M_0.2.2.1 1037 = .ok (.aload_n 2, 1) := by decide +kernel
theorem d_0_1038 : decode M_0.2.2.1 1038 = .ok (.aload_n 0, 1) := by decide +kernel
theorem d_0_1039 : decode M_0.2.2.1 1039 = .ok (.iload_n 3, 1) := by decide +kernel
theorem d_0_1040 : decode M_0.2.2.1 1040 = .ok (.iconst 1, 1) := by decide +kernel
theorem d_0_1041 : decode M_0.2.2.1 1041 = .ok (.iadd, 1) := by decide +kernel
theorem d_0_1042 : decode M_0.2.2.1 1042 = .ok (.iaload, 1) := by decide +kernel
theorem d_0_1043 : decode M_0.2.2.1 1043 = .ok (.aload_n 0, 1) := by decide +kernel
theorem d_0_1044 : decode M_0.2.2.1 1044 = .ok (.iload_n 3, 1) := by decide +kernel
theorem d_0_1045 : decode M_0.2.2.1 1045 = .ok (.iconst 2, 1) := by decide +kernel
theorem d_0_1046 : decode M_0.2.2.1 1046 = .ok (.iadd, 1) := by decide +kernel
theorem d_0_1047 : decode M_0.2.2.1 1047 = .ok (.iaload, 1) := by decide +kernel
theorem d_0_1048 : decode M_0.2.2.1 1048 = .ok (.invokevirtual 137, 3) := by decide +kernel
theorem d_0_1051 : decode M_0.2.2.1 1051 = .ok (.if_icmp .eq 280, 3) := by decide +kernel
theorem d_0_1054 : decode M_0.2.2.1 1054 = .ok (.iconst 0, 1) := by decide +kernel
theorem d_0_1055 : decode M_0.2.2.1 1055 = .ok (.ireturn, 1) := by decide +kernel
theorem d_0_1056 : decode M_0.2.2.1 1056 = .ok (.aload_n 1, 1) := by decide +kernel
theorem d_0_1057 : decode M_0.2.2.1 1057 = .ok (.aload_n 0, 1) := by decide +kernel
theorem d_0_1058 : decode M_0.2.2.1 1058 = .ok (.iload_n 3, 1) := by decide +kernel
theorem d_0_1059 : decode M_0.2.2.1 1059 = .ok (.iconst 1, 1) := by decide +kernel
theorem d_0_1060 : decode M_0.2.2.1 1060 = .ok (.iadd, 1) := by decide +kernel
theorem d_0_1061 : decode M_0.2.2.1 1061 = .ok (.iaload, 1) := by decide +kernel
theorem d_0_1062 : decode M_0.2.2.1 1062 = .ok (.aload_n 0, 1) := by decide +kernel
theorem d_0_1063 : decode M_0.2.2.1 1063 = .ok (.iload_n 3, 1) := by decide +kernel
theorem d_0_1064 : decode M_0.2.2.1 1064 = .ok (.iconst 2, 1) := by decide +kernel
theorem d_0_1065 : decode M_0.2.2.1 1065 = .ok (.iadd, 1) := by decide +kernel
theorem d_0_1066 : decode M_0.2.2.1 1066 = .ok (.iaload, 1) := by decide +kernel
theorem d_0_1067 : decode M_0.2.2.1 1067 = .ok (.invokevirtual 138, 3) := by decide +kernel
theorem d_0_1070 : decode M_0.2.2.1 1070 = .ok (.aload_n 2, 1) := by decide +kernel
theorem d_0_1071 : decode M_0.2.2.1 1071 = .ok (.aload_n 0, 1) := by decide +kernel
theorem d_0_1072 : decode M_0.2.2.1 1072 = .ok (.iload_n 3, 1) := by decide +kernel
theorem d_0_1073 : decode M_0.2.2.1 1073 = .ok (.iconst 1, 1) := by decide +kernel
theorem d_0_1074 : decode M_0.2.2.1 1074 = .ok (.iadd, 1) := by decide +kernel
theorem d_0_1075 : decode M_0.2.2.1 1075 = .ok (.iaload, 1) := by decide +kernel
theorem d_0_1076 : decode M_0.2.2.1 1076 = .ok (.aload_n 0, 1) := by decide +kernel
theorem d_0_1077 : decode M_0.2.2.1 1077 = .ok (.iload_n 3, 1) := by decide +kernel
theorem d_0_1078 : decode M_0.2.2.1 1078 = .ok (.iconst 2, 1) := by decide +kernel
theorem d_0_1079 : decode M_0.2.2.1 1079 = .ok (.iadd, 1) := by decide +kernel
theorem d_0_1080 : decode M_0.2.2.1 1080 = .ok (.iaload, 1) := by decide +kernel
theorem d_0_1081 : decode M_0.2.2.1 1081 = .ok (.invokevirtual 141, 3) := by decide +kernel
theorem d_0_1084 : decode M_0.2.2.1 1084 = .ok (.if_icmp .eq 247, 3) := by decide +kernel
theorem d_0_1087 : decode M_0.2.2.1 1087 = .ok (.iconst 0, 1) := by decide +kernel
theorem d_0_1088 : decode M_0.2.2.1 1088 = .ok (.ireturn, 1) := by decide +kernel
theorem d_0_1089 : decode M_0.2.2.1 1089 = .ok (.aload_n 1, 1) := by decide +kernel
theorem d_0_1090 : decode M_0.2.2.1 1090 = .ok (.aload_n 0, 1) := by decide +kernel
theorem d_0_1091 : decode M_0.2.2.1 1091 = .ok (.iload_n 3, 1) := by decide +kernel
theorem d_0_1092 : decode M_0.2.2.1 1092 = .ok (.iconst 1, 1) := by decide +kernel
theorem d_0_1093 : decode M_0.2.2.1 1093 = .ok (.iadd, 1) := by decide +kernel
theorem d_0_1094 : decode M_0.2.2.1 1094 = .ok (.iaload, 1) := by decide +kernel
theorem d_0_1095 : decode M_0.2.2.1 1095 = .ok (.invokevirtual 142, 3) := by decide +kernel
theorem d_0_1098 : decode M_0.2.2.1 1098 = .ok (.aload_n 2, 1) := by decide +kernel
theorem d_0_1099 : decode M_0.2.2.1 1099 = .ok (.aload_n 0, 1) := by decide +kernel
theorem d_0_1100 : decode M_0.2.2.1 1100 = .ok (.iload_n 3, 1) := by decide +kernel
theorem d_0_1101 : decode M_0.2.2.1 1101 = .ok (.iconst 1, 1) := by decide +kernel
theorem d_0_1102 : decode M_0.2.2.1 1102 = .ok (.iadd, 1) := by decide +kernel
theorem d_0_1103 : decode M_0.2.2.1 1103 = .ok (.iaload, 1) := by decide +kernel
theorem d_0_1104 : decode M_0.2.2.1 1104 = .ok (.invokevirtual 145, 3) := by decide +kernel
theorem d_0_1107 : decode M_0.2.2.1 1107 = .ok (.if_icmp .eq 224, 3) := by decide +kernel
theorem d_0_1110 : decode M_0.2.2.1 1110 = .ok (.iconst 0, 1) := by decide +kernel
theorem d_0_1111 : decode M_0.2.2.1 1111 = .ok (.ireturn, 1) := by decide +kernel
theorem d_0_1112 : decode M_0.2.2.1 1112 = .ok (.aload_n 1, 1) := by decide +kernel
theorem d_0_1113 : decode M_0.2.2.1 1113 = .ok (.aload_n 0, 1) := by decide +kernel
theorem d_0_1114 : decode M_0.2.2.1 1114 = .ok (.iload_n 3, 1) := by decide +kernel
theorem d_0_1115 : decode M_0.2.2.1 1115 = .ok (.iconst 1, 1) := by decide +kernel
theorem d_0_1116 : decode M_0.2.2.1 1116 = .ok (.iadd, 1) := by decide +kernel
theorem d_0_1117 : decode M_0.2.2.1 1117 = .ok (.iaload, 1) := by decide +kernel
theorem d_0_1118 : decode M_0.2.2.1 1118 = .ok (.aload_n 0, 1) := by decide +kernel
theorem d_0_1119 : decode M_0.2.2.1 1119 = .ok (.iload_n 3, 1) := by decide +kernel
theorem d_0_1120 : decode M_0.2.2.1 1120 = .ok (.iconst 2, 1) := by decide +kernel
theorem d_0_1121 : decode M_0.2.2.1 1121 = .ok (.iadd, 1) := by decide +kernel
theorem d_0_1122 : decode M_0.2.2.1 1122 = .ok (.iaload, 1) := by decide +kernel
theorem d_0_1123 : decode M_0.2.2.1 1123 = .ok (.aload_n 0, 1) := by decide +kernel
theorem d_0_1124 : decode M_0.2.2.1 1124 = .ok (.iload_n 3, 1) := by decide +kernel
theorem d_0_1125 : decode M_0.2.2.1 1125 = .ok (.iconst 3, 1) := by decide +kernel
theorem d_0_1126 : decode M_0.2.2.1 1126 = .ok (.iadd, 1) := by decide +kernel
theorem d_0_1127 : decode M_0.2.2.1 1127 = .ok (.iaload, 1) := by decide +kernel
theorem d_0_1128 : decode M_0.2.2.1 1128 = .ok (.invokevirtual 146, 3) := by decide +kernel
theorem d_0_1131 : decode M_0.2.2.1 1131 = .ok (.aload_n 2, 1) := by decide +kernel
theorem d_0_1132 : decode M_0.2.2.1 1132 = .ok (.aload_n 0, 1) := by decide +kernel
theorem d_0_1133 : decode M_0.2.2.1 1133 = .ok (.iload_n 3, 1) := by decide +kernel
theorem d_0_1134 : decode M_0.2.2.1 1134 = .ok (.iconst 1, 1) := by decide +kernel
theorem d_0_1135 : decode M_0.2.2.1 1135 = .ok (.iadd, 1) := by decide +kernel
theorem d_0_1136 : decode M_0.2.2.1 1136 = .ok (.iaload, 1) := by decide +kernel
theorem d_0_1137 : decode M_0.2.2.1 1137 = .ok (.aload_n 0, 1) := by decide +kernel
theorem d_0_1138 : decode M_0.2.2.1 1138 = .ok (.iload_n 3, 1) := by decide +kernel
theorem d_0_1139 : decode M_0.2.2.1 1139 = .ok (.iconst 2, 1) := by decide +kernel
theorem d_0_1140 : decode M_0.2.2.1 1140 = .ok (.iadd, 1) := by decide +kernel
theorem d_0_1141 : decode M_0.2.2.1 1141 = .ok (.iaload, 1) := by decide +kernel
theorem d_0_1142 : decode M_0.2.2.1 1142 = .ok (.aload_n 0, 1) := by decide +kernel
theorem d_0_1143 : decode M_0.2.2.1 1143 = .ok (.iload_n 3, 1) := by decide +kernel
theorem d_0_1144 : decode M_0.2.2.1 1144 = .ok (.iconst 3, 1) := by decide +kernel
theorem d_0_1145 : decode M_0.2.2.1 1145 = .ok (.iadd, 1) := by decide +kernel
theorem d_0_1146 : decode M_0.2.2.1 1146 = .ok (.iaload, 1) := by decide +kernel
theorem d_0_1147 : decode M_0.2.2.1 1147 = .ok (.invokevirtual 150, 3) := by decide +kernel
theorem d_0_1150 : decode M_0.2.2.1 1150 = .ok (.if_icmp .eq 181, 3) := by decide +kernel
theorem d_0_1153 : decode M_0.2.2.1 1153 = .ok (.iconst 0, 1) := by decide +kernel
theorem d_0_1154 : decode M_0.2.2.1 1154 = .ok (.ireturn, 1) := by decide +kernel
theorem d_0_1155 : decode M_0.2.2.1 1155 = .ok (.aload_n 1, 1) := by decide +kernel
theorem d_0_1156 : decode M_0.2.2.1 1156 = .ok (.aload_n 0, 1) := by decide +kernel
theorem d_0_1157 : decode M_0.2.2.1 1157 = .ok (.iload_n 3, 1) := by decide +kernel
theorem d_0_1158 : decode M_0.2.2.1 1158 = .ok (.iconst 1, 1) := by decide +kernel
theorem d_0_1159 : decode M_0.2.2.1 1159 = .ok (.iadd, 1) := by decide +kernel
theorem d_0_1160 : decode M_0.2.2.1 1160 = .ok (.iaload, 1) := by decide +kernel
theorem d_0_1161 : decode M_0.2.2.1 1161 = .ok (.aload_n 0, 1) := by decide +kernel
theorem d_0_1162 : decode M_0.2.2.1 1162 = .ok (.iload_n 3, 1) := by decide +kernel
theorem d_0_1163 : decode M_0.2.2.1 1163 = .ok (.iconst 2, 1) := by decide +kernel
theorem d_0_1164 : decode M_0.2.2.1 1164 = .ok (.iadd, 1) := by decide +kernel
theorem d_0_1165 : decode M_0.2.2.1 1165 = .ok (.iaload, 1) := by decide +kernel
theorem d_0_1166 : decode M_0.2.2.1 1166 = .ok (.aload_n 0, 1) := by decide +kernel
theorem d_0_1167 : decode M_0.2.2.1 1167 = .ok (.iload_n 3, 1) := by decide +kernel
theorem d_0_1168 : decode M_0.2.2.1 1168 = .ok (.iconst 3, 1) := by decide +kernel
theorem d_0_1169 : decode M_0.2.2.1 1169 = .ok (.iadd, 1) := by decide +kernel
theorem d_0_1170 : decode M_0.2.2.1 1170 = .ok (.iaload, 1) := by decide +kernel
theorem d_0_1171 : decode M_0.2.2.1 1171 = .ok (.i2l, 1) := by decide +kernel
theorem d_0_1172 : decode M_0.2.2.1 1172 = .ok (.bipush 32, 2) := by decide +kernel
theorem d_0_1174 : decode M_0.2.2.1 1174 = .ok (.lshl, 1) := by decide +kernel
theorem d_0_1175 : decode M_0.2.2.1 1175 = .ok (.aload_n 0, 1) := by decide +kernel
theorem d_0_1176 : decode M_0.2.2.1 1176 = .ok (.iload_n 3, 1) := by decide +kernel
theorem d_0_1177 : decode M_0.2.2.1 1177 = .ok (.iconst 4, 1) := by decide +kernel
theorem d_0_1178 : decode M_0.2.2.1 1178 = .ok (.iadd, 1) := by decide +kernel
theorem d_0_1179 : decode M_0.2.2.1 1179 = .ok (.iaload, 1) := by decide +kernel
theorem d_0_1180 : decode M_0.2.2.1 1180 = .ok (.i2l, 1) := by decide +kernel
theorem d_0_1181 : decode M_0.2.2.1 1181 = .ok (.ldc2_w 151, 3) := by decide +kernel
theorem d_0_1184 : decode M_0.2.2.1 1184 = .ok (.land, 1) := by decide +kernel
theorem d_0_1185 : decode M_0.2.2.1 1185 = .ok (.lor, 1) := by decide +kernel
theorem d_0_1186 : decode M_0.2.2.1 1186 = .ok (.invokevirtual 153, 3) := by decide +kernel
theorem d_0_1189 : decode M_0.2.2.1 1189 = .ok (.aload_n 2, 1) := by decide +kernel
theorem d_0_1190 : decode M_0.2.2.1 1190 = .ok (.aload_n 0, 1) := by decide +kernel
theorem d_0_1191 : decode M_0.2.2.1 1191 = .ok (.iload_n 3, 1) := by decide +kernel
theorem d_0_1192 : decode M_0.2.2.1 1192 = .ok (.iconst 1, 1) := by decide +kernel
theorem d_0_1193 : decode M_0.2.2.1 1193 = .ok (.iadd, 1) := by decide +kernel
theorem d_0_1194 : decode M_0.2.2.1 1194 = .ok (.iaload, 1) := by decide +kernel
theorem d_0_1195 : decode M_0.2.2.1 1195 = .ok (.aload_n 0, 1) := by decide +kernel
theorem d_0_1196 : decode M_0.2.2.1 1196 = .ok (.iload_n 3, 1) := by decide +kernel
theorem d_0_1197 : decode M_0.2.2.1 1197 = .ok (.iconst 2, 1) := by decide +kernel
theorem d_0_1198 : decode M_0.2.2.1 1198 = .ok (.iadd, 1) := by decide +kernel
theorem d_0_1199 : decode M_0.2.2.1 1199 = .ok (.iaload, 1) := by decide +kernel
theorem d_0_1200 : decode M_0.2.2.1 1200 = .ok (.aload_n 0, 1) := by decide +kernel
theorem d_0_1201 : decode M_0.2.2.1 1201 = .ok (.iload_n 3, 1) := by decide +kernel
theorem d_0_1202 : decode M_0.2.2.1 1202 = .ok (.iconst 3, 1) := by decide +kernel
theorem d_0_1203 : decode M_0.2.2.1 1203 = .ok (.iadd, 1) := by decide +kernel
theorem d_0_1204 : decode M_0.2.2.1 1204 = .ok (.iaload, 1) := by decide +kernel
theorem d_0_1205 : decode M_0.2.2.1 1205 = .ok (.i2l, 1) := by decide +kernel
theorem d_0_1206 : decode M_0.2.2.1 1206 = .ok (.bipush 32, 2) := by decide +kernel
theorem d_0_1208 : decode M_0.2.2.1 1208 = .ok (.lshl, 1) := by decide +kernel
theorem d_0_1209 : decode M_0.2.2.1 1209 = .ok (.aload_n 0, 1) := by decide +kernel
theorem d_0_1210 : decode M_0.2.2.1 1210 = .ok (.iload_n 3, 1) := by decide +kernel
theorem d_0_1211 : decode M_0.2.2.1 1211 = .ok (.iconst 4, 1) := by decide +kernel
theorem d_0_1212 : decode M_0.2.2.1 1212 = .ok (.iadd, 1) := by decide +kernel
theorem d_0_1213 : decode M_0.2.2.1 1213 = .ok (.iaload, 1) := by decide +kernel
theorem d_0_1214 : decode M_0.2.2.1 1214 = .ok (.i2l, 1) := by decide +kernel
theorem d_0_1215 : decode M_0.2.2.1 1215 = .ok (.ldc2_w 151, 3) := by decide +kernel
theorem d_0_1218 : decode M_0.2.2.1 1218 = .ok (.land, 1) := by decide +kernel
theorem d_0_1219 : decode M_0.2.2.1 1219 = .ok (.lor, 1) := by decide +kernel
theorem d_0_1220 : decode M_0.2.2.1 1220 = .ok (.invokevirtual 157, 3) := by decide +kernel
theorem d_0_1223 : decode M_0.2.2.1 1223 = .ok (.lcmp, 1) := by decide +kernel
theorem d_0_1224 : decode M_0.2.2.1 1224 = .ok (.ifCond .eq 107, 3) := by decide +kernel
theorem d_0_1227 : decode M_0.2.2.1 1227 = .ok (.iconst 0, 1) := by decide +kernel
theorem d_0_1228 : decode M_0.2.2.1 1228 = .ok (.ireturn, 1) := by decide +kernel
theorem d_0_1229 : decode M_0.2.2.1 1229 = .ok (.aload_n 1, 1) := by decide +kernel
theorem d_0_1230 : decode M_0.2.2.1 1230 = .ok (.aload_n 0, 1) := by decide +kernel
theorem d_0_1231 : decode M_0.2.2.1 1231 = .ok (.iload_n 3, 1) := by decide +kernel
theorem d_0_1232 : decode M_0.2.2.1 1232 = .ok (.iconst 1, 1) := by decide +kernel
theorem d_0_1233 : decode M_0.2.2.1 1233 = .ok (.iadd, 1) := by decide +kernel
theorem d_0_1234 : decode M_0.2.2.1 1234 = .ok (.iaload, 1) := by decide +kernel
theorem d_0_1235 : decode M_0.2.2.1 1235 = .ok (.aload_n 0, 1) := by decide +kernel
theorem d_0_1236 : decode M_0.2.2.1 1236 = .ok (.iload_n 3, 1) := by decide +kernel
theorem d_0_1237 : decode M_0.2.2.1 1237 = .ok (.iconst 2, 1) := by decide +kernel
theorem d_0_1238 : decode M_0.2.2.1 1238 = .ok (.iadd, 1) := by decide +kernel
theorem d_0_1239 : decode M_0.2.2.1 1239 = .ok (.iaload, 1) := by decide +kernel
theorem d_0_1240 : decode M_0.2.2.1 1240 = .ok (.invokevirtual 158, 3) := by decide +kernel
theorem d_0_1243 : decode M_0.2.2.1 1243 = .ok (.aload_n 2, 1) := by decide +kernel
theorem d_0_1244 : decode M_0.2.2.1 1244 = .ok (.aload_n 0, 1) := by decide +kernel
theorem d_0_1245 : decode M_0.2.2.1 1245 = .ok (.iload_n 3, 1) := by decide +kernel
theorem d_0_1246 : decode M_0.2.2.1 1246 = .ok (.iconst 1, 1) := by decide +kernel
theorem d_0_1247 : decode M_0.2.2.1 1247 = .ok (.iadd, 1) := by decide +kernel
theorem d_0_1248 : decode M_0.2.2.1 1248 = .ok (.iaload, 1) := by decide +kernel
theorem d_0_1249 : decode M_0.2.2.1 1249 = .ok (.aload_n 0, 1) := by decide +kernel
theorem d_0_1250 : decode M_0.2.2.1 1250 = .ok (.iload_n 3, 1) := by decide +kernel
theorem d_0_1251 : decode M_0.2.2.1 1251 = .ok (.iconst 2, 1) := by decide +kernel
theorem d_0_1252 : decode M_0.2.2.1 1252 = .ok (.iadd, 1) := by decide +kernel
theorem d_0_1253 : decode M_0.2.2.1 1253 = .ok (.iaload, 1) := by decide +kernel
theorem d_0_1254 : decode M_0.2.2.1 1254 = .ok (.invokevirtual 161, 3) := by decide +kernel
theorem d_0_1257 : decode M_0.2.2.1 1257 = .ok (.if_icmp .eq 74, 3) := by decide +kernel
theorem d_0_1260 : decode M_0.2.2.1 1260 = .ok (.iconst 0, 1) := by decide +kernel
theorem d_0_1261 : decode M_0.2.2.1 1261 = .ok (.ireturn, 1) := by decide +kernel
theorem d_0_1262 : decode M_0.2.2.1 1262 = .ok (.aload_n 1, 1) := by decide +kernel
theorem d_0_1263 : decode M_0.2.2.1 1263 = .ok (.aload_n 0, 1) := by decide +kernel
theorem d_0_1264 : decode M_0.2.2.1 1264 = .ok (.iload_n 3, 1) := by decide +kernel
theorem d_0_1265 : decode M_0.2.2.1 1265 = .ok (.iconst 1, 1) := by decide +kernel
theorem d_0_1266 : decode M_0.2.2.1 1266 = .ok (.iadd, 1) := by decide +kernel
theorem d_0_1267 : decode M_0.2.2.1 1267 = .ok (.iaload, 1) := by decide +kernel
theorem d_0_1268 : decode M_0.2.2.1 1268 = .ok (.invokevirtual 162, 3) := by decide +kernel
theorem d_0_1271 : decode M_0.2.2.1 1271 = .ok (.aload_n 2, 1) := by decide +kernel
theorem d_0_1272 : decode M_0.2.2.1 1272 = .ok (.aload_n 0, 1) := by decide +kernel
theorem d_0_1273 : decode M_0.2.2.1 1273 = .ok (.iload_n 3, 1) := by decide +kernel
theorem d_0_1274 : decode M_0.2.2.1 1274 = .ok (.iconst 1, 1) := by decide +kernel
theorem d_0_1275 : decode M_0.2.2.1 1275 = .ok (.iadd, 1) := by decide +kernel
theorem d_0_1276 : decode M_0.2.2.1 1276 = .ok (.iaload, 1) := by decide +kernel
theorem d_0_1277 : decode M_0.2.2.1 1277 = .ok (.invokevirtual 165, 3) := by decide +kernel
theorem d_0_1280 : decode M_0.2.2.1 1280 = .ok (.if_icmp .eq 51, 3) := by decide +kernel
theorem d_0_1283 : decode M_0.2.2.1 1283 = .ok (.iconst 0, 1) := by decide +kernel
theorem d_0_1284 : decode M_0.2.2.1 1284 = .ok (.ireturn, 1) := by decide +kernel
theorem d_0_1285 : decode M_0.2.2.1 1285 = .ok (.aload_n 1, 1) := by decide +kernel
theorem d_0_1286 : decode M_0.2.2.1 1286 = .ok (.aload_n 0, 1) := by decide +kernel
theorem d_0_1287 : decode M_0.2.2.1 1287 = .ok (.iload_n 3, 1) := by decide +kernel
theorem d_0_1288 : decode M_0.2.2.1 1288 = .ok (.iconst 1, 1) := by decide +kernel
theorem d_0_1289 : decode M_0.2.2.1 1289 = .ok (.iadd, 1) := by decide +kernel
theorem d_0_1290 : decode M_0.2.2.1 1290 = .ok (.iaload, 1) := by decide +kernel
theorem d_0_1291 : decode M_0.2.2.1 1291 = .ok (.invokevirtual 166, 3) := by decide +kernel
theorem d_0_1294 : decode M_0.2.2.1 1294 = .ok (.aload_n 2, 1) := by decide +kernel
theorem d_0_1295 : decode M_0.2.2.1 1295 = .ok (.aload_n 0, 1) := by decide +kernel
theorem d_0_1296 : decode M_0.2.2.1 1296 = .ok (.iload_n 3, 1) := by decide +kernel
theorem d_0_1297 : decode M_0.2.2.1 1297 = .ok (.iconst 1, 1) := by decide +kernel
theorem d_0_1298 : decode M_0.2.2.1 1298 = .ok (.iadd, 1) := by decide +kernel
theorem d_0_1299 : decode M_0.2.2.1 1299 = .ok (.iaload, 1) := by decide +kernel
theorem d_0_1300 : decode M_0.2.2.1 1300 = .ok (.invokevirtual 169, 3) := by decide +kernel
theorem d_0_1303 : decode M_0.2.2.1 1303 = .ok (.if_icmp .eq 28, 3) := by decide +kernel
theorem d_0_1306 : decode M_0.2.2.1 1306 = .ok (.iconst 0, 1) := by decide +kernel
theorem d_0_1307 : decode M_0.2.2.1 1307 = .ok (.ireturn, 1) := by decide +kernel
theorem d_0_1308 : decode M_0.2.2.1 1308 = .ok (.aload_n 1, 1) := by decide +kernel
theorem d_0_1309 : decode M_0.2.2.1 1309 = .ok (.aload_n 0, 1) := by decide +kernel
theorem d_0_1310 : decode M_0.2.2.1 1310 = .ok (.iload_n 3, 1) := by decide +kernel
theorem d_0_1311 : decode M_0.2.2.1 1311 = .ok (.iconst 1, 1) := by decide +kernel
theorem d_0_1312 : decode M_0.2.2.1 1312 = .ok (.iadd, 1) := by decide +kernel
theorem d_0_1313 : decode M_0.2.2.1 1313 = .ok (.iaload, 1) := by decide +kernel
theorem d_0_1314 : decode M_0.2.2.1 1314 = .ok (.invokevirtual 170, 3) := by decide +kernel
theorem d_0_1317 : decode M_0.2.2.1 1317 = .ok (.aload_n 2, 1) := by decide +kernel
theorem d_0_1318 : decode M_0.2.2.1 1318 = .ok (.aload_n 0, 1) := by decide +kernel
theorem d_0_1319 : decode M_0.2.2.1 1319 = .ok (.iload_n 3, 1) := by decide +kernel
theorem d_0_1320 : decode M_0.2.2.1 1320 = .ok (.iconst 1, 1) := by decide +kernel
theorem d_0_1321 : decode M_0.2.2.1 1321 = .ok (.iadd, 1) := by decide +kernel
theorem d_0_1322 : decode M_0.2.2.1 1322 = .ok (.iaload, 1) := by decide +kernel
theorem d_0_1323 : decode M_0.2.2.1 1323 = .ok (.invokevirtual 173, 3) := by decide +kernel
theorem d_0_1326 : decode M_0.2.2.1 1326 = .ok (.if_icmp .eq 5, 3) := by decide +kernel
theorem d_0_1329 : decode M_0.2.2.1 1329 = .ok (.iconst 0, 1) := by decide +kernel
theorem d_0_1330 : decode M_0.2.2.1 1330 = .ok (.ireturn, 1) := by decide +kernel
theorem d_0_1331 : decode M_0.2.2.1 1331 = .ok (.iinc 3 6, 3) := by decide +kernel
theorem d_0_1334 : decode M_0.2.2.1 1334 = .ok (.goto (-1316), 3) := by decide +kernel
theorem d_0_1337 : decode M_0.2.2.1 1337 = .ok (.iconst 1, 1) := by decide +kernel
theorem d_0_1338 : decode M_0.2.2.1 1338 = .ok (.ireturn, 1) := by decide +kernel
/-- java/lang/Math.min(II)I -/
def M_14 : am_MT := (12, ⟨"java/lang/Math", "min", "(II)I"⟩, prog_13_method_69_code, 2, some .int, false, 2, (0, 0))
theorem hM_14 : am_ms[14]? = some M_14 := rfl
theorem d_14_0 : decode M_14.2.2.1 0 = .ok (.iload_n 0, 1) := by decide +kernel
theorem d_14_1 : decode M_14.2.2.1 1 = .ok (.iload_n 1, 1) := by decide +kernel
theorem d_14_2 : decode M_14.2.2.1 2 = .ok (.if_icmp .gt 7, 3) := by decide +kernel
theorem d_14_5 : decode M_14.2.2.1 5 = .ok (.iload_n 0, 1) := by decide +kernel
theorem d_14_6 : decode M_14.2.2.1 6 = .ok (.goto 4, 3) := by decide +kernel
theorem d_14_9 : decode M_14.2.2.1 9 = .ok (.iload_n 1, 1) := by decide +kernel
theorem d_14_10 : decode M_14.2.2.1 10 = .ok (.ireturn, 1) := by decide +kernel
/-- java/lang/String.length()I -/
def M_20 : am_MT := (13, ⟨"java/lang/String", "length", "()I"⟩, prog_14_method_54_code, 1, some .int, false, 0, (0, 0))
theorem hM_20 : am_ms[20]? = some M_20 := rfl
theorem d_20_0 : decode M_20.2.2.1 0 = .ok (.aload_n 0, 1) := by decide +kernel
theorem d_20_1 : decode M_20.2.2.1 1 = .ok (.getfield 9, 3) := by decide +kernel
theorem d_20_4 : decode M_20.2.2.1 4 = .ok (.arraylength, 1) := by decide +kernel
theorem d_20_5 : decode M_20.2.2.1 5 = .ok (.aload_n 0, 1) := by decide +kernel
theorem d_20_6 : decode M_20.2.2.1 6 = .ok (.invokevirtual 335, 3) := by decide +kernel
theorem d_20_9 : decode M_20.2.2.1 9 = .ok (.ishr, 1) := by decide +kernel
theorem d_20_10 : decode M_20.2.2.1 10 = .ok (.ireturn, 1) := by decide +kernel
/-- java/lang/String.coder()B -/
def M_21 : am_MT := (13, ⟨"java/lang/String", "coder", "()B"⟩, prog_14_method_152_code, 1, some .byte, false, 0, (0, 0))
theorem hM_21 : am_ms[21]? = some M_21 := rfl
theorem d_21_0 : decode M_21.2.2.1 0 = .ok (.getstatic 38, 3) := by decide +kernel
theorem d_21_3 : decode M_21.2.2.1 3 = .ok (.ifCond .eq 10, 3) := by decide +kernel
theorem d_21_6 : decode M_21.2.2.1 6 = .ok (.aload_n 0, 1) := by decide +kernel
theorem d_21_7 : decode M_21.2.2.1 7 = .ok (.getfield 15, 3) := by decide +kernel
theorem d_21_10 : decode M_21.2.2.1 10 = .ok (.goto 4, 3) := by decide +kernel
theorem d_21_13 : decode M_21.2.2.1 13 = .ok (.iconst 1, 1) := by decide +kernel
theorem d_21_14 : decode M_21.2.2.1 14 = .ok (.ireturn, 1) := by decide +kernel
/-- java/lang/String.charAt(I)C -/
def M_22 : am_MT := (13, ⟨"java/lang/String", "charAt", "(I)C"⟩, prog_14_method_56_code, 2, some .char, false, 1, (0, 0))
theorem hM_22 : am_ms[22]? = some M_22 := rfl
theorem d_22_0 : decode M_22.2.2.1 0 = .ok (.aload_n 0, 1) := by decide +kernel
theorem d_22_1 : decode M_22.2.2.1 1 = .ok (.invokevirtual 492, 3) := by decide +kernel
theorem d_22_4 : decode M_22.2.2.1 4 = .ok (.ifCond .eq 12, 3) := by decide +kernel
theorem d_22_7 : decode M_22.2.2.1 7 = .ok (.aload_n 0, 1) := by decide +kernel
theorem d_22_8 : decode M_22.2.2.1 8 = .ok (.getfield 9, 3) := by decide +kernel
theorem d_22_11 : decode M_22.2.2.1 11 = .ok (.iload_n 1, 1) := by decide +kernel
theorem d_22_12 : decode M_22.2.2.1 12 = .ok (.invokestatic 495, 3) := by decide +kernel
theorem d_22_15 : decode M_22.2.2.1 15 = .ok (.ireturn, 1) := by decide +kernel
theorem d_22_16 : decode M_22.2.2.1 16 = .ok (.aload_n 0, 1) := by decide +kernel
theorem d_22_17 : decode M_22.2.2.1 17 = .ok (.getfield 9, 3) := by decide +kernel
theorem d_22_20 : decode M_22.2.2.1 20 = .ok (.iload_n 1, 1) := by decide +kernel
theorem d_22_21 : decode M_22.2.2.1 21 = .ok (.invokestatic 498, 3) := by decide +kernel
theorem d_22_24 : decode M_22.2.2.1 24 = .ok (.ireturn, 1) := by decide +kernel
/-- java/lang/String.isLatin1()Z -/
def M_23 : am_MT := (13, ⟨"java/lang/String", "isLatin1", "()Z"⟩, prog_14_method_154_code, 1, some .boolean, false, 0, (0, 0))
theorem hM_23 : am_ms[23]? = some M_23 := rfl
theorem d_23_0 : decode M_23.2.2.1 0 = .ok (.getstatic 38, 3) := by decide +kernel
theorem d_23_3 : decode M_23.2.2.1 3 = .ok (.ifCond .eq 14, 3) := by decide +kernel
theorem d_23_6 : decode M_23.2.2.1 6 = .ok (.aload_n 0, 1) := by decide +kernel
theorem d_23_7 : decode M_23.2.2.1 7 = .ok (.getfield 15, 3) := by decide +kernel
theorem d_23_10 : decode M_23.2.2.1 10 = .ok (.ifCond .ne 7, 3) := by decide +kernel
theorem d_23_13 : decode M_23.2.2.1 13 = .ok (.iconst 1, 1) := by decide +kernel
theorem d_23_14 : decode M_23.2.2.1 14 = .ok (.goto 4, 3) := by decide +kernel
theorem d_23_17 : decode M_23.2.2.1 17 = .ok (.iconst 0, 1) := by decide +kernel
theorem d_23_18 : decode M_23.2.2.1 18 = .ok (.ireturn, 1) := by decide +kernel
/-- java/lang/StringLatin1.charAt([BI)C -/
def M_24 : am_MT := (14, ⟨"java/lang/StringLatin1", "charAt", "([BI)C"⟩, prog_15_method_2_code, 2, some .char, false, 2, (0, 0))
theorem hM_24 : am_ms[24]? = some M_24 := rfl
theorem d_24_0 : decode M_24.2.2.1 0 = .ok (.iload_n 1, 1) := by decide +kernel
theorem d_24_1 : decode M_24.2.2.1 1 = .ok (.aload_n 0, 1) := by decide +kernel
theorem d_24_2 : decode M_24.2.2.1 2 = .ok (.arraylength, 1) := by decide +kernel
theorem d_24_3 : decode M_24.2.2.1 3 = .ok (.invokestatic 9, 3) := by decide +kernel
theorem d_24_6 : decode M_24.2.2.1 6 = .ok (.aload_n 0, 1) := by decide +kernel
theorem d_24_7 : decode M_24.2.2.1 7 = .ok (.iload_n 1, 1) := by decide +kernel
theorem d_24_8 : decode M_24.2.2.1 8 = .ok (.baload, 1) := by decide +kernel
theorem d_24_9 : decode M_24.2.2.1 9 = .ok (.sipush 255, 3) := by decide +kernel
theorem d_24_12 : decode M_24.2.2.1 12 = .ok (.iand, 1) := by decide +kernel
theorem d_24_13 : decode M_24.2.2.1 13 = .ok (.i2c, 1) := by decide +kernel
theorem d_24_14 : decode M_24.2.2.1 14 = .ok (.ireturn, 1) := by decide +kernel
/-- java/lang/String.checkIndex(II)V -/
def M_25 : am_MT := (13, ⟨"java/lang/String", "checkIndex", "(II)V"⟩, prog_14_method_155_code, 2, none, false, 2, (0, 0))
theorem hM_25 : am_ms[25]? = some M_25 := rfl
theorem d_25_0 : decode M_25.2.2.1 0 = .ok (.iload_n 0, 1) := by decide +kernel
theorem d_25_1 : decode M_25.2.2.1 1 = .ok (.iload_n 1, 1) := by decide +kernel
theorem d_25_2 : decode M_25.2.2.1 2 = .ok (.getstatic 1053, 3) := by decide +kernel
theorem d_25_5 : decode M_25.2.2.1 5 = .ok (.invokestatic 1059, 3) := by decide +kernel
theorem d_25_8 : decode M_25.2.2.1 8 = .ok (.pop, 1) := by decide +kernel
theorem d_25_9 : decode M_25.2.2.1 9 = .ok (.return_, 1) := by decide +kernel
/-- jdk/internal/util/Preconditions.checkIndex(IILjava/util/function/BiFunction;)I -/
def M_26 : am_MT := (16, ⟨"jdk/internal/util/Preconditions", "checkIndex", "(IILjava/util/function/BiFunction;)I"⟩, prog_18_method_11_code, 3, some .int, false, 3, (0, 0))
theorem hM_26 : am_ms[26]? = some M_26 := rfl
theorem d_26_0 : decode M_26.2.2.1 0 = .ok (.iload_n 0, 1) := by decide +kernel
theorem d_26_1 : decode M_26.2.2.1 1 = .ok (.ifCond .lt 8, 3) := by decide +kernel
theorem d_26_4 : decode M_26.2.2.1 4 = .ok (.iload_n 0, 1) := by decide +kernel
theorem d_26_5 : decode M_26.2.2.1 5 = .ok (.iload_n 1, 1) := by decide +kernel
theorem d_26_6 : decode M_26.2.2.1 6 = .ok (.if_icmp .lt 10, 3) := by decide +kernel
theorem d_26_9 : decode M_26.2.2.1 9 = .ok (.aload_n 2, 1) := by decide +kernel
theorem d_26_10 : decode M_26.2.2.1 10 = .ok (.iload_n 0, 1) := by decide +kernel
theorem d_26_11 : decode M_26.2.2.1 11 = .ok (.iload_n 1, 1) := by decide +kernel
theorem d_26_12 : decode M_26.2.2.1 12 = .ok (.invokestatic 95, 3) := by decide +kernel
theorem d_26_15 : decode M_26.2.2.1 15 = .ok (.athrow, 1) := by decide +kernel
theorem d_26_16 : decode M_26.2.2.1 16 = .ok (.iload_n 0, 1) := by decide +kernel
theorem d_26_17 : decode M_26.2.2.1 17 = .ok (.ireturn, 1) := by decide +kernel
/-- java/lang/Long.bitCount(J)I -/
def M_49 : am_MT := (11, ⟨"java/lang/Long", "bitCount", "(J)I"⟩, prog_12_method_50_code, 2, some .int, false, 1, (0, 0))
theorem hM_49 : am_ms[49]? = some M_49 := rfl
theorem d_49_0 : decode M_49.2.2.1 0 = .ok (.lload_n 0, 1) := by decide +kernel
theorem d_49_1 : decode M_49.2.2.1 1 = .ok (.lload_n 0, 1) := by decide +kernel
theorem d_49_2 : decode M_49.2.2.1 2 = .ok (.iconst 1, 1) := by decide +kernel
theorem d_49_3 : decode M_49.2.2.1 3 = .ok (.lushr, 1) := by decide +kernel
theorem d_49_4 : decode M_49.2.2.1 4 = .ok (.ldc2_w 314, 3) := by decide +kernel
theorem d_49_7 : decode M_49.2.2.1 7 = .ok (.land, 1) := by decide +kernel
theorem d_49_8 : decode M_49.2.2.1 8 = .ok (.lsub, 1) := by decide +kernel
theorem d_49_9 : decode M_49.2.2.1 9 = .ok (.lstore_n 0, 1) := by decide +kernel
theorem d_49_10 : decode M_49.2.2.1 10 = .ok (.lload_n 0, 1) := by decide +kernel
theorem d_49_11 : decode M_49.2.2.1 11 = .ok (.ldc2_w 316, 3) := by decide +kernel
theorem d_49_14 : decode M_49.2.2.1 14 = .ok (.land, 1) := by decide +kernel
theorem d_49_15 : decode M_49.2.2.1 15 = .ok (.lload_n 0, 1) := by decide +kernel
theorem d_49_16 : decode M_49.2.2.1 16 = .ok (.iconst 2, 1) := by decide +kernel
theorem d_49_17 : decode M_49.2.2.1 17 = .ok (.lushr, 1) := by decide +kernel
theorem d_49_18 : decode M_49.2.2.1 18 = .ok (.ldc2_w 316, 3) := by decide +kernel
theorem d_49_21 : decode M_49.2.2.1 21 = .ok (.land, 1) := by decide +kernel
theorem d_49_22 : decode M_49.2.2.1 22 = .ok (.ladd, 1) := by decide +kernel
theorem d_49_23 : decode M_49.2.2.1 23 = .ok (.lstore_n 0, 1) := by decide +kernel
theorem d_49_24 : decode M_49.2.2.1 24 = .ok (.lload_n 0, 1) := by decide +kernel
theorem d_49_25 : decode M_49.2.2.1 25 = .ok (.lload_n 0, 1) := by decide +kernel
theorem d_49_26 : decode M_49.2.2.1 26 = .ok (.iconst 4, 1) := by decide +kernel
theorem d_49_27 : decode M_49.2.2.1 27 = .ok (.lushr, 1) := by decide +kernel
theorem d_49_28 : decode M_49.2.2.1 28 = .ok (.ladd, 1) := by decide +kernel
theorem d_49_29 : decode M_49.2.2.1 29 = .ok (.ldc2_w 318, 3) := by decide +kernel
theorem d_49_32 : decode M_49.2.2.1 32 = .ok (.land, 1) := by decide +kernel
theorem d_49_33 : decode M_49.2.2.1 33 = .ok (.lstore_n 0, 1) := by decide +kernel
theorem d_49_34 : decode M_49.2.2.1 34 = .ok (.lload_n 0, 1) := by decide +kernel
theorem d_49_35 : decode M_49.2.2.1 35 = .ok (.lload_n 0, 1) := by decide +kernel
theorem d_49_36 : decode M_49.2.2.1 36 = .ok (.bipush 8, 2) := by decide +kernel
theorem d_49_38 : decode M_49.2.2.1 38 = .ok (.lushr, 1) := by decide +kernel
theorem d_49_39 : decode M_49.2.2.1 39 = .ok (.ladd, 1) := by decide +kernel
theorem d_49_40 : decode M_49.2.2.1 40 = .ok (.lstore_n 0, 1) := by decide +kernel
theorem d_49_41 : decode M_49.2.2.1 41 = .ok (.lload_n 0, 1) := by decide +kernel
theorem d_49_42 : decode M_49.2.2.1 42 = .ok (.lload_n 0, 1) := by decide +kernel
theorem d_49_43 : decode M_49.2.2.1 43 = .ok (.bipush 16, 2) := by decide +kernel
theorem d_49_45 : decode M_49.2.2.1 45 = .ok (.lushr, 1) := by decide +kernel
theorem d_49_46 : decode M_49.2.2.1 46 = .ok (.ladd, 1) := by decide +kernel
theorem d_49_47 : decode M_49.2.2.1 47 = .ok (.lstore_n 0, 1) := by decide +kernel
theorem d_49_48 : decode M_49.2.2.1 48 = .ok (.lload_n 0, 1) := by decide +kernel
theorem d_49_49 : decode M_49.2.2.1 49 = .ok (.lload_n 0, 1) := by decide +kernel
theorem d_49_50 : decode M_49.2.2.1 50 = .ok (.bipush 32, 2) := by decide +kernel
theorem d_49_52 : decode M_49.2.2.1 52 = .ok (.lushr, 1) := by decide +kernel
theorem d_49_53 : decode M_49.2.2.1 53 = .ok (.ladd, 1) := by decide +kernel
theorem d_49_54 : decode M_49.2.2.1 54 = .ok (.lstore_n 0, 1) := by decide +kernel
theorem d_49_55 : decode M_49.2.2.1 55 = .ok (.lload_n 0, 1) := by decide +kernel
theorem d_49_56 : decode M_49.2.2.1 56 = .ok (.l2i, 1) := by decide +kernel
theorem d_49_57 : decode M_49.2.2.1 57 = .ok (.bipush 127, 2) := by decide +kernel
theorem d_49_59 : decode M_49.2.2.1 59 = .ok (.iand, 1) := by decide +kernel
theorem d_49_60 : decode M_49.2.2.1 60 = .ok (.ireturn, 1) := by decide +kernel
/-- java/lang/Integer.bitCount(I)I -/
def M_72 : am_MT := (10, ⟨"java/lang/Integer", "bitCount", "(I)I"⟩, prog_11_method_49_code, 1, some .int, false, 1, (0, 0))
theorem hM_72 : am_ms[72]? = some M_72 := rfl
theorem d_72_0 : decode M_72.2.2.1 0 = .ok (.iload_n 0, 1) := by decide +kernel
theorem d_72_1 : decode M_72.2.2.1 1 = .ok (.iload_n 0, 1) := by decide +kernel
theorem d_72_2 : decode M_72.2.2.1 2 = .ok (.iconst 1, 1) := by decide +kernel
theorem d_72_3 : decode M_72.2.2.1 3 = .ok (.iushr, 1) := by decide +kernel
theorem d_72_4 : decode M_72.2.2.1 4 = .ok (.ldc_w 265, 3) := by decide +kernel
theorem d_72_7 : decode M_72.2.2.1 7 = .ok (.iand, 1) := by decide +kernel
theorem d_72_8 : decode M_72.2.2.1 8 = .ok (.isub, 1) := by decide +kernel
theorem d_72_9 : decode M_72.2.2.1 9 = .ok (.istore_n 0, 1) := by decide +kernel
theorem d_72_10 : decode M_72.2.2.1 10 = .ok (.iload_n 0, 1) := by decide +kernel
theorem d_72_11 : decode M_72.2.2.1 11 = .ok (.ldc_w 266, 3) := by decide +kernel
theorem d_72_14 : decode M_72.2.2.1 14 = .ok (.iand, 1) := by decide +kernel
theorem d_72_15 : decode M_72.2.2.1 15 = .ok (.iload_n 0, 1) := by decide +kernel
theorem d_72_16 : decode M_72.2.2.1 16 = .ok (.iconst 2, 1) := by decide +kernel
theorem d_72_17 : decode M_72.2.2.1 17 = .ok (.iushr, 1) := by decide +kernel
theorem d_72_18 : decode M_72.2.2.1 18 = .ok (.ldc_w 266, 3) := by decide +kernel
theorem d_72_21 : decode M_72.2.2.1 21 = .ok (.iand, 1) := by decide +kernel
theorem d_72_22 : decode M_72.2.2.1 22 = .ok (.iadd, 1) := by decide +kernel
theorem d_72_23 : decode M_72.2.2.1 23 = .ok (.istore_n 0, 1) := by decide +kernel
theorem d_72_24 : decode M_72.2.2.1 24 = .ok (.iload_n 0, 1) := by decide +kernel
theorem d_72_25 : decode M_72.2.2.1 25 = .ok (.iload_n 0, 1) := by decide +kernel
theorem d_72_26 : decode M_72.2.2.1 26 = .ok (.iconst 4, 1) := by decide +kernel
theorem d_72_27 : decode M_72.2.2.1 27 = .ok (.iushr, 1) := by decide +kernel
theorem d_72_28 : decode M_72.2.2.1 28 = .ok (.iadd, 1) := by decide +kernel
theorem d_72_29 : decode M_72.2.2.1 29 = .ok (.ldc_w 267, 3) := by decide +kernel
theorem d_72_32 : decode M_72.2.2.1 32 = .ok (.iand, 1) := by decide +kernel
theorem d_72_33 : decode M_72.2.2.1 33 = .ok (.istore_n 0, 1) := by decide +kernel
theorem d_72_34 : decode M_72.2.2.1 34 = .ok (.iload_n 0, 1) := by decide +kernel
theorem d_72_35 : decode M_72.2.2.1 35 = .ok (.iload_n 0, 1) := by decide +kernel
theorem d_72_36 : decode M_72.2.2.1 36 = .ok (.bipush 8, 2) := by decide +kernel
theorem d_72_38 : decode M_72.2.2.1 38 = .ok (.iushr, 1) := by decide +kernel
theorem d_72_39 : decode M_72.2.2.1 39 = .ok (.iadd, 1) := by decide +kernel
theorem d_72_40 : decode M_72.2.2.1 40 = .ok (.istore_n 0, 1) := by decide +kernel
theorem d_72_41 : decode M_72.2.2.1 41 = .ok (.iload_n 0, 1) := by decide +kernel
theorem d_72_42 : decode M_72.2.2.1 42 = .ok (.iload_n 0, 1) := by decide +kernel
theorem d_72_43 : decode M_72.2.2.1 43 = .ok (.bipush 16, 2) := by decide +kernel
theorem d_72_45 : decode M_72.2.2.1 45 = .ok (.iushr, 1) := by decide +kernel
theorem d_72_46 : decode M_72.2.2.1 46 = .ok (.iadd, 1) := by decide +kernel
theorem d_72_47 : decode M_72.2.2.1 47 = .ok (.istore_n 0, 1) := by decide +kernel
theorem d_72_48 : decode M_72.2.2.1 48 = .ok (.iload_n 0, 1) := by decide +kernel
theorem d_72_49 : decode M_72.2.2.1 49 = .ok (.bipush 63, 2) := by decide +kernel
theorem d_72_51 : decode M_72.2.2.1 51 = .ok (.iand, 1) := by decide +kernel
theorem d_72_52 : decode M_72.2.2.1 52 = .ok (.ireturn, 1) := by decide +kernel
/-- java/lang/Math.max(II)I -/
def M_74 : am_MT := (12, ⟨"java/lang/Math", "max", "(II)I"⟩, prog_13_method_65_code, 2, some .int, false, 2, (0, 0))
theorem hM_74 : am_ms[74]? = some M_74 := rfl
theorem d_74_0 : decode M_74.2.2.1 0 = .ok (.iload_n 0, 1) := by decide +kernel
theorem d_74_1 : decode M_74.2.2.1 1 = .ok (.iload_n 1, 1) := by decide +kernel
theorem d_74_2 : decode M_74.2.2.1 2 = .ok (.if_icmp .lt 7, 3) := by decide +kernel
theorem d_74_5 : decode M_74.2.2.1 5 = .ok (.iload_n 0, 1) := by decide +kernel
theorem d_74_6 : decode M_74.2.2.1 6 = .ok (.goto 4, 3) := by decide +kernel
theorem d_74_9 : decode M_74.2.2.1 9 = .ok (.iload_n 1, 1) := by decide +kernel
theorem d_74_10 : decode M_74.2.2.1 10 = .ok (.ireturn, 1) := by decide +kernel
/-- java/lang/Math.floorDiv(II)I -/
def M_75 : am_MT := (12, ⟨"java/lang/Math", "floorDiv", "(II)I"⟩, prog_13_method_47_code, 3, some .int, false, 2, (0, 0))
theorem hM_75 : am_ms[75]? = some M_75 := rfl
theorem d_75_0 : decode M_75.2.2.1 0 = .ok (.iload_n 0, 1) := by decide +kernel
theorem d_75_1 : decode M_75.2.2.1 1 = .ok (.iload_n 1, 1) := by decide +kernel
theorem d_75_2 : decode M_75.2.2.1 2 = .ok (.idiv, 1) := by decide +kernel
theorem d_75_3 : decode M_75.2.2.1 3 = .ok (.istore_n 2, 1) := by decide +kernel
theorem d_75_4 : decode M_75.2.2.1 4 = .ok (.iload_n 0, 1) := by decide +kernel
theorem d_75_5 : decode M_75.2.2.1 5 = .ok (.iload_n 1, 1) := by decide +kernel
theorem d_75_6 : decode M_75.2.2.1 6 = .ok (.ixor, 1) := by decide +kernel
theorem d_75_7 : decode M_75.2.2.1 7 = .ok (.ifCond .ge 14, 3) := by decide +kernel
theorem d_75_10 : decode M_75.2.2.1 10 = .ok (.iload_n 2, 1) := by decide +kernel
theorem d_75_11 : decode M_75.2.2.1 11 = .ok (.iload_n 1, 1) := by decide +kernel
theorem d_75_12 : decode M_75.2.2.1 12 = .ok (.imul, 1) := by decide +kernel
theorem d_75_13 : decode M_75.2.2.1 13 = .ok (.iload_n 0, 1) := by decide +kernel
theorem d_75_14 : decode M_75.2.2.1 14 = .ok (.if_icmp .eq 7, 3) := by decide +kernel
theorem d_75_17 : decode M_75.2.2.1 17 = .ok (.iload_n 2, 1) := by decide +kernel
theorem d_75_18 : decode M_75.2.2.1 18 = .ok (.iconst 1, 1) := by decide +kernel
theorem d_75_19 : decode M_75.2.2.1 19 = .ok (.isub, 1) := by decide +kernel
theorem d_75_20 : decode M_75.2.2.1 20 = .ok (.ireturn, 1) := by decide +kernel
theorem d_75_21 : decode M_75.2.2.1 21 = .ok (.iload_n 2, 1) := by decide +kernel
theorem d_75_22 : decode M_75.2.2.1 22 = .ok (.ireturn, 1) := by decide +kernel
/-- java/util/Arrays.fill([II)V -/
def M_96 : am_MT := (15, ⟨"java/util/Arrays", "fill", "([II)V"⟩, prog_17_method_103_code, 4, none, false, 2, (0, 0))
theorem hM_96 : am_ms[96]? = some M_96 := rfl
theorem d_96_0 : decode M_96.2.2.1 0 = .ok (.iconst 0, 1) := by decide +kernel
theorem d_96_1 : decode M_96.2.2.1 1 = .ok (.istore_n 2, 1) := by decide +kernel
theorem d_96_2 : decode M_96.2.2.1 2 = .ok (.aload_n 0, 1) := by decide +kernel
theorem d_96_3 : decode M_96.2.2.1 3 = .ok (.arraylength, 1) := by decide +kernel
theorem d_96_4 : decode M_96.2.2.1 4 = .ok (.istore_n 3, 1) := by decide +kernel
theorem d_96_5 : decode M_96.2.2.1 5 = .ok (.iload_n 2, 1) := by decide +kernel
theorem d_96_6 : decode M_96.2.2.1 6 = .ok (.iload_n 3, 1) := by decide +kernel
theorem d_96_7 : decode M_96.2.2.1 7 = .ok (.if_icmp .ge 13, 3) := by decide +kernel
theorem d_96_10 : decode M_96.2.2.1 10 = .ok (.aload_n 0, 1) := by decide +kernel
theorem d_96_11 : decode M_96.2.2.1 11 = .ok (.iload_n 2, 1) := by decide +kernel
theorem d_96_12 : decode M_96.2.2.1 12 = .ok (.iload_n 1, 1) := by decide +kernel
theorem d_96_13 : decode M_96.2.2.1 13 = .ok (.iastore, 1) := by decide +kernel
theorem d_96_14 : decode M_96.2.2.1 14 = .ok (.iinc 2 1, 3) := by decide +kernel
theorem d_96_17 : decode M_96.2.2.1 17 = .ok (.goto (-12), 3) := by decide +kernel
theorem d_96_20 : decode M_96.2.2.1 20 = .ok (.return_, 1) := by decide +kernel
/-- java/lang/Math.abs(I)I -/
def M_150 : am_MT := (12, ⟨"java/lang/Math", "abs", "(I)I"⟩, prog_13_method_59_code, 1, some .int, false, 1, (0, 0))
theorem hM_150 : am_ms[150]? = some M_150 := rfl
theorem d_150_0 : decode M_150.2.2.1 0 = .ok (.iload_n 0, 1) := by decide +kernel
theorem d_150_1 : decode M_150.2.2.1 1 = .ok (.ifCond .ge 8, 3) := by decide +kernel
theorem d_150_4 : decode M_150.2.2.1 4 = .ok (.iload_n 0, 1) := by decide +kernel
theorem d_150_5 : decode M_150.2.2.1 5 = .ok (.ineg, 1) := by decide +kernel
theorem d_150_6 : decode M_150.2.2.1 6 = .ok (.goto 4, 3) := by decide +kernel
theorem d_150_9 : decode M_150.2.2.1 9 = .ok (.iload_n 0, 1) := by decide +kernel
theorem d_150_10 : decode M_150.2.2.1 10 = .ok (.ireturn, 1) := by decide +kernel
/-- java/util/Arrays.fill([JJ)V -/
def M_155 : am_MT := (15, ⟨"java/util/Arrays", "fill", "([JJ)V"⟩, prog_17_method_101_code, 5, none, false, 2, (0, 0))
theorem hM_155 : am_ms[155]? = some M_155 := rfl
theorem d_155_0 : decode M_155.2.2.1 0 = .ok (.iconst 0, 1) := by decide +kernel
theorem d_155_1 : decode M_155.2.2.1 1 = .ok (.istore_n 3, 1) := by decide +kernel
theorem d_155_2 : decode M_155.2.2.1 2 = .ok (.aload_n 0, 1) := by decide +kernel
theorem d_155_3 : decode M_155.2.2.1 3 = .ok (.arraylength, 1) := by decide +kernel
theorem d_155_4 : decode M_155.2.2.1 4 = .ok (.istore 4, 2) := by decide +kernel
theorem d_155_6 : decode M_155.2.2.1 6 = .ok (.iload_n 3, 1) := by decide +kernel
theorem d_155_7 : decode M_155.2.2.1 7 = .ok (.iload 4, 2) := by decide +kernel
theorem d_155_9 : decode M_155.2.2.1 9 = .ok (.if_icmp .ge 13, 3) := by decide +kernel
theorem d_155_12 : decode M_155.2.2.1 12 = .ok (.aload_n 0, 1) := by decide +kernel
theorem d_155_13 : decode M_155.2.2.1 13 = .ok (.iload_n 3, 1) := by decide +kernel
theorem d_155_14 : decode M_155.2.2.1 14 = .ok (.lload_n 1, 1) := by decide +kernel
theorem d_155_15 : decode M_155.2.2.1 15 = .ok (.lastore, 1) := by decide +kernel
theorem d_155_16 : decode M_155.2.2.1 16 = .ok (.iinc 3 1, 3) := by decide +kernel
theorem d_155_19 : decode M_155.2.2.1 19 = .ok (.goto (-13), 3) := by decide +kernel
theorem d_155_22 : decode M_155.2.2.1 22 = .ok (.return_, 1) := by decide +kernel
