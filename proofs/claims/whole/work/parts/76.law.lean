/-! THE LAW: its predicates, its walk, by program (wip/gen/law.py) -/
theorem dL_law_0 : decode cL_law 0 = .ok (.new 7, 3) := by decide +kernel
theorem dL_law_3 : decode cL_law 3 = .ok (.dup, 1) := by decide +kernel
theorem dL_law_4 : decode cL_law 4 = .ok (.invokespecial 9, 3) := by decide +kernel
theorem dL_law_7 : decode cL_law 7 = .ok (.astore_n 1, 1) := by decide +kernel
theorem dL_law_8 : decode cL_law 8 = .ok (.new 10, 3) := by decide +kernel
theorem dL_law_11 : decode cL_law 11 = .ok (.dup, 1) := by decide +kernel
theorem dL_law_12 : decode cL_law 12 = .ok (.invokespecial 12, 3) := by decide +kernel
theorem dL_law_15 : decode cL_law 15 = .ok (.astore_n 2, 1) := by decide +kernel
theorem dL_law_16 : decode cL_law 16 = .ok (.iconst 0, 1) := by decide +kernel
theorem dL_law_17 : decode cL_law 17 = .ok (.istore_n 3, 1) := by decide +kernel
theorem dL_law_18 : decode cL_law 18 = .ok (.iload_n 3, 1) := by decide +kernel
theorem dL_law_19 : decode cL_law 19 = .ok (.aload_n 0, 1) := by decide +kernel
theorem dL_law_20 : decode cL_law 20 = .ok (.arraylength, 1) := by decide +kernel
theorem dL_law_21 : decode cL_law 21 = .ok (.bipush 7, 2) := by decide +kernel
theorem dL_law_23 : decode cL_law 23 = .ok (.isub, 1) := by decide +kernel
theorem dL_law_24 : decode cL_law 24 = .ok (.if_icmp .gt 1301, 3) := by decide +kernel
theorem dL_law_27 : decode cL_law 27 = .ok (.aload_n 0, 1) := by decide +kernel
theorem dL_law_28 : decode cL_law 28 = .ok (.iload_n 3, 1) := by decide +kernel
theorem dL_law_29 : decode cL_law 29 = .ok (.iaload, 1) := by decide +kernel
theorem dL_law_30 : decode cL_law 30 = .ok (.bipush 31, 2) := by decide +kernel
theorem dL_law_32 : decode cL_law 32 = .ok (.iand, 1) := by decide +kernel
theorem dL_law_33 : decode cL_law 33 = .ok (.tableswitch 1286 0 27 #[127, 190, 203, 216, 229, 304, 347, 390, 443, 486, 529, 552, 605, 638, 671, 694, 727, 770, 833, 876, 929, 1005, 1058, 1091, 1144, 1187, 1230, 1263], 127) := by decide +kernel
theorem dL_law_160 : decode cL_law 160 = .ok (.aload_n 1, 1) := by decide +kernel
theorem dL_law_161 : decode cL_law 161 = .ok (.aload_n 0, 1) := by decide +kernel
theorem dL_law_162 : decode cL_law 162 = .ok (.iload_n 3, 1) := by decide +kernel
theorem dL_law_163 : decode cL_law 163 = .ok (.iconst 1, 1) := by decide +kernel
theorem dL_law_164 : decode cL_law 164 = .ok (.iadd, 1) := by decide +kernel
theorem dL_law_165 : decode cL_law 165 = .ok (.iaload, 1) := by decide +kernel
theorem dL_law_166 : decode cL_law 166 = .ok (.aload_n 0, 1) := by decide +kernel
theorem dL_law_167 : decode cL_law 167 = .ok (.iload_n 3, 1) := by decide +kernel
theorem dL_law_168 : decode cL_law 168 = .ok (.iconst 2, 1) := by decide +kernel
theorem dL_law_169 : decode cL_law 169 = .ok (.iadd, 1) := by decide +kernel
theorem dL_law_170 : decode cL_law 170 = .ok (.iaload, 1) := by decide +kernel
theorem dL_law_171 : decode cL_law 171 = .ok (.i2l, 1) := by decide +kernel
theorem dL_law_172 : decode cL_law 172 = .ok (.bipush 32, 2) := by decide +kernel
theorem dL_law_174 : decode cL_law 174 = .ok (.lshl, 1) := by decide +kernel
theorem dL_law_175 : decode cL_law 175 = .ok (.aload_n 0, 1) := by decide +kernel
theorem dL_law_176 : decode cL_law 176 = .ok (.iload_n 3, 1) := by decide +kernel
theorem dL_law_177 : decode cL_law 177 = .ok (.iconst 3, 1) := by decide +kernel
theorem dL_law_178 : decode cL_law 178 = .ok (.iadd, 1) := by decide +kernel
theorem dL_law_179 : decode cL_law 179 = .ok (.iaload, 1) := by decide +kernel
theorem dL_law_180 : decode cL_law 180 = .ok (.i2l, 1) := by decide +kernel
theorem dL_law_181 : decode cL_law 181 = .ok (.ldc2_w 13, 3) := by decide +kernel
theorem dL_law_184 : decode cL_law 184 = .ok (.land, 1) := by decide +kernel
theorem dL_law_185 : decode cL_law 185 = .ok (.lor, 1) := by decide +kernel
theorem dL_law_186 : decode cL_law 186 = .ok (.invokevirtual 15, 3) := by decide +kernel
theorem dL_law_189 : decode cL_law 189 = .ok (.aload_n 2, 1) := by decide +kernel
theorem dL_law_190 : decode cL_law 190 = .ok (.aload_n 0, 1) := by decide +kernel
theorem dL_law_191 : decode cL_law 191 = .ok (.iload_n 3, 1) := by decide +kernel
theorem dL_law_192 : decode cL_law 192 = .ok (.iconst 1, 1) := by decide +kernel
theorem dL_law_193 : decode cL_law 193 = .ok (.iadd, 1) := by decide +kernel
theorem dL_law_194 : decode cL_law 194 = .ok (.iaload, 1) := by decide +kernel
theorem dL_law_195 : decode cL_law 195 = .ok (.aload_n 0, 1) := by decide +kernel
theorem dL_law_196 : decode cL_law 196 = .ok (.iload_n 3, 1) := by decide +kernel
theorem dL_law_197 : decode cL_law 197 = .ok (.iconst 2, 1) := by decide +kernel
theorem dL_law_198 : decode cL_law 198 = .ok (.iadd, 1) := by decide +kernel
theorem dL_law_199 : decode cL_law 199 = .ok (.iaload, 1) := by decide +kernel
theorem dL_law_200 : decode cL_law 200 = .ok (.i2l, 1) := by decide +kernel
theorem dL_law_201 : decode cL_law 201 = .ok (.bipush 32, 2) := by decide +kernel
theorem dL_law_203 : decode cL_law 203 = .ok (.lshl, 1) := by decide +kernel
theorem dL_law_204 : decode cL_law 204 = .ok (.aload_n 0, 1) := by decide +kernel
theorem dL_law_205 : decode cL_law 205 = .ok (.iload_n 3, 1) := by decide +kernel
theorem dL_law_206 : decode cL_law 206 = .ok (.iconst 3, 1) := by decide +kernel
theorem dL_law_207 : decode cL_law 207 = .ok (.iadd, 1) := by decide +kernel
theorem dL_law_208 : decode cL_law 208 = .ok (.iaload, 1) := by decide +kernel
theorem dL_law_209 : decode cL_law 209 = .ok (.i2l, 1) := by decide +kernel
theorem dL_law_210 : decode cL_law 210 = .ok (.ldc2_w 13, 3) := by decide +kernel
theorem dL_law_213 : decode cL_law 213 = .ok (.land, 1) := by decide +kernel
theorem dL_law_214 : decode cL_law 214 = .ok (.lor, 1) := by decide +kernel
theorem dL_law_215 : decode cL_law 215 = .ok (.invokevirtual 19, 3) := by decide +kernel
theorem dL_law_218 : decode cL_law 218 = .ok (.if_icmp .eq 1101, 3) := by decide +kernel
theorem dL_law_221 : decode cL_law 221 = .ok (.iconst 0, 1) := by decide +kernel
theorem dL_law_222 : decode cL_law 222 = .ok (.ireturn, 1) := by decide +kernel
theorem dL_law_223 : decode cL_law 223 = .ok (.aload_n 1, 1) := by decide +kernel
theorem dL_law_224 : decode cL_law 224 = .ok (.invokevirtual 20, 3) := by decide +kernel
theorem dL_law_227 : decode cL_law 227 = .ok (.aload_n 2, 1) := by decide +kernel
theorem dL_law_228 : decode cL_law 228 = .ok (.invokevirtual 24, 3) := by decide +kernel
theorem dL_law_231 : decode cL_law 231 = .ok (.if_icmp .eq 1088, 3) := by decide +kernel
theorem dL_law_234 : decode cL_law 234 = .ok (.iconst 0, 1) := by decide +kernel
theorem dL_law_235 : decode cL_law 235 = .ok (.ireturn, 1) := by decide +kernel
theorem dL_law_236 : decode cL_law 236 = .ok (.aload_n 1, 1) := by decide +kernel
theorem dL_law_237 : decode cL_law 237 = .ok (.invokevirtual 25, 3) := by decide +kernel
theorem dL_law_240 : decode cL_law 240 = .ok (.aload_n 2, 1) := by decide +kernel
theorem dL_law_241 : decode cL_law 241 = .ok (.invokevirtual 28, 3) := by decide +kernel
theorem dL_law_244 : decode cL_law 244 = .ok (.if_icmp .eq 1075, 3) := by decide +kernel
theorem dL_law_247 : decode cL_law 247 = .ok (.iconst 0, 1) := by decide +kernel
theorem dL_law_248 : decode cL_law 248 = .ok (.ireturn, 1) := by decide +kernel
theorem dL_law_249 : decode cL_law 249 = .ok (.aload_n 1, 1) := by decide +kernel
theorem dL_law_250 : decode cL_law 250 = .ok (.invokevirtual 29, 3) := by decide +kernel
theorem dL_law_253 : decode cL_law 253 = .ok (.aload_n 2, 1) := by decide +kernel
theorem dL_law_254 : decode cL_law 254 = .ok (.invokevirtual 32, 3) := by decide +kernel
theorem dL_law_257 : decode cL_law 257 = .ok (.if_icmp .eq 1062, 3) := by decide +kernel
theorem dL_law_260 : decode cL_law 260 = .ok (.iconst 0, 1) := by decide +kernel
theorem dL_law_261 : decode cL_law 261 = .ok (.ireturn, 1) := by decide +kernel
theorem dL_law_262 : decode cL_law 262 = .ok (.aload_n 1, 1) := by decide +kernel
theorem dL_law_263 : decode cL_law 263 = .ok (.aload_n 0, 1) := by decide +kernel
theorem dL_law_264 : decode cL_law 264 = .ok (.iload_n 3, 1) := by decide +kernel
theorem dL_law_265 : decode cL_law 265 = .ok (.iconst 1, 1) := by decide +kernel
theorem dL_law_266 : decode cL_law 266 = .ok (.iadd, 1) := by decide +kernel
theorem dL_law_267 : decode cL_law 267 = .ok (.iaload, 1) := by decide +kernel
theorem dL_law_268 : decode cL_law 268 = .ok (.aload_n 0, 1) := by decide +kernel
theorem dL_law_269 : decode cL_law 269 = .ok (.iload_n 3, 1) := by decide +kernel
theorem dL_law_270 : decode cL_law 270 = .ok (.iconst 2, 1) := by decide +kernel
theorem dL_law_271 : decode cL_law 271 = .ok (.iadd, 1) := by decide +kernel
theorem dL_law_272 : decode cL_law 272 = .ok (.iaload, 1) := by decide +kernel
theorem dL_law_273 : decode cL_law 273 = .ok (.aload_n 0, 1) := by decide +kernel
theorem dL_law_274 : decode cL_law 274 = .ok (.iload_n 3, 1) := by decide +kernel
theorem dL_law_275 : decode cL_law 275 = .ok (.iconst 3, 1) := by decide +kernel
theorem dL_law_276 : decode cL_law 276 = .ok (.iadd, 1) := by decide +kernel
theorem dL_law_277 : decode cL_law 277 = .ok (.iaload, 1) := by decide +kernel
theorem dL_law_278 : decode cL_law 278 = .ok (.aload_n 0, 1) := by decide +kernel
theorem dL_law_279 : decode cL_law 279 = .ok (.iload_n 3, 1) := by decide +kernel
theorem dL_law_280 : decode cL_law 280 = .ok (.iconst 4, 1) := by decide +kernel
theorem dL_law_281 : decode cL_law 281 = .ok (.iadd, 1) := by decide +kernel
theorem dL_law_282 : decode cL_law 282 = .ok (.iaload, 1) := by decide +kernel
theorem dL_law_283 : decode cL_law 283 = .ok (.aload_n 0, 1) := by decide +kernel
theorem dL_law_284 : decode cL_law 284 = .ok (.iload_n 3, 1) := by decide +kernel
theorem dL_law_285 : decode cL_law 285 = .ok (.iconst 5, 1) := by decide +kernel
theorem dL_law_286 : decode cL_law 286 = .ok (.iadd, 1) := by decide +kernel
theorem dL_law_287 : decode cL_law 287 = .ok (.iaload, 1) := by decide +kernel
theorem dL_law_288 : decode cL_law 288 = .ok (.aload_n 0, 1) := by decide +kernel
theorem dL_law_289 : decode cL_law 289 = .ok (.iload_n 3, 1) := by decide +kernel
theorem dL_law_290 : decode cL_law 290 = .ok (.bipush 6, 2) := by decide +kernel
theorem dL_law_292 : decode cL_law 292 = .ok (.iadd, 1) := by decide +kernel
theorem dL_law_293 : decode cL_law 293 = .ok (.iaload, 1) := by decide +kernel
theorem dL_law_294 : decode cL_law 294 = .ok (.invokevirtual 33, 3) := by decide +kernel
theorem dL_law_297 : decode cL_law 297 = .ok (.aload_n 2, 1) := by decide +kernel
theorem dL_law_298 : decode cL_law 298 = .ok (.aload_n 0, 1) := by decide +kernel
theorem dL_law_299 : decode cL_law 299 = .ok (.iload_n 3, 1) := by decide +kernel
theorem dL_law_300 : decode cL_law 300 = .ok (.iconst 1, 1) := by decide +kernel
theorem dL_law_301 : decode cL_law 301 = .ok (.iadd, 1) := by decide +kernel
theorem dL_law_302 : decode cL_law 302 = .ok (.iaload, 1) := by decide +kernel
theorem dL_law_303 : decode cL_law 303 = .ok (.aload_n 0, 1) := by decide +kernel
theorem dL_law_304 : decode cL_law 304 = .ok (.iload_n 3, 1) := by decide +kernel
theorem dL_law_305 : decode cL_law 305 = .ok (.iconst 2, 1) := by decide +kernel
theorem dL_law_306 : decode cL_law 306 = .ok (.iadd, 1) := by decide +kernel
theorem dL_law_307 : decode cL_law 307 = .ok (.iaload, 1) := by decide +kernel
theorem dL_law_308 : decode cL_law 308 = .ok (.aload_n 0, 1) := by decide +kernel
theorem dL_law_309 : decode cL_law 309 = .ok (.iload_n 3, 1) := by decide +kernel
theorem dL_law_310 : decode cL_law 310 = .ok (.iconst 3, 1) := by decide +kernel
theorem dL_law_311 : decode cL_law 311 = .ok (.iadd, 1) := by decide +kernel
theorem dL_law_312 : decode cL_law 312 = .ok (.iaload, 1) := by decide +kernel
theorem dL_law_313 : decode cL_law 313 = .ok (.aload_n 0, 1) := by decide +kernel
theorem dL_law_314 : decode cL_law 314 = .ok (.iload_n 3, 1) := by decide +kernel
theorem dL_law_315 : decode cL_law 315 = .ok (.iconst 4, 1) := by decide +kernel
theorem dL_law_316 : decode cL_law 316 = .ok (.iadd, 1) := by decide +kernel
theorem dL_law_317 : decode cL_law 317 = .ok (.iaload, 1) := by decide +kernel
theorem dL_law_318 : decode cL_law 318 = .ok (.aload_n 0, 1) := by decide +kernel
theorem dL_law_319 : decode cL_law 319 = .ok (.iload_n 3, 1) := by decide +kernel
theorem dL_law_320 : decode cL_law 320 = .ok (.iconst 5, 1) := by decide +kernel
theorem dL_law_321 : decode cL_law 321 = .ok (.iadd, 1) := by decide +kernel
theorem dL_law_322 : decode cL_law 322 = .ok (.iaload, 1) := by decide +kernel
theorem dL_law_323 : decode cL_law 323 = .ok (.aload_n 0, 1) := by decide +kernel
theorem dL_law_324 : decode cL_law 324 = .ok (.iload_n 3, 1) := by decide +kernel
theorem dL_law_325 : decode cL_law 325 = .ok (.bipush 6, 2) := by decide +kernel
theorem dL_law_327 : decode cL_law 327 = .ok (.iadd, 1) := by decide +kernel
theorem dL_law_328 : decode cL_law 328 = .ok (.iaload, 1) := by decide +kernel
theorem dL_law_329 : decode cL_law 329 = .ok (.invokevirtual 37, 3) := by decide +kernel
theorem dL_law_332 : decode cL_law 332 = .ok (.if_icmp .eq 987, 3) := by decide +kernel
theorem dL_law_335 : decode cL_law 335 = .ok (.iconst 0, 1) := by decide +kernel
theorem dL_law_336 : decode cL_law 336 = .ok (.ireturn, 1) := by decide +kernel
theorem dL_law_337 : decode cL_law 337 = .ok (.aload_n 1, 1) := by decide +kernel
theorem dL_law_338 : decode cL_law 338 = .ok (.aload_n 0, 1) := by decide +kernel
theorem dL_law_339 : decode cL_law 339 = .ok (.iload_n 3, 1) := by decide +kernel
theorem dL_law_340 : decode cL_law 340 = .ok (.iconst 1, 1) := by decide +kernel
theorem dL_law_341 : decode cL_law 341 = .ok (.iadd, 1) := by decide +kernel
theorem dL_law_342 : decode cL_law 342 = .ok (.iaload, 1) := by decide +kernel
theorem dL_law_343 : decode cL_law 343 = .ok (.aload_n 0, 1) := by decide +kernel
theorem dL_law_344 : decode cL_law 344 = .ok (.iload_n 3, 1) := by decide +kernel
theorem dL_law_345 : decode cL_law 345 = .ok (.iconst 2, 1) := by decide +kernel
theorem dL_law_346 : decode cL_law 346 = .ok (.iadd, 1) := by decide +kernel
theorem dL_law_347 : decode cL_law 347 = .ok (.iaload, 1) := by decide +kernel
theorem dL_law_348 : decode cL_law 348 = .ok (.aload_n 0, 1) := by decide +kernel
theorem dL_law_349 : decode cL_law 349 = .ok (.iload_n 3, 1) := by decide +kernel
theorem dL_law_350 : decode cL_law 350 = .ok (.iconst 3, 1) := by decide +kernel
theorem dL_law_351 : decode cL_law 351 = .ok (.iadd, 1) := by decide +kernel
theorem dL_law_352 : decode cL_law 352 = .ok (.iaload, 1) := by decide +kernel
theorem dL_law_353 : decode cL_law 353 = .ok (.invokevirtual 38, 3) := by decide +kernel
theorem dL_law_356 : decode cL_law 356 = .ok (.aload_n 2, 1) := by decide +kernel
theorem dL_law_357 : decode cL_law 357 = .ok (.aload_n 0, 1) := by decide +kernel
theorem dL_law_358 : decode cL_law 358 = .ok (.iload_n 3, 1) := by decide +kernel
theorem dL_law_359 : decode cL_law 359 = .ok (.iconst 1, 1) := by decide +kernel
theorem dL_law_360 : decode cL_law 360 = .ok (.iadd, 1) := by decide +kernel
theorem dL_law_361 : decode cL_law 361 = .ok (.iaload, 1) := by decide +kernel
theorem dL_law_362 : decode cL_law 362 = .ok (.aload_n 0, 1) := by decide +kernel
theorem dL_law_363 : decode cL_law 363 = .ok (.iload_n 3, 1) := by decide +kernel
theorem dL_law_364 : decode cL_law 364 = .ok (.iconst 2, 1) := by decide +kernel
theorem dL_law_365 : decode cL_law 365 = .ok (.iadd, 1) := by decide +kernel
theorem dL_law_366 : decode cL_law 366 = .ok (.iaload, 1) := by decide +kernel
theorem dL_law_367 : decode cL_law 367 = .ok (.aload_n 0, 1) := by decide +kernel
theorem dL_law_368 : decode cL_law 368 = .ok (.iload_n 3, 1) := by decide +kernel
theorem dL_law_369 : decode cL_law 369 = .ok (.iconst 3, 1) := by decide +kernel
theorem dL_law_370 : decode cL_law 370 = .ok (.iadd, 1) := by decide +kernel
theorem dL_law_371 : decode cL_law 371 = .ok (.iaload, 1) := by decide +kernel
theorem dL_law_372 : decode cL_law 372 = .ok (.invokevirtual 42, 3) := by decide +kernel
theorem dL_law_375 : decode cL_law 375 = .ok (.if_icmp .eq 944, 3) := by decide +kernel
theorem dL_law_378 : decode cL_law 378 = .ok (.iconst 0, 1) := by decide +kernel
theorem dL_law_379 : decode cL_law 379 = .ok (.ireturn, 1) := by decide +kernel
theorem dL_law_380 : decode cL_law 380 = .ok (.aload_n 1, 1) := by decide +kernel
theorem dL_law_381 : decode cL_law 381 = .ok (.aload_n 0, 1) := by decide +kernel
theorem dL_law_382 : decode cL_law 382 = .ok (.iload_n 3, 1) := by decide +kernel
theorem dL_law_383 : decode cL_law 383 = .ok (.iconst 1, 1) := by decide +kernel
theorem dL_law_384 : decode cL_law 384 = .ok (.iadd, 1) := by decide +kernel
theorem dL_law_385 : decode cL_law 385 = .ok (.iaload, 1) := by decide +kernel
theorem dL_law_386 : decode cL_law 386 = .ok (.aload_n 0, 1) := by decide +kernel
theorem dL_law_387 : decode cL_law 387 = .ok (.iload_n 3, 1) := by decide +kernel
theorem dL_law_388 : decode cL_law 388 = .ok (.iconst 2, 1) := by decide +kernel
theorem dL_law_389 : decode cL_law 389 = .ok (.iadd, 1) := by decide +kernel
theorem dL_law_390 : decode cL_law 390 = .ok (.iaload, 1) := by decide +kernel
theorem dL_law_391 : decode cL_law 391 = .ok (.aload_n 0, 1) := by decide +kernel
theorem dL_law_392 : decode cL_law 392 = .ok (.iload_n 3, 1) := by decide +kernel
theorem dL_law_393 : decode cL_law 393 = .ok (.iconst 3, 1) := by decide +kernel
theorem dL_law_394 : decode cL_law 394 = .ok (.iadd, 1) := by decide +kernel
theorem dL_law_395 : decode cL_law 395 = .ok (.iaload, 1) := by decide +kernel
theorem dL_law_396 : decode cL_law 396 = .ok (.invokevirtual 43, 3) := by decide +kernel
theorem dL_law_399 : decode cL_law 399 = .ok (.aload_n 2, 1) := by decide +kernel
theorem dL_law_400 : decode cL_law 400 = .ok (.aload_n 0, 1) := by decide +kernel
theorem dL_law_401 : decode cL_law 401 = .ok (.iload_n 3, 1) := by decide +kernel
theorem dL_law_402 : decode cL_law 402 = .ok (.iconst 1, 1) := by decide +kernel
theorem dL_law_403 : decode cL_law 403 = .ok (.iadd, 1) := by decide +kernel
theorem dL_law_404 : decode cL_law 404 = .ok (.iaload, 1) := by decide +kernel
theorem dL_law_405 : decode cL_law 405 = .ok (.aload_n 0, 1) := by decide +kernel
theorem dL_law_406 : decode cL_law 406 = .ok (.iload_n 3, 1) := by decide +kernel
theorem dL_law_407 : decode cL_law 407 = .ok (.iconst 2, 1) := by decide +kernel
theorem dL_law_408 : decode cL_law 408 = .ok (.iadd, 1) := by decide +kernel
theorem dL_law_409 : decode cL_law 409 = .ok (.iaload, 1) := by decide +kernel
theorem dL_law_410 : decode cL_law 410 = .ok (.aload_n 0, 1) := by decide +kernel
theorem dL_law_411 : decode cL_law 411 = .ok (.iload_n 3, 1) := by decide +kernel
theorem dL_law_412 : decode cL_law 412 = .ok (.iconst 3, 1) := by decide +kernel
theorem dL_law_413 : decode cL_law 413 = .ok (.iadd, 1) := by decide +kernel
theorem dL_law_414 : decode cL_law 414 = .ok (.iaload, 1) := by decide +kernel
theorem dL_law_415 : decode cL_law 415 = .ok (.invokevirtual 46, 3) := by decide +kernel
theorem dL_law_418 : decode cL_law 418 = .ok (.if_icmp .eq 901, 3) := by decide +kernel
theorem dL_law_421 : decode cL_law 421 = .ok (.iconst 0, 1) := by decide +kernel
theorem dL_law_422 : decode cL_law 422 = .ok (.ireturn, 1) := by decide +kernel
theorem dL_law_423 : decode cL_law 423 = .ok (.aload_n 1, 1) := by decide +kernel
theorem dL_law_424 : decode cL_law 424 = .ok (.aload_n 0, 1) := by decide +kernel
theorem dL_law_425 : decode cL_law 425 = .ok (.iload_n 3, 1) := by decide +kernel
theorem dL_law_426 : decode cL_law 426 = .ok (.iconst 1, 1) := by decide +kernel
theorem dL_law_427 : decode cL_law 427 = .ok (.iadd, 1) := by decide +kernel
theorem dL_law_428 : decode cL_law 428 = .ok (.iaload, 1) := by decide +kernel
theorem dL_law_429 : decode cL_law 429 = .ok (.aload_n 0, 1) := by decide +kernel
theorem dL_law_430 : decode cL_law 430 = .ok (.iload_n 3, 1) := by decide +kernel
theorem dL_law_431 : decode cL_law 431 = .ok (.iconst 2, 1) := by decide +kernel
theorem dL_law_432 : decode cL_law 432 = .ok (.iadd, 1) := by decide +kernel
theorem dL_law_433 : decode cL_law 433 = .ok (.iaload, 1) := by decide +kernel
theorem dL_law_434 : decode cL_law 434 = .ok (.aload_n 0, 1) := by decide +kernel
theorem dL_law_435 : decode cL_law 435 = .ok (.iload_n 3, 1) := by decide +kernel
theorem dL_law_436 : decode cL_law 436 = .ok (.iconst 3, 1) := by decide +kernel
theorem dL_law_437 : decode cL_law 437 = .ok (.iadd, 1) := by decide +kernel
theorem dL_law_438 : decode cL_law 438 = .ok (.iaload, 1) := by decide +kernel
theorem dL_law_439 : decode cL_law 439 = .ok (.aload_n 0, 1) := by decide +kernel
theorem dL_law_440 : decode cL_law 440 = .ok (.iload_n 3, 1) := by decide +kernel
theorem dL_law_441 : decode cL_law 441 = .ok (.iconst 4, 1) := by decide +kernel
theorem dL_law_442 : decode cL_law 442 = .ok (.iadd, 1) := by decide +kernel
theorem dL_law_443 : decode cL_law 443 = .ok (.iaload, 1) := by decide +kernel
theorem dL_law_444 : decode cL_law 444 = .ok (.invokevirtual 47, 3) := by decide +kernel
theorem dL_law_447 : decode cL_law 447 = .ok (.aload_n 2, 1) := by decide +kernel
theorem dL_law_448 : decode cL_law 448 = .ok (.aload_n 0, 1) := by decide +kernel
theorem dL_law_449 : decode cL_law 449 = .ok (.iload_n 3, 1) := by decide +kernel
theorem dL_law_450 : decode cL_law 450 = .ok (.iconst 1, 1) := by decide +kernel
theorem dL_law_451 : decode cL_law 451 = .ok (.iadd, 1) := by decide +kernel
theorem dL_law_452 : decode cL_law 452 = .ok (.iaload, 1) := by decide +kernel
theorem dL_law_453 : decode cL_law 453 = .ok (.aload_n 0, 1) := by decide +kernel
theorem dL_law_454 : decode cL_law 454 = .ok (.iload_n 3, 1) := by decide +kernel
theorem dL_law_455 : decode cL_law 455 = .ok (.iconst 2, 1) := by decide +kernel
theorem dL_law_456 : decode cL_law 456 = .ok (.iadd, 1) := by decide +kernel
theorem dL_law_457 : decode cL_law 457 = .ok (.iaload, 1) := by decide +kernel
theorem dL_law_458 : decode cL_law 458 = .ok (.aload_n 0, 1) := by decide +kernel
theorem dL_law_459 : decode cL_law 459 = .ok (.iload_n 3, 1) := by decide +kernel
theorem dL_law_460 : decode cL_law 460 = .ok (.iconst 3, 1) := by decide +kernel
theorem dL_law_461 : decode cL_law 461 = .ok (.iadd, 1) := by decide +kernel
theorem dL_law_462 : decode cL_law 462 = .ok (.iaload, 1) := by decide +kernel
theorem dL_law_463 : decode cL_law 463 = .ok (.aload_n 0, 1) := by decide +kernel
theorem dL_law_464 : decode cL_law 464 = .ok (.iload_n 3, 1) := by decide +kernel
theorem dL_law_465 : decode cL_law 465 = .ok (.iconst 4, 1) := by decide +kernel
theorem dL_law_466 : decode cL_law 466 = .ok (.iadd, 1) := by decide +kernel
theorem dL_law_467 : decode cL_law 467 = .ok (.iaload, 1) := by decide +kernel
theorem dL_law_468 : decode cL_law 468 = .ok (.invokevirtual 51, 3) := by decide +kernel
theorem dL_law_471 : decode cL_law 471 = .ok (.if_icmp .eq 848, 3) := by decide +kernel
theorem dL_law_474 : decode cL_law 474 = .ok (.iconst 0, 1) := by decide +kernel
theorem dL_law_475 : decode cL_law 475 = .ok (.ireturn, 1) := by decide +kernel
theorem dL_law_476 : decode cL_law 476 = .ok (.aload_n 1, 1) := by decide +kernel
theorem dL_law_477 : decode cL_law 477 = .ok (.aload_n 0, 1) := by decide +kernel
theorem dL_law_478 : decode cL_law 478 = .ok (.iload_n 3, 1) := by decide +kernel
theorem dL_law_479 : decode cL_law 479 = .ok (.iconst 1, 1) := by decide +kernel
theorem dL_law_480 : decode cL_law 480 = .ok (.iadd, 1) := by decide +kernel
theorem dL_law_481 : decode cL_law 481 = .ok (.iaload, 1) := by decide +kernel
theorem dL_law_482 : decode cL_law 482 = .ok (.aload_n 0, 1) := by decide +kernel
theorem dL_law_483 : decode cL_law 483 = .ok (.iload_n 3, 1) := by decide +kernel
theorem dL_law_484 : decode cL_law 484 = .ok (.iconst 2, 1) := by decide +kernel
theorem dL_law_485 : decode cL_law 485 = .ok (.iadd, 1) := by decide +kernel
theorem dL_law_486 : decode cL_law 486 = .ok (.iaload, 1) := by decide +kernel
theorem dL_law_487 : decode cL_law 487 = .ok (.aload_n 0, 1) := by decide +kernel
theorem dL_law_488 : decode cL_law 488 = .ok (.iload_n 3, 1) := by decide +kernel
theorem dL_law_489 : decode cL_law 489 = .ok (.iconst 3, 1) := by decide +kernel
theorem dL_law_490 : decode cL_law 490 = .ok (.iadd, 1) := by decide +kernel
theorem dL_law_491 : decode cL_law 491 = .ok (.iaload, 1) := by decide +kernel
theorem dL_law_492 : decode cL_law 492 = .ok (.invokevirtual 52, 3) := by decide +kernel
theorem dL_law_495 : decode cL_law 495 = .ok (.aload_n 2, 1) := by decide +kernel
theorem dL_law_496 : decode cL_law 496 = .ok (.aload_n 0, 1) := by decide +kernel
theorem dL_law_497 : decode cL_law 497 = .ok (.iload_n 3, 1) := by decide +kernel
theorem dL_law_498 : decode cL_law 498 = .ok (.iconst 1, 1) := by decide +kernel
theorem dL_law_499 : decode cL_law 499 = .ok (.iadd, 1) := by decide +kernel
theorem dL_law_500 : decode cL_law 500 = .ok (.iaload, 1) := by decide +kernel
theorem dL_law_501 : decode cL_law 501 = .ok (.aload_n 0, 1) := by decide +kernel
theorem dL_law_502 : decode cL_law 502 = .ok (.iload_n 3, 1) := by decide +kernel
theorem dL_law_503 : decode cL_law 503 = .ok (.iconst 2, 1) := by decide +kernel
theorem dL_law_504 : decode cL_law 504 = .ok (.iadd, 1) := by decide +kernel
theorem dL_law_505 : decode cL_law 505 = .ok (.iaload, 1) := by decide +kernel
theorem dL_law_506 : decode cL_law 506 = .ok (.aload_n 0, 1) := by decide +kernel
theorem dL_law_507 : decode cL_law 507 = .ok (.iload_n 3, 1) := by decide +kernel
theorem dL_law_508 : decode cL_law 508 = .ok (.iconst 3, 1) := by decide +kernel
theorem dL_law_509 : decode cL_law 509 = .ok (.iadd, 1) := by decide +kernel
theorem dL_law_510 : decode cL_law 510 = .ok (.iaload, 1) := by decide +kernel
theorem dL_law_511 : decode cL_law 511 = .ok (.invokevirtual 55, 3) := by decide +kernel
theorem dL_law_514 : decode cL_law 514 = .ok (.if_icmp .eq 805, 3) := by decide +kernel
theorem dL_law_517 : decode cL_law 517 = .ok (.iconst 0, 1) := by decide +kernel
theorem dL_law_518 : decode cL_law 518 = .ok (.ireturn, 1) := by decide +kernel
theorem dL_law_519 : decode cL_law 519 = .ok (.aload_n 1, 1) := by decide +kernel
theorem dL_law_520 : decode cL_law 520 = .ok (.aload_n 0, 1) := by decide +kernel
theorem dL_law_521 : decode cL_law 521 = .ok (.iload_n 3, 1) := by decide +kernel
theorem dL_law_522 : decode cL_law 522 = .ok (.iconst 1, 1) := by decide +kernel
theorem dL_law_523 : decode cL_law 523 = .ok (.iadd, 1) := by decide +kernel
theorem dL_law_524 : decode cL_law 524 = .ok (.iaload, 1) := by decide +kernel
theorem dL_law_525 : decode cL_law 525 = .ok (.aload_n 0, 1) := by decide +kernel
theorem dL_law_526 : decode cL_law 526 = .ok (.iload_n 3, 1) := by decide +kernel
theorem dL_law_527 : decode cL_law 527 = .ok (.iconst 2, 1) := by decide +kernel
theorem dL_law_528 : decode cL_law 528 = .ok (.iadd, 1) := by decide +kernel
theorem dL_law_529 : decode cL_law 529 = .ok (.iaload, 1) := by decide +kernel
theorem dL_law_530 : decode cL_law 530 = .ok (.aload_n 0, 1) := by decide +kernel
theorem dL_law_531 : decode cL_law 531 = .ok (.iload_n 3, 1) := by decide +kernel
theorem dL_law_532 : decode cL_law 532 = .ok (.iconst 3, 1) := by decide +kernel
theorem dL_law_533 : decode cL_law 533 = .ok (.iadd, 1) := by decide +kernel
theorem dL_law_534 : decode cL_law 534 = .ok (.iaload, 1) := by decide +kernel
theorem dL_law_535 : decode cL_law 535 = .ok (.invokevirtual 56, 3) := by decide +kernel
theorem dL_law_538 : decode cL_law 538 = .ok (.aload_n 2, 1) := by decide +kernel
theorem dL_law_539 : decode cL_law 539 = .ok (.aload_n 0, 1) := by decide +kernel
theorem dL_law_540 : decode cL_law 540 = .ok (.iload_n 3, 1) := by decide +kernel
theorem dL_law_541 : decode cL_law 541 = .ok (.iconst 1, 1) := by decide +kernel
theorem dL_law_542 : decode cL_law 542 = .ok (.iadd, 1) := by decide +kernel
theorem dL_law_543 : decode cL_law 543 = .ok (.iaload, 1) := by decide +kernel
theorem dL_law_544 : decode cL_law 544 = .ok (.aload_n 0, 1) := by decide +kernel
theorem dL_law_545 : decode cL_law 545 = .ok (.iload_n 3, 1) := by decide +kernel
theorem dL_law_546 : decode cL_law 546 = .ok (.iconst 2, 1) := by decide +kernel
theorem dL_law_547 : decode cL_law 547 = .ok (.iadd, 1) := by decide +kernel
theorem dL_law_548 : decode cL_law 548 = .ok (.iaload, 1) := by decide +kernel
theorem dL_law_549 : decode cL_law 549 = .ok (.aload_n 0, 1) := by decide +kernel
theorem dL_law_550 : decode cL_law 550 = .ok (.iload_n 3, 1) := by decide +kernel
theorem dL_law_551 : decode cL_law 551 = .ok (.iconst 3, 1) := by decide +kernel
theorem dL_law_552 : decode cL_law 552 = .ok (.iadd, 1) := by decide +kernel
theorem dL_law_553 : decode cL_law 553 = .ok (.iaload, 1) := by decide +kernel
theorem dL_law_554 : decode cL_law 554 = .ok (.invokevirtual 59, 3) := by decide +kernel
theorem dL_law_557 : decode cL_law 557 = .ok (.if_icmp .eq 762, 3) := by decide +kernel
theorem dL_law_560 : decode cL_law 560 = .ok (.iconst 0, 1) := by decide +kernel
theorem dL_law_561 : decode cL_law 561 = .ok (.ireturn, 1) := by decide +kernel
theorem dL_law_562 : decode cL_law 562 = .ok (.aload_n 1, 1) := by decide +kernel
theorem dL_law_563 : decode cL_law 563 = .ok (.aload_n 0, 1) := by decide +kernel
theorem dL_law_564 : decode cL_law 564 = .ok (.iload_n 3, 1) := by decide +kernel
theorem dL_law_565 : decode cL_law 565 = .ok (.iconst 1, 1) := by decide +kernel
theorem dL_law_566 : decode cL_law 566 = .ok (.iadd, 1) := by decide +kernel
theorem dL_law_567 : decode cL_law 567 = .ok (.iaload, 1) := by decide +kernel
theorem dL_law_568 : decode cL_law 568 = .ok (.invokevirtual 60, 3) := by decide +kernel
theorem dL_law_571 : decode cL_law 571 = .ok (.aload_n 2, 1) := by decide +kernel
theorem dL_law_572 : decode cL_law 572 = .ok (.aload_n 0, 1) := by decide +kernel
theorem dL_law_573 : decode cL_law 573 = .ok (.iload_n 3, 1) := by decide +kernel
theorem dL_law_574 : decode cL_law 574 = .ok (.iconst 1, 1) := by decide +kernel
theorem dL_law_575 : decode cL_law 575 = .ok (.iadd, 1) := by decide +kernel
theorem dL_law_576 : decode cL_law 576 = .ok (.iaload, 1) := by decide +kernel
theorem dL_law_577 : decode cL_law 577 = .ok (.invokevirtual 64, 3) := by decide +kernel
theorem dL_law_580 : decode cL_law 580 = .ok (.if_icmp .eq 739, 3) := by decide +kernel
theorem dL_law_583 : decode cL_law 583 = .ok (.iconst 0, 1) := by decide +kernel
theorem dL_law_584 : decode cL_law 584 = .ok (.ireturn, 1) := by decide +kernel
theorem dL_law_585 : decode cL_law 585 = .ok (.aload_n 1, 1) := by decide +kernel
theorem dL_law_586 : decode cL_law 586 = .ok (.aload_n 0, 1) := by decide +kernel
theorem dL_law_587 : decode cL_law 587 = .ok (.iload_n 3, 1) := by decide +kernel
theorem dL_law_588 : decode cL_law 588 = .ok (.iconst 1, 1) := by decide +kernel
theorem dL_law_589 : decode cL_law 589 = .ok (.iadd, 1) := by decide +kernel
theorem dL_law_590 : decode cL_law 590 = .ok (.iaload, 1) := by decide +kernel
theorem dL_law_591 : decode cL_law 591 = .ok (.aload_n 0, 1) := by decide +kernel
theorem dL_law_592 : decode cL_law 592 = .ok (.iload_n 3, 1) := by decide +kernel
theorem dL_law_593 : decode cL_law 593 = .ok (.iconst 2, 1) := by decide +kernel
theorem dL_law_594 : decode cL_law 594 = .ok (.iadd, 1) := by decide +kernel
theorem dL_law_595 : decode cL_law 595 = .ok (.iaload, 1) := by decide +kernel
theorem dL_law_596 : decode cL_law 596 = .ok (.aload_n 0, 1) := by decide +kernel
theorem dL_law_597 : decode cL_law 597 = .ok (.iload_n 3, 1) := by decide +kernel
theorem dL_law_598 : decode cL_law 598 = .ok (.iconst 3, 1) := by decide +kernel
theorem dL_law_599 : decode cL_law 599 = .ok (.iadd, 1) := by decide +kernel
theorem dL_law_600 : decode cL_law 600 = .ok (.iaload, 1) := by decide +kernel
theorem dL_law_601 : decode cL_law 601 = .ok (.aload_n 0, 1) := by decide +kernel
theorem dL_law_602 : decode cL_law 602 = .ok (.iload_n 3, 1) := by decide +kernel
theorem dL_law_603 : decode cL_law 603 = .ok (.iconst 4, 1) := by decide +kernel
theorem dL_law_604 : decode cL_law 604 = .ok (.iadd, 1) := by decide +kernel
theorem dL_law_605 : decode cL_law 605 = .ok (.iaload, 1) := by decide +kernel
theorem dL_law_606 : decode cL_law 606 = .ok (.invokevirtual 65, 3) := by decide +kernel
theorem dL_law_609 : decode cL_law 609 = .ok (.aload_n 2, 1) := by decide +kernel
theorem dL_law_610 : decode cL_law 610 = .ok (.aload_n 0, 1) := by decide +kernel
theorem dL_law_611 : decode cL_law 611 = .ok (.iload_n 3, 1) := by decide +kernel
theorem dL_law_612 : decode cL_law 612 = .ok (.iconst 1, 1) := by decide +kernel
theorem dL_law_613 : decode cL_law 613 = .ok (.iadd, 1) := by decide +kernel
theorem dL_law_614 : decode cL_law 614 = .ok (.iaload, 1) := by decide +kernel
theorem dL_law_615 : decode cL_law 615 = .ok (.aload_n 0, 1) := by decide +kernel
theorem dL_law_616 : decode cL_law 616 = .ok (.iload_n 3, 1) := by decide +kernel
theorem dL_law_617 : decode cL_law 617 = .ok (.iconst 2, 1) := by decide +kernel
theorem dL_law_618 : decode cL_law 618 = .ok (.iadd, 1) := by decide +kernel
theorem dL_law_619 : decode cL_law 619 = .ok (.iaload, 1) := by decide +kernel
theorem dL_law_620 : decode cL_law 620 = .ok (.aload_n 0, 1) := by decide +kernel
theorem dL_law_621 : decode cL_law 621 = .ok (.iload_n 3, 1) := by decide +kernel
theorem dL_law_622 : decode cL_law 622 = .ok (.iconst 3, 1) := by decide +kernel
theorem dL_law_623 : decode cL_law 623 = .ok (.iadd, 1) := by decide +kernel
theorem dL_law_624 : decode cL_law 624 = .ok (.iaload, 1) := by decide +kernel
theorem dL_law_625 : decode cL_law 625 = .ok (.aload_n 0, 1) := by decide +kernel
theorem dL_law_626 : decode cL_law 626 = .ok (.iload_n 3, 1) := by decide +kernel
theorem dL_law_627 : decode cL_law 627 = .ok (.iconst 4, 1) := by decide +kernel
theorem dL_law_628 : decode cL_law 628 = .ok (.iadd, 1) := by decide +kernel
theorem dL_law_629 : decode cL_law 629 = .ok (.iaload, 1) := by decide +kernel
theorem dL_law_630 : decode cL_law 630 = .ok (.invokevirtual 68, 3) := by decide +kernel
theorem dL_law_633 : decode cL_law 633 = .ok (.if_icmp .eq 686, 3) := by decide +kernel
theorem dL_law_636 : decode cL_law 636 = .ok (.iconst 0, 1) := by decide +kernel
theorem dL_law_637 : decode cL_law 637 = .ok (.ireturn, 1) := by decide +kernel
theorem dL_law_638 : decode cL_law 638 = .ok (.aload_n 1, 1) := by decide +kernel
theorem dL_law_639 : decode cL_law 639 = .ok (.aload_n 0, 1) := by decide +kernel
theorem dL_law_640 : decode cL_law 640 = .ok (.iload_n 3, 1) := by decide +kernel
theorem dL_law_641 : decode cL_law 641 = .ok (.iconst 1, 1) := by decide +kernel
theorem dL_law_642 : decode cL_law 642 = .ok (.iadd, 1) := by decide +kernel
theorem dL_law_643 : decode cL_law 643 = .ok (.iaload, 1) := by decide +kernel
theorem dL_law_644 : decode cL_law 644 = .ok (.aload_n 0, 1) := by decide +kernel
theorem dL_law_645 : decode cL_law 645 = .ok (.iload_n 3, 1) := by decide +kernel
theorem dL_law_646 : decode cL_law 646 = .ok (.iconst 2, 1) := by decide +kernel
theorem dL_law_647 : decode cL_law 647 = .ok (.iadd, 1) := by decide +kernel
theorem dL_law_648 : decode cL_law 648 = .ok (.iaload, 1) := by decide +kernel
theorem dL_law_649 : decode cL_law 649 = .ok (.invokevirtual 69, 3) := by decide +kernel
theorem dL_law_652 : decode cL_law 652 = .ok (.aload_n 2, 1) := by decide +kernel
theorem dL_law_653 : decode cL_law 653 = .ok (.aload_n 0, 1) := by decide +kernel
theorem dL_law_654 : decode cL_law 654 = .ok (.iload_n 3, 1) := by decide +kernel
theorem dL_law_655 : decode cL_law 655 = .ok (.iconst 1, 1) := by decide +kernel
theorem dL_law_656 : decode cL_law 656 = .ok (.iadd, 1) := by decide +kernel
theorem dL_law_657 : decode cL_law 657 = .ok (.iaload, 1) := by decide +kernel
theorem dL_law_658 : decode cL_law 658 = .ok (.aload_n 0, 1) := by decide +kernel
theorem dL_law_659 : decode cL_law 659 = .ok (.iload_n 3, 1) := by decide +kernel
theorem dL_law_660 : decode cL_law 660 = .ok (.iconst 2, 1) := by decide +kernel
theorem dL_law_661 : decode cL_law 661 = .ok (.iadd, 1) := by decide +kernel
theorem dL_law_662 : decode cL_law 662 = .ok (.iaload, 1) := by decide +kernel
theorem dL_law_663 : decode cL_law 663 = .ok (.invokevirtual 73, 3) := by decide +kernel
theorem dL_law_666 : decode cL_law 666 = .ok (.if_icmp .eq 653, 3) := by decide +kernel
theorem dL_law_669 : decode cL_law 669 = .ok (.iconst 0, 1) := by decide +kernel
theorem dL_law_670 : decode cL_law 670 = .ok (.ireturn, 1) := by decide +kernel
theorem dL_law_671 : decode cL_law 671 = .ok (.aload_n 1, 1) := by decide +kernel
theorem dL_law_672 : decode cL_law 672 = .ok (.aload_n 0, 1) := by decide +kernel
theorem dL_law_673 : decode cL_law 673 = .ok (.iload_n 3, 1) := by decide +kernel
theorem dL_law_674 : decode cL_law 674 = .ok (.iconst 1, 1) := by decide +kernel
theorem dL_law_675 : decode cL_law 675 = .ok (.iadd, 1) := by decide +kernel
theorem dL_law_676 : decode cL_law 676 = .ok (.iaload, 1) := by decide +kernel
theorem dL_law_677 : decode cL_law 677 = .ok (.aload_n 0, 1) := by decide +kernel
theorem dL_law_678 : decode cL_law 678 = .ok (.iload_n 3, 1) := by decide +kernel
theorem dL_law_679 : decode cL_law 679 = .ok (.iconst 2, 1) := by decide +kernel
theorem dL_law_680 : decode cL_law 680 = .ok (.iadd, 1) := by decide +kernel
theorem dL_law_681 : decode cL_law 681 = .ok (.iaload, 1) := by decide +kernel
theorem dL_law_682 : decode cL_law 682 = .ok (.invokevirtual 74, 3) := by decide +kernel
theorem dL_law_685 : decode cL_law 685 = .ok (.aload_n 2, 1) := by decide +kernel
theorem dL_law_686 : decode cL_law 686 = .ok (.aload_n 0, 1) := by decide +kernel
theorem dL_law_687 : decode cL_law 687 = .ok (.iload_n 3, 1) := by decide +kernel
theorem dL_law_688 : decode cL_law 688 = .ok (.iconst 1, 1) := by decide +kernel
theorem dL_law_689 : decode cL_law 689 = .ok (.iadd, 1) := by decide +kernel
theorem dL_law_690 : decode cL_law 690 = .ok (.iaload, 1) := by decide +kernel
theorem dL_law_691 : decode cL_law 691 = .ok (.aload_n 0, 1) := by decide +kernel
theorem dL_law_692 : decode cL_law 692 = .ok (.iload_n 3, 1) := by decide +kernel
theorem dL_law_693 : decode cL_law 693 = .ok (.iconst 2, 1) := by decide +kernel
theorem dL_law_694 : decode cL_law 694 = .ok (.iadd, 1) := by decide +kernel
theorem dL_law_695 : decode cL_law 695 = .ok (.iaload, 1) := by decide +kernel
theorem dL_law_696 : decode cL_law 696 = .ok (.invokevirtual 77, 3) := by decide +kernel
theorem dL_law_699 : decode cL_law 699 = .ok (.if_icmp .eq 620, 3) := by decide +kernel
theorem dL_law_702 : decode cL_law 702 = .ok (.iconst 0, 1) := by decide +kernel
theorem dL_law_703 : decode cL_law 703 = .ok (.ireturn, 1) := by decide +kernel
theorem dL_law_704 : decode cL_law 704 = .ok (.aload_n 1, 1) := by decide +kernel
theorem dL_law_705 : decode cL_law 705 = .ok (.aload_n 0, 1) := by decide +kernel
theorem dL_law_706 : decode cL_law 706 = .ok (.iload_n 3, 1) := by decide +kernel
theorem dL_law_707 : decode cL_law 707 = .ok (.iconst 1, 1) := by decide +kernel
theorem dL_law_708 : decode cL_law 708 = .ok (.iadd, 1) := by decide +kernel
theorem dL_law_709 : decode cL_law 709 = .ok (.iaload, 1) := by decide +kernel
theorem dL_law_710 : decode cL_law 710 = .ok (.invokevirtual 78, 3) := by decide +kernel
theorem dL_law_713 : decode cL_law 713 = .ok (.aload_n 2, 1) := by decide +kernel
theorem dL_law_714 : decode cL_law 714 = .ok (.aload_n 0, 1) := by decide +kernel
theorem dL_law_715 : decode cL_law 715 = .ok (.iload_n 3, 1) := by decide +kernel
theorem dL_law_716 : decode cL_law 716 = .ok (.iconst 1, 1) := by decide +kernel
theorem dL_law_717 : decode cL_law 717 = .ok (.iadd, 1) := by decide +kernel
theorem dL_law_718 : decode cL_law 718 = .ok (.iaload, 1) := by decide +kernel
theorem dL_law_719 : decode cL_law 719 = .ok (.invokevirtual 81, 3) := by decide +kernel
theorem dL_law_722 : decode cL_law 722 = .ok (.if_icmp .eq 597, 3) := by decide +kernel
theorem dL_law_725 : decode cL_law 725 = .ok (.iconst 0, 1) := by decide +kernel
theorem dL_law_726 : decode cL_law 726 = .ok (.ireturn, 1) := by decide +kernel
theorem dL_law_727 : decode cL_law 727 = .ok (.aload_n 1, 1) := by decide +kernel
theorem dL_law_728 : decode cL_law 728 = .ok (.aload_n 0, 1) := by decide +kernel
theorem dL_law_729 : decode cL_law 729 = .ok (.iload_n 3, 1) := by decide +kernel
theorem dL_law_730 : decode cL_law 730 = .ok (.iconst 1, 1) := by decide +kernel
theorem dL_law_731 : decode cL_law 731 = .ok (.iadd, 1) := by decide +kernel
theorem dL_law_732 : decode cL_law 732 = .ok (.iaload, 1) := by decide +kernel
theorem dL_law_733 : decode cL_law 733 = .ok (.aload_n 0, 1) := by decide +kernel
theorem dL_law_734 : decode cL_law 734 = .ok (.iload_n 3, 1) := by decide +kernel
theorem dL_law_735 : decode cL_law 735 = .ok (.iconst 2, 1) := by decide +kernel
theorem dL_law_736 : decode cL_law 736 = .ok (.iadd, 1) := by decide +kernel
theorem dL_law_737 : decode cL_law 737 = .ok (.iaload, 1) := by decide +kernel
theorem dL_law_738 : decode cL_law 738 = .ok (.invokevirtual 82, 3) := by decide +kernel
theorem dL_law_741 : decode cL_law 741 = .ok (.aload_n 2, 1) := by decide +kernel
theorem dL_law_742 : decode cL_law 742 = .ok (.aload_n 0, 1) := by decide +kernel
theorem dL_law_743 : decode cL_law 743 = .ok (.iload_n 3, 1) := by decide +kernel
theorem dL_law_744 : decode cL_law 744 = .ok (.iconst 1, 1) := by decide +kernel
theorem dL_law_745 : decode cL_law 745 = .ok (.iadd, 1) := by decide +kernel
theorem dL_law_746 : decode cL_law 746 = .ok (.iaload, 1) := by decide +kernel
theorem dL_law_747 : decode cL_law 747 = .ok (.aload_n 0, 1) := by decide +kernel
theorem dL_law_748 : decode cL_law 748 = .ok (.iload_n 3, 1) := by decide +kernel
theorem dL_law_749 : decode cL_law 749 = .ok (.iconst 2, 1) := by decide +kernel
theorem dL_law_750 : decode cL_law 750 = .ok (.iadd, 1) := by decide +kernel
theorem dL_law_751 : decode cL_law 751 = .ok (.iaload, 1) := by decide +kernel
theorem dL_law_752 : decode cL_law 752 = .ok (.invokevirtual 85, 3) := by decide +kernel
theorem dL_law_755 : decode cL_law 755 = .ok (.if_icmp .eq 564, 3) := by decide +kernel
theorem dL_law_758 : decode cL_law 758 = .ok (.iconst 0, 1) := by decide +kernel
theorem dL_law_759 : decode cL_law 759 = .ok (.ireturn, 1) := by decide +kernel
theorem dL_law_760 : decode cL_law 760 = .ok (.aload_n 1, 1) := by decide +kernel
theorem dL_law_761 : decode cL_law 761 = .ok (.aload_n 0, 1) := by decide +kernel
theorem dL_law_762 : decode cL_law 762 = .ok (.iload_n 3, 1) := by decide +kernel
theorem dL_law_763 : decode cL_law 763 = .ok (.iconst 1, 1) := by decide +kernel
theorem dL_law_764 : decode cL_law 764 = .ok (.iadd, 1) := by decide +kernel
theorem dL_law_765 : decode cL_law 765 = .ok (.iaload, 1) := by decide +kernel
theorem dL_law_766 : decode cL_law 766 = .ok (.aload_n 0, 1) := by decide +kernel
theorem dL_law_767 : decode cL_law 767 = .ok (.iload_n 3, 1) := by decide +kernel
theorem dL_law_768 : decode cL_law 768 = .ok (.iconst 2, 1) := by decide +kernel
theorem dL_law_769 : decode cL_law 769 = .ok (.iadd, 1) := by decide +kernel
theorem dL_law_770 : decode cL_law 770 = .ok (.iaload, 1) := by decide +kernel
theorem dL_law_771 : decode cL_law 771 = .ok (.aload_n 0, 1) := by decide +kernel
theorem dL_law_772 : decode cL_law 772 = .ok (.iload_n 3, 1) := by decide +kernel
theorem dL_law_773 : decode cL_law 773 = .ok (.iconst 3, 1) := by decide +kernel
theorem dL_law_774 : decode cL_law 774 = .ok (.iadd, 1) := by decide +kernel
theorem dL_law_775 : decode cL_law 775 = .ok (.iaload, 1) := by decide +kernel
theorem dL_law_776 : decode cL_law 776 = .ok (.invokevirtual 86, 3) := by decide +kernel
theorem dL_law_779 : decode cL_law 779 = .ok (.aload_n 2, 1) := by decide +kernel
theorem dL_law_780 : decode cL_law 780 = .ok (.aload_n 0, 1) := by decide +kernel
theorem dL_law_781 : decode cL_law 781 = .ok (.iload_n 3, 1) := by decide +kernel
theorem dL_law_782 : decode cL_law 782 = .ok (.iconst 1, 1) := by decide +kernel
theorem dL_law_783 : decode cL_law 783 = .ok (.iadd, 1) := by decide +kernel
theorem dL_law_784 : decode cL_law 784 = .ok (.iaload, 1) := by decide +kernel
theorem dL_law_785 : decode cL_law 785 = .ok (.aload_n 0, 1) := by decide +kernel
theorem dL_law_786 : decode cL_law 786 = .ok (.iload_n 3, 1) := by decide +kernel
theorem dL_law_787 : decode cL_law 787 = .ok (.iconst 2, 1) := by decide +kernel
theorem dL_law_788 : decode cL_law 788 = .ok (.iadd, 1) := by decide +kernel
theorem dL_law_789 : decode cL_law 789 = .ok (.iaload, 1) := by decide +kernel
theorem dL_law_790 : decode cL_law 790 = .ok (.aload_n 0, 1) := by decide +kernel
theorem dL_law_791 : decode cL_law 791 = .ok (.iload_n 3, 1) := by decide +kernel
theorem dL_law_792 : decode cL_law 792 = .ok (.iconst 3, 1) := by decide +kernel
theorem dL_law_793 : decode cL_law 793 = .ok (.iadd, 1) := by decide +kernel
theorem dL_law_794 : decode cL_law 794 = .ok (.iaload, 1) := by decide +kernel
theorem dL_law_795 : decode cL_law 795 = .ok (.invokevirtual 89, 3) := by decide +kernel
theorem dL_law_798 : decode cL_law 798 = .ok (.if_icmp .eq 521, 3) := by decide +kernel
theorem dL_law_801 : decode cL_law 801 = .ok (.iconst 0, 1) := by decide +kernel
theorem dL_law_802 : decode cL_law 802 = .ok (.ireturn, 1) := by decide +kernel
theorem dL_law_803 : decode cL_law 803 = .ok (.aload_n 1, 1) := by decide +kernel
theorem dL_law_804 : decode cL_law 804 = .ok (.aload_n 0, 1) := by decide +kernel
theorem dL_law_805 : decode cL_law 805 = .ok (.iload_n 3, 1) := by decide +kernel
theorem dL_law_806 : decode cL_law 806 = .ok (.iconst 1, 1) := by decide +kernel
theorem dL_law_807 : decode cL_law 807 = .ok (.iadd, 1) := by decide +kernel
theorem dL_law_808 : decode cL_law 808 = .ok (.iaload, 1) := by decide +kernel
theorem dL_law_809 : decode cL_law 809 = .ok (.aload_n 0, 1) := by decide +kernel
theorem dL_law_810 : decode cL_law 810 = .ok (.iload_n 3, 1) := by decide +kernel
theorem dL_law_811 : decode cL_law 811 = .ok (.iconst 2, 1) := by decide +kernel
theorem dL_law_812 : decode cL_law 812 = .ok (.iadd, 1) := by decide +kernel
theorem dL_law_813 : decode cL_law 813 = .ok (.iaload, 1) := by decide +kernel
theorem dL_law_814 : decode cL_law 814 = .ok (.aload_n 0, 1) := by decide +kernel
theorem dL_law_815 : decode cL_law 815 = .ok (.iload_n 3, 1) := by decide +kernel
theorem dL_law_816 : decode cL_law 816 = .ok (.iconst 3, 1) := by decide +kernel
theorem dL_law_817 : decode cL_law 817 = .ok (.iadd, 1) := by decide +kernel
theorem dL_law_818 : decode cL_law 818 = .ok (.iaload, 1) := by decide +kernel
theorem dL_law_819 : decode cL_law 819 = .ok (.aload_n 0, 1) := by decide +kernel
theorem dL_law_820 : decode cL_law 820 = .ok (.iload_n 3, 1) := by decide +kernel
theorem dL_law_821 : decode cL_law 821 = .ok (.iconst 4, 1) := by decide +kernel
theorem dL_law_822 : decode cL_law 822 = .ok (.iadd, 1) := by decide +kernel
theorem dL_law_823 : decode cL_law 823 = .ok (.iaload, 1) := by decide +kernel
theorem dL_law_824 : decode cL_law 824 = .ok (.aload_n 0, 1) := by decide +kernel
theorem dL_law_825 : decode cL_law 825 = .ok (.iload_n 3, 1) := by decide +kernel
theorem dL_law_826 : decode cL_law 826 = .ok (.iconst 5, 1) := by decide +kernel
theorem dL_law_827 : decode cL_law 827 = .ok (.iadd, 1) := by decide +kernel
theorem dL_law_828 : decode cL_law 828 = .ok (.iaload, 1) := by decide +kernel
theorem dL_law_829 : decode cL_law 829 = .ok (.invokevirtual 90, 3) := by decide +kernel
theorem dL_law_832 : decode cL_law 832 = .ok (.aload_n 2, 1) := by decide +kernel
theorem dL_law_833 : decode cL_law 833 = .ok (.aload_n 0, 1) := by decide +kernel
theorem dL_law_834 : decode cL_law 834 = .ok (.iload_n 3, 1) := by decide +kernel
theorem dL_law_835 : decode cL_law 835 = .ok (.iconst 1, 1) := by decide +kernel
theorem dL_law_836 : decode cL_law 836 = .ok (.iadd, 1) := by decide +kernel
theorem dL_law_837 : decode cL_law 837 = .ok (.iaload, 1) := by decide +kernel
theorem dL_law_838 : decode cL_law 838 = .ok (.aload_n 0, 1) := by decide +kernel
theorem dL_law_839 : decode cL_law 839 = .ok (.iload_n 3, 1) := by decide +kernel
theorem dL_law_840 : decode cL_law 840 = .ok (.iconst 2, 1) := by decide +kernel
theorem dL_law_841 : decode cL_law 841 = .ok (.iadd, 1) := by decide +kernel
theorem dL_law_842 : decode cL_law 842 = .ok (.iaload, 1) := by decide +kernel
theorem dL_law_843 : decode cL_law 843 = .ok (.aload_n 0, 1) := by decide +kernel
theorem dL_law_844 : decode cL_law 844 = .ok (.iload_n 3, 1) := by decide +kernel
theorem dL_law_845 : decode cL_law 845 = .ok (.iconst 3, 1) := by decide +kernel
theorem dL_law_846 : decode cL_law 846 = .ok (.iadd, 1) := by decide +kernel
theorem dL_law_847 : decode cL_law 847 = .ok (.iaload, 1) := by decide +kernel
theorem dL_law_848 : decode cL_law 848 = .ok (.aload_n 0, 1) := by decide +kernel
theorem dL_law_849 : decode cL_law 849 = .ok (.iload_n 3, 1) := by decide +kernel
theorem dL_law_850 : decode cL_law 850 = .ok (.iconst 4, 1) := by decide +kernel
theorem dL_law_851 : decode cL_law 851 = .ok (.iadd, 1) := by decide +kernel
theorem dL_law_852 : decode cL_law 852 = .ok (.iaload, 1) := by decide +kernel
theorem dL_law_853 : decode cL_law 853 = .ok (.aload_n 0, 1) := by decide +kernel
theorem dL_law_854 : decode cL_law 854 = .ok (.iload_n 3, 1) := by decide +kernel
theorem dL_law_855 : decode cL_law 855 = .ok (.iconst 5, 1) := by decide +kernel
theorem dL_law_856 : decode cL_law 856 = .ok (.iadd, 1) := by decide +kernel
theorem dL_law_857 : decode cL_law 857 = .ok (.iaload, 1) := by decide +kernel
theorem dL_law_858 : decode cL_law 858 = .ok (.invokevirtual 94, 3) := by decide +kernel
theorem dL_law_861 : decode cL_law 861 = .ok (.if_icmp .eq 458, 3) := by decide +kernel
theorem dL_law_864 : decode cL_law 864 = .ok (.iconst 0, 1) := by decide +kernel
theorem dL_law_865 : decode cL_law 865 = .ok (.ireturn, 1) := by decide +kernel
theorem dL_law_866 : decode cL_law 866 = .ok (.aload_n 1, 1) := by decide +kernel
theorem dL_law_867 : decode cL_law 867 = .ok (.aload_n 0, 1) := by decide +kernel
theorem dL_law_868 : decode cL_law 868 = .ok (.iload_n 3, 1) := by decide +kernel
theorem dL_law_869 : decode cL_law 869 = .ok (.iconst 1, 1) := by decide +kernel
theorem dL_law_870 : decode cL_law 870 = .ok (.iadd, 1) := by decide +kernel
theorem dL_law_871 : decode cL_law 871 = .ok (.iaload, 1) := by decide +kernel
theorem dL_law_872 : decode cL_law 872 = .ok (.aload_n 0, 1) := by decide +kernel
theorem dL_law_873 : decode cL_law 873 = .ok (.iload_n 3, 1) := by decide +kernel
theorem dL_law_874 : decode cL_law 874 = .ok (.iconst 2, 1) := by decide +kernel
theorem dL_law_875 : decode cL_law 875 = .ok (.iadd, 1) := by decide +kernel
theorem dL_law_876 : decode cL_law 876 = .ok (.iaload, 1) := by decide +kernel
theorem dL_law_877 : decode cL_law 877 = .ok (.aload_n 0, 1) := by decide +kernel
theorem dL_law_878 : decode cL_law 878 = .ok (.iload_n 3, 1) := by decide +kernel
theorem dL_law_879 : decode cL_law 879 = .ok (.iconst 3, 1) := by decide +kernel
theorem dL_law_880 : decode cL_law 880 = .ok (.iadd, 1) := by decide +kernel
theorem dL_law_881 : decode cL_law 881 = .ok (.iaload, 1) := by decide +kernel
theorem dL_law_882 : decode cL_law 882 = .ok (.invokevirtual 95, 3) := by decide +kernel
theorem dL_law_885 : decode cL_law 885 = .ok (.aload_n 2, 1) := by decide +kernel
theorem dL_law_886 : decode cL_law 886 = .ok (.aload_n 0, 1) := by decide +kernel
theorem dL_law_887 : decode cL_law 887 = .ok (.iload_n 3, 1) := by decide +kernel
theorem dL_law_888 : decode cL_law 888 = .ok (.iconst 1, 1) := by decide +kernel
theorem dL_law_889 : decode cL_law 889 = .ok (.iadd, 1) := by decide +kernel
theorem dL_law_890 : decode cL_law 890 = .ok (.iaload, 1) := by decide +kernel
theorem dL_law_891 : decode cL_law 891 = .ok (.aload_n 0, 1) := by decide +kernel
theorem dL_law_892 : decode cL_law 892 = .ok (.iload_n 3, 1) := by decide +kernel
theorem dL_law_893 : decode cL_law 893 = .ok (.iconst 2, 1) := by decide +kernel
theorem dL_law_894 : decode cL_law 894 = .ok (.iadd, 1) := by decide +kernel
theorem dL_law_895 : decode cL_law 895 = .ok (.iaload, 1) := by decide +kernel
theorem dL_law_896 : decode cL_law 896 = .ok (.aload_n 0, 1) := by decide +kernel
theorem dL_law_897 : decode cL_law 897 = .ok (.iload_n 3, 1) := by decide +kernel
theorem dL_law_898 : decode cL_law 898 = .ok (.iconst 3, 1) := by decide +kernel
theorem dL_law_899 : decode cL_law 899 = .ok (.iadd, 1) := by decide +kernel
theorem dL_law_900 : decode cL_law 900 = .ok (.iaload, 1) := by decide +kernel
theorem dL_law_901 : decode cL_law 901 = .ok (.invokevirtual 98, 3) := by decide +kernel
theorem dL_law_904 : decode cL_law 904 = .ok (.if_icmp .eq 415, 3) := by decide +kernel
theorem dL_law_907 : decode cL_law 907 = .ok (.iconst 0, 1) := by decide +kernel
theorem dL_law_908 : decode cL_law 908 = .ok (.ireturn, 1) := by decide +kernel
theorem dL_law_909 : decode cL_law 909 = .ok (.aload_n 1, 1) := by decide +kernel
theorem dL_law_910 : decode cL_law 910 = .ok (.aload_n 0, 1) := by decide +kernel
theorem dL_law_911 : decode cL_law 911 = .ok (.iload_n 3, 1) := by decide +kernel
theorem dL_law_912 : decode cL_law 912 = .ok (.iconst 1, 1) := by decide +kernel
theorem dL_law_913 : decode cL_law 913 = .ok (.iadd, 1) := by decide +kernel
theorem dL_law_914 : decode cL_law 914 = .ok (.iaload, 1) := by decide +kernel
theorem dL_law_915 : decode cL_law 915 = .ok (.aload_n 0, 1) := by decide +kernel
theorem dL_law_916 : decode cL_law 916 = .ok (.iload_n 3, 1) := by decide +kernel
theorem dL_law_917 : decode cL_law 917 = .ok (.iconst 2, 1) := by decide +kernel
theorem dL_law_918 : decode cL_law 918 = .ok (.iadd, 1) := by decide +kernel
theorem dL_law_919 : decode cL_law 919 = .ok (.iaload, 1) := by decide +kernel
theorem dL_law_920 : decode cL_law 920 = .ok (.aload_n 0, 1) := by decide +kernel
theorem dL_law_921 : decode cL_law 921 = .ok (.iload_n 3, 1) := by decide +kernel
theorem dL_law_922 : decode cL_law 922 = .ok (.iconst 3, 1) := by decide +kernel
theorem dL_law_923 : decode cL_law 923 = .ok (.iadd, 1) := by decide +kernel
theorem dL_law_924 : decode cL_law 924 = .ok (.iaload, 1) := by decide +kernel
theorem dL_law_925 : decode cL_law 925 = .ok (.aload_n 0, 1) := by decide +kernel
theorem dL_law_926 : decode cL_law 926 = .ok (.iload_n 3, 1) := by decide +kernel
theorem dL_law_927 : decode cL_law 927 = .ok (.iconst 4, 1) := by decide +kernel
theorem dL_law_928 : decode cL_law 928 = .ok (.iadd, 1) := by decide +kernel
theorem dL_law_929 : decode cL_law 929 = .ok (.iaload, 1) := by decide +kernel
theorem dL_law_930 : decode cL_law 930 = .ok (.invokevirtual 99, 3) := by decide +kernel
theorem dL_law_933 : decode cL_law 933 = .ok (.aload_n 2, 1) := by decide +kernel
theorem dL_law_934 : decode cL_law 934 = .ok (.aload_n 0, 1) := by decide +kernel
theorem dL_law_935 : decode cL_law 935 = .ok (.iload_n 3, 1) := by decide +kernel
theorem dL_law_936 : decode cL_law 936 = .ok (.iconst 1, 1) := by decide +kernel
theorem dL_law_937 : decode cL_law 937 = .ok (.iadd, 1) := by decide +kernel
theorem dL_law_938 : decode cL_law 938 = .ok (.iaload, 1) := by decide +kernel
theorem dL_law_939 : decode cL_law 939 = .ok (.aload_n 0, 1) := by decide +kernel
theorem dL_law_940 : decode cL_law 940 = .ok (.iload_n 3, 1) := by decide +kernel
theorem dL_law_941 : decode cL_law 941 = .ok (.iconst 2, 1) := by decide +kernel
theorem dL_law_942 : decode cL_law 942 = .ok (.iadd, 1) := by decide +kernel
theorem dL_law_943 : decode cL_law 943 = .ok (.iaload, 1) := by decide +kernel
theorem dL_law_944 : decode cL_law 944 = .ok (.aload_n 0, 1) := by decide +kernel
theorem dL_law_945 : decode cL_law 945 = .ok (.iload_n 3, 1) := by decide +kernel
theorem dL_law_946 : decode cL_law 946 = .ok (.iconst 3, 1) := by decide +kernel
theorem dL_law_947 : decode cL_law 947 = .ok (.iadd, 1) := by decide +kernel
theorem dL_law_948 : decode cL_law 948 = .ok (.iaload, 1) := by decide +kernel
theorem dL_law_949 : decode cL_law 949 = .ok (.aload_n 0, 1) := by decide +kernel
theorem dL_law_950 : decode cL_law 950 = .ok (.iload_n 3, 1) := by decide +kernel
theorem dL_law_951 : decode cL_law 951 = .ok (.iconst 4, 1) := by decide +kernel
theorem dL_law_952 : decode cL_law 952 = .ok (.iadd, 1) := by decide +kernel
theorem dL_law_953 : decode cL_law 953 = .ok (.iaload, 1) := by decide +kernel
theorem dL_law_954 : decode cL_law 954 = .ok (.invokevirtual 102, 3) := by decide +kernel
theorem dL_law_957 : decode cL_law 957 = .ok (.if_icmp .eq 362, 3) := by decide +kernel
theorem dL_law_960 : decode cL_law 960 = .ok (.iconst 0, 1) := by decide +kernel
theorem dL_law_961 : decode cL_law 961 = .ok (.ireturn, 1) := by decide +kernel
theorem dL_law_962 : decode cL_law 962 = .ok (.aload_n 1, 1) := by decide +kernel
theorem dL_law_963 : decode cL_law 963 = .ok (.aload_n 0, 1) := by decide +kernel
theorem dL_law_964 : decode cL_law 964 = .ok (.iload_n 3, 1) := by decide +kernel
theorem dL_law_965 : decode cL_law 965 = .ok (.iconst 1, 1) := by decide +kernel
theorem dL_law_966 : decode cL_law 966 = .ok (.iadd, 1) := by decide +kernel
theorem dL_law_967 : decode cL_law 967 = .ok (.iaload, 1) := by decide +kernel
theorem dL_law_968 : decode cL_law 968 = .ok (.aload_n 0, 1) := by decide +kernel
theorem dL_law_969 : decode cL_law 969 = .ok (.iload_n 3, 1) := by decide +kernel
theorem dL_law_970 : decode cL_law 970 = .ok (.iconst 2, 1) := by decide +kernel
theorem dL_law_971 : decode cL_law 971 = .ok (.iadd, 1) := by decide +kernel
theorem dL_law_972 : decode cL_law 972 = .ok (.iaload, 1) := by decide +kernel
theorem dL_law_973 : decode cL_law 973 = .ok (.aload_n 0, 1) := by decide +kernel
theorem dL_law_974 : decode cL_law 974 = .ok (.iload_n 3, 1) := by decide +kernel
theorem dL_law_975 : decode cL_law 975 = .ok (.iconst 3, 1) := by decide +kernel
theorem dL_law_976 : decode cL_law 976 = .ok (.iadd, 1) := by decide +kernel
theorem dL_law_977 : decode cL_law 977 = .ok (.iaload, 1) := by decide +kernel
theorem dL_law_978 : decode cL_law 978 = .ok (.aload_n 0, 1) := by decide +kernel
theorem dL_law_979 : decode cL_law 979 = .ok (.iload_n 3, 1) := by decide +kernel
theorem dL_law_980 : decode cL_law 980 = .ok (.iconst 4, 1) := by decide +kernel
theorem dL_law_981 : decode cL_law 981 = .ok (.iadd, 1) := by decide +kernel
theorem dL_law_982 : decode cL_law 982 = .ok (.iaload, 1) := by decide +kernel
theorem dL_law_983 : decode cL_law 983 = .ok (.aload_n 0, 1) := by decide +kernel
theorem dL_law_984 : decode cL_law 984 = .ok (.iload_n 3, 1) := by decide +kernel
theorem dL_law_985 : decode cL_law 985 = .ok (.iconst 5, 1) := by decide +kernel
theorem dL_law_986 : decode cL_law 986 = .ok (.iadd, 1) := by decide +kernel
theorem dL_law_987 : decode cL_law 987 = .ok (.iaload, 1) := by decide +kernel
theorem dL_law_988 : decode cL_law 988 = .ok (.aload_n 0, 1) := by decide +kernel
theorem dL_law_989 : decode cL_law 989 = .ok (.iload_n 3, 1) := by decide +kernel
theorem dL_law_990 : decode cL_law 990 = .ok (.bipush 6, 2) := by decide +kernel
theorem dL_law_992 : decode cL_law 992 = .ok (.iadd, 1) := by decide +kernel
theorem dL_law_993 : decode cL_law 993 = .ok (.iaload, 1) := by decide +kernel
theorem dL_law_994 : decode cL_law 994 = .ok (.invokevirtual 103, 3) := by decide +kernel
theorem dL_law_997 : decode cL_law 997 = .ok (.aload_n 2, 1) := by decide +kernel
theorem dL_law_998 : decode cL_law 998 = .ok (.aload_n 0, 1) := by decide +kernel
theorem dL_law_999 : decode cL_law 999 = .ok (.iload_n 3, 1) := by decide +kernel
theorem dL_law_1000 : decode cL_law 1000 = .ok (.iconst 1, 1) := by decide +kernel
theorem dL_law_1001 : decode cL_law 1001 = .ok (.iadd, 1) := by decide +kernel
theorem dL_law_1002 : decode cL_law 1002 = .ok (.iaload, 1) := by decide +kernel
theorem dL_law_1003 : decode cL_law 1003 = .ok (.aload_n 0, 1) := by decide +kernel
theorem dL_law_1004 : decode cL_law 1004 = .ok (.iload_n 3, 1) := by decide +kernel
theorem dL_law_1005 : decode cL_law 1005 = .ok (.iconst 2, 1) := by decide +kernel
theorem dL_law_1006 : decode cL_law 1006 = .ok (.iadd, 1) := by decide +kernel
theorem dL_law_1007 : decode cL_law 1007 = .ok (.iaload, 1) := by decide +kernel
theorem dL_law_1008 : decode cL_law 1008 = .ok (.aload_n 0, 1) := by decide +kernel
theorem dL_law_1009 : decode cL_law 1009 = .ok (.iload_n 3, 1) := by decide +kernel
theorem dL_law_1010 : decode cL_law 1010 = .ok (.iconst 3, 1) := by decide +kernel
theorem dL_law_1011 : decode cL_law 1011 = .ok (.iadd, 1) := by decide +kernel
theorem dL_law_1012 : decode cL_law 1012 = .ok (.iaload, 1) := by decide +kernel
theorem dL_law_1013 : decode cL_law 1013 = .ok (.aload_n 0, 1) := by decide +kernel
theorem dL_law_1014 : decode cL_law 1014 = .ok (.iload_n 3, 1) := by decide +kernel
theorem dL_law_1015 : decode cL_law 1015 = .ok (.iconst 4, 1) := by decide +kernel
theorem dL_law_1016 : decode cL_law 1016 = .ok (.iadd, 1) := by decide +kernel
theorem dL_law_1017 : decode cL_law 1017 = .ok (.iaload, 1) := by decide +kernel
theorem dL_law_1018 : decode cL_law 1018 = .ok (.aload_n 0, 1) := by decide +kernel
theorem dL_law_1019 : decode cL_law 1019 = .ok (.iload_n 3, 1) := by decide +kernel
theorem dL_law_1020 : decode cL_law 1020 = .ok (.iconst 5, 1) := by decide +kernel
theorem dL_law_1021 : decode cL_law 1021 = .ok (.iadd, 1) := by decide +kernel
theorem dL_law_1022 : decode cL_law 1022 = .ok (.iaload, 1) := by decide +kernel
theorem dL_law_1023 : decode cL_law 1023 = .ok (.aload_n 0, 1) := by decide +kernel
theorem dL_law_1024 : decode cL_law 1024 = .ok (.iload_n 3, 1) := by decide +kernel
theorem dL_law_1025 : decode cL_law 1025 = .ok (.bipush 6, 2) := by decide +kernel
theorem dL_law_1027 : decode cL_law 1027 = .ok (.iadd, 1) := by decide +kernel
theorem dL_law_1028 : decode cL_law 1028 = .ok (.iaload, 1) := by decide +kernel
theorem dL_law_1029 : decode cL_law 1029 = .ok (.invokevirtual 107, 3) := by decide +kernel
theorem dL_law_1032 : decode cL_law 1032 = .ok (.lcmp, 1) := by decide +kernel
theorem dL_law_1033 : decode cL_law 1033 = .ok (.ifCond .eq 286, 3) := by decide +kernel
theorem dL_law_1036 : decode cL_law 1036 = .ok (.iconst 0, 1) := by decide +kernel
theorem dL_law_1037 : decode cL_law 1037 = .ok (.ireturn, 1) := by decide +kernel
theorem dL_law_1038 : decode cL_law 1038 = .ok (.aload_n 1, 1) := by decide +kernel
theorem dL_law_1039 : decode cL_law 1039 = .ok (.aload_n 0, 1) := by decide +kernel
theorem dL_law_1040 : decode cL_law 1040 = .ok (.iload_n 3, 1) := by decide +kernel
theorem dL_law_1041 : decode cL_law 1041 = .ok (.iconst 1, 1) := by decide +kernel
theorem dL_law_1042 : decode cL_law 1042 = .ok (.iadd, 1) := by decide +kernel
theorem dL_law_1043 : decode cL_law 1043 = .ok (.iaload, 1) := by decide +kernel
theorem dL_law_1044 : decode cL_law 1044 = .ok (.aload_n 0, 1) := by decide +kernel
theorem dL_law_1045 : decode cL_law 1045 = .ok (.iload_n 3, 1) := by decide +kernel
theorem dL_law_1046 : decode cL_law 1046 = .ok (.iconst 2, 1) := by decide +kernel
theorem dL_law_1047 : decode cL_law 1047 = .ok (.iadd, 1) := by decide +kernel
theorem dL_law_1048 : decode cL_law 1048 = .ok (.iaload, 1) := by decide +kernel
theorem dL_law_1049 : decode cL_law 1049 = .ok (.aload_n 0, 1) := by decide +kernel
theorem dL_law_1050 : decode cL_law 1050 = .ok (.iload_n 3, 1) := by decide +kernel
theorem dL_law_1051 : decode cL_law 1051 = .ok (.iconst 3, 1) := by decide +kernel
theorem dL_law_1052 : decode cL_law 1052 = .ok (.iadd, 1) := by decide +kernel
theorem dL_law_1053 : decode cL_law 1053 = .ok (.iaload, 1) := by decide +kernel
theorem dL_law_1054 : decode cL_law 1054 = .ok (.aload_n 0, 1) := by decide +kernel
theorem dL_law_1055 : decode cL_law 1055 = .ok (.iload_n 3, 1) := by decide +kernel
theorem dL_law_1056 : decode cL_law 1056 = .ok (.iconst 4, 1) := by decide +kernel
theorem dL_law_1057 : decode cL_law 1057 = .ok (.iadd, 1) := by decide +kernel
theorem dL_law_1058 : decode cL_law 1058 = .ok (.iaload, 1) := by decide +kernel
theorem dL_law_1059 : decode cL_law 1059 = .ok (.invokevirtual 108, 3) := by decide +kernel
theorem dL_law_1062 : decode cL_law 1062 = .ok (.aload_n 2, 1) := by decide +kernel
theorem dL_law_1063 : decode cL_law 1063 = .ok (.aload_n 0, 1) := by decide +kernel
theorem dL_law_1064 : decode cL_law 1064 = .ok (.iload_n 3, 1) := by decide +kernel
theorem dL_law_1065 : decode cL_law 1065 = .ok (.iconst 1, 1) := by decide +kernel
theorem dL_law_1066 : decode cL_law 1066 = .ok (.iadd, 1) := by decide +kernel
theorem dL_law_1067 : decode cL_law 1067 = .ok (.iaload, 1) := by decide +kernel
theorem dL_law_1068 : decode cL_law 1068 = .ok (.aload_n 0, 1) := by decide +kernel
theorem dL_law_1069 : decode cL_law 1069 = .ok (.iload_n 3, 1) := by decide +kernel
theorem dL_law_1070 : decode cL_law 1070 = .ok (.iconst 2, 1) := by decide +kernel
theorem dL_law_1071 : decode cL_law 1071 = .ok (.iadd, 1) := by decide +kernel
theorem dL_law_1072 : decode cL_law 1072 = .ok (.iaload, 1) := by decide +kernel
theorem dL_law_1073 : decode cL_law 1073 = .ok (.aload_n 0, 1) := by decide +kernel
theorem dL_law_1074 : decode cL_law 1074 = .ok (.iload_n 3, 1) := by decide +kernel
theorem dL_law_1075 : decode cL_law 1075 = .ok (.iconst 3, 1) := by decide +kernel
theorem dL_law_1076 : decode cL_law 1076 = .ok (.iadd, 1) := by decide +kernel
theorem dL_law_1077 : decode cL_law 1077 = .ok (.iaload, 1) := by decide +kernel
theorem dL_law_1078 : decode cL_law 1078 = .ok (.aload_n 0, 1) := by decide +kernel
theorem dL_law_1079 : decode cL_law 1079 = .ok (.iload_n 3, 1) := by decide +kernel
theorem dL_law_1080 : decode cL_law 1080 = .ok (.iconst 4, 1) := by decide +kernel
theorem dL_law_1081 : decode cL_law 1081 = .ok (.iadd, 1) := by decide +kernel
theorem dL_law_1082 : decode cL_law 1082 = .ok (.iaload, 1) := by decide +kernel
theorem dL_law_1083 : decode cL_law 1083 = .ok (.invokevirtual 111, 3) := by decide +kernel
theorem dL_law_1086 : decode cL_law 1086 = .ok (.if_icmp .eq 233, 3) := by decide +kernel
theorem dL_law_1089 : decode cL_law 1089 = .ok (.iconst 0, 1) := by decide +kernel
theorem dL_law_1090 : decode cL_law 1090 = .ok (.ireturn, 1) := by decide +kernel
theorem dL_law_1091 : decode cL_law 1091 = .ok (.aload_n 1, 1) := by decide +kernel
theorem dL_law_1092 : decode cL_law 1092 = .ok (.aload_n 0, 1) := by decide +kernel
theorem dL_law_1093 : decode cL_law 1093 = .ok (.iload_n 3, 1) := by decide +kernel
theorem dL_law_1094 : decode cL_law 1094 = .ok (.iconst 1, 1) := by decide +kernel
theorem dL_law_1095 : decode cL_law 1095 = .ok (.iadd, 1) := by decide +kernel
theorem dL_law_1096 : decode cL_law 1096 = .ok (.iaload, 1) := by decide +kernel
theorem dL_law_1097 : decode cL_law 1097 = .ok (.aload_n 0, 1) := by decide +kernel
theorem dL_law_1098 : decode cL_law 1098 = .ok (.iload_n 3, 1) := by decide +kernel
theorem dL_law_1099 : decode cL_law 1099 = .ok (.iconst 2, 1) := by decide +kernel
theorem dL_law_1100 : decode cL_law 1100 = .ok (.iadd, 1) := by decide +kernel
theorem dL_law_1101 : decode cL_law 1101 = .ok (.iaload, 1) := by decide +kernel
theorem dL_law_1102 : decode cL_law 1102 = .ok (.invokevirtual 112, 3) := by decide +kernel
theorem dL_law_1105 : decode cL_law 1105 = .ok (.aload_n 2, 1) := by decide +kernel
theorem dL_law_1106 : decode cL_law 1106 = .ok (.aload_n 0, 1) := by decide +kernel
theorem dL_law_1107 : decode cL_law 1107 = .ok (.iload_n 3, 1) := by decide +kernel
theorem dL_law_1108 : decode cL_law 1108 = .ok (.iconst 1, 1) := by decide +kernel
theorem dL_law_1109 : decode cL_law 1109 = .ok (.iadd, 1) := by decide +kernel
theorem dL_law_1110 : decode cL_law 1110 = .ok (.iaload, 1) := by decide +kernel
theorem dL_law_1111 : decode cL_law 1111 = .ok (.aload_n 0, 1) := by decide +kernel
theorem dL_law_1112 : decode cL_law 1112 = .ok (.iload_n 3, 1) := by decide +kernel
theorem dL_law_1113 : decode cL_law 1113 = .ok (.iconst 2, 1) := by decide +kernel
theorem dL_law_1114 : decode cL_law 1114 = .ok (.iadd, 1) := by decide +kernel
theorem dL_law_1115 : decode cL_law 1115 = .ok (.iaload, 1) := by decide +kernel
theorem dL_law_1116 : decode cL_law 1116 = .ok (.invokevirtual 115, 3) := by decide +kernel
theorem dL_law_1119 : decode cL_law 1119 = .ok (.if_icmp .eq 200, 3) := by decide +kernel
theorem dL_law_1122 : decode cL_law 1122 = .ok (.iconst 0, 1) := by decide +kernel
theorem dL_law_1123 : decode cL_law 1123 = .ok (.ireturn, 1) := by decide +kernel
theorem dL_law_1124 : decode cL_law 1124 = .ok (.aload_n 1, 1) := by decide +kernel
theorem dL_law_1125 : decode cL_law 1125 = .ok (.aload_n 0, 1) := by decide +kernel
theorem dL_law_1126 : decode cL_law 1126 = .ok (.iload_n 3, 1) := by decide +kernel
theorem dL_law_1127 : decode cL_law 1127 = .ok (.iconst 1, 1) := by decide +kernel
theorem dL_law_1128 : decode cL_law 1128 = .ok (.iadd, 1) := by decide +kernel
theorem dL_law_1129 : decode cL_law 1129 = .ok (.iaload, 1) := by decide +kernel
theorem dL_law_1130 : decode cL_law 1130 = .ok (.aload_n 0, 1) := by decide +kernel
theorem dL_law_1131 : decode cL_law 1131 = .ok (.iload_n 3, 1) := by decide +kernel
theorem dL_law_1132 : decode cL_law 1132 = .ok (.iconst 2, 1) := by decide +kernel
theorem dL_law_1133 : decode cL_law 1133 = .ok (.iadd, 1) := by decide +kernel
theorem dL_law_1134 : decode cL_law 1134 = .ok (.iaload, 1) := by decide +kernel
theorem dL_law_1135 : decode cL_law 1135 = .ok (.aload_n 0, 1) := by decide +kernel
theorem dL_law_1136 : decode cL_law 1136 = .ok (.iload_n 3, 1) := by decide +kernel
theorem dL_law_1137 : decode cL_law 1137 = .ok (.iconst 3, 1) := by decide +kernel
theorem dL_law_1138 : decode cL_law 1138 = .ok (.iadd, 1) := by decide +kernel
theorem dL_law_1139 : decode cL_law 1139 = .ok (.iaload, 1) := by decide +kernel
theorem dL_law_1140 : decode cL_law 1140 = .ok (.aload_n 0, 1) := by decide +kernel
theorem dL_law_1141 : decode cL_law 1141 = .ok (.iload_n 3, 1) := by decide +kernel
theorem dL_law_1142 : decode cL_law 1142 = .ok (.iconst 4, 1) := by decide +kernel
theorem dL_law_1143 : decode cL_law 1143 = .ok (.iadd, 1) := by decide +kernel
theorem dL_law_1144 : decode cL_law 1144 = .ok (.iaload, 1) := by decide +kernel
theorem dL_law_1145 : decode cL_law 1145 = .ok (.invokevirtual 116, 3) := by decide +kernel
theorem dL_law_1148 : decode cL_law 1148 = .ok (.aload_n 2, 1) := by decide +kernel
theorem dL_law_1149 : decode cL_law 1149 = .ok (.aload_n 0, 1) := by decide +kernel
theorem dL_law_1150 : decode cL_law 1150 = .ok (.iload_n 3, 1) := by decide +kernel
theorem dL_law_1151 : decode cL_law 1151 = .ok (.iconst 1, 1) := by decide +kernel
theorem dL_law_1152 : decode cL_law 1152 = .ok (.iadd, 1) := by decide +kernel
theorem dL_law_1153 : decode cL_law 1153 = .ok (.iaload, 1) := by decide +kernel
theorem dL_law_1154 : decode cL_law 1154 = .ok (.aload_n 0, 1) := by decide +kernel
theorem dL_law_1155 : decode cL_law 1155 = .ok (.iload_n 3, 1) := by decide +kernel
theorem dL_law_1156 : decode cL_law 1156 = .ok (.iconst 2, 1) := by decide +kernel
theorem dL_law_1157 : decode cL_law 1157 = .ok (.iadd, 1) := by decide +kernel
theorem dL_law_1158 : decode cL_law 1158 = .ok (.iaload, 1) := by decide +kernel
theorem dL_law_1159 : decode cL_law 1159 = .ok (.aload_n 0, 1) := by decide +kernel
theorem dL_law_1160 : decode cL_law 1160 = .ok (.iload_n 3, 1) := by decide +kernel
theorem dL_law_1161 : decode cL_law 1161 = .ok (.iconst 3, 1) := by decide +kernel
theorem dL_law_1162 : decode cL_law 1162 = .ok (.iadd, 1) := by decide +kernel
theorem dL_law_1163 : decode cL_law 1163 = .ok (.iaload, 1) := by decide +kernel
theorem dL_law_1164 : decode cL_law 1164 = .ok (.aload_n 0, 1) := by decide +kernel
theorem dL_law_1165 : decode cL_law 1165 = .ok (.iload_n 3, 1) := by decide +kernel
theorem dL_law_1166 : decode cL_law 1166 = .ok (.iconst 4, 1) := by decide +kernel
theorem dL_law_1167 : decode cL_law 1167 = .ok (.iadd, 1) := by decide +kernel
theorem dL_law_1168 : decode cL_law 1168 = .ok (.iaload, 1) := by decide +kernel
theorem dL_law_1169 : decode cL_law 1169 = .ok (.invokevirtual 119, 3) := by decide +kernel
theorem dL_law_1172 : decode cL_law 1172 = .ok (.if_icmp .eq 147, 3) := by decide +kernel
theorem dL_law_1175 : decode cL_law 1175 = .ok (.iconst 0, 1) := by decide +kernel
theorem dL_law_1176 : decode cL_law 1176 = .ok (.ireturn, 1) := by decide +kernel
theorem dL_law_1177 : decode cL_law 1177 = .ok (.aload_n 1, 1) := by decide +kernel
theorem dL_law_1178 : decode cL_law 1178 = .ok (.aload_n 0, 1) := by decide +kernel
theorem dL_law_1179 : decode cL_law 1179 = .ok (.iload_n 3, 1) := by decide +kernel
theorem dL_law_1180 : decode cL_law 1180 = .ok (.iconst 1, 1) := by decide +kernel
theorem dL_law_1181 : decode cL_law 1181 = .ok (.iadd, 1) := by decide +kernel
theorem dL_law_1182 : decode cL_law 1182 = .ok (.iaload, 1) := by decide +kernel
theorem dL_law_1183 : decode cL_law 1183 = .ok (.aload_n 0, 1) := by decide +kernel
theorem dL_law_1184 : decode cL_law 1184 = .ok (.iload_n 3, 1) := by decide +kernel
theorem dL_law_1185 : decode cL_law 1185 = .ok (.iconst 2, 1) := by decide +kernel
theorem dL_law_1186 : decode cL_law 1186 = .ok (.iadd, 1) := by decide +kernel
theorem dL_law_1187 : decode cL_law 1187 = .ok (.iaload, 1) := by decide +kernel
theorem dL_law_1188 : decode cL_law 1188 = .ok (.aload_n 0, 1) := by decide +kernel
theorem dL_law_1189 : decode cL_law 1189 = .ok (.iload_n 3, 1) := by decide +kernel
theorem dL_law_1190 : decode cL_law 1190 = .ok (.iconst 3, 1) := by decide +kernel
theorem dL_law_1191 : decode cL_law 1191 = .ok (.iadd, 1) := by decide +kernel
theorem dL_law_1192 : decode cL_law 1192 = .ok (.iaload, 1) := by decide +kernel
theorem dL_law_1193 : decode cL_law 1193 = .ok (.invokevirtual 120, 3) := by decide +kernel
theorem dL_law_1196 : decode cL_law 1196 = .ok (.aload_n 2, 1) := by decide +kernel
theorem dL_law_1197 : decode cL_law 1197 = .ok (.aload_n 0, 1) := by decide +kernel
theorem dL_law_1198 : decode cL_law 1198 = .ok (.iload_n 3, 1) := by decide +kernel
theorem dL_law_1199 : decode cL_law 1199 = .ok (.iconst 1, 1) := by decide +kernel
theorem dL_law_1200 : decode cL_law 1200 = .ok (.iadd, 1) := by decide +kernel
theorem dL_law_1201 : decode cL_law 1201 = .ok (.iaload, 1) := by decide +kernel
theorem dL_law_1202 : decode cL_law 1202 = .ok (.aload_n 0, 1) := by decide +kernel
theorem dL_law_1203 : decode cL_law 1203 = .ok (.iload_n 3, 1) := by decide +kernel
theorem dL_law_1204 : decode cL_law 1204 = .ok (.iconst 2, 1) := by decide +kernel
theorem dL_law_1205 : decode cL_law 1205 = .ok (.iadd, 1) := by decide +kernel
theorem dL_law_1206 : decode cL_law 1206 = .ok (.iaload, 1) := by decide +kernel
theorem dL_law_1207 : decode cL_law 1207 = .ok (.aload_n 0, 1) := by decide +kernel
theorem dL_law_1208 : decode cL_law 1208 = .ok (.iload_n 3, 1) := by decide +kernel
theorem dL_law_1209 : decode cL_law 1209 = .ok (.iconst 3, 1) := by decide +kernel
theorem dL_law_1210 : decode cL_law 1210 = .ok (.iadd, 1) := by decide +kernel
theorem dL_law_1211 : decode cL_law 1211 = .ok (.iaload, 1) := by decide +kernel
theorem dL_law_1212 : decode cL_law 1212 = .ok (.invokevirtual 123, 3) := by decide +kernel
theorem dL_law_1215 : decode cL_law 1215 = .ok (.if_icmp .eq 104, 3) := by decide +kernel
theorem dL_law_1218 : decode cL_law 1218 = .ok (.iconst 0, 1) := by decide +kernel
theorem dL_law_1219 : decode cL_law 1219 = .ok (.ireturn, 1) := by decide +kernel
theorem dL_law_1220 : decode cL_law 1220 = .ok (.aload_n 1, 1) := by decide +kernel
theorem dL_law_1221 : decode cL_law 1221 = .ok (.aload_n 0, 1) := by decide +kernel
theorem dL_law_1222 : decode cL_law 1222 = .ok (.iload_n 3, 1) := by decide +kernel
theorem dL_law_1223 : decode cL_law 1223 = .ok (.iconst 1, 1) := by decide +kernel
theorem dL_law_1224 : decode cL_law 1224 = .ok (.iadd, 1) := by decide +kernel
theorem dL_law_1225 : decode cL_law 1225 = .ok (.iaload, 1) := by decide +kernel
theorem dL_law_1226 : decode cL_law 1226 = .ok (.aload_n 0, 1) := by decide +kernel
theorem dL_law_1227 : decode cL_law 1227 = .ok (.iload_n 3, 1) := by decide +kernel
theorem dL_law_1228 : decode cL_law 1228 = .ok (.iconst 2, 1) := by decide +kernel
theorem dL_law_1229 : decode cL_law 1229 = .ok (.iadd, 1) := by decide +kernel
theorem dL_law_1230 : decode cL_law 1230 = .ok (.iaload, 1) := by decide +kernel
theorem dL_law_1231 : decode cL_law 1231 = .ok (.aload_n 0, 1) := by decide +kernel
theorem dL_law_1232 : decode cL_law 1232 = .ok (.iload_n 3, 1) := by decide +kernel
theorem dL_law_1233 : decode cL_law 1233 = .ok (.iconst 3, 1) := by decide +kernel
theorem dL_law_1234 : decode cL_law 1234 = .ok (.iadd, 1) := by decide +kernel
theorem dL_law_1235 : decode cL_law 1235 = .ok (.iaload, 1) := by decide +kernel
theorem dL_law_1236 : decode cL_law 1236 = .ok (.invokevirtual 124, 3) := by decide +kernel
theorem dL_law_1239 : decode cL_law 1239 = .ok (.aload_n 2, 1) := by decide +kernel
theorem dL_law_1240 : decode cL_law 1240 = .ok (.aload_n 0, 1) := by decide +kernel
theorem dL_law_1241 : decode cL_law 1241 = .ok (.iload_n 3, 1) := by decide +kernel
theorem dL_law_1242 : decode cL_law 1242 = .ok (.iconst 1, 1) := by decide +kernel
theorem dL_law_1243 : decode cL_law 1243 = .ok (.iadd, 1) := by decide +kernel
theorem dL_law_1244 : decode cL_law 1244 = .ok (.iaload, 1) := by decide +kernel
theorem dL_law_1245 : decode cL_law 1245 = .ok (.aload_n 0, 1) := by decide +kernel
theorem dL_law_1246 : decode cL_law 1246 = .ok (.iload_n 3, 1) := by decide +kernel
theorem dL_law_1247 : decode cL_law 1247 = .ok (.iconst 2, 1) := by decide +kernel
theorem dL_law_1248 : decode cL_law 1248 = .ok (.iadd, 1) := by decide +kernel
theorem dL_law_1249 : decode cL_law 1249 = .ok (.iaload, 1) := by decide +kernel
theorem dL_law_1250 : decode cL_law 1250 = .ok (.aload_n 0, 1) := by decide +kernel
theorem dL_law_1251 : decode cL_law 1251 = .ok (.iload_n 3, 1) := by decide +kernel
theorem dL_law_1252 : decode cL_law 1252 = .ok (.iconst 3, 1) := by decide +kernel
theorem dL_law_1253 : decode cL_law 1253 = .ok (.iadd, 1) := by decide +kernel
theorem dL_law_1254 : decode cL_law 1254 = .ok (.iaload, 1) := by decide +kernel
theorem dL_law_1255 : decode cL_law 1255 = .ok (.invokevirtual 127, 3) := by decide +kernel
theorem dL_law_1258 : decode cL_law 1258 = .ok (.if_icmp .eq 61, 3) := by decide +kernel
theorem dL_law_1261 : decode cL_law 1261 = .ok (.iconst 0, 1) := by decide +kernel
theorem dL_law_1262 : decode cL_law 1262 = .ok (.ireturn, 1) := by decide +kernel
theorem dL_law_1263 : decode cL_law 1263 = .ok (.aload_n 1, 1) := by decide +kernel
theorem dL_law_1264 : decode cL_law 1264 = .ok (.aload_n 0, 1) := by decide +kernel
theorem dL_law_1265 : decode cL_law 1265 = .ok (.iload_n 3, 1) := by decide +kernel
theorem dL_law_1266 : decode cL_law 1266 = .ok (.iconst 1, 1) := by decide +kernel
theorem dL_law_1267 : decode cL_law 1267 = .ok (.iadd, 1) := by decide +kernel
theorem dL_law_1268 : decode cL_law 1268 = .ok (.iaload, 1) := by decide +kernel
theorem dL_law_1269 : decode cL_law 1269 = .ok (.aload_n 0, 1) := by decide +kernel
theorem dL_law_1270 : decode cL_law 1270 = .ok (.iload_n 3, 1) := by decide +kernel
theorem dL_law_1271 : decode cL_law 1271 = .ok (.iconst 2, 1) := by decide +kernel
theorem dL_law_1272 : decode cL_law 1272 = .ok (.iadd, 1) := by decide +kernel
theorem dL_law_1273 : decode cL_law 1273 = .ok (.iaload, 1) := by decide +kernel
theorem dL_law_1274 : decode cL_law 1274 = .ok (.invokevirtual 128, 3) := by decide +kernel
theorem dL_law_1277 : decode cL_law 1277 = .ok (.aload_n 2, 1) := by decide +kernel
theorem dL_law_1278 : decode cL_law 1278 = .ok (.aload_n 0, 1) := by decide +kernel
theorem dL_law_1279 : decode cL_law 1279 = .ok (.iload_n 3, 1) := by decide +kernel
theorem dL_law_1280 : decode cL_law 1280 = .ok (.iconst 1, 1) := by decide +kernel
theorem dL_law_1281 : decode cL_law 1281 = .ok (.iadd, 1) := by decide +kernel
theorem dL_law_1282 : decode cL_law 1282 = .ok (.iaload, 1) := by decide +kernel
theorem dL_law_1283 : decode cL_law 1283 = .ok (.aload_n 0, 1) := by decide +kernel
theorem dL_law_1284 : decode cL_law 1284 = .ok (.iload_n 3, 1) := by decide +kernel
theorem dL_law_1285 : decode cL_law 1285 = .ok (.iconst 2, 1) := by decide +kernel
theorem dL_law_1286 : decode cL_law 1286 = .ok (.iadd, 1) := by decide +kernel
theorem dL_law_1287 : decode cL_law 1287 = .ok (.iaload, 1) := by decide +kernel
theorem dL_law_1288 : decode cL_law 1288 = .ok (.invokevirtual 131, 3) := by decide +kernel
theorem dL_law_1291 : decode cL_law 1291 = .ok (.if_icmp .eq 28, 3) := by decide +kernel
theorem dL_law_1294 : decode cL_law 1294 = .ok (.iconst 0, 1) := by decide +kernel
theorem dL_law_1295 : decode cL_law 1295 = .ok (.ireturn, 1) := by decide +kernel
theorem dL_law_1296 : decode cL_law 1296 = .ok (.aload_n 1, 1) := by decide +kernel
theorem dL_law_1297 : decode cL_law 1297 = .ok (.aload_n 0, 1) := by decide +kernel
theorem dL_law_1298 : decode cL_law 1298 = .ok (.iload_n 3, 1) := by decide +kernel
theorem dL_law_1299 : decode cL_law 1299 = .ok (.iconst 1, 1) := by decide +kernel
theorem dL_law_1300 : decode cL_law 1300 = .ok (.iadd, 1) := by decide +kernel
theorem dL_law_1301 : decode cL_law 1301 = .ok (.iaload, 1) := by decide +kernel
theorem dL_law_1302 : decode cL_law 1302 = .ok (.invokevirtual 132, 3) := by decide +kernel
theorem dL_law_1305 : decode cL_law 1305 = .ok (.aload_n 2, 1) := by decide +kernel
theorem dL_law_1306 : decode cL_law 1306 = .ok (.aload_n 0, 1) := by decide +kernel
theorem dL_law_1307 : decode cL_law 1307 = .ok (.iload_n 3, 1) := by decide +kernel
theorem dL_law_1308 : decode cL_law 1308 = .ok (.iconst 1, 1) := by decide +kernel
theorem dL_law_1309 : decode cL_law 1309 = .ok (.iadd, 1) := by decide +kernel
theorem dL_law_1310 : decode cL_law 1310 = .ok (.iaload, 1) := by decide +kernel
theorem dL_law_1311 : decode cL_law 1311 = .ok (.invokevirtual 135, 3) := by decide +kernel
theorem dL_law_1314 : decode cL_law 1314 = .ok (.if_icmp .eq 5, 3) := by decide +kernel
theorem dL_law_1317 : decode cL_law 1317 = .ok (.iconst 0, 1) := by decide +kernel
theorem dL_law_1318 : decode cL_law 1318 = .ok (.ireturn, 1) := by decide +kernel
theorem dL_law_1319 : decode cL_law 1319 = .ok (.iinc 3 7, 3) := by decide +kernel
theorem dL_law_1322 : decode cL_law 1322 = .ok (.goto (-1304), 3) := by decide +kernel
theorem dL_law_1325 : decode cL_law 1325 = .ok (.iconst 1, 1) := by decide +kernel
theorem dL_law_1326 : decode cL_law 1326 = .ok (.ireturn, 1) := by decide +kernel
theorem cn_L_13 : Cond.constantLong RL 13 (Int64.ofInt 4294967295) ∈ lwG := lwG_5 (i := 190) rfl rfl
theorem ck_L_15 {l : Launch} {D : va_G} {cy : Nat → ClassId} {R : Room} (hR : 2 ≤ R.frames ∧ 47 ≤ R.locals) : CallOK l D cy R RL (.invokevirtual 15) 0 0 (spV 11 2 SP_X11_write) := call_V (ci := 11) (con_X11_write l D cy) (lwG_2 (i := 87) rfl rfl) (lwG_2 (i := 88) rfl rfl) (lwG_2 (i := 89) rfl rfl) (lwG_1 (i := 1) rfl rfl) (lwG_2 (i := 90) rfl rfl) (by decide) ⟨rfl, by decide, by decide, rfl⟩ ⟨rfl, rfl⟩ hR
theorem ck_L_19 {l : Launch} {D : va_G} {cy : Nat → ClassId} {R : Room} (hR : 2 ≤ R.frames ∧ 49 ≤ R.locals) : CallOK l D cy R RL (.invokevirtual 19) 0 0 (spV 12 2 SP_X12_write) := call_V (ci := 12) (con_X12_write l D cy) (lwG_4 (i := 155) rfl rfl) (lwG_4 (i := 156) rfl rfl) (lwG_4 (i := 157) rfl rfl) (lwG_1 (i := 13) rfl rfl) (lwG_4 (i := 158) rfl rfl) (by decide) ⟨rfl, by decide, by decide, rfl⟩ ⟨rfl, rfl⟩ hR
theorem ck_L_20 {l : Launch} {D : va_G} {cy : Nat → ClassId} {R : Room} (hR : 1 ≤ R.frames ∧ 21 ≤ R.locals) : CallOK l D cy R RL (.invokevirtual 20) 0 0 (spV 11 0 SP_X11_wipe) := call_V (ci := 11) (con_X11_wipe l D cy) (lwG_2 (i := 98) rfl rfl) (lwG_2 (i := 99) rfl rfl) (lwG_2 (i := 100) rfl rfl) (lwG_1 (i := 1) rfl rfl) (lwG_2 (i := 101) rfl rfl) (by decide) ⟨rfl, by decide, by decide, rfl⟩ ⟨rfl, rfl⟩ hR
theorem ck_L_24 {l : Launch} {D : va_G} {cy : Nat → ClassId} {R : Room} (hR : 1 ≤ R.frames ∧ 21 ≤ R.locals) : CallOK l D cy R RL (.invokevirtual 24) 0 0 (spV 12 0 SP_X12_wipe) := call_V (ci := 12) (con_X12_wipe l D cy) (lwG_4 (i := 164) rfl rfl) (lwG_4 (i := 165) rfl rfl) (lwG_4 (i := 166) rfl rfl) (lwG_1 (i := 13) rfl rfl) (lwG_4 (i := 167) rfl rfl) (by decide) ⟨rfl, by decide, by decide, rfl⟩ ⟨rfl, rfl⟩ hR
theorem ck_L_25 {l : Launch} {D : va_G} {cy : Nat → ClassId} {R : Room} (hR : 5 ≤ R.frames ∧ 114 ≤ R.locals) : CallOK l D cy R RL (.invokevirtual 25) 0 0 (spV 11 0 SP_X11_fault) := call_V (ci := 11) (con_X11_fault l D cy) (lwG_2 (i := 102) rfl rfl) (lwG_2 (i := 103) rfl rfl) (lwG_2 (i := 104) rfl rfl) (lwG_1 (i := 1) rfl rfl) (lwG_2 (i := 105) rfl rfl) (by decide) ⟨rfl, by decide, by decide, rfl⟩ ⟨rfl, rfl⟩ hR
theorem ck_L_28 {l : Launch} {D : va_G} {cy : Nat → ClassId} {R : Room} (hR : 4 ≤ R.frames ∧ 93 ≤ R.locals) : CallOK l D cy R RL (.invokevirtual 28) 0 0 (spV 12 0 SP_X12_fault) := call_V (ci := 12) (con_X12_fault l D cy) (lwG_4 (i := 168) rfl rfl) (lwG_4 (i := 169) rfl rfl) (lwG_4 (i := 170) rfl rfl) (lwG_1 (i := 13) rfl rfl) (lwG_4 (i := 171) rfl rfl) (by decide) ⟨rfl, by decide, by decide, rfl⟩ ⟨rfl, rfl⟩ hR
theorem ck_L_29 {l : Launch} {D : va_G} {cy : Nat → ClassId} {R : Room} (hR : 5 ≤ R.frames ∧ 115 ≤ R.locals) : CallOK l D cy R RL (.invokevirtual 29) 0 0 (spV 11 0 SP_X11_lay) := call_V (ci := 11) (con_X11_lay l D cy) (lwG_2 (i := 159) rfl rfl) (lwG_2 (i := 160) rfl rfl) (lwG_2 (i := 161) rfl rfl) (lwG_1 (i := 1) rfl rfl) (lwG_2 (i := 162) rfl rfl) (by decide) ⟨rfl, by decide, by decide, rfl⟩ ⟨rfl, rfl⟩ hR
theorem ck_L_32 {l : Launch} {D : va_G} {cy : Nat → ClassId} {R : Room} (hR : 4 ≤ R.frames ∧ 94 ≤ R.locals) : CallOK l D cy R RL (.invokevirtual 32) 0 0 (spV 12 0 SP_X12_lay) := call_V (ci := 12) (con_X12_lay l D cy) (lwG_4 (i := 207) rfl rfl) (lwG_4 (i := 208) rfl rfl) (lwG_4 (i := 209) rfl rfl) (lwG_1 (i := 13) rfl rfl) (lwG_4 (i := 210) rfl rfl) (by decide) ⟨rfl, by decide, by decide, rfl⟩ ⟨rfl, rfl⟩ hR
theorem ck_L_33 {l : Launch} {D : va_G} {cy : Nat → ClassId} {R : Room} (hR : 2 ≤ R.frames ∧ 49 ≤ R.locals) : CallOK l D cy R RL (.invokevirtual 33) 0 0 (spV 11 6 SP_X11_body) := call_V (ci := 11) (con_X11_body l D cy) (lwG_2 (i := 167) rfl rfl) (lwG_2 (i := 168) rfl rfl) (lwG_2 (i := 169) rfl rfl) (lwG_1 (i := 1) rfl rfl) (lwG_2 (i := 170) rfl rfl) (by decide) ⟨rfl, by decide, by decide, rfl⟩ ⟨rfl, rfl⟩ hR
theorem ck_L_37 {l : Launch} {D : va_G} {cy : Nat → ClassId} {R : Room} (hR : 2 ≤ R.frames ∧ 53 ≤ R.locals) : CallOK l D cy R RL (.invokevirtual 37) 0 0 (spV 12 6 SP_X12_body) := call_V (ci := 12) (con_X12_body l D cy) (lwG_4 (i := 211) rfl rfl) (lwG_4 (i := 212) rfl rfl) (lwG_4 (i := 213) rfl rfl) (lwG_1 (i := 13) rfl rfl) (lwG_4 (i := 214) rfl rfl) (by decide) ⟨rfl, by decide, by decide, rfl⟩ ⟨rfl, rfl⟩ hR
theorem ck_L_38 {l : Launch} {D : va_G} {cy : Nat → ClassId} {R : Room} (hR : 3 ≤ R.frames ∧ 68 ≤ R.locals) : CallOK l D cy R RL (.invokevirtual 38) 0 0 (spV 11 3 SP_X11_hang) := call_V (ci := 11) (con_X11_hang l D cy) (lwG_2 (i := 175) rfl rfl) (lwG_2 (i := 176) rfl rfl) (lwG_2 (i := 177) rfl rfl) (lwG_1 (i := 1) rfl rfl) (lwG_2 (i := 178) rfl rfl) (by decide) ⟨rfl, by decide, by decide, rfl⟩ ⟨rfl, rfl⟩ hR
theorem ck_L_42 {l : Launch} {D : va_G} {cy : Nat → ClassId} {R : Room} (hR : 3 ≤ R.frames ∧ 70 ≤ R.locals) : CallOK l D cy R RL (.invokevirtual 42) 0 0 (spV 12 3 SP_X12_hang) := call_V (ci := 12) (con_X12_hang l D cy) (lwG_4 (i := 220) rfl rfl) (lwG_4 (i := 221) rfl rfl) (lwG_4 (i := 222) rfl rfl) (lwG_1 (i := 13) rfl rfl) (lwG_4 (i := 223) rfl rfl) (by decide) ⟨rfl, by decide, by decide, rfl⟩ ⟨rfl, rfl⟩ hR
theorem ck_L_43 {l : Launch} {D : va_G} {cy : Nat → ClassId} {R : Room} (hR : 7 ≤ R.frames ∧ 176 ≤ R.locals) : CallOK l D cy R RL (.invokevirtual 43) 0 0 (spV 11 3 SP_X11_level) := call_V (ci := 11) (con_X11_level l D cy) (lwG_2 (i := 184) rfl rfl) (lwG_2 (i := 185) rfl rfl) (lwG_2 (i := 186) rfl rfl) (lwG_1 (i := 1) rfl rfl) (lwG_2 (i := 187) rfl rfl) (by decide) ⟨rfl, by decide, by decide, rfl⟩ ⟨rfl, rfl⟩ hR
theorem ck_L_46 {l : Launch} {D : va_G} {cy : Nat → ClassId} {R : Room} (hR : 4 ≤ R.frames ∧ 115 ≤ R.locals) : CallOK l D cy R RL (.invokevirtual 46) 0 0 (spV 12 3 SP_X12_level) := call_V (ci := 12) (con_X12_level l D cy) (lwG_4 (i := 229) rfl rfl) (lwG_4 (i := 230) rfl rfl) (lwG_4 (i := 231) rfl rfl) (lwG_1 (i := 13) rfl rfl) (lwG_4 (i := 232) rfl rfl) (by decide) ⟨rfl, by decide, by decide, rfl⟩ ⟨rfl, rfl⟩ hR
theorem ck_L_47 {l : Launch} {D : va_G} {cy : Nat → ClassId} {R : Room} (hR : 7 ≤ R.frames ∧ 178 ≤ R.locals) : CallOK l D cy R RL (.invokevirtual 47) 0 0 (spV 11 4 SP_X11_push) := call_V (ci := 11) (con_X11_push l D cy) (lwG_2 (i := 238) rfl rfl) (lwG_2 (i := 239) rfl rfl) (lwG_3 (i := 0) rfl rfl) (lwG_1 (i := 1) rfl rfl) (lwG_3 (i := 1) rfl rfl) (by decide) ⟨rfl, by decide, by decide, rfl⟩ ⟨rfl, rfl⟩ hR
theorem ck_L_51 {l : Launch} {D : va_G} {cy : Nat → ClassId} {R : Room} (hR : 4 ≤ R.frames ∧ 120 ≤ R.locals) : CallOK l D cy R RL (.invokevirtual 51) 0 0 (spV 12 4 SP_X12_push) := call_V (ci := 12) (con_X12_push l D cy) (lwG_5 (i := 21) rfl rfl) (lwG_5 (i := 22) rfl rfl) (lwG_5 (i := 23) rfl rfl) (lwG_1 (i := 13) rfl rfl) (lwG_5 (i := 24) rfl rfl) (by decide) ⟨rfl, by decide, by decide, rfl⟩ ⟨rfl, rfl⟩ hR
theorem ck_L_52 {l : Launch} {D : va_G} {cy : Nat → ClassId} {R : Room} (hR : 7 ≤ R.frames ∧ 176 ≤ R.locals) : CallOK l D cy R RL (.invokevirtual 52) 0 0 (spV 11 3 SP_X11_bears) := call_V (ci := 11) (con_X11_bears l D cy) (lwG_3 (i := 20) rfl rfl) (lwG_3 (i := 21) rfl rfl) (lwG_3 (i := 22) rfl rfl) (lwG_1 (i := 1) rfl rfl) (lwG_3 (i := 23) rfl rfl) (by decide) ⟨rfl, by decide, by decide, rfl⟩ ⟨rfl, rfl⟩ hR
theorem ck_L_55 {l : Launch} {D : va_G} {cy : Nat → ClassId} {R : Room} (hR : 4 ≤ R.frames ∧ 115 ≤ R.locals) : CallOK l D cy R RL (.invokevirtual 55) 0 0 (spV 12 3 SP_X12_bears) := call_V (ci := 12) (con_X12_bears l D cy) (lwG_5 (i := 37) rfl rfl) (lwG_5 (i := 38) rfl rfl) (lwG_5 (i := 39) rfl rfl) (lwG_1 (i := 13) rfl rfl) (lwG_5 (i := 40) rfl rfl) (by decide) ⟨rfl, by decide, by decide, rfl⟩ ⟨rfl, rfl⟩ hR
theorem ck_L_56 {l : Launch} {D : va_G} {cy : Nat → ClassId} {R : Room} (hR : 7 ≤ R.frames ∧ 176 ≤ R.locals) : CallOK l D cy R RL (.invokevirtual 56) 0 0 (spV 11 3 SP_X11_press) := call_V (ci := 11) (con_X11_press l D cy) (lwG_3 (i := 28) rfl rfl) (lwG_3 (i := 29) rfl rfl) (lwG_3 (i := 30) rfl rfl) (lwG_1 (i := 1) rfl rfl) (lwG_3 (i := 31) rfl rfl) (by decide) ⟨rfl, by decide, by decide, rfl⟩ ⟨rfl, rfl⟩ hR
theorem ck_L_59 {l : Launch} {D : va_G} {cy : Nat → ClassId} {R : Room} (hR : 5 ≤ R.frames ∧ 140 ≤ R.locals) : CallOK l D cy R RL (.invokevirtual 59) 0 0 (spV 12 3 SP_X12_press) := call_V (ci := 12) (con_X12_press l D cy) (lwG_5 (i := 49) rfl rfl) (lwG_5 (i := 50) rfl rfl) (lwG_5 (i := 51) rfl rfl) (lwG_1 (i := 13) rfl rfl) (lwG_5 (i := 52) rfl rfl) (by decide) ⟨rfl, by decide, by decide, rfl⟩ ⟨rfl, rfl⟩ hR
theorem ck_L_60 {l : Launch} {D : va_G} {cy : Nat → ClassId} {R : Room} (hR : 2 ≤ R.frames ∧ 44 ≤ R.locals) : CallOK l D cy R RL (.invokevirtual 60) 0 0 (spV 11 1 SP_X11_slack) := call_V (ci := 11) (con_X11_slack l D cy) (lwG_3 (i := 40) rfl rfl) (lwG_3 (i := 41) rfl rfl) (lwG_3 (i := 42) rfl rfl) (lwG_1 (i := 1) rfl rfl) (lwG_3 (i := 43) rfl rfl) (by decide) ⟨rfl, by decide, by decide, rfl⟩ ⟨rfl, rfl⟩ hR
theorem ck_L_64 {l : Launch} {D : va_G} {cy : Nat → ClassId} {R : Room} (hR : 2 ≤ R.frames ∧ 47 ≤ R.locals) : CallOK l D cy R RL (.invokevirtual 64) 0 0 (spV 12 1 SP_X12_slack) := call_V (ci := 12) (con_X12_slack l D cy) (lwG_5 (i := 57) rfl rfl) (lwG_5 (i := 58) rfl rfl) (lwG_5 (i := 59) rfl rfl) (lwG_1 (i := 13) rfl rfl) (lwG_5 (i := 60) rfl rfl) (by decide) ⟨rfl, by decide, by decide, rfl⟩ ⟨rfl, rfl⟩ hR
theorem ck_L_65 {l : Launch} {D : va_G} {cy : Nat → ClassId} {R : Room} (hR : 4 ≤ R.frames ∧ 95 ≤ R.locals) : CallOK l D cy R RL (.invokevirtual 65) 0 0 (spV 11 4 SP_X11_fits) := call_V (ci := 11) (con_X11_fits l D cy) (lwG_3 (i := 44) rfl rfl) (lwG_3 (i := 45) rfl rfl) (lwG_3 (i := 46) rfl rfl) (lwG_1 (i := 1) rfl rfl) (lwG_3 (i := 47) rfl rfl) (by decide) ⟨rfl, by decide, by decide, rfl⟩ ⟨rfl, rfl⟩ hR
theorem ck_L_68 {l : Launch} {D : va_G} {cy : Nat → ClassId} {R : Room} (hR : 4 ≤ R.frames ∧ 102 ≤ R.locals) : CallOK l D cy R RL (.invokevirtual 68) 0 0 (spV 12 4 SP_X12_fits) := call_V (ci := 12) (con_X12_fits l D cy) (lwG_5 (i := 61) rfl rfl) (lwG_5 (i := 62) rfl rfl) (lwG_5 (i := 63) rfl rfl) (lwG_1 (i := 13) rfl rfl) (lwG_5 (i := 64) rfl rfl) (by decide) ⟨rfl, by decide, by decide, rfl⟩ ⟨rfl, rfl⟩ hR
theorem ck_L_69 {l : Launch} {D : va_G} {cy : Nat → ClassId} {R : Room} (hR : 5 ≤ R.frames ∧ 115 ≤ R.locals) : CallOK l D cy R RL (.invokevirtual 69) 0 0 (spV 11 2 SP_X11_share) := call_V (ci := 11) (con_X11_share l D cy) (lwG_3 (i := 65) rfl rfl) (lwG_3 (i := 66) rfl rfl) (lwG_3 (i := 67) rfl rfl) (lwG_1 (i := 1) rfl rfl) (lwG_3 (i := 68) rfl rfl) (by decide) ⟨rfl, by decide, by decide, rfl⟩ ⟨rfl, rfl⟩ hR
theorem ck_L_73 {l : Launch} {D : va_G} {cy : Nat → ClassId} {R : Room} (hR : 5 ≤ R.frames ∧ 122 ≤ R.locals) : CallOK l D cy R RL (.invokevirtual 73) 0 0 (spV 12 2 SP_X12_share) := call_V (ci := 12) (con_X12_share l D cy) (lwG_5 (i := 75) rfl rfl) (lwG_5 (i := 76) rfl rfl) (lwG_5 (i := 77) rfl rfl) (lwG_1 (i := 13) rfl rfl) (lwG_5 (i := 78) rfl rfl) (by decide) ⟨rfl, by decide, by decide, rfl⟩ ⟨rfl, rfl⟩ hR
theorem ck_L_74 {l : Launch} {D : va_G} {cy : Nat → ClassId} {R : Room} (hR : 5 ≤ R.frames ∧ 120 ≤ R.locals) : CallOK l D cy R RL (.invokevirtual 74) 0 0 (spV 11 2 SP_X11_setting) := call_V (ci := 11) (con_X11_setting l D cy) (lwG_3 (i := 86) rfl rfl) (lwG_3 (i := 87) rfl rfl) (lwG_3 (i := 88) rfl rfl) (lwG_1 (i := 1) rfl rfl) (lwG_3 (i := 89) rfl rfl) (by decide) ⟨rfl, by decide, by decide, rfl⟩ ⟨rfl, rfl⟩ hR
theorem ck_L_77 {l : Launch} {D : va_G} {cy : Nat → ClassId} {R : Room} (hR : 3 ≤ R.frames ∧ 80 ≤ R.locals) : CallOK l D cy R RL (.invokevirtual 77) 0 0 (spV 12 2 SP_X12_setting) := call_V (ci := 12) (con_X12_setting l D cy) (lwG_5 (i := 91) rfl rfl) (lwG_5 (i := 92) rfl rfl) (lwG_5 (i := 93) rfl rfl) (lwG_1 (i := 13) rfl rfl) (lwG_5 (i := 94) rfl rfl) (by decide) ⟨rfl, by decide, by decide, rfl⟩ ⟨rfl, rfl⟩ hR
theorem ck_L_78 {l : Launch} {D : va_G} {cy : Nat → ClassId} {R : Room} (hR : 5 ≤ R.frames ∧ 114 ≤ R.locals) : CallOK l D cy R RL (.invokevirtual 78) 0 0 (spV 11 1 SP_X11_fewest) := call_V (ci := 11) (con_X11_fewest l D cy) (lwG_3 (i := 99) rfl rfl) (lwG_3 (i := 100) rfl rfl) (lwG_3 (i := 101) rfl rfl) (lwG_1 (i := 1) rfl rfl) (lwG_3 (i := 102) rfl rfl) (by decide) ⟨rfl, by decide, by decide, rfl⟩ ⟨rfl, rfl⟩ hR
theorem ck_L_81 {l : Launch} {D : va_G} {cy : Nat → ClassId} {R : Room} (hR : 5 ≤ R.frames ∧ 123 ≤ R.locals) : CallOK l D cy R RL (.invokevirtual 81) 0 0 (spV 12 1 SP_X12_fewest) := call_V (ci := 12) (con_X12_fewest l D cy) (lwG_5 (i := 95) rfl rfl) (lwG_5 (i := 96) rfl rfl) (lwG_5 (i := 97) rfl rfl) (lwG_1 (i := 13) rfl rfl) (lwG_5 (i := 98) rfl rfl) (by decide) ⟨rfl, by decide, by decide, rfl⟩ ⟨rfl, rfl⟩ hR
theorem ck_L_82 {l : Launch} {D : va_G} {cy : Nat → ClassId} {R : Room} (hR : 2 ≤ R.frames ∧ 45 ≤ R.locals) : CallOK l D cy R RL (.invokevirtual 82) 0 0 (spV 11 2 SP_X11_law) := call_V (ci := 11) (con_X11_law l D cy) (lwG_3 (i := 115) rfl rfl) (lwG_3 (i := 116) rfl rfl) (lwG_3 (i := 117) rfl rfl) (lwG_1 (i := 1) rfl rfl) (lwG_3 (i := 118) rfl rfl) (by decide) ⟨rfl, by decide, by decide, rfl⟩ ⟨rfl, rfl⟩ hR
theorem ck_L_85 {l : Launch} {D : va_G} {cy : Nat → ClassId} {R : Room} (hR : 2 ≤ R.frames ∧ 48 ≤ R.locals) : CallOK l D cy R RL (.invokevirtual 85) 0 0 (spV 12 2 SP_X12_law) := call_V (ci := 12) (con_X12_law l D cy) (lwG_5 (i := 102) rfl rfl) (lwG_5 (i := 103) rfl rfl) (lwG_5 (i := 104) rfl rfl) (lwG_1 (i := 13) rfl rfl) (lwG_5 (i := 105) rfl rfl) (by decide) ⟨rfl, by decide, by decide, rfl⟩ ⟨rfl, rfl⟩ hR
theorem ck_L_86 {l : Launch} {D : va_G} {cy : Nat → ClassId} {R : Room} (hR : 7 ≤ R.frames ∧ 176 ≤ R.locals) : CallOK l D cy R RL (.invokevirtual 86) 0 0 (spV 11 3 SP_X11_hours) := call_V (ci := 11) (con_X11_hours l D cy) (lwG_3 (i := 119) rfl rfl) (lwG_3 (i := 120) rfl rfl) (lwG_3 (i := 121) rfl rfl) (lwG_1 (i := 1) rfl rfl) (lwG_3 (i := 122) rfl rfl) (by decide) ⟨rfl, by decide, by decide, rfl⟩ ⟨rfl, rfl⟩ hR
theorem ck_L_89 {l : Launch} {D : va_G} {cy : Nat → ClassId} {R : Room} (hR : 5 ≤ R.frames ∧ 140 ≤ R.locals) : CallOK l D cy R RL (.invokevirtual 89) 0 0 (spV 12 3 SP_X12_hours) := call_V (ci := 12) (con_X12_hours l D cy) (lwG_5 (i := 107) rfl rfl) (lwG_5 (i := 108) rfl rfl) (lwG_5 (i := 109) rfl rfl) (lwG_1 (i := 13) rfl rfl) (lwG_5 (i := 110) rfl rfl) (by decide) ⟨rfl, by decide, by decide, rfl⟩ ⟨rfl, rfl⟩ hR
theorem ck_L_90 {l : Launch} {D : va_G} {cy : Nat → ClassId} {R : Room} (hR : 7 ≤ R.frames ∧ 179 ≤ R.locals) : CallOK l D cy R RL (.invokevirtual 90) 0 0 (spV 11 5 SP_X11_stops) := call_V (ci := 11) (con_X11_stops l D cy) (lwG_3 (i := 135) rfl rfl) (lwG_3 (i := 136) rfl rfl) (lwG_3 (i := 137) rfl rfl) (lwG_1 (i := 1) rfl rfl) (lwG_3 (i := 138) rfl rfl) (by decide) ⟨rfl, by decide, by decide, rfl⟩ ⟨rfl, rfl⟩ hR
theorem ck_L_94 {l : Launch} {D : va_G} {cy : Nat → ClassId} {R : Room} (hR : 5 ≤ R.frames ∧ 148 ≤ R.locals) : CallOK l D cy R RL (.invokevirtual 94) 0 0 (spV 12 5 SP_X12_stops) := call_V (ci := 12) (con_X12_stops l D cy) (lwG_5 (i := 116) rfl rfl) (lwG_5 (i := 117) rfl rfl) (lwG_5 (i := 118) rfl rfl) (lwG_1 (i := 13) rfl rfl) (lwG_5 (i := 119) rfl rfl) (by decide) ⟨rfl, by decide, by decide, rfl⟩ ⟨rfl, rfl⟩ hR
theorem ck_L_95 {l : Launch} {D : va_G} {cy : Nat → ClassId} {R : Room} (hR : 4 ≤ R.frames ∧ 89 ≤ R.locals) : CallOK l D cy R RL (.invokevirtual 95) 0 0 (spV 11 3 SP_X11_road) := call_V (ci := 11) (con_X11_road l D cy) (lwG_3 (i := 157) rfl rfl) (lwG_3 (i := 158) rfl rfl) (lwG_3 (i := 159) rfl rfl) (lwG_1 (i := 1) rfl rfl) (lwG_3 (i := 160) rfl rfl) (by decide) ⟨rfl, by decide, by decide, rfl⟩ ⟨rfl, rfl⟩ hR
theorem ck_L_98 {l : Launch} {D : va_G} {cy : Nat → ClassId} {R : Room} (hR : 3 ≤ R.frames ∧ 69 ≤ R.locals) : CallOK l D cy R RL (.invokevirtual 98) 0 0 (spV 12 3 SP_X12_road) := call_V (ci := 12) (con_X12_road l D cy) (lwG_5 (i := 126) rfl rfl) (lwG_5 (i := 127) rfl rfl) (lwG_5 (i := 128) rfl rfl) (lwG_1 (i := 13) rfl rfl) (lwG_5 (i := 129) rfl rfl) (by decide) ⟨rfl, by decide, by decide, rfl⟩ ⟨rfl, rfl⟩ hR
theorem ck_L_99 {l : Launch} {D : va_G} {cy : Nat → ClassId} {R : Room} (hR : 7 ≤ R.frames ∧ 177 ≤ R.locals) : CallOK l D cy R RL (.invokevirtual 99) 0 0 (spV 11 4 SP_X11_through) := call_V (ci := 11) (con_X11_through l D cy) (lwG_3 (i := 177) rfl rfl) (lwG_3 (i := 178) rfl rfl) (lwG_3 (i := 179) rfl rfl) (lwG_1 (i := 1) rfl rfl) (lwG_3 (i := 180) rfl rfl) (by decide) ⟨rfl, by decide, by decide, rfl⟩ ⟨rfl, rfl⟩ hR
theorem ck_L_102 {l : Launch} {D : va_G} {cy : Nat → ClassId} {R : Room} (hR : 5 ≤ R.frames ∧ 126 ≤ R.locals) : CallOK l D cy R RL (.invokevirtual 102) 0 0 (spV 12 4 SP_X12_through) := call_V (ci := 12) (con_X12_through l D cy) (lwG_5 (i := 133) rfl rfl) (lwG_5 (i := 134) rfl rfl) (lwG_5 (i := 135) rfl rfl) (lwG_1 (i := 13) rfl rfl) (lwG_5 (i := 136) rfl rfl) (by decide) ⟨rfl, by decide, by decide, rfl⟩ ⟨rfl, rfl⟩ hR
theorem ck_L_103 {l : Launch} {D : va_G} {cy : Nat → ClassId} {R : Room} (hR : 7 ≤ R.frames ∧ 179 ≤ R.locals) : CallOK l D cy R RL (.invokevirtual 103) 0 0 (spV 11 6 SP_X11_dose) := call_V (ci := 11) (con_X11_dose l D cy) (lwG_3 (i := 200) rfl rfl) (lwG_3 (i := 201) rfl rfl) (lwG_3 (i := 202) rfl rfl) (lwG_1 (i := 1) rfl rfl) (lwG_3 (i := 203) rfl rfl) (by decide) ⟨rfl, by decide, by decide, rfl⟩ ⟨rfl, rfl⟩ hR
theorem ck_L_107 {l : Launch} {D : va_G} {cy : Nat → ClassId} {R : Room} (hR : 6 ≤ R.frames ∧ 157 ≤ R.locals) : CallOK l D cy R RL (.invokevirtual 107) 0 0 (spV 12 6 SP_X12_dose) := call_V (ci := 12) (con_X12_dose l D cy) (lwG_5 (i := 141) rfl rfl) (lwG_5 (i := 142) rfl rfl) (lwG_5 (i := 143) rfl rfl) (lwG_1 (i := 13) rfl rfl) (lwG_5 (i := 144) rfl rfl) (by decide) ⟨rfl, by decide, by decide, rfl⟩ ⟨rfl, rfl⟩ hR
theorem ck_L_108 {l : Launch} {D : va_G} {cy : Nat → ClassId} {R : Room} (hR : 6 ≤ R.frames ∧ 156 ≤ R.locals) : CallOK l D cy R RL (.invokevirtual 108) 0 0 (spV 11 4 SP_X11_years) := call_V (ci := 11) (con_X11_years l D cy) (lwG_3 (i := 213) rfl rfl) (lwG_3 (i := 214) rfl rfl) (lwG_3 (i := 215) rfl rfl) (lwG_1 (i := 1) rfl rfl) (lwG_3 (i := 216) rfl rfl) (by decide) ⟨rfl, by decide, by decide, rfl⟩ ⟨rfl, rfl⟩ hR
theorem ck_L_111 {l : Launch} {D : va_G} {cy : Nat → ClassId} {R : Room} (hR : 5 ≤ R.frames ∧ 142 ≤ R.locals) : CallOK l D cy R RL (.invokevirtual 111) 0 0 (spV 12 4 SP_X12_years) := call_V (ci := 12) (con_X12_years l D cy) (lwG_5 (i := 150) rfl rfl) (lwG_5 (i := 151) rfl rfl) (lwG_5 (i := 152) rfl rfl) (lwG_1 (i := 13) rfl rfl) (lwG_5 (i := 153) rfl rfl) (by decide) ⟨rfl, by decide, by decide, rfl⟩ ⟨rfl, rfl⟩ hR
theorem ck_L_112 {l : Launch} {D : va_G} {cy : Nat → ClassId} {R : Room} (hR : 3 ≤ R.frames ∧ 67 ≤ R.locals) : CallOK l D cy R RL (.invokevirtual 112) 0 0 (spV 11 2 SP_X11_worn) := call_V (ci := 11) (con_X11_worn l D cy) (lwG_3 (i := 228) rfl rfl) (lwG_3 (i := 229) rfl rfl) (lwG_3 (i := 230) rfl rfl) (lwG_1 (i := 1) rfl rfl) (lwG_3 (i := 231) rfl rfl) (by decide) ⟨rfl, by decide, by decide, rfl⟩ ⟨rfl, rfl⟩ hR
theorem ck_L_115 {l : Launch} {D : va_G} {cy : Nat → ClassId} {R : Room} (hR : 4 ≤ R.frames ∧ 90 ≤ R.locals) : CallOK l D cy R RL (.invokevirtual 115) 0 0 (spV 12 2 SP_X12_worn) := call_V (ci := 12) (con_X12_worn l D cy) (lwG_5 (i := 161) rfl rfl) (lwG_5 (i := 162) rfl rfl) (lwG_5 (i := 163) rfl rfl) (lwG_1 (i := 13) rfl rfl) (lwG_5 (i := 164) rfl rfl) (by decide) ⟨rfl, by decide, by decide, rfl⟩ ⟨rfl, rfl⟩ hR
theorem ck_L_116 {l : Launch} {D : va_G} {cy : Nat → ClassId} {R : Room} (hR : 6 ≤ R.frames ∧ 156 ≤ R.locals) : CallOK l D cy R RL (.invokevirtual 116) 0 0 (spV 11 4 SP_X11_until) := call_V (ci := 11) (con_X11_until l D cy) (lwG_3 (i := 232) rfl rfl) (lwG_3 (i := 233) rfl rfl) (lwG_3 (i := 234) rfl rfl) (lwG_1 (i := 1) rfl rfl) (lwG_3 (i := 235) rfl rfl) (by decide) ⟨rfl, by decide, by decide, rfl⟩ ⟨rfl, rfl⟩ hR
theorem ck_L_119 {l : Launch} {D : va_G} {cy : Nat → ClassId} {R : Room} (hR : 5 ≤ R.frames ∧ 143 ≤ R.locals) : CallOK l D cy R RL (.invokevirtual 119) 0 0 (spV 12 4 SP_X12_until) := call_V (ci := 12) (con_X12_until l D cy) (lwG_5 (i := 165) rfl rfl) (lwG_5 (i := 166) rfl rfl) (lwG_5 (i := 167) rfl rfl) (lwG_1 (i := 13) rfl rfl) (lwG_5 (i := 168) rfl rfl) (by decide) ⟨rfl, by decide, by decide, rfl⟩ ⟨rfl, rfl⟩ hR
theorem ck_L_120 {l : Launch} {D : va_G} {cy : Nat → ClassId} {R : Room} (hR : 3 ≤ R.frames ∧ 68 ≤ R.locals) : CallOK l D cy R RL (.invokevirtual 120) 0 0 (spV 11 3 SP_X11_trial) := call_V (ci := 11) (con_X11_trial l D cy) (lwG_4 (i := 0) rfl rfl) (lwG_4 (i := 1) rfl rfl) (lwG_4 (i := 2) rfl rfl) (lwG_1 (i := 1) rfl rfl) (lwG_4 (i := 3) rfl rfl) (by decide) ⟨rfl, by decide, by decide, rfl⟩ ⟨rfl, rfl⟩ hR
theorem ck_L_123 {l : Launch} {D : va_G} {cy : Nat → ClassId} {R : Room} (hR : 3 ≤ R.frames ∧ 69 ≤ R.locals) : CallOK l D cy R RL (.invokevirtual 123) 0 0 (spV 12 3 SP_X12_trial) := call_V (ci := 12) (con_X12_trial l D cy) (lwG_5 (i := 173) rfl rfl) (lwG_5 (i := 174) rfl rfl) (lwG_5 (i := 175) rfl rfl) (lwG_1 (i := 13) rfl rfl) (lwG_5 (i := 176) rfl rfl) (by decide) ⟨rfl, by decide, by decide, rfl⟩ ⟨rfl, rfl⟩ hR
theorem ck_L_124 {l : Launch} {D : va_G} {cy : Nat → ClassId} {R : Room} (hR : 5 ≤ R.frames ∧ 113 ≤ R.locals) : CallOK l D cy R RL (.invokevirtual 124) 0 0 (spV 11 3 SP_X11_against) := call_V (ci := 11) (con_X11_against l D cy) (lwG_4 (i := 9) rfl rfl) (lwG_4 (i := 10) rfl rfl) (lwG_4 (i := 11) rfl rfl) (lwG_1 (i := 1) rfl rfl) (lwG_4 (i := 12) rfl rfl) (by decide) ⟨rfl, by decide, by decide, rfl⟩ ⟨rfl, rfl⟩ hR
theorem ck_L_127 {l : Launch} {D : va_G} {cy : Nat → ClassId} {R : Room} (hR : 3 ≤ R.frames ∧ 75 ≤ R.locals) : CallOK l D cy R RL (.invokevirtual 127) 0 0 (spV 12 3 SP_X12_against) := call_V (ci := 12) (con_X12_against l D cy) (lwG_5 (i := 177) rfl rfl) (lwG_5 (i := 178) rfl rfl) (lwG_5 (i := 179) rfl rfl) (lwG_1 (i := 13) rfl rfl) (lwG_5 (i := 180) rfl rfl) (by decide) ⟨rfl, by decide, by decide, rfl⟩ ⟨rfl, rfl⟩ hR
theorem ck_L_128 {l : Launch} {D : va_G} {cy : Nat → ClassId} {R : Room} (hR : 6 ≤ R.frames ∧ 136 ≤ R.locals) : CallOK l D cy R RL (.invokevirtual 128) 0 0 (spV 11 2 SP_X11_score) := call_V (ci := 11) (con_X11_score l D cy) (lwG_4 (i := 33) rfl rfl) (lwG_4 (i := 34) rfl rfl) (lwG_4 (i := 35) rfl rfl) (lwG_1 (i := 1) rfl rfl) (lwG_4 (i := 36) rfl rfl) (by decide) ⟨rfl, by decide, by decide, rfl⟩ ⟨rfl, rfl⟩ hR
theorem ck_L_131 {l : Launch} {D : va_G} {cy : Nat → ClassId} {R : Room} (hR : 3 ≤ R.frames ∧ 73 ≤ R.locals) : CallOK l D cy R RL (.invokevirtual 131) 0 0 (spV 12 2 SP_X12_score) := call_V (ci := 12) (con_X12_score l D cy) (lwG_5 (i := 181) rfl rfl) (lwG_5 (i := 182) rfl rfl) (lwG_5 (i := 183) rfl rfl) (lwG_1 (i := 13) rfl rfl) (lwG_5 (i := 184) rfl rfl) (by decide) ⟨rfl, by decide, by decide, rfl⟩ ⟨rfl, rfl⟩ hR
theorem ck_L_132 {l : Launch} {D : va_G} {cy : Nat → ClassId} {R : Room} (hR : 3 ≤ R.frames ∧ 64 ≤ R.locals) : CallOK l D cy R RL (.invokevirtual 132) 0 0 (spV 11 1 SP_X11_count) := call_V (ci := 11) (con_X11_count l D cy) (lwG_4 (i := 50) rfl rfl) (lwG_4 (i := 51) rfl rfl) (lwG_4 (i := 52) rfl rfl) (lwG_1 (i := 1) rfl rfl) (lwG_4 (i := 53) rfl rfl) (by decide) ⟨rfl, by decide, by decide, rfl⟩ ⟨rfl, rfl⟩ hR
theorem ck_L_135 {l : Launch} {D : va_G} {cy : Nat → ClassId} {R : Room} (hR : 2 ≤ R.frames ∧ 45 ≤ R.locals) : CallOK l D cy R RL (.invokevirtual 135) 0 0 (spV 12 1 SP_X12_count) := call_V (ci := 12) (con_X12_count l D cy) (lwG_5 (i := 186) rfl rfl) (lwG_5 (i := 187) rfl rfl) (lwG_5 (i := 188) rfl rfl) (lwG_1 (i := 13) rfl rfl) (lwG_5 (i := 189) rfl rfl) (by decide) ⟨rfl, by decide, by decide, rfl⟩ ⟨rfl, rfl⟩ hR
theorem nw_L_7 : Cond.classLink RL 7 (Rk 11) ∈ lwG ∧ Cond.instantiable (Rk 11) (Nk 11) ∈ lwG ∧ Cond.initialized (Rk 11) ∈ lwG := ⟨lwG_1 (i := 16) rfl rfl, lwG_1 (i := 17) rfl rfl, lwG_1 (i := 1) rfl rfl⟩
theorem ck_L_9 {l : Launch} {D : va_G} {cy : Nat → ClassId} {R : Room} (hR : 5 ≤ R.frames ∧ 104 ≤ R.locals) : CallOK l D cy R RL (.invokespecial 9) 220 1397 (spI 0 SP_X11_init) := call_I (con_X11_init l D cy) (lwG_1 (i := 18) rfl rfl) (lwG_1 (i := 19) rfl rfl) (lwG_1 (i := 1) rfl rfl) (lwG_1 (i := 20) rfl rfl) rfl ⟨by decide, by decide, rfl⟩ ⟨rfl, rfl⟩ hR
theorem nw_L_10 : Cond.classLink RL 10 (Rk 12) ∈ lwG ∧ Cond.instantiable (Rk 12) (Nk 12) ∈ lwG ∧ Cond.initialized (Rk 12) ∈ lwG := ⟨lwG_4 (i := 58) rfl rfl, lwG_4 (i := 59) rfl rfl, lwG_1 (i := 13) rfl rfl⟩
theorem ck_L_12 {l : Launch} {D : va_G} {cy : Nat → ClassId} {R : Room} (hR : 2 ≤ R.frames ∧ 41 ≤ R.locals) : CallOK l D cy R RL (.invokespecial 12) 21 1100 (spI 0 SP_X12_init) := call_I (con_X12_init l D cy) (lwG_4 (i := 60) rfl rfl) (lwG_4 (i := 61) rfl rfl) (lwG_1 (i := 13) rfl rfl) (lwG_4 (i := 62) rfl rfl) rfl ⟨by decide, by decide, rfl⟩ ⟨rfl, rfl⟩ hR
theorem x_callL {p : Program} {l : Launch} {e : Env} {s : State} {m : MethodId} {args : Array Value} {below : List Frame} {meth : Method} {c : Code} {Q : State → Prop} {cc : ByteArray} {nL : Nat} {own : String} {D : va_G} {cy : Nat → ClassId} {G : Nat × Nat} {n0 pc : Nat} {L : List (Nat × PV)} {st : List PV} {M : Mm} {op : Instr} {SP : SPt} {as stk : List PV} (K : CallOK l D cy room_1 own op 0 0 SP) (C : Cx p s m args meth c cc nL own D cy G n0) (hd : decode cc pc = .ok (op, 3)) (hstk : stk = as.reverse ++ st) (hn : M.2.2.2 = 243) (h0 : n0 = 0) (hlen : argN st ≤ 8) (Qp : Option PV → Mm → Prop) (hSP : SP as M Qp) (k : ∀ v M', Qp v M' → M'.2.2.2 = 243 → WW p l e room_1 s m args below meth c Q nL D cy G n0 (pc + 3) L (v.toList ++ st) M') : WW p l e room_1 s m args below meth c Q nL D cy G n0 pc L stk M := by
  refine x_call K C hd hstk hlen Qp hSP (by rw [hn, h0]; decide) (by rw [hn, h0]; decide +kernel) rfl (fun v M' hq hm => k v M' hq (by rw [hm, hn]))
set_option maxRecDepth 100000 in
set_option maxHeartbeats 4000000 in
theorem cw_X11_write {p : Program} {l : Launch} {e : Env} {s : State} {m : MethodId} {args : Array Value} {below : List Frame} {meth : Method} {c : Code} {Q : State → Prop} {cc : ByteArray} {nL : Nat} {own : String} {D : va_G} {cy : Nat → ClassId} {G : Nat × Nat} {n0 pc : Nat} {L : List (Nat × PV)} {st : List PV} {M : Mm} {op : Instr} (K : CallOK l D cy room_1 own op 0 0 (spV 11 2 SP_X11_write)) (C : Cx p s m args meth c cc nL own D cy G n0) (hd : decode cc pc = .ok (op, 3)) (hn : M.2.2.2 = 243) (h0 : n0 = 0) (hlen : argN st ≤ 8) {r : Option Nat} {o0 : Nat} (ho : isOn 11 M.2.2.2 r o0) {x1 : Int} {x2 : Int} {Q0 : Int → Mm → Prop} (h : P_X11_write o0 x1 x2 M Q0) (k : ∀ x M2, Q0 x M2 → M2.2.2.2 = 243 → WW p l e room_1 s m args below meth c Q nL D cy G n0  (pc + 3) L (vI x :: st) M2) : WW p l e room_1 s m args below meth c Q nL D cy G n0  pc L (vL x2 :: vI x1 :: vR r :: st) M := by
  obtain ⟨rfl, ho1, ho2⟩ := ho
  refine x_callL K C hd (as := [vR (some o0), vI x1, vL x2]) rfl hn h0 hlen (fun v M2 => ∃ x, v = some (vI x) ∧ Q0 x M2) ⟨⟨o0, [vI x1, vL x2], rfl, rfl, ho1, ho2⟩, hn, o0, x1, x2, rfl, (hn) ▸ ho1, ho2, Q0, fun x M2 hx => ⟨x, rfl, hx⟩, h⟩ ?_
  rintro _ _ ⟨x, rfl, hx⟩ hm
  exact k x _ hx hm
set_option maxRecDepth 100000 in
set_option maxHeartbeats 4000000 in
theorem cw_X12_write {p : Program} {l : Launch} {e : Env} {s : State} {m : MethodId} {args : Array Value} {below : List Frame} {meth : Method} {c : Code} {Q : State → Prop} {cc : ByteArray} {nL : Nat} {own : String} {D : va_G} {cy : Nat → ClassId} {G : Nat × Nat} {n0 pc : Nat} {L : List (Nat × PV)} {st : List PV} {M : Mm} {op : Instr} (K : CallOK l D cy room_1 own op 0 0 (spV 12 2 SP_X12_write)) (C : Cx p s m args meth c cc nL own D cy G n0) (hd : decode cc pc = .ok (op, 3)) (hn : M.2.2.2 = 243) (h0 : n0 = 0) (hlen : argN st ≤ 8) {r : Option Nat} {o0 : Nat} (ho : isOn 12 M.2.2.2 r o0) {x1 : Int} {x2 : Int} {Q0 : Int → Mm → Prop} (h : P_X12_write o0 x1 x2 M Q0) (k : ∀ x M2, Q0 x M2 → M2.2.2.2 = 243 → WW p l e room_1 s m args below meth c Q nL D cy G n0  (pc + 3) L (vI x :: st) M2) : WW p l e room_1 s m args below meth c Q nL D cy G n0  pc L (vL x2 :: vI x1 :: vR r :: st) M := by
  obtain ⟨rfl, ho1, ho2⟩ := ho
  refine x_callL K C hd (as := [vR (some o0), vI x1, vL x2]) rfl hn h0 hlen (fun v M2 => ∃ x, v = some (vI x) ∧ Q0 x M2) ⟨⟨o0, [vI x1, vL x2], rfl, rfl, ho1, ho2⟩, hn, o0, x1, x2, rfl, (hn) ▸ ho1, ho2, Q0, fun x M2 hx => ⟨x, rfl, hx⟩, h⟩ ?_
  rintro _ _ ⟨x, rfl, hx⟩ hm
  exact k x _ hx hm
set_option maxRecDepth 100000 in
set_option maxHeartbeats 4000000 in
theorem cw_X11_wipe {p : Program} {l : Launch} {e : Env} {s : State} {m : MethodId} {args : Array Value} {below : List Frame} {meth : Method} {c : Code} {Q : State → Prop} {cc : ByteArray} {nL : Nat} {own : String} {D : va_G} {cy : Nat → ClassId} {G : Nat × Nat} {n0 pc : Nat} {L : List (Nat × PV)} {st : List PV} {M : Mm} {op : Instr} (K : CallOK l D cy room_1 own op 0 0 (spV 11 0 SP_X11_wipe)) (C : Cx p s m args meth c cc nL own D cy G n0) (hd : decode cc pc = .ok (op, 3)) (hn : M.2.2.2 = 243) (h0 : n0 = 0) (hlen : argN st ≤ 8) {r : Option Nat} {o0 : Nat} (ho : isOn 11 M.2.2.2 r o0)  {Q0 : Int → Mm → Prop} (h : P_X11_wipe o0 M Q0) (k : ∀ x M2, Q0 x M2 → M2.2.2.2 = 243 → WW p l e room_1 s m args below meth c Q nL D cy G n0  (pc + 3) L (vI x :: st) M2) : WW p l e room_1 s m args below meth c Q nL D cy G n0  pc L (vR r :: st) M := by
  obtain ⟨rfl, ho1, ho2⟩ := ho
  refine x_callL K C hd (as := [vR (some o0)]) rfl hn h0 hlen (fun v M2 => ∃ x, v = some (vI x) ∧ Q0 x M2) ⟨⟨o0, [], rfl, rfl, ho1, ho2⟩, hn, o0, rfl, (hn) ▸ ho1, ho2, Q0, fun x M2 hx => ⟨x, rfl, hx⟩, h⟩ ?_
  rintro _ _ ⟨x, rfl, hx⟩ hm
  exact k x _ hx hm
set_option maxRecDepth 100000 in
set_option maxHeartbeats 4000000 in
theorem cw_X12_wipe {p : Program} {l : Launch} {e : Env} {s : State} {m : MethodId} {args : Array Value} {below : List Frame} {meth : Method} {c : Code} {Q : State → Prop} {cc : ByteArray} {nL : Nat} {own : String} {D : va_G} {cy : Nat → ClassId} {G : Nat × Nat} {n0 pc : Nat} {L : List (Nat × PV)} {st : List PV} {M : Mm} {op : Instr} (K : CallOK l D cy room_1 own op 0 0 (spV 12 0 SP_X12_wipe)) (C : Cx p s m args meth c cc nL own D cy G n0) (hd : decode cc pc = .ok (op, 3)) (hn : M.2.2.2 = 243) (h0 : n0 = 0) (hlen : argN st ≤ 8) {r : Option Nat} {o0 : Nat} (ho : isOn 12 M.2.2.2 r o0)  {Q0 : Int → Mm → Prop} (h : P_X12_wipe o0 M Q0) (k : ∀ x M2, Q0 x M2 → M2.2.2.2 = 243 → WW p l e room_1 s m args below meth c Q nL D cy G n0  (pc + 3) L (vI x :: st) M2) : WW p l e room_1 s m args below meth c Q nL D cy G n0  pc L (vR r :: st) M := by
  obtain ⟨rfl, ho1, ho2⟩ := ho
  refine x_callL K C hd (as := [vR (some o0)]) rfl hn h0 hlen (fun v M2 => ∃ x, v = some (vI x) ∧ Q0 x M2) ⟨⟨o0, [], rfl, rfl, ho1, ho2⟩, hn, o0, rfl, (hn) ▸ ho1, ho2, Q0, fun x M2 hx => ⟨x, rfl, hx⟩, h⟩ ?_
  rintro _ _ ⟨x, rfl, hx⟩ hm
  exact k x _ hx hm
set_option maxRecDepth 100000 in
set_option maxHeartbeats 4000000 in
theorem cw_X11_fault {p : Program} {l : Launch} {e : Env} {s : State} {m : MethodId} {args : Array Value} {below : List Frame} {meth : Method} {c : Code} {Q : State → Prop} {cc : ByteArray} {nL : Nat} {own : String} {D : va_G} {cy : Nat → ClassId} {G : Nat × Nat} {n0 pc : Nat} {L : List (Nat × PV)} {st : List PV} {M : Mm} {op : Instr} (K : CallOK l D cy room_1 own op 0 0 (spV 11 0 SP_X11_fault)) (C : Cx p s m args meth c cc nL own D cy G n0) (hd : decode cc pc = .ok (op, 3)) (hn : M.2.2.2 = 243) (h0 : n0 = 0) (hlen : argN st ≤ 8) {r : Option Nat} {o0 : Nat} (ho : isOn 11 M.2.2.2 r o0)  {Q0 : Int → Mm → Prop} (h : P_X11_fault o0 M Q0) (k : ∀ x M2, Q0 x M2 → M2.2.2.2 = 243 → WW p l e room_1 s m args below meth c Q nL D cy G n0  (pc + 3) L (vI x :: st) M2) : WW p l e room_1 s m args below meth c Q nL D cy G n0  pc L (vR r :: st) M := by
  obtain ⟨rfl, ho1, ho2⟩ := ho
  refine x_callL K C hd (as := [vR (some o0)]) rfl hn h0 hlen (fun v M2 => ∃ x, v = some (vI x) ∧ Q0 x M2) ⟨⟨o0, [], rfl, rfl, ho1, ho2⟩, hn, o0, rfl, (hn) ▸ ho1, ho2, Q0, fun x M2 hx => ⟨x, rfl, hx⟩, h⟩ ?_
  rintro _ _ ⟨x, rfl, hx⟩ hm
  exact k x _ hx hm
set_option maxRecDepth 100000 in
set_option maxHeartbeats 4000000 in
theorem cw_X12_fault {p : Program} {l : Launch} {e : Env} {s : State} {m : MethodId} {args : Array Value} {below : List Frame} {meth : Method} {c : Code} {Q : State → Prop} {cc : ByteArray} {nL : Nat} {own : String} {D : va_G} {cy : Nat → ClassId} {G : Nat × Nat} {n0 pc : Nat} {L : List (Nat × PV)} {st : List PV} {M : Mm} {op : Instr} (K : CallOK l D cy room_1 own op 0 0 (spV 12 0 SP_X12_fault)) (C : Cx p s m args meth c cc nL own D cy G n0) (hd : decode cc pc = .ok (op, 3)) (hn : M.2.2.2 = 243) (h0 : n0 = 0) (hlen : argN st ≤ 8) {r : Option Nat} {o0 : Nat} (ho : isOn 12 M.2.2.2 r o0)  {Q0 : Int → Mm → Prop} (h : P_X12_fault o0 M Q0) (k : ∀ x M2, Q0 x M2 → M2.2.2.2 = 243 → WW p l e room_1 s m args below meth c Q nL D cy G n0  (pc + 3) L (vI x :: st) M2) : WW p l e room_1 s m args below meth c Q nL D cy G n0  pc L (vR r :: st) M := by
  obtain ⟨rfl, ho1, ho2⟩ := ho
  refine x_callL K C hd (as := [vR (some o0)]) rfl hn h0 hlen (fun v M2 => ∃ x, v = some (vI x) ∧ Q0 x M2) ⟨⟨o0, [], rfl, rfl, ho1, ho2⟩, hn, o0, rfl, (hn) ▸ ho1, ho2, Q0, fun x M2 hx => ⟨x, rfl, hx⟩, h⟩ ?_
  rintro _ _ ⟨x, rfl, hx⟩ hm
  exact k x _ hx hm
set_option maxRecDepth 100000 in
set_option maxHeartbeats 4000000 in
theorem cw_X11_lay {p : Program} {l : Launch} {e : Env} {s : State} {m : MethodId} {args : Array Value} {below : List Frame} {meth : Method} {c : Code} {Q : State → Prop} {cc : ByteArray} {nL : Nat} {own : String} {D : va_G} {cy : Nat → ClassId} {G : Nat × Nat} {n0 pc : Nat} {L : List (Nat × PV)} {st : List PV} {M : Mm} {op : Instr} (K : CallOK l D cy room_1 own op 0 0 (spV 11 0 SP_X11_lay)) (C : Cx p s m args meth c cc nL own D cy G n0) (hd : decode cc pc = .ok (op, 3)) (hn : M.2.2.2 = 243) (h0 : n0 = 0) (hlen : argN st ≤ 8) {r : Option Nat} {o0 : Nat} (ho : isOn 11 M.2.2.2 r o0)  {Q0 : Int → Mm → Prop} (h : P_X11_lay o0 M Q0) (k : ∀ x M2, Q0 x M2 → M2.2.2.2 = 243 → WW p l e room_1 s m args below meth c Q nL D cy G n0  (pc + 3) L (vI x :: st) M2) : WW p l e room_1 s m args below meth c Q nL D cy G n0  pc L (vR r :: st) M := by
  obtain ⟨rfl, ho1, ho2⟩ := ho
  refine x_callL K C hd (as := [vR (some o0)]) rfl hn h0 hlen (fun v M2 => ∃ x, v = some (vI x) ∧ Q0 x M2) ⟨⟨o0, [], rfl, rfl, ho1, ho2⟩, hn, o0, rfl, (hn) ▸ ho1, ho2, Q0, fun x M2 hx => ⟨x, rfl, hx⟩, h⟩ ?_
  rintro _ _ ⟨x, rfl, hx⟩ hm
  exact k x _ hx hm
set_option maxRecDepth 100000 in
set_option maxHeartbeats 4000000 in
theorem cw_X12_lay {p : Program} {l : Launch} {e : Env} {s : State} {m : MethodId} {args : Array Value} {below : List Frame} {meth : Method} {c : Code} {Q : State → Prop} {cc : ByteArray} {nL : Nat} {own : String} {D : va_G} {cy : Nat → ClassId} {G : Nat × Nat} {n0 pc : Nat} {L : List (Nat × PV)} {st : List PV} {M : Mm} {op : Instr} (K : CallOK l D cy room_1 own op 0 0 (spV 12 0 SP_X12_lay)) (C : Cx p s m args meth c cc nL own D cy G n0) (hd : decode cc pc = .ok (op, 3)) (hn : M.2.2.2 = 243) (h0 : n0 = 0) (hlen : argN st ≤ 8) {r : Option Nat} {o0 : Nat} (ho : isOn 12 M.2.2.2 r o0)  {Q0 : Int → Mm → Prop} (h : P_X12_lay o0 M Q0) (k : ∀ x M2, Q0 x M2 → M2.2.2.2 = 243 → WW p l e room_1 s m args below meth c Q nL D cy G n0  (pc + 3) L (vI x :: st) M2) : WW p l e room_1 s m args below meth c Q nL D cy G n0  pc L (vR r :: st) M := by
  obtain ⟨rfl, ho1, ho2⟩ := ho
  refine x_callL K C hd (as := [vR (some o0)]) rfl hn h0 hlen (fun v M2 => ∃ x, v = some (vI x) ∧ Q0 x M2) ⟨⟨o0, [], rfl, rfl, ho1, ho2⟩, hn, o0, rfl, (hn) ▸ ho1, ho2, Q0, fun x M2 hx => ⟨x, rfl, hx⟩, h⟩ ?_
  rintro _ _ ⟨x, rfl, hx⟩ hm
  exact k x _ hx hm
set_option maxRecDepth 100000 in
set_option maxHeartbeats 4000000 in
theorem cw_X11_body {p : Program} {l : Launch} {e : Env} {s : State} {m : MethodId} {args : Array Value} {below : List Frame} {meth : Method} {c : Code} {Q : State → Prop} {cc : ByteArray} {nL : Nat} {own : String} {D : va_G} {cy : Nat → ClassId} {G : Nat × Nat} {n0 pc : Nat} {L : List (Nat × PV)} {st : List PV} {M : Mm} {op : Instr} (K : CallOK l D cy room_1 own op 0 0 (spV 11 6 SP_X11_body)) (C : Cx p s m args meth c cc nL own D cy G n0) (hd : decode cc pc = .ok (op, 3)) (hn : M.2.2.2 = 243) (h0 : n0 = 0) (hlen : argN st ≤ 8) {r : Option Nat} {o0 : Nat} (ho : isOn 11 M.2.2.2 r o0) {x1 : Int} {x2 : Int} {x3 : Int} {x4 : Int} {x5 : Int} {x6 : Int} {Q0 : Int → Mm → Prop} (h : P_X11_body o0 x1 x2 x3 x4 x5 x6 M Q0) (k : ∀ x M2, Q0 x M2 → M2.2.2.2 = 243 → WW p l e room_1 s m args below meth c Q nL D cy G n0  (pc + 3) L (vI x :: st) M2) : WW p l e room_1 s m args below meth c Q nL D cy G n0  pc L (vI x6 :: vI x5 :: vI x4 :: vI x3 :: vI x2 :: vI x1 :: vR r :: st) M := by
  obtain ⟨rfl, ho1, ho2⟩ := ho
  refine x_callL K C hd (as := [vR (some o0), vI x1, vI x2, vI x3, vI x4, vI x5, vI x6]) rfl hn h0 hlen (fun v M2 => ∃ x, v = some (vI x) ∧ Q0 x M2) ⟨⟨o0, [vI x1, vI x2, vI x3, vI x4, vI x5, vI x6], rfl, rfl, ho1, ho2⟩, hn, o0, x1, x2, x3, x4, x5, x6, rfl, (hn) ▸ ho1, ho2, Q0, fun x M2 hx => ⟨x, rfl, hx⟩, h⟩ ?_
  rintro _ _ ⟨x, rfl, hx⟩ hm
  exact k x _ hx hm
set_option maxRecDepth 100000 in
set_option maxHeartbeats 4000000 in
theorem cw_X12_body {p : Program} {l : Launch} {e : Env} {s : State} {m : MethodId} {args : Array Value} {below : List Frame} {meth : Method} {c : Code} {Q : State → Prop} {cc : ByteArray} {nL : Nat} {own : String} {D : va_G} {cy : Nat → ClassId} {G : Nat × Nat} {n0 pc : Nat} {L : List (Nat × PV)} {st : List PV} {M : Mm} {op : Instr} (K : CallOK l D cy room_1 own op 0 0 (spV 12 6 SP_X12_body)) (C : Cx p s m args meth c cc nL own D cy G n0) (hd : decode cc pc = .ok (op, 3)) (hn : M.2.2.2 = 243) (h0 : n0 = 0) (hlen : argN st ≤ 8) {r : Option Nat} {o0 : Nat} (ho : isOn 12 M.2.2.2 r o0) {x1 : Int} {x2 : Int} {x3 : Int} {x4 : Int} {x5 : Int} {x6 : Int} {Q0 : Int → Mm → Prop} (h : P_X12_body o0 x1 x2 x3 x4 x5 x6 M Q0) (k : ∀ x M2, Q0 x M2 → M2.2.2.2 = 243 → WW p l e room_1 s m args below meth c Q nL D cy G n0  (pc + 3) L (vI x :: st) M2) : WW p l e room_1 s m args below meth c Q nL D cy G n0  pc L (vI x6 :: vI x5 :: vI x4 :: vI x3 :: vI x2 :: vI x1 :: vR r :: st) M := by
  obtain ⟨rfl, ho1, ho2⟩ := ho
  refine x_callL K C hd (as := [vR (some o0), vI x1, vI x2, vI x3, vI x4, vI x5, vI x6]) rfl hn h0 hlen (fun v M2 => ∃ x, v = some (vI x) ∧ Q0 x M2) ⟨⟨o0, [vI x1, vI x2, vI x3, vI x4, vI x5, vI x6], rfl, rfl, ho1, ho2⟩, hn, o0, x1, x2, x3, x4, x5, x6, rfl, (hn) ▸ ho1, ho2, Q0, fun x M2 hx => ⟨x, rfl, hx⟩, h⟩ ?_
  rintro _ _ ⟨x, rfl, hx⟩ hm
  exact k x _ hx hm
set_option maxRecDepth 100000 in
set_option maxHeartbeats 4000000 in
theorem cw_X11_hang {p : Program} {l : Launch} {e : Env} {s : State} {m : MethodId} {args : Array Value} {below : List Frame} {meth : Method} {c : Code} {Q : State → Prop} {cc : ByteArray} {nL : Nat} {own : String} {D : va_G} {cy : Nat → ClassId} {G : Nat × Nat} {n0 pc : Nat} {L : List (Nat × PV)} {st : List PV} {M : Mm} {op : Instr} (K : CallOK l D cy room_1 own op 0 0 (spV 11 3 SP_X11_hang)) (C : Cx p s m args meth c cc nL own D cy G n0) (hd : decode cc pc = .ok (op, 3)) (hn : M.2.2.2 = 243) (h0 : n0 = 0) (hlen : argN st ≤ 8) {r : Option Nat} {o0 : Nat} (ho : isOn 11 M.2.2.2 r o0) {x1 : Int} {x2 : Int} {x3 : Int} {Q0 : Int → Mm → Prop} (h : P_X11_hang o0 x1 x2 x3 M Q0) (k : ∀ x M2, Q0 x M2 → M2.2.2.2 = 243 → WW p l e room_1 s m args below meth c Q nL D cy G n0  (pc + 3) L (vI x :: st) M2) : WW p l e room_1 s m args below meth c Q nL D cy G n0  pc L (vI x3 :: vI x2 :: vI x1 :: vR r :: st) M := by
  obtain ⟨rfl, ho1, ho2⟩ := ho
  refine x_callL K C hd (as := [vR (some o0), vI x1, vI x2, vI x3]) rfl hn h0 hlen (fun v M2 => ∃ x, v = some (vI x) ∧ Q0 x M2) ⟨⟨o0, [vI x1, vI x2, vI x3], rfl, rfl, ho1, ho2⟩, hn, o0, x1, x2, x3, rfl, (hn) ▸ ho1, ho2, Q0, fun x M2 hx => ⟨x, rfl, hx⟩, h⟩ ?_
  rintro _ _ ⟨x, rfl, hx⟩ hm
  exact k x _ hx hm
set_option maxRecDepth 100000 in
set_option maxHeartbeats 4000000 in
theorem cw_X12_hang {p : Program} {l : Launch} {e : Env} {s : State} {m : MethodId} {args : Array Value} {below : List Frame} {meth : Method} {c : Code} {Q : State → Prop} {cc : ByteArray} {nL : Nat} {own : String} {D : va_G} {cy : Nat → ClassId} {G : Nat × Nat} {n0 pc : Nat} {L : List (Nat × PV)} {st : List PV} {M : Mm} {op : Instr} (K : CallOK l D cy room_1 own op 0 0 (spV 12 3 SP_X12_hang)) (C : Cx p s m args meth c cc nL own D cy G n0) (hd : decode cc pc = .ok (op, 3)) (hn : M.2.2.2 = 243) (h0 : n0 = 0) (hlen : argN st ≤ 8) {r : Option Nat} {o0 : Nat} (ho : isOn 12 M.2.2.2 r o0) {x1 : Int} {x2 : Int} {x3 : Int} {Q0 : Int → Mm → Prop} (h : P_X12_hang o0 x1 x2 x3 M Q0) (k : ∀ x M2, Q0 x M2 → M2.2.2.2 = 243 → WW p l e room_1 s m args below meth c Q nL D cy G n0  (pc + 3) L (vI x :: st) M2) : WW p l e room_1 s m args below meth c Q nL D cy G n0  pc L (vI x3 :: vI x2 :: vI x1 :: vR r :: st) M := by
  obtain ⟨rfl, ho1, ho2⟩ := ho
  refine x_callL K C hd (as := [vR (some o0), vI x1, vI x2, vI x3]) rfl hn h0 hlen (fun v M2 => ∃ x, v = some (vI x) ∧ Q0 x M2) ⟨⟨o0, [vI x1, vI x2, vI x3], rfl, rfl, ho1, ho2⟩, hn, o0, x1, x2, x3, rfl, (hn) ▸ ho1, ho2, Q0, fun x M2 hx => ⟨x, rfl, hx⟩, h⟩ ?_
  rintro _ _ ⟨x, rfl, hx⟩ hm
  exact k x _ hx hm
set_option maxRecDepth 100000 in
set_option maxHeartbeats 4000000 in
theorem cw_X11_level {p : Program} {l : Launch} {e : Env} {s : State} {m : MethodId} {args : Array Value} {below : List Frame} {meth : Method} {c : Code} {Q : State → Prop} {cc : ByteArray} {nL : Nat} {own : String} {D : va_G} {cy : Nat → ClassId} {G : Nat × Nat} {n0 pc : Nat} {L : List (Nat × PV)} {st : List PV} {M : Mm} {op : Instr} (K : CallOK l D cy room_1 own op 0 0 (spV 11 3 SP_X11_level)) (C : Cx p s m args meth c cc nL own D cy G n0) (hd : decode cc pc = .ok (op, 3)) (hn : M.2.2.2 = 243) (h0 : n0 = 0) (hlen : argN st ≤ 8) {r : Option Nat} {o0 : Nat} (ho : isOn 11 M.2.2.2 r o0) {x1 : Int} {x2 : Int} {x3 : Int} {Q0 : Int → Mm → Prop} (h : P_X11_level o0 x1 x2 x3 M Q0) (k : ∀ x M2, Q0 x M2 → M2.2.2.2 = 243 → WW p l e room_1 s m args below meth c Q nL D cy G n0  (pc + 3) L (vI x :: st) M2) : WW p l e room_1 s m args below meth c Q nL D cy G n0  pc L (vI x3 :: vI x2 :: vI x1 :: vR r :: st) M := by
  obtain ⟨rfl, ho1, ho2⟩ := ho
  refine x_callL K C hd (as := [vR (some o0), vI x1, vI x2, vI x3]) rfl hn h0 hlen (fun v M2 => ∃ x, v = some (vI x) ∧ Q0 x M2) ⟨⟨o0, [vI x1, vI x2, vI x3], rfl, rfl, ho1, ho2⟩, hn, o0, x1, x2, x3, rfl, (hn) ▸ ho1, ho2, Q0, fun x M2 hx => ⟨x, rfl, hx⟩, h⟩ ?_
  rintro _ _ ⟨x, rfl, hx⟩ hm
  exact k x _ hx hm
set_option maxRecDepth 100000 in
set_option maxHeartbeats 4000000 in
theorem cw_X12_level {p : Program} {l : Launch} {e : Env} {s : State} {m : MethodId} {args : Array Value} {below : List Frame} {meth : Method} {c : Code} {Q : State → Prop} {cc : ByteArray} {nL : Nat} {own : String} {D : va_G} {cy : Nat → ClassId} {G : Nat × Nat} {n0 pc : Nat} {L : List (Nat × PV)} {st : List PV} {M : Mm} {op : Instr} (K : CallOK l D cy room_1 own op 0 0 (spV 12 3 SP_X12_level)) (C : Cx p s m args meth c cc nL own D cy G n0) (hd : decode cc pc = .ok (op, 3)) (hn : M.2.2.2 = 243) (h0 : n0 = 0) (hlen : argN st ≤ 8) {r : Option Nat} {o0 : Nat} (ho : isOn 12 M.2.2.2 r o0) {x1 : Int} {x2 : Int} {x3 : Int} {Q0 : Int → Mm → Prop} (h : P_X12_level o0 x1 x2 x3 M Q0) (k : ∀ x M2, Q0 x M2 → M2.2.2.2 = 243 → WW p l e room_1 s m args below meth c Q nL D cy G n0  (pc + 3) L (vI x :: st) M2) : WW p l e room_1 s m args below meth c Q nL D cy G n0  pc L (vI x3 :: vI x2 :: vI x1 :: vR r :: st) M := by
  obtain ⟨rfl, ho1, ho2⟩ := ho
  refine x_callL K C hd (as := [vR (some o0), vI x1, vI x2, vI x3]) rfl hn h0 hlen (fun v M2 => ∃ x, v = some (vI x) ∧ Q0 x M2) ⟨⟨o0, [vI x1, vI x2, vI x3], rfl, rfl, ho1, ho2⟩, hn, o0, x1, x2, x3, rfl, (hn) ▸ ho1, ho2, Q0, fun x M2 hx => ⟨x, rfl, hx⟩, h⟩ ?_
  rintro _ _ ⟨x, rfl, hx⟩ hm
  exact k x _ hx hm
set_option maxRecDepth 100000 in
set_option maxHeartbeats 4000000 in
theorem cw_X11_push {p : Program} {l : Launch} {e : Env} {s : State} {m : MethodId} {args : Array Value} {below : List Frame} {meth : Method} {c : Code} {Q : State → Prop} {cc : ByteArray} {nL : Nat} {own : String} {D : va_G} {cy : Nat → ClassId} {G : Nat × Nat} {n0 pc : Nat} {L : List (Nat × PV)} {st : List PV} {M : Mm} {op : Instr} (K : CallOK l D cy room_1 own op 0 0 (spV 11 4 SP_X11_push)) (C : Cx p s m args meth c cc nL own D cy G n0) (hd : decode cc pc = .ok (op, 3)) (hn : M.2.2.2 = 243) (h0 : n0 = 0) (hlen : argN st ≤ 8) {r : Option Nat} {o0 : Nat} (ho : isOn 11 M.2.2.2 r o0) {x1 : Int} {x2 : Int} {x3 : Int} {x4 : Int} {Q0 : Int → Mm → Prop} (h : P_X11_push o0 x1 x2 x3 x4 M Q0) (k : ∀ x M2, Q0 x M2 → M2.2.2.2 = 243 → WW p l e room_1 s m args below meth c Q nL D cy G n0  (pc + 3) L (vI x :: st) M2) : WW p l e room_1 s m args below meth c Q nL D cy G n0  pc L (vI x4 :: vI x3 :: vI x2 :: vI x1 :: vR r :: st) M := by
  obtain ⟨rfl, ho1, ho2⟩ := ho
  refine x_callL K C hd (as := [vR (some o0), vI x1, vI x2, vI x3, vI x4]) rfl hn h0 hlen (fun v M2 => ∃ x, v = some (vI x) ∧ Q0 x M2) ⟨⟨o0, [vI x1, vI x2, vI x3, vI x4], rfl, rfl, ho1, ho2⟩, hn, o0, x1, x2, x3, x4, rfl, (hn) ▸ ho1, ho2, Q0, fun x M2 hx => ⟨x, rfl, hx⟩, h⟩ ?_
  rintro _ _ ⟨x, rfl, hx⟩ hm
  exact k x _ hx hm
set_option maxRecDepth 100000 in
set_option maxHeartbeats 4000000 in
theorem cw_X12_push {p : Program} {l : Launch} {e : Env} {s : State} {m : MethodId} {args : Array Value} {below : List Frame} {meth : Method} {c : Code} {Q : State → Prop} {cc : ByteArray} {nL : Nat} {own : String} {D : va_G} {cy : Nat → ClassId} {G : Nat × Nat} {n0 pc : Nat} {L : List (Nat × PV)} {st : List PV} {M : Mm} {op : Instr} (K : CallOK l D cy room_1 own op 0 0 (spV 12 4 SP_X12_push)) (C : Cx p s m args meth c cc nL own D cy G n0) (hd : decode cc pc = .ok (op, 3)) (hn : M.2.2.2 = 243) (h0 : n0 = 0) (hlen : argN st ≤ 8) {r : Option Nat} {o0 : Nat} (ho : isOn 12 M.2.2.2 r o0) {x1 : Int} {x2 : Int} {x3 : Int} {x4 : Int} {Q0 : Int → Mm → Prop} (h : P_X12_push o0 x1 x2 x3 x4 M Q0) (k : ∀ x M2, Q0 x M2 → M2.2.2.2 = 243 → WW p l e room_1 s m args below meth c Q nL D cy G n0  (pc + 3) L (vI x :: st) M2) : WW p l e room_1 s m args below meth c Q nL D cy G n0  pc L (vI x4 :: vI x3 :: vI x2 :: vI x1 :: vR r :: st) M := by
  obtain ⟨rfl, ho1, ho2⟩ := ho
  refine x_callL K C hd (as := [vR (some o0), vI x1, vI x2, vI x3, vI x4]) rfl hn h0 hlen (fun v M2 => ∃ x, v = some (vI x) ∧ Q0 x M2) ⟨⟨o0, [vI x1, vI x2, vI x3, vI x4], rfl, rfl, ho1, ho2⟩, hn, o0, x1, x2, x3, x4, rfl, (hn) ▸ ho1, ho2, Q0, fun x M2 hx => ⟨x, rfl, hx⟩, h⟩ ?_
  rintro _ _ ⟨x, rfl, hx⟩ hm
  exact k x _ hx hm
set_option maxRecDepth 100000 in
set_option maxHeartbeats 4000000 in
theorem cw_X11_bears {p : Program} {l : Launch} {e : Env} {s : State} {m : MethodId} {args : Array Value} {below : List Frame} {meth : Method} {c : Code} {Q : State → Prop} {cc : ByteArray} {nL : Nat} {own : String} {D : va_G} {cy : Nat → ClassId} {G : Nat × Nat} {n0 pc : Nat} {L : List (Nat × PV)} {st : List PV} {M : Mm} {op : Instr} (K : CallOK l D cy room_1 own op 0 0 (spV 11 3 SP_X11_bears)) (C : Cx p s m args meth c cc nL own D cy G n0) (hd : decode cc pc = .ok (op, 3)) (hn : M.2.2.2 = 243) (h0 : n0 = 0) (hlen : argN st ≤ 8) {r : Option Nat} {o0 : Nat} (ho : isOn 11 M.2.2.2 r o0) {x1 : Int} {x2 : Int} {x3 : Int} {Q0 : Int → Mm → Prop} (h : P_X11_bears o0 x1 x2 x3 M Q0) (k : ∀ x M2, Q0 x M2 → M2.2.2.2 = 243 → WW p l e room_1 s m args below meth c Q nL D cy G n0  (pc + 3) L (vI x :: st) M2) : WW p l e room_1 s m args below meth c Q nL D cy G n0  pc L (vI x3 :: vI x2 :: vI x1 :: vR r :: st) M := by
  obtain ⟨rfl, ho1, ho2⟩ := ho
  refine x_callL K C hd (as := [vR (some o0), vI x1, vI x2, vI x3]) rfl hn h0 hlen (fun v M2 => ∃ x, v = some (vI x) ∧ Q0 x M2) ⟨⟨o0, [vI x1, vI x2, vI x3], rfl, rfl, ho1, ho2⟩, hn, o0, x1, x2, x3, rfl, (hn) ▸ ho1, ho2, Q0, fun x M2 hx => ⟨x, rfl, hx⟩, h⟩ ?_
  rintro _ _ ⟨x, rfl, hx⟩ hm
  exact k x _ hx hm
set_option maxRecDepth 100000 in
set_option maxHeartbeats 4000000 in
theorem cw_X12_bears {p : Program} {l : Launch} {e : Env} {s : State} {m : MethodId} {args : Array Value} {below : List Frame} {meth : Method} {c : Code} {Q : State → Prop} {cc : ByteArray} {nL : Nat} {own : String} {D : va_G} {cy : Nat → ClassId} {G : Nat × Nat} {n0 pc : Nat} {L : List (Nat × PV)} {st : List PV} {M : Mm} {op : Instr} (K : CallOK l D cy room_1 own op 0 0 (spV 12 3 SP_X12_bears)) (C : Cx p s m args meth c cc nL own D cy G n0) (hd : decode cc pc = .ok (op, 3)) (hn : M.2.2.2 = 243) (h0 : n0 = 0) (hlen : argN st ≤ 8) {r : Option Nat} {o0 : Nat} (ho : isOn 12 M.2.2.2 r o0) {x1 : Int} {x2 : Int} {x3 : Int} {Q0 : Int → Mm → Prop} (h : P_X12_bears o0 x1 x2 x3 M Q0) (k : ∀ x M2, Q0 x M2 → M2.2.2.2 = 243 → WW p l e room_1 s m args below meth c Q nL D cy G n0  (pc + 3) L (vI x :: st) M2) : WW p l e room_1 s m args below meth c Q nL D cy G n0  pc L (vI x3 :: vI x2 :: vI x1 :: vR r :: st) M := by
  obtain ⟨rfl, ho1, ho2⟩ := ho
  refine x_callL K C hd (as := [vR (some o0), vI x1, vI x2, vI x3]) rfl hn h0 hlen (fun v M2 => ∃ x, v = some (vI x) ∧ Q0 x M2) ⟨⟨o0, [vI x1, vI x2, vI x3], rfl, rfl, ho1, ho2⟩, hn, o0, x1, x2, x3, rfl, (hn) ▸ ho1, ho2, Q0, fun x M2 hx => ⟨x, rfl, hx⟩, h⟩ ?_
  rintro _ _ ⟨x, rfl, hx⟩ hm
  exact k x _ hx hm
set_option maxRecDepth 100000 in
set_option maxHeartbeats 4000000 in
theorem cw_X11_press {p : Program} {l : Launch} {e : Env} {s : State} {m : MethodId} {args : Array Value} {below : List Frame} {meth : Method} {c : Code} {Q : State → Prop} {cc : ByteArray} {nL : Nat} {own : String} {D : va_G} {cy : Nat → ClassId} {G : Nat × Nat} {n0 pc : Nat} {L : List (Nat × PV)} {st : List PV} {M : Mm} {op : Instr} (K : CallOK l D cy room_1 own op 0 0 (spV 11 3 SP_X11_press)) (C : Cx p s m args meth c cc nL own D cy G n0) (hd : decode cc pc = .ok (op, 3)) (hn : M.2.2.2 = 243) (h0 : n0 = 0) (hlen : argN st ≤ 8) {r : Option Nat} {o0 : Nat} (ho : isOn 11 M.2.2.2 r o0) {x1 : Int} {x2 : Int} {x3 : Int} {Q0 : Int → Mm → Prop} (h : P_X11_press o0 x1 x2 x3 M Q0) (k : ∀ x M2, Q0 x M2 → M2.2.2.2 = 243 → WW p l e room_1 s m args below meth c Q nL D cy G n0  (pc + 3) L (vI x :: st) M2) : WW p l e room_1 s m args below meth c Q nL D cy G n0  pc L (vI x3 :: vI x2 :: vI x1 :: vR r :: st) M := by
  obtain ⟨rfl, ho1, ho2⟩ := ho
  refine x_callL K C hd (as := [vR (some o0), vI x1, vI x2, vI x3]) rfl hn h0 hlen (fun v M2 => ∃ x, v = some (vI x) ∧ Q0 x M2) ⟨⟨o0, [vI x1, vI x2, vI x3], rfl, rfl, ho1, ho2⟩, hn, o0, x1, x2, x3, rfl, (hn) ▸ ho1, ho2, Q0, fun x M2 hx => ⟨x, rfl, hx⟩, h⟩ ?_
  rintro _ _ ⟨x, rfl, hx⟩ hm
  exact k x _ hx hm
set_option maxRecDepth 100000 in
set_option maxHeartbeats 4000000 in
theorem cw_X12_press {p : Program} {l : Launch} {e : Env} {s : State} {m : MethodId} {args : Array Value} {below : List Frame} {meth : Method} {c : Code} {Q : State → Prop} {cc : ByteArray} {nL : Nat} {own : String} {D : va_G} {cy : Nat → ClassId} {G : Nat × Nat} {n0 pc : Nat} {L : List (Nat × PV)} {st : List PV} {M : Mm} {op : Instr} (K : CallOK l D cy room_1 own op 0 0 (spV 12 3 SP_X12_press)) (C : Cx p s m args meth c cc nL own D cy G n0) (hd : decode cc pc = .ok (op, 3)) (hn : M.2.2.2 = 243) (h0 : n0 = 0) (hlen : argN st ≤ 8) {r : Option Nat} {o0 : Nat} (ho : isOn 12 M.2.2.2 r o0) {x1 : Int} {x2 : Int} {x3 : Int} {Q0 : Int → Mm → Prop} (h : P_X12_press o0 x1 x2 x3 M Q0) (k : ∀ x M2, Q0 x M2 → M2.2.2.2 = 243 → WW p l e room_1 s m args below meth c Q nL D cy G n0  (pc + 3) L (vI x :: st) M2) : WW p l e room_1 s m args below meth c Q nL D cy G n0  pc L (vI x3 :: vI x2 :: vI x1 :: vR r :: st) M := by
  obtain ⟨rfl, ho1, ho2⟩ := ho
  refine x_callL K C hd (as := [vR (some o0), vI x1, vI x2, vI x3]) rfl hn h0 hlen (fun v M2 => ∃ x, v = some (vI x) ∧ Q0 x M2) ⟨⟨o0, [vI x1, vI x2, vI x3], rfl, rfl, ho1, ho2⟩, hn, o0, x1, x2, x3, rfl, (hn) ▸ ho1, ho2, Q0, fun x M2 hx => ⟨x, rfl, hx⟩, h⟩ ?_
  rintro _ _ ⟨x, rfl, hx⟩ hm
  exact k x _ hx hm
set_option maxRecDepth 100000 in
set_option maxHeartbeats 4000000 in
theorem cw_X11_slack {p : Program} {l : Launch} {e : Env} {s : State} {m : MethodId} {args : Array Value} {below : List Frame} {meth : Method} {c : Code} {Q : State → Prop} {cc : ByteArray} {nL : Nat} {own : String} {D : va_G} {cy : Nat → ClassId} {G : Nat × Nat} {n0 pc : Nat} {L : List (Nat × PV)} {st : List PV} {M : Mm} {op : Instr} (K : CallOK l D cy room_1 own op 0 0 (spV 11 1 SP_X11_slack)) (C : Cx p s m args meth c cc nL own D cy G n0) (hd : decode cc pc = .ok (op, 3)) (hn : M.2.2.2 = 243) (h0 : n0 = 0) (hlen : argN st ≤ 8) {r : Option Nat} {o0 : Nat} (ho : isOn 11 M.2.2.2 r o0) {x1 : Int} {Q0 : Int → Mm → Prop} (h : P_X11_slack o0 x1 M Q0) (k : ∀ x M2, Q0 x M2 → M2.2.2.2 = 243 → WW p l e room_1 s m args below meth c Q nL D cy G n0  (pc + 3) L (vI x :: st) M2) : WW p l e room_1 s m args below meth c Q nL D cy G n0  pc L (vI x1 :: vR r :: st) M := by
  obtain ⟨rfl, ho1, ho2⟩ := ho
  refine x_callL K C hd (as := [vR (some o0), vI x1]) rfl hn h0 hlen (fun v M2 => ∃ x, v = some (vI x) ∧ Q0 x M2) ⟨⟨o0, [vI x1], rfl, rfl, ho1, ho2⟩, hn, o0, x1, rfl, (hn) ▸ ho1, ho2, Q0, fun x M2 hx => ⟨x, rfl, hx⟩, h⟩ ?_
  rintro _ _ ⟨x, rfl, hx⟩ hm
  exact k x _ hx hm
set_option maxRecDepth 100000 in
set_option maxHeartbeats 4000000 in
theorem cw_X12_slack {p : Program} {l : Launch} {e : Env} {s : State} {m : MethodId} {args : Array Value} {below : List Frame} {meth : Method} {c : Code} {Q : State → Prop} {cc : ByteArray} {nL : Nat} {own : String} {D : va_G} {cy : Nat → ClassId} {G : Nat × Nat} {n0 pc : Nat} {L : List (Nat × PV)} {st : List PV} {M : Mm} {op : Instr} (K : CallOK l D cy room_1 own op 0 0 (spV 12 1 SP_X12_slack)) (C : Cx p s m args meth c cc nL own D cy G n0) (hd : decode cc pc = .ok (op, 3)) (hn : M.2.2.2 = 243) (h0 : n0 = 0) (hlen : argN st ≤ 8) {r : Option Nat} {o0 : Nat} (ho : isOn 12 M.2.2.2 r o0) {x1 : Int} {Q0 : Int → Mm → Prop} (h : P_X12_slack o0 x1 M Q0) (k : ∀ x M2, Q0 x M2 → M2.2.2.2 = 243 → WW p l e room_1 s m args below meth c Q nL D cy G n0  (pc + 3) L (vI x :: st) M2) : WW p l e room_1 s m args below meth c Q nL D cy G n0  pc L (vI x1 :: vR r :: st) M := by
  obtain ⟨rfl, ho1, ho2⟩ := ho
  refine x_callL K C hd (as := [vR (some o0), vI x1]) rfl hn h0 hlen (fun v M2 => ∃ x, v = some (vI x) ∧ Q0 x M2) ⟨⟨o0, [vI x1], rfl, rfl, ho1, ho2⟩, hn, o0, x1, rfl, (hn) ▸ ho1, ho2, Q0, fun x M2 hx => ⟨x, rfl, hx⟩, h⟩ ?_
  rintro _ _ ⟨x, rfl, hx⟩ hm
  exact k x _ hx hm
set_option maxRecDepth 100000 in
set_option maxHeartbeats 4000000 in
theorem cw_X11_fits {p : Program} {l : Launch} {e : Env} {s : State} {m : MethodId} {args : Array Value} {below : List Frame} {meth : Method} {c : Code} {Q : State → Prop} {cc : ByteArray} {nL : Nat} {own : String} {D : va_G} {cy : Nat → ClassId} {G : Nat × Nat} {n0 pc : Nat} {L : List (Nat × PV)} {st : List PV} {M : Mm} {op : Instr} (K : CallOK l D cy room_1 own op 0 0 (spV 11 4 SP_X11_fits)) (C : Cx p s m args meth c cc nL own D cy G n0) (hd : decode cc pc = .ok (op, 3)) (hn : M.2.2.2 = 243) (h0 : n0 = 0) (hlen : argN st ≤ 8) {r : Option Nat} {o0 : Nat} (ho : isOn 11 M.2.2.2 r o0) {x1 : Int} {x2 : Int} {x3 : Int} {x4 : Int} {Q0 : Int → Prop} (h : P_X11_fits o0 x1 x2 x3 x4 M Q0) (k : ∀ x, Q0 x → WW p l e room_1 s m args below meth c Q nL D cy G n0  (pc + 3) L (vI x :: st) M) : WW p l e room_1 s m args below meth c Q nL D cy G n0  pc L (vI x4 :: vI x3 :: vI x2 :: vI x1 :: vR r :: st) M := by
  obtain ⟨rfl, ho1, ho2⟩ := ho
  refine x_callL K C hd (as := [vR (some o0), vI x1, vI x2, vI x3, vI x4]) rfl hn h0 hlen (fun v M2 => ∃ x, v = some (vI x) ∧ M2 = M ∧ Q0 x) ⟨⟨o0, [vI x1, vI x2, vI x3, vI x4], rfl, rfl, ho1, ho2⟩, hn, o0, x1, x2, x3, x4, rfl, (hn) ▸ ho1, ho2, Q0, fun x hx => ⟨x, rfl, rfl, hx⟩, h⟩ ?_
  rintro _ _ ⟨x, rfl, rfl, hx⟩ hm
  exact k x hx
set_option maxRecDepth 100000 in
set_option maxHeartbeats 4000000 in
theorem cw_X12_fits {p : Program} {l : Launch} {e : Env} {s : State} {m : MethodId} {args : Array Value} {below : List Frame} {meth : Method} {c : Code} {Q : State → Prop} {cc : ByteArray} {nL : Nat} {own : String} {D : va_G} {cy : Nat → ClassId} {G : Nat × Nat} {n0 pc : Nat} {L : List (Nat × PV)} {st : List PV} {M : Mm} {op : Instr} (K : CallOK l D cy room_1 own op 0 0 (spV 12 4 SP_X12_fits)) (C : Cx p s m args meth c cc nL own D cy G n0) (hd : decode cc pc = .ok (op, 3)) (hn : M.2.2.2 = 243) (h0 : n0 = 0) (hlen : argN st ≤ 8) {r : Option Nat} {o0 : Nat} (ho : isOn 12 M.2.2.2 r o0) {x1 : Int} {x2 : Int} {x3 : Int} {x4 : Int} {Q0 : Int → Prop} (h : P_X12_fits o0 x1 x2 x3 x4 M Q0) (k : ∀ x, Q0 x → WW p l e room_1 s m args below meth c Q nL D cy G n0  (pc + 3) L (vI x :: st) M) : WW p l e room_1 s m args below meth c Q nL D cy G n0  pc L (vI x4 :: vI x3 :: vI x2 :: vI x1 :: vR r :: st) M := by
  obtain ⟨rfl, ho1, ho2⟩ := ho
  refine x_callL K C hd (as := [vR (some o0), vI x1, vI x2, vI x3, vI x4]) rfl hn h0 hlen (fun v M2 => ∃ x, v = some (vI x) ∧ M2 = M ∧ Q0 x) ⟨⟨o0, [vI x1, vI x2, vI x3, vI x4], rfl, rfl, ho1, ho2⟩, hn, o0, x1, x2, x3, x4, rfl, (hn) ▸ ho1, ho2, Q0, fun x hx => ⟨x, rfl, rfl, hx⟩, h⟩ ?_
  rintro _ _ ⟨x, rfl, rfl, hx⟩ hm
  exact k x hx
set_option maxRecDepth 100000 in
set_option maxHeartbeats 4000000 in
theorem cw_X11_share {p : Program} {l : Launch} {e : Env} {s : State} {m : MethodId} {args : Array Value} {below : List Frame} {meth : Method} {c : Code} {Q : State → Prop} {cc : ByteArray} {nL : Nat} {own : String} {D : va_G} {cy : Nat → ClassId} {G : Nat × Nat} {n0 pc : Nat} {L : List (Nat × PV)} {st : List PV} {M : Mm} {op : Instr} (K : CallOK l D cy room_1 own op 0 0 (spV 11 2 SP_X11_share)) (C : Cx p s m args meth c cc nL own D cy G n0) (hd : decode cc pc = .ok (op, 3)) (hn : M.2.2.2 = 243) (h0 : n0 = 0) (hlen : argN st ≤ 8) {r : Option Nat} {o0 : Nat} (ho : isOn 11 M.2.2.2 r o0) {x1 : Int} {x2 : Int} {Q0 : Int → Mm → Prop} (h : P_X11_share o0 x1 x2 M Q0) (k : ∀ x M2, Q0 x M2 → M2.2.2.2 = 243 → WW p l e room_1 s m args below meth c Q nL D cy G n0  (pc + 3) L (vI x :: st) M2) : WW p l e room_1 s m args below meth c Q nL D cy G n0  pc L (vI x2 :: vI x1 :: vR r :: st) M := by
  obtain ⟨rfl, ho1, ho2⟩ := ho
  refine x_callL K C hd (as := [vR (some o0), vI x1, vI x2]) rfl hn h0 hlen (fun v M2 => ∃ x, v = some (vI x) ∧ Q0 x M2) ⟨⟨o0, [vI x1, vI x2], rfl, rfl, ho1, ho2⟩, hn, o0, x1, x2, rfl, (hn) ▸ ho1, ho2, Q0, fun x M2 hx => ⟨x, rfl, hx⟩, h⟩ ?_
  rintro _ _ ⟨x, rfl, hx⟩ hm
  exact k x _ hx hm
set_option maxRecDepth 100000 in
set_option maxHeartbeats 4000000 in
theorem cw_X12_share {p : Program} {l : Launch} {e : Env} {s : State} {m : MethodId} {args : Array Value} {below : List Frame} {meth : Method} {c : Code} {Q : State → Prop} {cc : ByteArray} {nL : Nat} {own : String} {D : va_G} {cy : Nat → ClassId} {G : Nat × Nat} {n0 pc : Nat} {L : List (Nat × PV)} {st : List PV} {M : Mm} {op : Instr} (K : CallOK l D cy room_1 own op 0 0 (spV 12 2 SP_X12_share)) (C : Cx p s m args meth c cc nL own D cy G n0) (hd : decode cc pc = .ok (op, 3)) (hn : M.2.2.2 = 243) (h0 : n0 = 0) (hlen : argN st ≤ 8) {r : Option Nat} {o0 : Nat} (ho : isOn 12 M.2.2.2 r o0) {x1 : Int} {x2 : Int} {Q0 : Int → Mm → Prop} (h : P_X12_share o0 x1 x2 M Q0) (k : ∀ x M2, Q0 x M2 → M2.2.2.2 = 243 → WW p l e room_1 s m args below meth c Q nL D cy G n0  (pc + 3) L (vI x :: st) M2) : WW p l e room_1 s m args below meth c Q nL D cy G n0  pc L (vI x2 :: vI x1 :: vR r :: st) M := by
  obtain ⟨rfl, ho1, ho2⟩ := ho
  refine x_callL K C hd (as := [vR (some o0), vI x1, vI x2]) rfl hn h0 hlen (fun v M2 => ∃ x, v = some (vI x) ∧ Q0 x M2) ⟨⟨o0, [vI x1, vI x2], rfl, rfl, ho1, ho2⟩, hn, o0, x1, x2, rfl, (hn) ▸ ho1, ho2, Q0, fun x M2 hx => ⟨x, rfl, hx⟩, h⟩ ?_
  rintro _ _ ⟨x, rfl, hx⟩ hm
  exact k x _ hx hm
set_option maxRecDepth 100000 in
set_option maxHeartbeats 4000000 in
theorem cw_X11_setting {p : Program} {l : Launch} {e : Env} {s : State} {m : MethodId} {args : Array Value} {below : List Frame} {meth : Method} {c : Code} {Q : State → Prop} {cc : ByteArray} {nL : Nat} {own : String} {D : va_G} {cy : Nat → ClassId} {G : Nat × Nat} {n0 pc : Nat} {L : List (Nat × PV)} {st : List PV} {M : Mm} {op : Instr} (K : CallOK l D cy room_1 own op 0 0 (spV 11 2 SP_X11_setting)) (C : Cx p s m args meth c cc nL own D cy G n0) (hd : decode cc pc = .ok (op, 3)) (hn : M.2.2.2 = 243) (h0 : n0 = 0) (hlen : argN st ≤ 8) {r : Option Nat} {o0 : Nat} (ho : isOn 11 M.2.2.2 r o0) {x1 : Int} {x2 : Int} {Q0 : Int → Prop} (h : P_X11_setting o0 x1 x2 M Q0) (k : ∀ x, Q0 x → WW p l e room_1 s m args below meth c Q nL D cy G n0  (pc + 3) L (vI x :: st) M) : WW p l e room_1 s m args below meth c Q nL D cy G n0  pc L (vI x2 :: vI x1 :: vR r :: st) M := by
  obtain ⟨rfl, ho1, ho2⟩ := ho
  refine x_callL K C hd (as := [vR (some o0), vI x1, vI x2]) rfl hn h0 hlen (fun v M2 => ∃ x, v = some (vI x) ∧ M2 = M ∧ Q0 x) ⟨⟨o0, [vI x1, vI x2], rfl, rfl, ho1, ho2⟩, hn, o0, x1, x2, rfl, (hn) ▸ ho1, ho2, Q0, fun x hx => ⟨x, rfl, rfl, hx⟩, h⟩ ?_
  rintro _ _ ⟨x, rfl, rfl, hx⟩ hm
  exact k x hx
set_option maxRecDepth 100000 in
set_option maxHeartbeats 4000000 in
theorem cw_X12_setting {p : Program} {l : Launch} {e : Env} {s : State} {m : MethodId} {args : Array Value} {below : List Frame} {meth : Method} {c : Code} {Q : State → Prop} {cc : ByteArray} {nL : Nat} {own : String} {D : va_G} {cy : Nat → ClassId} {G : Nat × Nat} {n0 pc : Nat} {L : List (Nat × PV)} {st : List PV} {M : Mm} {op : Instr} (K : CallOK l D cy room_1 own op 0 0 (spV 12 2 SP_X12_setting)) (C : Cx p s m args meth c cc nL own D cy G n0) (hd : decode cc pc = .ok (op, 3)) (hn : M.2.2.2 = 243) (h0 : n0 = 0) (hlen : argN st ≤ 8) {r : Option Nat} {o0 : Nat} (ho : isOn 12 M.2.2.2 r o0) {x1 : Int} {x2 : Int} {Q0 : Int → Prop} (h : P_X12_setting o0 x1 x2 M Q0) (k : ∀ x, Q0 x → WW p l e room_1 s m args below meth c Q nL D cy G n0  (pc + 3) L (vI x :: st) M) : WW p l e room_1 s m args below meth c Q nL D cy G n0  pc L (vI x2 :: vI x1 :: vR r :: st) M := by
  obtain ⟨rfl, ho1, ho2⟩ := ho
  refine x_callL K C hd (as := [vR (some o0), vI x1, vI x2]) rfl hn h0 hlen (fun v M2 => ∃ x, v = some (vI x) ∧ M2 = M ∧ Q0 x) ⟨⟨o0, [vI x1, vI x2], rfl, rfl, ho1, ho2⟩, hn, o0, x1, x2, rfl, (hn) ▸ ho1, ho2, Q0, fun x hx => ⟨x, rfl, rfl, hx⟩, h⟩ ?_
  rintro _ _ ⟨x, rfl, rfl, hx⟩ hm
  exact k x hx
set_option maxRecDepth 100000 in
set_option maxHeartbeats 4000000 in
theorem cw_X11_fewest {p : Program} {l : Launch} {e : Env} {s : State} {m : MethodId} {args : Array Value} {below : List Frame} {meth : Method} {c : Code} {Q : State → Prop} {cc : ByteArray} {nL : Nat} {own : String} {D : va_G} {cy : Nat → ClassId} {G : Nat × Nat} {n0 pc : Nat} {L : List (Nat × PV)} {st : List PV} {M : Mm} {op : Instr} (K : CallOK l D cy room_1 own op 0 0 (spV 11 1 SP_X11_fewest)) (C : Cx p s m args meth c cc nL own D cy G n0) (hd : decode cc pc = .ok (op, 3)) (hn : M.2.2.2 = 243) (h0 : n0 = 0) (hlen : argN st ≤ 8) {r : Option Nat} {o0 : Nat} (ho : isOn 11 M.2.2.2 r o0) {x1 : Int} {Q0 : Int → Mm → Prop} (h : P_X11_fewest o0 x1 M Q0) (k : ∀ x M2, Q0 x M2 → M2.2.2.2 = 243 → WW p l e room_1 s m args below meth c Q nL D cy G n0  (pc + 3) L (vI x :: st) M2) : WW p l e room_1 s m args below meth c Q nL D cy G n0  pc L (vI x1 :: vR r :: st) M := by
  obtain ⟨rfl, ho1, ho2⟩ := ho
  refine x_callL K C hd (as := [vR (some o0), vI x1]) rfl hn h0 hlen (fun v M2 => ∃ x, v = some (vI x) ∧ Q0 x M2) ⟨⟨o0, [vI x1], rfl, rfl, ho1, ho2⟩, hn, o0, x1, rfl, (hn) ▸ ho1, ho2, Q0, fun x M2 hx => ⟨x, rfl, hx⟩, h⟩ ?_
  rintro _ _ ⟨x, rfl, hx⟩ hm
  exact k x _ hx hm
set_option maxRecDepth 100000 in
set_option maxHeartbeats 4000000 in
theorem cw_X12_fewest {p : Program} {l : Launch} {e : Env} {s : State} {m : MethodId} {args : Array Value} {below : List Frame} {meth : Method} {c : Code} {Q : State → Prop} {cc : ByteArray} {nL : Nat} {own : String} {D : va_G} {cy : Nat → ClassId} {G : Nat × Nat} {n0 pc : Nat} {L : List (Nat × PV)} {st : List PV} {M : Mm} {op : Instr} (K : CallOK l D cy room_1 own op 0 0 (spV 12 1 SP_X12_fewest)) (C : Cx p s m args meth c cc nL own D cy G n0) (hd : decode cc pc = .ok (op, 3)) (hn : M.2.2.2 = 243) (h0 : n0 = 0) (hlen : argN st ≤ 8) {r : Option Nat} {o0 : Nat} (ho : isOn 12 M.2.2.2 r o0) {x1 : Int} {Q0 : Int → Mm → Prop} (h : P_X12_fewest o0 x1 M Q0) (k : ∀ x M2, Q0 x M2 → M2.2.2.2 = 243 → WW p l e room_1 s m args below meth c Q nL D cy G n0  (pc + 3) L (vI x :: st) M2) : WW p l e room_1 s m args below meth c Q nL D cy G n0  pc L (vI x1 :: vR r :: st) M := by
  obtain ⟨rfl, ho1, ho2⟩ := ho
  refine x_callL K C hd (as := [vR (some o0), vI x1]) rfl hn h0 hlen (fun v M2 => ∃ x, v = some (vI x) ∧ Q0 x M2) ⟨⟨o0, [vI x1], rfl, rfl, ho1, ho2⟩, hn, o0, x1, rfl, (hn) ▸ ho1, ho2, Q0, fun x M2 hx => ⟨x, rfl, hx⟩, h⟩ ?_
  rintro _ _ ⟨x, rfl, hx⟩ hm
  exact k x _ hx hm
set_option maxRecDepth 100000 in
set_option maxHeartbeats 4000000 in
theorem cw_X11_law {p : Program} {l : Launch} {e : Env} {s : State} {m : MethodId} {args : Array Value} {below : List Frame} {meth : Method} {c : Code} {Q : State → Prop} {cc : ByteArray} {nL : Nat} {own : String} {D : va_G} {cy : Nat → ClassId} {G : Nat × Nat} {n0 pc : Nat} {L : List (Nat × PV)} {st : List PV} {M : Mm} {op : Instr} (K : CallOK l D cy room_1 own op 0 0 (spV 11 2 SP_X11_law)) (C : Cx p s m args meth c cc nL own D cy G n0) (hd : decode cc pc = .ok (op, 3)) (hn : M.2.2.2 = 243) (h0 : n0 = 0) (hlen : argN st ≤ 8) {r : Option Nat} {o0 : Nat} (ho : isOn 11 M.2.2.2 r o0) {x1 : Int} {x2 : Int} {Q0 : Int → Mm → Prop} (h : P_X11_law o0 x1 x2 M Q0) (k : ∀ x M2, Q0 x M2 → M2.2.2.2 = 243 → WW p l e room_1 s m args below meth c Q nL D cy G n0  (pc + 3) L (vI x :: st) M2) : WW p l e room_1 s m args below meth c Q nL D cy G n0  pc L (vI x2 :: vI x1 :: vR r :: st) M := by
  obtain ⟨rfl, ho1, ho2⟩ := ho
  refine x_callL K C hd (as := [vR (some o0), vI x1, vI x2]) rfl hn h0 hlen (fun v M2 => ∃ x, v = some (vI x) ∧ Q0 x M2) ⟨⟨o0, [vI x1, vI x2], rfl, rfl, ho1, ho2⟩, hn, o0, x1, x2, rfl, (hn) ▸ ho1, ho2, Q0, fun x M2 hx => ⟨x, rfl, hx⟩, h⟩ ?_
  rintro _ _ ⟨x, rfl, hx⟩ hm
  exact k x _ hx hm
set_option maxRecDepth 100000 in
set_option maxHeartbeats 4000000 in
theorem cw_X12_law {p : Program} {l : Launch} {e : Env} {s : State} {m : MethodId} {args : Array Value} {below : List Frame} {meth : Method} {c : Code} {Q : State → Prop} {cc : ByteArray} {nL : Nat} {own : String} {D : va_G} {cy : Nat → ClassId} {G : Nat × Nat} {n0 pc : Nat} {L : List (Nat × PV)} {st : List PV} {M : Mm} {op : Instr} (K : CallOK l D cy room_1 own op 0 0 (spV 12 2 SP_X12_law)) (C : Cx p s m args meth c cc nL own D cy G n0) (hd : decode cc pc = .ok (op, 3)) (hn : M.2.2.2 = 243) (h0 : n0 = 0) (hlen : argN st ≤ 8) {r : Option Nat} {o0 : Nat} (ho : isOn 12 M.2.2.2 r o0) {x1 : Int} {x2 : Int} {Q0 : Int → Mm → Prop} (h : P_X12_law o0 x1 x2 M Q0) (k : ∀ x M2, Q0 x M2 → M2.2.2.2 = 243 → WW p l e room_1 s m args below meth c Q nL D cy G n0  (pc + 3) L (vI x :: st) M2) : WW p l e room_1 s m args below meth c Q nL D cy G n0  pc L (vI x2 :: vI x1 :: vR r :: st) M := by
  obtain ⟨rfl, ho1, ho2⟩ := ho
  refine x_callL K C hd (as := [vR (some o0), vI x1, vI x2]) rfl hn h0 hlen (fun v M2 => ∃ x, v = some (vI x) ∧ Q0 x M2) ⟨⟨o0, [vI x1, vI x2], rfl, rfl, ho1, ho2⟩, hn, o0, x1, x2, rfl, (hn) ▸ ho1, ho2, Q0, fun x M2 hx => ⟨x, rfl, hx⟩, h⟩ ?_
  rintro _ _ ⟨x, rfl, hx⟩ hm
  exact k x _ hx hm
set_option maxRecDepth 100000 in
set_option maxHeartbeats 4000000 in
theorem cw_X11_hours {p : Program} {l : Launch} {e : Env} {s : State} {m : MethodId} {args : Array Value} {below : List Frame} {meth : Method} {c : Code} {Q : State → Prop} {cc : ByteArray} {nL : Nat} {own : String} {D : va_G} {cy : Nat → ClassId} {G : Nat × Nat} {n0 pc : Nat} {L : List (Nat × PV)} {st : List PV} {M : Mm} {op : Instr} (K : CallOK l D cy room_1 own op 0 0 (spV 11 3 SP_X11_hours)) (C : Cx p s m args meth c cc nL own D cy G n0) (hd : decode cc pc = .ok (op, 3)) (hn : M.2.2.2 = 243) (h0 : n0 = 0) (hlen : argN st ≤ 8) {r : Option Nat} {o0 : Nat} (ho : isOn 11 M.2.2.2 r o0) {x1 : Int} {x2 : Int} {x3 : Int} {Q0 : Int → Mm → Prop} (h : P_X11_hours o0 x1 x2 x3 M Q0) (k : ∀ x M2, Q0 x M2 → M2.2.2.2 = 243 → WW p l e room_1 s m args below meth c Q nL D cy G n0  (pc + 3) L (vI x :: st) M2) : WW p l e room_1 s m args below meth c Q nL D cy G n0  pc L (vI x3 :: vI x2 :: vI x1 :: vR r :: st) M := by
  obtain ⟨rfl, ho1, ho2⟩ := ho
  refine x_callL K C hd (as := [vR (some o0), vI x1, vI x2, vI x3]) rfl hn h0 hlen (fun v M2 => ∃ x, v = some (vI x) ∧ Q0 x M2) ⟨⟨o0, [vI x1, vI x2, vI x3], rfl, rfl, ho1, ho2⟩, hn, o0, x1, x2, x3, rfl, (hn) ▸ ho1, ho2, Q0, fun x M2 hx => ⟨x, rfl, hx⟩, h⟩ ?_
  rintro _ _ ⟨x, rfl, hx⟩ hm
  exact k x _ hx hm
set_option maxRecDepth 100000 in
set_option maxHeartbeats 4000000 in
theorem cw_X12_hours {p : Program} {l : Launch} {e : Env} {s : State} {m : MethodId} {args : Array Value} {below : List Frame} {meth : Method} {c : Code} {Q : State → Prop} {cc : ByteArray} {nL : Nat} {own : String} {D : va_G} {cy : Nat → ClassId} {G : Nat × Nat} {n0 pc : Nat} {L : List (Nat × PV)} {st : List PV} {M : Mm} {op : Instr} (K : CallOK l D cy room_1 own op 0 0 (spV 12 3 SP_X12_hours)) (C : Cx p s m args meth c cc nL own D cy G n0) (hd : decode cc pc = .ok (op, 3)) (hn : M.2.2.2 = 243) (h0 : n0 = 0) (hlen : argN st ≤ 8) {r : Option Nat} {o0 : Nat} (ho : isOn 12 M.2.2.2 r o0) {x1 : Int} {x2 : Int} {x3 : Int} {Q0 : Int → Mm → Prop} (h : P_X12_hours o0 x1 x2 x3 M Q0) (k : ∀ x M2, Q0 x M2 → M2.2.2.2 = 243 → WW p l e room_1 s m args below meth c Q nL D cy G n0  (pc + 3) L (vI x :: st) M2) : WW p l e room_1 s m args below meth c Q nL D cy G n0  pc L (vI x3 :: vI x2 :: vI x1 :: vR r :: st) M := by
  obtain ⟨rfl, ho1, ho2⟩ := ho
  refine x_callL K C hd (as := [vR (some o0), vI x1, vI x2, vI x3]) rfl hn h0 hlen (fun v M2 => ∃ x, v = some (vI x) ∧ Q0 x M2) ⟨⟨o0, [vI x1, vI x2, vI x3], rfl, rfl, ho1, ho2⟩, hn, o0, x1, x2, x3, rfl, (hn) ▸ ho1, ho2, Q0, fun x M2 hx => ⟨x, rfl, hx⟩, h⟩ ?_
  rintro _ _ ⟨x, rfl, hx⟩ hm
  exact k x _ hx hm
set_option maxRecDepth 100000 in
set_option maxHeartbeats 4000000 in
theorem cw_X11_stops {p : Program} {l : Launch} {e : Env} {s : State} {m : MethodId} {args : Array Value} {below : List Frame} {meth : Method} {c : Code} {Q : State → Prop} {cc : ByteArray} {nL : Nat} {own : String} {D : va_G} {cy : Nat → ClassId} {G : Nat × Nat} {n0 pc : Nat} {L : List (Nat × PV)} {st : List PV} {M : Mm} {op : Instr} (K : CallOK l D cy room_1 own op 0 0 (spV 11 5 SP_X11_stops)) (C : Cx p s m args meth c cc nL own D cy G n0) (hd : decode cc pc = .ok (op, 3)) (hn : M.2.2.2 = 243) (h0 : n0 = 0) (hlen : argN st ≤ 8) {r : Option Nat} {o0 : Nat} (ho : isOn 11 M.2.2.2 r o0) {x1 : Int} {x2 : Int} {x3 : Int} {x4 : Int} {x5 : Int} {Q0 : Int → Mm → Prop} (h : P_X11_stops o0 x1 x2 x3 x4 x5 M Q0) (k : ∀ x M2, Q0 x M2 → M2.2.2.2 = 243 → WW p l e room_1 s m args below meth c Q nL D cy G n0  (pc + 3) L (vI x :: st) M2) : WW p l e room_1 s m args below meth c Q nL D cy G n0  pc L (vI x5 :: vI x4 :: vI x3 :: vI x2 :: vI x1 :: vR r :: st) M := by
  obtain ⟨rfl, ho1, ho2⟩ := ho
  refine x_callL K C hd (as := [vR (some o0), vI x1, vI x2, vI x3, vI x4, vI x5]) rfl hn h0 hlen (fun v M2 => ∃ x, v = some (vI x) ∧ Q0 x M2) ⟨⟨o0, [vI x1, vI x2, vI x3, vI x4, vI x5], rfl, rfl, ho1, ho2⟩, hn, o0, x1, x2, x3, x4, x5, rfl, (hn) ▸ ho1, ho2, Q0, fun x M2 hx => ⟨x, rfl, hx⟩, h⟩ ?_
  rintro _ _ ⟨x, rfl, hx⟩ hm
  exact k x _ hx hm
set_option maxRecDepth 100000 in
set_option maxHeartbeats 4000000 in
theorem cw_X12_stops {p : Program} {l : Launch} {e : Env} {s : State} {m : MethodId} {args : Array Value} {below : List Frame} {meth : Method} {c : Code} {Q : State → Prop} {cc : ByteArray} {nL : Nat} {own : String} {D : va_G} {cy : Nat → ClassId} {G : Nat × Nat} {n0 pc : Nat} {L : List (Nat × PV)} {st : List PV} {M : Mm} {op : Instr} (K : CallOK l D cy room_1 own op 0 0 (spV 12 5 SP_X12_stops)) (C : Cx p s m args meth c cc nL own D cy G n0) (hd : decode cc pc = .ok (op, 3)) (hn : M.2.2.2 = 243) (h0 : n0 = 0) (hlen : argN st ≤ 8) {r : Option Nat} {o0 : Nat} (ho : isOn 12 M.2.2.2 r o0) {x1 : Int} {x2 : Int} {x3 : Int} {x4 : Int} {x5 : Int} {Q0 : Int → Mm → Prop} (h : P_X12_stops o0 x1 x2 x3 x4 x5 M Q0) (k : ∀ x M2, Q0 x M2 → M2.2.2.2 = 243 → WW p l e room_1 s m args below meth c Q nL D cy G n0  (pc + 3) L (vI x :: st) M2) : WW p l e room_1 s m args below meth c Q nL D cy G n0  pc L (vI x5 :: vI x4 :: vI x3 :: vI x2 :: vI x1 :: vR r :: st) M := by
  obtain ⟨rfl, ho1, ho2⟩ := ho
  refine x_callL K C hd (as := [vR (some o0), vI x1, vI x2, vI x3, vI x4, vI x5]) rfl hn h0 hlen (fun v M2 => ∃ x, v = some (vI x) ∧ Q0 x M2) ⟨⟨o0, [vI x1, vI x2, vI x3, vI x4, vI x5], rfl, rfl, ho1, ho2⟩, hn, o0, x1, x2, x3, x4, x5, rfl, (hn) ▸ ho1, ho2, Q0, fun x M2 hx => ⟨x, rfl, hx⟩, h⟩ ?_
  rintro _ _ ⟨x, rfl, hx⟩ hm
  exact k x _ hx hm
set_option maxRecDepth 100000 in
set_option maxHeartbeats 4000000 in
theorem cw_X11_road {p : Program} {l : Launch} {e : Env} {s : State} {m : MethodId} {args : Array Value} {below : List Frame} {meth : Method} {c : Code} {Q : State → Prop} {cc : ByteArray} {nL : Nat} {own : String} {D : va_G} {cy : Nat → ClassId} {G : Nat × Nat} {n0 pc : Nat} {L : List (Nat × PV)} {st : List PV} {M : Mm} {op : Instr} (K : CallOK l D cy room_1 own op 0 0 (spV 11 3 SP_X11_road)) (C : Cx p s m args meth c cc nL own D cy G n0) (hd : decode cc pc = .ok (op, 3)) (hn : M.2.2.2 = 243) (h0 : n0 = 0) (hlen : argN st ≤ 8) {r : Option Nat} {o0 : Nat} (ho : isOn 11 M.2.2.2 r o0) {x1 : Int} {x2 : Int} {x3 : Int} {Q0 : Int → Mm → Prop} (h : P_X11_road o0 x1 x2 x3 M Q0) (k : ∀ x M2, Q0 x M2 → M2.2.2.2 = 243 → WW p l e room_1 s m args below meth c Q nL D cy G n0  (pc + 3) L (vI x :: st) M2) : WW p l e room_1 s m args below meth c Q nL D cy G n0  pc L (vI x3 :: vI x2 :: vI x1 :: vR r :: st) M := by
  obtain ⟨rfl, ho1, ho2⟩ := ho
  refine x_callL K C hd (as := [vR (some o0), vI x1, vI x2, vI x3]) rfl hn h0 hlen (fun v M2 => ∃ x, v = some (vI x) ∧ Q0 x M2) ⟨⟨o0, [vI x1, vI x2, vI x3], rfl, rfl, ho1, ho2⟩, hn, o0, x1, x2, x3, rfl, (hn) ▸ ho1, ho2, Q0, fun x M2 hx => ⟨x, rfl, hx⟩, h⟩ ?_
  rintro _ _ ⟨x, rfl, hx⟩ hm
  exact k x _ hx hm
set_option maxRecDepth 100000 in
set_option maxHeartbeats 4000000 in
theorem cw_X12_road {p : Program} {l : Launch} {e : Env} {s : State} {m : MethodId} {args : Array Value} {below : List Frame} {meth : Method} {c : Code} {Q : State → Prop} {cc : ByteArray} {nL : Nat} {own : String} {D : va_G} {cy : Nat → ClassId} {G : Nat × Nat} {n0 pc : Nat} {L : List (Nat × PV)} {st : List PV} {M : Mm} {op : Instr} (K : CallOK l D cy room_1 own op 0 0 (spV 12 3 SP_X12_road)) (C : Cx p s m args meth c cc nL own D cy G n0) (hd : decode cc pc = .ok (op, 3)) (hn : M.2.2.2 = 243) (h0 : n0 = 0) (hlen : argN st ≤ 8) {r : Option Nat} {o0 : Nat} (ho : isOn 12 M.2.2.2 r o0) {x1 : Int} {x2 : Int} {x3 : Int} {Q0 : Int → Mm → Prop} (h : P_X12_road o0 x1 x2 x3 M Q0) (k : ∀ x M2, Q0 x M2 → M2.2.2.2 = 243 → WW p l e room_1 s m args below meth c Q nL D cy G n0  (pc + 3) L (vI x :: st) M2) : WW p l e room_1 s m args below meth c Q nL D cy G n0  pc L (vI x3 :: vI x2 :: vI x1 :: vR r :: st) M := by
  obtain ⟨rfl, ho1, ho2⟩ := ho
  refine x_callL K C hd (as := [vR (some o0), vI x1, vI x2, vI x3]) rfl hn h0 hlen (fun v M2 => ∃ x, v = some (vI x) ∧ Q0 x M2) ⟨⟨o0, [vI x1, vI x2, vI x3], rfl, rfl, ho1, ho2⟩, hn, o0, x1, x2, x3, rfl, (hn) ▸ ho1, ho2, Q0, fun x M2 hx => ⟨x, rfl, hx⟩, h⟩ ?_
  rintro _ _ ⟨x, rfl, hx⟩ hm
  exact k x _ hx hm
set_option maxRecDepth 100000 in
set_option maxHeartbeats 4000000 in
theorem cw_X11_through {p : Program} {l : Launch} {e : Env} {s : State} {m : MethodId} {args : Array Value} {below : List Frame} {meth : Method} {c : Code} {Q : State → Prop} {cc : ByteArray} {nL : Nat} {own : String} {D : va_G} {cy : Nat → ClassId} {G : Nat × Nat} {n0 pc : Nat} {L : List (Nat × PV)} {st : List PV} {M : Mm} {op : Instr} (K : CallOK l D cy room_1 own op 0 0 (spV 11 4 SP_X11_through)) (C : Cx p s m args meth c cc nL own D cy G n0) (hd : decode cc pc = .ok (op, 3)) (hn : M.2.2.2 = 243) (h0 : n0 = 0) (hlen : argN st ≤ 8) {r : Option Nat} {o0 : Nat} (ho : isOn 11 M.2.2.2 r o0) {x1 : Int} {x2 : Int} {x3 : Int} {x4 : Int} {Q0 : Int → Mm → Prop} (h : P_X11_through o0 x1 x2 x3 x4 M Q0) (k : ∀ x M2, Q0 x M2 → M2.2.2.2 = 243 → WW p l e room_1 s m args below meth c Q nL D cy G n0  (pc + 3) L (vI x :: st) M2) : WW p l e room_1 s m args below meth c Q nL D cy G n0  pc L (vI x4 :: vI x3 :: vI x2 :: vI x1 :: vR r :: st) M := by
  obtain ⟨rfl, ho1, ho2⟩ := ho
  refine x_callL K C hd (as := [vR (some o0), vI x1, vI x2, vI x3, vI x4]) rfl hn h0 hlen (fun v M2 => ∃ x, v = some (vI x) ∧ Q0 x M2) ⟨⟨o0, [vI x1, vI x2, vI x3, vI x4], rfl, rfl, ho1, ho2⟩, hn, o0, x1, x2, x3, x4, rfl, (hn) ▸ ho1, ho2, Q0, fun x M2 hx => ⟨x, rfl, hx⟩, h⟩ ?_
  rintro _ _ ⟨x, rfl, hx⟩ hm
  exact k x _ hx hm
set_option maxRecDepth 100000 in
set_option maxHeartbeats 4000000 in
theorem cw_X12_through {p : Program} {l : Launch} {e : Env} {s : State} {m : MethodId} {args : Array Value} {below : List Frame} {meth : Method} {c : Code} {Q : State → Prop} {cc : ByteArray} {nL : Nat} {own : String} {D : va_G} {cy : Nat → ClassId} {G : Nat × Nat} {n0 pc : Nat} {L : List (Nat × PV)} {st : List PV} {M : Mm} {op : Instr} (K : CallOK l D cy room_1 own op 0 0 (spV 12 4 SP_X12_through)) (C : Cx p s m args meth c cc nL own D cy G n0) (hd : decode cc pc = .ok (op, 3)) (hn : M.2.2.2 = 243) (h0 : n0 = 0) (hlen : argN st ≤ 8) {r : Option Nat} {o0 : Nat} (ho : isOn 12 M.2.2.2 r o0) {x1 : Int} {x2 : Int} {x3 : Int} {x4 : Int} {Q0 : Int → Mm → Prop} (h : P_X12_through o0 x1 x2 x3 x4 M Q0) (k : ∀ x M2, Q0 x M2 → M2.2.2.2 = 243 → WW p l e room_1 s m args below meth c Q nL D cy G n0  (pc + 3) L (vI x :: st) M2) : WW p l e room_1 s m args below meth c Q nL D cy G n0  pc L (vI x4 :: vI x3 :: vI x2 :: vI x1 :: vR r :: st) M := by
  obtain ⟨rfl, ho1, ho2⟩ := ho
  refine x_callL K C hd (as := [vR (some o0), vI x1, vI x2, vI x3, vI x4]) rfl hn h0 hlen (fun v M2 => ∃ x, v = some (vI x) ∧ Q0 x M2) ⟨⟨o0, [vI x1, vI x2, vI x3, vI x4], rfl, rfl, ho1, ho2⟩, hn, o0, x1, x2, x3, x4, rfl, (hn) ▸ ho1, ho2, Q0, fun x M2 hx => ⟨x, rfl, hx⟩, h⟩ ?_
  rintro _ _ ⟨x, rfl, hx⟩ hm
  exact k x _ hx hm
set_option maxRecDepth 100000 in
set_option maxHeartbeats 4000000 in
theorem cw_X11_dose {p : Program} {l : Launch} {e : Env} {s : State} {m : MethodId} {args : Array Value} {below : List Frame} {meth : Method} {c : Code} {Q : State → Prop} {cc : ByteArray} {nL : Nat} {own : String} {D : va_G} {cy : Nat → ClassId} {G : Nat × Nat} {n0 pc : Nat} {L : List (Nat × PV)} {st : List PV} {M : Mm} {op : Instr} (K : CallOK l D cy room_1 own op 0 0 (spV 11 6 SP_X11_dose)) (C : Cx p s m args meth c cc nL own D cy G n0) (hd : decode cc pc = .ok (op, 3)) (hn : M.2.2.2 = 243) (h0 : n0 = 0) (hlen : argN st ≤ 8) {r : Option Nat} {o0 : Nat} (ho : isOn 11 M.2.2.2 r o0) {x1 : Int} {x2 : Int} {x3 : Int} {x4 : Int} {x5 : Int} {x6 : Int} {Q0 : Int → Mm → Prop} (h : P_X11_dose o0 x1 x2 x3 x4 x5 x6 M Q0) (k : ∀ x M2, Q0 x M2 → M2.2.2.2 = 243 → WW p l e room_1 s m args below meth c Q nL D cy G n0  (pc + 3) L (vL x :: st) M2) : WW p l e room_1 s m args below meth c Q nL D cy G n0  pc L (vI x6 :: vI x5 :: vI x4 :: vI x3 :: vI x2 :: vI x1 :: vR r :: st) M := by
  obtain ⟨rfl, ho1, ho2⟩ := ho
  refine x_callL K C hd (as := [vR (some o0), vI x1, vI x2, vI x3, vI x4, vI x5, vI x6]) rfl hn h0 hlen (fun v M2 => ∃ x, v = some (vL x) ∧ Q0 x M2) ⟨⟨o0, [vI x1, vI x2, vI x3, vI x4, vI x5, vI x6], rfl, rfl, ho1, ho2⟩, hn, o0, x1, x2, x3, x4, x5, x6, rfl, (hn) ▸ ho1, ho2, Q0, fun x M2 hx => ⟨x, rfl, hx⟩, h⟩ ?_
  rintro _ _ ⟨x, rfl, hx⟩ hm
  exact k x _ hx hm
set_option maxRecDepth 100000 in
set_option maxHeartbeats 4000000 in
theorem cw_X12_dose {p : Program} {l : Launch} {e : Env} {s : State} {m : MethodId} {args : Array Value} {below : List Frame} {meth : Method} {c : Code} {Q : State → Prop} {cc : ByteArray} {nL : Nat} {own : String} {D : va_G} {cy : Nat → ClassId} {G : Nat × Nat} {n0 pc : Nat} {L : List (Nat × PV)} {st : List PV} {M : Mm} {op : Instr} (K : CallOK l D cy room_1 own op 0 0 (spV 12 6 SP_X12_dose)) (C : Cx p s m args meth c cc nL own D cy G n0) (hd : decode cc pc = .ok (op, 3)) (hn : M.2.2.2 = 243) (h0 : n0 = 0) (hlen : argN st ≤ 8) {r : Option Nat} {o0 : Nat} (ho : isOn 12 M.2.2.2 r o0) {x1 : Int} {x2 : Int} {x3 : Int} {x4 : Int} {x5 : Int} {x6 : Int} {Q0 : Int → Mm → Prop} (h : P_X12_dose o0 x1 x2 x3 x4 x5 x6 M Q0) (k : ∀ x M2, Q0 x M2 → M2.2.2.2 = 243 → WW p l e room_1 s m args below meth c Q nL D cy G n0  (pc + 3) L (vL x :: st) M2) : WW p l e room_1 s m args below meth c Q nL D cy G n0  pc L (vI x6 :: vI x5 :: vI x4 :: vI x3 :: vI x2 :: vI x1 :: vR r :: st) M := by
  obtain ⟨rfl, ho1, ho2⟩ := ho
  refine x_callL K C hd (as := [vR (some o0), vI x1, vI x2, vI x3, vI x4, vI x5, vI x6]) rfl hn h0 hlen (fun v M2 => ∃ x, v = some (vL x) ∧ Q0 x M2) ⟨⟨o0, [vI x1, vI x2, vI x3, vI x4, vI x5, vI x6], rfl, rfl, ho1, ho2⟩, hn, o0, x1, x2, x3, x4, x5, x6, rfl, (hn) ▸ ho1, ho2, Q0, fun x M2 hx => ⟨x, rfl, hx⟩, h⟩ ?_
  rintro _ _ ⟨x, rfl, hx⟩ hm
  exact k x _ hx hm
set_option maxRecDepth 100000 in
set_option maxHeartbeats 4000000 in
theorem cw_X11_years {p : Program} {l : Launch} {e : Env} {s : State} {m : MethodId} {args : Array Value} {below : List Frame} {meth : Method} {c : Code} {Q : State → Prop} {cc : ByteArray} {nL : Nat} {own : String} {D : va_G} {cy : Nat → ClassId} {G : Nat × Nat} {n0 pc : Nat} {L : List (Nat × PV)} {st : List PV} {M : Mm} {op : Instr} (K : CallOK l D cy room_1 own op 0 0 (spV 11 4 SP_X11_years)) (C : Cx p s m args meth c cc nL own D cy G n0) (hd : decode cc pc = .ok (op, 3)) (hn : M.2.2.2 = 243) (h0 : n0 = 0) (hlen : argN st ≤ 8) {r : Option Nat} {o0 : Nat} (ho : isOn 11 M.2.2.2 r o0) {x1 : Int} {x2 : Int} {x3 : Int} {x4 : Int} {Q0 : Int → Mm → Prop} (h : P_X11_years o0 x1 x2 x3 x4 M Q0) (k : ∀ x M2, Q0 x M2 → M2.2.2.2 = 243 → WW p l e room_1 s m args below meth c Q nL D cy G n0  (pc + 3) L (vI x :: st) M2) : WW p l e room_1 s m args below meth c Q nL D cy G n0  pc L (vI x4 :: vI x3 :: vI x2 :: vI x1 :: vR r :: st) M := by
  obtain ⟨rfl, ho1, ho2⟩ := ho
  refine x_callL K C hd (as := [vR (some o0), vI x1, vI x2, vI x3, vI x4]) rfl hn h0 hlen (fun v M2 => ∃ x, v = some (vI x) ∧ Q0 x M2) ⟨⟨o0, [vI x1, vI x2, vI x3, vI x4], rfl, rfl, ho1, ho2⟩, hn, o0, x1, x2, x3, x4, rfl, (hn) ▸ ho1, ho2, Q0, fun x M2 hx => ⟨x, rfl, hx⟩, h⟩ ?_
  rintro _ _ ⟨x, rfl, hx⟩ hm
  exact k x _ hx hm
set_option maxRecDepth 100000 in
set_option maxHeartbeats 4000000 in
theorem cw_X12_years {p : Program} {l : Launch} {e : Env} {s : State} {m : MethodId} {args : Array Value} {below : List Frame} {meth : Method} {c : Code} {Q : State → Prop} {cc : ByteArray} {nL : Nat} {own : String} {D : va_G} {cy : Nat → ClassId} {G : Nat × Nat} {n0 pc : Nat} {L : List (Nat × PV)} {st : List PV} {M : Mm} {op : Instr} (K : CallOK l D cy room_1 own op 0 0 (spV 12 4 SP_X12_years)) (C : Cx p s m args meth c cc nL own D cy G n0) (hd : decode cc pc = .ok (op, 3)) (hn : M.2.2.2 = 243) (h0 : n0 = 0) (hlen : argN st ≤ 8) {r : Option Nat} {o0 : Nat} (ho : isOn 12 M.2.2.2 r o0) {x1 : Int} {x2 : Int} {x3 : Int} {x4 : Int} {Q0 : Int → Mm → Prop} (h : P_X12_years o0 x1 x2 x3 x4 M Q0) (k : ∀ x M2, Q0 x M2 → M2.2.2.2 = 243 → WW p l e room_1 s m args below meth c Q nL D cy G n0  (pc + 3) L (vI x :: st) M2) : WW p l e room_1 s m args below meth c Q nL D cy G n0  pc L (vI x4 :: vI x3 :: vI x2 :: vI x1 :: vR r :: st) M := by
  obtain ⟨rfl, ho1, ho2⟩ := ho
  refine x_callL K C hd (as := [vR (some o0), vI x1, vI x2, vI x3, vI x4]) rfl hn h0 hlen (fun v M2 => ∃ x, v = some (vI x) ∧ Q0 x M2) ⟨⟨o0, [vI x1, vI x2, vI x3, vI x4], rfl, rfl, ho1, ho2⟩, hn, o0, x1, x2, x3, x4, rfl, (hn) ▸ ho1, ho2, Q0, fun x M2 hx => ⟨x, rfl, hx⟩, h⟩ ?_
  rintro _ _ ⟨x, rfl, hx⟩ hm
  exact k x _ hx hm
set_option maxRecDepth 100000 in
set_option maxHeartbeats 4000000 in
theorem cw_X11_worn {p : Program} {l : Launch} {e : Env} {s : State} {m : MethodId} {args : Array Value} {below : List Frame} {meth : Method} {c : Code} {Q : State → Prop} {cc : ByteArray} {nL : Nat} {own : String} {D : va_G} {cy : Nat → ClassId} {G : Nat × Nat} {n0 pc : Nat} {L : List (Nat × PV)} {st : List PV} {M : Mm} {op : Instr} (K : CallOK l D cy room_1 own op 0 0 (spV 11 2 SP_X11_worn)) (C : Cx p s m args meth c cc nL own D cy G n0) (hd : decode cc pc = .ok (op, 3)) (hn : M.2.2.2 = 243) (h0 : n0 = 0) (hlen : argN st ≤ 8) {r : Option Nat} {o0 : Nat} (ho : isOn 11 M.2.2.2 r o0) {x1 : Int} {x2 : Int} {Q0 : Int → Prop} (h : P_X11_worn o0 x1 x2 M Q0) (k : ∀ x, Q0 x → WW p l e room_1 s m args below meth c Q nL D cy G n0  (pc + 3) L (vI x :: st) M) : WW p l e room_1 s m args below meth c Q nL D cy G n0  pc L (vI x2 :: vI x1 :: vR r :: st) M := by
  obtain ⟨rfl, ho1, ho2⟩ := ho
  refine x_callL K C hd (as := [vR (some o0), vI x1, vI x2]) rfl hn h0 hlen (fun v M2 => ∃ x, v = some (vI x) ∧ M2 = M ∧ Q0 x) ⟨⟨o0, [vI x1, vI x2], rfl, rfl, ho1, ho2⟩, hn, o0, x1, x2, rfl, (hn) ▸ ho1, ho2, Q0, fun x hx => ⟨x, rfl, rfl, hx⟩, h⟩ ?_
  rintro _ _ ⟨x, rfl, rfl, hx⟩ hm
  exact k x hx
set_option maxRecDepth 100000 in
set_option maxHeartbeats 4000000 in
theorem cw_X12_worn {p : Program} {l : Launch} {e : Env} {s : State} {m : MethodId} {args : Array Value} {below : List Frame} {meth : Method} {c : Code} {Q : State → Prop} {cc : ByteArray} {nL : Nat} {own : String} {D : va_G} {cy : Nat → ClassId} {G : Nat × Nat} {n0 pc : Nat} {L : List (Nat × PV)} {st : List PV} {M : Mm} {op : Instr} (K : CallOK l D cy room_1 own op 0 0 (spV 12 2 SP_X12_worn)) (C : Cx p s m args meth c cc nL own D cy G n0) (hd : decode cc pc = .ok (op, 3)) (hn : M.2.2.2 = 243) (h0 : n0 = 0) (hlen : argN st ≤ 8) {r : Option Nat} {o0 : Nat} (ho : isOn 12 M.2.2.2 r o0) {x1 : Int} {x2 : Int} {Q0 : Int → Prop} (h : P_X12_worn o0 x1 x2 M Q0) (k : ∀ x, Q0 x → WW p l e room_1 s m args below meth c Q nL D cy G n0  (pc + 3) L (vI x :: st) M) : WW p l e room_1 s m args below meth c Q nL D cy G n0  pc L (vI x2 :: vI x1 :: vR r :: st) M := by
  obtain ⟨rfl, ho1, ho2⟩ := ho
  refine x_callL K C hd (as := [vR (some o0), vI x1, vI x2]) rfl hn h0 hlen (fun v M2 => ∃ x, v = some (vI x) ∧ M2 = M ∧ Q0 x) ⟨⟨o0, [vI x1, vI x2], rfl, rfl, ho1, ho2⟩, hn, o0, x1, x2, rfl, (hn) ▸ ho1, ho2, Q0, fun x hx => ⟨x, rfl, rfl, hx⟩, h⟩ ?_
  rintro _ _ ⟨x, rfl, rfl, hx⟩ hm
  exact k x hx
set_option maxRecDepth 100000 in
set_option maxHeartbeats 4000000 in
theorem cw_X11_until {p : Program} {l : Launch} {e : Env} {s : State} {m : MethodId} {args : Array Value} {below : List Frame} {meth : Method} {c : Code} {Q : State → Prop} {cc : ByteArray} {nL : Nat} {own : String} {D : va_G} {cy : Nat → ClassId} {G : Nat × Nat} {n0 pc : Nat} {L : List (Nat × PV)} {st : List PV} {M : Mm} {op : Instr} (K : CallOK l D cy room_1 own op 0 0 (spV 11 4 SP_X11_until)) (C : Cx p s m args meth c cc nL own D cy G n0) (hd : decode cc pc = .ok (op, 3)) (hn : M.2.2.2 = 243) (h0 : n0 = 0) (hlen : argN st ≤ 8) {r : Option Nat} {o0 : Nat} (ho : isOn 11 M.2.2.2 r o0) {x1 : Int} {x2 : Int} {x3 : Int} {x4 : Int} {Q0 : Int → Mm → Prop} (h : P_X11_until o0 x1 x2 x3 x4 M Q0) (k : ∀ x M2, Q0 x M2 → M2.2.2.2 = 243 → WW p l e room_1 s m args below meth c Q nL D cy G n0  (pc + 3) L (vI x :: st) M2) : WW p l e room_1 s m args below meth c Q nL D cy G n0  pc L (vI x4 :: vI x3 :: vI x2 :: vI x1 :: vR r :: st) M := by
  obtain ⟨rfl, ho1, ho2⟩ := ho
  refine x_callL K C hd (as := [vR (some o0), vI x1, vI x2, vI x3, vI x4]) rfl hn h0 hlen (fun v M2 => ∃ x, v = some (vI x) ∧ Q0 x M2) ⟨⟨o0, [vI x1, vI x2, vI x3, vI x4], rfl, rfl, ho1, ho2⟩, hn, o0, x1, x2, x3, x4, rfl, (hn) ▸ ho1, ho2, Q0, fun x M2 hx => ⟨x, rfl, hx⟩, h⟩ ?_
  rintro _ _ ⟨x, rfl, hx⟩ hm
  exact k x _ hx hm
set_option maxRecDepth 100000 in
set_option maxHeartbeats 4000000 in
theorem cw_X12_until {p : Program} {l : Launch} {e : Env} {s : State} {m : MethodId} {args : Array Value} {below : List Frame} {meth : Method} {c : Code} {Q : State → Prop} {cc : ByteArray} {nL : Nat} {own : String} {D : va_G} {cy : Nat → ClassId} {G : Nat × Nat} {n0 pc : Nat} {L : List (Nat × PV)} {st : List PV} {M : Mm} {op : Instr} (K : CallOK l D cy room_1 own op 0 0 (spV 12 4 SP_X12_until)) (C : Cx p s m args meth c cc nL own D cy G n0) (hd : decode cc pc = .ok (op, 3)) (hn : M.2.2.2 = 243) (h0 : n0 = 0) (hlen : argN st ≤ 8) {r : Option Nat} {o0 : Nat} (ho : isOn 12 M.2.2.2 r o0) {x1 : Int} {x2 : Int} {x3 : Int} {x4 : Int} {Q0 : Int → Mm → Prop} (h : P_X12_until o0 x1 x2 x3 x4 M Q0) (k : ∀ x M2, Q0 x M2 → M2.2.2.2 = 243 → WW p l e room_1 s m args below meth c Q nL D cy G n0  (pc + 3) L (vI x :: st) M2) : WW p l e room_1 s m args below meth c Q nL D cy G n0  pc L (vI x4 :: vI x3 :: vI x2 :: vI x1 :: vR r :: st) M := by
  obtain ⟨rfl, ho1, ho2⟩ := ho
  refine x_callL K C hd (as := [vR (some o0), vI x1, vI x2, vI x3, vI x4]) rfl hn h0 hlen (fun v M2 => ∃ x, v = some (vI x) ∧ Q0 x M2) ⟨⟨o0, [vI x1, vI x2, vI x3, vI x4], rfl, rfl, ho1, ho2⟩, hn, o0, x1, x2, x3, x4, rfl, (hn) ▸ ho1, ho2, Q0, fun x M2 hx => ⟨x, rfl, hx⟩, h⟩ ?_
  rintro _ _ ⟨x, rfl, hx⟩ hm
  exact k x _ hx hm
set_option maxRecDepth 100000 in
set_option maxHeartbeats 4000000 in
theorem cw_X11_trial {p : Program} {l : Launch} {e : Env} {s : State} {m : MethodId} {args : Array Value} {below : List Frame} {meth : Method} {c : Code} {Q : State → Prop} {cc : ByteArray} {nL : Nat} {own : String} {D : va_G} {cy : Nat → ClassId} {G : Nat × Nat} {n0 pc : Nat} {L : List (Nat × PV)} {st : List PV} {M : Mm} {op : Instr} (K : CallOK l D cy room_1 own op 0 0 (spV 11 3 SP_X11_trial)) (C : Cx p s m args meth c cc nL own D cy G n0) (hd : decode cc pc = .ok (op, 3)) (hn : M.2.2.2 = 243) (h0 : n0 = 0) (hlen : argN st ≤ 8) {r : Option Nat} {o0 : Nat} (ho : isOn 11 M.2.2.2 r o0) {x1 : Int} {x2 : Int} {x3 : Int} {Q0 : Int → Mm → Prop} (h : P_X11_trial o0 x1 x2 x3 M Q0) (k : ∀ x M2, Q0 x M2 → M2.2.2.2 = 243 → WW p l e room_1 s m args below meth c Q nL D cy G n0  (pc + 3) L (vI x :: st) M2) : WW p l e room_1 s m args below meth c Q nL D cy G n0  pc L (vI x3 :: vI x2 :: vI x1 :: vR r :: st) M := by
  obtain ⟨rfl, ho1, ho2⟩ := ho
  refine x_callL K C hd (as := [vR (some o0), vI x1, vI x2, vI x3]) rfl hn h0 hlen (fun v M2 => ∃ x, v = some (vI x) ∧ Q0 x M2) ⟨⟨o0, [vI x1, vI x2, vI x3], rfl, rfl, ho1, ho2⟩, hn, o0, x1, x2, x3, rfl, (hn) ▸ ho1, ho2, Q0, fun x M2 hx => ⟨x, rfl, hx⟩, h⟩ ?_
  rintro _ _ ⟨x, rfl, hx⟩ hm
  exact k x _ hx hm
set_option maxRecDepth 100000 in
set_option maxHeartbeats 4000000 in
theorem cw_X12_trial {p : Program} {l : Launch} {e : Env} {s : State} {m : MethodId} {args : Array Value} {below : List Frame} {meth : Method} {c : Code} {Q : State → Prop} {cc : ByteArray} {nL : Nat} {own : String} {D : va_G} {cy : Nat → ClassId} {G : Nat × Nat} {n0 pc : Nat} {L : List (Nat × PV)} {st : List PV} {M : Mm} {op : Instr} (K : CallOK l D cy room_1 own op 0 0 (spV 12 3 SP_X12_trial)) (C : Cx p s m args meth c cc nL own D cy G n0) (hd : decode cc pc = .ok (op, 3)) (hn : M.2.2.2 = 243) (h0 : n0 = 0) (hlen : argN st ≤ 8) {r : Option Nat} {o0 : Nat} (ho : isOn 12 M.2.2.2 r o0) {x1 : Int} {x2 : Int} {x3 : Int} {Q0 : Int → Mm → Prop} (h : P_X12_trial o0 x1 x2 x3 M Q0) (k : ∀ x M2, Q0 x M2 → M2.2.2.2 = 243 → WW p l e room_1 s m args below meth c Q nL D cy G n0  (pc + 3) L (vI x :: st) M2) : WW p l e room_1 s m args below meth c Q nL D cy G n0  pc L (vI x3 :: vI x2 :: vI x1 :: vR r :: st) M := by
  obtain ⟨rfl, ho1, ho2⟩ := ho
  refine x_callL K C hd (as := [vR (some o0), vI x1, vI x2, vI x3]) rfl hn h0 hlen (fun v M2 => ∃ x, v = some (vI x) ∧ Q0 x M2) ⟨⟨o0, [vI x1, vI x2, vI x3], rfl, rfl, ho1, ho2⟩, hn, o0, x1, x2, x3, rfl, (hn) ▸ ho1, ho2, Q0, fun x M2 hx => ⟨x, rfl, hx⟩, h⟩ ?_
  rintro _ _ ⟨x, rfl, hx⟩ hm
  exact k x _ hx hm
set_option maxRecDepth 100000 in
set_option maxHeartbeats 4000000 in
theorem cw_X11_against {p : Program} {l : Launch} {e : Env} {s : State} {m : MethodId} {args : Array Value} {below : List Frame} {meth : Method} {c : Code} {Q : State → Prop} {cc : ByteArray} {nL : Nat} {own : String} {D : va_G} {cy : Nat → ClassId} {G : Nat × Nat} {n0 pc : Nat} {L : List (Nat × PV)} {st : List PV} {M : Mm} {op : Instr} (K : CallOK l D cy room_1 own op 0 0 (spV 11 3 SP_X11_against)) (C : Cx p s m args meth c cc nL own D cy G n0) (hd : decode cc pc = .ok (op, 3)) (hn : M.2.2.2 = 243) (h0 : n0 = 0) (hlen : argN st ≤ 8) {r : Option Nat} {o0 : Nat} (ho : isOn 11 M.2.2.2 r o0) {x1 : Int} {x2 : Int} {x3 : Int} {Q0 : Int → Mm → Prop} (h : P_X11_against o0 x1 x2 x3 M Q0) (k : ∀ x M2, Q0 x M2 → M2.2.2.2 = 243 → WW p l e room_1 s m args below meth c Q nL D cy G n0  (pc + 3) L (vI x :: st) M2) : WW p l e room_1 s m args below meth c Q nL D cy G n0  pc L (vI x3 :: vI x2 :: vI x1 :: vR r :: st) M := by
  obtain ⟨rfl, ho1, ho2⟩ := ho
  refine x_callL K C hd (as := [vR (some o0), vI x1, vI x2, vI x3]) rfl hn h0 hlen (fun v M2 => ∃ x, v = some (vI x) ∧ Q0 x M2) ⟨⟨o0, [vI x1, vI x2, vI x3], rfl, rfl, ho1, ho2⟩, hn, o0, x1, x2, x3, rfl, (hn) ▸ ho1, ho2, Q0, fun x M2 hx => ⟨x, rfl, hx⟩, h⟩ ?_
  rintro _ _ ⟨x, rfl, hx⟩ hm
  exact k x _ hx hm
set_option maxRecDepth 100000 in
set_option maxHeartbeats 4000000 in
theorem cw_X12_against {p : Program} {l : Launch} {e : Env} {s : State} {m : MethodId} {args : Array Value} {below : List Frame} {meth : Method} {c : Code} {Q : State → Prop} {cc : ByteArray} {nL : Nat} {own : String} {D : va_G} {cy : Nat → ClassId} {G : Nat × Nat} {n0 pc : Nat} {L : List (Nat × PV)} {st : List PV} {M : Mm} {op : Instr} (K : CallOK l D cy room_1 own op 0 0 (spV 12 3 SP_X12_against)) (C : Cx p s m args meth c cc nL own D cy G n0) (hd : decode cc pc = .ok (op, 3)) (hn : M.2.2.2 = 243) (h0 : n0 = 0) (hlen : argN st ≤ 8) {r : Option Nat} {o0 : Nat} (ho : isOn 12 M.2.2.2 r o0) {x1 : Int} {x2 : Int} {x3 : Int} {Q0 : Int → Prop} (h : P_X12_against o0 x1 x2 x3 M Q0) (k : ∀ x, Q0 x → WW p l e room_1 s m args below meth c Q nL D cy G n0  (pc + 3) L (vI x :: st) M) : WW p l e room_1 s m args below meth c Q nL D cy G n0  pc L (vI x3 :: vI x2 :: vI x1 :: vR r :: st) M := by
  obtain ⟨rfl, ho1, ho2⟩ := ho
  refine x_callL K C hd (as := [vR (some o0), vI x1, vI x2, vI x3]) rfl hn h0 hlen (fun v M2 => ∃ x, v = some (vI x) ∧ M2 = M ∧ Q0 x) ⟨⟨o0, [vI x1, vI x2, vI x3], rfl, rfl, ho1, ho2⟩, hn, o0, x1, x2, x3, rfl, (hn) ▸ ho1, ho2, Q0, fun x hx => ⟨x, rfl, rfl, hx⟩, h⟩ ?_
  rintro _ _ ⟨x, rfl, rfl, hx⟩ hm
  exact k x hx
set_option maxRecDepth 100000 in
set_option maxHeartbeats 4000000 in
theorem cw_X11_score {p : Program} {l : Launch} {e : Env} {s : State} {m : MethodId} {args : Array Value} {below : List Frame} {meth : Method} {c : Code} {Q : State → Prop} {cc : ByteArray} {nL : Nat} {own : String} {D : va_G} {cy : Nat → ClassId} {G : Nat × Nat} {n0 pc : Nat} {L : List (Nat × PV)} {st : List PV} {M : Mm} {op : Instr} (K : CallOK l D cy room_1 own op 0 0 (spV 11 2 SP_X11_score)) (C : Cx p s m args meth c cc nL own D cy G n0) (hd : decode cc pc = .ok (op, 3)) (hn : M.2.2.2 = 243) (h0 : n0 = 0) (hlen : argN st ≤ 8) {r : Option Nat} {o0 : Nat} (ho : isOn 11 M.2.2.2 r o0) {x1 : Int} {x2 : Int} {Q0 : Int → Prop} (h : P_X11_score o0 x1 x2 M Q0) (k : ∀ x, Q0 x → WW p l e room_1 s m args below meth c Q nL D cy G n0  (pc + 3) L (vI x :: st) M) : WW p l e room_1 s m args below meth c Q nL D cy G n0  pc L (vI x2 :: vI x1 :: vR r :: st) M := by
  obtain ⟨rfl, ho1, ho2⟩ := ho
  refine x_callL K C hd (as := [vR (some o0), vI x1, vI x2]) rfl hn h0 hlen (fun v M2 => ∃ x, v = some (vI x) ∧ M2 = M ∧ Q0 x) ⟨⟨o0, [vI x1, vI x2], rfl, rfl, ho1, ho2⟩, hn, o0, x1, x2, rfl, (hn) ▸ ho1, ho2, Q0, fun x hx => ⟨x, rfl, rfl, hx⟩, h⟩ ?_
  rintro _ _ ⟨x, rfl, rfl, hx⟩ hm
  exact k x hx
set_option maxRecDepth 100000 in
set_option maxHeartbeats 4000000 in
theorem cw_X12_score {p : Program} {l : Launch} {e : Env} {s : State} {m : MethodId} {args : Array Value} {below : List Frame} {meth : Method} {c : Code} {Q : State → Prop} {cc : ByteArray} {nL : Nat} {own : String} {D : va_G} {cy : Nat → ClassId} {G : Nat × Nat} {n0 pc : Nat} {L : List (Nat × PV)} {st : List PV} {M : Mm} {op : Instr} (K : CallOK l D cy room_1 own op 0 0 (spV 12 2 SP_X12_score)) (C : Cx p s m args meth c cc nL own D cy G n0) (hd : decode cc pc = .ok (op, 3)) (hn : M.2.2.2 = 243) (h0 : n0 = 0) (hlen : argN st ≤ 8) {r : Option Nat} {o0 : Nat} (ho : isOn 12 M.2.2.2 r o0) {x1 : Int} {x2 : Int} {Q0 : Int → Prop} (h : P_X12_score o0 x1 x2 M Q0) (k : ∀ x, Q0 x → WW p l e room_1 s m args below meth c Q nL D cy G n0  (pc + 3) L (vI x :: st) M) : WW p l e room_1 s m args below meth c Q nL D cy G n0  pc L (vI x2 :: vI x1 :: vR r :: st) M := by
  obtain ⟨rfl, ho1, ho2⟩ := ho
  refine x_callL K C hd (as := [vR (some o0), vI x1, vI x2]) rfl hn h0 hlen (fun v M2 => ∃ x, v = some (vI x) ∧ M2 = M ∧ Q0 x) ⟨⟨o0, [vI x1, vI x2], rfl, rfl, ho1, ho2⟩, hn, o0, x1, x2, rfl, (hn) ▸ ho1, ho2, Q0, fun x hx => ⟨x, rfl, rfl, hx⟩, h⟩ ?_
  rintro _ _ ⟨x, rfl, rfl, hx⟩ hm
  exact k x hx
set_option maxRecDepth 100000 in
set_option maxHeartbeats 4000000 in
theorem cw_X11_count {p : Program} {l : Launch} {e : Env} {s : State} {m : MethodId} {args : Array Value} {below : List Frame} {meth : Method} {c : Code} {Q : State → Prop} {cc : ByteArray} {nL : Nat} {own : String} {D : va_G} {cy : Nat → ClassId} {G : Nat × Nat} {n0 pc : Nat} {L : List (Nat × PV)} {st : List PV} {M : Mm} {op : Instr} (K : CallOK l D cy room_1 own op 0 0 (spV 11 1 SP_X11_count)) (C : Cx p s m args meth c cc nL own D cy G n0) (hd : decode cc pc = .ok (op, 3)) (hn : M.2.2.2 = 243) (h0 : n0 = 0) (hlen : argN st ≤ 8) {r : Option Nat} {o0 : Nat} (ho : isOn 11 M.2.2.2 r o0) {x1 : Int} {Q0 : Int → Prop} (h : P_X11_count o0 x1 M Q0) (k : ∀ x, Q0 x → WW p l e room_1 s m args below meth c Q nL D cy G n0  (pc + 3) L (vI x :: st) M) : WW p l e room_1 s m args below meth c Q nL D cy G n0  pc L (vI x1 :: vR r :: st) M := by
  obtain ⟨rfl, ho1, ho2⟩ := ho
  refine x_callL K C hd (as := [vR (some o0), vI x1]) rfl hn h0 hlen (fun v M2 => ∃ x, v = some (vI x) ∧ M2 = M ∧ Q0 x) ⟨⟨o0, [vI x1], rfl, rfl, ho1, ho2⟩, hn, o0, x1, rfl, (hn) ▸ ho1, ho2, Q0, fun x hx => ⟨x, rfl, rfl, hx⟩, h⟩ ?_
  rintro _ _ ⟨x, rfl, rfl, hx⟩ hm
  exact k x hx
set_option maxRecDepth 100000 in
set_option maxHeartbeats 4000000 in
theorem cw_X12_count {p : Program} {l : Launch} {e : Env} {s : State} {m : MethodId} {args : Array Value} {below : List Frame} {meth : Method} {c : Code} {Q : State → Prop} {cc : ByteArray} {nL : Nat} {own : String} {D : va_G} {cy : Nat → ClassId} {G : Nat × Nat} {n0 pc : Nat} {L : List (Nat × PV)} {st : List PV} {M : Mm} {op : Instr} (K : CallOK l D cy room_1 own op 0 0 (spV 12 1 SP_X12_count)) (C : Cx p s m args meth c cc nL own D cy G n0) (hd : decode cc pc = .ok (op, 3)) (hn : M.2.2.2 = 243) (h0 : n0 = 0) (hlen : argN st ≤ 8) {r : Option Nat} {o0 : Nat} (ho : isOn 12 M.2.2.2 r o0) {x1 : Int} {Q0 : Int → Prop} (h : P_X12_count o0 x1 M Q0) (k : ∀ x, Q0 x → WW p l e room_1 s m args below meth c Q nL D cy G n0  (pc + 3) L (vI x :: st) M) : WW p l e room_1 s m args below meth c Q nL D cy G n0  pc L (vI x1 :: vR r :: st) M := by
  obtain ⟨rfl, ho1, ho2⟩ := ho
  refine x_callL K C hd (as := [vR (some o0), vI x1]) rfl hn h0 hlen (fun v M2 => ∃ x, v = some (vI x) ∧ M2 = M ∧ Q0 x) ⟨⟨o0, [vI x1], rfl, rfl, ho1, ho2⟩, hn, o0, x1, rfl, (hn) ▸ ho1, ho2, Q0, fun x hx => ⟨x, rfl, rfl, hx⟩, h⟩ ?_
  rintro _ _ ⟨x, rfl, rfl, hx⟩ hm
  exact k x hx
theorem x_lawret {p : Program} {l : Launch} {e : Env} {s : State} {m : MethodId} {below : List Frame} {meth : Method} {c : Code} {D : va_G} {cy : Nat → ClassId} {G : Nat × Nat} {n0 pc : Nat} {L : List (Nat × PV)} {M : Mm} (C : Cx p s m #[Value.ref G.2] meth c cL_law 4 RL D cy G n0) (hr : meth.sig.returnType = ret) (h0 : n0 = 0) (hd : decode cL_law pc = .ok (.ireturn, 1)) (hn : M.2.2.2 = 243) : WW p l e room_1 s m #[Value.ref G.2] below meth c (lw_Z below #[Value.ref G.2] s) 4 D cy G n0 pc L [vI 1] M := by
  intro _ hL hst H locs ls hW hS hls
  obtain ⟨hx, hb, hml, hown, hts, hK, hlk, hsz⟩ := C
  subst h0
  refine va_forget (fun q hq => by have := hS.2.2 q hq; rw [hsz]; exact this) ?_
  refine W.widen (k := 600000) (n := 7302249) (by rw [hn]; decide) (by rw [hn]; decide +kernel) ?_
  exact lw_ret hx hb hr hlk hd
section W_LAW
variable {p : Program} {l : Launch} {e : Env} {s : State} {m : MethodId} {below : List Frame} {meth : Method} {c : Code} {D : va_G} {cy : Nat → ClassId} {G : Nat × Nat} {n0 : Nat}
set_option maxRecDepth 100000 in
set_option maxHeartbeats 8000000 in
theorem k_L_law_160 {a1 : Option Nat} {a2 : Option Nat} {x3 : Int} {M : Mm} {K18 : Int × Mm → Prop} {Lx : Nat} {xs : Nat → Int32} (C : Cx p s m #[Value.ref G.2] meth c cL_law 4 RL D cy G n0) (hr : meth.sig.returnType = ret) (hX : va_X G.2 Lx xs s s.heap) (hG : G.2 < G.1) (hLx : Lx < 100000) (h0 : n0 = 0) (hK18 : ∀ (x3 : Int) (M : Mm), K18 (x3, M) → WW p l e room_1 s m #[Value.ref G.2] below meth c (lw_Z below #[Value.ref G.2] s) 4 D cy G n0 18 [(0, vR (some 1000)), (1, vR a1), (2, vR a2), (3, vI x3)] [] M) (h : P_L_law_160 Lx xs a1 a2 x3 M n0 K18) : WW p l e room_1 s m #[Value.ref G.2] below meth c (lw_Z below #[Value.ref G.2] s) 4 D cy G n0 160 [(0, vR (some 1000)), (1, vR a1), (2, vR a2), (3, vI x3)] [] M := by
  unfold P_L_law_160 at h
  refine w_aload_n C dL_law_160 rfl (mem_k 1 rfl) ?_
  refine w_aload_n C dL_law_161 rfl (mem_k 0 rfl) ?_
  refine w_iload_n C dL_law_162 rfl (mem_k 3 rfl) ?_
  refine w_iconst C dL_law_163 ⟨by decide, by decide⟩ ?_
  refine w_iadd C dL_law_164 h.1 ?_
  replace h := h.2
  obtain ⟨g1, g2, h⟩ := h
  refine w_sld C hX hG dL_law_165 ⟨g1, g2⟩ ?_
  refine w_aload_n C dL_law_166 rfl (mem_k 0 rfl) ?_
  refine w_iload_n C dL_law_167 rfl (mem_k 3 rfl) ?_
  refine w_iconst C dL_law_168 ⟨by decide, by decide⟩ ?_
  refine w_iadd C dL_law_169 h.1 ?_
  replace h := h.2
  obtain ⟨g3, g4, h⟩ := h
  refine w_sld C hX hG dL_law_170 ⟨g3, g4⟩ ?_
  refine w_i2l C dL_law_171 ?_
  refine w_bipush C dL_law_172 (by decide) ?_
  refine w_lshl C dL_law_174 ?_
  refine w_aload_n C dL_law_175 rfl (mem_k 0 rfl) ?_
  refine w_iload_n C dL_law_176 rfl (mem_k 3 rfl) ?_
  refine w_iconst C dL_law_177 ⟨by decide, by decide⟩ ?_
  refine w_iadd C dL_law_178 h.1 ?_
  replace h := h.2
  obtain ⟨g5, g6, h⟩ := h
  refine w_sld C hX hG dL_law_179 ⟨g5, g6⟩ ?_
  refine w_i2l C dL_law_180 ?_
  refine w_ldc2 (x := 4294967295) C dL_law_181 cn_L_13 ⟨by decide, by decide⟩ ?_
  refine w_land C dL_law_184 ?_
  refine w_lor C dL_law_185 ?_
  obtain ⟨o7, g8, h⟩ := h
  obtain ⟨hn9, h⟩ := h
  obtain ⟨Q9, q9, h⟩ := h
  refine cw_X11_write (ck_L_15 ⟨by decide, by decide⟩) C dL_law_186 hn9 h0 (Nat.le_of_ble_eq_true rfl) g8 q9 (fun v10 M11 x9 hn12 => ?_)
  replace h := h v10 M11 x9
  replace h := h hn12
  refine w_aload_n C dL_law_189 rfl (mem_k 2 rfl) ?_
  refine w_aload_n C dL_law_190 rfl (mem_k 0 rfl) ?_
  refine w_iload_n C dL_law_191 rfl (mem_k 3 rfl) ?_
  refine w_iconst C dL_law_192 ⟨by decide, by decide⟩ ?_
  refine w_iadd C dL_law_193 h.1 ?_
  replace h := h.2
  obtain ⟨g13, g14, h⟩ := h
  refine w_sld C hX hG dL_law_194 ⟨g13, g14⟩ ?_
  refine w_aload_n C dL_law_195 rfl (mem_k 0 rfl) ?_
  refine w_iload_n C dL_law_196 rfl (mem_k 3 rfl) ?_
  refine w_iconst C dL_law_197 ⟨by decide, by decide⟩ ?_
  refine w_iadd C dL_law_198 h.1 ?_
  replace h := h.2
  obtain ⟨g15, g16, h⟩ := h
  refine w_sld C hX hG dL_law_199 ⟨g15, g16⟩ ?_
  refine w_i2l C dL_law_200 ?_
  refine w_bipush C dL_law_201 (by decide) ?_
  refine w_lshl C dL_law_203 ?_
  refine w_aload_n C dL_law_204 rfl (mem_k 0 rfl) ?_
  refine w_iload_n C dL_law_205 rfl (mem_k 3 rfl) ?_
  refine w_iconst C dL_law_206 ⟨by decide, by decide⟩ ?_
  refine w_iadd C dL_law_207 h.1 ?_
  replace h := h.2
  obtain ⟨g17, g18, h⟩ := h
  refine w_sld C hX hG dL_law_208 ⟨g17, g18⟩ ?_
  refine w_i2l C dL_law_209 ?_
  refine w_ldc2 (x := 4294967295) C dL_law_210 cn_L_13 ⟨by decide, by decide⟩ ?_
  refine w_land C dL_law_213 ?_
  refine w_lor C dL_law_214 ?_
  obtain ⟨o19, g20, h⟩ := h
  obtain ⟨hn21, h⟩ := h
  obtain ⟨Q9, q9, h⟩ := h
  refine cw_X12_write (ck_L_19 ⟨by decide, by decide⟩) C dL_law_215 hn21 h0 (Nat.le_of_ble_eq_true rfl) g20 q9 (fun v22 M23 x9 hn24 => ?_)
  replace h := h v22 M23 x9
  replace h := h hn24
  refine w_icmp_eq (tgt := 1319) C dL_law_218 (by decide) (fun q => ?_) (fun q => ?_)
  · replace h := h.1 q
    obtain ⟨v25, ev25⟩ : ∃ z : Int, z = x3 + 7 := ⟨_, rfl⟩
    refine x_iinc (L' := [(3, vI v25), (0, vR (some 1000)), (1, vR a1), (2, vR a2)]) C dL_law_1319 (mem_k 3 rfl) (by decide) h.1 ev25 rfl ?_
    replace h := h.2 v25 ev25
    refine w_goto (tgt := 18) C dL_law_1322 (by decide) ?_
    refine x_pc (pc2 := 18) rfl ?_
    refine x_pick (L' := [(0, vR (some 1000)), (1, vR a1), (2, vR a2), (3, vI v25)]) [1, 2, 3, 0] rfl ?_
    exact hK18 v25 M23 h
  · replace h := h.2 q
    refine w_iconst C dL_law_221 ⟨by decide, by decide⟩ ?_
    exact h.elim
set_option maxRecDepth 100000 in
set_option maxHeartbeats 8000000 in
theorem k_L_law_223 {a1 : Option Nat} {a2 : Option Nat} {x3 : Int} {M : Mm} {K18 : Int × Mm → Prop} {Lx : Nat} {xs : Nat → Int32} (C : Cx p s m #[Value.ref G.2] meth c cL_law 4 RL D cy G n0) (hr : meth.sig.returnType = ret) (hX : va_X G.2 Lx xs s s.heap) (hG : G.2 < G.1) (hLx : Lx < 100000) (h0 : n0 = 0) (hK18 : ∀ (x3 : Int) (M : Mm), K18 (x3, M) → WW p l e room_1 s m #[Value.ref G.2] below meth c (lw_Z below #[Value.ref G.2] s) 4 D cy G n0 18 [(0, vR (some 1000)), (1, vR a1), (2, vR a2), (3, vI x3)] [] M) (h : P_L_law_223 Lx xs a1 a2 x3 M n0 K18) : WW p l e room_1 s m #[Value.ref G.2] below meth c (lw_Z below #[Value.ref G.2] s) 4 D cy G n0 223 [(0, vR (some 1000)), (1, vR a1), (2, vR a2), (3, vI x3)] [] M := by
  unfold P_L_law_223 at h
  refine w_aload_n C dL_law_223 rfl (mem_k 1 rfl) ?_
  obtain ⟨o26, g27, h⟩ := h
  obtain ⟨hn28, h⟩ := h
  obtain ⟨Q9, q9, h⟩ := h
  refine cw_X11_wipe (ck_L_20 ⟨by decide, by decide⟩) C dL_law_224 hn28 h0 (Nat.le_of_ble_eq_true rfl) g27 q9 (fun v29 M30 x9 hn31 => ?_)
  replace h := h v29 M30 x9
  replace h := h hn31
  refine w_aload_n C dL_law_227 rfl (mem_k 2 rfl) ?_
  obtain ⟨o32, g33, h⟩ := h
  obtain ⟨hn34, h⟩ := h
  obtain ⟨Q9, q9, h⟩ := h
  refine cw_X12_wipe (ck_L_24 ⟨by decide, by decide⟩) C dL_law_228 hn34 h0 (Nat.le_of_ble_eq_true rfl) g33 q9 (fun v35 M36 x9 hn37 => ?_)
  replace h := h v35 M36 x9
  replace h := h hn37
  refine w_icmp_eq (tgt := 1319) C dL_law_231 (by decide) (fun q => ?_) (fun q => ?_)
  · replace h := h.1 q
    obtain ⟨v38, ev38⟩ : ∃ z : Int, z = x3 + 7 := ⟨_, rfl⟩
    refine x_iinc (L' := [(3, vI v38), (0, vR (some 1000)), (1, vR a1), (2, vR a2)]) C dL_law_1319 (mem_k 3 rfl) (by decide) h.1 ev38 rfl ?_
    replace h := h.2 v38 ev38
    refine w_goto (tgt := 18) C dL_law_1322 (by decide) ?_
    refine x_pc (pc2 := 18) rfl ?_
    refine x_pick (L' := [(0, vR (some 1000)), (1, vR a1), (2, vR a2), (3, vI v38)]) [1, 2, 3, 0] rfl ?_
    exact hK18 v38 M36 h
  · replace h := h.2 q
    refine w_iconst C dL_law_234 ⟨by decide, by decide⟩ ?_
    exact h.elim
set_option maxRecDepth 100000 in
set_option maxHeartbeats 8000000 in
theorem k_L_law_236 {a1 : Option Nat} {a2 : Option Nat} {x3 : Int} {M : Mm} {K18 : Int × Mm → Prop} {Lx : Nat} {xs : Nat → Int32} (C : Cx p s m #[Value.ref G.2] meth c cL_law 4 RL D cy G n0) (hr : meth.sig.returnType = ret) (hX : va_X G.2 Lx xs s s.heap) (hG : G.2 < G.1) (hLx : Lx < 100000) (h0 : n0 = 0) (hK18 : ∀ (x3 : Int) (M : Mm), K18 (x3, M) → WW p l e room_1 s m #[Value.ref G.2] below meth c (lw_Z below #[Value.ref G.2] s) 4 D cy G n0 18 [(0, vR (some 1000)), (1, vR a1), (2, vR a2), (3, vI x3)] [] M) (h : P_L_law_236 Lx xs a1 a2 x3 M n0 K18) : WW p l e room_1 s m #[Value.ref G.2] below meth c (lw_Z below #[Value.ref G.2] s) 4 D cy G n0 236 [(0, vR (some 1000)), (1, vR a1), (2, vR a2), (3, vI x3)] [] M := by
  unfold P_L_law_236 at h
  refine w_aload_n C dL_law_236 rfl (mem_k 1 rfl) ?_
  obtain ⟨o39, g40, h⟩ := h
  obtain ⟨hn41, h⟩ := h
  obtain ⟨Q9, q9, h⟩ := h
  refine cw_X11_fault (ck_L_25 ⟨by decide, by decide⟩) C dL_law_237 hn41 h0 (Nat.le_of_ble_eq_true rfl) g40 q9 (fun v42 M43 x9 hn44 => ?_)
  replace h := h v42 M43 x9
  replace h := h hn44
  refine w_aload_n C dL_law_240 rfl (mem_k 2 rfl) ?_
  obtain ⟨o45, g46, h⟩ := h
  obtain ⟨hn47, h⟩ := h
  obtain ⟨Q9, q9, h⟩ := h
  refine cw_X12_fault (ck_L_28 ⟨by decide, by decide⟩) C dL_law_241 hn47 h0 (Nat.le_of_ble_eq_true rfl) g46 q9 (fun v48 M49 x9 hn50 => ?_)
  replace h := h v48 M49 x9
  replace h := h hn50
  refine w_icmp_eq (tgt := 1319) C dL_law_244 (by decide) (fun q => ?_) (fun q => ?_)
  · replace h := h.1 q
    obtain ⟨v51, ev51⟩ : ∃ z : Int, z = x3 + 7 := ⟨_, rfl⟩
    refine x_iinc (L' := [(3, vI v51), (0, vR (some 1000)), (1, vR a1), (2, vR a2)]) C dL_law_1319 (mem_k 3 rfl) (by decide) h.1 ev51 rfl ?_
    replace h := h.2 v51 ev51
    refine w_goto (tgt := 18) C dL_law_1322 (by decide) ?_
    refine x_pc (pc2 := 18) rfl ?_
    refine x_pick (L' := [(0, vR (some 1000)), (1, vR a1), (2, vR a2), (3, vI v51)]) [1, 2, 3, 0] rfl ?_
    exact hK18 v51 M49 h
  · replace h := h.2 q
    refine w_iconst C dL_law_247 ⟨by decide, by decide⟩ ?_
    exact h.elim
set_option maxRecDepth 100000 in
set_option maxHeartbeats 8000000 in
theorem k_L_law_249 {a1 : Option Nat} {a2 : Option Nat} {x3 : Int} {M : Mm} {K18 : Int × Mm → Prop} {Lx : Nat} {xs : Nat → Int32} (C : Cx p s m #[Value.ref G.2] meth c cL_law 4 RL D cy G n0) (hr : meth.sig.returnType = ret) (hX : va_X G.2 Lx xs s s.heap) (hG : G.2 < G.1) (hLx : Lx < 100000) (h0 : n0 = 0) (hK18 : ∀ (x3 : Int) (M : Mm), K18 (x3, M) → WW p l e room_1 s m #[Value.ref G.2] below meth c (lw_Z below #[Value.ref G.2] s) 4 D cy G n0 18 [(0, vR (some 1000)), (1, vR a1), (2, vR a2), (3, vI x3)] [] M) (h : P_L_law_249 Lx xs a1 a2 x3 M n0 K18) : WW p l e room_1 s m #[Value.ref G.2] below meth c (lw_Z below #[Value.ref G.2] s) 4 D cy G n0 249 [(0, vR (some 1000)), (1, vR a1), (2, vR a2), (3, vI x3)] [] M := by
  unfold P_L_law_249 at h
  refine w_aload_n C dL_law_249 rfl (mem_k 1 rfl) ?_
  obtain ⟨o52, g53, h⟩ := h
  obtain ⟨hn54, h⟩ := h
  obtain ⟨Q9, q9, h⟩ := h
  refine cw_X11_lay (ck_L_29 ⟨by decide, by decide⟩) C dL_law_250 hn54 h0 (Nat.le_of_ble_eq_true rfl) g53 q9 (fun v55 M56 x9 hn57 => ?_)
  replace h := h v55 M56 x9
  replace h := h hn57
  refine w_aload_n C dL_law_253 rfl (mem_k 2 rfl) ?_
  obtain ⟨o58, g59, h⟩ := h
  obtain ⟨hn60, h⟩ := h
  obtain ⟨Q9, q9, h⟩ := h
  refine cw_X12_lay (ck_L_32 ⟨by decide, by decide⟩) C dL_law_254 hn60 h0 (Nat.le_of_ble_eq_true rfl) g59 q9 (fun v61 M62 x9 hn63 => ?_)
  replace h := h v61 M62 x9
  replace h := h hn63
  refine w_icmp_eq (tgt := 1319) C dL_law_257 (by decide) (fun q => ?_) (fun q => ?_)
  · replace h := h.1 q
    obtain ⟨v64, ev64⟩ : ∃ z : Int, z = x3 + 7 := ⟨_, rfl⟩
    refine x_iinc (L' := [(3, vI v64), (0, vR (some 1000)), (1, vR a1), (2, vR a2)]) C dL_law_1319 (mem_k 3 rfl) (by decide) h.1 ev64 rfl ?_
    replace h := h.2 v64 ev64
    refine w_goto (tgt := 18) C dL_law_1322 (by decide) ?_
    refine x_pc (pc2 := 18) rfl ?_
    refine x_pick (L' := [(0, vR (some 1000)), (1, vR a1), (2, vR a2), (3, vI v64)]) [1, 2, 3, 0] rfl ?_
    exact hK18 v64 M62 h
  · replace h := h.2 q
    refine w_iconst C dL_law_260 ⟨by decide, by decide⟩ ?_
    exact h.elim
set_option maxRecDepth 100000 in
set_option maxHeartbeats 8000000 in
theorem k_L_law_262 {a1 : Option Nat} {a2 : Option Nat} {x3 : Int} {M : Mm} {K18 : Int × Mm → Prop} {Lx : Nat} {xs : Nat → Int32} (C : Cx p s m #[Value.ref G.2] meth c cL_law 4 RL D cy G n0) (hr : meth.sig.returnType = ret) (hX : va_X G.2 Lx xs s s.heap) (hG : G.2 < G.1) (hLx : Lx < 100000) (h0 : n0 = 0) (hK18 : ∀ (x3 : Int) (M : Mm), K18 (x3, M) → WW p l e room_1 s m #[Value.ref G.2] below meth c (lw_Z below #[Value.ref G.2] s) 4 D cy G n0 18 [(0, vR (some 1000)), (1, vR a1), (2, vR a2), (3, vI x3)] [] M) (h : P_L_law_262 Lx xs a1 a2 x3 M n0 K18) : WW p l e room_1 s m #[Value.ref G.2] below meth c (lw_Z below #[Value.ref G.2] s) 4 D cy G n0 262 [(0, vR (some 1000)), (1, vR a1), (2, vR a2), (3, vI x3)] [] M := by
  unfold P_L_law_262 at h
  refine w_aload_n C dL_law_262 rfl (mem_k 1 rfl) ?_
  refine w_aload_n C dL_law_263 rfl (mem_k 0 rfl) ?_
  refine w_iload_n C dL_law_264 rfl (mem_k 3 rfl) ?_
  refine w_iconst C dL_law_265 ⟨by decide, by decide⟩ ?_
  refine w_iadd C dL_law_266 h.1 ?_
  replace h := h.2
  obtain ⟨g65, g66, h⟩ := h
  refine w_sld C hX hG dL_law_267 ⟨g65, g66⟩ ?_
  refine w_aload_n C dL_law_268 rfl (mem_k 0 rfl) ?_
  refine w_iload_n C dL_law_269 rfl (mem_k 3 rfl) ?_
  refine w_iconst C dL_law_270 ⟨by decide, by decide⟩ ?_
  refine w_iadd C dL_law_271 h.1 ?_
  replace h := h.2
  obtain ⟨g67, g68, h⟩ := h
  refine w_sld C hX hG dL_law_272 ⟨g67, g68⟩ ?_
  refine w_aload_n C dL_law_273 rfl (mem_k 0 rfl) ?_
  refine w_iload_n C dL_law_274 rfl (mem_k 3 rfl) ?_
  refine w_iconst C dL_law_275 ⟨by decide, by decide⟩ ?_
  refine w_iadd C dL_law_276 h.1 ?_
  replace h := h.2
  obtain ⟨g69, g70, h⟩ := h
  refine w_sld C hX hG dL_law_277 ⟨g69, g70⟩ ?_
  refine w_aload_n C dL_law_278 rfl (mem_k 0 rfl) ?_
  refine w_iload_n C dL_law_279 rfl (mem_k 3 rfl) ?_
  refine w_iconst C dL_law_280 ⟨by decide, by decide⟩ ?_
  refine w_iadd C dL_law_281 h.1 ?_
  replace h := h.2
  obtain ⟨g71, g72, h⟩ := h
  refine w_sld C hX hG dL_law_282 ⟨g71, g72⟩ ?_
  refine w_aload_n C dL_law_283 rfl (mem_k 0 rfl) ?_
  refine w_iload_n C dL_law_284 rfl (mem_k 3 rfl) ?_
  refine w_iconst C dL_law_285 ⟨by decide, by decide⟩ ?_
  refine w_iadd C dL_law_286 h.1 ?_
  replace h := h.2
  obtain ⟨g73, g74, h⟩ := h
  refine w_sld C hX hG dL_law_287 ⟨g73, g74⟩ ?_
  refine w_aload_n C dL_law_288 rfl (mem_k 0 rfl) ?_
  refine w_iload_n C dL_law_289 rfl (mem_k 3 rfl) ?_
  refine w_bipush C dL_law_290 (by decide) ?_
  refine w_iadd C dL_law_292 h.1 ?_
  replace h := h.2
  obtain ⟨g75, g76, h⟩ := h
  refine w_sld C hX hG dL_law_293 ⟨g75, g76⟩ ?_
  obtain ⟨o77, g78, h⟩ := h
  obtain ⟨hn79, h⟩ := h
  obtain ⟨Q9, q9, h⟩ := h
  refine cw_X11_body (ck_L_33 ⟨by decide, by decide⟩) C dL_law_294 hn79 h0 (Nat.le_of_ble_eq_true rfl) g78 q9 (fun v80 M81 x9 hn82 => ?_)
  replace h := h v80 M81 x9
  replace h := h hn82
  refine w_aload_n C dL_law_297 rfl (mem_k 2 rfl) ?_
  refine w_aload_n C dL_law_298 rfl (mem_k 0 rfl) ?_
  refine w_iload_n C dL_law_299 rfl (mem_k 3 rfl) ?_
  refine w_iconst C dL_law_300 ⟨by decide, by decide⟩ ?_
  refine w_iadd C dL_law_301 h.1 ?_
  replace h := h.2
  obtain ⟨g83, g84, h⟩ := h
  refine w_sld C hX hG dL_law_302 ⟨g83, g84⟩ ?_
  refine w_aload_n C dL_law_303 rfl (mem_k 0 rfl) ?_
  refine w_iload_n C dL_law_304 rfl (mem_k 3 rfl) ?_
  refine w_iconst C dL_law_305 ⟨by decide, by decide⟩ ?_
  refine w_iadd C dL_law_306 h.1 ?_
  replace h := h.2
  obtain ⟨g85, g86, h⟩ := h
  refine w_sld C hX hG dL_law_307 ⟨g85, g86⟩ ?_
  refine w_aload_n C dL_law_308 rfl (mem_k 0 rfl) ?_
  refine w_iload_n C dL_law_309 rfl (mem_k 3 rfl) ?_
  refine w_iconst C dL_law_310 ⟨by decide, by decide⟩ ?_
  refine w_iadd C dL_law_311 h.1 ?_
  replace h := h.2
  obtain ⟨g87, g88, h⟩ := h
  refine w_sld C hX hG dL_law_312 ⟨g87, g88⟩ ?_
  refine w_aload_n C dL_law_313 rfl (mem_k 0 rfl) ?_
  refine w_iload_n C dL_law_314 rfl (mem_k 3 rfl) ?_
  refine w_iconst C dL_law_315 ⟨by decide, by decide⟩ ?_
  refine w_iadd C dL_law_316 h.1 ?_
  replace h := h.2
  obtain ⟨g89, g90, h⟩ := h
  refine w_sld C hX hG dL_law_317 ⟨g89, g90⟩ ?_
  refine w_aload_n C dL_law_318 rfl (mem_k 0 rfl) ?_
  refine w_iload_n C dL_law_319 rfl (mem_k 3 rfl) ?_
  refine w_iconst C dL_law_320 ⟨by decide, by decide⟩ ?_
  refine w_iadd C dL_law_321 h.1 ?_
  replace h := h.2
  obtain ⟨g91, g92, h⟩ := h
  refine w_sld C hX hG dL_law_322 ⟨g91, g92⟩ ?_
  refine w_aload_n C dL_law_323 rfl (mem_k 0 rfl) ?_
  refine w_iload_n C dL_law_324 rfl (mem_k 3 rfl) ?_
  refine w_bipush C dL_law_325 (by decide) ?_
  refine w_iadd C dL_law_327 h.1 ?_
  replace h := h.2
  obtain ⟨g93, g94, h⟩ := h
  refine w_sld C hX hG dL_law_328 ⟨g93, g94⟩ ?_
  obtain ⟨o95, g96, h⟩ := h
  obtain ⟨hn97, h⟩ := h
  obtain ⟨Q9, q9, h⟩ := h
  refine cw_X12_body (ck_L_37 ⟨by decide, by decide⟩) C dL_law_329 hn97 h0 (Nat.le_of_ble_eq_true rfl) g96 q9 (fun v98 M99 x9 hn100 => ?_)
  replace h := h v98 M99 x9
  replace h := h hn100
  refine w_icmp_eq (tgt := 1319) C dL_law_332 (by decide) (fun q => ?_) (fun q => ?_)
  · replace h := h.1 q
    obtain ⟨v101, ev101⟩ : ∃ z : Int, z = x3 + 7 := ⟨_, rfl⟩
    refine x_iinc (L' := [(3, vI v101), (0, vR (some 1000)), (1, vR a1), (2, vR a2)]) C dL_law_1319 (mem_k 3 rfl) (by decide) h.1 ev101 rfl ?_
    replace h := h.2 v101 ev101
    refine w_goto (tgt := 18) C dL_law_1322 (by decide) ?_
    refine x_pc (pc2 := 18) rfl ?_
    refine x_pick (L' := [(0, vR (some 1000)), (1, vR a1), (2, vR a2), (3, vI v101)]) [1, 2, 3, 0] rfl ?_
    exact hK18 v101 M99 h
  · replace h := h.2 q
    refine w_iconst C dL_law_335 ⟨by decide, by decide⟩ ?_
    exact h.elim
set_option maxRecDepth 100000 in
set_option maxHeartbeats 8000000 in
theorem k_L_law_337 {a1 : Option Nat} {a2 : Option Nat} {x3 : Int} {M : Mm} {K18 : Int × Mm → Prop} {Lx : Nat} {xs : Nat → Int32} (C : Cx p s m #[Value.ref G.2] meth c cL_law 4 RL D cy G n0) (hr : meth.sig.returnType = ret) (hX : va_X G.2 Lx xs s s.heap) (hG : G.2 < G.1) (hLx : Lx < 100000) (h0 : n0 = 0) (hK18 : ∀ (x3 : Int) (M : Mm), K18 (x3, M) → WW p l e room_1 s m #[Value.ref G.2] below meth c (lw_Z below #[Value.ref G.2] s) 4 D cy G n0 18 [(0, vR (some 1000)), (1, vR a1), (2, vR a2), (3, vI x3)] [] M) (h : P_L_law_337 Lx xs a1 a2 x3 M n0 K18) : WW p l e room_1 s m #[Value.ref G.2] below meth c (lw_Z below #[Value.ref G.2] s) 4 D cy G n0 337 [(0, vR (some 1000)), (1, vR a1), (2, vR a2), (3, vI x3)] [] M := by
  unfold P_L_law_337 at h
  refine w_aload_n C dL_law_337 rfl (mem_k 1 rfl) ?_
  refine w_aload_n C dL_law_338 rfl (mem_k 0 rfl) ?_
  refine w_iload_n C dL_law_339 rfl (mem_k 3 rfl) ?_
  refine w_iconst C dL_law_340 ⟨by decide, by decide⟩ ?_
  refine w_iadd C dL_law_341 h.1 ?_
  replace h := h.2
  obtain ⟨g102, g103, h⟩ := h
  refine w_sld C hX hG dL_law_342 ⟨g102, g103⟩ ?_
  refine w_aload_n C dL_law_343 rfl (mem_k 0 rfl) ?_
  refine w_iload_n C dL_law_344 rfl (mem_k 3 rfl) ?_
  refine w_iconst C dL_law_345 ⟨by decide, by decide⟩ ?_
  refine w_iadd C dL_law_346 h.1 ?_
  replace h := h.2
  obtain ⟨g104, g105, h⟩ := h
  refine w_sld C hX hG dL_law_347 ⟨g104, g105⟩ ?_
  refine w_aload_n C dL_law_348 rfl (mem_k 0 rfl) ?_
  refine w_iload_n C dL_law_349 rfl (mem_k 3 rfl) ?_
  refine w_iconst C dL_law_350 ⟨by decide, by decide⟩ ?_
  refine w_iadd C dL_law_351 h.1 ?_
  replace h := h.2
  obtain ⟨g106, g107, h⟩ := h
  refine w_sld C hX hG dL_law_352 ⟨g106, g107⟩ ?_
  obtain ⟨o108, g109, h⟩ := h
  obtain ⟨hn110, h⟩ := h
  obtain ⟨Q9, q9, h⟩ := h
  refine cw_X11_hang (ck_L_38 ⟨by decide, by decide⟩) C dL_law_353 hn110 h0 (Nat.le_of_ble_eq_true rfl) g109 q9 (fun v111 M112 x9 hn113 => ?_)
  replace h := h v111 M112 x9
  replace h := h hn113
  refine w_aload_n C dL_law_356 rfl (mem_k 2 rfl) ?_
  refine w_aload_n C dL_law_357 rfl (mem_k 0 rfl) ?_
  refine w_iload_n C dL_law_358 rfl (mem_k 3 rfl) ?_
  refine w_iconst C dL_law_359 ⟨by decide, by decide⟩ ?_
  refine w_iadd C dL_law_360 h.1 ?_
  replace h := h.2
  obtain ⟨g114, g115, h⟩ := h
  refine w_sld C hX hG dL_law_361 ⟨g114, g115⟩ ?_
  refine w_aload_n C dL_law_362 rfl (mem_k 0 rfl) ?_
  refine w_iload_n C dL_law_363 rfl (mem_k 3 rfl) ?_
  refine w_iconst C dL_law_364 ⟨by decide, by decide⟩ ?_
  refine w_iadd C dL_law_365 h.1 ?_
  replace h := h.2
  obtain ⟨g116, g117, h⟩ := h
  refine w_sld C hX hG dL_law_366 ⟨g116, g117⟩ ?_
  refine w_aload_n C dL_law_367 rfl (mem_k 0 rfl) ?_
  refine w_iload_n C dL_law_368 rfl (mem_k 3 rfl) ?_
  refine w_iconst C dL_law_369 ⟨by decide, by decide⟩ ?_
  refine w_iadd C dL_law_370 h.1 ?_
  replace h := h.2
  obtain ⟨g118, g119, h⟩ := h
  refine w_sld C hX hG dL_law_371 ⟨g118, g119⟩ ?_
  obtain ⟨o120, g121, h⟩ := h
  obtain ⟨hn122, h⟩ := h
  obtain ⟨Q9, q9, h⟩ := h
  refine cw_X12_hang (ck_L_42 ⟨by decide, by decide⟩) C dL_law_372 hn122 h0 (Nat.le_of_ble_eq_true rfl) g121 q9 (fun v123 M124 x9 hn125 => ?_)
  replace h := h v123 M124 x9
  replace h := h hn125
  refine w_icmp_eq (tgt := 1319) C dL_law_375 (by decide) (fun q => ?_) (fun q => ?_)
  · replace h := h.1 q
    obtain ⟨v126, ev126⟩ : ∃ z : Int, z = x3 + 7 := ⟨_, rfl⟩
    refine x_iinc (L' := [(3, vI v126), (0, vR (some 1000)), (1, vR a1), (2, vR a2)]) C dL_law_1319 (mem_k 3 rfl) (by decide) h.1 ev126 rfl ?_
    replace h := h.2 v126 ev126
    refine w_goto (tgt := 18) C dL_law_1322 (by decide) ?_
    refine x_pc (pc2 := 18) rfl ?_
    refine x_pick (L' := [(0, vR (some 1000)), (1, vR a1), (2, vR a2), (3, vI v126)]) [1, 2, 3, 0] rfl ?_
    exact hK18 v126 M124 h
  · replace h := h.2 q
    refine w_iconst C dL_law_378 ⟨by decide, by decide⟩ ?_
    exact h.elim
set_option maxRecDepth 100000 in
set_option maxHeartbeats 8000000 in
theorem k_L_law_380 {a1 : Option Nat} {a2 : Option Nat} {x3 : Int} {M : Mm} {K18 : Int × Mm → Prop} {Lx : Nat} {xs : Nat → Int32} (C : Cx p s m #[Value.ref G.2] meth c cL_law 4 RL D cy G n0) (hr : meth.sig.returnType = ret) (hX : va_X G.2 Lx xs s s.heap) (hG : G.2 < G.1) (hLx : Lx < 100000) (h0 : n0 = 0) (hK18 : ∀ (x3 : Int) (M : Mm), K18 (x3, M) → WW p l e room_1 s m #[Value.ref G.2] below meth c (lw_Z below #[Value.ref G.2] s) 4 D cy G n0 18 [(0, vR (some 1000)), (1, vR a1), (2, vR a2), (3, vI x3)] [] M) (h : P_L_law_380 Lx xs a1 a2 x3 M n0 K18) : WW p l e room_1 s m #[Value.ref G.2] below meth c (lw_Z below #[Value.ref G.2] s) 4 D cy G n0 380 [(0, vR (some 1000)), (1, vR a1), (2, vR a2), (3, vI x3)] [] M := by
  unfold P_L_law_380 at h
  refine w_aload_n C dL_law_380 rfl (mem_k 1 rfl) ?_
  refine w_aload_n C dL_law_381 rfl (mem_k 0 rfl) ?_
  refine w_iload_n C dL_law_382 rfl (mem_k 3 rfl) ?_
  refine w_iconst C dL_law_383 ⟨by decide, by decide⟩ ?_
  refine w_iadd C dL_law_384 h.1 ?_
  replace h := h.2
  obtain ⟨g127, g128, h⟩ := h
  refine w_sld C hX hG dL_law_385 ⟨g127, g128⟩ ?_
  refine w_aload_n C dL_law_386 rfl (mem_k 0 rfl) ?_
  refine w_iload_n C dL_law_387 rfl (mem_k 3 rfl) ?_
  refine w_iconst C dL_law_388 ⟨by decide, by decide⟩ ?_
  refine w_iadd C dL_law_389 h.1 ?_
  replace h := h.2
  obtain ⟨g129, g130, h⟩ := h
  refine w_sld C hX hG dL_law_390 ⟨g129, g130⟩ ?_
  refine w_aload_n C dL_law_391 rfl (mem_k 0 rfl) ?_
  refine w_iload_n C dL_law_392 rfl (mem_k 3 rfl) ?_
  refine w_iconst C dL_law_393 ⟨by decide, by decide⟩ ?_
  refine w_iadd C dL_law_394 h.1 ?_
  replace h := h.2
  obtain ⟨g131, g132, h⟩ := h
  refine w_sld C hX hG dL_law_395 ⟨g131, g132⟩ ?_
  obtain ⟨o133, g134, h⟩ := h
  obtain ⟨hn135, h⟩ := h
  obtain ⟨Q9, q9, h⟩ := h
  refine cw_X11_level (ck_L_43 ⟨by decide, by decide⟩) C dL_law_396 hn135 h0 (Nat.le_of_ble_eq_true rfl) g134 q9 (fun v136 M137 x9 hn138 => ?_)
  replace h := h v136 M137 x9
  replace h := h hn138
  refine w_aload_n C dL_law_399 rfl (mem_k 2 rfl) ?_
  refine w_aload_n C dL_law_400 rfl (mem_k 0 rfl) ?_
  refine w_iload_n C dL_law_401 rfl (mem_k 3 rfl) ?_
  refine w_iconst C dL_law_402 ⟨by decide, by decide⟩ ?_
  refine w_iadd C dL_law_403 h.1 ?_
  replace h := h.2
  obtain ⟨g139, g140, h⟩ := h
  refine w_sld C hX hG dL_law_404 ⟨g139, g140⟩ ?_
  refine w_aload_n C dL_law_405 rfl (mem_k 0 rfl) ?_
  refine w_iload_n C dL_law_406 rfl (mem_k 3 rfl) ?_
  refine w_iconst C dL_law_407 ⟨by decide, by decide⟩ ?_
  refine w_iadd C dL_law_408 h.1 ?_
  replace h := h.2
  obtain ⟨g141, g142, h⟩ := h
  refine w_sld C hX hG dL_law_409 ⟨g141, g142⟩ ?_
  refine w_aload_n C dL_law_410 rfl (mem_k 0 rfl) ?_
  refine w_iload_n C dL_law_411 rfl (mem_k 3 rfl) ?_
  refine w_iconst C dL_law_412 ⟨by decide, by decide⟩ ?_
  refine w_iadd C dL_law_413 h.1 ?_
  replace h := h.2
  obtain ⟨g143, g144, h⟩ := h
  refine w_sld C hX hG dL_law_414 ⟨g143, g144⟩ ?_
  obtain ⟨o145, g146, h⟩ := h
  obtain ⟨hn147, h⟩ := h
  obtain ⟨Q9, q9, h⟩ := h
  refine cw_X12_level (ck_L_46 ⟨by decide, by decide⟩) C dL_law_415 hn147 h0 (Nat.le_of_ble_eq_true rfl) g146 q9 (fun v148 M149 x9 hn150 => ?_)
  replace h := h v148 M149 x9
  replace h := h hn150
  refine w_icmp_eq (tgt := 1319) C dL_law_418 (by decide) (fun q => ?_) (fun q => ?_)
  · replace h := h.1 q
    obtain ⟨v151, ev151⟩ : ∃ z : Int, z = x3 + 7 := ⟨_, rfl⟩
    refine x_iinc (L' := [(3, vI v151), (0, vR (some 1000)), (1, vR a1), (2, vR a2)]) C dL_law_1319 (mem_k 3 rfl) (by decide) h.1 ev151 rfl ?_
    replace h := h.2 v151 ev151
    refine w_goto (tgt := 18) C dL_law_1322 (by decide) ?_
    refine x_pc (pc2 := 18) rfl ?_
    refine x_pick (L' := [(0, vR (some 1000)), (1, vR a1), (2, vR a2), (3, vI v151)]) [1, 2, 3, 0] rfl ?_
    exact hK18 v151 M149 h
  · replace h := h.2 q
    refine w_iconst C dL_law_421 ⟨by decide, by decide⟩ ?_
    exact h.elim
set_option maxRecDepth 100000 in
set_option maxHeartbeats 8000000 in
theorem k_L_law_423 {a1 : Option Nat} {a2 : Option Nat} {x3 : Int} {M : Mm} {K18 : Int × Mm → Prop} {Lx : Nat} {xs : Nat → Int32} (C : Cx p s m #[Value.ref G.2] meth c cL_law 4 RL D cy G n0) (hr : meth.sig.returnType = ret) (hX : va_X G.2 Lx xs s s.heap) (hG : G.2 < G.1) (hLx : Lx < 100000) (h0 : n0 = 0) (hK18 : ∀ (x3 : Int) (M : Mm), K18 (x3, M) → WW p l e room_1 s m #[Value.ref G.2] below meth c (lw_Z below #[Value.ref G.2] s) 4 D cy G n0 18 [(0, vR (some 1000)), (1, vR a1), (2, vR a2), (3, vI x3)] [] M) (h : P_L_law_423 Lx xs a1 a2 x3 M n0 K18) : WW p l e room_1 s m #[Value.ref G.2] below meth c (lw_Z below #[Value.ref G.2] s) 4 D cy G n0 423 [(0, vR (some 1000)), (1, vR a1), (2, vR a2), (3, vI x3)] [] M := by
  unfold P_L_law_423 at h
  refine w_aload_n C dL_law_423 rfl (mem_k 1 rfl) ?_
  refine w_aload_n C dL_law_424 rfl (mem_k 0 rfl) ?_
  refine w_iload_n C dL_law_425 rfl (mem_k 3 rfl) ?_
  refine w_iconst C dL_law_426 ⟨by decide, by decide⟩ ?_
  refine w_iadd C dL_law_427 h.1 ?_
  replace h := h.2
  obtain ⟨g152, g153, h⟩ := h
  refine w_sld C hX hG dL_law_428 ⟨g152, g153⟩ ?_
  refine w_aload_n C dL_law_429 rfl (mem_k 0 rfl) ?_
  refine w_iload_n C dL_law_430 rfl (mem_k 3 rfl) ?_
  refine w_iconst C dL_law_431 ⟨by decide, by decide⟩ ?_
  refine w_iadd C dL_law_432 h.1 ?_
  replace h := h.2
  obtain ⟨g154, g155, h⟩ := h
  refine w_sld C hX hG dL_law_433 ⟨g154, g155⟩ ?_
  refine w_aload_n C dL_law_434 rfl (mem_k 0 rfl) ?_
  refine w_iload_n C dL_law_435 rfl (mem_k 3 rfl) ?_
  refine w_iconst C dL_law_436 ⟨by decide, by decide⟩ ?_
  refine w_iadd C dL_law_437 h.1 ?_
  replace h := h.2
  obtain ⟨g156, g157, h⟩ := h
  refine w_sld C hX hG dL_law_438 ⟨g156, g157⟩ ?_
  refine w_aload_n C dL_law_439 rfl (mem_k 0 rfl) ?_
  refine w_iload_n C dL_law_440 rfl (mem_k 3 rfl) ?_
  refine w_iconst C dL_law_441 ⟨by decide, by decide⟩ ?_
  refine w_iadd C dL_law_442 h.1 ?_
  replace h := h.2
  obtain ⟨g158, g159, h⟩ := h
  refine w_sld C hX hG dL_law_443 ⟨g158, g159⟩ ?_
  obtain ⟨o160, g161, h⟩ := h
  obtain ⟨hn162, h⟩ := h
  obtain ⟨Q9, q9, h⟩ := h
  refine cw_X11_push (ck_L_47 ⟨by decide, by decide⟩) C dL_law_444 hn162 h0 (Nat.le_of_ble_eq_true rfl) g161 q9 (fun v163 M164 x9 hn165 => ?_)
  replace h := h v163 M164 x9
  replace h := h hn165
  refine w_aload_n C dL_law_447 rfl (mem_k 2 rfl) ?_
  refine w_aload_n C dL_law_448 rfl (mem_k 0 rfl) ?_
  refine w_iload_n C dL_law_449 rfl (mem_k 3 rfl) ?_
  refine w_iconst C dL_law_450 ⟨by decide, by decide⟩ ?_
  refine w_iadd C dL_law_451 h.1 ?_
  replace h := h.2
  obtain ⟨g166, g167, h⟩ := h
  refine w_sld C hX hG dL_law_452 ⟨g166, g167⟩ ?_
  refine w_aload_n C dL_law_453 rfl (mem_k 0 rfl) ?_
  refine w_iload_n C dL_law_454 rfl (mem_k 3 rfl) ?_
  refine w_iconst C dL_law_455 ⟨by decide, by decide⟩ ?_
  refine w_iadd C dL_law_456 h.1 ?_
  replace h := h.2
  obtain ⟨g168, g169, h⟩ := h
  refine w_sld C hX hG dL_law_457 ⟨g168, g169⟩ ?_
  refine w_aload_n C dL_law_458 rfl (mem_k 0 rfl) ?_
  refine w_iload_n C dL_law_459 rfl (mem_k 3 rfl) ?_
  refine w_iconst C dL_law_460 ⟨by decide, by decide⟩ ?_
  refine w_iadd C dL_law_461 h.1 ?_
  replace h := h.2
  obtain ⟨g170, g171, h⟩ := h
  refine w_sld C hX hG dL_law_462 ⟨g170, g171⟩ ?_
  refine w_aload_n C dL_law_463 rfl (mem_k 0 rfl) ?_
  refine w_iload_n C dL_law_464 rfl (mem_k 3 rfl) ?_
  refine w_iconst C dL_law_465 ⟨by decide, by decide⟩ ?_
  refine w_iadd C dL_law_466 h.1 ?_
  replace h := h.2
  obtain ⟨g172, g173, h⟩ := h
  refine w_sld C hX hG dL_law_467 ⟨g172, g173⟩ ?_
  obtain ⟨o174, g175, h⟩ := h
  obtain ⟨hn176, h⟩ := h
  obtain ⟨Q9, q9, h⟩ := h
  refine cw_X12_push (ck_L_51 ⟨by decide, by decide⟩) C dL_law_468 hn176 h0 (Nat.le_of_ble_eq_true rfl) g175 q9 (fun v177 M178 x9 hn179 => ?_)
  replace h := h v177 M178 x9
  replace h := h hn179
  refine w_icmp_eq (tgt := 1319) C dL_law_471 (by decide) (fun q => ?_) (fun q => ?_)
  · replace h := h.1 q
    obtain ⟨v180, ev180⟩ : ∃ z : Int, z = x3 + 7 := ⟨_, rfl⟩
    refine x_iinc (L' := [(3, vI v180), (0, vR (some 1000)), (1, vR a1), (2, vR a2)]) C dL_law_1319 (mem_k 3 rfl) (by decide) h.1 ev180 rfl ?_
    replace h := h.2 v180 ev180
    refine w_goto (tgt := 18) C dL_law_1322 (by decide) ?_
    refine x_pc (pc2 := 18) rfl ?_
    refine x_pick (L' := [(0, vR (some 1000)), (1, vR a1), (2, vR a2), (3, vI v180)]) [1, 2, 3, 0] rfl ?_
    exact hK18 v180 M178 h
  · replace h := h.2 q
    refine w_iconst C dL_law_474 ⟨by decide, by decide⟩ ?_
    exact h.elim
set_option maxRecDepth 100000 in
set_option maxHeartbeats 8000000 in
theorem k_L_law_476 {a1 : Option Nat} {a2 : Option Nat} {x3 : Int} {M : Mm} {K18 : Int × Mm → Prop} {Lx : Nat} {xs : Nat → Int32} (C : Cx p s m #[Value.ref G.2] meth c cL_law 4 RL D cy G n0) (hr : meth.sig.returnType = ret) (hX : va_X G.2 Lx xs s s.heap) (hG : G.2 < G.1) (hLx : Lx < 100000) (h0 : n0 = 0) (hK18 : ∀ (x3 : Int) (M : Mm), K18 (x3, M) → WW p l e room_1 s m #[Value.ref G.2] below meth c (lw_Z below #[Value.ref G.2] s) 4 D cy G n0 18 [(0, vR (some 1000)), (1, vR a1), (2, vR a2), (3, vI x3)] [] M) (h : P_L_law_476 Lx xs a1 a2 x3 M n0 K18) : WW p l e room_1 s m #[Value.ref G.2] below meth c (lw_Z below #[Value.ref G.2] s) 4 D cy G n0 476 [(0, vR (some 1000)), (1, vR a1), (2, vR a2), (3, vI x3)] [] M := by
  unfold P_L_law_476 at h
  refine w_aload_n C dL_law_476 rfl (mem_k 1 rfl) ?_
  refine w_aload_n C dL_law_477 rfl (mem_k 0 rfl) ?_
  refine w_iload_n C dL_law_478 rfl (mem_k 3 rfl) ?_
  refine w_iconst C dL_law_479 ⟨by decide, by decide⟩ ?_
  refine w_iadd C dL_law_480 h.1 ?_
  replace h := h.2
  obtain ⟨g181, g182, h⟩ := h
  refine w_sld C hX hG dL_law_481 ⟨g181, g182⟩ ?_
  refine w_aload_n C dL_law_482 rfl (mem_k 0 rfl) ?_
  refine w_iload_n C dL_law_483 rfl (mem_k 3 rfl) ?_
  refine w_iconst C dL_law_484 ⟨by decide, by decide⟩ ?_
  refine w_iadd C dL_law_485 h.1 ?_
  replace h := h.2
  obtain ⟨g183, g184, h⟩ := h
  refine w_sld C hX hG dL_law_486 ⟨g183, g184⟩ ?_
  refine w_aload_n C dL_law_487 rfl (mem_k 0 rfl) ?_
  refine w_iload_n C dL_law_488 rfl (mem_k 3 rfl) ?_
  refine w_iconst C dL_law_489 ⟨by decide, by decide⟩ ?_
  refine w_iadd C dL_law_490 h.1 ?_
  replace h := h.2
  obtain ⟨g185, g186, h⟩ := h
  refine w_sld C hX hG dL_law_491 ⟨g185, g186⟩ ?_
  obtain ⟨o187, g188, h⟩ := h
  obtain ⟨hn189, h⟩ := h
  obtain ⟨Q9, q9, h⟩ := h
  refine cw_X11_bears (ck_L_52 ⟨by decide, by decide⟩) C dL_law_492 hn189 h0 (Nat.le_of_ble_eq_true rfl) g188 q9 (fun v190 M191 x9 hn192 => ?_)
  replace h := h v190 M191 x9
  replace h := h hn192
  refine w_aload_n C dL_law_495 rfl (mem_k 2 rfl) ?_
  refine w_aload_n C dL_law_496 rfl (mem_k 0 rfl) ?_
  refine w_iload_n C dL_law_497 rfl (mem_k 3 rfl) ?_
  refine w_iconst C dL_law_498 ⟨by decide, by decide⟩ ?_
  refine w_iadd C dL_law_499 h.1 ?_
  replace h := h.2
  obtain ⟨g193, g194, h⟩ := h
  refine w_sld C hX hG dL_law_500 ⟨g193, g194⟩ ?_
  refine w_aload_n C dL_law_501 rfl (mem_k 0 rfl) ?_
  refine w_iload_n C dL_law_502 rfl (mem_k 3 rfl) ?_
  refine w_iconst C dL_law_503 ⟨by decide, by decide⟩ ?_
  refine w_iadd C dL_law_504 h.1 ?_
  replace h := h.2
  obtain ⟨g195, g196, h⟩ := h
  refine w_sld C hX hG dL_law_505 ⟨g195, g196⟩ ?_
  refine w_aload_n C dL_law_506 rfl (mem_k 0 rfl) ?_
  refine w_iload_n C dL_law_507 rfl (mem_k 3 rfl) ?_
  refine w_iconst C dL_law_508 ⟨by decide, by decide⟩ ?_
  refine w_iadd C dL_law_509 h.1 ?_
  replace h := h.2
  obtain ⟨g197, g198, h⟩ := h
  refine w_sld C hX hG dL_law_510 ⟨g197, g198⟩ ?_
  obtain ⟨o199, g200, h⟩ := h
  obtain ⟨hn201, h⟩ := h
  obtain ⟨Q9, q9, h⟩ := h
  refine cw_X12_bears (ck_L_55 ⟨by decide, by decide⟩) C dL_law_511 hn201 h0 (Nat.le_of_ble_eq_true rfl) g200 q9 (fun v202 M203 x9 hn204 => ?_)
  replace h := h v202 M203 x9
  replace h := h hn204
  refine w_icmp_eq (tgt := 1319) C dL_law_514 (by decide) (fun q => ?_) (fun q => ?_)
  · replace h := h.1 q
    obtain ⟨v205, ev205⟩ : ∃ z : Int, z = x3 + 7 := ⟨_, rfl⟩
    refine x_iinc (L' := [(3, vI v205), (0, vR (some 1000)), (1, vR a1), (2, vR a2)]) C dL_law_1319 (mem_k 3 rfl) (by decide) h.1 ev205 rfl ?_
    replace h := h.2 v205 ev205
    refine w_goto (tgt := 18) C dL_law_1322 (by decide) ?_
    refine x_pc (pc2 := 18) rfl ?_
    refine x_pick (L' := [(0, vR (some 1000)), (1, vR a1), (2, vR a2), (3, vI v205)]) [1, 2, 3, 0] rfl ?_
    exact hK18 v205 M203 h
  · replace h := h.2 q
    refine w_iconst C dL_law_517 ⟨by decide, by decide⟩ ?_
    exact h.elim
set_option maxRecDepth 100000 in
set_option maxHeartbeats 8000000 in
theorem k_L_law_519 {a1 : Option Nat} {a2 : Option Nat} {x3 : Int} {M : Mm} {K18 : Int × Mm → Prop} {Lx : Nat} {xs : Nat → Int32} (C : Cx p s m #[Value.ref G.2] meth c cL_law 4 RL D cy G n0) (hr : meth.sig.returnType = ret) (hX : va_X G.2 Lx xs s s.heap) (hG : G.2 < G.1) (hLx : Lx < 100000) (h0 : n0 = 0) (hK18 : ∀ (x3 : Int) (M : Mm), K18 (x3, M) → WW p l e room_1 s m #[Value.ref G.2] below meth c (lw_Z below #[Value.ref G.2] s) 4 D cy G n0 18 [(0, vR (some 1000)), (1, vR a1), (2, vR a2), (3, vI x3)] [] M) (h : P_L_law_519 Lx xs a1 a2 x3 M n0 K18) : WW p l e room_1 s m #[Value.ref G.2] below meth c (lw_Z below #[Value.ref G.2] s) 4 D cy G n0 519 [(0, vR (some 1000)), (1, vR a1), (2, vR a2), (3, vI x3)] [] M := by
  unfold P_L_law_519 at h
  refine w_aload_n C dL_law_519 rfl (mem_k 1 rfl) ?_
  refine w_aload_n C dL_law_520 rfl (mem_k 0 rfl) ?_
  refine w_iload_n C dL_law_521 rfl (mem_k 3 rfl) ?_
  refine w_iconst C dL_law_522 ⟨by decide, by decide⟩ ?_
  refine w_iadd C dL_law_523 h.1 ?_
  replace h := h.2
  obtain ⟨g206, g207, h⟩ := h
  refine w_sld C hX hG dL_law_524 ⟨g206, g207⟩ ?_
  refine w_aload_n C dL_law_525 rfl (mem_k 0 rfl) ?_
  refine w_iload_n C dL_law_526 rfl (mem_k 3 rfl) ?_
  refine w_iconst C dL_law_527 ⟨by decide, by decide⟩ ?_
  refine w_iadd C dL_law_528 h.1 ?_
  replace h := h.2
  obtain ⟨g208, g209, h⟩ := h
  refine w_sld C hX hG dL_law_529 ⟨g208, g209⟩ ?_
  refine w_aload_n C dL_law_530 rfl (mem_k 0 rfl) ?_
  refine w_iload_n C dL_law_531 rfl (mem_k 3 rfl) ?_
  refine w_iconst C dL_law_532 ⟨by decide, by decide⟩ ?_
  refine w_iadd C dL_law_533 h.1 ?_
  replace h := h.2
  obtain ⟨g210, g211, h⟩ := h
  refine w_sld C hX hG dL_law_534 ⟨g210, g211⟩ ?_
  obtain ⟨o212, g213, h⟩ := h
  obtain ⟨hn214, h⟩ := h
  obtain ⟨Q9, q9, h⟩ := h
  refine cw_X11_press (ck_L_56 ⟨by decide, by decide⟩) C dL_law_535 hn214 h0 (Nat.le_of_ble_eq_true rfl) g213 q9 (fun v215 M216 x9 hn217 => ?_)
  replace h := h v215 M216 x9
  replace h := h hn217
  refine w_aload_n C dL_law_538 rfl (mem_k 2 rfl) ?_
  refine w_aload_n C dL_law_539 rfl (mem_k 0 rfl) ?_
  refine w_iload_n C dL_law_540 rfl (mem_k 3 rfl) ?_
  refine w_iconst C dL_law_541 ⟨by decide, by decide⟩ ?_
  refine w_iadd C dL_law_542 h.1 ?_
  replace h := h.2
  obtain ⟨g218, g219, h⟩ := h
  refine w_sld C hX hG dL_law_543 ⟨g218, g219⟩ ?_
  refine w_aload_n C dL_law_544 rfl (mem_k 0 rfl) ?_
  refine w_iload_n C dL_law_545 rfl (mem_k 3 rfl) ?_
  refine w_iconst C dL_law_546 ⟨by decide, by decide⟩ ?_
  refine w_iadd C dL_law_547 h.1 ?_
  replace h := h.2
  obtain ⟨g220, g221, h⟩ := h
  refine w_sld C hX hG dL_law_548 ⟨g220, g221⟩ ?_
  refine w_aload_n C dL_law_549 rfl (mem_k 0 rfl) ?_
  refine w_iload_n C dL_law_550 rfl (mem_k 3 rfl) ?_
  refine w_iconst C dL_law_551 ⟨by decide, by decide⟩ ?_
  refine w_iadd C dL_law_552 h.1 ?_
  replace h := h.2
  obtain ⟨g222, g223, h⟩ := h
  refine w_sld C hX hG dL_law_553 ⟨g222, g223⟩ ?_
  obtain ⟨o224, g225, h⟩ := h
  obtain ⟨hn226, h⟩ := h
  obtain ⟨Q9, q9, h⟩ := h
  refine cw_X12_press (ck_L_59 ⟨by decide, by decide⟩) C dL_law_554 hn226 h0 (Nat.le_of_ble_eq_true rfl) g225 q9 (fun v227 M228 x9 hn229 => ?_)
  replace h := h v227 M228 x9
  replace h := h hn229
  refine w_icmp_eq (tgt := 1319) C dL_law_557 (by decide) (fun q => ?_) (fun q => ?_)
  · replace h := h.1 q
    obtain ⟨v230, ev230⟩ : ∃ z : Int, z = x3 + 7 := ⟨_, rfl⟩
    refine x_iinc (L' := [(3, vI v230), (0, vR (some 1000)), (1, vR a1), (2, vR a2)]) C dL_law_1319 (mem_k 3 rfl) (by decide) h.1 ev230 rfl ?_
    replace h := h.2 v230 ev230
    refine w_goto (tgt := 18) C dL_law_1322 (by decide) ?_
    refine x_pc (pc2 := 18) rfl ?_
    refine x_pick (L' := [(0, vR (some 1000)), (1, vR a1), (2, vR a2), (3, vI v230)]) [1, 2, 3, 0] rfl ?_
    exact hK18 v230 M228 h
  · replace h := h.2 q
    refine w_iconst C dL_law_560 ⟨by decide, by decide⟩ ?_
    exact h.elim
set_option maxRecDepth 100000 in
set_option maxHeartbeats 8000000 in
theorem k_L_law_562 {a1 : Option Nat} {a2 : Option Nat} {x3 : Int} {M : Mm} {K18 : Int × Mm → Prop} {Lx : Nat} {xs : Nat → Int32} (C : Cx p s m #[Value.ref G.2] meth c cL_law 4 RL D cy G n0) (hr : meth.sig.returnType = ret) (hX : va_X G.2 Lx xs s s.heap) (hG : G.2 < G.1) (hLx : Lx < 100000) (h0 : n0 = 0) (hK18 : ∀ (x3 : Int) (M : Mm), K18 (x3, M) → WW p l e room_1 s m #[Value.ref G.2] below meth c (lw_Z below #[Value.ref G.2] s) 4 D cy G n0 18 [(0, vR (some 1000)), (1, vR a1), (2, vR a2), (3, vI x3)] [] M) (h : P_L_law_562 Lx xs a1 a2 x3 M n0 K18) : WW p l e room_1 s m #[Value.ref G.2] below meth c (lw_Z below #[Value.ref G.2] s) 4 D cy G n0 562 [(0, vR (some 1000)), (1, vR a1), (2, vR a2), (3, vI x3)] [] M := by
  unfold P_L_law_562 at h
  refine w_aload_n C dL_law_562 rfl (mem_k 1 rfl) ?_
  refine w_aload_n C dL_law_563 rfl (mem_k 0 rfl) ?_
  refine w_iload_n C dL_law_564 rfl (mem_k 3 rfl) ?_
  refine w_iconst C dL_law_565 ⟨by decide, by decide⟩ ?_
  refine w_iadd C dL_law_566 h.1 ?_
  replace h := h.2
  obtain ⟨g231, g232, h⟩ := h
  refine w_sld C hX hG dL_law_567 ⟨g231, g232⟩ ?_
  obtain ⟨o233, g234, h⟩ := h
  obtain ⟨hn235, h⟩ := h
  obtain ⟨Q9, q9, h⟩ := h
  refine cw_X11_slack (ck_L_60 ⟨by decide, by decide⟩) C dL_law_568 hn235 h0 (Nat.le_of_ble_eq_true rfl) g234 q9 (fun v236 M237 x9 hn238 => ?_)
  replace h := h v236 M237 x9
  replace h := h hn238
  refine w_aload_n C dL_law_571 rfl (mem_k 2 rfl) ?_
  refine w_aload_n C dL_law_572 rfl (mem_k 0 rfl) ?_
  refine w_iload_n C dL_law_573 rfl (mem_k 3 rfl) ?_
  refine w_iconst C dL_law_574 ⟨by decide, by decide⟩ ?_
  refine w_iadd C dL_law_575 h.1 ?_
  replace h := h.2
  obtain ⟨g239, g240, h⟩ := h
  refine w_sld C hX hG dL_law_576 ⟨g239, g240⟩ ?_
  obtain ⟨o241, g242, h⟩ := h
  obtain ⟨hn243, h⟩ := h
  obtain ⟨Q9, q9, h⟩ := h
  refine cw_X12_slack (ck_L_64 ⟨by decide, by decide⟩) C dL_law_577 hn243 h0 (Nat.le_of_ble_eq_true rfl) g242 q9 (fun v244 M245 x9 hn246 => ?_)
  replace h := h v244 M245 x9
  replace h := h hn246
  refine w_icmp_eq (tgt := 1319) C dL_law_580 (by decide) (fun q => ?_) (fun q => ?_)
  · replace h := h.1 q
    obtain ⟨v247, ev247⟩ : ∃ z : Int, z = x3 + 7 := ⟨_, rfl⟩
    refine x_iinc (L' := [(3, vI v247), (0, vR (some 1000)), (1, vR a1), (2, vR a2)]) C dL_law_1319 (mem_k 3 rfl) (by decide) h.1 ev247 rfl ?_
    replace h := h.2 v247 ev247
    refine w_goto (tgt := 18) C dL_law_1322 (by decide) ?_
    refine x_pc (pc2 := 18) rfl ?_
    refine x_pick (L' := [(0, vR (some 1000)), (1, vR a1), (2, vR a2), (3, vI v247)]) [1, 2, 3, 0] rfl ?_
    exact hK18 v247 M245 h
  · replace h := h.2 q
    refine w_iconst C dL_law_583 ⟨by decide, by decide⟩ ?_
    exact h.elim
set_option maxRecDepth 100000 in
set_option maxHeartbeats 8000000 in
theorem k_L_law_585 {a1 : Option Nat} {a2 : Option Nat} {x3 : Int} {M : Mm} {K18 : Int × Mm → Prop} {Lx : Nat} {xs : Nat → Int32} (C : Cx p s m #[Value.ref G.2] meth c cL_law 4 RL D cy G n0) (hr : meth.sig.returnType = ret) (hX : va_X G.2 Lx xs s s.heap) (hG : G.2 < G.1) (hLx : Lx < 100000) (h0 : n0 = 0) (hK18 : ∀ (x3 : Int) (M : Mm), K18 (x3, M) → WW p l e room_1 s m #[Value.ref G.2] below meth c (lw_Z below #[Value.ref G.2] s) 4 D cy G n0 18 [(0, vR (some 1000)), (1, vR a1), (2, vR a2), (3, vI x3)] [] M) (h : P_L_law_585 Lx xs a1 a2 x3 M n0 K18) : WW p l e room_1 s m #[Value.ref G.2] below meth c (lw_Z below #[Value.ref G.2] s) 4 D cy G n0 585 [(0, vR (some 1000)), (1, vR a1), (2, vR a2), (3, vI x3)] [] M := by
  unfold P_L_law_585 at h
  refine w_aload_n C dL_law_585 rfl (mem_k 1 rfl) ?_
  refine w_aload_n C dL_law_586 rfl (mem_k 0 rfl) ?_
  refine w_iload_n C dL_law_587 rfl (mem_k 3 rfl) ?_
  refine w_iconst C dL_law_588 ⟨by decide, by decide⟩ ?_
  refine w_iadd C dL_law_589 h.1 ?_
  replace h := h.2
  obtain ⟨g248, g249, h⟩ := h
  refine w_sld C hX hG dL_law_590 ⟨g248, g249⟩ ?_
  refine w_aload_n C dL_law_591 rfl (mem_k 0 rfl) ?_
  refine w_iload_n C dL_law_592 rfl (mem_k 3 rfl) ?_
  refine w_iconst C dL_law_593 ⟨by decide, by decide⟩ ?_
  refine w_iadd C dL_law_594 h.1 ?_
  replace h := h.2
  obtain ⟨g250, g251, h⟩ := h
  refine w_sld C hX hG dL_law_595 ⟨g250, g251⟩ ?_
  refine w_aload_n C dL_law_596 rfl (mem_k 0 rfl) ?_
  refine w_iload_n C dL_law_597 rfl (mem_k 3 rfl) ?_
  refine w_iconst C dL_law_598 ⟨by decide, by decide⟩ ?_
  refine w_iadd C dL_law_599 h.1 ?_
  replace h := h.2
  obtain ⟨g252, g253, h⟩ := h
  refine w_sld C hX hG dL_law_600 ⟨g252, g253⟩ ?_
  refine w_aload_n C dL_law_601 rfl (mem_k 0 rfl) ?_
  refine w_iload_n C dL_law_602 rfl (mem_k 3 rfl) ?_
  refine w_iconst C dL_law_603 ⟨by decide, by decide⟩ ?_
  refine w_iadd C dL_law_604 h.1 ?_
  replace h := h.2
  obtain ⟨g254, g255, h⟩ := h
  refine w_sld C hX hG dL_law_605 ⟨g254, g255⟩ ?_
  obtain ⟨o256, g257, h⟩ := h
  obtain ⟨hn258, h⟩ := h
  obtain ⟨Q9, q9, h⟩ := h
  refine cw_X11_fits (ck_L_65 ⟨by decide, by decide⟩) C dL_law_606 hn258 h0 (Nat.le_of_ble_eq_true rfl) g257 q9 (fun v259 x9 => ?_)
  replace h := h v259 x9
  refine w_aload_n C dL_law_609 rfl (mem_k 2 rfl) ?_
  refine w_aload_n C dL_law_610 rfl (mem_k 0 rfl) ?_
  refine w_iload_n C dL_law_611 rfl (mem_k 3 rfl) ?_
  refine w_iconst C dL_law_612 ⟨by decide, by decide⟩ ?_
  refine w_iadd C dL_law_613 h.1 ?_
  replace h := h.2
  obtain ⟨g260, g261, h⟩ := h
  refine w_sld C hX hG dL_law_614 ⟨g260, g261⟩ ?_
  refine w_aload_n C dL_law_615 rfl (mem_k 0 rfl) ?_
  refine w_iload_n C dL_law_616 rfl (mem_k 3 rfl) ?_
  refine w_iconst C dL_law_617 ⟨by decide, by decide⟩ ?_
  refine w_iadd C dL_law_618 h.1 ?_
  replace h := h.2
  obtain ⟨g262, g263, h⟩ := h
  refine w_sld C hX hG dL_law_619 ⟨g262, g263⟩ ?_
  refine w_aload_n C dL_law_620 rfl (mem_k 0 rfl) ?_
  refine w_iload_n C dL_law_621 rfl (mem_k 3 rfl) ?_
  refine w_iconst C dL_law_622 ⟨by decide, by decide⟩ ?_
  refine w_iadd C dL_law_623 h.1 ?_
  replace h := h.2
  obtain ⟨g264, g265, h⟩ := h
  refine w_sld C hX hG dL_law_624 ⟨g264, g265⟩ ?_
  refine w_aload_n C dL_law_625 rfl (mem_k 0 rfl) ?_
  refine w_iload_n C dL_law_626 rfl (mem_k 3 rfl) ?_
  refine w_iconst C dL_law_627 ⟨by decide, by decide⟩ ?_
  refine w_iadd C dL_law_628 h.1 ?_
  replace h := h.2
  obtain ⟨g266, g267, h⟩ := h
  refine w_sld C hX hG dL_law_629 ⟨g266, g267⟩ ?_
  obtain ⟨o268, g269, h⟩ := h
  obtain ⟨hn270, h⟩ := h
  obtain ⟨Q9, q9, h⟩ := h
  refine cw_X12_fits (ck_L_68 ⟨by decide, by decide⟩) C dL_law_630 hn270 h0 (Nat.le_of_ble_eq_true rfl) g269 q9 (fun v271 x9 => ?_)
  replace h := h v271 x9
  refine w_icmp_eq (tgt := 1319) C dL_law_633 (by decide) (fun q => ?_) (fun q => ?_)
  · replace h := h.1 q
    obtain ⟨v272, ev272⟩ : ∃ z : Int, z = x3 + 7 := ⟨_, rfl⟩
    refine x_iinc (L' := [(3, vI v272), (0, vR (some 1000)), (1, vR a1), (2, vR a2)]) C dL_law_1319 (mem_k 3 rfl) (by decide) h.1 ev272 rfl ?_
    replace h := h.2 v272 ev272
    refine w_goto (tgt := 18) C dL_law_1322 (by decide) ?_
    refine x_pc (pc2 := 18) rfl ?_
    refine x_pick (L' := [(0, vR (some 1000)), (1, vR a1), (2, vR a2), (3, vI v272)]) [1, 2, 3, 0] rfl ?_
    exact hK18 v272 M h
  · replace h := h.2 q
    refine w_iconst C dL_law_636 ⟨by decide, by decide⟩ ?_
    exact h.elim
set_option maxRecDepth 100000 in
set_option maxHeartbeats 8000000 in
theorem k_L_law_638 {a1 : Option Nat} {a2 : Option Nat} {x3 : Int} {M : Mm} {K18 : Int × Mm → Prop} {Lx : Nat} {xs : Nat → Int32} (C : Cx p s m #[Value.ref G.2] meth c cL_law 4 RL D cy G n0) (hr : meth.sig.returnType = ret) (hX : va_X G.2 Lx xs s s.heap) (hG : G.2 < G.1) (hLx : Lx < 100000) (h0 : n0 = 0) (hK18 : ∀ (x3 : Int) (M : Mm), K18 (x3, M) → WW p l e room_1 s m #[Value.ref G.2] below meth c (lw_Z below #[Value.ref G.2] s) 4 D cy G n0 18 [(0, vR (some 1000)), (1, vR a1), (2, vR a2), (3, vI x3)] [] M) (h : P_L_law_638 Lx xs a1 a2 x3 M n0 K18) : WW p l e room_1 s m #[Value.ref G.2] below meth c (lw_Z below #[Value.ref G.2] s) 4 D cy G n0 638 [(0, vR (some 1000)), (1, vR a1), (2, vR a2), (3, vI x3)] [] M := by
  unfold P_L_law_638 at h
  refine w_aload_n C dL_law_638 rfl (mem_k 1 rfl) ?_
  refine w_aload_n C dL_law_639 rfl (mem_k 0 rfl) ?_
  refine w_iload_n C dL_law_640 rfl (mem_k 3 rfl) ?_
  refine w_iconst C dL_law_641 ⟨by decide, by decide⟩ ?_
  refine w_iadd C dL_law_642 h.1 ?_
  replace h := h.2
  obtain ⟨g273, g274, h⟩ := h
  refine w_sld C hX hG dL_law_643 ⟨g273, g274⟩ ?_
  refine w_aload_n C dL_law_644 rfl (mem_k 0 rfl) ?_
  refine w_iload_n C dL_law_645 rfl (mem_k 3 rfl) ?_
  refine w_iconst C dL_law_646 ⟨by decide, by decide⟩ ?_
  refine w_iadd C dL_law_647 h.1 ?_
  replace h := h.2
  obtain ⟨g275, g276, h⟩ := h
  refine w_sld C hX hG dL_law_648 ⟨g275, g276⟩ ?_
  obtain ⟨o277, g278, h⟩ := h
  obtain ⟨hn279, h⟩ := h
  obtain ⟨Q9, q9, h⟩ := h
  refine cw_X11_share (ck_L_69 ⟨by decide, by decide⟩) C dL_law_649 hn279 h0 (Nat.le_of_ble_eq_true rfl) g278 q9 (fun v280 M281 x9 hn282 => ?_)
  replace h := h v280 M281 x9
  replace h := h hn282
  refine w_aload_n C dL_law_652 rfl (mem_k 2 rfl) ?_
  refine w_aload_n C dL_law_653 rfl (mem_k 0 rfl) ?_
  refine w_iload_n C dL_law_654 rfl (mem_k 3 rfl) ?_
  refine w_iconst C dL_law_655 ⟨by decide, by decide⟩ ?_
  refine w_iadd C dL_law_656 h.1 ?_
  replace h := h.2
  obtain ⟨g283, g284, h⟩ := h
  refine w_sld C hX hG dL_law_657 ⟨g283, g284⟩ ?_
  refine w_aload_n C dL_law_658 rfl (mem_k 0 rfl) ?_
  refine w_iload_n C dL_law_659 rfl (mem_k 3 rfl) ?_
  refine w_iconst C dL_law_660 ⟨by decide, by decide⟩ ?_
  refine w_iadd C dL_law_661 h.1 ?_
  replace h := h.2
  obtain ⟨g285, g286, h⟩ := h
  refine w_sld C hX hG dL_law_662 ⟨g285, g286⟩ ?_
  obtain ⟨o287, g288, h⟩ := h
  obtain ⟨hn289, h⟩ := h
  obtain ⟨Q9, q9, h⟩ := h
  refine cw_X12_share (ck_L_73 ⟨by decide, by decide⟩) C dL_law_663 hn289 h0 (Nat.le_of_ble_eq_true rfl) g288 q9 (fun v290 M291 x9 hn292 => ?_)
  replace h := h v290 M291 x9
  replace h := h hn292
  refine w_icmp_eq (tgt := 1319) C dL_law_666 (by decide) (fun q => ?_) (fun q => ?_)
  · replace h := h.1 q
    obtain ⟨v293, ev293⟩ : ∃ z : Int, z = x3 + 7 := ⟨_, rfl⟩
    refine x_iinc (L' := [(3, vI v293), (0, vR (some 1000)), (1, vR a1), (2, vR a2)]) C dL_law_1319 (mem_k 3 rfl) (by decide) h.1 ev293 rfl ?_
    replace h := h.2 v293 ev293
    refine w_goto (tgt := 18) C dL_law_1322 (by decide) ?_
    refine x_pc (pc2 := 18) rfl ?_
    refine x_pick (L' := [(0, vR (some 1000)), (1, vR a1), (2, vR a2), (3, vI v293)]) [1, 2, 3, 0] rfl ?_
    exact hK18 v293 M291 h
  · replace h := h.2 q
    refine w_iconst C dL_law_669 ⟨by decide, by decide⟩ ?_
    exact h.elim
set_option maxRecDepth 100000 in
set_option maxHeartbeats 8000000 in
theorem k_L_law_671 {a1 : Option Nat} {a2 : Option Nat} {x3 : Int} {M : Mm} {K18 : Int × Mm → Prop} {Lx : Nat} {xs : Nat → Int32} (C : Cx p s m #[Value.ref G.2] meth c cL_law 4 RL D cy G n0) (hr : meth.sig.returnType = ret) (hX : va_X G.2 Lx xs s s.heap) (hG : G.2 < G.1) (hLx : Lx < 100000) (h0 : n0 = 0) (hK18 : ∀ (x3 : Int) (M : Mm), K18 (x3, M) → WW p l e room_1 s m #[Value.ref G.2] below meth c (lw_Z below #[Value.ref G.2] s) 4 D cy G n0 18 [(0, vR (some 1000)), (1, vR a1), (2, vR a2), (3, vI x3)] [] M) (h : P_L_law_671 Lx xs a1 a2 x3 M n0 K18) : WW p l e room_1 s m #[Value.ref G.2] below meth c (lw_Z below #[Value.ref G.2] s) 4 D cy G n0 671 [(0, vR (some 1000)), (1, vR a1), (2, vR a2), (3, vI x3)] [] M := by
  unfold P_L_law_671 at h
  refine w_aload_n C dL_law_671 rfl (mem_k 1 rfl) ?_
  refine w_aload_n C dL_law_672 rfl (mem_k 0 rfl) ?_
  refine w_iload_n C dL_law_673 rfl (mem_k 3 rfl) ?_
  refine w_iconst C dL_law_674 ⟨by decide, by decide⟩ ?_
  refine w_iadd C dL_law_675 h.1 ?_
  replace h := h.2
  obtain ⟨g294, g295, h⟩ := h
  refine w_sld C hX hG dL_law_676 ⟨g294, g295⟩ ?_
  refine w_aload_n C dL_law_677 rfl (mem_k 0 rfl) ?_
  refine w_iload_n C dL_law_678 rfl (mem_k 3 rfl) ?_
  refine w_iconst C dL_law_679 ⟨by decide, by decide⟩ ?_
  refine w_iadd C dL_law_680 h.1 ?_
  replace h := h.2
  obtain ⟨g296, g297, h⟩ := h
  refine w_sld C hX hG dL_law_681 ⟨g296, g297⟩ ?_
  obtain ⟨o298, g299, h⟩ := h
  obtain ⟨hn300, h⟩ := h
  obtain ⟨Q9, q9, h⟩ := h
  refine cw_X11_setting (ck_L_74 ⟨by decide, by decide⟩) C dL_law_682 hn300 h0 (Nat.le_of_ble_eq_true rfl) g299 q9 (fun v301 x9 => ?_)
  replace h := h v301 x9
  refine w_aload_n C dL_law_685 rfl (mem_k 2 rfl) ?_
  refine w_aload_n C dL_law_686 rfl (mem_k 0 rfl) ?_
  refine w_iload_n C dL_law_687 rfl (mem_k 3 rfl) ?_
  refine w_iconst C dL_law_688 ⟨by decide, by decide⟩ ?_
  refine w_iadd C dL_law_689 h.1 ?_
  replace h := h.2
  obtain ⟨g302, g303, h⟩ := h
  refine w_sld C hX hG dL_law_690 ⟨g302, g303⟩ ?_
  refine w_aload_n C dL_law_691 rfl (mem_k 0 rfl) ?_
  refine w_iload_n C dL_law_692 rfl (mem_k 3 rfl) ?_
  refine w_iconst C dL_law_693 ⟨by decide, by decide⟩ ?_
  refine w_iadd C dL_law_694 h.1 ?_
  replace h := h.2
  obtain ⟨g304, g305, h⟩ := h
  refine w_sld C hX hG dL_law_695 ⟨g304, g305⟩ ?_
  obtain ⟨o306, g307, h⟩ := h
  obtain ⟨hn308, h⟩ := h
  obtain ⟨Q9, q9, h⟩ := h
  refine cw_X12_setting (ck_L_77 ⟨by decide, by decide⟩) C dL_law_696 hn308 h0 (Nat.le_of_ble_eq_true rfl) g307 q9 (fun v309 x9 => ?_)
  replace h := h v309 x9
  refine w_icmp_eq (tgt := 1319) C dL_law_699 (by decide) (fun q => ?_) (fun q => ?_)
  · replace h := h.1 q
    obtain ⟨v310, ev310⟩ : ∃ z : Int, z = x3 + 7 := ⟨_, rfl⟩
    refine x_iinc (L' := [(3, vI v310), (0, vR (some 1000)), (1, vR a1), (2, vR a2)]) C dL_law_1319 (mem_k 3 rfl) (by decide) h.1 ev310 rfl ?_
    replace h := h.2 v310 ev310
    refine w_goto (tgt := 18) C dL_law_1322 (by decide) ?_
    refine x_pc (pc2 := 18) rfl ?_
    refine x_pick (L' := [(0, vR (some 1000)), (1, vR a1), (2, vR a2), (3, vI v310)]) [1, 2, 3, 0] rfl ?_
    exact hK18 v310 M h
  · replace h := h.2 q
    refine w_iconst C dL_law_702 ⟨by decide, by decide⟩ ?_
    exact h.elim
set_option maxRecDepth 100000 in
set_option maxHeartbeats 8000000 in
theorem k_L_law_704 {a1 : Option Nat} {a2 : Option Nat} {x3 : Int} {M : Mm} {K18 : Int × Mm → Prop} {Lx : Nat} {xs : Nat → Int32} (C : Cx p s m #[Value.ref G.2] meth c cL_law 4 RL D cy G n0) (hr : meth.sig.returnType = ret) (hX : va_X G.2 Lx xs s s.heap) (hG : G.2 < G.1) (hLx : Lx < 100000) (h0 : n0 = 0) (hK18 : ∀ (x3 : Int) (M : Mm), K18 (x3, M) → WW p l e room_1 s m #[Value.ref G.2] below meth c (lw_Z below #[Value.ref G.2] s) 4 D cy G n0 18 [(0, vR (some 1000)), (1, vR a1), (2, vR a2), (3, vI x3)] [] M) (h : P_L_law_704 Lx xs a1 a2 x3 M n0 K18) : WW p l e room_1 s m #[Value.ref G.2] below meth c (lw_Z below #[Value.ref G.2] s) 4 D cy G n0 704 [(0, vR (some 1000)), (1, vR a1), (2, vR a2), (3, vI x3)] [] M := by
  unfold P_L_law_704 at h
  refine w_aload_n C dL_law_704 rfl (mem_k 1 rfl) ?_
  refine w_aload_n C dL_law_705 rfl (mem_k 0 rfl) ?_
  refine w_iload_n C dL_law_706 rfl (mem_k 3 rfl) ?_
  refine w_iconst C dL_law_707 ⟨by decide, by decide⟩ ?_
  refine w_iadd C dL_law_708 h.1 ?_
  replace h := h.2
  obtain ⟨g311, g312, h⟩ := h
  refine w_sld C hX hG dL_law_709 ⟨g311, g312⟩ ?_
  obtain ⟨o313, g314, h⟩ := h
  obtain ⟨hn315, h⟩ := h
  obtain ⟨Q9, q9, h⟩ := h
  refine cw_X11_fewest (ck_L_78 ⟨by decide, by decide⟩) C dL_law_710 hn315 h0 (Nat.le_of_ble_eq_true rfl) g314 q9 (fun v316 M317 x9 hn318 => ?_)
  replace h := h v316 M317 x9
  replace h := h hn318
  refine w_aload_n C dL_law_713 rfl (mem_k 2 rfl) ?_
  refine w_aload_n C dL_law_714 rfl (mem_k 0 rfl) ?_
  refine w_iload_n C dL_law_715 rfl (mem_k 3 rfl) ?_
  refine w_iconst C dL_law_716 ⟨by decide, by decide⟩ ?_
  refine w_iadd C dL_law_717 h.1 ?_
  replace h := h.2
  obtain ⟨g319, g320, h⟩ := h
  refine w_sld C hX hG dL_law_718 ⟨g319, g320⟩ ?_
  obtain ⟨o321, g322, h⟩ := h
  obtain ⟨hn323, h⟩ := h
  obtain ⟨Q9, q9, h⟩ := h
  refine cw_X12_fewest (ck_L_81 ⟨by decide, by decide⟩) C dL_law_719 hn323 h0 (Nat.le_of_ble_eq_true rfl) g322 q9 (fun v324 M325 x9 hn326 => ?_)
  replace h := h v324 M325 x9
  replace h := h hn326
  refine w_icmp_eq (tgt := 1319) C dL_law_722 (by decide) (fun q => ?_) (fun q => ?_)
  · replace h := h.1 q
    obtain ⟨v327, ev327⟩ : ∃ z : Int, z = x3 + 7 := ⟨_, rfl⟩
    refine x_iinc (L' := [(3, vI v327), (0, vR (some 1000)), (1, vR a1), (2, vR a2)]) C dL_law_1319 (mem_k 3 rfl) (by decide) h.1 ev327 rfl ?_
    replace h := h.2 v327 ev327
    refine w_goto (tgt := 18) C dL_law_1322 (by decide) ?_
    refine x_pc (pc2 := 18) rfl ?_
    refine x_pick (L' := [(0, vR (some 1000)), (1, vR a1), (2, vR a2), (3, vI v327)]) [1, 2, 3, 0] rfl ?_
    exact hK18 v327 M325 h
  · replace h := h.2 q
    refine w_iconst C dL_law_725 ⟨by decide, by decide⟩ ?_
    exact h.elim
set_option maxRecDepth 100000 in
set_option maxHeartbeats 8000000 in
theorem k_L_law_727 {a1 : Option Nat} {a2 : Option Nat} {x3 : Int} {M : Mm} {K18 : Int × Mm → Prop} {Lx : Nat} {xs : Nat → Int32} (C : Cx p s m #[Value.ref G.2] meth c cL_law 4 RL D cy G n0) (hr : meth.sig.returnType = ret) (hX : va_X G.2 Lx xs s s.heap) (hG : G.2 < G.1) (hLx : Lx < 100000) (h0 : n0 = 0) (hK18 : ∀ (x3 : Int) (M : Mm), K18 (x3, M) → WW p l e room_1 s m #[Value.ref G.2] below meth c (lw_Z below #[Value.ref G.2] s) 4 D cy G n0 18 [(0, vR (some 1000)), (1, vR a1), (2, vR a2), (3, vI x3)] [] M) (h : P_L_law_727 Lx xs a1 a2 x3 M n0 K18) : WW p l e room_1 s m #[Value.ref G.2] below meth c (lw_Z below #[Value.ref G.2] s) 4 D cy G n0 727 [(0, vR (some 1000)), (1, vR a1), (2, vR a2), (3, vI x3)] [] M := by
  unfold P_L_law_727 at h
  refine w_aload_n C dL_law_727 rfl (mem_k 1 rfl) ?_
  refine w_aload_n C dL_law_728 rfl (mem_k 0 rfl) ?_
  refine w_iload_n C dL_law_729 rfl (mem_k 3 rfl) ?_
  refine w_iconst C dL_law_730 ⟨by decide, by decide⟩ ?_
  refine w_iadd C dL_law_731 h.1 ?_
  replace h := h.2
  obtain ⟨g328, g329, h⟩ := h
  refine w_sld C hX hG dL_law_732 ⟨g328, g329⟩ ?_
  refine w_aload_n C dL_law_733 rfl (mem_k 0 rfl) ?_
  refine w_iload_n C dL_law_734 rfl (mem_k 3 rfl) ?_
  refine w_iconst C dL_law_735 ⟨by decide, by decide⟩ ?_
  refine w_iadd C dL_law_736 h.1 ?_
  replace h := h.2
  obtain ⟨g330, g331, h⟩ := h
  refine w_sld C hX hG dL_law_737 ⟨g330, g331⟩ ?_
  obtain ⟨o332, g333, h⟩ := h
  obtain ⟨hn334, h⟩ := h
  obtain ⟨Q9, q9, h⟩ := h
  refine cw_X11_law (ck_L_82 ⟨by decide, by decide⟩) C dL_law_738 hn334 h0 (Nat.le_of_ble_eq_true rfl) g333 q9 (fun v335 M336 x9 hn337 => ?_)
  replace h := h v335 M336 x9
  replace h := h hn337
  refine w_aload_n C dL_law_741 rfl (mem_k 2 rfl) ?_
  refine w_aload_n C dL_law_742 rfl (mem_k 0 rfl) ?_
  refine w_iload_n C dL_law_743 rfl (mem_k 3 rfl) ?_
  refine w_iconst C dL_law_744 ⟨by decide, by decide⟩ ?_
  refine w_iadd C dL_law_745 h.1 ?_
  replace h := h.2
  obtain ⟨g338, g339, h⟩ := h
  refine w_sld C hX hG dL_law_746 ⟨g338, g339⟩ ?_
  refine w_aload_n C dL_law_747 rfl (mem_k 0 rfl) ?_
  refine w_iload_n C dL_law_748 rfl (mem_k 3 rfl) ?_
  refine w_iconst C dL_law_749 ⟨by decide, by decide⟩ ?_
  refine w_iadd C dL_law_750 h.1 ?_
  replace h := h.2
  obtain ⟨g340, g341, h⟩ := h
  refine w_sld C hX hG dL_law_751 ⟨g340, g341⟩ ?_
  obtain ⟨o342, g343, h⟩ := h
  obtain ⟨hn344, h⟩ := h
  obtain ⟨Q9, q9, h⟩ := h
  refine cw_X12_law (ck_L_85 ⟨by decide, by decide⟩) C dL_law_752 hn344 h0 (Nat.le_of_ble_eq_true rfl) g343 q9 (fun v345 M346 x9 hn347 => ?_)
  replace h := h v345 M346 x9
  replace h := h hn347
  refine w_icmp_eq (tgt := 1319) C dL_law_755 (by decide) (fun q => ?_) (fun q => ?_)
  · replace h := h.1 q
    obtain ⟨v348, ev348⟩ : ∃ z : Int, z = x3 + 7 := ⟨_, rfl⟩
    refine x_iinc (L' := [(3, vI v348), (0, vR (some 1000)), (1, vR a1), (2, vR a2)]) C dL_law_1319 (mem_k 3 rfl) (by decide) h.1 ev348 rfl ?_
    replace h := h.2 v348 ev348
    refine w_goto (tgt := 18) C dL_law_1322 (by decide) ?_
    refine x_pc (pc2 := 18) rfl ?_
    refine x_pick (L' := [(0, vR (some 1000)), (1, vR a1), (2, vR a2), (3, vI v348)]) [1, 2, 3, 0] rfl ?_
    exact hK18 v348 M346 h
  · replace h := h.2 q
    refine w_iconst C dL_law_758 ⟨by decide, by decide⟩ ?_
    exact h.elim
set_option maxRecDepth 100000 in
set_option maxHeartbeats 8000000 in
theorem k_L_law_760 {a1 : Option Nat} {a2 : Option Nat} {x3 : Int} {M : Mm} {K18 : Int × Mm → Prop} {Lx : Nat} {xs : Nat → Int32} (C : Cx p s m #[Value.ref G.2] meth c cL_law 4 RL D cy G n0) (hr : meth.sig.returnType = ret) (hX : va_X G.2 Lx xs s s.heap) (hG : G.2 < G.1) (hLx : Lx < 100000) (h0 : n0 = 0) (hK18 : ∀ (x3 : Int) (M : Mm), K18 (x3, M) → WW p l e room_1 s m #[Value.ref G.2] below meth c (lw_Z below #[Value.ref G.2] s) 4 D cy G n0 18 [(0, vR (some 1000)), (1, vR a1), (2, vR a2), (3, vI x3)] [] M) (h : P_L_law_760 Lx xs a1 a2 x3 M n0 K18) : WW p l e room_1 s m #[Value.ref G.2] below meth c (lw_Z below #[Value.ref G.2] s) 4 D cy G n0 760 [(0, vR (some 1000)), (1, vR a1), (2, vR a2), (3, vI x3)] [] M := by
  unfold P_L_law_760 at h
  refine w_aload_n C dL_law_760 rfl (mem_k 1 rfl) ?_
  refine w_aload_n C dL_law_761 rfl (mem_k 0 rfl) ?_
  refine w_iload_n C dL_law_762 rfl (mem_k 3 rfl) ?_
  refine w_iconst C dL_law_763 ⟨by decide, by decide⟩ ?_
  refine w_iadd C dL_law_764 h.1 ?_
  replace h := h.2
  obtain ⟨g349, g350, h⟩ := h
  refine w_sld C hX hG dL_law_765 ⟨g349, g350⟩ ?_
  refine w_aload_n C dL_law_766 rfl (mem_k 0 rfl) ?_
  refine w_iload_n C dL_law_767 rfl (mem_k 3 rfl) ?_
  refine w_iconst C dL_law_768 ⟨by decide, by decide⟩ ?_
  refine w_iadd C dL_law_769 h.1 ?_
  replace h := h.2
  obtain ⟨g351, g352, h⟩ := h
  refine w_sld C hX hG dL_law_770 ⟨g351, g352⟩ ?_
  refine w_aload_n C dL_law_771 rfl (mem_k 0 rfl) ?_
  refine w_iload_n C dL_law_772 rfl (mem_k 3 rfl) ?_
  refine w_iconst C dL_law_773 ⟨by decide, by decide⟩ ?_
  refine w_iadd C dL_law_774 h.1 ?_
  replace h := h.2
  obtain ⟨g353, g354, h⟩ := h
  refine w_sld C hX hG dL_law_775 ⟨g353, g354⟩ ?_
  obtain ⟨o355, g356, h⟩ := h
  obtain ⟨hn357, h⟩ := h
  obtain ⟨Q9, q9, h⟩ := h
  refine cw_X11_hours (ck_L_86 ⟨by decide, by decide⟩) C dL_law_776 hn357 h0 (Nat.le_of_ble_eq_true rfl) g356 q9 (fun v358 M359 x9 hn360 => ?_)
  replace h := h v358 M359 x9
  replace h := h hn360
  refine w_aload_n C dL_law_779 rfl (mem_k 2 rfl) ?_
  refine w_aload_n C dL_law_780 rfl (mem_k 0 rfl) ?_
  refine w_iload_n C dL_law_781 rfl (mem_k 3 rfl) ?_
  refine w_iconst C dL_law_782 ⟨by decide, by decide⟩ ?_
  refine w_iadd C dL_law_783 h.1 ?_
  replace h := h.2
  obtain ⟨g361, g362, h⟩ := h
  refine w_sld C hX hG dL_law_784 ⟨g361, g362⟩ ?_
  refine w_aload_n C dL_law_785 rfl (mem_k 0 rfl) ?_
  refine w_iload_n C dL_law_786 rfl (mem_k 3 rfl) ?_
  refine w_iconst C dL_law_787 ⟨by decide, by decide⟩ ?_
  refine w_iadd C dL_law_788 h.1 ?_
  replace h := h.2
  obtain ⟨g363, g364, h⟩ := h
  refine w_sld C hX hG dL_law_789 ⟨g363, g364⟩ ?_
  refine w_aload_n C dL_law_790 rfl (mem_k 0 rfl) ?_
  refine w_iload_n C dL_law_791 rfl (mem_k 3 rfl) ?_
  refine w_iconst C dL_law_792 ⟨by decide, by decide⟩ ?_
  refine w_iadd C dL_law_793 h.1 ?_
  replace h := h.2
  obtain ⟨g365, g366, h⟩ := h
  refine w_sld C hX hG dL_law_794 ⟨g365, g366⟩ ?_
  obtain ⟨o367, g368, h⟩ := h
  obtain ⟨hn369, h⟩ := h
  obtain ⟨Q9, q9, h⟩ := h
  refine cw_X12_hours (ck_L_89 ⟨by decide, by decide⟩) C dL_law_795 hn369 h0 (Nat.le_of_ble_eq_true rfl) g368 q9 (fun v370 M371 x9 hn372 => ?_)
  replace h := h v370 M371 x9
  replace h := h hn372
  refine w_icmp_eq (tgt := 1319) C dL_law_798 (by decide) (fun q => ?_) (fun q => ?_)
  · replace h := h.1 q
    obtain ⟨v373, ev373⟩ : ∃ z : Int, z = x3 + 7 := ⟨_, rfl⟩
    refine x_iinc (L' := [(3, vI v373), (0, vR (some 1000)), (1, vR a1), (2, vR a2)]) C dL_law_1319 (mem_k 3 rfl) (by decide) h.1 ev373 rfl ?_
    replace h := h.2 v373 ev373
    refine w_goto (tgt := 18) C dL_law_1322 (by decide) ?_
    refine x_pc (pc2 := 18) rfl ?_
    refine x_pick (L' := [(0, vR (some 1000)), (1, vR a1), (2, vR a2), (3, vI v373)]) [1, 2, 3, 0] rfl ?_
    exact hK18 v373 M371 h
  · replace h := h.2 q
    refine w_iconst C dL_law_801 ⟨by decide, by decide⟩ ?_
    exact h.elim
set_option maxRecDepth 100000 in
set_option maxHeartbeats 8000000 in
theorem k_L_law_803 {a1 : Option Nat} {a2 : Option Nat} {x3 : Int} {M : Mm} {K18 : Int × Mm → Prop} {Lx : Nat} {xs : Nat → Int32} (C : Cx p s m #[Value.ref G.2] meth c cL_law 4 RL D cy G n0) (hr : meth.sig.returnType = ret) (hX : va_X G.2 Lx xs s s.heap) (hG : G.2 < G.1) (hLx : Lx < 100000) (h0 : n0 = 0) (hK18 : ∀ (x3 : Int) (M : Mm), K18 (x3, M) → WW p l e room_1 s m #[Value.ref G.2] below meth c (lw_Z below #[Value.ref G.2] s) 4 D cy G n0 18 [(0, vR (some 1000)), (1, vR a1), (2, vR a2), (3, vI x3)] [] M) (h : P_L_law_803 Lx xs a1 a2 x3 M n0 K18) : WW p l e room_1 s m #[Value.ref G.2] below meth c (lw_Z below #[Value.ref G.2] s) 4 D cy G n0 803 [(0, vR (some 1000)), (1, vR a1), (2, vR a2), (3, vI x3)] [] M := by
  unfold P_L_law_803 at h
  refine w_aload_n C dL_law_803 rfl (mem_k 1 rfl) ?_
  refine w_aload_n C dL_law_804 rfl (mem_k 0 rfl) ?_
  refine w_iload_n C dL_law_805 rfl (mem_k 3 rfl) ?_
  refine w_iconst C dL_law_806 ⟨by decide, by decide⟩ ?_
  refine w_iadd C dL_law_807 h.1 ?_
  replace h := h.2
  obtain ⟨g374, g375, h⟩ := h
  refine w_sld C hX hG dL_law_808 ⟨g374, g375⟩ ?_
  refine w_aload_n C dL_law_809 rfl (mem_k 0 rfl) ?_
  refine w_iload_n C dL_law_810 rfl (mem_k 3 rfl) ?_
  refine w_iconst C dL_law_811 ⟨by decide, by decide⟩ ?_
  refine w_iadd C dL_law_812 h.1 ?_
  replace h := h.2
  obtain ⟨g376, g377, h⟩ := h
  refine w_sld C hX hG dL_law_813 ⟨g376, g377⟩ ?_
  refine w_aload_n C dL_law_814 rfl (mem_k 0 rfl) ?_
  refine w_iload_n C dL_law_815 rfl (mem_k 3 rfl) ?_
  refine w_iconst C dL_law_816 ⟨by decide, by decide⟩ ?_
  refine w_iadd C dL_law_817 h.1 ?_
  replace h := h.2
  obtain ⟨g378, g379, h⟩ := h
  refine w_sld C hX hG dL_law_818 ⟨g378, g379⟩ ?_
  refine w_aload_n C dL_law_819 rfl (mem_k 0 rfl) ?_
  refine w_iload_n C dL_law_820 rfl (mem_k 3 rfl) ?_
  refine w_iconst C dL_law_821 ⟨by decide, by decide⟩ ?_
  refine w_iadd C dL_law_822 h.1 ?_
  replace h := h.2
  obtain ⟨g380, g381, h⟩ := h
  refine w_sld C hX hG dL_law_823 ⟨g380, g381⟩ ?_
  refine w_aload_n C dL_law_824 rfl (mem_k 0 rfl) ?_
  refine w_iload_n C dL_law_825 rfl (mem_k 3 rfl) ?_
  refine w_iconst C dL_law_826 ⟨by decide, by decide⟩ ?_
  refine w_iadd C dL_law_827 h.1 ?_
  replace h := h.2
  obtain ⟨g382, g383, h⟩ := h
  refine w_sld C hX hG dL_law_828 ⟨g382, g383⟩ ?_
  obtain ⟨o384, g385, h⟩ := h
  obtain ⟨hn386, h⟩ := h
  obtain ⟨Q9, q9, h⟩ := h
  refine cw_X11_stops (ck_L_90 ⟨by decide, by decide⟩) C dL_law_829 hn386 h0 (Nat.le_of_ble_eq_true rfl) g385 q9 (fun v387 M388 x9 hn389 => ?_)
  replace h := h v387 M388 x9
  replace h := h hn389
  refine w_aload_n C dL_law_832 rfl (mem_k 2 rfl) ?_
  refine w_aload_n C dL_law_833 rfl (mem_k 0 rfl) ?_
  refine w_iload_n C dL_law_834 rfl (mem_k 3 rfl) ?_
  refine w_iconst C dL_law_835 ⟨by decide, by decide⟩ ?_
  refine w_iadd C dL_law_836 h.1 ?_
  replace h := h.2
  obtain ⟨g390, g391, h⟩ := h
  refine w_sld C hX hG dL_law_837 ⟨g390, g391⟩ ?_
  refine w_aload_n C dL_law_838 rfl (mem_k 0 rfl) ?_
  refine w_iload_n C dL_law_839 rfl (mem_k 3 rfl) ?_
  refine w_iconst C dL_law_840 ⟨by decide, by decide⟩ ?_
  refine w_iadd C dL_law_841 h.1 ?_
  replace h := h.2
  obtain ⟨g392, g393, h⟩ := h
  refine w_sld C hX hG dL_law_842 ⟨g392, g393⟩ ?_
  refine w_aload_n C dL_law_843 rfl (mem_k 0 rfl) ?_
  refine w_iload_n C dL_law_844 rfl (mem_k 3 rfl) ?_
  refine w_iconst C dL_law_845 ⟨by decide, by decide⟩ ?_
  refine w_iadd C dL_law_846 h.1 ?_
  replace h := h.2
  obtain ⟨g394, g395, h⟩ := h
  refine w_sld C hX hG dL_law_847 ⟨g394, g395⟩ ?_
  refine w_aload_n C dL_law_848 rfl (mem_k 0 rfl) ?_
  refine w_iload_n C dL_law_849 rfl (mem_k 3 rfl) ?_
  refine w_iconst C dL_law_850 ⟨by decide, by decide⟩ ?_
  refine w_iadd C dL_law_851 h.1 ?_
  replace h := h.2
  obtain ⟨g396, g397, h⟩ := h
  refine w_sld C hX hG dL_law_852 ⟨g396, g397⟩ ?_
  refine w_aload_n C dL_law_853 rfl (mem_k 0 rfl) ?_
  refine w_iload_n C dL_law_854 rfl (mem_k 3 rfl) ?_
  refine w_iconst C dL_law_855 ⟨by decide, by decide⟩ ?_
  refine w_iadd C dL_law_856 h.1 ?_
  replace h := h.2
  obtain ⟨g398, g399, h⟩ := h
  refine w_sld C hX hG dL_law_857 ⟨g398, g399⟩ ?_
  obtain ⟨o400, g401, h⟩ := h
  obtain ⟨hn402, h⟩ := h
  obtain ⟨Q9, q9, h⟩ := h
  refine cw_X12_stops (ck_L_94 ⟨by decide, by decide⟩) C dL_law_858 hn402 h0 (Nat.le_of_ble_eq_true rfl) g401 q9 (fun v403 M404 x9 hn405 => ?_)
  replace h := h v403 M404 x9
  replace h := h hn405
  refine w_icmp_eq (tgt := 1319) C dL_law_861 (by decide) (fun q => ?_) (fun q => ?_)
  · replace h := h.1 q
    obtain ⟨v406, ev406⟩ : ∃ z : Int, z = x3 + 7 := ⟨_, rfl⟩
    refine x_iinc (L' := [(3, vI v406), (0, vR (some 1000)), (1, vR a1), (2, vR a2)]) C dL_law_1319 (mem_k 3 rfl) (by decide) h.1 ev406 rfl ?_
    replace h := h.2 v406 ev406
    refine w_goto (tgt := 18) C dL_law_1322 (by decide) ?_
    refine x_pc (pc2 := 18) rfl ?_
    refine x_pick (L' := [(0, vR (some 1000)), (1, vR a1), (2, vR a2), (3, vI v406)]) [1, 2, 3, 0] rfl ?_
    exact hK18 v406 M404 h
  · replace h := h.2 q
    refine w_iconst C dL_law_864 ⟨by decide, by decide⟩ ?_
    exact h.elim
set_option maxRecDepth 100000 in
set_option maxHeartbeats 8000000 in
theorem k_L_law_866 {a1 : Option Nat} {a2 : Option Nat} {x3 : Int} {M : Mm} {K18 : Int × Mm → Prop} {Lx : Nat} {xs : Nat → Int32} (C : Cx p s m #[Value.ref G.2] meth c cL_law 4 RL D cy G n0) (hr : meth.sig.returnType = ret) (hX : va_X G.2 Lx xs s s.heap) (hG : G.2 < G.1) (hLx : Lx < 100000) (h0 : n0 = 0) (hK18 : ∀ (x3 : Int) (M : Mm), K18 (x3, M) → WW p l e room_1 s m #[Value.ref G.2] below meth c (lw_Z below #[Value.ref G.2] s) 4 D cy G n0 18 [(0, vR (some 1000)), (1, vR a1), (2, vR a2), (3, vI x3)] [] M) (h : P_L_law_866 Lx xs a1 a2 x3 M n0 K18) : WW p l e room_1 s m #[Value.ref G.2] below meth c (lw_Z below #[Value.ref G.2] s) 4 D cy G n0 866 [(0, vR (some 1000)), (1, vR a1), (2, vR a2), (3, vI x3)] [] M := by
  unfold P_L_law_866 at h
  refine w_aload_n C dL_law_866 rfl (mem_k 1 rfl) ?_
  refine w_aload_n C dL_law_867 rfl (mem_k 0 rfl) ?_
  refine w_iload_n C dL_law_868 rfl (mem_k 3 rfl) ?_
  refine w_iconst C dL_law_869 ⟨by decide, by decide⟩ ?_
  refine w_iadd C dL_law_870 h.1 ?_
  replace h := h.2
  obtain ⟨g407, g408, h⟩ := h
  refine w_sld C hX hG dL_law_871 ⟨g407, g408⟩ ?_
  refine w_aload_n C dL_law_872 rfl (mem_k 0 rfl) ?_
  refine w_iload_n C dL_law_873 rfl (mem_k 3 rfl) ?_
  refine w_iconst C dL_law_874 ⟨by decide, by decide⟩ ?_
  refine w_iadd C dL_law_875 h.1 ?_
  replace h := h.2
  obtain ⟨g409, g410, h⟩ := h
  refine w_sld C hX hG dL_law_876 ⟨g409, g410⟩ ?_
  refine w_aload_n C dL_law_877 rfl (mem_k 0 rfl) ?_
  refine w_iload_n C dL_law_878 rfl (mem_k 3 rfl) ?_
  refine w_iconst C dL_law_879 ⟨by decide, by decide⟩ ?_
  refine w_iadd C dL_law_880 h.1 ?_
  replace h := h.2
  obtain ⟨g411, g412, h⟩ := h
  refine w_sld C hX hG dL_law_881 ⟨g411, g412⟩ ?_
  obtain ⟨o413, g414, h⟩ := h
  obtain ⟨hn415, h⟩ := h
  obtain ⟨Q9, q9, h⟩ := h
  refine cw_X11_road (ck_L_95 ⟨by decide, by decide⟩) C dL_law_882 hn415 h0 (Nat.le_of_ble_eq_true rfl) g414 q9 (fun v416 M417 x9 hn418 => ?_)
  replace h := h v416 M417 x9
  replace h := h hn418
  refine w_aload_n C dL_law_885 rfl (mem_k 2 rfl) ?_
  refine w_aload_n C dL_law_886 rfl (mem_k 0 rfl) ?_
  refine w_iload_n C dL_law_887 rfl (mem_k 3 rfl) ?_
  refine w_iconst C dL_law_888 ⟨by decide, by decide⟩ ?_
  refine w_iadd C dL_law_889 h.1 ?_
  replace h := h.2
  obtain ⟨g419, g420, h⟩ := h
  refine w_sld C hX hG dL_law_890 ⟨g419, g420⟩ ?_
  refine w_aload_n C dL_law_891 rfl (mem_k 0 rfl) ?_
  refine w_iload_n C dL_law_892 rfl (mem_k 3 rfl) ?_
  refine w_iconst C dL_law_893 ⟨by decide, by decide⟩ ?_
  refine w_iadd C dL_law_894 h.1 ?_
  replace h := h.2
  obtain ⟨g421, g422, h⟩ := h
  refine w_sld C hX hG dL_law_895 ⟨g421, g422⟩ ?_
  refine w_aload_n C dL_law_896 rfl (mem_k 0 rfl) ?_
  refine w_iload_n C dL_law_897 rfl (mem_k 3 rfl) ?_
  refine w_iconst C dL_law_898 ⟨by decide, by decide⟩ ?_
  refine w_iadd C dL_law_899 h.1 ?_
  replace h := h.2
  obtain ⟨g423, g424, h⟩ := h
  refine w_sld C hX hG dL_law_900 ⟨g423, g424⟩ ?_
  obtain ⟨o425, g426, h⟩ := h
  obtain ⟨hn427, h⟩ := h
  obtain ⟨Q9, q9, h⟩ := h
  refine cw_X12_road (ck_L_98 ⟨by decide, by decide⟩) C dL_law_901 hn427 h0 (Nat.le_of_ble_eq_true rfl) g426 q9 (fun v428 M429 x9 hn430 => ?_)
  replace h := h v428 M429 x9
  replace h := h hn430
  refine w_icmp_eq (tgt := 1319) C dL_law_904 (by decide) (fun q => ?_) (fun q => ?_)
  · replace h := h.1 q
    obtain ⟨v431, ev431⟩ : ∃ z : Int, z = x3 + 7 := ⟨_, rfl⟩
    refine x_iinc (L' := [(3, vI v431), (0, vR (some 1000)), (1, vR a1), (2, vR a2)]) C dL_law_1319 (mem_k 3 rfl) (by decide) h.1 ev431 rfl ?_
    replace h := h.2 v431 ev431
    refine w_goto (tgt := 18) C dL_law_1322 (by decide) ?_
    refine x_pc (pc2 := 18) rfl ?_
    refine x_pick (L' := [(0, vR (some 1000)), (1, vR a1), (2, vR a2), (3, vI v431)]) [1, 2, 3, 0] rfl ?_
    exact hK18 v431 M429 h
  · replace h := h.2 q
    refine w_iconst C dL_law_907 ⟨by decide, by decide⟩ ?_
    exact h.elim
set_option maxRecDepth 100000 in
set_option maxHeartbeats 8000000 in
theorem k_L_law_909 {a1 : Option Nat} {a2 : Option Nat} {x3 : Int} {M : Mm} {K18 : Int × Mm → Prop} {Lx : Nat} {xs : Nat → Int32} (C : Cx p s m #[Value.ref G.2] meth c cL_law 4 RL D cy G n0) (hr : meth.sig.returnType = ret) (hX : va_X G.2 Lx xs s s.heap) (hG : G.2 < G.1) (hLx : Lx < 100000) (h0 : n0 = 0) (hK18 : ∀ (x3 : Int) (M : Mm), K18 (x3, M) → WW p l e room_1 s m #[Value.ref G.2] below meth c (lw_Z below #[Value.ref G.2] s) 4 D cy G n0 18 [(0, vR (some 1000)), (1, vR a1), (2, vR a2), (3, vI x3)] [] M) (h : P_L_law_909 Lx xs a1 a2 x3 M n0 K18) : WW p l e room_1 s m #[Value.ref G.2] below meth c (lw_Z below #[Value.ref G.2] s) 4 D cy G n0 909 [(0, vR (some 1000)), (1, vR a1), (2, vR a2), (3, vI x3)] [] M := by
  unfold P_L_law_909 at h
  refine w_aload_n C dL_law_909 rfl (mem_k 1 rfl) ?_
  refine w_aload_n C dL_law_910 rfl (mem_k 0 rfl) ?_
  refine w_iload_n C dL_law_911 rfl (mem_k 3 rfl) ?_
  refine w_iconst C dL_law_912 ⟨by decide, by decide⟩ ?_
  refine w_iadd C dL_law_913 h.1 ?_
  replace h := h.2
  obtain ⟨g432, g433, h⟩ := h
  refine w_sld C hX hG dL_law_914 ⟨g432, g433⟩ ?_
  refine w_aload_n C dL_law_915 rfl (mem_k 0 rfl) ?_
  refine w_iload_n C dL_law_916 rfl (mem_k 3 rfl) ?_
  refine w_iconst C dL_law_917 ⟨by decide, by decide⟩ ?_
  refine w_iadd C dL_law_918 h.1 ?_
  replace h := h.2
  obtain ⟨g434, g435, h⟩ := h
  refine w_sld C hX hG dL_law_919 ⟨g434, g435⟩ ?_
  refine w_aload_n C dL_law_920 rfl (mem_k 0 rfl) ?_
  refine w_iload_n C dL_law_921 rfl (mem_k 3 rfl) ?_
  refine w_iconst C dL_law_922 ⟨by decide, by decide⟩ ?_
  refine w_iadd C dL_law_923 h.1 ?_
  replace h := h.2
  obtain ⟨g436, g437, h⟩ := h
  refine w_sld C hX hG dL_law_924 ⟨g436, g437⟩ ?_
  refine w_aload_n C dL_law_925 rfl (mem_k 0 rfl) ?_
  refine w_iload_n C dL_law_926 rfl (mem_k 3 rfl) ?_
  refine w_iconst C dL_law_927 ⟨by decide, by decide⟩ ?_
  refine w_iadd C dL_law_928 h.1 ?_
  replace h := h.2
  obtain ⟨g438, g439, h⟩ := h
  refine w_sld C hX hG dL_law_929 ⟨g438, g439⟩ ?_
  obtain ⟨o440, g441, h⟩ := h
  obtain ⟨hn442, h⟩ := h
  obtain ⟨Q9, q9, h⟩ := h
  refine cw_X11_through (ck_L_99 ⟨by decide, by decide⟩) C dL_law_930 hn442 h0 (Nat.le_of_ble_eq_true rfl) g441 q9 (fun v443 M444 x9 hn445 => ?_)
  replace h := h v443 M444 x9
  replace h := h hn445
  refine w_aload_n C dL_law_933 rfl (mem_k 2 rfl) ?_
  refine w_aload_n C dL_law_934 rfl (mem_k 0 rfl) ?_
  refine w_iload_n C dL_law_935 rfl (mem_k 3 rfl) ?_
  refine w_iconst C dL_law_936 ⟨by decide, by decide⟩ ?_
  refine w_iadd C dL_law_937 h.1 ?_
  replace h := h.2
  obtain ⟨g446, g447, h⟩ := h
  refine w_sld C hX hG dL_law_938 ⟨g446, g447⟩ ?_
  refine w_aload_n C dL_law_939 rfl (mem_k 0 rfl) ?_
  refine w_iload_n C dL_law_940 rfl (mem_k 3 rfl) ?_
  refine w_iconst C dL_law_941 ⟨by decide, by decide⟩ ?_
  refine w_iadd C dL_law_942 h.1 ?_
  replace h := h.2
  obtain ⟨g448, g449, h⟩ := h
  refine w_sld C hX hG dL_law_943 ⟨g448, g449⟩ ?_
  refine w_aload_n C dL_law_944 rfl (mem_k 0 rfl) ?_
  refine w_iload_n C dL_law_945 rfl (mem_k 3 rfl) ?_
  refine w_iconst C dL_law_946 ⟨by decide, by decide⟩ ?_
  refine w_iadd C dL_law_947 h.1 ?_
  replace h := h.2
  obtain ⟨g450, g451, h⟩ := h
  refine w_sld C hX hG dL_law_948 ⟨g450, g451⟩ ?_
  refine w_aload_n C dL_law_949 rfl (mem_k 0 rfl) ?_
  refine w_iload_n C dL_law_950 rfl (mem_k 3 rfl) ?_
  refine w_iconst C dL_law_951 ⟨by decide, by decide⟩ ?_
  refine w_iadd C dL_law_952 h.1 ?_
  replace h := h.2
  obtain ⟨g452, g453, h⟩ := h
  refine w_sld C hX hG dL_law_953 ⟨g452, g453⟩ ?_
  obtain ⟨o454, g455, h⟩ := h
  obtain ⟨hn456, h⟩ := h
  obtain ⟨Q9, q9, h⟩ := h
  refine cw_X12_through (ck_L_102 ⟨by decide, by decide⟩) C dL_law_954 hn456 h0 (Nat.le_of_ble_eq_true rfl) g455 q9 (fun v457 M458 x9 hn459 => ?_)
  replace h := h v457 M458 x9
  replace h := h hn459
  refine w_icmp_eq (tgt := 1319) C dL_law_957 (by decide) (fun q => ?_) (fun q => ?_)
  · replace h := h.1 q
    obtain ⟨v460, ev460⟩ : ∃ z : Int, z = x3 + 7 := ⟨_, rfl⟩
    refine x_iinc (L' := [(3, vI v460), (0, vR (some 1000)), (1, vR a1), (2, vR a2)]) C dL_law_1319 (mem_k 3 rfl) (by decide) h.1 ev460 rfl ?_
    replace h := h.2 v460 ev460
    refine w_goto (tgt := 18) C dL_law_1322 (by decide) ?_
    refine x_pc (pc2 := 18) rfl ?_
    refine x_pick (L' := [(0, vR (some 1000)), (1, vR a1), (2, vR a2), (3, vI v460)]) [1, 2, 3, 0] rfl ?_
    exact hK18 v460 M458 h
  · replace h := h.2 q
    refine w_iconst C dL_law_960 ⟨by decide, by decide⟩ ?_
    exact h.elim
set_option maxRecDepth 100000 in
set_option maxHeartbeats 8000000 in
theorem k_L_law_962 {a1 : Option Nat} {a2 : Option Nat} {x3 : Int} {M : Mm} {K18 : Int × Mm → Prop} {Lx : Nat} {xs : Nat → Int32} (C : Cx p s m #[Value.ref G.2] meth c cL_law 4 RL D cy G n0) (hr : meth.sig.returnType = ret) (hX : va_X G.2 Lx xs s s.heap) (hG : G.2 < G.1) (hLx : Lx < 100000) (h0 : n0 = 0) (hK18 : ∀ (x3 : Int) (M : Mm), K18 (x3, M) → WW p l e room_1 s m #[Value.ref G.2] below meth c (lw_Z below #[Value.ref G.2] s) 4 D cy G n0 18 [(0, vR (some 1000)), (1, vR a1), (2, vR a2), (3, vI x3)] [] M) (h : P_L_law_962 Lx xs a1 a2 x3 M n0 K18) : WW p l e room_1 s m #[Value.ref G.2] below meth c (lw_Z below #[Value.ref G.2] s) 4 D cy G n0 962 [(0, vR (some 1000)), (1, vR a1), (2, vR a2), (3, vI x3)] [] M := by
  unfold P_L_law_962 at h
  refine w_aload_n C dL_law_962 rfl (mem_k 1 rfl) ?_
  refine w_aload_n C dL_law_963 rfl (mem_k 0 rfl) ?_
  refine w_iload_n C dL_law_964 rfl (mem_k 3 rfl) ?_
  refine w_iconst C dL_law_965 ⟨by decide, by decide⟩ ?_
  refine w_iadd C dL_law_966 h.1 ?_
  replace h := h.2
  obtain ⟨g461, g462, h⟩ := h
  refine w_sld C hX hG dL_law_967 ⟨g461, g462⟩ ?_
  refine w_aload_n C dL_law_968 rfl (mem_k 0 rfl) ?_
  refine w_iload_n C dL_law_969 rfl (mem_k 3 rfl) ?_
  refine w_iconst C dL_law_970 ⟨by decide, by decide⟩ ?_
  refine w_iadd C dL_law_971 h.1 ?_
  replace h := h.2
  obtain ⟨g463, g464, h⟩ := h
  refine w_sld C hX hG dL_law_972 ⟨g463, g464⟩ ?_
  refine w_aload_n C dL_law_973 rfl (mem_k 0 rfl) ?_
  refine w_iload_n C dL_law_974 rfl (mem_k 3 rfl) ?_
  refine w_iconst C dL_law_975 ⟨by decide, by decide⟩ ?_
  refine w_iadd C dL_law_976 h.1 ?_
  replace h := h.2
  obtain ⟨g465, g466, h⟩ := h
  refine w_sld C hX hG dL_law_977 ⟨g465, g466⟩ ?_
  refine w_aload_n C dL_law_978 rfl (mem_k 0 rfl) ?_
  refine w_iload_n C dL_law_979 rfl (mem_k 3 rfl) ?_
  refine w_iconst C dL_law_980 ⟨by decide, by decide⟩ ?_
  refine w_iadd C dL_law_981 h.1 ?_
  replace h := h.2
  obtain ⟨g467, g468, h⟩ := h
  refine w_sld C hX hG dL_law_982 ⟨g467, g468⟩ ?_
  refine w_aload_n C dL_law_983 rfl (mem_k 0 rfl) ?_
  refine w_iload_n C dL_law_984 rfl (mem_k 3 rfl) ?_
  refine w_iconst C dL_law_985 ⟨by decide, by decide⟩ ?_
  refine w_iadd C dL_law_986 h.1 ?_
  replace h := h.2
  obtain ⟨g469, g470, h⟩ := h
  refine w_sld C hX hG dL_law_987 ⟨g469, g470⟩ ?_
  refine w_aload_n C dL_law_988 rfl (mem_k 0 rfl) ?_
  refine w_iload_n C dL_law_989 rfl (mem_k 3 rfl) ?_
  refine w_bipush C dL_law_990 (by decide) ?_
  refine w_iadd C dL_law_992 h.1 ?_
  replace h := h.2
  obtain ⟨g471, g472, h⟩ := h
  refine w_sld C hX hG dL_law_993 ⟨g471, g472⟩ ?_
  obtain ⟨o473, g474, h⟩ := h
  obtain ⟨hn475, h⟩ := h
  obtain ⟨Q9, q9, h⟩ := h
  refine cw_X11_dose (ck_L_103 ⟨by decide, by decide⟩) C dL_law_994 hn475 h0 (Nat.le_of_ble_eq_true rfl) g474 q9 (fun v476 M477 x9 hn478 => ?_)
  replace h := h v476 M477 x9
  replace h := h hn478
  refine w_aload_n C dL_law_997 rfl (mem_k 2 rfl) ?_
  refine w_aload_n C dL_law_998 rfl (mem_k 0 rfl) ?_
  refine w_iload_n C dL_law_999 rfl (mem_k 3 rfl) ?_
  refine w_iconst C dL_law_1000 ⟨by decide, by decide⟩ ?_
  refine w_iadd C dL_law_1001 h.1 ?_
  replace h := h.2
  obtain ⟨g479, g480, h⟩ := h
  refine w_sld C hX hG dL_law_1002 ⟨g479, g480⟩ ?_
  refine w_aload_n C dL_law_1003 rfl (mem_k 0 rfl) ?_
  refine w_iload_n C dL_law_1004 rfl (mem_k 3 rfl) ?_
  refine w_iconst C dL_law_1005 ⟨by decide, by decide⟩ ?_
  refine w_iadd C dL_law_1006 h.1 ?_
  replace h := h.2
  obtain ⟨g481, g482, h⟩ := h
  refine w_sld C hX hG dL_law_1007 ⟨g481, g482⟩ ?_
  refine w_aload_n C dL_law_1008 rfl (mem_k 0 rfl) ?_
  refine w_iload_n C dL_law_1009 rfl (mem_k 3 rfl) ?_
  refine w_iconst C dL_law_1010 ⟨by decide, by decide⟩ ?_
  refine w_iadd C dL_law_1011 h.1 ?_
  replace h := h.2
  obtain ⟨g483, g484, h⟩ := h
  refine w_sld C hX hG dL_law_1012 ⟨g483, g484⟩ ?_
  refine w_aload_n C dL_law_1013 rfl (mem_k 0 rfl) ?_
  refine w_iload_n C dL_law_1014 rfl (mem_k 3 rfl) ?_
  refine w_iconst C dL_law_1015 ⟨by decide, by decide⟩ ?_
  refine w_iadd C dL_law_1016 h.1 ?_
  replace h := h.2
  obtain ⟨g485, g486, h⟩ := h
  refine w_sld C hX hG dL_law_1017 ⟨g485, g486⟩ ?_
  refine w_aload_n C dL_law_1018 rfl (mem_k 0 rfl) ?_
  refine w_iload_n C dL_law_1019 rfl (mem_k 3 rfl) ?_
  refine w_iconst C dL_law_1020 ⟨by decide, by decide⟩ ?_
  refine w_iadd C dL_law_1021 h.1 ?_
  replace h := h.2
  obtain ⟨g487, g488, h⟩ := h
  refine w_sld C hX hG dL_law_1022 ⟨g487, g488⟩ ?_
  refine w_aload_n C dL_law_1023 rfl (mem_k 0 rfl) ?_
  refine w_iload_n C dL_law_1024 rfl (mem_k 3 rfl) ?_
  refine w_bipush C dL_law_1025 (by decide) ?_
  refine w_iadd C dL_law_1027 h.1 ?_
  replace h := h.2
  obtain ⟨g489, g490, h⟩ := h
  refine w_sld C hX hG dL_law_1028 ⟨g489, g490⟩ ?_
  obtain ⟨o491, g492, h⟩ := h
  obtain ⟨hn493, h⟩ := h
  obtain ⟨Q9, q9, h⟩ := h
  refine cw_X12_dose (ck_L_107 ⟨by decide, by decide⟩) C dL_law_1029 hn493 h0 (Nat.le_of_ble_eq_true rfl) g492 q9 (fun v494 M495 x9 hn496 => ?_)
  replace h := h v494 M495 x9
  replace h := h hn496
  refine x_lif_eq (tgt := 1319) C dL_law_1032 dL_law_1033 (by decide) (fun q => ?_) (fun q => ?_)
  · replace h := h.1 q
    obtain ⟨v497, ev497⟩ : ∃ z : Int, z = x3 + 7 := ⟨_, rfl⟩
    refine x_iinc (L' := [(3, vI v497), (0, vR (some 1000)), (1, vR a1), (2, vR a2)]) C dL_law_1319 (mem_k 3 rfl) (by decide) h.1 ev497 rfl ?_
    replace h := h.2 v497 ev497
    refine w_goto (tgt := 18) C dL_law_1322 (by decide) ?_
    refine x_pc (pc2 := 18) rfl ?_
    refine x_pick (L' := [(0, vR (some 1000)), (1, vR a1), (2, vR a2), (3, vI v497)]) [1, 2, 3, 0] rfl ?_
    exact hK18 v497 M495 h
  · replace h := h.2 q
    refine w_iconst C dL_law_1036 ⟨by decide, by decide⟩ ?_
    exact h.elim
set_option maxRecDepth 100000 in
set_option maxHeartbeats 8000000 in
theorem k_L_law_1038 {a1 : Option Nat} {a2 : Option Nat} {x3 : Int} {M : Mm} {K18 : Int × Mm → Prop} {Lx : Nat} {xs : Nat → Int32} (C : Cx p s m #[Value.ref G.2] meth c cL_law 4 RL D cy G n0) (hr : meth.sig.returnType = ret) (hX : va_X G.2 Lx xs s s.heap) (hG : G.2 < G.1) (hLx : Lx < 100000) (h0 : n0 = 0) (hK18 : ∀ (x3 : Int) (M : Mm), K18 (x3, M) → WW p l e room_1 s m #[Value.ref G.2] below meth c (lw_Z below #[Value.ref G.2] s) 4 D cy G n0 18 [(0, vR (some 1000)), (1, vR a1), (2, vR a2), (3, vI x3)] [] M) (h : P_L_law_1038 Lx xs a1 a2 x3 M n0 K18) : WW p l e room_1 s m #[Value.ref G.2] below meth c (lw_Z below #[Value.ref G.2] s) 4 D cy G n0 1038 [(0, vR (some 1000)), (1, vR a1), (2, vR a2), (3, vI x3)] [] M := by
  unfold P_L_law_1038 at h
  refine w_aload_n C dL_law_1038 rfl (mem_k 1 rfl) ?_
  refine w_aload_n C dL_law_1039 rfl (mem_k 0 rfl) ?_
  refine w_iload_n C dL_law_1040 rfl (mem_k 3 rfl) ?_
  refine w_iconst C dL_law_1041 ⟨by decide, by decide⟩ ?_
  refine w_iadd C dL_law_1042 h.1 ?_
  replace h := h.2
  obtain ⟨g498, g499, h⟩ := h
  refine w_sld C hX hG dL_law_1043 ⟨g498, g499⟩ ?_
  refine w_aload_n C dL_law_1044 rfl (mem_k 0 rfl) ?_
  refine w_iload_n C dL_law_1045 rfl (mem_k 3 rfl) ?_
  refine w_iconst C dL_law_1046 ⟨by decide, by decide⟩ ?_
  refine w_iadd C dL_law_1047 h.1 ?_
  replace h := h.2
  obtain ⟨g500, g501, h⟩ := h
  refine w_sld C hX hG dL_law_1048 ⟨g500, g501⟩ ?_
  refine w_aload_n C dL_law_1049 rfl (mem_k 0 rfl) ?_
  refine w_iload_n C dL_law_1050 rfl (mem_k 3 rfl) ?_
  refine w_iconst C dL_law_1051 ⟨by decide, by decide⟩ ?_
  refine w_iadd C dL_law_1052 h.1 ?_
  replace h := h.2
  obtain ⟨g502, g503, h⟩ := h
  refine w_sld C hX hG dL_law_1053 ⟨g502, g503⟩ ?_
  refine w_aload_n C dL_law_1054 rfl (mem_k 0 rfl) ?_
  refine w_iload_n C dL_law_1055 rfl (mem_k 3 rfl) ?_
  refine w_iconst C dL_law_1056 ⟨by decide, by decide⟩ ?_
  refine w_iadd C dL_law_1057 h.1 ?_
  replace h := h.2
  obtain ⟨g504, g505, h⟩ := h
  refine w_sld C hX hG dL_law_1058 ⟨g504, g505⟩ ?_
  obtain ⟨o506, g507, h⟩ := h
  obtain ⟨hn508, h⟩ := h
  obtain ⟨Q9, q9, h⟩ := h
  refine cw_X11_years (ck_L_108 ⟨by decide, by decide⟩) C dL_law_1059 hn508 h0 (Nat.le_of_ble_eq_true rfl) g507 q9 (fun v509 M510 x9 hn511 => ?_)
  replace h := h v509 M510 x9
  replace h := h hn511
  refine w_aload_n C dL_law_1062 rfl (mem_k 2 rfl) ?_
  refine w_aload_n C dL_law_1063 rfl (mem_k 0 rfl) ?_
  refine w_iload_n C dL_law_1064 rfl (mem_k 3 rfl) ?_
  refine w_iconst C dL_law_1065 ⟨by decide, by decide⟩ ?_
  refine w_iadd C dL_law_1066 h.1 ?_
  replace h := h.2
  obtain ⟨g512, g513, h⟩ := h
  refine w_sld C hX hG dL_law_1067 ⟨g512, g513⟩ ?_
  refine w_aload_n C dL_law_1068 rfl (mem_k 0 rfl) ?_
  refine w_iload_n C dL_law_1069 rfl (mem_k 3 rfl) ?_
  refine w_iconst C dL_law_1070 ⟨by decide, by decide⟩ ?_
  refine w_iadd C dL_law_1071 h.1 ?_
  replace h := h.2
  obtain ⟨g514, g515, h⟩ := h
  refine w_sld C hX hG dL_law_1072 ⟨g514, g515⟩ ?_
  refine w_aload_n C dL_law_1073 rfl (mem_k 0 rfl) ?_
  refine w_iload_n C dL_law_1074 rfl (mem_k 3 rfl) ?_
  refine w_iconst C dL_law_1075 ⟨by decide, by decide⟩ ?_
  refine w_iadd C dL_law_1076 h.1 ?_
  replace h := h.2
  obtain ⟨g516, g517, h⟩ := h
  refine w_sld C hX hG dL_law_1077 ⟨g516, g517⟩ ?_
  refine w_aload_n C dL_law_1078 rfl (mem_k 0 rfl) ?_
  refine w_iload_n C dL_law_1079 rfl (mem_k 3 rfl) ?_
  refine w_iconst C dL_law_1080 ⟨by decide, by decide⟩ ?_
  refine w_iadd C dL_law_1081 h.1 ?_
  replace h := h.2
  obtain ⟨g518, g519, h⟩ := h
  refine w_sld C hX hG dL_law_1082 ⟨g518, g519⟩ ?_
  obtain ⟨o520, g521, h⟩ := h
  obtain ⟨hn522, h⟩ := h
  obtain ⟨Q9, q9, h⟩ := h
  refine cw_X12_years (ck_L_111 ⟨by decide, by decide⟩) C dL_law_1083 hn522 h0 (Nat.le_of_ble_eq_true rfl) g521 q9 (fun v523 M524 x9 hn525 => ?_)
  replace h := h v523 M524 x9
  replace h := h hn525
  refine w_icmp_eq (tgt := 1319) C dL_law_1086 (by decide) (fun q => ?_) (fun q => ?_)
  · replace h := h.1 q
    obtain ⟨v526, ev526⟩ : ∃ z : Int, z = x3 + 7 := ⟨_, rfl⟩
    refine x_iinc (L' := [(3, vI v526), (0, vR (some 1000)), (1, vR a1), (2, vR a2)]) C dL_law_1319 (mem_k 3 rfl) (by decide) h.1 ev526 rfl ?_
    replace h := h.2 v526 ev526
    refine w_goto (tgt := 18) C dL_law_1322 (by decide) ?_
    refine x_pc (pc2 := 18) rfl ?_
    refine x_pick (L' := [(0, vR (some 1000)), (1, vR a1), (2, vR a2), (3, vI v526)]) [1, 2, 3, 0] rfl ?_
    exact hK18 v526 M524 h
  · replace h := h.2 q
    refine w_iconst C dL_law_1089 ⟨by decide, by decide⟩ ?_
    exact h.elim
set_option maxRecDepth 100000 in
set_option maxHeartbeats 8000000 in
theorem k_L_law_1091 {a1 : Option Nat} {a2 : Option Nat} {x3 : Int} {M : Mm} {K18 : Int × Mm → Prop} {Lx : Nat} {xs : Nat → Int32} (C : Cx p s m #[Value.ref G.2] meth c cL_law 4 RL D cy G n0) (hr : meth.sig.returnType = ret) (hX : va_X G.2 Lx xs s s.heap) (hG : G.2 < G.1) (hLx : Lx < 100000) (h0 : n0 = 0) (hK18 : ∀ (x3 : Int) (M : Mm), K18 (x3, M) → WW p l e room_1 s m #[Value.ref G.2] below meth c (lw_Z below #[Value.ref G.2] s) 4 D cy G n0 18 [(0, vR (some 1000)), (1, vR a1), (2, vR a2), (3, vI x3)] [] M) (h : P_L_law_1091 Lx xs a1 a2 x3 M n0 K18) : WW p l e room_1 s m #[Value.ref G.2] below meth c (lw_Z below #[Value.ref G.2] s) 4 D cy G n0 1091 [(0, vR (some 1000)), (1, vR a1), (2, vR a2), (3, vI x3)] [] M := by
  unfold P_L_law_1091 at h
  refine w_aload_n C dL_law_1091 rfl (mem_k 1 rfl) ?_
  refine w_aload_n C dL_law_1092 rfl (mem_k 0 rfl) ?_
  refine w_iload_n C dL_law_1093 rfl (mem_k 3 rfl) ?_
  refine w_iconst C dL_law_1094 ⟨by decide, by decide⟩ ?_
  refine w_iadd C dL_law_1095 h.1 ?_
  replace h := h.2
  obtain ⟨g527, g528, h⟩ := h
  refine w_sld C hX hG dL_law_1096 ⟨g527, g528⟩ ?_
  refine w_aload_n C dL_law_1097 rfl (mem_k 0 rfl) ?_
  refine w_iload_n C dL_law_1098 rfl (mem_k 3 rfl) ?_
  refine w_iconst C dL_law_1099 ⟨by decide, by decide⟩ ?_
  refine w_iadd C dL_law_1100 h.1 ?_
  replace h := h.2
  obtain ⟨g529, g530, h⟩ := h
  refine w_sld C hX hG dL_law_1101 ⟨g529, g530⟩ ?_
  obtain ⟨o531, g532, h⟩ := h
  obtain ⟨hn533, h⟩ := h
  obtain ⟨Q9, q9, h⟩ := h
  refine cw_X11_worn (ck_L_112 ⟨by decide, by decide⟩) C dL_law_1102 hn533 h0 (Nat.le_of_ble_eq_true rfl) g532 q9 (fun v534 x9 => ?_)
  replace h := h v534 x9
  refine w_aload_n C dL_law_1105 rfl (mem_k 2 rfl) ?_
  refine w_aload_n C dL_law_1106 rfl (mem_k 0 rfl) ?_
  refine w_iload_n C dL_law_1107 rfl (mem_k 3 rfl) ?_
  refine w_iconst C dL_law_1108 ⟨by decide, by decide⟩ ?_
  refine w_iadd C dL_law_1109 h.1 ?_
  replace h := h.2
  obtain ⟨g535, g536, h⟩ := h
  refine w_sld C hX hG dL_law_1110 ⟨g535, g536⟩ ?_
  refine w_aload_n C dL_law_1111 rfl (mem_k 0 rfl) ?_
  refine w_iload_n C dL_law_1112 rfl (mem_k 3 rfl) ?_
  refine w_iconst C dL_law_1113 ⟨by decide, by decide⟩ ?_
  refine w_iadd C dL_law_1114 h.1 ?_
  replace h := h.2
  obtain ⟨g537, g538, h⟩ := h
  refine w_sld C hX hG dL_law_1115 ⟨g537, g538⟩ ?_
  obtain ⟨o539, g540, h⟩ := h
  obtain ⟨hn541, h⟩ := h
  obtain ⟨Q9, q9, h⟩ := h
  refine cw_X12_worn (ck_L_115 ⟨by decide, by decide⟩) C dL_law_1116 hn541 h0 (Nat.le_of_ble_eq_true rfl) g540 q9 (fun v542 x9 => ?_)
  replace h := h v542 x9
  refine w_icmp_eq (tgt := 1319) C dL_law_1119 (by decide) (fun q => ?_) (fun q => ?_)
  · replace h := h.1 q
    obtain ⟨v543, ev543⟩ : ∃ z : Int, z = x3 + 7 := ⟨_, rfl⟩
    refine x_iinc (L' := [(3, vI v543), (0, vR (some 1000)), (1, vR a1), (2, vR a2)]) C dL_law_1319 (mem_k 3 rfl) (by decide) h.1 ev543 rfl ?_
    replace h := h.2 v543 ev543
    refine w_goto (tgt := 18) C dL_law_1322 (by decide) ?_
    refine x_pc (pc2 := 18) rfl ?_
    refine x_pick (L' := [(0, vR (some 1000)), (1, vR a1), (2, vR a2), (3, vI v543)]) [1, 2, 3, 0] rfl ?_
    exact hK18 v543 M h
  · replace h := h.2 q
    refine w_iconst C dL_law_1122 ⟨by decide, by decide⟩ ?_
    exact h.elim
set_option maxRecDepth 100000 in
set_option maxHeartbeats 8000000 in
theorem k_L_law_1124 {a1 : Option Nat} {a2 : Option Nat} {x3 : Int} {M : Mm} {K18 : Int × Mm → Prop} {Lx : Nat} {xs : Nat → Int32} (C : Cx p s m #[Value.ref G.2] meth c cL_law 4 RL D cy G n0) (hr : meth.sig.returnType = ret) (hX : va_X G.2 Lx xs s s.heap) (hG : G.2 < G.1) (hLx : Lx < 100000) (h0 : n0 = 0) (hK18 : ∀ (x3 : Int) (M : Mm), K18 (x3, M) → WW p l e room_1 s m #[Value.ref G.2] below meth c (lw_Z below #[Value.ref G.2] s) 4 D cy G n0 18 [(0, vR (some 1000)), (1, vR a1), (2, vR a2), (3, vI x3)] [] M) (h : P_L_law_1124 Lx xs a1 a2 x3 M n0 K18) : WW p l e room_1 s m #[Value.ref G.2] below meth c (lw_Z below #[Value.ref G.2] s) 4 D cy G n0 1124 [(0, vR (some 1000)), (1, vR a1), (2, vR a2), (3, vI x3)] [] M := by
  unfold P_L_law_1124 at h
  refine w_aload_n C dL_law_1124 rfl (mem_k 1 rfl) ?_
  refine w_aload_n C dL_law_1125 rfl (mem_k 0 rfl) ?_
  refine w_iload_n C dL_law_1126 rfl (mem_k 3 rfl) ?_
  refine w_iconst C dL_law_1127 ⟨by decide, by decide⟩ ?_
  refine w_iadd C dL_law_1128 h.1 ?_
  replace h := h.2
  obtain ⟨g544, g545, h⟩ := h
  refine w_sld C hX hG dL_law_1129 ⟨g544, g545⟩ ?_
  refine w_aload_n C dL_law_1130 rfl (mem_k 0 rfl) ?_
  refine w_iload_n C dL_law_1131 rfl (mem_k 3 rfl) ?_
  refine w_iconst C dL_law_1132 ⟨by decide, by decide⟩ ?_
  refine w_iadd C dL_law_1133 h.1 ?_
  replace h := h.2
  obtain ⟨g546, g547, h⟩ := h
  refine w_sld C hX hG dL_law_1134 ⟨g546, g547⟩ ?_
  refine w_aload_n C dL_law_1135 rfl (mem_k 0 rfl) ?_
  refine w_iload_n C dL_law_1136 rfl (mem_k 3 rfl) ?_
  refine w_iconst C dL_law_1137 ⟨by decide, by decide⟩ ?_
  refine w_iadd C dL_law_1138 h.1 ?_
  replace h := h.2
  obtain ⟨g548, g549, h⟩ := h
  refine w_sld C hX hG dL_law_1139 ⟨g548, g549⟩ ?_
  refine w_aload_n C dL_law_1140 rfl (mem_k 0 rfl) ?_
  refine w_iload_n C dL_law_1141 rfl (mem_k 3 rfl) ?_
  refine w_iconst C dL_law_1142 ⟨by decide, by decide⟩ ?_
  refine w_iadd C dL_law_1143 h.1 ?_
  replace h := h.2
  obtain ⟨g550, g551, h⟩ := h
  refine w_sld C hX hG dL_law_1144 ⟨g550, g551⟩ ?_
  obtain ⟨o552, g553, h⟩ := h
  obtain ⟨hn554, h⟩ := h
  obtain ⟨Q9, q9, h⟩ := h
  refine cw_X11_until (ck_L_116 ⟨by decide, by decide⟩) C dL_law_1145 hn554 h0 (Nat.le_of_ble_eq_true rfl) g553 q9 (fun v555 M556 x9 hn557 => ?_)
  replace h := h v555 M556 x9
  replace h := h hn557
  refine w_aload_n C dL_law_1148 rfl (mem_k 2 rfl) ?_
  refine w_aload_n C dL_law_1149 rfl (mem_k 0 rfl) ?_
  refine w_iload_n C dL_law_1150 rfl (mem_k 3 rfl) ?_
  refine w_iconst C dL_law_1151 ⟨by decide, by decide⟩ ?_
  refine w_iadd C dL_law_1152 h.1 ?_
  replace h := h.2
  obtain ⟨g558, g559, h⟩ := h
  refine w_sld C hX hG dL_law_1153 ⟨g558, g559⟩ ?_
  refine w_aload_n C dL_law_1154 rfl (mem_k 0 rfl) ?_
  refine w_iload_n C dL_law_1155 rfl (mem_k 3 rfl) ?_
  refine w_iconst C dL_law_1156 ⟨by decide, by decide⟩ ?_
  refine w_iadd C dL_law_1157 h.1 ?_
  replace h := h.2
  obtain ⟨g560, g561, h⟩ := h
  refine w_sld C hX hG dL_law_1158 ⟨g560, g561⟩ ?_
  refine w_aload_n C dL_law_1159 rfl (mem_k 0 rfl) ?_
  refine w_iload_n C dL_law_1160 rfl (mem_k 3 rfl) ?_
  refine w_iconst C dL_law_1161 ⟨by decide, by decide⟩ ?_
  refine w_iadd C dL_law_1162 h.1 ?_
  replace h := h.2
  obtain ⟨g562, g563, h⟩ := h
  refine w_sld C hX hG dL_law_1163 ⟨g562, g563⟩ ?_
  refine w_aload_n C dL_law_1164 rfl (mem_k 0 rfl) ?_
  refine w_iload_n C dL_law_1165 rfl (mem_k 3 rfl) ?_
  refine w_iconst C dL_law_1166 ⟨by decide, by decide⟩ ?_
  refine w_iadd C dL_law_1167 h.1 ?_
  replace h := h.2
  obtain ⟨g564, g565, h⟩ := h
  refine w_sld C hX hG dL_law_1168 ⟨g564, g565⟩ ?_
  obtain ⟨o566, g567, h⟩ := h
  obtain ⟨hn568, h⟩ := h
  obtain ⟨Q9, q9, h⟩ := h
  refine cw_X12_until (ck_L_119 ⟨by decide, by decide⟩) C dL_law_1169 hn568 h0 (Nat.le_of_ble_eq_true rfl) g567 q9 (fun v569 M570 x9 hn571 => ?_)
  replace h := h v569 M570 x9
  replace h := h hn571
  refine w_icmp_eq (tgt := 1319) C dL_law_1172 (by decide) (fun q => ?_) (fun q => ?_)
  · replace h := h.1 q
    obtain ⟨v572, ev572⟩ : ∃ z : Int, z = x3 + 7 := ⟨_, rfl⟩
    refine x_iinc (L' := [(3, vI v572), (0, vR (some 1000)), (1, vR a1), (2, vR a2)]) C dL_law_1319 (mem_k 3 rfl) (by decide) h.1 ev572 rfl ?_
    replace h := h.2 v572 ev572
    refine w_goto (tgt := 18) C dL_law_1322 (by decide) ?_
    refine x_pc (pc2 := 18) rfl ?_
    refine x_pick (L' := [(0, vR (some 1000)), (1, vR a1), (2, vR a2), (3, vI v572)]) [1, 2, 3, 0] rfl ?_
    exact hK18 v572 M570 h
  · replace h := h.2 q
    refine w_iconst C dL_law_1175 ⟨by decide, by decide⟩ ?_
    exact h.elim
set_option maxRecDepth 100000 in
set_option maxHeartbeats 8000000 in
theorem k_L_law_1177 {a1 : Option Nat} {a2 : Option Nat} {x3 : Int} {M : Mm} {K18 : Int × Mm → Prop} {Lx : Nat} {xs : Nat → Int32} (C : Cx p s m #[Value.ref G.2] meth c cL_law 4 RL D cy G n0) (hr : meth.sig.returnType = ret) (hX : va_X G.2 Lx xs s s.heap) (hG : G.2 < G.1) (hLx : Lx < 100000) (h0 : n0 = 0) (hK18 : ∀ (x3 : Int) (M : Mm), K18 (x3, M) → WW p l e room_1 s m #[Value.ref G.2] below meth c (lw_Z below #[Value.ref G.2] s) 4 D cy G n0 18 [(0, vR (some 1000)), (1, vR a1), (2, vR a2), (3, vI x3)] [] M) (h : P_L_law_1177 Lx xs a1 a2 x3 M n0 K18) : WW p l e room_1 s m #[Value.ref G.2] below meth c (lw_Z below #[Value.ref G.2] s) 4 D cy G n0 1177 [(0, vR (some 1000)), (1, vR a1), (2, vR a2), (3, vI x3)] [] M := by
  unfold P_L_law_1177 at h
  refine w_aload_n C dL_law_1177 rfl (mem_k 1 rfl) ?_
  refine w_aload_n C dL_law_1178 rfl (mem_k 0 rfl) ?_
  refine w_iload_n C dL_law_1179 rfl (mem_k 3 rfl) ?_
  refine w_iconst C dL_law_1180 ⟨by decide, by decide⟩ ?_
  refine w_iadd C dL_law_1181 h.1 ?_
  replace h := h.2
  obtain ⟨g573, g574, h⟩ := h
  refine w_sld C hX hG dL_law_1182 ⟨g573, g574⟩ ?_
  refine w_aload_n C dL_law_1183 rfl (mem_k 0 rfl) ?_
  refine w_iload_n C dL_law_1184 rfl (mem_k 3 rfl) ?_
  refine w_iconst C dL_law_1185 ⟨by decide, by decide⟩ ?_
  refine w_iadd C dL_law_1186 h.1 ?_
  replace h := h.2
  obtain ⟨g575, g576, h⟩ := h
  refine w_sld C hX hG dL_law_1187 ⟨g575, g576⟩ ?_
  refine w_aload_n C dL_law_1188 rfl (mem_k 0 rfl) ?_
  refine w_iload_n C dL_law_1189 rfl (mem_k 3 rfl) ?_
  refine w_iconst C dL_law_1190 ⟨by decide, by decide⟩ ?_
  refine w_iadd C dL_law_1191 h.1 ?_
  replace h := h.2
  obtain ⟨g577, g578, h⟩ := h
  refine w_sld C hX hG dL_law_1192 ⟨g577, g578⟩ ?_
  obtain ⟨o579, g580, h⟩ := h
  obtain ⟨hn581, h⟩ := h
  obtain ⟨Q9, q9, h⟩ := h
  refine cw_X11_trial (ck_L_120 ⟨by decide, by decide⟩) C dL_law_1193 hn581 h0 (Nat.le_of_ble_eq_true rfl) g580 q9 (fun v582 M583 x9 hn584 => ?_)
  replace h := h v582 M583 x9
  replace h := h hn584
  refine w_aload_n C dL_law_1196 rfl (mem_k 2 rfl) ?_
  refine w_aload_n C dL_law_1197 rfl (mem_k 0 rfl) ?_
  refine w_iload_n C dL_law_1198 rfl (mem_k 3 rfl) ?_
  refine w_iconst C dL_law_1199 ⟨by decide, by decide⟩ ?_
  refine w_iadd C dL_law_1200 h.1 ?_
  replace h := h.2
  obtain ⟨g585, g586, h⟩ := h
  refine w_sld C hX hG dL_law_1201 ⟨g585, g586⟩ ?_
  refine w_aload_n C dL_law_1202 rfl (mem_k 0 rfl) ?_
  refine w_iload_n C dL_law_1203 rfl (mem_k 3 rfl) ?_
  refine w_iconst C dL_law_1204 ⟨by decide, by decide⟩ ?_
  refine w_iadd C dL_law_1205 h.1 ?_
  replace h := h.2
  obtain ⟨g587, g588, h⟩ := h
  refine w_sld C hX hG dL_law_1206 ⟨g587, g588⟩ ?_
  refine w_aload_n C dL_law_1207 rfl (mem_k 0 rfl) ?_
  refine w_iload_n C dL_law_1208 rfl (mem_k 3 rfl) ?_
  refine w_iconst C dL_law_1209 ⟨by decide, by decide⟩ ?_
  refine w_iadd C dL_law_1210 h.1 ?_
  replace h := h.2
  obtain ⟨g589, g590, h⟩ := h
  refine w_sld C hX hG dL_law_1211 ⟨g589, g590⟩ ?_
  obtain ⟨o591, g592, h⟩ := h
  obtain ⟨hn593, h⟩ := h
  obtain ⟨Q9, q9, h⟩ := h
  refine cw_X12_trial (ck_L_123 ⟨by decide, by decide⟩) C dL_law_1212 hn593 h0 (Nat.le_of_ble_eq_true rfl) g592 q9 (fun v594 M595 x9 hn596 => ?_)
  replace h := h v594 M595 x9
  replace h := h hn596
  refine w_icmp_eq (tgt := 1319) C dL_law_1215 (by decide) (fun q => ?_) (fun q => ?_)
  · replace h := h.1 q
    obtain ⟨v597, ev597⟩ : ∃ z : Int, z = x3 + 7 := ⟨_, rfl⟩
    refine x_iinc (L' := [(3, vI v597), (0, vR (some 1000)), (1, vR a1), (2, vR a2)]) C dL_law_1319 (mem_k 3 rfl) (by decide) h.1 ev597 rfl ?_
    replace h := h.2 v597 ev597
    refine w_goto (tgt := 18) C dL_law_1322 (by decide) ?_
    refine x_pc (pc2 := 18) rfl ?_
    refine x_pick (L' := [(0, vR (some 1000)), (1, vR a1), (2, vR a2), (3, vI v597)]) [1, 2, 3, 0] rfl ?_
    exact hK18 v597 M595 h
  · replace h := h.2 q
    refine w_iconst C dL_law_1218 ⟨by decide, by decide⟩ ?_
    exact h.elim
set_option maxRecDepth 100000 in
set_option maxHeartbeats 8000000 in
theorem k_L_law_1220 {a1 : Option Nat} {a2 : Option Nat} {x3 : Int} {M : Mm} {K18 : Int × Mm → Prop} {Lx : Nat} {xs : Nat → Int32} (C : Cx p s m #[Value.ref G.2] meth c cL_law 4 RL D cy G n0) (hr : meth.sig.returnType = ret) (hX : va_X G.2 Lx xs s s.heap) (hG : G.2 < G.1) (hLx : Lx < 100000) (h0 : n0 = 0) (hK18 : ∀ (x3 : Int) (M : Mm), K18 (x3, M) → WW p l e room_1 s m #[Value.ref G.2] below meth c (lw_Z below #[Value.ref G.2] s) 4 D cy G n0 18 [(0, vR (some 1000)), (1, vR a1), (2, vR a2), (3, vI x3)] [] M) (h : P_L_law_1220 Lx xs a1 a2 x3 M n0 K18) : WW p l e room_1 s m #[Value.ref G.2] below meth c (lw_Z below #[Value.ref G.2] s) 4 D cy G n0 1220 [(0, vR (some 1000)), (1, vR a1), (2, vR a2), (3, vI x3)] [] M := by
  unfold P_L_law_1220 at h
  refine w_aload_n C dL_law_1220 rfl (mem_k 1 rfl) ?_
  refine w_aload_n C dL_law_1221 rfl (mem_k 0 rfl) ?_
  refine w_iload_n C dL_law_1222 rfl (mem_k 3 rfl) ?_
  refine w_iconst C dL_law_1223 ⟨by decide, by decide⟩ ?_
  refine w_iadd C dL_law_1224 h.1 ?_
  replace h := h.2
  obtain ⟨g598, g599, h⟩ := h
  refine w_sld C hX hG dL_law_1225 ⟨g598, g599⟩ ?_
  refine w_aload_n C dL_law_1226 rfl (mem_k 0 rfl) ?_
  refine w_iload_n C dL_law_1227 rfl (mem_k 3 rfl) ?_
  refine w_iconst C dL_law_1228 ⟨by decide, by decide⟩ ?_
  refine w_iadd C dL_law_1229 h.1 ?_
  replace h := h.2
  obtain ⟨g600, g601, h⟩ := h
  refine w_sld C hX hG dL_law_1230 ⟨g600, g601⟩ ?_
  refine w_aload_n C dL_law_1231 rfl (mem_k 0 rfl) ?_
  refine w_iload_n C dL_law_1232 rfl (mem_k 3 rfl) ?_
  refine w_iconst C dL_law_1233 ⟨by decide, by decide⟩ ?_
  refine w_iadd C dL_law_1234 h.1 ?_
  replace h := h.2
  obtain ⟨g602, g603, h⟩ := h
  refine w_sld C hX hG dL_law_1235 ⟨g602, g603⟩ ?_
  obtain ⟨o604, g605, h⟩ := h
  obtain ⟨hn606, h⟩ := h
  obtain ⟨Q9, q9, h⟩ := h
  refine cw_X11_against (ck_L_124 ⟨by decide, by decide⟩) C dL_law_1236 hn606 h0 (Nat.le_of_ble_eq_true rfl) g605 q9 (fun v607 M608 x9 hn609 => ?_)
  replace h := h v607 M608 x9
  replace h := h hn609
  refine w_aload_n C dL_law_1239 rfl (mem_k 2 rfl) ?_
  refine w_aload_n C dL_law_1240 rfl (mem_k 0 rfl) ?_
  refine w_iload_n C dL_law_1241 rfl (mem_k 3 rfl) ?_
  refine w_iconst C dL_law_1242 ⟨by decide, by decide⟩ ?_
  refine w_iadd C dL_law_1243 h.1 ?_
  replace h := h.2
  obtain ⟨g610, g611, h⟩ := h
  refine w_sld C hX hG dL_law_1244 ⟨g610, g611⟩ ?_
  refine w_aload_n C dL_law_1245 rfl (mem_k 0 rfl) ?_
  refine w_iload_n C dL_law_1246 rfl (mem_k 3 rfl) ?_
  refine w_iconst C dL_law_1247 ⟨by decide, by decide⟩ ?_
  refine w_iadd C dL_law_1248 h.1 ?_
  replace h := h.2
  obtain ⟨g612, g613, h⟩ := h
  refine w_sld C hX hG dL_law_1249 ⟨g612, g613⟩ ?_
  refine w_aload_n C dL_law_1250 rfl (mem_k 0 rfl) ?_
  refine w_iload_n C dL_law_1251 rfl (mem_k 3 rfl) ?_
  refine w_iconst C dL_law_1252 ⟨by decide, by decide⟩ ?_
  refine w_iadd C dL_law_1253 h.1 ?_
  replace h := h.2
  obtain ⟨g614, g615, h⟩ := h
  refine w_sld C hX hG dL_law_1254 ⟨g614, g615⟩ ?_
  obtain ⟨o616, g617, h⟩ := h
  obtain ⟨hn618, h⟩ := h
  obtain ⟨Q9, q9, h⟩ := h
  refine cw_X12_against (ck_L_127 ⟨by decide, by decide⟩) C dL_law_1255 hn618 h0 (Nat.le_of_ble_eq_true rfl) g617 q9 (fun v619 x9 => ?_)
  replace h := h v619 x9
  refine w_icmp_eq (tgt := 1319) C dL_law_1258 (by decide) (fun q => ?_) (fun q => ?_)
  · replace h := h.1 q
    obtain ⟨v620, ev620⟩ : ∃ z : Int, z = x3 + 7 := ⟨_, rfl⟩
    refine x_iinc (L' := [(3, vI v620), (0, vR (some 1000)), (1, vR a1), (2, vR a2)]) C dL_law_1319 (mem_k 3 rfl) (by decide) h.1 ev620 rfl ?_
    replace h := h.2 v620 ev620
    refine w_goto (tgt := 18) C dL_law_1322 (by decide) ?_
    refine x_pc (pc2 := 18) rfl ?_
    refine x_pick (L' := [(0, vR (some 1000)), (1, vR a1), (2, vR a2), (3, vI v620)]) [1, 2, 3, 0] rfl ?_
    exact hK18 v620 M608 h
  · replace h := h.2 q
    refine w_iconst C dL_law_1261 ⟨by decide, by decide⟩ ?_
    exact h.elim
set_option maxRecDepth 100000 in
set_option maxHeartbeats 8000000 in
theorem k_L_law_1263 {a1 : Option Nat} {a2 : Option Nat} {x3 : Int} {M : Mm} {K18 : Int × Mm → Prop} {Lx : Nat} {xs : Nat → Int32} (C : Cx p s m #[Value.ref G.2] meth c cL_law 4 RL D cy G n0) (hr : meth.sig.returnType = ret) (hX : va_X G.2 Lx xs s s.heap) (hG : G.2 < G.1) (hLx : Lx < 100000) (h0 : n0 = 0) (hK18 : ∀ (x3 : Int) (M : Mm), K18 (x3, M) → WW p l e room_1 s m #[Value.ref G.2] below meth c (lw_Z below #[Value.ref G.2] s) 4 D cy G n0 18 [(0, vR (some 1000)), (1, vR a1), (2, vR a2), (3, vI x3)] [] M) (h : P_L_law_1263 Lx xs a1 a2 x3 M n0 K18) : WW p l e room_1 s m #[Value.ref G.2] below meth c (lw_Z below #[Value.ref G.2] s) 4 D cy G n0 1263 [(0, vR (some 1000)), (1, vR a1), (2, vR a2), (3, vI x3)] [] M := by
  unfold P_L_law_1263 at h
  refine w_aload_n C dL_law_1263 rfl (mem_k 1 rfl) ?_
  refine w_aload_n C dL_law_1264 rfl (mem_k 0 rfl) ?_
  refine w_iload_n C dL_law_1265 rfl (mem_k 3 rfl) ?_
  refine w_iconst C dL_law_1266 ⟨by decide, by decide⟩ ?_
  refine w_iadd C dL_law_1267 h.1 ?_
  replace h := h.2
  obtain ⟨g621, g622, h⟩ := h
  refine w_sld C hX hG dL_law_1268 ⟨g621, g622⟩ ?_
  refine w_aload_n C dL_law_1269 rfl (mem_k 0 rfl) ?_
  refine w_iload_n C dL_law_1270 rfl (mem_k 3 rfl) ?_
  refine w_iconst C dL_law_1271 ⟨by decide, by decide⟩ ?_
  refine w_iadd C dL_law_1272 h.1 ?_
  replace h := h.2
  obtain ⟨g623, g624, h⟩ := h
  refine w_sld C hX hG dL_law_1273 ⟨g623, g624⟩ ?_
  obtain ⟨o625, g626, h⟩ := h
  obtain ⟨hn627, h⟩ := h
  obtain ⟨Q9, q9, h⟩ := h
  refine cw_X11_score (ck_L_128 ⟨by decide, by decide⟩) C dL_law_1274 hn627 h0 (Nat.le_of_ble_eq_true rfl) g626 q9 (fun v628 x9 => ?_)
  replace h := h v628 x9
  refine w_aload_n C dL_law_1277 rfl (mem_k 2 rfl) ?_
  refine w_aload_n C dL_law_1278 rfl (mem_k 0 rfl) ?_
  refine w_iload_n C dL_law_1279 rfl (mem_k 3 rfl) ?_
  refine w_iconst C dL_law_1280 ⟨by decide, by decide⟩ ?_
  refine w_iadd C dL_law_1281 h.1 ?_
  replace h := h.2
  obtain ⟨g629, g630, h⟩ := h
  refine w_sld C hX hG dL_law_1282 ⟨g629, g630⟩ ?_
  refine w_aload_n C dL_law_1283 rfl (mem_k 0 rfl) ?_
  refine w_iload_n C dL_law_1284 rfl (mem_k 3 rfl) ?_
  refine w_iconst C dL_law_1285 ⟨by decide, by decide⟩ ?_
  refine w_iadd C dL_law_1286 h.1 ?_
  replace h := h.2
  obtain ⟨g631, g632, h⟩ := h
  refine w_sld C hX hG dL_law_1287 ⟨g631, g632⟩ ?_
  obtain ⟨o633, g634, h⟩ := h
  obtain ⟨hn635, h⟩ := h
  obtain ⟨Q9, q9, h⟩ := h
  refine cw_X12_score (ck_L_131 ⟨by decide, by decide⟩) C dL_law_1288 hn635 h0 (Nat.le_of_ble_eq_true rfl) g634 q9 (fun v636 x9 => ?_)
  replace h := h v636 x9
  refine w_icmp_eq (tgt := 1319) C dL_law_1291 (by decide) (fun q => ?_) (fun q => ?_)
  · replace h := h.1 q
    obtain ⟨v637, ev637⟩ : ∃ z : Int, z = x3 + 7 := ⟨_, rfl⟩
    refine x_iinc (L' := [(3, vI v637), (0, vR (some 1000)), (1, vR a1), (2, vR a2)]) C dL_law_1319 (mem_k 3 rfl) (by decide) h.1 ev637 rfl ?_
    replace h := h.2 v637 ev637
    refine w_goto (tgt := 18) C dL_law_1322 (by decide) ?_
    refine x_pc (pc2 := 18) rfl ?_
    refine x_pick (L' := [(0, vR (some 1000)), (1, vR a1), (2, vR a2), (3, vI v637)]) [1, 2, 3, 0] rfl ?_
    exact hK18 v637 M h
  · replace h := h.2 q
    refine w_iconst C dL_law_1294 ⟨by decide, by decide⟩ ?_
    exact h.elim
set_option maxRecDepth 100000 in
set_option maxHeartbeats 8000000 in
theorem k_L_law_1296 {a1 : Option Nat} {a2 : Option Nat} {x3 : Int} {M : Mm} {K18 : Int × Mm → Prop} {Lx : Nat} {xs : Nat → Int32} (C : Cx p s m #[Value.ref G.2] meth c cL_law 4 RL D cy G n0) (hr : meth.sig.returnType = ret) (hX : va_X G.2 Lx xs s s.heap) (hG : G.2 < G.1) (hLx : Lx < 100000) (h0 : n0 = 0) (hK18 : ∀ (x3 : Int) (M : Mm), K18 (x3, M) → WW p l e room_1 s m #[Value.ref G.2] below meth c (lw_Z below #[Value.ref G.2] s) 4 D cy G n0 18 [(0, vR (some 1000)), (1, vR a1), (2, vR a2), (3, vI x3)] [] M) (h : P_L_law_1296 Lx xs a1 a2 x3 M n0 K18) : WW p l e room_1 s m #[Value.ref G.2] below meth c (lw_Z below #[Value.ref G.2] s) 4 D cy G n0 1296 [(0, vR (some 1000)), (1, vR a1), (2, vR a2), (3, vI x3)] [] M := by
  unfold P_L_law_1296 at h
  refine w_aload_n C dL_law_1296 rfl (mem_k 1 rfl) ?_
  refine w_aload_n C dL_law_1297 rfl (mem_k 0 rfl) ?_
  refine w_iload_n C dL_law_1298 rfl (mem_k 3 rfl) ?_
  refine w_iconst C dL_law_1299 ⟨by decide, by decide⟩ ?_
  refine w_iadd C dL_law_1300 h.1 ?_
  replace h := h.2
  obtain ⟨g638, g639, h⟩ := h
  refine w_sld C hX hG dL_law_1301 ⟨g638, g639⟩ ?_
  obtain ⟨o640, g641, h⟩ := h
  obtain ⟨hn642, h⟩ := h
  obtain ⟨Q9, q9, h⟩ := h
  refine cw_X11_count (ck_L_132 ⟨by decide, by decide⟩) C dL_law_1302 hn642 h0 (Nat.le_of_ble_eq_true rfl) g641 q9 (fun v643 x9 => ?_)
  replace h := h v643 x9
  refine w_aload_n C dL_law_1305 rfl (mem_k 2 rfl) ?_
  refine w_aload_n C dL_law_1306 rfl (mem_k 0 rfl) ?_
  refine w_iload_n C dL_law_1307 rfl (mem_k 3 rfl) ?_
  refine w_iconst C dL_law_1308 ⟨by decide, by decide⟩ ?_
  refine w_iadd C dL_law_1309 h.1 ?_
  replace h := h.2
  obtain ⟨g644, g645, h⟩ := h
  refine w_sld C hX hG dL_law_1310 ⟨g644, g645⟩ ?_
  obtain ⟨o646, g647, h⟩ := h
  obtain ⟨hn648, h⟩ := h
  obtain ⟨Q9, q9, h⟩ := h
  refine cw_X12_count (ck_L_135 ⟨by decide, by decide⟩) C dL_law_1311 hn648 h0 (Nat.le_of_ble_eq_true rfl) g647 q9 (fun v649 x9 => ?_)
  replace h := h v649 x9
  refine w_icmp_eq (tgt := 1319) C dL_law_1314 (by decide) (fun q => ?_) (fun q => ?_)
  · replace h := h.1 q
    obtain ⟨v650, ev650⟩ : ∃ z : Int, z = x3 + 7 := ⟨_, rfl⟩
    refine x_iinc (L' := [(3, vI v650), (0, vR (some 1000)), (1, vR a1), (2, vR a2)]) C dL_law_1319 (mem_k 3 rfl) (by decide) h.1 ev650 rfl ?_
    replace h := h.2 v650 ev650
    refine w_goto (tgt := 18) C dL_law_1322 (by decide) ?_
    refine x_pc (pc2 := 18) rfl ?_
    refine x_pick (L' := [(0, vR (some 1000)), (1, vR a1), (2, vR a2), (3, vI v650)]) [1, 2, 3, 0] rfl ?_
    exact hK18 v650 M h
  · replace h := h.2 q
    refine w_iconst C dL_law_1317 ⟨by decide, by decide⟩ ?_
    exact h.elim
set_option maxRecDepth 100000 in
set_option maxHeartbeats 8000000 in
theorem f_L_law_18 {a1 : Option Nat} {a2 : Option Nat} {x3 : Int} {M : Mm} {K18 : Int × Mm → Prop} {Lx : Nat} {xs : Nat → Int32} (C : Cx p s m #[Value.ref G.2] meth c cL_law 4 RL D cy G n0) (hr : meth.sig.returnType = ret) (hX : va_X G.2 Lx xs s s.heap) (hG : G.2 < G.1) (hLx : Lx < 100000) (h0 : n0 = 0) (hK18 : ∀ (x3 : Int) (M : Mm), K18 (x3, M) → WW p l e room_1 s m #[Value.ref G.2] below meth c (lw_Z below #[Value.ref G.2] s) 4 D cy G n0 18 [(0, vR (some 1000)), (1, vR a1), (2, vR a2), (3, vI x3)] [] M) (h : F_L_law_18 Lx xs a1 a2 n0  K18 x3 M) : WW p l e room_1 s m #[Value.ref G.2] below meth c (lw_Z below #[Value.ref G.2] s) 4 D cy G n0 18 [(0, vR (some 1000)), (1, vR a1), (2, vR a2), (3, vI x3)] [] M := by
  unfold F_L_law_18 at h
  refine w_iload_n C dL_law_18 rfl (mem_k 3 rfl) ?_
  refine w_aload_n C dL_law_19 rfl (mem_k 0 rfl) ?_
  refine w_slen C hX hG hLx dL_law_20 ?_
  refine w_bipush C dL_law_21 (by decide) ?_
  refine w_isub C dL_law_23 h.1 ?_
  replace h := h.2
  refine w_icmp_gt (tgt := 1325) C dL_law_24 (by decide) (fun q => ?_) (fun q => ?_)
  · replace h := h.1 q
    refine w_iconst C dL_law_1325 ⟨by decide, by decide⟩ ?_
    exact x_lawret C hr h0 dL_law_1326 h
  · replace h := h.2 q
    refine w_aload_n C dL_law_27 rfl (mem_k 0 rfl) ?_
    refine w_iload_n C dL_law_28 rfl (mem_k 3 rfl) ?_
    obtain ⟨g651, g652, h⟩ := h
    refine w_sld C hX hG dL_law_29 ⟨g651, g652⟩ ?_
    refine w_bipush C dL_law_30 (by decide) ?_
    refine w_iand C dL_law_32 ?_
    refine w_table C dL_law_33 1319 (by decide) (fun z hz1 hz2 => ?_) (fun q => ?_)
    · have hz : z = 0 ∨ z = 1 ∨ z = 2 ∨ z = 3 ∨ z = 4 ∨ z = 5 ∨ z = 6 ∨ z = 7 ∨ z = 8 ∨ z = 9 ∨ z = 10 ∨ z = 11 ∨ z = 12 ∨ z = 13 ∨ z = 14 ∨ z = 15 ∨ z = 16 ∨ z = 17 ∨ z = 18 ∨ z = 19 ∨ z = 20 ∨ z = 21 ∨ z = 22 ∨ z = 23 ∨ z = 24 ∨ z = 25 ∨ z = 26 ∨ z = 27 := by omega
      rcases hz with rfl | rfl | rfl | rfl | rfl | rfl | rfl | rfl | rfl | rfl | rfl | rfl | rfl | rfl | rfl | rfl | rfl | rfl | rfl | rfl | rfl | rfl | rfl | rfl | rfl | rfl | rfl | rfl
      · refine ⟨_, 160, rfl, by decide, fun q => ?_⟩
        replace h := h.1 q
        refine x_pc (pc2 := 160) rfl ?_
        refine x_pick (L' := [(0, vR (some 1000)), (1, vR a1), (2, vR a2), (3, vI x3)]) [0, 1, 2, 3] rfl ?_
        exact k_L_law_160 C hr hX hG hLx h0 hK18 h
      · refine ⟨_, 223, rfl, by decide, fun q => ?_⟩
        replace h := h.2.1 q
        refine x_pc (pc2 := 223) rfl ?_
        refine x_pick (L' := [(0, vR (some 1000)), (1, vR a1), (2, vR a2), (3, vI x3)]) [0, 1, 2, 3] rfl ?_
        exact k_L_law_223 C hr hX hG hLx h0 hK18 h
      · refine ⟨_, 236, rfl, by decide, fun q => ?_⟩
        replace h := h.2.2.1 q
        refine x_pc (pc2 := 236) rfl ?_
        refine x_pick (L' := [(0, vR (some 1000)), (1, vR a1), (2, vR a2), (3, vI x3)]) [0, 1, 2, 3] rfl ?_
        exact k_L_law_236 C hr hX hG hLx h0 hK18 h
      · refine ⟨_, 249, rfl, by decide, fun q => ?_⟩
        replace h := h.2.2.2.1 q
        refine x_pc (pc2 := 249) rfl ?_
        refine x_pick (L' := [(0, vR (some 1000)), (1, vR a1), (2, vR a2), (3, vI x3)]) [0, 1, 2, 3] rfl ?_
        exact k_L_law_249 C hr hX hG hLx h0 hK18 h
      · refine ⟨_, 262, rfl, by decide, fun q => ?_⟩
        replace h := h.2.2.2.2.1 q
        refine x_pc (pc2 := 262) rfl ?_
        refine x_pick (L' := [(0, vR (some 1000)), (1, vR a1), (2, vR a2), (3, vI x3)]) [0, 1, 2, 3] rfl ?_
        exact k_L_law_262 C hr hX hG hLx h0 hK18 h
      · refine ⟨_, 337, rfl, by decide, fun q => ?_⟩
        replace h := h.2.2.2.2.2.1 q
        refine x_pc (pc2 := 337) rfl ?_
        refine x_pick (L' := [(0, vR (some 1000)), (1, vR a1), (2, vR a2), (3, vI x3)]) [0, 1, 2, 3] rfl ?_
        exact k_L_law_337 C hr hX hG hLx h0 hK18 h
      · refine ⟨_, 380, rfl, by decide, fun q => ?_⟩
        replace h := h.2.2.2.2.2.2.1 q
        refine x_pc (pc2 := 380) rfl ?_
        refine x_pick (L' := [(0, vR (some 1000)), (1, vR a1), (2, vR a2), (3, vI x3)]) [0, 1, 2, 3] rfl ?_
        exact k_L_law_380 C hr hX hG hLx h0 hK18 h
      · refine ⟨_, 423, rfl, by decide, fun q => ?_⟩
        replace h := h.2.2.2.2.2.2.2.1 q
        refine x_pc (pc2 := 423) rfl ?_
        refine x_pick (L' := [(0, vR (some 1000)), (1, vR a1), (2, vR a2), (3, vI x3)]) [0, 1, 2, 3] rfl ?_
        exact k_L_law_423 C hr hX hG hLx h0 hK18 h
      · refine ⟨_, 476, rfl, by decide, fun q => ?_⟩
        replace h := h.2.2.2.2.2.2.2.2.1 q
        refine x_pc (pc2 := 476) rfl ?_
        refine x_pick (L' := [(0, vR (some 1000)), (1, vR a1), (2, vR a2), (3, vI x3)]) [0, 1, 2, 3] rfl ?_
        exact k_L_law_476 C hr hX hG hLx h0 hK18 h
      · refine ⟨_, 519, rfl, by decide, fun q => ?_⟩
        replace h := h.2.2.2.2.2.2.2.2.2.1 q
        refine x_pc (pc2 := 519) rfl ?_
        refine x_pick (L' := [(0, vR (some 1000)), (1, vR a1), (2, vR a2), (3, vI x3)]) [0, 1, 2, 3] rfl ?_
        exact k_L_law_519 C hr hX hG hLx h0 hK18 h
      · refine ⟨_, 562, rfl, by decide, fun q => ?_⟩
        replace h := h.2.2.2.2.2.2.2.2.2.2.1 q
        refine x_pc (pc2 := 562) rfl ?_
        refine x_pick (L' := [(0, vR (some 1000)), (1, vR a1), (2, vR a2), (3, vI x3)]) [0, 1, 2, 3] rfl ?_
        exact k_L_law_562 C hr hX hG hLx h0 hK18 h
      · refine ⟨_, 585, rfl, by decide, fun q => ?_⟩
        replace h := h.2.2.2.2.2.2.2.2.2.2.2.1 q
        refine x_pc (pc2 := 585) rfl ?_
        refine x_pick (L' := [(0, vR (some 1000)), (1, vR a1), (2, vR a2), (3, vI x3)]) [0, 1, 2, 3] rfl ?_
        exact k_L_law_585 C hr hX hG hLx h0 hK18 h
      · refine ⟨_, 638, rfl, by decide, fun q => ?_⟩
        replace h := h.2.2.2.2.2.2.2.2.2.2.2.2.1 q
        refine x_pc (pc2 := 638) rfl ?_
        refine x_pick (L' := [(0, vR (some 1000)), (1, vR a1), (2, vR a2), (3, vI x3)]) [0, 1, 2, 3] rfl ?_
        exact k_L_law_638 C hr hX hG hLx h0 hK18 h
      · refine ⟨_, 671, rfl, by decide, fun q => ?_⟩
        replace h := h.2.2.2.2.2.2.2.2.2.2.2.2.2.1 q
        refine x_pc (pc2 := 671) rfl ?_
        refine x_pick (L' := [(0, vR (some 1000)), (1, vR a1), (2, vR a2), (3, vI x3)]) [0, 1, 2, 3] rfl ?_
        exact k_L_law_671 C hr hX hG hLx h0 hK18 h
      · refine ⟨_, 704, rfl, by decide, fun q => ?_⟩
        replace h := h.2.2.2.2.2.2.2.2.2.2.2.2.2.2.1 q
        refine x_pc (pc2 := 704) rfl ?_
        refine x_pick (L' := [(0, vR (some 1000)), (1, vR a1), (2, vR a2), (3, vI x3)]) [0, 1, 2, 3] rfl ?_
        exact k_L_law_704 C hr hX hG hLx h0 hK18 h
      · refine ⟨_, 727, rfl, by decide, fun q => ?_⟩
        replace h := h.2.2.2.2.2.2.2.2.2.2.2.2.2.2.2.1 q
        refine x_pc (pc2 := 727) rfl ?_
        refine x_pick (L' := [(0, vR (some 1000)), (1, vR a1), (2, vR a2), (3, vI x3)]) [0, 1, 2, 3] rfl ?_
        exact k_L_law_727 C hr hX hG hLx h0 hK18 h
      · refine ⟨_, 760, rfl, by decide, fun q => ?_⟩
        replace h := h.2.2.2.2.2.2.2.2.2.2.2.2.2.2.2.2.1 q
        refine x_pc (pc2 := 760) rfl ?_
        refine x_pick (L' := [(0, vR (some 1000)), (1, vR a1), (2, vR a2), (3, vI x3)]) [0, 1, 2, 3] rfl ?_
        exact k_L_law_760 C hr hX hG hLx h0 hK18 h
      · refine ⟨_, 803, rfl, by decide, fun q => ?_⟩
        replace h := h.2.2.2.2.2.2.2.2.2.2.2.2.2.2.2.2.2.1 q
        refine x_pc (pc2 := 803) rfl ?_
        refine x_pick (L' := [(0, vR (some 1000)), (1, vR a1), (2, vR a2), (3, vI x3)]) [0, 1, 2, 3] rfl ?_
        exact k_L_law_803 C hr hX hG hLx h0 hK18 h
      · refine ⟨_, 866, rfl, by decide, fun q => ?_⟩
        replace h := h.2.2.2.2.2.2.2.2.2.2.2.2.2.2.2.2.2.2.1 q
        refine x_pc (pc2 := 866) rfl ?_
        refine x_pick (L' := [(0, vR (some 1000)), (1, vR a1), (2, vR a2), (3, vI x3)]) [0, 1, 2, 3] rfl ?_
        exact k_L_law_866 C hr hX hG hLx h0 hK18 h
      · refine ⟨_, 909, rfl, by decide, fun q => ?_⟩
        replace h := h.2.2.2.2.2.2.2.2.2.2.2.2.2.2.2.2.2.2.2.1 q
        refine x_pc (pc2 := 909) rfl ?_
        refine x_pick (L' := [(0, vR (some 1000)), (1, vR a1), (2, vR a2), (3, vI x3)]) [0, 1, 2, 3] rfl ?_
        exact k_L_law_909 C hr hX hG hLx h0 hK18 h
      · refine ⟨_, 962, rfl, by decide, fun q => ?_⟩
        replace h := h.2.2.2.2.2.2.2.2.2.2.2.2.2.2.2.2.2.2.2.2.1 q
        refine x_pc (pc2 := 962) rfl ?_
        refine x_pick (L' := [(0, vR (some 1000)), (1, vR a1), (2, vR a2), (3, vI x3)]) [0, 1, 2, 3] rfl ?_
        exact k_L_law_962 C hr hX hG hLx h0 hK18 h
      · refine ⟨_, 1038, rfl, by decide, fun q => ?_⟩
        replace h := h.2.2.2.2.2.2.2.2.2.2.2.2.2.2.2.2.2.2.2.2.2.1 q
        refine x_pc (pc2 := 1038) rfl ?_
        refine x_pick (L' := [(0, vR (some 1000)), (1, vR a1), (2, vR a2), (3, vI x3)]) [0, 1, 2, 3] rfl ?_
        exact k_L_law_1038 C hr hX hG hLx h0 hK18 h
      · refine ⟨_, 1091, rfl, by decide, fun q => ?_⟩
        replace h := h.2.2.2.2.2.2.2.2.2.2.2.2.2.2.2.2.2.2.2.2.2.2.1 q
        refine x_pc (pc2 := 1091) rfl ?_
        refine x_pick (L' := [(0, vR (some 1000)), (1, vR a1), (2, vR a2), (3, vI x3)]) [0, 1, 2, 3] rfl ?_
        exact k_L_law_1091 C hr hX hG hLx h0 hK18 h
      · refine ⟨_, 1124, rfl, by decide, fun q => ?_⟩
        replace h := h.2.2.2.2.2.2.2.2.2.2.2.2.2.2.2.2.2.2.2.2.2.2.2.1 q
        refine x_pc (pc2 := 1124) rfl ?_
        refine x_pick (L' := [(0, vR (some 1000)), (1, vR a1), (2, vR a2), (3, vI x3)]) [0, 1, 2, 3] rfl ?_
        exact k_L_law_1124 C hr hX hG hLx h0 hK18 h
      · refine ⟨_, 1177, rfl, by decide, fun q => ?_⟩
        replace h := h.2.2.2.2.2.2.2.2.2.2.2.2.2.2.2.2.2.2.2.2.2.2.2.2.1 q
        refine x_pc (pc2 := 1177) rfl ?_
        refine x_pick (L' := [(0, vR (some 1000)), (1, vR a1), (2, vR a2), (3, vI x3)]) [0, 1, 2, 3] rfl ?_
        exact k_L_law_1177 C hr hX hG hLx h0 hK18 h
      · refine ⟨_, 1220, rfl, by decide, fun q => ?_⟩
        replace h := h.2.2.2.2.2.2.2.2.2.2.2.2.2.2.2.2.2.2.2.2.2.2.2.2.2.1 q
        refine x_pc (pc2 := 1220) rfl ?_
        refine x_pick (L' := [(0, vR (some 1000)), (1, vR a1), (2, vR a2), (3, vI x3)]) [0, 1, 2, 3] rfl ?_
        exact k_L_law_1220 C hr hX hG hLx h0 hK18 h
      · refine ⟨_, 1263, rfl, by decide, fun q => ?_⟩
        replace h := h.2.2.2.2.2.2.2.2.2.2.2.2.2.2.2.2.2.2.2.2.2.2.2.2.2.2.1 q
        refine x_pc (pc2 := 1263) rfl ?_
        refine x_pick (L' := [(0, vR (some 1000)), (1, vR a1), (2, vR a2), (3, vI x3)]) [0, 1, 2, 3] rfl ?_
        exact k_L_law_1263 C hr hX hG hLx h0 hK18 h
      · refine ⟨_, 1296, rfl, by decide, fun q => ?_⟩
        replace h := h.2.2.2.2.2.2.2.2.2.2.2.2.2.2.2.2.2.2.2.2.2.2.2.2.2.2.2.1 q
        refine x_pc (pc2 := 1296) rfl ?_
        refine x_pick (L' := [(0, vR (some 1000)), (1, vR a1), (2, vR a2), (3, vI x3)]) [0, 1, 2, 3] rfl ?_
        exact k_L_law_1296 C hr hX hG hLx h0 hK18 h
    · replace h := h.2.2.2.2.2.2.2.2.2.2.2.2.2.2.2.2.2.2.2.2.2.2.2.2.2.2.2.2 q
      obtain ⟨v653, ev653⟩ : ∃ z : Int, z = x3 + 7 := ⟨_, rfl⟩
      refine x_iinc (L' := [(3, vI v653), (0, vR (some 1000)), (1, vR a1), (2, vR a2)]) C dL_law_1319 (mem_k 3 rfl) (by decide) h.1 ev653 rfl ?_
      replace h := h.2 v653 ev653
      refine w_goto (tgt := 18) C dL_law_1322 (by decide) ?_
      refine x_pc (pc2 := 18) rfl ?_
      refine x_pick (L' := [(0, vR (some 1000)), (1, vR a1), (2, vR a2), (3, vI v653)]) [1, 2, 3, 0] rfl ?_
      exact hK18 v653 M h
set_option maxRecDepth 100000 in
set_option maxHeartbeats 8000000 in
theorem k_L_law_18 {a1 : Option Nat} {a2 : Option Nat} {x3 : Int} {M : Mm} {Lx : Nat} {xs : Nat → Int32} (C : Cx p s m #[Value.ref G.2] meth c cL_law 4 RL D cy G n0) (hr : meth.sig.returnType = ret) (hX : va_X G.2 Lx xs s s.heap) (hG : G.2 < G.1) (hLx : Lx < 100000) (h0 : n0 = 0) (h : P_L_law_18 Lx xs a1 a2 x3 M n0 ) : WW p l e room_1 s m #[Value.ref G.2] below meth c (lw_Z below #[Value.ref G.2] s) 4 D cy G n0 18 [(0, vR (some 1000)), (1, vR a1), (2, vR a2), (3, vI x3)] [] M := by
  refine lpW_sound (P := fun y : Int × Mm => WW p l e room_1 s m #[Value.ref G.2] below meth c (lw_Z below #[Value.ref G.2] s) 4 D cy G n0 18 [(0, vR (some 1000)), (1, vR a1), (2, vR a2), (3, vI y.1)] [] y.2) ?_ h
  intro K y hK hF
  obtain ⟨x3, M⟩ := y
  exact f_L_law_18 C hr hX hG hLx h0  (fun x3 M hk => hK (x3, M) hk) hF
set_option maxRecDepth 100000 in
set_option maxHeartbeats 8000000 in
theorem k_L_law_0  {M : Mm} {Lx : Nat} {xs : Nat → Int32} (C : Cx p s m #[Value.ref G.2] meth c cL_law 4 RL D cy G n0) (hr : meth.sig.returnType = ret) (hX : va_X G.2 Lx xs s s.heap) (hG : G.2 < G.1) (hLx : Lx < 100000) (h0 : n0 = 0) (h : P_L_law Lx xs  M n0 ) : WW p l e room_1 s m #[Value.ref G.2] below meth c (lw_Z below #[Value.ref G.2] s) 4 D cy G n0 0 [(0, vR (some 1000))] [] M := by
  unfold P_L_law at h
  obtain ⟨q1, q2, q3, q4, h⟩ := h
  refine w_new (ci := 11) C dL_law_0 nw_L_7.1 nw_L_7.2.1 nw_L_7.2.2 (by decide) q1 q2 q3 q4 ?_
  obtain ⟨M654, eM654⟩ : ∃ z : Mm, z = newM M := ⟨_, rfl⟩
  rw [← eM654]
  replace h := h M654 eM654
  refine w_dup C dL_law_3 rfl ?_
  obtain ⟨o655, g656, h⟩ := h
  obtain ⟨q1, q2, q3, h⟩ := h
  refine cl_X11_init (ck_L_9 ⟨by decide, by decide⟩) C dL_law_4 (Nat.le_of_ble_eq_true rfl) g656 q1 q2 q3 h (fun M657 h hm => ?_)
  replace h := h hm
  refine x_astore_n (L' := [(1, vR (some M.2.2.2)), (0, vR (some 1000))]) C dL_law_7 rfl (by decide) rfl ?_
  obtain ⟨q1, q2, q3, q4, h⟩ := h
  refine w_new (ci := 12) C dL_law_8 nw_L_10.1 nw_L_10.2.1 nw_L_10.2.2 (by decide) q1 q2 q3 q4 ?_
  obtain ⟨M658, eM658⟩ : ∃ z : Mm, z = newM M657 := ⟨_, rfl⟩
  rw [← eM658]
  replace h := h M658 eM658
  refine w_dup C dL_law_11 rfl ?_
  obtain ⟨o659, g660, h⟩ := h
  obtain ⟨q1, q2, q3, h⟩ := h
  refine cl_X12_init (ck_L_12 ⟨by decide, by decide⟩) C dL_law_12 (Nat.le_of_ble_eq_true rfl) g660 q1 q2 q3 h (fun M661 h hm => ?_)
  replace h := h hm
  refine x_astore_n (L' := [(2, vR (some M657.2.2.2)), (1, vR (some M.2.2.2)), (0, vR (some 1000))]) C dL_law_15 rfl (by decide) rfl ?_
  refine w_iconst C dL_law_16 ⟨by decide, by decide⟩ ?_
  refine x_istore_n (L' := [(3, vI 0), (2, vR (some M657.2.2.2)), (1, vR (some M.2.2.2)), (0, vR (some 1000))]) C dL_law_17 rfl (by decide) rfl ?_
  refine x_pc (pc2 := 18) rfl ?_
  refine x_pick (L' := [(0, vR (some 1000)), (1, vR (some M.2.2.2)), (2, vR (some M657.2.2.2)), (3, vI 0)]) [3, 2, 1, 0] rfl ?_
  exact k_L_law_18 C hr hX hG hLx h0  h
end W_LAW
