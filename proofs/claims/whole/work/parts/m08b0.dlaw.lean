theorem d_W_law_23 : decode (ab_bc mt_W_law) 23 = .ok (.iload 4, 2) := by decide +kernel
theorem d_W_law_25 : decode (ab_bc mt_W_law) 25 = .ok (.aload_n 0, 1) := by decide +kernel
theorem d_W_law_26 : decode (ab_bc mt_W_law) 26 = .ok (.arraylength, 1) := by decide +kernel
theorem d_W_law_27 : decode (ab_bc mt_W_law) 27 = .ok (.bipush 6, 2) := by decide +kernel
theorem d_W_law_29 : decode (ab_bc mt_W_law) 29 = .ok (.isub, 1) := by decide +kernel
theorem d_W_law_30 : decode (ab_bc mt_W_law) 30 = .ok (.if_icmp .gt 1634, 3) := by decide +kernel
theorem d_W_law_33 : decode (ab_bc mt_W_law) 33 = .ok (.aload_n 0, 1) := by decide +kernel
theorem d_W_law_34 : decode (ab_bc mt_W_law) 34 = .ok (.iload 4, 2) := by decide +kernel
theorem d_W_law_36 : decode (ab_bc mt_W_law) 36 = .ok (.iaload, 1) := by decide +kernel
theorem d_W_law_37 : decode (ab_bc mt_W_law) 37 = .ok (.bipush 31, 2) := by decide +kernel
theorem d_W_law_39 : decode (ab_bc mt_W_law) 39 = .ok (.iand, 1) := by decide +kernel
theorem d_W_law_40 : decode (ab_bc mt_W_law) 40 = .ok (.tableswitch 1618 0 29 #[136, 209, 265, 278, 334, 402, 470, 526, 594, 674, 742, 798, 866, 934, 948, 1004, 1060, 1128, 1165, 1202, 1227, 1252, 1313, 1326, 1379, 1447, 1503, 1514, 1594, 1605], 136) := by decide +kernel
theorem d_W_law_176 : decode (ab_bc mt_W_law) 176 = .ok (.aload_n 1, 1) := by decide +kernel
theorem d_W_law_177 : decode (ab_bc mt_W_law) 177 = .ok (.aload_n 0, 1) := by decide +kernel
theorem d_W_law_178 : decode (ab_bc mt_W_law) 178 = .ok (.iload 4, 2) := by decide +kernel
theorem d_W_law_180 : decode (ab_bc mt_W_law) 180 = .ok (.iconst 1, 1) := by decide +kernel
theorem d_W_law_181 : decode (ab_bc mt_W_law) 181 = .ok (.iadd, 1) := by decide +kernel
theorem d_W_law_182 : decode (ab_bc mt_W_law) 182 = .ok (.iaload, 1) := by decide +kernel
theorem d_W_law_183 : decode (ab_bc mt_W_law) 183 = .ok (.aload_n 0, 1) := by decide +kernel
theorem d_W_law_184 : decode (ab_bc mt_W_law) 184 = .ok (.iload 4, 2) := by decide +kernel
theorem d_W_law_186 : decode (ab_bc mt_W_law) 186 = .ok (.iconst 2, 1) := by decide +kernel
theorem d_W_law_187 : decode (ab_bc mt_W_law) 187 = .ok (.iadd, 1) := by decide +kernel
theorem d_W_law_188 : decode (ab_bc mt_W_law) 188 = .ok (.iaload, 1) := by decide +kernel
theorem d_W_law_189 : decode (ab_bc mt_W_law) 189 = .ok (.aload_n 0, 1) := by decide +kernel
theorem d_W_law_190 : decode (ab_bc mt_W_law) 190 = .ok (.iload 4, 2) := by decide +kernel
theorem d_W_law_192 : decode (ab_bc mt_W_law) 192 = .ok (.iconst 3, 1) := by decide +kernel
theorem d_W_law_193 : decode (ab_bc mt_W_law) 193 = .ok (.iadd, 1) := by decide +kernel
theorem d_W_law_194 : decode (ab_bc mt_W_law) 194 = .ok (.iaload, 1) := by decide +kernel
theorem d_W_law_195 : decode (ab_bc mt_W_law) 195 = .ok (.aload_n 0, 1) := by decide +kernel
theorem d_W_law_196 : decode (ab_bc mt_W_law) 196 = .ok (.iload 4, 2) := by decide +kernel
theorem d_W_law_198 : decode (ab_bc mt_W_law) 198 = .ok (.iconst 4, 1) := by decide +kernel
theorem d_W_law_199 : decode (ab_bc mt_W_law) 199 = .ok (.iadd, 1) := by decide +kernel
theorem d_W_law_200 : decode (ab_bc mt_W_law) 200 = .ok (.iaload, 1) := by decide +kernel
theorem d_W_law_201 : decode (ab_bc mt_W_law) 201 = .ok (.aload_n 0, 1) := by decide +kernel
theorem d_W_law_202 : decode (ab_bc mt_W_law) 202 = .ok (.iload 4, 2) := by decide +kernel
theorem d_W_law_204 : decode (ab_bc mt_W_law) 204 = .ok (.iconst 5, 1) := by decide +kernel
theorem d_W_law_205 : decode (ab_bc mt_W_law) 205 = .ok (.iadd, 1) := by decide +kernel
theorem d_W_law_206 : decode (ab_bc mt_W_law) 206 = .ok (.iaload, 1) := by decide +kernel
theorem d_W_law_207 : decode (ab_bc mt_W_law) 207 = .ok (.invokevirtual 73, 3) := by decide +kernel
theorem d_W_law_210 : decode (ab_bc mt_W_law) 210 = .ok (.aload_n 2, 1) := by decide +kernel
theorem d_W_law_211 : decode (ab_bc mt_W_law) 211 = .ok (.aload_n 0, 1) := by decide +kernel
theorem d_W_law_212 : decode (ab_bc mt_W_law) 212 = .ok (.iload 4, 2) := by decide +kernel
theorem d_W_law_214 : decode (ab_bc mt_W_law) 214 = .ok (.iconst 1, 1) := by decide +kernel
theorem d_W_law_215 : decode (ab_bc mt_W_law) 215 = .ok (.iadd, 1) := by decide +kernel
theorem d_W_law_216 : decode (ab_bc mt_W_law) 216 = .ok (.iaload, 1) := by decide +kernel
theorem d_W_law_217 : decode (ab_bc mt_W_law) 217 = .ok (.aload_n 0, 1) := by decide +kernel
theorem d_W_law_218 : decode (ab_bc mt_W_law) 218 = .ok (.iload 4, 2) := by decide +kernel
theorem d_W_law_220 : decode (ab_bc mt_W_law) 220 = .ok (.iconst 2, 1) := by decide +kernel
theorem d_W_law_221 : decode (ab_bc mt_W_law) 221 = .ok (.iadd, 1) := by decide +kernel
theorem d_W_law_222 : decode (ab_bc mt_W_law) 222 = .ok (.iaload, 1) := by decide +kernel
theorem d_W_law_223 : decode (ab_bc mt_W_law) 223 = .ok (.aload_n 0, 1) := by decide +kernel
theorem d_W_law_224 : decode (ab_bc mt_W_law) 224 = .ok (.iload 4, 2) := by decide +kernel
theorem d_W_law_226 : decode (ab_bc mt_W_law) 226 = .ok (.iconst 3, 1) := by decide +kernel
theorem d_W_law_227 : decode (ab_bc mt_W_law) 227 = .ok (.iadd, 1) := by decide +kernel
theorem d_W_law_228 : decode (ab_bc mt_W_law) 228 = .ok (.iaload, 1) := by decide +kernel
theorem d_W_law_229 : decode (ab_bc mt_W_law) 229 = .ok (.aload_n 0, 1) := by decide +kernel
theorem d_W_law_230 : decode (ab_bc mt_W_law) 230 = .ok (.iload 4, 2) := by decide +kernel
theorem d_W_law_232 : decode (ab_bc mt_W_law) 232 = .ok (.iconst 4, 1) := by decide +kernel
theorem d_W_law_233 : decode (ab_bc mt_W_law) 233 = .ok (.iadd, 1) := by decide +kernel
theorem d_W_law_234 : decode (ab_bc mt_W_law) 234 = .ok (.iaload, 1) := by decide +kernel
theorem d_W_law_235 : decode (ab_bc mt_W_law) 235 = .ok (.aload_n 0, 1) := by decide +kernel
theorem d_W_law_236 : decode (ab_bc mt_W_law) 236 = .ok (.iload 4, 2) := by decide +kernel
theorem d_W_law_238 : decode (ab_bc mt_W_law) 238 = .ok (.iconst 5, 1) := by decide +kernel
theorem d_W_law_239 : decode (ab_bc mt_W_law) 239 = .ok (.iadd, 1) := by decide +kernel
theorem d_W_law_240 : decode (ab_bc mt_W_law) 240 = .ok (.iaload, 1) := by decide +kernel
theorem d_W_law_241 : decode (ab_bc mt_W_law) 241 = .ok (.invokevirtual 77, 3) := by decide +kernel
theorem d_W_law_244 : decode (ab_bc mt_W_law) 244 = .ok (.if_icmp .eq 1414, 3) := by decide +kernel
theorem d_W_law_247 : decode (ab_bc mt_W_law) 247 = .ok (.iconst 0, 1) := by decide +kernel
theorem d_W_law_248 : decode (ab_bc mt_W_law) 248 = .ok (.ireturn, 1) := by decide +kernel
theorem d_W_law_249 : decode (ab_bc mt_W_law) 249 = .ok (.aload_n 1, 1) := by decide +kernel
theorem d_W_law_250 : decode (ab_bc mt_W_law) 250 = .ok (.aload_n 0, 1) := by decide +kernel
theorem d_W_law_251 : decode (ab_bc mt_W_law) 251 = .ok (.iload 4, 2) := by decide +kernel
theorem d_W_law_253 : decode (ab_bc mt_W_law) 253 = .ok (.iconst 1, 1) := by decide +kernel
theorem d_W_law_254 : decode (ab_bc mt_W_law) 254 = .ok (.iadd, 1) := by decide +kernel
theorem d_W_law_255 : decode (ab_bc mt_W_law) 255 = .ok (.iaload, 1) := by decide +kernel
theorem d_W_law_256 : decode (ab_bc mt_W_law) 256 = .ok (.aload_n 3, 1) := by decide +kernel
theorem d_W_law_257 : decode (ab_bc mt_W_law) 257 = .ok (.invokestatic 78, 3) := by decide +kernel
theorem d_W_law_260 : decode (ab_bc mt_W_law) 260 = .ok (.istore 5, 2) := by decide +kernel
theorem d_W_law_262 : decode (ab_bc mt_W_law) 262 = .ok (.aload_n 2, 1) := by decide +kernel
theorem d_W_law_263 : decode (ab_bc mt_W_law) 263 = .ok (.aload_n 0, 1) := by decide +kernel
theorem d_W_law_264 : decode (ab_bc mt_W_law) 264 = .ok (.iload 4, 2) := by decide +kernel
theorem d_W_law_266 : decode (ab_bc mt_W_law) 266 = .ok (.iconst 1, 1) := by decide +kernel
theorem d_W_law_267 : decode (ab_bc mt_W_law) 267 = .ok (.iadd, 1) := by decide +kernel
theorem d_W_law_268 : decode (ab_bc mt_W_law) 268 = .ok (.iaload, 1) := by decide +kernel
theorem d_W_law_269 : decode (ab_bc mt_W_law) 269 = .ok (.invokevirtual 83, 3) := by decide +kernel
theorem d_W_law_272 : decode (ab_bc mt_W_law) 272 = .ok (.istore 6, 2) := by decide +kernel
theorem d_W_law_274 : decode (ab_bc mt_W_law) 274 = .ok (.aload_n 2, 1) := by decide +kernel
theorem d_W_law_275 : decode (ab_bc mt_W_law) 275 = .ok (.invokevirtual 84, 3) := by decide +kernel
theorem d_W_law_278 : decode (ab_bc mt_W_law) 278 = .ok (.iload 5, 2) := by decide +kernel
theorem d_W_law_280 : decode (ab_bc mt_W_law) 280 = .ok (.if_icmp .eq 5, 3) := by decide +kernel
theorem d_W_law_283 : decode (ab_bc mt_W_law) 283 = .ok (.iconst 0, 1) := by decide +kernel
theorem d_W_law_284 : decode (ab_bc mt_W_law) 284 = .ok (.ireturn, 1) := by decide +kernel
theorem d_W_law_285 : decode (ab_bc mt_W_law) 285 = .ok (.iload 5, 2) := by decide +kernel
theorem d_W_law_287 : decode (ab_bc mt_W_law) 287 = .ok (.ifCond .ne 15, 3) := by decide +kernel
theorem d_W_law_290 : decode (ab_bc mt_W_law) 290 = .ok (.aload_n 3, 1) := by decide +kernel
theorem d_W_law_291 : decode (ab_bc mt_W_law) 291 = .ok (.iconst 0, 1) := by decide +kernel
theorem d_W_law_292 : decode (ab_bc mt_W_law) 292 = .ok (.laload, 1) := by decide +kernel
theorem d_W_law_293 : decode (ab_bc mt_W_law) 293 = .ok (.iload 6, 2) := by decide +kernel
theorem d_W_law_295 : decode (ab_bc mt_W_law) 295 = .ok (.i2l, 1) := by decide +kernel
theorem d_W_law_296 : decode (ab_bc mt_W_law) 296 = .ok (.lcmp, 1) := by decide +kernel
theorem d_W_law_297 : decode (ab_bc mt_W_law) 297 = .ok (.ifCond .eq 5, 3) := by decide +kernel
theorem d_W_law_300 : decode (ab_bc mt_W_law) 300 = .ok (.iconst 0, 1) := by decide +kernel
theorem d_W_law_301 : decode (ab_bc mt_W_law) 301 = .ok (.ireturn, 1) := by decide +kernel
theorem d_W_law_302 : decode (ab_bc mt_W_law) 302 = .ok (.goto 1356, 3) := by decide +kernel
theorem d_W_law_305 : decode (ab_bc mt_W_law) 305 = .ok (.aload_n 1, 1) := by decide +kernel
theorem d_W_law_306 : decode (ab_bc mt_W_law) 306 = .ok (.invokevirtual 88, 3) := by decide +kernel
theorem d_W_law_309 : decode (ab_bc mt_W_law) 309 = .ok (.aload_n 2, 1) := by decide +kernel
theorem d_W_law_310 : decode (ab_bc mt_W_law) 310 = .ok (.invokevirtual 91, 3) := by decide +kernel
theorem d_W_law_313 : decode (ab_bc mt_W_law) 313 = .ok (.if_icmp .eq 1345, 3) := by decide +kernel
theorem d_W_law_316 : decode (ab_bc mt_W_law) 316 = .ok (.iconst 0, 1) := by decide +kernel
theorem d_W_law_317 : decode (ab_bc mt_W_law) 317 = .ok (.ireturn, 1) := by decide +kernel
theorem d_W_law_318 : decode (ab_bc mt_W_law) 318 = .ok (.aload_n 1, 1) := by decide +kernel
theorem d_W_law_319 : decode (ab_bc mt_W_law) 319 = .ok (.aload_n 0, 1) := by decide +kernel
theorem d_W_law_320 : decode (ab_bc mt_W_law) 320 = .ok (.iload 4, 2) := by decide +kernel
theorem d_W_law_322 : decode (ab_bc mt_W_law) 322 = .ok (.iconst 1, 1) := by decide +kernel
theorem d_W_law_323 : decode (ab_bc mt_W_law) 323 = .ok (.iadd, 1) := by decide +kernel
theorem d_W_law_324 : decode (ab_bc mt_W_law) 324 = .ok (.iaload, 1) := by decide +kernel
theorem d_W_law_325 : decode (ab_bc mt_W_law) 325 = .ok (.aload_n 3, 1) := by decide +kernel
theorem d_W_law_326 : decode (ab_bc mt_W_law) 326 = .ok (.invokestatic 92, 3) := by decide +kernel
theorem d_W_law_329 : decode (ab_bc mt_W_law) 329 = .ok (.istore 5, 2) := by decide +kernel
theorem d_W_law_331 : decode (ab_bc mt_W_law) 331 = .ok (.aload_n 2, 1) := by decide +kernel
theorem d_W_law_332 : decode (ab_bc mt_W_law) 332 = .ok (.aload_n 0, 1) := by decide +kernel
theorem d_W_law_333 : decode (ab_bc mt_W_law) 333 = .ok (.iload 4, 2) := by decide +kernel
theorem d_W_law_335 : decode (ab_bc mt_W_law) 335 = .ok (.iconst 1, 1) := by decide +kernel
theorem d_W_law_336 : decode (ab_bc mt_W_law) 336 = .ok (.iadd, 1) := by decide +kernel
theorem d_W_law_337 : decode (ab_bc mt_W_law) 337 = .ok (.iaload, 1) := by decide +kernel
theorem d_W_law_338 : decode (ab_bc mt_W_law) 338 = .ok (.invokevirtual 94, 3) := by decide +kernel
theorem d_W_law_341 : decode (ab_bc mt_W_law) 341 = .ok (.istore 6, 2) := by decide +kernel
theorem d_W_law_343 : decode (ab_bc mt_W_law) 343 = .ok (.aload_n 2, 1) := by decide +kernel
theorem d_W_law_344 : decode (ab_bc mt_W_law) 344 = .ok (.invokevirtual 84, 3) := by decide +kernel
theorem d_W_law_347 : decode (ab_bc mt_W_law) 347 = .ok (.iload 5, 2) := by decide +kernel
theorem d_W_law_349 : decode (ab_bc mt_W_law) 349 = .ok (.if_icmp .eq 5, 3) := by decide +kernel
theorem d_W_law_352 : decode (ab_bc mt_W_law) 352 = .ok (.iconst 0, 1) := by decide +kernel
theorem d_W_law_353 : decode (ab_bc mt_W_law) 353 = .ok (.ireturn, 1) := by decide +kernel
theorem d_W_law_354 : decode (ab_bc mt_W_law) 354 = .ok (.iload 5, 2) := by decide +kernel
theorem d_W_law_356 : decode (ab_bc mt_W_law) 356 = .ok (.ifCond .ne 15, 3) := by decide +kernel
theorem d_W_law_359 : decode (ab_bc mt_W_law) 359 = .ok (.aload_n 3, 1) := by decide +kernel
theorem d_W_law_360 : decode (ab_bc mt_W_law) 360 = .ok (.iconst 0, 1) := by decide +kernel
theorem d_W_law_361 : decode (ab_bc mt_W_law) 361 = .ok (.laload, 1) := by decide +kernel
theorem d_W_law_362 : decode (ab_bc mt_W_law) 362 = .ok (.iload 6, 2) := by decide +kernel
theorem d_W_law_364 : decode (ab_bc mt_W_law) 364 = .ok (.i2l, 1) := by decide +kernel
theorem d_W_law_365 : decode (ab_bc mt_W_law) 365 = .ok (.lcmp, 1) := by decide +kernel
theorem d_W_law_366 : decode (ab_bc mt_W_law) 366 = .ok (.ifCond .eq 5, 3) := by decide +kernel
theorem d_W_law_369 : decode (ab_bc mt_W_law) 369 = .ok (.iconst 0, 1) := by decide +kernel
theorem d_W_law_370 : decode (ab_bc mt_W_law) 370 = .ok (.ireturn, 1) := by decide +kernel
theorem d_W_law_371 : decode (ab_bc mt_W_law) 371 = .ok (.goto 1287, 3) := by decide +kernel
theorem d_W_law_374 : decode (ab_bc mt_W_law) 374 = .ok (.aload_n 1, 1) := by decide +kernel
theorem d_W_law_375 : decode (ab_bc mt_W_law) 375 = .ok (.aload_n 0, 1) := by decide +kernel
theorem d_W_law_376 : decode (ab_bc mt_W_law) 376 = .ok (.iload 4, 2) := by decide +kernel
theorem d_W_law_378 : decode (ab_bc mt_W_law) 378 = .ok (.iconst 1, 1) := by decide +kernel
theorem d_W_law_379 : decode (ab_bc mt_W_law) 379 = .ok (.iadd, 1) := by decide +kernel
theorem d_W_law_380 : decode (ab_bc mt_W_law) 380 = .ok (.iaload, 1) := by decide +kernel
theorem d_W_law_381 : decode (ab_bc mt_W_law) 381 = .ok (.aload_n 0, 1) := by decide +kernel
theorem d_W_law_382 : decode (ab_bc mt_W_law) 382 = .ok (.iload 4, 2) := by decide +kernel
theorem d_W_law_384 : decode (ab_bc mt_W_law) 384 = .ok (.iconst 2, 1) := by decide +kernel
theorem d_W_law_385 : decode (ab_bc mt_W_law) 385 = .ok (.iadd, 1) := by decide +kernel
theorem d_W_law_386 : decode (ab_bc mt_W_law) 386 = .ok (.iaload, 1) := by decide +kernel
theorem d_W_law_387 : decode (ab_bc mt_W_law) 387 = .ok (.aload_n 3, 1) := by decide +kernel
theorem d_W_law_388 : decode (ab_bc mt_W_law) 388 = .ok (.invokestatic 95, 3) := by decide +kernel
theorem d_W_law_391 : decode (ab_bc mt_W_law) 391 = .ok (.istore 5, 2) := by decide +kernel
theorem d_W_law_393 : decode (ab_bc mt_W_law) 393 = .ok (.aload_n 2, 1) := by decide +kernel
theorem d_W_law_394 : decode (ab_bc mt_W_law) 394 = .ok (.aload_n 0, 1) := by decide +kernel
theorem d_W_law_395 : decode (ab_bc mt_W_law) 395 = .ok (.iload 4, 2) := by decide +kernel
theorem d_W_law_397 : decode (ab_bc mt_W_law) 397 = .ok (.iconst 1, 1) := by decide +kernel
theorem d_W_law_398 : decode (ab_bc mt_W_law) 398 = .ok (.iadd, 1) := by decide +kernel
theorem d_W_law_399 : decode (ab_bc mt_W_law) 399 = .ok (.iaload, 1) := by decide +kernel
theorem d_W_law_400 : decode (ab_bc mt_W_law) 400 = .ok (.aload_n 0, 1) := by decide +kernel
theorem d_W_law_401 : decode (ab_bc mt_W_law) 401 = .ok (.iload 4, 2) := by decide +kernel
theorem d_W_law_403 : decode (ab_bc mt_W_law) 403 = .ok (.iconst 2, 1) := by decide +kernel
theorem d_W_law_404 : decode (ab_bc mt_W_law) 404 = .ok (.iadd, 1) := by decide +kernel
theorem d_W_law_405 : decode (ab_bc mt_W_law) 405 = .ok (.iaload, 1) := by decide +kernel
theorem d_W_law_406 : decode (ab_bc mt_W_law) 406 = .ok (.invokevirtual 98, 3) := by decide +kernel
theorem d_W_law_409 : decode (ab_bc mt_W_law) 409 = .ok (.istore 6, 2) := by decide +kernel
theorem d_W_law_411 : decode (ab_bc mt_W_law) 411 = .ok (.aload_n 2, 1) := by decide +kernel
theorem d_W_law_412 : decode (ab_bc mt_W_law) 412 = .ok (.invokevirtual 84, 3) := by decide +kernel
theorem d_W_law_415 : decode (ab_bc mt_W_law) 415 = .ok (.iload 5, 2) := by decide +kernel
theorem d_W_law_417 : decode (ab_bc mt_W_law) 417 = .ok (.if_icmp .eq 5, 3) := by decide +kernel
theorem d_W_law_420 : decode (ab_bc mt_W_law) 420 = .ok (.iconst 0, 1) := by decide +kernel
theorem d_W_law_421 : decode (ab_bc mt_W_law) 421 = .ok (.ireturn, 1) := by decide +kernel
theorem d_W_law_422 : decode (ab_bc mt_W_law) 422 = .ok (.iload 5, 2) := by decide +kernel
theorem d_W_law_424 : decode (ab_bc mt_W_law) 424 = .ok (.ifCond .ne 15, 3) := by decide +kernel
theorem d_W_law_427 : decode (ab_bc mt_W_law) 427 = .ok (.aload_n 3, 1) := by decide +kernel
theorem d_W_law_428 : decode (ab_bc mt_W_law) 428 = .ok (.iconst 0, 1) := by decide +kernel
theorem d_W_law_429 : decode (ab_bc mt_W_law) 429 = .ok (.laload, 1) := by decide +kernel
theorem d_W_law_430 : decode (ab_bc mt_W_law) 430 = .ok (.iload 6, 2) := by decide +kernel
theorem d_W_law_432 : decode (ab_bc mt_W_law) 432 = .ok (.i2l, 1) := by decide +kernel
theorem d_W_law_433 : decode (ab_bc mt_W_law) 433 = .ok (.lcmp, 1) := by decide +kernel
theorem d_W_law_434 : decode (ab_bc mt_W_law) 434 = .ok (.ifCond .eq 5, 3) := by decide +kernel
theorem d_W_law_437 : decode (ab_bc mt_W_law) 437 = .ok (.iconst 0, 1) := by decide +kernel
theorem d_W_law_438 : decode (ab_bc mt_W_law) 438 = .ok (.ireturn, 1) := by decide +kernel
theorem d_W_law_439 : decode (ab_bc mt_W_law) 439 = .ok (.goto 1219, 3) := by decide +kernel
theorem d_W_law_442 : decode (ab_bc mt_W_law) 442 = .ok (.aload_n 1, 1) := by decide +kernel
theorem d_W_law_443 : decode (ab_bc mt_W_law) 443 = .ok (.aload_n 0, 1) := by decide +kernel
theorem d_W_law_444 : decode (ab_bc mt_W_law) 444 = .ok (.iload 4, 2) := by decide +kernel
theorem d_W_law_446 : decode (ab_bc mt_W_law) 446 = .ok (.iconst 1, 1) := by decide +kernel
theorem d_W_law_447 : decode (ab_bc mt_W_law) 447 = .ok (.iadd, 1) := by decide +kernel
theorem d_W_law_448 : decode (ab_bc mt_W_law) 448 = .ok (.iaload, 1) := by decide +kernel
theorem d_W_law_449 : decode (ab_bc mt_W_law) 449 = .ok (.aload_n 0, 1) := by decide +kernel
theorem d_W_law_450 : decode (ab_bc mt_W_law) 450 = .ok (.iload 4, 2) := by decide +kernel
theorem d_W_law_452 : decode (ab_bc mt_W_law) 452 = .ok (.iconst 2, 1) := by decide +kernel
theorem d_W_law_453 : decode (ab_bc mt_W_law) 453 = .ok (.iadd, 1) := by decide +kernel
theorem d_W_law_454 : decode (ab_bc mt_W_law) 454 = .ok (.iaload, 1) := by decide +kernel
theorem d_W_law_455 : decode (ab_bc mt_W_law) 455 = .ok (.aload_n 3, 1) := by decide +kernel
theorem d_W_law_456 : decode (ab_bc mt_W_law) 456 = .ok (.invokestatic 99, 3) := by decide +kernel
theorem d_W_law_459 : decode (ab_bc mt_W_law) 459 = .ok (.istore 5, 2) := by decide +kernel
theorem d_W_law_461 : decode (ab_bc mt_W_law) 461 = .ok (.aload_n 2, 1) := by decide +kernel
theorem d_W_law_462 : decode (ab_bc mt_W_law) 462 = .ok (.aload_n 0, 1) := by decide +kernel
theorem d_W_law_463 : decode (ab_bc mt_W_law) 463 = .ok (.iload 4, 2) := by decide +kernel
theorem d_W_law_465 : decode (ab_bc mt_W_law) 465 = .ok (.iconst 1, 1) := by decide +kernel
theorem d_W_law_466 : decode (ab_bc mt_W_law) 466 = .ok (.iadd, 1) := by decide +kernel
theorem d_W_law_467 : decode (ab_bc mt_W_law) 467 = .ok (.iaload, 1) := by decide +kernel
theorem d_W_law_468 : decode (ab_bc mt_W_law) 468 = .ok (.aload_n 0, 1) := by decide +kernel
theorem d_W_law_469 : decode (ab_bc mt_W_law) 469 = .ok (.iload 4, 2) := by decide +kernel
theorem d_W_law_471 : decode (ab_bc mt_W_law) 471 = .ok (.iconst 2, 1) := by decide +kernel
theorem d_W_law_472 : decode (ab_bc mt_W_law) 472 = .ok (.iadd, 1) := by decide +kernel
theorem d_W_law_473 : decode (ab_bc mt_W_law) 473 = .ok (.iaload, 1) := by decide +kernel
theorem d_W_law_474 : decode (ab_bc mt_W_law) 474 = .ok (.invokevirtual 101, 3) := by decide +kernel
theorem d_W_law_477 : decode (ab_bc mt_W_law) 477 = .ok (.istore 6, 2) := by decide +kernel
theorem d_W_law_479 : decode (ab_bc mt_W_law) 479 = .ok (.aload_n 2, 1) := by decide +kernel
theorem d_W_law_480 : decode (ab_bc mt_W_law) 480 = .ok (.invokevirtual 84, 3) := by decide +kernel
