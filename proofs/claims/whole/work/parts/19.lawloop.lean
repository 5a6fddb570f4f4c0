theorem dL_law_0 : decode cL_law 0 = .ok (.new 7, 3) := by decide +kernel
theorem dL_law_3 : decode cL_law 3 = .ok (.dup, 1) := by decide +kernel
theorem dL_law_4 : decode cL_law 4 = .ok (.invokespecial 9, 3) := by decide +kernel
theorem dL_law_7 : decode cL_law 7 = .ok (.astore_n 1, 1) := by decide +kernel
theorem dL_law_8 : decode cL_law 8 = .ok (.new 10, 3) := by decide +kernel
theorem dL_law_11 : decode cL_law 11 = .ok (.dup, 1) := by decide +kernel
theorem dL_law_12 : decode cL_law 12 = .ok (.invokespecial 12, 3) := by decide +kernel
theorem dL_law_15 : decode cL_law 15 = .ok (.astore_n 2, 1) := by decide +kernel
theorem dL_law_16 : decode cL_law 16 = .ok (.iconst 0, 1) := by decide +kernel
theorem dL_law_17 : decode cL_law 17 = .ok (.istore_n 3, 1) := by decide +kernel
theorem dL_law_18 : decode cL_law 18 = .ok (.iload_n 3, 1) := by decide +kernel
theorem dL_law_19 : decode cL_law 19 = .ok (.aload_n 0, 1) := by decide +kernel
theorem dL_law_20 : decode cL_law 20 = .ok (.arraylength, 1) := by decide +kernel
theorem dL_law_21 : decode cL_law 21 = .ok (.iconst 4, 1) := by decide +kernel
theorem dL_law_22 : decode cL_law 22 = .ok (.isub, 1) := by decide +kernel
theorem dL_law_23 : decode cL_law 23 = .ok (.if_icmp .gt 740, 3) := by decide +kernel
theorem dL_law_26 : decode cL_law 26 = .ok (.aload_n 0, 1) := by decide +kernel
theorem dL_law_27 : decode cL_law 27 = .ok (.iload_n 3, 1) := by decide +kernel
theorem dL_law_28 : decode cL_law 28 = .ok (.iaload, 1) := by decide +kernel
theorem dL_law_29 : decode cL_law 29 = .ok (.bipush 31, 2) := by decide +kernel
theorem dL_law_31 : decode cL_law 31 = .ok (.iand, 1) := by decide +kernel
theorem dL_law_32 : decode cL_law 32 = .ok (.tableswitch 725 0 26 #[124, 147, 190, 223, 256, 289, 312, 335, 348, 371, 384, 407, 440, 473, 496, 519, 542, 565, 588, 601, 614, 627, 640, 653, 676, 689, 712], 124) := by decide +kernel
theorem dL_law_156 : decode cL_law 156 = .ok (.aload_n 1, 1) := by decide +kernel
theorem dL_law_157 : decode cL_law 157 = .ok (.aload_n 0, 1) := by decide +kernel
theorem dL_law_158 : decode cL_law 158 = .ok (.iload_n 3, 1) := by decide +kernel
theorem dL_law_159 : decode cL_law 159 = .ok (.iconst 1, 1) := by decide +kernel
theorem dL_law_160 : decode cL_law 160 = .ok (.iadd, 1) := by decide +kernel
theorem dL_law_161 : decode cL_law 161 = .ok (.iaload, 1) := by decide +kernel
theorem dL_law_162 : decode cL_law 162 = .ok (.invokevirtual 13, 3) := by decide +kernel
theorem dL_law_165 : decode cL_law 165 = .ok (.aload_n 2, 1) := by decide +kernel
theorem dL_law_166 : decode cL_law 166 = .ok (.aload_n 0, 1) := by decide +kernel
theorem dL_law_167 : decode cL_law 167 = .ok (.iload_n 3, 1) := by decide +kernel
theorem dL_law_168 : decode cL_law 168 = .ok (.iconst 1, 1) := by decide +kernel
theorem dL_law_169 : decode cL_law 169 = .ok (.iadd, 1) := by decide +kernel
theorem dL_law_170 : decode cL_law 170 = .ok (.iaload, 1) := by decide +kernel
theorem dL_law_171 : decode cL_law 171 = .ok (.invokevirtual 17, 3) := by decide +kernel
theorem dL_law_174 : decode cL_law 174 = .ok (.if_icmp .eq 583, 3) := by decide +kernel
theorem dL_law_177 : decode cL_law 177 = .ok (.iconst 0, 1) := by decide +kernel
theorem dL_law_178 : decode cL_law 178 = .ok (.ireturn, 1) := by decide +kernel
theorem dL_law_179 : decode cL_law 179 = .ok (.aload_n 1, 1) := by decide +kernel
theorem dL_law_180 : decode cL_law 180 = .ok (.aload_n 0, 1) := by decide +kernel
theorem dL_law_181 : decode cL_law 181 = .ok (.iload_n 3, 1) := by decide +kernel
theorem dL_law_182 : decode cL_law 182 = .ok (.iconst 1, 1) := by decide +kernel
theorem dL_law_183 : decode cL_law 183 = .ok (.iadd, 1) := by decide +kernel
theorem dL_law_184 : decode cL_law 184 = .ok (.iaload, 1) := by decide +kernel
theorem dL_law_185 : decode cL_law 185 = .ok (.aload_n 0, 1) := by decide +kernel
theorem dL_law_186 : decode cL_law 186 = .ok (.iload_n 3, 1) := by decide +kernel
theorem dL_law_187 : decode cL_law 187 = .ok (.iconst 2, 1) := by decide +kernel
theorem dL_law_188 : decode cL_law 188 = .ok (.iadd, 1) := by decide +kernel
theorem dL_law_189 : decode cL_law 189 = .ok (.iaload, 1) := by decide +kernel
theorem dL_law_190 : decode cL_law 190 = .ok (.aload_n 0, 1) := by decide +kernel
theorem dL_law_191 : decode cL_law 191 = .ok (.iload_n 3, 1) := by decide +kernel
theorem dL_law_192 : decode cL_law 192 = .ok (.iconst 3, 1) := by decide +kernel
theorem dL_law_193 : decode cL_law 193 = .ok (.iadd, 1) := by decide +kernel
theorem dL_law_194 : decode cL_law 194 = .ok (.iaload, 1) := by decide +kernel
theorem dL_law_195 : decode cL_law 195 = .ok (.invokevirtual 18, 3) := by decide +kernel
theorem dL_law_198 : decode cL_law 198 = .ok (.aload_n 2, 1) := by decide +kernel
theorem dL_law_199 : decode cL_law 199 = .ok (.aload_n 0, 1) := by decide +kernel
theorem dL_law_200 : decode cL_law 200 = .ok (.iload_n 3, 1) := by decide +kernel
theorem dL_law_201 : decode cL_law 201 = .ok (.iconst 1, 1) := by decide +kernel
theorem dL_law_202 : decode cL_law 202 = .ok (.iadd, 1) := by decide +kernel
theorem dL_law_203 : decode cL_law 203 = .ok (.iaload, 1) := by decide +kernel
theorem dL_law_204 : decode cL_law 204 = .ok (.aload_n 0, 1) := by decide +kernel
theorem dL_law_205 : decode cL_law 205 = .ok (.iload_n 3, 1) := by decide +kernel
theorem dL_law_206 : decode cL_law 206 = .ok (.iconst 2, 1) := by decide +kernel
theorem dL_law_207 : decode cL_law 207 = .ok (.iadd, 1) := by decide +kernel
theorem dL_law_208 : decode cL_law 208 = .ok (.iaload, 1) := by decide +kernel
theorem dL_law_209 : decode cL_law 209 = .ok (.aload_n 0, 1) := by decide +kernel
theorem dL_law_210 : decode cL_law 210 = .ok (.iload_n 3, 1) := by decide +kernel
theorem dL_law_211 : decode cL_law 211 = .ok (.iconst 3, 1) := by decide +kernel
theorem dL_law_212 : decode cL_law 212 = .ok (.iadd, 1) := by decide +kernel
theorem dL_law_213 : decode cL_law 213 = .ok (.iaload, 1) := by decide +kernel
theorem dL_law_214 : decode cL_law 214 = .ok (.invokevirtual 22, 3) := by decide +kernel
theorem dL_law_217 : decode cL_law 217 = .ok (.if_icmp .eq 540, 3) := by decide +kernel
theorem dL_law_220 : decode cL_law 220 = .ok (.iconst 0, 1) := by decide +kernel
theorem dL_law_221 : decode cL_law 221 = .ok (.ireturn, 1) := by decide +kernel
theorem dL_law_222 : decode cL_law 222 = .ok (.aload_n 1, 1) := by decide +kernel
theorem dL_law_223 : decode cL_law 223 = .ok (.aload_n 0, 1) := by decide +kernel
theorem dL_law_224 : decode cL_law 224 = .ok (.iload_n 3, 1) := by decide +kernel
theorem dL_law_225 : decode cL_law 225 = .ok (.iconst 1, 1) := by decide +kernel
theorem dL_law_226 : decode cL_law 226 = .ok (.iadd, 1) := by decide +kernel
theorem dL_law_227 : decode cL_law 227 = .ok (.iaload, 1) := by decide +kernel
theorem dL_law_228 : decode cL_law 228 = .ok (.aload_n 0, 1) := by decide +kernel
theorem dL_law_229 : decode cL_law 229 = .ok (.iload_n 3, 1) := by decide +kernel
theorem dL_law_230 : decode cL_law 230 = .ok (.iconst 2, 1) := by decide +kernel
theorem dL_law_231 : decode cL_law 231 = .ok (.iadd, 1) := by decide +kernel
theorem dL_law_232 : decode cL_law 232 = .ok (.iaload, 1) := by decide +kernel
theorem dL_law_233 : decode cL_law 233 = .ok (.invokevirtual 23, 3) := by decide +kernel
theorem dL_law_236 : decode cL_law 236 = .ok (.aload_n 2, 1) := by decide +kernel
theorem dL_law_237 : decode cL_law 237 = .ok (.aload_n 0, 1) := by decide +kernel
theorem dL_law_238 : decode cL_law 238 = .ok (.iload_n 3, 1) := by decide +kernel
theorem dL_law_239 : decode cL_law 239 = .ok (.iconst 1, 1) := by decide +kernel
theorem dL_law_240 : decode cL_law 240 = .ok (.iadd, 1) := by decide +kernel
theorem dL_law_241 : decode cL_law 241 = .ok (.iaload, 1) := by decide +kernel
theorem dL_law_242 : decode cL_law 242 = .ok (.aload_n 0, 1) := by decide +kernel
theorem dL_law_243 : decode cL_law 243 = .ok (.iload_n 3, 1) := by decide +kernel
theorem dL_law_244 : decode cL_law 244 = .ok (.iconst 2, 1) := by decide +kernel
theorem dL_law_245 : decode cL_law 245 = .ok (.iadd, 1) := by decide +kernel
theorem dL_law_246 : decode cL_law 246 = .ok (.iaload, 1) := by decide +kernel
theorem dL_law_247 : decode cL_law 247 = .ok (.invokevirtual 27, 3) := by decide +kernel
theorem dL_law_250 : decode cL_law 250 = .ok (.if_icmp .eq 507, 3) := by decide +kernel
theorem dL_law_253 : decode cL_law 253 = .ok (.iconst 0, 1) := by decide +kernel
theorem dL_law_254 : decode cL_law 254 = .ok (.ireturn, 1) := by decide +kernel
theorem dL_law_255 : decode cL_law 255 = .ok (.aload_n 1, 1) := by decide +kernel
theorem dL_law_256 : decode cL_law 256 = .ok (.aload_n 0, 1) := by decide +kernel
theorem dL_law_257 : decode cL_law 257 = .ok (.iload_n 3, 1) := by decide +kernel
theorem dL_law_258 : decode cL_law 258 = .ok (.iconst 1, 1) := by decide +kernel
theorem dL_law_259 : decode cL_law 259 = .ok (.iadd, 1) := by decide +kernel
theorem dL_law_260 : decode cL_law 260 = .ok (.iaload, 1) := by decide +kernel
theorem dL_law_261 : decode cL_law 261 = .ok (.aload_n 0, 1) := by decide +kernel
theorem dL_law_262 : decode cL_law 262 = .ok (.iload_n 3, 1) := by decide +kernel
theorem dL_law_263 : decode cL_law 263 = .ok (.iconst 2, 1) := by decide +kernel
theorem dL_law_264 : decode cL_law 264 = .ok (.iadd, 1) := by decide +kernel
theorem dL_law_265 : decode cL_law 265 = .ok (.iaload, 1) := by decide +kernel
theorem dL_law_266 : decode cL_law 266 = .ok (.invokevirtual 28, 3) := by decide +kernel
theorem dL_law_269 : decode cL_law 269 = .ok (.aload_n 2, 1) := by decide +kernel
theorem dL_law_270 : decode cL_law 270 = .ok (.aload_n 0, 1) := by decide +kernel
theorem dL_law_271 : decode cL_law 271 = .ok (.iload_n 3, 1) := by decide +kernel
theorem dL_law_272 : decode cL_law 272 = .ok (.iconst 1, 1) := by decide +kernel
theorem dL_law_273 : decode cL_law 273 = .ok (.iadd, 1) := by decide +kernel
theorem dL_law_274 : decode cL_law 274 = .ok (.iaload, 1) := by decide +kernel
theorem dL_law_275 : decode cL_law 275 = .ok (.aload_n 0, 1) := by decide +kernel
theorem dL_law_276 : decode cL_law 276 = .ok (.iload_n 3, 1) := by decide +kernel
theorem dL_law_277 : decode cL_law 277 = .ok (.iconst 2, 1) := by decide +kernel
theorem dL_law_278 : decode cL_law 278 = .ok (.iadd, 1) := by decide +kernel
theorem dL_law_279 : decode cL_law 279 = .ok (.iaload, 1) := by decide +kernel
theorem dL_law_280 : decode cL_law 280 = .ok (.invokevirtual 31, 3) := by decide +kernel
theorem dL_law_283 : decode cL_law 283 = .ok (.if_icmp .eq 474, 3) := by decide +kernel
theorem dL_law_286 : decode cL_law 286 = .ok (.iconst 0, 1) := by decide +kernel
theorem dL_law_287 : decode cL_law 287 = .ok (.ireturn, 1) := by decide +kernel
theorem dL_law_288 : decode cL_law 288 = .ok (.aload_n 1, 1) := by decide +kernel
theorem dL_law_289 : decode cL_law 289 = .ok (.aload_n 0, 1) := by decide +kernel
theorem dL_law_290 : decode cL_law 290 = .ok (.iload_n 3, 1) := by decide +kernel
theorem dL_law_291 : decode cL_law 291 = .ok (.iconst 1, 1) := by decide +kernel
theorem dL_law_292 : decode cL_law 292 = .ok (.iadd, 1) := by decide +kernel
theorem dL_law_293 : decode cL_law 293 = .ok (.iaload, 1) := by decide +kernel
theorem dL_law_294 : decode cL_law 294 = .ok (.aload_n 0, 1) := by decide +kernel
theorem dL_law_295 : decode cL_law 295 = .ok (.iload_n 3, 1) := by decide +kernel
theorem dL_law_296 : decode cL_law 296 = .ok (.iconst 2, 1) := by decide +kernel
theorem dL_law_297 : decode cL_law 297 = .ok (.iadd, 1) := by decide +kernel
theorem dL_law_298 : decode cL_law 298 = .ok (.iaload, 1) := by decide +kernel
theorem dL_law_299 : decode cL_law 299 = .ok (.invokevirtual 32, 3) := by decide +kernel
theorem dL_law_302 : decode cL_law 302 = .ok (.aload_n 2, 1) := by decide +kernel
theorem dL_law_303 : decode cL_law 303 = .ok (.aload_n 0, 1) := by decide +kernel
theorem dL_law_304 : decode cL_law 304 = .ok (.iload_n 3, 1) := by decide +kernel
theorem dL_law_305 : decode cL_law 305 = .ok (.iconst 1, 1) := by decide +kernel
theorem dL_law_306 : decode cL_law 306 = .ok (.iadd, 1) := by decide +kernel
theorem dL_law_307 : decode cL_law 307 = .ok (.iaload, 1) := by decide +kernel
theorem dL_law_308 : decode cL_law 308 = .ok (.aload_n 0, 1) := by decide +kernel
theorem dL_law_309 : decode cL_law 309 = .ok (.iload_n 3, 1) := by decide +kernel
theorem dL_law_310 : decode cL_law 310 = .ok (.iconst 2, 1) := by decide +kernel
theorem dL_law_311 : decode cL_law 311 = .ok (.iadd, 1) := by decide +kernel
theorem dL_law_312 : decode cL_law 312 = .ok (.iaload, 1) := by decide +kernel
theorem dL_law_313 : decode cL_law 313 = .ok (.invokevirtual 35, 3) := by decide +kernel
theorem dL_law_316 : decode cL_law 316 = .ok (.if_icmp .eq 441, 3) := by decide +kernel
theorem dL_law_319 : decode cL_law 319 = .ok (.iconst 0, 1) := by decide +kernel
theorem dL_law_320 : decode cL_law 320 = .ok (.ireturn, 1) := by decide +kernel
theorem dL_law_321 : decode cL_law 321 = .ok (.aload_n 1, 1) := by decide +kernel
theorem dL_law_322 : decode cL_law 322 = .ok (.aload_n 0, 1) := by decide +kernel
theorem dL_law_323 : decode cL_law 323 = .ok (.iload_n 3, 1) := by decide +kernel
theorem dL_law_324 : decode cL_law 324 = .ok (.iconst 1, 1) := by decide +kernel
theorem dL_law_325 : decode cL_law 325 = .ok (.iadd, 1) := by decide +kernel
theorem dL_law_326 : decode cL_law 326 = .ok (.iaload, 1) := by decide +kernel
theorem dL_law_327 : decode cL_law 327 = .ok (.invokevirtual 36, 3) := by decide +kernel
theorem dL_law_330 : decode cL_law 330 = .ok (.aload_n 2, 1) := by decide +kernel
theorem dL_law_331 : decode cL_law 331 = .ok (.aload_n 0, 1) := by decide +kernel
theorem dL_law_332 : decode cL_law 332 = .ok (.iload_n 3, 1) := by decide +kernel
theorem dL_law_333 : decode cL_law 333 = .ok (.iconst 1, 1) := by decide +kernel
theorem dL_law_334 : decode cL_law 334 = .ok (.iadd, 1) := by decide +kernel
theorem dL_law_335 : decode cL_law 335 = .ok (.iaload, 1) := by decide +kernel
theorem dL_law_336 : decode cL_law 336 = .ok (.invokevirtual 39, 3) := by decide +kernel
theorem dL_law_339 : decode cL_law 339 = .ok (.if_icmp .eq 418, 3) := by decide +kernel
theorem dL_law_342 : decode cL_law 342 = .ok (.iconst 0, 1) := by decide +kernel
theorem dL_law_343 : decode cL_law 343 = .ok (.ireturn, 1) := by decide +kernel
theorem dL_law_344 : decode cL_law 344 = .ok (.aload_n 1, 1) := by decide +kernel
theorem dL_law_345 : decode cL_law 345 = .ok (.aload_n 0, 1) := by decide +kernel
theorem dL_law_346 : decode cL_law 346 = .ok (.iload_n 3, 1) := by decide +kernel
theorem dL_law_347 : decode cL_law 347 = .ok (.iconst 1, 1) := by decide +kernel
theorem dL_law_348 : decode cL_law 348 = .ok (.iadd, 1) := by decide +kernel
theorem dL_law_349 : decode cL_law 349 = .ok (.iaload, 1) := by decide +kernel
theorem dL_law_350 : decode cL_law 350 = .ok (.invokevirtual 40, 3) := by decide +kernel
theorem dL_law_353 : decode cL_law 353 = .ok (.aload_n 2, 1) := by decide +kernel
theorem dL_law_354 : decode cL_law 354 = .ok (.aload_n 0, 1) := by decide +kernel
theorem dL_law_355 : decode cL_law 355 = .ok (.iload_n 3, 1) := by decide +kernel
theorem dL_law_356 : decode cL_law 356 = .ok (.iconst 1, 1) := by decide +kernel
theorem dL_law_357 : decode cL_law 357 = .ok (.iadd, 1) := by decide +kernel
theorem dL_law_358 : decode cL_law 358 = .ok (.iaload, 1) := by decide +kernel
theorem dL_law_359 : decode cL_law 359 = .ok (.invokevirtual 43, 3) := by decide +kernel
theorem dL_law_362 : decode cL_law 362 = .ok (.if_icmp .eq 395, 3) := by decide +kernel
theorem dL_law_365 : decode cL_law 365 = .ok (.iconst 0, 1) := by decide +kernel
theorem dL_law_366 : decode cL_law 366 = .ok (.ireturn, 1) := by decide +kernel
theorem dL_law_367 : decode cL_law 367 = .ok (.aload_n 1, 1) := by decide +kernel
theorem dL_law_368 : decode cL_law 368 = .ok (.invokevirtual 44, 3) := by decide +kernel
theorem dL_law_371 : decode cL_law 371 = .ok (.aload_n 2, 1) := by decide +kernel
theorem dL_law_372 : decode cL_law 372 = .ok (.invokevirtual 48, 3) := by decide +kernel
theorem dL_law_375 : decode cL_law 375 = .ok (.if_icmp .eq 382, 3) := by decide +kernel
theorem dL_law_378 : decode cL_law 378 = .ok (.iconst 0, 1) := by decide +kernel
theorem dL_law_379 : decode cL_law 379 = .ok (.ireturn, 1) := by decide +kernel
theorem dL_law_380 : decode cL_law 380 = .ok (.aload_n 1, 1) := by decide +kernel
theorem dL_law_381 : decode cL_law 381 = .ok (.aload_n 0, 1) := by decide +kernel
theorem dL_law_382 : decode cL_law 382 = .ok (.iload_n 3, 1) := by decide +kernel
theorem dL_law_383 : decode cL_law 383 = .ok (.iconst 1, 1) := by decide +kernel
theorem dL_law_384 : decode cL_law 384 = .ok (.iadd, 1) := by decide +kernel
theorem dL_law_385 : decode cL_law 385 = .ok (.iaload, 1) := by decide +kernel
theorem dL_law_386 : decode cL_law 386 = .ok (.invokevirtual 49, 3) := by decide +kernel
theorem dL_law_389 : decode cL_law 389 = .ok (.aload_n 2, 1) := by decide +kernel
theorem dL_law_390 : decode cL_law 390 = .ok (.aload_n 0, 1) := by decide +kernel
theorem dL_law_391 : decode cL_law 391 = .ok (.iload_n 3, 1) := by decide +kernel
theorem dL_law_392 : decode cL_law 392 = .ok (.iconst 1, 1) := by decide +kernel
theorem dL_law_393 : decode cL_law 393 = .ok (.iadd, 1) := by decide +kernel
theorem dL_law_394 : decode cL_law 394 = .ok (.iaload, 1) := by decide +kernel
theorem dL_law_395 : decode cL_law 395 = .ok (.invokevirtual 52, 3) := by decide +kernel
theorem dL_law_398 : decode cL_law 398 = .ok (.if_icmp .eq 359, 3) := by decide +kernel
theorem dL_law_401 : decode cL_law 401 = .ok (.iconst 0, 1) := by decide +kernel
theorem dL_law_402 : decode cL_law 402 = .ok (.ireturn, 1) := by decide +kernel
theorem dL_law_403 : decode cL_law 403 = .ok (.aload_n 1, 1) := by decide +kernel
theorem dL_law_404 : decode cL_law 404 = .ok (.invokevirtual 53, 3) := by decide +kernel
theorem dL_law_407 : decode cL_law 407 = .ok (.aload_n 2, 1) := by decide +kernel
theorem dL_law_408 : decode cL_law 408 = .ok (.invokevirtual 56, 3) := by decide +kernel
theorem dL_law_411 : decode cL_law 411 = .ok (.if_icmp .eq 346, 3) := by decide +kernel
theorem dL_law_414 : decode cL_law 414 = .ok (.iconst 0, 1) := by decide +kernel
theorem dL_law_415 : decode cL_law 415 = .ok (.ireturn, 1) := by decide +kernel
theorem dL_law_416 : decode cL_law 416 = .ok (.aload_n 1, 1) := by decide +kernel
theorem dL_law_417 : decode cL_law 417 = .ok (.aload_n 0, 1) := by decide +kernel
theorem dL_law_418 : decode cL_law 418 = .ok (.iload_n 3, 1) := by decide +kernel
theorem dL_law_419 : decode cL_law 419 = .ok (.iconst 1, 1) := by decide +kernel
theorem dL_law_420 : decode cL_law 420 = .ok (.iadd, 1) := by decide +kernel
theorem dL_law_421 : decode cL_law 421 = .ok (.iaload, 1) := by decide +kernel
theorem dL_law_422 : decode cL_law 422 = .ok (.invokevirtual 57, 3) := by decide +kernel
theorem dL_law_425 : decode cL_law 425 = .ok (.aload_n 2, 1) := by decide +kernel
theorem dL_law_426 : decode cL_law 426 = .ok (.aload_n 0, 1) := by decide +kernel
theorem dL_law_427 : decode cL_law 427 = .ok (.iload_n 3, 1) := by decide +kernel
theorem dL_law_428 : decode cL_law 428 = .ok (.iconst 1, 1) := by decide +kernel
theorem dL_law_429 : decode cL_law 429 = .ok (.iadd, 1) := by decide +kernel
theorem dL_law_430 : decode cL_law 430 = .ok (.iaload, 1) := by decide +kernel
theorem dL_law_431 : decode cL_law 431 = .ok (.invokevirtual 60, 3) := by decide +kernel
theorem dL_law_434 : decode cL_law 434 = .ok (.if_icmp .eq 323, 3) := by decide +kernel
theorem dL_law_437 : decode cL_law 437 = .ok (.iconst 0, 1) := by decide +kernel
theorem dL_law_438 : decode cL_law 438 = .ok (.ireturn, 1) := by decide +kernel
theorem dL_law_439 : decode cL_law 439 = .ok (.aload_n 1, 1) := by decide +kernel
theorem dL_law_440 : decode cL_law 440 = .ok (.aload_n 0, 1) := by decide +kernel
theorem dL_law_441 : decode cL_law 441 = .ok (.iload_n 3, 1) := by decide +kernel
theorem dL_law_442 : decode cL_law 442 = .ok (.iconst 1, 1) := by decide +kernel
theorem dL_law_443 : decode cL_law 443 = .ok (.iadd, 1) := by decide +kernel
theorem dL_law_444 : decode cL_law 444 = .ok (.iaload, 1) := by decide +kernel
theorem dL_law_445 : decode cL_law 445 = .ok (.aload_n 0, 1) := by decide +kernel
theorem dL_law_446 : decode cL_law 446 = .ok (.iload_n 3, 1) := by decide +kernel
theorem dL_law_447 : decode cL_law 447 = .ok (.iconst 2, 1) := by decide +kernel
theorem dL_law_448 : decode cL_law 448 = .ok (.iadd, 1) := by decide +kernel
theorem dL_law_449 : decode cL_law 449 = .ok (.iaload, 1) := by decide +kernel
theorem dL_law_450 : decode cL_law 450 = .ok (.invokevirtual 61, 3) := by decide +kernel
theorem dL_law_453 : decode cL_law 453 = .ok (.aload_n 2, 1) := by decide +kernel
theorem dL_law_454 : decode cL_law 454 = .ok (.aload_n 0, 1) := by decide +kernel
theorem dL_law_455 : decode cL_law 455 = .ok (.iload_n 3, 1) := by decide +kernel
theorem dL_law_456 : decode cL_law 456 = .ok (.iconst 1, 1) := by decide +kernel
theorem dL_law_457 : decode cL_law 457 = .ok (.iadd, 1) := by decide +kernel
theorem dL_law_458 : decode cL_law 458 = .ok (.iaload, 1) := by decide +kernel
theorem dL_law_459 : decode cL_law 459 = .ok (.aload_n 0, 1) := by decide +kernel
theorem dL_law_460 : decode cL_law 460 = .ok (.iload_n 3, 1) := by decide +kernel
theorem dL_law_461 : decode cL_law 461 = .ok (.iconst 2, 1) := by decide +kernel
theorem dL_law_462 : decode cL_law 462 = .ok (.iadd, 1) := by decide +kernel
theorem dL_law_463 : decode cL_law 463 = .ok (.iaload, 1) := by decide +kernel
theorem dL_law_464 : decode cL_law 464 = .ok (.invokevirtual 64, 3) := by decide +kernel
theorem dL_law_467 : decode cL_law 467 = .ok (.if_icmp .eq 290, 3) := by decide +kernel
theorem dL_law_470 : decode cL_law 470 = .ok (.iconst 0, 1) := by decide +kernel
theorem dL_law_471 : decode cL_law 471 = .ok (.ireturn, 1) := by decide +kernel
theorem dL_law_472 : decode cL_law 472 = .ok (.aload_n 1, 1) := by decide +kernel
theorem dL_law_473 : decode cL_law 473 = .ok (.aload_n 0, 1) := by decide +kernel
theorem dL_law_474 : decode cL_law 474 = .ok (.iload_n 3, 1) := by decide +kernel
theorem dL_law_475 : decode cL_law 475 = .ok (.iconst 1, 1) := by decide +kernel
theorem dL_law_476 : decode cL_law 476 = .ok (.iadd, 1) := by decide +kernel
theorem dL_law_477 : decode cL_law 477 = .ok (.iaload, 1) := by decide +kernel
theorem dL_law_478 : decode cL_law 478 = .ok (.aload_n 0, 1) := by decide +kernel
theorem dL_law_479 : decode cL_law 479 = .ok (.iload_n 3, 1) := by decide +kernel
theorem dL_law_480 : decode cL_law 480 = .ok (.iconst 2, 1) := by decide +kernel
theorem dL_law_481 : decode cL_law 481 = .ok (.iadd, 1) := by decide +kernel
theorem dL_law_482 : decode cL_law 482 = .ok (.iaload, 1) := by decide +kernel
theorem dL_law_483 : decode cL_law 483 = .ok (.invokevirtual 65, 3) := by decide +kernel
theorem dL_law_486 : decode cL_law 486 = .ok (.aload_n 2, 1) := by decide +kernel
theorem dL_law_487 : decode cL_law 487 = .ok (.aload_n 0, 1) := by decide +kernel
theorem dL_law_488 : decode cL_law 488 = .ok (.iload_n 3, 1) := by decide +kernel
theorem dL_law_489 : decode cL_law 489 = .ok (.iconst 1, 1) := by decide +kernel
theorem dL_law_490 : decode cL_law 490 = .ok (.iadd, 1) := by decide +kernel
theorem dL_law_491 : decode cL_law 491 = .ok (.iaload, 1) := by decide +kernel
theorem dL_law_492 : decode cL_law 492 = .ok (.aload_n 0, 1) := by decide +kernel
theorem dL_law_493 : decode cL_law 493 = .ok (.iload_n 3, 1) := by decide +kernel
theorem dL_law_494 : decode cL_law 494 = .ok (.iconst 2, 1) := by decide +kernel
theorem dL_law_495 : decode cL_law 495 = .ok (.iadd, 1) := by decide +kernel
theorem dL_law_496 : decode cL_law 496 = .ok (.iaload, 1) := by decide +kernel
theorem dL_law_497 : decode cL_law 497 = .ok (.invokevirtual 68, 3) := by decide +kernel
theorem dL_law_500 : decode cL_law 500 = .ok (.if_icmp .eq 257, 3) := by decide +kernel
theorem dL_law_503 : decode cL_law 503 = .ok (.iconst 0, 1) := by decide +kernel
theorem dL_law_504 : decode cL_law 504 = .ok (.ireturn, 1) := by decide +kernel
theorem dL_law_505 : decode cL_law 505 = .ok (.aload_n 1, 1) := by decide +kernel
theorem dL_law_506 : decode cL_law 506 = .ok (.aload_n 0, 1) := by decide +kernel
theorem dL_law_507 : decode cL_law 507 = .ok (.iload_n 3, 1) := by decide +kernel
theorem dL_law_508 : decode cL_law 508 = .ok (.iconst 1, 1) := by decide +kernel
theorem dL_law_509 : decode cL_law 509 = .ok (.iadd, 1) := by decide +kernel
theorem dL_law_510 : decode cL_law 510 = .ok (.iaload, 1) := by decide +kernel
theorem dL_law_511 : decode cL_law 511 = .ok (.invokevirtual 69, 3) := by decide +kernel
theorem dL_law_514 : decode cL_law 514 = .ok (.aload_n 2, 1) := by decide +kernel
theorem dL_law_515 : decode cL_law 515 = .ok (.aload_n 0, 1) := by decide +kernel
theorem dL_law_516 : decode cL_law 516 = .ok (.iload_n 3, 1) := by decide +kernel
theorem dL_law_517 : decode cL_law 517 = .ok (.iconst 1, 1) := by decide +kernel
theorem dL_law_518 : decode cL_law 518 = .ok (.iadd, 1) := by decide +kernel
theorem dL_law_519 : decode cL_law 519 = .ok (.iaload, 1) := by decide +kernel
theorem dL_law_520 : decode cL_law 520 = .ok (.invokevirtual 72, 3) := by decide +kernel
theorem dL_law_523 : decode cL_law 523 = .ok (.if_icmp .eq 234, 3) := by decide +kernel
theorem dL_law_526 : decode cL_law 526 = .ok (.iconst 0, 1) := by decide +kernel
theorem dL_law_527 : decode cL_law 527 = .ok (.ireturn, 1) := by decide +kernel
theorem dL_law_528 : decode cL_law 528 = .ok (.aload_n 1, 1) := by decide +kernel
theorem dL_law_529 : decode cL_law 529 = .ok (.aload_n 0, 1) := by decide +kernel
theorem dL_law_530 : decode cL_law 530 = .ok (.iload_n 3, 1) := by decide +kernel
theorem dL_law_531 : decode cL_law 531 = .ok (.iconst 1, 1) := by decide +kernel
theorem dL_law_532 : decode cL_law 532 = .ok (.iadd, 1) := by decide +kernel
theorem dL_law_533 : decode cL_law 533 = .ok (.iaload, 1) := by decide +kernel
theorem dL_law_534 : decode cL_law 534 = .ok (.invokevirtual 73, 3) := by decide +kernel
theorem dL_law_537 : decode cL_law 537 = .ok (.aload_n 2, 1) := by decide +kernel
theorem dL_law_538 : decode cL_law 538 = .ok (.aload_n 0, 1) := by decide +kernel
theorem dL_law_539 : decode cL_law 539 = .ok (.iload_n 3, 1) := by decide +kernel
theorem dL_law_540 : decode cL_law 540 = .ok (.iconst 1, 1) := by decide +kernel
theorem dL_law_541 : decode cL_law 541 = .ok (.iadd, 1) := by decide +kernel
theorem dL_law_542 : decode cL_law 542 = .ok (.iaload, 1) := by decide +kernel
theorem dL_law_543 : decode cL_law 543 = .ok (.invokevirtual 76, 3) := by decide +kernel
theorem dL_law_546 : decode cL_law 546 = .ok (.if_icmp .eq 211, 3) := by decide +kernel
theorem dL_law_549 : decode cL_law 549 = .ok (.iconst 0, 1) := by decide +kernel
theorem dL_law_550 : decode cL_law 550 = .ok (.ireturn, 1) := by decide +kernel
theorem dL_law_551 : decode cL_law 551 = .ok (.aload_n 1, 1) := by decide +kernel
theorem dL_law_552 : decode cL_law 552 = .ok (.aload_n 0, 1) := by decide +kernel
theorem dL_law_553 : decode cL_law 553 = .ok (.iload_n 3, 1) := by decide +kernel
theorem dL_law_554 : decode cL_law 554 = .ok (.iconst 1, 1) := by decide +kernel
theorem dL_law_555 : decode cL_law 555 = .ok (.iadd, 1) := by decide +kernel
theorem dL_law_556 : decode cL_law 556 = .ok (.iaload, 1) := by decide +kernel
theorem dL_law_557 : decode cL_law 557 = .ok (.invokevirtual 77, 3) := by decide +kernel
theorem dL_law_560 : decode cL_law 560 = .ok (.aload_n 2, 1) := by decide +kernel
theorem dL_law_561 : decode cL_law 561 = .ok (.aload_n 0, 1) := by decide +kernel
theorem dL_law_562 : decode cL_law 562 = .ok (.iload_n 3, 1) := by decide +kernel
theorem dL_law_563 : decode cL_law 563 = .ok (.iconst 1, 1) := by decide +kernel
theorem dL_law_564 : decode cL_law 564 = .ok (.iadd, 1) := by decide +kernel
theorem dL_law_565 : decode cL_law 565 = .ok (.iaload, 1) := by decide +kernel
theorem dL_law_566 : decode cL_law 566 = .ok (.invokevirtual 80, 3) := by decide +kernel
theorem dL_law_569 : decode cL_law 569 = .ok (.if_icmp .eq 188, 3) := by decide +kernel
theorem dL_law_572 : decode cL_law 572 = .ok (.iconst 0, 1) := by decide +kernel
theorem dL_law_573 : decode cL_law 573 = .ok (.ireturn, 1) := by decide +kernel
theorem dL_law_574 : decode cL_law 574 = .ok (.aload_n 1, 1) := by decide +kernel
theorem dL_law_575 : decode cL_law 575 = .ok (.aload_n 0, 1) := by decide +kernel
theorem dL_law_576 : decode cL_law 576 = .ok (.iload_n 3, 1) := by decide +kernel
theorem dL_law_577 : decode cL_law 577 = .ok (.iconst 1, 1) := by decide +kernel
theorem dL_law_578 : decode cL_law 578 = .ok (.iadd, 1) := by decide +kernel
theorem dL_law_579 : decode cL_law 579 = .ok (.iaload, 1) := by decide +kernel
theorem dL_law_580 : decode cL_law 580 = .ok (.invokevirtual 81, 3) := by decide +kernel
theorem dL_law_583 : decode cL_law 583 = .ok (.aload_n 2, 1) := by decide +kernel
theorem dL_law_584 : decode cL_law 584 = .ok (.aload_n 0, 1) := by decide +kernel
theorem dL_law_585 : decode cL_law 585 = .ok (.iload_n 3, 1) := by decide +kernel
theorem dL_law_586 : decode cL_law 586 = .ok (.iconst 1, 1) := by decide +kernel
theorem dL_law_587 : decode cL_law 587 = .ok (.iadd, 1) := by decide +kernel
theorem dL_law_588 : decode cL_law 588 = .ok (.iaload, 1) := by decide +kernel
theorem dL_law_589 : decode cL_law 589 = .ok (.invokevirtual 84, 3) := by decide +kernel
theorem dL_law_592 : decode cL_law 592 = .ok (.if_icmp .eq 165, 3) := by decide +kernel
theorem dL_law_595 : decode cL_law 595 = .ok (.iconst 0, 1) := by decide +kernel
theorem dL_law_596 : decode cL_law 596 = .ok (.ireturn, 1) := by decide +kernel
theorem dL_law_597 : decode cL_law 597 = .ok (.aload_n 1, 1) := by decide +kernel
theorem dL_law_598 : decode cL_law 598 = .ok (.aload_n 0, 1) := by decide +kernel
theorem dL_law_599 : decode cL_law 599 = .ok (.iload_n 3, 1) := by decide +kernel
theorem dL_law_600 : decode cL_law 600 = .ok (.iconst 1, 1) := by decide +kernel
theorem dL_law_601 : decode cL_law 601 = .ok (.iadd, 1) := by decide +kernel
theorem dL_law_602 : decode cL_law 602 = .ok (.iaload, 1) := by decide +kernel
theorem dL_law_603 : decode cL_law 603 = .ok (.invokevirtual 85, 3) := by decide +kernel
theorem dL_law_606 : decode cL_law 606 = .ok (.aload_n 2, 1) := by decide +kernel
theorem dL_law_607 : decode cL_law 607 = .ok (.aload_n 0, 1) := by decide +kernel
theorem dL_law_608 : decode cL_law 608 = .ok (.iload_n 3, 1) := by decide +kernel
theorem dL_law_609 : decode cL_law 609 = .ok (.iconst 1, 1) := by decide +kernel
theorem dL_law_610 : decode cL_law 610 = .ok (.iadd, 1) := by decide +kernel
theorem dL_law_611 : decode cL_law 611 = .ok (.iaload, 1) := by decide +kernel
theorem dL_law_612 : decode cL_law 612 = .ok (.invokevirtual 88, 3) := by decide +kernel
theorem dL_law_615 : decode cL_law 615 = .ok (.if_icmp .eq 142, 3) := by decide +kernel
theorem dL_law_618 : decode cL_law 618 = .ok (.iconst 0, 1) := by decide +kernel
theorem dL_law_619 : decode cL_law 619 = .ok (.ireturn, 1) := by decide +kernel
theorem dL_law_620 : decode cL_law 620 = .ok (.aload_n 1, 1) := by decide +kernel
theorem dL_law_621 : decode cL_law 621 = .ok (.invokevirtual 89, 3) := by decide +kernel
theorem dL_law_624 : decode cL_law 624 = .ok (.aload_n 2, 1) := by decide +kernel
theorem dL_law_625 : decode cL_law 625 = .ok (.invokevirtual 92, 3) := by decide +kernel
theorem dL_law_628 : decode cL_law 628 = .ok (.if_icmp .eq 129, 3) := by decide +kernel
theorem dL_law_631 : decode cL_law 631 = .ok (.iconst 0, 1) := by decide +kernel
theorem dL_law_632 : decode cL_law 632 = .ok (.ireturn, 1) := by decide +kernel
theorem dL_law_633 : decode cL_law 633 = .ok (.aload_n 1, 1) := by decide +kernel
theorem dL_law_634 : decode cL_law 634 = .ok (.invokevirtual 93, 3) := by decide +kernel
theorem dL_law_637 : decode cL_law 637 = .ok (.aload_n 2, 1) := by decide +kernel
theorem dL_law_638 : decode cL_law 638 = .ok (.invokevirtual 96, 3) := by decide +kernel
theorem dL_law_641 : decode cL_law 641 = .ok (.if_icmp .eq 116, 3) := by decide +kernel
theorem dL_law_644 : decode cL_law 644 = .ok (.iconst 0, 1) := by decide +kernel
theorem dL_law_645 : decode cL_law 645 = .ok (.ireturn, 1) := by decide +kernel
theorem dL_law_646 : decode cL_law 646 = .ok (.aload_n 1, 1) := by decide +kernel
theorem dL_law_647 : decode cL_law 647 = .ok (.invokevirtual 97, 3) := by decide +kernel
theorem dL_law_650 : decode cL_law 650 = .ok (.aload_n 2, 1) := by decide +kernel
theorem dL_law_651 : decode cL_law 651 = .ok (.invokevirtual 100, 3) := by decide +kernel
theorem dL_law_654 : decode cL_law 654 = .ok (.if_icmp .eq 103, 3) := by decide +kernel
theorem dL_law_657 : decode cL_law 657 = .ok (.iconst 0, 1) := by decide +kernel
theorem dL_law_658 : decode cL_law 658 = .ok (.ireturn, 1) := by decide +kernel
theorem dL_law_659 : decode cL_law 659 = .ok (.aload_n 1, 1) := by decide +kernel
theorem dL_law_660 : decode cL_law 660 = .ok (.invokevirtual 101, 3) := by decide +kernel
theorem dL_law_663 : decode cL_law 663 = .ok (.aload_n 2, 1) := by decide +kernel
theorem dL_law_664 : decode cL_law 664 = .ok (.invokevirtual 104, 3) := by decide +kernel
theorem dL_law_667 : decode cL_law 667 = .ok (.if_icmp .eq 90, 3) := by decide +kernel
theorem dL_law_670 : decode cL_law 670 = .ok (.iconst 0, 1) := by decide +kernel
theorem dL_law_671 : decode cL_law 671 = .ok (.ireturn, 1) := by decide +kernel
theorem dL_law_672 : decode cL_law 672 = .ok (.aload_n 1, 1) := by decide +kernel
theorem dL_law_673 : decode cL_law 673 = .ok (.invokevirtual 105, 3) := by decide +kernel
theorem dL_law_676 : decode cL_law 676 = .ok (.aload_n 2, 1) := by decide +kernel
theorem dL_law_677 : decode cL_law 677 = .ok (.invokevirtual 108, 3) := by decide +kernel
theorem dL_law_680 : decode cL_law 680 = .ok (.if_icmp .eq 77, 3) := by decide +kernel
theorem dL_law_683 : decode cL_law 683 = .ok (.iconst 0, 1) := by decide +kernel
theorem dL_law_684 : decode cL_law 684 = .ok (.ireturn, 1) := by decide +kernel
theorem dL_law_685 : decode cL_law 685 = .ok (.aload_n 1, 1) := by decide +kernel
theorem dL_law_686 : decode cL_law 686 = .ok (.aload_n 0, 1) := by decide +kernel
theorem dL_law_687 : decode cL_law 687 = .ok (.iload_n 3, 1) := by decide +kernel
theorem dL_law_688 : decode cL_law 688 = .ok (.iconst 1, 1) := by decide +kernel
theorem dL_law_689 : decode cL_law 689 = .ok (.iadd, 1) := by decide +kernel
theorem dL_law_690 : decode cL_law 690 = .ok (.iaload, 1) := by decide +kernel
theorem dL_law_691 : decode cL_law 691 = .ok (.invokevirtual 109, 3) := by decide +kernel
theorem dL_law_694 : decode cL_law 694 = .ok (.aload_n 2, 1) := by decide +kernel
theorem dL_law_695 : decode cL_law 695 = .ok (.aload_n 0, 1) := by decide +kernel
theorem dL_law_696 : decode cL_law 696 = .ok (.iload_n 3, 1) := by decide +kernel
theorem dL_law_697 : decode cL_law 697 = .ok (.iconst 1, 1) := by decide +kernel
theorem dL_law_698 : decode cL_law 698 = .ok (.iadd, 1) := by decide +kernel
theorem dL_law_699 : decode cL_law 699 = .ok (.iaload, 1) := by decide +kernel
theorem dL_law_700 : decode cL_law 700 = .ok (.invokevirtual 112, 3) := by decide +kernel
theorem dL_law_703 : decode cL_law 703 = .ok (.if_icmp .eq 54, 3) := by decide +kernel
theorem dL_law_706 : decode cL_law 706 = .ok (.iconst 0, 1) := by decide +kernel
theorem dL_law_707 : decode cL_law 707 = .ok (.ireturn, 1) := by decide +kernel
theorem dL_law_708 : decode cL_law 708 = .ok (.aload_n 1, 1) := by decide +kernel
theorem dL_law_709 : decode cL_law 709 = .ok (.invokevirtual 113, 3) := by decide +kernel
theorem dL_law_712 : decode cL_law 712 = .ok (.aload_n 2, 1) := by decide +kernel
theorem dL_law_713 : decode cL_law 713 = .ok (.invokevirtual 116, 3) := by decide +kernel
theorem dL_law_716 : decode cL_law 716 = .ok (.if_icmp .eq 41, 3) := by decide +kernel
theorem dL_law_719 : decode cL_law 719 = .ok (.iconst 0, 1) := by decide +kernel
theorem dL_law_720 : decode cL_law 720 = .ok (.ireturn, 1) := by decide +kernel
theorem dL_law_721 : decode cL_law 721 = .ok (.aload_n 1, 1) := by decide +kernel
theorem dL_law_722 : decode cL_law 722 = .ok (.aload_n 0, 1) := by decide +kernel
theorem dL_law_723 : decode cL_law 723 = .ok (.iload_n 3, 1) := by decide +kernel
theorem dL_law_724 : decode cL_law 724 = .ok (.iconst 1, 1) := by decide +kernel
theorem dL_law_725 : decode cL_law 725 = .ok (.iadd, 1) := by decide +kernel
theorem dL_law_726 : decode cL_law 726 = .ok (.iaload, 1) := by decide +kernel
theorem dL_law_727 : decode cL_law 727 = .ok (.invokevirtual 117, 3) := by decide +kernel
theorem dL_law_730 : decode cL_law 730 = .ok (.aload_n 2, 1) := by decide +kernel
theorem dL_law_731 : decode cL_law 731 = .ok (.aload_n 0, 1) := by decide +kernel
theorem dL_law_732 : decode cL_law 732 = .ok (.iload_n 3, 1) := by decide +kernel
theorem dL_law_733 : decode cL_law 733 = .ok (.iconst 1, 1) := by decide +kernel
theorem dL_law_734 : decode cL_law 734 = .ok (.iadd, 1) := by decide +kernel
theorem dL_law_735 : decode cL_law 735 = .ok (.iaload, 1) := by decide +kernel
theorem dL_law_736 : decode cL_law 736 = .ok (.invokevirtual 120, 3) := by decide +kernel
theorem dL_law_739 : decode cL_law 739 = .ok (.if_icmp .eq 18, 3) := by decide +kernel
theorem dL_law_742 : decode cL_law 742 = .ok (.iconst 0, 1) := by decide +kernel
theorem dL_law_743 : decode cL_law 743 = .ok (.ireturn, 1) := by decide +kernel
theorem dL_law_744 : decode cL_law 744 = .ok (.aload_n 1, 1) := by decide +kernel
theorem dL_law_745 : decode cL_law 745 = .ok (.invokevirtual 121, 3) := by decide +kernel
theorem dL_law_748 : decode cL_law 748 = .ok (.aload_n 2, 1) := by decide +kernel
theorem dL_law_749 : decode cL_law 749 = .ok (.invokevirtual 124, 3) := by decide +kernel
theorem dL_law_752 : decode cL_law 752 = .ok (.if_icmp .eq 5, 3) := by decide +kernel
theorem dL_law_755 : decode cL_law 755 = .ok (.iconst 0, 1) := by decide +kernel
theorem dL_law_756 : decode cL_law 756 = .ok (.ireturn, 1) := by decide +kernel
theorem dL_law_757 : decode cL_law 757 = .ok (.iinc 3 4, 3) := by decide +kernel
theorem dL_law_760 : decode cL_law 760 = .ok (.goto (-742), 3) := by decide +kernel
theorem dL_law_763 : decode cL_law 763 = .ok (.iconst 1, 1) := by decide +kernel
theorem dL_law_764 : decode cL_law 764 = .ok (.ireturn, 1) := by decide +kernel
def f_L_law_L18 (L : Nat) (xs : Nat → Int32) : Nat → Int32 → LT → Option (Int32 × LT)
  | 0, _, _ => none
  | n + 1, x3, w => (if ((Int32.ofNat L) - 4) < x3 then some (1, w) else if ib x3 L then (if ((xs x3.toNatClampNeg) &&& 31) = 0 then if ib (x3 + 1) L then (f_X6_make (xs (x3 + 1).toNatClampNeg) w.1).bind fun o5 => if ib (x3 + 1) L then (f_X7_make (xs (x3 + 1).toNatClampNeg) w.2).bind fun o8 => (if o5.1 = o8.1 then f_L_law_L18 L xs n (x3 + 4) (o5.2, o8.2) else some (0, (o5.2, o8.2))) else none else none else (if ((xs x3.toNatClampNeg) &&& 31) = 1 then if ib (x3 + 1) L then if ib (x3 + 2) L then if ib (x3 + 3) L then (f_X6_field (xs (x3 + 1).toNatClampNeg) (xs (x3 + 2).toNatClampNeg) (xs (x3 + 3).toNatClampNeg) w.1).bind fun o15 => if ib (x3 + 1) L then if ib (x3 + 2) L then if ib (x3 + 3) L then (f_X7_field (xs (x3 + 1).toNatClampNeg) (xs (x3 + 2).toNatClampNeg) (xs (x3 + 3).toNatClampNeg) w.2).bind fun o20 => (if o15.1 = o20.1 then f_L_law_L18 L xs n (x3 + 4) (o15.2, o20.2) else some (0, (o15.2, o20.2))) else none else none else none else none else none else none else (if ((xs x3.toNatClampNeg) &&& 31) = 2 then if ib (x3 + 1) L then if ib (x3 + 2) L then (f_X6_root (xs (x3 + 1).toNatClampNeg) (xs (x3 + 2).toNatClampNeg) w.1).bind fun o26 => if ib (x3 + 1) L then if ib (x3 + 2) L then (f_X7_root (xs (x3 + 1).toNatClampNeg) (xs (x3 + 2).toNatClampNeg) w.2).bind fun o30 => (if o26.1 = o30.1 then f_L_law_L18 L xs n (x3 + 4) (o26.2, o30.2) else some (0, (o26.2, o30.2))) else none else none else none else none else (if ((xs x3.toNatClampNeg) &&& 31) = 3 then if ib (x3 + 1) L then if ib (x3 + 2) L then (f_X6_weak (xs (x3 + 1).toNatClampNeg) (xs (x3 + 2).toNatClampNeg) w.1).bind fun o36 => if ib (x3 + 1) L then if ib (x3 + 2) L then (f_X7_weak (xs (x3 + 1).toNatClampNeg) (xs (x3 + 2).toNatClampNeg) w.2).bind fun o40 => (if o36.1 = o40.1 then f_L_law_L18 L xs n (x3 + 4) (o36.2, o40.2) else some (0, (o36.2, o40.2))) else none else none else none else none else (if ((xs x3.toNatClampNeg) &&& 31) = 4 then if ib (x3 + 1) L then if ib (x3 + 2) L then (f_X6_ask (xs (x3 + 1).toNatClampNeg) (xs (x3 + 2).toNatClampNeg) w.1).bind fun o46 => if ib (x3 + 1) L then if ib (x3 + 2) L then (f_X7_ask (xs (x3 + 1).toNatClampNeg) (xs (x3 + 2).toNatClampNeg) w.2).bind fun o50 => (if o46.1 = o50.1 then f_L_law_L18 L xs n (x3 + 4) (o46.2, o50.2) else some (0, (o46.2, o50.2))) else none else none else none else none else (if ((xs x3.toNatClampNeg) &&& 31) = 5 then if ib (x3 + 1) L then (f_X6_want (xs (x3 + 1).toNatClampNeg) w.1).bind fun o55 => if ib (x3 + 1) L then (f_X7_want (xs (x3 + 1).toNatClampNeg) w.2).bind fun o58 => (if o55.1 = o58.1 then f_L_law_L18 L xs n (x3 + 4) (o55.2, o58.2) else some (0, (o55.2, o58.2))) else none else none else (if ((xs x3.toNatClampNeg) &&& 31) = 6 then if ib (x3 + 1) L then (f_X6_finish (xs (x3 + 1).toNatClampNeg) w.1).bind fun o63 => if ib (x3 + 1) L then (f_X7_finish (xs (x3 + 1).toNatClampNeg) w.2).bind fun o66 => (if o63.1 = o66.1 then f_L_law_L18 L xs n (x3 + 4) (o63.2, o66.2) else some (0, (o63.2, o66.2))) else none else none else (if ((xs x3.toNatClampNeg) &&& 31) = 7 then (f_X6_begin w.1).bind fun o70 => (f_X7_begin w.2).bind fun o72 => (if o70.1 = o72.1 then f_L_law_L18 L xs n (x3 + 4) (o70.2, o72.2) else some (0, (o70.2, o72.2))) else (if ((xs x3.toNatClampNeg) &&& 31) = 8 then if ib (x3 + 1) L then (f_X6_step (xs (x3 + 1).toNatClampNeg) w.1).bind fun o77 => if ib (x3 + 1) L then (f_X7_step (xs (x3 + 1).toNatClampNeg) w.2).bind fun o80 => (if o77.1 = o80.1 then f_L_law_L18 L xs n (x3 + 4) (o77.2, o80.2) else some (0, (o77.2, o80.2))) else none else none else (if ((xs x3.toNatClampNeg) &&& 31) = 9 then (f_X6_all w.1).bind fun o84 => (f_X7_all w.2).bind fun o86 => (if o84.1 = o86.1 then f_L_law_L18 L xs n (x3 + 4) (o84.2, o86.2) else some (0, (o84.2, o86.2))) else (if ((xs x3.toNatClampNeg) &&& 31) = 10 then if ib (x3 + 1) L then (f_X6_set (xs (x3 + 1).toNatClampNeg) w.1).bind fun o91 => if ib (x3 + 1) L then (f_X7_set (xs (x3 + 1).toNatClampNeg) w.2).bind fun o94 => (if o91.1 = o94.1 then f_L_law_L18 L xs n (x3 + 4) (o91.2, o94.2) else some (0, (o91.2, o94.2))) else none else none else (if ((xs x3.toNatClampNeg) &&& 31) = 11 then if ib (x3 + 1) L then if ib (x3 + 2) L then (f_X6_objectOf (xs (x3 + 1).toNatClampNeg) (xs (x3 + 2).toNatClampNeg) w.1).bind fun o100 => if ib (x3 + 1) L then if ib (x3 + 2) L then (f_X7_objectOf (xs (x3 + 1).toNatClampNeg) (xs (x3 + 2).toNatClampNeg) w.2).bind fun o104 => (if o100.1 = o104.1 then f_L_law_L18 L xs n (x3 + 4) (o100.2, o104.2) else some (0, (o100.2, o104.2))) else none else none else none else none else (if ((xs x3.toNatClampNeg) &&& 31) = 12 then if ib (x3 + 1) L then if ib (x3 + 2) L then (f_X6_refers (xs (x3 + 1).toNatClampNeg) (xs (x3 + 2).toNatClampNeg) w.1).bind fun o110 => if ib (x3 + 1) L then if ib (x3 + 2) L then (f_X7_refers (xs (x3 + 1).toNatClampNeg) (xs (x3 + 2).toNatClampNeg) w.2).bind fun o114 => (if o110.1 = o114.1 then f_L_law_L18 L xs n (x3 + 4) (o110.2, o114.2) else some (0, (o110.2, o114.2))) else none else none else none else none else (if ((xs x3.toNatClampNeg) &&& 31) = 13 then if ib (x3 + 1) L then (f_X6_grey (xs (x3 + 1).toNatClampNeg) w.1).bind fun o119 => if ib (x3 + 1) L then (f_X7_grey (xs (x3 + 1).toNatClampNeg) w.2).bind fun o122 => (if o119.1 = o122.1 then f_L_law_L18 L xs n (x3 + 4) (o119.2, o122.2) else some (0, (o119.2, o122.2))) else none else none else (if ((xs x3.toNatClampNeg) &&& 31) = 14 then if ib (x3 + 1) L then (f_X6_objects (xs (x3 + 1).toNatClampNeg) w.1).bind fun o127 => if ib (x3 + 1) L then (f_X7_objects (xs (x3 + 1).toNatClampNeg) w.2).bind fun o130 => (if o127.1 = o130.1 then f_L_law_L18 L xs n (x3 + 4) (o127.2, o130.2) else some (0, (o127.2, o130.2))) else none else none else (if ((xs x3.toNatClampNeg) &&& 31) = 15 then if ib (x3 + 1) L then (f_X6_count (xs (x3 + 1).toNatClampNeg) w.1).bind fun o135 => if ib (x3 + 1) L then (f_X7_count (xs (x3 + 1).toNatClampNeg) w.2).bind fun o138 => (if o135.1 = o138.1 then f_L_law_L18 L xs n (x3 + 4) (o135.2, o138.2) else some (0, (o135.2, o138.2))) else none else none else (if ((xs x3.toNatClampNeg) &&& 31) = 16 then if ib (x3 + 1) L then (f_X6_far (xs (x3 + 1).toNatClampNeg) w.1).bind fun o143 => if ib (x3 + 1) L then (f_X7_far (xs (x3 + 1).toNatClampNeg) w.2).bind fun o146 => (if o143.1 = o146.1 then f_L_law_L18 L xs n (x3 + 4) (o143.2, o146.2) else some (0, (o143.2, o146.2))) else none else none else (if ((xs x3.toNatClampNeg) &&& 31) = 17 then if ib (x3 + 1) L then (f_X6_hangs (xs (x3 + 1).toNatClampNeg) w.1).bind fun o151 => if ib (x3 + 1) L then (f_X7_hangs (xs (x3 + 1).toNatClampNeg) w.2).bind fun o154 => (if o151.1 = o154.1 then f_L_law_L18 L xs n (x3 + 4) (o151.2, o154.2) else some (0, (o151.2, o154.2))) else none else none else (if ((xs x3.toNatClampNeg) &&& 31) = 18 then (f_X6_wouldGo w.1).bind fun o158 => (f_X7_wouldGo w.2).bind fun o160 => (if o158.1 = o160.1 then f_L_law_L18 L xs n (x3 + 4) (o158.2, o160.2) else some (0, (o158.2, o160.2))) else (if ((xs x3.toNatClampNeg) &&& 31) = 19 then (f_X6_late w.1).bind fun o164 => (f_X7_late w.2).bind fun o166 => (if o164.1 = o166.1 then f_L_law_L18 L xs n (x3 + 4) (o164.2, o166.2) else some (0, (o164.2, o166.2))) else (if ((xs x3.toNatClampNeg) &&& 31) = 20 then (f_X6_keep w.1).bind fun o170 => (f_X7_keep w.2).bind fun o172 => (if o170.1 = o172.1 then f_L_law_L18 L xs n (x3 + 4) (o170.2, o172.2) else some (0, (o170.2, o172.2))) else (if ((xs x3.toNatClampNeg) &&& 31) = 21 then (f_X6_restore w.1).bind fun o176 => (f_X7_restore w.2).bind fun o178 => (if o176.1 = o178.1 then f_L_law_L18 L xs n (x3 + 4) (o176.2, o178.2) else some (0, (o176.2, o178.2))) else (if ((xs x3.toNatClampNeg) &&& 31) = 22 then (f_X6_undo w.1).bind fun o182 => (f_X7_undo w.2).bind fun o184 => (if o182.1 = o184.1 then f_L_law_L18 L xs n (x3 + 4) (o182.2, o184.2) else some (0, (o182.2, o184.2))) else (if ((xs x3.toNatClampNeg) &&& 31) = 23 then if ib (x3 + 1) L then (f_X6_type (xs (x3 + 1).toNatClampNeg) w.1).bind fun o189 => if ib (x3 + 1) L then (f_X7_type (xs (x3 + 1).toNatClampNeg) w.2).bind fun o192 => (if o189.1 = o192.1 then f_L_law_L18 L xs n (x3 + 4) (o189.2, o192.2) else some (0, (o189.2, o192.2))) else none else none else (if ((xs x3.toNatClampNeg) &&& 31) = 24 then (f_X6_clearText w.1).bind fun o196 => (f_X7_clearText w.2).bind fun o198 => (if o196.1 = o198.1 then f_L_law_L18 L xs n (x3 + 4) (o196.2, o198.2) else some (0, (o196.2, o198.2))) else (if ((xs x3.toNatClampNeg) &&& 31) = 25 then if ib (x3 + 1) L then (f_X6_fault (xs (x3 + 1).toNatClampNeg) w.1).bind fun o203 => if ib (x3 + 1) L then (f_X7_fault (xs (x3 + 1).toNatClampNeg) w.2).bind fun o206 => (if o203.1 = o206.1 then f_L_law_L18 L xs n (x3 + 4) (o203.2, o206.2) else some (0, (o203.2, o206.2))) else none else none else (if ((xs x3.toNatClampNeg) &&& 31) = 26 then (f_X6_play w.1).bind fun o210 => (f_X7_play w.2).bind fun o212 => (if o210.1 = o212.1 then f_L_law_L18 L xs n (x3 + 4) (o210.2, o212.2) else some (0, (o210.2, o212.2))) else f_L_law_L18 L xs n (x3 + 4) w))))))))))))))))))))))))))) else none)
set_option maxRecDepth 100000 in
set_option maxHeartbeats 16000000 in
theorem gl_L_law_L18 {p : Program} {l : Launch} {e : Env} {s : State} {m : MethodId} {below : List Frame} {meth : Method} {c : Code} {D : va_G} {cI : ClassId × ClassId} {ad : Nat → Nat} {b L : Nat} {xs : Nat → Int32} {o : Int32 × LT} (X : gX p s m #[.ref b] meth c cL_law 4 RL D cI) (hr : meth.sig.returnType = ret) (hXs : va_X b L xs s s.heap) (hbl : b < s.heap.size) (hbA : ¬ (fun q => s.heap.size ≤ q) b) (ho : o.1 = 1) (n : Nat) : ∀ {x3 : Int32} {w : LT}, f_L_law_L18 L xs n x3 w = some o → G p l e room_1 s m #[.ref b] below meth c D (fun q => s.heap.size ≤ q) 4 (lw_Z below #[.ref b] s) (wL ad cI) 101 3459 18 [some (.ref b), some (.ref (ad 2)), some (.ref (ad 93)), some (.int x3)] [] w := by
  induction n with
  | zero => intro x3 w hf; cases hf
  | succ n ih =>
    intro x3 w hf
    rw [f_L_law_L18] at hf
    refine g_iload_n X (i := 3) dL_law_18 rfl rfl ?_
    refine g_aload_n X (i := 0) dL_law_19 rfl rfl ?_
    refine g_slen X hXs hbl hbA dL_law_20 ?_
    refine g_iconst X dL_law_21 (v := 4) (by decide) ?_
    refine g_isub X dL_law_22 ?_
    refine g_icmp_gt X dL_law_23 (tgt := 763) (by decide) hf (fun c1 hf => ?_) (fun c1 hf => ?_)
    · refine g_iconst X dL_law_763 (v := 1) (by decide) ?_
      exact g_lret X hr dL_law_764 hf ho
    · refine g_aload_n X (i := 0) dL_law_26 rfl rfl ?_
      refine g_iload_n X (i := 3) dL_law_27 rfl rfl ?_
      obtain ⟨hb2, hf⟩ := hfg hf
      refine g_sld X hXs hbl hbA dL_law_28 hb2 ?_
      refine g_bipush X dL_law_29 (v := 31) (by decide) ?_
      refine g_iand X dL_law_31 ?_
      rcases hfi (q := ((xs x3.toNatClampNeg) &&& 31) = 0) hf with ⟨c3, hf⟩ | ⟨c3, hf⟩
      · refine g_tableIn X dL_law_32 (by rw [c3]; decide) (by rw [c3]; decide) (by rw [c3]; rfl) (tgt := 156) (by decide) ?_
        refine g_aload_n X (i := 1) dL_law_156 rfl rfl ?_
        refine g_aload_n X (i := 0) dL_law_157 rfl rfl ?_
        refine g_iload_n X (i := 3) dL_law_158 rfl rfl ?_
        refine g_iconst X dL_law_159 (v := 1) (by decide) ?_
        refine g_iadd X dL_law_160 ?_
        obtain ⟨hb4, hf⟩ := hfg hf
        refine g_sld X hXs hbl hbA dL_law_161 hb4 ?_
        obtain ⟨o5, h6, hf⟩ := hfb hf
        refine g_Vi X (q0 := 2) (As := [.int (xs (x3 + 1).toNatClampNeg)]) (rest := []) (w1 := (o5.2, w.2)) (liftL_T (m := w.2) (c_X6_make h6)) dL_law_162 ml_L_13 yv_X6_make rfl rfl rfl rfl ⟨Nat.le_of_ble_eq_true rfl, Nat.le_of_ble_eq_true rfl⟩ ⟨rfl, rfl⟩ (Nat.le_of_ble_eq_true rfl) ⟨Nat.le_of_ble_eq_true rfl, Nat.le_of_ble_eq_true rfl⟩ ?_
        refine g_aload_n X (i := 2) dL_law_165 rfl rfl ?_
        refine g_aload_n X (i := 0) dL_law_166 rfl rfl ?_
        refine g_iload_n X (i := 3) dL_law_167 rfl rfl ?_
        refine g_iconst X dL_law_168 (v := 1) (by decide) ?_
        refine g_iadd X dL_law_169 ?_
        obtain ⟨hb7, hf⟩ := hfg hf
        refine g_sld X hXs hbl hbA dL_law_170 hb7 ?_
        obtain ⟨o8, h9, hf⟩ := hfb hf
        refine g_Vi X (q0 := 93) (As := [.int (xs (x3 + 1).toNatClampNeg)]) (rest := [.int o5.1]) (w1 := (o5.2, o8.2)) (liftL_M (t := o5.2) (c_X7_make (ad := adM ad) h9)) dL_law_171 ml_L_17 yv_X7_make rfl rfl rfl rfl ⟨Nat.le_of_ble_eq_true rfl, Nat.le_of_ble_eq_true rfl⟩ ⟨rfl, rfl⟩ (Nat.le_of_ble_eq_true rfl) ⟨Nat.le_of_ble_eq_true rfl, Nat.le_of_ble_eq_true rfl⟩ ?_
        refine g_icmp_eq X dL_law_174 (tgt := 757) (by decide) hf (fun c10 hf => ?_) (fun c10 hf => ?_)
        · refine g_iinc X (i := 3) (v := 4) dL_law_757 rfl (by decide) (by decide) rfl ?_
          refine g_goto X dL_law_760 (tgt := 18) (by decide) ?_
          exact ih hf
        · refine g_iconst X dL_law_177 (v := 0) (by decide) ?_
          exact g_lret X hr dL_law_178 hf ho
      rcases hfi (q := ((xs x3.toNatClampNeg) &&& 31) = 1) hf with ⟨c11, hf⟩ | ⟨c11, hf⟩
      · refine g_tableIn X dL_law_32 (by rw [c11]; decide) (by rw [c11]; decide) (by rw [c11]; rfl) (tgt := 179) (by decide) ?_
        refine g_aload_n X (i := 1) dL_law_179 rfl rfl ?_
        refine g_aload_n X (i := 0) dL_law_180 rfl rfl ?_
        refine g_iload_n X (i := 3) dL_law_181 rfl rfl ?_
        refine g_iconst X dL_law_182 (v := 1) (by decide) ?_
        refine g_iadd X dL_law_183 ?_
        obtain ⟨hb12, hf⟩ := hfg hf
        refine g_sld X hXs hbl hbA dL_law_184 hb12 ?_
        refine g_aload_n X (i := 0) dL_law_185 rfl rfl ?_
        refine g_iload_n X (i := 3) dL_law_186 rfl rfl ?_
        refine g_iconst X dL_law_187 (v := 2) (by decide) ?_
        refine g_iadd X dL_law_188 ?_
        obtain ⟨hb13, hf⟩ := hfg hf
        refine g_sld X hXs hbl hbA dL_law_189 hb13 ?_
        refine g_aload_n X (i := 0) dL_law_190 rfl rfl ?_
        refine g_iload_n X (i := 3) dL_law_191 rfl rfl ?_
        refine g_iconst X dL_law_192 (v := 3) (by decide) ?_
        refine g_iadd X dL_law_193 ?_
        obtain ⟨hb14, hf⟩ := hfg hf
        refine g_sld X hXs hbl hbA dL_law_194 hb14 ?_
        obtain ⟨o15, h16, hf⟩ := hfb hf
        refine g_Vi X (q0 := 2) (As := [.int (xs (x3 + 1).toNatClampNeg), .int (xs (x3 + 2).toNatClampNeg), .int (xs (x3 + 3).toNatClampNeg)]) (rest := []) (w1 := (o15.2, w.2)) (liftL_T (m := w.2) (c_X6_field h16)) dL_law_195 ml_L_18 yv_X6_field rfl rfl rfl rfl ⟨Nat.le_of_ble_eq_true rfl, Nat.le_of_ble_eq_true rfl⟩ ⟨rfl, rfl⟩ (Nat.le_of_ble_eq_true rfl) ⟨Nat.le_of_ble_eq_true rfl, Nat.le_of_ble_eq_true rfl⟩ ?_
        refine g_aload_n X (i := 2) dL_law_198 rfl rfl ?_
        refine g_aload_n X (i := 0) dL_law_199 rfl rfl ?_
        refine g_iload_n X (i := 3) dL_law_200 rfl rfl ?_
        refine g_iconst X dL_law_201 (v := 1) (by decide) ?_
        refine g_iadd X dL_law_202 ?_
        obtain ⟨hb17, hf⟩ := hfg hf
        refine g_sld X hXs hbl hbA dL_law_203 hb17 ?_
        refine g_aload_n X (i := 0) dL_law_204 rfl rfl ?_
        refine g_iload_n X (i := 3) dL_law_205 rfl rfl ?_
        refine g_iconst X dL_law_206 (v := 2) (by decide) ?_
        refine g_iadd X dL_law_207 ?_
        obtain ⟨hb18, hf⟩ := hfg hf
        refine g_sld X hXs hbl hbA dL_law_208 hb18 ?_
        refine g_aload_n X (i := 0) dL_law_209 rfl rfl ?_
        refine g_iload_n X (i := 3) dL_law_210 rfl rfl ?_
        refine g_iconst X dL_law_211 (v := 3) (by decide) ?_
        refine g_iadd X dL_law_212 ?_
        obtain ⟨hb19, hf⟩ := hfg hf
        refine g_sld X hXs hbl hbA dL_law_213 hb19 ?_
        obtain ⟨o20, h21, hf⟩ := hfb hf
        refine g_Vi X (q0 := 93) (As := [.int (xs (x3 + 1).toNatClampNeg), .int (xs (x3 + 2).toNatClampNeg), .int (xs (x3 + 3).toNatClampNeg)]) (rest := [.int o15.1]) (w1 := (o15.2, o20.2)) (liftL_M (t := o15.2) (c_X7_field (ad := adM ad) h21)) dL_law_214 ml_L_22 yv_X7_field rfl rfl rfl rfl ⟨Nat.le_of_ble_eq_true rfl, Nat.le_of_ble_eq_true rfl⟩ ⟨rfl, rfl⟩ (Nat.le_of_ble_eq_true rfl) ⟨Nat.le_of_ble_eq_true rfl, Nat.le_of_ble_eq_true rfl⟩ ?_
        refine g_icmp_eq X dL_law_217 (tgt := 757) (by decide) hf (fun c22 hf => ?_) (fun c22 hf => ?_)
        · refine g_iinc X (i := 3) (v := 4) dL_law_757 rfl (by decide) (by decide) rfl ?_
          refine g_goto X dL_law_760 (tgt := 18) (by decide) ?_
          exact ih hf
        · refine g_iconst X dL_law_220 (v := 0) (by decide) ?_
          exact g_lret X hr dL_law_221 hf ho
      rcases hfi (q := ((xs x3.toNatClampNeg) &&& 31) = 2) hf with ⟨c23, hf⟩ | ⟨c23, hf⟩
      · refine g_tableIn X dL_law_32 (by rw [c23]; decide) (by rw [c23]; decide) (by rw [c23]; rfl) (tgt := 222) (by decide) ?_
        refine g_aload_n X (i := 1) dL_law_222 rfl rfl ?_
        refine g_aload_n X (i := 0) dL_law_223 rfl rfl ?_
        refine g_iload_n X (i := 3) dL_law_224 rfl rfl ?_
        refine g_iconst X dL_law_225 (v := 1) (by decide) ?_
        refine g_iadd X dL_law_226 ?_
        obtain ⟨hb24, hf⟩ := hfg hf
        refine g_sld X hXs hbl hbA dL_law_227 hb24 ?_
        refine g_aload_n X (i := 0) dL_law_228 rfl rfl ?_
        refine g_iload_n X (i := 3) dL_law_229 rfl rfl ?_
        refine g_iconst X dL_law_230 (v := 2) (by decide) ?_
        refine g_iadd X dL_law_231 ?_
        obtain ⟨hb25, hf⟩ := hfg hf
        refine g_sld X hXs hbl hbA dL_law_232 hb25 ?_
        obtain ⟨o26, h27, hf⟩ := hfb hf
        refine g_Vi X (q0 := 2) (As := [.int (xs (x3 + 1).toNatClampNeg), .int (xs (x3 + 2).toNatClampNeg)]) (rest := []) (w1 := (o26.2, w.2)) (liftL_T (m := w.2) (c_X6_root h27)) dL_law_233 ml_L_23 yv_X6_root rfl rfl rfl rfl ⟨Nat.le_of_ble_eq_true rfl, Nat.le_of_ble_eq_true rfl⟩ ⟨rfl, rfl⟩ (Nat.le_of_ble_eq_true rfl) ⟨Nat.le_of_ble_eq_true rfl, Nat.le_of_ble_eq_true rfl⟩ ?_
        refine g_aload_n X (i := 2) dL_law_236 rfl rfl ?_
        refine g_aload_n X (i := 0) dL_law_237 rfl rfl ?_
        refine g_iload_n X (i := 3) dL_law_238 rfl rfl ?_
        refine g_iconst X dL_law_239 (v := 1) (by decide) ?_
        refine g_iadd X dL_law_240 ?_
        obtain ⟨hb28, hf⟩ := hfg hf
        refine g_sld X hXs hbl hbA dL_law_241 hb28 ?_
        refine g_aload_n X (i := 0) dL_law_242 rfl rfl ?_
        refine g_iload_n X (i := 3) dL_law_243 rfl rfl ?_
        refine g_iconst X dL_law_244 (v := 2) (by decide) ?_
        refine g_iadd X dL_law_245 ?_
        obtain ⟨hb29, hf⟩ := hfg hf
        refine g_sld X hXs hbl hbA dL_law_246 hb29 ?_
        obtain ⟨o30, h31, hf⟩ := hfb hf
        refine g_Vi X (q0 := 93) (As := [.int (xs (x3 + 1).toNatClampNeg), .int (xs (x3 + 2).toNatClampNeg)]) (rest := [.int o26.1]) (w1 := (o26.2, o30.2)) (liftL_M (t := o26.2) (c_X7_root (ad := adM ad) h31)) dL_law_247 ml_L_27 yv_X7_root rfl rfl rfl rfl ⟨Nat.le_of_ble_eq_true rfl, Nat.le_of_ble_eq_true rfl⟩ ⟨rfl, rfl⟩ (Nat.le_of_ble_eq_true rfl) ⟨Nat.le_of_ble_eq_true rfl, Nat.le_of_ble_eq_true rfl⟩ ?_
        refine g_icmp_eq X dL_law_250 (tgt := 757) (by decide) hf (fun c32 hf => ?_) (fun c32 hf => ?_)
        · refine g_iinc X (i := 3) (v := 4) dL_law_757 rfl (by decide) (by decide) rfl ?_
          refine g_goto X dL_law_760 (tgt := 18) (by decide) ?_
          exact ih hf
        · refine g_iconst X dL_law_253 (v := 0) (by decide) ?_
          exact g_lret X hr dL_law_254 hf ho
      rcases hfi (q := ((xs x3.toNatClampNeg) &&& 31) = 3) hf with ⟨c33, hf⟩ | ⟨c33, hf⟩
      · refine g_tableIn X dL_law_32 (by rw [c33]; decide) (by rw [c33]; decide) (by rw [c33]; rfl) (tgt := 255) (by decide) ?_
        refine g_aload_n X (i := 1) dL_law_255 rfl rfl ?_
        refine g_aload_n X (i := 0) dL_law_256 rfl rfl ?_
        refine g_iload_n X (i := 3) dL_law_257 rfl rfl ?_
        refine g_iconst X dL_law_258 (v := 1) (by decide) ?_
        refine g_iadd X dL_law_259 ?_
        obtain ⟨hb34, hf⟩ := hfg hf
        refine g_sld X hXs hbl hbA dL_law_260 hb34 ?_
        refine g_aload_n X (i := 0) dL_law_261 rfl rfl ?_
        refine g_iload_n X (i := 3) dL_law_262 rfl rfl ?_
        refine g_iconst X dL_law_263 (v := 2) (by decide) ?_
        refine g_iadd X dL_law_264 ?_
        obtain ⟨hb35, hf⟩ := hfg hf
        refine g_sld X hXs hbl hbA dL_law_265 hb35 ?_
        obtain ⟨o36, h37, hf⟩ := hfb hf
        refine g_Vi X (q0 := 2) (As := [.int (xs (x3 + 1).toNatClampNeg), .int (xs (x3 + 2).toNatClampNeg)]) (rest := []) (w1 := (o36.2, w.2)) (liftL_T (m := w.2) (c_X6_weak h37)) dL_law_266 ml_L_28 yv_X6_weak rfl rfl rfl rfl ⟨Nat.le_of_ble_eq_true rfl, Nat.le_of_ble_eq_true rfl⟩ ⟨rfl, rfl⟩ (Nat.le_of_ble_eq_true rfl) ⟨Nat.le_of_ble_eq_true rfl, Nat.le_of_ble_eq_true rfl⟩ ?_
        refine g_aload_n X (i := 2) dL_law_269 rfl rfl ?_
        refine g_aload_n X (i := 0) dL_law_270 rfl rfl ?_
        refine g_iload_n X (i := 3) dL_law_271 rfl rfl ?_
        refine g_iconst X dL_law_272 (v := 1) (by decide) ?_
        refine g_iadd X dL_law_273 ?_
        obtain ⟨hb38, hf⟩ := hfg hf
        refine g_sld X hXs hbl hbA dL_law_274 hb38 ?_
        refine g_aload_n X (i := 0) dL_law_275 rfl rfl ?_
        refine g_iload_n X (i := 3) dL_law_276 rfl rfl ?_
        refine g_iconst X dL_law_277 (v := 2) (by decide) ?_
        refine g_iadd X dL_law_278 ?_
        obtain ⟨hb39, hf⟩ := hfg hf
        refine g_sld X hXs hbl hbA dL_law_279 hb39 ?_
        obtain ⟨o40, h41, hf⟩ := hfb hf
        refine g_Vi X (q0 := 93) (As := [.int (xs (x3 + 1).toNatClampNeg), .int (xs (x3 + 2).toNatClampNeg)]) (rest := [.int o36.1]) (w1 := (o36.2, o40.2)) (liftL_M (t := o36.2) (c_X7_weak (ad := adM ad) h41)) dL_law_280 ml_L_31 yv_X7_weak rfl rfl rfl rfl ⟨Nat.le_of_ble_eq_true rfl, Nat.le_of_ble_eq_true rfl⟩ ⟨rfl, rfl⟩ (Nat.le_of_ble_eq_true rfl) ⟨Nat.le_of_ble_eq_true rfl, Nat.le_of_ble_eq_true rfl⟩ ?_
        refine g_icmp_eq X dL_law_283 (tgt := 757) (by decide) hf (fun c42 hf => ?_) (fun c42 hf => ?_)
        · refine g_iinc X (i := 3) (v := 4) dL_law_757 rfl (by decide) (by decide) rfl ?_
          refine g_goto X dL_law_760 (tgt := 18) (by decide) ?_
          exact ih hf
        · refine g_iconst X dL_law_286 (v := 0) (by decide) ?_
          exact g_lret X hr dL_law_287 hf ho
      rcases hfi (q := ((xs x3.toNatClampNeg) &&& 31) = 4) hf with ⟨c43, hf⟩ | ⟨c43, hf⟩
      · refine g_tableIn X dL_law_32 (by rw [c43]; decide) (by rw [c43]; decide) (by rw [c43]; rfl) (tgt := 288) (by decide) ?_
        refine g_aload_n X (i := 1) dL_law_288 rfl rfl ?_
        refine g_aload_n X (i := 0) dL_law_289 rfl rfl ?_
        refine g_iload_n X (i := 3) dL_law_290 rfl rfl ?_
        refine g_iconst X dL_law_291 (v := 1) (by decide) ?_
        refine g_iadd X dL_law_292 ?_
        obtain ⟨hb44, hf⟩ := hfg hf
        refine g_sld X hXs hbl hbA dL_law_293 hb44 ?_
        refine g_aload_n X (i := 0) dL_law_294 rfl rfl ?_
        refine g_iload_n X (i := 3) dL_law_295 rfl rfl ?_
        refine g_iconst X dL_law_296 (v := 2) (by decide) ?_
        refine g_iadd X dL_law_297 ?_
        obtain ⟨hb45, hf⟩ := hfg hf
        refine g_sld X hXs hbl hbA dL_law_298 hb45 ?_
        obtain ⟨o46, h47, hf⟩ := hfb hf
        refine g_Vi X (q0 := 2) (As := [.int (xs (x3 + 1).toNatClampNeg), .int (xs (x3 + 2).toNatClampNeg)]) (rest := []) (w1 := (o46.2, w.2)) (liftL_T (m := w.2) (c_X6_ask h47)) dL_law_299 ml_L_32 yv_X6_ask rfl rfl rfl rfl ⟨Nat.le_of_ble_eq_true rfl, Nat.le_of_ble_eq_true rfl⟩ ⟨rfl, rfl⟩ (Nat.le_of_ble_eq_true rfl) ⟨Nat.le_of_ble_eq_true rfl, Nat.le_of_ble_eq_true rfl⟩ ?_
        refine g_aload_n X (i := 2) dL_law_302 rfl rfl ?_
        refine g_aload_n X (i := 0) dL_law_303 rfl rfl ?_
        refine g_iload_n X (i := 3) dL_law_304 rfl rfl ?_
        refine g_iconst X dL_law_305 (v := 1) (by decide) ?_
        refine g_iadd X dL_law_306 ?_
        obtain ⟨hb48, hf⟩ := hfg hf
        refine g_sld X hXs hbl hbA dL_law_307 hb48 ?_
        refine g_aload_n X (i := 0) dL_law_308 rfl rfl ?_
        refine g_iload_n X (i := 3) dL_law_309 rfl rfl ?_
        refine g_iconst X dL_law_310 (v := 2) (by decide) ?_
        refine g_iadd X dL_law_311 ?_
        obtain ⟨hb49, hf⟩ := hfg hf
        refine g_sld X hXs hbl hbA dL_law_312 hb49 ?_
        obtain ⟨o50, h51, hf⟩ := hfb hf
        refine g_Vi X (q0 := 93) (As := [.int (xs (x3 + 1).toNatClampNeg), .int (xs (x3 + 2).toNatClampNeg)]) (rest := [.int o46.1]) (w1 := (o46.2, o50.2)) (liftL_M (t := o46.2) (c_X7_ask (ad := adM ad) h51)) dL_law_313 ml_L_35 yv_X7_ask rfl rfl rfl rfl ⟨Nat.le_of_ble_eq_true rfl, Nat.le_of_ble_eq_true rfl⟩ ⟨rfl, rfl⟩ (Nat.le_of_ble_eq_true rfl) ⟨Nat.le_of_ble_eq_true rfl, Nat.le_of_ble_eq_true rfl⟩ ?_
        refine g_icmp_eq X dL_law_316 (tgt := 757) (by decide) hf (fun c52 hf => ?_) (fun c52 hf => ?_)
        · refine g_iinc X (i := 3) (v := 4) dL_law_757 rfl (by decide) (by decide) rfl ?_
          refine g_goto X dL_law_760 (tgt := 18) (by decide) ?_
          exact ih hf
        · refine g_iconst X dL_law_319 (v := 0) (by decide) ?_
          exact g_lret X hr dL_law_320 hf ho
      rcases hfi (q := ((xs x3.toNatClampNeg) &&& 31) = 5) hf with ⟨c53, hf⟩ | ⟨c53, hf⟩
      · refine g_tableIn X dL_law_32 (by rw [c53]; decide) (by rw [c53]; decide) (by rw [c53]; rfl) (tgt := 321) (by decide) ?_
        refine g_aload_n X (i := 1) dL_law_321 rfl rfl ?_
        refine g_aload_n X (i := 0) dL_law_322 rfl rfl ?_
        refine g_iload_n X (i := 3) dL_law_323 rfl rfl ?_
        refine g_iconst X dL_law_324 (v := 1) (by decide) ?_
        refine g_iadd X dL_law_325 ?_
        obtain ⟨hb54, hf⟩ := hfg hf
        refine g_sld X hXs hbl hbA dL_law_326 hb54 ?_
        obtain ⟨o55, h56, hf⟩ := hfb hf
        refine g_Vi X (q0 := 2) (As := [.int (xs (x3 + 1).toNatClampNeg)]) (rest := []) (w1 := (o55.2, w.2)) (liftL_T (m := w.2) (c_X6_want h56)) dL_law_327 ml_L_36 yv_X6_want rfl rfl rfl rfl ⟨Nat.le_of_ble_eq_true rfl, Nat.le_of_ble_eq_true rfl⟩ ⟨rfl, rfl⟩ (Nat.le_of_ble_eq_true rfl) ⟨Nat.le_of_ble_eq_true rfl, Nat.le_of_ble_eq_true rfl⟩ ?_
        refine g_aload_n X (i := 2) dL_law_330 rfl rfl ?_
        refine g_aload_n X (i := 0) dL_law_331 rfl rfl ?_
        refine g_iload_n X (i := 3) dL_law_332 rfl rfl ?_
        refine g_iconst X dL_law_333 (v := 1) (by decide) ?_
        refine g_iadd X dL_law_334 ?_
        obtain ⟨hb57, hf⟩ := hfg hf
        refine g_sld X hXs hbl hbA dL_law_335 hb57 ?_
        obtain ⟨o58, h59, hf⟩ := hfb hf
        refine g_Vi X (q0 := 93) (As := [.int (xs (x3 + 1).toNatClampNeg)]) (rest := [.int o55.1]) (w1 := (o55.2, o58.2)) (liftL_M (t := o55.2) (c_X7_want (ad := adM ad) h59)) dL_law_336 ml_L_39 yv_X7_want rfl rfl rfl rfl ⟨Nat.le_of_ble_eq_true rfl, Nat.le_of_ble_eq_true rfl⟩ ⟨rfl, rfl⟩ (Nat.le_of_ble_eq_true rfl) ⟨Nat.le_of_ble_eq_true rfl, Nat.le_of_ble_eq_true rfl⟩ ?_
        refine g_icmp_eq X dL_law_339 (tgt := 757) (by decide) hf (fun c60 hf => ?_) (fun c60 hf => ?_)
        · refine g_iinc X (i := 3) (v := 4) dL_law_757 rfl (by decide) (by decide) rfl ?_
          refine g_goto X dL_law_760 (tgt := 18) (by decide) ?_
          exact ih hf
        · refine g_iconst X dL_law_342 (v := 0) (by decide) ?_
          exact g_lret X hr dL_law_343 hf ho
      rcases hfi (q := ((xs x3.toNatClampNeg) &&& 31) = 6) hf with ⟨c61, hf⟩ | ⟨c61, hf⟩
      · refine g_tableIn X dL_law_32 (by rw [c61]; decide) (by rw [c61]; decide) (by rw [c61]; rfl) (tgt := 344) (by decide) ?_
        refine g_aload_n X (i := 1) dL_law_344 rfl rfl ?_
        refine g_aload_n X (i := 0) dL_law_345 rfl rfl ?_
        refine g_iload_n X (i := 3) dL_law_346 rfl rfl ?_
        refine g_iconst X dL_law_347 (v := 1) (by decide) ?_
        refine g_iadd X dL_law_348 ?_
        obtain ⟨hb62, hf⟩ := hfg hf
        refine g_sld X hXs hbl hbA dL_law_349 hb62 ?_
        obtain ⟨o63, h64, hf⟩ := hfb hf
        refine g_Vi X (q0 := 2) (As := [.int (xs (x3 + 1).toNatClampNeg)]) (rest := []) (w1 := (o63.2, w.2)) (liftL_T (m := w.2) (c_X6_finish h64)) dL_law_350 ml_L_40 yv_X6_finish rfl rfl rfl rfl ⟨Nat.le_of_ble_eq_true rfl, Nat.le_of_ble_eq_true rfl⟩ ⟨rfl, rfl⟩ (Nat.le_of_ble_eq_true rfl) ⟨Nat.le_of_ble_eq_true rfl, Nat.le_of_ble_eq_true rfl⟩ ?_
        refine g_aload_n X (i := 2) dL_law_353 rfl rfl ?_
        refine g_aload_n X (i := 0) dL_law_354 rfl rfl ?_
        refine g_iload_n X (i := 3) dL_law_355 rfl rfl ?_
        refine g_iconst X dL_law_356 (v := 1) (by decide) ?_
        refine g_iadd X dL_law_357 ?_
        obtain ⟨hb65, hf⟩ := hfg hf
        refine g_sld X hXs hbl hbA dL_law_358 hb65 ?_
        obtain ⟨o66, h67, hf⟩ := hfb hf
        refine g_Vi X (q0 := 93) (As := [.int (xs (x3 + 1).toNatClampNeg)]) (rest := [.int o63.1]) (w1 := (o63.2, o66.2)) (liftL_M (t := o63.2) (c_X7_finish (ad := adM ad) h67)) dL_law_359 ml_L_43 yv_X7_finish rfl rfl rfl rfl ⟨Nat.le_of_ble_eq_true rfl, Nat.le_of_ble_eq_true rfl⟩ ⟨rfl, rfl⟩ (Nat.le_of_ble_eq_true rfl) ⟨Nat.le_of_ble_eq_true rfl, Nat.le_of_ble_eq_true rfl⟩ ?_
        refine g_icmp_eq X dL_law_362 (tgt := 757) (by decide) hf (fun c68 hf => ?_) (fun c68 hf => ?_)
        · refine g_iinc X (i := 3) (v := 4) dL_law_757 rfl (by decide) (by decide) rfl ?_
          refine g_goto X dL_law_760 (tgt := 18) (by decide) ?_
          exact ih hf
        · refine g_iconst X dL_law_365 (v := 0) (by decide) ?_
          exact g_lret X hr dL_law_366 hf ho
      rcases hfi (q := ((xs x3.toNatClampNeg) &&& 31) = 7) hf with ⟨c69, hf⟩ | ⟨c69, hf⟩
      · refine g_tableIn X dL_law_32 (by rw [c69]; decide) (by rw [c69]; decide) (by rw [c69]; rfl) (tgt := 367) (by decide) ?_
        refine g_aload_n X (i := 1) dL_law_367 rfl rfl ?_
        obtain ⟨o70, h71, hf⟩ := hfb hf
        refine g_Vi X (q0 := 2) (As := []) (rest := []) (w1 := (o70.2, w.2)) (liftL_T (m := w.2) (c_X6_begin h71)) dL_law_368 ml_L_44 yv_X6_begin rfl rfl rfl rfl ⟨Nat.le_of_ble_eq_true rfl, Nat.le_of_ble_eq_true rfl⟩ ⟨rfl, rfl⟩ (Nat.le_of_ble_eq_true rfl) ⟨Nat.le_of_ble_eq_true rfl, Nat.le_of_ble_eq_true rfl⟩ ?_
        refine g_aload_n X (i := 2) dL_law_371 rfl rfl ?_
        obtain ⟨o72, h73, hf⟩ := hfb hf
        refine g_Vi X (q0 := 93) (As := []) (rest := [.int o70.1]) (w1 := (o70.2, o72.2)) (liftL_M (t := o70.2) (c_X7_begin (ad := adM ad) h73)) dL_law_372 ml_L_48 yv_X7_begin rfl rfl rfl rfl ⟨Nat.le_of_ble_eq_true rfl, Nat.le_of_ble_eq_true rfl⟩ ⟨rfl, rfl⟩ (Nat.le_of_ble_eq_true rfl) ⟨Nat.le_of_ble_eq_true rfl, Nat.le_of_ble_eq_true rfl⟩ ?_
        refine g_icmp_eq X dL_law_375 (tgt := 757) (by decide) hf (fun c74 hf => ?_) (fun c74 hf => ?_)
        · refine g_iinc X (i := 3) (v := 4) dL_law_757 rfl (by decide) (by decide) rfl ?_
          refine g_goto X dL_law_760 (tgt := 18) (by decide) ?_
          exact ih hf
        · refine g_iconst X dL_law_378 (v := 0) (by decide) ?_
          exact g_lret X hr dL_law_379 hf ho
      rcases hfi (q := ((xs x3.toNatClampNeg) &&& 31) = 8) hf with ⟨c75, hf⟩ | ⟨c75, hf⟩
      · refine g_tableIn X dL_law_32 (by rw [c75]; decide) (by rw [c75]; decide) (by rw [c75]; rfl) (tgt := 380) (by decide) ?_
        refine g_aload_n X (i := 1) dL_law_380 rfl rfl ?_
        refine g_aload_n X (i := 0) dL_law_381 rfl rfl ?_
        refine g_iload_n X (i := 3) dL_law_382 rfl rfl ?_
        refine g_iconst X dL_law_383 (v := 1) (by decide) ?_
        refine g_iadd X dL_law_384 ?_
        obtain ⟨hb76, hf⟩ := hfg hf
        refine g_sld X hXs hbl hbA dL_law_385 hb76 ?_
        obtain ⟨o77, h78, hf⟩ := hfb hf
        refine g_Vi X (q0 := 2) (As := [.int (xs (x3 + 1).toNatClampNeg)]) (rest := []) (w1 := (o77.2, w.2)) (liftL_T (m := w.2) (c_X6_step h78)) dL_law_386 ml_L_49 yv_X6_step rfl rfl rfl rfl ⟨Nat.le_of_ble_eq_true rfl, Nat.le_of_ble_eq_true rfl⟩ ⟨rfl, rfl⟩ (Nat.le_of_ble_eq_true rfl) ⟨Nat.le_of_ble_eq_true rfl, Nat.le_of_ble_eq_true rfl⟩ ?_
        refine g_aload_n X (i := 2) dL_law_389 rfl rfl ?_
        refine g_aload_n X (i := 0) dL_law_390 rfl rfl ?_
        refine g_iload_n X (i := 3) dL_law_391 rfl rfl ?_
        refine g_iconst X dL_law_392 (v := 1) (by decide) ?_
        refine g_iadd X dL_law_393 ?_
        obtain ⟨hb79, hf⟩ := hfg hf
        refine g_sld X hXs hbl hbA dL_law_394 hb79 ?_
        obtain ⟨o80, h81, hf⟩ := hfb hf
        refine g_Vi X (q0 := 93) (As := [.int (xs (x3 + 1).toNatClampNeg)]) (rest := [.int o77.1]) (w1 := (o77.2, o80.2)) (liftL_M (t := o77.2) (c_X7_step (ad := adM ad) h81)) dL_law_395 ml_L_52 yv_X7_step rfl rfl rfl rfl ⟨Nat.le_of_ble_eq_true rfl, Nat.le_of_ble_eq_true rfl⟩ ⟨rfl, rfl⟩ (Nat.le_of_ble_eq_true rfl) ⟨Nat.le_of_ble_eq_true rfl, Nat.le_of_ble_eq_true rfl⟩ ?_
        refine g_icmp_eq X dL_law_398 (tgt := 757) (by decide) hf (fun c82 hf => ?_) (fun c82 hf => ?_)
        · refine g_iinc X (i := 3) (v := 4) dL_law_757 rfl (by decide) (by decide) rfl ?_
          refine g_goto X dL_law_760 (tgt := 18) (by decide) ?_
          exact ih hf
        · refine g_iconst X dL_law_401 (v := 0) (by decide) ?_
          exact g_lret X hr dL_law_402 hf ho
      rcases hfi (q := ((xs x3.toNatClampNeg) &&& 31) = 9) hf with ⟨c83, hf⟩ | ⟨c83, hf⟩
      · refine g_tableIn X dL_law_32 (by rw [c83]; decide) (by rw [c83]; decide) (by rw [c83]; rfl) (tgt := 403) (by decide) ?_
        refine g_aload_n X (i := 1) dL_law_403 rfl rfl ?_
        obtain ⟨o84, h85, hf⟩ := hfb hf
        refine g_Vi X (q0 := 2) (As := []) (rest := []) (w1 := (o84.2, w.2)) (liftL_T (m := w.2) (c_X6_all h85)) dL_law_404 ml_L_53 yv_X6_all rfl rfl rfl rfl ⟨Nat.le_of_ble_eq_true rfl, Nat.le_of_ble_eq_true rfl⟩ ⟨rfl, rfl⟩ (Nat.le_of_ble_eq_true rfl) ⟨Nat.le_of_ble_eq_true rfl, Nat.le_of_ble_eq_true rfl⟩ ?_
        refine g_aload_n X (i := 2) dL_law_407 rfl rfl ?_
        obtain ⟨o86, h87, hf⟩ := hfb hf
        refine g_Vi X (q0 := 93) (As := []) (rest := [.int o84.1]) (w1 := (o84.2, o86.2)) (liftL_M (t := o84.2) (c_X7_all (ad := adM ad) h87)) dL_law_408 ml_L_56 yv_X7_all rfl rfl rfl rfl ⟨Nat.le_of_ble_eq_true rfl, Nat.le_of_ble_eq_true rfl⟩ ⟨rfl, rfl⟩ (Nat.le_of_ble_eq_true rfl) ⟨Nat.le_of_ble_eq_true rfl, Nat.le_of_ble_eq_true rfl⟩ ?_
        refine g_icmp_eq X dL_law_411 (tgt := 757) (by decide) hf (fun c88 hf => ?_) (fun c88 hf => ?_)
        · refine g_iinc X (i := 3) (v := 4) dL_law_757 rfl (by decide) (by decide) rfl ?_
          refine g_goto X dL_law_760 (tgt := 18) (by decide) ?_
          exact ih hf
        · refine g_iconst X dL_law_414 (v := 0) (by decide) ?_
          exact g_lret X hr dL_law_415 hf ho
      rcases hfi (q := ((xs x3.toNatClampNeg) &&& 31) = 10) hf with ⟨c89, hf⟩ | ⟨c89, hf⟩
      · refine g_tableIn X dL_law_32 (by rw [c89]; decide) (by rw [c89]; decide) (by rw [c89]; rfl) (tgt := 416) (by decide) ?_
        refine g_aload_n X (i := 1) dL_law_416 rfl rfl ?_
        refine g_aload_n X (i := 0) dL_law_417 rfl rfl ?_
        refine g_iload_n X (i := 3) dL_law_418 rfl rfl ?_
        refine g_iconst X dL_law_419 (v := 1) (by decide) ?_
        refine g_iadd X dL_law_420 ?_
        obtain ⟨hb90, hf⟩ := hfg hf
        refine g_sld X hXs hbl hbA dL_law_421 hb90 ?_
        obtain ⟨o91, h92, hf⟩ := hfb hf
        refine g_Vi X (q0 := 2) (As := [.int (xs (x3 + 1).toNatClampNeg)]) (rest := []) (w1 := (o91.2, w.2)) (liftL_T (m := w.2) (c_X6_set h92)) dL_law_422 ml_L_57 yv_X6_set rfl rfl rfl rfl ⟨Nat.le_of_ble_eq_true rfl, Nat.le_of_ble_eq_true rfl⟩ ⟨rfl, rfl⟩ (Nat.le_of_ble_eq_true rfl) ⟨Nat.le_of_ble_eq_true rfl, Nat.le_of_ble_eq_true rfl⟩ ?_
        refine g_aload_n X (i := 2) dL_law_425 rfl rfl ?_
        refine g_aload_n X (i := 0) dL_law_426 rfl rfl ?_
        refine g_iload_n X (i := 3) dL_law_427 rfl rfl ?_
        refine g_iconst X dL_law_428 (v := 1) (by decide) ?_
        refine g_iadd X dL_law_429 ?_
        obtain ⟨hb93, hf⟩ := hfg hf
        refine g_sld X hXs hbl hbA dL_law_430 hb93 ?_
        obtain ⟨o94, h95, hf⟩ := hfb hf
        refine g_Vi X (q0 := 93) (As := [.int (xs (x3 + 1).toNatClampNeg)]) (rest := [.int o91.1]) (w1 := (o91.2, o94.2)) (liftL_M (t := o91.2) (c_X7_set (ad := adM ad) h95)) dL_law_431 ml_L_60 yv_X7_set rfl rfl rfl rfl ⟨Nat.le_of_ble_eq_true rfl, Nat.le_of_ble_eq_true rfl⟩ ⟨rfl, rfl⟩ (Nat.le_of_ble_eq_true rfl) ⟨Nat.le_of_ble_eq_true rfl, Nat.le_of_ble_eq_true rfl⟩ ?_
        refine g_icmp_eq X dL_law_434 (tgt := 757) (by decide) hf (fun c96 hf => ?_) (fun c96 hf => ?_)
        · refine g_iinc X (i := 3) (v := 4) dL_law_757 rfl (by decide) (by decide) rfl ?_
          refine g_goto X dL_law_760 (tgt := 18) (by decide) ?_
          exact ih hf
        · refine g_iconst X dL_law_437 (v := 0) (by decide) ?_
          exact g_lret X hr dL_law_438 hf ho
      rcases hfi (q := ((xs x3.toNatClampNeg) &&& 31) = 11) hf with ⟨c97, hf⟩ | ⟨c97, hf⟩
      · refine g_tableIn X dL_law_32 (by rw [c97]; decide) (by rw [c97]; decide) (by rw [c97]; rfl) (tgt := 439) (by decide) ?_
        refine g_aload_n X (i := 1) dL_law_439 rfl rfl ?_
        refine g_aload_n X (i := 0) dL_law_440 rfl rfl ?_
        refine g_iload_n X (i := 3) dL_law_441 rfl rfl ?_
        refine g_iconst X dL_law_442 (v := 1) (by decide) ?_
        refine g_iadd X dL_law_443 ?_
        obtain ⟨hb98, hf⟩ := hfg hf
        refine g_sld X hXs hbl hbA dL_law_444 hb98 ?_
        refine g_aload_n X (i := 0) dL_law_445 rfl rfl ?_
        refine g_iload_n X (i := 3) dL_law_446 rfl rfl ?_
        refine g_iconst X dL_law_447 (v := 2) (by decide) ?_
        refine g_iadd X dL_law_448 ?_
        obtain ⟨hb99, hf⟩ := hfg hf
        refine g_sld X hXs hbl hbA dL_law_449 hb99 ?_
        obtain ⟨o100, h101, hf⟩ := hfb hf
        refine g_Vi X (q0 := 2) (As := [.int (xs (x3 + 1).toNatClampNeg), .int (xs (x3 + 2).toNatClampNeg)]) (rest := []) (w1 := (o100.2, w.2)) (liftL_T (m := w.2) (c_X6_objectOf h101)) dL_law_450 ml_L_61 yv_X6_objectOf rfl rfl rfl rfl ⟨Nat.le_of_ble_eq_true rfl, Nat.le_of_ble_eq_true rfl⟩ ⟨rfl, rfl⟩ (Nat.le_of_ble_eq_true rfl) ⟨Nat.le_of_ble_eq_true rfl, Nat.le_of_ble_eq_true rfl⟩ ?_
        refine g_aload_n X (i := 2) dL_law_453 rfl rfl ?_
        refine g_aload_n X (i := 0) dL_law_454 rfl rfl ?_
        refine g_iload_n X (i := 3) dL_law_455 rfl rfl ?_
        refine g_iconst X dL_law_456 (v := 1) (by decide) ?_
        refine g_iadd X dL_law_457 ?_
        obtain ⟨hb102, hf⟩ := hfg hf
        refine g_sld X hXs hbl hbA dL_law_458 hb102 ?_
        refine g_aload_n X (i := 0) dL_law_459 rfl rfl ?_
        refine g_iload_n X (i := 3) dL_law_460 rfl rfl ?_
        refine g_iconst X dL_law_461 (v := 2) (by decide) ?_
        refine g_iadd X dL_law_462 ?_
        obtain ⟨hb103, hf⟩ := hfg hf
        refine g_sld X hXs hbl hbA dL_law_463 hb103 ?_
        obtain ⟨o104, h105, hf⟩ := hfb hf
        refine g_Vi X (q0 := 93) (As := [.int (xs (x3 + 1).toNatClampNeg), .int (xs (x3 + 2).toNatClampNeg)]) (rest := [.int o100.1]) (w1 := (o100.2, o104.2)) (liftL_M (t := o100.2) (c_X7_objectOf (ad := adM ad) h105)) dL_law_464 ml_L_64 yv_X7_objectOf rfl rfl rfl rfl ⟨Nat.le_of_ble_eq_true rfl, Nat.le_of_ble_eq_true rfl⟩ ⟨rfl, rfl⟩ (Nat.le_of_ble_eq_true rfl) ⟨Nat.le_of_ble_eq_true rfl, Nat.le_of_ble_eq_true rfl⟩ ?_
        refine g_icmp_eq X dL_law_467 (tgt := 757) (by decide) hf (fun c106 hf => ?_) (fun c106 hf => ?_)
        · refine g_iinc X (i := 3) (v := 4) dL_law_757 rfl (by decide) (by decide) rfl ?_
          refine g_goto X dL_law_760 (tgt := 18) (by decide) ?_
          exact ih hf
        · refine g_iconst X dL_law_470 (v := 0) (by decide) ?_
          exact g_lret X hr dL_law_471 hf ho
      rcases hfi (q := ((xs x3.toNatClampNeg) &&& 31) = 12) hf with ⟨c107, hf⟩ | ⟨c107, hf⟩
      · refine g_tableIn X dL_law_32 (by rw [c107]; decide) (by rw [c107]; decide) (by rw [c107]; rfl) (tgt := 472) (by decide) ?_
        refine g_aload_n X (i := 1) dL_law_472 rfl rfl ?_
        refine g_aload_n X (i := 0) dL_law_473 rfl rfl ?_
        refine g_iload_n X (i := 3) dL_law_474 rfl rfl ?_
        refine g_iconst X dL_law_475 (v := 1) (by decide) ?_
        refine g_iadd X dL_law_476 ?_
        obtain ⟨hb108, hf⟩ := hfg hf
        refine g_sld X hXs hbl hbA dL_law_477 hb108 ?_
        refine g_aload_n X (i := 0) dL_law_478 rfl rfl ?_
        refine g_iload_n X (i := 3) dL_law_479 rfl rfl ?_
        refine g_iconst X dL_law_480 (v := 2) (by decide) ?_
        refine g_iadd X dL_law_481 ?_
        obtain ⟨hb109, hf⟩ := hfg hf
        refine g_sld X hXs hbl hbA dL_law_482 hb109 ?_
        obtain ⟨o110, h111, hf⟩ := hfb hf
        refine g_Vi X (q0 := 2) (As := [.int (xs (x3 + 1).toNatClampNeg), .int (xs (x3 + 2).toNatClampNeg)]) (rest := []) (w1 := (o110.2, w.2)) (liftL_T (m := w.2) (c_X6_refers h111)) dL_law_483 ml_L_65 yv_X6_refers rfl rfl rfl rfl ⟨Nat.le_of_ble_eq_true rfl, Nat.le_of_ble_eq_true rfl⟩ ⟨rfl, rfl⟩ (Nat.le_of_ble_eq_true rfl) ⟨Nat.le_of_ble_eq_true rfl, Nat.le_of_ble_eq_true rfl⟩ ?_
        refine g_aload_n X (i := 2) dL_law_486 rfl rfl ?_
        refine g_aload_n X (i := 0) dL_law_487 rfl rfl ?_
        refine g_iload_n X (i := 3) dL_law_488 rfl rfl ?_
        refine g_iconst X dL_law_489 (v := 1) (by decide) ?_
        refine g_iadd X dL_law_490 ?_
        obtain ⟨hb112, hf⟩ := hfg hf
        refine g_sld X hXs hbl hbA dL_law_491 hb112 ?_
        refine g_aload_n X (i := 0) dL_law_492 rfl rfl ?_
        refine g_iload_n X (i := 3) dL_law_493 rfl rfl ?_
        refine g_iconst X dL_law_494 (v := 2) (by decide) ?_
        refine g_iadd X dL_law_495 ?_
        obtain ⟨hb113, hf⟩ := hfg hf
        refine g_sld X hXs hbl hbA dL_law_496 hb113 ?_
        obtain ⟨o114, h115, hf⟩ := hfb hf
        refine g_Vi X (q0 := 93) (As := [.int (xs (x3 + 1).toNatClampNeg), .int (xs (x3 + 2).toNatClampNeg)]) (rest := [.int o110.1]) (w1 := (o110.2, o114.2)) (liftL_M (t := o110.2) (c_X7_refers (ad := adM ad) h115)) dL_law_497 ml_L_68 yv_X7_refers rfl rfl rfl rfl ⟨Nat.le_of_ble_eq_true rfl, Nat.le_of_ble_eq_true rfl⟩ ⟨rfl, rfl⟩ (Nat.le_of_ble_eq_true rfl) ⟨Nat.le_of_ble_eq_true rfl, Nat.le_of_ble_eq_true rfl⟩ ?_
        refine g_icmp_eq X dL_law_500 (tgt := 757) (by decide) hf (fun c116 hf => ?_) (fun c116 hf => ?_)
        · refine g_iinc X (i := 3) (v := 4) dL_law_757 rfl (by decide) (by decide) rfl ?_
          refine g_goto X dL_law_760 (tgt := 18) (by decide) ?_
          exact ih hf
        · refine g_iconst X dL_law_503 (v := 0) (by decide) ?_
          exact g_lret X hr dL_law_504 hf ho
      rcases hfi (q := ((xs x3.toNatClampNeg) &&& 31) = 13) hf with ⟨c117, hf⟩ | ⟨c117, hf⟩
      · refine g_tableIn X dL_law_32 (by rw [c117]; decide) (by rw [c117]; decide) (by rw [c117]; rfl) (tgt := 505) (by decide) ?_
        refine g_aload_n X (i := 1) dL_law_505 rfl rfl ?_
        refine g_aload_n X (i := 0) dL_law_506 rfl rfl ?_
        refine g_iload_n X (i := 3) dL_law_507 rfl rfl ?_
        refine g_iconst X dL_law_508 (v := 1) (by decide) ?_
        refine g_iadd X dL_law_509 ?_
        obtain ⟨hb118, hf⟩ := hfg hf
        refine g_sld X hXs hbl hbA dL_law_510 hb118 ?_
        obtain ⟨o119, h120, hf⟩ := hfb hf
        refine g_Vi X (q0 := 2) (As := [.int (xs (x3 + 1).toNatClampNeg)]) (rest := []) (w1 := (o119.2, w.2)) (liftL_T (m := w.2) (c_X6_grey h120)) dL_law_511 ml_L_69 yv_X6_grey rfl rfl rfl rfl ⟨Nat.le_of_ble_eq_true rfl, Nat.le_of_ble_eq_true rfl⟩ ⟨rfl, rfl⟩ (Nat.le_of_ble_eq_true rfl) ⟨Nat.le_of_ble_eq_true rfl, Nat.le_of_ble_eq_true rfl⟩ ?_
        refine g_aload_n X (i := 2) dL_law_514 rfl rfl ?_
        refine g_aload_n X (i := 0) dL_law_515 rfl rfl ?_
        refine g_iload_n X (i := 3) dL_law_516 rfl rfl ?_
        refine g_iconst X dL_law_517 (v := 1) (by decide) ?_
        refine g_iadd X dL_law_518 ?_
        obtain ⟨hb121, hf⟩ := hfg hf
        refine g_sld X hXs hbl hbA dL_law_519 hb121 ?_
        obtain ⟨o122, h123, hf⟩ := hfb hf
        refine g_Vi X (q0 := 93) (As := [.int (xs (x3 + 1).toNatClampNeg)]) (rest := [.int o119.1]) (w1 := (o119.2, o122.2)) (liftL_M (t := o119.2) (c_X7_grey (ad := adM ad) h123)) dL_law_520 ml_L_72 yv_X7_grey rfl rfl rfl rfl ⟨Nat.le_of_ble_eq_true rfl, Nat.le_of_ble_eq_true rfl⟩ ⟨rfl, rfl⟩ (Nat.le_of_ble_eq_true rfl) ⟨Nat.le_of_ble_eq_true rfl, Nat.le_of_ble_eq_true rfl⟩ ?_
        refine g_icmp_eq X dL_law_523 (tgt := 757) (by decide) hf (fun c124 hf => ?_) (fun c124 hf => ?_)
        · refine g_iinc X (i := 3) (v := 4) dL_law_757 rfl (by decide) (by decide) rfl ?_
          refine g_goto X dL_law_760 (tgt := 18) (by decide) ?_
          exact ih hf
        · refine g_iconst X dL_law_526 (v := 0) (by decide) ?_
          exact g_lret X hr dL_law_527 hf ho
      rcases hfi (q := ((xs x3.toNatClampNeg) &&& 31) = 14) hf with ⟨c125, hf⟩ | ⟨c125, hf⟩
      · refine g_tableIn X dL_law_32 (by rw [c125]; decide) (by rw [c125]; decide) (by rw [c125]; rfl) (tgt := 528) (by decide) ?_
        refine g_aload_n X (i := 1) dL_law_528 rfl rfl ?_
        refine g_aload_n X (i := 0) dL_law_529 rfl rfl ?_
        refine g_iload_n X (i := 3) dL_law_530 rfl rfl ?_
        refine g_iconst X dL_law_531 (v := 1) (by decide) ?_
        refine g_iadd X dL_law_532 ?_
        obtain ⟨hb126, hf⟩ := hfg hf
        refine g_sld X hXs hbl hbA dL_law_533 hb126 ?_
        obtain ⟨o127, h128, hf⟩ := hfb hf
        refine g_Vi X (q0 := 2) (As := [.int (xs (x3 + 1).toNatClampNeg)]) (rest := []) (w1 := (o127.2, w.2)) (liftL_T (m := w.2) (c_X6_objects h128)) dL_law_534 ml_L_73 yv_X6_objects rfl rfl rfl rfl ⟨Nat.le_of_ble_eq_true rfl, Nat.le_of_ble_eq_true rfl⟩ ⟨rfl, rfl⟩ (Nat.le_of_ble_eq_true rfl) ⟨Nat.le_of_ble_eq_true rfl, Nat.le_of_ble_eq_true rfl⟩ ?_
        refine g_aload_n X (i := 2) dL_law_537 rfl rfl ?_
        refine g_aload_n X (i := 0) dL_law_538 rfl rfl ?_
        refine g_iload_n X (i := 3) dL_law_539 rfl rfl ?_
        refine g_iconst X dL_law_540 (v := 1) (by decide) ?_
        refine g_iadd X dL_law_541 ?_
        obtain ⟨hb129, hf⟩ := hfg hf
        refine g_sld X hXs hbl hbA dL_law_542 hb129 ?_
        obtain ⟨o130, h131, hf⟩ := hfb hf
        refine g_Vi X (q0 := 93) (As := [.int (xs (x3 + 1).toNatClampNeg)]) (rest := [.int o127.1]) (w1 := (o127.2, o130.2)) (liftL_M (t := o127.2) (c_X7_objects (ad := adM ad) h131)) dL_law_543 ml_L_76 yv_X7_objects rfl rfl rfl rfl ⟨Nat.le_of_ble_eq_true rfl, Nat.le_of_ble_eq_true rfl⟩ ⟨rfl, rfl⟩ (Nat.le_of_ble_eq_true rfl) ⟨Nat.le_of_ble_eq_true rfl, Nat.le_of_ble_eq_true rfl⟩ ?_
        refine g_icmp_eq X dL_law_546 (tgt := 757) (by decide) hf (fun c132 hf => ?_) (fun c132 hf => ?_)
        · refine g_iinc X (i := 3) (v := 4) dL_law_757 rfl (by decide) (by decide) rfl ?_
          refine g_goto X dL_law_760 (tgt := 18) (by decide) ?_
          exact ih hf
        · refine g_iconst X dL_law_549 (v := 0) (by decide) ?_
          exact g_lret X hr dL_law_550 hf ho
      rcases hfi (q := ((xs x3.toNatClampNeg) &&& 31) = 15) hf with ⟨c133, hf⟩ | ⟨c133, hf⟩
      · refine g_tableIn X dL_law_32 (by rw [c133]; decide) (by rw [c133]; decide) (by rw [c133]; rfl) (tgt := 551) (by decide) ?_
        refine g_aload_n X (i := 1) dL_law_551 rfl rfl ?_
        refine g_aload_n X (i := 0) dL_law_552 rfl rfl ?_
        refine g_iload_n X (i := 3) dL_law_553 rfl rfl ?_
        refine g_iconst X dL_law_554 (v := 1) (by decide) ?_
        refine g_iadd X dL_law_555 ?_
        obtain ⟨hb134, hf⟩ := hfg hf
        refine g_sld X hXs hbl hbA dL_law_556 hb134 ?_
        obtain ⟨o135, h136, hf⟩ := hfb hf
        refine g_Vi X (q0 := 2) (As := [.int (xs (x3 + 1).toNatClampNeg)]) (rest := []) (w1 := (o135.2, w.2)) (liftL_T (m := w.2) (c_X6_count h136)) dL_law_557 ml_L_77 yv_X6_count rfl rfl rfl rfl ⟨Nat.le_of_ble_eq_true rfl, Nat.le_of_ble_eq_true rfl⟩ ⟨rfl, rfl⟩ (Nat.le_of_ble_eq_true rfl) ⟨Nat.le_of_ble_eq_true rfl, Nat.le_of_ble_eq_true rfl⟩ ?_
        refine g_aload_n X (i := 2) dL_law_560 rfl rfl ?_
        refine g_aload_n X (i := 0) dL_law_561 rfl rfl ?_
        refine g_iload_n X (i := 3) dL_law_562 rfl rfl ?_
        refine g_iconst X dL_law_563 (v := 1) (by decide) ?_
        refine g_iadd X dL_law_564 ?_
        obtain ⟨hb137, hf⟩ := hfg hf
        refine g_sld X hXs hbl hbA dL_law_565 hb137 ?_
        obtain ⟨o138, h139, hf⟩ := hfb hf
        refine g_Vi X (q0 := 93) (As := [.int (xs (x3 + 1).toNatClampNeg)]) (rest := [.int o135.1]) (w1 := (o135.2, o138.2)) (liftL_M (t := o135.2) (c_X7_count (ad := adM ad) h139)) dL_law_566 ml_L_80 yv_X7_count rfl rfl rfl rfl ⟨Nat.le_of_ble_eq_true rfl, Nat.le_of_ble_eq_true rfl⟩ ⟨rfl, rfl⟩ (Nat.le_of_ble_eq_true rfl) ⟨Nat.le_of_ble_eq_true rfl, Nat.le_of_ble_eq_true rfl⟩ ?_
        refine g_icmp_eq X dL_law_569 (tgt := 757) (by decide) hf (fun c140 hf => ?_) (fun c140 hf => ?_)
        · refine g_iinc X (i := 3) (v := 4) dL_law_757 rfl (by decide) (by decide) rfl ?_
          refine g_goto X dL_law_760 (tgt := 18) (by decide) ?_
          exact ih hf
        · refine g_iconst X dL_law_572 (v := 0) (by decide) ?_
          exact g_lret X hr dL_law_573 hf ho
      rcases hfi (q := ((xs x3.toNatClampNeg) &&& 31) = 16) hf with ⟨c141, hf⟩ | ⟨c141, hf⟩
      · refine g_tableIn X dL_law_32 (by rw [c141]; decide) (by rw [c141]; decide) (by rw [c141]; rfl) (tgt := 574) (by decide) ?_
        refine g_aload_n X (i := 1) dL_law_574 rfl rfl ?_
        refine g_aload_n X (i := 0) dL_law_575 rfl rfl ?_
        refine g_iload_n X (i := 3) dL_law_576 rfl rfl ?_
        refine g_iconst X dL_law_577 (v := 1) (by decide) ?_
        refine g_iadd X dL_law_578 ?_
        obtain ⟨hb142, hf⟩ := hfg hf
        refine g_sld X hXs hbl hbA dL_law_579 hb142 ?_
        obtain ⟨o143, h144, hf⟩ := hfb hf
        refine g_Vi X (q0 := 2) (As := [.int (xs (x3 + 1).toNatClampNeg)]) (rest := []) (w1 := (o143.2, w.2)) (liftL_T (m := w.2) (c_X6_far h144)) dL_law_580 ml_L_81 yv_X6_far rfl rfl rfl rfl ⟨Nat.le_of_ble_eq_true rfl, Nat.le_of_ble_eq_true rfl⟩ ⟨rfl, rfl⟩ (Nat.le_of_ble_eq_true rfl) ⟨Nat.le_of_ble_eq_true rfl, Nat.le_of_ble_eq_true rfl⟩ ?_
        refine g_aload_n X (i := 2) dL_law_583 rfl rfl ?_
        refine g_aload_n X (i := 0) dL_law_584 rfl rfl ?_
        refine g_iload_n X (i := 3) dL_law_585 rfl rfl ?_
        refine g_iconst X dL_law_586 (v := 1) (by decide) ?_
        refine g_iadd X dL_law_587 ?_
        obtain ⟨hb145, hf⟩ := hfg hf
        refine g_sld X hXs hbl hbA dL_law_588 hb145 ?_
        obtain ⟨o146, h147, hf⟩ := hfb hf
        refine g_Vi X (q0 := 93) (As := [.int (xs (x3 + 1).toNatClampNeg)]) (rest := [.int o143.1]) (w1 := (o143.2, o146.2)) (liftL_M (t := o143.2) (c_X7_far (ad := adM ad) h147)) dL_law_589 ml_L_84 yv_X7_far rfl rfl rfl rfl ⟨Nat.le_of_ble_eq_true rfl, Nat.le_of_ble_eq_true rfl⟩ ⟨rfl, rfl⟩ (Nat.le_of_ble_eq_true rfl) ⟨Nat.le_of_ble_eq_true rfl, Nat.le_of_ble_eq_true rfl⟩ ?_
        refine g_icmp_eq X dL_law_592 (tgt := 757) (by decide) hf (fun c148 hf => ?_) (fun c148 hf => ?_)
        · refine g_iinc X (i := 3) (v := 4) dL_law_757 rfl (by decide) (by decide) rfl ?_
          refine g_goto X dL_law_760 (tgt := 18) (by decide) ?_
          exact ih hf
        · refine g_iconst X dL_law_595 (v := 0) (by decide) ?_
          exact g_lret X hr dL_law_596 hf ho
      rcases hfi (q := ((xs x3.toNatClampNeg) &&& 31) = 17) hf with ⟨c149, hf⟩ | ⟨c149, hf⟩
      · refine g_tableIn X dL_law_32 (by rw [c149]; decide) (by rw [c149]; decide) (by rw [c149]; rfl) (tgt := 597) (by decide) ?_
        refine g_aload_n X (i := 1) dL_law_597 rfl rfl ?_
        refine g_aload_n X (i := 0) dL_law_598 rfl rfl ?_
        refine g_iload_n X (i := 3) dL_law_599 rfl rfl ?_
        refine g_iconst X dL_law_600 (v := 1) (by decide) ?_
        refine g_iadd X dL_law_601 ?_
        obtain ⟨hb150, hf⟩ := hfg hf
        refine g_sld X hXs hbl hbA dL_law_602 hb150 ?_
        obtain ⟨o151, h152, hf⟩ := hfb hf
        refine g_Vi X (q0 := 2) (As := [.int (xs (x3 + 1).toNatClampNeg)]) (rest := []) (w1 := (o151.2, w.2)) (liftL_T (m := w.2) (c_X6_hangs h152)) dL_law_603 ml_L_85 yv_X6_hangs rfl rfl rfl rfl ⟨Nat.le_of_ble_eq_true rfl, Nat.le_of_ble_eq_true rfl⟩ ⟨rfl, rfl⟩ (Nat.le_of_ble_eq_true rfl) ⟨Nat.le_of_ble_eq_true rfl, Nat.le_of_ble_eq_true rfl⟩ ?_
        refine g_aload_n X (i := 2) dL_law_606 rfl rfl ?_
        refine g_aload_n X (i := 0) dL_law_607 rfl rfl ?_
        refine g_iload_n X (i := 3) dL_law_608 rfl rfl ?_
        refine g_iconst X dL_law_609 (v := 1) (by decide) ?_
        refine g_iadd X dL_law_610 ?_
        obtain ⟨hb153, hf⟩ := hfg hf
        refine g_sld X hXs hbl hbA dL_law_611 hb153 ?_
        obtain ⟨o154, h155, hf⟩ := hfb hf
        refine g_Vi X (q0 := 93) (As := [.int (xs (x3 + 1).toNatClampNeg)]) (rest := [.int o151.1]) (w1 := (o151.2, o154.2)) (liftL_M (t := o151.2) (c_X7_hangs (ad := adM ad) h155)) dL_law_612 ml_L_88 yv_X7_hangs rfl rfl rfl rfl ⟨Nat.le_of_ble_eq_true rfl, Nat.le_of_ble_eq_true rfl⟩ ⟨rfl, rfl⟩ (Nat.le_of_ble_eq_true rfl) ⟨Nat.le_of_ble_eq_true rfl, Nat.le_of_ble_eq_true rfl⟩ ?_
        refine g_icmp_eq X dL_law_615 (tgt := 757) (by decide) hf (fun c156 hf => ?_) (fun c156 hf => ?_)
        · refine g_iinc X (i := 3) (v := 4) dL_law_757 rfl (by decide) (by decide) rfl ?_
          refine g_goto X dL_law_760 (tgt := 18) (by decide) ?_
          exact ih hf
        · refine g_iconst X dL_law_618 (v := 0) (by decide) ?_
          exact g_lret X hr dL_law_619 hf ho
      rcases hfi (q := ((xs x3.toNatClampNeg) &&& 31) = 18) hf with ⟨c157, hf⟩ | ⟨c157, hf⟩
      · refine g_tableIn X dL_law_32 (by rw [c157]; decide) (by rw [c157]; decide) (by rw [c157]; rfl) (tgt := 620) (by decide) ?_
        refine g_aload_n X (i := 1) dL_law_620 rfl rfl ?_
        obtain ⟨o158, h159, hf⟩ := hfb hf
        refine g_Vi X (q0 := 2) (As := []) (rest := []) (w1 := (o158.2, w.2)) (liftL_T (m := w.2) (c_X6_wouldGo h159)) dL_law_621 ml_L_89 yv_X6_wouldGo rfl rfl rfl rfl ⟨Nat.le_of_ble_eq_true rfl, Nat.le_of_ble_eq_true rfl⟩ ⟨rfl, rfl⟩ (Nat.le_of_ble_eq_true rfl) ⟨Nat.le_of_ble_eq_true rfl, Nat.le_of_ble_eq_true rfl⟩ ?_
        refine g_aload_n X (i := 2) dL_law_624 rfl rfl ?_
        obtain ⟨o160, h161, hf⟩ := hfb hf
        refine g_Vi X (q0 := 93) (As := []) (rest := [.int o158.1]) (w1 := (o158.2, o160.2)) (liftL_M (t := o158.2) (c_X7_wouldGo (ad := adM ad) h161)) dL_law_625 ml_L_92 yv_X7_wouldGo rfl rfl rfl rfl ⟨Nat.le_of_ble_eq_true rfl, Nat.le_of_ble_eq_true rfl⟩ ⟨rfl, rfl⟩ (Nat.le_of_ble_eq_true rfl) ⟨Nat.le_of_ble_eq_true rfl, Nat.le_of_ble_eq_true rfl⟩ ?_
        refine g_icmp_eq X dL_law_628 (tgt := 757) (by decide) hf (fun c162 hf => ?_) (fun c162 hf => ?_)
        · refine g_iinc X (i := 3) (v := 4) dL_law_757 rfl (by decide) (by decide) rfl ?_
          refine g_goto X dL_law_760 (tgt := 18) (by decide) ?_
          exact ih hf
        · refine g_iconst X dL_law_631 (v := 0) (by decide) ?_
          exact g_lret X hr dL_law_632 hf ho
      rcases hfi (q := ((xs x3.toNatClampNeg) &&& 31) = 19) hf with ⟨c163, hf⟩ | ⟨c163, hf⟩
      · refine g_tableIn X dL_law_32 (by rw [c163]; decide) (by rw [c163]; decide) (by rw [c163]; rfl) (tgt := 633) (by decide) ?_
        refine g_aload_n X (i := 1) dL_law_633 rfl rfl ?_
        obtain ⟨o164, h165, hf⟩ := hfb hf
        refine g_Vi X (q0 := 2) (As := []) (rest := []) (w1 := (o164.2, w.2)) (liftL_T (m := w.2) (c_X6_late h165)) dL_law_634 ml_L_93 yv_X6_late rfl rfl rfl rfl ⟨Nat.le_of_ble_eq_true rfl, Nat.le_of_ble_eq_true rfl⟩ ⟨rfl, rfl⟩ (Nat.le_of_ble_eq_true rfl) ⟨Nat.le_of_ble_eq_true rfl, Nat.le_of_ble_eq_true rfl⟩ ?_
        refine g_aload_n X (i := 2) dL_law_637 rfl rfl ?_
        obtain ⟨o166, h167, hf⟩ := hfb hf
        refine g_Vi X (q0 := 93) (As := []) (rest := [.int o164.1]) (w1 := (o164.2, o166.2)) (liftL_M (t := o164.2) (c_X7_late (ad := adM ad) h167)) dL_law_638 ml_L_96 yv_X7_late rfl rfl rfl rfl ⟨Nat.le_of_ble_eq_true rfl, Nat.le_of_ble_eq_true rfl⟩ ⟨rfl, rfl⟩ (Nat.le_of_ble_eq_true rfl) ⟨Nat.le_of_ble_eq_true rfl, Nat.le_of_ble_eq_true rfl⟩ ?_
        refine g_icmp_eq X dL_law_641 (tgt := 757) (by decide) hf (fun c168 hf => ?_) (fun c168 hf => ?_)
        · refine g_iinc X (i := 3) (v := 4) dL_law_757 rfl (by decide) (by decide) rfl ?_
          refine g_goto X dL_law_760 (tgt := 18) (by decide) ?_
          exact ih hf
        · refine g_iconst X dL_law_644 (v := 0) (by decide) ?_
          exact g_lret X hr dL_law_645 hf ho
      rcases hfi (q := ((xs x3.toNatClampNeg) &&& 31) = 20) hf with ⟨c169, hf⟩ | ⟨c169, hf⟩
      · refine g_tableIn X dL_law_32 (by rw [c169]; decide) (by rw [c169]; decide) (by rw [c169]; rfl) (tgt := 646) (by decide) ?_
        refine g_aload_n X (i := 1) dL_law_646 rfl rfl ?_
        obtain ⟨o170, h171, hf⟩ := hfb hf
        refine g_Vi X (q0 := 2) (As := []) (rest := []) (w1 := (o170.2, w.2)) (liftL_T (m := w.2) (c_X6_keep h171)) dL_law_647 ml_L_97 yv_X6_keep rfl rfl rfl rfl ⟨Nat.le_of_ble_eq_true rfl, Nat.le_of_ble_eq_true rfl⟩ ⟨rfl, rfl⟩ (Nat.le_of_ble_eq_true rfl) ⟨Nat.le_of_ble_eq_true rfl, Nat.le_of_ble_eq_true rfl⟩ ?_
        refine g_aload_n X (i := 2) dL_law_650 rfl rfl ?_
        obtain ⟨o172, h173, hf⟩ := hfb hf
        refine g_Vi X (q0 := 93) (As := []) (rest := [.int o170.1]) (w1 := (o170.2, o172.2)) (liftL_M (t := o170.2) (c_X7_keep (ad := adM ad) h173)) dL_law_651 ml_L_100 yv_X7_keep rfl rfl rfl rfl ⟨Nat.le_of_ble_eq_true rfl, Nat.le_of_ble_eq_true rfl⟩ ⟨rfl, rfl⟩ (Nat.le_of_ble_eq_true rfl) ⟨Nat.le_of_ble_eq_true rfl, Nat.le_of_ble_eq_true rfl⟩ ?_
        refine g_icmp_eq X dL_law_654 (tgt := 757) (by decide) hf (fun c174 hf => ?_) (fun c174 hf => ?_)
        · refine g_iinc X (i := 3) (v := 4) dL_law_757 rfl (by decide) (by decide) rfl ?_
          refine g_goto X dL_law_760 (tgt := 18) (by decide) ?_
          exact ih hf
        · refine g_iconst X dL_law_657 (v := 0) (by decide) ?_
          exact g_lret X hr dL_law_658 hf ho
      rcases hfi (q := ((xs x3.toNatClampNeg) &&& 31) = 21) hf with ⟨c175, hf⟩ | ⟨c175, hf⟩
      · refine g_tableIn X dL_law_32 (by rw [c175]; decide) (by rw [c175]; decide) (by rw [c175]; rfl) (tgt := 659) (by decide) ?_
        refine g_aload_n X (i := 1) dL_law_659 rfl rfl ?_
        obtain ⟨o176, h177, hf⟩ := hfb hf
        refine g_Vi X (q0 := 2) (As := []) (rest := []) (w1 := (o176.2, w.2)) (liftL_T (m := w.2) (c_X6_restore h177)) dL_law_660 ml_L_101 yv_X6_restore rfl rfl rfl rfl ⟨Nat.le_of_ble_eq_true rfl, Nat.le_of_ble_eq_true rfl⟩ ⟨rfl, rfl⟩ (Nat.le_of_ble_eq_true rfl) ⟨Nat.le_of_ble_eq_true rfl, Nat.le_of_ble_eq_true rfl⟩ ?_
        refine g_aload_n X (i := 2) dL_law_663 rfl rfl ?_
        obtain ⟨o178, h179, hf⟩ := hfb hf
        refine g_Vi X (q0 := 93) (As := []) (rest := [.int o176.1]) (w1 := (o176.2, o178.2)) (liftL_M (t := o176.2) (c_X7_restore (ad := adM ad) h179)) dL_law_664 ml_L_104 yv_X7_restore rfl rfl rfl rfl ⟨Nat.le_of_ble_eq_true rfl, Nat.le_of_ble_eq_true rfl⟩ ⟨rfl, rfl⟩ (Nat.le_of_ble_eq_true rfl) ⟨Nat.le_of_ble_eq_true rfl, Nat.le_of_ble_eq_true rfl⟩ ?_
        refine g_icmp_eq X dL_law_667 (tgt := 757) (by decide) hf (fun c180 hf => ?_) (fun c180 hf => ?_)
        · refine g_iinc X (i := 3) (v := 4) dL_law_757 rfl (by decide) (by decide) rfl ?_
          refine g_goto X dL_law_760 (tgt := 18) (by decide) ?_
          exact ih hf
        · refine g_iconst X dL_law_670 (v := 0) (by decide) ?_
          exact g_lret X hr dL_law_671 hf ho
      rcases hfi (q := ((xs x3.toNatClampNeg) &&& 31) = 22) hf with ⟨c181, hf⟩ | ⟨c181, hf⟩
      · refine g_tableIn X dL_law_32 (by rw [c181]; decide) (by rw [c181]; decide) (by rw [c181]; rfl) (tgt := 672) (by decide) ?_
        refine g_aload_n X (i := 1) dL_law_672 rfl rfl ?_
        obtain ⟨o182, h183, hf⟩ := hfb hf
        refine g_Vi X (q0 := 2) (As := []) (rest := []) (w1 := (o182.2, w.2)) (liftL_T (m := w.2) (c_X6_undo h183)) dL_law_673 ml_L_105 yv_X6_undo rfl rfl rfl rfl ⟨Nat.le_of_ble_eq_true rfl, Nat.le_of_ble_eq_true rfl⟩ ⟨rfl, rfl⟩ (Nat.le_of_ble_eq_true rfl) ⟨Nat.le_of_ble_eq_true rfl, Nat.le_of_ble_eq_true rfl⟩ ?_
        refine g_aload_n X (i := 2) dL_law_676 rfl rfl ?_
        obtain ⟨o184, h185, hf⟩ := hfb hf
        refine g_Vi X (q0 := 93) (As := []) (rest := [.int o182.1]) (w1 := (o182.2, o184.2)) (liftL_M (t := o182.2) (c_X7_undo (ad := adM ad) h185)) dL_law_677 ml_L_108 yv_X7_undo rfl rfl rfl rfl ⟨Nat.le_of_ble_eq_true rfl, Nat.le_of_ble_eq_true rfl⟩ ⟨rfl, rfl⟩ (Nat.le_of_ble_eq_true rfl) ⟨Nat.le_of_ble_eq_true rfl, Nat.le_of_ble_eq_true rfl⟩ ?_
        refine g_icmp_eq X dL_law_680 (tgt := 757) (by decide) hf (fun c186 hf => ?_) (fun c186 hf => ?_)
        · refine g_iinc X (i := 3) (v := 4) dL_law_757 rfl (by decide) (by decide) rfl ?_
          refine g_goto X dL_law_760 (tgt := 18) (by decide) ?_
          exact ih hf
        · refine g_iconst X dL_law_683 (v := 0) (by decide) ?_
          exact g_lret X hr dL_law_684 hf ho
      rcases hfi (q := ((xs x3.toNatClampNeg) &&& 31) = 23) hf with ⟨c187, hf⟩ | ⟨c187, hf⟩
      · refine g_tableIn X dL_law_32 (by rw [c187]; decide) (by rw [c187]; decide) (by rw [c187]; rfl) (tgt := 685) (by decide) ?_
        refine g_aload_n X (i := 1) dL_law_685 rfl rfl ?_
        refine g_aload_n X (i := 0) dL_law_686 rfl rfl ?_
        refine g_iload_n X (i := 3) dL_law_687 rfl rfl ?_
        refine g_iconst X dL_law_688 (v := 1) (by decide) ?_
        refine g_iadd X dL_law_689 ?_
        obtain ⟨hb188, hf⟩ := hfg hf
        refine g_sld X hXs hbl hbA dL_law_690 hb188 ?_
        obtain ⟨o189, h190, hf⟩ := hfb hf
        refine g_Vi X (q0 := 2) (As := [.int (xs (x3 + 1).toNatClampNeg)]) (rest := []) (w1 := (o189.2, w.2)) (liftL_T (m := w.2) (c_X6_type h190)) dL_law_691 ml_L_109 yv_X6_type rfl rfl rfl rfl ⟨Nat.le_of_ble_eq_true rfl, Nat.le_of_ble_eq_true rfl⟩ ⟨rfl, rfl⟩ (Nat.le_of_ble_eq_true rfl) ⟨Nat.le_of_ble_eq_true rfl, Nat.le_of_ble_eq_true rfl⟩ ?_
        refine g_aload_n X (i := 2) dL_law_694 rfl rfl ?_
        refine g_aload_n X (i := 0) dL_law_695 rfl rfl ?_
        refine g_iload_n X (i := 3) dL_law_696 rfl rfl ?_
        refine g_iconst X dL_law_697 (v := 1) (by decide) ?_
        refine g_iadd X dL_law_698 ?_
        obtain ⟨hb191, hf⟩ := hfg hf
        refine g_sld X hXs hbl hbA dL_law_699 hb191 ?_
        obtain ⟨o192, h193, hf⟩ := hfb hf
        refine g_Vi X (q0 := 93) (As := [.int (xs (x3 + 1).toNatClampNeg)]) (rest := [.int o189.1]) (w1 := (o189.2, o192.2)) (liftL_M (t := o189.2) (c_X7_type (ad := adM ad) h193)) dL_law_700 ml_L_112 yv_X7_type rfl rfl rfl rfl ⟨Nat.le_of_ble_eq_true rfl, Nat.le_of_ble_eq_true rfl⟩ ⟨rfl, rfl⟩ (Nat.le_of_ble_eq_true rfl) ⟨Nat.le_of_ble_eq_true rfl, Nat.le_of_ble_eq_true rfl⟩ ?_
        refine g_icmp_eq X dL_law_703 (tgt := 757) (by decide) hf (fun c194 hf => ?_) (fun c194 hf => ?_)
        · refine g_iinc X (i := 3) (v := 4) dL_law_757 rfl (by decide) (by decide) rfl ?_
          refine g_goto X dL_law_760 (tgt := 18) (by decide) ?_
          exact ih hf
        · refine g_iconst X dL_law_706 (v := 0) (by decide) ?_
          exact g_lret X hr dL_law_707 hf ho
      rcases hfi (q := ((xs x3.toNatClampNeg) &&& 31) = 24) hf with ⟨c195, hf⟩ | ⟨c195, hf⟩
      · refine g_tableIn X dL_law_32 (by rw [c195]; decide) (by rw [c195]; decide) (by rw [c195]; rfl) (tgt := 708) (by decide) ?_
        refine g_aload_n X (i := 1) dL_law_708 rfl rfl ?_
        obtain ⟨o196, h197, hf⟩ := hfb hf
        refine g_Vi X (q0 := 2) (As := []) (rest := []) (w1 := (o196.2, w.2)) (liftL_T (m := w.2) (c_X6_clearText h197)) dL_law_709 ml_L_113 yv_X6_clearText rfl rfl rfl rfl ⟨Nat.le_of_ble_eq_true rfl, Nat.le_of_ble_eq_true rfl⟩ ⟨rfl, rfl⟩ (Nat.le_of_ble_eq_true rfl) ⟨Nat.le_of_ble_eq_true rfl, Nat.le_of_ble_eq_true rfl⟩ ?_
        refine g_aload_n X (i := 2) dL_law_712 rfl rfl ?_
        obtain ⟨o198, h199, hf⟩ := hfb hf
        refine g_Vi X (q0 := 93) (As := []) (rest := [.int o196.1]) (w1 := (o196.2, o198.2)) (liftL_M (t := o196.2) (c_X7_clearText (ad := adM ad) h199)) dL_law_713 ml_L_116 yv_X7_clearText rfl rfl rfl rfl ⟨Nat.le_of_ble_eq_true rfl, Nat.le_of_ble_eq_true rfl⟩ ⟨rfl, rfl⟩ (Nat.le_of_ble_eq_true rfl) ⟨Nat.le_of_ble_eq_true rfl, Nat.le_of_ble_eq_true rfl⟩ ?_
        refine g_icmp_eq X dL_law_716 (tgt := 757) (by decide) hf (fun c200 hf => ?_) (fun c200 hf => ?_)
        · refine g_iinc X (i := 3) (v := 4) dL_law_757 rfl (by decide) (by decide) rfl ?_
          refine g_goto X dL_law_760 (tgt := 18) (by decide) ?_
          exact ih hf
        · refine g_iconst X dL_law_719 (v := 0) (by decide) ?_
          exact g_lret X hr dL_law_720 hf ho
      rcases hfi (q := ((xs x3.toNatClampNeg) &&& 31) = 25) hf with ⟨c201, hf⟩ | ⟨c201, hf⟩
      · refine g_tableIn X dL_law_32 (by rw [c201]; decide) (by rw [c201]; decide) (by rw [c201]; rfl) (tgt := 721) (by decide) ?_
        refine g_aload_n X (i := 1) dL_law_721 rfl rfl ?_
        refine g_aload_n X (i := 0) dL_law_722 rfl rfl ?_
        refine g_iload_n X (i := 3) dL_law_723 rfl rfl ?_
        refine g_iconst X dL_law_724 (v := 1) (by decide) ?_
        refine g_iadd X dL_law_725 ?_
        obtain ⟨hb202, hf⟩ := hfg hf
        refine g_sld X hXs hbl hbA dL_law_726 hb202 ?_
        obtain ⟨o203, h204, hf⟩ := hfb hf
        refine g_Vi X (q0 := 2) (As := [.int (xs (x3 + 1).toNatClampNeg)]) (rest := []) (w1 := (o203.2, w.2)) (liftL_T (m := w.2) (c_X6_fault h204)) dL_law_727 ml_L_117 yv_X6_fault rfl rfl rfl rfl ⟨Nat.le_of_ble_eq_true rfl, Nat.le_of_ble_eq_true rfl⟩ ⟨rfl, rfl⟩ (Nat.le_of_ble_eq_true rfl) ⟨Nat.le_of_ble_eq_true rfl, Nat.le_of_ble_eq_true rfl⟩ ?_
        refine g_aload_n X (i := 2) dL_law_730 rfl rfl ?_
        refine g_aload_n X (i := 0) dL_law_731 rfl rfl ?_
        refine g_iload_n X (i := 3) dL_law_732 rfl rfl ?_
        refine g_iconst X dL_law_733 (v := 1) (by decide) ?_
        refine g_iadd X dL_law_734 ?_
        obtain ⟨hb205, hf⟩ := hfg hf
        refine g_sld X hXs hbl hbA dL_law_735 hb205 ?_
        obtain ⟨o206, h207, hf⟩ := hfb hf
        refine g_Vi X (q0 := 93) (As := [.int (xs (x3 + 1).toNatClampNeg)]) (rest := [.int o203.1]) (w1 := (o203.2, o206.2)) (liftL_M (t := o203.2) (c_X7_fault (ad := adM ad) h207)) dL_law_736 ml_L_120 yv_X7_fault rfl rfl rfl rfl ⟨Nat.le_of_ble_eq_true rfl, Nat.le_of_ble_eq_true rfl⟩ ⟨rfl, rfl⟩ (Nat.le_of_ble_eq_true rfl) ⟨Nat.le_of_ble_eq_true rfl, Nat.le_of_ble_eq_true rfl⟩ ?_
        refine g_icmp_eq X dL_law_739 (tgt := 757) (by decide) hf (fun c208 hf => ?_) (fun c208 hf => ?_)
        · refine g_iinc X (i := 3) (v := 4) dL_law_757 rfl (by decide) (by decide) rfl ?_
          refine g_goto X dL_law_760 (tgt := 18) (by decide) ?_
          exact ih hf
        · refine g_iconst X dL_law_742 (v := 0) (by decide) ?_
          exact g_lret X hr dL_law_743 hf ho
      rcases hfi (q := ((xs x3.toNatClampNeg) &&& 31) = 26) hf with ⟨c209, hf⟩ | ⟨c209, hf⟩
      · refine g_tableIn X dL_law_32 (by rw [c209]; decide) (by rw [c209]; decide) (by rw [c209]; rfl) (tgt := 744) (by decide) ?_
        refine g_aload_n X (i := 1) dL_law_744 rfl rfl ?_
        obtain ⟨o210, h211, hf⟩ := hfb hf
        refine g_Vi X (q0 := 2) (As := []) (rest := []) (w1 := (o210.2, w.2)) (liftL_T (m := w.2) (c_X6_play h211)) dL_law_745 ml_L_121 yv_X6_play rfl rfl rfl rfl ⟨Nat.le_of_ble_eq_true rfl, Nat.le_of_ble_eq_true rfl⟩ ⟨rfl, rfl⟩ (Nat.le_of_ble_eq_true rfl) ⟨Nat.le_of_ble_eq_true rfl, Nat.le_of_ble_eq_true rfl⟩ ?_
        refine g_aload_n X (i := 2) dL_law_748 rfl rfl ?_
        obtain ⟨o212, h213, hf⟩ := hfb hf
        refine g_Vi X (q0 := 93) (As := []) (rest := [.int o210.1]) (w1 := (o210.2, o212.2)) (liftL_M (t := o210.2) (c_X7_play (ad := adM ad) h213)) dL_law_749 ml_L_124 yv_X7_play rfl rfl rfl rfl ⟨Nat.le_of_ble_eq_true rfl, Nat.le_of_ble_eq_true rfl⟩ ⟨rfl, rfl⟩ (Nat.le_of_ble_eq_true rfl) ⟨Nat.le_of_ble_eq_true rfl, Nat.le_of_ble_eq_true rfl⟩ ?_
        refine g_icmp_eq X dL_law_752 (tgt := 757) (by decide) hf (fun c214 hf => ?_) (fun c214 hf => ?_)
        · refine g_iinc X (i := 3) (v := 4) dL_law_757 rfl (by decide) (by decide) rfl ?_
          refine g_goto X dL_law_760 (tgt := 18) (by decide) ?_
          exact ih hf
        · refine g_iconst X dL_law_755 (v := 0) (by decide) ?_
          exact g_lret X hr dL_law_756 hf ho
      refine g_tableOut X dL_law_32 (sw_out ((xs x3.toNatClampNeg) &&& 31) 0 26 [0, 1, 2, 3, 4, 5, 6, 7, 8, 9, 10, 11, 12, 13, 14, 15, 16, 17, 18, 19, 20, 21, 22, 23, 24, 25, 26] rfl (List.forall_mem_cons.mpr ⟨c3, List.forall_mem_cons.mpr ⟨c11, List.forall_mem_cons.mpr ⟨c23, List.forall_mem_cons.mpr ⟨c33, List.forall_mem_cons.mpr ⟨c43, List.forall_mem_cons.mpr ⟨c53, List.forall_mem_cons.mpr ⟨c61, List.forall_mem_cons.mpr ⟨c69, List.forall_mem_cons.mpr ⟨c75, List.forall_mem_cons.mpr ⟨c83, List.forall_mem_cons.mpr ⟨c89, List.forall_mem_cons.mpr ⟨c97, List.forall_mem_cons.mpr ⟨c107, List.forall_mem_cons.mpr ⟨c117, List.forall_mem_cons.mpr ⟨c125, List.forall_mem_cons.mpr ⟨c133, List.forall_mem_cons.mpr ⟨c141, List.forall_mem_cons.mpr ⟨c149, List.forall_mem_cons.mpr ⟨c157, List.forall_mem_cons.mpr ⟨c163, List.forall_mem_cons.mpr ⟨c169, List.forall_mem_cons.mpr ⟨c175, List.forall_mem_cons.mpr ⟨c181, List.forall_mem_cons.mpr ⟨c187, List.forall_mem_cons.mpr ⟨c195, List.forall_mem_cons.mpr ⟨c201, List.forall_mem_cons.mpr ⟨c209, fun _ h => absurd h List.not_mem_nil⟩⟩⟩⟩⟩⟩⟩⟩⟩⟩⟩⟩⟩⟩⟩⟩⟩⟩⟩⟩⟩⟩⟩⟩⟩⟩⟩)) (tgt := 757) (by decide) ?_
      refine g_iinc X (i := 3) (v := 4) dL_law_757 rfl (by decide) (by decide) rfl ?_
      refine g_goto X dL_law_760 (tgt := 18) (by decide) ?_
      exact ih hf
