/-! the law: its code and words -/
abbrev RcLw : String := "TributeListsLaw"
theorem dlw_0 : decode code 0 = .ok (.new 7, 3) := by decide +kernel
theorem dlw_3 : decode code 3 = .ok (.dup, 1) := by decide +kernel
theorem dlw_4 : decode code 4 = .ok (.invokespecial 9, 3) := by decide +kernel
theorem dlw_7 : decode code 7 = .ok (.astore_n 1, 1) := by decide +kernel
theorem dlw_8 : decode code 8 = .ok (.new 10, 3) := by decide +kernel
theorem dlw_11 : decode code 11 = .ok (.dup, 1) := by decide +kernel
theorem dlw_12 : decode code 12 = .ok (.invokespecial 12, 3) := by decide +kernel
theorem dlw_15 : decode code 15 = .ok (.astore_n 2, 1) := by decide +kernel
theorem dlw_16 : decode code 16 = .ok (.iconst 0, 1) := by decide +kernel
theorem dlw_17 : decode code 17 = .ok (.istore_n 3, 1) := by decide +kernel
theorem dlw_18 : decode code 18 = .ok (.iload_n 3, 1) := by decide +kernel
theorem dlw_19 : decode code 19 = .ok (.aload_n 0, 1) := by decide +kernel
theorem dlw_20 : decode code 20 = .ok (.arraylength, 1) := by decide +kernel
theorem dlw_21 : decode code 21 = .ok (.bipush 6, 2) := by decide +kernel
theorem dlw_23 : decode code 23 = .ok (.isub, 1) := by decide +kernel
theorem dlw_24 : decode code 24 = .ok (.if_icmp .gt 919, 3) := by decide +kernel
theorem dlw_27 : decode code 27 = .ok (.aload_n 0, 1) := by decide +kernel
theorem dlw_28 : decode code 28 = .ok (.iload_n 3, 1) := by decide +kernel
theorem dlw_29 : decode code 29 = .ok (.iaload, 1) := by decide +kernel
theorem dlw_30 : decode code 30 = .ok (.bipush 31, 2) := by decide +kernel
theorem dlw_32 : decode code 32 = .ok (.iand, 1) := by decide +kernel
theorem dlw_33 : decode code 33 = .ok (.tableswitch 904 0 23 #[111, 154, 187, 220, 253, 316, 339, 362, 385, 428, 461, 494, 507, 550, 583, 606, 649, 673, 696, 749, 792, 815, 848, 881], 111) := by decide +kernel
theorem dlw_144 : decode code 144 = .ok (.aload_n 1, 1) := by decide +kernel
theorem dlw_145 : decode code 145 = .ok (.aload_n 0, 1) := by decide +kernel
theorem dlw_146 : decode code 146 = .ok (.iload_n 3, 1) := by decide +kernel
theorem dlw_147 : decode code 147 = .ok (.iconst 1, 1) := by decide +kernel
theorem dlw_148 : decode code 148 = .ok (.iadd, 1) := by decide +kernel
theorem dlw_149 : decode code 149 = .ok (.iaload, 1) := by decide +kernel
theorem dlw_150 : decode code 150 = .ok (.aload_n 0, 1) := by decide +kernel
theorem dlw_151 : decode code 151 = .ok (.iload_n 3, 1) := by decide +kernel
theorem dlw_152 : decode code 152 = .ok (.iconst 2, 1) := by decide +kernel
theorem dlw_153 : decode code 153 = .ok (.iadd, 1) := by decide +kernel
theorem dlw_154 : decode code 154 = .ok (.iaload, 1) := by decide +kernel
theorem dlw_155 : decode code 155 = .ok (.aload_n 0, 1) := by decide +kernel
theorem dlw_156 : decode code 156 = .ok (.iload_n 3, 1) := by decide +kernel
theorem dlw_157 : decode code 157 = .ok (.iconst 3, 1) := by decide +kernel
theorem dlw_158 : decode code 158 = .ok (.iadd, 1) := by decide +kernel
theorem dlw_159 : decode code 159 = .ok (.iaload, 1) := by decide +kernel
theorem dlw_160 : decode code 160 = .ok (.invokevirtual 13, 3) := by decide +kernel
theorem dlw_163 : decode code 163 = .ok (.aload_n 2, 1) := by decide +kernel
theorem dlw_164 : decode code 164 = .ok (.aload_n 0, 1) := by decide +kernel
theorem dlw_165 : decode code 165 = .ok (.iload_n 3, 1) := by decide +kernel
theorem dlw_166 : decode code 166 = .ok (.iconst 1, 1) := by decide +kernel
theorem dlw_167 : decode code 167 = .ok (.iadd, 1) := by decide +kernel
theorem dlw_168 : decode code 168 = .ok (.iaload, 1) := by decide +kernel
theorem dlw_169 : decode code 169 = .ok (.aload_n 0, 1) := by decide +kernel
theorem dlw_170 : decode code 170 = .ok (.iload_n 3, 1) := by decide +kernel
theorem dlw_171 : decode code 171 = .ok (.iconst 2, 1) := by decide +kernel
theorem dlw_172 : decode code 172 = .ok (.iadd, 1) := by decide +kernel
theorem dlw_173 : decode code 173 = .ok (.iaload, 1) := by decide +kernel
theorem dlw_174 : decode code 174 = .ok (.aload_n 0, 1) := by decide +kernel
theorem dlw_175 : decode code 175 = .ok (.iload_n 3, 1) := by decide +kernel
theorem dlw_176 : decode code 176 = .ok (.iconst 3, 1) := by decide +kernel
theorem dlw_177 : decode code 177 = .ok (.iadd, 1) := by decide +kernel
theorem dlw_178 : decode code 178 = .ok (.iaload, 1) := by decide +kernel
theorem dlw_179 : decode code 179 = .ok (.invokevirtual 17, 3) := by decide +kernel
theorem dlw_182 : decode code 182 = .ok (.if_icmp .eq 755, 3) := by decide +kernel
theorem dlw_185 : decode code 185 = .ok (.iconst 0, 1) := by decide +kernel
theorem dlw_186 : decode code 186 = .ok (.ireturn, 1) := by decide +kernel
theorem dlw_187 : decode code 187 = .ok (.aload_n 1, 1) := by decide +kernel
theorem dlw_188 : decode code 188 = .ok (.aload_n 0, 1) := by decide +kernel
theorem dlw_189 : decode code 189 = .ok (.iload_n 3, 1) := by decide +kernel
theorem dlw_190 : decode code 190 = .ok (.iconst 1, 1) := by decide +kernel
theorem dlw_191 : decode code 191 = .ok (.iadd, 1) := by decide +kernel
theorem dlw_192 : decode code 192 = .ok (.iaload, 1) := by decide +kernel
theorem dlw_193 : decode code 193 = .ok (.aload_n 0, 1) := by decide +kernel
theorem dlw_194 : decode code 194 = .ok (.iload_n 3, 1) := by decide +kernel
theorem dlw_195 : decode code 195 = .ok (.iconst 2, 1) := by decide +kernel
theorem dlw_196 : decode code 196 = .ok (.iadd, 1) := by decide +kernel
theorem dlw_197 : decode code 197 = .ok (.iaload, 1) := by decide +kernel
theorem dlw_198 : decode code 198 = .ok (.invokevirtual 18, 3) := by decide +kernel
theorem dlw_201 : decode code 201 = .ok (.aload_n 2, 1) := by decide +kernel
theorem dlw_202 : decode code 202 = .ok (.aload_n 0, 1) := by decide +kernel
theorem dlw_203 : decode code 203 = .ok (.iload_n 3, 1) := by decide +kernel
theorem dlw_204 : decode code 204 = .ok (.iconst 1, 1) := by decide +kernel
theorem dlw_205 : decode code 205 = .ok (.iadd, 1) := by decide +kernel
theorem dlw_206 : decode code 206 = .ok (.iaload, 1) := by decide +kernel
theorem dlw_207 : decode code 207 = .ok (.aload_n 0, 1) := by decide +kernel
theorem dlw_208 : decode code 208 = .ok (.iload_n 3, 1) := by decide +kernel
theorem dlw_209 : decode code 209 = .ok (.iconst 2, 1) := by decide +kernel
theorem dlw_210 : decode code 210 = .ok (.iadd, 1) := by decide +kernel
theorem dlw_211 : decode code 211 = .ok (.iaload, 1) := by decide +kernel
theorem dlw_212 : decode code 212 = .ok (.invokevirtual 22, 3) := by decide +kernel
theorem dlw_215 : decode code 215 = .ok (.if_icmp .eq 722, 3) := by decide +kernel
theorem dlw_218 : decode code 218 = .ok (.iconst 0, 1) := by decide +kernel
theorem dlw_219 : decode code 219 = .ok (.ireturn, 1) := by decide +kernel
theorem dlw_220 : decode code 220 = .ok (.aload_n 1, 1) := by decide +kernel
theorem dlw_221 : decode code 221 = .ok (.aload_n 0, 1) := by decide +kernel
theorem dlw_222 : decode code 222 = .ok (.iload_n 3, 1) := by decide +kernel
theorem dlw_223 : decode code 223 = .ok (.iconst 1, 1) := by decide +kernel
theorem dlw_224 : decode code 224 = .ok (.iadd, 1) := by decide +kernel
theorem dlw_225 : decode code 225 = .ok (.iaload, 1) := by decide +kernel
theorem dlw_226 : decode code 226 = .ok (.aload_n 0, 1) := by decide +kernel
theorem dlw_227 : decode code 227 = .ok (.iload_n 3, 1) := by decide +kernel
theorem dlw_228 : decode code 228 = .ok (.iconst 2, 1) := by decide +kernel
theorem dlw_229 : decode code 229 = .ok (.iadd, 1) := by decide +kernel
theorem dlw_230 : decode code 230 = .ok (.iaload, 1) := by decide +kernel
theorem dlw_231 : decode code 231 = .ok (.invokevirtual 23, 3) := by decide +kernel
theorem dlw_234 : decode code 234 = .ok (.aload_n 2, 1) := by decide +kernel
theorem dlw_235 : decode code 235 = .ok (.aload_n 0, 1) := by decide +kernel
theorem dlw_236 : decode code 236 = .ok (.iload_n 3, 1) := by decide +kernel
theorem dlw_237 : decode code 237 = .ok (.iconst 1, 1) := by decide +kernel
theorem dlw_238 : decode code 238 = .ok (.iadd, 1) := by decide +kernel
theorem dlw_239 : decode code 239 = .ok (.iaload, 1) := by decide +kernel
theorem dlw_240 : decode code 240 = .ok (.aload_n 0, 1) := by decide +kernel
theorem dlw_241 : decode code 241 = .ok (.iload_n 3, 1) := by decide +kernel
theorem dlw_242 : decode code 242 = .ok (.iconst 2, 1) := by decide +kernel
theorem dlw_243 : decode code 243 = .ok (.iadd, 1) := by decide +kernel
theorem dlw_244 : decode code 244 = .ok (.iaload, 1) := by decide +kernel
theorem dlw_245 : decode code 245 = .ok (.invokevirtual 27, 3) := by decide +kernel
theorem dlw_248 : decode code 248 = .ok (.if_icmp .eq 689, 3) := by decide +kernel
theorem dlw_251 : decode code 251 = .ok (.iconst 0, 1) := by decide +kernel
theorem dlw_252 : decode code 252 = .ok (.ireturn, 1) := by decide +kernel
theorem dlw_253 : decode code 253 = .ok (.aload_n 1, 1) := by decide +kernel
theorem dlw_254 : decode code 254 = .ok (.aload_n 0, 1) := by decide +kernel
theorem dlw_255 : decode code 255 = .ok (.iload_n 3, 1) := by decide +kernel
theorem dlw_256 : decode code 256 = .ok (.iconst 1, 1) := by decide +kernel
theorem dlw_257 : decode code 257 = .ok (.iadd, 1) := by decide +kernel
theorem dlw_258 : decode code 258 = .ok (.iaload, 1) := by decide +kernel
theorem dlw_259 : decode code 259 = .ok (.aload_n 0, 1) := by decide +kernel
theorem dlw_260 : decode code 260 = .ok (.iload_n 3, 1) := by decide +kernel
theorem dlw_261 : decode code 261 = .ok (.iconst 2, 1) := by decide +kernel
theorem dlw_262 : decode code 262 = .ok (.iadd, 1) := by decide +kernel
theorem dlw_263 : decode code 263 = .ok (.iaload, 1) := by decide +kernel
theorem dlw_264 : decode code 264 = .ok (.invokevirtual 28, 3) := by decide +kernel
theorem dlw_267 : decode code 267 = .ok (.aload_n 2, 1) := by decide +kernel
theorem dlw_268 : decode code 268 = .ok (.aload_n 0, 1) := by decide +kernel
theorem dlw_269 : decode code 269 = .ok (.iload_n 3, 1) := by decide +kernel
theorem dlw_270 : decode code 270 = .ok (.iconst 1, 1) := by decide +kernel
theorem dlw_271 : decode code 271 = .ok (.iadd, 1) := by decide +kernel
theorem dlw_272 : decode code 272 = .ok (.iaload, 1) := by decide +kernel
theorem dlw_273 : decode code 273 = .ok (.aload_n 0, 1) := by decide +kernel
theorem dlw_274 : decode code 274 = .ok (.iload_n 3, 1) := by decide +kernel
theorem dlw_275 : decode code 275 = .ok (.iconst 2, 1) := by decide +kernel
theorem dlw_276 : decode code 276 = .ok (.iadd, 1) := by decide +kernel
theorem dlw_277 : decode code 277 = .ok (.iaload, 1) := by decide +kernel
theorem dlw_278 : decode code 278 = .ok (.invokevirtual 31, 3) := by decide +kernel
theorem dlw_281 : decode code 281 = .ok (.if_icmp .eq 656, 3) := by decide +kernel
theorem dlw_284 : decode code 284 = .ok (.iconst 0, 1) := by decide +kernel
theorem dlw_285 : decode code 285 = .ok (.ireturn, 1) := by decide +kernel
theorem dlw_286 : decode code 286 = .ok (.aload_n 1, 1) := by decide +kernel
theorem dlw_287 : decode code 287 = .ok (.aload_n 0, 1) := by decide +kernel
theorem dlw_288 : decode code 288 = .ok (.iload_n 3, 1) := by decide +kernel
theorem dlw_289 : decode code 289 = .ok (.iconst 1, 1) := by decide +kernel
theorem dlw_290 : decode code 290 = .ok (.iadd, 1) := by decide +kernel
theorem dlw_291 : decode code 291 = .ok (.iaload, 1) := by decide +kernel
theorem dlw_292 : decode code 292 = .ok (.aload_n 0, 1) := by decide +kernel
theorem dlw_293 : decode code 293 = .ok (.iload_n 3, 1) := by decide +kernel
theorem dlw_294 : decode code 294 = .ok (.iconst 2, 1) := by decide +kernel
theorem dlw_295 : decode code 295 = .ok (.iadd, 1) := by decide +kernel
theorem dlw_296 : decode code 296 = .ok (.iaload, 1) := by decide +kernel
theorem dlw_297 : decode code 297 = .ok (.aload_n 0, 1) := by decide +kernel
theorem dlw_298 : decode code 298 = .ok (.iload_n 3, 1) := by decide +kernel
theorem dlw_299 : decode code 299 = .ok (.iconst 3, 1) := by decide +kernel
theorem dlw_300 : decode code 300 = .ok (.iadd, 1) := by decide +kernel
theorem dlw_301 : decode code 301 = .ok (.iaload, 1) := by decide +kernel
theorem dlw_302 : decode code 302 = .ok (.aload_n 0, 1) := by decide +kernel
theorem dlw_303 : decode code 303 = .ok (.iload_n 3, 1) := by decide +kernel
theorem dlw_304 : decode code 304 = .ok (.iconst 4, 1) := by decide +kernel
theorem dlw_305 : decode code 305 = .ok (.iadd, 1) := by decide +kernel
theorem dlw_306 : decode code 306 = .ok (.iaload, 1) := by decide +kernel
theorem dlw_307 : decode code 307 = .ok (.aload_n 0, 1) := by decide +kernel
theorem dlw_308 : decode code 308 = .ok (.iload_n 3, 1) := by decide +kernel
theorem dlw_309 : decode code 309 = .ok (.iconst 5, 1) := by decide +kernel
theorem dlw_310 : decode code 310 = .ok (.iadd, 1) := by decide +kernel
theorem dlw_311 : decode code 311 = .ok (.iaload, 1) := by decide +kernel
theorem dlw_312 : decode code 312 = .ok (.invokevirtual 32, 3) := by decide +kernel
theorem dlw_315 : decode code 315 = .ok (.aload_n 2, 1) := by decide +kernel
theorem dlw_316 : decode code 316 = .ok (.aload_n 0, 1) := by decide +kernel
theorem dlw_317 : decode code 317 = .ok (.iload_n 3, 1) := by decide +kernel
theorem dlw_318 : decode code 318 = .ok (.iconst 1, 1) := by decide +kernel
theorem dlw_319 : decode code 319 = .ok (.iadd, 1) := by decide +kernel
theorem dlw_320 : decode code 320 = .ok (.iaload, 1) := by decide +kernel
theorem dlw_321 : decode code 321 = .ok (.aload_n 0, 1) := by decide +kernel
theorem dlw_322 : decode code 322 = .ok (.iload_n 3, 1) := by decide +kernel
theorem dlw_323 : decode code 323 = .ok (.iconst 2, 1) := by decide +kernel
theorem dlw_324 : decode code 324 = .ok (.iadd, 1) := by decide +kernel
theorem dlw_325 : decode code 325 = .ok (.iaload, 1) := by decide +kernel
theorem dlw_326 : decode code 326 = .ok (.aload_n 0, 1) := by decide +kernel
theorem dlw_327 : decode code 327 = .ok (.iload_n 3, 1) := by decide +kernel
theorem dlw_328 : decode code 328 = .ok (.iconst 3, 1) := by decide +kernel
theorem dlw_329 : decode code 329 = .ok (.iadd, 1) := by decide +kernel
theorem dlw_330 : decode code 330 = .ok (.iaload, 1) := by decide +kernel
theorem dlw_331 : decode code 331 = .ok (.aload_n 0, 1) := by decide +kernel
theorem dlw_332 : decode code 332 = .ok (.iload_n 3, 1) := by decide +kernel
theorem dlw_333 : decode code 333 = .ok (.iconst 4, 1) := by decide +kernel
theorem dlw_334 : decode code 334 = .ok (.iadd, 1) := by decide +kernel
theorem dlw_335 : decode code 335 = .ok (.iaload, 1) := by decide +kernel
theorem dlw_336 : decode code 336 = .ok (.aload_n 0, 1) := by decide +kernel
theorem dlw_337 : decode code 337 = .ok (.iload_n 3, 1) := by decide +kernel
theorem dlw_338 : decode code 338 = .ok (.iconst 5, 1) := by decide +kernel
theorem dlw_339 : decode code 339 = .ok (.iadd, 1) := by decide +kernel
theorem dlw_340 : decode code 340 = .ok (.iaload, 1) := by decide +kernel
theorem dlw_341 : decode code 341 = .ok (.invokevirtual 36, 3) := by decide +kernel
theorem dlw_344 : decode code 344 = .ok (.if_icmp .eq 593, 3) := by decide +kernel
theorem dlw_347 : decode code 347 = .ok (.iconst 0, 1) := by decide +kernel
theorem dlw_348 : decode code 348 = .ok (.ireturn, 1) := by decide +kernel
theorem dlw_349 : decode code 349 = .ok (.aload_n 1, 1) := by decide +kernel
theorem dlw_350 : decode code 350 = .ok (.aload_n 0, 1) := by decide +kernel
theorem dlw_351 : decode code 351 = .ok (.iload_n 3, 1) := by decide +kernel
theorem dlw_352 : decode code 352 = .ok (.iconst 1, 1) := by decide +kernel
theorem dlw_353 : decode code 353 = .ok (.iadd, 1) := by decide +kernel
theorem dlw_354 : decode code 354 = .ok (.iaload, 1) := by decide +kernel
theorem dlw_355 : decode code 355 = .ok (.invokevirtual 37, 3) := by decide +kernel
theorem dlw_358 : decode code 358 = .ok (.aload_n 2, 1) := by decide +kernel
theorem dlw_359 : decode code 359 = .ok (.aload_n 0, 1) := by decide +kernel
theorem dlw_360 : decode code 360 = .ok (.iload_n 3, 1) := by decide +kernel
theorem dlw_361 : decode code 361 = .ok (.iconst 1, 1) := by decide +kernel
theorem dlw_362 : decode code 362 = .ok (.iadd, 1) := by decide +kernel
theorem dlw_363 : decode code 363 = .ok (.iaload, 1) := by decide +kernel
theorem dlw_364 : decode code 364 = .ok (.invokevirtual 41, 3) := by decide +kernel
theorem dlw_367 : decode code 367 = .ok (.if_icmp .eq 570, 3) := by decide +kernel
theorem dlw_370 : decode code 370 = .ok (.iconst 0, 1) := by decide +kernel
theorem dlw_371 : decode code 371 = .ok (.ireturn, 1) := by decide +kernel
theorem dlw_372 : decode code 372 = .ok (.aload_n 1, 1) := by decide +kernel
theorem dlw_373 : decode code 373 = .ok (.aload_n 0, 1) := by decide +kernel
theorem dlw_374 : decode code 374 = .ok (.iload_n 3, 1) := by decide +kernel
theorem dlw_375 : decode code 375 = .ok (.iconst 1, 1) := by decide +kernel
theorem dlw_376 : decode code 376 = .ok (.iadd, 1) := by decide +kernel
theorem dlw_377 : decode code 377 = .ok (.iaload, 1) := by decide +kernel
theorem dlw_378 : decode code 378 = .ok (.invokevirtual 42, 3) := by decide +kernel
theorem dlw_381 : decode code 381 = .ok (.aload_n 2, 1) := by decide +kernel
theorem dlw_382 : decode code 382 = .ok (.aload_n 0, 1) := by decide +kernel
theorem dlw_383 : decode code 383 = .ok (.iload_n 3, 1) := by decide +kernel
theorem dlw_384 : decode code 384 = .ok (.iconst 1, 1) := by decide +kernel
theorem dlw_385 : decode code 385 = .ok (.iadd, 1) := by decide +kernel
theorem dlw_386 : decode code 386 = .ok (.iaload, 1) := by decide +kernel
theorem dlw_387 : decode code 387 = .ok (.invokevirtual 45, 3) := by decide +kernel
theorem dlw_390 : decode code 390 = .ok (.if_icmp .eq 547, 3) := by decide +kernel
theorem dlw_393 : decode code 393 = .ok (.iconst 0, 1) := by decide +kernel
theorem dlw_394 : decode code 394 = .ok (.ireturn, 1) := by decide +kernel
theorem dlw_395 : decode code 395 = .ok (.aload_n 1, 1) := by decide +kernel
theorem dlw_396 : decode code 396 = .ok (.aload_n 0, 1) := by decide +kernel
theorem dlw_397 : decode code 397 = .ok (.iload_n 3, 1) := by decide +kernel
theorem dlw_398 : decode code 398 = .ok (.iconst 1, 1) := by decide +kernel
theorem dlw_399 : decode code 399 = .ok (.iadd, 1) := by decide +kernel
theorem dlw_400 : decode code 400 = .ok (.iaload, 1) := by decide +kernel
theorem dlw_401 : decode code 401 = .ok (.invokevirtual 46, 3) := by decide +kernel
theorem dlw_404 : decode code 404 = .ok (.aload_n 2, 1) := by decide +kernel
theorem dlw_405 : decode code 405 = .ok (.aload_n 0, 1) := by decide +kernel
theorem dlw_406 : decode code 406 = .ok (.iload_n 3, 1) := by decide +kernel
theorem dlw_407 : decode code 407 = .ok (.iconst 1, 1) := by decide +kernel
theorem dlw_408 : decode code 408 = .ok (.iadd, 1) := by decide +kernel
theorem dlw_409 : decode code 409 = .ok (.iaload, 1) := by decide +kernel
theorem dlw_410 : decode code 410 = .ok (.invokevirtual 49, 3) := by decide +kernel
theorem dlw_413 : decode code 413 = .ok (.if_icmp .eq 524, 3) := by decide +kernel
theorem dlw_416 : decode code 416 = .ok (.iconst 0, 1) := by decide +kernel
theorem dlw_417 : decode code 417 = .ok (.ireturn, 1) := by decide +kernel
theorem dlw_418 : decode code 418 = .ok (.aload_n 1, 1) := by decide +kernel
theorem dlw_419 : decode code 419 = .ok (.aload_n 0, 1) := by decide +kernel
theorem dlw_420 : decode code 420 = .ok (.iload_n 3, 1) := by decide +kernel
theorem dlw_421 : decode code 421 = .ok (.iconst 1, 1) := by decide +kernel
theorem dlw_422 : decode code 422 = .ok (.iadd, 1) := by decide +kernel
theorem dlw_423 : decode code 423 = .ok (.iaload, 1) := by decide +kernel
theorem dlw_424 : decode code 424 = .ok (.aload_n 0, 1) := by decide +kernel
theorem dlw_425 : decode code 425 = .ok (.iload_n 3, 1) := by decide +kernel
theorem dlw_426 : decode code 426 = .ok (.iconst 2, 1) := by decide +kernel
theorem dlw_427 : decode code 427 = .ok (.iadd, 1) := by decide +kernel
theorem dlw_428 : decode code 428 = .ok (.iaload, 1) := by decide +kernel
theorem dlw_429 : decode code 429 = .ok (.aload_n 0, 1) := by decide +kernel
theorem dlw_430 : decode code 430 = .ok (.iload_n 3, 1) := by decide +kernel
theorem dlw_431 : decode code 431 = .ok (.iconst 3, 1) := by decide +kernel
theorem dlw_432 : decode code 432 = .ok (.iadd, 1) := by decide +kernel
theorem dlw_433 : decode code 433 = .ok (.iaload, 1) := by decide +kernel
theorem dlw_434 : decode code 434 = .ok (.invokevirtual 50, 3) := by decide +kernel
theorem dlw_437 : decode code 437 = .ok (.aload_n 2, 1) := by decide +kernel
theorem dlw_438 : decode code 438 = .ok (.aload_n 0, 1) := by decide +kernel
theorem dlw_439 : decode code 439 = .ok (.iload_n 3, 1) := by decide +kernel
theorem dlw_440 : decode code 440 = .ok (.iconst 1, 1) := by decide +kernel
theorem dlw_441 : decode code 441 = .ok (.iadd, 1) := by decide +kernel
theorem dlw_442 : decode code 442 = .ok (.iaload, 1) := by decide +kernel
theorem dlw_443 : decode code 443 = .ok (.aload_n 0, 1) := by decide +kernel
theorem dlw_444 : decode code 444 = .ok (.iload_n 3, 1) := by decide +kernel
theorem dlw_445 : decode code 445 = .ok (.iconst 2, 1) := by decide +kernel
theorem dlw_446 : decode code 446 = .ok (.iadd, 1) := by decide +kernel
theorem dlw_447 : decode code 447 = .ok (.iaload, 1) := by decide +kernel
theorem dlw_448 : decode code 448 = .ok (.aload_n 0, 1) := by decide +kernel
theorem dlw_449 : decode code 449 = .ok (.iload_n 3, 1) := by decide +kernel
theorem dlw_450 : decode code 450 = .ok (.iconst 3, 1) := by decide +kernel
theorem dlw_451 : decode code 451 = .ok (.iadd, 1) := by decide +kernel
theorem dlw_452 : decode code 452 = .ok (.iaload, 1) := by decide +kernel
theorem dlw_453 : decode code 453 = .ok (.invokevirtual 54, 3) := by decide +kernel
theorem dlw_456 : decode code 456 = .ok (.if_icmp .eq 481, 3) := by decide +kernel
theorem dlw_459 : decode code 459 = .ok (.iconst 0, 1) := by decide +kernel
theorem dlw_460 : decode code 460 = .ok (.ireturn, 1) := by decide +kernel
theorem dlw_461 : decode code 461 = .ok (.aload_n 1, 1) := by decide +kernel
theorem dlw_462 : decode code 462 = .ok (.aload_n 0, 1) := by decide +kernel
theorem dlw_463 : decode code 463 = .ok (.iload_n 3, 1) := by decide +kernel
theorem dlw_464 : decode code 464 = .ok (.iconst 1, 1) := by decide +kernel
theorem dlw_465 : decode code 465 = .ok (.iadd, 1) := by decide +kernel
theorem dlw_466 : decode code 466 = .ok (.iaload, 1) := by decide +kernel
theorem dlw_467 : decode code 467 = .ok (.aload_n 0, 1) := by decide +kernel
theorem dlw_468 : decode code 468 = .ok (.iload_n 3, 1) := by decide +kernel
theorem dlw_469 : decode code 469 = .ok (.iconst 2, 1) := by decide +kernel
theorem dlw_470 : decode code 470 = .ok (.iadd, 1) := by decide +kernel
theorem dlw_471 : decode code 471 = .ok (.iaload, 1) := by decide +kernel
theorem dlw_472 : decode code 472 = .ok (.invokevirtual 55, 3) := by decide +kernel
theorem dlw_475 : decode code 475 = .ok (.aload_n 2, 1) := by decide +kernel
theorem dlw_476 : decode code 476 = .ok (.aload_n 0, 1) := by decide +kernel
theorem dlw_477 : decode code 477 = .ok (.iload_n 3, 1) := by decide +kernel
theorem dlw_478 : decode code 478 = .ok (.iconst 1, 1) := by decide +kernel
theorem dlw_479 : decode code 479 = .ok (.iadd, 1) := by decide +kernel
theorem dlw_480 : decode code 480 = .ok (.iaload, 1) := by decide +kernel
theorem dlw_481 : decode code 481 = .ok (.aload_n 0, 1) := by decide +kernel
theorem dlw_482 : decode code 482 = .ok (.iload_n 3, 1) := by decide +kernel
theorem dlw_483 : decode code 483 = .ok (.iconst 2, 1) := by decide +kernel
theorem dlw_484 : decode code 484 = .ok (.iadd, 1) := by decide +kernel
theorem dlw_485 : decode code 485 = .ok (.iaload, 1) := by decide +kernel
theorem dlw_486 : decode code 486 = .ok (.invokevirtual 58, 3) := by decide +kernel
theorem dlw_489 : decode code 489 = .ok (.if_icmp .eq 448, 3) := by decide +kernel
theorem dlw_492 : decode code 492 = .ok (.iconst 0, 1) := by decide +kernel
theorem dlw_493 : decode code 493 = .ok (.ireturn, 1) := by decide +kernel
theorem dlw_494 : decode code 494 = .ok (.aload_n 1, 1) := by decide +kernel
theorem dlw_495 : decode code 495 = .ok (.aload_n 0, 1) := by decide +kernel
theorem dlw_496 : decode code 496 = .ok (.iload_n 3, 1) := by decide +kernel
theorem dlw_497 : decode code 497 = .ok (.iconst 1, 1) := by decide +kernel
theorem dlw_498 : decode code 498 = .ok (.iadd, 1) := by decide +kernel
theorem dlw_499 : decode code 499 = .ok (.iaload, 1) := by decide +kernel
theorem dlw_500 : decode code 500 = .ok (.aload_n 0, 1) := by decide +kernel
theorem dlw_501 : decode code 501 = .ok (.iload_n 3, 1) := by decide +kernel
theorem dlw_502 : decode code 502 = .ok (.iconst 2, 1) := by decide +kernel
theorem dlw_503 : decode code 503 = .ok (.iadd, 1) := by decide +kernel
theorem dlw_504 : decode code 504 = .ok (.iaload, 1) := by decide +kernel
theorem dlw_505 : decode code 505 = .ok (.invokevirtual 59, 3) := by decide +kernel
theorem dlw_508 : decode code 508 = .ok (.aload_n 2, 1) := by decide +kernel
theorem dlw_509 : decode code 509 = .ok (.aload_n 0, 1) := by decide +kernel
theorem dlw_510 : decode code 510 = .ok (.iload_n 3, 1) := by decide +kernel
theorem dlw_511 : decode code 511 = .ok (.iconst 1, 1) := by decide +kernel
theorem dlw_512 : decode code 512 = .ok (.iadd, 1) := by decide +kernel
theorem dlw_513 : decode code 513 = .ok (.iaload, 1) := by decide +kernel
theorem dlw_514 : decode code 514 = .ok (.aload_n 0, 1) := by decide +kernel
theorem dlw_515 : decode code 515 = .ok (.iload_n 3, 1) := by decide +kernel
theorem dlw_516 : decode code 516 = .ok (.iconst 2, 1) := by decide +kernel
theorem dlw_517 : decode code 517 = .ok (.iadd, 1) := by decide +kernel
theorem dlw_518 : decode code 518 = .ok (.iaload, 1) := by decide +kernel
theorem dlw_519 : decode code 519 = .ok (.invokevirtual 62, 3) := by decide +kernel
theorem dlw_522 : decode code 522 = .ok (.if_icmp .eq 415, 3) := by decide +kernel
theorem dlw_525 : decode code 525 = .ok (.iconst 0, 1) := by decide +kernel
theorem dlw_526 : decode code 526 = .ok (.ireturn, 1) := by decide +kernel
theorem dlw_527 : decode code 527 = .ok (.aload_n 1, 1) := by decide +kernel
theorem dlw_528 : decode code 528 = .ok (.invokevirtual 63, 3) := by decide +kernel
theorem dlw_531 : decode code 531 = .ok (.aload_n 2, 1) := by decide +kernel
theorem dlw_532 : decode code 532 = .ok (.invokevirtual 67, 3) := by decide +kernel
theorem dlw_535 : decode code 535 = .ok (.if_icmp .eq 402, 3) := by decide +kernel
theorem dlw_538 : decode code 538 = .ok (.iconst 0, 1) := by decide +kernel
theorem dlw_539 : decode code 539 = .ok (.ireturn, 1) := by decide +kernel
theorem dlw_540 : decode code 540 = .ok (.aload_n 1, 1) := by decide +kernel
theorem dlw_541 : decode code 541 = .ok (.aload_n 0, 1) := by decide +kernel
theorem dlw_542 : decode code 542 = .ok (.iload_n 3, 1) := by decide +kernel
theorem dlw_543 : decode code 543 = .ok (.iconst 1, 1) := by decide +kernel
theorem dlw_544 : decode code 544 = .ok (.iadd, 1) := by decide +kernel
theorem dlw_545 : decode code 545 = .ok (.iaload, 1) := by decide +kernel
theorem dlw_546 : decode code 546 = .ok (.aload_n 0, 1) := by decide +kernel
theorem dlw_547 : decode code 547 = .ok (.iload_n 3, 1) := by decide +kernel
theorem dlw_548 : decode code 548 = .ok (.iconst 2, 1) := by decide +kernel
theorem dlw_549 : decode code 549 = .ok (.iadd, 1) := by decide +kernel
theorem dlw_550 : decode code 550 = .ok (.iaload, 1) := by decide +kernel
theorem dlw_551 : decode code 551 = .ok (.aload_n 0, 1) := by decide +kernel
theorem dlw_552 : decode code 552 = .ok (.iload_n 3, 1) := by decide +kernel
theorem dlw_553 : decode code 553 = .ok (.iconst 3, 1) := by decide +kernel
theorem dlw_554 : decode code 554 = .ok (.iadd, 1) := by decide +kernel
theorem dlw_555 : decode code 555 = .ok (.iaload, 1) := by decide +kernel
theorem dlw_556 : decode code 556 = .ok (.invokevirtual 68, 3) := by decide +kernel
theorem dlw_559 : decode code 559 = .ok (.aload_n 2, 1) := by decide +kernel
theorem dlw_560 : decode code 560 = .ok (.aload_n 0, 1) := by decide +kernel
theorem dlw_561 : decode code 561 = .ok (.iload_n 3, 1) := by decide +kernel
theorem dlw_562 : decode code 562 = .ok (.iconst 1, 1) := by decide +kernel
theorem dlw_563 : decode code 563 = .ok (.iadd, 1) := by decide +kernel
theorem dlw_564 : decode code 564 = .ok (.iaload, 1) := by decide +kernel
theorem dlw_565 : decode code 565 = .ok (.aload_n 0, 1) := by decide +kernel
theorem dlw_566 : decode code 566 = .ok (.iload_n 3, 1) := by decide +kernel
theorem dlw_567 : decode code 567 = .ok (.iconst 2, 1) := by decide +kernel
theorem dlw_568 : decode code 568 = .ok (.iadd, 1) := by decide +kernel
theorem dlw_569 : decode code 569 = .ok (.iaload, 1) := by decide +kernel
theorem dlw_570 : decode code 570 = .ok (.aload_n 0, 1) := by decide +kernel
theorem dlw_571 : decode code 571 = .ok (.iload_n 3, 1) := by decide +kernel
theorem dlw_572 : decode code 572 = .ok (.iconst 3, 1) := by decide +kernel
theorem dlw_573 : decode code 573 = .ok (.iadd, 1) := by decide +kernel
theorem dlw_574 : decode code 574 = .ok (.iaload, 1) := by decide +kernel
theorem dlw_575 : decode code 575 = .ok (.invokevirtual 71, 3) := by decide +kernel
theorem dlw_578 : decode code 578 = .ok (.if_icmp .eq 359, 3) := by decide +kernel
theorem dlw_581 : decode code 581 = .ok (.iconst 0, 1) := by decide +kernel
theorem dlw_582 : decode code 582 = .ok (.ireturn, 1) := by decide +kernel
theorem dlw_583 : decode code 583 = .ok (.aload_n 1, 1) := by decide +kernel
theorem dlw_584 : decode code 584 = .ok (.aload_n 0, 1) := by decide +kernel
theorem dlw_585 : decode code 585 = .ok (.iload_n 3, 1) := by decide +kernel
theorem dlw_586 : decode code 586 = .ok (.iconst 1, 1) := by decide +kernel
theorem dlw_587 : decode code 587 = .ok (.iadd, 1) := by decide +kernel
theorem dlw_588 : decode code 588 = .ok (.iaload, 1) := by decide +kernel
theorem dlw_589 : decode code 589 = .ok (.aload_n 0, 1) := by decide +kernel
theorem dlw_590 : decode code 590 = .ok (.iload_n 3, 1) := by decide +kernel
theorem dlw_591 : decode code 591 = .ok (.iconst 2, 1) := by decide +kernel
theorem dlw_592 : decode code 592 = .ok (.iadd, 1) := by decide +kernel
theorem dlw_593 : decode code 593 = .ok (.iaload, 1) := by decide +kernel
theorem dlw_594 : decode code 594 = .ok (.invokevirtual 72, 3) := by decide +kernel
theorem dlw_597 : decode code 597 = .ok (.aload_n 2, 1) := by decide +kernel
theorem dlw_598 : decode code 598 = .ok (.aload_n 0, 1) := by decide +kernel
theorem dlw_599 : decode code 599 = .ok (.iload_n 3, 1) := by decide +kernel
theorem dlw_600 : decode code 600 = .ok (.iconst 1, 1) := by decide +kernel
theorem dlw_601 : decode code 601 = .ok (.iadd, 1) := by decide +kernel
theorem dlw_602 : decode code 602 = .ok (.iaload, 1) := by decide +kernel
theorem dlw_603 : decode code 603 = .ok (.aload_n 0, 1) := by decide +kernel
theorem dlw_604 : decode code 604 = .ok (.iload_n 3, 1) := by decide +kernel
theorem dlw_605 : decode code 605 = .ok (.iconst 2, 1) := by decide +kernel
theorem dlw_606 : decode code 606 = .ok (.iadd, 1) := by decide +kernel
theorem dlw_607 : decode code 607 = .ok (.iaload, 1) := by decide +kernel
theorem dlw_608 : decode code 608 = .ok (.invokevirtual 75, 3) := by decide +kernel
theorem dlw_611 : decode code 611 = .ok (.if_icmp .eq 326, 3) := by decide +kernel
theorem dlw_614 : decode code 614 = .ok (.iconst 0, 1) := by decide +kernel
theorem dlw_615 : decode code 615 = .ok (.ireturn, 1) := by decide +kernel
theorem dlw_616 : decode code 616 = .ok (.aload_n 1, 1) := by decide +kernel
theorem dlw_617 : decode code 617 = .ok (.aload_n 0, 1) := by decide +kernel
theorem dlw_618 : decode code 618 = .ok (.iload_n 3, 1) := by decide +kernel
theorem dlw_619 : decode code 619 = .ok (.iconst 1, 1) := by decide +kernel
theorem dlw_620 : decode code 620 = .ok (.iadd, 1) := by decide +kernel
theorem dlw_621 : decode code 621 = .ok (.iaload, 1) := by decide +kernel
theorem dlw_622 : decode code 622 = .ok (.invokevirtual 76, 3) := by decide +kernel
theorem dlw_625 : decode code 625 = .ok (.aload_n 2, 1) := by decide +kernel
theorem dlw_626 : decode code 626 = .ok (.aload_n 0, 1) := by decide +kernel
theorem dlw_627 : decode code 627 = .ok (.iload_n 3, 1) := by decide +kernel
theorem dlw_628 : decode code 628 = .ok (.iconst 1, 1) := by decide +kernel
theorem dlw_629 : decode code 629 = .ok (.iadd, 1) := by decide +kernel
theorem dlw_630 : decode code 630 = .ok (.iaload, 1) := by decide +kernel
theorem dlw_631 : decode code 631 = .ok (.invokevirtual 79, 3) := by decide +kernel
theorem dlw_634 : decode code 634 = .ok (.if_icmp .eq 303, 3) := by decide +kernel
theorem dlw_637 : decode code 637 = .ok (.iconst 0, 1) := by decide +kernel
theorem dlw_638 : decode code 638 = .ok (.ireturn, 1) := by decide +kernel
theorem dlw_639 : decode code 639 = .ok (.aload_n 1, 1) := by decide +kernel
theorem dlw_640 : decode code 640 = .ok (.aload_n 0, 1) := by decide +kernel
theorem dlw_641 : decode code 641 = .ok (.iload_n 3, 1) := by decide +kernel
theorem dlw_642 : decode code 642 = .ok (.iconst 1, 1) := by decide +kernel
theorem dlw_643 : decode code 643 = .ok (.iadd, 1) := by decide +kernel
theorem dlw_644 : decode code 644 = .ok (.iaload, 1) := by decide +kernel
theorem dlw_645 : decode code 645 = .ok (.aload_n 0, 1) := by decide +kernel
theorem dlw_646 : decode code 646 = .ok (.iload_n 3, 1) := by decide +kernel
theorem dlw_647 : decode code 647 = .ok (.iconst 2, 1) := by decide +kernel
theorem dlw_648 : decode code 648 = .ok (.iadd, 1) := by decide +kernel
theorem dlw_649 : decode code 649 = .ok (.iaload, 1) := by decide +kernel
theorem dlw_650 : decode code 650 = .ok (.aload_n 0, 1) := by decide +kernel
theorem dlw_651 : decode code 651 = .ok (.iload_n 3, 1) := by decide +kernel
theorem dlw_652 : decode code 652 = .ok (.iconst 3, 1) := by decide +kernel
theorem dlw_653 : decode code 653 = .ok (.iadd, 1) := by decide +kernel
theorem dlw_654 : decode code 654 = .ok (.iaload, 1) := by decide +kernel
theorem dlw_655 : decode code 655 = .ok (.invokevirtual 80, 3) := by decide +kernel
theorem dlw_658 : decode code 658 = .ok (.aload_n 2, 1) := by decide +kernel
theorem dlw_659 : decode code 659 = .ok (.aload_n 0, 1) := by decide +kernel
theorem dlw_660 : decode code 660 = .ok (.iload_n 3, 1) := by decide +kernel
theorem dlw_661 : decode code 661 = .ok (.iconst 1, 1) := by decide +kernel
theorem dlw_662 : decode code 662 = .ok (.iadd, 1) := by decide +kernel
theorem dlw_663 : decode code 663 = .ok (.iaload, 1) := by decide +kernel
theorem dlw_664 : decode code 664 = .ok (.aload_n 0, 1) := by decide +kernel
theorem dlw_665 : decode code 665 = .ok (.iload_n 3, 1) := by decide +kernel
theorem dlw_666 : decode code 666 = .ok (.iconst 2, 1) := by decide +kernel
theorem dlw_667 : decode code 667 = .ok (.iadd, 1) := by decide +kernel
theorem dlw_668 : decode code 668 = .ok (.iaload, 1) := by decide +kernel
theorem dlw_669 : decode code 669 = .ok (.aload_n 0, 1) := by decide +kernel
theorem dlw_670 : decode code 670 = .ok (.iload_n 3, 1) := by decide +kernel
theorem dlw_671 : decode code 671 = .ok (.iconst 3, 1) := by decide +kernel
theorem dlw_672 : decode code 672 = .ok (.iadd, 1) := by decide +kernel
theorem dlw_673 : decode code 673 = .ok (.iaload, 1) := by decide +kernel
theorem dlw_674 : decode code 674 = .ok (.invokevirtual 83, 3) := by decide +kernel
theorem dlw_677 : decode code 677 = .ok (.if_icmp .eq 260, 3) := by decide +kernel
theorem dlw_680 : decode code 680 = .ok (.iconst 0, 1) := by decide +kernel
theorem dlw_681 : decode code 681 = .ok (.ireturn, 1) := by decide +kernel
theorem dlw_682 : decode code 682 = .ok (.aload_n 1, 1) := by decide +kernel
theorem dlw_683 : decode code 683 = .ok (.aload_n 0, 1) := by decide +kernel
theorem dlw_684 : decode code 684 = .ok (.iload_n 3, 1) := by decide +kernel
theorem dlw_685 : decode code 685 = .ok (.iconst 1, 1) := by decide +kernel
theorem dlw_686 : decode code 686 = .ok (.iadd, 1) := by decide +kernel
theorem dlw_687 : decode code 687 = .ok (.iaload, 1) := by decide +kernel
theorem dlw_688 : decode code 688 = .ok (.invokevirtual 84, 3) := by decide +kernel
theorem dlw_691 : decode code 691 = .ok (.aload_n 2, 1) := by decide +kernel
theorem dlw_692 : decode code 692 = .ok (.aload_n 0, 1) := by decide +kernel
theorem dlw_693 : decode code 693 = .ok (.iload_n 3, 1) := by decide +kernel
theorem dlw_694 : decode code 694 = .ok (.iconst 1, 1) := by decide +kernel
theorem dlw_695 : decode code 695 = .ok (.iadd, 1) := by decide +kernel
theorem dlw_696 : decode code 696 = .ok (.iaload, 1) := by decide +kernel
theorem dlw_697 : decode code 697 = .ok (.invokevirtual 88, 3) := by decide +kernel
theorem dlw_700 : decode code 700 = .ok (.lcmp, 1) := by decide +kernel
theorem dlw_701 : decode code 701 = .ok (.ifCond .eq 236, 3) := by decide +kernel
theorem dlw_704 : decode code 704 = .ok (.iconst 0, 1) := by decide +kernel
theorem dlw_705 : decode code 705 = .ok (.ireturn, 1) := by decide +kernel
theorem dlw_706 : decode code 706 = .ok (.aload_n 1, 1) := by decide +kernel
theorem dlw_707 : decode code 707 = .ok (.aload_n 0, 1) := by decide +kernel
theorem dlw_708 : decode code 708 = .ok (.iload_n 3, 1) := by decide +kernel
theorem dlw_709 : decode code 709 = .ok (.iconst 1, 1) := by decide +kernel
theorem dlw_710 : decode code 710 = .ok (.iadd, 1) := by decide +kernel
theorem dlw_711 : decode code 711 = .ok (.iaload, 1) := by decide +kernel
theorem dlw_712 : decode code 712 = .ok (.invokevirtual 89, 3) := by decide +kernel
theorem dlw_715 : decode code 715 = .ok (.aload_n 2, 1) := by decide +kernel
theorem dlw_716 : decode code 716 = .ok (.aload_n 0, 1) := by decide +kernel
theorem dlw_717 : decode code 717 = .ok (.iload_n 3, 1) := by decide +kernel
theorem dlw_718 : decode code 718 = .ok (.iconst 1, 1) := by decide +kernel
theorem dlw_719 : decode code 719 = .ok (.iadd, 1) := by decide +kernel
theorem dlw_720 : decode code 720 = .ok (.iaload, 1) := by decide +kernel
theorem dlw_721 : decode code 721 = .ok (.invokevirtual 92, 3) := by decide +kernel
theorem dlw_724 : decode code 724 = .ok (.if_icmp .eq 213, 3) := by decide +kernel
theorem dlw_727 : decode code 727 = .ok (.iconst 0, 1) := by decide +kernel
theorem dlw_728 : decode code 728 = .ok (.ireturn, 1) := by decide +kernel
theorem dlw_729 : decode code 729 = .ok (.aload_n 1, 1) := by decide +kernel
theorem dlw_730 : decode code 730 = .ok (.aload_n 0, 1) := by decide +kernel
theorem dlw_731 : decode code 731 = .ok (.iload_n 3, 1) := by decide +kernel
theorem dlw_732 : decode code 732 = .ok (.iconst 1, 1) := by decide +kernel
theorem dlw_733 : decode code 733 = .ok (.iadd, 1) := by decide +kernel
theorem dlw_734 : decode code 734 = .ok (.iaload, 1) := by decide +kernel
theorem dlw_735 : decode code 735 = .ok (.aload_n 0, 1) := by decide +kernel
theorem dlw_736 : decode code 736 = .ok (.iload_n 3, 1) := by decide +kernel
theorem dlw_737 : decode code 737 = .ok (.iconst 2, 1) := by decide +kernel
theorem dlw_738 : decode code 738 = .ok (.iadd, 1) := by decide +kernel
theorem dlw_739 : decode code 739 = .ok (.iaload, 1) := by decide +kernel
theorem dlw_740 : decode code 740 = .ok (.aload_n 0, 1) := by decide +kernel
theorem dlw_741 : decode code 741 = .ok (.iload_n 3, 1) := by decide +kernel
theorem dlw_742 : decode code 742 = .ok (.iconst 3, 1) := by decide +kernel
theorem dlw_743 : decode code 743 = .ok (.iadd, 1) := by decide +kernel
theorem dlw_744 : decode code 744 = .ok (.iaload, 1) := by decide +kernel
theorem dlw_745 : decode code 745 = .ok (.aload_n 0, 1) := by decide +kernel
theorem dlw_746 : decode code 746 = .ok (.iload_n 3, 1) := by decide +kernel
theorem dlw_747 : decode code 747 = .ok (.iconst 4, 1) := by decide +kernel
theorem dlw_748 : decode code 748 = .ok (.iadd, 1) := by decide +kernel
theorem dlw_749 : decode code 749 = .ok (.iaload, 1) := by decide +kernel
theorem dlw_750 : decode code 750 = .ok (.invokevirtual 93, 3) := by decide +kernel
theorem dlw_753 : decode code 753 = .ok (.aload_n 2, 1) := by decide +kernel
theorem dlw_754 : decode code 754 = .ok (.aload_n 0, 1) := by decide +kernel
theorem dlw_755 : decode code 755 = .ok (.iload_n 3, 1) := by decide +kernel
theorem dlw_756 : decode code 756 = .ok (.iconst 1, 1) := by decide +kernel
theorem dlw_757 : decode code 757 = .ok (.iadd, 1) := by decide +kernel
theorem dlw_758 : decode code 758 = .ok (.iaload, 1) := by decide +kernel
theorem dlw_759 : decode code 759 = .ok (.aload_n 0, 1) := by decide +kernel
theorem dlw_760 : decode code 760 = .ok (.iload_n 3, 1) := by decide +kernel
theorem dlw_761 : decode code 761 = .ok (.iconst 2, 1) := by decide +kernel
theorem dlw_762 : decode code 762 = .ok (.iadd, 1) := by decide +kernel
theorem dlw_763 : decode code 763 = .ok (.iaload, 1) := by decide +kernel
theorem dlw_764 : decode code 764 = .ok (.aload_n 0, 1) := by decide +kernel
theorem dlw_765 : decode code 765 = .ok (.iload_n 3, 1) := by decide +kernel
theorem dlw_766 : decode code 766 = .ok (.iconst 3, 1) := by decide +kernel
theorem dlw_767 : decode code 767 = .ok (.iadd, 1) := by decide +kernel
theorem dlw_768 : decode code 768 = .ok (.iaload, 1) := by decide +kernel
theorem dlw_769 : decode code 769 = .ok (.aload_n 0, 1) := by decide +kernel
theorem dlw_770 : decode code 770 = .ok (.iload_n 3, 1) := by decide +kernel
theorem dlw_771 : decode code 771 = .ok (.iconst 4, 1) := by decide +kernel
theorem dlw_772 : decode code 772 = .ok (.iadd, 1) := by decide +kernel
theorem dlw_773 : decode code 773 = .ok (.iaload, 1) := by decide +kernel
theorem dlw_774 : decode code 774 = .ok (.invokevirtual 97, 3) := by decide +kernel
theorem dlw_777 : decode code 777 = .ok (.if_icmp .eq 160, 3) := by decide +kernel
theorem dlw_780 : decode code 780 = .ok (.iconst 0, 1) := by decide +kernel
theorem dlw_781 : decode code 781 = .ok (.ireturn, 1) := by decide +kernel
theorem dlw_782 : decode code 782 = .ok (.aload_n 1, 1) := by decide +kernel
theorem dlw_783 : decode code 783 = .ok (.aload_n 0, 1) := by decide +kernel
theorem dlw_784 : decode code 784 = .ok (.iload_n 3, 1) := by decide +kernel
theorem dlw_785 : decode code 785 = .ok (.iconst 1, 1) := by decide +kernel
theorem dlw_786 : decode code 786 = .ok (.iadd, 1) := by decide +kernel
theorem dlw_787 : decode code 787 = .ok (.iaload, 1) := by decide +kernel
theorem dlw_788 : decode code 788 = .ok (.aload_n 0, 1) := by decide +kernel
theorem dlw_789 : decode code 789 = .ok (.iload_n 3, 1) := by decide +kernel
theorem dlw_790 : decode code 790 = .ok (.iconst 2, 1) := by decide +kernel
theorem dlw_791 : decode code 791 = .ok (.iadd, 1) := by decide +kernel
theorem dlw_792 : decode code 792 = .ok (.iaload, 1) := by decide +kernel
theorem dlw_793 : decode code 793 = .ok (.aload_n 0, 1) := by decide +kernel
theorem dlw_794 : decode code 794 = .ok (.iload_n 3, 1) := by decide +kernel
theorem dlw_795 : decode code 795 = .ok (.iconst 3, 1) := by decide +kernel
theorem dlw_796 : decode code 796 = .ok (.iadd, 1) := by decide +kernel
theorem dlw_797 : decode code 797 = .ok (.iaload, 1) := by decide +kernel
theorem dlw_798 : decode code 798 = .ok (.invokevirtual 98, 3) := by decide +kernel
theorem dlw_801 : decode code 801 = .ok (.aload_n 2, 1) := by decide +kernel
theorem dlw_802 : decode code 802 = .ok (.aload_n 0, 1) := by decide +kernel
theorem dlw_803 : decode code 803 = .ok (.iload_n 3, 1) := by decide +kernel
theorem dlw_804 : decode code 804 = .ok (.iconst 1, 1) := by decide +kernel
theorem dlw_805 : decode code 805 = .ok (.iadd, 1) := by decide +kernel
theorem dlw_806 : decode code 806 = .ok (.iaload, 1) := by decide +kernel
theorem dlw_807 : decode code 807 = .ok (.aload_n 0, 1) := by decide +kernel
theorem dlw_808 : decode code 808 = .ok (.iload_n 3, 1) := by decide +kernel
theorem dlw_809 : decode code 809 = .ok (.iconst 2, 1) := by decide +kernel
theorem dlw_810 : decode code 810 = .ok (.iadd, 1) := by decide +kernel
theorem dlw_811 : decode code 811 = .ok (.iaload, 1) := by decide +kernel
theorem dlw_812 : decode code 812 = .ok (.aload_n 0, 1) := by decide +kernel
theorem dlw_813 : decode code 813 = .ok (.iload_n 3, 1) := by decide +kernel
theorem dlw_814 : decode code 814 = .ok (.iconst 3, 1) := by decide +kernel
theorem dlw_815 : decode code 815 = .ok (.iadd, 1) := by decide +kernel
theorem dlw_816 : decode code 816 = .ok (.iaload, 1) := by decide +kernel
theorem dlw_817 : decode code 817 = .ok (.invokevirtual 101, 3) := by decide +kernel
theorem dlw_820 : decode code 820 = .ok (.if_icmp .eq 117, 3) := by decide +kernel
theorem dlw_823 : decode code 823 = .ok (.iconst 0, 1) := by decide +kernel
theorem dlw_824 : decode code 824 = .ok (.ireturn, 1) := by decide +kernel
theorem dlw_825 : decode code 825 = .ok (.aload_n 1, 1) := by decide +kernel
theorem dlw_826 : decode code 826 = .ok (.aload_n 0, 1) := by decide +kernel
theorem dlw_827 : decode code 827 = .ok (.iload_n 3, 1) := by decide +kernel
theorem dlw_828 : decode code 828 = .ok (.iconst 1, 1) := by decide +kernel
theorem dlw_829 : decode code 829 = .ok (.iadd, 1) := by decide +kernel
theorem dlw_830 : decode code 830 = .ok (.iaload, 1) := by decide +kernel
theorem dlw_831 : decode code 831 = .ok (.invokevirtual 102, 3) := by decide +kernel
theorem dlw_834 : decode code 834 = .ok (.aload_n 2, 1) := by decide +kernel
theorem dlw_835 : decode code 835 = .ok (.aload_n 0, 1) := by decide +kernel
theorem dlw_836 : decode code 836 = .ok (.iload_n 3, 1) := by decide +kernel
theorem dlw_837 : decode code 837 = .ok (.iconst 1, 1) := by decide +kernel
theorem dlw_838 : decode code 838 = .ok (.iadd, 1) := by decide +kernel
theorem dlw_839 : decode code 839 = .ok (.iaload, 1) := by decide +kernel
theorem dlw_840 : decode code 840 = .ok (.invokevirtual 105, 3) := by decide +kernel
theorem dlw_843 : decode code 843 = .ok (.if_icmp .eq 94, 3) := by decide +kernel
theorem dlw_846 : decode code 846 = .ok (.iconst 0, 1) := by decide +kernel
theorem dlw_847 : decode code 847 = .ok (.ireturn, 1) := by decide +kernel
theorem dlw_848 : decode code 848 = .ok (.aload_n 1, 1) := by decide +kernel
theorem dlw_849 : decode code 849 = .ok (.aload_n 0, 1) := by decide +kernel
theorem dlw_850 : decode code 850 = .ok (.iload_n 3, 1) := by decide +kernel
theorem dlw_851 : decode code 851 = .ok (.iconst 1, 1) := by decide +kernel
theorem dlw_852 : decode code 852 = .ok (.iadd, 1) := by decide +kernel
theorem dlw_853 : decode code 853 = .ok (.iaload, 1) := by decide +kernel
theorem dlw_854 : decode code 854 = .ok (.aload_n 0, 1) := by decide +kernel
theorem dlw_855 : decode code 855 = .ok (.iload_n 3, 1) := by decide +kernel
theorem dlw_856 : decode code 856 = .ok (.iconst 2, 1) := by decide +kernel
theorem dlw_857 : decode code 857 = .ok (.iadd, 1) := by decide +kernel
theorem dlw_858 : decode code 858 = .ok (.iaload, 1) := by decide +kernel
theorem dlw_859 : decode code 859 = .ok (.invokevirtual 106, 3) := by decide +kernel
theorem dlw_862 : decode code 862 = .ok (.aload_n 2, 1) := by decide +kernel
theorem dlw_863 : decode code 863 = .ok (.aload_n 0, 1) := by decide +kernel
theorem dlw_864 : decode code 864 = .ok (.iload_n 3, 1) := by decide +kernel
theorem dlw_865 : decode code 865 = .ok (.iconst 1, 1) := by decide +kernel
theorem dlw_866 : decode code 866 = .ok (.iadd, 1) := by decide +kernel
theorem dlw_867 : decode code 867 = .ok (.iaload, 1) := by decide +kernel
theorem dlw_868 : decode code 868 = .ok (.aload_n 0, 1) := by decide +kernel
theorem dlw_869 : decode code 869 = .ok (.iload_n 3, 1) := by decide +kernel
theorem dlw_870 : decode code 870 = .ok (.iconst 2, 1) := by decide +kernel
theorem dlw_871 : decode code 871 = .ok (.iadd, 1) := by decide +kernel
theorem dlw_872 : decode code 872 = .ok (.iaload, 1) := by decide +kernel
theorem dlw_873 : decode code 873 = .ok (.invokevirtual 109, 3) := by decide +kernel
theorem dlw_876 : decode code 876 = .ok (.if_icmp .eq 61, 3) := by decide +kernel
theorem dlw_879 : decode code 879 = .ok (.iconst 0, 1) := by decide +kernel
theorem dlw_880 : decode code 880 = .ok (.ireturn, 1) := by decide +kernel
theorem dlw_881 : decode code 881 = .ok (.aload_n 1, 1) := by decide +kernel
theorem dlw_882 : decode code 882 = .ok (.aload_n 0, 1) := by decide +kernel
theorem dlw_883 : decode code 883 = .ok (.iload_n 3, 1) := by decide +kernel
theorem dlw_884 : decode code 884 = .ok (.iconst 1, 1) := by decide +kernel
theorem dlw_885 : decode code 885 = .ok (.iadd, 1) := by decide +kernel
theorem dlw_886 : decode code 886 = .ok (.iaload, 1) := by decide +kernel
theorem dlw_887 : decode code 887 = .ok (.aload_n 0, 1) := by decide +kernel
theorem dlw_888 : decode code 888 = .ok (.iload_n 3, 1) := by decide +kernel
theorem dlw_889 : decode code 889 = .ok (.iconst 2, 1) := by decide +kernel
theorem dlw_890 : decode code 890 = .ok (.iadd, 1) := by decide +kernel
theorem dlw_891 : decode code 891 = .ok (.iaload, 1) := by decide +kernel
theorem dlw_892 : decode code 892 = .ok (.invokevirtual 110, 3) := by decide +kernel
theorem dlw_895 : decode code 895 = .ok (.aload_n 2, 1) := by decide +kernel
theorem dlw_896 : decode code 896 = .ok (.aload_n 0, 1) := by decide +kernel
theorem dlw_897 : decode code 897 = .ok (.iload_n 3, 1) := by decide +kernel
theorem dlw_898 : decode code 898 = .ok (.iconst 1, 1) := by decide +kernel
theorem dlw_899 : decode code 899 = .ok (.iadd, 1) := by decide +kernel
theorem dlw_900 : decode code 900 = .ok (.iaload, 1) := by decide +kernel
theorem dlw_901 : decode code 901 = .ok (.aload_n 0, 1) := by decide +kernel
theorem dlw_902 : decode code 902 = .ok (.iload_n 3, 1) := by decide +kernel
theorem dlw_903 : decode code 903 = .ok (.iconst 2, 1) := by decide +kernel
theorem dlw_904 : decode code 904 = .ok (.iadd, 1) := by decide +kernel
theorem dlw_905 : decode code 905 = .ok (.iaload, 1) := by decide +kernel
theorem dlw_906 : decode code 906 = .ok (.invokevirtual 113, 3) := by decide +kernel
theorem dlw_909 : decode code 909 = .ok (.if_icmp .eq 28, 3) := by decide +kernel
theorem dlw_912 : decode code 912 = .ok (.iconst 0, 1) := by decide +kernel
theorem dlw_913 : decode code 913 = .ok (.ireturn, 1) := by decide +kernel
theorem dlw_914 : decode code 914 = .ok (.aload_n 1, 1) := by decide +kernel
theorem dlw_915 : decode code 915 = .ok (.aload_n 0, 1) := by decide +kernel
theorem dlw_916 : decode code 916 = .ok (.iload_n 3, 1) := by decide +kernel
theorem dlw_917 : decode code 917 = .ok (.iconst 1, 1) := by decide +kernel
theorem dlw_918 : decode code 918 = .ok (.iadd, 1) := by decide +kernel
theorem dlw_919 : decode code 919 = .ok (.iaload, 1) := by decide +kernel
theorem dlw_920 : decode code 920 = .ok (.invokevirtual 114, 3) := by decide +kernel
theorem dlw_923 : decode code 923 = .ok (.aload_n 2, 1) := by decide +kernel
theorem dlw_924 : decode code 924 = .ok (.aload_n 0, 1) := by decide +kernel
theorem dlw_925 : decode code 925 = .ok (.iload_n 3, 1) := by decide +kernel
theorem dlw_926 : decode code 926 = .ok (.iconst 1, 1) := by decide +kernel
theorem dlw_927 : decode code 927 = .ok (.iadd, 1) := by decide +kernel
theorem dlw_928 : decode code 928 = .ok (.iaload, 1) := by decide +kernel
theorem dlw_929 : decode code 929 = .ok (.invokevirtual 117, 3) := by decide +kernel
theorem dlw_932 : decode code 932 = .ok (.if_icmp .eq 5, 3) := by decide +kernel
theorem dlw_935 : decode code 935 = .ok (.iconst 0, 1) := by decide +kernel
theorem dlw_936 : decode code 936 = .ok (.ireturn, 1) := by decide +kernel
theorem dlw_937 : decode code 937 = .ok (.iinc 3 6, 3) := by decide +kernel
theorem dlw_940 : decode code 940 = .ok (.goto (-922), 3) := by decide +kernel
theorem dlw_943 : decode code 943 = .ok (.iconst 1, 1) := by decide +kernel
theorem dlw_944 : decode code 944 = .ok (.ireturn, 1) := by decide +kernel
theorem kLw_13 : kV RcLw 13 RcTL yTL_road prog_1_method_2_code 4 (some .boolean) 3 := ⟨(mg (i := 311) (by decide +kernel) rfl), (mg (i := 312) (by decide +kernel) rfl), (mg (i := 313) (by decide +kernel) rfl), (mg (i := 41) (by decide +kernel) rfl), (mg (i := 314) (by decide +kernel) rfl), ⟨by decide, by decide, by decide +kernel⟩, by decide⟩
theorem kLw_17 : kV RcLw 17 RcMM yMM_road prog_12_method_6_code 4 (some .boolean) 3 := ⟨(mg (i := 949) (by decide +kernel) rfl), (mg (i := 950) (by decide +kernel) rfl), (mg (i := 951) (by decide +kernel) rfl), (mg (i := 52) (by decide +kernel) rfl), (mg (i := 952) (by decide +kernel) rfl), ⟨by decide, by decide, by decide +kernel⟩, by decide⟩
theorem kLw_18 : kV RcLw 18 RcTL yTL_way prog_1_method_3_code 3 (some .int) 2 := ⟨(mg (i := 325) (by decide +kernel) rfl), (mg (i := 326) (by decide +kernel) rfl), (mg (i := 327) (by decide +kernel) rfl), (mg (i := 41) (by decide +kernel) rfl), (mg (i := 328) (by decide +kernel) rfl), ⟨by decide, by decide, by decide +kernel⟩, by decide⟩
theorem kLw_22 : kV RcLw 22 RcMM yMM_way prog_12_method_8_code 3 (some .int) 2 := ⟨(mg (i := 959) (by decide +kernel) rfl), (mg (i := 960) (by decide +kernel) rfl), (mg (i := 961) (by decide +kernel) rfl), (mg (i := 52) (by decide +kernel) rfl), (mg (i := 962) (by decide +kernel) rfl), ⟨by decide, by decide, by decide +kernel⟩, by decide⟩
theorem kLw_23 : kV RcLw 23 RcTL yTL_weight prog_1_method_4_code 3 (some .boolean) 2 := ⟨(mg (i := 346) (by decide +kernel) rfl), (mg (i := 347) (by decide +kernel) rfl), (mg (i := 348) (by decide +kernel) rfl), (mg (i := 41) (by decide +kernel) rfl), (mg (i := 349) (by decide +kernel) rfl), ⟨by decide, by decide, by decide +kernel⟩, by decide⟩
theorem kLw_27 : kV RcLw 27 RcMM yMM_weight prog_12_method_9_code 3 (some .boolean) 2 := ⟨(mg (i := 968) (by decide +kernel) rfl), (mg (i := 969) (by decide +kernel) rfl), (mg (i := 970) (by decide +kernel) rfl), (mg (i := 52) (by decide +kernel) rfl), (mg (i := 971) (by decide +kernel) rfl), ⟨by decide, by decide, by decide +kernel⟩, by decide⟩
theorem kLw_28 : kV RcLw 28 RcTL yTL_carriers prog_1_method_5_code 3 (some .int) 2 := ⟨(mg (i := 362) (by decide +kernel) rfl), (mg (i := 363) (by decide +kernel) rfl), (mg (i := 364) (by decide +kernel) rfl), (mg (i := 41) (by decide +kernel) rfl), (mg (i := 365) (by decide +kernel) rfl), ⟨by decide, by decide, by decide +kernel⟩, by decide⟩
theorem kLw_31 : kV RcLw 31 RcMM yMM_carriers prog_12_method_11_code 3 (some .int) 2 := ⟨(mg (i := 975) (by decide +kernel) rfl), (mg (i := 976) (by decide +kernel) rfl), (mg (i := 977) (by decide +kernel) rfl), (mg (i := 52) (by decide +kernel) rfl), (mg (i := 978) (by decide +kernel) rfl), ⟨by decide, by decide, by decide +kernel⟩, by decide⟩
theorem kLw_32 : kV RcLw 32 RcTL yTL_feed prog_1_method_6_code 6 (some .int) 5 := ⟨(mg (i := 377) (by decide +kernel) rfl), (mg (i := 378) (by decide +kernel) rfl), (mg (i := 379) (by decide +kernel) rfl), (mg (i := 41) (by decide +kernel) rfl), (mg (i := 380) (by decide +kernel) rfl), ⟨by decide, by decide, by decide +kernel⟩, by decide⟩
theorem kLw_36 : kV RcLw 36 RcMM yMM_feed prog_12_method_13_code 6 (some .int) 5 := ⟨(mg (i := 983) (by decide +kernel) rfl), (mg (i := 984) (by decide +kernel) rfl), (mg (i := 985) (by decide +kernel) rfl), (mg (i := 52) (by decide +kernel) rfl), (mg (i := 986) (by decide +kernel) rfl), ⟨by decide, by decide, by decide +kernel⟩, by decide⟩
theorem kLw_37 : kV RcLw 37 RcTL yTL_end prog_1_method_7_code 2 (some .int) 1 := ⟨(mg (i := 393) (by decide +kernel) rfl), (mg (i := 394) (by decide +kernel) rfl), (mg (i := 395) (by decide +kernel) rfl), (mg (i := 41) (by decide +kernel) rfl), (mg (i := 396) (by decide +kernel) rfl), ⟨by decide, by decide, by decide +kernel⟩, by decide⟩
theorem kLw_41 : kV RcLw 41 RcMM yMM_end prog_12_method_14_code 2 (some .int) 1 := ⟨(mg (i := 991) (by decide +kernel) rfl), (mg (i := 992) (by decide +kernel) rfl), (mg (i := 993) (by decide +kernel) rfl), (mg (i := 52) (by decide +kernel) rfl), (mg (i := 994) (by decide +kernel) rfl), ⟨by decide, by decide, by decide +kernel⟩, by decide⟩
theorem kLw_42 : kV RcLw 42 RcTL yTL_copy prog_1_method_8_code 3 (some .int) 1 := ⟨(mg (i := 401) (by decide +kernel) rfl), (mg (i := 402) (by decide +kernel) rfl), (mg (i := 403) (by decide +kernel) rfl), (mg (i := 41) (by decide +kernel) rfl), (mg (i := 404) (by decide +kernel) rfl), ⟨by decide, by decide, by decide +kernel⟩, by decide⟩
theorem kLw_45 : kV RcLw 45 RcMM yMM_copy prog_12_method_22_code 3 (some .int) 1 := ⟨(mg (i := 995) (by decide +kernel) rfl), (mg (i := 996) (by decide +kernel) rfl), (mg (i := 997) (by decide +kernel) rfl), (mg (i := 52) (by decide +kernel) rfl), (mg (i := 998) (by decide +kernel) rfl), ⟨by decide, by decide, by decide +kernel⟩, by decide⟩
theorem kLw_46 : kV RcLw 46 RcTL yTL_fault prog_1_method_9_code 2 (some .int) 1 := ⟨(mg (i := 544) (by decide +kernel) rfl), (mg (i := 545) (by decide +kernel) rfl), (mg (i := 546) (by decide +kernel) rfl), (mg (i := 41) (by decide +kernel) rfl), (mg (i := 547) (by decide +kernel) rfl), ⟨by decide, by decide, by decide +kernel⟩, by decide⟩
theorem kLw_49 : kV RcLw 49 RcMM yMM_fault prog_12_method_23_code 2 (some .int) 1 := ⟨(mg (i := 1028) (by decide +kernel) rfl), (mg (i := 1029) (by decide +kernel) rfl), (mg (i := 1030) (by decide +kernel) rfl), (mg (i := 52) (by decide +kernel) rfl), (mg (i := 1031) (by decide +kernel) rfl), ⟨by decide, by decide, by decide +kernel⟩, by decide⟩
theorem kLw_50 : kV RcLw 50 RcTL yTL_tells prog_1_method_10_code 4 (some .int) 3 := ⟨(mg (i := 560) (by decide +kernel) rfl), (mg (i := 561) (by decide +kernel) rfl), (mg (i := 562) (by decide +kernel) rfl), (mg (i := 41) (by decide +kernel) rfl), (mg (i := 563) (by decide +kernel) rfl), ⟨by decide, by decide, by decide +kernel⟩, by decide⟩
theorem kLw_54 : kV RcLw 54 RcMM yMM_tells prog_12_method_25_code 4 (some .int) 3 := ⟨(mg (i := 1032) (by decide +kernel) rfl), (mg (i := 1033) (by decide +kernel) rfl), (mg (i := 1034) (by decide +kernel) rfl), (mg (i := 52) (by decide +kernel) rfl), (mg (i := 1035) (by decide +kernel) rfl), ⟨by decide, by decide, by decide +kernel⟩, by decide⟩
theorem kLw_55 : kV RcLw 55 RcTL yTL_owed prog_1_method_11_code 3 (some .int) 2 := ⟨(mg (i := 570) (by decide +kernel) rfl), (mg (i := 571) (by decide +kernel) rfl), (mg (i := 572) (by decide +kernel) rfl), (mg (i := 41) (by decide +kernel) rfl), (mg (i := 573) (by decide +kernel) rfl), ⟨by decide, by decide, by decide +kernel⟩, by decide⟩
theorem kLw_58 : kV RcLw 58 RcMM yMM_owed prog_12_method_28_code 3 (some .int) 2 := ⟨(mg (i := 1040) (by decide +kernel) rfl), (mg (i := 1041) (by decide +kernel) rfl), (mg (i := 1042) (by decide +kernel) rfl), (mg (i := 52) (by decide +kernel) rfl), (mg (i := 1043) (by decide +kernel) rfl), ⟨by decide, by decide, by decide +kernel⟩, by decide⟩
theorem kLw_59 : kV RcLw 59 RcTL yTL_quarrel prog_1_method_12_code 3 (some .int) 2 := ⟨(mg (i := 582) (by decide +kernel) rfl), (mg (i := 583) (by decide +kernel) rfl), (mg (i := 584) (by decide +kernel) rfl), (mg (i := 41) (by decide +kernel) rfl), (mg (i := 585) (by decide +kernel) rfl), ⟨by decide, by decide, by decide +kernel⟩, by decide⟩
theorem kLw_62 : kV RcLw 62 RcMM yMM_quarrel prog_12_method_30_code 3 (some .int) 2 := ⟨(mg (i := 1052) (by decide +kernel) rfl), (mg (i := 1053) (by decide +kernel) rfl), (mg (i := 1054) (by decide +kernel) rfl), (mg (i := 52) (by decide +kernel) rfl), (mg (i := 1055) (by decide +kernel) rfl), ⟨by decide, by decide, by decide +kernel⟩, by decide⟩
theorem kLw_63 : kV RcLw 63 RcTL yTL_quarrels prog_1_method_13_code 3 (some .int) 0 := ⟨(mg (i := 590) (by decide +kernel) rfl), (mg (i := 591) (by decide +kernel) rfl), (mg (i := 592) (by decide +kernel) rfl), (mg (i := 41) (by decide +kernel) rfl), (mg (i := 593) (by decide +kernel) rfl), ⟨by decide, by decide, by decide +kernel⟩, by decide⟩
theorem kLw_67 : kV RcLw 67 RcMM yMM_quarrels prog_12_method_31_code 4 (some .int) 0 := ⟨(mg (i := 1060) (by decide +kernel) rfl), (mg (i := 1061) (by decide +kernel) rfl), (mg (i := 1062) (by decide +kernel) rfl), (mg (i := 52) (by decide +kernel) rfl), (mg (i := 1063) (by decide +kernel) rfl), ⟨by decide, by decide, by decide +kernel⟩, by decide⟩
theorem kLw_68 : kV RcLw 68 RcTL yTL_send prog_1_method_14_code 5 (some .int) 3 := ⟨(mg (i := 594) (by decide +kernel) rfl), (mg (i := 595) (by decide +kernel) rfl), (mg (i := 596) (by decide +kernel) rfl), (mg (i := 41) (by decide +kernel) rfl), (mg (i := 597) (by decide +kernel) rfl), ⟨by decide, by decide, by decide +kernel⟩, by decide⟩
theorem kLw_71 : kV RcLw 71 RcMM yMM_send prog_12_method_32_code 5 (some .int) 3 := ⟨(mg (i := 1064) (by decide +kernel) rfl), (mg (i := 1065) (by decide +kernel) rfl), (mg (i := 1066) (by decide +kernel) rfl), (mg (i := 52) (by decide +kernel) rfl), (mg (i := 1067) (by decide +kernel) rfl), ⟨by decide, by decide, by decide +kernel⟩, by decide⟩
theorem kLw_72 : kV RcLw 72 RcTL yTL_sending prog_1_method_15_code 3 (some .int) 2 := ⟨(mg (i := 606) (by decide +kernel) rfl), (mg (i := 607) (by decide +kernel) rfl), (mg (i := 608) (by decide +kernel) rfl), (mg (i := 41) (by decide +kernel) rfl), (mg (i := 609) (by decide +kernel) rfl), ⟨by decide, by decide, by decide +kernel⟩, by decide⟩
theorem kLw_75 : kV RcLw 75 RcMM yMM_sending prog_12_method_33_code 3 (some .int) 2 := ⟨(mg (i := 1068) (by decide +kernel) rfl), (mg (i := 1069) (by decide +kernel) rfl), (mg (i := 1070) (by decide +kernel) rfl), (mg (i := 52) (by decide +kernel) rfl), (mg (i := 1071) (by decide +kernel) rfl), ⟨by decide, by decide, by decide +kernel⟩, by decide⟩
theorem kLw_76 : kV RcLw 76 RcTL yTL_days prog_1_method_16_code 3 (some .int) 1 := ⟨(mg (i := 618) (by decide +kernel) rfl), (mg (i := 619) (by decide +kernel) rfl), (mg (i := 620) (by decide +kernel) rfl), (mg (i := 41) (by decide +kernel) rfl), (mg (i := 621) (by decide +kernel) rfl), ⟨by decide, by decide, by decide +kernel⟩, by decide⟩
theorem kLw_79 : kV RcLw 79 RcMM yMM_days prog_12_method_36_code 4 (some .int) 1 := ⟨(mg (i := 1072) (by decide +kernel) rfl), (mg (i := 1073) (by decide +kernel) rfl), (mg (i := 1074) (by decide +kernel) rfl), (mg (i := 52) (by decide +kernel) rfl), (mg (i := 1075) (by decide +kernel) rfl), ⟨by decide, by decide, by decide +kernel⟩, by decide⟩
theorem kLw_80 : kV RcLw 80 RcTL yTL_account prog_1_method_17_code 5 (some .int) 3 := ⟨(mg (i := 656) (by decide +kernel) rfl), (mg (i := 657) (by decide +kernel) rfl), (mg (i := 658) (by decide +kernel) rfl), (mg (i := 41) (by decide +kernel) rfl), (mg (i := 659) (by decide +kernel) rfl), ⟨by decide, by decide, by decide +kernel⟩, by decide⟩
theorem kLw_83 : kV RcLw 83 RcMM yMM_account prog_12_method_37_code 8 (some .int) 3 := ⟨(mg (i := 1084) (by decide +kernel) rfl), (mg (i := 1085) (by decide +kernel) rfl), (mg (i := 1086) (by decide +kernel) rfl), (mg (i := 52) (by decide +kernel) rfl), (mg (i := 1087) (by decide +kernel) rfl), ⟨by decide, by decide, by decide +kernel⟩, by decide⟩
theorem kLw_84 : kV RcLw 84 RcTL yTL_late prog_1_method_18_code 2 (some .long) 1 := ⟨(mg (i := 676) (by decide +kernel) rfl), (mg (i := 677) (by decide +kernel) rfl), (mg (i := 678) (by decide +kernel) rfl), (mg (i := 41) (by decide +kernel) rfl), (mg (i := 679) (by decide +kernel) rfl), ⟨by decide, by decide, by decide +kernel⟩, by decide⟩
theorem kLw_88 : kV RcLw 88 RcMM yMM_late prog_12_method_38_code 6 (some .long) 1 := ⟨(mg (i := 1088) (by decide +kernel) rfl), (mg (i := 1089) (by decide +kernel) rfl), (mg (i := 1090) (by decide +kernel) rfl), (mg (i := 52) (by decide +kernel) rfl), (mg (i := 1091) (by decide +kernel) rfl), ⟨by decide, by decide, by decide +kernel⟩, by decide⟩
theorem kLw_89 : kV RcLw 89 RcTL yTL_piece prog_1_method_19_code 2 (some .int) 1 := ⟨(mg (i := 686) (by decide +kernel) rfl), (mg (i := 687) (by decide +kernel) rfl), (mg (i := 688) (by decide +kernel) rfl), (mg (i := 41) (by decide +kernel) rfl), (mg (i := 689) (by decide +kernel) rfl), ⟨by decide, by decide, by decide +kernel⟩, by decide⟩
theorem kLw_92 : kV RcLw 92 RcMM yMM_piece prog_12_method_39_code 4 (some .int) 1 := ⟨(mg (i := 1093) (by decide +kernel) rfl), (mg (i := 1094) (by decide +kernel) rfl), (mg (i := 1095) (by decide +kernel) rfl), (mg (i := 52) (by decide +kernel) rfl), (mg (i := 1096) (by decide +kernel) rfl), ⟨by decide, by decide, by decide +kernel⟩, by decide⟩
theorem kLw_93 : kV RcLw 93 RcTL yTL_market prog_1_method_20_code 5 (some .int) 4 := ⟨(mg (i := 694) (by decide +kernel) rfl), (mg (i := 695) (by decide +kernel) rfl), (mg (i := 696) (by decide +kernel) rfl), (mg (i := 41) (by decide +kernel) rfl), (mg (i := 697) (by decide +kernel) rfl), ⟨by decide, by decide, by decide +kernel⟩, by decide⟩
theorem kLw_97 : kV RcLw 97 RcMM yMM_market prog_12_method_40_code 5 (some .int) 4 := ⟨(mg (i := 1097) (by decide +kernel) rfl), (mg (i := 1098) (by decide +kernel) rfl), (mg (i := 1099) (by decide +kernel) rfl), (mg (i := 52) (by decide +kernel) rfl), (mg (i := 1100) (by decide +kernel) rfl), ⟨by decide, by decide, by decide +kernel⟩, by decide⟩
theorem kLw_98 : kV RcLw 98 RcTL yTL_barter prog_1_method_21_code 6 (some .int) 3 := ⟨(mg (i := 706) (by decide +kernel) rfl), (mg (i := 707) (by decide +kernel) rfl), (mg (i := 708) (by decide +kernel) rfl), (mg (i := 41) (by decide +kernel) rfl), (mg (i := 709) (by decide +kernel) rfl), ⟨by decide, by decide, by decide +kernel⟩, by decide⟩
theorem kLw_101 : kV RcLw 101 RcMM yMM_barter prog_12_method_45_code 5 (some .int) 3 := ⟨(mg (i := 1101) (by decide +kernel) rfl), (mg (i := 1102) (by decide +kernel) rfl), (mg (i := 1103) (by decide +kernel) rfl), (mg (i := 52) (by decide +kernel) rfl), (mg (i := 1104) (by decide +kernel) rfl), ⟨by decide, by decide, by decide +kernel⟩, by decide⟩
theorem kLw_102 : kV RcLw 102 RcTL yTL_bartered prog_1_method_22_code 2 (some .int) 1 := ⟨(mg (i := 734) (by decide +kernel) rfl), (mg (i := 735) (by decide +kernel) rfl), (mg (i := 736) (by decide +kernel) rfl), (mg (i := 41) (by decide +kernel) rfl), (mg (i := 737) (by decide +kernel) rfl), ⟨by decide, by decide, by decide +kernel⟩, by decide⟩
theorem kLw_105 : kV RcLw 105 RcMM yMM_bartered prog_12_method_46_code 2 (some .int) 1 := ⟨(mg (i := 1123) (by decide +kernel) rfl), (mg (i := 1124) (by decide +kernel) rfl), (mg (i := 1125) (by decide +kernel) rfl), (mg (i := 52) (by decide +kernel) rfl), (mg (i := 1126) (by decide +kernel) rfl), ⟨by decide, by decide, by decide +kernel⟩, by decide⟩
theorem kLw_106 : kV RcLw 106 RcTL yTL_yields prog_1_method_23_code 3 (some .boolean) 2 := ⟨(mg (i := 746) (by decide +kernel) rfl), (mg (i := 747) (by decide +kernel) rfl), (mg (i := 748) (by decide +kernel) rfl), (mg (i := 41) (by decide +kernel) rfl), (mg (i := 749) (by decide +kernel) rfl), ⟨by decide, by decide, by decide +kernel⟩, by decide⟩
theorem kLw_109 : kV RcLw 109 RcMM yMM_yields prog_12_method_47_code 3 (some .boolean) 2 := ⟨(mg (i := 1127) (by decide +kernel) rfl), (mg (i := 1128) (by decide +kernel) rfl), (mg (i := 1129) (by decide +kernel) rfl), (mg (i := 52) (by decide +kernel) rfl), (mg (i := 1130) (by decide +kernel) rfl), ⟨by decide, by decide, by decide +kernel⟩, by decide⟩
theorem kLw_110 : kV RcLw 110 RcTL yTL_parted prog_1_method_24_code 3 (some .int) 2 := ⟨(mg (i := 754) (by decide +kernel) rfl), (mg (i := 755) (by decide +kernel) rfl), (mg (i := 756) (by decide +kernel) rfl), (mg (i := 41) (by decide +kernel) rfl), (mg (i := 757) (by decide +kernel) rfl), ⟨by decide, by decide, by decide +kernel⟩, by decide⟩
theorem kLw_113 : kV RcLw 113 RcMM yMM_parted prog_12_method_48_code 8 (some .int) 2 := ⟨(mg (i := 1131) (by decide +kernel) rfl), (mg (i := 1132) (by decide +kernel) rfl), (mg (i := 1133) (by decide +kernel) rfl), (mg (i := 52) (by decide +kernel) rfl), (mg (i := 1134) (by decide +kernel) rfl), ⟨by decide, by decide, by decide +kernel⟩, by decide⟩
theorem kLw_114 : kV RcLw 114 RcTL yTL_about prog_1_method_25_code 2 (some .int) 1 := ⟨(mg (i := 767) (by decide +kernel) rfl), (mg (i := 768) (by decide +kernel) rfl), (mg (i := 769) (by decide +kernel) rfl), (mg (i := 41) (by decide +kernel) rfl), (mg (i := 770) (by decide +kernel) rfl), ⟨by decide, by decide, by decide +kernel⟩, by decide⟩
theorem kLw_117 : kV RcLw 117 RcMM yMM_about prog_12_method_49_code 4 (some .int) 1 := ⟨(mg (i := 1135) (by decide +kernel) rfl), (mg (i := 1136) (by decide +kernel) rfl), (mg (i := 1137) (by decide +kernel) rfl), (mg (i := 52) (by decide +kernel) rfl), (mg (i := 1138) (by decide +kernel) rfl), ⟨by decide, by decide, by decide +kernel⟩, by decide⟩
