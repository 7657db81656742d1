/-! The law's rows. -/
theorem dL_0 : decode code 0 = .ok (.new 7, 3) := by decide +kernel
theorem dL_3 : decode code 3 = .ok (.dup, 1) := by decide +kernel
theorem dL_4 : decode code 4 = .ok (.invokespecial 9, 3) := by decide +kernel
theorem dL_7 : decode code 7 = .ok (.astore_n 1, 1) := by decide +kernel
theorem dL_8 : decode code 8 = .ok (.new 10, 3) := by decide +kernel
theorem dL_11 : decode code 11 = .ok (.dup, 1) := by decide +kernel
theorem dL_12 : decode code 12 = .ok (.invokespecial 12, 3) := by decide +kernel
theorem dL_15 : decode code 15 = .ok (.astore_n 2, 1) := by decide +kernel
theorem dL_16 : decode code 16 = .ok (.iconst 0, 1) := by decide +kernel
theorem dL_17 : decode code 17 = .ok (.istore_n 3, 1) := by decide +kernel
theorem dL_18 : decode code 18 = .ok (.iload_n 3, 1) := by decide +kernel
theorem dL_19 : decode code 19 = .ok (.aload_n 0, 1) := by decide +kernel
theorem dL_20 : decode code 20 = .ok (.arraylength, 1) := by decide +kernel
theorem dL_21 : decode code 21 = .ok (.bipush 7, 2) := by decide +kernel
theorem dL_23 : decode code 23 = .ok (.isub, 1) := by decide +kernel
theorem dL_24 : decode code 24 = .ok (.if_icmp .gt 1164, 3) := by decide +kernel
theorem dL_27 : decode code 27 = .ok (.aload_n 0, 1) := by decide +kernel
theorem dL_28 : decode code 28 = .ok (.iload_n 3, 1) := by decide +kernel
theorem dL_29 : decode code 29 = .ok (.iaload, 1) := by decide +kernel
theorem dL_30 : decode code 30 = .ok (.bipush 31, 2) := by decide +kernel
theorem dL_32 : decode code 32 = .ok (.iand, 1) := by decide +kernel
theorem dL_33 : decode code 33 = .ok (.tableswitch 1149 0 25 #[119, 162, 215, 258, 281, 304, 327, 350, 373, 386, 409, 442, 465, 498, 561, 604, 657, 670, 683, 746, 809, 884, 937, 980, 1003, 1086], 119) := by decide +kernel
theorem dL_152 : decode code 152 = .ok (.aload_n 1, 1) := by decide +kernel
theorem dL_153 : decode code 153 = .ok (.aload_n 0, 1) := by decide +kernel
theorem dL_154 : decode code 154 = .ok (.iload_n 3, 1) := by decide +kernel
theorem dL_155 : decode code 155 = .ok (.iconst 1, 1) := by decide +kernel
theorem dL_156 : decode code 156 = .ok (.iadd, 1) := by decide +kernel
theorem dL_157 : decode code 157 = .ok (.iaload, 1) := by decide +kernel
theorem dL_158 : decode code 158 = .ok (.aload_n 0, 1) := by decide +kernel
theorem dL_159 : decode code 159 = .ok (.iload_n 3, 1) := by decide +kernel
theorem dL_160 : decode code 160 = .ok (.iconst 2, 1) := by decide +kernel
theorem dL_161 : decode code 161 = .ok (.iadd, 1) := by decide +kernel
theorem dL_162 : decode code 162 = .ok (.iaload, 1) := by decide +kernel
theorem dL_163 : decode code 163 = .ok (.aload_n 0, 1) := by decide +kernel
theorem dL_164 : decode code 164 = .ok (.iload_n 3, 1) := by decide +kernel
theorem dL_165 : decode code 165 = .ok (.iconst 3, 1) := by decide +kernel
theorem dL_166 : decode code 166 = .ok (.iadd, 1) := by decide +kernel
theorem dL_167 : decode code 167 = .ok (.iaload, 1) := by decide +kernel
theorem dL_168 : decode code 168 = .ok (.invokevirtual 13, 3) := by decide +kernel
theorem dL_171 : decode code 171 = .ok (.aload_n 2, 1) := by decide +kernel
theorem dL_172 : decode code 172 = .ok (.aload_n 0, 1) := by decide +kernel
theorem dL_173 : decode code 173 = .ok (.iload_n 3, 1) := by decide +kernel
theorem dL_174 : decode code 174 = .ok (.iconst 1, 1) := by decide +kernel
theorem dL_175 : decode code 175 = .ok (.iadd, 1) := by decide +kernel
theorem dL_176 : decode code 176 = .ok (.iaload, 1) := by decide +kernel
theorem dL_177 : decode code 177 = .ok (.aload_n 0, 1) := by decide +kernel
theorem dL_178 : decode code 178 = .ok (.iload_n 3, 1) := by decide +kernel
theorem dL_179 : decode code 179 = .ok (.iconst 2, 1) := by decide +kernel
theorem dL_180 : decode code 180 = .ok (.iadd, 1) := by decide +kernel
theorem dL_181 : decode code 181 = .ok (.iaload, 1) := by decide +kernel
theorem dL_182 : decode code 182 = .ok (.aload_n 0, 1) := by decide +kernel
theorem dL_183 : decode code 183 = .ok (.iload_n 3, 1) := by decide +kernel
theorem dL_184 : decode code 184 = .ok (.iconst 3, 1) := by decide +kernel
theorem dL_185 : decode code 185 = .ok (.iadd, 1) := by decide +kernel
theorem dL_186 : decode code 186 = .ok (.iaload, 1) := by decide +kernel
theorem dL_187 : decode code 187 = .ok (.invokevirtual 17, 3) := by decide +kernel
theorem dL_190 : decode code 190 = .ok (.if_icmp .eq 992, 3) := by decide +kernel
theorem dL_193 : decode code 193 = .ok (.iconst 0, 1) := by decide +kernel
theorem dL_194 : decode code 194 = .ok (.ireturn, 1) := by decide +kernel
theorem dL_195 : decode code 195 = .ok (.aload_n 1, 1) := by decide +kernel
theorem dL_196 : decode code 196 = .ok (.aload_n 0, 1) := by decide +kernel
theorem dL_197 : decode code 197 = .ok (.iload_n 3, 1) := by decide +kernel
theorem dL_198 : decode code 198 = .ok (.iconst 1, 1) := by decide +kernel
theorem dL_199 : decode code 199 = .ok (.iadd, 1) := by decide +kernel
theorem dL_200 : decode code 200 = .ok (.iaload, 1) := by decide +kernel
theorem dL_201 : decode code 201 = .ok (.aload_n 0, 1) := by decide +kernel
theorem dL_202 : decode code 202 = .ok (.iload_n 3, 1) := by decide +kernel
theorem dL_203 : decode code 203 = .ok (.iconst 2, 1) := by decide +kernel
theorem dL_204 : decode code 204 = .ok (.iadd, 1) := by decide +kernel
theorem dL_205 : decode code 205 = .ok (.iaload, 1) := by decide +kernel
theorem dL_206 : decode code 206 = .ok (.aload_n 0, 1) := by decide +kernel
theorem dL_207 : decode code 207 = .ok (.iload_n 3, 1) := by decide +kernel
theorem dL_208 : decode code 208 = .ok (.iconst 3, 1) := by decide +kernel
theorem dL_209 : decode code 209 = .ok (.iadd, 1) := by decide +kernel
theorem dL_210 : decode code 210 = .ok (.iaload, 1) := by decide +kernel
theorem dL_211 : decode code 211 = .ok (.aload_n 0, 1) := by decide +kernel
theorem dL_212 : decode code 212 = .ok (.iload_n 3, 1) := by decide +kernel
theorem dL_213 : decode code 213 = .ok (.iconst 4, 1) := by decide +kernel
theorem dL_214 : decode code 214 = .ok (.iadd, 1) := by decide +kernel
theorem dL_215 : decode code 215 = .ok (.iaload, 1) := by decide +kernel
theorem dL_216 : decode code 216 = .ok (.invokevirtual 18, 3) := by decide +kernel
theorem dL_219 : decode code 219 = .ok (.aload_n 2, 1) := by decide +kernel
theorem dL_220 : decode code 220 = .ok (.aload_n 0, 1) := by decide +kernel
theorem dL_221 : decode code 221 = .ok (.iload_n 3, 1) := by decide +kernel
theorem dL_222 : decode code 222 = .ok (.iconst 1, 1) := by decide +kernel
theorem dL_223 : decode code 223 = .ok (.iadd, 1) := by decide +kernel
theorem dL_224 : decode code 224 = .ok (.iaload, 1) := by decide +kernel
theorem dL_225 : decode code 225 = .ok (.aload_n 0, 1) := by decide +kernel
theorem dL_226 : decode code 226 = .ok (.iload_n 3, 1) := by decide +kernel
theorem dL_227 : decode code 227 = .ok (.iconst 2, 1) := by decide +kernel
theorem dL_228 : decode code 228 = .ok (.iadd, 1) := by decide +kernel
theorem dL_229 : decode code 229 = .ok (.iaload, 1) := by decide +kernel
theorem dL_230 : decode code 230 = .ok (.aload_n 0, 1) := by decide +kernel
theorem dL_231 : decode code 231 = .ok (.iload_n 3, 1) := by decide +kernel
theorem dL_232 : decode code 232 = .ok (.iconst 3, 1) := by decide +kernel
theorem dL_233 : decode code 233 = .ok (.iadd, 1) := by decide +kernel
theorem dL_234 : decode code 234 = .ok (.iaload, 1) := by decide +kernel
theorem dL_235 : decode code 235 = .ok (.aload_n 0, 1) := by decide +kernel
theorem dL_236 : decode code 236 = .ok (.iload_n 3, 1) := by decide +kernel
theorem dL_237 : decode code 237 = .ok (.iconst 4, 1) := by decide +kernel
theorem dL_238 : decode code 238 = .ok (.iadd, 1) := by decide +kernel
theorem dL_239 : decode code 239 = .ok (.iaload, 1) := by decide +kernel
theorem dL_240 : decode code 240 = .ok (.invokevirtual 22, 3) := by decide +kernel
theorem dL_243 : decode code 243 = .ok (.if_icmp .eq 939, 3) := by decide +kernel
theorem dL_246 : decode code 246 = .ok (.iconst 0, 1) := by decide +kernel
theorem dL_247 : decode code 247 = .ok (.ireturn, 1) := by decide +kernel
theorem dL_248 : decode code 248 = .ok (.aload_n 1, 1) := by decide +kernel
theorem dL_249 : decode code 249 = .ok (.aload_n 0, 1) := by decide +kernel
theorem dL_250 : decode code 250 = .ok (.iload_n 3, 1) := by decide +kernel
theorem dL_251 : decode code 251 = .ok (.iconst 1, 1) := by decide +kernel
theorem dL_252 : decode code 252 = .ok (.iadd, 1) := by decide +kernel
theorem dL_253 : decode code 253 = .ok (.iaload, 1) := by decide +kernel
theorem dL_254 : decode code 254 = .ok (.aload_n 0, 1) := by decide +kernel
theorem dL_255 : decode code 255 = .ok (.iload_n 3, 1) := by decide +kernel
theorem dL_256 : decode code 256 = .ok (.iconst 2, 1) := by decide +kernel
theorem dL_257 : decode code 257 = .ok (.iadd, 1) := by decide +kernel
theorem dL_258 : decode code 258 = .ok (.iaload, 1) := by decide +kernel
theorem dL_259 : decode code 259 = .ok (.aload_n 0, 1) := by decide +kernel
theorem dL_260 : decode code 260 = .ok (.iload_n 3, 1) := by decide +kernel
theorem dL_261 : decode code 261 = .ok (.iconst 3, 1) := by decide +kernel
theorem dL_262 : decode code 262 = .ok (.iadd, 1) := by decide +kernel
theorem dL_263 : decode code 263 = .ok (.iaload, 1) := by decide +kernel
theorem dL_264 : decode code 264 = .ok (.invokevirtual 23, 3) := by decide +kernel
theorem dL_267 : decode code 267 = .ok (.aload_n 2, 1) := by decide +kernel
theorem dL_268 : decode code 268 = .ok (.aload_n 0, 1) := by decide +kernel
theorem dL_269 : decode code 269 = .ok (.iload_n 3, 1) := by decide +kernel
theorem dL_270 : decode code 270 = .ok (.iconst 1, 1) := by decide +kernel
theorem dL_271 : decode code 271 = .ok (.iadd, 1) := by decide +kernel
theorem dL_272 : decode code 272 = .ok (.iaload, 1) := by decide +kernel
theorem dL_273 : decode code 273 = .ok (.aload_n 0, 1) := by decide +kernel
theorem dL_274 : decode code 274 = .ok (.iload_n 3, 1) := by decide +kernel
theorem dL_275 : decode code 275 = .ok (.iconst 2, 1) := by decide +kernel
theorem dL_276 : decode code 276 = .ok (.iadd, 1) := by decide +kernel
theorem dL_277 : decode code 277 = .ok (.iaload, 1) := by decide +kernel
theorem dL_278 : decode code 278 = .ok (.aload_n 0, 1) := by decide +kernel
theorem dL_279 : decode code 279 = .ok (.iload_n 3, 1) := by decide +kernel
theorem dL_280 : decode code 280 = .ok (.iconst 3, 1) := by decide +kernel
theorem dL_281 : decode code 281 = .ok (.iadd, 1) := by decide +kernel
theorem dL_282 : decode code 282 = .ok (.iaload, 1) := by decide +kernel
theorem dL_283 : decode code 283 = .ok (.invokevirtual 26, 3) := by decide +kernel
theorem dL_286 : decode code 286 = .ok (.if_icmp .eq 896, 3) := by decide +kernel
theorem dL_289 : decode code 289 = .ok (.iconst 0, 1) := by decide +kernel
theorem dL_290 : decode code 290 = .ok (.ireturn, 1) := by decide +kernel
theorem dL_291 : decode code 291 = .ok (.aload_n 1, 1) := by decide +kernel
theorem dL_292 : decode code 292 = .ok (.aload_n 0, 1) := by decide +kernel
theorem dL_293 : decode code 293 = .ok (.iload_n 3, 1) := by decide +kernel
theorem dL_294 : decode code 294 = .ok (.iconst 1, 1) := by decide +kernel
theorem dL_295 : decode code 295 = .ok (.iadd, 1) := by decide +kernel
theorem dL_296 : decode code 296 = .ok (.iaload, 1) := by decide +kernel
theorem dL_297 : decode code 297 = .ok (.invokevirtual 27, 3) := by decide +kernel
theorem dL_300 : decode code 300 = .ok (.aload_n 2, 1) := by decide +kernel
theorem dL_301 : decode code 301 = .ok (.aload_n 0, 1) := by decide +kernel
theorem dL_302 : decode code 302 = .ok (.iload_n 3, 1) := by decide +kernel
theorem dL_303 : decode code 303 = .ok (.iconst 1, 1) := by decide +kernel
theorem dL_304 : decode code 304 = .ok (.iadd, 1) := by decide +kernel
theorem dL_305 : decode code 305 = .ok (.iaload, 1) := by decide +kernel
theorem dL_306 : decode code 306 = .ok (.invokevirtual 31, 3) := by decide +kernel
theorem dL_309 : decode code 309 = .ok (.if_icmp .eq 873, 3) := by decide +kernel
theorem dL_312 : decode code 312 = .ok (.iconst 0, 1) := by decide +kernel
theorem dL_313 : decode code 313 = .ok (.ireturn, 1) := by decide +kernel
theorem dL_314 : decode code 314 = .ok (.aload_n 1, 1) := by decide +kernel
theorem dL_315 : decode code 315 = .ok (.aload_n 0, 1) := by decide +kernel
theorem dL_316 : decode code 316 = .ok (.iload_n 3, 1) := by decide +kernel
theorem dL_317 : decode code 317 = .ok (.iconst 1, 1) := by decide +kernel
theorem dL_318 : decode code 318 = .ok (.iadd, 1) := by decide +kernel
theorem dL_319 : decode code 319 = .ok (.iaload, 1) := by decide +kernel
theorem dL_320 : decode code 320 = .ok (.invokevirtual 32, 3) := by decide +kernel
theorem dL_323 : decode code 323 = .ok (.aload_n 2, 1) := by decide +kernel
theorem dL_324 : decode code 324 = .ok (.aload_n 0, 1) := by decide +kernel
theorem dL_325 : decode code 325 = .ok (.iload_n 3, 1) := by decide +kernel
theorem dL_326 : decode code 326 = .ok (.iconst 1, 1) := by decide +kernel
theorem dL_327 : decode code 327 = .ok (.iadd, 1) := by decide +kernel
theorem dL_328 : decode code 328 = .ok (.iaload, 1) := by decide +kernel
theorem dL_329 : decode code 329 = .ok (.invokevirtual 35, 3) := by decide +kernel
theorem dL_332 : decode code 332 = .ok (.if_icmp .eq 850, 3) := by decide +kernel
theorem dL_335 : decode code 335 = .ok (.iconst 0, 1) := by decide +kernel
theorem dL_336 : decode code 336 = .ok (.ireturn, 1) := by decide +kernel
theorem dL_337 : decode code 337 = .ok (.aload_n 1, 1) := by decide +kernel
theorem dL_338 : decode code 338 = .ok (.aload_n 0, 1) := by decide +kernel
theorem dL_339 : decode code 339 = .ok (.iload_n 3, 1) := by decide +kernel
theorem dL_340 : decode code 340 = .ok (.iconst 1, 1) := by decide +kernel
theorem dL_341 : decode code 341 = .ok (.iadd, 1) := by decide +kernel
theorem dL_342 : decode code 342 = .ok (.iaload, 1) := by decide +kernel
theorem dL_343 : decode code 343 = .ok (.invokevirtual 36, 3) := by decide +kernel
theorem dL_346 : decode code 346 = .ok (.aload_n 2, 1) := by decide +kernel
theorem dL_347 : decode code 347 = .ok (.aload_n 0, 1) := by decide +kernel
theorem dL_348 : decode code 348 = .ok (.iload_n 3, 1) := by decide +kernel
theorem dL_349 : decode code 349 = .ok (.iconst 1, 1) := by decide +kernel
theorem dL_350 : decode code 350 = .ok (.iadd, 1) := by decide +kernel
theorem dL_351 : decode code 351 = .ok (.iaload, 1) := by decide +kernel
theorem dL_352 : decode code 352 = .ok (.invokevirtual 39, 3) := by decide +kernel
theorem dL_355 : decode code 355 = .ok (.if_icmp .eq 827, 3) := by decide +kernel
theorem dL_358 : decode code 358 = .ok (.iconst 0, 1) := by decide +kernel
theorem dL_359 : decode code 359 = .ok (.ireturn, 1) := by decide +kernel
theorem dL_360 : decode code 360 = .ok (.aload_n 1, 1) := by decide +kernel
theorem dL_361 : decode code 361 = .ok (.aload_n 0, 1) := by decide +kernel
theorem dL_362 : decode code 362 = .ok (.iload_n 3, 1) := by decide +kernel
theorem dL_363 : decode code 363 = .ok (.iconst 1, 1) := by decide +kernel
theorem dL_364 : decode code 364 = .ok (.iadd, 1) := by decide +kernel
theorem dL_365 : decode code 365 = .ok (.iaload, 1) := by decide +kernel
theorem dL_366 : decode code 366 = .ok (.invokevirtual 40, 3) := by decide +kernel
theorem dL_369 : decode code 369 = .ok (.aload_n 2, 1) := by decide +kernel
theorem dL_370 : decode code 370 = .ok (.aload_n 0, 1) := by decide +kernel
theorem dL_371 : decode code 371 = .ok (.iload_n 3, 1) := by decide +kernel
theorem dL_372 : decode code 372 = .ok (.iconst 1, 1) := by decide +kernel
theorem dL_373 : decode code 373 = .ok (.iadd, 1) := by decide +kernel
theorem dL_374 : decode code 374 = .ok (.iaload, 1) := by decide +kernel
theorem dL_375 : decode code 375 = .ok (.invokevirtual 43, 3) := by decide +kernel
theorem dL_378 : decode code 378 = .ok (.if_icmp .eq 804, 3) := by decide +kernel
theorem dL_381 : decode code 381 = .ok (.iconst 0, 1) := by decide +kernel
theorem dL_382 : decode code 382 = .ok (.ireturn, 1) := by decide +kernel
theorem dL_383 : decode code 383 = .ok (.aload_n 1, 1) := by decide +kernel
theorem dL_384 : decode code 384 = .ok (.aload_n 0, 1) := by decide +kernel
theorem dL_385 : decode code 385 = .ok (.iload_n 3, 1) := by decide +kernel
theorem dL_386 : decode code 386 = .ok (.iconst 1, 1) := by decide +kernel
theorem dL_387 : decode code 387 = .ok (.iadd, 1) := by decide +kernel
theorem dL_388 : decode code 388 = .ok (.iaload, 1) := by decide +kernel
theorem dL_389 : decode code 389 = .ok (.invokevirtual 44, 3) := by decide +kernel
theorem dL_392 : decode code 392 = .ok (.aload_n 2, 1) := by decide +kernel
theorem dL_393 : decode code 393 = .ok (.aload_n 0, 1) := by decide +kernel
theorem dL_394 : decode code 394 = .ok (.iload_n 3, 1) := by decide +kernel
theorem dL_395 : decode code 395 = .ok (.iconst 1, 1) := by decide +kernel
theorem dL_396 : decode code 396 = .ok (.iadd, 1) := by decide +kernel
