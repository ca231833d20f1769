theorem d_W_law_0 : decode code 0 = .ok (.new 7, 3) := by decide +kernel
theorem d_W_law_3 : decode code 3 = .ok (.dup, 1) := by decide +kernel
theorem d_W_law_4 : decode code 4 = .ok (.aload_n 0, 1) := by decide +kernel
theorem d_W_law_5 : decode code 5 = .ok (.iconst 0, 1) := by decide +kernel
theorem d_W_law_6 : decode code 6 = .ok (.invokestatic 9, 3) := by decide +kernel
theorem d_W_law_9 : decode code 9 = .ok (.aload_n 0, 1) := by decide +kernel
theorem d_W_law_10 : decode code 10 = .ok (.iconst 1, 1) := by decide +kernel
theorem d_W_law_11 : decode code 11 = .ok (.invokestatic 9, 3) := by decide +kernel
theorem d_W_law_14 : decode code 14 = .ok (.invokespecial 15, 3) := by decide +kernel
theorem d_W_law_17 : decode code 17 = .ok (.astore_n 1, 1) := by decide +kernel
theorem d_W_law_18 : decode code 18 = .ok (.new 18, 3) := by decide +kernel
theorem d_W_law_21 : decode code 21 = .ok (.dup, 1) := by decide +kernel
theorem d_W_law_22 : decode code 22 = .ok (.aload_n 0, 1) := by decide +kernel
theorem d_W_law_23 : decode code 23 = .ok (.iconst 0, 1) := by decide +kernel
theorem d_W_law_24 : decode code 24 = .ok (.invokestatic 9, 3) := by decide +kernel
theorem d_W_law_27 : decode code 27 = .ok (.aload_n 0, 1) := by decide +kernel
theorem d_W_law_28 : decode code 28 = .ok (.iconst 1, 1) := by decide +kernel
theorem d_W_law_29 : decode code 29 = .ok (.invokestatic 9, 3) := by decide +kernel
theorem d_W_law_32 : decode code 32 = .ok (.invokespecial 20, 3) := by decide +kernel
theorem d_W_law_35 : decode code 35 = .ok (.astore_n 2, 1) := by decide +kernel
theorem d_W_law_36 : decode code 36 = .ok (.iconst 2, 1) := by decide +kernel
theorem d_W_law_37 : decode code 37 = .ok (.istore_n 3, 1) := by decide +kernel
theorem d_W_law_38 : decode code 38 = .ok (.iload_n 3, 1) := by decide +kernel
theorem d_W_law_39 : decode code 39 = .ok (.aload_n 0, 1) := by decide +kernel
theorem d_W_law_40 : decode code 40 = .ok (.arraylength, 1) := by decide +kernel
theorem d_W_law_41 : decode code 41 = .ok (.iconst 4, 1) := by decide +kernel
theorem d_W_law_42 : decode code 42 = .ok (.isub, 1) := by decide +kernel
theorem d_W_law_43 : decode code 43 = .ok (.if_icmp .gt 594, 3) := by decide +kernel
theorem d_W_law_46 : decode code 46 = .ok (.aload_n 0, 1) := by decide +kernel
theorem d_W_law_47 : decode code 47 = .ok (.iload_n 3, 1) := by decide +kernel
theorem d_W_law_48 : decode code 48 = .ok (.iaload, 1) := by decide +kernel
theorem d_W_law_49 : decode code 49 = .ok (.bipush 31, 2) := by decide +kernel
theorem d_W_law_51 : decode code 51 = .ok (.iand, 1) := by decide +kernel
theorem d_W_law_52 : decode code 52 = .ok (.tableswitch 579 0 18 #[92, 135, 168, 201, 244, 257, 270, 303, 346, 369, 392, 415, 428, 441, 474, 497, 520, 533, 546], 92) := by decide +kernel
theorem d_W_law_144 : decode code 144 = .ok (.aload_n 1, 1) := by decide +kernel
theorem d_W_law_145 : decode code 145 = .ok (.aload_n 0, 1) := by decide +kernel
theorem d_W_law_146 : decode code 146 = .ok (.iload_n 3, 1) := by decide +kernel
theorem d_W_law_147 : decode code 147 = .ok (.iconst 1, 1) := by decide +kernel
theorem d_W_law_148 : decode code 148 = .ok (.iadd, 1) := by decide +kernel
theorem d_W_law_149 : decode code 149 = .ok (.iaload, 1) := by decide +kernel
theorem d_W_law_150 : decode code 150 = .ok (.aload_n 0, 1) := by decide +kernel
theorem d_W_law_151 : decode code 151 = .ok (.iload_n 3, 1) := by decide +kernel
theorem d_W_law_152 : decode code 152 = .ok (.iconst 2, 1) := by decide +kernel
theorem d_W_law_153 : decode code 153 = .ok (.iadd, 1) := by decide +kernel
theorem d_W_law_154 : decode code 154 = .ok (.iaload, 1) := by decide +kernel
theorem d_W_law_155 : decode code 155 = .ok (.aload_n 0, 1) := by decide +kernel
theorem d_W_law_156 : decode code 156 = .ok (.iload_n 3, 1) := by decide +kernel
theorem d_W_law_157 : decode code 157 = .ok (.iconst 3, 1) := by decide +kernel
theorem d_W_law_158 : decode code 158 = .ok (.iadd, 1) := by decide +kernel
theorem d_W_law_159 : decode code 159 = .ok (.iaload, 1) := by decide +kernel
theorem d_W_law_160 : decode code 160 = .ok (.invokevirtual 21, 3) := by decide +kernel
theorem d_W_law_163 : decode code 163 = .ok (.aload_n 2, 1) := by decide +kernel
theorem d_W_law_164 : decode code 164 = .ok (.aload_n 0, 1) := by decide +kernel
theorem d_W_law_165 : decode code 165 = .ok (.iload_n 3, 1) := by decide +kernel
theorem d_W_law_166 : decode code 166 = .ok (.iconst 1, 1) := by decide +kernel
theorem d_W_law_167 : decode code 167 = .ok (.iadd, 1) := by decide +kernel
theorem d_W_law_168 : decode code 168 = .ok (.iaload, 1) := by decide +kernel
theorem d_W_law_169 : decode code 169 = .ok (.aload_n 0, 1) := by decide +kernel
theorem d_W_law_170 : decode code 170 = .ok (.iload_n 3, 1) := by decide +kernel
theorem d_W_law_171 : decode code 171 = .ok (.iconst 2, 1) := by decide +kernel
theorem d_W_law_172 : decode code 172 = .ok (.iadd, 1) := by decide +kernel
theorem d_W_law_173 : decode code 173 = .ok (.iaload, 1) := by decide +kernel
theorem d_W_law_174 : decode code 174 = .ok (.aload_n 0, 1) := by decide +kernel
theorem d_W_law_175 : decode code 175 = .ok (.iload_n 3, 1) := by decide +kernel
theorem d_W_law_176 : decode code 176 = .ok (.iconst 3, 1) := by decide +kernel
theorem d_W_law_177 : decode code 177 = .ok (.iadd, 1) := by decide +kernel
theorem d_W_law_178 : decode code 178 = .ok (.iaload, 1) := by decide +kernel
theorem d_W_law_179 : decode code 179 = .ok (.invokevirtual 25, 3) := by decide +kernel
theorem d_W_law_182 : decode code 182 = .ok (.if_icmp .eq 449, 3) := by decide +kernel
theorem d_W_law_185 : decode code 185 = .ok (.iconst 0, 1) := by decide +kernel
theorem d_W_law_186 : decode code 186 = .ok (.ireturn, 1) := by decide +kernel
theorem d_W_law_187 : decode code 187 = .ok (.aload_n 1, 1) := by decide +kernel
theorem d_W_law_188 : decode code 188 = .ok (.aload_n 0, 1) := by decide +kernel
theorem d_W_law_189 : decode code 189 = .ok (.iload_n 3, 1) := by decide +kernel
theorem d_W_law_190 : decode code 190 = .ok (.iconst 1, 1) := by decide +kernel
theorem d_W_law_191 : decode code 191 = .ok (.iadd, 1) := by decide +kernel
theorem d_W_law_192 : decode code 192 = .ok (.iaload, 1) := by decide +kernel
theorem d_W_law_193 : decode code 193 = .ok (.aload_n 0, 1) := by decide +kernel
theorem d_W_law_194 : decode code 194 = .ok (.iload_n 3, 1) := by decide +kernel
theorem d_W_law_195 : decode code 195 = .ok (.iconst 2, 1) := by decide +kernel
theorem d_W_law_196 : decode code 196 = .ok (.iadd, 1) := by decide +kernel
theorem d_W_law_197 : decode code 197 = .ok (.iaload, 1) := by decide +kernel
theorem d_W_law_198 : decode code 198 = .ok (.invokevirtual 26, 3) := by decide +kernel
theorem d_W_law_201 : decode code 201 = .ok (.aload_n 2, 1) := by decide +kernel
theorem d_W_law_202 : decode code 202 = .ok (.aload_n 0, 1) := by decide +kernel
theorem d_W_law_203 : decode code 203 = .ok (.iload_n 3, 1) := by decide +kernel
theorem d_W_law_204 : decode code 204 = .ok (.iconst 1, 1) := by decide +kernel
theorem d_W_law_205 : decode code 205 = .ok (.iadd, 1) := by decide +kernel
theorem d_W_law_206 : decode code 206 = .ok (.iaload, 1) := by decide +kernel
theorem d_W_law_207 : decode code 207 = .ok (.aload_n 0, 1) := by decide +kernel
theorem d_W_law_208 : decode code 208 = .ok (.iload_n 3, 1) := by decide +kernel
theorem d_W_law_209 : decode code 209 = .ok (.iconst 2, 1) := by decide +kernel
theorem d_W_law_210 : decode code 210 = .ok (.iadd, 1) := by decide +kernel
theorem d_W_law_211 : decode code 211 = .ok (.iaload, 1) := by decide +kernel
theorem d_W_law_212 : decode code 212 = .ok (.invokevirtual 30, 3) := by decide +kernel
theorem d_W_law_215 : decode code 215 = .ok (.if_icmp .eq 416, 3) := by decide +kernel
theorem d_W_law_218 : decode code 218 = .ok (.iconst 0, 1) := by decide +kernel
theorem d_W_law_219 : decode code 219 = .ok (.ireturn, 1) := by decide +kernel
theorem d_W_law_220 : decode code 220 = .ok (.aload_n 1, 1) := by decide +kernel
theorem d_W_law_221 : decode code 221 = .ok (.aload_n 0, 1) := by decide +kernel
theorem d_W_law_222 : decode code 222 = .ok (.iload_n 3, 1) := by decide +kernel
theorem d_W_law_223 : decode code 223 = .ok (.iconst 1, 1) := by decide +kernel
theorem d_W_law_224 : decode code 224 = .ok (.iadd, 1) := by decide +kernel
theorem d_W_law_225 : decode code 225 = .ok (.iaload, 1) := by decide +kernel
theorem d_W_law_226 : decode code 226 = .ok (.aload_n 0, 1) := by decide +kernel
theorem d_W_law_227 : decode code 227 = .ok (.iload_n 3, 1) := by decide +kernel
theorem d_W_law_228 : decode code 228 = .ok (.iconst 2, 1) := by decide +kernel
theorem d_W_law_229 : decode code 229 = .ok (.iadd, 1) := by decide +kernel
theorem d_W_law_230 : decode code 230 = .ok (.iaload, 1) := by decide +kernel
theorem d_W_law_231 : decode code 231 = .ok (.invokevirtual 31, 3) := by decide +kernel
theorem d_W_law_234 : decode code 234 = .ok (.aload_n 2, 1) := by decide +kernel
theorem d_W_law_235 : decode code 235 = .ok (.aload_n 0, 1) := by decide +kernel
theorem d_W_law_236 : decode code 236 = .ok (.iload_n 3, 1) := by decide +kernel
theorem d_W_law_237 : decode code 237 = .ok (.iconst 1, 1) := by decide +kernel
theorem d_W_law_238 : decode code 238 = .ok (.iadd, 1) := by decide +kernel
theorem d_W_law_239 : decode code 239 = .ok (.iaload, 1) := by decide +kernel
theorem d_W_law_240 : decode code 240 = .ok (.aload_n 0, 1) := by decide +kernel
theorem d_W_law_241 : decode code 241 = .ok (.iload_n 3, 1) := by decide +kernel
theorem d_W_law_242 : decode code 242 = .ok (.iconst 2, 1) := by decide +kernel
theorem d_W_law_243 : decode code 243 = .ok (.iadd, 1) := by decide +kernel
theorem d_W_law_244 : decode code 244 = .ok (.iaload, 1) := by decide +kernel
theorem d_W_law_245 : decode code 245 = .ok (.invokevirtual 34, 3) := by decide +kernel
theorem d_W_law_248 : decode code 248 = .ok (.if_icmp .eq 383, 3) := by decide +kernel
theorem d_W_law_251 : decode code 251 = .ok (.iconst 0, 1) := by decide +kernel
theorem d_W_law_252 : decode code 252 = .ok (.ireturn, 1) := by decide +kernel
theorem d_W_law_253 : decode code 253 = .ok (.aload_n 1, 1) := by decide +kernel
theorem d_W_law_254 : decode code 254 = .ok (.aload_n 0, 1) := by decide +kernel
theorem d_W_law_255 : decode code 255 = .ok (.iload_n 3, 1) := by decide +kernel
theorem d_W_law_256 : decode code 256 = .ok (.iconst 1, 1) := by decide +kernel
theorem d_W_law_257 : decode code 257 = .ok (.iadd, 1) := by decide +kernel
theorem d_W_law_258 : decode code 258 = .ok (.iaload, 1) := by decide +kernel
theorem d_W_law_259 : decode code 259 = .ok (.aload_n 0, 1) := by decide +kernel
theorem d_W_law_260 : decode code 260 = .ok (.iload_n 3, 1) := by decide +kernel
theorem d_W_law_261 : decode code 261 = .ok (.iconst 2, 1) := by decide +kernel
theorem d_W_law_262 : decode code 262 = .ok (.iadd, 1) := by decide +kernel
theorem d_W_law_263 : decode code 263 = .ok (.iaload, 1) := by decide +kernel
theorem d_W_law_264 : decode code 264 = .ok (.aload_n 0, 1) := by decide +kernel
theorem d_W_law_265 : decode code 265 = .ok (.iload_n 3, 1) := by decide +kernel
theorem d_W_law_266 : decode code 266 = .ok (.iconst 3, 1) := by decide +kernel
theorem d_W_law_267 : decode code 267 = .ok (.iadd, 1) := by decide +kernel
theorem d_W_law_268 : decode code 268 = .ok (.iaload, 1) := by decide +kernel
theorem d_W_law_269 : decode code 269 = .ok (.invokevirtual 35, 3) := by decide +kernel
theorem d_W_law_272 : decode code 272 = .ok (.aload_n 2, 1) := by decide +kernel
theorem d_W_law_273 : decode code 273 = .ok (.aload_n 0, 1) := by decide +kernel
theorem d_W_law_274 : decode code 274 = .ok (.iload_n 3, 1) := by decide +kernel
theorem d_W_law_275 : decode code 275 = .ok (.iconst 1, 1) := by decide +kernel
theorem d_W_law_276 : decode code 276 = .ok (.iadd, 1) := by decide +kernel
theorem d_W_law_277 : decode code 277 = .ok (.iaload, 1) := by decide +kernel
theorem d_W_law_278 : decode code 278 = .ok (.aload_n 0, 1) := by decide +kernel
theorem d_W_law_279 : decode code 279 = .ok (.iload_n 3, 1) := by decide +kernel
theorem d_W_law_280 : decode code 280 = .ok (.iconst 2, 1) := by decide +kernel
theorem d_W_law_281 : decode code 281 = .ok (.iadd, 1) := by decide +kernel
theorem d_W_law_282 : decode code 282 = .ok (.iaload, 1) := by decide +kernel
theorem d_W_law_283 : decode code 283 = .ok (.aload_n 0, 1) := by decide +kernel
theorem d_W_law_284 : decode code 284 = .ok (.iload_n 3, 1) := by decide +kernel
theorem d_W_law_285 : decode code 285 = .ok (.iconst 3, 1) := by decide +kernel
theorem d_W_law_286 : decode code 286 = .ok (.iadd, 1) := by decide +kernel
theorem d_W_law_287 : decode code 287 = .ok (.iaload, 1) := by decide +kernel
theorem d_W_law_288 : decode code 288 = .ok (.invokevirtual 38, 3) := by decide +kernel
theorem d_W_law_291 : decode code 291 = .ok (.if_icmp .eq 340, 3) := by decide +kernel
theorem d_W_law_294 : decode code 294 = .ok (.iconst 0, 1) := by decide +kernel
theorem d_W_law_295 : decode code 295 = .ok (.ireturn, 1) := by decide +kernel
theorem d_W_law_296 : decode code 296 = .ok (.aload_n 1, 1) := by decide +kernel
theorem d_W_law_297 : decode code 297 = .ok (.invokevirtual 39, 3) := by decide +kernel
theorem d_W_law_300 : decode code 300 = .ok (.aload_n 2, 1) := by decide +kernel
theorem d_W_law_301 : decode code 301 = .ok (.invokevirtual 43, 3) := by decide +kernel
theorem d_W_law_304 : decode code 304 = .ok (.if_icmp .eq 327, 3) := by decide +kernel
theorem d_W_law_307 : decode code 307 = .ok (.iconst 0, 1) := by decide +kernel
theorem d_W_law_308 : decode code 308 = .ok (.ireturn, 1) := by decide +kernel
theorem d_W_law_309 : decode code 309 = .ok (.aload_n 1, 1) := by decide +kernel
theorem d_W_law_310 : decode code 310 = .ok (.invokevirtual 44, 3) := by decide +kernel
theorem d_W_law_313 : decode code 313 = .ok (.aload_n 2, 1) := by decide +kernel
theorem d_W_law_314 : decode code 314 = .ok (.invokevirtual 47, 3) := by decide +kernel
theorem d_W_law_317 : decode code 317 = .ok (.if_icmp .eq 314, 3) := by decide +kernel
theorem d_W_law_320 : decode code 320 = .ok (.iconst 0, 1) := by decide +kernel
theorem d_W_law_321 : decode code 321 = .ok (.ireturn, 1) := by decide +kernel
theorem d_W_law_322 : decode code 322 = .ok (.aload_n 1, 1) := by decide +kernel
theorem d_W_law_323 : decode code 323 = .ok (.aload_n 0, 1) := by decide +kernel
theorem d_W_law_324 : decode code 324 = .ok (.iload_n 3, 1) := by decide +kernel
theorem d_W_law_325 : decode code 325 = .ok (.iconst 1, 1) := by decide +kernel
theorem d_W_law_326 : decode code 326 = .ok (.iadd, 1) := by decide +kernel
theorem d_W_law_327 : decode code 327 = .ok (.iaload, 1) := by decide +kernel
theorem d_W_law_328 : decode code 328 = .ok (.aload_n 0, 1) := by decide +kernel
theorem d_W_law_329 : decode code 329 = .ok (.iload_n 3, 1) := by decide +kernel
theorem d_W_law_330 : decode code 330 = .ok (.iconst 2, 1) := by decide +kernel
theorem d_W_law_331 : decode code 331 = .ok (.iadd, 1) := by decide +kernel
theorem d_W_law_332 : decode code 332 = .ok (.iaload, 1) := by decide +kernel
theorem d_W_law_333 : decode code 333 = .ok (.invokevirtual 48, 3) := by decide +kernel
theorem d_W_law_336 : decode code 336 = .ok (.aload_n 2, 1) := by decide +kernel
theorem d_W_law_337 : decode code 337 = .ok (.aload_n 0, 1) := by decide +kernel
theorem d_W_law_338 : decode code 338 = .ok (.iload_n 3, 1) := by decide +kernel
theorem d_W_law_339 : decode code 339 = .ok (.iconst 1, 1) := by decide +kernel
theorem d_W_law_340 : decode code 340 = .ok (.iadd, 1) := by decide +kernel
theorem d_W_law_341 : decode code 341 = .ok (.iaload, 1) := by decide +kernel
theorem d_W_law_342 : decode code 342 = .ok (.aload_n 0, 1) := by decide +kernel
theorem d_W_law_343 : decode code 343 = .ok (.iload_n 3, 1) := by decide +kernel
theorem d_W_law_344 : decode code 344 = .ok (.iconst 2, 1) := by decide +kernel
theorem d_W_law_345 : decode code 345 = .ok (.iadd, 1) := by decide +kernel
theorem d_W_law_346 : decode code 346 = .ok (.iaload, 1) := by decide +kernel
theorem d_W_law_347 : decode code 347 = .ok (.invokevirtual 51, 3) := by decide +kernel
theorem d_W_law_350 : decode code 350 = .ok (.if_icmp .eq 281, 3) := by decide +kernel
theorem d_W_law_353 : decode code 353 = .ok (.iconst 0, 1) := by decide +kernel
theorem d_W_law_354 : decode code 354 = .ok (.ireturn, 1) := by decide +kernel
theorem d_W_law_355 : decode code 355 = .ok (.aload_n 1, 1) := by decide +kernel
theorem d_W_law_356 : decode code 356 = .ok (.aload_n 0, 1) := by decide +kernel
theorem d_W_law_357 : decode code 357 = .ok (.iload_n 3, 1) := by decide +kernel
theorem d_W_law_358 : decode code 358 = .ok (.iconst 1, 1) := by decide +kernel
theorem d_W_law_359 : decode code 359 = .ok (.iadd, 1) := by decide +kernel
theorem d_W_law_360 : decode code 360 = .ok (.iaload, 1) := by decide +kernel
theorem d_W_law_361 : decode code 361 = .ok (.aload_n 0, 1) := by decide +kernel
theorem d_W_law_362 : decode code 362 = .ok (.iload_n 3, 1) := by decide +kernel
theorem d_W_law_363 : decode code 363 = .ok (.iconst 2, 1) := by decide +kernel
theorem d_W_law_364 : decode code 364 = .ok (.iadd, 1) := by decide +kernel
theorem d_W_law_365 : decode code 365 = .ok (.iaload, 1) := by decide +kernel
theorem d_W_law_366 : decode code 366 = .ok (.aload_n 0, 1) := by decide +kernel
theorem d_W_law_367 : decode code 367 = .ok (.iload_n 3, 1) := by decide +kernel
theorem d_W_law_368 : decode code 368 = .ok (.iconst 3, 1) := by decide +kernel
theorem d_W_law_369 : decode code 369 = .ok (.iadd, 1) := by decide +kernel
theorem d_W_law_370 : decode code 370 = .ok (.iaload, 1) := by decide +kernel
theorem d_W_law_371 : decode code 371 = .ok (.invokevirtual 52, 3) := by decide +kernel
theorem d_W_law_374 : decode code 374 = .ok (.aload_n 2, 1) := by decide +kernel
theorem d_W_law_375 : decode code 375 = .ok (.aload_n 0, 1) := by decide +kernel
theorem d_W_law_376 : decode code 376 = .ok (.iload_n 3, 1) := by decide +kernel
theorem d_W_law_377 : decode code 377 = .ok (.iconst 1, 1) := by decide +kernel
theorem d_W_law_378 : decode code 378 = .ok (.iadd, 1) := by decide +kernel
theorem d_W_law_379 : decode code 379 = .ok (.iaload, 1) := by decide +kernel
theorem d_W_law_380 : decode code 380 = .ok (.aload_n 0, 1) := by decide +kernel
theorem d_W_law_381 : decode code 381 = .ok (.iload_n 3, 1) := by decide +kernel
theorem d_W_law_382 : decode code 382 = .ok (.iconst 2, 1) := by decide +kernel
theorem d_W_law_383 : decode code 383 = .ok (.iadd, 1) := by decide +kernel
theorem d_W_law_384 : decode code 384 = .ok (.iaload, 1) := by decide +kernel
theorem d_W_law_385 : decode code 385 = .ok (.aload_n 0, 1) := by decide +kernel
theorem d_W_law_386 : decode code 386 = .ok (.iload_n 3, 1) := by decide +kernel
theorem d_W_law_387 : decode code 387 = .ok (.iconst 3, 1) := by decide +kernel
theorem d_W_law_388 : decode code 388 = .ok (.iadd, 1) := by decide +kernel
theorem d_W_law_389 : decode code 389 = .ok (.iaload, 1) := by decide +kernel
theorem d_W_law_390 : decode code 390 = .ok (.invokevirtual 55, 3) := by decide +kernel
theorem d_W_law_393 : decode code 393 = .ok (.if_icmp .eq 238, 3) := by decide +kernel
theorem d_W_law_396 : decode code 396 = .ok (.iconst 0, 1) := by decide +kernel
theorem d_W_law_397 : decode code 397 = .ok (.ireturn, 1) := by decide +kernel
theorem d_W_law_398 : decode code 398 = .ok (.aload_n 1, 1) := by decide +kernel
theorem d_W_law_399 : decode code 399 = .ok (.aload_n 0, 1) := by decide +kernel
theorem d_W_law_400 : decode code 400 = .ok (.iload_n 3, 1) := by decide +kernel
theorem d_W_law_401 : decode code 401 = .ok (.iconst 1, 1) := by decide +kernel
theorem d_W_law_402 : decode code 402 = .ok (.iadd, 1) := by decide +kernel
theorem d_W_law_403 : decode code 403 = .ok (.iaload, 1) := by decide +kernel
theorem d_W_law_404 : decode code 404 = .ok (.invokevirtual 56, 3) := by decide +kernel
theorem d_W_law_407 : decode code 407 = .ok (.aload_n 2, 1) := by decide +kernel
theorem d_W_law_408 : decode code 408 = .ok (.aload_n 0, 1) := by decide +kernel
theorem d_W_law_409 : decode code 409 = .ok (.iload_n 3, 1) := by decide +kernel
theorem d_W_law_410 : decode code 410 = .ok (.iconst 1, 1) := by decide +kernel
theorem d_W_law_411 : decode code 411 = .ok (.iadd, 1) := by decide +kernel
theorem d_W_law_412 : decode code 412 = .ok (.iaload, 1) := by decide +kernel
theorem d_W_law_413 : decode code 413 = .ok (.invokevirtual 60, 3) := by decide +kernel
theorem d_W_law_416 : decode code 416 = .ok (.if_icmp .eq 215, 3) := by decide +kernel
theorem d_W_law_419 : decode code 419 = .ok (.iconst 0, 1) := by decide +kernel
theorem d_W_law_420 : decode code 420 = .ok (.ireturn, 1) := by decide +kernel
theorem d_W_law_421 : decode code 421 = .ok (.aload_n 1, 1) := by decide +kernel
theorem d_W_law_422 : decode code 422 = .ok (.aload_n 0, 1) := by decide +kernel
theorem d_W_law_423 : decode code 423 = .ok (.iload_n 3, 1) := by decide +kernel
theorem d_W_law_424 : decode code 424 = .ok (.iconst 1, 1) := by decide +kernel
theorem d_W_law_425 : decode code 425 = .ok (.iadd, 1) := by decide +kernel
theorem d_W_law_426 : decode code 426 = .ok (.iaload, 1) := by decide +kernel
theorem d_W_law_427 : decode code 427 = .ok (.invokevirtual 61, 3) := by decide +kernel
theorem d_W_law_430 : decode code 430 = .ok (.aload_n 2, 1) := by decide +kernel
theorem d_W_law_431 : decode code 431 = .ok (.aload_n 0, 1) := by decide +kernel
theorem d_W_law_432 : decode code 432 = .ok (.iload_n 3, 1) := by decide +kernel
theorem d_W_law_433 : decode code 433 = .ok (.iconst 1, 1) := by decide +kernel
theorem d_W_law_434 : decode code 434 = .ok (.iadd, 1) := by decide +kernel
theorem d_W_law_435 : decode code 435 = .ok (.iaload, 1) := by decide +kernel
theorem d_W_law_436 : decode code 436 = .ok (.invokevirtual 64, 3) := by decide +kernel
theorem d_W_law_439 : decode code 439 = .ok (.if_icmp .eq 192, 3) := by decide +kernel
theorem d_W_law_442 : decode code 442 = .ok (.iconst 0, 1) := by decide +kernel
theorem d_W_law_443 : decode code 443 = .ok (.ireturn, 1) := by decide +kernel
theorem d_W_law_444 : decode code 444 = .ok (.aload_n 1, 1) := by decide +kernel
theorem d_W_law_445 : decode code 445 = .ok (.aload_n 0, 1) := by decide +kernel
theorem d_W_law_446 : decode code 446 = .ok (.iload_n 3, 1) := by decide +kernel
theorem d_W_law_447 : decode code 447 = .ok (.iconst 1, 1) := by decide +kernel
theorem d_W_law_448 : decode code 448 = .ok (.iadd, 1) := by decide +kernel
theorem d_W_law_449 : decode code 449 = .ok (.iaload, 1) := by decide +kernel
theorem d_W_law_450 : decode code 450 = .ok (.invokevirtual 65, 3) := by decide +kernel
theorem d_W_law_453 : decode code 453 = .ok (.aload_n 2, 1) := by decide +kernel
theorem d_W_law_454 : decode code 454 = .ok (.aload_n 0, 1) := by decide +kernel
theorem d_W_law_455 : decode code 455 = .ok (.iload_n 3, 1) := by decide +kernel
theorem d_W_law_456 : decode code 456 = .ok (.iconst 1, 1) := by decide +kernel
theorem d_W_law_457 : decode code 457 = .ok (.iadd, 1) := by decide +kernel
theorem d_W_law_458 : decode code 458 = .ok (.iaload, 1) := by decide +kernel
theorem d_W_law_459 : decode code 459 = .ok (.invokevirtual 68, 3) := by decide +kernel
theorem d_W_law_462 : decode code 462 = .ok (.if_icmp .eq 169, 3) := by decide +kernel
theorem d_W_law_465 : decode code 465 = .ok (.iconst 0, 1) := by decide +kernel
theorem d_W_law_466 : decode code 466 = .ok (.ireturn, 1) := by decide +kernel
theorem d_W_law_467 : decode code 467 = .ok (.aload_n 1, 1) := by decide +kernel
theorem d_W_law_468 : decode code 468 = .ok (.invokevirtual 69, 3) := by decide +kernel
theorem d_W_law_471 : decode code 471 = .ok (.aload_n 2, 1) := by decide +kernel
theorem d_W_law_472 : decode code 472 = .ok (.invokevirtual 73, 3) := by decide +kernel
theorem d_W_law_475 : decode code 475 = .ok (.if_icmp .eq 156, 3) := by decide +kernel
theorem d_W_law_478 : decode code 478 = .ok (.iconst 0, 1) := by decide +kernel
theorem d_W_law_479 : decode code 479 = .ok (.ireturn, 1) := by decide +kernel
theorem d_W_law_480 : decode code 480 = .ok (.aload_n 1, 1) := by decide +kernel
theorem d_W_law_481 : decode code 481 = .ok (.invokevirtual 74, 3) := by decide +kernel
theorem d_W_law_484 : decode code 484 = .ok (.aload_n 2, 1) := by decide +kernel
theorem d_W_law_485 : decode code 485 = .ok (.invokevirtual 77, 3) := by decide +kernel
theorem d_W_law_488 : decode code 488 = .ok (.if_icmp .eq 143, 3) := by decide +kernel
theorem d_W_law_491 : decode code 491 = .ok (.iconst 0, 1) := by decide +kernel
theorem d_W_law_492 : decode code 492 = .ok (.ireturn, 1) := by decide +kernel
theorem d_W_law_493 : decode code 493 = .ok (.aload_n 1, 1) := by decide +kernel
theorem d_W_law_494 : decode code 494 = .ok (.aload_n 0, 1) := by decide +kernel
theorem d_W_law_495 : decode code 495 = .ok (.iload_n 3, 1) := by decide +kernel
theorem d_W_law_496 : decode code 496 = .ok (.iconst 1, 1) := by decide +kernel
theorem d_W_law_497 : decode code 497 = .ok (.iadd, 1) := by decide +kernel
theorem d_W_law_498 : decode code 498 = .ok (.iaload, 1) := by decide +kernel
theorem d_W_law_499 : decode code 499 = .ok (.aload_n 0, 1) := by decide +kernel
theorem d_W_law_500 : decode code 500 = .ok (.iload_n 3, 1) := by decide +kernel
theorem d_W_law_501 : decode code 501 = .ok (.iconst 2, 1) := by decide +kernel
theorem d_W_law_502 : decode code 502 = .ok (.iadd, 1) := by decide +kernel
theorem d_W_law_503 : decode code 503 = .ok (.iaload, 1) := by decide +kernel
theorem d_W_law_504 : decode code 504 = .ok (.invokevirtual 78, 3) := by decide +kernel
theorem d_W_law_507 : decode code 507 = .ok (.aload_n 2, 1) := by decide +kernel
theorem d_W_law_508 : decode code 508 = .ok (.aload_n 0, 1) := by decide +kernel
theorem d_W_law_509 : decode code 509 = .ok (.iload_n 3, 1) := by decide +kernel
theorem d_W_law_510 : decode code 510 = .ok (.iconst 1, 1) := by decide +kernel
theorem d_W_law_511 : decode code 511 = .ok (.iadd, 1) := by decide +kernel
theorem d_W_law_512 : decode code 512 = .ok (.iaload, 1) := by decide +kernel
theorem d_W_law_513 : decode code 513 = .ok (.aload_n 0, 1) := by decide +kernel
theorem d_W_law_514 : decode code 514 = .ok (.iload_n 3, 1) := by decide +kernel
theorem d_W_law_515 : decode code 515 = .ok (.iconst 2, 1) := by decide +kernel
theorem d_W_law_516 : decode code 516 = .ok (.iadd, 1) := by decide +kernel
theorem d_W_law_517 : decode code 517 = .ok (.iaload, 1) := by decide +kernel
theorem d_W_law_518 : decode code 518 = .ok (.invokevirtual 81, 3) := by decide +kernel
theorem d_W_law_521 : decode code 521 = .ok (.if_icmp .eq 110, 3) := by decide +kernel
theorem d_W_law_524 : decode code 524 = .ok (.iconst 0, 1) := by decide +kernel
theorem d_W_law_525 : decode code 525 = .ok (.ireturn, 1) := by decide +kernel
theorem d_W_law_526 : decode code 526 = .ok (.aload_n 1, 1) := by decide +kernel
theorem d_W_law_527 : decode code 527 = .ok (.aload_n 0, 1) := by decide +kernel
theorem d_W_law_528 : decode code 528 = .ok (.iload_n 3, 1) := by decide +kernel
theorem d_W_law_529 : decode code 529 = .ok (.iconst 1, 1) := by decide +kernel
theorem d_W_law_530 : decode code 530 = .ok (.iadd, 1) := by decide +kernel
theorem d_W_law_531 : decode code 531 = .ok (.iaload, 1) := by decide +kernel
theorem d_W_law_532 : decode code 532 = .ok (.invokevirtual 82, 3) := by decide +kernel
theorem d_W_law_535 : decode code 535 = .ok (.aload_n 2, 1) := by decide +kernel
theorem d_W_law_536 : decode code 536 = .ok (.aload_n 0, 1) := by decide +kernel
theorem d_W_law_537 : decode code 537 = .ok (.iload_n 3, 1) := by decide +kernel
theorem d_W_law_538 : decode code 538 = .ok (.iconst 1, 1) := by decide +kernel
theorem d_W_law_539 : decode code 539 = .ok (.iadd, 1) := by decide +kernel
theorem d_W_law_540 : decode code 540 = .ok (.iaload, 1) := by decide +kernel
theorem d_W_law_541 : decode code 541 = .ok (.invokevirtual 86, 3) := by decide +kernel
theorem d_W_law_544 : decode code 544 = .ok (.if_icmp .eq 87, 3) := by decide +kernel
theorem d_W_law_547 : decode code 547 = .ok (.iconst 0, 1) := by decide +kernel
theorem d_W_law_548 : decode code 548 = .ok (.ireturn, 1) := by decide +kernel
theorem d_W_law_549 : decode code 549 = .ok (.aload_n 1, 1) := by decide +kernel
theorem d_W_law_550 : decode code 550 = .ok (.aload_n 0, 1) := by decide +kernel
theorem d_W_law_551 : decode code 551 = .ok (.iload_n 3, 1) := by decide +kernel
theorem d_W_law_552 : decode code 552 = .ok (.iconst 1, 1) := by decide +kernel
theorem d_W_law_553 : decode code 553 = .ok (.iadd, 1) := by decide +kernel
theorem d_W_law_554 : decode code 554 = .ok (.iaload, 1) := by decide +kernel
theorem d_W_law_555 : decode code 555 = .ok (.invokevirtual 87, 3) := by decide +kernel
theorem d_W_law_558 : decode code 558 = .ok (.aload_n 2, 1) := by decide +kernel
theorem d_W_law_559 : decode code 559 = .ok (.aload_n 0, 1) := by decide +kernel
theorem d_W_law_560 : decode code 560 = .ok (.iload_n 3, 1) := by decide +kernel
theorem d_W_law_561 : decode code 561 = .ok (.iconst 1, 1) := by decide +kernel
theorem d_W_law_562 : decode code 562 = .ok (.iadd, 1) := by decide +kernel
theorem d_W_law_563 : decode code 563 = .ok (.iaload, 1) := by decide +kernel
theorem d_W_law_564 : decode code 564 = .ok (.invokevirtual 90, 3) := by decide +kernel
theorem d_W_law_567 : decode code 567 = .ok (.if_icmp .eq 64, 3) := by decide +kernel
theorem d_W_law_570 : decode code 570 = .ok (.iconst 0, 1) := by decide +kernel
theorem d_W_law_571 : decode code 571 = .ok (.ireturn, 1) := by decide +kernel
theorem d_W_law_572 : decode code 572 = .ok (.aload_n 1, 1) := by decide +kernel
theorem d_W_law_573 : decode code 573 = .ok (.invokevirtual 91, 3) := by decide +kernel
theorem d_W_law_576 : decode code 576 = .ok (.aload_n 2, 1) := by decide +kernel
theorem d_W_law_577 : decode code 577 = .ok (.invokevirtual 94, 3) := by decide +kernel
theorem d_W_law_580 : decode code 580 = .ok (.if_icmp .eq 51, 3) := by decide +kernel
theorem d_W_law_583 : decode code 583 = .ok (.iconst 0, 1) := by decide +kernel
theorem d_W_law_584 : decode code 584 = .ok (.ireturn, 1) := by decide +kernel
theorem d_W_law_585 : decode code 585 = .ok (.aload_n 1, 1) := by decide +kernel
theorem d_W_law_586 : decode code 586 = .ok (.invokevirtual 95, 3) := by decide +kernel
theorem d_W_law_589 : decode code 589 = .ok (.aload_n 2, 1) := by decide +kernel
theorem d_W_law_590 : decode code 590 = .ok (.invokevirtual 98, 3) := by decide +kernel
theorem d_W_law_593 : decode code 593 = .ok (.if_icmp .eq 38, 3) := by decide +kernel
theorem d_W_law_596 : decode code 596 = .ok (.iconst 0, 1) := by decide +kernel
theorem d_W_law_597 : decode code 597 = .ok (.ireturn, 1) := by decide +kernel
theorem d_W_law_598 : decode code 598 = .ok (.aload_n 1, 1) := by decide +kernel
theorem d_W_law_599 : decode code 599 = .ok (.aload_n 0, 1) := by decide +kernel
theorem d_W_law_600 : decode code 600 = .ok (.iload_n 3, 1) := by decide +kernel
theorem d_W_law_601 : decode code 601 = .ok (.iconst 1, 1) := by decide +kernel
theorem d_W_law_602 : decode code 602 = .ok (.iadd, 1) := by decide +kernel
theorem d_W_law_603 : decode code 603 = .ok (.iaload, 1) := by decide +kernel
theorem d_W_law_604 : decode code 604 = .ok (.aload_n 0, 1) := by decide +kernel
theorem d_W_law_605 : decode code 605 = .ok (.iload_n 3, 1) := by decide +kernel
theorem d_W_law_606 : decode code 606 = .ok (.iconst 2, 1) := by decide +kernel
theorem d_W_law_607 : decode code 607 = .ok (.iadd, 1) := by decide +kernel
theorem d_W_law_608 : decode code 608 = .ok (.iaload, 1) := by decide +kernel
theorem d_W_law_609 : decode code 609 = .ok (.invokevirtual 99, 3) := by decide +kernel
theorem d_W_law_612 : decode code 612 = .ok (.aload_n 2, 1) := by decide +kernel
theorem d_W_law_613 : decode code 613 = .ok (.aload_n 0, 1) := by decide +kernel
theorem d_W_law_614 : decode code 614 = .ok (.iload_n 3, 1) := by decide +kernel
theorem d_W_law_615 : decode code 615 = .ok (.iconst 1, 1) := by decide +kernel
theorem d_W_law_616 : decode code 616 = .ok (.iadd, 1) := by decide +kernel
theorem d_W_law_617 : decode code 617 = .ok (.iaload, 1) := by decide +kernel
theorem d_W_law_618 : decode code 618 = .ok (.aload_n 0, 1) := by decide +kernel
theorem d_W_law_619 : decode code 619 = .ok (.iload_n 3, 1) := by decide +kernel
theorem d_W_law_620 : decode code 620 = .ok (.iconst 2, 1) := by decide +kernel
theorem d_W_law_621 : decode code 621 = .ok (.iadd, 1) := by decide +kernel
theorem d_W_law_622 : decode code 622 = .ok (.iaload, 1) := by decide +kernel
theorem d_W_law_623 : decode code 623 = .ok (.invokevirtual 102, 3) := by decide +kernel
theorem d_W_law_626 : decode code 626 = .ok (.if_icmp .eq 5, 3) := by decide +kernel
theorem d_W_law_629 : decode code 629 = .ok (.iconst 0, 1) := by decide +kernel
theorem d_W_law_630 : decode code 630 = .ok (.ireturn, 1) := by decide +kernel
theorem d_W_law_631 : decode code 631 = .ok (.iinc 3 4, 3) := by decide +kernel
theorem d_W_law_634 : decode code 634 = .ok (.goto (-596), 3) := by decide +kernel
theorem d_W_law_637 : decode code 637 = .ok (.iconst 1, 1) := by decide +kernel
theorem d_W_law_638 : decode code 638 = .ok (.ireturn, 1) := by decide +kernel
