theorem d_Law_law_0 : decode b_Law_law 0 = .ok (.new 7, 3) := by decide +kernel
theorem d_Law_law_3 : decode b_Law_law 3 = .ok (.dup, 1) := by decide +kernel
theorem d_Law_law_4 : decode b_Law_law 4 = .ok (.invokespecial 9, 3) := by decide +kernel
theorem d_Law_law_7 : decode b_Law_law 7 = .ok (.astore_n 1, 1) := by decide +kernel
theorem d_Law_law_8 : decode b_Law_law 8 = .ok (.new 10, 3) := by decide +kernel
theorem d_Law_law_11 : decode b_Law_law 11 = .ok (.dup, 1) := by decide +kernel
theorem d_Law_law_12 : decode b_Law_law 12 = .ok (.invokespecial 12, 3) := by decide +kernel
theorem d_Law_law_15 : decode b_Law_law 15 = .ok (.astore_n 2, 1) := by decide +kernel
theorem d_Law_law_16 : decode b_Law_law 16 = .ok (.iconst 0, 1) := by decide +kernel
theorem d_Law_law_17 : decode b_Law_law 17 = .ok (.istore_n 3, 1) := by decide +kernel
theorem d_Law_law_18 : decode b_Law_law 18 = .ok (.iload_n 3, 1) := by decide +kernel
theorem d_Law_law_19 : decode b_Law_law 19 = .ok (.aload_n 0, 1) := by decide +kernel
theorem d_Law_law_20 : decode b_Law_law 20 = .ok (.arraylength, 1) := by decide +kernel
theorem d_Law_law_21 : decode b_Law_law 21 = .ok (.iconst 4, 1) := by decide +kernel
theorem d_Law_law_22 : decode b_Law_law 22 = .ok (.isub, 1) := by decide +kernel
theorem d_Law_law_23 : decode b_Law_law 23 = .ok (.if_icmp .gt 727, 3) := by decide +kernel
theorem d_Law_law_26 : decode b_Law_law 26 = .ok (.aload_n 0, 1) := by decide +kernel
theorem d_Law_law_27 : decode b_Law_law 27 = .ok (.iload_n 3, 1) := by decide +kernel
theorem d_Law_law_28 : decode b_Law_law 28 = .ok (.iaload, 1) := by decide +kernel
theorem d_Law_law_29 : decode b_Law_law 29 = .ok (.bipush 31, 2) := by decide +kernel
theorem d_Law_law_31 : decode b_Law_law 31 = .ok (.iand, 1) := by decide +kernel
theorem d_Law_law_32 : decode b_Law_law 32 = .ok (.tableswitch 712 0 24 #[116, 149, 172, 185, 218, 251, 274, 297, 320, 343, 366, 389, 412, 435, 448, 491, 504, 517, 531, 554, 577, 600, 623, 656, 679], 116) := by decide +kernel
theorem d_Law_law_148 : decode b_Law_law 148 = .ok (.aload_n 1, 1) := by decide +kernel
theorem d_Law_law_149 : decode b_Law_law 149 = .ok (.aload_n 0, 1) := by decide +kernel
theorem d_Law_law_150 : decode b_Law_law 150 = .ok (.iload_n 3, 1) := by decide +kernel
theorem d_Law_law_151 : decode b_Law_law 151 = .ok (.iconst 1, 1) := by decide +kernel
theorem d_Law_law_152 : decode b_Law_law 152 = .ok (.iadd, 1) := by decide +kernel
theorem d_Law_law_153 : decode b_Law_law 153 = .ok (.iaload, 1) := by decide +kernel
theorem d_Law_law_154 : decode b_Law_law 154 = .ok (.aload_n 0, 1) := by decide +kernel
theorem d_Law_law_155 : decode b_Law_law 155 = .ok (.iload_n 3, 1) := by decide +kernel
theorem d_Law_law_156 : decode b_Law_law 156 = .ok (.iconst 2, 1) := by decide +kernel
theorem d_Law_law_157 : decode b_Law_law 157 = .ok (.iadd, 1) := by decide +kernel
theorem d_Law_law_158 : decode b_Law_law 158 = .ok (.iaload, 1) := by decide +kernel
theorem d_Law_law_159 : decode b_Law_law 159 = .ok (.invokevirtual 13, 3) := by decide +kernel
theorem d_Law_law_162 : decode b_Law_law 162 = .ok (.aload_n 2, 1) := by decide +kernel
theorem d_Law_law_163 : decode b_Law_law 163 = .ok (.aload_n 0, 1) := by decide +kernel
theorem d_Law_law_164 : decode b_Law_law 164 = .ok (.iload_n 3, 1) := by decide +kernel
theorem d_Law_law_165 : decode b_Law_law 165 = .ok (.iconst 1, 1) := by decide +kernel
theorem d_Law_law_166 : decode b_Law_law 166 = .ok (.iadd, 1) := by decide +kernel
theorem d_Law_law_167 : decode b_Law_law 167 = .ok (.iaload, 1) := by decide +kernel
theorem d_Law_law_168 : decode b_Law_law 168 = .ok (.aload_n 0, 1) := by decide +kernel
theorem d_Law_law_169 : decode b_Law_law 169 = .ok (.iload_n 3, 1) := by decide +kernel
theorem d_Law_law_170 : decode b_Law_law 170 = .ok (.iconst 2, 1) := by decide +kernel
theorem d_Law_law_171 : decode b_Law_law 171 = .ok (.iadd, 1) := by decide +kernel
theorem d_Law_law_172 : decode b_Law_law 172 = .ok (.iaload, 1) := by decide +kernel
theorem d_Law_law_173 : decode b_Law_law 173 = .ok (.invokevirtual 17, 3) := by decide +kernel
theorem d_Law_law_176 : decode b_Law_law 176 = .ok (.if_icmp .eq 568, 3) := by decide +kernel
theorem d_Law_law_179 : decode b_Law_law 179 = .ok (.iconst 0, 1) := by decide +kernel
theorem d_Law_law_180 : decode b_Law_law 180 = .ok (.ireturn, 1) := by decide +kernel
theorem d_Law_law_181 : decode b_Law_law 181 = .ok (.aload_n 1, 1) := by decide +kernel
theorem d_Law_law_182 : decode b_Law_law 182 = .ok (.aload_n 0, 1) := by decide +kernel
theorem d_Law_law_183 : decode b_Law_law 183 = .ok (.iload_n 3, 1) := by decide +kernel
theorem d_Law_law_184 : decode b_Law_law 184 = .ok (.iconst 1, 1) := by decide +kernel
theorem d_Law_law_185 : decode b_Law_law 185 = .ok (.iadd, 1) := by decide +kernel
theorem d_Law_law_186 : decode b_Law_law 186 = .ok (.iaload, 1) := by decide +kernel
theorem d_Law_law_187 : decode b_Law_law 187 = .ok (.invokevirtual 18, 3) := by decide +kernel
theorem d_Law_law_190 : decode b_Law_law 190 = .ok (.aload_n 2, 1) := by decide +kernel
theorem d_Law_law_191 : decode b_Law_law 191 = .ok (.aload_n 0, 1) := by decide +kernel
theorem d_Law_law_192 : decode b_Law_law 192 = .ok (.iload_n 3, 1) := by decide +kernel
theorem d_Law_law_193 : decode b_Law_law 193 = .ok (.iconst 1, 1) := by decide +kernel
theorem d_Law_law_194 : decode b_Law_law 194 = .ok (.iadd, 1) := by decide +kernel
theorem d_Law_law_195 : decode b_Law_law 195 = .ok (.iaload, 1) := by decide +kernel
theorem d_Law_law_196 : decode b_Law_law 196 = .ok (.invokevirtual 22, 3) := by decide +kernel
theorem d_Law_law_199 : decode b_Law_law 199 = .ok (.if_icmp .eq 545, 3) := by decide +kernel
theorem d_Law_law_202 : decode b_Law_law 202 = .ok (.iconst 0, 1) := by decide +kernel
theorem d_Law_law_203 : decode b_Law_law 203 = .ok (.ireturn, 1) := by decide +kernel
theorem d_Law_law_204 : decode b_Law_law 204 = .ok (.aload_n 1, 1) := by decide +kernel
theorem d_Law_law_205 : decode b_Law_law 205 = .ok (.invokevirtual 23, 3) := by decide +kernel
theorem d_Law_law_208 : decode b_Law_law 208 = .ok (.aload_n 2, 1) := by decide +kernel
theorem d_Law_law_209 : decode b_Law_law 209 = .ok (.invokevirtual 27, 3) := by decide +kernel
theorem d_Law_law_212 : decode b_Law_law 212 = .ok (.if_icmp .eq 532, 3) := by decide +kernel
theorem d_Law_law_215 : decode b_Law_law 215 = .ok (.iconst 0, 1) := by decide +kernel
theorem d_Law_law_216 : decode b_Law_law 216 = .ok (.ireturn, 1) := by decide +kernel
theorem d_Law_law_217 : decode b_Law_law 217 = .ok (.aload_n 1, 1) := by decide +kernel
theorem d_Law_law_218 : decode b_Law_law 218 = .ok (.aload_n 0, 1) := by decide +kernel
theorem d_Law_law_219 : decode b_Law_law 219 = .ok (.iload_n 3, 1) := by decide +kernel
theorem d_Law_law_220 : decode b_Law_law 220 = .ok (.iconst 1, 1) := by decide +kernel
theorem d_Law_law_221 : decode b_Law_law 221 = .ok (.iadd, 1) := by decide +kernel
theorem d_Law_law_222 : decode b_Law_law 222 = .ok (.iaload, 1) := by decide +kernel
theorem d_Law_law_223 : decode b_Law_law 223 = .ok (.aload_n 0, 1) := by decide +kernel
theorem d_Law_law_224 : decode b_Law_law 224 = .ok (.iload_n 3, 1) := by decide +kernel
theorem d_Law_law_225 : decode b_Law_law 225 = .ok (.iconst 2, 1) := by decide +kernel
theorem d_Law_law_226 : decode b_Law_law 226 = .ok (.iadd, 1) := by decide +kernel
theorem d_Law_law_227 : decode b_Law_law 227 = .ok (.iaload, 1) := by decide +kernel
theorem d_Law_law_228 : decode b_Law_law 228 = .ok (.invokevirtual 28, 3) := by decide +kernel
theorem d_Law_law_231 : decode b_Law_law 231 = .ok (.aload_n 2, 1) := by decide +kernel
theorem d_Law_law_232 : decode b_Law_law 232 = .ok (.aload_n 0, 1) := by decide +kernel
theorem d_Law_law_233 : decode b_Law_law 233 = .ok (.iload_n 3, 1) := by decide +kernel
theorem d_Law_law_234 : decode b_Law_law 234 = .ok (.iconst 1, 1) := by decide +kernel
theorem d_Law_law_235 : decode b_Law_law 235 = .ok (.iadd, 1) := by decide +kernel
theorem d_Law_law_236 : decode b_Law_law 236 = .ok (.iaload, 1) := by decide +kernel
theorem d_Law_law_237 : decode b_Law_law 237 = .ok (.aload_n 0, 1) := by decide +kernel
theorem d_Law_law_238 : decode b_Law_law 238 = .ok (.iload_n 3, 1) := by decide +kernel
theorem d_Law_law_239 : decode b_Law_law 239 = .ok (.iconst 2, 1) := by decide +kernel
theorem d_Law_law_240 : decode b_Law_law 240 = .ok (.iadd, 1) := by decide +kernel
theorem d_Law_law_241 : decode b_Law_law 241 = .ok (.iaload, 1) := by decide +kernel
theorem d_Law_law_242 : decode b_Law_law 242 = .ok (.invokevirtual 31, 3) := by decide +kernel
theorem d_Law_law_245 : decode b_Law_law 245 = .ok (.if_icmp .eq 499, 3) := by decide +kernel
theorem d_Law_law_248 : decode b_Law_law 248 = .ok (.iconst 0, 1) := by decide +kernel
theorem d_Law_law_249 : decode b_Law_law 249 = .ok (.ireturn, 1) := by decide +kernel
theorem d_Law_law_250 : decode b_Law_law 250 = .ok (.aload_n 1, 1) := by decide +kernel
theorem d_Law_law_251 : decode b_Law_law 251 = .ok (.aload_n 0, 1) := by decide +kernel
theorem d_Law_law_252 : decode b_Law_law 252 = .ok (.iload_n 3, 1) := by decide +kernel
theorem d_Law_law_253 : decode b_Law_law 253 = .ok (.iconst 1, 1) := by decide +kernel
theorem d_Law_law_254 : decode b_Law_law 254 = .ok (.iadd, 1) := by decide +kernel
theorem d_Law_law_255 : decode b_Law_law 255 = .ok (.iaload, 1) := by decide +kernel
theorem d_Law_law_256 : decode b_Law_law 256 = .ok (.aload_n 0, 1) := by decide +kernel
theorem d_Law_law_257 : decode b_Law_law 257 = .ok (.iload_n 3, 1) := by decide +kernel
theorem d_Law_law_258 : decode b_Law_law 258 = .ok (.iconst 2, 1) := by decide +kernel
theorem d_Law_law_259 : decode b_Law_law 259 = .ok (.iadd, 1) := by decide +kernel
theorem d_Law_law_260 : decode b_Law_law 260 = .ok (.iaload, 1) := by decide +kernel
theorem d_Law_law_261 : decode b_Law_law 261 = .ok (.invokevirtual 32, 3) := by decide +kernel
theorem d_Law_law_264 : decode b_Law_law 264 = .ok (.aload_n 2, 1) := by decide +kernel
theorem d_Law_law_265 : decode b_Law_law 265 = .ok (.aload_n 0, 1) := by decide +kernel
theorem d_Law_law_266 : decode b_Law_law 266 = .ok (.iload_n 3, 1) := by decide +kernel
theorem d_Law_law_267 : decode b_Law_law 267 = .ok (.iconst 1, 1) := by decide +kernel
theorem d_Law_law_268 : decode b_Law_law 268 = .ok (.iadd, 1) := by decide +kernel
theorem d_Law_law_269 : decode b_Law_law 269 = .ok (.iaload, 1) := by decide +kernel
theorem d_Law_law_270 : decode b_Law_law 270 = .ok (.aload_n 0, 1) := by decide +kernel
theorem d_Law_law_271 : decode b_Law_law 271 = .ok (.iload_n 3, 1) := by decide +kernel
theorem d_Law_law_272 : decode b_Law_law 272 = .ok (.iconst 2, 1) := by decide +kernel
theorem d_Law_law_273 : decode b_Law_law 273 = .ok (.iadd, 1) := by decide +kernel
theorem d_Law_law_274 : decode b_Law_law 274 = .ok (.iaload, 1) := by decide +kernel
theorem d_Law_law_275 : decode b_Law_law 275 = .ok (.invokevirtual 35, 3) := by decide +kernel
theorem d_Law_law_278 : decode b_Law_law 278 = .ok (.if_icmp .eq 466, 3) := by decide +kernel
theorem d_Law_law_281 : decode b_Law_law 281 = .ok (.iconst 0, 1) := by decide +kernel
theorem d_Law_law_282 : decode b_Law_law 282 = .ok (.ireturn, 1) := by decide +kernel
theorem d_Law_law_283 : decode b_Law_law 283 = .ok (.aload_n 1, 1) := by decide +kernel
theorem d_Law_law_284 : decode b_Law_law 284 = .ok (.aload_n 0, 1) := by decide +kernel
theorem d_Law_law_285 : decode b_Law_law 285 = .ok (.iload_n 3, 1) := by decide +kernel
theorem d_Law_law_286 : decode b_Law_law 286 = .ok (.iconst 1, 1) := by decide +kernel
theorem d_Law_law_287 : decode b_Law_law 287 = .ok (.iadd, 1) := by decide +kernel
theorem d_Law_law_288 : decode b_Law_law 288 = .ok (.iaload, 1) := by decide +kernel
theorem d_Law_law_289 : decode b_Law_law 289 = .ok (.invokevirtual 36, 3) := by decide +kernel
theorem d_Law_law_292 : decode b_Law_law 292 = .ok (.aload_n 2, 1) := by decide +kernel
theorem d_Law_law_293 : decode b_Law_law 293 = .ok (.aload_n 0, 1) := by decide +kernel
theorem d_Law_law_294 : decode b_Law_law 294 = .ok (.iload_n 3, 1) := by decide +kernel
theorem d_Law_law_295 : decode b_Law_law 295 = .ok (.iconst 1, 1) := by decide +kernel
theorem d_Law_law_296 : decode b_Law_law 296 = .ok (.iadd, 1) := by decide +kernel
theorem d_Law_law_297 : decode b_Law_law 297 = .ok (.iaload, 1) := by decide +kernel
theorem d_Law_law_298 : decode b_Law_law 298 = .ok (.invokevirtual 39, 3) := by decide +kernel
theorem d_Law_law_301 : decode b_Law_law 301 = .ok (.if_icmp .eq 443, 3) := by decide +kernel
theorem d_Law_law_304 : decode b_Law_law 304 = .ok (.iconst 0, 1) := by decide +kernel
theorem d_Law_law_305 : decode b_Law_law 305 = .ok (.ireturn, 1) := by decide +kernel
theorem d_Law_law_306 : decode b_Law_law 306 = .ok (.aload_n 1, 1) := by decide +kernel
theorem d_Law_law_307 : decode b_Law_law 307 = .ok (.aload_n 0, 1) := by decide +kernel
theorem d_Law_law_308 : decode b_Law_law 308 = .ok (.iload_n 3, 1) := by decide +kernel
theorem d_Law_law_309 : decode b_Law_law 309 = .ok (.iconst 1, 1) := by decide +kernel
theorem d_Law_law_310 : decode b_Law_law 310 = .ok (.iadd, 1) := by decide +kernel
theorem d_Law_law_311 : decode b_Law_law 311 = .ok (.iaload, 1) := by decide +kernel
theorem d_Law_law_312 : decode b_Law_law 312 = .ok (.invokevirtual 40, 3) := by decide +kernel
theorem d_Law_law_315 : decode b_Law_law 315 = .ok (.aload_n 2, 1) := by decide +kernel
theorem d_Law_law_316 : decode b_Law_law 316 = .ok (.aload_n 0, 1) := by decide +kernel
theorem d_Law_law_317 : decode b_Law_law 317 = .ok (.iload_n 3, 1) := by decide +kernel
theorem d_Law_law_318 : decode b_Law_law 318 = .ok (.iconst 1, 1) := by decide +kernel
theorem d_Law_law_319 : decode b_Law_law 319 = .ok (.iadd, 1) := by decide +kernel
theorem d_Law_law_320 : decode b_Law_law 320 = .ok (.iaload, 1) := by decide +kernel
theorem d_Law_law_321 : decode b_Law_law 321 = .ok (.invokevirtual 43, 3) := by decide +kernel
theorem d_Law_law_324 : decode b_Law_law 324 = .ok (.if_icmp .eq 420, 3) := by decide +kernel
theorem d_Law_law_327 : decode b_Law_law 327 = .ok (.iconst 0, 1) := by decide +kernel
theorem d_Law_law_328 : decode b_Law_law 328 = .ok (.ireturn, 1) := by decide +kernel
theorem d_Law_law_329 : decode b_Law_law 329 = .ok (.aload_n 1, 1) := by decide +kernel
theorem d_Law_law_330 : decode b_Law_law 330 = .ok (.aload_n 0, 1) := by decide +kernel
theorem d_Law_law_331 : decode b_Law_law 331 = .ok (.iload_n 3, 1) := by decide +kernel
theorem d_Law_law_332 : decode b_Law_law 332 = .ok (.iconst 1, 1) := by decide +kernel
theorem d_Law_law_333 : decode b_Law_law 333 = .ok (.iadd, 1) := by decide +kernel
theorem d_Law_law_334 : decode b_Law_law 334 = .ok (.iaload, 1) := by decide +kernel
theorem d_Law_law_335 : decode b_Law_law 335 = .ok (.invokevirtual 44, 3) := by decide +kernel
theorem d_Law_law_338 : decode b_Law_law 338 = .ok (.aload_n 2, 1) := by decide +kernel
theorem d_Law_law_339 : decode b_Law_law 339 = .ok (.aload_n 0, 1) := by decide +kernel
theorem d_Law_law_340 : decode b_Law_law 340 = .ok (.iload_n 3, 1) := by decide +kernel
theorem d_Law_law_341 : decode b_Law_law 341 = .ok (.iconst 1, 1) := by decide +kernel
theorem d_Law_law_342 : decode b_Law_law 342 = .ok (.iadd, 1) := by decide +kernel
theorem d_Law_law_343 : decode b_Law_law 343 = .ok (.iaload, 1) := by decide +kernel
theorem d_Law_law_344 : decode b_Law_law 344 = .ok (.invokevirtual 47, 3) := by decide +kernel
theorem d_Law_law_347 : decode b_Law_law 347 = .ok (.if_icmp .eq 397, 3) := by decide +kernel
theorem d_Law_law_350 : decode b_Law_law 350 = .ok (.iconst 0, 1) := by decide +kernel
theorem d_Law_law_351 : decode b_Law_law 351 = .ok (.ireturn, 1) := by decide +kernel
theorem d_Law_law_352 : decode b_Law_law 352 = .ok (.aload_n 1, 1) := by decide +kernel
theorem d_Law_law_353 : decode b_Law_law 353 = .ok (.aload_n 0, 1) := by decide +kernel
theorem d_Law_law_354 : decode b_Law_law 354 = .ok (.iload_n 3, 1) := by decide +kernel
theorem d_Law_law_355 : decode b_Law_law 355 = .ok (.iconst 1, 1) := by decide +kernel
theorem d_Law_law_356 : decode b_Law_law 356 = .ok (.iadd, 1) := by decide +kernel
theorem d_Law_law_357 : decode b_Law_law 357 = .ok (.iaload, 1) := by decide +kernel
theorem d_Law_law_358 : decode b_Law_law 358 = .ok (.invokevirtual 48, 3) := by decide +kernel
theorem d_Law_law_361 : decode b_Law_law 361 = .ok (.aload_n 2, 1) := by decide +kernel
theorem d_Law_law_362 : decode b_Law_law 362 = .ok (.aload_n 0, 1) := by decide +kernel
theorem d_Law_law_363 : decode b_Law_law 363 = .ok (.iload_n 3, 1) := by decide +kernel
theorem d_Law_law_364 : decode b_Law_law 364 = .ok (.iconst 1, 1) := by decide +kernel
theorem d_Law_law_365 : decode b_Law_law 365 = .ok (.iadd, 1) := by decide +kernel
theorem d_Law_law_366 : decode b_Law_law 366 = .ok (.iaload, 1) := by decide +kernel
theorem d_Law_law_367 : decode b_Law_law 367 = .ok (.invokevirtual 51, 3) := by decide +kernel
theorem d_Law_law_370 : decode b_Law_law 370 = .ok (.if_icmp .eq 374, 3) := by decide +kernel
theorem d_Law_law_373 : decode b_Law_law 373 = .ok (.iconst 0, 1) := by decide +kernel
theorem d_Law_law_374 : decode b_Law_law 374 = .ok (.ireturn, 1) := by decide +kernel
theorem d_Law_law_375 : decode b_Law_law 375 = .ok (.aload_n 1, 1) := by decide +kernel
theorem d_Law_law_376 : decode b_Law_law 376 = .ok (.aload_n 0, 1) := by decide +kernel
theorem d_Law_law_377 : decode b_Law_law 377 = .ok (.iload_n 3, 1) := by decide +kernel
theorem d_Law_law_378 : decode b_Law_law 378 = .ok (.iconst 1, 1) := by decide +kernel
theorem d_Law_law_379 : decode b_Law_law 379 = .ok (.iadd, 1) := by decide +kernel
theorem d_Law_law_380 : decode b_Law_law 380 = .ok (.iaload, 1) := by decide +kernel
theorem d_Law_law_381 : decode b_Law_law 381 = .ok (.invokevirtual 52, 3) := by decide +kernel
theorem d_Law_law_384 : decode b_Law_law 384 = .ok (.aload_n 2, 1) := by decide +kernel
theorem d_Law_law_385 : decode b_Law_law 385 = .ok (.aload_n 0, 1) := by decide +kernel
theorem d_Law_law_386 : decode b_Law_law 386 = .ok (.iload_n 3, 1) := by decide +kernel
theorem d_Law_law_387 : decode b_Law_law 387 = .ok (.iconst 1, 1) := by decide +kernel
theorem d_Law_law_388 : decode b_Law_law 388 = .ok (.iadd, 1) := by decide +kernel
theorem d_Law_law_389 : decode b_Law_law 389 = .ok (.iaload, 1) := by decide +kernel
theorem d_Law_law_390 : decode b_Law_law 390 = .ok (.invokevirtual 55, 3) := by decide +kernel
theorem d_Law_law_393 : decode b_Law_law 393 = .ok (.if_icmp .eq 351, 3) := by decide +kernel
theorem d_Law_law_396 : decode b_Law_law 396 = .ok (.iconst 0, 1) := by decide +kernel
theorem d_Law_law_397 : decode b_Law_law 397 = .ok (.ireturn, 1) := by decide +kernel
theorem d_Law_law_398 : decode b_Law_law 398 = .ok (.aload_n 1, 1) := by decide +kernel
theorem d_Law_law_399 : decode b_Law_law 399 = .ok (.aload_n 0, 1) := by decide +kernel
theorem d_Law_law_400 : decode b_Law_law 400 = .ok (.iload_n 3, 1) := by decide +kernel
theorem d_Law_law_401 : decode b_Law_law 401 = .ok (.iconst 1, 1) := by decide +kernel
theorem d_Law_law_402 : decode b_Law_law 402 = .ok (.iadd, 1) := by decide +kernel
theorem d_Law_law_403 : decode b_Law_law 403 = .ok (.iaload, 1) := by decide +kernel
theorem d_Law_law_404 : decode b_Law_law 404 = .ok (.invokevirtual 56, 3) := by decide +kernel
theorem d_Law_law_407 : decode b_Law_law 407 = .ok (.aload_n 2, 1) := by decide +kernel
theorem d_Law_law_408 : decode b_Law_law 408 = .ok (.aload_n 0, 1) := by decide +kernel
theorem d_Law_law_409 : decode b_Law_law 409 = .ok (.iload_n 3, 1) := by decide +kernel
theorem d_Law_law_410 : decode b_Law_law 410 = .ok (.iconst 1, 1) := by decide +kernel
theorem d_Law_law_411 : decode b_Law_law 411 = .ok (.iadd, 1) := by decide +kernel
theorem d_Law_law_412 : decode b_Law_law 412 = .ok (.iaload, 1) := by decide +kernel
theorem d_Law_law_413 : decode b_Law_law 413 = .ok (.invokevirtual 59, 3) := by decide +kernel
theorem d_Law_law_416 : decode b_Law_law 416 = .ok (.if_icmp .eq 328, 3) := by decide +kernel
theorem d_Law_law_419 : decode b_Law_law 419 = .ok (.iconst 0, 1) := by decide +kernel
theorem d_Law_law_420 : decode b_Law_law 420 = .ok (.ireturn, 1) := by decide +kernel
theorem d_Law_law_421 : decode b_Law_law 421 = .ok (.aload_n 1, 1) := by decide +kernel
theorem d_Law_law_422 : decode b_Law_law 422 = .ok (.aload_n 0, 1) := by decide +kernel
theorem d_Law_law_423 : decode b_Law_law 423 = .ok (.iload_n 3, 1) := by decide +kernel
theorem d_Law_law_424 : decode b_Law_law 424 = .ok (.iconst 1, 1) := by decide +kernel
theorem d_Law_law_425 : decode b_Law_law 425 = .ok (.iadd, 1) := by decide +kernel
theorem d_Law_law_426 : decode b_Law_law 426 = .ok (.iaload, 1) := by decide +kernel
theorem d_Law_law_427 : decode b_Law_law 427 = .ok (.invokevirtual 60, 3) := by decide +kernel
theorem d_Law_law_430 : decode b_Law_law 430 = .ok (.aload_n 2, 1) := by decide +kernel
theorem d_Law_law_431 : decode b_Law_law 431 = .ok (.aload_n 0, 1) := by decide +kernel
theorem d_Law_law_432 : decode b_Law_law 432 = .ok (.iload_n 3, 1) := by decide +kernel
theorem d_Law_law_433 : decode b_Law_law 433 = .ok (.iconst 1, 1) := by decide +kernel
theorem d_Law_law_434 : decode b_Law_law 434 = .ok (.iadd, 1) := by decide +kernel
theorem d_Law_law_435 : decode b_Law_law 435 = .ok (.iaload, 1) := by decide +kernel
theorem d_Law_law_436 : decode b_Law_law 436 = .ok (.invokevirtual 63, 3) := by decide +kernel
theorem d_Law_law_439 : decode b_Law_law 439 = .ok (.if_icmp .eq 305, 3) := by decide +kernel
theorem d_Law_law_442 : decode b_Law_law 442 = .ok (.iconst 0, 1) := by decide +kernel
theorem d_Law_law_443 : decode b_Law_law 443 = .ok (.ireturn, 1) := by decide +kernel
theorem d_Law_law_444 : decode b_Law_law 444 = .ok (.aload_n 1, 1) := by decide +kernel
theorem d_Law_law_445 : decode b_Law_law 445 = .ok (.aload_n 0, 1) := by decide +kernel
theorem d_Law_law_446 : decode b_Law_law 446 = .ok (.iload_n 3, 1) := by decide +kernel
theorem d_Law_law_447 : decode b_Law_law 447 = .ok (.iconst 1, 1) := by decide +kernel
theorem d_Law_law_448 : decode b_Law_law 448 = .ok (.iadd, 1) := by decide +kernel
theorem d_Law_law_449 : decode b_Law_law 449 = .ok (.iaload, 1) := by decide +kernel
theorem d_Law_law_450 : decode b_Law_law 450 = .ok (.invokevirtual 64, 3) := by decide +kernel
theorem d_Law_law_453 : decode b_Law_law 453 = .ok (.aload_n 2, 1) := by decide +kernel
theorem d_Law_law_454 : decode b_Law_law 454 = .ok (.aload_n 0, 1) := by decide +kernel
theorem d_Law_law_455 : decode b_Law_law 455 = .ok (.iload_n 3, 1) := by decide +kernel
theorem d_Law_law_456 : decode b_Law_law 456 = .ok (.iconst 1, 1) := by decide +kernel
theorem d_Law_law_457 : decode b_Law_law 457 = .ok (.iadd, 1) := by decide +kernel
theorem d_Law_law_458 : decode b_Law_law 458 = .ok (.iaload, 1) := by decide +kernel
theorem d_Law_law_459 : decode b_Law_law 459 = .ok (.invokevirtual 67, 3) := by decide +kernel
theorem d_Law_law_462 : decode b_Law_law 462 = .ok (.if_icmp .eq 282, 3) := by decide +kernel
theorem d_Law_law_465 : decode b_Law_law 465 = .ok (.iconst 0, 1) := by decide +kernel
theorem d_Law_law_466 : decode b_Law_law 466 = .ok (.ireturn, 1) := by decide +kernel
theorem d_Law_law_467 : decode b_Law_law 467 = .ok (.aload_n 1, 1) := by decide +kernel
theorem d_Law_law_468 : decode b_Law_law 468 = .ok (.invokevirtual 68, 3) := by decide +kernel
theorem d_Law_law_471 : decode b_Law_law 471 = .ok (.aload_n 2, 1) := by decide +kernel
theorem d_Law_law_472 : decode b_Law_law 472 = .ok (.invokevirtual 71, 3) := by decide +kernel
theorem d_Law_law_475 : decode b_Law_law 475 = .ok (.if_icmp .eq 269, 3) := by decide +kernel
theorem d_Law_law_478 : decode b_Law_law 478 = .ok (.iconst 0, 1) := by decide +kernel
theorem d_Law_law_479 : decode b_Law_law 479 = .ok (.ireturn, 1) := by decide +kernel
theorem d_Law_law_480 : decode b_Law_law 480 = .ok (.aload_n 1, 1) := by decide +kernel
theorem d_Law_law_481 : decode b_Law_law 481 = .ok (.aload_n 0, 1) := by decide +kernel
theorem d_Law_law_482 : decode b_Law_law 482 = .ok (.iload_n 3, 1) := by decide +kernel
theorem d_Law_law_483 : decode b_Law_law 483 = .ok (.iconst 1, 1) := by decide +kernel
theorem d_Law_law_484 : decode b_Law_law 484 = .ok (.iadd, 1) := by decide +kernel
theorem d_Law_law_485 : decode b_Law_law 485 = .ok (.iaload, 1) := by decide +kernel
theorem d_Law_law_486 : decode b_Law_law 486 = .ok (.aload_n 0, 1) := by decide +kernel
theorem d_Law_law_487 : decode b_Law_law 487 = .ok (.iload_n 3, 1) := by decide +kernel
theorem d_Law_law_488 : decode b_Law_law 488 = .ok (.iconst 2, 1) := by decide +kernel
theorem d_Law_law_489 : decode b_Law_law 489 = .ok (.iadd, 1) := by decide +kernel
theorem d_Law_law_490 : decode b_Law_law 490 = .ok (.iaload, 1) := by decide +kernel
theorem d_Law_law_491 : decode b_Law_law 491 = .ok (.aload_n 0, 1) := by decide +kernel
theorem d_Law_law_492 : decode b_Law_law 492 = .ok (.iload_n 3, 1) := by decide +kernel
theorem d_Law_law_493 : decode b_Law_law 493 = .ok (.iconst 3, 1) := by decide +kernel
theorem d_Law_law_494 : decode b_Law_law 494 = .ok (.iadd, 1) := by decide +kernel
theorem d_Law_law_495 : decode b_Law_law 495 = .ok (.iaload, 1) := by decide +kernel
theorem d_Law_law_496 : decode b_Law_law 496 = .ok (.invokevirtual 72, 3) := by decide +kernel
theorem d_Law_law_499 : decode b_Law_law 499 = .ok (.aload_n 2, 1) := by decide +kernel
theorem d_Law_law_500 : decode b_Law_law 500 = .ok (.aload_n 0, 1) := by decide +kernel
theorem d_Law_law_501 : decode b_Law_law 501 = .ok (.iload_n 3, 1) := by decide +kernel
theorem d_Law_law_502 : decode b_Law_law 502 = .ok (.iconst 1, 1) := by decide +kernel
theorem d_Law_law_503 : decode b_Law_law 503 = .ok (.iadd, 1) := by decide +kernel
theorem d_Law_law_504 : decode b_Law_law 504 = .ok (.iaload, 1) := by decide +kernel
theorem d_Law_law_505 : decode b_Law_law 505 = .ok (.aload_n 0, 1) := by decide +kernel
theorem d_Law_law_506 : decode b_Law_law 506 = .ok (.iload_n 3, 1) := by decide +kernel
theorem d_Law_law_507 : decode b_Law_law 507 = .ok (.iconst 2, 1) := by decide +kernel
theorem d_Law_law_508 : decode b_Law_law 508 = .ok (.iadd, 1) := by decide +kernel
theorem d_Law_law_509 : decode b_Law_law 509 = .ok (.iaload, 1) := by decide +kernel
theorem d_Law_law_510 : decode b_Law_law 510 = .ok (.aload_n 0, 1) := by decide +kernel
theorem d_Law_law_511 : decode b_Law_law 511 = .ok (.iload_n 3, 1) := by decide +kernel
theorem d_Law_law_512 : decode b_Law_law 512 = .ok (.iconst 3, 1) := by decide +kernel
theorem d_Law_law_513 : decode b_Law_law 513 = .ok (.iadd, 1) := by decide +kernel
theorem d_Law_law_514 : decode b_Law_law 514 = .ok (.iaload, 1) := by decide +kernel
theorem d_Law_law_515 : decode b_Law_law 515 = .ok (.invokevirtual 76, 3) := by decide +kernel
theorem d_Law_law_518 : decode b_Law_law 518 = .ok (.if_icmp .eq 226, 3) := by decide +kernel
theorem d_Law_law_521 : decode b_Law_law 521 = .ok (.iconst 0, 1) := by decide +kernel
theorem d_Law_law_522 : decode b_Law_law 522 = .ok (.ireturn, 1) := by decide +kernel
theorem d_Law_law_523 : decode b_Law_law 523 = .ok (.aload_n 1, 1) := by decide +kernel
theorem d_Law_law_524 : decode b_Law_law 524 = .ok (.invokevirtual 77, 3) := by decide +kernel
theorem d_Law_law_527 : decode b_Law_law 527 = .ok (.aload_n 2, 1) := by decide +kernel
theorem d_Law_law_528 : decode b_Law_law 528 = .ok (.invokevirtual 80, 3) := by decide +kernel
theorem d_Law_law_531 : decode b_Law_law 531 = .ok (.if_icmp .eq 213, 3) := by decide +kernel
theorem d_Law_law_534 : decode b_Law_law 534 = .ok (.iconst 0, 1) := by decide +kernel
theorem d_Law_law_535 : decode b_Law_law 535 = .ok (.ireturn, 1) := by decide +kernel
theorem d_Law_law_536 : decode b_Law_law 536 = .ok (.aload_n 1, 1) := by decide +kernel
theorem d_Law_law_537 : decode b_Law_law 537 = .ok (.invokevirtual 81, 3) := by decide +kernel
theorem d_Law_law_540 : decode b_Law_law 540 = .ok (.aload_n 2, 1) := by decide +kernel
theorem d_Law_law_541 : decode b_Law_law 541 = .ok (.invokevirtual 84, 3) := by decide +kernel
theorem d_Law_law_544 : decode b_Law_law 544 = .ok (.if_icmp .eq 200, 3) := by decide +kernel
theorem d_Law_law_547 : decode b_Law_law 547 = .ok (.iconst 0, 1) := by decide +kernel
theorem d_Law_law_548 : decode b_Law_law 548 = .ok (.ireturn, 1) := by decide +kernel
theorem d_Law_law_549 : decode b_Law_law 549 = .ok (.aload_n 1, 1) := by decide +kernel
theorem d_Law_law_550 : decode b_Law_law 550 = .ok (.invokevirtual 85, 3) := by decide +kernel
theorem d_Law_law_553 : decode b_Law_law 553 = .ok (.aload_n 2, 1) := by decide +kernel
theorem d_Law_law_554 : decode b_Law_law 554 = .ok (.invokevirtual 89, 3) := by decide +kernel
theorem d_Law_law_557 : decode b_Law_law 557 = .ok (.lcmp, 1) := by decide +kernel
theorem d_Law_law_558 : decode b_Law_law 558 = .ok (.ifCond .eq 186, 3) := by decide +kernel
theorem d_Law_law_561 : decode b_Law_law 561 = .ok (.iconst 0, 1) := by decide +kernel
theorem d_Law_law_562 : decode b_Law_law 562 = .ok (.ireturn, 1) := by decide +kernel
theorem d_Law_law_563 : decode b_Law_law 563 = .ok (.aload_n 1, 1) := by decide +kernel
theorem d_Law_law_564 : decode b_Law_law 564 = .ok (.aload_n 0, 1) := by decide +kernel
theorem d_Law_law_565 : decode b_Law_law 565 = .ok (.iload_n 3, 1) := by decide +kernel
theorem d_Law_law_566 : decode b_Law_law 566 = .ok (.iconst 1, 1) := by decide +kernel
theorem d_Law_law_567 : decode b_Law_law 567 = .ok (.iadd, 1) := by decide +kernel
theorem d_Law_law_568 : decode b_Law_law 568 = .ok (.iaload, 1) := by decide +kernel
theorem d_Law_law_569 : decode b_Law_law 569 = .ok (.invokevirtual 90, 3) := by decide +kernel
theorem d_Law_law_572 : decode b_Law_law 572 = .ok (.aload_n 2, 1) := by decide +kernel
theorem d_Law_law_573 : decode b_Law_law 573 = .ok (.aload_n 0, 1) := by decide +kernel
theorem d_Law_law_574 : decode b_Law_law 574 = .ok (.iload_n 3, 1) := by decide +kernel
theorem d_Law_law_575 : decode b_Law_law 575 = .ok (.iconst 1, 1) := by decide +kernel
theorem d_Law_law_576 : decode b_Law_law 576 = .ok (.iadd, 1) := by decide +kernel
theorem d_Law_law_577 : decode b_Law_law 577 = .ok (.iaload, 1) := by decide +kernel
theorem d_Law_law_578 : decode b_Law_law 578 = .ok (.invokevirtual 93, 3) := by decide +kernel
theorem d_Law_law_581 : decode b_Law_law 581 = .ok (.if_icmp .eq 163, 3) := by decide +kernel
theorem d_Law_law_584 : decode b_Law_law 584 = .ok (.iconst 0, 1) := by decide +kernel
theorem d_Law_law_585 : decode b_Law_law 585 = .ok (.ireturn, 1) := by decide +kernel
theorem d_Law_law_586 : decode b_Law_law 586 = .ok (.aload_n 1, 1) := by decide +kernel
theorem d_Law_law_587 : decode b_Law_law 587 = .ok (.aload_n 0, 1) := by decide +kernel
theorem d_Law_law_588 : decode b_Law_law 588 = .ok (.iload_n 3, 1) := by decide +kernel
theorem d_Law_law_589 : decode b_Law_law 589 = .ok (.iconst 1, 1) := by decide +kernel
theorem d_Law_law_590 : decode b_Law_law 590 = .ok (.iadd, 1) := by decide +kernel
theorem d_Law_law_591 : decode b_Law_law 591 = .ok (.iaload, 1) := by decide +kernel
theorem d_Law_law_592 : decode b_Law_law 592 = .ok (.invokevirtual 94, 3) := by decide +kernel
theorem d_Law_law_595 : decode b_Law_law 595 = .ok (.aload_n 2, 1) := by decide +kernel
theorem d_Law_law_596 : decode b_Law_law 596 = .ok (.aload_n 0, 1) := by decide +kernel
theorem d_Law_law_597 : decode b_Law_law 597 = .ok (.iload_n 3, 1) := by decide +kernel
theorem d_Law_law_598 : decode b_Law_law 598 = .ok (.iconst 1, 1) := by decide +kernel
theorem d_Law_law_599 : decode b_Law_law 599 = .ok (.iadd, 1) := by decide +kernel
theorem d_Law_law_600 : decode b_Law_law 600 = .ok (.iaload, 1) := by decide +kernel
theorem d_Law_law_601 : decode b_Law_law 601 = .ok (.invokevirtual 97, 3) := by decide +kernel
theorem d_Law_law_604 : decode b_Law_law 604 = .ok (.if_icmp .eq 140, 3) := by decide +kernel
theorem d_Law_law_607 : decode b_Law_law 607 = .ok (.iconst 0, 1) := by decide +kernel
theorem d_Law_law_608 : decode b_Law_law 608 = .ok (.ireturn, 1) := by decide +kernel
theorem d_Law_law_609 : decode b_Law_law 609 = .ok (.aload_n 1, 1) := by decide +kernel
theorem d_Law_law_610 : decode b_Law_law 610 = .ok (.aload_n 0, 1) := by decide +kernel
theorem d_Law_law_611 : decode b_Law_law 611 = .ok (.iload_n 3, 1) := by decide +kernel
theorem d_Law_law_612 : decode b_Law_law 612 = .ok (.iconst 1, 1) := by decide +kernel
theorem d_Law_law_613 : decode b_Law_law 613 = .ok (.iadd, 1) := by decide +kernel
theorem d_Law_law_614 : decode b_Law_law 614 = .ok (.iaload, 1) := by decide +kernel
theorem d_Law_law_615 : decode b_Law_law 615 = .ok (.invokevirtual 98, 3) := by decide +kernel
theorem d_Law_law_618 : decode b_Law_law 618 = .ok (.aload_n 2, 1) := by decide +kernel
theorem d_Law_law_619 : decode b_Law_law 619 = .ok (.aload_n 0, 1) := by decide +kernel
theorem d_Law_law_620 : decode b_Law_law 620 = .ok (.iload_n 3, 1) := by decide +kernel
theorem d_Law_law_621 : decode b_Law_law 621 = .ok (.iconst 1, 1) := by decide +kernel
theorem d_Law_law_622 : decode b_Law_law 622 = .ok (.iadd, 1) := by decide +kernel
theorem d_Law_law_623 : decode b_Law_law 623 = .ok (.iaload, 1) := by decide +kernel
theorem d_Law_law_624 : decode b_Law_law 624 = .ok (.invokevirtual 101, 3) := by decide +kernel
theorem d_Law_law_627 : decode b_Law_law 627 = .ok (.if_icmp .eq 117, 3) := by decide +kernel
theorem d_Law_law_630 : decode b_Law_law 630 = .ok (.iconst 0, 1) := by decide +kernel
theorem d_Law_law_631 : decode b_Law_law 631 = .ok (.ireturn, 1) := by decide +kernel
theorem d_Law_law_632 : decode b_Law_law 632 = .ok (.aload_n 1, 1) := by decide +kernel
theorem d_Law_law_633 : decode b_Law_law 633 = .ok (.aload_n 0, 1) := by decide +kernel
theorem d_Law_law_634 : decode b_Law_law 634 = .ok (.iload_n 3, 1) := by decide +kernel
theorem d_Law_law_635 : decode b_Law_law 635 = .ok (.iconst 1, 1) := by decide +kernel
theorem d_Law_law_636 : decode b_Law_law 636 = .ok (.iadd, 1) := by decide +kernel
theorem d_Law_law_637 : decode b_Law_law 637 = .ok (.iaload, 1) := by decide +kernel
theorem d_Law_law_638 : decode b_Law_law 638 = .ok (.invokevirtual 102, 3) := by decide +kernel
theorem d_Law_law_641 : decode b_Law_law 641 = .ok (.aload_n 2, 1) := by decide +kernel
theorem d_Law_law_642 : decode b_Law_law 642 = .ok (.aload_n 0, 1) := by decide +kernel
theorem d_Law_law_643 : decode b_Law_law 643 = .ok (.iload_n 3, 1) := by decide +kernel
theorem d_Law_law_644 : decode b_Law_law 644 = .ok (.iconst 1, 1) := by decide +kernel
theorem d_Law_law_645 : decode b_Law_law 645 = .ok (.iadd, 1) := by decide +kernel
theorem d_Law_law_646 : decode b_Law_law 646 = .ok (.iaload, 1) := by decide +kernel
theorem d_Law_law_647 : decode b_Law_law 647 = .ok (.invokevirtual 105, 3) := by decide +kernel
theorem d_Law_law_650 : decode b_Law_law 650 = .ok (.if_icmp .eq 94, 3) := by decide +kernel
theorem d_Law_law_653 : decode b_Law_law 653 = .ok (.iconst 0, 1) := by decide +kernel
theorem d_Law_law_654 : decode b_Law_law 654 = .ok (.ireturn, 1) := by decide +kernel
theorem d_Law_law_655 : decode b_Law_law 655 = .ok (.aload_n 1, 1) := by decide +kernel
theorem d_Law_law_656 : decode b_Law_law 656 = .ok (.aload_n 0, 1) := by decide +kernel
theorem d_Law_law_657 : decode b_Law_law 657 = .ok (.iload_n 3, 1) := by decide +kernel
theorem d_Law_law_658 : decode b_Law_law 658 = .ok (.iconst 1, 1) := by decide +kernel
theorem d_Law_law_659 : decode b_Law_law 659 = .ok (.iadd, 1) := by decide +kernel
theorem d_Law_law_660 : decode b_Law_law 660 = .ok (.iaload, 1) := by decide +kernel
theorem d_Law_law_661 : decode b_Law_law 661 = .ok (.aload_n 0, 1) := by decide +kernel
theorem d_Law_law_662 : decode b_Law_law 662 = .ok (.iload_n 3, 1) := by decide +kernel
theorem d_Law_law_663 : decode b_Law_law 663 = .ok (.iconst 2, 1) := by decide +kernel
theorem d_Law_law_664 : decode b_Law_law 664 = .ok (.iadd, 1) := by decide +kernel
theorem d_Law_law_665 : decode b_Law_law 665 = .ok (.iaload, 1) := by decide +kernel
theorem d_Law_law_666 : decode b_Law_law 666 = .ok (.invokevirtual 106, 3) := by decide +kernel
theorem d_Law_law_669 : decode b_Law_law 669 = .ok (.aload_n 2, 1) := by decide +kernel
theorem d_Law_law_670 : decode b_Law_law 670 = .ok (.aload_n 0, 1) := by decide +kernel
theorem d_Law_law_671 : decode b_Law_law 671 = .ok (.iload_n 3, 1) := by decide +kernel
theorem d_Law_law_672 : decode b_Law_law 672 = .ok (.iconst 1, 1) := by decide +kernel
theorem d_Law_law_673 : decode b_Law_law 673 = .ok (.iadd, 1) := by decide +kernel
theorem d_Law_law_674 : decode b_Law_law 674 = .ok (.iaload, 1) := by decide +kernel
theorem d_Law_law_675 : decode b_Law_law 675 = .ok (.aload_n 0, 1) := by decide +kernel
theorem d_Law_law_676 : decode b_Law_law 676 = .ok (.iload_n 3, 1) := by decide +kernel
theorem d_Law_law_677 : decode b_Law_law 677 = .ok (.iconst 2, 1) := by decide +kernel
theorem d_Law_law_678 : decode b_Law_law 678 = .ok (.iadd, 1) := by decide +kernel
theorem d_Law_law_679 : decode b_Law_law 679 = .ok (.iaload, 1) := by decide +kernel
theorem d_Law_law_680 : decode b_Law_law 680 = .ok (.invokevirtual 109, 3) := by decide +kernel
theorem d_Law_law_683 : decode b_Law_law 683 = .ok (.if_icmp .eq 61, 3) := by decide +kernel
theorem d_Law_law_686 : decode b_Law_law 686 = .ok (.iconst 0, 1) := by decide +kernel
theorem d_Law_law_687 : decode b_Law_law 687 = .ok (.ireturn, 1) := by decide +kernel
theorem d_Law_law_688 : decode b_Law_law 688 = .ok (.aload_n 1, 1) := by decide +kernel
theorem d_Law_law_689 : decode b_Law_law 689 = .ok (.aload_n 0, 1) := by decide +kernel
theorem d_Law_law_690 : decode b_Law_law 690 = .ok (.iload_n 3, 1) := by decide +kernel
theorem d_Law_law_691 : decode b_Law_law 691 = .ok (.iconst 1, 1) := by decide +kernel
theorem d_Law_law_692 : decode b_Law_law 692 = .ok (.iadd, 1) := by decide +kernel
theorem d_Law_law_693 : decode b_Law_law 693 = .ok (.iaload, 1) := by decide +kernel
theorem d_Law_law_694 : decode b_Law_law 694 = .ok (.invokevirtual 110, 3) := by decide +kernel
theorem d_Law_law_697 : decode b_Law_law 697 = .ok (.aload_n 2, 1) := by decide +kernel
theorem d_Law_law_698 : decode b_Law_law 698 = .ok (.aload_n 0, 1) := by decide +kernel
theorem d_Law_law_699 : decode b_Law_law 699 = .ok (.iload_n 3, 1) := by decide +kernel
theorem d_Law_law_700 : decode b_Law_law 700 = .ok (.iconst 1, 1) := by decide +kernel
theorem d_Law_law_701 : decode b_Law_law 701 = .ok (.iadd, 1) := by decide +kernel
theorem d_Law_law_702 : decode b_Law_law 702 = .ok (.iaload, 1) := by decide +kernel
theorem d_Law_law_703 : decode b_Law_law 703 = .ok (.invokevirtual 113, 3) := by decide +kernel
theorem d_Law_law_706 : decode b_Law_law 706 = .ok (.if_icmp .eq 38, 3) := by decide +kernel
theorem d_Law_law_709 : decode b_Law_law 709 = .ok (.iconst 0, 1) := by decide +kernel
theorem d_Law_law_710 : decode b_Law_law 710 = .ok (.ireturn, 1) := by decide +kernel
theorem d_Law_law_711 : decode b_Law_law 711 = .ok (.aload_n 1, 1) := by decide +kernel
theorem d_Law_law_712 : decode b_Law_law 712 = .ok (.aload_n 0, 1) := by decide +kernel
theorem d_Law_law_713 : decode b_Law_law 713 = .ok (.iload_n 3, 1) := by decide +kernel
theorem d_Law_law_714 : decode b_Law_law 714 = .ok (.iconst 1, 1) := by decide +kernel
theorem d_Law_law_715 : decode b_Law_law 715 = .ok (.iadd, 1) := by decide +kernel
theorem d_Law_law_716 : decode b_Law_law 716 = .ok (.iaload, 1) := by decide +kernel
theorem d_Law_law_717 : decode b_Law_law 717 = .ok (.aload_n 0, 1) := by decide +kernel
theorem d_Law_law_718 : decode b_Law_law 718 = .ok (.iload_n 3, 1) := by decide +kernel
theorem d_Law_law_719 : decode b_Law_law 719 = .ok (.iconst 2, 1) := by decide +kernel
theorem d_Law_law_720 : decode b_Law_law 720 = .ok (.iadd, 1) := by decide +kernel
theorem d_Law_law_721 : decode b_Law_law 721 = .ok (.iaload, 1) := by decide +kernel
theorem d_Law_law_722 : decode b_Law_law 722 = .ok (.invokevirtual 114, 3) := by decide +kernel
theorem d_Law_law_725 : decode b_Law_law 725 = .ok (.aload_n 2, 1) := by decide +kernel
theorem d_Law_law_726 : decode b_Law_law 726 = .ok (.aload_n 0, 1) := by decide +kernel
theorem d_Law_law_727 : decode b_Law_law 727 = .ok (.iload_n 3, 1) := by decide +kernel
theorem d_Law_law_728 : decode b_Law_law 728 = .ok (.iconst 1, 1) := by decide +kernel
theorem d_Law_law_729 : decode b_Law_law 729 = .ok (.iadd, 1) := by decide +kernel
theorem d_Law_law_730 : decode b_Law_law 730 = .ok (.iaload, 1) := by decide +kernel
theorem d_Law_law_731 : decode b_Law_law 731 = .ok (.aload_n 0, 1) := by decide +kernel
theorem d_Law_law_732 : decode b_Law_law 732 = .ok (.iload_n 3, 1) := by decide +kernel
theorem d_Law_law_733 : decode b_Law_law 733 = .ok (.iconst 2, 1) := by decide +kernel
theorem d_Law_law_734 : decode b_Law_law 734 = .ok (.iadd, 1) := by decide +kernel
theorem d_Law_law_735 : decode b_Law_law 735 = .ok (.iaload, 1) := by decide +kernel
theorem d_Law_law_736 : decode b_Law_law 736 = .ok (.invokevirtual 117, 3) := by decide +kernel
theorem d_Law_law_739 : decode b_Law_law 739 = .ok (.if_icmp .eq 5, 3) := by decide +kernel
theorem d_Law_law_742 : decode b_Law_law 742 = .ok (.iconst 0, 1) := by decide +kernel
theorem d_Law_law_743 : decode b_Law_law 743 = .ok (.ireturn, 1) := by decide +kernel
theorem d_Law_law_744 : decode b_Law_law 744 = .ok (.iinc 3 4, 3) := by decide +kernel
theorem d_Law_law_747 : decode b_Law_law 747 = .ok (.goto (-729), 3) := by decide +kernel
theorem d_Law_law_750 : decode b_Law_law 750 = .ok (.iconst 1, 1) := by decide +kernel
theorem d_Law_law_751 : decode b_Law_law 751 = .ok (.ireturn, 1) := by decide +kernel
