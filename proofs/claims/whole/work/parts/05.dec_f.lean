theorem d_L_cell_0 : decode b_L_cell 0 = .ok (.iload_n 1, 1) := by decide +kernel
theorem d_L_cell_1 : decode b_L_cell 1 = .ok (.aload_n 0, 1) := by decide +kernel
theorem d_L_cell_2 : decode b_L_cell 2 = .ok (.arraylength, 1) := by decide +kernel
theorem d_L_cell_3 : decode b_L_cell 3 = .ok (.if_icmp .ge 9, 3) := by decide +kernel
theorem d_L_cell_6 : decode b_L_cell 6 = .ok (.aload_n 0, 1) := by decide +kernel
theorem d_L_cell_7 : decode b_L_cell 7 = .ok (.iload_n 1, 1) := by decide +kernel
theorem d_L_cell_8 : decode b_L_cell 8 = .ok (.iaload, 1) := by decide +kernel
theorem d_L_cell_9 : decode b_L_cell 9 = .ok (.goto 4, 3) := by decide +kernel
theorem d_L_cell_12 : decode b_L_cell 12 = .ok (.iconst 0, 1) := by decide +kernel
theorem d_L_cell_13 : decode b_L_cell 13 = .ok (.ireturn, 1) := by decide +kernel
theorem d_L_law_0 : decode code 0 = .ok (.new 7, 3) := by decide +kernel
theorem d_L_law_3 : decode code 3 = .ok (.dup, 1) := by decide +kernel
theorem d_L_law_4 : decode code 4 = .ok (.aload_n 0, 1) := by decide +kernel
theorem d_L_law_5 : decode code 5 = .ok (.iconst 0, 1) := by decide +kernel
theorem d_L_law_6 : decode code 6 = .ok (.invokestatic 9, 3) := by decide +kernel
theorem d_L_law_9 : decode code 9 = .ok (.aload_n 0, 1) := by decide +kernel
theorem d_L_law_10 : decode code 10 = .ok (.iconst 1, 1) := by decide +kernel
theorem d_L_law_11 : decode code 11 = .ok (.invokestatic 9, 3) := by decide +kernel
theorem d_L_law_14 : decode code 14 = .ok (.aload_n 0, 1) := by decide +kernel
theorem d_L_law_15 : decode code 15 = .ok (.iconst 2, 1) := by decide +kernel
theorem d_L_law_16 : decode code 16 = .ok (.invokestatic 9, 3) := by decide +kernel
theorem d_L_law_19 : decode code 19 = .ok (.aload_n 0, 1) := by decide +kernel
theorem d_L_law_20 : decode code 20 = .ok (.iconst 3, 1) := by decide +kernel
theorem d_L_law_21 : decode code 21 = .ok (.invokestatic 9, 3) := by decide +kernel
theorem d_L_law_24 : decode code 24 = .ok (.invokespecial 15, 3) := by decide +kernel
theorem d_L_law_27 : decode code 27 = .ok (.astore_n 1, 1) := by decide +kernel
theorem d_L_law_28 : decode code 28 = .ok (.new 18, 3) := by decide +kernel
theorem d_L_law_31 : decode code 31 = .ok (.dup, 1) := by decide +kernel
theorem d_L_law_32 : decode code 32 = .ok (.aload_n 0, 1) := by decide +kernel
theorem d_L_law_33 : decode code 33 = .ok (.iconst 0, 1) := by decide +kernel
theorem d_L_law_34 : decode code 34 = .ok (.invokestatic 9, 3) := by decide +kernel
theorem d_L_law_37 : decode code 37 = .ok (.aload_n 0, 1) := by decide +kernel
theorem d_L_law_38 : decode code 38 = .ok (.iconst 1, 1) := by decide +kernel
theorem d_L_law_39 : decode code 39 = .ok (.invokestatic 9, 3) := by decide +kernel
theorem d_L_law_42 : decode code 42 = .ok (.aload_n 0, 1) := by decide +kernel
theorem d_L_law_43 : decode code 43 = .ok (.iconst 2, 1) := by decide +kernel
theorem d_L_law_44 : decode code 44 = .ok (.invokestatic 9, 3) := by decide +kernel
theorem d_L_law_47 : decode code 47 = .ok (.aload_n 0, 1) := by decide +kernel
theorem d_L_law_48 : decode code 48 = .ok (.iconst 3, 1) := by decide +kernel
theorem d_L_law_49 : decode code 49 = .ok (.invokestatic 9, 3) := by decide +kernel
theorem d_L_law_52 : decode code 52 = .ok (.invokespecial 20, 3) := by decide +kernel
theorem d_L_law_55 : decode code 55 = .ok (.astore_n 2, 1) := by decide +kernel
theorem d_L_law_56 : decode code 56 = .ok (.iconst 4, 1) := by decide +kernel
theorem d_L_law_57 : decode code 57 = .ok (.istore_n 3, 1) := by decide +kernel
theorem d_L_law_58 : decode code 58 = .ok (.iload_n 3, 1) := by decide +kernel
theorem d_L_law_59 : decode code 59 = .ok (.aload_n 0, 1) := by decide +kernel
theorem d_L_law_60 : decode code 60 = .ok (.arraylength, 1) := by decide +kernel
theorem d_L_law_61 : decode code 61 = .ok (.bipush 6, 2) := by decide +kernel
theorem d_L_law_63 : decode code 63 = .ok (.isub, 1) := by decide +kernel
theorem d_L_law_64 : decode code 64 = .ok (.if_icmp .gt 707, 3) := by decide +kernel
theorem d_L_law_67 : decode code 67 = .ok (.aload_n 0, 1) := by decide +kernel
theorem d_L_law_68 : decode code 68 = .ok (.iload_n 3, 1) := by decide +kernel
theorem d_L_law_69 : decode code 69 = .ok (.iaload, 1) := by decide +kernel
theorem d_L_law_70 : decode code 70 = .ok (.bipush 31, 2) := by decide +kernel
theorem d_L_law_72 : decode code 72 = .ok (.iand, 1) := by decide +kernel
theorem d_L_law_73 : decode code 73 = .ok (.tableswitch 692 0 18 #[91, 144, 187, 256, 269, 280, 291, 314, 368, 431, 455, 478, 511, 534, 567, 590, 623, 666, 679], 91) := by decide +kernel
theorem d_L_law_164 : decode code 164 = .ok (.aload_n 1, 1) := by decide +kernel
theorem d_L_law_165 : decode code 165 = .ok (.aload_n 0, 1) := by decide +kernel
theorem d_L_law_166 : decode code 166 = .ok (.iload_n 3, 1) := by decide +kernel
theorem d_L_law_167 : decode code 167 = .ok (.iconst 1, 1) := by decide +kernel
theorem d_L_law_168 : decode code 168 = .ok (.iadd, 1) := by decide +kernel
theorem d_L_law_169 : decode code 169 = .ok (.iaload, 1) := by decide +kernel
theorem d_L_law_170 : decode code 170 = .ok (.aload_n 0, 1) := by decide +kernel
theorem d_L_law_171 : decode code 171 = .ok (.iload_n 3, 1) := by decide +kernel
theorem d_L_law_172 : decode code 172 = .ok (.iconst 2, 1) := by decide +kernel
theorem d_L_law_173 : decode code 173 = .ok (.iadd, 1) := by decide +kernel
theorem d_L_law_174 : decode code 174 = .ok (.iaload, 1) := by decide +kernel
theorem d_L_law_175 : decode code 175 = .ok (.aload_n 0, 1) := by decide +kernel
theorem d_L_law_176 : decode code 176 = .ok (.iload_n 3, 1) := by decide +kernel
theorem d_L_law_177 : decode code 177 = .ok (.iconst 3, 1) := by decide +kernel
theorem d_L_law_178 : decode code 178 = .ok (.iadd, 1) := by decide +kernel
theorem d_L_law_179 : decode code 179 = .ok (.iaload, 1) := by decide +kernel
theorem d_L_law_180 : decode code 180 = .ok (.aload_n 0, 1) := by decide +kernel
theorem d_L_law_181 : decode code 181 = .ok (.iload_n 3, 1) := by decide +kernel
theorem d_L_law_182 : decode code 182 = .ok (.iconst 4, 1) := by decide +kernel
theorem d_L_law_183 : decode code 183 = .ok (.iadd, 1) := by decide +kernel
theorem d_L_law_184 : decode code 184 = .ok (.iaload, 1) := by decide +kernel
theorem d_L_law_185 : decode code 185 = .ok (.invokevirtual 21, 3) := by decide +kernel
theorem d_L_law_188 : decode code 188 = .ok (.aload_n 2, 1) := by decide +kernel
theorem d_L_law_189 : decode code 189 = .ok (.aload_n 0, 1) := by decide +kernel
theorem d_L_law_190 : decode code 190 = .ok (.iload_n 3, 1) := by decide +kernel
theorem d_L_law_191 : decode code 191 = .ok (.iconst 1, 1) := by decide +kernel
theorem d_L_law_192 : decode code 192 = .ok (.iadd, 1) := by decide +kernel
theorem d_L_law_193 : decode code 193 = .ok (.iaload, 1) := by decide +kernel
theorem d_L_law_194 : decode code 194 = .ok (.aload_n 0, 1) := by decide +kernel
theorem d_L_law_195 : decode code 195 = .ok (.iload_n 3, 1) := by decide +kernel
theorem d_L_law_196 : decode code 196 = .ok (.iconst 2, 1) := by decide +kernel
theorem d_L_law_197 : decode code 197 = .ok (.iadd, 1) := by decide +kernel
theorem d_L_law_198 : decode code 198 = .ok (.iaload, 1) := by decide +kernel
theorem d_L_law_199 : decode code 199 = .ok (.aload_n 0, 1) := by decide +kernel
theorem d_L_law_200 : decode code 200 = .ok (.iload_n 3, 1) := by decide +kernel
theorem d_L_law_201 : decode code 201 = .ok (.iconst 3, 1) := by decide +kernel
theorem d_L_law_202 : decode code 202 = .ok (.iadd, 1) := by decide +kernel
theorem d_L_law_203 : decode code 203 = .ok (.iaload, 1) := by decide +kernel
theorem d_L_law_204 : decode code 204 = .ok (.aload_n 0, 1) := by decide +kernel
theorem d_L_law_205 : decode code 205 = .ok (.iload_n 3, 1) := by decide +kernel
theorem d_L_law_206 : decode code 206 = .ok (.iconst 4, 1) := by decide +kernel
theorem d_L_law_207 : decode code 207 = .ok (.iadd, 1) := by decide +kernel
theorem d_L_law_208 : decode code 208 = .ok (.iaload, 1) := by decide +kernel
theorem d_L_law_209 : decode code 209 = .ok (.invokevirtual 25, 3) := by decide +kernel
theorem d_L_law_212 : decode code 212 = .ok (.if_icmp .eq 553, 3) := by decide +kernel
theorem d_L_law_215 : decode code 215 = .ok (.iconst 0, 1) := by decide +kernel
theorem d_L_law_216 : decode code 216 = .ok (.ireturn, 1) := by decide +kernel
theorem d_L_law_217 : decode code 217 = .ok (.aload_n 1, 1) := by decide +kernel
theorem d_L_law_218 : decode code 218 = .ok (.aload_n 0, 1) := by decide +kernel
theorem d_L_law_219 : decode code 219 = .ok (.iload_n 3, 1) := by decide +kernel
theorem d_L_law_220 : decode code 220 = .ok (.iconst 1, 1) := by decide +kernel
theorem d_L_law_221 : decode code 221 = .ok (.iadd, 1) := by decide +kernel
theorem d_L_law_222 : decode code 222 = .ok (.iaload, 1) := by decide +kernel
theorem d_L_law_223 : decode code 223 = .ok (.aload_n 0, 1) := by decide +kernel
theorem d_L_law_224 : decode code 224 = .ok (.iload_n 3, 1) := by decide +kernel
theorem d_L_law_225 : decode code 225 = .ok (.iconst 2, 1) := by decide +kernel
theorem d_L_law_226 : decode code 226 = .ok (.iadd, 1) := by decide +kernel
theorem d_L_law_227 : decode code 227 = .ok (.iaload, 1) := by decide +kernel
theorem d_L_law_228 : decode code 228 = .ok (.aload_n 0, 1) := by decide +kernel
theorem d_L_law_229 : decode code 229 = .ok (.iload_n 3, 1) := by decide +kernel
theorem d_L_law_230 : decode code 230 = .ok (.iconst 3, 1) := by decide +kernel
theorem d_L_law_231 : decode code 231 = .ok (.iadd, 1) := by decide +kernel
theorem d_L_law_232 : decode code 232 = .ok (.iaload, 1) := by decide +kernel
theorem d_L_law_233 : decode code 233 = .ok (.invokevirtual 26, 3) := by decide +kernel
theorem d_L_law_236 : decode code 236 = .ok (.aload_n 2, 1) := by decide +kernel
theorem d_L_law_237 : decode code 237 = .ok (.aload_n 0, 1) := by decide +kernel
theorem d_L_law_238 : decode code 238 = .ok (.iload_n 3, 1) := by decide +kernel
theorem d_L_law_239 : decode code 239 = .ok (.iconst 1, 1) := by decide +kernel
theorem d_L_law_240 : decode code 240 = .ok (.iadd, 1) := by decide +kernel
theorem d_L_law_241 : decode code 241 = .ok (.iaload, 1) := by decide +kernel
theorem d_L_law_242 : decode code 242 = .ok (.aload_n 0, 1) := by decide +kernel
theorem d_L_law_243 : decode code 243 = .ok (.iload_n 3, 1) := by decide +kernel
theorem d_L_law_244 : decode code 244 = .ok (.iconst 2, 1) := by decide +kernel
theorem d_L_law_245 : decode code 245 = .ok (.iadd, 1) := by decide +kernel
theorem d_L_law_246 : decode code 246 = .ok (.iaload, 1) := by decide +kernel
theorem d_L_law_247 : decode code 247 = .ok (.aload_n 0, 1) := by decide +kernel
theorem d_L_law_248 : decode code 248 = .ok (.iload_n 3, 1) := by decide +kernel
theorem d_L_law_249 : decode code 249 = .ok (.iconst 3, 1) := by decide +kernel
theorem d_L_law_250 : decode code 250 = .ok (.iadd, 1) := by decide +kernel
theorem d_L_law_251 : decode code 251 = .ok (.iaload, 1) := by decide +kernel
theorem d_L_law_252 : decode code 252 = .ok (.invokevirtual 30, 3) := by decide +kernel
theorem d_L_law_255 : decode code 255 = .ok (.if_icmp .eq 510, 3) := by decide +kernel
theorem d_L_law_258 : decode code 258 = .ok (.iconst 0, 1) := by decide +kernel
theorem d_L_law_259 : decode code 259 = .ok (.ireturn, 1) := by decide +kernel
theorem d_L_law_260 : decode code 260 = .ok (.aload_n 1, 1) := by decide +kernel
theorem d_L_law_261 : decode code 261 = .ok (.aload_n 0, 1) := by decide +kernel
theorem d_L_law_262 : decode code 262 = .ok (.iload_n 3, 1) := by decide +kernel
theorem d_L_law_263 : decode code 263 = .ok (.iconst 1, 1) := by decide +kernel
theorem d_L_law_264 : decode code 264 = .ok (.iadd, 1) := by decide +kernel
theorem d_L_law_265 : decode code 265 = .ok (.iaload, 1) := by decide +kernel
theorem d_L_law_266 : decode code 266 = .ok (.aload_n 0, 1) := by decide +kernel
theorem d_L_law_267 : decode code 267 = .ok (.iload_n 3, 1) := by decide +kernel
theorem d_L_law_268 : decode code 268 = .ok (.iconst 2, 1) := by decide +kernel
theorem d_L_law_269 : decode code 269 = .ok (.iadd, 1) := by decide +kernel
theorem d_L_law_270 : decode code 270 = .ok (.iaload, 1) := by decide +kernel
theorem d_L_law_271 : decode code 271 = .ok (.aload_n 0, 1) := by decide +kernel
theorem d_L_law_272 : decode code 272 = .ok (.iload_n 3, 1) := by decide +kernel
theorem d_L_law_273 : decode code 273 = .ok (.iconst 3, 1) := by decide +kernel
theorem d_L_law_274 : decode code 274 = .ok (.iadd, 1) := by decide +kernel
theorem d_L_law_275 : decode code 275 = .ok (.iaload, 1) := by decide +kernel
theorem d_L_law_276 : decode code 276 = .ok (.ifCond .eq 7, 3) := by decide +kernel
theorem d_L_law_279 : decode code 279 = .ok (.iconst 1, 1) := by decide +kernel
theorem d_L_law_280 : decode code 280 = .ok (.goto 4, 3) := by decide +kernel
theorem d_L_law_283 : decode code 283 = .ok (.iconst 0, 1) := by decide +kernel
theorem d_L_law_284 : decode code 284 = .ok (.aload_n 0, 1) := by decide +kernel
theorem d_L_law_285 : decode code 285 = .ok (.iload_n 3, 1) := by decide +kernel
theorem d_L_law_286 : decode code 286 = .ok (.iconst 4, 1) := by decide +kernel
theorem d_L_law_287 : decode code 287 = .ok (.iadd, 1) := by decide +kernel
theorem d_L_law_288 : decode code 288 = .ok (.iaload, 1) := by decide +kernel
theorem d_L_law_289 : decode code 289 = .ok (.invokevirtual 31, 3) := by decide +kernel
theorem d_L_law_292 : decode code 292 = .ok (.aload_n 2, 1) := by decide +kernel
theorem d_L_law_293 : decode code 293 = .ok (.aload_n 0, 1) := by decide +kernel
theorem d_L_law_294 : decode code 294 = .ok (.iload_n 3, 1) := by decide +kernel
theorem d_L_law_295 : decode code 295 = .ok (.iconst 1, 1) := by decide +kernel
theorem d_L_law_296 : decode code 296 = .ok (.iadd, 1) := by decide +kernel
theorem d_L_law_297 : decode code 297 = .ok (.iaload, 1) := by decide +kernel
theorem d_L_law_298 : decode code 298 = .ok (.aload_n 0, 1) := by decide +kernel
theorem d_L_law_299 : decode code 299 = .ok (.iload_n 3, 1) := by decide +kernel
theorem d_L_law_300 : decode code 300 = .ok (.iconst 2, 1) := by decide +kernel
theorem d_L_law_301 : decode code 301 = .ok (.iadd, 1) := by decide +kernel
theorem d_L_law_302 : decode code 302 = .ok (.iaload, 1) := by decide +kernel
theorem d_L_law_303 : decode code 303 = .ok (.aload_n 0, 1) := by decide +kernel
theorem d_L_law_304 : decode code 304 = .ok (.iload_n 3, 1) := by decide +kernel
theorem d_L_law_305 : decode code 305 = .ok (.iconst 3, 1) := by decide +kernel
theorem d_L_law_306 : decode code 306 = .ok (.iadd, 1) := by decide +kernel
theorem d_L_law_307 : decode code 307 = .ok (.iaload, 1) := by decide +kernel
theorem d_L_law_308 : decode code 308 = .ok (.ifCond .eq 7, 3) := by decide +kernel
theorem d_L_law_311 : decode code 311 = .ok (.iconst 1, 1) := by decide +kernel
theorem d_L_law_312 : decode code 312 = .ok (.goto 4, 3) := by decide +kernel
theorem d_L_law_315 : decode code 315 = .ok (.iconst 0, 1) := by decide +kernel
theorem d_L_law_316 : decode code 316 = .ok (.aload_n 0, 1) := by decide +kernel
theorem d_L_law_317 : decode code 317 = .ok (.iload_n 3, 1) := by decide +kernel
theorem d_L_law_318 : decode code 318 = .ok (.iconst 4, 1) := by decide +kernel
theorem d_L_law_319 : decode code 319 = .ok (.iadd, 1) := by decide +kernel
theorem d_L_law_320 : decode code 320 = .ok (.iaload, 1) := by decide +kernel
theorem d_L_law_321 : decode code 321 = .ok (.invokevirtual 35, 3) := by decide +kernel
theorem d_L_law_324 : decode code 324 = .ok (.if_icmp .eq 441, 3) := by decide +kernel
theorem d_L_law_327 : decode code 327 = .ok (.iconst 0, 1) := by decide +kernel
theorem d_L_law_328 : decode code 328 = .ok (.ireturn, 1) := by decide +kernel
theorem d_L_law_329 : decode code 329 = .ok (.aload_n 1, 1) := by decide +kernel
theorem d_L_law_330 : decode code 330 = .ok (.invokevirtual 36, 3) := by decide +kernel
theorem d_L_law_333 : decode code 333 = .ok (.aload_n 2, 1) := by decide +kernel
theorem d_L_law_334 : decode code 334 = .ok (.invokevirtual 40, 3) := by decide +kernel
theorem d_L_law_337 : decode code 337 = .ok (.if_icmp .eq 428, 3) := by decide +kernel
theorem d_L_law_340 : decode code 340 = .ok (.iconst 0, 1) := by decide +kernel
theorem d_L_law_341 : decode code 341 = .ok (.ireturn, 1) := by decide +kernel
theorem d_L_law_342 : decode code 342 = .ok (.aload_n 1, 1) := by decide +kernel
theorem d_L_law_343 : decode code 343 = .ok (.invokevirtual 41, 3) := by decide +kernel
theorem d_L_law_346 : decode code 346 = .ok (.aload_n 2, 1) := by decide +kernel
theorem d_L_law_347 : decode code 347 = .ok (.invokevirtual 44, 3) := by decide +kernel
theorem d_L_law_350 : decode code 350 = .ok (.goto 415, 3) := by decide +kernel
theorem d_L_law_353 : decode code 353 = .ok (.aload_n 1, 1) := by decide +kernel
theorem d_L_law_354 : decode code 354 = .ok (.invokevirtual 45, 3) := by decide +kernel
theorem d_L_law_357 : decode code 357 = .ok (.aload_n 2, 1) := by decide +kernel
theorem d_L_law_358 : decode code 358 = .ok (.invokevirtual 48, 3) := by decide +kernel
theorem d_L_law_361 : decode code 361 = .ok (.goto 404, 3) := by decide +kernel
theorem d_L_law_364 : decode code 364 = .ok (.aload_n 1, 1) := by decide +kernel
theorem d_L_law_365 : decode code 365 = .ok (.aload_n 0, 1) := by decide +kernel
theorem d_L_law_366 : decode code 366 = .ok (.iload_n 3, 1) := by decide +kernel
theorem d_L_law_367 : decode code 367 = .ok (.iconst 1, 1) := by decide +kernel
theorem d_L_law_368 : decode code 368 = .ok (.iadd, 1) := by decide +kernel
theorem d_L_law_369 : decode code 369 = .ok (.iaload, 1) := by decide +kernel
theorem d_L_law_370 : decode code 370 = .ok (.invokevirtual 49, 3) := by decide +kernel
theorem d_L_law_373 : decode code 373 = .ok (.aload_n 2, 1) := by decide +kernel
theorem d_L_law_374 : decode code 374 = .ok (.aload_n 0, 1) := by decide +kernel
theorem d_L_law_375 : decode code 375 = .ok (.iload_n 3, 1) := by decide +kernel
theorem d_L_law_376 : decode code 376 = .ok (.iconst 1, 1) := by decide +kernel
theorem d_L_law_377 : decode code 377 = .ok (.iadd, 1) := by decide +kernel
theorem d_L_law_378 : decode code 378 = .ok (.iaload, 1) := by decide +kernel
theorem d_L_law_379 : decode code 379 = .ok (.invokevirtual 53, 3) := by decide +kernel
theorem d_L_law_382 : decode code 382 = .ok (.if_icmp .eq 383, 3) := by decide +kernel
theorem d_L_law_385 : decode code 385 = .ok (.iconst 0, 1) := by decide +kernel
theorem d_L_law_386 : decode code 386 = .ok (.ireturn, 1) := by decide +kernel
theorem d_L_law_387 : decode code 387 = .ok (.aload_n 1, 1) := by decide +kernel
theorem d_L_law_388 : decode code 388 = .ok (.aload_n 0, 1) := by decide +kernel
theorem d_L_law_389 : decode code 389 = .ok (.iload_n 3, 1) := by decide +kernel
theorem d_L_law_390 : decode code 390 = .ok (.iconst 1, 1) := by decide +kernel
theorem d_L_law_391 : decode code 391 = .ok (.iadd, 1) := by decide +kernel
theorem d_L_law_392 : decode code 392 = .ok (.iaload, 1) := by decide +kernel
theorem d_L_law_393 : decode code 393 = .ok (.aload_n 0, 1) := by decide +kernel
theorem d_L_law_394 : decode code 394 = .ok (.iload_n 3, 1) := by decide +kernel
theorem d_L_law_395 : decode code 395 = .ok (.iconst 2, 1) := by decide +kernel
theorem d_L_law_396 : decode code 396 = .ok (.iadd, 1) := by decide +kernel
theorem d_L_law_397 : decode code 397 = .ok (.iaload, 1) := by decide +kernel
theorem d_L_law_398 : decode code 398 = .ok (.aload_n 0, 1) := by decide +kernel
theorem d_L_law_399 : decode code 399 = .ok (.iload_n 3, 1) := by decide +kernel
theorem d_L_law_400 : decode code 400 = .ok (.iconst 3, 1) := by decide +kernel
theorem d_L_law_401 : decode code 401 = .ok (.iadd, 1) := by decide +kernel
theorem d_L_law_402 : decode code 402 = .ok (.iaload, 1) := by decide +kernel
theorem d_L_law_403 : decode code 403 = .ok (.aload_n 0, 1) := by decide +kernel
theorem d_L_law_404 : decode code 404 = .ok (.iload_n 3, 1) := by decide +kernel
theorem d_L_law_405 : decode code 405 = .ok (.iconst 4, 1) := by decide +kernel
theorem d_L_law_406 : decode code 406 = .ok (.iadd, 1) := by decide +kernel
theorem d_L_law_407 : decode code 407 = .ok (.iaload, 1) := by decide +kernel
theorem d_L_law_408 : decode code 408 = .ok (.invokevirtual 54, 3) := by decide +kernel
theorem d_L_law_411 : decode code 411 = .ok (.aload_n 2, 1) := by decide +kernel
theorem d_L_law_412 : decode code 412 = .ok (.aload_n 0, 1) := by decide +kernel
theorem d_L_law_413 : decode code 413 = .ok (.iload_n 3, 1) := by decide +kernel
theorem d_L_law_414 : decode code 414 = .ok (.iconst 1, 1) := by decide +kernel
theorem d_L_law_415 : decode code 415 = .ok (.iadd, 1) := by decide +kernel
theorem d_L_law_416 : decode code 416 = .ok (.iaload, 1) := by decide +kernel
theorem d_L_law_417 : decode code 417 = .ok (.aload_n 0, 1) := by decide +kernel
theorem d_L_law_418 : decode code 418 = .ok (.iload_n 3, 1) := by decide +kernel
theorem d_L_law_419 : decode code 419 = .ok (.iconst 2, 1) := by decide +kernel
theorem d_L_law_420 : decode code 420 = .ok (.iadd, 1) := by decide +kernel
theorem d_L_law_421 : decode code 421 = .ok (.iaload, 1) := by decide +kernel
theorem d_L_law_422 : decode code 422 = .ok (.aload_n 0, 1) := by decide +kernel
theorem d_L_law_423 : decode code 423 = .ok (.iload_n 3, 1) := by decide +kernel
theorem d_L_law_424 : decode code 424 = .ok (.iconst 3, 1) := by decide +kernel
theorem d_L_law_425 : decode code 425 = .ok (.iadd, 1) := by decide +kernel
theorem d_L_law_426 : decode code 426 = .ok (.iaload, 1) := by decide +kernel
theorem d_L_law_427 : decode code 427 = .ok (.aload_n 0, 1) := by decide +kernel
theorem d_L_law_428 : decode code 428 = .ok (.iload_n 3, 1) := by decide +kernel
theorem d_L_law_429 : decode code 429 = .ok (.iconst 4, 1) := by decide +kernel
theorem d_L_law_430 : decode code 430 = .ok (.iadd, 1) := by decide +kernel
theorem d_L_law_431 : decode code 431 = .ok (.iaload, 1) := by decide +kernel
theorem d_L_law_432 : decode code 432 = .ok (.invokevirtual 58, 3) := by decide +kernel
theorem d_L_law_435 : decode code 435 = .ok (.lcmp, 1) := by decide +kernel
theorem d_L_law_436 : decode code 436 = .ok (.ifCond .eq 329, 3) := by decide +kernel
theorem d_L_law_439 : decode code 439 = .ok (.iconst 0, 1) := by decide +kernel
theorem d_L_law_440 : decode code 440 = .ok (.ireturn, 1) := by decide +kernel
theorem d_L_law_441 : decode code 441 = .ok (.aload_n 1, 1) := by decide +kernel
theorem d_L_law_442 : decode code 442 = .ok (.aload_n 0, 1) := by decide +kernel
theorem d_L_law_443 : decode code 443 = .ok (.iload_n 3, 1) := by decide +kernel
theorem d_L_law_444 : decode code 444 = .ok (.iconst 1, 1) := by decide +kernel
theorem d_L_law_445 : decode code 445 = .ok (.iadd, 1) := by decide +kernel
theorem d_L_law_446 : decode code 446 = .ok (.iaload, 1) := by decide +kernel
theorem d_L_law_447 : decode code 447 = .ok (.aload_n 0, 1) := by decide +kernel
theorem d_L_law_448 : decode code 448 = .ok (.iload_n 3, 1) := by decide +kernel
theorem d_L_law_449 : decode code 449 = .ok (.iconst 2, 1) := by decide +kernel
theorem d_L_law_450 : decode code 450 = .ok (.iadd, 1) := by decide +kernel
theorem d_L_law_451 : decode code 451 = .ok (.iaload, 1) := by decide +kernel
theorem d_L_law_452 : decode code 452 = .ok (.aload_n 0, 1) := by decide +kernel
theorem d_L_law_453 : decode code 453 = .ok (.iload_n 3, 1) := by decide +kernel
theorem d_L_law_454 : decode code 454 = .ok (.iconst 3, 1) := by decide +kernel
theorem d_L_law_455 : decode code 455 = .ok (.iadd, 1) := by decide +kernel
theorem d_L_law_456 : decode code 456 = .ok (.iaload, 1) := by decide +kernel
theorem d_L_law_457 : decode code 457 = .ok (.aload_n 0, 1) := by decide +kernel
theorem d_L_law_458 : decode code 458 = .ok (.iload_n 3, 1) := by decide +kernel
theorem d_L_law_459 : decode code 459 = .ok (.iconst 4, 1) := by decide +kernel
theorem d_L_law_460 : decode code 460 = .ok (.iadd, 1) := by decide +kernel
theorem d_L_law_461 : decode code 461 = .ok (.iaload, 1) := by decide +kernel
theorem d_L_law_462 : decode code 462 = .ok (.aload_n 0, 1) := by decide +kernel
theorem d_L_law_463 : decode code 463 = .ok (.iload_n 3, 1) := by decide +kernel
theorem d_L_law_464 : decode code 464 = .ok (.iconst 5, 1) := by decide +kernel
theorem d_L_law_465 : decode code 465 = .ok (.iadd, 1) := by decide +kernel
theorem d_L_law_466 : decode code 466 = .ok (.iaload, 1) := by decide +kernel
theorem d_L_law_467 : decode code 467 = .ok (.invokevirtual 59, 3) := by decide +kernel
theorem d_L_law_470 : decode code 470 = .ok (.aload_n 2, 1) := by decide +kernel
theorem d_L_law_471 : decode code 471 = .ok (.aload_n 0, 1) := by decide +kernel
theorem d_L_law_472 : decode code 472 = .ok (.iload_n 3, 1) := by decide +kernel
theorem d_L_law_473 : decode code 473 = .ok (.iconst 1, 1) := by decide +kernel
theorem d_L_law_474 : decode code 474 = .ok (.iadd, 1) := by decide +kernel
theorem d_L_law_475 : decode code 475 = .ok (.iaload, 1) := by decide +kernel
theorem d_L_law_476 : decode code 476 = .ok (.aload_n 0, 1) := by decide +kernel
theorem d_L_law_477 : decode code 477 = .ok (.iload_n 3, 1) := by decide +kernel
theorem d_L_law_478 : decode code 478 = .ok (.iconst 2, 1) := by decide +kernel
theorem d_L_law_479 : decode code 479 = .ok (.iadd, 1) := by decide +kernel
theorem d_L_law_480 : decode code 480 = .ok (.iaload, 1) := by decide +kernel
theorem d_L_law_481 : decode code 481 = .ok (.aload_n 0, 1) := by decide +kernel
theorem d_L_law_482 : decode code 482 = .ok (.iload_n 3, 1) := by decide +kernel
theorem d_L_law_483 : decode code 483 = .ok (.iconst 3, 1) := by decide +kernel
theorem d_L_law_484 : decode code 484 = .ok (.iadd, 1) := by decide +kernel
theorem d_L_law_485 : decode code 485 = .ok (.iaload, 1) := by decide +kernel
theorem d_L_law_486 : decode code 486 = .ok (.aload_n 0, 1) := by decide +kernel
theorem d_L_law_487 : decode code 487 = .ok (.iload_n 3, 1) := by decide +kernel
theorem d_L_law_488 : decode code 488 = .ok (.iconst 4, 1) := by decide +kernel
theorem d_L_law_489 : decode code 489 = .ok (.iadd, 1) := by decide +kernel
theorem d_L_law_490 : decode code 490 = .ok (.iaload, 1) := by decide +kernel
theorem d_L_law_491 : decode code 491 = .ok (.aload_n 0, 1) := by decide +kernel
theorem d_L_law_492 : decode code 492 = .ok (.iload_n 3, 1) := by decide +kernel
theorem d_L_law_493 : decode code 493 = .ok (.iconst 5, 1) := by decide +kernel
theorem d_L_law_494 : decode code 494 = .ok (.iadd, 1) := by decide +kernel
theorem d_L_law_495 : decode code 495 = .ok (.iaload, 1) := by decide +kernel
theorem d_L_law_496 : decode code 496 = .ok (.invokevirtual 63, 3) := by decide +kernel
theorem d_L_law_499 : decode code 499 = .ok (.if_icmp .eq 266, 3) := by decide +kernel
theorem d_L_law_502 : decode code 502 = .ok (.iconst 0, 1) := by decide +kernel
theorem d_L_law_503 : decode code 503 = .ok (.ireturn, 1) := by decide +kernel
theorem d_L_law_504 : decode code 504 = .ok (.aload_n 1, 1) := by decide +kernel
theorem d_L_law_505 : decode code 505 = .ok (.aload_n 0, 1) := by decide +kernel
theorem d_L_law_506 : decode code 506 = .ok (.iload_n 3, 1) := by decide +kernel
theorem d_L_law_507 : decode code 507 = .ok (.iconst 1, 1) := by decide +kernel
theorem d_L_law_508 : decode code 508 = .ok (.iadd, 1) := by decide +kernel
theorem d_L_law_509 : decode code 509 = .ok (.iaload, 1) := by decide +kernel
theorem d_L_law_510 : decode code 510 = .ok (.invokevirtual 64, 3) := by decide +kernel
theorem d_L_law_513 : decode code 513 = .ok (.aload_n 2, 1) := by decide +kernel
theorem d_L_law_514 : decode code 514 = .ok (.aload_n 0, 1) := by decide +kernel
theorem d_L_law_515 : decode code 515 = .ok (.iload_n 3, 1) := by decide +kernel
theorem d_L_law_516 : decode code 516 = .ok (.iconst 1, 1) := by decide +kernel
theorem d_L_law_517 : decode code 517 = .ok (.iadd, 1) := by decide +kernel
theorem d_L_law_518 : decode code 518 = .ok (.iaload, 1) := by decide +kernel
theorem d_L_law_519 : decode code 519 = .ok (.invokevirtual 68, 3) := by decide +kernel
theorem d_L_law_522 : decode code 522 = .ok (.lcmp, 1) := by decide +kernel
theorem d_L_law_523 : decode code 523 = .ok (.ifCond .eq 242, 3) := by decide +kernel
theorem d_L_law_526 : decode code 526 = .ok (.iconst 0, 1) := by decide +kernel
theorem d_L_law_527 : decode code 527 = .ok (.ireturn, 1) := by decide +kernel
theorem d_L_law_528 : decode code 528 = .ok (.aload_n 1, 1) := by decide +kernel
theorem d_L_law_529 : decode code 529 = .ok (.aload_n 0, 1) := by decide +kernel
theorem d_L_law_530 : decode code 530 = .ok (.iload_n 3, 1) := by decide +kernel
theorem d_L_law_531 : decode code 531 = .ok (.iconst 1, 1) := by decide +kernel
theorem d_L_law_532 : decode code 532 = .ok (.iadd, 1) := by decide +kernel
theorem d_L_law_533 : decode code 533 = .ok (.iaload, 1) := by decide +kernel
theorem d_L_law_534 : decode code 534 = .ok (.invokevirtual 69, 3) := by decide +kernel
theorem d_L_law_537 : decode code 537 = .ok (.aload_n 2, 1) := by decide +kernel
theorem d_L_law_538 : decode code 538 = .ok (.aload_n 0, 1) := by decide +kernel
theorem d_L_law_539 : decode code 539 = .ok (.iload_n 3, 1) := by decide +kernel
theorem d_L_law_540 : decode code 540 = .ok (.iconst 1, 1) := by decide +kernel
theorem d_L_law_541 : decode code 541 = .ok (.iadd, 1) := by decide +kernel
theorem d_L_law_542 : decode code 542 = .ok (.iaload, 1) := by decide +kernel
theorem d_L_law_543 : decode code 543 = .ok (.invokevirtual 72, 3) := by decide +kernel
theorem d_L_law_546 : decode code 546 = .ok (.if_icmp .eq 219, 3) := by decide +kernel
theorem d_L_law_549 : decode code 549 = .ok (.iconst 0, 1) := by decide +kernel
theorem d_L_law_550 : decode code 550 = .ok (.ireturn, 1) := by decide +kernel
theorem d_L_law_551 : decode code 551 = .ok (.aload_n 1, 1) := by decide +kernel
theorem d_L_law_552 : decode code 552 = .ok (.aload_n 0, 1) := by decide +kernel
theorem d_L_law_553 : decode code 553 = .ok (.iload_n 3, 1) := by decide +kernel
theorem d_L_law_554 : decode code 554 = .ok (.iconst 1, 1) := by decide +kernel
theorem d_L_law_555 : decode code 555 = .ok (.iadd, 1) := by decide +kernel
theorem d_L_law_556 : decode code 556 = .ok (.iaload, 1) := by decide +kernel
theorem d_L_law_557 : decode code 557 = .ok (.aload_n 0, 1) := by decide +kernel
theorem d_L_law_558 : decode code 558 = .ok (.iload_n 3, 1) := by decide +kernel
theorem d_L_law_559 : decode code 559 = .ok (.iconst 2, 1) := by decide +kernel
theorem d_L_law_560 : decode code 560 = .ok (.iadd, 1) := by decide +kernel
theorem d_L_law_561 : decode code 561 = .ok (.iaload, 1) := by decide +kernel
theorem d_L_law_562 : decode code 562 = .ok (.invokevirtual 73, 3) := by decide +kernel
theorem d_L_law_565 : decode code 565 = .ok (.aload_n 2, 1) := by decide +kernel
theorem d_L_law_566 : decode code 566 = .ok (.aload_n 0, 1) := by decide +kernel
theorem d_L_law_567 : decode code 567 = .ok (.iload_n 3, 1) := by decide +kernel
theorem d_L_law_568 : decode code 568 = .ok (.iconst 1, 1) := by decide +kernel
theorem d_L_law_569 : decode code 569 = .ok (.iadd, 1) := by decide +kernel
theorem d_L_law_570 : decode code 570 = .ok (.iaload, 1) := by decide +kernel
theorem d_L_law_571 : decode code 571 = .ok (.aload_n 0, 1) := by decide +kernel
theorem d_L_law_572 : decode code 572 = .ok (.iload_n 3, 1) := by decide +kernel
theorem d_L_law_573 : decode code 573 = .ok (.iconst 2, 1) := by decide +kernel
theorem d_L_law_574 : decode code 574 = .ok (.iadd, 1) := by decide +kernel
theorem d_L_law_575 : decode code 575 = .ok (.iaload, 1) := by decide +kernel
theorem d_L_law_576 : decode code 576 = .ok (.invokevirtual 77, 3) := by decide +kernel
theorem d_L_law_579 : decode code 579 = .ok (.if_icmp .eq 186, 3) := by decide +kernel
theorem d_L_law_582 : decode code 582 = .ok (.iconst 0, 1) := by decide +kernel
theorem d_L_law_583 : decode code 583 = .ok (.ireturn, 1) := by decide +kernel
theorem d_L_law_584 : decode code 584 = .ok (.aload_n 1, 1) := by decide +kernel
theorem d_L_law_585 : decode code 585 = .ok (.aload_n 0, 1) := by decide +kernel
theorem d_L_law_586 : decode code 586 = .ok (.iload_n 3, 1) := by decide +kernel
theorem d_L_law_587 : decode code 587 = .ok (.iconst 1, 1) := by decide +kernel
theorem d_L_law_588 : decode code 588 = .ok (.iadd, 1) := by decide +kernel
theorem d_L_law_589 : decode code 589 = .ok (.iaload, 1) := by decide +kernel
theorem d_L_law_590 : decode code 590 = .ok (.invokevirtual 78, 3) := by decide +kernel
theorem d_L_law_593 : decode code 593 = .ok (.aload_n 2, 1) := by decide +kernel
theorem d_L_law_594 : decode code 594 = .ok (.aload_n 0, 1) := by decide +kernel
theorem d_L_law_595 : decode code 595 = .ok (.iload_n 3, 1) := by decide +kernel
theorem d_L_law_596 : decode code 596 = .ok (.iconst 1, 1) := by decide +kernel
theorem d_L_law_597 : decode code 597 = .ok (.iadd, 1) := by decide +kernel
theorem d_L_law_598 : decode code 598 = .ok (.iaload, 1) := by decide +kernel
theorem d_L_law_599 : decode code 599 = .ok (.invokevirtual 81, 3) := by decide +kernel
theorem d_L_law_602 : decode code 602 = .ok (.if_icmp .eq 163, 3) := by decide +kernel
theorem d_L_law_605 : decode code 605 = .ok (.iconst 0, 1) := by decide +kernel
theorem d_L_law_606 : decode code 606 = .ok (.ireturn, 1) := by decide +kernel
theorem d_L_law_607 : decode code 607 = .ok (.aload_n 1, 1) := by decide +kernel
theorem d_L_law_608 : decode code 608 = .ok (.aload_n 0, 1) := by decide +kernel
theorem d_L_law_609 : decode code 609 = .ok (.iload_n 3, 1) := by decide +kernel
theorem d_L_law_610 : decode code 610 = .ok (.iconst 1, 1) := by decide +kernel
theorem d_L_law_611 : decode code 611 = .ok (.iadd, 1) := by decide +kernel
theorem d_L_law_612 : decode code 612 = .ok (.iaload, 1) := by decide +kernel
theorem d_L_law_613 : decode code 613 = .ok (.aload_n 0, 1) := by decide +kernel
theorem d_L_law_614 : decode code 614 = .ok (.iload_n 3, 1) := by decide +kernel
theorem d_L_law_615 : decode code 615 = .ok (.iconst 2, 1) := by decide +kernel
theorem d_L_law_616 : decode code 616 = .ok (.iadd, 1) := by decide +kernel
theorem d_L_law_617 : decode code 617 = .ok (.iaload, 1) := by decide +kernel
theorem d_L_law_618 : decode code 618 = .ok (.invokevirtual 82, 3) := by decide +kernel
theorem d_L_law_621 : decode code 621 = .ok (.aload_n 2, 1) := by decide +kernel
theorem d_L_law_622 : decode code 622 = .ok (.aload_n 0, 1) := by decide +kernel
theorem d_L_law_623 : decode code 623 = .ok (.iload_n 3, 1) := by decide +kernel
theorem d_L_law_624 : decode code 624 = .ok (.iconst 1, 1) := by decide +kernel
theorem d_L_law_625 : decode code 625 = .ok (.iadd, 1) := by decide +kernel
theorem d_L_law_626 : decode code 626 = .ok (.iaload, 1) := by decide +kernel
theorem d_L_law_627 : decode code 627 = .ok (.aload_n 0, 1) := by decide +kernel
theorem d_L_law_628 : decode code 628 = .ok (.iload_n 3, 1) := by decide +kernel
theorem d_L_law_629 : decode code 629 = .ok (.iconst 2, 1) := by decide +kernel
theorem d_L_law_630 : decode code 630 = .ok (.iadd, 1) := by decide +kernel
theorem d_L_law_631 : decode code 631 = .ok (.iaload, 1) := by decide +kernel
theorem d_L_law_632 : decode code 632 = .ok (.invokevirtual 86, 3) := by decide +kernel
theorem d_L_law_635 : decode code 635 = .ok (.if_icmp .eq 130, 3) := by decide +kernel
theorem d_L_law_638 : decode code 638 = .ok (.iconst 0, 1) := by decide +kernel
theorem d_L_law_639 : decode code 639 = .ok (.ireturn, 1) := by decide +kernel
theorem d_L_law_640 : decode code 640 = .ok (.aload_n 1, 1) := by decide +kernel
theorem d_L_law_641 : decode code 641 = .ok (.aload_n 0, 1) := by decide +kernel
theorem d_L_law_642 : decode code 642 = .ok (.iload_n 3, 1) := by decide +kernel
theorem d_L_law_643 : decode code 643 = .ok (.iconst 1, 1) := by decide +kernel
theorem d_L_law_644 : decode code 644 = .ok (.iadd, 1) := by decide +kernel
theorem d_L_law_645 : decode code 645 = .ok (.iaload, 1) := by decide +kernel
theorem d_L_law_646 : decode code 646 = .ok (.invokevirtual 87, 3) := by decide +kernel
theorem d_L_law_649 : decode code 649 = .ok (.aload_n 2, 1) := by decide +kernel
theorem d_L_law_650 : decode code 650 = .ok (.aload_n 0, 1) := by decide +kernel
theorem d_L_law_651 : decode code 651 = .ok (.iload_n 3, 1) := by decide +kernel
theorem d_L_law_652 : decode code 652 = .ok (.iconst 1, 1) := by decide +kernel
theorem d_L_law_653 : decode code 653 = .ok (.iadd, 1) := by decide +kernel
theorem d_L_law_654 : decode code 654 = .ok (.iaload, 1) := by decide +kernel
theorem d_L_law_655 : decode code 655 = .ok (.invokevirtual 91, 3) := by decide +kernel
theorem d_L_law_658 : decode code 658 = .ok (.if_icmp .eq 107, 3) := by decide +kernel
theorem d_L_law_661 : decode code 661 = .ok (.iconst 0, 1) := by decide +kernel
theorem d_L_law_662 : decode code 662 = .ok (.ireturn, 1) := by decide +kernel
theorem d_L_law_663 : decode code 663 = .ok (.aload_n 1, 1) := by decide +kernel
theorem d_L_law_664 : decode code 664 = .ok (.aload_n 0, 1) := by decide +kernel
theorem d_L_law_665 : decode code 665 = .ok (.iload_n 3, 1) := by decide +kernel
theorem d_L_law_666 : decode code 666 = .ok (.iconst 1, 1) := by decide +kernel
theorem d_L_law_667 : decode code 667 = .ok (.iadd, 1) := by decide +kernel
theorem d_L_law_668 : decode code 668 = .ok (.iaload, 1) := by decide +kernel
theorem d_L_law_669 : decode code 669 = .ok (.aload_n 0, 1) := by decide +kernel
theorem d_L_law_670 : decode code 670 = .ok (.iload_n 3, 1) := by decide +kernel
theorem d_L_law_671 : decode code 671 = .ok (.iconst 2, 1) := by decide +kernel
theorem d_L_law_672 : decode code 672 = .ok (.iadd, 1) := by decide +kernel
theorem d_L_law_673 : decode code 673 = .ok (.iaload, 1) := by decide +kernel
theorem d_L_law_674 : decode code 674 = .ok (.invokevirtual 92, 3) := by decide +kernel
theorem d_L_law_677 : decode code 677 = .ok (.aload_n 2, 1) := by decide +kernel
theorem d_L_law_678 : decode code 678 = .ok (.aload_n 0, 1) := by decide +kernel
theorem d_L_law_679 : decode code 679 = .ok (.iload_n 3, 1) := by decide +kernel
theorem d_L_law_680 : decode code 680 = .ok (.iconst 1, 1) := by decide +kernel
theorem d_L_law_681 : decode code 681 = .ok (.iadd, 1) := by decide +kernel
theorem d_L_law_682 : decode code 682 = .ok (.iaload, 1) := by decide +kernel
theorem d_L_law_683 : decode code 683 = .ok (.aload_n 0, 1) := by decide +kernel
theorem d_L_law_684 : decode code 684 = .ok (.iload_n 3, 1) := by decide +kernel
theorem d_L_law_685 : decode code 685 = .ok (.iconst 2, 1) := by decide +kernel
theorem d_L_law_686 : decode code 686 = .ok (.iadd, 1) := by decide +kernel
theorem d_L_law_687 : decode code 687 = .ok (.iaload, 1) := by decide +kernel
theorem d_L_law_688 : decode code 688 = .ok (.invokevirtual 95, 3) := by decide +kernel
theorem d_L_law_691 : decode code 691 = .ok (.if_icmp .eq 74, 3) := by decide +kernel
theorem d_L_law_694 : decode code 694 = .ok (.iconst 0, 1) := by decide +kernel
theorem d_L_law_695 : decode code 695 = .ok (.ireturn, 1) := by decide +kernel
theorem d_L_law_696 : decode code 696 = .ok (.aload_n 1, 1) := by decide +kernel
theorem d_L_law_697 : decode code 697 = .ok (.aload_n 0, 1) := by decide +kernel
theorem d_L_law_698 : decode code 698 = .ok (.iload_n 3, 1) := by decide +kernel
theorem d_L_law_699 : decode code 699 = .ok (.iconst 1, 1) := by decide +kernel
theorem d_L_law_700 : decode code 700 = .ok (.iadd, 1) := by decide +kernel
theorem d_L_law_701 : decode code 701 = .ok (.iaload, 1) := by decide +kernel
theorem d_L_law_702 : decode code 702 = .ok (.aload_n 0, 1) := by decide +kernel
theorem d_L_law_703 : decode code 703 = .ok (.iload_n 3, 1) := by decide +kernel
theorem d_L_law_704 : decode code 704 = .ok (.iconst 2, 1) := by decide +kernel
theorem d_L_law_705 : decode code 705 = .ok (.iadd, 1) := by decide +kernel
theorem d_L_law_706 : decode code 706 = .ok (.iaload, 1) := by decide +kernel
theorem d_L_law_707 : decode code 707 = .ok (.aload_n 0, 1) := by decide +kernel
theorem d_L_law_708 : decode code 708 = .ok (.iload_n 3, 1) := by decide +kernel
theorem d_L_law_709 : decode code 709 = .ok (.iconst 3, 1) := by decide +kernel
theorem d_L_law_710 : decode code 710 = .ok (.iadd, 1) := by decide +kernel
theorem d_L_law_711 : decode code 711 = .ok (.iaload, 1) := by decide +kernel
theorem d_L_law_712 : decode code 712 = .ok (.invokevirtual 96, 3) := by decide +kernel
theorem d_L_law_715 : decode code 715 = .ok (.aload_n 2, 1) := by decide +kernel
theorem d_L_law_716 : decode code 716 = .ok (.aload_n 0, 1) := by decide +kernel
theorem d_L_law_717 : decode code 717 = .ok (.iload_n 3, 1) := by decide +kernel
theorem d_L_law_718 : decode code 718 = .ok (.iconst 1, 1) := by decide +kernel
theorem d_L_law_719 : decode code 719 = .ok (.iadd, 1) := by decide +kernel
theorem d_L_law_720 : decode code 720 = .ok (.iaload, 1) := by decide +kernel
theorem d_L_law_721 : decode code 721 = .ok (.aload_n 0, 1) := by decide +kernel
theorem d_L_law_722 : decode code 722 = .ok (.iload_n 3, 1) := by decide +kernel
theorem d_L_law_723 : decode code 723 = .ok (.iconst 2, 1) := by decide +kernel
theorem d_L_law_724 : decode code 724 = .ok (.iadd, 1) := by decide +kernel
theorem d_L_law_725 : decode code 725 = .ok (.iaload, 1) := by decide +kernel
theorem d_L_law_726 : decode code 726 = .ok (.aload_n 0, 1) := by decide +kernel
theorem d_L_law_727 : decode code 727 = .ok (.iload_n 3, 1) := by decide +kernel
theorem d_L_law_728 : decode code 728 = .ok (.iconst 3, 1) := by decide +kernel
theorem d_L_law_729 : decode code 729 = .ok (.iadd, 1) := by decide +kernel
theorem d_L_law_730 : decode code 730 = .ok (.iaload, 1) := by decide +kernel
theorem d_L_law_731 : decode code 731 = .ok (.invokevirtual 100, 3) := by decide +kernel
theorem d_L_law_734 : decode code 734 = .ok (.if_icmp .eq 31, 3) := by decide +kernel
theorem d_L_law_737 : decode code 737 = .ok (.iconst 0, 1) := by decide +kernel
theorem d_L_law_738 : decode code 738 = .ok (.ireturn, 1) := by decide +kernel
theorem d_L_law_739 : decode code 739 = .ok (.aload_n 1, 1) := by decide +kernel
theorem d_L_law_740 : decode code 740 = .ok (.invokevirtual 101, 3) := by decide +kernel
theorem d_L_law_743 : decode code 743 = .ok (.aload_n 2, 1) := by decide +kernel
theorem d_L_law_744 : decode code 744 = .ok (.invokevirtual 104, 3) := by decide +kernel
theorem d_L_law_747 : decode code 747 = .ok (.if_icmp .eq 18, 3) := by decide +kernel
theorem d_L_law_750 : decode code 750 = .ok (.iconst 0, 1) := by decide +kernel
theorem d_L_law_751 : decode code 751 = .ok (.ireturn, 1) := by decide +kernel
theorem d_L_law_752 : decode code 752 = .ok (.aload_n 1, 1) := by decide +kernel
theorem d_L_law_753 : decode code 753 = .ok (.invokevirtual 105, 3) := by decide +kernel
theorem d_L_law_756 : decode code 756 = .ok (.aload_n 2, 1) := by decide +kernel
theorem d_L_law_757 : decode code 757 = .ok (.invokevirtual 108, 3) := by decide +kernel
theorem d_L_law_760 : decode code 760 = .ok (.if_icmp .eq 5, 3) := by decide +kernel
theorem d_L_law_763 : decode code 763 = .ok (.iconst 0, 1) := by decide +kernel
theorem d_L_law_764 : decode code 764 = .ok (.ireturn, 1) := by decide +kernel
theorem d_L_law_765 : decode code 765 = .ok (.iinc 3 6, 3) := by decide +kernel
theorem d_L_law_768 : decode code 768 = .ok (.goto (-710), 3) := by decide +kernel
theorem d_L_law_771 : decode code 771 = .ok (.iconst 1, 1) := by decide +kernel
theorem d_L_law_772 : decode code 772 = .ok (.ireturn, 1) := by decide +kernel
