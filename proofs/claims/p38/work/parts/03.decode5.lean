theorem dL_law_197 : decode cL_law 197 = .ok (.iconst 0, 1) := by decide +kernel
theorem dL_law_198 : decode cL_law 198 = .ok (.istore 16, 2) := by decide +kernel
theorem dL_law_200 : decode cL_law 200 = .ok (.iload 15, 2) := by decide +kernel
theorem dL_law_202 : decode cL_law 202 = .ok (.ifCond .eq 37, 3) := by decide +kernel
theorem dL_law_205 : decode cL_law 205 = .ok (.aload_n 1, 1) := by decide +kernel
theorem dL_law_206 : decode cL_law 206 = .ok (.iconst 4, 1) := by decide +kernel
theorem dL_law_207 : decode cL_law 207 = .ok (.invokestatic 167, 3) := by decide +kernel
theorem dL_law_210 : decode cL_law 210 = .ok (.iload 12, 2) := by decide +kernel
theorem dL_law_212 : decode cL_law 212 = .ok (.if_icmp .ge 63, 3) := by decide +kernel
theorem dL_law_215 : decode cL_law 215 = .ok (.aload_n 1, 1) := by decide +kernel
theorem dL_law_216 : decode cL_law 216 = .ok (.iload 10, 2) := by decide +kernel
theorem dL_law_218 : decode cL_law 218 = .ok (.invokestatic 173, 3) := by decide +kernel
theorem dL_law_221 : decode cL_law 221 = .ok (.iload 13, 2) := by decide +kernel
theorem dL_law_223 : decode cL_law 223 = .ok (.iconst 1, 1) := by decide +kernel
theorem dL_law_224 : decode cL_law 224 = .ok (.isub, 1) := by decide +kernel
theorem dL_law_225 : decode cL_law 225 = .ok (.if_icmp .lt 50, 3) := by decide +kernel
theorem dL_law_228 : decode cL_law 228 = .ok (.aload_n 1, 1) := by decide +kernel
theorem dL_law_229 : decode cL_law 229 = .ok (.iload 10, 2) := by decide +kernel
theorem dL_law_231 : decode cL_law 231 = .ok (.invokestatic 173, 3) := by decide +kernel
theorem dL_law_234 : decode cL_law 234 = .ok (.iload 13, 2) := by decide +kernel
theorem dL_law_236 : decode cL_law 236 = .ok (.if_icmp .gt 39, 3) := by decide +kernel
theorem dL_law_239 : decode cL_law 239 = .ok (.iload 16, 2) := by decide +kernel
theorem dL_law_241 : decode cL_law 241 = .ok (.ifCond .eq 30, 3) := by decide +kernel
theorem dL_law_244 : decode cL_law 244 = .ok (.iload 14, 2) := by decide +kernel
theorem dL_law_246 : decode cL_law 246 = .ok (.aload_n 1, 1) := by decide +kernel
theorem dL_law_247 : decode cL_law 247 = .ok (.iload 10, 2) := by decide +kernel
theorem dL_law_249 : decode cL_law 249 = .ok (.invokestatic 173, 3) := by decide +kernel
theorem dL_law_252 : decode cL_law 252 = .ok (.if_icmp .ne 23, 3) := by decide +kernel
theorem dL_law_255 : decode cL_law 255 = .ok (.iload 14, 2) := by decide +kernel
theorem dL_law_257 : decode cL_law 257 = .ok (.iload 13, 2) := by decide +kernel
theorem dL_law_259 : decode cL_law 259 = .ok (.if_icmp .lt 16, 3) := by decide +kernel
theorem dL_law_262 : decode cL_law 262 = .ok (.iload 14, 2) := by decide +kernel
theorem dL_law_264 : decode cL_law 264 = .ok (.iload 13, 2) := by decide +kernel
theorem dL_law_266 : decode cL_law 266 = .ok (.iconst 1, 1) := by decide +kernel
theorem dL_law_267 : decode cL_law 267 = .ok (.iadd, 1) := by decide +kernel
theorem dL_law_268 : decode cL_law 268 = .ok (.if_icmp .gt 7, 3) := by decide +kernel
theorem dL_law_271 : decode cL_law 271 = .ok (.iconst 1, 1) := by decide +kernel
theorem dL_law_272 : decode cL_law 272 = .ok (.goto 4, 3) := by decide +kernel
theorem dL_law_275 : decode cL_law 275 = .ok (.iconst 0, 1) := by decide +kernel
theorem dL_law_276 : decode cL_law 276 = .ok (.istore 17, 2) := by decide +kernel
theorem dL_law_278 : decode cL_law 278 = .ok (.iinc 4 5, 3) := by decide +kernel
theorem dL_law_281 : decode cL_law 281 = .ok (.iload 17, 2) := by decide +kernel
theorem dL_law_283 : decode cL_law 283 = .ok (.ifCond .eq 25, 3) := by decide +kernel
theorem dL_law_286 : decode cL_law 286 = .ok (.aload_n 1, 1) := by decide +kernel
theorem dL_law_287 : decode cL_law 287 = .ok (.iload 5, 2) := by decide +kernel
theorem dL_law_289 : decode cL_law 289 = .ok (.iconst 4, 1) := by decide +kernel
theorem dL_law_290 : decode cL_law 290 = .ok (.irem, 1) := by decide +kernel
theorem dL_law_291 : decode cL_law 291 = .ok (.iconst 3, 1) := by decide +kernel
theorem dL_law_292 : decode cL_law 292 = .ok (.if_icmp .ne 7, 3) := by decide +kernel
theorem dL_law_295 : decode cL_law 295 = .ok (.iconst 2, 1) := by decide +kernel
theorem dL_law_296 : decode cL_law 296 = .ok (.goto 4, 3) := by decide +kernel
theorem dL_law_299 : decode cL_law 299 = .ok (.iconst 0, 1) := by decide +kernel
theorem dL_law_300 : decode cL_law 300 = .ok (.iload 11, 2) := by decide +kernel
theorem dL_law_302 : decode cL_law 302 = .ok (.invokestatic 179, 3) := by decide +kernel
theorem dL_law_305 : decode cL_law 305 = .ok (.ifCond .ne 5, 3) := by decide +kernel
theorem dL_law_308 : decode cL_law 308 = .ok (.iconst 0, 1) := by decide +kernel
theorem dL_law_309 : decode cL_law 309 = .ok (.ireturn, 1) := by decide +kernel
theorem dL_law_310 : decode cL_law 310 = .ok (.iload 14, 2) := by decide +kernel
theorem dL_law_312 : decode cL_law 312 = .ok (.bipush (-74), 2) := by decide +kernel
theorem dL_law_314 : decode cL_law 314 = .ok (.if_icmp .gt 35, 3) := by decide +kernel
theorem dL_law_317 : decode cL_law 317 = .ok (.aload_n 1, 1) := by decide +kernel
theorem dL_law_318 : decode cL_law 318 = .ok (.invokestatic 163, 3) := by decide +kernel
theorem dL_law_321 : decode cL_law 321 = .ok (.lload 6, 2) := by decide +kernel
theorem dL_law_323 : decode cL_law 323 = .ok (.lcmp, 1) := by decide +kernel
theorem dL_law_324 : decode cL_law 324 = .ok (.ifCond .ne 23, 3) := by decide +kernel
theorem dL_law_327 : decode cL_law 327 = .ok (.aload_n 1, 1) := by decide +kernel
theorem dL_law_328 : decode cL_law 328 = .ok (.bipush 12, 2) := by decide +kernel
theorem dL_law_330 : decode cL_law 330 = .ok (.invokestatic 167, 3) := by decide +kernel
theorem dL_law_333 : decode cL_law 333 = .ok (.iload 8, 2) := by decide +kernel
theorem dL_law_335 : decode cL_law 335 = .ok (.if_icmp .ne 12, 3) := by decide +kernel
theorem dL_law_338 : decode cL_law 338 = .ok (.aload_n 1, 1) := by decide +kernel
theorem dL_law_339 : decode cL_law 339 = .ok (.bipush 11, 2) := by decide +kernel
theorem dL_law_341 : decode cL_law 341 = .ok (.invokestatic 167, 3) := by decide +kernel
theorem dL_law_344 : decode cL_law 344 = .ok (.ifCond .eq 15, 3) := by decide +kernel
theorem dL_law_347 : decode cL_law 347 = .ok (.iconst 0, 1) := by decide +kernel
theorem dL_law_348 : decode cL_law 348 = .ok (.ireturn, 1) := by decide +kernel
theorem dL_law_349 : decode cL_law 349 = .ok (.iinc 3 1, 3) := by decide +kernel
theorem dL_law_352 : decode cL_law 352 = .ok (.aload_n 2, 1) := by decide +kernel
theorem dL_law_353 : decode cL_law 353 = .ok (.iload_n 3, 1) := by decide +kernel
theorem dL_law_354 : decode cL_law 354 = .ok (.aload_n 1, 1) := by decide +kernel
theorem dL_law_355 : decode cL_law 355 = .ok (.invokestatic 163, 3) := by decide +kernel
theorem dL_law_358 : decode cL_law 358 = .ok (.lastore, 1) := by decide +kernel
theorem dL_law_359 : decode cL_law 359 = .ok (.iinc 5 1, 3) := by decide +kernel
theorem dL_law_362 : decode cL_law 362 = .ok (.goto (-334), 3) := by decide +kernel
theorem dL_law_365 : decode cL_law 365 = .ok (.aload_n 1, 1) := by decide +kernel
theorem dL_law_366 : decode cL_law 366 = .ok (.aload_n 2, 1) := by decide +kernel
theorem dL_law_367 : decode cL_law 367 = .ok (.iload_n 3, 1) := by decide +kernel
theorem dL_law_368 : decode cL_law 368 = .ok (.invokestatic 183, 3) := by decide +kernel
theorem dL_law_371 : decode cL_law 371 = .ok (.ireturn, 1) := by decide +kernel
theorem dL_does_0 : decode cL_does 0 = .ok (.aload_n 0, 1) := by decide +kernel
theorem dL_does_1 : decode cL_does 1 = .ok (.iload_n 1, 1) := by decide +kernel
theorem dL_does_2 : decode cL_does 2 = .ok (.iconst 1, 1) := by decide +kernel
theorem dL_does_3 : decode cL_does 3 = .ok (.iadd, 1) := by decide +kernel
theorem dL_does_4 : decode cL_does 4 = .ok (.sipush 1000, 3) := by decide +kernel
theorem dL_does_7 : decode cL_does 7 = .ok (.invokestatic 169, 3) := by decide +kernel
theorem dL_does_10 : decode cL_does 10 = .ok (.istore 6, 2) := by decide +kernel
theorem dL_does_12 : decode cL_does 12 = .ok (.iload 6, 2) := by decide +kernel
theorem dL_does_14 : decode cL_does 14 = .ok (.iconst 5, 1) := by decide +kernel
theorem dL_does_15 : decode cL_does 15 = .ok (.irem, 1) := by decide +kernel
theorem dL_does_16 : decode cL_does 16 = .ok (.ifCond .ne 11, 3) := by decide +kernel
theorem dL_does_19 : decode cL_does 19 = .ok (.iload 6, 2) := by decide +kernel
theorem dL_does_21 : decode cL_does 21 = .ok (.bipush 25, 2) := by decide +kernel
theorem dL_does_23 : decode cL_does 23 = .ok (.irem, 1) := by decide +kernel
theorem dL_does_24 : decode cL_does 24 = .ok (.goto 25, 3) := by decide +kernel
theorem dL_does_27 : decode cL_does 27 = .ok (.iload 6, 2) := by decide +kernel
theorem dL_does_29 : decode cL_does 29 = .ok (.iconst 2, 1) := by decide +kernel
theorem dL_does_30 : decode cL_does 30 = .ok (.irem, 1) := by decide +kernel
theorem dL_does_31 : decode cL_does 31 = .ok (.ifCond .ne 10, 3) := by decide +kernel
theorem dL_does_34 : decode cL_does 34 = .ok (.iload 5, 2) := by decide +kernel
theorem dL_does_36 : decode cL_does 36 = .ok (.iconst 1, 1) := by decide +kernel
theorem dL_does_37 : decode cL_does 37 = .ok (.iadd, 1) := by decide +kernel
theorem dL_does_38 : decode cL_does 38 = .ok (.goto 11, 3) := by decide +kernel
theorem dL_does_41 : decode cL_does 41 = .ok (.iload 5, 2) := by decide +kernel
theorem dL_does_43 : decode cL_does 43 = .ok (.bipush 6, 2) := by decide +kernel
theorem dL_does_45 : decode cL_does 45 = .ok (.iadd, 1) := by decide +kernel
theorem dL_does_46 : decode cL_does 46 = .ok (.bipush 24, 2) := by decide +kernel
theorem dL_does_48 : decode cL_does 48 = .ok (.irem, 1) := by decide +kernel
theorem dL_does_49 : decode cL_does 49 = .ok (.istore 7, 2) := by decide +kernel
theorem dL_does_51 : decode cL_does 51 = .ok (.iload_n 2, 1) := by decide +kernel
theorem dL_does_52 : decode cL_does 52 = .ok (.tableswitch 228 0 23 #[112, 112, 112, 112, 112, 112, 112, 112, 151, 151, 151, 151, 151, 162, 162, 162, 177, 187, 197, 209, 209, 209, 209, 218], 112) := by decide +kernel
theorem dL_does_164 : decode cL_does 164 = .ok (.aload_n 3, 1) := by decide +kernel
theorem dL_does_165 : decode cL_does 165 = .ok (.iload 4, 2) := by decide +kernel
theorem dL_does_167 : decode cL_does 167 = .ok (.iload 5, 2) := by decide +kernel
theorem dL_does_169 : decode cL_does 169 = .ok (.iload 6, 2) := by decide +kernel
theorem dL_does_171 : decode cL_does 171 = .ok (.bipush 9, 2) := by decide +kernel
theorem dL_does_173 : decode cL_does 173 = .ok (.irem, 1) := by decide +kernel
theorem dL_does_174 : decode cL_does 174 = .ok (.ifCond .ne 7, 3) := by decide +kernel
theorem dL_does_177 : decode cL_does 177 = .ok (.iconst 0, 1) := by decide +kernel
theorem dL_does_178 : decode cL_does 178 = .ok (.goto 21, 3) := by decide +kernel
theorem dL_does_181 : decode cL_does 181 = .ok (.iload 6, 2) := by decide +kernel
theorem dL_does_183 : decode cL_does 183 = .ok (.bipush 17, 2) := by decide +kernel
theorem dL_does_185 : decode cL_does 185 = .ok (.irem, 1) := by decide +kernel
theorem dL_does_186 : decode cL_does 186 = .ok (.ifCond .ne 7, 3) := by decide +kernel
theorem dL_does_189 : decode cL_does 189 = .ok (.iconst 4, 1) := by decide +kernel
theorem dL_does_190 : decode cL_does 190 = .ok (.goto 9, 3) := by decide +kernel
theorem dL_does_193 : decode cL_does 193 = .ok (.iconst 1, 1) := by decide +kernel
theorem dL_does_194 : decode cL_does 194 = .ok (.iload 6, 2) := by decide +kernel
theorem dL_does_196 : decode cL_does 196 = .ok (.iconst 3, 1) := by decide +kernel
theorem dL_does_197 : decode cL_does 197 = .ok (.irem, 1) := by decide +kernel
theorem dL_does_198 : decode cL_does 198 = .ok (.iadd, 1) := by decide +kernel
theorem dL_does_199 : decode cL_does 199 = .ok (.invokestatic 187, 3) := by decide +kernel
theorem dL_does_202 : decode cL_does 202 = .ok (.ireturn, 1) := by decide +kernel
theorem dL_does_203 : decode cL_does 203 = .ok (.aload_n 3, 1) := by decide +kernel
theorem dL_does_204 : decode cL_does 204 = .ok (.iload 4, 2) := by decide +kernel
theorem dL_does_206 : decode cL_does 206 = .ok (.iload 5, 2) := by decide +kernel
theorem dL_does_208 : decode cL_does 208 = .ok (.iload 7, 2) := by decide +kernel
theorem dL_does_210 : decode cL_does 210 = .ok (.invokestatic 190, 3) := by decide +kernel
theorem dL_does_213 : decode cL_does 213 = .ok (.ireturn, 1) := by decide +kernel
theorem dL_does_214 : decode cL_does 214 = .ok (.aload_n 3, 1) := by decide +kernel
theorem dL_does_215 : decode cL_does 215 = .ok (.iload 4, 2) := by decide +kernel
theorem dL_does_217 : decode cL_does 217 = .ok (.iload 7, 2) := by decide +kernel
theorem dL_does_219 : decode cL_does 219 = .ok (.iload 5, 2) := by decide +kernel
theorem dL_does_221 : decode cL_does 221 = .ok (.iload 6, 2) := by decide +kernel
theorem dL_does_223 : decode cL_does 223 = .ok (.iconst 3, 1) := by decide +kernel
theorem dL_does_224 : decode cL_does 224 = .ok (.irem, 1) := by decide +kernel
theorem dL_does_225 : decode cL_does 225 = .ok (.invokestatic 192, 3) := by decide +kernel
theorem dL_does_228 : decode cL_does 228 = .ok (.ireturn, 1) := by decide +kernel
theorem dL_does_229 : decode cL_does 229 = .ok (.aload_n 3, 1) := by decide +kernel
theorem dL_does_230 : decode cL_does 230 = .ok (.iload 6, 2) := by decide +kernel
theorem dL_does_232 : decode cL_does 232 = .ok (.bipush 13, 2) := by decide +kernel
theorem dL_does_234 : decode cL_does 234 = .ok (.irem, 1) := by decide +kernel
theorem dL_does_235 : decode cL_does 235 = .ok (.invokestatic 195, 3) := by decide +kernel
theorem dL_does_238 : decode cL_does 238 = .ok (.ireturn, 1) := by decide +kernel
theorem dL_does_239 : decode cL_does 239 = .ok (.aload_n 3, 1) := by decide +kernel
theorem dL_does_240 : decode cL_does 240 = .ok (.iload 6, 2) := by decide +kernel
theorem dL_does_242 : decode cL_does 242 = .ok (.bipush 6, 2) := by decide +kernel
theorem dL_does_244 : decode cL_does 244 = .ok (.irem, 1) := by decide +kernel
theorem dL_does_245 : decode cL_does 245 = .ok (.invokestatic 197, 3) := by decide +kernel
theorem dL_does_248 : decode cL_does 248 = .ok (.ireturn, 1) := by decide +kernel
theorem dL_does_249 : decode cL_does 249 = .ok (.aload_n 3, 1) := by decide +kernel
theorem dL_does_250 : decode cL_does 250 = .ok (.iload 4, 2) := by decide +kernel
theorem dL_does_252 : decode cL_does 252 = .ok (.iload 6, 2) := by decide +kernel
theorem dL_does_254 : decode cL_does 254 = .ok (.bipush 6, 2) := by decide +kernel
theorem dL_does_256 : decode cL_does 256 = .ok (.irem, 1) := by decide +kernel
theorem dL_does_257 : decode cL_does 257 = .ok (.invokestatic 199, 3) := by decide +kernel
theorem dL_does_260 : decode cL_does 260 = .ok (.ireturn, 1) := by decide +kernel
theorem dL_does_261 : decode cL_does 261 = .ok (.aload_n 3, 1) := by decide +kernel
theorem dL_does_262 : decode cL_does 262 = .ok (.iload 4, 2) := by decide +kernel
theorem dL_does_264 : decode cL_does 264 = .ok (.iload 5, 2) := by decide +kernel
theorem dL_does_266 : decode cL_does 266 = .ok (.invokestatic 202, 3) := by decide +kernel
theorem dL_does_269 : decode cL_does 269 = .ok (.ireturn, 1) := by decide +kernel
theorem dL_does_270 : decode cL_does 270 = .ok (.aload_n 3, 1) := by decide +kernel
theorem dL_does_271 : decode cL_does 271 = .ok (.iload 6, 2) := by decide +kernel
theorem dL_does_273 : decode cL_does 273 = .ok (.bipush 7, 2) := by decide +kernel
theorem dL_does_275 : decode cL_does 275 = .ok (.irem, 1) := by decide +kernel
theorem dL_does_276 : decode cL_does 276 = .ok (.invokestatic 204, 3) := by decide +kernel
theorem dL_does_279 : decode cL_does 279 = .ok (.ireturn, 1) := by decide +kernel
theorem dL_does_280 : decode cL_does 280 = .ok (.aload_n 3, 1) := by decide +kernel
theorem dL_does_281 : decode cL_does 281 = .ok (.new 206, 3) := by decide +kernel
theorem dL_does_284 : decode cL_does 284 = .ok (.dup, 1) := by decide +kernel
theorem dL_does_285 : decode cL_does 285 = .ok (.invokespecial 208, 3) := by decide +kernel
theorem dL_does_288 : decode cL_does 288 = .ok (.ldc 209, 2) := by decide +kernel
theorem dL_does_290 : decode cL_does 290 = .ok (.invokevirtual 211, 3) := by decide +kernel
theorem dL_does_293 : decode cL_does 293 = .ok (.iload 4, 2) := by decide +kernel
theorem dL_does_295 : decode cL_does 295 = .ok (.invokevirtual 215, 3) := by decide +kernel
theorem dL_does_298 : decode cL_does 298 = .ok (.ldc 218, 2) := by decide +kernel
theorem dL_does_300 : decode cL_does 300 = .ok (.invokevirtual 211, 3) := by decide +kernel
theorem dL_does_303 : decode cL_does 303 = .ok (.iload 5, 2) := by decide +kernel
theorem dL_does_305 : decode cL_does 305 = .ok (.invokevirtual 215, 3) := by decide +kernel
theorem dL_does_308 : decode cL_does 308 = .ok (.ldc 220, 2) := by decide +kernel
theorem dL_does_310 : decode cL_does 310 = .ok (.invokevirtual 211, 3) := by decide +kernel
theorem dL_does_313 : decode cL_does 313 = .ok (.iload 6, 2) := by decide +kernel
theorem dL_does_315 : decode cL_does 315 = .ok (.iconst 4, 1) := by decide +kernel
theorem dL_does_316 : decode cL_does 316 = .ok (.irem, 1) := by decide +kernel
theorem dL_does_317 : decode cL_does 317 = .ok (.invokevirtual 215, 3) := by decide +kernel
theorem dL_does_320 : decode cL_does 320 = .ok (.iload 6, 2) := by decide +kernel
theorem dL_does_322 : decode cL_does 322 = .ok (.iconst 4, 1) := by decide +kernel
theorem dL_does_323 : decode cL_does 323 = .ok (.irem, 1) := by decide +kernel
theorem dL_does_324 : decode cL_does 324 = .ok (.ifCond .ne 28, 3) := by decide +kernel
theorem dL_does_327 : decode cL_does 327 = .ok (.new 206, 3) := by decide +kernel
theorem dL_does_330 : decode cL_does 330 = .ok (.dup, 1) := by decide +kernel
theorem dL_does_331 : decode cL_does 331 = .ok (.invokespecial 208, 3) := by decide +kernel
theorem dL_does_334 : decode cL_does 334 = .ok (.ldc 222, 2) := by decide +kernel
theorem dL_does_336 : decode cL_does 336 = .ok (.invokevirtual 211, 3) := by decide +kernel
theorem dL_does_339 : decode cL_does 339 = .ok (.iload 6, 2) := by decide +kernel
theorem dL_does_341 : decode cL_does 341 = .ok (.iconst 5, 1) := by decide +kernel
theorem dL_does_342 : decode cL_does 342 = .ok (.irem, 1) := by decide +kernel
theorem dL_does_343 : decode cL_does 343 = .ok (.invokevirtual 215, 3) := by decide +kernel
theorem dL_does_346 : decode cL_does 346 = .ok (.invokevirtual 224, 3) := by decide +kernel
theorem dL_does_349 : decode cL_does 349 = .ok (.goto 97, 3) := by decide +kernel
theorem dL_does_352 : decode cL_does 352 = .ok (.iload 6, 2) := by decide +kernel
theorem dL_does_354 : decode cL_does 354 = .ok (.iconst 4, 1) := by decide +kernel
theorem dL_does_355 : decode cL_does 355 = .ok (.irem, 1) := by decide +kernel
theorem dL_does_356 : decode cL_does 356 = .ok (.iconst 1, 1) := by decide +kernel
theorem dL_does_357 : decode cL_does 357 = .ok (.if_icmp .ne 36, 3) := by decide +kernel
theorem dL_does_360 : decode cL_does 360 = .ok (.new 206, 3) := by decide +kernel
theorem dL_does_363 : decode cL_does 363 = .ok (.dup, 1) := by decide +kernel
theorem dL_does_364 : decode cL_does 364 = .ok (.invokespecial 208, 3) := by decide +kernel
theorem dL_does_367 : decode cL_does 367 = .ok (.ldc 228, 2) := by decide +kernel
theorem dL_does_369 : decode cL_does 369 = .ok (.invokevirtual 211, 3) := by decide +kernel
theorem dL_does_372 : decode cL_does 372 = .ok (.iload 4, 2) := by decide +kernel
theorem dL_does_374 : decode cL_does 374 = .ok (.invokevirtual 215, 3) := by decide +kernel
theorem dL_does_377 : decode cL_does 377 = .ok (.ldc 218, 2) := by decide +kernel
theorem dL_does_379 : decode cL_does 379 = .ok (.invokevirtual 211, 3) := by decide +kernel
theorem dL_does_382 : decode cL_does 382 = .ok (.iload 5, 2) := by decide +kernel
theorem dL_does_384 : decode cL_does 384 = .ok (.invokevirtual 215, 3) := by decide +kernel
theorem dL_does_387 : decode cL_does 387 = .ok (.invokevirtual 224, 3) := by decide +kernel
theorem dL_does_390 : decode cL_does 390 = .ok (.goto 56, 3) := by decide +kernel
theorem dL_does_393 : decode cL_does 393 = .ok (.iload 6, 2) := by decide +kernel
theorem dL_does_395 : decode cL_does 395 = .ok (.iconst 4, 1) := by decide +kernel
theorem dL_does_396 : decode cL_does 396 = .ok (.irem, 1) := by decide +kernel
theorem dL_does_397 : decode cL_does 397 = .ok (.iconst 2, 1) := by decide +kernel
theorem dL_does_398 : decode cL_does 398 = .ok (.if_icmp .ne 46, 3) := by decide +kernel
theorem dL_does_401 : decode cL_does 401 = .ok (.new 206, 3) := by decide +kernel
theorem dL_does_404 : decode cL_does 404 = .ok (.dup, 1) := by decide +kernel
theorem dL_does_405 : decode cL_does 405 = .ok (.invokespecial 208, 3) := by decide +kernel
theorem dL_does_408 : decode cL_does 408 = .ok (.ldc 230, 2) := by decide +kernel
theorem dL_does_410 : decode cL_does 410 = .ok (.invokevirtual 211, 3) := by decide +kernel
theorem dL_does_413 : decode cL_does 413 = .ok (.iload 4, 2) := by decide +kernel
theorem dL_does_415 : decode cL_does 415 = .ok (.invokevirtual 215, 3) := by decide +kernel
theorem dL_does_418 : decode cL_does 418 = .ok (.ldc 218, 2) := by decide +kernel
theorem dL_does_420 : decode cL_does 420 = .ok (.invokevirtual 211, 3) := by decide +kernel
theorem dL_does_423 : decode cL_does 423 = .ok (.iload 5, 2) := by decide +kernel
theorem dL_does_425 : decode cL_does 425 = .ok (.invokevirtual 215, 3) := by decide +kernel
theorem dL_does_428 : decode cL_does 428 = .ok (.ldc 232, 2) := by decide +kernel
theorem dL_does_430 : decode cL_does 430 = .ok (.invokevirtual 211, 3) := by decide +kernel
theorem dL_does_433 : decode cL_does 433 = .ok (.iload 7, 2) := by decide +kernel
theorem dL_does_435 : decode cL_does 435 = .ok (.invokevirtual 215, 3) := by decide +kernel
theorem dL_does_438 : decode cL_does 438 = .ok (.invokevirtual 224, 3) := by decide +kernel
theorem dL_does_441 : decode cL_does 441 = .ok (.goto 5, 3) := by decide +kernel
theorem dL_does_444 : decode cL_does 444 = .ok (.ldc 234, 2) := by decide +kernel
theorem dL_does_446 : decode cL_does 446 = .ok (.invokevirtual 211, 3) := by decide +kernel
theorem dL_does_449 : decode cL_does 449 = .ok (.invokevirtual 224, 3) := by decide +kernel
theorem dL_does_452 : decode cL_does 452 = .ok (.invokestatic 236, 3) := by decide +kernel
theorem dL_does_455 : decode cL_does 455 = .ok (.ireturn, 1) := by decide +kernel
theorem dL_sum_0 : decode cL_sum 0 = .ok (.lconst 0, 1) := by decide +kernel
theorem dL_sum_1 : decode cL_sum 1 = .ok (.lstore_n 1, 1) := by decide +kernel
theorem dL_sum_2 : decode cL_sum 2 = .ok (.iconst 0, 1) := by decide +kernel
theorem dL_sum_3 : decode cL_sum 3 = .ok (.istore_n 3, 1) := by decide +kernel
theorem dL_sum_4 : decode cL_sum 4 = .ok (.iload_n 3, 1) := by decide +kernel
theorem dL_sum_5 : decode cL_sum 5 = .ok (.bipush 11, 2) := by decide +kernel
theorem dL_sum_7 : decode cL_sum 7 = .ok (.if_icmp .ge 22, 3) := by decide +kernel
theorem dL_sum_10 : decode cL_sum 10 = .ok (.ldc2_w 240, 3) := by decide +kernel
theorem dL_sum_13 : decode cL_sum 13 = .ok (.lload_n 1, 1) := by decide +kernel
theorem dL_sum_14 : decode cL_sum 14 = .ok (.lmul, 1) := by decide +kernel
theorem dL_sum_15 : decode cL_sum 15 = .ok (.aload_n 0, 1) := by decide +kernel
theorem dL_sum_16 : decode cL_sum 16 = .ok (.iload_n 3, 1) := by decide +kernel
theorem dL_sum_17 : decode cL_sum 17 = .ok (.invokestatic 167, 3) := by decide +kernel
theorem dL_sum_20 : decode cL_sum 20 = .ok (.i2l, 1) := by decide +kernel
theorem dL_sum_21 : decode cL_sum 21 = .ok (.ladd, 1) := by decide +kernel
theorem dL_sum_22 : decode cL_sum 22 = .ok (.lstore_n 1, 1) := by decide +kernel
theorem dL_sum_23 : decode cL_sum 23 = .ok (.iinc 3 1, 3) := by decide +kernel
theorem dL_sum_26 : decode cL_sum 26 = .ok (.goto (-22), 3) := by decide +kernel
theorem dL_sum_29 : decode cL_sum 29 = .ok (.iconst 0, 1) := by decide +kernel
theorem dL_sum_30 : decode cL_sum 30 = .ok (.istore_n 3, 1) := by decide +kernel
theorem dL_sum_31 : decode cL_sum 31 = .ok (.iload_n 3, 1) := by decide +kernel
theorem dL_sum_32 : decode cL_sum 32 = .ok (.iconst 3, 1) := by decide +kernel
theorem dL_sum_33 : decode cL_sum 33 = .ok (.if_icmp .ge 110, 3) := by decide +kernel
theorem dL_sum_36 : decode cL_sum 36 = .ok (.ldc2_w 240, 3) := by decide +kernel
theorem dL_sum_39 : decode cL_sum 39 = .ok (.lload_n 1, 1) := by decide +kernel
theorem dL_sum_40 : decode cL_sum 40 = .ok (.lmul, 1) := by decide +kernel
theorem dL_sum_41 : decode cL_sum 41 = .ok (.aload_n 0, 1) := by decide +kernel
theorem dL_sum_42 : decode cL_sum 42 = .ok (.iload_n 3, 1) := by decide +kernel
theorem dL_sum_43 : decode cL_sum 43 = .ok (.iconst 3, 1) := by decide +kernel
theorem dL_sum_44 : decode cL_sum 44 = .ok (.invokestatic 242, 3) := by decide +kernel
theorem dL_sum_47 : decode cL_sum 47 = .ok (.i2l, 1) := by decide +kernel
theorem dL_sum_48 : decode cL_sum 48 = .ok (.ladd, 1) := by decide +kernel
theorem dL_sum_49 : decode cL_sum 49 = .ok (.lstore_n 1, 1) := by decide +kernel
theorem dL_sum_50 : decode cL_sum 50 = .ok (.iconst 0, 1) := by decide +kernel
theorem dL_sum_51 : decode cL_sum 51 = .ok (.istore 4, 2) := by decide +kernel
theorem dL_sum_53 : decode cL_sum 53 = .ok (.iload 4, 2) := by decide +kernel
theorem dL_sum_55 : decode cL_sum 55 = .ok (.bipush 24, 2) := by decide +kernel
theorem dL_sum_57 : decode cL_sum 57 = .ok (.if_icmp .ge 80, 3) := by decide +kernel
theorem dL_sum_60 : decode cL_sum 60 = .ok (.ldc2_w 240, 3) := by decide +kernel
theorem dL_sum_63 : decode cL_sum 63 = .ok (.lload_n 1, 1) := by decide +kernel
theorem dL_sum_64 : decode cL_sum 64 = .ok (.lmul, 1) := by decide +kernel
theorem dL_sum_65 : decode cL_sum 65 = .ok (.aload_n 0, 1) := by decide +kernel
theorem dL_sum_66 : decode cL_sum 66 = .ok (.iload_n 3, 1) := by decide +kernel
theorem dL_sum_67 : decode cL_sum 67 = .ok (.iload 4, 2) := by decide +kernel
theorem dL_sum_69 : decode cL_sum 69 = .ok (.invokestatic 244, 3) := by decide +kernel
theorem dL_sum_72 : decode cL_sum 72 = .ok (.i2l, 1) := by decide +kernel
theorem dL_sum_73 : decode cL_sum 73 = .ok (.ladd, 1) := by decide +kernel
theorem dL_sum_74 : decode cL_sum 74 = .ok (.iload 4, 2) := by decide +kernel
theorem dL_sum_76 : decode cL_sum 76 = .ok (.bipush 6, 2) := by decide +kernel
theorem dL_sum_78 : decode cL_sum 78 = .ok (.irem, 1) := by decide +kernel
theorem dL_sum_79 : decode cL_sum 79 = .ok (.iconst 5, 1) := by decide +kernel
theorem dL_sum_80 : decode cL_sum 80 = .ok (.if_icmp .ne 7, 3) := by decide +kernel
theorem dL_sum_83 : decode cL_sum 83 = .ok (.iconst 0, 1) := by decide +kernel
theorem dL_sum_84 : decode cL_sum 84 = .ok (.goto 16, 3) := by decide +kernel
theorem dL_sum_87 : decode cL_sum 87 = .ok (.iconst 5, 1) := by decide +kernel
theorem dL_sum_88 : decode cL_sum 88 = .ok (.aload_n 0, 1) := by decide +kernel
theorem dL_sum_89 : decode cL_sum 89 = .ok (.iload_n 3, 1) := by decide +kernel
theorem dL_sum_90 : decode cL_sum 90 = .ok (.iload 4, 2) := by decide +kernel
theorem dL_sum_92 : decode cL_sum 92 = .ok (.iload 4, 2) := by decide +kernel
theorem dL_sum_94 : decode cL_sum 94 = .ok (.iconst 1, 1) := by decide +kernel
theorem dL_sum_95 : decode cL_sum 95 = .ok (.iadd, 1) := by decide +kernel
theorem dL_sum_96 : decode cL_sum 96 = .ok (.invokestatic 246, 3) := by decide +kernel
theorem dL_sum_99 : decode cL_sum 99 = .ok (.imul, 1) := by decide +kernel
theorem dL_sum_100 : decode cL_sum 100 = .ok (.i2l, 1) := by decide +kernel
theorem dL_sum_101 : decode cL_sum 101 = .ok (.ladd, 1) := by decide +kernel
theorem dL_sum_102 : decode cL_sum 102 = .ok (.iload 4, 2) := by decide +kernel
theorem dL_sum_104 : decode cL_sum 104 = .ok (.bipush 17, 2) := by decide +kernel
theorem dL_sum_106 : decode cL_sum 106 = .ok (.if_icmp .le 7, 3) := by decide +kernel
theorem dL_sum_109 : decode cL_sum 109 = .ok (.iconst 0, 1) := by decide +kernel
theorem dL_sum_110 : decode cL_sum 110 = .ok (.goto 18, 3) := by decide +kernel
theorem dL_sum_113 : decode cL_sum 113 = .ok (.bipush 11, 2) := by decide +kernel
theorem dL_sum_115 : decode cL_sum 115 = .ok (.aload_n 0, 1) := by decide +kernel
theorem dL_sum_116 : decode cL_sum 116 = .ok (.iload_n 3, 1) := by decide +kernel
theorem dL_sum_117 : decode cL_sum 117 = .ok (.iload 4, 2) := by decide +kernel
theorem dL_sum_119 : decode cL_sum 119 = .ok (.iload 4, 2) := by decide +kernel
theorem dL_sum_121 : decode cL_sum 121 = .ok (.bipush 6, 2) := by decide +kernel
theorem dL_sum_123 : decode cL_sum 123 = .ok (.iadd, 1) := by decide +kernel
theorem dL_sum_124 : decode cL_sum 124 = .ok (.invokestatic 246, 3) := by decide +kernel
theorem dL_sum_127 : decode cL_sum 127 = .ok (.imul, 1) := by decide +kernel
theorem dL_sum_128 : decode cL_sum 128 = .ok (.i2l, 1) := by decide +kernel
theorem dL_sum_129 : decode cL_sum 129 = .ok (.ladd, 1) := by decide +kernel
theorem dL_sum_130 : decode cL_sum 130 = .ok (.lstore_n 1, 1) := by decide +kernel
theorem dL_sum_131 : decode cL_sum 131 = .ok (.iinc 4 1, 3) := by decide +kernel
theorem dL_sum_134 : decode cL_sum 134 = .ok (.goto (-81), 3) := by decide +kernel
theorem dL_sum_137 : decode cL_sum 137 = .ok (.iinc 3 1, 3) := by decide +kernel
theorem dL_sum_140 : decode cL_sum 140 = .ok (.goto (-109), 3) := by decide +kernel
theorem dL_sum_143 : decode cL_sum 143 = .ok (.iconst 0, 1) := by decide +kernel
theorem dL_sum_144 : decode cL_sum 144 = .ok (.istore_n 3, 1) := by decide +kernel
theorem dL_sum_145 : decode cL_sum 145 = .ok (.iload_n 3, 1) := by decide +kernel
theorem dL_sum_146 : decode cL_sum 146 = .ok (.aload_n 0, 1) := by decide +kernel
theorem dL_sum_147 : decode cL_sum 147 = .ok (.iconst 5, 1) := by decide +kernel
theorem dL_sum_148 : decode cL_sum 148 = .ok (.invokestatic 167, 3) := by decide +kernel
theorem dL_sum_151 : decode cL_sum 151 = .ok (.if_icmp .ge 58, 3) := by decide +kernel
theorem dL_sum_154 : decode cL_sum 154 = .ok (.ldc2_w 240, 3) := by decide +kernel
theorem dL_sum_157 : decode cL_sum 157 = .ok (.lload_n 1, 1) := by decide +kernel
theorem dL_sum_158 : decode cL_sum 158 = .ok (.lmul, 1) := by decide +kernel
theorem dL_sum_159 : decode cL_sum 159 = .ok (.ldc2_w 249, 3) := by decide +kernel
theorem dL_sum_162 : decode cL_sum 162 = .ok (.aload_n 0, 1) := by decide +kernel
theorem dL_sum_163 : decode cL_sum 163 = .ok (.iload_n 3, 1) := by decide +kernel
theorem dL_sum_164 : decode cL_sum 164 = .ok (.iconst 0, 1) := by decide +kernel
theorem dL_sum_165 : decode cL_sum 165 = .ok (.invokestatic 251, 3) := by decide +kernel
theorem dL_sum_168 : decode cL_sum 168 = .ok (.i2l, 1) := by decide +kernel
theorem dL_sum_169 : decode cL_sum 169 = .ok (.lmul, 1) := by decide +kernel
theorem dL_sum_170 : decode cL_sum 170 = .ok (.ladd, 1) := by decide +kernel
theorem dL_sum_171 : decode cL_sum 171 = .ok (.ldc2_w 240, 3) := by decide +kernel
theorem dL_sum_174 : decode cL_sum 174 = .ok (.aload_n 0, 1) := by decide +kernel
theorem dL_sum_175 : decode cL_sum 175 = .ok (.iload_n 3, 1) := by decide +kernel
theorem dL_sum_176 : decode cL_sum 176 = .ok (.iconst 1, 1) := by decide +kernel
theorem dL_sum_177 : decode cL_sum 177 = .ok (.invokestatic 251, 3) := by decide +kernel
theorem dL_sum_180 : decode cL_sum 180 = .ok (.i2l, 1) := by decide +kernel
theorem dL_sum_181 : decode cL_sum 181 = .ok (.lmul, 1) := by decide +kernel
theorem dL_sum_182 : decode cL_sum 182 = .ok (.ladd, 1) := by decide +kernel
theorem dL_sum_183 : decode cL_sum 183 = .ok (.aload_n 0, 1) := by decide +kernel
theorem dL_sum_184 : decode cL_sum 184 = .ok (.iload_n 3, 1) := by decide +kernel
theorem dL_sum_185 : decode cL_sum 185 = .ok (.iconst 2, 1) := by decide +kernel
theorem dL_sum_186 : decode cL_sum 186 = .ok (.invokestatic 251, 3) := by decide +kernel
theorem dL_sum_189 : decode cL_sum 189 = .ok (.i2l, 1) := by decide +kernel
theorem dL_sum_190 : decode cL_sum 190 = .ok (.ladd, 1) := by decide +kernel
theorem dL_sum_191 : decode cL_sum 191 = .ok (.ldc2_w 253, 3) := by decide +kernel
theorem dL_sum_194 : decode cL_sum 194 = .ok (.aload_n 0, 1) := by decide +kernel
theorem dL_sum_195 : decode cL_sum 195 = .ok (.iload_n 3, 1) := by decide +kernel
theorem dL_sum_196 : decode cL_sum 196 = .ok (.invokestatic 255, 3) := by decide +kernel
theorem dL_sum_199 : decode cL_sum 199 = .ok (.i2l, 1) := by decide +kernel
theorem dL_sum_200 : decode cL_sum 200 = .ok (.lmul, 1) := by decide +kernel
theorem dL_sum_201 : decode cL_sum 201 = .ok (.ladd, 1) := by decide +kernel
theorem dL_sum_202 : decode cL_sum 202 = .ok (.lstore_n 1, 1) := by decide +kernel
theorem dL_sum_203 : decode cL_sum 203 = .ok (.iinc 3 1, 3) := by decide +kernel
theorem dL_sum_206 : decode cL_sum 206 = .ok (.goto (-61), 3) := by decide +kernel
theorem dL_sum_209 : decode cL_sum 209 = .ok (.iconst 0, 1) := by decide +kernel
theorem dL_sum_210 : decode cL_sum 210 = .ok (.istore_n 3, 1) := by decide +kernel
theorem dL_sum_211 : decode cL_sum 211 = .ok (.iload_n 3, 1) := by decide +kernel
theorem dL_sum_212 : decode cL_sum 212 = .ok (.aload_n 0, 1) := by decide +kernel
theorem dL_sum_213 : decode cL_sum 213 = .ok (.iconst 3, 1) := by decide +kernel
theorem dL_sum_214 : decode cL_sum 214 = .ok (.invokestatic 167, 3) := by decide +kernel
theorem dL_sum_217 : decode cL_sum 217 = .ok (.if_icmp .ge 35, 3) := by decide +kernel
theorem dL_sum_220 : decode cL_sum 220 = .ok (.ldc2_w 240, 3) := by decide +kernel
theorem dL_sum_223 : decode cL_sum 223 = .ok (.lload_n 1, 1) := by decide +kernel
theorem dL_sum_224 : decode cL_sum 224 = .ok (.lmul, 1) := by decide +kernel
theorem dL_sum_225 : decode cL_sum 225 = .ok (.ldc2_w 257, 3) := by decide +kernel
theorem dL_sum_228 : decode cL_sum 228 = .ok (.aload_n 0, 1) := by decide +kernel
theorem dL_sum_229 : decode cL_sum 229 = .ok (.iload_n 3, 1) := by decide +kernel
theorem dL_sum_230 : decode cL_sum 230 = .ok (.iconst 0, 1) := by decide +kernel
theorem dL_sum_231 : decode cL_sum 231 = .ok (.invokestatic 259, 3) := by decide +kernel
theorem dL_sum_234 : decode cL_sum 234 = .ok (.i2l, 1) := by decide +kernel
theorem dL_sum_235 : decode cL_sum 235 = .ok (.lmul, 1) := by decide +kernel
theorem dL_sum_236 : decode cL_sum 236 = .ok (.ladd, 1) := by decide +kernel
theorem dL_sum_237 : decode cL_sum 237 = .ok (.aload_n 0, 1) := by decide +kernel
theorem dL_sum_238 : decode cL_sum 238 = .ok (.iload_n 3, 1) := by decide +kernel
theorem dL_sum_239 : decode cL_sum 239 = .ok (.iconst 1, 1) := by decide +kernel
theorem dL_sum_240 : decode cL_sum 240 = .ok (.invokestatic 259, 3) := by decide +kernel
theorem dL_sum_243 : decode cL_sum 243 = .ok (.i2l, 1) := by decide +kernel
theorem dL_sum_244 : decode cL_sum 244 = .ok (.ladd, 1) := by decide +kernel
theorem dL_sum_245 : decode cL_sum 245 = .ok (.lstore_n 1, 1) := by decide +kernel
theorem dL_sum_246 : decode cL_sum 246 = .ok (.iinc 3 1, 3) := by decide +kernel
theorem dL_sum_249 : decode cL_sum 249 = .ok (.goto (-38), 3) := by decide +kernel
theorem dL_sum_252 : decode cL_sum 252 = .ok (.lload_n 1, 1) := by decide +kernel
theorem dL_sum_253 : decode cL_sum 253 = .ok (.lreturn, 1) := by decide +kernel
theorem dL_isNet_0 : decode cL_isNet 0 = .ok (.iconst 4, 1) := by decide +kernel
theorem dL_isNet_1 : decode cL_isNet 1 = .ok (.aload_n 0, 1) := by decide +kernel
theorem dL_isNet_2 : decode cL_isNet 2 = .ok (.bipush 7, 2) := by decide +kernel
theorem dL_isNet_4 : decode cL_isNet 4 = .ok (.invokestatic 167, 3) := by decide +kernel
theorem dL_isNet_7 : decode cL_isNet 7 = .ok (.aload_n 0, 1) := by decide +kernel
theorem dL_isNet_8 : decode cL_isNet 8 = .ok (.iload_n 1, 1) := by decide +kernel
theorem dL_isNet_9 : decode cL_isNet 9 = .ok (.iconst 3, 1) := by decide +kernel
theorem dL_isNet_10 : decode cL_isNet 10 = .ok (.invokestatic 242, 3) := by decide +kernel
theorem dL_isNet_13 : decode cL_isNet 13 = .ok (.iadd, 1) := by decide +kernel
theorem dL_isNet_14 : decode cL_isNet 14 = .ok (.invokestatic 261, 3) := by decide +kernel
theorem dL_isNet_17 : decode cL_isNet 17 = .ok (.istore_n 3, 1) := by decide +kernel
theorem dL_isNet_18 : decode cL_isNet 18 = .ok (.iconst 0, 1) := by decide +kernel
theorem dL_isNet_19 : decode cL_isNet 19 = .ok (.istore 4, 2) := by decide +kernel
theorem dL_isNet_21 : decode cL_isNet 21 = .ok (.iconst 0, 1) := by decide +kernel
theorem dL_isNet_22 : decode cL_isNet 22 = .ok (.istore 5, 2) := by decide +kernel
theorem dL_isNet_24 : decode cL_isNet 24 = .ok (.iconst 0, 1) := by decide +kernel
theorem dL_isNet_25 : decode cL_isNet 25 = .ok (.istore 6, 2) := by decide +kernel
theorem dL_isNet_27 : decode cL_isNet 27 = .ok (.iconst 0, 1) := by decide +kernel
theorem dL_isNet_28 : decode cL_isNet 28 = .ok (.istore 7, 2) := by decide +kernel
theorem dL_isNet_30 : decode cL_isNet 30 = .ok (.bipush 24, 2) := by decide +kernel
theorem dL_isNet_32 : decode cL_isNet 32 = .ok (.newarray .int, 2) := by decide +kernel
theorem dL_isNet_34 : decode cL_isNet 34 = .ok (.astore 8, 2) := by decide +kernel
theorem dL_isNet_36 : decode cL_isNet 36 = .ok (.iconst 0, 1) := by decide +kernel
theorem dL_isNet_37 : decode cL_isNet 37 = .ok (.istore 9, 2) := by decide +kernel
theorem dL_isNet_39 : decode cL_isNet 39 = .ok (.iload 9, 2) := by decide +kernel
theorem dL_isNet_41 : decode cL_isNet 41 = .ok (.bipush 24, 2) := by decide +kernel
theorem dL_isNet_43 : decode cL_isNet 43 = .ok (.if_icmp .ge 162, 3) := by decide +kernel
theorem dL_isNet_46 : decode cL_isNet 46 = .ok (.aload_n 0, 1) := by decide +kernel
theorem dL_isNet_47 : decode cL_isNet 47 = .ok (.iload_n 1, 1) := by decide +kernel
theorem dL_isNet_48 : decode cL_isNet 48 = .ok (.iload 9, 2) := by decide +kernel
theorem dL_isNet_50 : decode cL_isNet 50 = .ok (.invokestatic 244, 3) := by decide +kernel
theorem dL_isNet_53 : decode cL_isNet 53 = .ok (.ifCond .le 7, 3) := by decide +kernel
theorem dL_isNet_56 : decode cL_isNet 56 = .ok (.iconst 1, 1) := by decide +kernel
theorem dL_isNet_57 : decode cL_isNet 57 = .ok (.goto 4, 3) := by decide +kernel
theorem dL_isNet_60 : decode cL_isNet 60 = .ok (.iconst 0, 1) := by decide +kernel
theorem dL_isNet_61 : decode cL_isNet 61 = .ok (.istore 10, 2) := by decide +kernel
theorem dL_isNet_63 : decode cL_isNet 63 = .ok (.iload 4, 2) := by decide +kernel
theorem dL_isNet_65 : decode cL_isNet 65 = .ok (.iload 10, 2) := by decide +kernel
theorem dL_isNet_67 : decode cL_isNet 67 = .ok (.ifCond .eq 7, 3) := by decide +kernel
theorem dL_isNet_70 : decode cL_isNet 70 = .ok (.iconst 1, 1) := by decide +kernel
theorem dL_isNet_71 : decode cL_isNet 71 = .ok (.goto 4, 3) := by decide +kernel
theorem dL_isNet_74 : decode cL_isNet 74 = .ok (.iconst 0, 1) := by decide +kernel
theorem dL_isNet_75 : decode cL_isNet 75 = .ok (.iadd, 1) := by decide +kernel
theorem dL_isNet_76 : decode cL_isNet 76 = .ok (.istore 4, 2) := by decide +kernel
theorem dL_isNet_78 : decode cL_isNet 78 = .ok (.iload 5, 2) := by decide +kernel
theorem dL_isNet_80 : decode cL_isNet 80 = .ok (.iload 10, 2) := by decide +kernel
theorem dL_isNet_82 : decode cL_isNet 82 = .ok (.ifCond .eq 18, 3) := by decide +kernel
theorem dL_isNet_85 : decode cL_isNet 85 = .ok (.iload 9, 2) := by decide +kernel
theorem dL_isNet_87 : decode cL_isNet 87 = .ok (.bipush 6, 2) := by decide +kernel
theorem dL_isNet_89 : decode cL_isNet 89 = .ok (.idiv, 1) := by decide +kernel
theorem dL_isNet_90 : decode cL_isNet 90 = .ok (.iconst 4, 1) := by decide +kernel
theorem dL_isNet_91 : decode cL_isNet 91 = .ok (.iload_n 3, 1) := by decide +kernel
theorem dL_isNet_92 : decode cL_isNet 92 = .ok (.isub, 1) := by decide +kernel
theorem dL_isNet_93 : decode cL_isNet 93 = .ok (.if_icmp .ge 7, 3) := by decide +kernel
theorem dL_isNet_96 : decode cL_isNet 96 = .ok (.iconst 1, 1) := by decide +kernel
theorem dL_isNet_97 : decode cL_isNet 97 = .ok (.goto 4, 3) := by decide +kernel
theorem dL_isNet_100 : decode cL_isNet 100 = .ok (.iconst 0, 1) := by decide +kernel
theorem dL_isNet_101 : decode cL_isNet 101 = .ok (.iadd, 1) := by decide +kernel
theorem dL_isNet_102 : decode cL_isNet 102 = .ok (.istore 5, 2) := by decide +kernel
theorem dL_isNet_104 : decode cL_isNet 104 = .ok (.iload 9, 2) := by decide +kernel
theorem dL_isNet_106 : decode cL_isNet 106 = .ok (.bipush 6, 2) := by decide +kernel
theorem dL_isNet_108 : decode cL_isNet 108 = .ok (.irem, 1) := by decide +kernel
theorem dL_isNet_109 : decode cL_isNet 109 = .ok (.iconst 5, 1) := by decide +kernel
theorem dL_isNet_110 : decode cL_isNet 110 = .ok (.if_icmp .ne 7, 3) := by decide +kernel
theorem dL_isNet_113 : decode cL_isNet 113 = .ok (.iconst 0, 1) := by decide +kernel
theorem dL_isNet_114 : decode cL_isNet 114 = .ok (.goto 14, 3) := by decide +kernel
theorem dL_isNet_117 : decode cL_isNet 117 = .ok (.aload_n 0, 1) := by decide +kernel
theorem dL_isNet_118 : decode cL_isNet 118 = .ok (.iload_n 1, 1) := by decide +kernel
theorem dL_isNet_119 : decode cL_isNet 119 = .ok (.iload 9, 2) := by decide +kernel
theorem dL_isNet_121 : decode cL_isNet 121 = .ok (.iload 9, 2) := by decide +kernel
theorem dL_isNet_123 : decode cL_isNet 123 = .ok (.iconst 1, 1) := by decide +kernel
theorem dL_isNet_124 : decode cL_isNet 124 = .ok (.iadd, 1) := by decide +kernel
theorem dL_isNet_125 : decode cL_isNet 125 = .ok (.invokestatic 246, 3) := by decide +kernel
theorem dL_isNet_128 : decode cL_isNet 128 = .ok (.istore 11, 2) := by decide +kernel
theorem dL_isNet_130 : decode cL_isNet 130 = .ok (.iload 9, 2) := by decide +kernel
theorem dL_isNet_132 : decode cL_isNet 132 = .ok (.bipush 17, 2) := by decide +kernel
theorem dL_isNet_134 : decode cL_isNet 134 = .ok (.if_icmp .le 7, 3) := by decide +kernel
theorem dL_isNet_137 : decode cL_isNet 137 = .ok (.iconst 0, 1) := by decide +kernel
theorem dL_isNet_138 : decode cL_isNet 138 = .ok (.goto 15, 3) := by decide +kernel
theorem dL_isNet_141 : decode cL_isNet 141 = .ok (.aload_n 0, 1) := by decide +kernel
theorem dL_isNet_142 : decode cL_isNet 142 = .ok (.iload_n 1, 1) := by decide +kernel
theorem dL_isNet_143 : decode cL_isNet 143 = .ok (.iload 9, 2) := by decide +kernel
theorem dL_isNet_145 : decode cL_isNet 145 = .ok (.iload 9, 2) := by decide +kernel
theorem dL_isNet_147 : decode cL_isNet 147 = .ok (.bipush 6, 2) := by decide +kernel
theorem dL_isNet_149 : decode cL_isNet 149 = .ok (.iadd, 1) := by decide +kernel
theorem dL_isNet_150 : decode cL_isNet 150 = .ok (.invokestatic 246, 3) := by decide +kernel
theorem dL_isNet_153 : decode cL_isNet 153 = .ok (.istore 12, 2) := by decide +kernel
theorem dL_isNet_155 : decode cL_isNet 155 = .ok (.iload 6, 2) := by decide +kernel
theorem dL_isNet_157 : decode cL_isNet 157 = .ok (.iload 11, 2) := by decide +kernel
theorem dL_isNet_159 : decode cL_isNet 159 = .ok (.iload 12, 2) := by decide +kernel
theorem dL_isNet_161 : decode cL_isNet 161 = .ok (.iadd, 1) := by decide +kernel
theorem dL_isNet_162 : decode cL_isNet 162 = .ok (.iadd, 1) := by decide +kernel
theorem dL_isNet_163 : decode cL_isNet 163 = .ok (.istore 6, 2) := by decide +kernel
theorem dL_isNet_165 : decode cL_isNet 165 = .ok (.iload 7, 2) := by decide +kernel
theorem dL_isNet_167 : decode cL_isNet 167 = .ok (.iload 11, 2) := by decide +kernel
theorem dL_isNet_169 : decode cL_isNet 169 = .ok (.iconst 2, 1) := by decide +kernel
theorem dL_isNet_170 : decode cL_isNet 170 = .ok (.iload 12, 2) := by decide +kernel
theorem dL_isNet_172 : decode cL_isNet 172 = .ok (.imul, 1) := by decide +kernel
theorem dL_isNet_173 : decode cL_isNet 173 = .ok (.iadd, 1) := by decide +kernel
theorem dL_isNet_174 : decode cL_isNet 174 = .ok (.iadd, 1) := by decide +kernel
theorem dL_isNet_175 : decode cL_isNet 175 = .ok (.istore 7, 2) := by decide +kernel
theorem dL_isNet_177 : decode cL_isNet 177 = .ok (.aload 8, 2) := by decide +kernel
theorem dL_isNet_179 : decode cL_isNet 179 = .ok (.iload 9, 2) := by decide +kernel
theorem dL_isNet_181 : decode cL_isNet 181 = .ok (.iload 10, 2) := by decide +kernel
theorem dL_isNet_183 : decode cL_isNet 183 = .ok (.ifCond .eq 14, 3) := by decide +kernel
theorem dL_isNet_186 : decode cL_isNet 186 = .ok (.aload_n 0, 1) := by decide +kernel
theorem dL_isNet_187 : decode cL_isNet 187 = .ok (.iload_n 1, 1) := by decide +kernel
theorem dL_isNet_188 : decode cL_isNet 188 = .ok (.iload 9, 2) := by decide +kernel
theorem dL_isNet_190 : decode cL_isNet 190 = .ok (.iconst 0, 1) := by decide +kernel
theorem dL_isNet_191 : decode cL_isNet 191 = .ok (.invokestatic 266, 3) := by decide +kernel
theorem dL_isNet_194 : decode cL_isNet 194 = .ok (.goto 4, 3) := by decide +kernel
theorem dL_isNet_197 : decode cL_isNet 197 = .ok (.iconst (-1), 1) := by decide +kernel
theorem dL_isNet_198 : decode cL_isNet 198 = .ok (.iastore, 1) := by decide +kernel
theorem dL_isNet_199 : decode cL_isNet 199 = .ok (.iinc 9 1, 3) := by decide +kernel
theorem dL_isNet_202 : decode cL_isNet 202 = .ok (.goto (-163), 3) := by decide +kernel
theorem dL_isNet_205 : decode cL_isNet 205 = .ok (.iconst 0, 1) := by decide +kernel
theorem dL_isNet_206 : decode cL_isNet 206 = .ok (.istore 9, 2) := by decide +kernel
theorem dL_isNet_208 : decode cL_isNet 208 = .ok (.iconst 0, 1) := by decide +kernel
theorem dL_isNet_209 : decode cL_isNet 209 = .ok (.istore 10, 2) := by decide +kernel
theorem dL_isNet_211 : decode cL_isNet 211 = .ok (.iconst 0, 1) := by decide +kernel
theorem dL_isNet_212 : decode cL_isNet 212 = .ok (.istore 11, 2) := by decide +kernel
theorem dL_isNet_214 : decode cL_isNet 214 = .ok (.iload 11, 2) := by decide +kernel
theorem dL_isNet_216 : decode cL_isNet 216 = .ok (.bipush 24, 2) := by decide +kernel
theorem dL_isNet_218 : decode cL_isNet 218 = .ok (.if_icmp .ge 232, 3) := by decide +kernel
theorem dL_isNet_221 : decode cL_isNet 221 = .ok (.iload 11, 2) := by decide +kernel
theorem dL_isNet_223 : decode cL_isNet 223 = .ok (.bipush 6, 2) := by decide +kernel
theorem dL_isNet_225 : decode cL_isNet 225 = .ok (.irem, 1) := by decide +kernel
theorem dL_isNet_226 : decode cL_isNet 226 = .ok (.iconst 5, 1) := by decide +kernel
theorem dL_isNet_227 : decode cL_isNet 227 = .ok (.if_icmp .eq 39, 3) := by decide +kernel
theorem dL_isNet_230 : decode cL_isNet 230 = .ok (.aload_n 0, 1) := by decide +kernel
theorem dL_isNet_231 : decode cL_isNet 231 = .ok (.iload_n 1, 1) := by decide +kernel
theorem dL_isNet_232 : decode cL_isNet 232 = .ok (.iload 11, 2) := by decide +kernel
theorem dL_isNet_234 : decode cL_isNet 234 = .ok (.iload 11, 2) := by decide +kernel
theorem dL_isNet_236 : decode cL_isNet 236 = .ok (.iconst 1, 1) := by decide +kernel
theorem dL_isNet_237 : decode cL_isNet 237 = .ok (.iadd, 1) := by decide +kernel
theorem dL_isNet_238 : decode cL_isNet 238 = .ok (.invokestatic 246, 3) := by decide +kernel
theorem dL_isNet_241 : decode cL_isNet 241 = .ok (.ifCond .ne 25, 3) := by decide +kernel
theorem dL_isNet_244 : decode cL_isNet 244 = .ok (.aload 8, 2) := by decide +kernel
theorem dL_isNet_246 : decode cL_isNet 246 = .ok (.iload 11, 2) := by decide +kernel
theorem dL_isNet_248 : decode cL_isNet 248 = .ok (.iaload, 1) := by decide +kernel
theorem dL_isNet_249 : decode cL_isNet 249 = .ok (.ifCond .lt 17, 3) := by decide +kernel
theorem dL_isNet_252 : decode cL_isNet 252 = .ok (.aload 8, 2) := by decide +kernel
theorem dL_isNet_254 : decode cL_isNet 254 = .ok (.iload 11, 2) := by decide +kernel
theorem dL_isNet_256 : decode cL_isNet 256 = .ok (.iconst 1, 1) := by decide +kernel
theorem dL_isNet_257 : decode cL_isNet 257 = .ok (.iadd, 1) := by decide +kernel
theorem dL_isNet_258 : decode cL_isNet 258 = .ok (.iaload, 1) := by decide +kernel
theorem dL_isNet_259 : decode cL_isNet 259 = .ok (.ifCond .lt 7, 3) := by decide +kernel
theorem dL_isNet_262 : decode cL_isNet 262 = .ok (.iconst 1, 1) := by decide +kernel
theorem dL_isNet_263 : decode cL_isNet 263 = .ok (.goto 4, 3) := by decide +kernel
theorem dL_isNet_266 : decode cL_isNet 266 = .ok (.iconst 0, 1) := by decide +kernel
theorem dL_isNet_267 : decode cL_isNet 267 = .ok (.istore 12, 2) := by decide +kernel
theorem dL_isNet_269 : decode cL_isNet 269 = .ok (.iload 11, 2) := by decide +kernel
theorem dL_isNet_271 : decode cL_isNet 271 = .ok (.bipush 18, 2) := by decide +kernel
theorem dL_isNet_273 : decode cL_isNet 273 = .ok (.if_icmp .ge 41, 3) := by decide +kernel
theorem dL_isNet_276 : decode cL_isNet 276 = .ok (.aload_n 0, 1) := by decide +kernel
theorem dL_isNet_277 : decode cL_isNet 277 = .ok (.iload_n 1, 1) := by decide +kernel
theorem dL_isNet_278 : decode cL_isNet 278 = .ok (.iload 11, 2) := by decide +kernel
theorem dL_isNet_280 : decode cL_isNet 280 = .ok (.iload 11, 2) := by decide +kernel
theorem dL_isNet_282 : decode cL_isNet 282 = .ok (.bipush 6, 2) := by decide +kernel
theorem dL_isNet_284 : decode cL_isNet 284 = .ok (.iadd, 1) := by decide +kernel
theorem dL_isNet_285 : decode cL_isNet 285 = .ok (.invokestatic 246, 3) := by decide +kernel
theorem dL_isNet_288 : decode cL_isNet 288 = .ok (.ifCond .ne 26, 3) := by decide +kernel
theorem dL_isNet_291 : decode cL_isNet 291 = .ok (.aload 8, 2) := by decide +kernel
theorem dL_isNet_293 : decode cL_isNet 293 = .ok (.iload 11, 2) := by decide +kernel
theorem dL_isNet_295 : decode cL_isNet 295 = .ok (.iaload, 1) := by decide +kernel
theorem dL_isNet_296 : decode cL_isNet 296 = .ok (.ifCond .lt 18, 3) := by decide +kernel
theorem dL_isNet_299 : decode cL_isNet 299 = .ok (.aload 8, 2) := by decide +kernel
theorem dL_isNet_301 : decode cL_isNet 301 = .ok (.iload 11, 2) := by decide +kernel
theorem dL_isNet_303 : decode cL_isNet 303 = .ok (.bipush 6, 2) := by decide +kernel
theorem dL_isNet_305 : decode cL_isNet 305 = .ok (.iadd, 1) := by decide +kernel
theorem dL_isNet_306 : decode cL_isNet 306 = .ok (.iaload, 1) := by decide +kernel
theorem dL_isNet_307 : decode cL_isNet 307 = .ok (.ifCond .lt 7, 3) := by decide +kernel
theorem dL_isNet_310 : decode cL_isNet 310 = .ok (.iconst 1, 1) := by decide +kernel
theorem dL_isNet_311 : decode cL_isNet 311 = .ok (.goto 4, 3) := by decide +kernel
theorem dL_isNet_314 : decode cL_isNet 314 = .ok (.iconst 0, 1) := by decide +kernel
theorem dL_isNet_315 : decode cL_isNet 315 = .ok (.istore 13, 2) := by decide +kernel
theorem dL_isNet_317 : decode cL_isNet 317 = .ok (.iload 12, 2) := by decide +kernel
theorem dL_isNet_319 : decode cL_isNet 319 = .ok (.ifCond .eq 18, 3) := by decide +kernel
theorem dL_isNet_322 : decode cL_isNet 322 = .ok (.aload 8, 2) := by decide +kernel
theorem dL_isNet_324 : decode cL_isNet 324 = .ok (.iload 11, 2) := by decide +kernel
theorem dL_isNet_326 : decode cL_isNet 326 = .ok (.iaload, 1) := by decide +kernel
theorem dL_isNet_327 : decode cL_isNet 327 = .ok (.aload 8, 2) := by decide +kernel
theorem dL_isNet_329 : decode cL_isNet 329 = .ok (.iload 11, 2) := by decide +kernel
theorem dL_isNet_331 : decode cL_isNet 331 = .ok (.iconst 1, 1) := by decide +kernel
theorem dL_isNet_332 : decode cL_isNet 332 = .ok (.iadd, 1) := by decide +kernel
theorem dL_isNet_333 : decode cL_isNet 333 = .ok (.iaload, 1) := by decide +kernel
theorem dL_isNet_334 : decode cL_isNet 334 = .ok (.if_icmp .ne 58, 3) := by decide +kernel
theorem dL_isNet_337 : decode cL_isNet 337 = .ok (.iload 13, 2) := by decide +kernel
theorem dL_isNet_339 : decode cL_isNet 339 = .ok (.ifCond .eq 19, 3) := by decide +kernel
theorem dL_isNet_342 : decode cL_isNet 342 = .ok (.aload 8, 2) := by decide +kernel
theorem dL_isNet_344 : decode cL_isNet 344 = .ok (.iload 11, 2) := by decide +kernel
theorem dL_isNet_346 : decode cL_isNet 346 = .ok (.iaload, 1) := by decide +kernel
theorem dL_isNet_347 : decode cL_isNet 347 = .ok (.aload 8, 2) := by decide +kernel
theorem dL_isNet_349 : decode cL_isNet 349 = .ok (.iload 11, 2) := by decide +kernel
theorem dL_isNet_351 : decode cL_isNet 351 = .ok (.bipush 6, 2) := by decide +kernel
theorem dL_isNet_353 : decode cL_isNet 353 = .ok (.iadd, 1) := by decide +kernel
theorem dL_isNet_354 : decode cL_isNet 354 = .ok (.iaload, 1) := by decide +kernel
theorem dL_isNet_355 : decode cL_isNet 355 = .ok (.if_icmp .ne 37, 3) := by decide +kernel
theorem dL_isNet_358 : decode cL_isNet 358 = .ok (.aload 8, 2) := by decide +kernel
theorem dL_isNet_360 : decode cL_isNet 360 = .ok (.iload 11, 2) := by decide +kernel
theorem dL_isNet_362 : decode cL_isNet 362 = .ok (.iaload, 1) := by decide +kernel
theorem dL_isNet_363 : decode cL_isNet 363 = .ok (.iload 11, 2) := by decide +kernel
theorem dL_isNet_365 : decode cL_isNet 365 = .ok (.if_icmp .gt 27, 3) := by decide +kernel
theorem dL_isNet_368 : decode cL_isNet 368 = .ok (.aload 8, 2) := by decide +kernel
theorem dL_isNet_370 : decode cL_isNet 370 = .ok (.iload 11, 2) := by decide +kernel
theorem dL_isNet_372 : decode cL_isNet 372 = .ok (.iaload, 1) := by decide +kernel
theorem dL_isNet_373 : decode cL_isNet 373 = .ok (.ifCond .lt 21, 3) := by decide +kernel
theorem dL_isNet_376 : decode cL_isNet 376 = .ok (.aload 8, 2) := by decide +kernel
theorem dL_isNet_378 : decode cL_isNet 378 = .ok (.aload 8, 2) := by decide +kernel
theorem dL_isNet_380 : decode cL_isNet 380 = .ok (.iload 11, 2) := by decide +kernel
theorem dL_isNet_382 : decode cL_isNet 382 = .ok (.iaload, 1) := by decide +kernel
theorem dL_isNet_383 : decode cL_isNet 383 = .ok (.iaload, 1) := by decide +kernel
theorem dL_isNet_384 : decode cL_isNet 384 = .ok (.aload 8, 2) := by decide +kernel
theorem dL_isNet_386 : decode cL_isNet 386 = .ok (.iload 11, 2) := by decide +kernel
theorem dL_isNet_388 : decode cL_isNet 388 = .ok (.iaload, 1) := by decide +kernel
theorem dL_isNet_389 : decode cL_isNet 389 = .ok (.if_icmp .eq 5, 3) := by decide +kernel
theorem dL_isNet_392 : decode cL_isNet 392 = .ok (.iconst 0, 1) := by decide +kernel
theorem dL_isNet_393 : decode cL_isNet 393 = .ok (.ireturn, 1) := by decide +kernel
theorem dL_isNet_394 : decode cL_isNet 394 = .ok (.iload 9, 2) := by decide +kernel
theorem dL_isNet_396 : decode cL_isNet 396 = .ok (.aload 8, 2) := by decide +kernel
theorem dL_isNet_398 : decode cL_isNet 398 = .ok (.iload 11, 2) := by decide +kernel
theorem dL_isNet_400 : decode cL_isNet 400 = .ok (.iaload, 1) := by decide +kernel
theorem dL_isNet_401 : decode cL_isNet 401 = .ok (.iload 11, 2) := by decide +kernel
theorem dL_isNet_403 : decode cL_isNet 403 = .ok (.if_icmp .ne 7, 3) := by decide +kernel
theorem dL_isNet_406 : decode cL_isNet 406 = .ok (.iconst 1, 1) := by decide +kernel
theorem dL_isNet_407 : decode cL_isNet 407 = .ok (.goto 4, 3) := by decide +kernel
theorem dL_isNet_410 : decode cL_isNet 410 = .ok (.iconst 0, 1) := by decide +kernel
theorem dL_isNet_411 : decode cL_isNet 411 = .ok (.iadd, 1) := by decide +kernel
theorem dL_isNet_412 : decode cL_isNet 412 = .ok (.istore 9, 2) := by decide +kernel
theorem dL_isNet_414 : decode cL_isNet 414 = .ok (.aload 8, 2) := by decide +kernel
theorem dL_isNet_416 : decode cL_isNet 416 = .ok (.iload 11, 2) := by decide +kernel
theorem dL_isNet_418 : decode cL_isNet 418 = .ok (.iaload, 1) := by decide +kernel
theorem dL_isNet_419 : decode cL_isNet 419 = .ok (.iload 11, 2) := by decide +kernel
theorem dL_isNet_421 : decode cL_isNet 421 = .ok (.if_icmp .ne 19, 3) := by decide +kernel
theorem dL_isNet_424 : decode cL_isNet 424 = .ok (.iload 10, 2) := by decide +kernel
theorem dL_isNet_426 : decode cL_isNet 426 = .ok (.aload_n 0, 1) := by decide +kernel
theorem dL_isNet_427 : decode cL_isNet 427 = .ok (.iload_n 1, 1) := by decide +kernel
theorem dL_isNet_428 : decode cL_isNet 428 = .ok (.iload 11, 2) := by decide +kernel
theorem dL_isNet_430 : decode cL_isNet 430 = .ok (.iconst 1, 1) := by decide +kernel
theorem dL_isNet_431 : decode cL_isNet 431 = .ok (.invokestatic 266, 3) := by decide +kernel
theorem dL_isNet_434 : decode cL_isNet 434 = .ok (.invokestatic 268, 3) := by decide +kernel
theorem dL_isNet_437 : decode cL_isNet 437 = .ok (.goto 5, 3) := by decide +kernel
theorem dL_isNet_440 : decode cL_isNet 440 = .ok (.iload 10, 2) := by decide +kernel
theorem dL_isNet_442 : decode cL_isNet 442 = .ok (.istore 10, 2) := by decide +kernel
theorem dL_isNet_444 : decode cL_isNet 444 = .ok (.iinc 11 1, 3) := by decide +kernel
theorem dL_isNet_447 : decode cL_isNet 447 = .ok (.goto (-233), 3) := by decide +kernel
theorem dL_isNet_450 : decode cL_isNet 450 = .ok (.iconst 0, 1) := by decide +kernel
theorem dL_isNet_451 : decode cL_isNet 451 = .ok (.istore 11, 2) := by decide +kernel
theorem dL_isNet_453 : decode cL_isNet 453 = .ok (.iconst 0, 1) := by decide +kernel
theorem dL_isNet_454 : decode cL_isNet 454 = .ok (.istore 12, 2) := by decide +kernel
theorem dL_isNet_456 : decode cL_isNet 456 = .ok (.iconst 0, 1) := by decide +kernel
theorem dL_isNet_457 : decode cL_isNet 457 = .ok (.istore 13, 2) := by decide +kernel
theorem dL_isNet_459 : decode cL_isNet 459 = .ok (.iload 13, 2) := by decide +kernel
theorem dL_isNet_461 : decode cL_isNet 461 = .ok (.bipush 24, 2) := by decide +kernel
theorem dL_isNet_463 : decode cL_isNet 463 = .ok (.if_icmp .ge 76, 3) := by decide +kernel
theorem dL_isNet_466 : decode cL_isNet 466 = .ok (.aload 8, 2) := by decide +kernel
theorem dL_isNet_468 : decode cL_isNet 468 = .ok (.iload_n 2, 1) := by decide +kernel
theorem dL_isNet_469 : decode cL_isNet 469 = .ok (.iaload, 1) := by decide +kernel
theorem dL_isNet_470 : decode cL_isNet 470 = .ok (.ifCond .lt 19, 3) := by decide +kernel
theorem dL_isNet_473 : decode cL_isNet 473 = .ok (.aload 8, 2) := by decide +kernel
theorem dL_isNet_475 : decode cL_isNet 475 = .ok (.iload 13, 2) := by decide +kernel
theorem dL_isNet_477 : decode cL_isNet 477 = .ok (.iaload, 1) := by decide +kernel
theorem dL_isNet_478 : decode cL_isNet 478 = .ok (.aload 8, 2) := by decide +kernel
theorem dL_isNet_480 : decode cL_isNet 480 = .ok (.iload_n 2, 1) := by decide +kernel
theorem dL_isNet_481 : decode cL_isNet 481 = .ok (.iaload, 1) := by decide +kernel
theorem dL_isNet_482 : decode cL_isNet 482 = .ok (.if_icmp .ne 7, 3) := by decide +kernel
theorem dL_isNet_485 : decode cL_isNet 485 = .ok (.iconst 1, 1) := by decide +kernel
theorem dL_isNet_486 : decode cL_isNet 486 = .ok (.goto 4, 3) := by decide +kernel
theorem dL_isNet_489 : decode cL_isNet 489 = .ok (.iconst 0, 1) := by decide +kernel
theorem dL_isNet_490 : decode cL_isNet 490 = .ok (.istore 14, 2) := by decide +kernel
theorem dL_isNet_492 : decode cL_isNet 492 = .ok (.iload 11, 2) := by decide +kernel
theorem dL_isNet_494 : decode cL_isNet 494 = .ok (.iload 14, 2) := by decide +kernel
theorem dL_isNet_496 : decode cL_isNet 496 = .ok (.ifCond .eq 7, 3) := by decide +kernel
theorem dL_isNet_499 : decode cL_isNet 499 = .ok (.iconst 1, 1) := by decide +kernel
theorem dL_isNet_500 : decode cL_isNet 500 = .ok (.goto 4, 3) := by decide +kernel
theorem dL_isNet_503 : decode cL_isNet 503 = .ok (.iconst 0, 1) := by decide +kernel
theorem dL_isNet_504 : decode cL_isNet 504 = .ok (.iadd, 1) := by decide +kernel
theorem dL_isNet_505 : decode cL_isNet 505 = .ok (.istore 11, 2) := by decide +kernel
theorem dL_isNet_507 : decode cL_isNet 507 = .ok (.iload 12, 2) := by decide +kernel
theorem dL_isNet_509 : decode cL_isNet 509 = .ok (.iload 14, 2) := by decide +kernel
theorem dL_isNet_511 : decode cL_isNet 511 = .ok (.ifCond .eq 18, 3) := by decide +kernel
theorem dL_isNet_514 : decode cL_isNet 514 = .ok (.iload 13, 2) := by decide +kernel
theorem dL_isNet_516 : decode cL_isNet 516 = .ok (.bipush 6, 2) := by decide +kernel
theorem dL_isNet_518 : decode cL_isNet 518 = .ok (.idiv, 1) := by decide +kernel
theorem dL_isNet_519 : decode cL_isNet 519 = .ok (.iconst 4, 1) := by decide +kernel
theorem dL_isNet_520 : decode cL_isNet 520 = .ok (.iload_n 3, 1) := by decide +kernel
theorem dL_isNet_521 : decode cL_isNet 521 = .ok (.isub, 1) := by decide +kernel
theorem dL_isNet_522 : decode cL_isNet 522 = .ok (.if_icmp .ge 7, 3) := by decide +kernel
theorem dL_isNet_525 : decode cL_isNet 525 = .ok (.iconst 1, 1) := by decide +kernel
theorem dL_isNet_526 : decode cL_isNet 526 = .ok (.goto 4, 3) := by decide +kernel
theorem dL_isNet_529 : decode cL_isNet 529 = .ok (.iconst 0, 1) := by decide +kernel
theorem dL_isNet_530 : decode cL_isNet 530 = .ok (.iadd, 1) := by decide +kernel
theorem dL_isNet_531 : decode cL_isNet 531 = .ok (.istore 12, 2) := by decide +kernel
theorem dL_isNet_533 : decode cL_isNet 533 = .ok (.iinc 13 1, 3) := by decide +kernel
theorem dL_isNet_536 : decode cL_isNet 536 = .ok (.goto (-77), 3) := by decide +kernel
theorem dL_isNet_539 : decode cL_isNet 539 = .ok (.iload 11, 2) := by decide +kernel
theorem dL_isNet_541 : decode cL_isNet 541 = .ok (.ifCond .ne 34, 3) := by decide +kernel
theorem dL_isNet_544 : decode cL_isNet 544 = .ok (.aload_n 0, 1) := by decide +kernel
theorem dL_isNet_545 : decode cL_isNet 545 = .ok (.iload_n 1, 1) := by decide +kernel
theorem dL_isNet_546 : decode cL_isNet 546 = .ok (.iload_n 2, 1) := by decide +kernel
theorem dL_isNet_547 : decode cL_isNet 547 = .ok (.iconst 1, 1) := by decide +kernel
theorem dL_isNet_548 : decode cL_isNet 548 = .ok (.invokestatic 266, 3) := by decide +kernel
theorem dL_isNet_551 : decode cL_isNet 551 = .ok (.bipush (-75), 2) := by decide +kernel
theorem dL_isNet_553 : decode cL_isNet 553 = .ok (.if_icmp .ne 18, 3) := by decide +kernel
theorem dL_isNet_556 : decode cL_isNet 556 = .ok (.aload_n 0, 1) := by decide +kernel
theorem dL_isNet_557 : decode cL_isNet 557 = .ok (.iload_n 1, 1) := by decide +kernel
theorem dL_isNet_558 : decode cL_isNet 558 = .ok (.iload_n 2, 1) := by decide +kernel
theorem dL_isNet_559 : decode cL_isNet 559 = .ok (.invokestatic 271, 3) := by decide +kernel
theorem dL_isNet_562 : decode cL_isNet 562 = .ok (.bipush (-75), 2) := by decide +kernel
theorem dL_isNet_564 : decode cL_isNet 564 = .ok (.if_icmp .ne 7, 3) := by decide +kernel
theorem dL_isNet_567 : decode cL_isNet 567 = .ok (.iconst 1, 1) := by decide +kernel
theorem dL_isNet_568 : decode cL_isNet 568 = .ok (.goto 61, 3) := by decide +kernel
theorem dL_isNet_571 : decode cL_isNet 571 = .ok (.iconst 0, 1) := by decide +kernel
theorem dL_isNet_572 : decode cL_isNet 572 = .ok (.goto 57, 3) := by decide +kernel
theorem dL_isNet_575 : decode cL_isNet 575 = .ok (.aload_n 0, 1) := by decide +kernel
theorem dL_isNet_576 : decode cL_isNet 576 = .ok (.iload_n 1, 1) := by decide +kernel
theorem dL_isNet_577 : decode cL_isNet 577 = .ok (.iload_n 2, 1) := by decide +kernel
theorem dL_isNet_578 : decode cL_isNet 578 = .ok (.iconst 1, 1) := by decide +kernel
theorem dL_isNet_579 : decode cL_isNet 579 = .ok (.invokestatic 266, 3) := by decide +kernel
theorem dL_isNet_582 : decode cL_isNet 582 = .ok (.iload 11, 2) := by decide +kernel
theorem dL_isNet_584 : decode cL_isNet 584 = .ok (.if_icmp .ne 44, 3) := by decide +kernel
theorem dL_isNet_587 : decode cL_isNet 587 = .ok (.aload_n 0, 1) := by decide +kernel
theorem dL_isNet_588 : decode cL_isNet 588 = .ok (.iload_n 1, 1) := by decide +kernel
theorem dL_isNet_589 : decode cL_isNet 589 = .ok (.iload_n 2, 1) := by decide +kernel
theorem dL_isNet_590 : decode cL_isNet 590 = .ok (.iconst 2, 1) := by decide +kernel
theorem dL_isNet_591 : decode cL_isNet 591 = .ok (.invokestatic 266, 3) := by decide +kernel
theorem dL_isNet_594 : decode cL_isNet 594 = .ok (.iload 12, 2) := by decide +kernel
theorem dL_isNet_596 : decode cL_isNet 596 = .ok (.if_icmp .ne 32, 3) := by decide +kernel
theorem dL_isNet_599 : decode cL_isNet 599 = .ok (.aload_n 0, 1) := by decide +kernel
theorem dL_isNet_600 : decode cL_isNet 600 = .ok (.iload_n 1, 1) := by decide +kernel
theorem dL_isNet_601 : decode cL_isNet 601 = .ok (.iload_n 2, 1) := by decide +kernel
theorem dL_isNet_602 : decode cL_isNet 602 = .ok (.invokestatic 271, 3) := by decide +kernel
theorem dL_isNet_605 : decode cL_isNet 605 = .ok (.iload 11, 2) := by decide +kernel
theorem dL_isNet_607 : decode cL_isNet 607 = .ok (.if_icmp .ne 21, 3) := by decide +kernel
theorem dL_isNet_610 : decode cL_isNet 610 = .ok (.aload_n 0, 1) := by decide +kernel
theorem dL_isNet_611 : decode cL_isNet 611 = .ok (.iload_n 1, 1) := by decide +kernel
theorem dL_isNet_612 : decode cL_isNet 612 = .ok (.iload_n 2, 1) := by decide +kernel
theorem dL_isNet_613 : decode cL_isNet 613 = .ok (.iconst 3, 1) := by decide +kernel
theorem dL_isNet_614 : decode cL_isNet 614 = .ok (.invokestatic 266, 3) := by decide +kernel
theorem dL_isNet_617 : decode cL_isNet 617 = .ok (.iload 11, 2) := by decide +kernel
theorem dL_isNet_619 : decode cL_isNet 619 = .ok (.iconst 1, 1) := by decide +kernel
theorem dL_isNet_620 : decode cL_isNet 620 = .ok (.isub, 1) := by decide +kernel
theorem dL_isNet_621 : decode cL_isNet 621 = .ok (.if_icmp .lt 7, 3) := by decide +kernel
theorem dL_isNet_624 : decode cL_isNet 624 = .ok (.iconst 1, 1) := by decide +kernel
theorem dL_isNet_625 : decode cL_isNet 625 = .ok (.goto 4, 3) := by decide +kernel
theorem dL_isNet_628 : decode cL_isNet 628 = .ok (.iconst 0, 1) := by decide +kernel
theorem dL_isNet_629 : decode cL_isNet 629 = .ok (.istore 13, 2) := by decide +kernel
theorem dL_isNet_631 : decode cL_isNet 631 = .ok (.iconst 1, 1) := by decide +kernel
theorem dL_isNet_632 : decode cL_isNet 632 = .ok (.istore 14, 2) := by decide +kernel
theorem dL_isNet_634 : decode cL_isNet 634 = .ok (.iload 14, 2) := by decide +kernel
theorem dL_isNet_636 : decode cL_isNet 636 = .ok (.iload 9, 2) := by decide +kernel
theorem dL_isNet_638 : decode cL_isNet 638 = .ok (.if_icmp .ge 67, 3) := by decide +kernel
theorem dL_isNet_641 : decode cL_isNet 641 = .ok (.aload_n 0, 1) := by decide +kernel
theorem dL_isNet_642 : decode cL_isNet 642 = .ok (.iload_n 1, 1) := by decide +kernel
theorem dL_isNet_643 : decode cL_isNet 643 = .ok (.iload 14, 2) := by decide +kernel
theorem dL_isNet_645 : decode cL_isNet 645 = .ok (.iconst 1, 1) := by decide +kernel
theorem dL_isNet_646 : decode cL_isNet 646 = .ok (.isub, 1) := by decide +kernel
theorem dL_isNet_647 : decode cL_isNet 647 = .ok (.invokestatic 273, 3) := by decide +kernel
theorem dL_isNet_650 : decode cL_isNet 650 = .ok (.istore 15, 2) := by decide +kernel
theorem dL_isNet_652 : decode cL_isNet 652 = .ok (.aload_n 0, 1) := by decide +kernel
theorem dL_isNet_653 : decode cL_isNet 653 = .ok (.iload_n 1, 1) := by decide +kernel
theorem dL_isNet_654 : decode cL_isNet 654 = .ok (.iload 14, 2) := by decide +kernel
theorem dL_isNet_656 : decode cL_isNet 656 = .ok (.invokestatic 273, 3) := by decide +kernel
theorem dL_isNet_659 : decode cL_isNet 659 = .ok (.istore 16, 2) := by decide +kernel
theorem dL_isNet_661 : decode cL_isNet 661 = .ok (.aload_n 0, 1) := by decide +kernel
theorem dL_isNet_662 : decode cL_isNet 662 = .ok (.iload_n 1, 1) := by decide +kernel
theorem dL_isNet_663 : decode cL_isNet 663 = .ok (.iload 15, 2) := by decide +kernel
theorem dL_isNet_665 : decode cL_isNet 665 = .ok (.iconst 1, 1) := by decide +kernel
theorem dL_isNet_666 : decode cL_isNet 666 = .ok (.invokestatic 266, 3) := by decide +kernel
theorem dL_isNet_669 : decode cL_isNet 669 = .ok (.aload_n 0, 1) := by decide +kernel
theorem dL_isNet_670 : decode cL_isNet 670 = .ok (.iload_n 1, 1) := by decide +kernel
theorem dL_isNet_671 : decode cL_isNet 671 = .ok (.iload 16, 2) := by decide +kernel
theorem dL_isNet_673 : decode cL_isNet 673 = .ok (.iconst 1, 1) := by decide +kernel
theorem dL_isNet_674 : decode cL_isNet 674 = .ok (.invokestatic 266, 3) := by decide +kernel
theorem dL_isNet_677 : decode cL_isNet 677 = .ok (.isub, 1) := by decide +kernel
theorem dL_isNet_678 : decode cL_isNet 678 = .ok (.istore 17, 2) := by decide +kernel
theorem dL_isNet_680 : decode cL_isNet 680 = .ok (.iload 17, 2) := by decide +kernel
theorem dL_isNet_682 : decode cL_isNet 682 = .ok (.ifCond .lt 15, 3) := by decide +kernel
theorem dL_isNet_685 : decode cL_isNet 685 = .ok (.iload 17, 2) := by decide +kernel
theorem dL_isNet_687 : decode cL_isNet 687 = .ok (.ifCond .ne 12, 3) := by decide +kernel
theorem dL_isNet_690 : decode cL_isNet 690 = .ok (.iload 15, 2) := by decide +kernel
theorem dL_isNet_692 : decode cL_isNet 692 = .ok (.iload 16, 2) := by decide +kernel
theorem dL_isNet_694 : decode cL_isNet 694 = .ok (.if_icmp .le 5, 3) := by decide +kernel
theorem dL_isNet_697 : decode cL_isNet 697 = .ok (.iconst 0, 1) := by decide +kernel
theorem dL_isNet_698 : decode cL_isNet 698 = .ok (.ireturn, 1) := by decide +kernel
theorem dL_isNet_699 : decode cL_isNet 699 = .ok (.iinc 14 1, 3) := by decide +kernel
theorem dL_isNet_702 : decode cL_isNet 702 = .ok (.goto (-68), 3) := by decide +kernel
theorem dL_isNet_705 : decode cL_isNet 705 = .ok (.aload_n 0, 1) := by decide +kernel
theorem dL_isNet_706 : decode cL_isNet 706 = .ok (.iload_n 1, 1) := by decide +kernel
theorem dL_isNet_707 : decode cL_isNet 707 = .ok (.iconst 0, 1) := by decide +kernel
theorem dL_isNet_708 : decode cL_isNet 708 = .ok (.invokestatic 275, 3) := by decide +kernel
theorem dL_isNet_711 : decode cL_isNet 711 = .ok (.istore 14, 2) := by decide +kernel
theorem dL_isNet_713 : decode cL_isNet 713 = .ok (.aload_n 0, 1) := by decide +kernel
theorem dL_isNet_714 : decode cL_isNet 714 = .ok (.iload_n 1, 1) := by decide +kernel
theorem dL_isNet_715 : decode cL_isNet 715 = .ok (.iconst 1, 1) := by decide +kernel
theorem dL_isNet_716 : decode cL_isNet 716 = .ok (.invokestatic 275, 3) := by decide +kernel
theorem dL_isNet_719 : decode cL_isNet 719 = .ok (.istore 15, 2) := by decide +kernel
theorem dL_isNet_721 : decode cL_isNet 721 = .ok (.iload 14, 2) := by decide +kernel
theorem dL_isNet_723 : decode cL_isNet 723 = .ok (.bipush (-75), 2) := by decide +kernel
theorem dL_isNet_725 : decode cL_isNet 725 = .ok (.if_icmp .ne 18, 3) := by decide +kernel
theorem dL_isNet_728 : decode cL_isNet 728 = .ok (.iload 15, 2) := by decide +kernel
theorem dL_isNet_730 : decode cL_isNet 730 = .ok (.bipush (-75), 2) := by decide +kernel
theorem dL_isNet_732 : decode cL_isNet 732 = .ok (.if_icmp .ne 7, 3) := by decide +kernel
theorem dL_isNet_735 : decode cL_isNet 735 = .ok (.iconst 1, 1) := by decide +kernel
theorem dL_isNet_736 : decode cL_isNet 736 = .ok (.goto 54, 3) := by decide +kernel
theorem dL_isNet_739 : decode cL_isNet 739 = .ok (.iconst 0, 1) := by decide +kernel
theorem dL_isNet_740 : decode cL_isNet 740 = .ok (.goto 50, 3) := by decide +kernel
theorem dL_isNet_743 : decode cL_isNet 743 = .ok (.aload_n 0, 1) := by decide +kernel
theorem dL_isNet_744 : decode cL_isNet 744 = .ok (.iload_n 1, 1) := by decide +kernel
theorem dL_isNet_745 : decode cL_isNet 745 = .ok (.iload 14, 2) := by decide +kernel
theorem dL_isNet_747 : decode cL_isNet 747 = .ok (.iload 15, 2) := by decide +kernel
theorem dL_isNet_749 : decode cL_isNet 749 = .ok (.invokestatic 246, 3) := by decide +kernel
theorem dL_isNet_752 : decode cL_isNet 752 = .ok (.iconst 1, 1) := by decide +kernel
theorem dL_isNet_753 : decode cL_isNet 753 = .ok (.if_icmp .ne 36, 3) := by decide +kernel
theorem dL_isNet_756 : decode cL_isNet 756 = .ok (.aload 8, 2) := by decide +kernel
theorem dL_isNet_758 : decode cL_isNet 758 = .ok (.iload 14, 2) := by decide +kernel
theorem dL_isNet_760 : decode cL_isNet 760 = .ok (.iaload, 1) := by decide +kernel
theorem dL_isNet_761 : decode cL_isNet 761 = .ok (.ifCond .lt 28, 3) := by decide +kernel
theorem dL_isNet_764 : decode cL_isNet 764 = .ok (.aload 8, 2) := by decide +kernel
theorem dL_isNet_766 : decode cL_isNet 766 = .ok (.iload 15, 2) := by decide +kernel
theorem dL_isNet_768 : decode cL_isNet 768 = .ok (.iaload, 1) := by decide +kernel
theorem dL_isNet_769 : decode cL_isNet 769 = .ok (.ifCond .lt 20, 3) := by decide +kernel
theorem dL_isNet_772 : decode cL_isNet 772 = .ok (.aload 8, 2) := by decide +kernel
theorem dL_isNet_774 : decode cL_isNet 774 = .ok (.iload 14, 2) := by decide +kernel
theorem dL_isNet_776 : decode cL_isNet 776 = .ok (.iaload, 1) := by decide +kernel
theorem dL_isNet_777 : decode cL_isNet 777 = .ok (.aload 8, 2) := by decide +kernel
theorem dL_isNet_779 : decode cL_isNet 779 = .ok (.iload 15, 2) := by decide +kernel
theorem dL_isNet_781 : decode cL_isNet 781 = .ok (.iaload, 1) := by decide +kernel
theorem dL_isNet_782 : decode cL_isNet 782 = .ok (.if_icmp .eq 7, 3) := by decide +kernel
theorem dL_isNet_785 : decode cL_isNet 785 = .ok (.iconst 1, 1) := by decide +kernel
theorem dL_isNet_786 : decode cL_isNet 786 = .ok (.goto 4, 3) := by decide +kernel
theorem dL_isNet_789 : decode cL_isNet 789 = .ok (.iconst 0, 1) := by decide +kernel
theorem dL_isNet_790 : decode cL_isNet 790 = .ok (.istore 16, 2) := by decide +kernel
theorem dL_isNet_792 : decode cL_isNet 792 = .ok (.aload_n 0, 1) := by decide +kernel
theorem dL_isNet_793 : decode cL_isNet 793 = .ok (.iload_n 1, 1) := by decide +kernel
theorem dL_isNet_794 : decode cL_isNet 794 = .ok (.iconst 0, 1) := by decide +kernel
theorem dL_isNet_795 : decode cL_isNet 795 = .ok (.invokestatic 242, 3) := by decide +kernel
theorem dL_isNet_798 : decode cL_isNet 798 = .ok (.iload 4, 2) := by decide +kernel
theorem dL_isNet_800 : decode cL_isNet 800 = .ok (.if_icmp .ne 94, 3) := by decide +kernel
theorem dL_isNet_803 : decode cL_isNet 803 = .ok (.aload_n 0, 1) := by decide +kernel
theorem dL_isNet_804 : decode cL_isNet 804 = .ok (.iload_n 1, 1) := by decide +kernel
theorem dL_isNet_805 : decode cL_isNet 805 = .ok (.iconst 1, 1) := by decide +kernel
theorem dL_isNet_806 : decode cL_isNet 806 = .ok (.invokestatic 242, 3) := by decide +kernel
theorem dL_isNet_809 : decode cL_isNet 809 = .ok (.iload 5, 2) := by decide +kernel
theorem dL_isNet_811 : decode cL_isNet 811 = .ok (.if_icmp .ne 83, 3) := by decide +kernel
theorem dL_isNet_814 : decode cL_isNet 814 = .ok (.aload_n 0, 1) := by decide +kernel
theorem dL_isNet_815 : decode cL_isNet 815 = .ok (.iload_n 1, 1) := by decide +kernel
theorem dL_isNet_816 : decode cL_isNet 816 = .ok (.iconst 2, 1) := by decide +kernel
theorem dL_isNet_817 : decode cL_isNet 817 = .ok (.invokestatic 242, 3) := by decide +kernel
theorem dL_isNet_820 : decode cL_isNet 820 = .ok (.iload 6, 2) := by decide +kernel
theorem dL_isNet_822 : decode cL_isNet 822 = .ok (.if_icmp .ne 72, 3) := by decide +kernel
theorem dL_isNet_825 : decode cL_isNet 825 = .ok (.aload_n 0, 1) := by decide +kernel
theorem dL_isNet_826 : decode cL_isNet 826 = .ok (.iload_n 1, 1) := by decide +kernel
theorem dL_isNet_827 : decode cL_isNet 827 = .ok (.iconst 4, 1) := by decide +kernel
theorem dL_isNet_828 : decode cL_isNet 828 = .ok (.invokestatic 242, 3) := by decide +kernel
theorem dL_isNet_831 : decode cL_isNet 831 = .ok (.iload_n 3, 1) := by decide +kernel
theorem dL_isNet_832 : decode cL_isNet 832 = .ok (.if_icmp .ne 62, 3) := by decide +kernel
theorem dL_isNet_835 : decode cL_isNet 835 = .ok (.aload_n 0, 1) := by decide +kernel
theorem dL_isNet_836 : decode cL_isNet 836 = .ok (.iload_n 1, 1) := by decide +kernel
theorem dL_isNet_837 : decode cL_isNet 837 = .ok (.iconst 5, 1) := by decide +kernel
theorem dL_isNet_838 : decode cL_isNet 838 = .ok (.invokestatic 242, 3) := by decide +kernel
theorem dL_isNet_841 : decode cL_isNet 841 = .ok (.iload 10, 2) := by decide +kernel
theorem dL_isNet_843 : decode cL_isNet 843 = .ok (.if_icmp .ne 51, 3) := by decide +kernel
theorem dL_isNet_846 : decode cL_isNet 846 = .ok (.aload_n 0, 1) := by decide +kernel
theorem dL_isNet_847 : decode cL_isNet 847 = .ok (.iload_n 1, 1) := by decide +kernel
theorem dL_isNet_848 : decode cL_isNet 848 = .ok (.bipush 6, 2) := by decide +kernel
theorem dL_isNet_850 : decode cL_isNet 850 = .ok (.invokestatic 242, 3) := by decide +kernel
theorem dL_isNet_853 : decode cL_isNet 853 = .ok (.iload 7, 2) := by decide +kernel
theorem dL_isNet_855 : decode cL_isNet 855 = .ok (.if_icmp .ne 39, 3) := by decide +kernel
theorem dL_isNet_858 : decode cL_isNet 858 = .ok (.aload_n 0, 1) := by decide +kernel
theorem dL_isNet_859 : decode cL_isNet 859 = .ok (.iload_n 1, 1) := by decide +kernel
theorem dL_isNet_860 : decode cL_isNet 860 = .ok (.invokestatic 173, 3) := by decide +kernel
theorem dL_isNet_863 : decode cL_isNet 863 = .ok (.iload 9, 2) := by decide +kernel
theorem dL_isNet_865 : decode cL_isNet 865 = .ok (.if_icmp .ne 29, 3) := by decide +kernel
theorem dL_isNet_868 : decode cL_isNet 868 = .ok (.aload_n 0, 1) := by decide +kernel
theorem dL_isNet_869 : decode cL_isNet 869 = .ok (.iload_n 1, 1) := by decide +kernel
theorem dL_isNet_870 : decode cL_isNet 870 = .ok (.invokestatic 278, 3) := by decide +kernel
theorem dL_isNet_873 : decode cL_isNet 873 = .ok (.iload 9, 2) := by decide +kernel
theorem dL_isNet_875 : decode cL_isNet 875 = .ok (.if_icmp .ne 19, 3) := by decide +kernel
theorem dL_isNet_878 : decode cL_isNet 878 = .ok (.aload_n 0, 1) := by decide +kernel
theorem dL_isNet_879 : decode cL_isNet 879 = .ok (.iload_n 1, 1) := by decide +kernel
theorem dL_isNet_880 : decode cL_isNet 880 = .ok (.iload 9, 2) := by decide +kernel
theorem dL_isNet_882 : decode cL_isNet 882 = .ok (.invokestatic 273, 3) := by decide +kernel
theorem dL_isNet_885 : decode cL_isNet 885 = .ok (.bipush (-75), 2) := by decide +kernel
theorem dL_isNet_887 : decode cL_isNet 887 = .ok (.if_icmp .ne 7, 3) := by decide +kernel
theorem dL_isNet_890 : decode cL_isNet 890 = .ok (.iconst 1, 1) := by decide +kernel
theorem dL_isNet_891 : decode cL_isNet 891 = .ok (.goto 4, 3) := by decide +kernel
theorem dL_isNet_894 : decode cL_isNet 894 = .ok (.iconst 0, 1) := by decide +kernel
theorem dL_isNet_895 : decode cL_isNet 895 = .ok (.istore 17, 2) := by decide +kernel
theorem dL_isNet_897 : decode cL_isNet 897 = .ok (.iload 13, 2) := by decide +kernel
theorem dL_isNet_899 : decode cL_isNet 899 = .ok (.ifCond .eq 46, 3) := by decide +kernel
theorem dL_isNet_902 : decode cL_isNet 902 = .ok (.iload 16, 2) := by decide +kernel
theorem dL_isNet_904 : decode cL_isNet 904 = .ok (.ifCond .eq 41, 3) := by decide +kernel
theorem dL_isNet_907 : decode cL_isNet 907 = .ok (.iload 17, 2) := by decide +kernel
theorem dL_isNet_909 : decode cL_isNet 909 = .ok (.ifCond .eq 36, 3) := by decide +kernel
theorem dL_isNet_912 : decode cL_isNet 912 = .ok (.aload_n 0, 1) := by decide +kernel
theorem dL_isNet_913 : decode cL_isNet 913 = .ok (.iload_n 1, 1) := by decide +kernel
theorem dL_isNet_914 : decode cL_isNet 914 = .ok (.iload_n 2, 1) := by decide +kernel
theorem dL_isNet_915 : decode cL_isNet 915 = .ok (.bipush 6, 2) := by decide +kernel
theorem dL_isNet_917 : decode cL_isNet 917 = .ok (.idiv, 1) := by decide +kernel
theorem dL_isNet_918 : decode cL_isNet 918 = .ok (.invokestatic 280, 3) := by decide +kernel
theorem dL_isNet_921 : decode cL_isNet 921 = .ok (.iload_n 2, 1) := by decide +kernel
theorem dL_isNet_922 : decode cL_isNet 922 = .ok (.bipush 6, 2) := by decide +kernel
theorem dL_isNet_924 : decode cL_isNet 924 = .ok (.idiv, 1) := by decide +kernel
theorem dL_isNet_925 : decode cL_isNet 925 = .ok (.iconst 4, 1) := by decide +kernel
theorem dL_isNet_926 : decode cL_isNet 926 = .ok (.iload_n 3, 1) := by decide +kernel
theorem dL_isNet_927 : decode cL_isNet 927 = .ok (.isub, 1) := by decide +kernel
theorem dL_isNet_928 : decode cL_isNet 928 = .ok (.if_icmp .ge 8, 3) := by decide +kernel
theorem dL_isNet_931 : decode cL_isNet 931 = .ok (.bipush 11, 2) := by decide +kernel
theorem dL_isNet_933 : decode cL_isNet 933 = .ok (.goto 5, 3) := by decide +kernel
theorem dL_isNet_936 : decode cL_isNet 936 = .ok (.bipush 12, 2) := by decide +kernel
theorem dL_isNet_938 : decode cL_isNet 938 = .ok (.if_icmp .ne 7, 3) := by decide +kernel
theorem dL_isNet_941 : decode cL_isNet 941 = .ok (.iconst 1, 1) := by decide +kernel
theorem dL_isNet_942 : decode cL_isNet 942 = .ok (.goto 4, 3) := by decide +kernel
theorem dL_isNet_945 : decode cL_isNet 945 = .ok (.iconst 0, 1) := by decide +kernel
theorem dL_isNet_946 : decode cL_isNet 946 = .ok (.ireturn, 1) := by decide +kernel
theorem dL_isWhole_0 : decode cL_isWhole 0 = .ok (.iconst 0, 1) := by decide +kernel
theorem dL_isWhole_1 : decode cL_isWhole 1 = .ok (.istore_n 3, 1) := by decide +kernel
theorem dL_isWhole_2 : decode cL_isWhole 2 = .ok (.iload_n 3, 1) := by decide +kernel
theorem dL_isWhole_3 : decode cL_isWhole 3 = .ok (.iload_n 1, 1) := by decide +kernel
theorem dL_isWhole_4 : decode cL_isWhole 4 = .ok (.if_icmp .gt 20, 3) := by decide +kernel
theorem dL_isWhole_7 : decode cL_isWhole 7 = .ok (.aload_n 0, 1) := by decide +kernel
theorem dL_isWhole_8 : decode cL_isWhole 8 = .ok (.iload_n 3, 1) := by decide +kernel
theorem dL_isWhole_9 : decode cL_isWhole 9 = .ok (.iload_n 2, 1) := by decide +kernel
theorem dL_isWhole_10 : decode cL_isWhole 10 = .ok (.invokestatic 282, 3) := by decide +kernel
theorem dL_isWhole_13 : decode cL_isWhole 13 = .ok (.ifCond .ne 5, 3) := by decide +kernel
theorem dL_isWhole_16 : decode cL_isWhole 16 = .ok (.iconst 0, 1) := by decide +kernel
theorem dL_isWhole_17 : decode cL_isWhole 17 = .ok (.ireturn, 1) := by decide +kernel
theorem dL_isWhole_18 : decode cL_isWhole 18 = .ok (.iinc 3 1, 3) := by decide +kernel
theorem dL_isWhole_21 : decode cL_isWhole 21 = .ok (.goto (-19), 3) := by decide +kernel
theorem dL_isWhole_24 : decode cL_isWhole 24 = .ok (.iconst 0, 1) := by decide +kernel
theorem dL_isWhole_25 : decode cL_isWhole 25 = .ok (.istore_n 3, 1) := by decide +kernel
theorem dL_isWhole_26 : decode cL_isWhole 26 = .ok (.iconst 0, 1) := by decide +kernel
theorem dL_isWhole_27 : decode cL_isWhole 27 = .ok (.istore 4, 2) := by decide +kernel
theorem dL_isWhole_29 : decode cL_isWhole 29 = .ok (.iload 4, 2) := by decide +kernel
theorem dL_isWhole_31 : decode cL_isWhole 31 = .ok (.aload_n 0, 1) := by decide +kernel
theorem dL_isWhole_32 : decode cL_isWhole 32 = .ok (.iconst 5, 1) := by decide +kernel
theorem dL_isWhole_33 : decode cL_isWhole 33 = .ok (.invokestatic 167, 3) := by decide +kernel
theorem dL_isWhole_36 : decode cL_isWhole 36 = .ok (.if_icmp .ge 128, 3) := by decide +kernel
theorem dL_isWhole_39 : decode cL_isWhole 39 = .ok (.aload_n 0, 1) := by decide +kernel
theorem dL_isWhole_40 : decode cL_isWhole 40 = .ok (.iload 4, 2) := by decide +kernel
theorem dL_isWhole_42 : decode cL_isWhole 42 = .ok (.invokestatic 285, 3) := by decide +kernel
theorem dL_isWhole_45 : decode cL_isWhole 45 = .ok (.istore 5, 2) := by decide +kernel
theorem dL_isWhole_47 : decode cL_isWhole 47 = .ok (.aload_n 0, 1) := by decide +kernel
theorem dL_isWhole_48 : decode cL_isWhole 48 = .ok (.iload 4, 2) := by decide +kernel
theorem dL_isWhole_50 : decode cL_isWhole 50 = .ok (.iconst 3, 1) := by decide +kernel
theorem dL_isWhole_51 : decode cL_isWhole 51 = .ok (.invokestatic 251, 3) := by decide +kernel
theorem dL_isWhole_54 : decode cL_isWhole 54 = .ok (.istore 6, 2) := by decide +kernel
theorem dL_isWhole_56 : decode cL_isWhole 56 = .ok (.aload_n 0, 1) := by decide +kernel
theorem dL_isWhole_57 : decode cL_isWhole 57 = .ok (.iload 4, 2) := by decide +kernel
theorem dL_isWhole_59 : decode cL_isWhole 59 = .ok (.iconst 2, 1) := by decide +kernel
theorem dL_isWhole_60 : decode cL_isWhole 60 = .ok (.invokestatic 251, 3) := by decide +kernel
theorem dL_isWhole_63 : decode cL_isWhole 63 = .ok (.istore 7, 2) := by decide +kernel
theorem dL_isWhole_65 : decode cL_isWhole 65 = .ok (.iload 5, 2) := by decide +kernel
theorem dL_isWhole_67 : decode cL_isWhole 67 = .ok (.bipush (-75), 2) := by decide +kernel
theorem dL_isWhole_69 : decode cL_isWhole 69 = .ok (.if_icmp .eq 19, 3) := by decide +kernel
theorem dL_isWhole_72 : decode cL_isWhole 72 = .ok (.iload 5, 2) := by decide +kernel
theorem dL_isWhole_74 : decode cL_isWhole 74 = .ok (.ifCond .lt 18, 3) := by decide +kernel
theorem dL_isWhole_77 : decode cL_isWhole 77 = .ok (.iload 5, 2) := by decide +kernel
theorem dL_isWhole_79 : decode cL_isWhole 79 = .ok (.iconst 2, 1) := by decide +kernel
theorem dL_isWhole_80 : decode cL_isWhole 80 = .ok (.iload 7, 2) := by decide +kernel
theorem dL_isWhole_82 : decode cL_isWhole 82 = .ok (.iconst 1, 1) := by decide +kernel
theorem dL_isWhole_83 : decode cL_isWhole 83 = .ok (.isub, 1) := by decide +kernel
theorem dL_isWhole_84 : decode cL_isWhole 84 = .ok (.imul, 1) := by decide +kernel
theorem dL_isWhole_85 : decode cL_isWhole 85 = .ok (.if_icmp .gt 7, 3) := by decide +kernel
theorem dL_isWhole_88 : decode cL_isWhole 88 = .ok (.iconst 1, 1) := by decide +kernel
theorem dL_isWhole_89 : decode cL_isWhole 89 = .ok (.goto 4, 3) := by decide +kernel
theorem dL_isWhole_92 : decode cL_isWhole 92 = .ok (.iconst 0, 1) := by decide +kernel
theorem dL_isWhole_93 : decode cL_isWhole 93 = .ok (.istore 8, 2) := by decide +kernel
theorem dL_isWhole_95 : decode cL_isWhole 95 = .ok (.iload 8, 2) := by decide +kernel
theorem dL_isWhole_97 : decode cL_isWhole 97 = .ok (.ifCond .eq 54, 3) := by decide +kernel
theorem dL_isWhole_100 : decode cL_isWhole 100 = .ok (.aload_n 0, 1) := by decide +kernel
theorem dL_isWhole_101 : decode cL_isWhole 101 = .ok (.iload 4, 2) := by decide +kernel
theorem dL_isWhole_103 : decode cL_isWhole 103 = .ok (.invokestatic 287, 3) := by decide +kernel
theorem dL_isWhole_106 : decode cL_isWhole 106 = .ok (.iload 5, 2) := by decide +kernel
theorem dL_isWhole_108 : decode cL_isWhole 108 = .ok (.if_icmp .ne 43, 3) := by decide +kernel
theorem dL_isWhole_111 : decode cL_isWhole 111 = .ok (.iload 5, 2) := by decide +kernel
theorem dL_isWhole_113 : decode cL_isWhole 113 = .ok (.ifCond .ne 7, 3) := by decide +kernel
theorem dL_isWhole_116 : decode cL_isWhole 116 = .ok (.iconst 1, 1) := by decide +kernel
theorem dL_isWhole_117 : decode cL_isWhole 117 = .ok (.goto 4, 3) := by decide +kernel
theorem dL_isWhole_120 : decode cL_isWhole 120 = .ok (.iconst 0, 1) := by decide +kernel
theorem dL_isWhole_121 : decode cL_isWhole 121 = .ok (.iload 6, 2) := by decide +kernel
theorem dL_isWhole_123 : decode cL_isWhole 123 = .ok (.iconst 1, 1) := by decide +kernel
theorem dL_isWhole_124 : decode cL_isWhole 124 = .ok (.if_icmp .ne 7, 3) := by decide +kernel
theorem dL_isWhole_127 : decode cL_isWhole 127 = .ok (.iconst 1, 1) := by decide +kernel
theorem dL_isWhole_128 : decode cL_isWhole 128 = .ok (.goto 4, 3) := by decide +kernel
theorem dL_isWhole_131 : decode cL_isWhole 131 = .ok (.iconst 0, 1) := by decide +kernel
theorem dL_isWhole_132 : decode cL_isWhole 132 = .ok (.if_icmp .ne 19, 3) := by decide +kernel
theorem dL_isWhole_135 : decode cL_isWhole 135 = .ok (.aload_n 0, 1) := by decide +kernel
theorem dL_isWhole_136 : decode cL_isWhole 136 = .ok (.iload 4, 2) := by decide +kernel
theorem dL_isWhole_138 : decode cL_isWhole 138 = .ok (.invokestatic 255, 3) := by decide +kernel
theorem dL_isWhole_141 : decode cL_isWhole 141 = .ok (.iload 7, 2) := by decide +kernel
theorem dL_isWhole_143 : decode cL_isWhole 143 = .ok (.iconst 1, 1) := by decide +kernel
theorem dL_isWhole_144 : decode cL_isWhole 144 = .ok (.iadd, 1) := by decide +kernel
theorem dL_isWhole_145 : decode cL_isWhole 145 = .ok (.iload 6, 2) := by decide +kernel
theorem dL_isWhole_147 : decode cL_isWhole 147 = .ok (.isub, 1) := by decide +kernel
theorem dL_isWhole_148 : decode cL_isWhole 148 = .ok (.if_icmp .eq 5, 3) := by decide +kernel
theorem dL_isWhole_151 : decode cL_isWhole 151 = .ok (.iconst 0, 1) := by decide +kernel
theorem dL_isWhole_152 : decode cL_isWhole 152 = .ok (.ireturn, 1) := by decide +kernel
theorem dL_isWhole_153 : decode cL_isWhole 153 = .ok (.iload_n 3, 1) := by decide +kernel
theorem dL_isWhole_154 : decode cL_isWhole 154 = .ok (.iload 6, 2) := by decide +kernel
theorem dL_isWhole_156 : decode cL_isWhole 156 = .ok (.iadd, 1) := by decide +kernel
theorem dL_isWhole_157 : decode cL_isWhole 157 = .ok (.istore_n 3, 1) := by decide +kernel
theorem dL_isWhole_158 : decode cL_isWhole 158 = .ok (.iinc 4 1, 3) := by decide +kernel
theorem dL_isWhole_161 : decode cL_isWhole 161 = .ok (.goto (-132), 3) := by decide +kernel
theorem dL_isWhole_164 : decode cL_isWhole 164 = .ok (.iconst 0, 1) := by decide +kernel
theorem dL_isWhole_165 : decode cL_isWhole 165 = .ok (.istore 4, 2) := by decide +kernel
theorem dL_isWhole_167 : decode cL_isWhole 167 = .ok (.iconst 0, 1) := by decide +kernel
theorem dL_isWhole_168 : decode cL_isWhole 168 = .ok (.istore 5, 2) := by decide +kernel
theorem dL_isWhole_170 : decode cL_isWhole 170 = .ok (.iconst 0, 1) := by decide +kernel
theorem dL_isWhole_171 : decode cL_isWhole 171 = .ok (.istore 6, 2) := by decide +kernel
theorem dL_isWhole_173 : decode cL_isWhole 173 = .ok (.iload 6, 2) := by decide +kernel
theorem dL_isWhole_175 : decode cL_isWhole 175 = .ok (.aload_n 0, 1) := by decide +kernel
theorem dL_isWhole_176 : decode cL_isWhole 176 = .ok (.iconst 3, 1) := by decide +kernel
theorem dL_isWhole_177 : decode cL_isWhole 177 = .ok (.invokestatic 167, 3) := by decide +kernel
theorem dL_isWhole_180 : decode cL_isWhole 180 = .ok (.if_icmp .ge 33, 3) := by decide +kernel
theorem dL_isWhole_183 : decode cL_isWhole 183 = .ok (.iload 4, 2) := by decide +kernel
theorem dL_isWhole_185 : decode cL_isWhole 185 = .ok (.aload_n 0, 1) := by decide +kernel
theorem dL_isWhole_186 : decode cL_isWhole 186 = .ok (.iload 6, 2) := by decide +kernel
theorem dL_isWhole_188 : decode cL_isWhole 188 = .ok (.iconst 0, 1) := by decide +kernel
theorem dL_isWhole_189 : decode cL_isWhole 189 = .ok (.invokestatic 259, 3) := by decide +kernel
theorem dL_isWhole_192 : decode cL_isWhole 192 = .ok (.iadd, 1) := by decide +kernel
theorem dL_isWhole_193 : decode cL_isWhole 193 = .ok (.istore 4, 2) := by decide +kernel
theorem dL_isWhole_195 : decode cL_isWhole 195 = .ok (.iload 5, 2) := by decide +kernel
theorem dL_isWhole_197 : decode cL_isWhole 197 = .ok (.aload_n 0, 1) := by decide +kernel
theorem dL_isWhole_198 : decode cL_isWhole 198 = .ok (.iload 6, 2) := by decide +kernel
theorem dL_isWhole_200 : decode cL_isWhole 200 = .ok (.iconst 1, 1) := by decide +kernel
theorem dL_isWhole_201 : decode cL_isWhole 201 = .ok (.invokestatic 259, 3) := by decide +kernel
theorem dL_isWhole_204 : decode cL_isWhole 204 = .ok (.iadd, 1) := by decide +kernel
theorem dL_isWhole_205 : decode cL_isWhole 205 = .ok (.istore 5, 2) := by decide +kernel
theorem dL_isWhole_207 : decode cL_isWhole 207 = .ok (.iinc 6 1, 3) := by decide +kernel
theorem dL_isWhole_210 : decode cL_isWhole 210 = .ok (.goto (-37), 3) := by decide +kernel
theorem dL_isWhole_213 : decode cL_isWhole 213 = .ok (.aload_n 0, 1) := by decide +kernel
theorem dL_isWhole_214 : decode cL_isWhole 214 = .ok (.iconst 0, 1) := by decide +kernel
theorem dL_isWhole_215 : decode cL_isWhole 215 = .ok (.iconst 0, 1) := by decide +kernel
theorem dL_isWhole_216 : decode cL_isWhole 216 = .ok (.invokestatic 242, 3) := by decide +kernel
theorem dL_isWhole_219 : decode cL_isWhole 219 = .ok (.aload_n 0, 1) := by decide +kernel
theorem dL_isWhole_220 : decode cL_isWhole 220 = .ok (.iconst 1, 1) := by decide +kernel
theorem dL_isWhole_221 : decode cL_isWhole 221 = .ok (.iconst 0, 1) := by decide +kernel
theorem dL_isWhole_222 : decode cL_isWhole 222 = .ok (.invokestatic 242, 3) := by decide +kernel
theorem dL_isWhole_225 : decode cL_isWhole 225 = .ok (.iadd, 1) := by decide +kernel
theorem dL_isWhole_226 : decode cL_isWhole 226 = .ok (.aload_n 0, 1) := by decide +kernel
theorem dL_isWhole_227 : decode cL_isWhole 227 = .ok (.iconst 2, 1) := by decide +kernel
theorem dL_isWhole_228 : decode cL_isWhole 228 = .ok (.iconst 0, 1) := by decide +kernel
theorem dL_isWhole_229 : decode cL_isWhole 229 = .ok (.invokestatic 242, 3) := by decide +kernel
theorem dL_isWhole_232 : decode cL_isWhole 232 = .ok (.iadd, 1) := by decide +kernel
theorem dL_isWhole_233 : decode cL_isWhole 233 = .ok (.istore 6, 2) := by decide +kernel
theorem dL_isWhole_235 : decode cL_isWhole 235 = .ok (.aload_n 0, 1) := by decide +kernel
theorem dL_isWhole_236 : decode cL_isWhole 236 = .ok (.iconst 0, 1) := by decide +kernel
theorem dL_isWhole_237 : decode cL_isWhole 237 = .ok (.iconst 1, 1) := by decide +kernel
theorem dL_isWhole_238 : decode cL_isWhole 238 = .ok (.invokestatic 242, 3) := by decide +kernel
theorem dL_isWhole_241 : decode cL_isWhole 241 = .ok (.aload_n 0, 1) := by decide +kernel
theorem dL_isWhole_242 : decode cL_isWhole 242 = .ok (.iconst 1, 1) := by decide +kernel
theorem dL_isWhole_243 : decode cL_isWhole 243 = .ok (.iconst 1, 1) := by decide +kernel
theorem dL_isWhole_244 : decode cL_isWhole 244 = .ok (.invokestatic 242, 3) := by decide +kernel
theorem dL_isWhole_247 : decode cL_isWhole 247 = .ok (.iadd, 1) := by decide +kernel
theorem dL_isWhole_248 : decode cL_isWhole 248 = .ok (.aload_n 0, 1) := by decide +kernel
theorem dL_isWhole_249 : decode cL_isWhole 249 = .ok (.iconst 2, 1) := by decide +kernel
theorem dL_isWhole_250 : decode cL_isWhole 250 = .ok (.iconst 1, 1) := by decide +kernel
theorem dL_isWhole_251 : decode cL_isWhole 251 = .ok (.invokestatic 242, 3) := by decide +kernel
theorem dL_isWhole_254 : decode cL_isWhole 254 = .ok (.iadd, 1) := by decide +kernel
theorem dL_isWhole_255 : decode cL_isWhole 255 = .ok (.istore 7, 2) := by decide +kernel
theorem dL_isWhole_257 : decode cL_isWhole 257 = .ok (.aload_n 0, 1) := by decide +kernel
theorem dL_isWhole_258 : decode cL_isWhole 258 = .ok (.iconst 0, 1) := by decide +kernel
theorem dL_isWhole_259 : decode cL_isWhole 259 = .ok (.invokestatic 173, 3) := by decide +kernel
theorem dL_isWhole_262 : decode cL_isWhole 262 = .ok (.aload_n 0, 1) := by decide +kernel
theorem dL_isWhole_263 : decode cL_isWhole 263 = .ok (.iconst 1, 1) := by decide +kernel
theorem dL_isWhole_264 : decode cL_isWhole 264 = .ok (.invokestatic 173, 3) := by decide +kernel
theorem dL_isWhole_267 : decode cL_isWhole 267 = .ok (.iadd, 1) := by decide +kernel
theorem dL_isWhole_268 : decode cL_isWhole 268 = .ok (.aload_n 0, 1) := by decide +kernel
theorem dL_isWhole_269 : decode cL_isWhole 269 = .ok (.iconst 2, 1) := by decide +kernel
theorem dL_isWhole_270 : decode cL_isWhole 270 = .ok (.invokestatic 173, 3) := by decide +kernel
theorem dL_isWhole_273 : decode cL_isWhole 273 = .ok (.iadd, 1) := by decide +kernel
theorem dL_isWhole_274 : decode cL_isWhole 274 = .ok (.istore 8, 2) := by decide +kernel
theorem dL_isWhole_276 : decode cL_isWhole 276 = .ok (.aload_n 0, 1) := by decide +kernel
theorem dL_isWhole_277 : decode cL_isWhole 277 = .ok (.iconst 0, 1) := by decide +kernel
theorem dL_isWhole_278 : decode cL_isWhole 278 = .ok (.invokestatic 167, 3) := by decide +kernel
theorem dL_isWhole_281 : decode cL_isWhole 281 = .ok (.iload 6, 2) := by decide +kernel
theorem dL_isWhole_283 : decode cL_isWhole 283 = .ok (.if_icmp .ne 121, 3) := by decide +kernel
theorem dL_isWhole_286 : decode cL_isWhole 286 = .ok (.aload_n 0, 1) := by decide +kernel
theorem dL_isWhole_287 : decode cL_isWhole 287 = .ok (.iconst 1, 1) := by decide +kernel
theorem dL_isWhole_288 : decode cL_isWhole 288 = .ok (.invokestatic 167, 3) := by decide +kernel
theorem dL_isWhole_291 : decode cL_isWhole 291 = .ok (.iload 8, 2) := by decide +kernel
theorem dL_isWhole_293 : decode cL_isWhole 293 = .ok (.if_icmp .ne 111, 3) := by decide +kernel
theorem dL_isWhole_296 : decode cL_isWhole 296 = .ok (.aload_n 0, 1) := by decide +kernel
theorem dL_isWhole_297 : decode cL_isWhole 297 = .ok (.iconst 2, 1) := by decide +kernel
theorem dL_isWhole_298 : decode cL_isWhole 298 = .ok (.invokestatic 167, 3) := by decide +kernel
theorem dL_isWhole_301 : decode cL_isWhole 301 = .ok (.aload_n 0, 1) := by decide +kernel
theorem dL_isWhole_302 : decode cL_isWhole 302 = .ok (.iconst 0, 1) := by decide +kernel
theorem dL_isWhole_303 : decode cL_isWhole 303 = .ok (.iconst 2, 1) := by decide +kernel
theorem dL_isWhole_304 : decode cL_isWhole 304 = .ok (.invokestatic 242, 3) := by decide +kernel
theorem dL_isWhole_307 : decode cL_isWhole 307 = .ok (.aload_n 0, 1) := by decide +kernel
theorem dL_isWhole_308 : decode cL_isWhole 308 = .ok (.iconst 1, 1) := by decide +kernel
theorem dL_isWhole_309 : decode cL_isWhole 309 = .ok (.iconst 2, 1) := by decide +kernel
theorem dL_isWhole_310 : decode cL_isWhole 310 = .ok (.invokestatic 242, 3) := by decide +kernel
theorem dL_isWhole_313 : decode cL_isWhole 313 = .ok (.iadd, 1) := by decide +kernel
theorem dL_isWhole_314 : decode cL_isWhole 314 = .ok (.aload_n 0, 1) := by decide +kernel
theorem dL_isWhole_315 : decode cL_isWhole 315 = .ok (.iconst 2, 1) := by decide +kernel
theorem dL_isWhole_316 : decode cL_isWhole 316 = .ok (.iconst 2, 1) := by decide +kernel
theorem dL_isWhole_317 : decode cL_isWhole 317 = .ok (.invokestatic 242, 3) := by decide +kernel
theorem dL_isWhole_320 : decode cL_isWhole 320 = .ok (.iadd, 1) := by decide +kernel
theorem dL_isWhole_321 : decode cL_isWhole 321 = .ok (.if_icmp .ne 83, 3) := by decide +kernel
theorem dL_isWhole_324 : decode cL_isWhole 324 = .ok (.aload_n 0, 1) := by decide +kernel
theorem dL_isWhole_325 : decode cL_isWhole 325 = .ok (.iconst 2, 1) := by decide +kernel
theorem dL_isWhole_326 : decode cL_isWhole 326 = .ok (.invokestatic 167, 3) := by decide +kernel
theorem dL_isWhole_329 : decode cL_isWhole 329 = .ok (.aload_n 0, 1) := by decide +kernel
theorem dL_isWhole_330 : decode cL_isWhole 330 = .ok (.bipush 8, 2) := by decide +kernel
theorem dL_isWhole_332 : decode cL_isWhole 332 = .ok (.invokestatic 167, 3) := by decide +kernel
theorem dL_isWhole_335 : decode cL_isWhole 335 = .ok (.aload_n 0, 1) := by decide +kernel
theorem dL_isWhole_336 : decode cL_isWhole 336 = .ok (.bipush 9, 2) := by decide +kernel
theorem dL_isWhole_338 : decode cL_isWhole 338 = .ok (.invokestatic 167, 3) := by decide +kernel
theorem dL_isWhole_341 : decode cL_isWhole 341 = .ok (.isub, 1) := by decide +kernel
theorem dL_isWhole_342 : decode cL_isWhole 342 = .ok (.if_icmp .ne 62, 3) := by decide +kernel
theorem dL_isWhole_345 : decode cL_isWhole 345 = .ok (.aload_n 0, 1) := by decide +kernel
theorem dL_isWhole_346 : decode cL_isWhole 346 = .ok (.iconst 4, 1) := by decide +kernel
theorem dL_isWhole_347 : decode cL_isWhole 347 = .ok (.invokestatic 167, 3) := by decide +kernel
theorem dL_isWhole_350 : decode cL_isWhole 350 = .ok (.iload 4, 2) := by decide +kernel
theorem dL_isWhole_352 : decode cL_isWhole 352 = .ok (.if_icmp .ne 52, 3) := by decide +kernel
theorem dL_isWhole_355 : decode cL_isWhole 355 = .ok (.aload_n 0, 1) := by decide +kernel
theorem dL_isWhole_356 : decode cL_isWhole 356 = .ok (.bipush 9, 2) := by decide +kernel
theorem dL_isWhole_358 : decode cL_isWhole 358 = .ok (.invokestatic 167, 3) := by decide +kernel
theorem dL_isWhole_361 : decode cL_isWhole 361 = .ok (.iload 5, 2) := by decide +kernel
theorem dL_isWhole_363 : decode cL_isWhole 363 = .ok (.if_icmp .ne 41, 3) := by decide +kernel
theorem dL_isWhole_366 : decode cL_isWhole 366 = .ok (.aload_n 0, 1) := by decide +kernel
theorem dL_isWhole_367 : decode cL_isWhole 367 = .ok (.bipush 10, 2) := by decide +kernel
theorem dL_isWhole_369 : decode cL_isWhole 369 = .ok (.invokestatic 167, 3) := by decide +kernel
theorem dL_isWhole_372 : decode cL_isWhole 372 = .ok (.iload 5, 2) := by decide +kernel
theorem dL_isWhole_374 : decode cL_isWhole 374 = .ok (.if_icmp .lt 30, 3) := by decide +kernel
theorem dL_isWhole_377 : decode cL_isWhole 377 = .ok (.aload_n 0, 1) := by decide +kernel
theorem dL_isWhole_378 : decode cL_isWhole 378 = .ok (.bipush 10, 2) := by decide +kernel
theorem dL_isWhole_380 : decode cL_isWhole 380 = .ok (.invokestatic 167, 3) := by decide +kernel
theorem dL_isWhole_383 : decode cL_isWhole 383 = .ok (.iconst 2, 1) := by decide +kernel
theorem dL_isWhole_384 : decode cL_isWhole 384 = .ok (.iload 5, 2) := by decide +kernel
theorem dL_isWhole_386 : decode cL_isWhole 386 = .ok (.imul, 1) := by decide +kernel
theorem dL_isWhole_387 : decode cL_isWhole 387 = .ok (.if_icmp .gt 17, 3) := by decide +kernel
theorem dL_isWhole_390 : decode cL_isWhole 390 = .ok (.aload_n 0, 1) := by decide +kernel
theorem dL_isWhole_391 : decode cL_isWhole 391 = .ok (.bipush 6, 2) := by decide +kernel
theorem dL_isWhole_393 : decode cL_isWhole 393 = .ok (.invokestatic 167, 3) := by decide +kernel
theorem dL_isWhole_396 : decode cL_isWhole 396 = .ok (.iload_n 3, 1) := by decide +kernel
theorem dL_isWhole_397 : decode cL_isWhole 397 = .ok (.if_icmp .ne 7, 3) := by decide +kernel
theorem dL_isWhole_400 : decode cL_isWhole 400 = .ok (.iconst 1, 1) := by decide +kernel
theorem dL_isWhole_401 : decode cL_isWhole 401 = .ok (.goto 4, 3) := by decide +kernel
theorem dL_isWhole_404 : decode cL_isWhole 404 = .ok (.iconst 0, 1) := by decide +kernel
theorem dL_isWhole_405 : decode cL_isWhole 405 = .ok (.istore 9, 2) := by decide +kernel
theorem dL_isWhole_407 : decode cL_isWhole 407 = .ok (.aload_n 0, 1) := by decide +kernel
theorem dL_isWhole_408 : decode cL_isWhole 408 = .ok (.invokestatic 289, 3) := by decide +kernel
theorem dL_isWhole_411 : decode cL_isWhole 411 = .ok (.iload 8, 2) := by decide +kernel
theorem dL_isWhole_413 : decode cL_isWhole 413 = .ok (.ifCond .ne 9, 3) := by decide +kernel
theorem dL_isWhole_416 : decode cL_isWhole 416 = .ok (.ldc2_w 126, 3) := by decide +kernel
theorem dL_isWhole_419 : decode cL_isWhole 419 = .ok (.goto 10, 3) := by decide +kernel
theorem dL_isWhole_422 : decode cL_isWhole 422 = .ok (.iload 6, 2) := by decide +kernel
theorem dL_isWhole_424 : decode cL_isWhole 424 = .ok (.i2d, 1) := by decide +kernel
theorem dL_isWhole_425 : decode cL_isWhole 425 = .ok (.iload 8, 2) := by decide +kernel
theorem dL_isWhole_427 : decode cL_isWhole 427 = .ok (.i2d, 1) := by decide +kernel
theorem dL_isWhole_428 : decode cL_isWhole 428 = .ok (.ddiv, 1) := by decide +kernel
theorem dL_isWhole_429 : decode cL_isWhole 429 = .ok (.dcmp .l, 1) := by decide +kernel
theorem dL_isWhole_430 : decode cL_isWhole 430 = .ok (.ifCond .ne 32, 3) := by decide +kernel
theorem dL_isWhole_433 : decode cL_isWhole 433 = .ok (.aload_n 0, 1) := by decide +kernel
theorem dL_isWhole_434 : decode cL_isWhole 434 = .ok (.invokestatic 292, 3) := by decide +kernel
theorem dL_isWhole_437 : decode cL_isWhole 437 = .ok (.iload 6, 2) := by decide +kernel
theorem dL_isWhole_439 : decode cL_isWhole 439 = .ok (.ifCond .ne 8, 3) := by decide +kernel
theorem dL_isWhole_442 : decode cL_isWhole 442 = .ok (.ldc 132, 2) := by decide +kernel
theorem dL_isWhole_444 : decode cL_isWhole 444 = .ok (.goto 10, 3) := by decide +kernel
theorem dL_isWhole_447 : decode cL_isWhole 447 = .ok (.iload 7, 2) := by decide +kernel
theorem dL_isWhole_449 : decode cL_isWhole 449 = .ok (.i2f, 1) := by decide +kernel
theorem dL_isWhole_450 : decode cL_isWhole 450 = .ok (.iload 6, 2) := by decide +kernel
theorem dL_isWhole_452 : decode cL_isWhole 452 = .ok (.i2f, 1) := by decide +kernel
theorem dL_isWhole_453 : decode cL_isWhole 453 = .ok (.fdiv, 1) := by decide +kernel
theorem dL_isWhole_454 : decode cL_isWhole 454 = .ok (.fcmp .l, 1) := by decide +kernel
theorem dL_isWhole_455 : decode cL_isWhole 455 = .ok (.ifCond .ne 7, 3) := by decide +kernel
theorem dL_isWhole_458 : decode cL_isWhole 458 = .ok (.iconst 1, 1) := by decide +kernel
theorem dL_isWhole_459 : decode cL_isWhole 459 = .ok (.goto 4, 3) := by decide +kernel
theorem dL_isWhole_462 : decode cL_isWhole 462 = .ok (.iconst 0, 1) := by decide +kernel
theorem dL_isWhole_463 : decode cL_isWhole 463 = .ok (.istore 10, 2) := by decide +kernel
theorem dL_isWhole_465 : decode cL_isWhole 465 = .ok (.iload 9, 2) := by decide +kernel
theorem dL_isWhole_467 : decode cL_isWhole 467 = .ok (.ifCond .eq 19, 3) := by decide +kernel
theorem dL_isWhole_470 : decode cL_isWhole 470 = .ok (.iload 10, 2) := by decide +kernel
theorem dL_isWhole_472 : decode cL_isWhole 472 = .ok (.ifCond .eq 14, 3) := by decide +kernel
theorem dL_isWhole_475 : decode cL_isWhole 475 = .ok (.aload_n 0, 1) := by decide +kernel
theorem dL_isWhole_476 : decode cL_isWhole 476 = .ok (.invokevirtual 295, 3) := by decide +kernel
theorem dL_isWhole_479 : decode cL_isWhole 479 = .ok (.ifCond .eq 7, 3) := by decide +kernel
theorem dL_isWhole_482 : decode cL_isWhole 482 = .ok (.iconst 1, 1) := by decide +kernel
theorem dL_isWhole_483 : decode cL_isWhole 483 = .ok (.goto 4, 3) := by decide +kernel
theorem dL_isWhole_486 : decode cL_isWhole 486 = .ok (.iconst 0, 1) := by decide +kernel
theorem dL_isWhole_487 : decode cL_isWhole 487 = .ok (.ireturn, 1) := by decide +kernel
theorem dL_isKept_0 : decode cL_isKept 0 = .ok (.aload_n 0, 1) := by decide +kernel
theorem dL_isKept_1 : decode cL_isKept 1 = .ok (.iconst 5, 1) := by decide +kernel
theorem dL_isKept_2 : decode cL_isKept 2 = .ok (.invokestatic 167, 3) := by decide +kernel
theorem dL_isKept_5 : decode cL_isKept 5 = .ok (.istore_n 3, 1) := by decide +kernel
theorem dL_isKept_6 : decode cL_isKept 6 = .ok (.aload_n 0, 1) := by decide +kernel
theorem dL_isKept_7 : decode cL_isKept 7 = .ok (.invokevirtual 299, 3) := by decide +kernel
theorem dL_isKept_10 : decode cL_isKept 10 = .ok (.iload_n 3, 1) := by decide +kernel
theorem dL_isKept_11 : decode cL_isKept 11 = .ok (.if_icmp .ne 18, 3) := by decide +kernel
theorem dL_isKept_14 : decode cL_isKept 14 = .ok (.aload_n 0, 1) := by decide +kernel
theorem dL_isKept_15 : decode cL_isKept 15 = .ok (.bipush 12, 2) := by decide +kernel
theorem dL_isKept_17 : decode cL_isKept 17 = .ok (.invokestatic 167, 3) := by decide +kernel
theorem dL_isKept_20 : decode cL_isKept 20 = .ok (.bipush 8, 2) := by decide +kernel
theorem dL_isKept_22 : decode cL_isKept 22 = .ok (.iload_n 2, 1) := by decide +kernel
theorem dL_isKept_23 : decode cL_isKept 23 = .ok (.invokestatic 261, 3) := by decide +kernel
theorem dL_isKept_26 : decode cL_isKept 26 = .ok (.if_icmp .eq 5, 3) := by decide +kernel
theorem dL_isKept_29 : decode cL_isKept 29 = .ok (.iconst 0, 1) := by decide +kernel
theorem dL_isKept_30 : decode cL_isKept 30 = .ok (.ireturn, 1) := by decide +kernel
theorem dL_isKept_31 : decode cL_isKept 31 = .ok (.bipush 8, 2) := by decide +kernel
theorem dL_isKept_33 : decode cL_isKept 33 = .ok (.iload_n 2, 1) := by decide +kernel
theorem dL_isKept_34 : decode cL_isKept 34 = .ok (.invokestatic 261, 3) := by decide +kernel
theorem dL_isKept_37 : decode cL_isKept 37 = .ok (.istore 4, 2) := by decide +kernel
theorem dL_isKept_39 : decode cL_isKept 39 = .ok (.iload_n 2, 1) := by decide +kernel
theorem dL_isKept_40 : decode cL_isKept 40 = .ok (.iconst 1, 1) := by decide +kernel
theorem dL_isKept_41 : decode cL_isKept 41 = .ok (.isub, 1) := by decide +kernel
theorem dL_isKept_42 : decode cL_isKept 42 = .ok (.istore 5, 2) := by decide +kernel
theorem dL_isKept_44 : decode cL_isKept 44 = .ok (.iload 4, 2) := by decide +kernel
theorem dL_isKept_46 : decode cL_isKept 46 = .ok (.ifCond .le 35, 3) := by decide +kernel
theorem dL_isKept_49 : decode cL_isKept 49 = .ok (.iinc 4 (-1), 3) := by decide +kernel
theorem dL_isKept_52 : decode cL_isKept 52 = .ok (.aload_n 0, 1) := by decide +kernel
theorem dL_isKept_53 : decode cL_isKept 53 = .ok (.invokestatic 302, 3) := by decide +kernel
theorem dL_isKept_56 : decode cL_isKept 56 = .ok (.iload 4, 2) := by decide +kernel
theorem dL_isKept_58 : decode cL_isKept 58 = .ok (.if_icmp .ne 15, 3) := by decide +kernel
theorem dL_isKept_61 : decode cL_isKept 61 = .ok (.aload_n 0, 1) := by decide +kernel
theorem dL_isKept_62 : decode cL_isKept 62 = .ok (.invokestatic 163, 3) := by decide +kernel
theorem dL_isKept_65 : decode cL_isKept 65 = .ok (.aload_n 1, 1) := by decide +kernel
theorem dL_isKept_66 : decode cL_isKept 66 = .ok (.iload 5, 2) := by decide +kernel
theorem dL_isKept_68 : decode cL_isKept 68 = .ok (.laload, 1) := by decide +kernel
theorem dL_isKept_69 : decode cL_isKept 69 = .ok (.lcmp, 1) := by decide +kernel
theorem dL_isKept_70 : decode cL_isKept 70 = .ok (.ifCond .eq 5, 3) := by decide +kernel
theorem dL_isKept_73 : decode cL_isKept 73 = .ok (.iconst 0, 1) := by decide +kernel
theorem dL_isKept_74 : decode cL_isKept 74 = .ok (.ireturn, 1) := by decide +kernel
theorem dL_isKept_75 : decode cL_isKept 75 = .ok (.iinc 5 (-1), 3) := by decide +kernel
theorem dL_isKept_78 : decode cL_isKept 78 = .ok (.goto (-34), 3) := by decide +kernel
theorem dL_isKept_81 : decode cL_isKept 81 = .ok (.aload_n 0, 1) := by decide +kernel
theorem dL_isKept_82 : decode cL_isKept 82 = .ok (.invokestatic 302, 3) := by decide +kernel
theorem dL_isKept_85 : decode cL_isKept 85 = .ok (.bipush (-79), 2) := by decide +kernel
theorem dL_isKept_87 : decode cL_isKept 87 = .ok (.if_icmp .ne 35, 3) := by decide +kernel
theorem dL_isKept_90 : decode cL_isKept 90 = .ok (.aload_n 0, 1) := by decide +kernel
theorem dL_isKept_91 : decode cL_isKept 91 = .ok (.invokestatic 304, 3) := by decide +kernel
theorem dL_isKept_94 : decode cL_isKept 94 = .ok (.iload_n 3, 1) := by decide +kernel
theorem dL_isKept_95 : decode cL_isKept 95 = .ok (.if_icmp .ne 27, 3) := by decide +kernel
theorem dL_isKept_98 : decode cL_isKept 98 = .ok (.aload_n 0, 1) := by decide +kernel
theorem dL_isKept_99 : decode cL_isKept 99 = .ok (.invokestatic 163, 3) := by decide +kernel
theorem dL_isKept_102 : decode cL_isKept 102 = .ok (.aload_n 1, 1) := by decide +kernel
theorem dL_isKept_103 : decode cL_isKept 103 = .ok (.iload_n 2, 1) := by decide +kernel
theorem dL_isKept_104 : decode cL_isKept 104 = .ok (.laload, 1) := by decide +kernel
theorem dL_isKept_105 : decode cL_isKept 105 = .ok (.lcmp, 1) := by decide +kernel
theorem dL_isKept_106 : decode cL_isKept 106 = .ok (.ifCond .ne 16, 3) := by decide +kernel
theorem dL_isKept_109 : decode cL_isKept 109 = .ok (.aload_n 0, 1) := by decide +kernel
theorem dL_isKept_110 : decode cL_isKept 110 = .ok (.invokestatic 302, 3) := by decide +kernel
theorem dL_isKept_113 : decode cL_isKept 113 = .ok (.bipush (-79), 2) := by decide +kernel
theorem dL_isKept_115 : decode cL_isKept 115 = .ok (.if_icmp .ne 7, 3) := by decide +kernel
theorem dL_isKept_118 : decode cL_isKept 118 = .ok (.iconst 1, 1) := by decide +kernel
theorem dL_isKept_119 : decode cL_isKept 119 = .ok (.goto 4, 3) := by decide +kernel
theorem dL_isKept_122 : decode cL_isKept 122 = .ok (.iconst 0, 1) := by decide +kernel
theorem dL_isKept_123 : decode cL_isKept 123 = .ok (.ireturn, 1) := by decide +kernel
