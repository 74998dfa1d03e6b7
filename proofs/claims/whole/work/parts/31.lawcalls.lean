theorem dLaw_law_0 : decode code 0 = .ok (.new 7, 3) := by decide +kernel
theorem dLaw_law_3 : decode code 3 = .ok (.dup, 1) := by decide +kernel
theorem dLaw_law_4 : decode code 4 = .ok (.invokespecial 9, 3) := by decide +kernel
theorem dLaw_law_7 : decode code 7 = .ok (.astore_n 1, 1) := by decide +kernel
theorem dLaw_law_8 : decode code 8 = .ok (.new 10, 3) := by decide +kernel
theorem dLaw_law_11 : decode code 11 = .ok (.dup, 1) := by decide +kernel
theorem dLaw_law_12 : decode code 12 = .ok (.invokespecial 12, 3) := by decide +kernel
theorem dLaw_law_15 : decode code 15 = .ok (.astore_n 2, 1) := by decide +kernel
theorem dLaw_law_16 : decode code 16 = .ok (.iconst 0, 1) := by decide +kernel
theorem dLaw_law_17 : decode code 17 = .ok (.istore_n 3, 1) := by decide +kernel
theorem dLaw_law_18 : decode code 18 = .ok (.iload_n 3, 1) := by decide +kernel
theorem dLaw_law_19 : decode code 19 = .ok (.aload_n 0, 1) := by decide +kernel
theorem dLaw_law_20 : decode code 20 = .ok (.arraylength, 1) := by decide +kernel
theorem dLaw_law_21 : decode code 21 = .ok (.iconst 5, 1) := by decide +kernel
theorem dLaw_law_22 : decode code 22 = .ok (.isub, 1) := by decide +kernel
theorem dLaw_law_23 : decode code 23 = .ok (.if_icmp .gt 638, 3) := by decide +kernel
theorem dLaw_law_26 : decode code 26 = .ok (.aload_n 0, 1) := by decide +kernel
theorem dLaw_law_27 : decode code 27 = .ok (.iload_n 3, 1) := by decide +kernel
theorem dLaw_law_28 : decode code 28 = .ok (.iaload, 1) := by decide +kernel
theorem dLaw_law_29 : decode code 29 = .ok (.bipush 31, 2) := by decide +kernel
theorem dLaw_law_31 : decode code 31 = .ok (.iand, 1) := by decide +kernel
theorem dLaw_law_32 : decode code 32 = .ok (.tableswitch 623 0 16 #[84, 127, 152, 185, 208, 231, 300, 333, 376, 409, 432, 455, 488, 521, 564, 587, 600], 84) := by decide +kernel
theorem dLaw_law_116 : decode code 116 = .ok (.aload_n 1, 1) := by decide +kernel
theorem dLaw_law_117 : decode code 117 = .ok (.aload_n 0, 1) := by decide +kernel
theorem dLaw_law_118 : decode code 118 = .ok (.iload_n 3, 1) := by decide +kernel
theorem dLaw_law_119 : decode code 119 = .ok (.iconst 1, 1) := by decide +kernel
theorem dLaw_law_120 : decode code 120 = .ok (.iadd, 1) := by decide +kernel
theorem dLaw_law_121 : decode code 121 = .ok (.iaload, 1) := by decide +kernel
theorem dLaw_law_122 : decode code 122 = .ok (.aload_n 0, 1) := by decide +kernel
theorem dLaw_law_123 : decode code 123 = .ok (.iload_n 3, 1) := by decide +kernel
theorem dLaw_law_124 : decode code 124 = .ok (.iconst 2, 1) := by decide +kernel
theorem dLaw_law_125 : decode code 125 = .ok (.iadd, 1) := by decide +kernel
theorem dLaw_law_126 : decode code 126 = .ok (.iaload, 1) := by decide +kernel
theorem dLaw_law_127 : decode code 127 = .ok (.aload_n 0, 1) := by decide +kernel
theorem dLaw_law_128 : decode code 128 = .ok (.iload_n 3, 1) := by decide +kernel
theorem dLaw_law_129 : decode code 129 = .ok (.iconst 3, 1) := by decide +kernel
theorem dLaw_law_130 : decode code 130 = .ok (.iadd, 1) := by decide +kernel
theorem dLaw_law_131 : decode code 131 = .ok (.iaload, 1) := by decide +kernel
theorem dLaw_law_132 : decode code 132 = .ok (.invokevirtual 13, 3) := by decide +kernel
theorem dLaw_law_135 : decode code 135 = .ok (.aload_n 2, 1) := by decide +kernel
theorem dLaw_law_136 : decode code 136 = .ok (.aload_n 0, 1) := by decide +kernel
theorem dLaw_law_137 : decode code 137 = .ok (.iload_n 3, 1) := by decide +kernel
theorem dLaw_law_138 : decode code 138 = .ok (.iconst 1, 1) := by decide +kernel
theorem dLaw_law_139 : decode code 139 = .ok (.iadd, 1) := by decide +kernel
theorem dLaw_law_140 : decode code 140 = .ok (.iaload, 1) := by decide +kernel
theorem dLaw_law_141 : decode code 141 = .ok (.aload_n 0, 1) := by decide +kernel
theorem dLaw_law_142 : decode code 142 = .ok (.iload_n 3, 1) := by decide +kernel
theorem dLaw_law_143 : decode code 143 = .ok (.iconst 2, 1) := by decide +kernel
theorem dLaw_law_144 : decode code 144 = .ok (.iadd, 1) := by decide +kernel
theorem dLaw_law_145 : decode code 145 = .ok (.iaload, 1) := by decide +kernel
theorem dLaw_law_146 : decode code 146 = .ok (.aload_n 0, 1) := by decide +kernel
theorem dLaw_law_147 : decode code 147 = .ok (.iload_n 3, 1) := by decide +kernel
theorem dLaw_law_148 : decode code 148 = .ok (.iconst 3, 1) := by decide +kernel
theorem dLaw_law_149 : decode code 149 = .ok (.iadd, 1) := by decide +kernel
theorem dLaw_law_150 : decode code 150 = .ok (.iaload, 1) := by decide +kernel
theorem dLaw_law_151 : decode code 151 = .ok (.invokevirtual 17, 3) := by decide +kernel
theorem dLaw_law_154 : decode code 154 = .ok (.if_icmp .eq 501, 3) := by decide +kernel
theorem dLaw_law_157 : decode code 157 = .ok (.iconst 0, 1) := by decide +kernel
theorem dLaw_law_158 : decode code 158 = .ok (.ireturn, 1) := by decide +kernel
theorem dLaw_law_159 : decode code 159 = .ok (.aload_n 1, 1) := by decide +kernel
theorem dLaw_law_160 : decode code 160 = .ok (.aload_n 0, 1) := by decide +kernel
theorem dLaw_law_161 : decode code 161 = .ok (.iload_n 3, 1) := by decide +kernel
theorem dLaw_law_162 : decode code 162 = .ok (.iconst 1, 1) := by decide +kernel
theorem dLaw_law_163 : decode code 163 = .ok (.iadd, 1) := by decide +kernel
theorem dLaw_law_164 : decode code 164 = .ok (.iaload, 1) := by decide +kernel
theorem dLaw_law_165 : decode code 165 = .ok (.i2c, 1) := by decide +kernel
theorem dLaw_law_166 : decode code 166 = .ok (.invokevirtual 18, 3) := by decide +kernel
theorem dLaw_law_169 : decode code 169 = .ok (.aload_n 2, 1) := by decide +kernel
theorem dLaw_law_170 : decode code 170 = .ok (.aload_n 0, 1) := by decide +kernel
theorem dLaw_law_171 : decode code 171 = .ok (.iload_n 3, 1) := by decide +kernel
theorem dLaw_law_172 : decode code 172 = .ok (.iconst 1, 1) := by decide +kernel
theorem dLaw_law_173 : decode code 173 = .ok (.iadd, 1) := by decide +kernel
theorem dLaw_law_174 : decode code 174 = .ok (.iaload, 1) := by decide +kernel
theorem dLaw_law_175 : decode code 175 = .ok (.i2c, 1) := by decide +kernel
theorem dLaw_law_176 : decode code 176 = .ok (.invokevirtual 22, 3) := by decide +kernel
theorem dLaw_law_179 : decode code 179 = .ok (.if_icmp .eq 476, 3) := by decide +kernel
theorem dLaw_law_182 : decode code 182 = .ok (.iconst 0, 1) := by decide +kernel
theorem dLaw_law_183 : decode code 183 = .ok (.ireturn, 1) := by decide +kernel
theorem dLaw_law_184 : decode code 184 = .ok (.aload_n 1, 1) := by decide +kernel
theorem dLaw_law_185 : decode code 185 = .ok (.aload_n 0, 1) := by decide +kernel
theorem dLaw_law_186 : decode code 186 = .ok (.iload_n 3, 1) := by decide +kernel
theorem dLaw_law_187 : decode code 187 = .ok (.iconst 1, 1) := by decide +kernel
theorem dLaw_law_188 : decode code 188 = .ok (.iadd, 1) := by decide +kernel
theorem dLaw_law_189 : decode code 189 = .ok (.iaload, 1) := by decide +kernel
theorem dLaw_law_190 : decode code 190 = .ok (.aload_n 0, 1) := by decide +kernel
theorem dLaw_law_191 : decode code 191 = .ok (.iload_n 3, 1) := by decide +kernel
theorem dLaw_law_192 : decode code 192 = .ok (.iconst 2, 1) := by decide +kernel
theorem dLaw_law_193 : decode code 193 = .ok (.iadd, 1) := by decide +kernel
theorem dLaw_law_194 : decode code 194 = .ok (.iaload, 1) := by decide +kernel
theorem dLaw_law_195 : decode code 195 = .ok (.invokevirtual 23, 3) := by decide +kernel
theorem dLaw_law_198 : decode code 198 = .ok (.aload_n 2, 1) := by decide +kernel
theorem dLaw_law_199 : decode code 199 = .ok (.aload_n 0, 1) := by decide +kernel
theorem dLaw_law_200 : decode code 200 = .ok (.iload_n 3, 1) := by decide +kernel
theorem dLaw_law_201 : decode code 201 = .ok (.iconst 1, 1) := by decide +kernel
theorem dLaw_law_202 : decode code 202 = .ok (.iadd, 1) := by decide +kernel
theorem dLaw_law_203 : decode code 203 = .ok (.iaload, 1) := by decide +kernel
theorem dLaw_law_204 : decode code 204 = .ok (.aload_n 0, 1) := by decide +kernel
theorem dLaw_law_205 : decode code 205 = .ok (.iload_n 3, 1) := by decide +kernel
theorem dLaw_law_206 : decode code 206 = .ok (.iconst 2, 1) := by decide +kernel
theorem dLaw_law_207 : decode code 207 = .ok (.iadd, 1) := by decide +kernel
theorem dLaw_law_208 : decode code 208 = .ok (.iaload, 1) := by decide +kernel
theorem dLaw_law_209 : decode code 209 = .ok (.invokevirtual 27, 3) := by decide +kernel
theorem dLaw_law_212 : decode code 212 = .ok (.if_icmp .eq 443, 3) := by decide +kernel
theorem dLaw_law_215 : decode code 215 = .ok (.iconst 0, 1) := by decide +kernel
theorem dLaw_law_216 : decode code 216 = .ok (.ireturn, 1) := by decide +kernel
theorem dLaw_law_217 : decode code 217 = .ok (.aload_n 1, 1) := by decide +kernel
theorem dLaw_law_218 : decode code 218 = .ok (.aload_n 0, 1) := by decide +kernel
theorem dLaw_law_219 : decode code 219 = .ok (.iload_n 3, 1) := by decide +kernel
theorem dLaw_law_220 : decode code 220 = .ok (.iconst 1, 1) := by decide +kernel
theorem dLaw_law_221 : decode code 221 = .ok (.iadd, 1) := by decide +kernel
theorem dLaw_law_222 : decode code 222 = .ok (.iaload, 1) := by decide +kernel
theorem dLaw_law_223 : decode code 223 = .ok (.invokevirtual 28, 3) := by decide +kernel
theorem dLaw_law_226 : decode code 226 = .ok (.aload_n 2, 1) := by decide +kernel
theorem dLaw_law_227 : decode code 227 = .ok (.aload_n 0, 1) := by decide +kernel
theorem dLaw_law_228 : decode code 228 = .ok (.iload_n 3, 1) := by decide +kernel
theorem dLaw_law_229 : decode code 229 = .ok (.iconst 1, 1) := by decide +kernel
theorem dLaw_law_230 : decode code 230 = .ok (.iadd, 1) := by decide +kernel
theorem dLaw_law_231 : decode code 231 = .ok (.iaload, 1) := by decide +kernel
theorem dLaw_law_232 : decode code 232 = .ok (.invokevirtual 32, 3) := by decide +kernel
theorem dLaw_law_235 : decode code 235 = .ok (.if_icmp .eq 420, 3) := by decide +kernel
theorem dLaw_law_238 : decode code 238 = .ok (.iconst 0, 1) := by decide +kernel
theorem dLaw_law_239 : decode code 239 = .ok (.ireturn, 1) := by decide +kernel
theorem dLaw_law_240 : decode code 240 = .ok (.aload_n 1, 1) := by decide +kernel
theorem dLaw_law_241 : decode code 241 = .ok (.aload_n 0, 1) := by decide +kernel
theorem dLaw_law_242 : decode code 242 = .ok (.iload_n 3, 1) := by decide +kernel
theorem dLaw_law_243 : decode code 243 = .ok (.iconst 1, 1) := by decide +kernel
theorem dLaw_law_244 : decode code 244 = .ok (.iadd, 1) := by decide +kernel
theorem dLaw_law_245 : decode code 245 = .ok (.iaload, 1) := by decide +kernel
theorem dLaw_law_246 : decode code 246 = .ok (.invokevirtual 33, 3) := by decide +kernel
theorem dLaw_law_249 : decode code 249 = .ok (.aload_n 2, 1) := by decide +kernel
theorem dLaw_law_250 : decode code 250 = .ok (.aload_n 0, 1) := by decide +kernel
theorem dLaw_law_251 : decode code 251 = .ok (.iload_n 3, 1) := by decide +kernel
theorem dLaw_law_252 : decode code 252 = .ok (.iconst 1, 1) := by decide +kernel
theorem dLaw_law_253 : decode code 253 = .ok (.iadd, 1) := by decide +kernel
theorem dLaw_law_254 : decode code 254 = .ok (.iaload, 1) := by decide +kernel
theorem dLaw_law_255 : decode code 255 = .ok (.invokevirtual 37, 3) := by decide +kernel
theorem dLaw_law_258 : decode code 258 = .ok (.if_icmp .eq 397, 3) := by decide +kernel
theorem dLaw_law_261 : decode code 261 = .ok (.iconst 0, 1) := by decide +kernel
theorem dLaw_law_262 : decode code 262 = .ok (.ireturn, 1) := by decide +kernel
theorem dLaw_law_263 : decode code 263 = .ok (.aload_n 1, 1) := by decide +kernel
theorem dLaw_law_264 : decode code 264 = .ok (.aload_n 0, 1) := by decide +kernel
theorem dLaw_law_265 : decode code 265 = .ok (.iload_n 3, 1) := by decide +kernel
theorem dLaw_law_266 : decode code 266 = .ok (.iconst 1, 1) := by decide +kernel
theorem dLaw_law_267 : decode code 267 = .ok (.iadd, 1) := by decide +kernel
theorem dLaw_law_268 : decode code 268 = .ok (.iaload, 1) := by decide +kernel
theorem dLaw_law_269 : decode code 269 = .ok (.aload_n 0, 1) := by decide +kernel
theorem dLaw_law_270 : decode code 270 = .ok (.iload_n 3, 1) := by decide +kernel
theorem dLaw_law_271 : decode code 271 = .ok (.iconst 2, 1) := by decide +kernel
theorem dLaw_law_272 : decode code 272 = .ok (.iadd, 1) := by decide +kernel
theorem dLaw_law_273 : decode code 273 = .ok (.iaload, 1) := by decide +kernel
theorem dLaw_law_274 : decode code 274 = .ok (.aload_n 0, 1) := by decide +kernel
theorem dLaw_law_275 : decode code 275 = .ok (.iload_n 3, 1) := by decide +kernel
theorem dLaw_law_276 : decode code 276 = .ok (.iconst 3, 1) := by decide +kernel
theorem dLaw_law_277 : decode code 277 = .ok (.iadd, 1) := by decide +kernel
theorem dLaw_law_278 : decode code 278 = .ok (.iaload, 1) := by decide +kernel
theorem dLaw_law_279 : decode code 279 = .ok (.aload_n 0, 1) := by decide +kernel
theorem dLaw_law_280 : decode code 280 = .ok (.iload_n 3, 1) := by decide +kernel
theorem dLaw_law_281 : decode code 281 = .ok (.iconst 4, 1) := by decide +kernel
theorem dLaw_law_282 : decode code 282 = .ok (.iadd, 1) := by decide +kernel
theorem dLaw_law_283 : decode code 283 = .ok (.iaload, 1) := by decide +kernel
theorem dLaw_law_284 : decode code 284 = .ok (.ifCond .eq 7, 3) := by decide +kernel
theorem dLaw_law_287 : decode code 287 = .ok (.iconst 1, 1) := by decide +kernel
theorem dLaw_law_288 : decode code 288 = .ok (.goto 4, 3) := by decide +kernel
theorem dLaw_law_291 : decode code 291 = .ok (.iconst 0, 1) := by decide +kernel
theorem dLaw_law_292 : decode code 292 = .ok (.invokevirtual 38, 3) := by decide +kernel
theorem dLaw_law_295 : decode code 295 = .ok (.aload_n 2, 1) := by decide +kernel
theorem dLaw_law_296 : decode code 296 = .ok (.aload_n 0, 1) := by decide +kernel
theorem dLaw_law_297 : decode code 297 = .ok (.iload_n 3, 1) := by decide +kernel
theorem dLaw_law_298 : decode code 298 = .ok (.iconst 1, 1) := by decide +kernel
theorem dLaw_law_299 : decode code 299 = .ok (.iadd, 1) := by decide +kernel
theorem dLaw_law_300 : decode code 300 = .ok (.iaload, 1) := by decide +kernel
theorem dLaw_law_301 : decode code 301 = .ok (.aload_n 0, 1) := by decide +kernel
theorem dLaw_law_302 : decode code 302 = .ok (.iload_n 3, 1) := by decide +kernel
theorem dLaw_law_303 : decode code 303 = .ok (.iconst 2, 1) := by decide +kernel
theorem dLaw_law_304 : decode code 304 = .ok (.iadd, 1) := by decide +kernel
theorem dLaw_law_305 : decode code 305 = .ok (.iaload, 1) := by decide +kernel
theorem dLaw_law_306 : decode code 306 = .ok (.aload_n 0, 1) := by decide +kernel
theorem dLaw_law_307 : decode code 307 = .ok (.iload_n 3, 1) := by decide +kernel
theorem dLaw_law_308 : decode code 308 = .ok (.iconst 3, 1) := by decide +kernel
theorem dLaw_law_309 : decode code 309 = .ok (.iadd, 1) := by decide +kernel
theorem dLaw_law_310 : decode code 310 = .ok (.iaload, 1) := by decide +kernel
theorem dLaw_law_311 : decode code 311 = .ok (.aload_n 0, 1) := by decide +kernel
theorem dLaw_law_312 : decode code 312 = .ok (.iload_n 3, 1) := by decide +kernel
theorem dLaw_law_313 : decode code 313 = .ok (.iconst 4, 1) := by decide +kernel
theorem dLaw_law_314 : decode code 314 = .ok (.iadd, 1) := by decide +kernel
theorem dLaw_law_315 : decode code 315 = .ok (.iaload, 1) := by decide +kernel
theorem dLaw_law_316 : decode code 316 = .ok (.ifCond .eq 7, 3) := by decide +kernel
theorem dLaw_law_319 : decode code 319 = .ok (.iconst 1, 1) := by decide +kernel
theorem dLaw_law_320 : decode code 320 = .ok (.goto 4, 3) := by decide +kernel
theorem dLaw_law_323 : decode code 323 = .ok (.iconst 0, 1) := by decide +kernel
theorem dLaw_law_324 : decode code 324 = .ok (.invokevirtual 42, 3) := by decide +kernel
theorem dLaw_law_327 : decode code 327 = .ok (.if_icmp .eq 328, 3) := by decide +kernel
theorem dLaw_law_330 : decode code 330 = .ok (.iconst 0, 1) := by decide +kernel
theorem dLaw_law_331 : decode code 331 = .ok (.ireturn, 1) := by decide +kernel
theorem dLaw_law_332 : decode code 332 = .ok (.aload_n 1, 1) := by decide +kernel
theorem dLaw_law_333 : decode code 333 = .ok (.aload_n 0, 1) := by decide +kernel
theorem dLaw_law_334 : decode code 334 = .ok (.iload_n 3, 1) := by decide +kernel
theorem dLaw_law_335 : decode code 335 = .ok (.iconst 1, 1) := by decide +kernel
theorem dLaw_law_336 : decode code 336 = .ok (.iadd, 1) := by decide +kernel
theorem dLaw_law_337 : decode code 337 = .ok (.iaload, 1) := by decide +kernel
theorem dLaw_law_338 : decode code 338 = .ok (.aload_n 0, 1) := by decide +kernel
theorem dLaw_law_339 : decode code 339 = .ok (.iload_n 3, 1) := by decide +kernel
theorem dLaw_law_340 : decode code 340 = .ok (.iconst 2, 1) := by decide +kernel
theorem dLaw_law_341 : decode code 341 = .ok (.iadd, 1) := by decide +kernel
theorem dLaw_law_342 : decode code 342 = .ok (.iaload, 1) := by decide +kernel
theorem dLaw_law_343 : decode code 343 = .ok (.invokevirtual 43, 3) := by decide +kernel
theorem dLaw_law_346 : decode code 346 = .ok (.aload_n 2, 1) := by decide +kernel
theorem dLaw_law_347 : decode code 347 = .ok (.aload_n 0, 1) := by decide +kernel
theorem dLaw_law_348 : decode code 348 = .ok (.iload_n 3, 1) := by decide +kernel
theorem dLaw_law_349 : decode code 349 = .ok (.iconst 1, 1) := by decide +kernel
theorem dLaw_law_350 : decode code 350 = .ok (.iadd, 1) := by decide +kernel
theorem dLaw_law_351 : decode code 351 = .ok (.iaload, 1) := by decide +kernel
theorem dLaw_law_352 : decode code 352 = .ok (.aload_n 0, 1) := by decide +kernel
theorem dLaw_law_353 : decode code 353 = .ok (.iload_n 3, 1) := by decide +kernel
theorem dLaw_law_354 : decode code 354 = .ok (.iconst 2, 1) := by decide +kernel
theorem dLaw_law_355 : decode code 355 = .ok (.iadd, 1) := by decide +kernel
theorem dLaw_law_356 : decode code 356 = .ok (.iaload, 1) := by decide +kernel
theorem dLaw_law_357 : decode code 357 = .ok (.invokevirtual 46, 3) := by decide +kernel
theorem dLaw_law_360 : decode code 360 = .ok (.if_icmp .eq 295, 3) := by decide +kernel
theorem dLaw_law_363 : decode code 363 = .ok (.iconst 0, 1) := by decide +kernel
theorem dLaw_law_364 : decode code 364 = .ok (.ireturn, 1) := by decide +kernel
theorem dLaw_law_365 : decode code 365 = .ok (.aload_n 1, 1) := by decide +kernel
theorem dLaw_law_366 : decode code 366 = .ok (.aload_n 0, 1) := by decide +kernel
theorem dLaw_law_367 : decode code 367 = .ok (.iload_n 3, 1) := by decide +kernel
theorem dLaw_law_368 : decode code 368 = .ok (.iconst 1, 1) := by decide +kernel
theorem dLaw_law_369 : decode code 369 = .ok (.iadd, 1) := by decide +kernel
theorem dLaw_law_370 : decode code 370 = .ok (.iaload, 1) := by decide +kernel
theorem dLaw_law_371 : decode code 371 = .ok (.aload_n 0, 1) := by decide +kernel
theorem dLaw_law_372 : decode code 372 = .ok (.iload_n 3, 1) := by decide +kernel
theorem dLaw_law_373 : decode code 373 = .ok (.iconst 2, 1) := by decide +kernel
theorem dLaw_law_374 : decode code 374 = .ok (.iadd, 1) := by decide +kernel
theorem dLaw_law_375 : decode code 375 = .ok (.iaload, 1) := by decide +kernel
theorem dLaw_law_376 : decode code 376 = .ok (.aload_n 0, 1) := by decide +kernel
theorem dLaw_law_377 : decode code 377 = .ok (.iload_n 3, 1) := by decide +kernel
theorem dLaw_law_378 : decode code 378 = .ok (.iconst 3, 1) := by decide +kernel
theorem dLaw_law_379 : decode code 379 = .ok (.iadd, 1) := by decide +kernel
theorem dLaw_law_380 : decode code 380 = .ok (.iaload, 1) := by decide +kernel
theorem dLaw_law_381 : decode code 381 = .ok (.invokevirtual 47, 3) := by decide +kernel
theorem dLaw_law_384 : decode code 384 = .ok (.aload_n 2, 1) := by decide +kernel
theorem dLaw_law_385 : decode code 385 = .ok (.aload_n 0, 1) := by decide +kernel
theorem dLaw_law_386 : decode code 386 = .ok (.iload_n 3, 1) := by decide +kernel
theorem dLaw_law_387 : decode code 387 = .ok (.iconst 1, 1) := by decide +kernel
theorem dLaw_law_388 : decode code 388 = .ok (.iadd, 1) := by decide +kernel
theorem dLaw_law_389 : decode code 389 = .ok (.iaload, 1) := by decide +kernel
theorem dLaw_law_390 : decode code 390 = .ok (.aload_n 0, 1) := by decide +kernel
theorem dLaw_law_391 : decode code 391 = .ok (.iload_n 3, 1) := by decide +kernel
theorem dLaw_law_392 : decode code 392 = .ok (.iconst 2, 1) := by decide +kernel
theorem dLaw_law_393 : decode code 393 = .ok (.iadd, 1) := by decide +kernel
theorem dLaw_law_394 : decode code 394 = .ok (.iaload, 1) := by decide +kernel
theorem dLaw_law_395 : decode code 395 = .ok (.aload_n 0, 1) := by decide +kernel
theorem dLaw_law_396 : decode code 396 = .ok (.iload_n 3, 1) := by decide +kernel
theorem dLaw_law_397 : decode code 397 = .ok (.iconst 3, 1) := by decide +kernel
theorem dLaw_law_398 : decode code 398 = .ok (.iadd, 1) := by decide +kernel
theorem dLaw_law_399 : decode code 399 = .ok (.iaload, 1) := by decide +kernel
theorem dLaw_law_400 : decode code 400 = .ok (.invokevirtual 50, 3) := by decide +kernel
theorem dLaw_law_403 : decode code 403 = .ok (.if_icmp .eq 252, 3) := by decide +kernel
theorem dLaw_law_406 : decode code 406 = .ok (.iconst 0, 1) := by decide +kernel
theorem dLaw_law_407 : decode code 407 = .ok (.ireturn, 1) := by decide +kernel
theorem dLaw_law_408 : decode code 408 = .ok (.aload_n 1, 1) := by decide +kernel
theorem dLaw_law_409 : decode code 409 = .ok (.aload_n 0, 1) := by decide +kernel
theorem dLaw_law_410 : decode code 410 = .ok (.iload_n 3, 1) := by decide +kernel
theorem dLaw_law_411 : decode code 411 = .ok (.iconst 1, 1) := by decide +kernel
theorem dLaw_law_412 : decode code 412 = .ok (.iadd, 1) := by decide +kernel
theorem dLaw_law_413 : decode code 413 = .ok (.iaload, 1) := by decide +kernel
theorem dLaw_law_414 : decode code 414 = .ok (.aload_n 0, 1) := by decide +kernel
theorem dLaw_law_415 : decode code 415 = .ok (.iload_n 3, 1) := by decide +kernel
theorem dLaw_law_416 : decode code 416 = .ok (.iconst 2, 1) := by decide +kernel
theorem dLaw_law_417 : decode code 417 = .ok (.iadd, 1) := by decide +kernel
theorem dLaw_law_418 : decode code 418 = .ok (.iaload, 1) := by decide +kernel
theorem dLaw_law_419 : decode code 419 = .ok (.invokevirtual 51, 3) := by decide +kernel
theorem dLaw_law_422 : decode code 422 = .ok (.aload_n 2, 1) := by decide +kernel
theorem dLaw_law_423 : decode code 423 = .ok (.aload_n 0, 1) := by decide +kernel
theorem dLaw_law_424 : decode code 424 = .ok (.iload_n 3, 1) := by decide +kernel
theorem dLaw_law_425 : decode code 425 = .ok (.iconst 1, 1) := by decide +kernel
theorem dLaw_law_426 : decode code 426 = .ok (.iadd, 1) := by decide +kernel
theorem dLaw_law_427 : decode code 427 = .ok (.iaload, 1) := by decide +kernel
theorem dLaw_law_428 : decode code 428 = .ok (.aload_n 0, 1) := by decide +kernel
theorem dLaw_law_429 : decode code 429 = .ok (.iload_n 3, 1) := by decide +kernel
theorem dLaw_law_430 : decode code 430 = .ok (.iconst 2, 1) := by decide +kernel
theorem dLaw_law_431 : decode code 431 = .ok (.iadd, 1) := by decide +kernel
theorem dLaw_law_432 : decode code 432 = .ok (.iaload, 1) := by decide +kernel
theorem dLaw_law_433 : decode code 433 = .ok (.invokevirtual 54, 3) := by decide +kernel
theorem dLaw_law_436 : decode code 436 = .ok (.if_icmp .eq 219, 3) := by decide +kernel
theorem dLaw_law_439 : decode code 439 = .ok (.iconst 0, 1) := by decide +kernel
theorem dLaw_law_440 : decode code 440 = .ok (.ireturn, 1) := by decide +kernel
theorem dLaw_law_441 : decode code 441 = .ok (.aload_n 1, 1) := by decide +kernel
theorem dLaw_law_442 : decode code 442 = .ok (.aload_n 0, 1) := by decide +kernel
theorem dLaw_law_443 : decode code 443 = .ok (.iload_n 3, 1) := by decide +kernel
theorem dLaw_law_444 : decode code 444 = .ok (.iconst 1, 1) := by decide +kernel
theorem dLaw_law_445 : decode code 445 = .ok (.iadd, 1) := by decide +kernel
theorem dLaw_law_446 : decode code 446 = .ok (.iaload, 1) := by decide +kernel
theorem dLaw_law_447 : decode code 447 = .ok (.invokevirtual 55, 3) := by decide +kernel
theorem dLaw_law_450 : decode code 450 = .ok (.aload_n 2, 1) := by decide +kernel
theorem dLaw_law_451 : decode code 451 = .ok (.aload_n 0, 1) := by decide +kernel
theorem dLaw_law_452 : decode code 452 = .ok (.iload_n 3, 1) := by decide +kernel
theorem dLaw_law_453 : decode code 453 = .ok (.iconst 1, 1) := by decide +kernel
theorem dLaw_law_454 : decode code 454 = .ok (.iadd, 1) := by decide +kernel
theorem dLaw_law_455 : decode code 455 = .ok (.iaload, 1) := by decide +kernel
theorem dLaw_law_456 : decode code 456 = .ok (.invokevirtual 58, 3) := by decide +kernel
theorem dLaw_law_459 : decode code 459 = .ok (.if_icmp .eq 196, 3) := by decide +kernel
theorem dLaw_law_462 : decode code 462 = .ok (.iconst 0, 1) := by decide +kernel
theorem dLaw_law_463 : decode code 463 = .ok (.ireturn, 1) := by decide +kernel
theorem dLaw_law_464 : decode code 464 = .ok (.aload_n 1, 1) := by decide +kernel
theorem dLaw_law_465 : decode code 465 = .ok (.aload_n 0, 1) := by decide +kernel
theorem dLaw_law_466 : decode code 466 = .ok (.iload_n 3, 1) := by decide +kernel
theorem dLaw_law_467 : decode code 467 = .ok (.iconst 1, 1) := by decide +kernel
theorem dLaw_law_468 : decode code 468 = .ok (.iadd, 1) := by decide +kernel
theorem dLaw_law_469 : decode code 469 = .ok (.iaload, 1) := by decide +kernel
theorem dLaw_law_470 : decode code 470 = .ok (.invokevirtual 59, 3) := by decide +kernel
theorem dLaw_law_473 : decode code 473 = .ok (.aload_n 2, 1) := by decide +kernel
theorem dLaw_law_474 : decode code 474 = .ok (.aload_n 0, 1) := by decide +kernel
theorem dLaw_law_475 : decode code 475 = .ok (.iload_n 3, 1) := by decide +kernel
theorem dLaw_law_476 : decode code 476 = .ok (.iconst 1, 1) := by decide +kernel
theorem dLaw_law_477 : decode code 477 = .ok (.iadd, 1) := by decide +kernel
theorem dLaw_law_478 : decode code 478 = .ok (.iaload, 1) := by decide +kernel
theorem dLaw_law_479 : decode code 479 = .ok (.invokevirtual 62, 3) := by decide +kernel
theorem dLaw_law_482 : decode code 482 = .ok (.if_icmp .eq 173, 3) := by decide +kernel
theorem dLaw_law_485 : decode code 485 = .ok (.iconst 0, 1) := by decide +kernel
theorem dLaw_law_486 : decode code 486 = .ok (.ireturn, 1) := by decide +kernel
theorem dLaw_law_487 : decode code 487 = .ok (.aload_n 1, 1) := by decide +kernel
theorem dLaw_law_488 : decode code 488 = .ok (.aload_n 0, 1) := by decide +kernel
theorem dLaw_law_489 : decode code 489 = .ok (.iload_n 3, 1) := by decide +kernel
theorem dLaw_law_490 : decode code 490 = .ok (.iconst 1, 1) := by decide +kernel
theorem dLaw_law_491 : decode code 491 = .ok (.iadd, 1) := by decide +kernel
theorem dLaw_law_492 : decode code 492 = .ok (.iaload, 1) := by decide +kernel
theorem dLaw_law_493 : decode code 493 = .ok (.aload_n 0, 1) := by decide +kernel
theorem dLaw_law_494 : decode code 494 = .ok (.iload_n 3, 1) := by decide +kernel
theorem dLaw_law_495 : decode code 495 = .ok (.iconst 2, 1) := by decide +kernel
theorem dLaw_law_496 : decode code 496 = .ok (.iadd, 1) := by decide +kernel
theorem dLaw_law_497 : decode code 497 = .ok (.iaload, 1) := by decide +kernel
theorem dLaw_law_498 : decode code 498 = .ok (.invokevirtual 63, 3) := by decide +kernel
theorem dLaw_law_501 : decode code 501 = .ok (.aload_n 2, 1) := by decide +kernel
theorem dLaw_law_502 : decode code 502 = .ok (.aload_n 0, 1) := by decide +kernel
theorem dLaw_law_503 : decode code 503 = .ok (.iload_n 3, 1) := by decide +kernel
theorem dLaw_law_504 : decode code 504 = .ok (.iconst 1, 1) := by decide +kernel
theorem dLaw_law_505 : decode code 505 = .ok (.iadd, 1) := by decide +kernel
theorem dLaw_law_506 : decode code 506 = .ok (.iaload, 1) := by decide +kernel
theorem dLaw_law_507 : decode code 507 = .ok (.aload_n 0, 1) := by decide +kernel
theorem dLaw_law_508 : decode code 508 = .ok (.iload_n 3, 1) := by decide +kernel
theorem dLaw_law_509 : decode code 509 = .ok (.iconst 2, 1) := by decide +kernel
theorem dLaw_law_510 : decode code 510 = .ok (.iadd, 1) := by decide +kernel
theorem dLaw_law_511 : decode code 511 = .ok (.iaload, 1) := by decide +kernel
theorem dLaw_law_512 : decode code 512 = .ok (.invokevirtual 66, 3) := by decide +kernel
theorem dLaw_law_515 : decode code 515 = .ok (.if_icmp .eq 140, 3) := by decide +kernel
theorem dLaw_law_518 : decode code 518 = .ok (.iconst 0, 1) := by decide +kernel
theorem dLaw_law_519 : decode code 519 = .ok (.ireturn, 1) := by decide +kernel
theorem dLaw_law_520 : decode code 520 = .ok (.aload_n 1, 1) := by decide +kernel
theorem dLaw_law_521 : decode code 521 = .ok (.aload_n 0, 1) := by decide +kernel
theorem dLaw_law_522 : decode code 522 = .ok (.iload_n 3, 1) := by decide +kernel
theorem dLaw_law_523 : decode code 523 = .ok (.iconst 1, 1) := by decide +kernel
theorem dLaw_law_524 : decode code 524 = .ok (.iadd, 1) := by decide +kernel
theorem dLaw_law_525 : decode code 525 = .ok (.iaload, 1) := by decide +kernel
theorem dLaw_law_526 : decode code 526 = .ok (.aload_n 0, 1) := by decide +kernel
theorem dLaw_law_527 : decode code 527 = .ok (.iload_n 3, 1) := by decide +kernel
theorem dLaw_law_528 : decode code 528 = .ok (.iconst 2, 1) := by decide +kernel
theorem dLaw_law_529 : decode code 529 = .ok (.iadd, 1) := by decide +kernel
theorem dLaw_law_530 : decode code 530 = .ok (.iaload, 1) := by decide +kernel
theorem dLaw_law_531 : decode code 531 = .ok (.invokevirtual 67, 3) := by decide +kernel
theorem dLaw_law_534 : decode code 534 = .ok (.aload_n 2, 1) := by decide +kernel
theorem dLaw_law_535 : decode code 535 = .ok (.aload_n 0, 1) := by decide +kernel
theorem dLaw_law_536 : decode code 536 = .ok (.iload_n 3, 1) := by decide +kernel
theorem dLaw_law_537 : decode code 537 = .ok (.iconst 1, 1) := by decide +kernel
theorem dLaw_law_538 : decode code 538 = .ok (.iadd, 1) := by decide +kernel
theorem dLaw_law_539 : decode code 539 = .ok (.iaload, 1) := by decide +kernel
theorem dLaw_law_540 : decode code 540 = .ok (.aload_n 0, 1) := by decide +kernel
theorem dLaw_law_541 : decode code 541 = .ok (.iload_n 3, 1) := by decide +kernel
theorem dLaw_law_542 : decode code 542 = .ok (.iconst 2, 1) := by decide +kernel
theorem dLaw_law_543 : decode code 543 = .ok (.iadd, 1) := by decide +kernel
theorem dLaw_law_544 : decode code 544 = .ok (.iaload, 1) := by decide +kernel
theorem dLaw_law_545 : decode code 545 = .ok (.invokevirtual 70, 3) := by decide +kernel
theorem dLaw_law_548 : decode code 548 = .ok (.if_icmp .eq 107, 3) := by decide +kernel
theorem dLaw_law_551 : decode code 551 = .ok (.iconst 0, 1) := by decide +kernel
theorem dLaw_law_552 : decode code 552 = .ok (.ireturn, 1) := by decide +kernel
theorem dLaw_law_553 : decode code 553 = .ok (.aload_n 1, 1) := by decide +kernel
theorem dLaw_law_554 : decode code 554 = .ok (.aload_n 0, 1) := by decide +kernel
theorem dLaw_law_555 : decode code 555 = .ok (.iload_n 3, 1) := by decide +kernel
theorem dLaw_law_556 : decode code 556 = .ok (.iconst 1, 1) := by decide +kernel
theorem dLaw_law_557 : decode code 557 = .ok (.iadd, 1) := by decide +kernel
theorem dLaw_law_558 : decode code 558 = .ok (.iaload, 1) := by decide +kernel
theorem dLaw_law_559 : decode code 559 = .ok (.aload_n 0, 1) := by decide +kernel
theorem dLaw_law_560 : decode code 560 = .ok (.iload_n 3, 1) := by decide +kernel
theorem dLaw_law_561 : decode code 561 = .ok (.iconst 2, 1) := by decide +kernel
theorem dLaw_law_562 : decode code 562 = .ok (.iadd, 1) := by decide +kernel
theorem dLaw_law_563 : decode code 563 = .ok (.iaload, 1) := by decide +kernel
theorem dLaw_law_564 : decode code 564 = .ok (.aload_n 0, 1) := by decide +kernel
theorem dLaw_law_565 : decode code 565 = .ok (.iload_n 3, 1) := by decide +kernel
theorem dLaw_law_566 : decode code 566 = .ok (.iconst 3, 1) := by decide +kernel
theorem dLaw_law_567 : decode code 567 = .ok (.iadd, 1) := by decide +kernel
theorem dLaw_law_568 : decode code 568 = .ok (.iaload, 1) := by decide +kernel
theorem dLaw_law_569 : decode code 569 = .ok (.invokevirtual 71, 3) := by decide +kernel
theorem dLaw_law_572 : decode code 572 = .ok (.aload_n 2, 1) := by decide +kernel
theorem dLaw_law_573 : decode code 573 = .ok (.aload_n 0, 1) := by decide +kernel
theorem dLaw_law_574 : decode code 574 = .ok (.iload_n 3, 1) := by decide +kernel
theorem dLaw_law_575 : decode code 575 = .ok (.iconst 1, 1) := by decide +kernel
theorem dLaw_law_576 : decode code 576 = .ok (.iadd, 1) := by decide +kernel
theorem dLaw_law_577 : decode code 577 = .ok (.iaload, 1) := by decide +kernel
theorem dLaw_law_578 : decode code 578 = .ok (.aload_n 0, 1) := by decide +kernel
theorem dLaw_law_579 : decode code 579 = .ok (.iload_n 3, 1) := by decide +kernel
theorem dLaw_law_580 : decode code 580 = .ok (.iconst 2, 1) := by decide +kernel
theorem dLaw_law_581 : decode code 581 = .ok (.iadd, 1) := by decide +kernel
theorem dLaw_law_582 : decode code 582 = .ok (.iaload, 1) := by decide +kernel
theorem dLaw_law_583 : decode code 583 = .ok (.aload_n 0, 1) := by decide +kernel
theorem dLaw_law_584 : decode code 584 = .ok (.iload_n 3, 1) := by decide +kernel
theorem dLaw_law_585 : decode code 585 = .ok (.iconst 3, 1) := by decide +kernel
theorem dLaw_law_586 : decode code 586 = .ok (.iadd, 1) := by decide +kernel
theorem dLaw_law_587 : decode code 587 = .ok (.iaload, 1) := by decide +kernel
theorem dLaw_law_588 : decode code 588 = .ok (.invokevirtual 74, 3) := by decide +kernel
theorem dLaw_law_591 : decode code 591 = .ok (.if_icmp .eq 64, 3) := by decide +kernel
theorem dLaw_law_594 : decode code 594 = .ok (.iconst 0, 1) := by decide +kernel
theorem dLaw_law_595 : decode code 595 = .ok (.ireturn, 1) := by decide +kernel
theorem dLaw_law_596 : decode code 596 = .ok (.aload_n 1, 1) := by decide +kernel
theorem dLaw_law_597 : decode code 597 = .ok (.aload_n 0, 1) := by decide +kernel
theorem dLaw_law_598 : decode code 598 = .ok (.iload_n 3, 1) := by decide +kernel
theorem dLaw_law_599 : decode code 599 = .ok (.iconst 1, 1) := by decide +kernel
theorem dLaw_law_600 : decode code 600 = .ok (.iadd, 1) := by decide +kernel
theorem dLaw_law_601 : decode code 601 = .ok (.iaload, 1) := by decide +kernel
theorem dLaw_law_602 : decode code 602 = .ok (.invokevirtual 75, 3) := by decide +kernel
theorem dLaw_law_605 : decode code 605 = .ok (.aload_n 2, 1) := by decide +kernel
theorem dLaw_law_606 : decode code 606 = .ok (.aload_n 0, 1) := by decide +kernel
theorem dLaw_law_607 : decode code 607 = .ok (.iload_n 3, 1) := by decide +kernel
theorem dLaw_law_608 : decode code 608 = .ok (.iconst 1, 1) := by decide +kernel
theorem dLaw_law_609 : decode code 609 = .ok (.iadd, 1) := by decide +kernel
theorem dLaw_law_610 : decode code 610 = .ok (.iaload, 1) := by decide +kernel
theorem dLaw_law_611 : decode code 611 = .ok (.invokevirtual 78, 3) := by decide +kernel
theorem dLaw_law_614 : decode code 614 = .ok (.if_icmp .eq 41, 3) := by decide +kernel
theorem dLaw_law_617 : decode code 617 = .ok (.iconst 0, 1) := by decide +kernel
theorem dLaw_law_618 : decode code 618 = .ok (.ireturn, 1) := by decide +kernel
theorem dLaw_law_619 : decode code 619 = .ok (.aload_n 1, 1) := by decide +kernel
theorem dLaw_law_620 : decode code 620 = .ok (.invokevirtual 79, 3) := by decide +kernel
theorem dLaw_law_623 : decode code 623 = .ok (.aload_n 2, 1) := by decide +kernel
theorem dLaw_law_624 : decode code 624 = .ok (.invokevirtual 83, 3) := by decide +kernel
theorem dLaw_law_627 : decode code 627 = .ok (.if_icmp .eq 28, 3) := by decide +kernel
theorem dLaw_law_630 : decode code 630 = .ok (.iconst 0, 1) := by decide +kernel
theorem dLaw_law_631 : decode code 631 = .ok (.ireturn, 1) := by decide +kernel
theorem dLaw_law_632 : decode code 632 = .ok (.aload_n 1, 1) := by decide +kernel
theorem dLaw_law_633 : decode code 633 = .ok (.aload_n 0, 1) := by decide +kernel
theorem dLaw_law_634 : decode code 634 = .ok (.iload_n 3, 1) := by decide +kernel
theorem dLaw_law_635 : decode code 635 = .ok (.iconst 1, 1) := by decide +kernel
theorem dLaw_law_636 : decode code 636 = .ok (.iadd, 1) := by decide +kernel
theorem dLaw_law_637 : decode code 637 = .ok (.iaload, 1) := by decide +kernel
theorem dLaw_law_638 : decode code 638 = .ok (.invokevirtual 84, 3) := by decide +kernel
theorem dLaw_law_641 : decode code 641 = .ok (.aload_n 2, 1) := by decide +kernel
theorem dLaw_law_642 : decode code 642 = .ok (.aload_n 0, 1) := by decide +kernel
theorem dLaw_law_643 : decode code 643 = .ok (.iload_n 3, 1) := by decide +kernel
theorem dLaw_law_644 : decode code 644 = .ok (.iconst 1, 1) := by decide +kernel
theorem dLaw_law_645 : decode code 645 = .ok (.iadd, 1) := by decide +kernel
theorem dLaw_law_646 : decode code 646 = .ok (.iaload, 1) := by decide +kernel
theorem dLaw_law_647 : decode code 647 = .ok (.invokevirtual 87, 3) := by decide +kernel
theorem dLaw_law_650 : decode code 650 = .ok (.if_icmp .eq 5, 3) := by decide +kernel
theorem dLaw_law_653 : decode code 653 = .ok (.iconst 0, 1) := by decide +kernel
theorem dLaw_law_654 : decode code 654 = .ok (.ireturn, 1) := by decide +kernel
theorem dLaw_law_655 : decode code 655 = .ok (.iinc 3 5, 3) := by decide +kernel
theorem dLaw_law_658 : decode code 658 = .ok (.goto (-640), 3) := by decide +kernel
theorem dLaw_law_661 : decode code 661 = .ok (.iconst 1, 1) := by decide +kernel
theorem dLaw_law_662 : decode code 662 = .ok (.ireturn, 1) := by decide +kernel
/-! the law's calls, one by one -/
theorem kw_124 : Cond.methodLink "SecretRowsLaw" 13 ⟨"SecretRows", "secret", "(III)I"⟩ ∈ gW := kw_t (i := 124) (by decide +kernel) (by decide +kernel)
theorem kw_125 : Cond.instanceMethod ⟨"SecretRows", "secret", "(III)I"⟩ ∈ gW := kw_t (i := 125) (by decide +kernel) (by decide +kernel)
theorem kw_126 : Cond.selects "SecretRows" ⟨"SecretRows", "secret", "(III)I"⟩ ⟨"SecretRows", "secret", "(III)I"⟩ ∈ gW := kw_t (i := 126) (by decide +kernel) (by decide +kernel)
theorem kw_158 : Cond.methodLink "SecretRowsLaw" 18 ⟨"SecretRows", "type", "(C)Z"⟩ ∈ gW := kw_t (i := 158) (by decide +kernel) (by decide +kernel)
theorem kw_159 : Cond.instanceMethod ⟨"SecretRows", "type", "(C)Z"⟩ ∈ gW := kw_t (i := 159) (by decide +kernel) (by decide +kernel)
theorem kw_160 : Cond.selects "SecretRows" ⟨"SecretRows", "type", "(C)Z"⟩ ⟨"SecretRows", "type", "(C)Z"⟩ ∈ gW := kw_t (i := 160) (by decide +kernel) (by decide +kernel)
theorem kw_166 : Cond.methodLink "SecretRowsLaw" 23 ⟨"SecretRows", "set", "(II)I"⟩ ∈ gW := kw_t (i := 166) (by decide +kernel) (by decide +kernel)
theorem kw_167 : Cond.instanceMethod ⟨"SecretRows", "set", "(II)I"⟩ ∈ gW := kw_t (i := 167) (by decide +kernel) (by decide +kernel)
theorem kw_168 : Cond.selects "SecretRows" ⟨"SecretRows", "set", "(II)I"⟩ ⟨"SecretRows", "set", "(II)I"⟩ ∈ gW := kw_t (i := 168) (by decide +kernel) (by decide +kernel)
theorem kw_266 : Cond.methodLink "SecretRowsLaw" 28 ⟨"SecretRows", "revoke", "(I)Z"⟩ ∈ gW := kw_t (i := 266) (by decide +kernel) (by decide +kernel)
theorem kw_267 : Cond.instanceMethod ⟨"SecretRows", "revoke", "(I)Z"⟩ ∈ gW := kw_t (i := 267) (by decide +kernel) (by decide +kernel)
theorem kw_268 : Cond.selects "SecretRows" ⟨"SecretRows", "revoke", "(I)Z"⟩ ⟨"SecretRows", "revoke", "(I)Z"⟩ ∈ gW := kw_t (i := 268) (by decide +kernel) (by decide +kernel)
theorem kw_270 : Cond.methodLink "SecretRowsLaw" 33 ⟨"SecretRows", "tick", "(I)I"⟩ ∈ gW := kw_t (i := 270) (by decide +kernel) (by decide +kernel)
theorem kw_271 : Cond.instanceMethod ⟨"SecretRows", "tick", "(I)I"⟩ ∈ gW := kw_t (i := 271) (by decide +kernel) (by decide +kernel)
theorem kw_272 : Cond.selects "SecretRows" ⟨"SecretRows", "tick", "(I)I"⟩ ⟨"SecretRows", "tick", "(I)I"⟩ ∈ gW := kw_t (i := 272) (by decide +kernel) (by decide +kernel)
theorem kw_275 : Cond.methodLink "SecretRowsLaw" 38 ⟨"SecretRows", "step", "(IIIZ)I"⟩ ∈ gW := kw_t (i := 275) (by decide +kernel) (by decide +kernel)
theorem kw_276 : Cond.instanceMethod ⟨"SecretRows", "step", "(IIIZ)I"⟩ ∈ gW := kw_t (i := 276) (by decide +kernel) (by decide +kernel)
theorem kw_277 : Cond.selects "SecretRows" ⟨"SecretRows", "step", "(IIIZ)I"⟩ ⟨"SecretRows", "step", "(IIIZ)I"⟩ ∈ gW := kw_t (i := 277) (by decide +kernel) (by decide +kernel)
theorem kw_336 : Cond.methodLink "SecretRowsLaw" 43 ⟨"SecretRows", "sees", "(II)I"⟩ ∈ gW := kw_t (i := 336) (by decide +kernel) (by decide +kernel)
theorem kw_337 : Cond.instanceMethod ⟨"SecretRows", "sees", "(II)I"⟩ ∈ gW := kw_t (i := 337) (by decide +kernel) (by decide +kernel)
theorem kw_338 : Cond.selects "SecretRows" ⟨"SecretRows", "sees", "(II)I"⟩ ⟨"SecretRows", "sees", "(II)I"⟩ ∈ gW := kw_t (i := 338) (by decide +kernel) (by decide +kernel)
theorem kw_348 : Cond.methodLink "SecretRowsLaw" 47 ⟨"SecretRows", "read", "(III)I"⟩ ∈ gW := kw_t (i := 348) (by decide +kernel) (by decide +kernel)
theorem kw_349 : Cond.instanceMethod ⟨"SecretRows", "read", "(III)I"⟩ ∈ gW := kw_t (i := 349) (by decide +kernel) (by decide +kernel)
theorem kw_350 : Cond.selects "SecretRows" ⟨"SecretRows", "read", "(III)I"⟩ ⟨"SecretRows", "read", "(III)I"⟩ ∈ gW := kw_t (i := 350) (by decide +kernel) (by decide +kernel)
theorem kw_365 : Cond.methodLink "SecretRowsLaw" 51 ⟨"SecretRows", "audit", "(II)I"⟩ ∈ gW := kw_t (i := 365) (by decide +kernel) (by decide +kernel)
theorem kw_366 : Cond.instanceMethod ⟨"SecretRows", "audit", "(II)I"⟩ ∈ gW := kw_t (i := 366) (by decide +kernel) (by decide +kernel)
theorem kw_367 : Cond.selects "SecretRows" ⟨"SecretRows", "audit", "(II)I"⟩ ⟨"SecretRows", "audit", "(II)I"⟩ ∈ gW := kw_t (i := 367) (by decide +kernel) (by decide +kernel)
theorem kw_373 : Cond.methodLink "SecretRowsLaw" 55 ⟨"SecretRows", "log", "(I)I"⟩ ∈ gW := kw_t (i := 373) (by decide +kernel) (by decide +kernel)
theorem kw_374 : Cond.instanceMethod ⟨"SecretRows", "log", "(I)I"⟩ ∈ gW := kw_t (i := 374) (by decide +kernel) (by decide +kernel)
theorem kw_375 : Cond.selects "SecretRows" ⟨"SecretRows", "log", "(I)I"⟩ ⟨"SecretRows", "log", "(I)I"⟩ ∈ gW := kw_t (i := 375) (by decide +kernel) (by decide +kernel)
theorem kw_439 : Cond.methodLink "SecretRowsLaw" 59 ⟨"SecretRows", "close", "(I)I"⟩ ∈ gW := kw_t (i := 439) (by decide +kernel) (by decide +kernel)
theorem kw_440 : Cond.instanceMethod ⟨"SecretRows", "close", "(I)I"⟩ ∈ gW := kw_t (i := 440) (by decide +kernel) (by decide +kernel)
theorem kw_441 : Cond.selects "SecretRows" ⟨"SecretRows", "close", "(I)I"⟩ ⟨"SecretRows", "close", "(I)I"⟩ ∈ gW := kw_t (i := 441) (by decide +kernel) (by decide +kernel)
theorem kw_447 : Cond.methodLink "SecretRowsLaw" 63 ⟨"SecretRows", "told", "(II)I"⟩ ∈ gW := kw_t (i := 447) (by decide +kernel) (by decide +kernel)
theorem kw_448 : Cond.instanceMethod ⟨"SecretRows", "told", "(II)I"⟩ ∈ gW := kw_t (i := 448) (by decide +kernel) (by decide +kernel)
theorem kw_449 : Cond.selects "SecretRows" ⟨"SecretRows", "told", "(II)I"⟩ ⟨"SecretRows", "told", "(II)I"⟩ ∈ gW := kw_t (i := 449) (by decide +kernel) (by decide +kernel)
theorem kw_451 : Cond.methodLink "SecretRowsLaw" 67 ⟨"SecretRows", "about", "(II)I"⟩ ∈ gW := kw_t (i := 451) (by decide +kernel) (by decide +kernel)
theorem kw_452 : Cond.instanceMethod ⟨"SecretRows", "about", "(II)I"⟩ ∈ gW := kw_t (i := 452) (by decide +kernel) (by decide +kernel)
theorem kw_453 : Cond.selects "SecretRows" ⟨"SecretRows", "about", "(II)I"⟩ ⟨"SecretRows", "about", "(II)I"⟩ ∈ gW := kw_t (i := 453) (by decide +kernel) (by decide +kernel)
theorem kw_459 : Cond.methodLink "SecretRowsLaw" 71 ⟨"SecretRows", "token", "(III)I"⟩ ∈ gW := kw_t (i := 459) (by decide +kernel) (by decide +kernel)
theorem kw_460 : Cond.instanceMethod ⟨"SecretRows", "token", "(III)I"⟩ ∈ gW := kw_t (i := 460) (by decide +kernel) (by decide +kernel)
theorem kw_461 : Cond.selects "SecretRows" ⟨"SecretRows", "token", "(III)I"⟩ ⟨"SecretRows", "token", "(III)I"⟩ ∈ gW := kw_t (i := 461) (by decide +kernel) (by decide +kernel)
theorem kw_481 : Cond.methodLink "SecretRowsLaw" 75 ⟨"SecretRows", "good", "(I)Z"⟩ ∈ gW := kw_t (i := 481) (by decide +kernel) (by decide +kernel)
theorem kw_482 : Cond.instanceMethod ⟨"SecretRows", "good", "(I)Z"⟩ ∈ gW := kw_t (i := 482) (by decide +kernel) (by decide +kernel)
theorem kw_483 : Cond.selects "SecretRows" ⟨"SecretRows", "good", "(I)Z"⟩ ⟨"SecretRows", "good", "(I)Z"⟩ ∈ gW := kw_t (i := 483) (by decide +kernel) (by decide +kernel)
theorem kw_489 : Cond.methodLink "SecretRowsLaw" 79 ⟨"SecretRows", "scan", "()I"⟩ ∈ gW := kw_t (i := 489) (by decide +kernel) (by decide +kernel)
theorem kw_490 : Cond.instanceMethod ⟨"SecretRows", "scan", "()I"⟩ ∈ gW := kw_t (i := 490) (by decide +kernel) (by decide +kernel)
theorem kw_491 : Cond.selects "SecretRows" ⟨"SecretRows", "scan", "()I"⟩ ⟨"SecretRows", "scan", "()I"⟩ ∈ gW := kw_t (i := 491) (by decide +kernel) (by decide +kernel)
theorem kw_510 : Cond.methodLink "SecretRowsLaw" 84 ⟨"SecretRows", "leak", "(I)I"⟩ ∈ gW := kw_t (i := 510) (by decide +kernel) (by decide +kernel)
theorem kw_511 : Cond.instanceMethod ⟨"SecretRows", "leak", "(I)I"⟩ ∈ gW := kw_t (i := 511) (by decide +kernel) (by decide +kernel)
theorem kw_512 : Cond.selects "SecretRows" ⟨"SecretRows", "leak", "(I)I"⟩ ⟨"SecretRows", "leak", "(I)I"⟩ ∈ gW := kw_t (i := 512) (by decide +kernel) (by decide +kernel)
theorem kw_630 : Cond.methodLink "SecretRowsLaw" 17 ⟨"SecretRowsModel", "secret", "(III)I"⟩ ∈ gW := kw_t (i := 630) (by decide +kernel) (by decide +kernel)
theorem kw_631 : Cond.instanceMethod ⟨"SecretRowsModel", "secret", "(III)I"⟩ ∈ gW := kw_t (i := 631) (by decide +kernel) (by decide +kernel)
theorem kw_632 : Cond.selects "SecretRowsModel" ⟨"SecretRowsModel", "secret", "(III)I"⟩ ⟨"SecretRowsModel", "secret", "(III)I"⟩ ∈ gW := kw_t (i := 632) (by decide +kernel) (by decide +kernel)
theorem kw_634 : Cond.methodLink "SecretRowsLaw" 22 ⟨"SecretRowsModel", "type", "(C)Z"⟩ ∈ gW := kw_t (i := 634) (by decide +kernel) (by decide +kernel)
theorem kw_635 : Cond.instanceMethod ⟨"SecretRowsModel", "type", "(C)Z"⟩ ∈ gW := kw_t (i := 635) (by decide +kernel) (by decide +kernel)
theorem kw_636 : Cond.selects "SecretRowsModel" ⟨"SecretRowsModel", "type", "(C)Z"⟩ ⟨"SecretRowsModel", "type", "(C)Z"⟩ ∈ gW := kw_t (i := 636) (by decide +kernel) (by decide +kernel)
theorem kw_638 : Cond.methodLink "SecretRowsLaw" 27 ⟨"SecretRowsModel", "set", "(II)I"⟩ ∈ gW := kw_t (i := 638) (by decide +kernel) (by decide +kernel)
theorem kw_639 : Cond.instanceMethod ⟨"SecretRowsModel", "set", "(II)I"⟩ ∈ gW := kw_t (i := 639) (by decide +kernel) (by decide +kernel)
theorem kw_640 : Cond.selects "SecretRowsModel" ⟨"SecretRowsModel", "set", "(II)I"⟩ ⟨"SecretRowsModel", "set", "(II)I"⟩ ∈ gW := kw_t (i := 640) (by decide +kernel) (by decide +kernel)
theorem kw_651 : Cond.methodLink "SecretRowsLaw" 32 ⟨"SecretRowsModel", "revoke", "(I)Z"⟩ ∈ gW := kw_t (i := 651) (by decide +kernel) (by decide +kernel)
theorem kw_652 : Cond.instanceMethod ⟨"SecretRowsModel", "revoke", "(I)Z"⟩ ∈ gW := kw_t (i := 652) (by decide +kernel) (by decide +kernel)
theorem kw_653 : Cond.selects "SecretRowsModel" ⟨"SecretRowsModel", "revoke", "(I)Z"⟩ ⟨"SecretRowsModel", "revoke", "(I)Z"⟩ ∈ gW := kw_t (i := 653) (by decide +kernel) (by decide +kernel)
theorem kw_655 : Cond.methodLink "SecretRowsLaw" 37 ⟨"SecretRowsModel", "tick", "(I)I"⟩ ∈ gW := kw_t (i := 655) (by decide +kernel) (by decide +kernel)
theorem kw_656 : Cond.instanceMethod ⟨"SecretRowsModel", "tick", "(I)I"⟩ ∈ gW := kw_t (i := 656) (by decide +kernel) (by decide +kernel)
theorem kw_657 : Cond.selects "SecretRowsModel" ⟨"SecretRowsModel", "tick", "(I)I"⟩ ⟨"SecretRowsModel", "tick", "(I)I"⟩ ∈ gW := kw_t (i := 657) (by decide +kernel) (by decide +kernel)
theorem kw_660 : Cond.methodLink "SecretRowsLaw" 42 ⟨"SecretRowsModel", "step", "(IIIZ)I"⟩ ∈ gW := kw_t (i := 660) (by decide +kernel) (by decide +kernel)
theorem kw_661 : Cond.instanceMethod ⟨"SecretRowsModel", "step", "(IIIZ)I"⟩ ∈ gW := kw_t (i := 661) (by decide +kernel) (by decide +kernel)
theorem kw_662 : Cond.selects "SecretRowsModel" ⟨"SecretRowsModel", "step", "(IIIZ)I"⟩ ⟨"SecretRowsModel", "step", "(IIIZ)I"⟩ ∈ gW := kw_t (i := 662) (by decide +kernel) (by decide +kernel)
theorem kw_664 : Cond.methodLink "SecretRowsLaw" 46 ⟨"SecretRowsModel", "sees", "(II)I"⟩ ∈ gW := kw_t (i := 664) (by decide +kernel) (by decide +kernel)
theorem kw_665 : Cond.instanceMethod ⟨"SecretRowsModel", "sees", "(II)I"⟩ ∈ gW := kw_t (i := 665) (by decide +kernel) (by decide +kernel)
theorem kw_666 : Cond.selects "SecretRowsModel" ⟨"SecretRowsModel", "sees", "(II)I"⟩ ⟨"SecretRowsModel", "sees", "(II)I"⟩ ∈ gW := kw_t (i := 666) (by decide +kernel) (by decide +kernel)
theorem kw_676 : Cond.methodLink "SecretRowsLaw" 50 ⟨"SecretRowsModel", "read", "(III)I"⟩ ∈ gW := kw_t (i := 676) (by decide +kernel) (by decide +kernel)
theorem kw_677 : Cond.instanceMethod ⟨"SecretRowsModel", "read", "(III)I"⟩ ∈ gW := kw_t (i := 677) (by decide +kernel) (by decide +kernel)
theorem kw_678 : Cond.selects "SecretRowsModel" ⟨"SecretRowsModel", "read", "(III)I"⟩ ⟨"SecretRowsModel", "read", "(III)I"⟩ ∈ gW := kw_t (i := 678) (by decide +kernel) (by decide +kernel)
theorem kw_680 : Cond.methodLink "SecretRowsLaw" 54 ⟨"SecretRowsModel", "audit", "(II)I"⟩ ∈ gW := kw_t (i := 680) (by decide +kernel) (by decide +kernel)
theorem kw_681 : Cond.instanceMethod ⟨"SecretRowsModel", "audit", "(II)I"⟩ ∈ gW := kw_t (i := 681) (by decide +kernel) (by decide +kernel)
theorem kw_682 : Cond.selects "SecretRowsModel" ⟨"SecretRowsModel", "audit", "(II)I"⟩ ⟨"SecretRowsModel", "audit", "(II)I"⟩ ∈ gW := kw_t (i := 682) (by decide +kernel) (by decide +kernel)
theorem kw_684 : Cond.methodLink "SecretRowsLaw" 58 ⟨"SecretRowsModel", "log", "(I)I"⟩ ∈ gW := kw_t (i := 684) (by decide +kernel) (by decide +kernel)
theorem kw_685 : Cond.instanceMethod ⟨"SecretRowsModel", "log", "(I)I"⟩ ∈ gW := kw_t (i := 685) (by decide +kernel) (by decide +kernel)
theorem kw_686 : Cond.selects "SecretRowsModel" ⟨"SecretRowsModel", "log", "(I)I"⟩ ⟨"SecretRowsModel", "log", "(I)I"⟩ ∈ gW := kw_t (i := 686) (by decide +kernel) (by decide +kernel)
theorem kw_715 : Cond.methodLink "SecretRowsLaw" 62 ⟨"SecretRowsModel", "close", "(I)I"⟩ ∈ gW := kw_t (i := 715) (by decide +kernel) (by decide +kernel)
theorem kw_716 : Cond.instanceMethod ⟨"SecretRowsModel", "close", "(I)I"⟩ ∈ gW := kw_t (i := 716) (by decide +kernel) (by decide +kernel)
theorem kw_717 : Cond.selects "SecretRowsModel" ⟨"SecretRowsModel", "close", "(I)I"⟩ ⟨"SecretRowsModel", "close", "(I)I"⟩ ∈ gW := kw_t (i := 717) (by decide +kernel) (by decide +kernel)
theorem kw_719 : Cond.methodLink "SecretRowsLaw" 66 ⟨"SecretRowsModel", "told", "(II)I"⟩ ∈ gW := kw_t (i := 719) (by decide +kernel) (by decide +kernel)
theorem kw_720 : Cond.instanceMethod ⟨"SecretRowsModel", "told", "(II)I"⟩ ∈ gW := kw_t (i := 720) (by decide +kernel) (by decide +kernel)
theorem kw_721 : Cond.selects "SecretRowsModel" ⟨"SecretRowsModel", "told", "(II)I"⟩ ⟨"SecretRowsModel", "told", "(II)I"⟩ ∈ gW := kw_t (i := 721) (by decide +kernel) (by decide +kernel)
theorem kw_723 : Cond.methodLink "SecretRowsLaw" 70 ⟨"SecretRowsModel", "about", "(II)I"⟩ ∈ gW := kw_t (i := 723) (by decide +kernel) (by decide +kernel)
theorem kw_724 : Cond.instanceMethod ⟨"SecretRowsModel", "about", "(II)I"⟩ ∈ gW := kw_t (i := 724) (by decide +kernel) (by decide +kernel)
theorem kw_725 : Cond.selects "SecretRowsModel" ⟨"SecretRowsModel", "about", "(II)I"⟩ ⟨"SecretRowsModel", "about", "(II)I"⟩ ∈ gW := kw_t (i := 725) (by decide +kernel) (by decide +kernel)
theorem kw_727 : Cond.methodLink "SecretRowsLaw" 74 ⟨"SecretRowsModel", "token", "(III)I"⟩ ∈ gW := kw_t (i := 727) (by decide +kernel) (by decide +kernel)
theorem kw_728 : Cond.instanceMethod ⟨"SecretRowsModel", "token", "(III)I"⟩ ∈ gW := kw_t (i := 728) (by decide +kernel) (by decide +kernel)
theorem kw_729 : Cond.selects "SecretRowsModel" ⟨"SecretRowsModel", "token", "(III)I"⟩ ⟨"SecretRowsModel", "token", "(III)I"⟩ ∈ gW := kw_t (i := 729) (by decide +kernel) (by decide +kernel)
theorem kw_731 : Cond.methodLink "SecretRowsLaw" 78 ⟨"SecretRowsModel", "good", "(I)Z"⟩ ∈ gW := kw_t (i := 731) (by decide +kernel) (by decide +kernel)
theorem kw_732 : Cond.instanceMethod ⟨"SecretRowsModel", "good", "(I)Z"⟩ ∈ gW := kw_t (i := 732) (by decide +kernel) (by decide +kernel)
theorem kw_733 : Cond.selects "SecretRowsModel" ⟨"SecretRowsModel", "good", "(I)Z"⟩ ⟨"SecretRowsModel", "good", "(I)Z"⟩ ∈ gW := kw_t (i := 733) (by decide +kernel) (by decide +kernel)
theorem kw_735 : Cond.methodLink "SecretRowsLaw" 83 ⟨"SecretRowsModel", "scan", "()I"⟩ ∈ gW := kw_t (i := 735) (by decide +kernel) (by decide +kernel)
theorem kw_736 : Cond.instanceMethod ⟨"SecretRowsModel", "scan", "()I"⟩ ∈ gW := kw_t (i := 736) (by decide +kernel) (by decide +kernel)
theorem kw_737 : Cond.selects "SecretRowsModel" ⟨"SecretRowsModel", "scan", "()I"⟩ ⟨"SecretRowsModel", "scan", "()I"⟩ ∈ gW := kw_t (i := 737) (by decide +kernel) (by decide +kernel)
theorem kw_739 : Cond.methodLink "SecretRowsLaw" 87 ⟨"SecretRowsModel", "leak", "(I)I"⟩ ∈ gW := kw_t (i := 739) (by decide +kernel) (by decide +kernel)
theorem kw_740 : Cond.instanceMethod ⟨"SecretRowsModel", "leak", "(I)I"⟩ ∈ gW := kw_t (i := 740) (by decide +kernel) (by decide +kernel)
theorem kw_741 : Cond.selects "SecretRowsModel" ⟨"SecretRowsModel", "leak", "(I)I"⟩ ⟨"SecretRowsModel", "leak", "(I)I"⟩ ∈ gW := kw_t (i := 741) (by decide +kernel) (by decide +kernel)
/-- secret: class and reference answer alike, and stay alike -/
def OP_secret (n x y : Nat) (Sim : (Nat → Option gE) → (Nat → Option gE) → Nat → Prop) : Prop := ∀ (G1 G2 : Nat → Option gE) (sz : Nat) (v0 v1 v2 : Int32), Sim G1 G2 sz → ∃ (r : Int32) (z1 z2 : gS), fMain_secret n x v0 v1 v2 (G1, sz) = some (r, z1) ∧ fRef_secret n y v0 v1 v2 (G2, z1.2) = some (r, z2) ∧ Sim z1.1 z2.1 z2.2
set_option maxHeartbeats 4000000 in
set_option maxRecDepth 100000 in
theorem law_secret {p : Program} {l : Launch} {e : Env} {s : State} {m : MethodId} {below : List Frame} {meth : Method} {c : Code} {D : va_G} {b L : Nat} {xs : Nat → Int32} (C0 : lw_At p s m meth c b L xs) (hK : g_K D vwCl gNN gOO s) {n x y : Nat} {Sim : (Nat → Option gE) → (Nat → Option gE) → Nat → Prop} (hop : OP_secret n x y Sim) {j cc ss : Nat} (hj : 5 * j + 5 ≤ L) (hL : L ≤ 2560) (hcc : cc + 7 ≤ 600000) (hss : ss + 910 ≤ 7302250) {G1 G2 : Nat → Option gE} {sz : Nat} {H : Heap} {locs : List Loc} {ls : Array Slot} (hSim : Sim G1 G2 sz) (hi1 : g_is (G1, sz) x 8 = some ()) (hi2 : g_is (G2, sz) y 9 = some ()) (hLW : lW D s H G1 G2 sz) (hS : va_S (fun q : Nat => s.heap.size ≤ q) s.heap H locs) (hl : lv_has ls 4 [(0, .ref b), (1, .ref x), (2, .ref y), (3, .int (nI (5 * j)))])
    (kk : ∀ (G1 G2 : Nat → Option gE) (sz : Nat) (H : Heap) (locs : List Loc), Sim G1 G2 sz → lW D s H G1 G2 sz → va_S (fun q : Nat => s.heap.size ≤ q) s.heap H locs → W p l e room_1 s m #[Value.ref b] below meth c H locs (cc + 7) (ss + 910) (lw_Z below #[Value.ref b] s) (F0 m 655 ls [])) : W p l e room_1 s m #[Value.ref b] below meth c H locs cc ss (lw_Z below #[Value.ref b] s) (F0 m 116 ls []) := by
  obtain ⟨hx, hb, hr, hml, hown, hts, hX, hbl, hlocks, hgv⟩ := id C0
  have hg : ∀ w ∈ gW, w.before #[Value.ref b] s = true := fun w hw => hts w (List.mem_filter.mp hw).1
  have hbA : ¬ (fun q : Nat => s.heap.size ≤ q) b := Nat.not_le.mpr hbl
  have hin : ∀ k : Nat, k < 5 → vp_in (nI (5 * j) + nI k) L := fun k hk => by rw [nI_add]; exact vp_in_nI (by omega) (by omega)
  refine lv_aload_n hx hb dLaw_law_116 rfl (lv_at hl 1 rfl) ?_
  refine lv_aload_n hx hb dLaw_law_117 rfl (lv_at hl 0 rfl) ?_
  refine lv_iload_n hx hb dLaw_law_118 rfl (lv_at hl 3 rfl) ?_
  refine lv_iconst (v := 1) hx hb dLaw_law_119 (by decide) ?_
  refine lv_iadd hx hb dLaw_law_120 ?_
  refine va_sld hx hb hX hbl hbA hS (hin 1 (by decide)) dLaw_law_121 ?_
  refine lv_aload_n hx hb dLaw_law_122 rfl (lv_at hl 0 rfl) ?_
  refine lv_iload_n hx hb dLaw_law_123 rfl (lv_at hl 3 rfl) ?_
  refine lv_iconst (v := 2) hx hb dLaw_law_124 (by decide) ?_
  refine lv_iadd hx hb dLaw_law_125 ?_
  refine va_sld hx hb hX hbl hbA hS (hin 2 (by decide)) dLaw_law_126 ?_
  refine lv_aload_n hx hb dLaw_law_127 rfl (lv_at hl 0 rfl) ?_
  refine lv_iload_n hx hb dLaw_law_128 rfl (lv_at hl 3 rfl) ?_
  refine lv_iconst (v := 3) hx hb dLaw_law_129 (by decide) ?_
  refine lv_iadd hx hb dLaw_law_130 ?_
  refine va_sld hx hb hX hbl hbA hS (hin 3 (by decide)) dLaw_law_131 ?_
  obtain ⟨r, z1, z2, e1, e2, hs⟩ := hop G1 G2 sz (xs (nI (5 * j) + 1).toNatClampNeg) (xs (nI (5 * j) + 2).toNatClampNeg) (xs (nI (5 * j) + 3).toNatClampNeg) hSim
  refine l_goi (l_rV (G := G1) (sz := sz) (As := [.int (xs (nI (5 * j) + 1).toNatClampNeg), .int (xs (nI (5 * j) + 2).toNatClampNeg), .int (xs (nI (5 * j) + 3).toNatClampNeg)]) (rest := []) ⟨hx, hb, hml, hown, hg⟩ (mMain_secret l D (lA G1 sz) n _ _ x (xs (nI (5 * j) + 1).toNatClampNeg) (xs (nI (5 * j) + 2).toNatClampNeg) (xs (nI (5 * j) + 3).toNatClampNeg) r e1) (cwV 3 hg (gi_V kw_124 kw_125 kw_126 kw_1 kw_127) rfl rfl rfl ⟨rfl, hdMain_secret⟩ ⟨Nat.le_of_ble_eq_true rfl, Nat.le_of_ble_eq_true rfl⟩) hK hLW.1 (ci := 8) (T := T_Main) (N := 14) rfl hi1 rfl hl.1 rfl (Nat.le_of_ble_eq_true rfl) dLaw_law_132 ⟨by show _ ≤ 600000; omega, by show _ ≤ 7302250; omega⟩) hS hLW.1 (fun H locs hB hk hS1 => ?_)
  replace hLW := hLW.one hB hk hS.1
  replace hS := hS1
  clear hS1 hB hk
  refine lv_aload_n hx hb dLaw_law_135 rfl (lv_at hl 2 rfl) ?_
  refine lv_aload_n hx hb dLaw_law_136 rfl (lv_at hl 0 rfl) ?_
  refine lv_iload_n hx hb dLaw_law_137 rfl (lv_at hl 3 rfl) ?_
  refine lv_iconst (v := 1) hx hb dLaw_law_138 (by decide) ?_
  refine lv_iadd hx hb dLaw_law_139 ?_
  refine va_sld hx hb hX hbl hbA hS (hin 1 (by decide)) dLaw_law_140 ?_
  refine lv_aload_n hx hb dLaw_law_141 rfl (lv_at hl 0 rfl) ?_
  refine lv_iload_n hx hb dLaw_law_142 rfl (lv_at hl 3 rfl) ?_
  refine lv_iconst (v := 2) hx hb dLaw_law_143 (by decide) ?_
  refine lv_iadd hx hb dLaw_law_144 ?_
  refine va_sld hx hb hX hbl hbA hS (hin 2 (by decide)) dLaw_law_145 ?_
  refine lv_aload_n hx hb dLaw_law_146 rfl (lv_at hl 0 rfl) ?_
  refine lv_iload_n hx hb dLaw_law_147 rfl (lv_at hl 3 rfl) ?_
  refine lv_iconst (v := 3) hx hb dLaw_law_148 (by decide) ?_
  refine lv_iadd hx hb dLaw_law_149 ?_
  refine va_sld hx hb hX hbl hbA hS (hin 3 (by decide)) dLaw_law_150 ?_
  refine l_goi (l_rV (G := G2) (sz := z1.2) (As := [.int (xs (nI (5 * j) + 1).toNatClampNeg), .int (xs (nI (5 * j) + 2).toNatClampNeg), .int (xs (nI (5 * j) + 3).toNatClampNeg)]) (rest := [.int r]) ⟨hx, hb, hml, hown, hg⟩ (mRef_secret l D (lA G2 z1.2) n _ _ y (xs (nI (5 * j) + 1).toNatClampNeg) (xs (nI (5 * j) + 2).toNatClampNeg) (xs (nI (5 * j) + 3).toNatClampNeg) r e2) (cwV 3 hg (gi_V kw_630 kw_631 kw_632 kw_6 kw_633) rfl rfl rfl ⟨rfl, hdRef_secret⟩ ⟨Nat.le_of_ble_eq_true rfl, Nat.le_of_ble_eq_true rfl⟩) hK hLW.2.1 (ci := 9) (T := T_Ref) (N := 36) rfl hi2 rfl hl.1 rfl (Nat.le_of_ble_eq_true rfl) dLaw_law_151 ⟨by show _ ≤ 600000; omega, by show _ ≤ 7302250; omega⟩) hS hLW.2.1 (fun H locs hB hk hS1 => ?_)
  replace hLW := (hLW.swap.one hB hk hS.1).swap
  replace hS := hS1
  clear hS1 hB hk
  refine lv_icmp_eq (tgt := 655) hx hb dLaw_law_154 (by decide) (fun _ => ?_) (fun c9 => absurd rfl c9)
  refine W.widen (k := cc + 7) (n := ss + 910) (by omega) (by omega) ?_
  exact kk z1.1 z2.1 z2.2 _ _ hs hLW hS
/-- type: class and reference answer alike, and stay alike -/
def OP_type (n x y : Nat) (Sim : (Nat → Option gE) → (Nat → Option gE) → Nat → Prop) : Prop := ∀ (G1 G2 : Nat → Option gE) (sz : Nat) (v0 : Int32), Sim G1 G2 sz → ∃ (r : Int32) (z1 z2 : gS), fMain_type n x ((v0.toUInt32 % 65536).toInt32) (G1, sz) = some (r, z1) ∧ fRef_type n y ((v0.toUInt32 % 65536).toInt32) (G2, z1.2) = some (r, z2) ∧ Sim z1.1 z2.1 z2.2
set_option maxHeartbeats 4000000 in
set_option maxRecDepth 100000 in
theorem law_type {p : Program} {l : Launch} {e : Env} {s : State} {m : MethodId} {below : List Frame} {meth : Method} {c : Code} {D : va_G} {b L : Nat} {xs : Nat → Int32} (C0 : lw_At p s m meth c b L xs) (hK : g_K D vwCl gNN gOO s) {n x y : Nat} {Sim : (Nat → Option gE) → (Nat → Option gE) → Nat → Prop} (hop : OP_type n x y Sim) {j cc ss : Nat} (hj : 5 * j + 5 ≤ L) (hL : L ≤ 2560) (hcc : cc + 7 ≤ 600000) (hss : ss + 910 ≤ 7302250) {G1 G2 : Nat → Option gE} {sz : Nat} {H : Heap} {locs : List Loc} {ls : Array Slot} (hSim : Sim G1 G2 sz) (hi1 : g_is (G1, sz) x 8 = some ()) (hi2 : g_is (G2, sz) y 9 = some ()) (hLW : lW D s H G1 G2 sz) (hS : va_S (fun q : Nat => s.heap.size ≤ q) s.heap H locs) (hl : lv_has ls 4 [(0, .ref b), (1, .ref x), (2, .ref y), (3, .int (nI (5 * j)))])
    (kk : ∀ (G1 G2 : Nat → Option gE) (sz : Nat) (H : Heap) (locs : List Loc), Sim G1 G2 sz → lW D s H G1 G2 sz → va_S (fun q : Nat => s.heap.size ≤ q) s.heap H locs → W p l e room_1 s m #[Value.ref b] below meth c H locs (cc + 7) (ss + 910) (lw_Z below #[Value.ref b] s) (F0 m 655 ls [])) : W p l e room_1 s m #[Value.ref b] below meth c H locs cc ss (lw_Z below #[Value.ref b] s) (F0 m 159 ls []) := by
  obtain ⟨hx, hb, hr, hml, hown, hts, hX, hbl, hlocks, hgv⟩ := id C0
  have hg : ∀ w ∈ gW, w.before #[Value.ref b] s = true := fun w hw => hts w (List.mem_filter.mp hw).1
  have hbA : ¬ (fun q : Nat => s.heap.size ≤ q) b := Nat.not_le.mpr hbl
  have hin : ∀ k : Nat, k < 5 → vp_in (nI (5 * j) + nI k) L := fun k hk => by rw [nI_add]; exact vp_in_nI (by omega) (by omega)
  refine lv_aload_n hx hb dLaw_law_159 rfl (lv_at hl 1 rfl) ?_
  refine lv_aload_n hx hb dLaw_law_160 rfl (lv_at hl 0 rfl) ?_
  refine lv_iload_n hx hb dLaw_law_161 rfl (lv_at hl 3 rfl) ?_
  refine lv_iconst (v := 1) hx hb dLaw_law_162 (by decide) ?_
  refine lv_iadd hx hb dLaw_law_163 ?_
  refine va_sld hx hb hX hbl hbA hS (hin 1 (by decide)) dLaw_law_164 ?_
  refine lv_i2c (v := ((xs (nI (5 * j) + 1).toNatClampNeg).toUInt32 % 65536).toInt32) hx hb dLaw_law_165 rfl ?_
  obtain ⟨r, z1, z2, e1, e2, hs⟩ := hop G1 G2 sz (xs (nI (5 * j) + 1).toNatClampNeg) hSim
  refine l_goi (l_rV (G := G1) (sz := sz) (As := [.int (((xs (nI (5 * j) + 1).toNatClampNeg).toUInt32 % 65536).toInt32)]) (rest := []) ⟨hx, hb, hml, hown, hg⟩ (mMain_type l D (lA G1 sz) n _ _ x (((xs (nI (5 * j) + 1).toNatClampNeg).toUInt32 % 65536).toInt32) r e1) (cwV 1 hg (gi_V kw_158 kw_159 kw_160 kw_1 kw_161) rfl rfl rfl ⟨rfl, hdMain_type⟩ ⟨Nat.le_of_ble_eq_true rfl, Nat.le_of_ble_eq_true rfl⟩) hK hLW.1 (ci := 8) (T := T_Main) (N := 14) rfl hi1 rfl hl.1 rfl (Nat.le_of_ble_eq_true rfl) dLaw_law_166 ⟨by show _ ≤ 600000; omega, by show _ ≤ 7302250; omega⟩) hS hLW.1 (fun H locs hB hk hS1 => ?_)
  replace hLW := hLW.one hB hk hS.1
  replace hS := hS1
  clear hS1 hB hk
  refine lv_aload_n hx hb dLaw_law_169 rfl (lv_at hl 2 rfl) ?_
  refine lv_aload_n hx hb dLaw_law_170 rfl (lv_at hl 0 rfl) ?_
  refine lv_iload_n hx hb dLaw_law_171 rfl (lv_at hl 3 rfl) ?_
  refine lv_iconst (v := 1) hx hb dLaw_law_172 (by decide) ?_
  refine lv_iadd hx hb dLaw_law_173 ?_
  refine va_sld hx hb hX hbl hbA hS (hin 1 (by decide)) dLaw_law_174 ?_
  refine lv_i2c (v := ((xs (nI (5 * j) + 1).toNatClampNeg).toUInt32 % 65536).toInt32) hx hb dLaw_law_175 rfl ?_
  refine l_goi (l_rV (G := G2) (sz := z1.2) (As := [.int (((xs (nI (5 * j) + 1).toNatClampNeg).toUInt32 % 65536).toInt32)]) (rest := [.int r]) ⟨hx, hb, hml, hown, hg⟩ (mRef_type l D (lA G2 z1.2) n _ _ y (((xs (nI (5 * j) + 1).toNatClampNeg).toUInt32 % 65536).toInt32) r e2) (cwV 1 hg (gi_V kw_634 kw_635 kw_636 kw_6 kw_637) rfl rfl rfl ⟨rfl, hdRef_type⟩ ⟨Nat.le_of_ble_eq_true rfl, Nat.le_of_ble_eq_true rfl⟩) hK hLW.2.1 (ci := 9) (T := T_Ref) (N := 36) rfl hi2 rfl hl.1 rfl (Nat.le_of_ble_eq_true rfl) dLaw_law_176 ⟨by show _ ≤ 600000; omega, by show _ ≤ 7302250; omega⟩) hS hLW.2.1 (fun H locs hB hk hS1 => ?_)
  replace hLW := (hLW.swap.one hB hk hS.1).swap
  replace hS := hS1
  clear hS1 hB hk
  refine lv_icmp_eq (tgt := 655) hx hb dLaw_law_179 (by decide) (fun _ => ?_) (fun c9 => absurd rfl c9)
  refine W.widen (k := cc + 7) (n := ss + 910) (by omega) (by omega) ?_
  exact kk z1.1 z2.1 z2.2 _ _ hs hLW hS
/-- set: class and reference answer alike, and stay alike -/
def OP_set (n x y : Nat) (Sim : (Nat → Option gE) → (Nat → Option gE) → Nat → Prop) : Prop := ∀ (G1 G2 : Nat → Option gE) (sz : Nat) (v0 v1 : Int32), Sim G1 G2 sz → ∃ (r : Int32) (z1 z2 : gS), fMain_set n x v0 v1 (G1, sz) = some (r, z1) ∧ fRef_set n y v0 v1 (G2, z1.2) = some (r, z2) ∧ Sim z1.1 z2.1 z2.2
set_option maxHeartbeats 4000000 in
set_option maxRecDepth 100000 in
theorem law_set {p : Program} {l : Launch} {e : Env} {s : State} {m : MethodId} {below : List Frame} {meth : Method} {c : Code} {D : va_G} {b L : Nat} {xs : Nat → Int32} (C0 : lw_At p s m meth c b L xs) (hK : g_K D vwCl gNN gOO s) {n x y : Nat} {Sim : (Nat → Option gE) → (Nat → Option gE) → Nat → Prop} (hop : OP_set n x y Sim) {j cc ss : Nat} (hj : 5 * j + 5 ≤ L) (hL : L ≤ 2560) (hcc : cc + 7 ≤ 600000) (hss : ss + 910 ≤ 7302250) {G1 G2 : Nat → Option gE} {sz : Nat} {H : Heap} {locs : List Loc} {ls : Array Slot} (hSim : Sim G1 G2 sz) (hi1 : g_is (G1, sz) x 8 = some ()) (hi2 : g_is (G2, sz) y 9 = some ()) (hLW : lW D s H G1 G2 sz) (hS : va_S (fun q : Nat => s.heap.size ≤ q) s.heap H locs) (hl : lv_has ls 4 [(0, .ref b), (1, .ref x), (2, .ref y), (3, .int (nI (5 * j)))])
    (kk : ∀ (G1 G2 : Nat → Option gE) (sz : Nat) (H : Heap) (locs : List Loc), Sim G1 G2 sz → lW D s H G1 G2 sz → va_S (fun q : Nat => s.heap.size ≤ q) s.heap H locs → W p l e room_1 s m #[Value.ref b] below meth c H locs (cc + 7) (ss + 910) (lw_Z below #[Value.ref b] s) (F0 m 655 ls [])) : W p l e room_1 s m #[Value.ref b] below meth c H locs cc ss (lw_Z below #[Value.ref b] s) (F0 m 184 ls []) := by
  obtain ⟨hx, hb, hr, hml, hown, hts, hX, hbl, hlocks, hgv⟩ := id C0
  have hg : ∀ w ∈ gW, w.before #[Value.ref b] s = true := fun w hw => hts w (List.mem_filter.mp hw).1
  have hbA : ¬ (fun q : Nat => s.heap.size ≤ q) b := Nat.not_le.mpr hbl
  have hin : ∀ k : Nat, k < 5 → vp_in (nI (5 * j) + nI k) L := fun k hk => by rw [nI_add]; exact vp_in_nI (by omega) (by omega)
  refine lv_aload_n hx hb dLaw_law_184 rfl (lv_at hl 1 rfl) ?_
  refine lv_aload_n hx hb dLaw_law_185 rfl (lv_at hl 0 rfl) ?_
  refine lv_iload_n hx hb dLaw_law_186 rfl (lv_at hl 3 rfl) ?_
  refine lv_iconst (v := 1) hx hb dLaw_law_187 (by decide) ?_
  refine lv_iadd hx hb dLaw_law_188 ?_
  refine va_sld hx hb hX hbl hbA hS (hin 1 (by decide)) dLaw_law_189 ?_
  refine lv_aload_n hx hb dLaw_law_190 rfl (lv_at hl 0 rfl) ?_
  refine lv_iload_n hx hb dLaw_law_191 rfl (lv_at hl 3 rfl) ?_
  refine lv_iconst (v := 2) hx hb dLaw_law_192 (by decide) ?_
  refine lv_iadd hx hb dLaw_law_193 ?_
  refine va_sld hx hb hX hbl hbA hS (hin 2 (by decide)) dLaw_law_194 ?_
  obtain ⟨r, z1, z2, e1, e2, hs⟩ := hop G1 G2 sz (xs (nI (5 * j) + 1).toNatClampNeg) (xs (nI (5 * j) + 2).toNatClampNeg) hSim
  refine l_goi (l_rV (G := G1) (sz := sz) (As := [.int (xs (nI (5 * j) + 1).toNatClampNeg), .int (xs (nI (5 * j) + 2).toNatClampNeg)]) (rest := []) ⟨hx, hb, hml, hown, hg⟩ (mMain_set l D (lA G1 sz) n _ _ x (xs (nI (5 * j) + 1).toNatClampNeg) (xs (nI (5 * j) + 2).toNatClampNeg) r e1) (cwV 2 hg (gi_V kw_166 kw_167 kw_168 kw_1 kw_169) rfl rfl rfl ⟨rfl, hdMain_set⟩ ⟨Nat.le_of_ble_eq_true rfl, Nat.le_of_ble_eq_true rfl⟩) hK hLW.1 (ci := 8) (T := T_Main) (N := 14) rfl hi1 rfl hl.1 rfl (Nat.le_of_ble_eq_true rfl) dLaw_law_195 ⟨by show _ ≤ 600000; omega, by show _ ≤ 7302250; omega⟩) hS hLW.1 (fun H locs hB hk hS1 => ?_)
  replace hLW := hLW.one hB hk hS.1
  replace hS := hS1
  clear hS1 hB hk
  refine lv_aload_n hx hb dLaw_law_198 rfl (lv_at hl 2 rfl) ?_
  refine lv_aload_n hx hb dLaw_law_199 rfl (lv_at hl 0 rfl) ?_
  refine lv_iload_n hx hb dLaw_law_200 rfl (lv_at hl 3 rfl) ?_
  refine lv_iconst (v := 1) hx hb dLaw_law_201 (by decide) ?_
  refine lv_iadd hx hb dLaw_law_202 ?_
  refine va_sld hx hb hX hbl hbA hS (hin 1 (by decide)) dLaw_law_203 ?_
  refine lv_aload_n hx hb dLaw_law_204 rfl (lv_at hl 0 rfl) ?_
  refine lv_iload_n hx hb dLaw_law_205 rfl (lv_at hl 3 rfl) ?_
  refine lv_iconst (v := 2) hx hb dLaw_law_206 (by decide) ?_
  refine lv_iadd hx hb dLaw_law_207 ?_
  refine va_sld hx hb hX hbl hbA hS (hin 2 (by decide)) dLaw_law_208 ?_
  refine l_goi (l_rV (G := G2) (sz := z1.2) (As := [.int (xs (nI (5 * j) + 1).toNatClampNeg), .int (xs (nI (5 * j) + 2).toNatClampNeg)]) (rest := [.int r]) ⟨hx, hb, hml, hown, hg⟩ (mRef_set l D (lA G2 z1.2) n _ _ y (xs (nI (5 * j) + 1).toNatClampNeg) (xs (nI (5 * j) + 2).toNatClampNeg) r e2) (cwV 2 hg (gi_V kw_638 kw_639 kw_640 kw_6 kw_641) rfl rfl rfl ⟨rfl, hdRef_set⟩ ⟨Nat.le_of_ble_eq_true rfl, Nat.le_of_ble_eq_true rfl⟩) hK hLW.2.1 (ci := 9) (T := T_Ref) (N := 36) rfl hi2 rfl hl.1 rfl (Nat.le_of_ble_eq_true rfl) dLaw_law_209 ⟨by show _ ≤ 600000; omega, by show _ ≤ 7302250; omega⟩) hS hLW.2.1 (fun H locs hB hk hS1 => ?_)
  replace hLW := (hLW.swap.one hB hk hS.1).swap
  replace hS := hS1
  clear hS1 hB hk
  refine lv_icmp_eq (tgt := 655) hx hb dLaw_law_212 (by decide) (fun _ => ?_) (fun c9 => absurd rfl c9)
  refine W.widen (k := cc + 7) (n := ss + 910) (by omega) (by omega) ?_
  exact kk z1.1 z2.1 z2.2 _ _ hs hLW hS
/-- revoke: class and reference answer alike, and stay alike -/
def OP_revoke (n x y : Nat) (Sim : (Nat → Option gE) → (Nat → Option gE) → Nat → Prop) : Prop := ∀ (G1 G2 : Nat → Option gE) (sz : Nat) (v0 : Int32), Sim G1 G2 sz → ∃ (r : Int32) (z1 z2 : gS), fMain_revoke n x v0 (G1, sz) = some (r, z1) ∧ fRef_revoke n y v0 (G2, z1.2) = some (r, z2) ∧ Sim z1.1 z2.1 z2.2
set_option maxHeartbeats 4000000 in
set_option maxRecDepth 100000 in
theorem law_revoke {p : Program} {l : Launch} {e : Env} {s : State} {m : MethodId} {below : List Frame} {meth : Method} {c : Code} {D : va_G} {b L : Nat} {xs : Nat → Int32} (C0 : lw_At p s m meth c b L xs) (hK : g_K D vwCl gNN gOO s) {n x y : Nat} {Sim : (Nat → Option gE) → (Nat → Option gE) → Nat → Prop} (hop : OP_revoke n x y Sim) {j cc ss : Nat} (hj : 5 * j + 5 ≤ L) (hL : L ≤ 2560) (hcc : cc + 7 ≤ 600000) (hss : ss + 910 ≤ 7302250) {G1 G2 : Nat → Option gE} {sz : Nat} {H : Heap} {locs : List Loc} {ls : Array Slot} (hSim : Sim G1 G2 sz) (hi1 : g_is (G1, sz) x 8 = some ()) (hi2 : g_is (G2, sz) y 9 = some ()) (hLW : lW D s H G1 G2 sz) (hS : va_S (fun q : Nat => s.heap.size ≤ q) s.heap H locs) (hl : lv_has ls 4 [(0, .ref b), (1, .ref x), (2, .ref y), (3, .int (nI (5 * j)))])
    (kk : ∀ (G1 G2 : Nat → Option gE) (sz : Nat) (H : Heap) (locs : List Loc), Sim G1 G2 sz → lW D s H G1 G2 sz → va_S (fun q : Nat => s.heap.size ≤ q) s.heap H locs → W p l e room_1 s m #[Value.ref b] below meth c H locs (cc + 7) (ss + 910) (lw_Z below #[Value.ref b] s) (F0 m 655 ls [])) : W p l e room_1 s m #[Value.ref b] below meth c H locs cc ss (lw_Z below #[Value.ref b] s) (F0 m 217 ls []) := by
  obtain ⟨hx, hb, hr, hml, hown, hts, hX, hbl, hlocks, hgv⟩ := id C0
  have hg : ∀ w ∈ gW, w.before #[Value.ref b] s = true := fun w hw => hts w (List.mem_filter.mp hw).1
  have hbA : ¬ (fun q : Nat => s.heap.size ≤ q) b := Nat.not_le.mpr hbl
  have hin : ∀ k : Nat, k < 5 → vp_in (nI (5 * j) + nI k) L := fun k hk => by rw [nI_add]; exact vp_in_nI (by omega) (by omega)
  refine lv_aload_n hx hb dLaw_law_217 rfl (lv_at hl 1 rfl) ?_
  refine lv_aload_n hx hb dLaw_law_218 rfl (lv_at hl 0 rfl) ?_
  refine lv_iload_n hx hb dLaw_law_219 rfl (lv_at hl 3 rfl) ?_
  refine lv_iconst (v := 1) hx hb dLaw_law_220 (by decide) ?_
  refine lv_iadd hx hb dLaw_law_221 ?_
  refine va_sld hx hb hX hbl hbA hS (hin 1 (by decide)) dLaw_law_222 ?_
  obtain ⟨r, z1, z2, e1, e2, hs⟩ := hop G1 G2 sz (xs (nI (5 * j) + 1).toNatClampNeg) hSim
  refine l_goi (l_rV (G := G1) (sz := sz) (As := [.int (xs (nI (5 * j) + 1).toNatClampNeg)]) (rest := []) ⟨hx, hb, hml, hown, hg⟩ (mMain_revoke l D (lA G1 sz) n _ _ x (xs (nI (5 * j) + 1).toNatClampNeg) r e1) (cwV 1 hg (gi_V kw_266 kw_267 kw_268 kw_1 kw_269) rfl rfl rfl ⟨rfl, hdMain_revoke⟩ ⟨Nat.le_of_ble_eq_true rfl, Nat.le_of_ble_eq_true rfl⟩) hK hLW.1 (ci := 8) (T := T_Main) (N := 14) rfl hi1 rfl hl.1 rfl (Nat.le_of_ble_eq_true rfl) dLaw_law_223 ⟨by show _ ≤ 600000; omega, by show _ ≤ 7302250; omega⟩) hS hLW.1 (fun H locs hB hk hS1 => ?_)
  replace hLW := hLW.one hB hk hS.1
  replace hS := hS1
  clear hS1 hB hk
  refine lv_aload_n hx hb dLaw_law_226 rfl (lv_at hl 2 rfl) ?_
  refine lv_aload_n hx hb dLaw_law_227 rfl (lv_at hl 0 rfl) ?_
  refine lv_iload_n hx hb dLaw_law_228 rfl (lv_at hl 3 rfl) ?_
  refine lv_iconst (v := 1) hx hb dLaw_law_229 (by decide) ?_
  refine lv_iadd hx hb dLaw_law_230 ?_
  refine va_sld hx hb hX hbl hbA hS (hin 1 (by decide)) dLaw_law_231 ?_
  refine l_goi (l_rV (G := G2) (sz := z1.2) (As := [.int (xs (nI (5 * j) + 1).toNatClampNeg)]) (rest := [.int r]) ⟨hx, hb, hml, hown, hg⟩ (mRef_revoke l D (lA G2 z1.2) n _ _ y (xs (nI (5 * j) + 1).toNatClampNeg) r e2) (cwV 1 hg (gi_V kw_651 kw_652 kw_653 kw_6 kw_654) rfl rfl rfl ⟨rfl, hdRef_revoke⟩ ⟨Nat.le_of_ble_eq_true rfl, Nat.le_of_ble_eq_true rfl⟩) hK hLW.2.1 (ci := 9) (T := T_Ref) (N := 36) rfl hi2 rfl hl.1 rfl (Nat.le_of_ble_eq_true rfl) dLaw_law_232 ⟨by show _ ≤ 600000; omega, by show _ ≤ 7302250; omega⟩) hS hLW.2.1 (fun H locs hB hk hS1 => ?_)
  replace hLW := (hLW.swap.one hB hk hS.1).swap
  replace hS := hS1
  clear hS1 hB hk
  refine lv_icmp_eq (tgt := 655) hx hb dLaw_law_235 (by decide) (fun _ => ?_) (fun c9 => absurd rfl c9)
  refine W.widen (k := cc + 7) (n := ss + 910) (by omega) (by omega) ?_
  exact kk z1.1 z2.1 z2.2 _ _ hs hLW hS
/-- tick: class and reference answer alike, and stay alike -/
def OP_tick (n x y : Nat) (Sim : (Nat → Option gE) → (Nat → Option gE) → Nat → Prop) : Prop := ∀ (G1 G2 : Nat → Option gE) (sz : Nat) (v0 : Int32), Sim G1 G2 sz → ∃ (r : Int32) (z1 z2 : gS), fMain_tick n x v0 (G1, sz) = some (r, z1) ∧ fRef_tick n y v0 (G2, z1.2) = some (r, z2) ∧ Sim z1.1 z2.1 z2.2
set_option maxHeartbeats 4000000 in
set_option maxRecDepth 100000 in
theorem law_tick {p : Program} {l : Launch} {e : Env} {s : State} {m : MethodId} {below : List Frame} {meth : Method} {c : Code} {D : va_G} {b L : Nat} {xs : Nat → Int32} (C0 : lw_At p s m meth c b L xs) (hK : g_K D vwCl gNN gOO s) {n x y : Nat} {Sim : (Nat → Option gE) → (Nat → Option gE) → Nat → Prop} (hop : OP_tick n x y Sim) {j cc ss : Nat} (hj : 5 * j + 5 ≤ L) (hL : L ≤ 2560) (hcc : cc + 7 ≤ 600000) (hss : ss + 910 ≤ 7302250) {G1 G2 : Nat → Option gE} {sz : Nat} {H : Heap} {locs : List Loc} {ls : Array Slot} (hSim : Sim G1 G2 sz) (hi1 : g_is (G1, sz) x 8 = some ()) (hi2 : g_is (G2, sz) y 9 = some ()) (hLW : lW D s H G1 G2 sz) (hS : va_S (fun q : Nat => s.heap.size ≤ q) s.heap H locs) (hl : lv_has ls 4 [(0, .ref b), (1, .ref x), (2, .ref y), (3, .int (nI (5 * j)))])
    (kk : ∀ (G1 G2 : Nat → Option gE) (sz : Nat) (H : Heap) (locs : List Loc), Sim G1 G2 sz → lW D s H G1 G2 sz → va_S (fun q : Nat => s.heap.size ≤ q) s.heap H locs → W p l e room_1 s m #[Value.ref b] below meth c H locs (cc + 7) (ss + 910) (lw_Z below #[Value.ref b] s) (F0 m 655 ls [])) : W p l e room_1 s m #[Value.ref b] below meth c H locs cc ss (lw_Z below #[Value.ref b] s) (F0 m 240 ls []) := by
  obtain ⟨hx, hb, hr, hml, hown, hts, hX, hbl, hlocks, hgv⟩ := id C0
  have hg : ∀ w ∈ gW, w.before #[Value.ref b] s = true := fun w hw => hts w (List.mem_filter.mp hw).1
  have hbA : ¬ (fun q : Nat => s.heap.size ≤ q) b := Nat.not_le.mpr hbl
  have hin : ∀ k : Nat, k < 5 → vp_in (nI (5 * j) + nI k) L := fun k hk => by rw [nI_add]; exact vp_in_nI (by omega) (by omega)
  refine lv_aload_n hx hb dLaw_law_240 rfl (lv_at hl 1 rfl) ?_
  refine lv_aload_n hx hb dLaw_law_241 rfl (lv_at hl 0 rfl) ?_
  refine lv_iload_n hx hb dLaw_law_242 rfl (lv_at hl 3 rfl) ?_
  refine lv_iconst (v := 1) hx hb dLaw_law_243 (by decide) ?_
  refine lv_iadd hx hb dLaw_law_244 ?_
  refine va_sld hx hb hX hbl hbA hS (hin 1 (by decide)) dLaw_law_245 ?_
  obtain ⟨r, z1, z2, e1, e2, hs⟩ := hop G1 G2 sz (xs (nI (5 * j) + 1).toNatClampNeg) hSim
  refine l_goi (l_rV (G := G1) (sz := sz) (As := [.int (xs (nI (5 * j) + 1).toNatClampNeg)]) (rest := []) ⟨hx, hb, hml, hown, hg⟩ (mMain_tick l D (lA G1 sz) n _ _ x (xs (nI (5 * j) + 1).toNatClampNeg) r e1) (cwV 1 hg (gi_V kw_270 kw_271 kw_272 kw_1 kw_273) rfl rfl rfl ⟨rfl, hdMain_tick⟩ ⟨Nat.le_of_ble_eq_true rfl, Nat.le_of_ble_eq_true rfl⟩) hK hLW.1 (ci := 8) (T := T_Main) (N := 14) rfl hi1 rfl hl.1 rfl (Nat.le_of_ble_eq_true rfl) dLaw_law_246 ⟨by show _ ≤ 600000; omega, by show _ ≤ 7302250; omega⟩) hS hLW.1 (fun H locs hB hk hS1 => ?_)
  replace hLW := hLW.one hB hk hS.1
  replace hS := hS1
  clear hS1 hB hk
  refine lv_aload_n hx hb dLaw_law_249 rfl (lv_at hl 2 rfl) ?_
  refine lv_aload_n hx hb dLaw_law_250 rfl (lv_at hl 0 rfl) ?_
  refine lv_iload_n hx hb dLaw_law_251 rfl (lv_at hl 3 rfl) ?_
  refine lv_iconst (v := 1) hx hb dLaw_law_252 (by decide) ?_
  refine lv_iadd hx hb dLaw_law_253 ?_
  refine va_sld hx hb hX hbl hbA hS (hin 1 (by decide)) dLaw_law_254 ?_
  refine l_goi (l_rV (G := G2) (sz := z1.2) (As := [.int (xs (nI (5 * j) + 1).toNatClampNeg)]) (rest := [.int r]) ⟨hx, hb, hml, hown, hg⟩ (mRef_tick l D (lA G2 z1.2) n _ _ y (xs (nI (5 * j) + 1).toNatClampNeg) r e2) (cwV 1 hg (gi_V kw_655 kw_656 kw_657 kw_6 kw_658) rfl rfl rfl ⟨rfl, hdRef_tick⟩ ⟨Nat.le_of_ble_eq_true rfl, Nat.le_of_ble_eq_true rfl⟩) hK hLW.2.1 (ci := 9) (T := T_Ref) (N := 36) rfl hi2 rfl hl.1 rfl (Nat.le_of_ble_eq_true rfl) dLaw_law_255 ⟨by show _ ≤ 600000; omega, by show _ ≤ 7302250; omega⟩) hS hLW.2.1 (fun H locs hB hk hS1 => ?_)
  replace hLW := (hLW.swap.one hB hk hS.1).swap
  replace hS := hS1
  clear hS1 hB hk
  refine lv_icmp_eq (tgt := 655) hx hb dLaw_law_258 (by decide) (fun _ => ?_) (fun c9 => absurd rfl c9)
  refine W.widen (k := cc + 7) (n := ss + 910) (by omega) (by omega) ?_
  exact kk z1.1 z2.1 z2.2 _ _ hs hLW hS
/-- step: class and reference answer alike, and stay alike -/
def OP_step (n x y : Nat) (Sim : (Nat → Option gE) → (Nat → Option gE) → Nat → Prop) : Prop := ∀ (G1 G2 : Nat → Option gE) (sz : Nat) (v0 v1 v2 v3 : Int32), (v3 = 0 ∨ v3 = 1) → Sim G1 G2 sz → ∃ (r : Int32) (z1 z2 : gS), fMain_step n x v0 v1 v2 v3 (G1, sz) = some (r, z1) ∧ fRef_step n y v0 v1 v2 v3 (G2, z1.2) = some (r, z2) ∧ Sim z1.1 z2.1 z2.2
set_option maxHeartbeats 4000000 in
set_option maxRecDepth 100000 in
theorem law_step {p : Program} {l : Launch} {e : Env} {s : State} {m : MethodId} {below : List Frame} {meth : Method} {c : Code} {D : va_G} {b L : Nat} {xs : Nat → Int32} (C0 : lw_At p s m meth c b L xs) (hK : g_K D vwCl gNN gOO s) {n x y : Nat} {Sim : (Nat → Option gE) → (Nat → Option gE) → Nat → Prop} (hop : OP_step n x y Sim) {j cc ss : Nat} (hj : 5 * j + 5 ≤ L) (hL : L ≤ 2560) (hcc : cc + 7 ≤ 600000) (hss : ss + 910 ≤ 7302250) {G1 G2 : Nat → Option gE} {sz : Nat} {H : Heap} {locs : List Loc} {ls : Array Slot} (hSim : Sim G1 G2 sz) (hi1 : g_is (G1, sz) x 8 = some ()) (hi2 : g_is (G2, sz) y 9 = some ()) (hLW : lW D s H G1 G2 sz) (hS : va_S (fun q : Nat => s.heap.size ≤ q) s.heap H locs) (hl : lv_has ls 4 [(0, .ref b), (1, .ref x), (2, .ref y), (3, .int (nI (5 * j)))])
    (kk : ∀ (G1 G2 : Nat → Option gE) (sz : Nat) (H : Heap) (locs : List Loc), Sim G1 G2 sz → lW D s H G1 G2 sz → va_S (fun q : Nat => s.heap.size ≤ q) s.heap H locs → W p l e room_1 s m #[Value.ref b] below meth c H locs (cc + 7) (ss + 910) (lw_Z below #[Value.ref b] s) (F0 m 655 ls [])) : W p l e room_1 s m #[Value.ref b] below meth c H locs cc ss (lw_Z below #[Value.ref b] s) (F0 m 263 ls []) := by
  obtain ⟨hx, hb, hr, hml, hown, hts, hX, hbl, hlocks, hgv⟩ := id C0
  have hg : ∀ w ∈ gW, w.before #[Value.ref b] s = true := fun w hw => hts w (List.mem_filter.mp hw).1
  have hbA : ¬ (fun q : Nat => s.heap.size ≤ q) b := Nat.not_le.mpr hbl
  have hin : ∀ k : Nat, k < 5 → vp_in (nI (5 * j) + nI k) L := fun k hk => by rw [nI_add]; exact vp_in_nI (by omega) (by omega)
  refine lv_aload_n hx hb dLaw_law_263 rfl (lv_at hl 1 rfl) ?_
  refine lv_aload_n hx hb dLaw_law_264 rfl (lv_at hl 0 rfl) ?_
  refine lv_iload_n hx hb dLaw_law_265 rfl (lv_at hl 3 rfl) ?_
  refine lv_iconst (v := 1) hx hb dLaw_law_266 (by decide) ?_
  refine lv_iadd hx hb dLaw_law_267 ?_
  refine va_sld hx hb hX hbl hbA hS (hin 1 (by decide)) dLaw_law_268 ?_
  refine lv_aload_n hx hb dLaw_law_269 rfl (lv_at hl 0 rfl) ?_
  refine lv_iload_n hx hb dLaw_law_270 rfl (lv_at hl 3 rfl) ?_
  refine lv_iconst (v := 2) hx hb dLaw_law_271 (by decide) ?_
  refine lv_iadd hx hb dLaw_law_272 ?_
  refine va_sld hx hb hX hbl hbA hS (hin 2 (by decide)) dLaw_law_273 ?_
  refine lv_aload_n hx hb dLaw_law_274 rfl (lv_at hl 0 rfl) ?_
  refine lv_iload_n hx hb dLaw_law_275 rfl (lv_at hl 3 rfl) ?_
  refine lv_iconst (v := 3) hx hb dLaw_law_276 (by decide) ?_
  refine lv_iadd hx hb dLaw_law_277 ?_
  refine va_sld hx hb hX hbl hbA hS (hin 3 (by decide)) dLaw_law_278 ?_
  refine lv_aload_n hx hb dLaw_law_279 rfl (lv_at hl 0 rfl) ?_
  refine lv_iload_n hx hb dLaw_law_280 rfl (lv_at hl 3 rfl) ?_
  refine lv_iconst (v := 4) hx hb dLaw_law_281 (by decide) ?_
  refine lv_iadd hx hb dLaw_law_282 ?_
  refine va_sld hx hb hX hbl hbA hS (hin 4 (by decide)) dLaw_law_283 ?_
  refine lv_if_eq (tgt := 291) hx hb dLaw_law_284 (by decide) (fun c5 => ?_) (fun c5 => ?_)
  · refine lv_iconst (v := 0) hx hb dLaw_law_291 (by decide) ?_
    obtain ⟨r, z1, z2, e1, e2, hs⟩ := hop G1 G2 sz (xs (nI (5 * j) + 1).toNatClampNeg) (xs (nI (5 * j) + 2).toNatClampNeg) (xs (nI (5 * j) + 3).toNatClampNeg) 0 (Or.inl rfl) hSim
    refine l_goi (l_rV (G := G1) (sz := sz) (As := [.int (xs (nI (5 * j) + 1).toNatClampNeg), .int (xs (nI (5 * j) + 2).toNatClampNeg), .int (xs (nI (5 * j) + 3).toNatClampNeg), .int 0]) (rest := []) ⟨hx, hb, hml, hown, hg⟩ (mMain_step l D (lA G1 sz) n _ _ x (xs (nI (5 * j) + 1).toNatClampNeg) (xs (nI (5 * j) + 2).toNatClampNeg) (xs (nI (5 * j) + 3).toNatClampNeg) 0 r e1) (cwV 4 hg (gi_V kw_275 kw_276 kw_277 kw_1 kw_278) rfl rfl rfl ⟨rfl, hdMain_step⟩ ⟨Nat.le_of_ble_eq_true rfl, Nat.le_of_ble_eq_true rfl⟩) hK hLW.1 (ci := 8) (T := T_Main) (N := 14) rfl hi1 rfl hl.1 rfl (Nat.le_of_ble_eq_true rfl) dLaw_law_292 ⟨by show _ ≤ 600000; omega, by show _ ≤ 7302250; omega⟩) hS hLW.1 (fun H locs hB hk hS1 => ?_)
    replace hLW := hLW.one hB hk hS.1
    replace hS := hS1
    clear hS1 hB hk
    refine lv_aload_n hx hb dLaw_law_295 rfl (lv_at hl 2 rfl) ?_
    refine lv_aload_n hx hb dLaw_law_296 rfl (lv_at hl 0 rfl) ?_
    refine lv_iload_n hx hb dLaw_law_297 rfl (lv_at hl 3 rfl) ?_
    refine lv_iconst (v := 1) hx hb dLaw_law_298 (by decide) ?_
    refine lv_iadd hx hb dLaw_law_299 ?_
    refine va_sld hx hb hX hbl hbA hS (hin 1 (by decide)) dLaw_law_300 ?_
    refine lv_aload_n hx hb dLaw_law_301 rfl (lv_at hl 0 rfl) ?_
    refine lv_iload_n hx hb dLaw_law_302 rfl (lv_at hl 3 rfl) ?_
    refine lv_iconst (v := 2) hx hb dLaw_law_303 (by decide) ?_
    refine lv_iadd hx hb dLaw_law_304 ?_
    refine va_sld hx hb hX hbl hbA hS (hin 2 (by decide)) dLaw_law_305 ?_
    refine lv_aload_n hx hb dLaw_law_306 rfl (lv_at hl 0 rfl) ?_
    refine lv_iload_n hx hb dLaw_law_307 rfl (lv_at hl 3 rfl) ?_
    refine lv_iconst (v := 3) hx hb dLaw_law_308 (by decide) ?_
    refine lv_iadd hx hb dLaw_law_309 ?_
    refine va_sld hx hb hX hbl hbA hS (hin 3 (by decide)) dLaw_law_310 ?_
    refine lv_aload_n hx hb dLaw_law_311 rfl (lv_at hl 0 rfl) ?_
    refine lv_iload_n hx hb dLaw_law_312 rfl (lv_at hl 3 rfl) ?_
    refine lv_iconst (v := 4) hx hb dLaw_law_313 (by decide) ?_
    refine lv_iadd hx hb dLaw_law_314 ?_
    refine va_sld hx hb hX hbl hbA hS (hin 4 (by decide)) dLaw_law_315 ?_
    refine lv_if_eq (tgt := 323) hx hb dLaw_law_316 (by decide) (fun c6 => ?_) (fun c6 => absurd c5 c6)
    refine lv_iconst (v := 0) hx hb dLaw_law_323 (by decide) ?_
    refine l_goi (l_rV (G := G2) (sz := z1.2) (As := [.int (xs (nI (5 * j) + 1).toNatClampNeg), .int (xs (nI (5 * j) + 2).toNatClampNeg), .int (xs (nI (5 * j) + 3).toNatClampNeg), .int 0]) (rest := [.int r]) ⟨hx, hb, hml, hown, hg⟩ (mRef_step l D (lA G2 z1.2) n _ _ y (xs (nI (5 * j) + 1).toNatClampNeg) (xs (nI (5 * j) + 2).toNatClampNeg) (xs (nI (5 * j) + 3).toNatClampNeg) 0 r e2) (cwV 4 hg (gi_V kw_660 kw_661 kw_662 kw_6 kw_663) rfl rfl rfl ⟨rfl, hdRef_step⟩ ⟨Nat.le_of_ble_eq_true rfl, Nat.le_of_ble_eq_true rfl⟩) hK hLW.2.1 (ci := 9) (T := T_Ref) (N := 36) rfl hi2 rfl hl.1 rfl (Nat.le_of_ble_eq_true rfl) dLaw_law_324 ⟨by show _ ≤ 600000; omega, by show _ ≤ 7302250; omega⟩) hS hLW.2.1 (fun H locs hB hk hS1 => ?_)
    replace hLW := (hLW.swap.one hB hk hS.1).swap
    replace hS := hS1
    clear hS1 hB hk
    refine lv_icmp_eq (tgt := 655) hx hb dLaw_law_327 (by decide) (fun _ => ?_) (fun c9 => absurd rfl c9)
    refine W.widen (k := cc + 7) (n := ss + 910) (by omega) (by omega) ?_
    exact kk z1.1 z2.1 z2.2 _ _ hs hLW hS
  · refine lv_iconst (v := 1) hx hb dLaw_law_287 (by decide) ?_
    refine lv_goto (tgt := 292) hx hb dLaw_law_288 (by decide) ?_
    obtain ⟨r, z1, z2, e1, e2, hs⟩ := hop G1 G2 sz (xs (nI (5 * j) + 1).toNatClampNeg) (xs (nI (5 * j) + 2).toNatClampNeg) (xs (nI (5 * j) + 3).toNatClampNeg) 1 (Or.inr rfl) hSim
    refine l_goi (l_rV (G := G1) (sz := sz) (As := [.int (xs (nI (5 * j) + 1).toNatClampNeg), .int (xs (nI (5 * j) + 2).toNatClampNeg), .int (xs (nI (5 * j) + 3).toNatClampNeg), .int 1]) (rest := []) ⟨hx, hb, hml, hown, hg⟩ (mMain_step l D (lA G1 sz) n _ _ x (xs (nI (5 * j) + 1).toNatClampNeg) (xs (nI (5 * j) + 2).toNatClampNeg) (xs (nI (5 * j) + 3).toNatClampNeg) 1 r e1) (cwV 4 hg (gi_V kw_275 kw_276 kw_277 kw_1 kw_278) rfl rfl rfl ⟨rfl, hdMain_step⟩ ⟨Nat.le_of_ble_eq_true rfl, Nat.le_of_ble_eq_true rfl⟩) hK hLW.1 (ci := 8) (T := T_Main) (N := 14) rfl hi1 rfl hl.1 rfl (Nat.le_of_ble_eq_true rfl) dLaw_law_292 ⟨by show _ ≤ 600000; omega, by show _ ≤ 7302250; omega⟩) hS hLW.1 (fun H locs hB hk hS1 => ?_)
    replace hLW := hLW.one hB hk hS.1
    replace hS := hS1
    clear hS1 hB hk
    refine lv_aload_n hx hb dLaw_law_295 rfl (lv_at hl 2 rfl) ?_
    refine lv_aload_n hx hb dLaw_law_296 rfl (lv_at hl 0 rfl) ?_
    refine lv_iload_n hx hb dLaw_law_297 rfl (lv_at hl 3 rfl) ?_
    refine lv_iconst (v := 1) hx hb dLaw_law_298 (by decide) ?_
    refine lv_iadd hx hb dLaw_law_299 ?_
    refine va_sld hx hb hX hbl hbA hS (hin 1 (by decide)) dLaw_law_300 ?_
    refine lv_aload_n hx hb dLaw_law_301 rfl (lv_at hl 0 rfl) ?_
    refine lv_iload_n hx hb dLaw_law_302 rfl (lv_at hl 3 rfl) ?_
    refine lv_iconst (v := 2) hx hb dLaw_law_303 (by decide) ?_
    refine lv_iadd hx hb dLaw_law_304 ?_
    refine va_sld hx hb hX hbl hbA hS (hin 2 (by decide)) dLaw_law_305 ?_
    refine lv_aload_n hx hb dLaw_law_306 rfl (lv_at hl 0 rfl) ?_
    refine lv_iload_n hx hb dLaw_law_307 rfl (lv_at hl 3 rfl) ?_
    refine lv_iconst (v := 3) hx hb dLaw_law_308 (by decide) ?_
    refine lv_iadd hx hb dLaw_law_309 ?_
    refine va_sld hx hb hX hbl hbA hS (hin 3 (by decide)) dLaw_law_310 ?_
    refine lv_aload_n hx hb dLaw_law_311 rfl (lv_at hl 0 rfl) ?_
    refine lv_iload_n hx hb dLaw_law_312 rfl (lv_at hl 3 rfl) ?_
    refine lv_iconst (v := 4) hx hb dLaw_law_313 (by decide) ?_
    refine lv_iadd hx hb dLaw_law_314 ?_
    refine va_sld hx hb hX hbl hbA hS (hin 4 (by decide)) dLaw_law_315 ?_
    refine lv_if_eq (tgt := 323) hx hb dLaw_law_316 (by decide) (fun c6 => absurd c6 c5) (fun c6 => ?_)
    refine lv_iconst (v := 1) hx hb dLaw_law_319 (by decide) ?_
    refine lv_goto (tgt := 324) hx hb dLaw_law_320 (by decide) ?_
    refine l_goi (l_rV (G := G2) (sz := z1.2) (As := [.int (xs (nI (5 * j) + 1).toNatClampNeg), .int (xs (nI (5 * j) + 2).toNatClampNeg), .int (xs (nI (5 * j) + 3).toNatClampNeg), .int 1]) (rest := [.int r]) ⟨hx, hb, hml, hown, hg⟩ (mRef_step l D (lA G2 z1.2) n _ _ y (xs (nI (5 * j) + 1).toNatClampNeg) (xs (nI (5 * j) + 2).toNatClampNeg) (xs (nI (5 * j) + 3).toNatClampNeg) 1 r e2) (cwV 4 hg (gi_V kw_660 kw_661 kw_662 kw_6 kw_663) rfl rfl rfl ⟨rfl, hdRef_step⟩ ⟨Nat.le_of_ble_eq_true rfl, Nat.le_of_ble_eq_true rfl⟩) hK hLW.2.1 (ci := 9) (T := T_Ref) (N := 36) rfl hi2 rfl hl.1 rfl (Nat.le_of_ble_eq_true rfl) dLaw_law_324 ⟨by show _ ≤ 600000; omega, by show _ ≤ 7302250; omega⟩) hS hLW.2.1 (fun H locs hB hk hS1 => ?_)
    replace hLW := (hLW.swap.one hB hk hS.1).swap
    replace hS := hS1
    clear hS1 hB hk
    refine lv_icmp_eq (tgt := 655) hx hb dLaw_law_327 (by decide) (fun _ => ?_) (fun c9 => absurd rfl c9)
    refine W.widen (k := cc + 7) (n := ss + 910) (by omega) (by omega) ?_
    exact kk z1.1 z2.1 z2.2 _ _ hs hLW hS
/-- sees: class and reference answer alike, and stay alike -/
def OP_sees (n x y : Nat) (Sim : (Nat → Option gE) → (Nat → Option gE) → Nat → Prop) : Prop := ∀ (G1 G2 : Nat → Option gE) (sz : Nat) (v0 v1 : Int32), Sim G1 G2 sz → ∃ (r : Int32) (z1 z2 : gS), fMain_sees n x v0 v1 (G1, sz) = some (r, z1) ∧ fRef_sees n y v0 v1 (G2, z1.2) = some (r, z2) ∧ Sim z1.1 z2.1 z2.2
set_option maxHeartbeats 4000000 in
set_option maxRecDepth 100000 in
theorem law_sees {p : Program} {l : Launch} {e : Env} {s : State} {m : MethodId} {below : List Frame} {meth : Method} {c : Code} {D : va_G} {b L : Nat} {xs : Nat → Int32} (C0 : lw_At p s m meth c b L xs) (hK : g_K D vwCl gNN gOO s) {n x y : Nat} {Sim : (Nat → Option gE) → (Nat → Option gE) → Nat → Prop} (hop : OP_sees n x y Sim) {j cc ss : Nat} (hj : 5 * j + 5 ≤ L) (hL : L ≤ 2560) (hcc : cc + 7 ≤ 600000) (hss : ss + 910 ≤ 7302250) {G1 G2 : Nat → Option gE} {sz : Nat} {H : Heap} {locs : List Loc} {ls : Array Slot} (hSim : Sim G1 G2 sz) (hi1 : g_is (G1, sz) x 8 = some ()) (hi2 : g_is (G2, sz) y 9 = some ()) (hLW : lW D s H G1 G2 sz) (hS : va_S (fun q : Nat => s.heap.size ≤ q) s.heap H locs) (hl : lv_has ls 4 [(0, .ref b), (1, .ref x), (2, .ref y), (3, .int (nI (5 * j)))])
    (kk : ∀ (G1 G2 : Nat → Option gE) (sz : Nat) (H : Heap) (locs : List Loc), Sim G1 G2 sz → lW D s H G1 G2 sz → va_S (fun q : Nat => s.heap.size ≤ q) s.heap H locs → W p l e room_1 s m #[Value.ref b] below meth c H locs (cc + 7) (ss + 910) (lw_Z below #[Value.ref b] s) (F0 m 655 ls [])) : W p l e room_1 s m #[Value.ref b] below meth c H locs cc ss (lw_Z below #[Value.ref b] s) (F0 m 332 ls []) := by
  obtain ⟨hx, hb, hr, hml, hown, hts, hX, hbl, hlocks, hgv⟩ := id C0
  have hg : ∀ w ∈ gW, w.before #[Value.ref b] s = true := fun w hw => hts w (List.mem_filter.mp hw).1
  have hbA : ¬ (fun q : Nat => s.heap.size ≤ q) b := Nat.not_le.mpr hbl
  have hin : ∀ k : Nat, k < 5 → vp_in (nI (5 * j) + nI k) L := fun k hk => by rw [nI_add]; exact vp_in_nI (by omega) (by omega)
  refine lv_aload_n hx hb dLaw_law_332 rfl (lv_at hl 1 rfl) ?_
  refine lv_aload_n hx hb dLaw_law_333 rfl (lv_at hl 0 rfl) ?_
  refine lv_iload_n hx hb dLaw_law_334 rfl (lv_at hl 3 rfl) ?_
  refine lv_iconst (v := 1) hx hb dLaw_law_335 (by decide) ?_
  refine lv_iadd hx hb dLaw_law_336 ?_
  refine va_sld hx hb hX hbl hbA hS (hin 1 (by decide)) dLaw_law_337 ?_
  refine lv_aload_n hx hb dLaw_law_338 rfl (lv_at hl 0 rfl) ?_
  refine lv_iload_n hx hb dLaw_law_339 rfl (lv_at hl 3 rfl) ?_
  refine lv_iconst (v := 2) hx hb dLaw_law_340 (by decide) ?_
  refine lv_iadd hx hb dLaw_law_341 ?_
  refine va_sld hx hb hX hbl hbA hS (hin 2 (by decide)) dLaw_law_342 ?_
  obtain ⟨r, z1, z2, e1, e2, hs⟩ := hop G1 G2 sz (xs (nI (5 * j) + 1).toNatClampNeg) (xs (nI (5 * j) + 2).toNatClampNeg) hSim
  refine l_goi (l_rV (G := G1) (sz := sz) (As := [.int (xs (nI (5 * j) + 1).toNatClampNeg), .int (xs (nI (5 * j) + 2).toNatClampNeg)]) (rest := []) ⟨hx, hb, hml, hown, hg⟩ (mMain_sees l D (lA G1 sz) n _ _ x (xs (nI (5 * j) + 1).toNatClampNeg) (xs (nI (5 * j) + 2).toNatClampNeg) r e1) (cwV 2 hg (gi_V kw_336 kw_337 kw_338 kw_1 kw_339) rfl rfl rfl ⟨rfl, hdMain_sees⟩ ⟨Nat.le_of_ble_eq_true rfl, Nat.le_of_ble_eq_true rfl⟩) hK hLW.1 (ci := 8) (T := T_Main) (N := 14) rfl hi1 rfl hl.1 rfl (Nat.le_of_ble_eq_true rfl) dLaw_law_343 ⟨by show _ ≤ 600000; omega, by show _ ≤ 7302250; omega⟩) hS hLW.1 (fun H locs hB hk hS1 => ?_)
  replace hLW := hLW.one hB hk hS.1
  replace hS := hS1
  clear hS1 hB hk
  refine lv_aload_n hx hb dLaw_law_346 rfl (lv_at hl 2 rfl) ?_
  refine lv_aload_n hx hb dLaw_law_347 rfl (lv_at hl 0 rfl) ?_
  refine lv_iload_n hx hb dLaw_law_348 rfl (lv_at hl 3 rfl) ?_
  refine lv_iconst (v := 1) hx hb dLaw_law_349 (by decide) ?_
  refine lv_iadd hx hb dLaw_law_350 ?_
  refine va_sld hx hb hX hbl hbA hS (hin 1 (by decide)) dLaw_law_351 ?_
  refine lv_aload_n hx hb dLaw_law_352 rfl (lv_at hl 0 rfl) ?_
  refine lv_iload_n hx hb dLaw_law_353 rfl (lv_at hl 3 rfl) ?_
  refine lv_iconst (v := 2) hx hb dLaw_law_354 (by decide) ?_
  refine lv_iadd hx hb dLaw_law_355 ?_
  refine va_sld hx hb hX hbl hbA hS (hin 2 (by decide)) dLaw_law_356 ?_
  refine l_goi (l_rV (G := G2) (sz := z1.2) (As := [.int (xs (nI (5 * j) + 1).toNatClampNeg), .int (xs (nI (5 * j) + 2).toNatClampNeg)]) (rest := [.int r]) ⟨hx, hb, hml, hown, hg⟩ (mRef_sees l D (lA G2 z1.2) n _ _ y (xs (nI (5 * j) + 1).toNatClampNeg) (xs (nI (5 * j) + 2).toNatClampNeg) r e2) (cwV 2 hg (gi_V kw_664 kw_665 kw_666 kw_6 kw_667) rfl rfl rfl ⟨rfl, hdRef_sees⟩ ⟨Nat.le_of_ble_eq_true rfl, Nat.le_of_ble_eq_true rfl⟩) hK hLW.2.1 (ci := 9) (T := T_Ref) (N := 36) rfl hi2 rfl hl.1 rfl (Nat.le_of_ble_eq_true rfl) dLaw_law_357 ⟨by show _ ≤ 600000; omega, by show _ ≤ 7302250; omega⟩) hS hLW.2.1 (fun H locs hB hk hS1 => ?_)
  replace hLW := (hLW.swap.one hB hk hS.1).swap
  replace hS := hS1
  clear hS1 hB hk
  refine lv_icmp_eq (tgt := 655) hx hb dLaw_law_360 (by decide) (fun _ => ?_) (fun c9 => absurd rfl c9)
  refine W.widen (k := cc + 7) (n := ss + 910) (by omega) (by omega) ?_
  exact kk z1.1 z2.1 z2.2 _ _ hs hLW hS
/-- read: class and reference answer alike, and stay alike -/
def OP_read (n x y : Nat) (Sim : (Nat → Option gE) → (Nat → Option gE) → Nat → Prop) : Prop := ∀ (G1 G2 : Nat → Option gE) (sz : Nat) (v0 v1 v2 : Int32), Sim G1 G2 sz → ∃ (r : Int32) (z1 z2 : gS), fMain_read n x v0 v1 v2 (G1, sz) = some (r, z1) ∧ fRef_read n y v0 v1 v2 (G2, z1.2) = some (r, z2) ∧ Sim z1.1 z2.1 z2.2
set_option maxHeartbeats 4000000 in
set_option maxRecDepth 100000 in
theorem law_read {p : Program} {l : Launch} {e : Env} {s : State} {m : MethodId} {below : List Frame} {meth : Method} {c : Code} {D : va_G} {b L : Nat} {xs : Nat → Int32} (C0 : lw_At p s m meth c b L xs) (hK : g_K D vwCl gNN gOO s) {n x y : Nat} {Sim : (Nat → Option gE) → (Nat → Option gE) → Nat → Prop} (hop : OP_read n x y Sim) {j cc ss : Nat} (hj : 5 * j + 5 ≤ L) (hL : L ≤ 2560) (hcc : cc + 7 ≤ 600000) (hss : ss + 910 ≤ 7302250) {G1 G2 : Nat → Option gE} {sz : Nat} {H : Heap} {locs : List Loc} {ls : Array Slot} (hSim : Sim G1 G2 sz) (hi1 : g_is (G1, sz) x 8 = some ()) (hi2 : g_is (G2, sz) y 9 = some ()) (hLW : lW D s H G1 G2 sz) (hS : va_S (fun q : Nat => s.heap.size ≤ q) s.heap H locs) (hl : lv_has ls 4 [(0, .ref b), (1, .ref x), (2, .ref y), (3, .int (nI (5 * j)))])
    (kk : ∀ (G1 G2 : Nat → Option gE) (sz : Nat) (H : Heap) (locs : List Loc), Sim G1 G2 sz → lW D s H G1 G2 sz → va_S (fun q : Nat => s.heap.size ≤ q) s.heap H locs → W p l e room_1 s m #[Value.ref b] below meth c H locs (cc + 7) (ss + 910) (lw_Z below #[Value.ref b] s) (F0 m 655 ls [])) : W p l e room_1 s m #[Value.ref b] below meth c H locs cc ss (lw_Z below #[Value.ref b] s) (F0 m 365 ls []) := by
  obtain ⟨hx, hb, hr, hml, hown, hts, hX, hbl, hlocks, hgv⟩ := id C0
  have hg : ∀ w ∈ gW, w.before #[Value.ref b] s = true := fun w hw => hts w (List.mem_filter.mp hw).1
  have hbA : ¬ (fun q : Nat => s.heap.size ≤ q) b := Nat.not_le.mpr hbl
  have hin : ∀ k : Nat, k < 5 → vp_in (nI (5 * j) + nI k) L := fun k hk => by rw [nI_add]; exact vp_in_nI (by omega) (by omega)
  refine lv_aload_n hx hb dLaw_law_365 rfl (lv_at hl 1 rfl) ?_
  refine lv_aload_n hx hb dLaw_law_366 rfl (lv_at hl 0 rfl) ?_
  refine lv_iload_n hx hb dLaw_law_367 rfl (lv_at hl 3 rfl) ?_
  refine lv_iconst (v := 1) hx hb dLaw_law_368 (by decide) ?_
  refine lv_iadd hx hb dLaw_law_369 ?_
  refine va_sld hx hb hX hbl hbA hS (hin 1 (by decide)) dLaw_law_370 ?_
  refine lv_aload_n hx hb dLaw_law_371 rfl (lv_at hl 0 rfl) ?_
  refine lv_iload_n hx hb dLaw_law_372 rfl (lv_at hl 3 rfl) ?_
  refine lv_iconst (v := 2) hx hb dLaw_law_373 (by decide) ?_
  refine lv_iadd hx hb dLaw_law_374 ?_
  refine va_sld hx hb hX hbl hbA hS (hin 2 (by decide)) dLaw_law_375 ?_
  refine lv_aload_n hx hb dLaw_law_376 rfl (lv_at hl 0 rfl) ?_
  refine lv_iload_n hx hb dLaw_law_377 rfl (lv_at hl 3 rfl) ?_
  refine lv_iconst (v := 3) hx hb dLaw_law_378 (by decide) ?_
  refine lv_iadd hx hb dLaw_law_379 ?_
  refine va_sld hx hb hX hbl hbA hS (hin 3 (by decide)) dLaw_law_380 ?_
  obtain ⟨r, z1, z2, e1, e2, hs⟩ := hop G1 G2 sz (xs (nI (5 * j) + 1).toNatClampNeg) (xs (nI (5 * j) + 2).toNatClampNeg) (xs (nI (5 * j) + 3).toNatClampNeg) hSim
  refine l_goi (l_rV (G := G1) (sz := sz) (As := [.int (xs (nI (5 * j) + 1).toNatClampNeg), .int (xs (nI (5 * j) + 2).toNatClampNeg), .int (xs (nI (5 * j) + 3).toNatClampNeg)]) (rest := []) ⟨hx, hb, hml, hown, hg⟩ (mMain_read l D (lA G1 sz) n _ _ x (xs (nI (5 * j) + 1).toNatClampNeg) (xs (nI (5 * j) + 2).toNatClampNeg) (xs (nI (5 * j) + 3).toNatClampNeg) r e1) (cwV 3 hg (gi_V kw_348 kw_349 kw_350 kw_1 kw_351) rfl rfl rfl ⟨rfl, hdMain_read⟩ ⟨Nat.le_of_ble_eq_true rfl, Nat.le_of_ble_eq_true rfl⟩) hK hLW.1 (ci := 8) (T := T_Main) (N := 14) rfl hi1 rfl hl.1 rfl (Nat.le_of_ble_eq_true rfl) dLaw_law_381 ⟨by show _ ≤ 600000; omega, by show _ ≤ 7302250; omega⟩) hS hLW.1 (fun H locs hB hk hS1 => ?_)
  replace hLW := hLW.one hB hk hS.1
  replace hS := hS1
  clear hS1 hB hk
  refine lv_aload_n hx hb dLaw_law_384 rfl (lv_at hl 2 rfl) ?_
  refine lv_aload_n hx hb dLaw_law_385 rfl (lv_at hl 0 rfl) ?_
  refine lv_iload_n hx hb dLaw_law_386 rfl (lv_at hl 3 rfl) ?_
  refine lv_iconst (v := 1) hx hb dLaw_law_387 (by decide) ?_
  refine lv_iadd hx hb dLaw_law_388 ?_
  refine va_sld hx hb hX hbl hbA hS (hin 1 (by decide)) dLaw_law_389 ?_
  refine lv_aload_n hx hb dLaw_law_390 rfl (lv_at hl 0 rfl) ?_
  refine lv_iload_n hx hb dLaw_law_391 rfl (lv_at hl 3 rfl) ?_
  refine lv_iconst (v := 2) hx hb dLaw_law_392 (by decide) ?_
  refine lv_iadd hx hb dLaw_law_393 ?_
  refine va_sld hx hb hX hbl hbA hS (hin 2 (by decide)) dLaw_law_394 ?_
  refine lv_aload_n hx hb dLaw_law_395 rfl (lv_at hl 0 rfl) ?_
  refine lv_iload_n hx hb dLaw_law_396 rfl (lv_at hl 3 rfl) ?_
  refine lv_iconst (v := 3) hx hb dLaw_law_397 (by decide) ?_
  refine lv_iadd hx hb dLaw_law_398 ?_
  refine va_sld hx hb hX hbl hbA hS (hin 3 (by decide)) dLaw_law_399 ?_
  refine l_goi (l_rV (G := G2) (sz := z1.2) (As := [.int (xs (nI (5 * j) + 1).toNatClampNeg), .int (xs (nI (5 * j) + 2).toNatClampNeg), .int (xs (nI (5 * j) + 3).toNatClampNeg)]) (rest := [.int r]) ⟨hx, hb, hml, hown, hg⟩ (mRef_read l D (lA G2 z1.2) n _ _ y (xs (nI (5 * j) + 1).toNatClampNeg) (xs (nI (5 * j) + 2).toNatClampNeg) (xs (nI (5 * j) + 3).toNatClampNeg) r e2) (cwV 3 hg (gi_V kw_676 kw_677 kw_678 kw_6 kw_679) rfl rfl rfl ⟨rfl, hdRef_read⟩ ⟨Nat.le_of_ble_eq_true rfl, Nat.le_of_ble_eq_true rfl⟩) hK hLW.2.1 (ci := 9) (T := T_Ref) (N := 36) rfl hi2 rfl hl.1 rfl (Nat.le_of_ble_eq_true rfl) dLaw_law_400 ⟨by show _ ≤ 600000; omega, by show _ ≤ 7302250; omega⟩) hS hLW.2.1 (fun H locs hB hk hS1 => ?_)
  replace hLW := (hLW.swap.one hB hk hS.1).swap
  replace hS := hS1
  clear hS1 hB hk
  refine lv_icmp_eq (tgt := 655) hx hb dLaw_law_403 (by decide) (fun _ => ?_) (fun c9 => absurd rfl c9)
  refine W.widen (k := cc + 7) (n := ss + 910) (by omega) (by omega) ?_
  exact kk z1.1 z2.1 z2.2 _ _ hs hLW hS
/-- audit: class and reference answer alike, and stay alike -/
def OP_audit (n x y : Nat) (Sim : (Nat → Option gE) → (Nat → Option gE) → Nat → Prop) : Prop := ∀ (G1 G2 : Nat → Option gE) (sz : Nat) (v0 v1 : Int32), Sim G1 G2 sz → ∃ (r : Int32) (z1 z2 : gS), fMain_audit n x v0 v1 (G1, sz) = some (r, z1) ∧ fRef_audit n y v0 v1 (G2, z1.2) = some (r, z2) ∧ Sim z1.1 z2.1 z2.2
set_option maxHeartbeats 4000000 in
set_option maxRecDepth 100000 in
theorem law_audit {p : Program} {l : Launch} {e : Env} {s : State} {m : MethodId} {below : List Frame} {meth : Method} {c : Code} {D : va_G} {b L : Nat} {xs : Nat → Int32} (C0 : lw_At p s m meth c b L xs) (hK : g_K D vwCl gNN gOO s) {n x y : Nat} {Sim : (Nat → Option gE) → (Nat → Option gE) → Nat → Prop} (hop : OP_audit n x y Sim) {j cc ss : Nat} (hj : 5 * j + 5 ≤ L) (hL : L ≤ 2560) (hcc : cc + 7 ≤ 600000) (hss : ss + 910 ≤ 7302250) {G1 G2 : Nat → Option gE} {sz : Nat} {H : Heap} {locs : List Loc} {ls : Array Slot} (hSim : Sim G1 G2 sz) (hi1 : g_is (G1, sz) x 8 = some ()) (hi2 : g_is (G2, sz) y 9 = some ()) (hLW : lW D s H G1 G2 sz) (hS : va_S (fun q : Nat => s.heap.size ≤ q) s.heap H locs) (hl : lv_has ls 4 [(0, .ref b), (1, .ref x), (2, .ref y), (3, .int (nI (5 * j)))])
    (kk : ∀ (G1 G2 : Nat → Option gE) (sz : Nat) (H : Heap) (locs : List Loc), Sim G1 G2 sz → lW D s H G1 G2 sz → va_S (fun q : Nat => s.heap.size ≤ q) s.heap H locs → W p l e room_1 s m #[Value.ref b] below meth c H locs (cc + 7) (ss + 910) (lw_Z below #[Value.ref b] s) (F0 m 655 ls [])) : W p l e room_1 s m #[Value.ref b] below meth c H locs cc ss (lw_Z below #[Value.ref b] s) (F0 m 408 ls []) := by
  obtain ⟨hx, hb, hr, hml, hown, hts, hX, hbl, hlocks, hgv⟩ := id C0
  have hg : ∀ w ∈ gW, w.before #[Value.ref b] s = true := fun w hw => hts w (List.mem_filter.mp hw).1
  have hbA : ¬ (fun q : Nat => s.heap.size ≤ q) b := Nat.not_le.mpr hbl
  have hin : ∀ k : Nat, k < 5 → vp_in (nI (5 * j) + nI k) L := fun k hk => by rw [nI_add]; exact vp_in_nI (by omega) (by omega)
  refine lv_aload_n hx hb dLaw_law_408 rfl (lv_at hl 1 rfl) ?_
  refine lv_aload_n hx hb dLaw_law_409 rfl (lv_at hl 0 rfl) ?_
  refine lv_iload_n hx hb dLaw_law_410 rfl (lv_at hl 3 rfl) ?_
  refine lv_iconst (v := 1) hx hb dLaw_law_411 (by decide) ?_
  refine lv_iadd hx hb dLaw_law_412 ?_
  refine va_sld hx hb hX hbl hbA hS (hin 1 (by decide)) dLaw_law_413 ?_
  refine lv_aload_n hx hb dLaw_law_414 rfl (lv_at hl 0 rfl) ?_
  refine lv_iload_n hx hb dLaw_law_415 rfl (lv_at hl 3 rfl) ?_
  refine lv_iconst (v := 2) hx hb dLaw_law_416 (by decide) ?_
  refine lv_iadd hx hb dLaw_law_417 ?_
  refine va_sld hx hb hX hbl hbA hS (hin 2 (by decide)) dLaw_law_418 ?_
  obtain ⟨r, z1, z2, e1, e2, hs⟩ := hop G1 G2 sz (xs (nI (5 * j) + 1).toNatClampNeg) (xs (nI (5 * j) + 2).toNatClampNeg) hSim
  refine l_goi (l_rV (G := G1) (sz := sz) (As := [.int (xs (nI (5 * j) + 1).toNatClampNeg), .int (xs (nI (5 * j) + 2).toNatClampNeg)]) (rest := []) ⟨hx, hb, hml, hown, hg⟩ (mMain_audit l D (lA G1 sz) n _ _ x (xs (nI (5 * j) + 1).toNatClampNeg) (xs (nI (5 * j) + 2).toNatClampNeg) r e1) (cwV 2 hg (gi_V kw_365 kw_366 kw_367 kw_1 kw_368) rfl rfl rfl ⟨rfl, hdMain_audit⟩ ⟨Nat.le_of_ble_eq_true rfl, Nat.le_of_ble_eq_true rfl⟩) hK hLW.1 (ci := 8) (T := T_Main) (N := 14) rfl hi1 rfl hl.1 rfl (Nat.le_of_ble_eq_true rfl) dLaw_law_419 ⟨by show _ ≤ 600000; omega, by show _ ≤ 7302250; omega⟩) hS hLW.1 (fun H locs hB hk hS1 => ?_)
  replace hLW := hLW.one hB hk hS.1
  replace hS := hS1
  clear hS1 hB hk
  refine lv_aload_n hx hb dLaw_law_422 rfl (lv_at hl 2 rfl) ?_
  refine lv_aload_n hx hb dLaw_law_423 rfl (lv_at hl 0 rfl) ?_
  refine lv_iload_n hx hb dLaw_law_424 rfl (lv_at hl 3 rfl) ?_
  refine lv_iconst (v := 1) hx hb dLaw_law_425 (by decide) ?_
  refine lv_iadd hx hb dLaw_law_426 ?_
  refine va_sld hx hb hX hbl hbA hS (hin 1 (by decide)) dLaw_law_427 ?_
  refine lv_aload_n hx hb dLaw_law_428 rfl (lv_at hl 0 rfl) ?_
  refine lv_iload_n hx hb dLaw_law_429 rfl (lv_at hl 3 rfl) ?_
  refine lv_iconst (v := 2) hx hb dLaw_law_430 (by decide) ?_
  refine lv_iadd hx hb dLaw_law_431 ?_
  refine va_sld hx hb hX hbl hbA hS (hin 2 (by decide)) dLaw_law_432 ?_
  refine l_goi (l_rV (G := G2) (sz := z1.2) (As := [.int (xs (nI (5 * j) + 1).toNatClampNeg), .int (xs (nI (5 * j) + 2).toNatClampNeg)]) (rest := [.int r]) ⟨hx, hb, hml, hown, hg⟩ (mRef_audit l D (lA G2 z1.2) n _ _ y (xs (nI (5 * j) + 1).toNatClampNeg) (xs (nI (5 * j) + 2).toNatClampNeg) r e2) (cwV 2 hg (gi_V kw_680 kw_681 kw_682 kw_6 kw_683) rfl rfl rfl ⟨rfl, hdRef_audit⟩ ⟨Nat.le_of_ble_eq_true rfl, Nat.le_of_ble_eq_true rfl⟩) hK hLW.2.1 (ci := 9) (T := T_Ref) (N := 36) rfl hi2 rfl hl.1 rfl (Nat.le_of_ble_eq_true rfl) dLaw_law_433 ⟨by show _ ≤ 600000; omega, by show _ ≤ 7302250; omega⟩) hS hLW.2.1 (fun H locs hB hk hS1 => ?_)
  replace hLW := (hLW.swap.one hB hk hS.1).swap
  replace hS := hS1
  clear hS1 hB hk
  refine lv_icmp_eq (tgt := 655) hx hb dLaw_law_436 (by decide) (fun _ => ?_) (fun c9 => absurd rfl c9)
  refine W.widen (k := cc + 7) (n := ss + 910) (by omega) (by omega) ?_
  exact kk z1.1 z2.1 z2.2 _ _ hs hLW hS
/-- log: class and reference answer alike, and stay alike -/
def OP_log (n x y : Nat) (Sim : (Nat → Option gE) → (Nat → Option gE) → Nat → Prop) : Prop := ∀ (G1 G2 : Nat → Option gE) (sz : Nat) (v0 : Int32), Sim G1 G2 sz → ∃ (r : Int32) (z1 z2 : gS), fMain_log n x v0 (G1, sz) = some (r, z1) ∧ fRef_log n y v0 (G2, z1.2) = some (r, z2) ∧ Sim z1.1 z2.1 z2.2
set_option maxHeartbeats 4000000 in
set_option maxRecDepth 100000 in
theorem law_log {p : Program} {l : Launch} {e : Env} {s : State} {m : MethodId} {below : List Frame} {meth : Method} {c : Code} {D : va_G} {b L : Nat} {xs : Nat → Int32} (C0 : lw_At p s m meth c b L xs) (hK : g_K D vwCl gNN gOO s) {n x y : Nat} {Sim : (Nat → Option gE) → (Nat → Option gE) → Nat → Prop} (hop : OP_log n x y Sim) {j cc ss : Nat} (hj : 5 * j + 5 ≤ L) (hL : L ≤ 2560) (hcc : cc + 7 ≤ 600000) (hss : ss + 910 ≤ 7302250) {G1 G2 : Nat → Option gE} {sz : Nat} {H : Heap} {locs : List Loc} {ls : Array Slot} (hSim : Sim G1 G2 sz) (hi1 : g_is (G1, sz) x 8 = some ()) (hi2 : g_is (G2, sz) y 9 = some ()) (hLW : lW D s H G1 G2 sz) (hS : va_S (fun q : Nat => s.heap.size ≤ q) s.heap H locs) (hl : lv_has ls 4 [(0, .ref b), (1, .ref x), (2, .ref y), (3, .int (nI (5 * j)))])
    (kk : ∀ (G1 G2 : Nat → Option gE) (sz : Nat) (H : Heap) (locs : List Loc), Sim G1 G2 sz → lW D s H G1 G2 sz → va_S (fun q : Nat => s.heap.size ≤ q) s.heap H locs → W p l e room_1 s m #[Value.ref b] below meth c H locs (cc + 7) (ss + 910) (lw_Z below #[Value.ref b] s) (F0 m 655 ls [])) : W p l e room_1 s m #[Value.ref b] below meth c H locs cc ss (lw_Z below #[Value.ref b] s) (F0 m 441 ls []) := by
  obtain ⟨hx, hb, hr, hml, hown, hts, hX, hbl, hlocks, hgv⟩ := id C0
  have hg : ∀ w ∈ gW, w.before #[Value.ref b] s = true := fun w hw => hts w (List.mem_filter.mp hw).1
  have hbA : ¬ (fun q : Nat => s.heap.size ≤ q) b := Nat.not_le.mpr hbl
  have hin : ∀ k : Nat, k < 5 → vp_in (nI (5 * j) + nI k) L := fun k hk => by rw [nI_add]; exact vp_in_nI (by omega) (by omega)
  refine lv_aload_n hx hb dLaw_law_441 rfl (lv_at hl 1 rfl) ?_
  refine lv_aload_n hx hb dLaw_law_442 rfl (lv_at hl 0 rfl) ?_
  refine lv_iload_n hx hb dLaw_law_443 rfl (lv_at hl 3 rfl) ?_
  refine lv_iconst (v := 1) hx hb dLaw_law_444 (by decide) ?_
  refine lv_iadd hx hb dLaw_law_445 ?_
  refine va_sld hx hb hX hbl hbA hS (hin 1 (by decide)) dLaw_law_446 ?_
  obtain ⟨r, z1, z2, e1, e2, hs⟩ := hop G1 G2 sz (xs (nI (5 * j) + 1).toNatClampNeg) hSim
  refine l_goi (l_rV (G := G1) (sz := sz) (As := [.int (xs (nI (5 * j) + 1).toNatClampNeg)]) (rest := []) ⟨hx, hb, hml, hown, hg⟩ (mMain_log l D (lA G1 sz) n _ _ x (xs (nI (5 * j) + 1).toNatClampNeg) r e1) (cwV 1 hg (gi_V kw_373 kw_374 kw_375 kw_1 kw_376) rfl rfl rfl ⟨rfl, hdMain_log⟩ ⟨Nat.le_of_ble_eq_true rfl, Nat.le_of_ble_eq_true rfl⟩) hK hLW.1 (ci := 8) (T := T_Main) (N := 14) rfl hi1 rfl hl.1 rfl (Nat.le_of_ble_eq_true rfl) dLaw_law_447 ⟨by show _ ≤ 600000; omega, by show _ ≤ 7302250; omega⟩) hS hLW.1 (fun H locs hB hk hS1 => ?_)
  replace hLW := hLW.one hB hk hS.1
  replace hS := hS1
  clear hS1 hB hk
  refine lv_aload_n hx hb dLaw_law_450 rfl (lv_at hl 2 rfl) ?_
  refine lv_aload_n hx hb dLaw_law_451 rfl (lv_at hl 0 rfl) ?_
  refine lv_iload_n hx hb dLaw_law_452 rfl (lv_at hl 3 rfl) ?_
  refine lv_iconst (v := 1) hx hb dLaw_law_453 (by decide) ?_
  refine lv_iadd hx hb dLaw_law_454 ?_
  refine va_sld hx hb hX hbl hbA hS (hin 1 (by decide)) dLaw_law_455 ?_
  refine l_goi (l_rV (G := G2) (sz := z1.2) (As := [.int (xs (nI (5 * j) + 1).toNatClampNeg)]) (rest := [.int r]) ⟨hx, hb, hml, hown, hg⟩ (mRef_log l D (lA G2 z1.2) n _ _ y (xs (nI (5 * j) + 1).toNatClampNeg) r e2) (cwV 1 hg (gi_V kw_684 kw_685 kw_686 kw_6 kw_687) rfl rfl rfl ⟨rfl, hdRef_log⟩ ⟨Nat.le_of_ble_eq_true rfl, Nat.le_of_ble_eq_true rfl⟩) hK hLW.2.1 (ci := 9) (T := T_Ref) (N := 36) rfl hi2 rfl hl.1 rfl (Nat.le_of_ble_eq_true rfl) dLaw_law_456 ⟨by show _ ≤ 600000; omega, by show _ ≤ 7302250; omega⟩) hS hLW.2.1 (fun H locs hB hk hS1 => ?_)
  replace hLW := (hLW.swap.one hB hk hS.1).swap
  replace hS := hS1
  clear hS1 hB hk
  refine lv_icmp_eq (tgt := 655) hx hb dLaw_law_459 (by decide) (fun _ => ?_) (fun c9 => absurd rfl c9)
  refine W.widen (k := cc + 7) (n := ss + 910) (by omega) (by omega) ?_
  exact kk z1.1 z2.1 z2.2 _ _ hs hLW hS
/-- close: class and reference answer alike, and stay alike -/
def OP_close (n x y : Nat) (Sim : (Nat → Option gE) → (Nat → Option gE) → Nat → Prop) : Prop := ∀ (G1 G2 : Nat → Option gE) (sz : Nat) (v0 : Int32), Sim G1 G2 sz → ∃ (r : Int32) (z1 z2 : gS), fMain_close n x v0 (G1, sz) = some (r, z1) ∧ fRef_close n y v0 (G2, z1.2) = some (r, z2) ∧ Sim z1.1 z2.1 z2.2
set_option maxHeartbeats 4000000 in
set_option maxRecDepth 100000 in
theorem law_close {p : Program} {l : Launch} {e : Env} {s : State} {m : MethodId} {below : List Frame} {meth : Method} {c : Code} {D : va_G} {b L : Nat} {xs : Nat → Int32} (C0 : lw_At p s m meth c b L xs) (hK : g_K D vwCl gNN gOO s) {n x y : Nat} {Sim : (Nat → Option gE) → (Nat → Option gE) → Nat → Prop} (hop : OP_close n x y Sim) {j cc ss : Nat} (hj : 5 * j + 5 ≤ L) (hL : L ≤ 2560) (hcc : cc + 7 ≤ 600000) (hss : ss + 910 ≤ 7302250) {G1 G2 : Nat → Option gE} {sz : Nat} {H : Heap} {locs : List Loc} {ls : Array Slot} (hSim : Sim G1 G2 sz) (hi1 : g_is (G1, sz) x 8 = some ()) (hi2 : g_is (G2, sz) y 9 = some ()) (hLW : lW D s H G1 G2 sz) (hS : va_S (fun q : Nat => s.heap.size ≤ q) s.heap H locs) (hl : lv_has ls 4 [(0, .ref b), (1, .ref x), (2, .ref y), (3, .int (nI (5 * j)))])
    (kk : ∀ (G1 G2 : Nat → Option gE) (sz : Nat) (H : Heap) (locs : List Loc), Sim G1 G2 sz → lW D s H G1 G2 sz → va_S (fun q : Nat => s.heap.size ≤ q) s.heap H locs → W p l e room_1 s m #[Value.ref b] below meth c H locs (cc + 7) (ss + 910) (lw_Z below #[Value.ref b] s) (F0 m 655 ls [])) : W p l e room_1 s m #[Value.ref b] below meth c H locs cc ss (lw_Z below #[Value.ref b] s) (F0 m 464 ls []) := by
  obtain ⟨hx, hb, hr, hml, hown, hts, hX, hbl, hlocks, hgv⟩ := id C0
  have hg : ∀ w ∈ gW, w.before #[Value.ref b] s = true := fun w hw => hts w (List.mem_filter.mp hw).1
  have hbA : ¬ (fun q : Nat => s.heap.size ≤ q) b := Nat.not_le.mpr hbl
  have hin : ∀ k : Nat, k < 5 → vp_in (nI (5 * j) + nI k) L := fun k hk => by rw [nI_add]; exact vp_in_nI (by omega) (by omega)
  refine lv_aload_n hx hb dLaw_law_464 rfl (lv_at hl 1 rfl) ?_
  refine lv_aload_n hx hb dLaw_law_465 rfl (lv_at hl 0 rfl) ?_
  refine lv_iload_n hx hb dLaw_law_466 rfl (lv_at hl 3 rfl) ?_
  refine lv_iconst (v := 1) hx hb dLaw_law_467 (by decide) ?_
  refine lv_iadd hx hb dLaw_law_468 ?_
  refine va_sld hx hb hX hbl hbA hS (hin 1 (by decide)) dLaw_law_469 ?_
  obtain ⟨r, z1, z2, e1, e2, hs⟩ := hop G1 G2 sz (xs (nI (5 * j) + 1).toNatClampNeg) hSim
  refine l_goi (l_rV (G := G1) (sz := sz) (As := [.int (xs (nI (5 * j) + 1).toNatClampNeg)]) (rest := []) ⟨hx, hb, hml, hown, hg⟩ (mMain_close l D (lA G1 sz) n _ _ x (xs (nI (5 * j) + 1).toNatClampNeg) r e1) (cwV 1 hg (gi_V kw_439 kw_440 kw_441 kw_1 kw_442) rfl rfl rfl ⟨rfl, hdMain_close⟩ ⟨Nat.le_of_ble_eq_true rfl, Nat.le_of_ble_eq_true rfl⟩) hK hLW.1 (ci := 8) (T := T_Main) (N := 14) rfl hi1 rfl hl.1 rfl (Nat.le_of_ble_eq_true rfl) dLaw_law_470 ⟨by show _ ≤ 600000; omega, by show _ ≤ 7302250; omega⟩) hS hLW.1 (fun H locs hB hk hS1 => ?_)
  replace hLW := hLW.one hB hk hS.1
  replace hS := hS1
  clear hS1 hB hk
  refine lv_aload_n hx hb dLaw_law_473 rfl (lv_at hl 2 rfl) ?_
  refine lv_aload_n hx hb dLaw_law_474 rfl (lv_at hl 0 rfl) ?_
  refine lv_iload_n hx hb dLaw_law_475 rfl (lv_at hl 3 rfl) ?_
  refine lv_iconst (v := 1) hx hb dLaw_law_476 (by decide) ?_
  refine lv_iadd hx hb dLaw_law_477 ?_
  refine va_sld hx hb hX hbl hbA hS (hin 1 (by decide)) dLaw_law_478 ?_
  refine l_goi (l_rV (G := G2) (sz := z1.2) (As := [.int (xs (nI (5 * j) + 1).toNatClampNeg)]) (rest := [.int r]) ⟨hx, hb, hml, hown, hg⟩ (mRef_close l D (lA G2 z1.2) n _ _ y (xs (nI (5 * j) + 1).toNatClampNeg) r e2) (cwV 1 hg (gi_V kw_715 kw_716 kw_717 kw_6 kw_718) rfl rfl rfl ⟨rfl, hdRef_close⟩ ⟨Nat.le_of_ble_eq_true rfl, Nat.le_of_ble_eq_true rfl⟩) hK hLW.2.1 (ci := 9) (T := T_Ref) (N := 36) rfl hi2 rfl hl.1 rfl (Nat.le_of_ble_eq_true rfl) dLaw_law_479 ⟨by show _ ≤ 600000; omega, by show _ ≤ 7302250; omega⟩) hS hLW.2.1 (fun H locs hB hk hS1 => ?_)
  replace hLW := (hLW.swap.one hB hk hS.1).swap
  replace hS := hS1
  clear hS1 hB hk
  refine lv_icmp_eq (tgt := 655) hx hb dLaw_law_482 (by decide) (fun _ => ?_) (fun c9 => absurd rfl c9)
  refine W.widen (k := cc + 7) (n := ss + 910) (by omega) (by omega) ?_
  exact kk z1.1 z2.1 z2.2 _ _ hs hLW hS
/-- told: class and reference answer alike, and stay alike -/
def OP_told (n x y : Nat) (Sim : (Nat → Option gE) → (Nat → Option gE) → Nat → Prop) : Prop := ∀ (G1 G2 : Nat → Option gE) (sz : Nat) (v0 v1 : Int32), Sim G1 G2 sz → ∃ (r : Int32) (z1 z2 : gS), fMain_told n x v0 v1 (G1, sz) = some (r, z1) ∧ fRef_told n y v0 v1 (G2, z1.2) = some (r, z2) ∧ Sim z1.1 z2.1 z2.2
set_option maxHeartbeats 4000000 in
set_option maxRecDepth 100000 in
theorem law_told {p : Program} {l : Launch} {e : Env} {s : State} {m : MethodId} {below : List Frame} {meth : Method} {c : Code} {D : va_G} {b L : Nat} {xs : Nat → Int32} (C0 : lw_At p s m meth c b L xs) (hK : g_K D vwCl gNN gOO s) {n x y : Nat} {Sim : (Nat → Option gE) → (Nat → Option gE) → Nat → Prop} (hop : OP_told n x y Sim) {j cc ss : Nat} (hj : 5 * j + 5 ≤ L) (hL : L ≤ 2560) (hcc : cc + 7 ≤ 600000) (hss : ss + 910 ≤ 7302250) {G1 G2 : Nat → Option gE} {sz : Nat} {H : Heap} {locs : List Loc} {ls : Array Slot} (hSim : Sim G1 G2 sz) (hi1 : g_is (G1, sz) x 8 = some ()) (hi2 : g_is (G2, sz) y 9 = some ()) (hLW : lW D s H G1 G2 sz) (hS : va_S (fun q : Nat => s.heap.size ≤ q) s.heap H locs) (hl : lv_has ls 4 [(0, .ref b), (1, .ref x), (2, .ref y), (3, .int (nI (5 * j)))])
    (kk : ∀ (G1 G2 : Nat → Option gE) (sz : Nat) (H : Heap) (locs : List Loc), Sim G1 G2 sz → lW D s H G1 G2 sz → va_S (fun q : Nat => s.heap.size ≤ q) s.heap H locs → W p l e room_1 s m #[Value.ref b] below meth c H locs (cc + 7) (ss + 910) (lw_Z below #[Value.ref b] s) (F0 m 655 ls [])) : W p l e room_1 s m #[Value.ref b] below meth c H locs cc ss (lw_Z below #[Value.ref b] s) (F0 m 487 ls []) := by
  obtain ⟨hx, hb, hr, hml, hown, hts, hX, hbl, hlocks, hgv⟩ := id C0
  have hg : ∀ w ∈ gW, w.before #[Value.ref b] s = true := fun w hw => hts w (List.mem_filter.mp hw).1
  have hbA : ¬ (fun q : Nat => s.heap.size ≤ q) b := Nat.not_le.mpr hbl
  have hin : ∀ k : Nat, k < 5 → vp_in (nI (5 * j) + nI k) L := fun k hk => by rw [nI_add]; exact vp_in_nI (by omega) (by omega)
  refine lv_aload_n hx hb dLaw_law_487 rfl (lv_at hl 1 rfl) ?_
  refine lv_aload_n hx hb dLaw_law_488 rfl (lv_at hl 0 rfl) ?_
  refine lv_iload_n hx hb dLaw_law_489 rfl (lv_at hl 3 rfl) ?_
  refine lv_iconst (v := 1) hx hb dLaw_law_490 (by decide) ?_
  refine lv_iadd hx hb dLaw_law_491 ?_
  refine va_sld hx hb hX hbl hbA hS (hin 1 (by decide)) dLaw_law_492 ?_
  refine lv_aload_n hx hb dLaw_law_493 rfl (lv_at hl 0 rfl) ?_
  refine lv_iload_n hx hb dLaw_law_494 rfl (lv_at hl 3 rfl) ?_
  refine lv_iconst (v := 2) hx hb dLaw_law_495 (by decide) ?_
  refine lv_iadd hx hb dLaw_law_496 ?_
  refine va_sld hx hb hX hbl hbA hS (hin 2 (by decide)) dLaw_law_497 ?_
  obtain ⟨r, z1, z2, e1, e2, hs⟩ := hop G1 G2 sz (xs (nI (5 * j) + 1).toNatClampNeg) (xs (nI (5 * j) + 2).toNatClampNeg) hSim
  refine l_goi (l_rV (G := G1) (sz := sz) (As := [.int (xs (nI (5 * j) + 1).toNatClampNeg), .int (xs (nI (5 * j) + 2).toNatClampNeg)]) (rest := []) ⟨hx, hb, hml, hown, hg⟩ (mMain_told l D (lA G1 sz) n _ _ x (xs (nI (5 * j) + 1).toNatClampNeg) (xs (nI (5 * j) + 2).toNatClampNeg) r e1) (cwV 2 hg (gi_V kw_447 kw_448 kw_449 kw_1 kw_450) rfl rfl rfl ⟨rfl, hdMain_told⟩ ⟨Nat.le_of_ble_eq_true rfl, Nat.le_of_ble_eq_true rfl⟩) hK hLW.1 (ci := 8) (T := T_Main) (N := 14) rfl hi1 rfl hl.1 rfl (Nat.le_of_ble_eq_true rfl) dLaw_law_498 ⟨by show _ ≤ 600000; omega, by show _ ≤ 7302250; omega⟩) hS hLW.1 (fun H locs hB hk hS1 => ?_)
  replace hLW := hLW.one hB hk hS.1
  replace hS := hS1
  clear hS1 hB hk
  refine lv_aload_n hx hb dLaw_law_501 rfl (lv_at hl 2 rfl) ?_
  refine lv_aload_n hx hb dLaw_law_502 rfl (lv_at hl 0 rfl) ?_
  refine lv_iload_n hx hb dLaw_law_503 rfl (lv_at hl 3 rfl) ?_
  refine lv_iconst (v := 1) hx hb dLaw_law_504 (by decide) ?_
  refine lv_iadd hx hb dLaw_law_505 ?_
  refine va_sld hx hb hX hbl hbA hS (hin 1 (by decide)) dLaw_law_506 ?_
  refine lv_aload_n hx hb dLaw_law_507 rfl (lv_at hl 0 rfl) ?_
  refine lv_iload_n hx hb dLaw_law_508 rfl (lv_at hl 3 rfl) ?_
  refine lv_iconst (v := 2) hx hb dLaw_law_509 (by decide) ?_
  refine lv_iadd hx hb dLaw_law_510 ?_
  refine va_sld hx hb hX hbl hbA hS (hin 2 (by decide)) dLaw_law_511 ?_
  refine l_goi (l_rV (G := G2) (sz := z1.2) (As := [.int (xs (nI (5 * j) + 1).toNatClampNeg), .int (xs (nI (5 * j) + 2).toNatClampNeg)]) (rest := [.int r]) ⟨hx, hb, hml, hown, hg⟩ (mRef_told l D (lA G2 z1.2) n _ _ y (xs (nI (5 * j) + 1).toNatClampNeg) (xs (nI (5 * j) + 2).toNatClampNeg) r e2) (cwV 2 hg (gi_V kw_719 kw_720 kw_721 kw_6 kw_722) rfl rfl rfl ⟨rfl, hdRef_told⟩ ⟨Nat.le_of_ble_eq_true rfl, Nat.le_of_ble_eq_true rfl⟩) hK hLW.2.1 (ci := 9) (T := T_Ref) (N := 36) rfl hi2 rfl hl.1 rfl (Nat.le_of_ble_eq_true rfl) dLaw_law_512 ⟨by show _ ≤ 600000; omega, by show _ ≤ 7302250; omega⟩) hS hLW.2.1 (fun H locs hB hk hS1 => ?_)
  replace hLW := (hLW.swap.one hB hk hS.1).swap
  replace hS := hS1
  clear hS1 hB hk
  refine lv_icmp_eq (tgt := 655) hx hb dLaw_law_515 (by decide) (fun _ => ?_) (fun c9 => absurd rfl c9)
  refine W.widen (k := cc + 7) (n := ss + 910) (by omega) (by omega) ?_
  exact kk z1.1 z2.1 z2.2 _ _ hs hLW hS
/-- about: class and reference answer alike, and stay alike -/
def OP_about (n x y : Nat) (Sim : (Nat → Option gE) → (Nat → Option gE) → Nat → Prop) : Prop := ∀ (G1 G2 : Nat → Option gE) (sz : Nat) (v0 v1 : Int32), Sim G1 G2 sz → ∃ (r : Int32) (z1 z2 : gS), fMain_about n x v0 v1 (G1, sz) = some (r, z1) ∧ fRef_about n y v0 v1 (G2, z1.2) = some (r, z2) ∧ Sim z1.1 z2.1 z2.2
set_option maxHeartbeats 4000000 in
set_option maxRecDepth 100000 in
theorem law_about {p : Program} {l : Launch} {e : Env} {s : State} {m : MethodId} {below : List Frame} {meth : Method} {c : Code} {D : va_G} {b L : Nat} {xs : Nat → Int32} (C0 : lw_At p s m meth c b L xs) (hK : g_K D vwCl gNN gOO s) {n x y : Nat} {Sim : (Nat → Option gE) → (Nat → Option gE) → Nat → Prop} (hop : OP_about n x y Sim) {j cc ss : Nat} (hj : 5 * j + 5 ≤ L) (hL : L ≤ 2560) (hcc : cc + 7 ≤ 600000) (hss : ss + 910 ≤ 7302250) {G1 G2 : Nat → Option gE} {sz : Nat} {H : Heap} {locs : List Loc} {ls : Array Slot} (hSim : Sim G1 G2 sz) (hi1 : g_is (G1, sz) x 8 = some ()) (hi2 : g_is (G2, sz) y 9 = some ()) (hLW : lW D s H G1 G2 sz) (hS : va_S (fun q : Nat => s.heap.size ≤ q) s.heap H locs) (hl : lv_has ls 4 [(0, .ref b), (1, .ref x), (2, .ref y), (3, .int (nI (5 * j)))])
    (kk : ∀ (G1 G2 : Nat → Option gE) (sz : Nat) (H : Heap) (locs : List Loc), Sim G1 G2 sz → lW D s H G1 G2 sz → va_S (fun q : Nat => s.heap.size ≤ q) s.heap H locs → W p l e room_1 s m #[Value.ref b] below meth c H locs (cc + 7) (ss + 910) (lw_Z below #[Value.ref b] s) (F0 m 655 ls [])) : W p l e room_1 s m #[Value.ref b] below meth c H locs cc ss (lw_Z below #[Value.ref b] s) (F0 m 520 ls []) := by
  obtain ⟨hx, hb, hr, hml, hown, hts, hX, hbl, hlocks, hgv⟩ := id C0
  have hg : ∀ w ∈ gW, w.before #[Value.ref b] s = true := fun w hw => hts w (List.mem_filter.mp hw).1
  have hbA : ¬ (fun q : Nat => s.heap.size ≤ q) b := Nat.not_le.mpr hbl
  have hin : ∀ k : Nat, k < 5 → vp_in (nI (5 * j) + nI k) L := fun k hk => by rw [nI_add]; exact vp_in_nI (by omega) (by omega)
  refine lv_aload_n hx hb dLaw_law_520 rfl (lv_at hl 1 rfl) ?_
  refine lv_aload_n hx hb dLaw_law_521 rfl (lv_at hl 0 rfl) ?_
  refine lv_iload_n hx hb dLaw_law_522 rfl (lv_at hl 3 rfl) ?_
  refine lv_iconst (v := 1) hx hb dLaw_law_523 (by decide) ?_
  refine lv_iadd hx hb dLaw_law_524 ?_
  refine va_sld hx hb hX hbl hbA hS (hin 1 (by decide)) dLaw_law_525 ?_
  refine lv_aload_n hx hb dLaw_law_526 rfl (lv_at hl 0 rfl) ?_
  refine lv_iload_n hx hb dLaw_law_527 rfl (lv_at hl 3 rfl) ?_
  refine lv_iconst (v := 2) hx hb dLaw_law_528 (by decide) ?_
  refine lv_iadd hx hb dLaw_law_529 ?_
  refine va_sld hx hb hX hbl hbA hS (hin 2 (by decide)) dLaw_law_530 ?_
  obtain ⟨r, z1, z2, e1, e2, hs⟩ := hop G1 G2 sz (xs (nI (5 * j) + 1).toNatClampNeg) (xs (nI (5 * j) + 2).toNatClampNeg) hSim
  refine l_goi (l_rV (G := G1) (sz := sz) (As := [.int (xs (nI (5 * j) + 1).toNatClampNeg), .int (xs (nI (5 * j) + 2).toNatClampNeg)]) (rest := []) ⟨hx, hb, hml, hown, hg⟩ (mMain_about l D (lA G1 sz) n _ _ x (xs (nI (5 * j) + 1).toNatClampNeg) (xs (nI (5 * j) + 2).toNatClampNeg) r e1) (cwV 2 hg (gi_V kw_451 kw_452 kw_453 kw_1 kw_454) rfl rfl rfl ⟨rfl, hdMain_about⟩ ⟨Nat.le_of_ble_eq_true rfl, Nat.le_of_ble_eq_true rfl⟩) hK hLW.1 (ci := 8) (T := T_Main) (N := 14) rfl hi1 rfl hl.1 rfl (Nat.le_of_ble_eq_true rfl) dLaw_law_531 ⟨by show _ ≤ 600000; omega, by show _ ≤ 7302250; omega⟩) hS hLW.1 (fun H locs hB hk hS1 => ?_)
  replace hLW := hLW.one hB hk hS.1
  replace hS := hS1
  clear hS1 hB hk
  refine lv_aload_n hx hb dLaw_law_534 rfl (lv_at hl 2 rfl) ?_
  refine lv_aload_n hx hb dLaw_law_535 rfl (lv_at hl 0 rfl) ?_
  refine lv_iload_n hx hb dLaw_law_536 rfl (lv_at hl 3 rfl) ?_
  refine lv_iconst (v := 1) hx hb dLaw_law_537 (by decide) ?_
  refine lv_iadd hx hb dLaw_law_538 ?_
  refine va_sld hx hb hX hbl hbA hS (hin 1 (by decide)) dLaw_law_539 ?_
  refine lv_aload_n hx hb dLaw_law_540 rfl (lv_at hl 0 rfl) ?_
  refine lv_iload_n hx hb dLaw_law_541 rfl (lv_at hl 3 rfl) ?_
  refine lv_iconst (v := 2) hx hb dLaw_law_542 (by decide) ?_
  refine lv_iadd hx hb dLaw_law_543 ?_
  refine va_sld hx hb hX hbl hbA hS (hin 2 (by decide)) dLaw_law_544 ?_
  refine l_goi (l_rV (G := G2) (sz := z1.2) (As := [.int (xs (nI (5 * j) + 1).toNatClampNeg), .int (xs (nI (5 * j) + 2).toNatClampNeg)]) (rest := [.int r]) ⟨hx, hb, hml, hown, hg⟩ (mRef_about l D (lA G2 z1.2) n _ _ y (xs (nI (5 * j) + 1).toNatClampNeg) (xs (nI (5 * j) + 2).toNatClampNeg) r e2) (cwV 2 hg (gi_V kw_723 kw_724 kw_725 kw_6 kw_726) rfl rfl rfl ⟨rfl, hdRef_about⟩ ⟨Nat.le_of_ble_eq_true rfl, Nat.le_of_ble_eq_true rfl⟩) hK hLW.2.1 (ci := 9) (T := T_Ref) (N := 36) rfl hi2 rfl hl.1 rfl (Nat.le_of_ble_eq_true rfl) dLaw_law_545 ⟨by show _ ≤ 600000; omega, by show _ ≤ 7302250; omega⟩) hS hLW.2.1 (fun H locs hB hk hS1 => ?_)
  replace hLW := (hLW.swap.one hB hk hS.1).swap
  replace hS := hS1
  clear hS1 hB hk
  refine lv_icmp_eq (tgt := 655) hx hb dLaw_law_548 (by decide) (fun _ => ?_) (fun c9 => absurd rfl c9)
  refine W.widen (k := cc + 7) (n := ss + 910) (by omega) (by omega) ?_
  exact kk z1.1 z2.1 z2.2 _ _ hs hLW hS
/-- token: class and reference answer alike, and stay alike -/
def OP_token (n x y : Nat) (Sim : (Nat → Option gE) → (Nat → Option gE) → Nat → Prop) : Prop := ∀ (G1 G2 : Nat → Option gE) (sz : Nat) (v0 v1 v2 : Int32), Sim G1 G2 sz → ∃ (r : Int32) (z1 z2 : gS), fMain_token n x v0 v1 v2 (G1, sz) = some (r, z1) ∧ fRef_token n y v0 v1 v2 (G2, z1.2) = some (r, z2) ∧ Sim z1.1 z2.1 z2.2
set_option maxHeartbeats 4000000 in
set_option maxRecDepth 100000 in
theorem law_token {p : Program} {l : Launch} {e : Env} {s : State} {m : MethodId} {below : List Frame} {meth : Method} {c : Code} {D : va_G} {b L : Nat} {xs : Nat → Int32} (C0 : lw_At p s m meth c b L xs) (hK : g_K D vwCl gNN gOO s) {n x y : Nat} {Sim : (Nat → Option gE) → (Nat → Option gE) → Nat → Prop} (hop : OP_token n x y Sim) {j cc ss : Nat} (hj : 5 * j + 5 ≤ L) (hL : L ≤ 2560) (hcc : cc + 7 ≤ 600000) (hss : ss + 910 ≤ 7302250) {G1 G2 : Nat → Option gE} {sz : Nat} {H : Heap} {locs : List Loc} {ls : Array Slot} (hSim : Sim G1 G2 sz) (hi1 : g_is (G1, sz) x 8 = some ()) (hi2 : g_is (G2, sz) y 9 = some ()) (hLW : lW D s H G1 G2 sz) (hS : va_S (fun q : Nat => s.heap.size ≤ q) s.heap H locs) (hl : lv_has ls 4 [(0, .ref b), (1, .ref x), (2, .ref y), (3, .int (nI (5 * j)))])
    (kk : ∀ (G1 G2 : Nat → Option gE) (sz : Nat) (H : Heap) (locs : List Loc), Sim G1 G2 sz → lW D s H G1 G2 sz → va_S (fun q : Nat => s.heap.size ≤ q) s.heap H locs → W p l e room_1 s m #[Value.ref b] below meth c H locs (cc + 7) (ss + 910) (lw_Z below #[Value.ref b] s) (F0 m 655 ls [])) : W p l e room_1 s m #[Value.ref b] below meth c H locs cc ss (lw_Z below #[Value.ref b] s) (F0 m 553 ls []) := by
  obtain ⟨hx, hb, hr, hml, hown, hts, hX, hbl, hlocks, hgv⟩ := id C0
  have hg : ∀ w ∈ gW, w.before #[Value.ref b] s = true := fun w hw => hts w (List.mem_filter.mp hw).1
  have hbA : ¬ (fun q : Nat => s.heap.size ≤ q) b := Nat.not_le.mpr hbl
  have hin : ∀ k : Nat, k < 5 → vp_in (nI (5 * j) + nI k) L := fun k hk => by rw [nI_add]; exact vp_in_nI (by omega) (by omega)
  refine lv_aload_n hx hb dLaw_law_553 rfl (lv_at hl 1 rfl) ?_
  refine lv_aload_n hx hb dLaw_law_554 rfl (lv_at hl 0 rfl) ?_
  refine lv_iload_n hx hb dLaw_law_555 rfl (lv_at hl 3 rfl) ?_
  refine lv_iconst (v := 1) hx hb dLaw_law_556 (by decide) ?_
  refine lv_iadd hx hb dLaw_law_557 ?_
  refine va_sld hx hb hX hbl hbA hS (hin 1 (by decide)) dLaw_law_558 ?_
  refine lv_aload_n hx hb dLaw_law_559 rfl (lv_at hl 0 rfl) ?_
  refine lv_iload_n hx hb dLaw_law_560 rfl (lv_at hl 3 rfl) ?_
  refine lv_iconst (v := 2) hx hb dLaw_law_561 (by decide) ?_
  refine lv_iadd hx hb dLaw_law_562 ?_
  refine va_sld hx hb hX hbl hbA hS (hin 2 (by decide)) dLaw_law_563 ?_
  refine lv_aload_n hx hb dLaw_law_564 rfl (lv_at hl 0 rfl) ?_
  refine lv_iload_n hx hb dLaw_law_565 rfl (lv_at hl 3 rfl) ?_
  refine lv_iconst (v := 3) hx hb dLaw_law_566 (by decide) ?_
  refine lv_iadd hx hb dLaw_law_567 ?_
  refine va_sld hx hb hX hbl hbA hS (hin 3 (by decide)) dLaw_law_568 ?_
  obtain ⟨r, z1, z2, e1, e2, hs⟩ := hop G1 G2 sz (xs (nI (5 * j) + 1).toNatClampNeg) (xs (nI (5 * j) + 2).toNatClampNeg) (xs (nI (5 * j) + 3).toNatClampNeg) hSim
  refine l_goi (l_rV (G := G1) (sz := sz) (As := [.int (xs (nI (5 * j) + 1).toNatClampNeg), .int (xs (nI (5 * j) + 2).toNatClampNeg), .int (xs (nI (5 * j) + 3).toNatClampNeg)]) (rest := []) ⟨hx, hb, hml, hown, hg⟩ (mMain_token l D (lA G1 sz) n _ _ x (xs (nI (5 * j) + 1).toNatClampNeg) (xs (nI (5 * j) + 2).toNatClampNeg) (xs (nI (5 * j) + 3).toNatClampNeg) r e1) (cwV 3 hg (gi_V kw_459 kw_460 kw_461 kw_1 kw_462) rfl rfl rfl ⟨rfl, hdMain_token⟩ ⟨Nat.le_of_ble_eq_true rfl, Nat.le_of_ble_eq_true rfl⟩) hK hLW.1 (ci := 8) (T := T_Main) (N := 14) rfl hi1 rfl hl.1 rfl (Nat.le_of_ble_eq_true rfl) dLaw_law_569 ⟨by show _ ≤ 600000; omega, by show _ ≤ 7302250; omega⟩) hS hLW.1 (fun H locs hB hk hS1 => ?_)
  replace hLW := hLW.one hB hk hS.1
  replace hS := hS1
  clear hS1 hB hk
  refine lv_aload_n hx hb dLaw_law_572 rfl (lv_at hl 2 rfl) ?_
  refine lv_aload_n hx hb dLaw_law_573 rfl (lv_at hl 0 rfl) ?_
  refine lv_iload_n hx hb dLaw_law_574 rfl (lv_at hl 3 rfl) ?_
  refine lv_iconst (v := 1) hx hb dLaw_law_575 (by decide) ?_
  refine lv_iadd hx hb dLaw_law_576 ?_
  refine va_sld hx hb hX hbl hbA hS (hin 1 (by decide)) dLaw_law_577 ?_
  refine lv_aload_n hx hb dLaw_law_578 rfl (lv_at hl 0 rfl) ?_
  refine lv_iload_n hx hb dLaw_law_579 rfl (lv_at hl 3 rfl) ?_
  refine lv_iconst (v := 2) hx hb dLaw_law_580 (by decide) ?_
  refine lv_iadd hx hb dLaw_law_581 ?_
  refine va_sld hx hb hX hbl hbA hS (hin 2 (by decide)) dLaw_law_582 ?_
  refine lv_aload_n hx hb dLaw_law_583 rfl (lv_at hl 0 rfl) ?_
  refine lv_iload_n hx hb dLaw_law_584 rfl (lv_at hl 3 rfl) ?_
  refine lv_iconst (v := 3) hx hb dLaw_law_585 (by decide) ?_
  refine lv_iadd hx hb dLaw_law_586 ?_
  refine va_sld hx hb hX hbl hbA hS (hin 3 (by decide)) dLaw_law_587 ?_
  refine l_goi (l_rV (G := G2) (sz := z1.2) (As := [.int (xs (nI (5 * j) + 1).toNatClampNeg), .int (xs (nI (5 * j) + 2).toNatClampNeg), .int (xs (nI (5 * j) + 3).toNatClampNeg)]) (rest := [.int r]) ⟨hx, hb, hml, hown, hg⟩ (mRef_token l D (lA G2 z1.2) n _ _ y (xs (nI (5 * j) + 1).toNatClampNeg) (xs (nI (5 * j) + 2).toNatClampNeg) (xs (nI (5 * j) + 3).toNatClampNeg) r e2) (cwV 3 hg (gi_V kw_727 kw_728 kw_729 kw_6 kw_730) rfl rfl rfl ⟨rfl, hdRef_token⟩ ⟨Nat.le_of_ble_eq_true rfl, Nat.le_of_ble_eq_true rfl⟩) hK hLW.2.1 (ci := 9) (T := T_Ref) (N := 36) rfl hi2 rfl hl.1 rfl (Nat.le_of_ble_eq_true rfl) dLaw_law_588 ⟨by show _ ≤ 600000; omega, by show _ ≤ 7302250; omega⟩) hS hLW.2.1 (fun H locs hB hk hS1 => ?_)
  replace hLW := (hLW.swap.one hB hk hS.1).swap
  replace hS := hS1
  clear hS1 hB hk
  refine lv_icmp_eq (tgt := 655) hx hb dLaw_law_591 (by decide) (fun _ => ?_) (fun c9 => absurd rfl c9)
  refine W.widen (k := cc + 7) (n := ss + 910) (by omega) (by omega) ?_
  exact kk z1.1 z2.1 z2.2 _ _ hs hLW hS
/-- good: class and reference answer alike, and stay alike -/
def OP_good (n x y : Nat) (Sim : (Nat → Option gE) → (Nat → Option gE) → Nat → Prop) : Prop := ∀ (G1 G2 : Nat → Option gE) (sz : Nat) (v0 : Int32), Sim G1 G2 sz → ∃ (r : Int32) (z1 z2 : gS), fMain_good n x v0 (G1, sz) = some (r, z1) ∧ fRef_good n y v0 (G2, z1.2) = some (r, z2) ∧ Sim z1.1 z2.1 z2.2
set_option maxHeartbeats 4000000 in
set_option maxRecDepth 100000 in
theorem law_good {p : Program} {l : Launch} {e : Env} {s : State} {m : MethodId} {below : List Frame} {meth : Method} {c : Code} {D : va_G} {b L : Nat} {xs : Nat → Int32} (C0 : lw_At p s m meth c b L xs) (hK : g_K D vwCl gNN gOO s) {n x y : Nat} {Sim : (Nat → Option gE) → (Nat → Option gE) → Nat → Prop} (hop : OP_good n x y Sim) {j cc ss : Nat} (hj : 5 * j + 5 ≤ L) (hL : L ≤ 2560) (hcc : cc + 7 ≤ 600000) (hss : ss + 910 ≤ 7302250) {G1 G2 : Nat → Option gE} {sz : Nat} {H : Heap} {locs : List Loc} {ls : Array Slot} (hSim : Sim G1 G2 sz) (hi1 : g_is (G1, sz) x 8 = some ()) (hi2 : g_is (G2, sz) y 9 = some ()) (hLW : lW D s H G1 G2 sz) (hS : va_S (fun q : Nat => s.heap.size ≤ q) s.heap H locs) (hl : lv_has ls 4 [(0, .ref b), (1, .ref x), (2, .ref y), (3, .int (nI (5 * j)))])
    (kk : ∀ (G1 G2 : Nat → Option gE) (sz : Nat) (H : Heap) (locs : List Loc), Sim G1 G2 sz → lW D s H G1 G2 sz → va_S (fun q : Nat => s.heap.size ≤ q) s.heap H locs → W p l e room_1 s m #[Value.ref b] below meth c H locs (cc + 7) (ss + 910) (lw_Z below #[Value.ref b] s) (F0 m 655 ls [])) : W p l e room_1 s m #[Value.ref b] below meth c H locs cc ss (lw_Z below #[Value.ref b] s) (F0 m 596 ls []) := by
  obtain ⟨hx, hb, hr, hml, hown, hts, hX, hbl, hlocks, hgv⟩ := id C0
  have hg : ∀ w ∈ gW, w.before #[Value.ref b] s = true := fun w hw => hts w (List.mem_filter.mp hw).1
  have hbA : ¬ (fun q : Nat => s.heap.size ≤ q) b := Nat.not_le.mpr hbl
  have hin : ∀ k : Nat, k < 5 → vp_in (nI (5 * j) + nI k) L := fun k hk => by rw [nI_add]; exact vp_in_nI (by omega) (by omega)
  refine lv_aload_n hx hb dLaw_law_596 rfl (lv_at hl 1 rfl) ?_
  refine lv_aload_n hx hb dLaw_law_597 rfl (lv_at hl 0 rfl) ?_
  refine lv_iload_n hx hb dLaw_law_598 rfl (lv_at hl 3 rfl) ?_
  refine lv_iconst (v := 1) hx hb dLaw_law_599 (by decide) ?_
  refine lv_iadd hx hb dLaw_law_600 ?_
  refine va_sld hx hb hX hbl hbA hS (hin 1 (by decide)) dLaw_law_601 ?_
  obtain ⟨r, z1, z2, e1, e2, hs⟩ := hop G1 G2 sz (xs (nI (5 * j) + 1).toNatClampNeg) hSim
  refine l_goi (l_rV (G := G1) (sz := sz) (As := [.int (xs (nI (5 * j) + 1).toNatClampNeg)]) (rest := []) ⟨hx, hb, hml, hown, hg⟩ (mMain_good l D (lA G1 sz) n _ _ x (xs (nI (5 * j) + 1).toNatClampNeg) r e1) (cwV 1 hg (gi_V kw_481 kw_482 kw_483 kw_1 kw_484) rfl rfl rfl ⟨rfl, hdMain_good⟩ ⟨Nat.le_of_ble_eq_true rfl, Nat.le_of_ble_eq_true rfl⟩) hK hLW.1 (ci := 8) (T := T_Main) (N := 14) rfl hi1 rfl hl.1 rfl (Nat.le_of_ble_eq_true rfl) dLaw_law_602 ⟨by show _ ≤ 600000; omega, by show _ ≤ 7302250; omega⟩) hS hLW.1 (fun H locs hB hk hS1 => ?_)
  replace hLW := hLW.one hB hk hS.1
  replace hS := hS1
  clear hS1 hB hk
  refine lv_aload_n hx hb dLaw_law_605 rfl (lv_at hl 2 rfl) ?_
  refine lv_aload_n hx hb dLaw_law_606 rfl (lv_at hl 0 rfl) ?_
  refine lv_iload_n hx hb dLaw_law_607 rfl (lv_at hl 3 rfl) ?_
  refine lv_iconst (v := 1) hx hb dLaw_law_608 (by decide) ?_
  refine lv_iadd hx hb dLaw_law_609 ?_
  refine va_sld hx hb hX hbl hbA hS (hin 1 (by decide)) dLaw_law_610 ?_
  refine l_goi (l_rV (G := G2) (sz := z1.2) (As := [.int (xs (nI (5 * j) + 1).toNatClampNeg)]) (rest := [.int r]) ⟨hx, hb, hml, hown, hg⟩ (mRef_good l D (lA G2 z1.2) n _ _ y (xs (nI (5 * j) + 1).toNatClampNeg) r e2) (cwV 1 hg (gi_V kw_731 kw_732 kw_733 kw_6 kw_734) rfl rfl rfl ⟨rfl, hdRef_good⟩ ⟨Nat.le_of_ble_eq_true rfl, Nat.le_of_ble_eq_true rfl⟩) hK hLW.2.1 (ci := 9) (T := T_Ref) (N := 36) rfl hi2 rfl hl.1 rfl (Nat.le_of_ble_eq_true rfl) dLaw_law_611 ⟨by show _ ≤ 600000; omega, by show _ ≤ 7302250; omega⟩) hS hLW.2.1 (fun H locs hB hk hS1 => ?_)
  replace hLW := (hLW.swap.one hB hk hS.1).swap
  replace hS := hS1
  clear hS1 hB hk
  refine lv_icmp_eq (tgt := 655) hx hb dLaw_law_614 (by decide) (fun _ => ?_) (fun c9 => absurd rfl c9)
  refine W.widen (k := cc + 7) (n := ss + 910) (by omega) (by omega) ?_
  exact kk z1.1 z2.1 z2.2 _ _ hs hLW hS
/-- scan: class and reference answer alike, and stay alike -/
def OP_scan (n x y : Nat) (Sim : (Nat → Option gE) → (Nat → Option gE) → Nat → Prop) : Prop := ∀ (G1 G2 : Nat → Option gE) (sz : Nat), Sim G1 G2 sz → ∃ (r : Int32) (z1 z2 : gS), fMain_scan n x  (G1, sz) = some (r, z1) ∧ fRef_scan n y  (G2, z1.2) = some (r, z2) ∧ Sim z1.1 z2.1 z2.2
set_option maxHeartbeats 4000000 in
set_option maxRecDepth 100000 in
theorem law_scan {p : Program} {l : Launch} {e : Env} {s : State} {m : MethodId} {below : List Frame} {meth : Method} {c : Code} {D : va_G} {b L : Nat} {xs : Nat → Int32} (C0 : lw_At p s m meth c b L xs) (hK : g_K D vwCl gNN gOO s) {n x y : Nat} {Sim : (Nat → Option gE) → (Nat → Option gE) → Nat → Prop} (hop : OP_scan n x y Sim) {j cc ss : Nat} (hj : 5 * j + 5 ≤ L) (hL : L ≤ 2560) (hcc : cc + 7 ≤ 600000) (hss : ss + 910 ≤ 7302250) {G1 G2 : Nat → Option gE} {sz : Nat} {H : Heap} {locs : List Loc} {ls : Array Slot} (hSim : Sim G1 G2 sz) (hi1 : g_is (G1, sz) x 8 = some ()) (hi2 : g_is (G2, sz) y 9 = some ()) (hLW : lW D s H G1 G2 sz) (hS : va_S (fun q : Nat => s.heap.size ≤ q) s.heap H locs) (hl : lv_has ls 4 [(0, .ref b), (1, .ref x), (2, .ref y), (3, .int (nI (5 * j)))])
    (kk : ∀ (G1 G2 : Nat → Option gE) (sz : Nat) (H : Heap) (locs : List Loc), Sim G1 G2 sz → lW D s H G1 G2 sz → va_S (fun q : Nat => s.heap.size ≤ q) s.heap H locs → W p l e room_1 s m #[Value.ref b] below meth c H locs (cc + 7) (ss + 910) (lw_Z below #[Value.ref b] s) (F0 m 655 ls [])) : W p l e room_1 s m #[Value.ref b] below meth c H locs cc ss (lw_Z below #[Value.ref b] s) (F0 m 619 ls []) := by
  obtain ⟨hx, hb, hr, hml, hown, hts, hX, hbl, hlocks, hgv⟩ := id C0
  have hg : ∀ w ∈ gW, w.before #[Value.ref b] s = true := fun w hw => hts w (List.mem_filter.mp hw).1
  have hbA : ¬ (fun q : Nat => s.heap.size ≤ q) b := Nat.not_le.mpr hbl
  have hin : ∀ k : Nat, k < 5 → vp_in (nI (5 * j) + nI k) L := fun k hk => by rw [nI_add]; exact vp_in_nI (by omega) (by omega)
  refine lv_aload_n hx hb dLaw_law_619 rfl (lv_at hl 1 rfl) ?_
  obtain ⟨r, z1, z2, e1, e2, hs⟩ := hop G1 G2 sz hSim
  refine l_goi (l_rV (G := G1) (sz := sz) (As := []) (rest := []) ⟨hx, hb, hml, hown, hg⟩ (mMain_scan l D (lA G1 sz) n _ _ x  r e1) (cwV 0 hg (gi_V kw_489 kw_490 kw_491 kw_1 kw_492) rfl rfl rfl ⟨rfl, hdMain_scan⟩ ⟨Nat.le_of_ble_eq_true rfl, Nat.le_of_ble_eq_true rfl⟩) hK hLW.1 (ci := 8) (T := T_Main) (N := 14) rfl hi1 rfl hl.1 rfl (Nat.le_of_ble_eq_true rfl) dLaw_law_620 ⟨by show _ ≤ 600000; omega, by show _ ≤ 7302250; omega⟩) hS hLW.1 (fun H locs hB hk hS1 => ?_)
  replace hLW := hLW.one hB hk hS.1
  replace hS := hS1
  clear hS1 hB hk
  refine lv_aload_n hx hb dLaw_law_623 rfl (lv_at hl 2 rfl) ?_
  refine l_goi (l_rV (G := G2) (sz := z1.2) (As := []) (rest := [.int r]) ⟨hx, hb, hml, hown, hg⟩ (mRef_scan l D (lA G2 z1.2) n _ _ y  r e2) (cwV 0 hg (gi_V kw_735 kw_736 kw_737 kw_6 kw_738) rfl rfl rfl ⟨rfl, hdRef_scan⟩ ⟨Nat.le_of_ble_eq_true rfl, Nat.le_of_ble_eq_true rfl⟩) hK hLW.2.1 (ci := 9) (T := T_Ref) (N := 36) rfl hi2 rfl hl.1 rfl (Nat.le_of_ble_eq_true rfl) dLaw_law_624 ⟨by show _ ≤ 600000; omega, by show _ ≤ 7302250; omega⟩) hS hLW.2.1 (fun H locs hB hk hS1 => ?_)
  replace hLW := (hLW.swap.one hB hk hS.1).swap
  replace hS := hS1
  clear hS1 hB hk
  refine lv_icmp_eq (tgt := 655) hx hb dLaw_law_627 (by decide) (fun _ => ?_) (fun c9 => absurd rfl c9)
  refine W.widen (k := cc + 7) (n := ss + 910) (by omega) (by omega) ?_
  exact kk z1.1 z2.1 z2.2 _ _ hs hLW hS
/-- leak: class and reference answer alike, and stay alike -/
def OP_leak (n x y : Nat) (Sim : (Nat → Option gE) → (Nat → Option gE) → Nat → Prop) : Prop := ∀ (G1 G2 : Nat → Option gE) (sz : Nat) (v0 : Int32), Sim G1 G2 sz → ∃ (r : Int32) (z1 z2 : gS), fMain_leak n x v0 (G1, sz) = some (r, z1) ∧ fRef_leak n y v0 (G2, z1.2) = some (r, z2) ∧ Sim z1.1 z2.1 z2.2
set_option maxHeartbeats 4000000 in
set_option maxRecDepth 100000 in
theorem law_leak {p : Program} {l : Launch} {e : Env} {s : State} {m : MethodId} {below : List Frame} {meth : Method} {c : Code} {D : va_G} {b L : Nat} {xs : Nat → Int32} (C0 : lw_At p s m meth c b L xs) (hK : g_K D vwCl gNN gOO s) {n x y : Nat} {Sim : (Nat → Option gE) → (Nat → Option gE) → Nat → Prop} (hop : OP_leak n x y Sim) {j cc ss : Nat} (hj : 5 * j + 5 ≤ L) (hL : L ≤ 2560) (hcc : cc + 7 ≤ 600000) (hss : ss + 910 ≤ 7302250) {G1 G2 : Nat → Option gE} {sz : Nat} {H : Heap} {locs : List Loc} {ls : Array Slot} (hSim : Sim G1 G2 sz) (hi1 : g_is (G1, sz) x 8 = some ()) (hi2 : g_is (G2, sz) y 9 = some ()) (hLW : lW D s H G1 G2 sz) (hS : va_S (fun q : Nat => s.heap.size ≤ q) s.heap H locs) (hl : lv_has ls 4 [(0, .ref b), (1, .ref x), (2, .ref y), (3, .int (nI (5 * j)))])
    (kk : ∀ (G1 G2 : Nat → Option gE) (sz : Nat) (H : Heap) (locs : List Loc), Sim G1 G2 sz → lW D s H G1 G2 sz → va_S (fun q : Nat => s.heap.size ≤ q) s.heap H locs → W p l e room_1 s m #[Value.ref b] below meth c H locs (cc + 7) (ss + 910) (lw_Z below #[Value.ref b] s) (F0 m 655 ls [])) : W p l e room_1 s m #[Value.ref b] below meth c H locs cc ss (lw_Z below #[Value.ref b] s) (F0 m 632 ls []) := by
  obtain ⟨hx, hb, hr, hml, hown, hts, hX, hbl, hlocks, hgv⟩ := id C0
  have hg : ∀ w ∈ gW, w.before #[Value.ref b] s = true := fun w hw => hts w (List.mem_filter.mp hw).1
  have hbA : ¬ (fun q : Nat => s.heap.size ≤ q) b := Nat.not_le.mpr hbl
  have hin : ∀ k : Nat, k < 5 → vp_in (nI (5 * j) + nI k) L := fun k hk => by rw [nI_add]; exact vp_in_nI (by omega) (by omega)
  refine lv_aload_n hx hb dLaw_law_632 rfl (lv_at hl 1 rfl) ?_
  refine lv_aload_n hx hb dLaw_law_633 rfl (lv_at hl 0 rfl) ?_
  refine lv_iload_n hx hb dLaw_law_634 rfl (lv_at hl 3 rfl) ?_
  refine lv_iconst (v := 1) hx hb dLaw_law_635 (by decide) ?_
  refine lv_iadd hx hb dLaw_law_636 ?_
  refine va_sld hx hb hX hbl hbA hS (hin 1 (by decide)) dLaw_law_637 ?_
  obtain ⟨r, z1, z2, e1, e2, hs⟩ := hop G1 G2 sz (xs (nI (5 * j) + 1).toNatClampNeg) hSim
  refine l_goi (l_rV (G := G1) (sz := sz) (As := [.int (xs (nI (5 * j) + 1).toNatClampNeg)]) (rest := []) ⟨hx, hb, hml, hown, hg⟩ (mMain_leak l D (lA G1 sz) n _ _ x (xs (nI (5 * j) + 1).toNatClampNeg) r e1) (cwV 1 hg (gi_V kw_510 kw_511 kw_512 kw_1 kw_513) rfl rfl rfl ⟨rfl, hdMain_leak⟩ ⟨Nat.le_of_ble_eq_true rfl, Nat.le_of_ble_eq_true rfl⟩) hK hLW.1 (ci := 8) (T := T_Main) (N := 14) rfl hi1 rfl hl.1 rfl (Nat.le_of_ble_eq_true rfl) dLaw_law_638 ⟨by show _ ≤ 600000; omega, by show _ ≤ 7302250; omega⟩) hS hLW.1 (fun H locs hB hk hS1 => ?_)
  replace hLW := hLW.one hB hk hS.1
  replace hS := hS1
  clear hS1 hB hk
  refine lv_aload_n hx hb dLaw_law_641 rfl (lv_at hl 2 rfl) ?_
  refine lv_aload_n hx hb dLaw_law_642 rfl (lv_at hl 0 rfl) ?_
  refine lv_iload_n hx hb dLaw_law_643 rfl (lv_at hl 3 rfl) ?_
  refine lv_iconst (v := 1) hx hb dLaw_law_644 (by decide) ?_
  refine lv_iadd hx hb dLaw_law_645 ?_
  refine va_sld hx hb hX hbl hbA hS (hin 1 (by decide)) dLaw_law_646 ?_
  refine l_goi (l_rV (G := G2) (sz := z1.2) (As := [.int (xs (nI (5 * j) + 1).toNatClampNeg)]) (rest := [.int r]) ⟨hx, hb, hml, hown, hg⟩ (mRef_leak l D (lA G2 z1.2) n _ _ y (xs (nI (5 * j) + 1).toNatClampNeg) r e2) (cwV 1 hg (gi_V kw_739 kw_740 kw_741 kw_6 kw_742) rfl rfl rfl ⟨rfl, hdRef_leak⟩ ⟨Nat.le_of_ble_eq_true rfl, Nat.le_of_ble_eq_true rfl⟩) hK hLW.2.1 (ci := 9) (T := T_Ref) (N := 36) rfl hi2 rfl hl.1 rfl (Nat.le_of_ble_eq_true rfl) dLaw_law_647 ⟨by show _ ≤ 600000; omega, by show _ ≤ 7302250; omega⟩) hS hLW.2.1 (fun H locs hB hk hS1 => ?_)
  replace hLW := (hLW.swap.one hB hk hS.1).swap
  replace hS := hS1
  clear hS1 hB hk
  refine lv_icmp_eq (tgt := 655) hx hb dLaw_law_650 (by decide) (fun _ => ?_) (fun c9 => absurd rfl c9)
  refine W.widen (k := cc + 7) (n := ss + 910) (by omega) (by omega) ?_
  exact kk z1.1 z2.1 z2.2 _ _ hs hLW hS
