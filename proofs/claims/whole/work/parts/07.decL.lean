theorem dL_cell_0 : decode cL_cell 0 = .ok (.iload_n 1, 1) := by decide +kernel
theorem dL_cell_1 : decode cL_cell 1 = .ok (.aload_n 0, 1) := by decide +kernel
theorem dL_cell_2 : decode cL_cell 2 = .ok (.arraylength, 1) := by decide +kernel
theorem dL_cell_3 : decode cL_cell 3 = .ok (.if_icmp .ge 9, 3) := by decide +kernel
theorem dL_cell_6 : decode cL_cell 6 = .ok (.aload_n 0, 1) := by decide +kernel
theorem dL_cell_7 : decode cL_cell 7 = .ok (.iload_n 1, 1) := by decide +kernel
theorem dL_cell_8 : decode cL_cell 8 = .ok (.iaload, 1) := by decide +kernel
theorem dL_cell_9 : decode cL_cell 9 = .ok (.goto 4, 3) := by decide +kernel
theorem dL_cell_12 : decode cL_cell 12 = .ok (.iconst 0, 1) := by decide +kernel
theorem dL_cell_13 : decode cL_cell 13 = .ok (.ireturn, 1) := by decide +kernel
theorem dL_law_0 : decode code 0 = .ok (.new 7, 3) := by decide +kernel
theorem dL_law_3 : decode code 3 = .ok (.dup, 1) := by decide +kernel
theorem dL_law_4 : decode code 4 = .ok (.aload_n 0, 1) := by decide +kernel
theorem dL_law_5 : decode code 5 = .ok (.iconst 0, 1) := by decide +kernel
theorem dL_law_6 : decode code 6 = .ok (.invokestatic 9, 3) := by decide +kernel
theorem dL_law_9 : decode code 9 = .ok (.invokespecial 15, 3) := by decide +kernel
theorem dL_law_12 : decode code 12 = .ok (.astore_n 1, 1) := by decide +kernel
theorem dL_law_13 : decode code 13 = .ok (.new 18, 3) := by decide +kernel
theorem dL_law_16 : decode code 16 = .ok (.dup, 1) := by decide +kernel
theorem dL_law_17 : decode code 17 = .ok (.aload_n 0, 1) := by decide +kernel
theorem dL_law_18 : decode code 18 = .ok (.iconst 0, 1) := by decide +kernel
theorem dL_law_19 : decode code 19 = .ok (.invokestatic 9, 3) := by decide +kernel
theorem dL_law_22 : decode code 22 = .ok (.invokespecial 20, 3) := by decide +kernel
theorem dL_law_25 : decode code 25 = .ok (.astore_n 2, 1) := by decide +kernel
theorem dL_law_26 : decode code 26 = .ok (.iconst 1, 1) := by decide +kernel
theorem dL_law_27 : decode code 27 = .ok (.istore_n 3, 1) := by decide +kernel
theorem dL_law_28 : decode code 28 = .ok (.iload_n 3, 1) := by decide +kernel
theorem dL_law_29 : decode code 29 = .ok (.aload_n 0, 1) := by decide +kernel
theorem dL_law_30 : decode code 30 = .ok (.arraylength, 1) := by decide +kernel
theorem dL_law_31 : decode code 31 = .ok (.iconst 3, 1) := by decide +kernel
theorem dL_law_32 : decode code 32 = .ok (.isub, 1) := by decide +kernel
theorem dL_law_33 : decode code 33 = .ok (.if_icmp .gt 417, 3) := by decide +kernel
theorem dL_law_36 : decode code 36 = .ok (.aload_n 0, 1) := by decide +kernel
theorem dL_law_37 : decode code 37 = .ok (.iload_n 3, 1) := by decide +kernel
theorem dL_law_38 : decode code 38 = .ok (.iaload, 1) := by decide +kernel
theorem dL_law_39 : decode code 39 = .ok (.bipush 15, 2) := by decide +kernel
theorem dL_law_41 : decode code 41 = .ok (.iand, 1) := by decide +kernel
theorem dL_law_42 : decode code 42 = .ok (.tableswitch 402 0 13 #[70, 83, 106, 129, 162, 185, 198, 231, 264, 287, 310, 323, 346, 379], 70) := by decide +kernel
theorem dL_law_112 : decode code 112 = .ok (.aload_n 1, 1) := by decide +kernel
theorem dL_law_113 : decode code 113 = .ok (.invokevirtual 21, 3) := by decide +kernel
theorem dL_law_116 : decode code 116 = .ok (.aload_n 2, 1) := by decide +kernel
theorem dL_law_117 : decode code 117 = .ok (.invokevirtual 25, 3) := by decide +kernel
theorem dL_law_120 : decode code 120 = .ok (.if_icmp .eq 324, 3) := by decide +kernel
theorem dL_law_123 : decode code 123 = .ok (.iconst 0, 1) := by decide +kernel
theorem dL_law_124 : decode code 124 = .ok (.ireturn, 1) := by decide +kernel
theorem dL_law_125 : decode code 125 = .ok (.aload_n 1, 1) := by decide +kernel
theorem dL_law_126 : decode code 126 = .ok (.aload_n 0, 1) := by decide +kernel
theorem dL_law_127 : decode code 127 = .ok (.iload_n 3, 1) := by decide +kernel
theorem dL_law_128 : decode code 128 = .ok (.iconst 1, 1) := by decide +kernel
theorem dL_law_129 : decode code 129 = .ok (.iadd, 1) := by decide +kernel
theorem dL_law_130 : decode code 130 = .ok (.iaload, 1) := by decide +kernel
theorem dL_law_131 : decode code 131 = .ok (.invokevirtual 26, 3) := by decide +kernel
theorem dL_law_134 : decode code 134 = .ok (.aload_n 2, 1) := by decide +kernel
theorem dL_law_135 : decode code 135 = .ok (.aload_n 0, 1) := by decide +kernel
theorem dL_law_136 : decode code 136 = .ok (.iload_n 3, 1) := by decide +kernel
theorem dL_law_137 : decode code 137 = .ok (.iconst 1, 1) := by decide +kernel
theorem dL_law_138 : decode code 138 = .ok (.iadd, 1) := by decide +kernel
theorem dL_law_139 : decode code 139 = .ok (.iaload, 1) := by decide +kernel
theorem dL_law_140 : decode code 140 = .ok (.invokevirtual 30, 3) := by decide +kernel
theorem dL_law_143 : decode code 143 = .ok (.if_icmp .eq 301, 3) := by decide +kernel
theorem dL_law_146 : decode code 146 = .ok (.iconst 0, 1) := by decide +kernel
theorem dL_law_147 : decode code 147 = .ok (.ireturn, 1) := by decide +kernel
theorem dL_law_148 : decode code 148 = .ok (.aload_n 1, 1) := by decide +kernel
theorem dL_law_149 : decode code 149 = .ok (.aload_n 0, 1) := by decide +kernel
theorem dL_law_150 : decode code 150 = .ok (.iload_n 3, 1) := by decide +kernel
theorem dL_law_151 : decode code 151 = .ok (.iconst 1, 1) := by decide +kernel
theorem dL_law_152 : decode code 152 = .ok (.iadd, 1) := by decide +kernel
theorem dL_law_153 : decode code 153 = .ok (.iaload, 1) := by decide +kernel
theorem dL_law_154 : decode code 154 = .ok (.invokevirtual 31, 3) := by decide +kernel
theorem dL_law_157 : decode code 157 = .ok (.aload_n 2, 1) := by decide +kernel
theorem dL_law_158 : decode code 158 = .ok (.aload_n 0, 1) := by decide +kernel
theorem dL_law_159 : decode code 159 = .ok (.iload_n 3, 1) := by decide +kernel
theorem dL_law_160 : decode code 160 = .ok (.iconst 1, 1) := by decide +kernel
theorem dL_law_161 : decode code 161 = .ok (.iadd, 1) := by decide +kernel
theorem dL_law_162 : decode code 162 = .ok (.iaload, 1) := by decide +kernel
theorem dL_law_163 : decode code 163 = .ok (.invokevirtual 34, 3) := by decide +kernel
theorem dL_law_166 : decode code 166 = .ok (.if_icmp .eq 278, 3) := by decide +kernel
theorem dL_law_169 : decode code 169 = .ok (.iconst 0, 1) := by decide +kernel
theorem dL_law_170 : decode code 170 = .ok (.ireturn, 1) := by decide +kernel
theorem dL_law_171 : decode code 171 = .ok (.aload_n 1, 1) := by decide +kernel
theorem dL_law_172 : decode code 172 = .ok (.aload_n 0, 1) := by decide +kernel
theorem dL_law_173 : decode code 173 = .ok (.iload_n 3, 1) := by decide +kernel
theorem dL_law_174 : decode code 174 = .ok (.iconst 1, 1) := by decide +kernel
theorem dL_law_175 : decode code 175 = .ok (.iadd, 1) := by decide +kernel
theorem dL_law_176 : decode code 176 = .ok (.iaload, 1) := by decide +kernel
theorem dL_law_177 : decode code 177 = .ok (.aload_n 0, 1) := by decide +kernel
theorem dL_law_178 : decode code 178 = .ok (.iload_n 3, 1) := by decide +kernel
theorem dL_law_179 : decode code 179 = .ok (.iconst 2, 1) := by decide +kernel
theorem dL_law_180 : decode code 180 = .ok (.iadd, 1) := by decide +kernel
theorem dL_law_181 : decode code 181 = .ok (.iaload, 1) := by decide +kernel
theorem dL_law_182 : decode code 182 = .ok (.invokevirtual 35, 3) := by decide +kernel
theorem dL_law_185 : decode code 185 = .ok (.aload_n 2, 1) := by decide +kernel
theorem dL_law_186 : decode code 186 = .ok (.aload_n 0, 1) := by decide +kernel
theorem dL_law_187 : decode code 187 = .ok (.iload_n 3, 1) := by decide +kernel
theorem dL_law_188 : decode code 188 = .ok (.iconst 1, 1) := by decide +kernel
theorem dL_law_189 : decode code 189 = .ok (.iadd, 1) := by decide +kernel
theorem dL_law_190 : decode code 190 = .ok (.iaload, 1) := by decide +kernel
theorem dL_law_191 : decode code 191 = .ok (.aload_n 0, 1) := by decide +kernel
theorem dL_law_192 : decode code 192 = .ok (.iload_n 3, 1) := by decide +kernel
theorem dL_law_193 : decode code 193 = .ok (.iconst 2, 1) := by decide +kernel
theorem dL_law_194 : decode code 194 = .ok (.iadd, 1) := by decide +kernel
theorem dL_law_195 : decode code 195 = .ok (.iaload, 1) := by decide +kernel
theorem dL_law_196 : decode code 196 = .ok (.invokevirtual 39, 3) := by decide +kernel
theorem dL_law_199 : decode code 199 = .ok (.if_icmp .eq 245, 3) := by decide +kernel
theorem dL_law_202 : decode code 202 = .ok (.iconst 0, 1) := by decide +kernel
theorem dL_law_203 : decode code 203 = .ok (.ireturn, 1) := by decide +kernel
theorem dL_law_204 : decode code 204 = .ok (.aload_n 1, 1) := by decide +kernel
theorem dL_law_205 : decode code 205 = .ok (.aload_n 0, 1) := by decide +kernel
theorem dL_law_206 : decode code 206 = .ok (.iload_n 3, 1) := by decide +kernel
theorem dL_law_207 : decode code 207 = .ok (.iconst 1, 1) := by decide +kernel
theorem dL_law_208 : decode code 208 = .ok (.iadd, 1) := by decide +kernel
theorem dL_law_209 : decode code 209 = .ok (.iaload, 1) := by decide +kernel
theorem dL_law_210 : decode code 210 = .ok (.invokevirtual 40, 3) := by decide +kernel
theorem dL_law_213 : decode code 213 = .ok (.aload_n 2, 1) := by decide +kernel
theorem dL_law_214 : decode code 214 = .ok (.aload_n 0, 1) := by decide +kernel
theorem dL_law_215 : decode code 215 = .ok (.iload_n 3, 1) := by decide +kernel
theorem dL_law_216 : decode code 216 = .ok (.iconst 1, 1) := by decide +kernel
theorem dL_law_217 : decode code 217 = .ok (.iadd, 1) := by decide +kernel
theorem dL_law_218 : decode code 218 = .ok (.iaload, 1) := by decide +kernel
theorem dL_law_219 : decode code 219 = .ok (.invokevirtual 43, 3) := by decide +kernel
theorem dL_law_222 : decode code 222 = .ok (.if_icmp .eq 222, 3) := by decide +kernel
theorem dL_law_225 : decode code 225 = .ok (.iconst 0, 1) := by decide +kernel
theorem dL_law_226 : decode code 226 = .ok (.ireturn, 1) := by decide +kernel
theorem dL_law_227 : decode code 227 = .ok (.aload_n 1, 1) := by decide +kernel
theorem dL_law_228 : decode code 228 = .ok (.invokevirtual 44, 3) := by decide +kernel
theorem dL_law_231 : decode code 231 = .ok (.aload_n 2, 1) := by decide +kernel
theorem dL_law_232 : decode code 232 = .ok (.invokevirtual 48, 3) := by decide +kernel
theorem dL_law_235 : decode code 235 = .ok (.if_icmp .eq 209, 3) := by decide +kernel
theorem dL_law_238 : decode code 238 = .ok (.iconst 0, 1) := by decide +kernel
theorem dL_law_239 : decode code 239 = .ok (.ireturn, 1) := by decide +kernel
theorem dL_law_240 : decode code 240 = .ok (.aload_n 1, 1) := by decide +kernel
theorem dL_law_241 : decode code 241 = .ok (.aload_n 0, 1) := by decide +kernel
theorem dL_law_242 : decode code 242 = .ok (.iload_n 3, 1) := by decide +kernel
theorem dL_law_243 : decode code 243 = .ok (.iconst 1, 1) := by decide +kernel
theorem dL_law_244 : decode code 244 = .ok (.iadd, 1) := by decide +kernel
theorem dL_law_245 : decode code 245 = .ok (.iaload, 1) := by decide +kernel
theorem dL_law_246 : decode code 246 = .ok (.aload_n 0, 1) := by decide +kernel
theorem dL_law_247 : decode code 247 = .ok (.iload_n 3, 1) := by decide +kernel
theorem dL_law_248 : decode code 248 = .ok (.iconst 2, 1) := by decide +kernel
theorem dL_law_249 : decode code 249 = .ok (.iadd, 1) := by decide +kernel
theorem dL_law_250 : decode code 250 = .ok (.iaload, 1) := by decide +kernel
theorem dL_law_251 : decode code 251 = .ok (.invokevirtual 49, 3) := by decide +kernel
theorem dL_law_254 : decode code 254 = .ok (.aload_n 2, 1) := by decide +kernel
theorem dL_law_255 : decode code 255 = .ok (.aload_n 0, 1) := by decide +kernel
theorem dL_law_256 : decode code 256 = .ok (.iload_n 3, 1) := by decide +kernel
theorem dL_law_257 : decode code 257 = .ok (.iconst 1, 1) := by decide +kernel
theorem dL_law_258 : decode code 258 = .ok (.iadd, 1) := by decide +kernel
theorem dL_law_259 : decode code 259 = .ok (.iaload, 1) := by decide +kernel
theorem dL_law_260 : decode code 260 = .ok (.aload_n 0, 1) := by decide +kernel
theorem dL_law_261 : decode code 261 = .ok (.iload_n 3, 1) := by decide +kernel
theorem dL_law_262 : decode code 262 = .ok (.iconst 2, 1) := by decide +kernel
theorem dL_law_263 : decode code 263 = .ok (.iadd, 1) := by decide +kernel
theorem dL_law_264 : decode code 264 = .ok (.iaload, 1) := by decide +kernel
theorem dL_law_265 : decode code 265 = .ok (.invokevirtual 52, 3) := by decide +kernel
theorem dL_law_268 : decode code 268 = .ok (.if_icmp .eq 176, 3) := by decide +kernel
theorem dL_law_271 : decode code 271 = .ok (.iconst 0, 1) := by decide +kernel
theorem dL_law_272 : decode code 272 = .ok (.ireturn, 1) := by decide +kernel
theorem dL_law_273 : decode code 273 = .ok (.aload_n 1, 1) := by decide +kernel
theorem dL_law_274 : decode code 274 = .ok (.aload_n 0, 1) := by decide +kernel
theorem dL_law_275 : decode code 275 = .ok (.iload_n 3, 1) := by decide +kernel
theorem dL_law_276 : decode code 276 = .ok (.iconst 1, 1) := by decide +kernel
theorem dL_law_277 : decode code 277 = .ok (.iadd, 1) := by decide +kernel
theorem dL_law_278 : decode code 278 = .ok (.iaload, 1) := by decide +kernel
theorem dL_law_279 : decode code 279 = .ok (.aload_n 0, 1) := by decide +kernel
theorem dL_law_280 : decode code 280 = .ok (.iload_n 3, 1) := by decide +kernel
theorem dL_law_281 : decode code 281 = .ok (.iconst 2, 1) := by decide +kernel
theorem dL_law_282 : decode code 282 = .ok (.iadd, 1) := by decide +kernel
theorem dL_law_283 : decode code 283 = .ok (.iaload, 1) := by decide +kernel
theorem dL_law_284 : decode code 284 = .ok (.invokevirtual 53, 3) := by decide +kernel
theorem dL_law_287 : decode code 287 = .ok (.aload_n 2, 1) := by decide +kernel
theorem dL_law_288 : decode code 288 = .ok (.aload_n 0, 1) := by decide +kernel
theorem dL_law_289 : decode code 289 = .ok (.iload_n 3, 1) := by decide +kernel
theorem dL_law_290 : decode code 290 = .ok (.iconst 1, 1) := by decide +kernel
theorem dL_law_291 : decode code 291 = .ok (.iadd, 1) := by decide +kernel
theorem dL_law_292 : decode code 292 = .ok (.iaload, 1) := by decide +kernel
theorem dL_law_293 : decode code 293 = .ok (.aload_n 0, 1) := by decide +kernel
theorem dL_law_294 : decode code 294 = .ok (.iload_n 3, 1) := by decide +kernel
theorem dL_law_295 : decode code 295 = .ok (.iconst 2, 1) := by decide +kernel
theorem dL_law_296 : decode code 296 = .ok (.iadd, 1) := by decide +kernel
theorem dL_law_297 : decode code 297 = .ok (.iaload, 1) := by decide +kernel
theorem dL_law_298 : decode code 298 = .ok (.invokevirtual 56, 3) := by decide +kernel
theorem dL_law_301 : decode code 301 = .ok (.if_icmp .eq 143, 3) := by decide +kernel
theorem dL_law_304 : decode code 304 = .ok (.iconst 0, 1) := by decide +kernel
theorem dL_law_305 : decode code 305 = .ok (.ireturn, 1) := by decide +kernel
theorem dL_law_306 : decode code 306 = .ok (.aload_n 1, 1) := by decide +kernel
theorem dL_law_307 : decode code 307 = .ok (.aload_n 0, 1) := by decide +kernel
theorem dL_law_308 : decode code 308 = .ok (.iload_n 3, 1) := by decide +kernel
theorem dL_law_309 : decode code 309 = .ok (.iconst 1, 1) := by decide +kernel
theorem dL_law_310 : decode code 310 = .ok (.iadd, 1) := by decide +kernel
theorem dL_law_311 : decode code 311 = .ok (.iaload, 1) := by decide +kernel
theorem dL_law_312 : decode code 312 = .ok (.invokevirtual 57, 3) := by decide +kernel
theorem dL_law_315 : decode code 315 = .ok (.aload_n 2, 1) := by decide +kernel
theorem dL_law_316 : decode code 316 = .ok (.aload_n 0, 1) := by decide +kernel
theorem dL_law_317 : decode code 317 = .ok (.iload_n 3, 1) := by decide +kernel
theorem dL_law_318 : decode code 318 = .ok (.iconst 1, 1) := by decide +kernel
theorem dL_law_319 : decode code 319 = .ok (.iadd, 1) := by decide +kernel
theorem dL_law_320 : decode code 320 = .ok (.iaload, 1) := by decide +kernel
theorem dL_law_321 : decode code 321 = .ok (.invokevirtual 60, 3) := by decide +kernel
theorem dL_law_324 : decode code 324 = .ok (.if_icmp .eq 120, 3) := by decide +kernel
theorem dL_law_327 : decode code 327 = .ok (.iconst 0, 1) := by decide +kernel
theorem dL_law_328 : decode code 328 = .ok (.ireturn, 1) := by decide +kernel
theorem dL_law_329 : decode code 329 = .ok (.aload_n 1, 1) := by decide +kernel
theorem dL_law_330 : decode code 330 = .ok (.aload_n 0, 1) := by decide +kernel
theorem dL_law_331 : decode code 331 = .ok (.iload_n 3, 1) := by decide +kernel
theorem dL_law_332 : decode code 332 = .ok (.iconst 1, 1) := by decide +kernel
theorem dL_law_333 : decode code 333 = .ok (.iadd, 1) := by decide +kernel
theorem dL_law_334 : decode code 334 = .ok (.iaload, 1) := by decide +kernel
theorem dL_law_335 : decode code 335 = .ok (.invokevirtual 61, 3) := by decide +kernel
theorem dL_law_338 : decode code 338 = .ok (.aload_n 2, 1) := by decide +kernel
theorem dL_law_339 : decode code 339 = .ok (.aload_n 0, 1) := by decide +kernel
theorem dL_law_340 : decode code 340 = .ok (.iload_n 3, 1) := by decide +kernel
theorem dL_law_341 : decode code 341 = .ok (.iconst 1, 1) := by decide +kernel
theorem dL_law_342 : decode code 342 = .ok (.iadd, 1) := by decide +kernel
theorem dL_law_343 : decode code 343 = .ok (.iaload, 1) := by decide +kernel
theorem dL_law_344 : decode code 344 = .ok (.invokevirtual 64, 3) := by decide +kernel
theorem dL_law_347 : decode code 347 = .ok (.if_icmp .eq 97, 3) := by decide +kernel
theorem dL_law_350 : decode code 350 = .ok (.iconst 0, 1) := by decide +kernel
theorem dL_law_351 : decode code 351 = .ok (.ireturn, 1) := by decide +kernel
theorem dL_law_352 : decode code 352 = .ok (.aload_n 1, 1) := by decide +kernel
theorem dL_law_353 : decode code 353 = .ok (.invokevirtual 65, 3) := by decide +kernel
theorem dL_law_356 : decode code 356 = .ok (.aload_n 2, 1) := by decide +kernel
theorem dL_law_357 : decode code 357 = .ok (.invokevirtual 68, 3) := by decide +kernel
theorem dL_law_360 : decode code 360 = .ok (.if_icmp .eq 84, 3) := by decide +kernel
theorem dL_law_363 : decode code 363 = .ok (.iconst 0, 1) := by decide +kernel
theorem dL_law_364 : decode code 364 = .ok (.ireturn, 1) := by decide +kernel
theorem dL_law_365 : decode code 365 = .ok (.aload_n 1, 1) := by decide +kernel
theorem dL_law_366 : decode code 366 = .ok (.aload_n 0, 1) := by decide +kernel
theorem dL_law_367 : decode code 367 = .ok (.iload_n 3, 1) := by decide +kernel
theorem dL_law_368 : decode code 368 = .ok (.iconst 1, 1) := by decide +kernel
theorem dL_law_369 : decode code 369 = .ok (.iadd, 1) := by decide +kernel
theorem dL_law_370 : decode code 370 = .ok (.iaload, 1) := by decide +kernel
theorem dL_law_371 : decode code 371 = .ok (.invokevirtual 69, 3) := by decide +kernel
theorem dL_law_374 : decode code 374 = .ok (.aload_n 2, 1) := by decide +kernel
theorem dL_law_375 : decode code 375 = .ok (.aload_n 0, 1) := by decide +kernel
theorem dL_law_376 : decode code 376 = .ok (.iload_n 3, 1) := by decide +kernel
theorem dL_law_377 : decode code 377 = .ok (.iconst 1, 1) := by decide +kernel
theorem dL_law_378 : decode code 378 = .ok (.iadd, 1) := by decide +kernel
theorem dL_law_379 : decode code 379 = .ok (.iaload, 1) := by decide +kernel
theorem dL_law_380 : decode code 380 = .ok (.invokevirtual 73, 3) := by decide +kernel
theorem dL_law_383 : decode code 383 = .ok (.if_icmp .eq 61, 3) := by decide +kernel
theorem dL_law_386 : decode code 386 = .ok (.iconst 0, 1) := by decide +kernel
theorem dL_law_387 : decode code 387 = .ok (.ireturn, 1) := by decide +kernel
theorem dL_law_388 : decode code 388 = .ok (.aload_n 1, 1) := by decide +kernel
theorem dL_law_389 : decode code 389 = .ok (.aload_n 0, 1) := by decide +kernel
theorem dL_law_390 : decode code 390 = .ok (.iload_n 3, 1) := by decide +kernel
theorem dL_law_391 : decode code 391 = .ok (.iconst 1, 1) := by decide +kernel
theorem dL_law_392 : decode code 392 = .ok (.iadd, 1) := by decide +kernel
theorem dL_law_393 : decode code 393 = .ok (.iaload, 1) := by decide +kernel
theorem dL_law_394 : decode code 394 = .ok (.aload_n 0, 1) := by decide +kernel
theorem dL_law_395 : decode code 395 = .ok (.iload_n 3, 1) := by decide +kernel
theorem dL_law_396 : decode code 396 = .ok (.iconst 2, 1) := by decide +kernel
theorem dL_law_397 : decode code 397 = .ok (.iadd, 1) := by decide +kernel
theorem dL_law_398 : decode code 398 = .ok (.iaload, 1) := by decide +kernel
theorem dL_law_399 : decode code 399 = .ok (.invokevirtual 74, 3) := by decide +kernel
theorem dL_law_402 : decode code 402 = .ok (.aload_n 2, 1) := by decide +kernel
theorem dL_law_403 : decode code 403 = .ok (.aload_n 0, 1) := by decide +kernel
theorem dL_law_404 : decode code 404 = .ok (.iload_n 3, 1) := by decide +kernel
theorem dL_law_405 : decode code 405 = .ok (.iconst 1, 1) := by decide +kernel
theorem dL_law_406 : decode code 406 = .ok (.iadd, 1) := by decide +kernel
theorem dL_law_407 : decode code 407 = .ok (.iaload, 1) := by decide +kernel
theorem dL_law_408 : decode code 408 = .ok (.aload_n 0, 1) := by decide +kernel
theorem dL_law_409 : decode code 409 = .ok (.iload_n 3, 1) := by decide +kernel
theorem dL_law_410 : decode code 410 = .ok (.iconst 2, 1) := by decide +kernel
theorem dL_law_411 : decode code 411 = .ok (.iadd, 1) := by decide +kernel
theorem dL_law_412 : decode code 412 = .ok (.iaload, 1) := by decide +kernel
theorem dL_law_413 : decode code 413 = .ok (.invokevirtual 77, 3) := by decide +kernel
theorem dL_law_416 : decode code 416 = .ok (.if_icmp .eq 28, 3) := by decide +kernel
theorem dL_law_419 : decode code 419 = .ok (.iconst 0, 1) := by decide +kernel
theorem dL_law_420 : decode code 420 = .ok (.ireturn, 1) := by decide +kernel
theorem dL_law_421 : decode code 421 = .ok (.aload_n 1, 1) := by decide +kernel
theorem dL_law_422 : decode code 422 = .ok (.aload_n 0, 1) := by decide +kernel
theorem dL_law_423 : decode code 423 = .ok (.iload_n 3, 1) := by decide +kernel
theorem dL_law_424 : decode code 424 = .ok (.iconst 1, 1) := by decide +kernel
theorem dL_law_425 : decode code 425 = .ok (.iadd, 1) := by decide +kernel
theorem dL_law_426 : decode code 426 = .ok (.iaload, 1) := by decide +kernel
theorem dL_law_427 : decode code 427 = .ok (.invokevirtual 78, 3) := by decide +kernel
theorem dL_law_430 : decode code 430 = .ok (.aload_n 2, 1) := by decide +kernel
theorem dL_law_431 : decode code 431 = .ok (.aload_n 0, 1) := by decide +kernel
theorem dL_law_432 : decode code 432 = .ok (.iload_n 3, 1) := by decide +kernel
theorem dL_law_433 : decode code 433 = .ok (.iconst 1, 1) := by decide +kernel
theorem dL_law_434 : decode code 434 = .ok (.iadd, 1) := by decide +kernel
theorem dL_law_435 : decode code 435 = .ok (.iaload, 1) := by decide +kernel
theorem dL_law_436 : decode code 436 = .ok (.invokevirtual 81, 3) := by decide +kernel
theorem dL_law_439 : decode code 439 = .ok (.if_icmp .eq 5, 3) := by decide +kernel
theorem dL_law_442 : decode code 442 = .ok (.iconst 0, 1) := by decide +kernel
theorem dL_law_443 : decode code 443 = .ok (.ireturn, 1) := by decide +kernel
theorem dL_law_444 : decode code 444 = .ok (.iinc 3 3, 3) := by decide +kernel
theorem dL_law_447 : decode code 447 = .ok (.goto (-419), 3) := by decide +kernel
theorem dL_law_450 : decode code 450 = .ok (.iconst 1, 1) := by decide +kernel
theorem dL_law_451 : decode code 451 = .ok (.ireturn, 1) := by decide +kernel
