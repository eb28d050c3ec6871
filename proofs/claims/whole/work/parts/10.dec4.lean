theorem dL_law_0 : vm_at cL_law 0 (.new 7) 3 3 := by decide +kernel
theorem dL_law_3 : vm_at cL_law 3 (.dup) 1 4 := by decide +kernel
theorem dL_law_4 : vm_at cL_law 4 (.invokespecial 9) 3 7 := by decide +kernel
theorem dL_law_7 : vm_at cL_law 7 (.astore_n 1) 1 8 ∧ ((1 : Fin 4) : Nat) = 1 := by decide +kernel
theorem dL_law_8 : vm_at cL_law 8 (.new 10) 3 11 := by decide +kernel
theorem dL_law_11 : vm_at cL_law 11 (.dup) 1 12 := by decide +kernel
theorem dL_law_12 : vm_at cL_law 12 (.invokespecial 12) 3 15 := by decide +kernel
theorem dL_law_15 : vm_at cL_law 15 (.astore_n 2) 1 16 ∧ ((2 : Fin 4) : Nat) = 2 := by decide +kernel
theorem dL_law_16 : vm_at cL_law 16 (.iconst 0) 1 17 ∧ Int32.ofInt (0) = (0 : Int32) := by decide +kernel
theorem dL_law_17 : vm_at cL_law 17 (.istore_n 3) 1 18 ∧ ((3 : Fin 4) : Nat) = 3 := by decide +kernel
theorem dL_law_18 : vm_at cL_law 18 (.iload_n 3) 1 19 ∧ ((3 : Fin 4) : Nat) = 3 := by decide +kernel
theorem dL_law_19 : vm_at cL_law 19 (.aload_n 0) 1 20 ∧ ((0 : Fin 4) : Nat) = 0 := by decide +kernel
theorem dL_law_20 : vm_at cL_law 20 (.arraylength) 1 21 := by decide +kernel
theorem dL_law_21 : vm_at cL_law 21 (.iconst 4) 1 22 ∧ Int32.ofInt (4) = (4 : Int32) := by decide +kernel
theorem dL_law_22 : vm_at cL_law 22 (.isub) 1 23 := by decide +kernel
theorem dL_law_23 : vm_br cL_law 23 (.if_icmp .gt 837) 3 26 (837) 860 := by decide +kernel
theorem dL_law_26 : vm_at cL_law 26 (.aload_n 0) 1 27 ∧ ((0 : Fin 4) : Nat) = 0 := by decide +kernel
theorem dL_law_27 : vm_at cL_law 27 (.iload_n 3) 1 28 ∧ ((3 : Fin 4) : Nat) = 3 := by decide +kernel
theorem dL_law_28 : vm_at cL_law 28 (.iaload) 1 29 := by decide +kernel
theorem dL_law_29 : vm_at cL_law 29 (.bipush 31) 2 31 ∧ (Int8.ofInt (31)).toInt32 = (31 : Int32) := by decide +kernel
theorem dL_law_31 : vm_at cL_law 31 (.iand) 1 32 := by decide +kernel
theorem dL_law_32 : decode cL_law 32 = .ok (.tableswitch 822 0 27 #[128, 191, 204, 217, 240, 273, 296, 309, 332, 365, 388, 411, 434, 457, 480, 493, 516, 529, 562, 605, 628, 671, 704, 717, 730, 753, 776, 799], 128) := by decide +kernel
theorem dL_law_160 : vm_at cL_law 160 (.aload_n 1) 1 161 ∧ ((1 : Fin 4) : Nat) = 1 := by decide +kernel
theorem dL_law_161 : vm_at cL_law 161 (.aload_n 0) 1 162 ∧ ((0 : Fin 4) : Nat) = 0 := by decide +kernel
theorem dL_law_162 : vm_at cL_law 162 (.iload_n 3) 1 163 ∧ ((3 : Fin 4) : Nat) = 3 := by decide +kernel
theorem dL_law_163 : vm_at cL_law 163 (.iconst 1) 1 164 ∧ Int32.ofInt (1) = (1 : Int32) := by decide +kernel
theorem dL_law_164 : vm_at cL_law 164 (.iadd) 1 165 := by decide +kernel
theorem dL_law_165 : vm_at cL_law 165 (.iaload) 1 166 := by decide +kernel
theorem dL_law_166 : vm_at cL_law 166 (.aload_n 0) 1 167 ∧ ((0 : Fin 4) : Nat) = 0 := by decide +kernel
theorem dL_law_167 : vm_at cL_law 167 (.iload_n 3) 1 168 ∧ ((3 : Fin 4) : Nat) = 3 := by decide +kernel
theorem dL_law_168 : vm_at cL_law 168 (.iconst 2) 1 169 ∧ Int32.ofInt (2) = (2 : Int32) := by decide +kernel
theorem dL_law_169 : vm_at cL_law 169 (.iadd) 1 170 := by decide +kernel
theorem dL_law_170 : vm_at cL_law 170 (.iaload) 1 171 := by decide +kernel
theorem dL_law_171 : vm_at cL_law 171 (.i2l) 1 172 := by decide +kernel
theorem dL_law_172 : vm_at cL_law 172 (.bipush 32) 2 174 ∧ (Int8.ofInt (32)).toInt32 = (32 : Int32) := by decide +kernel
theorem dL_law_174 : vm_at cL_law 174 (.lshl) 1 175 := by decide +kernel
theorem dL_law_175 : vm_at cL_law 175 (.aload_n 0) 1 176 ∧ ((0 : Fin 4) : Nat) = 0 := by decide +kernel
theorem dL_law_176 : vm_at cL_law 176 (.iload_n 3) 1 177 ∧ ((3 : Fin 4) : Nat) = 3 := by decide +kernel
theorem dL_law_177 : vm_at cL_law 177 (.iconst 3) 1 178 ∧ Int32.ofInt (3) = (3 : Int32) := by decide +kernel
theorem dL_law_178 : vm_at cL_law 178 (.iadd) 1 179 := by decide +kernel
theorem dL_law_179 : vm_at cL_law 179 (.iaload) 1 180 := by decide +kernel
theorem dL_law_180 : vm_at cL_law 180 (.i2l) 1 181 := by decide +kernel
theorem dL_law_181 : vm_at cL_law 181 (.ldc2_w 13) 3 184 := by decide +kernel
theorem dL_law_184 : vm_at cL_law 184 (.land) 1 185 := by decide +kernel
theorem dL_law_185 : vm_at cL_law 185 (.lor) 1 186 := by decide +kernel
theorem dL_law_186 : vm_at cL_law 186 (.invokevirtual 15) 3 189 := by decide +kernel
theorem dL_law_189 : vm_at cL_law 189 (.aload_n 2) 1 190 ∧ ((2 : Fin 4) : Nat) = 2 := by decide +kernel
theorem dL_law_190 : vm_at cL_law 190 (.aload_n 0) 1 191 ∧ ((0 : Fin 4) : Nat) = 0 := by decide +kernel
theorem dL_law_191 : vm_at cL_law 191 (.iload_n 3) 1 192 ∧ ((3 : Fin 4) : Nat) = 3 := by decide +kernel
theorem dL_law_192 : vm_at cL_law 192 (.iconst 1) 1 193 ∧ Int32.ofInt (1) = (1 : Int32) := by decide +kernel
theorem dL_law_193 : vm_at cL_law 193 (.iadd) 1 194 := by decide +kernel
theorem dL_law_194 : vm_at cL_law 194 (.iaload) 1 195 := by decide +kernel
theorem dL_law_195 : vm_at cL_law 195 (.aload_n 0) 1 196 ∧ ((0 : Fin 4) : Nat) = 0 := by decide +kernel
theorem dL_law_196 : vm_at cL_law 196 (.iload_n 3) 1 197 ∧ ((3 : Fin 4) : Nat) = 3 := by decide +kernel
theorem dL_law_197 : vm_at cL_law 197 (.iconst 2) 1 198 ∧ Int32.ofInt (2) = (2 : Int32) := by decide +kernel
theorem dL_law_198 : vm_at cL_law 198 (.iadd) 1 199 := by decide +kernel
theorem dL_law_199 : vm_at cL_law 199 (.iaload) 1 200 := by decide +kernel
theorem dL_law_200 : vm_at cL_law 200 (.i2l) 1 201 := by decide +kernel
theorem dL_law_201 : vm_at cL_law 201 (.bipush 32) 2 203 ∧ (Int8.ofInt (32)).toInt32 = (32 : Int32) := by decide +kernel
theorem dL_law_203 : vm_at cL_law 203 (.lshl) 1 204 := by decide +kernel
theorem dL_law_204 : vm_at cL_law 204 (.aload_n 0) 1 205 ∧ ((0 : Fin 4) : Nat) = 0 := by decide +kernel
theorem dL_law_205 : vm_at cL_law 205 (.iload_n 3) 1 206 ∧ ((3 : Fin 4) : Nat) = 3 := by decide +kernel
theorem dL_law_206 : vm_at cL_law 206 (.iconst 3) 1 207 ∧ Int32.ofInt (3) = (3 : Int32) := by decide +kernel
theorem dL_law_207 : vm_at cL_law 207 (.iadd) 1 208 := by decide +kernel
theorem dL_law_208 : vm_at cL_law 208 (.iaload) 1 209 := by decide +kernel
theorem dL_law_209 : vm_at cL_law 209 (.i2l) 1 210 := by decide +kernel
theorem dL_law_210 : vm_at cL_law 210 (.ldc2_w 13) 3 213 := by decide +kernel
theorem dL_law_213 : vm_at cL_law 213 (.land) 1 214 := by decide +kernel
theorem dL_law_214 : vm_at cL_law 214 (.lor) 1 215 := by decide +kernel
theorem dL_law_215 : vm_at cL_law 215 (.invokevirtual 19) 3 218 := by decide +kernel
theorem dL_law_218 : vm_br cL_law 218 (.if_icmp .eq 636) 3 221 (636) 854 := by decide +kernel
theorem dL_law_221 : vm_at cL_law 221 (.iconst 0) 1 222 ∧ Int32.ofInt (0) = (0 : Int32) := by decide +kernel
theorem dL_law_222 : vm_at cL_law 222 (.ireturn) 1 223 := by decide +kernel
theorem dL_law_223 : vm_at cL_law 223 (.aload_n 1) 1 224 ∧ ((1 : Fin 4) : Nat) = 1 := by decide +kernel
theorem dL_law_224 : vm_at cL_law 224 (.invokevirtual 20) 3 227 := by decide +kernel
theorem dL_law_227 : vm_at cL_law 227 (.aload_n 2) 1 228 ∧ ((2 : Fin 4) : Nat) = 2 := by decide +kernel
theorem dL_law_228 : vm_at cL_law 228 (.invokevirtual 24) 3 231 := by decide +kernel
theorem dL_law_231 : vm_br cL_law 231 (.if_icmp .eq 623) 3 234 (623) 854 := by decide +kernel
theorem dL_law_234 : vm_at cL_law 234 (.iconst 0) 1 235 ∧ Int32.ofInt (0) = (0 : Int32) := by decide +kernel
theorem dL_law_235 : vm_at cL_law 235 (.ireturn) 1 236 := by decide +kernel
theorem dL_law_236 : vm_at cL_law 236 (.aload_n 1) 1 237 ∧ ((1 : Fin 4) : Nat) = 1 := by decide +kernel
theorem dL_law_237 : vm_at cL_law 237 (.invokevirtual 25) 3 240 := by decide +kernel
theorem dL_law_240 : vm_at cL_law 240 (.aload_n 2) 1 241 ∧ ((2 : Fin 4) : Nat) = 2 := by decide +kernel
theorem dL_law_241 : vm_at cL_law 241 (.invokevirtual 28) 3 244 := by decide +kernel
theorem dL_law_244 : vm_br cL_law 244 (.if_icmp .eq 610) 3 247 (610) 854 := by decide +kernel
theorem dL_law_247 : vm_at cL_law 247 (.iconst 0) 1 248 ∧ Int32.ofInt (0) = (0 : Int32) := by decide +kernel
theorem dL_law_248 : vm_at cL_law 248 (.ireturn) 1 249 := by decide +kernel
theorem dL_law_249 : vm_at cL_law 249 (.aload_n 1) 1 250 ∧ ((1 : Fin 4) : Nat) = 1 := by decide +kernel
theorem dL_law_250 : vm_at cL_law 250 (.aload_n 0) 1 251 ∧ ((0 : Fin 4) : Nat) = 0 := by decide +kernel
theorem dL_law_251 : vm_at cL_law 251 (.iload_n 3) 1 252 ∧ ((3 : Fin 4) : Nat) = 3 := by decide +kernel
theorem dL_law_252 : vm_at cL_law 252 (.iconst 1) 1 253 ∧ Int32.ofInt (1) = (1 : Int32) := by decide +kernel
theorem dL_law_253 : vm_at cL_law 253 (.iadd) 1 254 := by decide +kernel
theorem dL_law_254 : vm_at cL_law 254 (.iaload) 1 255 := by decide +kernel
theorem dL_law_255 : vm_at cL_law 255 (.invokevirtual 29) 3 258 := by decide +kernel
theorem dL_law_258 : vm_at cL_law 258 (.aload_n 2) 1 259 ∧ ((2 : Fin 4) : Nat) = 2 := by decide +kernel
theorem dL_law_259 : vm_at cL_law 259 (.aload_n 0) 1 260 ∧ ((0 : Fin 4) : Nat) = 0 := by decide +kernel
theorem dL_law_260 : vm_at cL_law 260 (.iload_n 3) 1 261 ∧ ((3 : Fin 4) : Nat) = 3 := by decide +kernel
theorem dL_law_261 : vm_at cL_law 261 (.iconst 1) 1 262 ∧ Int32.ofInt (1) = (1 : Int32) := by decide +kernel
theorem dL_law_262 : vm_at cL_law 262 (.iadd) 1 263 := by decide +kernel
theorem dL_law_263 : vm_at cL_law 263 (.iaload) 1 264 := by decide +kernel
theorem dL_law_264 : vm_at cL_law 264 (.invokevirtual 33) 3 267 := by decide +kernel
theorem dL_law_267 : vm_br cL_law 267 (.if_icmp .eq 587) 3 270 (587) 854 := by decide +kernel
theorem dL_law_270 : vm_at cL_law 270 (.iconst 0) 1 271 ∧ Int32.ofInt (0) = (0 : Int32) := by decide +kernel
theorem dL_law_271 : vm_at cL_law 271 (.ireturn) 1 272 := by decide +kernel
theorem dL_law_272 : vm_at cL_law 272 (.aload_n 1) 1 273 ∧ ((1 : Fin 4) : Nat) = 1 := by decide +kernel
theorem dL_law_273 : vm_at cL_law 273 (.aload_n 0) 1 274 ∧ ((0 : Fin 4) : Nat) = 0 := by decide +kernel
theorem dL_law_274 : vm_at cL_law 274 (.iload_n 3) 1 275 ∧ ((3 : Fin 4) : Nat) = 3 := by decide +kernel
theorem dL_law_275 : vm_at cL_law 275 (.iconst 1) 1 276 ∧ Int32.ofInt (1) = (1 : Int32) := by decide +kernel
theorem dL_law_276 : vm_at cL_law 276 (.iadd) 1 277 := by decide +kernel
theorem dL_law_277 : vm_at cL_law 277 (.iaload) 1 278 := by decide +kernel
theorem dL_law_278 : vm_at cL_law 278 (.aload_n 0) 1 279 ∧ ((0 : Fin 4) : Nat) = 0 := by decide +kernel
theorem dL_law_279 : vm_at cL_law 279 (.iload_n 3) 1 280 ∧ ((3 : Fin 4) : Nat) = 3 := by decide +kernel
theorem dL_law_280 : vm_at cL_law 280 (.iconst 2) 1 281 ∧ Int32.ofInt (2) = (2 : Int32) := by decide +kernel
theorem dL_law_281 : vm_at cL_law 281 (.iadd) 1 282 := by decide +kernel
theorem dL_law_282 : vm_at cL_law 282 (.iaload) 1 283 := by decide +kernel
theorem dL_law_283 : vm_at cL_law 283 (.invokevirtual 34) 3 286 := by decide +kernel
theorem dL_law_286 : vm_at cL_law 286 (.aload_n 2) 1 287 ∧ ((2 : Fin 4) : Nat) = 2 := by decide +kernel
theorem dL_law_287 : vm_at cL_law 287 (.aload_n 0) 1 288 ∧ ((0 : Fin 4) : Nat) = 0 := by decide +kernel
theorem dL_law_288 : vm_at cL_law 288 (.iload_n 3) 1 289 ∧ ((3 : Fin 4) : Nat) = 3 := by decide +kernel
theorem dL_law_289 : vm_at cL_law 289 (.iconst 1) 1 290 ∧ Int32.ofInt (1) = (1 : Int32) := by decide +kernel
theorem dL_law_290 : vm_at cL_law 290 (.iadd) 1 291 := by decide +kernel
theorem dL_law_291 : vm_at cL_law 291 (.iaload) 1 292 := by decide +kernel
theorem dL_law_292 : vm_at cL_law 292 (.aload_n 0) 1 293 ∧ ((0 : Fin 4) : Nat) = 0 := by decide +kernel
theorem dL_law_293 : vm_at cL_law 293 (.iload_n 3) 1 294 ∧ ((3 : Fin 4) : Nat) = 3 := by decide +kernel
theorem dL_law_294 : vm_at cL_law 294 (.iconst 2) 1 295 ∧ Int32.ofInt (2) = (2 : Int32) := by decide +kernel
theorem dL_law_295 : vm_at cL_law 295 (.iadd) 1 296 := by decide +kernel
theorem dL_law_296 : vm_at cL_law 296 (.iaload) 1 297 := by decide +kernel
theorem dL_law_297 : vm_at cL_law 297 (.invokevirtual 38) 3 300 := by decide +kernel
theorem dL_law_300 : vm_br cL_law 300 (.if_icmp .eq 554) 3 303 (554) 854 := by decide +kernel
theorem dL_law_303 : vm_at cL_law 303 (.iconst 0) 1 304 ∧ Int32.ofInt (0) = (0 : Int32) := by decide +kernel
theorem dL_law_304 : vm_at cL_law 304 (.ireturn) 1 305 := by decide +kernel
theorem dL_law_305 : vm_at cL_law 305 (.aload_n 1) 1 306 ∧ ((1 : Fin 4) : Nat) = 1 := by decide +kernel
theorem dL_law_306 : vm_at cL_law 306 (.aload_n 0) 1 307 ∧ ((0 : Fin 4) : Nat) = 0 := by decide +kernel
theorem dL_law_307 : vm_at cL_law 307 (.iload_n 3) 1 308 ∧ ((3 : Fin 4) : Nat) = 3 := by decide +kernel
theorem dL_law_308 : vm_at cL_law 308 (.iconst 1) 1 309 ∧ Int32.ofInt (1) = (1 : Int32) := by decide +kernel
theorem dL_law_309 : vm_at cL_law 309 (.iadd) 1 310 := by decide +kernel
theorem dL_law_310 : vm_at cL_law 310 (.iaload) 1 311 := by decide +kernel
theorem dL_law_311 : vm_at cL_law 311 (.invokevirtual 39) 3 314 := by decide +kernel
theorem dL_law_314 : vm_at cL_law 314 (.aload_n 2) 1 315 ∧ ((2 : Fin 4) : Nat) = 2 := by decide +kernel
theorem dL_law_315 : vm_at cL_law 315 (.aload_n 0) 1 316 ∧ ((0 : Fin 4) : Nat) = 0 := by decide +kernel
theorem dL_law_316 : vm_at cL_law 316 (.iload_n 3) 1 317 ∧ ((3 : Fin 4) : Nat) = 3 := by decide +kernel
theorem dL_law_317 : vm_at cL_law 317 (.iconst 1) 1 318 ∧ Int32.ofInt (1) = (1 : Int32) := by decide +kernel
theorem dL_law_318 : vm_at cL_law 318 (.iadd) 1 319 := by decide +kernel
theorem dL_law_319 : vm_at cL_law 319 (.iaload) 1 320 := by decide +kernel
theorem dL_law_320 : vm_at cL_law 320 (.invokevirtual 42) 3 323 := by decide +kernel
theorem dL_law_323 : vm_br cL_law 323 (.if_icmp .eq 531) 3 326 (531) 854 := by decide +kernel
theorem dL_law_326 : vm_at cL_law 326 (.iconst 0) 1 327 ∧ Int32.ofInt (0) = (0 : Int32) := by decide +kernel
theorem dL_law_327 : vm_at cL_law 327 (.ireturn) 1 328 := by decide +kernel
theorem dL_law_328 : vm_at cL_law 328 (.aload_n 1) 1 329 ∧ ((1 : Fin 4) : Nat) = 1 := by decide +kernel
theorem dL_law_329 : vm_at cL_law 329 (.invokevirtual 43) 3 332 := by decide +kernel
theorem dL_law_332 : vm_at cL_law 332 (.aload_n 2) 1 333 ∧ ((2 : Fin 4) : Nat) = 2 := by decide +kernel
theorem dL_law_333 : vm_at cL_law 333 (.invokevirtual 46) 3 336 := by decide +kernel
theorem dL_law_336 : vm_br cL_law 336 (.if_icmp .eq 518) 3 339 (518) 854 := by decide +kernel
theorem dL_law_339 : vm_at cL_law 339 (.iconst 0) 1 340 ∧ Int32.ofInt (0) = (0 : Int32) := by decide +kernel
theorem dL_law_340 : vm_at cL_law 340 (.ireturn) 1 341 := by decide +kernel
theorem dL_law_341 : vm_at cL_law 341 (.aload_n 1) 1 342 ∧ ((1 : Fin 4) : Nat) = 1 := by decide +kernel
theorem dL_law_342 : vm_at cL_law 342 (.aload_n 0) 1 343 ∧ ((0 : Fin 4) : Nat) = 0 := by decide +kernel
theorem dL_law_343 : vm_at cL_law 343 (.iload_n 3) 1 344 ∧ ((3 : Fin 4) : Nat) = 3 := by decide +kernel
theorem dL_law_344 : vm_at cL_law 344 (.iconst 1) 1 345 ∧ Int32.ofInt (1) = (1 : Int32) := by decide +kernel
theorem dL_law_345 : vm_at cL_law 345 (.iadd) 1 346 := by decide +kernel
theorem dL_law_346 : vm_at cL_law 346 (.iaload) 1 347 := by decide +kernel
theorem dL_law_347 : vm_at cL_law 347 (.invokevirtual 47) 3 350 := by decide +kernel
theorem dL_law_350 : vm_at cL_law 350 (.aload_n 2) 1 351 ∧ ((2 : Fin 4) : Nat) = 2 := by decide +kernel
theorem dL_law_351 : vm_at cL_law 351 (.aload_n 0) 1 352 ∧ ((0 : Fin 4) : Nat) = 0 := by decide +kernel
theorem dL_law_352 : vm_at cL_law 352 (.iload_n 3) 1 353 ∧ ((3 : Fin 4) : Nat) = 3 := by decide +kernel
theorem dL_law_353 : vm_at cL_law 353 (.iconst 1) 1 354 ∧ Int32.ofInt (1) = (1 : Int32) := by decide +kernel
theorem dL_law_354 : vm_at cL_law 354 (.iadd) 1 355 := by decide +kernel
theorem dL_law_355 : vm_at cL_law 355 (.iaload) 1 356 := by decide +kernel
theorem dL_law_356 : vm_at cL_law 356 (.invokevirtual 50) 3 359 := by decide +kernel
theorem dL_law_359 : vm_br cL_law 359 (.if_icmp .eq 495) 3 362 (495) 854 := by decide +kernel
theorem dL_law_362 : vm_at cL_law 362 (.iconst 0) 1 363 ∧ Int32.ofInt (0) = (0 : Int32) := by decide +kernel
theorem dL_law_363 : vm_at cL_law 363 (.ireturn) 1 364 := by decide +kernel
theorem dL_law_364 : vm_at cL_law 364 (.aload_n 1) 1 365 ∧ ((1 : Fin 4) : Nat) = 1 := by decide +kernel
theorem dL_law_365 : vm_at cL_law 365 (.aload_n 0) 1 366 ∧ ((0 : Fin 4) : Nat) = 0 := by decide +kernel
theorem dL_law_366 : vm_at cL_law 366 (.iload_n 3) 1 367 ∧ ((3 : Fin 4) : Nat) = 3 := by decide +kernel
theorem dL_law_367 : vm_at cL_law 367 (.iconst 1) 1 368 ∧ Int32.ofInt (1) = (1 : Int32) := by decide +kernel
theorem dL_law_368 : vm_at cL_law 368 (.iadd) 1 369 := by decide +kernel
theorem dL_law_369 : vm_at cL_law 369 (.iaload) 1 370 := by decide +kernel
theorem dL_law_370 : vm_at cL_law 370 (.aload_n 0) 1 371 ∧ ((0 : Fin 4) : Nat) = 0 := by decide +kernel
theorem dL_law_371 : vm_at cL_law 371 (.iload_n 3) 1 372 ∧ ((3 : Fin 4) : Nat) = 3 := by decide +kernel
theorem dL_law_372 : vm_at cL_law 372 (.iconst 2) 1 373 ∧ Int32.ofInt (2) = (2 : Int32) := by decide +kernel
theorem dL_law_373 : vm_at cL_law 373 (.iadd) 1 374 := by decide +kernel
theorem dL_law_374 : vm_at cL_law 374 (.iaload) 1 375 := by decide +kernel
theorem dL_law_375 : vm_at cL_law 375 (.invokevirtual 51) 3 378 := by decide +kernel
theorem dL_law_378 : vm_at cL_law 378 (.aload_n 2) 1 379 ∧ ((2 : Fin 4) : Nat) = 2 := by decide +kernel
theorem dL_law_379 : vm_at cL_law 379 (.aload_n 0) 1 380 ∧ ((0 : Fin 4) : Nat) = 0 := by decide +kernel
theorem dL_law_380 : vm_at cL_law 380 (.iload_n 3) 1 381 ∧ ((3 : Fin 4) : Nat) = 3 := by decide +kernel
theorem dL_law_381 : vm_at cL_law 381 (.iconst 1) 1 382 ∧ Int32.ofInt (1) = (1 : Int32) := by decide +kernel
theorem dL_law_382 : vm_at cL_law 382 (.iadd) 1 383 := by decide +kernel
theorem dL_law_383 : vm_at cL_law 383 (.iaload) 1 384 := by decide +kernel
theorem dL_law_384 : vm_at cL_law 384 (.aload_n 0) 1 385 ∧ ((0 : Fin 4) : Nat) = 0 := by decide +kernel
theorem dL_law_385 : vm_at cL_law 385 (.iload_n 3) 1 386 ∧ ((3 : Fin 4) : Nat) = 3 := by decide +kernel
theorem dL_law_386 : vm_at cL_law 386 (.iconst 2) 1 387 ∧ Int32.ofInt (2) = (2 : Int32) := by decide +kernel
theorem dL_law_387 : vm_at cL_law 387 (.iadd) 1 388 := by decide +kernel
theorem dL_law_388 : vm_at cL_law 388 (.iaload) 1 389 := by decide +kernel
theorem dL_law_389 : vm_at cL_law 389 (.invokevirtual 54) 3 392 := by decide +kernel
theorem dL_law_392 : vm_br cL_law 392 (.if_icmp .eq 462) 3 395 (462) 854 := by decide +kernel
theorem dL_law_395 : vm_at cL_law 395 (.iconst 0) 1 396 ∧ Int32.ofInt (0) = (0 : Int32) := by decide +kernel
theorem dL_law_396 : vm_at cL_law 396 (.ireturn) 1 397 := by decide +kernel
theorem dL_law_397 : vm_at cL_law 397 (.aload_n 1) 1 398 ∧ ((1 : Fin 4) : Nat) = 1 := by decide +kernel
theorem dL_law_398 : vm_at cL_law 398 (.aload_n 0) 1 399 ∧ ((0 : Fin 4) : Nat) = 0 := by decide +kernel
theorem dL_law_399 : vm_at cL_law 399 (.iload_n 3) 1 400 ∧ ((3 : Fin 4) : Nat) = 3 := by decide +kernel
theorem dL_law_400 : vm_at cL_law 400 (.iconst 1) 1 401 ∧ Int32.ofInt (1) = (1 : Int32) := by decide +kernel
theorem dL_law_401 : vm_at cL_law 401 (.iadd) 1 402 := by decide +kernel
theorem dL_law_402 : vm_at cL_law 402 (.iaload) 1 403 := by decide +kernel
theorem dL_law_403 : vm_at cL_law 403 (.invokevirtual 55) 3 406 := by decide +kernel
theorem dL_law_406 : vm_at cL_law 406 (.aload_n 2) 1 407 ∧ ((2 : Fin 4) : Nat) = 2 := by decide +kernel
theorem dL_law_407 : vm_at cL_law 407 (.aload_n 0) 1 408 ∧ ((0 : Fin 4) : Nat) = 0 := by decide +kernel
theorem dL_law_408 : vm_at cL_law 408 (.iload_n 3) 1 409 ∧ ((3 : Fin 4) : Nat) = 3 := by decide +kernel
theorem dL_law_409 : vm_at cL_law 409 (.iconst 1) 1 410 ∧ Int32.ofInt (1) = (1 : Int32) := by decide +kernel
theorem dL_law_410 : vm_at cL_law 410 (.iadd) 1 411 := by decide +kernel
theorem dL_law_411 : vm_at cL_law 411 (.iaload) 1 412 := by decide +kernel
theorem dL_law_412 : vm_at cL_law 412 (.invokevirtual 58) 3 415 := by decide +kernel
theorem dL_law_415 : vm_br cL_law 415 (.if_icmp .eq 439) 3 418 (439) 854 := by decide +kernel
theorem dL_law_418 : vm_at cL_law 418 (.iconst 0) 1 419 ∧ Int32.ofInt (0) = (0 : Int32) := by decide +kernel
theorem dL_law_419 : vm_at cL_law 419 (.ireturn) 1 420 := by decide +kernel
theorem dL_law_420 : vm_at cL_law 420 (.aload_n 1) 1 421 ∧ ((1 : Fin 4) : Nat) = 1 := by decide +kernel
theorem dL_law_421 : vm_at cL_law 421 (.aload_n 0) 1 422 ∧ ((0 : Fin 4) : Nat) = 0 := by decide +kernel
theorem dL_law_422 : vm_at cL_law 422 (.iload_n 3) 1 423 ∧ ((3 : Fin 4) : Nat) = 3 := by decide +kernel
theorem dL_law_423 : vm_at cL_law 423 (.iconst 1) 1 424 ∧ Int32.ofInt (1) = (1 : Int32) := by decide +kernel
theorem dL_law_424 : vm_at cL_law 424 (.iadd) 1 425 := by decide +kernel
theorem dL_law_425 : vm_at cL_law 425 (.iaload) 1 426 := by decide +kernel
theorem dL_law_426 : vm_at cL_law 426 (.invokevirtual 59) 3 429 := by decide +kernel
theorem dL_law_429 : vm_at cL_law 429 (.aload_n 2) 1 430 ∧ ((2 : Fin 4) : Nat) = 2 := by decide +kernel
theorem dL_law_430 : vm_at cL_law 430 (.aload_n 0) 1 431 ∧ ((0 : Fin 4) : Nat) = 0 := by decide +kernel
theorem dL_law_431 : vm_at cL_law 431 (.iload_n 3) 1 432 ∧ ((3 : Fin 4) : Nat) = 3 := by decide +kernel
theorem dL_law_432 : vm_at cL_law 432 (.iconst 1) 1 433 ∧ Int32.ofInt (1) = (1 : Int32) := by decide +kernel
theorem dL_law_433 : vm_at cL_law 433 (.iadd) 1 434 := by decide +kernel
theorem dL_law_434 : vm_at cL_law 434 (.iaload) 1 435 := by decide +kernel
theorem dL_law_435 : vm_at cL_law 435 (.invokevirtual 62) 3 438 := by decide +kernel
theorem dL_law_438 : vm_br cL_law 438 (.if_icmp .eq 416) 3 441 (416) 854 := by decide +kernel
theorem dL_law_441 : vm_at cL_law 441 (.iconst 0) 1 442 ∧ Int32.ofInt (0) = (0 : Int32) := by decide +kernel
theorem dL_law_442 : vm_at cL_law 442 (.ireturn) 1 443 := by decide +kernel
theorem dL_law_443 : vm_at cL_law 443 (.aload_n 1) 1 444 ∧ ((1 : Fin 4) : Nat) = 1 := by decide +kernel
theorem dL_law_444 : vm_at cL_law 444 (.aload_n 0) 1 445 ∧ ((0 : Fin 4) : Nat) = 0 := by decide +kernel
theorem dL_law_445 : vm_at cL_law 445 (.iload_n 3) 1 446 ∧ ((3 : Fin 4) : Nat) = 3 := by decide +kernel
theorem dL_law_446 : vm_at cL_law 446 (.iconst 1) 1 447 ∧ Int32.ofInt (1) = (1 : Int32) := by decide +kernel
theorem dL_law_447 : vm_at cL_law 447 (.iadd) 1 448 := by decide +kernel
theorem dL_law_448 : vm_at cL_law 448 (.iaload) 1 449 := by decide +kernel
theorem dL_law_449 : vm_at cL_law 449 (.invokevirtual 63) 3 452 := by decide +kernel
theorem dL_law_452 : vm_at cL_law 452 (.aload_n 2) 1 453 ∧ ((2 : Fin 4) : Nat) = 2 := by decide +kernel
theorem dL_law_453 : vm_at cL_law 453 (.aload_n 0) 1 454 ∧ ((0 : Fin 4) : Nat) = 0 := by decide +kernel
theorem dL_law_454 : vm_at cL_law 454 (.iload_n 3) 1 455 ∧ ((3 : Fin 4) : Nat) = 3 := by decide +kernel
theorem dL_law_455 : vm_at cL_law 455 (.iconst 1) 1 456 ∧ Int32.ofInt (1) = (1 : Int32) := by decide +kernel
theorem dL_law_456 : vm_at cL_law 456 (.iadd) 1 457 := by decide +kernel
theorem dL_law_457 : vm_at cL_law 457 (.iaload) 1 458 := by decide +kernel
theorem dL_law_458 : vm_at cL_law 458 (.invokevirtual 66) 3 461 := by decide +kernel
theorem dL_law_461 : vm_br cL_law 461 (.if_icmp .eq 393) 3 464 (393) 854 := by decide +kernel
theorem dL_law_464 : vm_at cL_law 464 (.iconst 0) 1 465 ∧ Int32.ofInt (0) = (0 : Int32) := by decide +kernel
theorem dL_law_465 : vm_at cL_law 465 (.ireturn) 1 466 := by decide +kernel
theorem dL_law_466 : vm_at cL_law 466 (.aload_n 1) 1 467 ∧ ((1 : Fin 4) : Nat) = 1 := by decide +kernel
theorem dL_law_467 : vm_at cL_law 467 (.aload_n 0) 1 468 ∧ ((0 : Fin 4) : Nat) = 0 := by decide +kernel
theorem dL_law_468 : vm_at cL_law 468 (.iload_n 3) 1 469 ∧ ((3 : Fin 4) : Nat) = 3 := by decide +kernel
theorem dL_law_469 : vm_at cL_law 469 (.iconst 1) 1 470 ∧ Int32.ofInt (1) = (1 : Int32) := by decide +kernel
theorem dL_law_470 : vm_at cL_law 470 (.iadd) 1 471 := by decide +kernel
theorem dL_law_471 : vm_at cL_law 471 (.iaload) 1 472 := by decide +kernel
theorem dL_law_472 : vm_at cL_law 472 (.invokevirtual 67) 3 475 := by decide +kernel
theorem dL_law_475 : vm_at cL_law 475 (.aload_n 2) 1 476 ∧ ((2 : Fin 4) : Nat) = 2 := by decide +kernel
theorem dL_law_476 : vm_at cL_law 476 (.aload_n 0) 1 477 ∧ ((0 : Fin 4) : Nat) = 0 := by decide +kernel
theorem dL_law_477 : vm_at cL_law 477 (.iload_n 3) 1 478 ∧ ((3 : Fin 4) : Nat) = 3 := by decide +kernel
theorem dL_law_478 : vm_at cL_law 478 (.iconst 1) 1 479 ∧ Int32.ofInt (1) = (1 : Int32) := by decide +kernel
theorem dL_law_479 : vm_at cL_law 479 (.iadd) 1 480 := by decide +kernel
theorem dL_law_480 : vm_at cL_law 480 (.iaload) 1 481 := by decide +kernel
theorem dL_law_481 : vm_at cL_law 481 (.invokevirtual 70) 3 484 := by decide +kernel
theorem dL_law_484 : vm_br cL_law 484 (.if_icmp .eq 370) 3 487 (370) 854 := by decide +kernel
theorem dL_law_487 : vm_at cL_law 487 (.iconst 0) 1 488 ∧ Int32.ofInt (0) = (0 : Int32) := by decide +kernel
theorem dL_law_488 : vm_at cL_law 488 (.ireturn) 1 489 := by decide +kernel
theorem dL_law_489 : vm_at cL_law 489 (.aload_n 1) 1 490 ∧ ((1 : Fin 4) : Nat) = 1 := by decide +kernel
theorem dL_law_490 : vm_at cL_law 490 (.aload_n 0) 1 491 ∧ ((0 : Fin 4) : Nat) = 0 := by decide +kernel
theorem dL_law_491 : vm_at cL_law 491 (.iload_n 3) 1 492 ∧ ((3 : Fin 4) : Nat) = 3 := by decide +kernel
theorem dL_law_492 : vm_at cL_law 492 (.iconst 1) 1 493 ∧ Int32.ofInt (1) = (1 : Int32) := by decide +kernel
theorem dL_law_493 : vm_at cL_law 493 (.iadd) 1 494 := by decide +kernel
theorem dL_law_494 : vm_at cL_law 494 (.iaload) 1 495 := by decide +kernel
theorem dL_law_495 : vm_at cL_law 495 (.invokevirtual 71) 3 498 := by decide +kernel
theorem dL_law_498 : vm_at cL_law 498 (.aload_n 2) 1 499 ∧ ((2 : Fin 4) : Nat) = 2 := by decide +kernel
theorem dL_law_499 : vm_at cL_law 499 (.aload_n 0) 1 500 ∧ ((0 : Fin 4) : Nat) = 0 := by decide +kernel
theorem dL_law_500 : vm_at cL_law 500 (.iload_n 3) 1 501 ∧ ((3 : Fin 4) : Nat) = 3 := by decide +kernel
theorem dL_law_501 : vm_at cL_law 501 (.iconst 1) 1 502 ∧ Int32.ofInt (1) = (1 : Int32) := by decide +kernel
theorem dL_law_502 : vm_at cL_law 502 (.iadd) 1 503 := by decide +kernel
theorem dL_law_503 : vm_at cL_law 503 (.iaload) 1 504 := by decide +kernel
theorem dL_law_504 : vm_at cL_law 504 (.invokevirtual 74) 3 507 := by decide +kernel
theorem dL_law_507 : vm_br cL_law 507 (.if_icmp .eq 347) 3 510 (347) 854 := by decide +kernel
theorem dL_law_510 : vm_at cL_law 510 (.iconst 0) 1 511 ∧ Int32.ofInt (0) = (0 : Int32) := by decide +kernel
theorem dL_law_511 : vm_at cL_law 511 (.ireturn) 1 512 := by decide +kernel
theorem dL_law_512 : vm_at cL_law 512 (.aload_n 1) 1 513 ∧ ((1 : Fin 4) : Nat) = 1 := by decide +kernel
theorem dL_law_513 : vm_at cL_law 513 (.invokevirtual 75) 3 516 := by decide +kernel
theorem dL_law_516 : vm_at cL_law 516 (.aload_n 2) 1 517 ∧ ((2 : Fin 4) : Nat) = 2 := by decide +kernel
theorem dL_law_517 : vm_at cL_law 517 (.invokevirtual 78) 3 520 := by decide +kernel
theorem dL_law_520 : vm_br cL_law 520 (.if_icmp .eq 334) 3 523 (334) 854 := by decide +kernel
theorem dL_law_523 : vm_at cL_law 523 (.iconst 0) 1 524 ∧ Int32.ofInt (0) = (0 : Int32) := by decide +kernel
theorem dL_law_524 : vm_at cL_law 524 (.ireturn) 1 525 := by decide +kernel
theorem dL_law_525 : vm_at cL_law 525 (.aload_n 1) 1 526 ∧ ((1 : Fin 4) : Nat) = 1 := by decide +kernel
theorem dL_law_526 : vm_at cL_law 526 (.aload_n 0) 1 527 ∧ ((0 : Fin 4) : Nat) = 0 := by decide +kernel
theorem dL_law_527 : vm_at cL_law 527 (.iload_n 3) 1 528 ∧ ((3 : Fin 4) : Nat) = 3 := by decide +kernel
theorem dL_law_528 : vm_at cL_law 528 (.iconst 1) 1 529 ∧ Int32.ofInt (1) = (1 : Int32) := by decide +kernel
theorem dL_law_529 : vm_at cL_law 529 (.iadd) 1 530 := by decide +kernel
theorem dL_law_530 : vm_at cL_law 530 (.iaload) 1 531 := by decide +kernel
theorem dL_law_531 : vm_at cL_law 531 (.invokevirtual 79) 3 534 := by decide +kernel
theorem dL_law_534 : vm_at cL_law 534 (.aload_n 2) 1 535 ∧ ((2 : Fin 4) : Nat) = 2 := by decide +kernel
theorem dL_law_535 : vm_at cL_law 535 (.aload_n 0) 1 536 ∧ ((0 : Fin 4) : Nat) = 0 := by decide +kernel
theorem dL_law_536 : vm_at cL_law 536 (.iload_n 3) 1 537 ∧ ((3 : Fin 4) : Nat) = 3 := by decide +kernel
theorem dL_law_537 : vm_at cL_law 537 (.iconst 1) 1 538 ∧ Int32.ofInt (1) = (1 : Int32) := by decide +kernel
theorem dL_law_538 : vm_at cL_law 538 (.iadd) 1 539 := by decide +kernel
theorem dL_law_539 : vm_at cL_law 539 (.iaload) 1 540 := by decide +kernel
theorem dL_law_540 : vm_at cL_law 540 (.invokevirtual 82) 3 543 := by decide +kernel
theorem dL_law_543 : vm_br cL_law 543 (.if_icmp .eq 311) 3 546 (311) 854 := by decide +kernel
theorem dL_law_546 : vm_at cL_law 546 (.iconst 0) 1 547 ∧ Int32.ofInt (0) = (0 : Int32) := by decide +kernel
theorem dL_law_547 : vm_at cL_law 547 (.ireturn) 1 548 := by decide +kernel
theorem dL_law_548 : vm_at cL_law 548 (.aload_n 1) 1 549 ∧ ((1 : Fin 4) : Nat) = 1 := by decide +kernel
theorem dL_law_549 : vm_at cL_law 549 (.invokevirtual 83) 3 552 := by decide +kernel
theorem dL_law_552 : vm_at cL_law 552 (.aload_n 2) 1 553 ∧ ((2 : Fin 4) : Nat) = 2 := by decide +kernel
theorem dL_law_553 : vm_at cL_law 553 (.invokevirtual 86) 3 556 := by decide +kernel
theorem dL_law_556 : vm_br cL_law 556 (.if_icmp .eq 298) 3 559 (298) 854 := by decide +kernel
theorem dL_law_559 : vm_at cL_law 559 (.iconst 0) 1 560 ∧ Int32.ofInt (0) = (0 : Int32) := by decide +kernel
theorem dL_law_560 : vm_at cL_law 560 (.ireturn) 1 561 := by decide +kernel
theorem dL_law_561 : vm_at cL_law 561 (.aload_n 1) 1 562 ∧ ((1 : Fin 4) : Nat) = 1 := by decide +kernel
theorem dL_law_562 : vm_at cL_law 562 (.aload_n 0) 1 563 ∧ ((0 : Fin 4) : Nat) = 0 := by decide +kernel
theorem dL_law_563 : vm_at cL_law 563 (.iload_n 3) 1 564 ∧ ((3 : Fin 4) : Nat) = 3 := by decide +kernel
theorem dL_law_564 : vm_at cL_law 564 (.iconst 1) 1 565 ∧ Int32.ofInt (1) = (1 : Int32) := by decide +kernel
theorem dL_law_565 : vm_at cL_law 565 (.iadd) 1 566 := by decide +kernel
theorem dL_law_566 : vm_at cL_law 566 (.iaload) 1 567 := by decide +kernel
theorem dL_law_567 : vm_at cL_law 567 (.aload_n 0) 1 568 ∧ ((0 : Fin 4) : Nat) = 0 := by decide +kernel
theorem dL_law_568 : vm_at cL_law 568 (.iload_n 3) 1 569 ∧ ((3 : Fin 4) : Nat) = 3 := by decide +kernel
theorem dL_law_569 : vm_at cL_law 569 (.iconst 2) 1 570 ∧ Int32.ofInt (2) = (2 : Int32) := by decide +kernel
theorem dL_law_570 : vm_at cL_law 570 (.iadd) 1 571 := by decide +kernel
theorem dL_law_571 : vm_at cL_law 571 (.iaload) 1 572 := by decide +kernel
theorem dL_law_572 : vm_at cL_law 572 (.invokevirtual 87) 3 575 := by decide +kernel
theorem dL_law_575 : vm_at cL_law 575 (.aload_n 2) 1 576 ∧ ((2 : Fin 4) : Nat) = 2 := by decide +kernel
theorem dL_law_576 : vm_at cL_law 576 (.aload_n 0) 1 577 ∧ ((0 : Fin 4) : Nat) = 0 := by decide +kernel
theorem dL_law_577 : vm_at cL_law 577 (.iload_n 3) 1 578 ∧ ((3 : Fin 4) : Nat) = 3 := by decide +kernel
theorem dL_law_578 : vm_at cL_law 578 (.iconst 1) 1 579 ∧ Int32.ofInt (1) = (1 : Int32) := by decide +kernel
theorem dL_law_579 : vm_at cL_law 579 (.iadd) 1 580 := by decide +kernel
theorem dL_law_580 : vm_at cL_law 580 (.iaload) 1 581 := by decide +kernel
theorem dL_law_581 : vm_at cL_law 581 (.aload_n 0) 1 582 ∧ ((0 : Fin 4) : Nat) = 0 := by decide +kernel
theorem dL_law_582 : vm_at cL_law 582 (.iload_n 3) 1 583 ∧ ((3 : Fin 4) : Nat) = 3 := by decide +kernel
theorem dL_law_583 : vm_at cL_law 583 (.iconst 2) 1 584 ∧ Int32.ofInt (2) = (2 : Int32) := by decide +kernel
theorem dL_law_584 : vm_at cL_law 584 (.iadd) 1 585 := by decide +kernel
theorem dL_law_585 : vm_at cL_law 585 (.iaload) 1 586 := by decide +kernel
theorem dL_law_586 : vm_at cL_law 586 (.invokevirtual 90) 3 589 := by decide +kernel
theorem dL_law_589 : vm_br cL_law 589 (.if_icmp .eq 265) 3 592 (265) 854 := by decide +kernel
theorem dL_law_592 : vm_at cL_law 592 (.iconst 0) 1 593 ∧ Int32.ofInt (0) = (0 : Int32) := by decide +kernel
theorem dL_law_593 : vm_at cL_law 593 (.ireturn) 1 594 := by decide +kernel
theorem dL_law_594 : vm_at cL_law 594 (.aload_n 1) 1 595 ∧ ((1 : Fin 4) : Nat) = 1 := by decide +kernel
theorem dL_law_595 : vm_at cL_law 595 (.aload_n 0) 1 596 ∧ ((0 : Fin 4) : Nat) = 0 := by decide +kernel
theorem dL_law_596 : vm_at cL_law 596 (.iload_n 3) 1 597 ∧ ((3 : Fin 4) : Nat) = 3 := by decide +kernel
theorem dL_law_597 : vm_at cL_law 597 (.iconst 1) 1 598 ∧ Int32.ofInt (1) = (1 : Int32) := by decide +kernel
theorem dL_law_598 : vm_at cL_law 598 (.iadd) 1 599 := by decide +kernel
theorem dL_law_599 : vm_at cL_law 599 (.iaload) 1 600 := by decide +kernel
theorem dL_law_600 : vm_at cL_law 600 (.aload_n 0) 1 601 ∧ ((0 : Fin 4) : Nat) = 0 := by decide +kernel
theorem dL_law_601 : vm_at cL_law 601 (.iload_n 3) 1 602 ∧ ((3 : Fin 4) : Nat) = 3 := by decide +kernel
theorem dL_law_602 : vm_at cL_law 602 (.iconst 2) 1 603 ∧ Int32.ofInt (2) = (2 : Int32) := by decide +kernel
theorem dL_law_603 : vm_at cL_law 603 (.iadd) 1 604 := by decide +kernel
theorem dL_law_604 : vm_at cL_law 604 (.iaload) 1 605 := by decide +kernel
theorem dL_law_605 : vm_at cL_law 605 (.aload_n 0) 1 606 ∧ ((0 : Fin 4) : Nat) = 0 := by decide +kernel
theorem dL_law_606 : vm_at cL_law 606 (.iload_n 3) 1 607 ∧ ((3 : Fin 4) : Nat) = 3 := by decide +kernel
theorem dL_law_607 : vm_at cL_law 607 (.iconst 3) 1 608 ∧ Int32.ofInt (3) = (3 : Int32) := by decide +kernel
theorem dL_law_608 : vm_at cL_law 608 (.iadd) 1 609 := by decide +kernel
theorem dL_law_609 : vm_at cL_law 609 (.iaload) 1 610 := by decide +kernel
theorem dL_law_610 : vm_at cL_law 610 (.invokevirtual 91) 3 613 := by decide +kernel
theorem dL_law_613 : vm_at cL_law 613 (.aload_n 2) 1 614 ∧ ((2 : Fin 4) : Nat) = 2 := by decide +kernel
theorem dL_law_614 : vm_at cL_law 614 (.aload_n 0) 1 615 ∧ ((0 : Fin 4) : Nat) = 0 := by decide +kernel
theorem dL_law_615 : vm_at cL_law 615 (.iload_n 3) 1 616 ∧ ((3 : Fin 4) : Nat) = 3 := by decide +kernel
theorem dL_law_616 : vm_at cL_law 616 (.iconst 1) 1 617 ∧ Int32.ofInt (1) = (1 : Int32) := by decide +kernel
theorem dL_law_617 : vm_at cL_law 617 (.iadd) 1 618 := by decide +kernel
theorem dL_law_618 : vm_at cL_law 618 (.iaload) 1 619 := by decide +kernel
theorem dL_law_619 : vm_at cL_law 619 (.aload_n 0) 1 620 ∧ ((0 : Fin 4) : Nat) = 0 := by decide +kernel
theorem dL_law_620 : vm_at cL_law 620 (.iload_n 3) 1 621 ∧ ((3 : Fin 4) : Nat) = 3 := by decide +kernel
theorem dL_law_621 : vm_at cL_law 621 (.iconst 2) 1 622 ∧ Int32.ofInt (2) = (2 : Int32) := by decide +kernel
theorem dL_law_622 : vm_at cL_law 622 (.iadd) 1 623 := by decide +kernel
theorem dL_law_623 : vm_at cL_law 623 (.iaload) 1 624 := by decide +kernel
theorem dL_law_624 : vm_at cL_law 624 (.aload_n 0) 1 625 ∧ ((0 : Fin 4) : Nat) = 0 := by decide +kernel
theorem dL_law_625 : vm_at cL_law 625 (.iload_n 3) 1 626 ∧ ((3 : Fin 4) : Nat) = 3 := by decide +kernel
theorem dL_law_626 : vm_at cL_law 626 (.iconst 3) 1 627 ∧ Int32.ofInt (3) = (3 : Int32) := by decide +kernel
theorem dL_law_627 : vm_at cL_law 627 (.iadd) 1 628 := by decide +kernel
theorem dL_law_628 : vm_at cL_law 628 (.iaload) 1 629 := by decide +kernel
theorem dL_law_629 : vm_at cL_law 629 (.invokevirtual 95) 3 632 := by decide +kernel
theorem dL_law_632 : vm_br cL_law 632 (.if_icmp .eq 222) 3 635 (222) 854 := by decide +kernel
theorem dL_law_635 : vm_at cL_law 635 (.iconst 0) 1 636 ∧ Int32.ofInt (0) = (0 : Int32) := by decide +kernel
theorem dL_law_636 : vm_at cL_law 636 (.ireturn) 1 637 := by decide +kernel
theorem dL_law_637 : vm_at cL_law 637 (.aload_n 1) 1 638 ∧ ((1 : Fin 4) : Nat) = 1 := by decide +kernel
theorem dL_law_638 : vm_at cL_law 638 (.aload_n 0) 1 639 ∧ ((0 : Fin 4) : Nat) = 0 := by decide +kernel
theorem dL_law_639 : vm_at cL_law 639 (.iload_n 3) 1 640 ∧ ((3 : Fin 4) : Nat) = 3 := by decide +kernel
theorem dL_law_640 : vm_at cL_law 640 (.iconst 1) 1 641 ∧ Int32.ofInt (1) = (1 : Int32) := by decide +kernel
theorem dL_law_641 : vm_at cL_law 641 (.iadd) 1 642 := by decide +kernel
theorem dL_law_642 : vm_at cL_law 642 (.iaload) 1 643 := by decide +kernel
theorem dL_law_643 : vm_at cL_law 643 (.invokevirtual 96) 3 646 := by decide +kernel
theorem dL_law_646 : vm_at cL_law 646 (.aload_n 2) 1 647 ∧ ((2 : Fin 4) : Nat) = 2 := by decide +kernel
theorem dL_law_647 : vm_at cL_law 647 (.aload_n 0) 1 648 ∧ ((0 : Fin 4) : Nat) = 0 := by decide +kernel
theorem dL_law_648 : vm_at cL_law 648 (.iload_n 3) 1 649 ∧ ((3 : Fin 4) : Nat) = 3 := by decide +kernel
theorem dL_law_649 : vm_at cL_law 649 (.iconst 1) 1 650 ∧ Int32.ofInt (1) = (1 : Int32) := by decide +kernel
theorem dL_law_650 : vm_at cL_law 650 (.iadd) 1 651 := by decide +kernel
theorem dL_law_651 : vm_at cL_law 651 (.iaload) 1 652 := by decide +kernel
theorem dL_law_652 : vm_at cL_law 652 (.invokevirtual 99) 3 655 := by decide +kernel
theorem dL_law_655 : vm_br cL_law 655 (.if_icmp .eq 199) 3 658 (199) 854 := by decide +kernel
theorem dL_law_658 : vm_at cL_law 658 (.iconst 0) 1 659 ∧ Int32.ofInt (0) = (0 : Int32) := by decide +kernel
theorem dL_law_659 : vm_at cL_law 659 (.ireturn) 1 660 := by decide +kernel
theorem dL_law_660 : vm_at cL_law 660 (.aload_n 1) 1 661 ∧ ((1 : Fin 4) : Nat) = 1 := by decide +kernel
theorem dL_law_661 : vm_at cL_law 661 (.aload_n 0) 1 662 ∧ ((0 : Fin 4) : Nat) = 0 := by decide +kernel
theorem dL_law_662 : vm_at cL_law 662 (.iload_n 3) 1 663 ∧ ((3 : Fin 4) : Nat) = 3 := by decide +kernel
theorem dL_law_663 : vm_at cL_law 663 (.iconst 1) 1 664 ∧ Int32.ofInt (1) = (1 : Int32) := by decide +kernel
theorem dL_law_664 : vm_at cL_law 664 (.iadd) 1 665 := by decide +kernel
theorem dL_law_665 : vm_at cL_law 665 (.iaload) 1 666 := by decide +kernel
theorem dL_law_666 : vm_at cL_law 666 (.aload_n 0) 1 667 ∧ ((0 : Fin 4) : Nat) = 0 := by decide +kernel
theorem dL_law_667 : vm_at cL_law 667 (.iload_n 3) 1 668 ∧ ((3 : Fin 4) : Nat) = 3 := by decide +kernel
theorem dL_law_668 : vm_at cL_law 668 (.iconst 2) 1 669 ∧ Int32.ofInt (2) = (2 : Int32) := by decide +kernel
theorem dL_law_669 : vm_at cL_law 669 (.iadd) 1 670 := by decide +kernel
theorem dL_law_670 : vm_at cL_law 670 (.iaload) 1 671 := by decide +kernel
theorem dL_law_671 : vm_at cL_law 671 (.aload_n 0) 1 672 ∧ ((0 : Fin 4) : Nat) = 0 := by decide +kernel
theorem dL_law_672 : vm_at cL_law 672 (.iload_n 3) 1 673 ∧ ((3 : Fin 4) : Nat) = 3 := by decide +kernel
theorem dL_law_673 : vm_at cL_law 673 (.iconst 3) 1 674 ∧ Int32.ofInt (3) = (3 : Int32) := by decide +kernel
theorem dL_law_674 : vm_at cL_law 674 (.iadd) 1 675 := by decide +kernel
theorem dL_law_675 : vm_at cL_law 675 (.iaload) 1 676 := by decide +kernel
theorem dL_law_676 : vm_at cL_law 676 (.invokevirtual 100) 3 679 := by decide +kernel
theorem dL_law_679 : vm_at cL_law 679 (.aload_n 2) 1 680 ∧ ((2 : Fin 4) : Nat) = 2 := by decide +kernel
theorem dL_law_680 : vm_at cL_law 680 (.aload_n 0) 1 681 ∧ ((0 : Fin 4) : Nat) = 0 := by decide +kernel
theorem dL_law_681 : vm_at cL_law 681 (.iload_n 3) 1 682 ∧ ((3 : Fin 4) : Nat) = 3 := by decide +kernel
theorem dL_law_682 : vm_at cL_law 682 (.iconst 1) 1 683 ∧ Int32.ofInt (1) = (1 : Int32) := by decide +kernel
theorem dL_law_683 : vm_at cL_law 683 (.iadd) 1 684 := by decide +kernel
theorem dL_law_684 : vm_at cL_law 684 (.iaload) 1 685 := by decide +kernel
theorem dL_law_685 : vm_at cL_law 685 (.aload_n 0) 1 686 ∧ ((0 : Fin 4) : Nat) = 0 := by decide +kernel
theorem dL_law_686 : vm_at cL_law 686 (.iload_n 3) 1 687 ∧ ((3 : Fin 4) : Nat) = 3 := by decide +kernel
theorem dL_law_687 : vm_at cL_law 687 (.iconst 2) 1 688 ∧ Int32.ofInt (2) = (2 : Int32) := by decide +kernel
theorem dL_law_688 : vm_at cL_law 688 (.iadd) 1 689 := by decide +kernel
theorem dL_law_689 : vm_at cL_law 689 (.iaload) 1 690 := by decide +kernel
theorem dL_law_690 : vm_at cL_law 690 (.aload_n 0) 1 691 ∧ ((0 : Fin 4) : Nat) = 0 := by decide +kernel
theorem dL_law_691 : vm_at cL_law 691 (.iload_n 3) 1 692 ∧ ((3 : Fin 4) : Nat) = 3 := by decide +kernel
theorem dL_law_692 : vm_at cL_law 692 (.iconst 3) 1 693 ∧ Int32.ofInt (3) = (3 : Int32) := by decide +kernel
theorem dL_law_693 : vm_at cL_law 693 (.iadd) 1 694 := by decide +kernel
theorem dL_law_694 : vm_at cL_law 694 (.iaload) 1 695 := by decide +kernel
theorem dL_law_695 : vm_at cL_law 695 (.invokevirtual 103) 3 698 := by decide +kernel
theorem dL_law_698 : vm_br cL_law 698 (.if_icmp .eq 156) 3 701 (156) 854 := by decide +kernel
theorem dL_law_701 : vm_at cL_law 701 (.iconst 0) 1 702 ∧ Int32.ofInt (0) = (0 : Int32) := by decide +kernel
theorem dL_law_702 : vm_at cL_law 702 (.ireturn) 1 703 := by decide +kernel
theorem dL_law_703 : vm_at cL_law 703 (.aload_n 1) 1 704 ∧ ((1 : Fin 4) : Nat) = 1 := by decide +kernel
theorem dL_law_704 : vm_at cL_law 704 (.aload_n 0) 1 705 ∧ ((0 : Fin 4) : Nat) = 0 := by decide +kernel
theorem dL_law_705 : vm_at cL_law 705 (.iload_n 3) 1 706 ∧ ((3 : Fin 4) : Nat) = 3 := by decide +kernel
theorem dL_law_706 : vm_at cL_law 706 (.iconst 1) 1 707 ∧ Int32.ofInt (1) = (1 : Int32) := by decide +kernel
theorem dL_law_707 : vm_at cL_law 707 (.iadd) 1 708 := by decide +kernel
theorem dL_law_708 : vm_at cL_law 708 (.iaload) 1 709 := by decide +kernel
theorem dL_law_709 : vm_at cL_law 709 (.aload_n 0) 1 710 ∧ ((0 : Fin 4) : Nat) = 0 := by decide +kernel
theorem dL_law_710 : vm_at cL_law 710 (.iload_n 3) 1 711 ∧ ((3 : Fin 4) : Nat) = 3 := by decide +kernel
theorem dL_law_711 : vm_at cL_law 711 (.iconst 2) 1 712 ∧ Int32.ofInt (2) = (2 : Int32) := by decide +kernel
theorem dL_law_712 : vm_at cL_law 712 (.iadd) 1 713 := by decide +kernel
theorem dL_law_713 : vm_at cL_law 713 (.iaload) 1 714 := by decide +kernel
theorem dL_law_714 : vm_at cL_law 714 (.invokevirtual 104) 3 717 := by decide +kernel
theorem dL_law_717 : vm_at cL_law 717 (.aload_n 2) 1 718 ∧ ((2 : Fin 4) : Nat) = 2 := by decide +kernel
theorem dL_law_718 : vm_at cL_law 718 (.aload_n 0) 1 719 ∧ ((0 : Fin 4) : Nat) = 0 := by decide +kernel
theorem dL_law_719 : vm_at cL_law 719 (.iload_n 3) 1 720 ∧ ((3 : Fin 4) : Nat) = 3 := by decide +kernel
theorem dL_law_720 : vm_at cL_law 720 (.iconst 1) 1 721 ∧ Int32.ofInt (1) = (1 : Int32) := by decide +kernel
theorem dL_law_721 : vm_at cL_law 721 (.iadd) 1 722 := by decide +kernel
theorem dL_law_722 : vm_at cL_law 722 (.iaload) 1 723 := by decide +kernel
theorem dL_law_723 : vm_at cL_law 723 (.aload_n 0) 1 724 ∧ ((0 : Fin 4) : Nat) = 0 := by decide +kernel
theorem dL_law_724 : vm_at cL_law 724 (.iload_n 3) 1 725 ∧ ((3 : Fin 4) : Nat) = 3 := by decide +kernel
theorem dL_law_725 : vm_at cL_law 725 (.iconst 2) 1 726 ∧ Int32.ofInt (2) = (2 : Int32) := by decide +kernel
theorem dL_law_726 : vm_at cL_law 726 (.iadd) 1 727 := by decide +kernel
theorem dL_law_727 : vm_at cL_law 727 (.iaload) 1 728 := by decide +kernel
theorem dL_law_728 : vm_at cL_law 728 (.invokevirtual 107) 3 731 := by decide +kernel
theorem dL_law_731 : vm_br cL_law 731 (.if_icmp .eq 123) 3 734 (123) 854 := by decide +kernel
theorem dL_law_734 : vm_at cL_law 734 (.iconst 0) 1 735 ∧ Int32.ofInt (0) = (0 : Int32) := by decide +kernel
theorem dL_law_735 : vm_at cL_law 735 (.ireturn) 1 736 := by decide +kernel
theorem dL_law_736 : vm_at cL_law 736 (.aload_n 1) 1 737 ∧ ((1 : Fin 4) : Nat) = 1 := by decide +kernel
theorem dL_law_737 : vm_at cL_law 737 (.invokevirtual 108) 3 740 := by decide +kernel
theorem dL_law_740 : vm_at cL_law 740 (.aload_n 2) 1 741 ∧ ((2 : Fin 4) : Nat) = 2 := by decide +kernel
theorem dL_law_741 : vm_at cL_law 741 (.invokevirtual 111) 3 744 := by decide +kernel
theorem dL_law_744 : vm_br cL_law 744 (.if_icmp .eq 110) 3 747 (110) 854 := by decide +kernel
theorem dL_law_747 : vm_at cL_law 747 (.iconst 0) 1 748 ∧ Int32.ofInt (0) = (0 : Int32) := by decide +kernel
theorem dL_law_748 : vm_at cL_law 748 (.ireturn) 1 749 := by decide +kernel
theorem dL_law_749 : vm_at cL_law 749 (.aload_n 1) 1 750 ∧ ((1 : Fin 4) : Nat) = 1 := by decide +kernel
theorem dL_law_750 : vm_at cL_law 750 (.invokevirtual 112) 3 753 := by decide +kernel
theorem dL_law_753 : vm_at cL_law 753 (.aload_n 2) 1 754 ∧ ((2 : Fin 4) : Nat) = 2 := by decide +kernel
theorem dL_law_754 : vm_at cL_law 754 (.invokevirtual 115) 3 757 := by decide +kernel
theorem dL_law_757 : vm_br cL_law 757 (.if_icmp .eq 97) 3 760 (97) 854 := by decide +kernel
theorem dL_law_760 : vm_at cL_law 760 (.iconst 0) 1 761 ∧ Int32.ofInt (0) = (0 : Int32) := by decide +kernel
theorem dL_law_761 : vm_at cL_law 761 (.ireturn) 1 762 := by decide +kernel
theorem dL_law_762 : vm_at cL_law 762 (.aload_n 1) 1 763 ∧ ((1 : Fin 4) : Nat) = 1 := by decide +kernel
theorem dL_law_763 : vm_at cL_law 763 (.aload_n 0) 1 764 ∧ ((0 : Fin 4) : Nat) = 0 := by decide +kernel
theorem dL_law_764 : vm_at cL_law 764 (.iload_n 3) 1 765 ∧ ((3 : Fin 4) : Nat) = 3 := by decide +kernel
theorem dL_law_765 : vm_at cL_law 765 (.iconst 1) 1 766 ∧ Int32.ofInt (1) = (1 : Int32) := by decide +kernel
theorem dL_law_766 : vm_at cL_law 766 (.iadd) 1 767 := by decide +kernel
theorem dL_law_767 : vm_at cL_law 767 (.iaload) 1 768 := by decide +kernel
theorem dL_law_768 : vm_at cL_law 768 (.invokevirtual 116) 3 771 := by decide +kernel
theorem dL_law_771 : vm_at cL_law 771 (.aload_n 2) 1 772 ∧ ((2 : Fin 4) : Nat) = 2 := by decide +kernel
theorem dL_law_772 : vm_at cL_law 772 (.aload_n 0) 1 773 ∧ ((0 : Fin 4) : Nat) = 0 := by decide +kernel
theorem dL_law_773 : vm_at cL_law 773 (.iload_n 3) 1 774 ∧ ((3 : Fin 4) : Nat) = 3 := by decide +kernel
theorem dL_law_774 : vm_at cL_law 774 (.iconst 1) 1 775 ∧ Int32.ofInt (1) = (1 : Int32) := by decide +kernel
theorem dL_law_775 : vm_at cL_law 775 (.iadd) 1 776 := by decide +kernel
theorem dL_law_776 : vm_at cL_law 776 (.iaload) 1 777 := by decide +kernel
theorem dL_law_777 : vm_at cL_law 777 (.invokevirtual 119) 3 780 := by decide +kernel
theorem dL_law_780 : vm_br cL_law 780 (.if_icmp .eq 74) 3 783 (74) 854 := by decide +kernel
theorem dL_law_783 : vm_at cL_law 783 (.iconst 0) 1 784 ∧ Int32.ofInt (0) = (0 : Int32) := by decide +kernel
theorem dL_law_784 : vm_at cL_law 784 (.ireturn) 1 785 := by decide +kernel
theorem dL_law_785 : vm_at cL_law 785 (.aload_n 1) 1 786 ∧ ((1 : Fin 4) : Nat) = 1 := by decide +kernel
theorem dL_law_786 : vm_at cL_law 786 (.aload_n 0) 1 787 ∧ ((0 : Fin 4) : Nat) = 0 := by decide +kernel
theorem dL_law_787 : vm_at cL_law 787 (.iload_n 3) 1 788 ∧ ((3 : Fin 4) : Nat) = 3 := by decide +kernel
theorem dL_law_788 : vm_at cL_law 788 (.iconst 1) 1 789 ∧ Int32.ofInt (1) = (1 : Int32) := by decide +kernel
theorem dL_law_789 : vm_at cL_law 789 (.iadd) 1 790 := by decide +kernel
theorem dL_law_790 : vm_at cL_law 790 (.iaload) 1 791 := by decide +kernel
theorem dL_law_791 : vm_at cL_law 791 (.invokevirtual 120) 3 794 := by decide +kernel
theorem dL_law_794 : vm_at cL_law 794 (.aload_n 2) 1 795 ∧ ((2 : Fin 4) : Nat) = 2 := by decide +kernel
theorem dL_law_795 : vm_at cL_law 795 (.aload_n 0) 1 796 ∧ ((0 : Fin 4) : Nat) = 0 := by decide +kernel
theorem dL_law_796 : vm_at cL_law 796 (.iload_n 3) 1 797 ∧ ((3 : Fin 4) : Nat) = 3 := by decide +kernel
theorem dL_law_797 : vm_at cL_law 797 (.iconst 1) 1 798 ∧ Int32.ofInt (1) = (1 : Int32) := by decide +kernel
theorem dL_law_798 : vm_at cL_law 798 (.iadd) 1 799 := by decide +kernel
theorem dL_law_799 : vm_at cL_law 799 (.iaload) 1 800 := by decide +kernel
theorem dL_law_800 : vm_at cL_law 800 (.invokevirtual 123) 3 803 := by decide +kernel
theorem dL_law_803 : vm_br cL_law 803 (.if_icmp .eq 51) 3 806 (51) 854 := by decide +kernel
theorem dL_law_806 : vm_at cL_law 806 (.iconst 0) 1 807 ∧ Int32.ofInt (0) = (0 : Int32) := by decide +kernel
theorem dL_law_807 : vm_at cL_law 807 (.ireturn) 1 808 := by decide +kernel
theorem dL_law_808 : vm_at cL_law 808 (.aload_n 1) 1 809 ∧ ((1 : Fin 4) : Nat) = 1 := by decide +kernel
theorem dL_law_809 : vm_at cL_law 809 (.aload_n 0) 1 810 ∧ ((0 : Fin 4) : Nat) = 0 := by decide +kernel
theorem dL_law_810 : vm_at cL_law 810 (.iload_n 3) 1 811 ∧ ((3 : Fin 4) : Nat) = 3 := by decide +kernel
theorem dL_law_811 : vm_at cL_law 811 (.iconst 1) 1 812 ∧ Int32.ofInt (1) = (1 : Int32) := by decide +kernel
theorem dL_law_812 : vm_at cL_law 812 (.iadd) 1 813 := by decide +kernel
theorem dL_law_813 : vm_at cL_law 813 (.iaload) 1 814 := by decide +kernel
theorem dL_law_814 : vm_at cL_law 814 (.invokevirtual 124) 3 817 := by decide +kernel
theorem dL_law_817 : vm_at cL_law 817 (.aload_n 2) 1 818 ∧ ((2 : Fin 4) : Nat) = 2 := by decide +kernel
theorem dL_law_818 : vm_at cL_law 818 (.aload_n 0) 1 819 ∧ ((0 : Fin 4) : Nat) = 0 := by decide +kernel
theorem dL_law_819 : vm_at cL_law 819 (.iload_n 3) 1 820 ∧ ((3 : Fin 4) : Nat) = 3 := by decide +kernel
theorem dL_law_820 : vm_at cL_law 820 (.iconst 1) 1 821 ∧ Int32.ofInt (1) = (1 : Int32) := by decide +kernel
theorem dL_law_821 : vm_at cL_law 821 (.iadd) 1 822 := by decide +kernel
theorem dL_law_822 : vm_at cL_law 822 (.iaload) 1 823 := by decide +kernel
theorem dL_law_823 : vm_at cL_law 823 (.invokevirtual 127) 3 826 := by decide +kernel
theorem dL_law_826 : vm_br cL_law 826 (.if_icmp .eq 28) 3 829 (28) 854 := by decide +kernel
theorem dL_law_829 : vm_at cL_law 829 (.iconst 0) 1 830 ∧ Int32.ofInt (0) = (0 : Int32) := by decide +kernel
theorem dL_law_830 : vm_at cL_law 830 (.ireturn) 1 831 := by decide +kernel
theorem dL_law_831 : vm_at cL_law 831 (.aload_n 1) 1 832 ∧ ((1 : Fin 4) : Nat) = 1 := by decide +kernel
theorem dL_law_832 : vm_at cL_law 832 (.aload_n 0) 1 833 ∧ ((0 : Fin 4) : Nat) = 0 := by decide +kernel
theorem dL_law_833 : vm_at cL_law 833 (.iload_n 3) 1 834 ∧ ((3 : Fin 4) : Nat) = 3 := by decide +kernel
theorem dL_law_834 : vm_at cL_law 834 (.iconst 1) 1 835 ∧ Int32.ofInt (1) = (1 : Int32) := by decide +kernel
theorem dL_law_835 : vm_at cL_law 835 (.iadd) 1 836 := by decide +kernel
theorem dL_law_836 : vm_at cL_law 836 (.iaload) 1 837 := by decide +kernel
theorem dL_law_837 : vm_at cL_law 837 (.invokevirtual 128) 3 840 := by decide +kernel
theorem dL_law_840 : vm_at cL_law 840 (.aload_n 2) 1 841 ∧ ((2 : Fin 4) : Nat) = 2 := by decide +kernel
theorem dL_law_841 : vm_at cL_law 841 (.aload_n 0) 1 842 ∧ ((0 : Fin 4) : Nat) = 0 := by decide +kernel
theorem dL_law_842 : vm_at cL_law 842 (.iload_n 3) 1 843 ∧ ((3 : Fin 4) : Nat) = 3 := by decide +kernel
theorem dL_law_843 : vm_at cL_law 843 (.iconst 1) 1 844 ∧ Int32.ofInt (1) = (1 : Int32) := by decide +kernel
theorem dL_law_844 : vm_at cL_law 844 (.iadd) 1 845 := by decide +kernel
theorem dL_law_845 : vm_at cL_law 845 (.iaload) 1 846 := by decide +kernel
theorem dL_law_846 : vm_at cL_law 846 (.invokevirtual 131) 3 849 := by decide +kernel
theorem dL_law_849 : vm_br cL_law 849 (.if_icmp .eq 5) 3 852 (5) 854 := by decide +kernel
theorem dL_law_852 : vm_at cL_law 852 (.iconst 0) 1 853 ∧ Int32.ofInt (0) = (0 : Int32) := by decide +kernel
theorem dL_law_853 : vm_at cL_law 853 (.ireturn) 1 854 := by decide +kernel
theorem dL_law_854 : vm_at cL_law 854 (.iinc 3 4) 3 857 ∧ Int32.ofInt (4) = (4 : Int32) := by decide +kernel
theorem dL_law_857 : vm_br cL_law 857 (.goto (-839)) 3 860 (-839) 18 := by decide +kernel
theorem dL_law_860 : vm_at cL_law 860 (.iconst 1) 1 861 ∧ Int32.ofInt (1) = (1 : Int32) := by decide +kernel
theorem dL_law_861 : vm_at cL_law 861 (.ireturn) 1 862 := by decide +kernel
