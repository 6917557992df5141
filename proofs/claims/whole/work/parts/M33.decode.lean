/-! ===== the law over any relation of the two heaps (printed by gen_law2.py) ===== -/
/-- the room that the claim gives is enough for what is made -/
theorem zroom : 20000 ≤ room_1.cells ∧ 2000000 ≤ room_1.slots := by decide
def zRBr (Rel : Nat → zH → zH → Prop) : Prop := ∀ n hx hm, Rel n hx hm → (n ≤ 512 → hx.1.length + hm.1.length ≤ room_1.cells ∧ zsz hx.1 + zsz hm.1 ≤ room_1.slots) ∧ (∃ n0 rf, hx.1[0]? = some (10, n0, rf)) ∧ (∃ n0 rf, hm.1[0]? = some (11, n0, rf)) ∧ Rel (n + 1) hx hm
def lw_P (b : Addr) (xs : List Int32) (args : Array Value) (s : State) : Prop := args = #[.ref b] ∧ s.IntsAt b xs ∧ xs.length ≤ 3584 ∧ (Jvm.Cond.and given_1 narrow_1).before args s = true
def lw_Q (_ : Array Value) (s : State) (o : Outcome) (t : State) : Prop := o = .returned (some (.int 1)) ∧ Framed s o t [] room_1.cells room_1.slots
def lw_Z (below : List Frame) (a : Array Value) (s : State) : State → Prop := fun t => ∃ o, t.status = .running ∧ Ended t below o ∧ lw_Q a s o t
/-- the law's own end, with 1 on the stack, nothing written that was there before, its room as the claim has it -/
theorem lw_ret {p : Program} {l : Launch} {e : Env} {s : State} {m : MethodId} {below : List Frame} {meth : Method} {c : Code} {b : Nat} (hx : p.tables.exec = Jvm.exec) (hb : c.code = code) (hr : meth.sig.returnType = ret) (hlocks : meth.locks = false) {pc : Nat} {H : Heap} {ls : Array Slot} (hdg : decode code pc = .ok (.ireturn, 1)) : W p l e room_1 s m #[Value.ref b] below meth c H [] room_1.cells room_1.slots (lw_Z below #[Value.ref b] s) (F0 m pc ls [.int 1]) := by
  intro T hT X
  obtain ⟨fs, hret, hrun, hended, hW, hframe⟩ := X.leave (v := some (.int 1)) (hlocks := hlocks) (fun h => by rw [hr] at h; cases h)
  have hmeth' : T.vm.method? m = some meth := X.method'
  refine ⟨T.setFrames fs, ?_, .returned (some (.int 1)), hrun, hended, rfl, ⟨_, rfl⟩, hW, hframe⟩
  jvm_step X.here [X.here.top, hx, hb, hdg, hmeth', hr, ret, narrow_b1]
  (try refine ⟨rfl, ?_⟩); (try refine ⟨rfl, ?_⟩)
  first | (intro acts; rw [hret _ acts rfl rfl rfl]) | rw [hret _ _ rfl rfl rfl]
  exact Steps.refl _
/-- what holds at the law's entry: the machine, the code, the tables' words (any of lw_tbl by 'hts w (by decide +kernel)'), the script of L ints xs at the cell b, what the Statement gives of the start (any of its parts by flat_of_before) -/
def lw_At (p : Program) (s : State) (m : MethodId) (meth : Method) (c : Code) (b L : Nat) (xs : Nat → Int32) : Prop :=
  p.tables.exec = Jvm.exec ∧ c.code = code ∧ meth.sig.returnType = ret ∧ c.maxLocals = 4 ∧ s.vm.findClass R_law = some m.cls ∧ (∀ w ∈ lw_tbl, w.before #[Value.ref b] s = true) ∧ va_X b L xs s s.heap ∧ b < s.heap.size ∧ meth.locks = false ∧ (Jvm.Cond.and given_1 narrow_1).before #[Value.ref b] s = true
theorem zd_0 : decode code 0 = .ok (.new 7, 3) := by decide +kernel
theorem zd_3 : decode code 3 = .ok (.dup, 1) := by decide +kernel
theorem zd_4 : decode code 4 = .ok (.invokespecial 9, 3) := by decide +kernel
theorem zd_7 : decode code 7 = .ok (.astore_n 1, 1) := by decide +kernel
theorem zd_8 : decode code 8 = .ok (.new 10, 3) := by decide +kernel
theorem zd_11 : decode code 11 = .ok (.dup, 1) := by decide +kernel
theorem zd_12 : decode code 12 = .ok (.invokespecial 12, 3) := by decide +kernel
theorem zd_15 : decode code 15 = .ok (.astore_n 2, 1) := by decide +kernel
theorem zd_16 : decode code 16 = .ok (.iconst 0, 1) := by decide +kernel
theorem zd_17 : decode code 17 = .ok (.istore_n 3, 1) := by decide +kernel
theorem zd_18 : decode code 18 = .ok (.iload_n 3, 1) := by decide +kernel
theorem zd_19 : decode code 19 = .ok (.aload_n 0, 1) := by decide +kernel
theorem zd_20 : decode code 20 = .ok (.arraylength, 1) := by decide +kernel
theorem zd_21 : decode code 21 = .ok (.bipush 7, 2) := by decide +kernel
theorem zd_23 : decode code 23 = .ok (.isub, 1) := by decide +kernel
theorem zd_24 : decode code 24 = .ok (.if_icmp .gt 1256, 3) := by decide +kernel
theorem zd_27 : decode code 27 = .ok (.aload_n 0, 1) := by decide +kernel
theorem zd_28 : decode code 28 = .ok (.iload_n 3, 1) := by decide +kernel
theorem zd_29 : decode code 29 = .ok (.iaload, 1) := by decide +kernel
theorem zd_30 : decode code 30 = .ok (.bipush 63, 2) := by decide +kernel
theorem zd_32 : decode code 32 = .ok (.iand, 1) := by decide +kernel
theorem zd_33 : decode code 33 = .ok (.tableswitch 1241 0 33 #[151, 214, 237, 250, 263, 296, 329, 362, 395, 428, 451, 484, 527, 560, 593, 642, 655, 668, 691, 724, 757, 770, 813, 856, 899, 942, 975, 988, 1041, 1074, 1097, 1172, 1195, 1218], 151) := by decide +kernel
theorem zd_184 : decode code 184 = .ok (.aload_n 1, 1) := by decide +kernel
theorem zd_185 : decode code 185 = .ok (.aload_n 0, 1) := by decide +kernel
theorem zd_186 : decode code 186 = .ok (.iload_n 3, 1) := by decide +kernel
theorem zd_187 : decode code 187 = .ok (.iconst 1, 1) := by decide +kernel
theorem zd_188 : decode code 188 = .ok (.iadd, 1) := by decide +kernel
theorem zd_189 : decode code 189 = .ok (.iaload, 1) := by decide +kernel
theorem zd_190 : decode code 190 = .ok (.aload_n 0, 1) := by decide +kernel
theorem zd_191 : decode code 191 = .ok (.iload_n 3, 1) := by decide +kernel
theorem zd_192 : decode code 192 = .ok (.iconst 2, 1) := by decide +kernel
theorem zd_193 : decode code 193 = .ok (.iadd, 1) := by decide +kernel
theorem zd_194 : decode code 194 = .ok (.iaload, 1) := by decide +kernel
theorem zd_195 : decode code 195 = .ok (.aload_n 0, 1) := by decide +kernel
theorem zd_196 : decode code 196 = .ok (.iload_n 3, 1) := by decide +kernel
theorem zd_197 : decode code 197 = .ok (.iconst 3, 1) := by decide +kernel
theorem zd_198 : decode code 198 = .ok (.iadd, 1) := by decide +kernel
theorem zd_199 : decode code 199 = .ok (.iaload, 1) := by decide +kernel
theorem zd_200 : decode code 200 = .ok (.aload_n 0, 1) := by decide +kernel
theorem zd_201 : decode code 201 = .ok (.iload_n 3, 1) := by decide +kernel
theorem zd_202 : decode code 202 = .ok (.iconst 4, 1) := by decide +kernel
theorem zd_203 : decode code 203 = .ok (.iadd, 1) := by decide +kernel
theorem zd_204 : decode code 204 = .ok (.iaload, 1) := by decide +kernel
theorem zd_205 : decode code 205 = .ok (.aload_n 0, 1) := by decide +kernel
theorem zd_206 : decode code 206 = .ok (.iload_n 3, 1) := by decide +kernel
theorem zd_207 : decode code 207 = .ok (.iconst 5, 1) := by decide +kernel
theorem zd_208 : decode code 208 = .ok (.iadd, 1) := by decide +kernel
theorem zd_209 : decode code 209 = .ok (.iaload, 1) := by decide +kernel
theorem zd_210 : decode code 210 = .ok (.invokevirtual 13, 3) := by decide +kernel
theorem zd_213 : decode code 213 = .ok (.aload_n 2, 1) := by decide +kernel
theorem zd_214 : decode code 214 = .ok (.aload_n 0, 1) := by decide +kernel
theorem zd_215 : decode code 215 = .ok (.iload_n 3, 1) := by decide +kernel
theorem zd_216 : decode code 216 = .ok (.iconst 1, 1) := by decide +kernel
theorem zd_217 : decode code 217 = .ok (.iadd, 1) := by decide +kernel
theorem zd_218 : decode code 218 = .ok (.iaload, 1) := by decide +kernel
theorem zd_219 : decode code 219 = .ok (.aload_n 0, 1) := by decide +kernel
theorem zd_220 : decode code 220 = .ok (.iload_n 3, 1) := by decide +kernel
theorem zd_221 : decode code 221 = .ok (.iconst 2, 1) := by decide +kernel
theorem zd_222 : decode code 222 = .ok (.iadd, 1) := by decide +kernel
theorem zd_223 : decode code 223 = .ok (.iaload, 1) := by decide +kernel
theorem zd_224 : decode code 224 = .ok (.aload_n 0, 1) := by decide +kernel
theorem zd_225 : decode code 225 = .ok (.iload_n 3, 1) := by decide +kernel
theorem zd_226 : decode code 226 = .ok (.iconst 3, 1) := by decide +kernel
theorem zd_227 : decode code 227 = .ok (.iadd, 1) := by decide +kernel
theorem zd_228 : decode code 228 = .ok (.iaload, 1) := by decide +kernel
theorem zd_229 : decode code 229 = .ok (.aload_n 0, 1) := by decide +kernel
theorem zd_230 : decode code 230 = .ok (.iload_n 3, 1) := by decide +kernel
theorem zd_231 : decode code 231 = .ok (.iconst 4, 1) := by decide +kernel
theorem zd_232 : decode code 232 = .ok (.iadd, 1) := by decide +kernel
theorem zd_233 : decode code 233 = .ok (.iaload, 1) := by decide +kernel
theorem zd_234 : decode code 234 = .ok (.aload_n 0, 1) := by decide +kernel
theorem zd_235 : decode code 235 = .ok (.iload_n 3, 1) := by decide +kernel
theorem zd_236 : decode code 236 = .ok (.iconst 5, 1) := by decide +kernel
theorem zd_237 : decode code 237 = .ok (.iadd, 1) := by decide +kernel
theorem zd_238 : decode code 238 = .ok (.iaload, 1) := by decide +kernel
theorem zd_239 : decode code 239 = .ok (.invokevirtual 17, 3) := by decide +kernel
theorem zd_242 : decode code 242 = .ok (.if_icmp .eq 1032, 3) := by decide +kernel
theorem zd_245 : decode code 245 = .ok (.iconst 0, 1) := by decide +kernel
theorem zd_246 : decode code 246 = .ok (.ireturn, 1) := by decide +kernel
theorem zd_247 : decode code 247 = .ok (.aload_n 1, 1) := by decide +kernel
theorem zd_248 : decode code 248 = .ok (.aload_n 0, 1) := by decide +kernel
theorem zd_249 : decode code 249 = .ok (.iload_n 3, 1) := by decide +kernel
theorem zd_250 : decode code 250 = .ok (.iconst 1, 1) := by decide +kernel
theorem zd_251 : decode code 251 = .ok (.iadd, 1) := by decide +kernel
theorem zd_252 : decode code 252 = .ok (.iaload, 1) := by decide +kernel
theorem zd_253 : decode code 253 = .ok (.invokevirtual 18, 3) := by decide +kernel
theorem zd_256 : decode code 256 = .ok (.aload_n 2, 1) := by decide +kernel
theorem zd_257 : decode code 257 = .ok (.aload_n 0, 1) := by decide +kernel
theorem zd_258 : decode code 258 = .ok (.iload_n 3, 1) := by decide +kernel
theorem zd_259 : decode code 259 = .ok (.iconst 1, 1) := by decide +kernel
theorem zd_260 : decode code 260 = .ok (.iadd, 1) := by decide +kernel
theorem zd_261 : decode code 261 = .ok (.iaload, 1) := by decide +kernel
theorem zd_262 : decode code 262 = .ok (.invokevirtual 22, 3) := by decide +kernel
theorem zd_265 : decode code 265 = .ok (.if_icmp .eq 1009, 3) := by decide +kernel
theorem zd_268 : decode code 268 = .ok (.iconst 0, 1) := by decide +kernel
theorem zd_269 : decode code 269 = .ok (.ireturn, 1) := by decide +kernel
theorem zd_270 : decode code 270 = .ok (.aload_n 1, 1) := by decide +kernel
theorem zd_271 : decode code 271 = .ok (.invokevirtual 23, 3) := by decide +kernel
theorem zd_274 : decode code 274 = .ok (.aload_n 2, 1) := by decide +kernel
theorem zd_275 : decode code 275 = .ok (.invokevirtual 27, 3) := by decide +kernel
theorem zd_278 : decode code 278 = .ok (.if_icmp .eq 996, 3) := by decide +kernel
theorem zd_281 : decode code 281 = .ok (.iconst 0, 1) := by decide +kernel
theorem zd_282 : decode code 282 = .ok (.ireturn, 1) := by decide +kernel
theorem zd_283 : decode code 283 = .ok (.aload_n 1, 1) := by decide +kernel
theorem zd_284 : decode code 284 = .ok (.invokevirtual 28, 3) := by decide +kernel
theorem zd_287 : decode code 287 = .ok (.aload_n 2, 1) := by decide +kernel
theorem zd_288 : decode code 288 = .ok (.invokevirtual 31, 3) := by decide +kernel
theorem zd_291 : decode code 291 = .ok (.if_icmp .eq 983, 3) := by decide +kernel
theorem zd_294 : decode code 294 = .ok (.iconst 0, 1) := by decide +kernel
theorem zd_295 : decode code 295 = .ok (.ireturn, 1) := by decide +kernel
theorem zd_296 : decode code 296 = .ok (.aload_n 1, 1) := by decide +kernel
theorem zd_297 : decode code 297 = .ok (.aload_n 0, 1) := by decide +kernel
theorem zd_298 : decode code 298 = .ok (.iload_n 3, 1) := by decide +kernel
theorem zd_299 : decode code 299 = .ok (.iconst 1, 1) := by decide +kernel
theorem zd_300 : decode code 300 = .ok (.iadd, 1) := by decide +kernel
theorem zd_301 : decode code 301 = .ok (.iaload, 1) := by decide +kernel
theorem zd_302 : decode code 302 = .ok (.aload_n 0, 1) := by decide +kernel
theorem zd_303 : decode code 303 = .ok (.iload_n 3, 1) := by decide +kernel
theorem zd_304 : decode code 304 = .ok (.iconst 2, 1) := by decide +kernel
theorem zd_305 : decode code 305 = .ok (.iadd, 1) := by decide +kernel
theorem zd_306 : decode code 306 = .ok (.iaload, 1) := by decide +kernel
theorem zd_307 : decode code 307 = .ok (.invokevirtual 32, 3) := by decide +kernel
theorem zd_310 : decode code 310 = .ok (.aload_n 2, 1) := by decide +kernel
theorem zd_311 : decode code 311 = .ok (.aload_n 0, 1) := by decide +kernel
theorem zd_312 : decode code 312 = .ok (.iload_n 3, 1) := by decide +kernel
theorem zd_313 : decode code 313 = .ok (.iconst 1, 1) := by decide +kernel
theorem zd_314 : decode code 314 = .ok (.iadd, 1) := by decide +kernel
theorem zd_315 : decode code 315 = .ok (.iaload, 1) := by decide +kernel
theorem zd_316 : decode code 316 = .ok (.aload_n 0, 1) := by decide +kernel
theorem zd_317 : decode code 317 = .ok (.iload_n 3, 1) := by decide +kernel
theorem zd_318 : decode code 318 = .ok (.iconst 2, 1) := by decide +kernel
theorem zd_319 : decode code 319 = .ok (.iadd, 1) := by decide +kernel
theorem zd_320 : decode code 320 = .ok (.iaload, 1) := by decide +kernel
theorem zd_321 : decode code 321 = .ok (.invokevirtual 36, 3) := by decide +kernel
theorem zd_324 : decode code 324 = .ok (.if_icmp .eq 950, 3) := by decide +kernel
theorem zd_327 : decode code 327 = .ok (.iconst 0, 1) := by decide +kernel
theorem zd_328 : decode code 328 = .ok (.ireturn, 1) := by decide +kernel
theorem zd_329 : decode code 329 = .ok (.aload_n 1, 1) := by decide +kernel
theorem zd_330 : decode code 330 = .ok (.aload_n 0, 1) := by decide +kernel
theorem zd_331 : decode code 331 = .ok (.iload_n 3, 1) := by decide +kernel
theorem zd_332 : decode code 332 = .ok (.iconst 1, 1) := by decide +kernel
theorem zd_333 : decode code 333 = .ok (.iadd, 1) := by decide +kernel
theorem zd_334 : decode code 334 = .ok (.iaload, 1) := by decide +kernel
theorem zd_335 : decode code 335 = .ok (.aload_n 0, 1) := by decide +kernel
theorem zd_336 : decode code 336 = .ok (.iload_n 3, 1) := by decide +kernel
theorem zd_337 : decode code 337 = .ok (.iconst 2, 1) := by decide +kernel
theorem zd_338 : decode code 338 = .ok (.iadd, 1) := by decide +kernel
theorem zd_339 : decode code 339 = .ok (.iaload, 1) := by decide +kernel
theorem zd_340 : decode code 340 = .ok (.invokevirtual 37, 3) := by decide +kernel
theorem zd_343 : decode code 343 = .ok (.aload_n 2, 1) := by decide +kernel
theorem zd_344 : decode code 344 = .ok (.aload_n 0, 1) := by decide +kernel
theorem zd_345 : decode code 345 = .ok (.iload_n 3, 1) := by decide +kernel
theorem zd_346 : decode code 346 = .ok (.iconst 1, 1) := by decide +kernel
theorem zd_347 : decode code 347 = .ok (.iadd, 1) := by decide +kernel
theorem zd_348 : decode code 348 = .ok (.iaload, 1) := by decide +kernel
theorem zd_349 : decode code 349 = .ok (.aload_n 0, 1) := by decide +kernel
theorem zd_350 : decode code 350 = .ok (.iload_n 3, 1) := by decide +kernel
theorem zd_351 : decode code 351 = .ok (.iconst 2, 1) := by decide +kernel
theorem zd_352 : decode code 352 = .ok (.iadd, 1) := by decide +kernel
theorem zd_353 : decode code 353 = .ok (.iaload, 1) := by decide +kernel
theorem zd_354 : decode code 354 = .ok (.invokevirtual 40, 3) := by decide +kernel
theorem zd_357 : decode code 357 = .ok (.if_icmp .eq 917, 3) := by decide +kernel
theorem zd_360 : decode code 360 = .ok (.iconst 0, 1) := by decide +kernel
theorem zd_361 : decode code 361 = .ok (.ireturn, 1) := by decide +kernel
theorem zd_362 : decode code 362 = .ok (.aload_n 1, 1) := by decide +kernel
theorem zd_363 : decode code 363 = .ok (.aload_n 0, 1) := by decide +kernel
theorem zd_364 : decode code 364 = .ok (.iload_n 3, 1) := by decide +kernel
theorem zd_365 : decode code 365 = .ok (.iconst 1, 1) := by decide +kernel
theorem zd_366 : decode code 366 = .ok (.iadd, 1) := by decide +kernel
theorem zd_367 : decode code 367 = .ok (.iaload, 1) := by decide +kernel
theorem zd_368 : decode code 368 = .ok (.aload_n 0, 1) := by decide +kernel
theorem zd_369 : decode code 369 = .ok (.iload_n 3, 1) := by decide +kernel
theorem zd_370 : decode code 370 = .ok (.iconst 2, 1) := by decide +kernel
theorem zd_371 : decode code 371 = .ok (.iadd, 1) := by decide +kernel
theorem zd_372 : decode code 372 = .ok (.iaload, 1) := by decide +kernel
theorem zd_373 : decode code 373 = .ok (.invokevirtual 41, 3) := by decide +kernel
theorem zd_376 : decode code 376 = .ok (.aload_n 2, 1) := by decide +kernel
theorem zd_377 : decode code 377 = .ok (.aload_n 0, 1) := by decide +kernel
theorem zd_378 : decode code 378 = .ok (.iload_n 3, 1) := by decide +kernel
theorem zd_379 : decode code 379 = .ok (.iconst 1, 1) := by decide +kernel
theorem zd_380 : decode code 380 = .ok (.iadd, 1) := by decide +kernel
theorem zd_381 : decode code 381 = .ok (.iaload, 1) := by decide +kernel
theorem zd_382 : decode code 382 = .ok (.aload_n 0, 1) := by decide +kernel
theorem zd_383 : decode code 383 = .ok (.iload_n 3, 1) := by decide +kernel
theorem zd_384 : decode code 384 = .ok (.iconst 2, 1) := by decide +kernel
theorem zd_385 : decode code 385 = .ok (.iadd, 1) := by decide +kernel
theorem zd_386 : decode code 386 = .ok (.iaload, 1) := by decide +kernel
theorem zd_387 : decode code 387 = .ok (.invokevirtual 44, 3) := by decide +kernel
theorem zd_390 : decode code 390 = .ok (.if_icmp .eq 884, 3) := by decide +kernel
theorem zd_393 : decode code 393 = .ok (.iconst 0, 1) := by decide +kernel
theorem zd_394 : decode code 394 = .ok (.ireturn, 1) := by decide +kernel
theorem zd_395 : decode code 395 = .ok (.aload_n 1, 1) := by decide +kernel
theorem zd_396 : decode code 396 = .ok (.aload_n 0, 1) := by decide +kernel
theorem zd_397 : decode code 397 = .ok (.iload_n 3, 1) := by decide +kernel
theorem zd_398 : decode code 398 = .ok (.iconst 1, 1) := by decide +kernel
theorem zd_399 : decode code 399 = .ok (.iadd, 1) := by decide +kernel
theorem zd_400 : decode code 400 = .ok (.iaload, 1) := by decide +kernel
theorem zd_401 : decode code 401 = .ok (.aload_n 0, 1) := by decide +kernel
theorem zd_402 : decode code 402 = .ok (.iload_n 3, 1) := by decide +kernel
theorem zd_403 : decode code 403 = .ok (.iconst 2, 1) := by decide +kernel
theorem zd_404 : decode code 404 = .ok (.iadd, 1) := by decide +kernel
theorem zd_405 : decode code 405 = .ok (.iaload, 1) := by decide +kernel
theorem zd_406 : decode code 406 = .ok (.invokevirtual 45, 3) := by decide +kernel
theorem zd_409 : decode code 409 = .ok (.aload_n 2, 1) := by decide +kernel
theorem zd_410 : decode code 410 = .ok (.aload_n 0, 1) := by decide +kernel
theorem zd_411 : decode code 411 = .ok (.iload_n 3, 1) := by decide +kernel
theorem zd_412 : decode code 412 = .ok (.iconst 1, 1) := by decide +kernel
theorem zd_413 : decode code 413 = .ok (.iadd, 1) := by decide +kernel
theorem zd_414 : decode code 414 = .ok (.iaload, 1) := by decide +kernel
theorem zd_415 : decode code 415 = .ok (.aload_n 0, 1) := by decide +kernel
theorem zd_416 : decode code 416 = .ok (.iload_n 3, 1) := by decide +kernel
theorem zd_417 : decode code 417 = .ok (.iconst 2, 1) := by decide +kernel
theorem zd_418 : decode code 418 = .ok (.iadd, 1) := by decide +kernel
theorem zd_419 : decode code 419 = .ok (.iaload, 1) := by decide +kernel
theorem zd_420 : decode code 420 = .ok (.invokevirtual 48, 3) := by decide +kernel
theorem zd_423 : decode code 423 = .ok (.if_icmp .eq 851, 3) := by decide +kernel
theorem zd_426 : decode code 426 = .ok (.iconst 0, 1) := by decide +kernel
theorem zd_427 : decode code 427 = .ok (.ireturn, 1) := by decide +kernel
theorem zd_428 : decode code 428 = .ok (.aload_n 1, 1) := by decide +kernel
theorem zd_429 : decode code 429 = .ok (.aload_n 0, 1) := by decide +kernel
theorem zd_430 : decode code 430 = .ok (.iload_n 3, 1) := by decide +kernel
theorem zd_431 : decode code 431 = .ok (.iconst 1, 1) := by decide +kernel
theorem zd_432 : decode code 432 = .ok (.iadd, 1) := by decide +kernel
theorem zd_433 : decode code 433 = .ok (.iaload, 1) := by decide +kernel
theorem zd_434 : decode code 434 = .ok (.aload_n 0, 1) := by decide +kernel
theorem zd_435 : decode code 435 = .ok (.iload_n 3, 1) := by decide +kernel
theorem zd_436 : decode code 436 = .ok (.iconst 2, 1) := by decide +kernel
theorem zd_437 : decode code 437 = .ok (.iadd, 1) := by decide +kernel
theorem zd_438 : decode code 438 = .ok (.iaload, 1) := by decide +kernel
theorem zd_439 : decode code 439 = .ok (.invokevirtual 49, 3) := by decide +kernel
theorem zd_442 : decode code 442 = .ok (.aload_n 2, 1) := by decide +kernel
theorem zd_443 : decode code 443 = .ok (.aload_n 0, 1) := by decide +kernel
theorem zd_444 : decode code 444 = .ok (.iload_n 3, 1) := by decide +kernel
theorem zd_445 : decode code 445 = .ok (.iconst 1, 1) := by decide +kernel
theorem zd_446 : decode code 446 = .ok (.iadd, 1) := by decide +kernel
theorem zd_447 : decode code 447 = .ok (.iaload, 1) := by decide +kernel
theorem zd_448 : decode code 448 = .ok (.aload_n 0, 1) := by decide +kernel
theorem zd_449 : decode code 449 = .ok (.iload_n 3, 1) := by decide +kernel
theorem zd_450 : decode code 450 = .ok (.iconst 2, 1) := by decide +kernel
theorem zd_451 : decode code 451 = .ok (.iadd, 1) := by decide +kernel
theorem zd_452 : decode code 452 = .ok (.iaload, 1) := by decide +kernel
theorem zd_453 : decode code 453 = .ok (.invokevirtual 52, 3) := by decide +kernel
theorem zd_456 : decode code 456 = .ok (.if_icmp .eq 818, 3) := by decide +kernel
theorem zd_459 : decode code 459 = .ok (.iconst 0, 1) := by decide +kernel
theorem zd_460 : decode code 460 = .ok (.ireturn, 1) := by decide +kernel
theorem zd_461 : decode code 461 = .ok (.aload_n 1, 1) := by decide +kernel
theorem zd_462 : decode code 462 = .ok (.aload_n 0, 1) := by decide +kernel
theorem zd_463 : decode code 463 = .ok (.iload_n 3, 1) := by decide +kernel
theorem zd_464 : decode code 464 = .ok (.iconst 1, 1) := by decide +kernel
theorem zd_465 : decode code 465 = .ok (.iadd, 1) := by decide +kernel
theorem zd_466 : decode code 466 = .ok (.iaload, 1) := by decide +kernel
theorem zd_467 : decode code 467 = .ok (.invokevirtual 53, 3) := by decide +kernel
theorem zd_470 : decode code 470 = .ok (.aload_n 2, 1) := by decide +kernel
theorem zd_471 : decode code 471 = .ok (.aload_n 0, 1) := by decide +kernel
theorem zd_472 : decode code 472 = .ok (.iload_n 3, 1) := by decide +kernel
theorem zd_473 : decode code 473 = .ok (.iconst 1, 1) := by decide +kernel
theorem zd_474 : decode code 474 = .ok (.iadd, 1) := by decide +kernel
theorem zd_475 : decode code 475 = .ok (.iaload, 1) := by decide +kernel
theorem zd_476 : decode code 476 = .ok (.invokevirtual 56, 3) := by decide +kernel
theorem zd_479 : decode code 479 = .ok (.if_icmp .eq 795, 3) := by decide +kernel
theorem zd_482 : decode code 482 = .ok (.iconst 0, 1) := by decide +kernel
theorem zd_483 : decode code 483 = .ok (.ireturn, 1) := by decide +kernel
theorem zd_484 : decode code 484 = .ok (.aload_n 1, 1) := by decide +kernel
theorem zd_485 : decode code 485 = .ok (.aload_n 0, 1) := by decide +kernel
theorem zd_486 : decode code 486 = .ok (.iload_n 3, 1) := by decide +kernel
theorem zd_487 : decode code 487 = .ok (.iconst 1, 1) := by decide +kernel
theorem zd_488 : decode code 488 = .ok (.iadd, 1) := by decide +kernel
theorem zd_489 : decode code 489 = .ok (.iaload, 1) := by decide +kernel
theorem zd_490 : decode code 490 = .ok (.aload_n 0, 1) := by decide +kernel
theorem zd_491 : decode code 491 = .ok (.iload_n 3, 1) := by decide +kernel
theorem zd_492 : decode code 492 = .ok (.iconst 2, 1) := by decide +kernel
theorem zd_493 : decode code 493 = .ok (.iadd, 1) := by decide +kernel
theorem zd_494 : decode code 494 = .ok (.iaload, 1) := by decide +kernel
theorem zd_495 : decode code 495 = .ok (.invokevirtual 57, 3) := by decide +kernel
theorem zd_498 : decode code 498 = .ok (.aload_n 2, 1) := by decide +kernel
theorem zd_499 : decode code 499 = .ok (.aload_n 0, 1) := by decide +kernel
theorem zd_500 : decode code 500 = .ok (.iload_n 3, 1) := by decide +kernel
theorem zd_501 : decode code 501 = .ok (.iconst 1, 1) := by decide +kernel
theorem zd_502 : decode code 502 = .ok (.iadd, 1) := by decide +kernel
theorem zd_503 : decode code 503 = .ok (.iaload, 1) := by decide +kernel
theorem zd_504 : decode code 504 = .ok (.aload_n 0, 1) := by decide +kernel
theorem zd_505 : decode code 505 = .ok (.iload_n 3, 1) := by decide +kernel
theorem zd_506 : decode code 506 = .ok (.iconst 2, 1) := by decide +kernel
theorem zd_507 : decode code 507 = .ok (.iadd, 1) := by decide +kernel
theorem zd_508 : decode code 508 = .ok (.iaload, 1) := by decide +kernel
theorem zd_509 : decode code 509 = .ok (.invokevirtual 60, 3) := by decide +kernel
theorem zd_512 : decode code 512 = .ok (.if_icmp .eq 762, 3) := by decide +kernel
theorem zd_515 : decode code 515 = .ok (.iconst 0, 1) := by decide +kernel
theorem zd_516 : decode code 516 = .ok (.ireturn, 1) := by decide +kernel
theorem zd_517 : decode code 517 = .ok (.aload_n 1, 1) := by decide +kernel
theorem zd_518 : decode code 518 = .ok (.aload_n 0, 1) := by decide +kernel
theorem zd_519 : decode code 519 = .ok (.iload_n 3, 1) := by decide +kernel
theorem zd_520 : decode code 520 = .ok (.iconst 1, 1) := by decide +kernel
theorem zd_521 : decode code 521 = .ok (.iadd, 1) := by decide +kernel
theorem zd_522 : decode code 522 = .ok (.iaload, 1) := by decide +kernel
theorem zd_523 : decode code 523 = .ok (.aload_n 0, 1) := by decide +kernel
theorem zd_524 : decode code 524 = .ok (.iload_n 3, 1) := by decide +kernel
theorem zd_525 : decode code 525 = .ok (.iconst 2, 1) := by decide +kernel
theorem zd_526 : decode code 526 = .ok (.iadd, 1) := by decide +kernel
theorem zd_527 : decode code 527 = .ok (.iaload, 1) := by decide +kernel
theorem zd_528 : decode code 528 = .ok (.aload_n 0, 1) := by decide +kernel
theorem zd_529 : decode code 529 = .ok (.iload_n 3, 1) := by decide +kernel
theorem zd_530 : decode code 530 = .ok (.iconst 3, 1) := by decide +kernel
theorem zd_531 : decode code 531 = .ok (.iadd, 1) := by decide +kernel
theorem zd_532 : decode code 532 = .ok (.iaload, 1) := by decide +kernel
theorem zd_533 : decode code 533 = .ok (.invokevirtual 61, 3) := by decide +kernel
theorem zd_536 : decode code 536 = .ok (.aload_n 2, 1) := by decide +kernel
theorem zd_537 : decode code 537 = .ok (.aload_n 0, 1) := by decide +kernel
theorem zd_538 : decode code 538 = .ok (.iload_n 3, 1) := by decide +kernel
theorem zd_539 : decode code 539 = .ok (.iconst 1, 1) := by decide +kernel
theorem zd_540 : decode code 540 = .ok (.iadd, 1) := by decide +kernel
theorem zd_541 : decode code 541 = .ok (.iaload, 1) := by decide +kernel
theorem zd_542 : decode code 542 = .ok (.aload_n 0, 1) := by decide +kernel
theorem zd_543 : decode code 543 = .ok (.iload_n 3, 1) := by decide +kernel
theorem zd_544 : decode code 544 = .ok (.iconst 2, 1) := by decide +kernel
theorem zd_545 : decode code 545 = .ok (.iadd, 1) := by decide +kernel
theorem zd_546 : decode code 546 = .ok (.iaload, 1) := by decide +kernel
theorem zd_547 : decode code 547 = .ok (.aload_n 0, 1) := by decide +kernel
theorem zd_548 : decode code 548 = .ok (.iload_n 3, 1) := by decide +kernel
theorem zd_549 : decode code 549 = .ok (.iconst 3, 1) := by decide +kernel
theorem zd_550 : decode code 550 = .ok (.iadd, 1) := by decide +kernel
theorem zd_551 : decode code 551 = .ok (.iaload, 1) := by decide +kernel
theorem zd_552 : decode code 552 = .ok (.invokevirtual 65, 3) := by decide +kernel
theorem zd_555 : decode code 555 = .ok (.if_icmp .eq 719, 3) := by decide +kernel
theorem zd_558 : decode code 558 = .ok (.iconst 0, 1) := by decide +kernel
theorem zd_559 : decode code 559 = .ok (.ireturn, 1) := by decide +kernel
theorem zd_560 : decode code 560 = .ok (.aload_n 1, 1) := by decide +kernel
theorem zd_561 : decode code 561 = .ok (.aload_n 0, 1) := by decide +kernel
theorem zd_562 : decode code 562 = .ok (.iload_n 3, 1) := by decide +kernel
theorem zd_563 : decode code 563 = .ok (.iconst 1, 1) := by decide +kernel
theorem zd_564 : decode code 564 = .ok (.iadd, 1) := by decide +kernel
theorem zd_565 : decode code 565 = .ok (.iaload, 1) := by decide +kernel
theorem zd_566 : decode code 566 = .ok (.aload_n 0, 1) := by decide +kernel
theorem zd_567 : decode code 567 = .ok (.iload_n 3, 1) := by decide +kernel
theorem zd_568 : decode code 568 = .ok (.iconst 2, 1) := by decide +kernel
theorem zd_569 : decode code 569 = .ok (.iadd, 1) := by decide +kernel
theorem zd_570 : decode code 570 = .ok (.iaload, 1) := by decide +kernel
theorem zd_571 : decode code 571 = .ok (.invokevirtual 66, 3) := by decide +kernel
theorem zd_574 : decode code 574 = .ok (.aload_n 2, 1) := by decide +kernel
theorem zd_575 : decode code 575 = .ok (.aload_n 0, 1) := by decide +kernel
theorem zd_576 : decode code 576 = .ok (.iload_n 3, 1) := by decide +kernel
theorem zd_577 : decode code 577 = .ok (.iconst 1, 1) := by decide +kernel
theorem zd_578 : decode code 578 = .ok (.iadd, 1) := by decide +kernel
theorem zd_579 : decode code 579 = .ok (.iaload, 1) := by decide +kernel
theorem zd_580 : decode code 580 = .ok (.aload_n 0, 1) := by decide +kernel
theorem zd_581 : decode code 581 = .ok (.iload_n 3, 1) := by decide +kernel
theorem zd_582 : decode code 582 = .ok (.iconst 2, 1) := by decide +kernel
theorem zd_583 : decode code 583 = .ok (.iadd, 1) := by decide +kernel
theorem zd_584 : decode code 584 = .ok (.iaload, 1) := by decide +kernel
theorem zd_585 : decode code 585 = .ok (.invokevirtual 69, 3) := by decide +kernel
theorem zd_588 : decode code 588 = .ok (.if_icmp .eq 686, 3) := by decide +kernel
theorem zd_591 : decode code 591 = .ok (.iconst 0, 1) := by decide +kernel
theorem zd_592 : decode code 592 = .ok (.ireturn, 1) := by decide +kernel
theorem zd_593 : decode code 593 = .ok (.aload_n 1, 1) := by decide +kernel
theorem zd_594 : decode code 594 = .ok (.aload_n 0, 1) := by decide +kernel
theorem zd_595 : decode code 595 = .ok (.iload_n 3, 1) := by decide +kernel
theorem zd_596 : decode code 596 = .ok (.iconst 1, 1) := by decide +kernel
theorem zd_597 : decode code 597 = .ok (.iadd, 1) := by decide +kernel
theorem zd_598 : decode code 598 = .ok (.iaload, 1) := by decide +kernel
theorem zd_599 : decode code 599 = .ok (.aload_n 0, 1) := by decide +kernel
theorem zd_600 : decode code 600 = .ok (.iload_n 3, 1) := by decide +kernel
theorem zd_601 : decode code 601 = .ok (.iconst 2, 1) := by decide +kernel
theorem zd_602 : decode code 602 = .ok (.iadd, 1) := by decide +kernel
theorem zd_603 : decode code 603 = .ok (.iaload, 1) := by decide +kernel
theorem zd_604 : decode code 604 = .ok (.invokevirtual 70, 3) := by decide +kernel
theorem zd_607 : decode code 607 = .ok (.aload_n 2, 1) := by decide +kernel
theorem zd_608 : decode code 608 = .ok (.aload_n 0, 1) := by decide +kernel
theorem zd_609 : decode code 609 = .ok (.iload_n 3, 1) := by decide +kernel
theorem zd_610 : decode code 610 = .ok (.iconst 1, 1) := by decide +kernel
theorem zd_611 : decode code 611 = .ok (.iadd, 1) := by decide +kernel
theorem zd_612 : decode code 612 = .ok (.iaload, 1) := by decide +kernel
theorem zd_613 : decode code 613 = .ok (.aload_n 0, 1) := by decide +kernel
theorem zd_614 : decode code 614 = .ok (.iload_n 3, 1) := by decide +kernel
theorem zd_615 : decode code 615 = .ok (.iconst 2, 1) := by decide +kernel
theorem zd_616 : decode code 616 = .ok (.iadd, 1) := by decide +kernel
theorem zd_617 : decode code 617 = .ok (.iaload, 1) := by decide +kernel
theorem zd_618 : decode code 618 = .ok (.invokevirtual 73, 3) := by decide +kernel
theorem zd_621 : decode code 621 = .ok (.if_icmp .eq 653, 3) := by decide +kernel
theorem zd_624 : decode code 624 = .ok (.iconst 0, 1) := by decide +kernel
theorem zd_625 : decode code 625 = .ok (.ireturn, 1) := by decide +kernel
theorem zd_626 : decode code 626 = .ok (.aload_n 1, 1) := by decide +kernel
theorem zd_627 : decode code 627 = .ok (.aload_n 0, 1) := by decide +kernel
theorem zd_628 : decode code 628 = .ok (.iload_n 3, 1) := by decide +kernel
theorem zd_629 : decode code 629 = .ok (.iconst 1, 1) := by decide +kernel
theorem zd_630 : decode code 630 = .ok (.iadd, 1) := by decide +kernel
theorem zd_631 : decode code 631 = .ok (.iaload, 1) := by decide +kernel
theorem zd_632 : decode code 632 = .ok (.aload_n 0, 1) := by decide +kernel
theorem zd_633 : decode code 633 = .ok (.iload_n 3, 1) := by decide +kernel
theorem zd_634 : decode code 634 = .ok (.iconst 2, 1) := by decide +kernel
theorem zd_635 : decode code 635 = .ok (.iadd, 1) := by decide +kernel
theorem zd_636 : decode code 636 = .ok (.iaload, 1) := by decide +kernel
theorem zd_637 : decode code 637 = .ok (.ifCond .eq 7, 3) := by decide +kernel
theorem zd_640 : decode code 640 = .ok (.iconst 1, 1) := by decide +kernel
theorem zd_641 : decode code 641 = .ok (.goto 4, 3) := by decide +kernel
theorem zd_644 : decode code 644 = .ok (.iconst 0, 1) := by decide +kernel
theorem zd_645 : decode code 645 = .ok (.invokevirtual 74, 3) := by decide +kernel
theorem zd_648 : decode code 648 = .ok (.aload_n 2, 1) := by decide +kernel
theorem zd_649 : decode code 649 = .ok (.aload_n 0, 1) := by decide +kernel
theorem zd_650 : decode code 650 = .ok (.iload_n 3, 1) := by decide +kernel
theorem zd_651 : decode code 651 = .ok (.iconst 1, 1) := by decide +kernel
theorem zd_652 : decode code 652 = .ok (.iadd, 1) := by decide +kernel
theorem zd_653 : decode code 653 = .ok (.iaload, 1) := by decide +kernel
theorem zd_654 : decode code 654 = .ok (.aload_n 0, 1) := by decide +kernel
theorem zd_655 : decode code 655 = .ok (.iload_n 3, 1) := by decide +kernel
theorem zd_656 : decode code 656 = .ok (.iconst 2, 1) := by decide +kernel
theorem zd_657 : decode code 657 = .ok (.iadd, 1) := by decide +kernel
theorem zd_658 : decode code 658 = .ok (.iaload, 1) := by decide +kernel
theorem zd_659 : decode code 659 = .ok (.ifCond .eq 7, 3) := by decide +kernel
theorem zd_662 : decode code 662 = .ok (.iconst 1, 1) := by decide +kernel
theorem zd_663 : decode code 663 = .ok (.goto 4, 3) := by decide +kernel
theorem zd_666 : decode code 666 = .ok (.iconst 0, 1) := by decide +kernel
theorem zd_667 : decode code 667 = .ok (.invokevirtual 78, 3) := by decide +kernel
theorem zd_670 : decode code 670 = .ok (.if_icmp .eq 604, 3) := by decide +kernel
theorem zd_673 : decode code 673 = .ok (.iconst 0, 1) := by decide +kernel
theorem zd_674 : decode code 674 = .ok (.ireturn, 1) := by decide +kernel
theorem zd_675 : decode code 675 = .ok (.aload_n 1, 1) := by decide +kernel
theorem zd_676 : decode code 676 = .ok (.invokevirtual 79, 3) := by decide +kernel
theorem zd_679 : decode code 679 = .ok (.aload_n 2, 1) := by decide +kernel
theorem zd_680 : decode code 680 = .ok (.invokevirtual 82, 3) := by decide +kernel
theorem zd_683 : decode code 683 = .ok (.if_icmp .eq 591, 3) := by decide +kernel
theorem zd_686 : decode code 686 = .ok (.iconst 0, 1) := by decide +kernel
theorem zd_687 : decode code 687 = .ok (.ireturn, 1) := by decide +kernel
theorem zd_688 : decode code 688 = .ok (.aload_n 1, 1) := by decide +kernel
theorem zd_689 : decode code 689 = .ok (.invokevirtual 83, 3) := by decide +kernel
theorem zd_692 : decode code 692 = .ok (.aload_n 2, 1) := by decide +kernel
theorem zd_693 : decode code 693 = .ok (.invokevirtual 86, 3) := by decide +kernel
theorem zd_696 : decode code 696 = .ok (.if_icmp .eq 578, 3) := by decide +kernel
theorem zd_699 : decode code 699 = .ok (.iconst 0, 1) := by decide +kernel
theorem zd_700 : decode code 700 = .ok (.ireturn, 1) := by decide +kernel
theorem zd_701 : decode code 701 = .ok (.aload_n 1, 1) := by decide +kernel
theorem zd_702 : decode code 702 = .ok (.aload_n 0, 1) := by decide +kernel
theorem zd_703 : decode code 703 = .ok (.iload_n 3, 1) := by decide +kernel
theorem zd_704 : decode code 704 = .ok (.iconst 1, 1) := by decide +kernel
theorem zd_705 : decode code 705 = .ok (.iadd, 1) := by decide +kernel
theorem zd_706 : decode code 706 = .ok (.iaload, 1) := by decide +kernel
theorem zd_707 : decode code 707 = .ok (.invokevirtual 87, 3) := by decide +kernel
theorem zd_710 : decode code 710 = .ok (.aload_n 2, 1) := by decide +kernel
theorem zd_711 : decode code 711 = .ok (.aload_n 0, 1) := by decide +kernel
theorem zd_712 : decode code 712 = .ok (.iload_n 3, 1) := by decide +kernel
theorem zd_713 : decode code 713 = .ok (.iconst 1, 1) := by decide +kernel
theorem zd_714 : decode code 714 = .ok (.iadd, 1) := by decide +kernel
theorem zd_715 : decode code 715 = .ok (.iaload, 1) := by decide +kernel
theorem zd_716 : decode code 716 = .ok (.invokevirtual 90, 3) := by decide +kernel
theorem zd_719 : decode code 719 = .ok (.if_icmp .eq 555, 3) := by decide +kernel
theorem zd_722 : decode code 722 = .ok (.iconst 0, 1) := by decide +kernel
theorem zd_723 : decode code 723 = .ok (.ireturn, 1) := by decide +kernel
theorem zd_724 : decode code 724 = .ok (.aload_n 1, 1) := by decide +kernel
theorem zd_725 : decode code 725 = .ok (.aload_n 0, 1) := by decide +kernel
theorem zd_726 : decode code 726 = .ok (.iload_n 3, 1) := by decide +kernel
theorem zd_727 : decode code 727 = .ok (.iconst 1, 1) := by decide +kernel
theorem zd_728 : decode code 728 = .ok (.iadd, 1) := by decide +kernel
theorem zd_729 : decode code 729 = .ok (.iaload, 1) := by decide +kernel
theorem zd_730 : decode code 730 = .ok (.aload_n 0, 1) := by decide +kernel
theorem zd_731 : decode code 731 = .ok (.iload_n 3, 1) := by decide +kernel
theorem zd_732 : decode code 732 = .ok (.iconst 2, 1) := by decide +kernel
theorem zd_733 : decode code 733 = .ok (.iadd, 1) := by decide +kernel
theorem zd_734 : decode code 734 = .ok (.iaload, 1) := by decide +kernel
theorem zd_735 : decode code 735 = .ok (.invokevirtual 91, 3) := by decide +kernel
theorem zd_738 : decode code 738 = .ok (.aload_n 2, 1) := by decide +kernel
theorem zd_739 : decode code 739 = .ok (.aload_n 0, 1) := by decide +kernel
theorem zd_740 : decode code 740 = .ok (.iload_n 3, 1) := by decide +kernel
theorem zd_741 : decode code 741 = .ok (.iconst 1, 1) := by decide +kernel
theorem zd_742 : decode code 742 = .ok (.iadd, 1) := by decide +kernel
theorem zd_743 : decode code 743 = .ok (.iaload, 1) := by decide +kernel
theorem zd_744 : decode code 744 = .ok (.aload_n 0, 1) := by decide +kernel
theorem zd_745 : decode code 745 = .ok (.iload_n 3, 1) := by decide +kernel
theorem zd_746 : decode code 746 = .ok (.iconst 2, 1) := by decide +kernel
theorem zd_747 : decode code 747 = .ok (.iadd, 1) := by decide +kernel
theorem zd_748 : decode code 748 = .ok (.iaload, 1) := by decide +kernel
theorem zd_749 : decode code 749 = .ok (.invokevirtual 94, 3) := by decide +kernel
theorem zd_752 : decode code 752 = .ok (.if_icmp .eq 522, 3) := by decide +kernel
theorem zd_755 : decode code 755 = .ok (.iconst 0, 1) := by decide +kernel
theorem zd_756 : decode code 756 = .ok (.ireturn, 1) := by decide +kernel
theorem zd_757 : decode code 757 = .ok (.aload_n 1, 1) := by decide +kernel
theorem zd_758 : decode code 758 = .ok (.aload_n 0, 1) := by decide +kernel
theorem zd_759 : decode code 759 = .ok (.iload_n 3, 1) := by decide +kernel
theorem zd_760 : decode code 760 = .ok (.iconst 1, 1) := by decide +kernel
theorem zd_761 : decode code 761 = .ok (.iadd, 1) := by decide +kernel
theorem zd_762 : decode code 762 = .ok (.iaload, 1) := by decide +kernel
theorem zd_763 : decode code 763 = .ok (.aload_n 0, 1) := by decide +kernel
theorem zd_764 : decode code 764 = .ok (.iload_n 3, 1) := by decide +kernel
theorem zd_765 : decode code 765 = .ok (.iconst 2, 1) := by decide +kernel
theorem zd_766 : decode code 766 = .ok (.iadd, 1) := by decide +kernel
theorem zd_767 : decode code 767 = .ok (.iaload, 1) := by decide +kernel
theorem zd_768 : decode code 768 = .ok (.invokevirtual 95, 3) := by decide +kernel
theorem zd_771 : decode code 771 = .ok (.aload_n 2, 1) := by decide +kernel
theorem zd_772 : decode code 772 = .ok (.aload_n 0, 1) := by decide +kernel
theorem zd_773 : decode code 773 = .ok (.iload_n 3, 1) := by decide +kernel
theorem zd_774 : decode code 774 = .ok (.iconst 1, 1) := by decide +kernel
theorem zd_775 : decode code 775 = .ok (.iadd, 1) := by decide +kernel
theorem zd_776 : decode code 776 = .ok (.iaload, 1) := by decide +kernel
theorem zd_777 : decode code 777 = .ok (.aload_n 0, 1) := by decide +kernel
theorem zd_778 : decode code 778 = .ok (.iload_n 3, 1) := by decide +kernel
theorem zd_779 : decode code 779 = .ok (.iconst 2, 1) := by decide +kernel
theorem zd_780 : decode code 780 = .ok (.iadd, 1) := by decide +kernel
theorem zd_781 : decode code 781 = .ok (.iaload, 1) := by decide +kernel
theorem zd_782 : decode code 782 = .ok (.invokevirtual 98, 3) := by decide +kernel
theorem zd_785 : decode code 785 = .ok (.if_icmp .eq 489, 3) := by decide +kernel
theorem zd_788 : decode code 788 = .ok (.iconst 0, 1) := by decide +kernel
theorem zd_789 : decode code 789 = .ok (.ireturn, 1) := by decide +kernel
theorem zd_790 : decode code 790 = .ok (.aload_n 1, 1) := by decide +kernel
theorem zd_791 : decode code 791 = .ok (.invokevirtual 99, 3) := by decide +kernel
theorem zd_794 : decode code 794 = .ok (.aload_n 2, 1) := by decide +kernel
theorem zd_795 : decode code 795 = .ok (.invokevirtual 102, 3) := by decide +kernel
theorem zd_798 : decode code 798 = .ok (.if_icmp .eq 476, 3) := by decide +kernel
theorem zd_801 : decode code 801 = .ok (.iconst 0, 1) := by decide +kernel
theorem zd_802 : decode code 802 = .ok (.ireturn, 1) := by decide +kernel
theorem zd_803 : decode code 803 = .ok (.aload_n 1, 1) := by decide +kernel
theorem zd_804 : decode code 804 = .ok (.aload_n 0, 1) := by decide +kernel
theorem zd_805 : decode code 805 = .ok (.iload_n 3, 1) := by decide +kernel
theorem zd_806 : decode code 806 = .ok (.iconst 1, 1) := by decide +kernel
theorem zd_807 : decode code 807 = .ok (.iadd, 1) := by decide +kernel
theorem zd_808 : decode code 808 = .ok (.iaload, 1) := by decide +kernel
theorem zd_809 : decode code 809 = .ok (.aload_n 0, 1) := by decide +kernel
theorem zd_810 : decode code 810 = .ok (.iload_n 3, 1) := by decide +kernel
theorem zd_811 : decode code 811 = .ok (.iconst 2, 1) := by decide +kernel
theorem zd_812 : decode code 812 = .ok (.iadd, 1) := by decide +kernel
theorem zd_813 : decode code 813 = .ok (.iaload, 1) := by decide +kernel
theorem zd_814 : decode code 814 = .ok (.aload_n 0, 1) := by decide +kernel
theorem zd_815 : decode code 815 = .ok (.iload_n 3, 1) := by decide +kernel
theorem zd_816 : decode code 816 = .ok (.iconst 3, 1) := by decide +kernel
theorem zd_817 : decode code 817 = .ok (.iadd, 1) := by decide +kernel
theorem zd_818 : decode code 818 = .ok (.iaload, 1) := by decide +kernel
theorem zd_819 : decode code 819 = .ok (.invokevirtual 103, 3) := by decide +kernel
theorem zd_822 : decode code 822 = .ok (.aload_n 2, 1) := by decide +kernel
theorem zd_823 : decode code 823 = .ok (.aload_n 0, 1) := by decide +kernel
theorem zd_824 : decode code 824 = .ok (.iload_n 3, 1) := by decide +kernel
theorem zd_825 : decode code 825 = .ok (.iconst 1, 1) := by decide +kernel
theorem zd_826 : decode code 826 = .ok (.iadd, 1) := by decide +kernel
theorem zd_827 : decode code 827 = .ok (.iaload, 1) := by decide +kernel
theorem zd_828 : decode code 828 = .ok (.aload_n 0, 1) := by decide +kernel
theorem zd_829 : decode code 829 = .ok (.iload_n 3, 1) := by decide +kernel
theorem zd_830 : decode code 830 = .ok (.iconst 2, 1) := by decide +kernel
theorem zd_831 : decode code 831 = .ok (.iadd, 1) := by decide +kernel
theorem zd_832 : decode code 832 = .ok (.iaload, 1) := by decide +kernel
theorem zd_833 : decode code 833 = .ok (.aload_n 0, 1) := by decide +kernel
theorem zd_834 : decode code 834 = .ok (.iload_n 3, 1) := by decide +kernel
theorem zd_835 : decode code 835 = .ok (.iconst 3, 1) := by decide +kernel
theorem zd_836 : decode code 836 = .ok (.iadd, 1) := by decide +kernel
theorem zd_837 : decode code 837 = .ok (.iaload, 1) := by decide +kernel
theorem zd_838 : decode code 838 = .ok (.invokevirtual 106, 3) := by decide +kernel
theorem zd_841 : decode code 841 = .ok (.if_icmp .eq 433, 3) := by decide +kernel
theorem zd_844 : decode code 844 = .ok (.iconst 0, 1) := by decide +kernel
theorem zd_845 : decode code 845 = .ok (.ireturn, 1) := by decide +kernel
theorem zd_846 : decode code 846 = .ok (.aload_n 1, 1) := by decide +kernel
theorem zd_847 : decode code 847 = .ok (.aload_n 0, 1) := by decide +kernel
theorem zd_848 : decode code 848 = .ok (.iload_n 3, 1) := by decide +kernel
theorem zd_849 : decode code 849 = .ok (.iconst 1, 1) := by decide +kernel
theorem zd_850 : decode code 850 = .ok (.iadd, 1) := by decide +kernel
theorem zd_851 : decode code 851 = .ok (.iaload, 1) := by decide +kernel
theorem zd_852 : decode code 852 = .ok (.aload_n 0, 1) := by decide +kernel
theorem zd_853 : decode code 853 = .ok (.iload_n 3, 1) := by decide +kernel
theorem zd_854 : decode code 854 = .ok (.iconst 2, 1) := by decide +kernel
theorem zd_855 : decode code 855 = .ok (.iadd, 1) := by decide +kernel
theorem zd_856 : decode code 856 = .ok (.iaload, 1) := by decide +kernel
theorem zd_857 : decode code 857 = .ok (.aload_n 0, 1) := by decide +kernel
theorem zd_858 : decode code 858 = .ok (.iload_n 3, 1) := by decide +kernel
theorem zd_859 : decode code 859 = .ok (.iconst 3, 1) := by decide +kernel
theorem zd_860 : decode code 860 = .ok (.iadd, 1) := by decide +kernel
theorem zd_861 : decode code 861 = .ok (.iaload, 1) := by decide +kernel
theorem zd_862 : decode code 862 = .ok (.invokevirtual 107, 3) := by decide +kernel
theorem zd_865 : decode code 865 = .ok (.aload_n 2, 1) := by decide +kernel
theorem zd_866 : decode code 866 = .ok (.aload_n 0, 1) := by decide +kernel
theorem zd_867 : decode code 867 = .ok (.iload_n 3, 1) := by decide +kernel
theorem zd_868 : decode code 868 = .ok (.iconst 1, 1) := by decide +kernel
theorem zd_869 : decode code 869 = .ok (.iadd, 1) := by decide +kernel
theorem zd_870 : decode code 870 = .ok (.iaload, 1) := by decide +kernel
theorem zd_871 : decode code 871 = .ok (.aload_n 0, 1) := by decide +kernel
theorem zd_872 : decode code 872 = .ok (.iload_n 3, 1) := by decide +kernel
theorem zd_873 : decode code 873 = .ok (.iconst 2, 1) := by decide +kernel
theorem zd_874 : decode code 874 = .ok (.iadd, 1) := by decide +kernel
theorem zd_875 : decode code 875 = .ok (.iaload, 1) := by decide +kernel
theorem zd_876 : decode code 876 = .ok (.aload_n 0, 1) := by decide +kernel
theorem zd_877 : decode code 877 = .ok (.iload_n 3, 1) := by decide +kernel
theorem zd_878 : decode code 878 = .ok (.iconst 3, 1) := by decide +kernel
theorem zd_879 : decode code 879 = .ok (.iadd, 1) := by decide +kernel
theorem zd_880 : decode code 880 = .ok (.iaload, 1) := by decide +kernel
theorem zd_881 : decode code 881 = .ok (.invokevirtual 110, 3) := by decide +kernel
theorem zd_884 : decode code 884 = .ok (.if_icmp .eq 390, 3) := by decide +kernel
theorem zd_887 : decode code 887 = .ok (.iconst 0, 1) := by decide +kernel
theorem zd_888 : decode code 888 = .ok (.ireturn, 1) := by decide +kernel
theorem zd_889 : decode code 889 = .ok (.aload_n 1, 1) := by decide +kernel
theorem zd_890 : decode code 890 = .ok (.aload_n 0, 1) := by decide +kernel
theorem zd_891 : decode code 891 = .ok (.iload_n 3, 1) := by decide +kernel
theorem zd_892 : decode code 892 = .ok (.iconst 1, 1) := by decide +kernel
theorem zd_893 : decode code 893 = .ok (.iadd, 1) := by decide +kernel
theorem zd_894 : decode code 894 = .ok (.iaload, 1) := by decide +kernel
theorem zd_895 : decode code 895 = .ok (.aload_n 0, 1) := by decide +kernel
theorem zd_896 : decode code 896 = .ok (.iload_n 3, 1) := by decide +kernel
theorem zd_897 : decode code 897 = .ok (.iconst 2, 1) := by decide +kernel
theorem zd_898 : decode code 898 = .ok (.iadd, 1) := by decide +kernel
theorem zd_899 : decode code 899 = .ok (.iaload, 1) := by decide +kernel
theorem zd_900 : decode code 900 = .ok (.aload_n 0, 1) := by decide +kernel
theorem zd_901 : decode code 901 = .ok (.iload_n 3, 1) := by decide +kernel
theorem zd_902 : decode code 902 = .ok (.iconst 3, 1) := by decide +kernel
theorem zd_903 : decode code 903 = .ok (.iadd, 1) := by decide +kernel
theorem zd_904 : decode code 904 = .ok (.iaload, 1) := by decide +kernel
theorem zd_905 : decode code 905 = .ok (.invokevirtual 111, 3) := by decide +kernel
theorem zd_908 : decode code 908 = .ok (.aload_n 2, 1) := by decide +kernel
theorem zd_909 : decode code 909 = .ok (.aload_n 0, 1) := by decide +kernel
theorem zd_910 : decode code 910 = .ok (.iload_n 3, 1) := by decide +kernel
theorem zd_911 : decode code 911 = .ok (.iconst 1, 1) := by decide +kernel
theorem zd_912 : decode code 912 = .ok (.iadd, 1) := by decide +kernel
theorem zd_913 : decode code 913 = .ok (.iaload, 1) := by decide +kernel
theorem zd_914 : decode code 914 = .ok (.aload_n 0, 1) := by decide +kernel
theorem zd_915 : decode code 915 = .ok (.iload_n 3, 1) := by decide +kernel
theorem zd_916 : decode code 916 = .ok (.iconst 2, 1) := by decide +kernel
theorem zd_917 : decode code 917 = .ok (.iadd, 1) := by decide +kernel
theorem zd_918 : decode code 918 = .ok (.iaload, 1) := by decide +kernel
theorem zd_919 : decode code 919 = .ok (.aload_n 0, 1) := by decide +kernel
theorem zd_920 : decode code 920 = .ok (.iload_n 3, 1) := by decide +kernel
theorem zd_921 : decode code 921 = .ok (.iconst 3, 1) := by decide +kernel
theorem zd_922 : decode code 922 = .ok (.iadd, 1) := by decide +kernel
theorem zd_923 : decode code 923 = .ok (.iaload, 1) := by decide +kernel
theorem zd_924 : decode code 924 = .ok (.invokevirtual 114, 3) := by decide +kernel
theorem zd_927 : decode code 927 = .ok (.if_icmp .eq 347, 3) := by decide +kernel
theorem zd_930 : decode code 930 = .ok (.iconst 0, 1) := by decide +kernel
theorem zd_931 : decode code 931 = .ok (.ireturn, 1) := by decide +kernel
theorem zd_932 : decode code 932 = .ok (.aload_n 1, 1) := by decide +kernel
theorem zd_933 : decode code 933 = .ok (.aload_n 0, 1) := by decide +kernel
theorem zd_934 : decode code 934 = .ok (.iload_n 3, 1) := by decide +kernel
theorem zd_935 : decode code 935 = .ok (.iconst 1, 1) := by decide +kernel
theorem zd_936 : decode code 936 = .ok (.iadd, 1) := by decide +kernel
theorem zd_937 : decode code 937 = .ok (.iaload, 1) := by decide +kernel
theorem zd_938 : decode code 938 = .ok (.aload_n 0, 1) := by decide +kernel
theorem zd_939 : decode code 939 = .ok (.iload_n 3, 1) := by decide +kernel
theorem zd_940 : decode code 940 = .ok (.iconst 2, 1) := by decide +kernel
theorem zd_941 : decode code 941 = .ok (.iadd, 1) := by decide +kernel
theorem zd_942 : decode code 942 = .ok (.iaload, 1) := by decide +kernel
theorem zd_943 : decode code 943 = .ok (.aload_n 0, 1) := by decide +kernel
theorem zd_944 : decode code 944 = .ok (.iload_n 3, 1) := by decide +kernel
theorem zd_945 : decode code 945 = .ok (.iconst 3, 1) := by decide +kernel
theorem zd_946 : decode code 946 = .ok (.iadd, 1) := by decide +kernel
theorem zd_947 : decode code 947 = .ok (.iaload, 1) := by decide +kernel
theorem zd_948 : decode code 948 = .ok (.invokevirtual 115, 3) := by decide +kernel
theorem zd_951 : decode code 951 = .ok (.aload_n 2, 1) := by decide +kernel
theorem zd_952 : decode code 952 = .ok (.aload_n 0, 1) := by decide +kernel
theorem zd_953 : decode code 953 = .ok (.iload_n 3, 1) := by decide +kernel
theorem zd_954 : decode code 954 = .ok (.iconst 1, 1) := by decide +kernel
theorem zd_955 : decode code 955 = .ok (.iadd, 1) := by decide +kernel
theorem zd_956 : decode code 956 = .ok (.iaload, 1) := by decide +kernel
theorem zd_957 : decode code 957 = .ok (.aload_n 0, 1) := by decide +kernel
theorem zd_958 : decode code 958 = .ok (.iload_n 3, 1) := by decide +kernel
theorem zd_959 : decode code 959 = .ok (.iconst 2, 1) := by decide +kernel
theorem zd_960 : decode code 960 = .ok (.iadd, 1) := by decide +kernel
theorem zd_961 : decode code 961 = .ok (.iaload, 1) := by decide +kernel
theorem zd_962 : decode code 962 = .ok (.aload_n 0, 1) := by decide +kernel
theorem zd_963 : decode code 963 = .ok (.iload_n 3, 1) := by decide +kernel
theorem zd_964 : decode code 964 = .ok (.iconst 3, 1) := by decide +kernel
theorem zd_965 : decode code 965 = .ok (.iadd, 1) := by decide +kernel
theorem zd_966 : decode code 966 = .ok (.iaload, 1) := by decide +kernel
theorem zd_967 : decode code 967 = .ok (.invokevirtual 118, 3) := by decide +kernel
theorem zd_970 : decode code 970 = .ok (.if_icmp .eq 304, 3) := by decide +kernel
theorem zd_973 : decode code 973 = .ok (.iconst 0, 1) := by decide +kernel
theorem zd_974 : decode code 974 = .ok (.ireturn, 1) := by decide +kernel
theorem zd_975 : decode code 975 = .ok (.aload_n 1, 1) := by decide +kernel
theorem zd_976 : decode code 976 = .ok (.aload_n 0, 1) := by decide +kernel
theorem zd_977 : decode code 977 = .ok (.iload_n 3, 1) := by decide +kernel
theorem zd_978 : decode code 978 = .ok (.iconst 1, 1) := by decide +kernel
theorem zd_979 : decode code 979 = .ok (.iadd, 1) := by decide +kernel
theorem zd_980 : decode code 980 = .ok (.iaload, 1) := by decide +kernel
theorem zd_981 : decode code 981 = .ok (.aload_n 0, 1) := by decide +kernel
theorem zd_982 : decode code 982 = .ok (.iload_n 3, 1) := by decide +kernel
theorem zd_983 : decode code 983 = .ok (.iconst 2, 1) := by decide +kernel
theorem zd_984 : decode code 984 = .ok (.iadd, 1) := by decide +kernel
theorem zd_985 : decode code 985 = .ok (.iaload, 1) := by decide +kernel
theorem zd_986 : decode code 986 = .ok (.invokevirtual 119, 3) := by decide +kernel
theorem zd_989 : decode code 989 = .ok (.aload_n 2, 1) := by decide +kernel
theorem zd_990 : decode code 990 = .ok (.aload_n 0, 1) := by decide +kernel
theorem zd_991 : decode code 991 = .ok (.iload_n 3, 1) := by decide +kernel
theorem zd_992 : decode code 992 = .ok (.iconst 1, 1) := by decide +kernel
theorem zd_993 : decode code 993 = .ok (.iadd, 1) := by decide +kernel
theorem zd_994 : decode code 994 = .ok (.iaload, 1) := by decide +kernel
theorem zd_995 : decode code 995 = .ok (.aload_n 0, 1) := by decide +kernel
theorem zd_996 : decode code 996 = .ok (.iload_n 3, 1) := by decide +kernel
theorem zd_997 : decode code 997 = .ok (.iconst 2, 1) := by decide +kernel
theorem zd_998 : decode code 998 = .ok (.iadd, 1) := by decide +kernel
theorem zd_999 : decode code 999 = .ok (.iaload, 1) := by decide +kernel
theorem zd_1000 : decode code 1000 = .ok (.invokevirtual 122, 3) := by decide +kernel
theorem zd_1003 : decode code 1003 = .ok (.if_icmp .eq 271, 3) := by decide +kernel
theorem zd_1006 : decode code 1006 = .ok (.iconst 0, 1) := by decide +kernel
theorem zd_1007 : decode code 1007 = .ok (.ireturn, 1) := by decide +kernel
theorem zd_1008 : decode code 1008 = .ok (.aload_n 1, 1) := by decide +kernel
theorem zd_1009 : decode code 1009 = .ok (.invokevirtual 123, 3) := by decide +kernel
theorem zd_1012 : decode code 1012 = .ok (.aload_n 2, 1) := by decide +kernel
theorem zd_1013 : decode code 1013 = .ok (.invokevirtual 126, 3) := by decide +kernel
theorem zd_1016 : decode code 1016 = .ok (.if_icmp .eq 258, 3) := by decide +kernel
theorem zd_1019 : decode code 1019 = .ok (.iconst 0, 1) := by decide +kernel
theorem zd_1020 : decode code 1020 = .ok (.ireturn, 1) := by decide +kernel
theorem zd_1021 : decode code 1021 = .ok (.aload_n 1, 1) := by decide +kernel
theorem zd_1022 : decode code 1022 = .ok (.aload_n 0, 1) := by decide +kernel
theorem zd_1023 : decode code 1023 = .ok (.iload_n 3, 1) := by decide +kernel
theorem zd_1024 : decode code 1024 = .ok (.iconst 1, 1) := by decide +kernel
theorem zd_1025 : decode code 1025 = .ok (.iadd, 1) := by decide +kernel
theorem zd_1026 : decode code 1026 = .ok (.iaload, 1) := by decide +kernel
theorem zd_1027 : decode code 1027 = .ok (.aload_n 0, 1) := by decide +kernel
theorem zd_1028 : decode code 1028 = .ok (.iload_n 3, 1) := by decide +kernel
theorem zd_1029 : decode code 1029 = .ok (.iconst 2, 1) := by decide +kernel
theorem zd_1030 : decode code 1030 = .ok (.iadd, 1) := by decide +kernel
theorem zd_1031 : decode code 1031 = .ok (.iaload, 1) := by decide +kernel
theorem zd_1032 : decode code 1032 = .ok (.aload_n 0, 1) := by decide +kernel
theorem zd_1033 : decode code 1033 = .ok (.iload_n 3, 1) := by decide +kernel
theorem zd_1034 : decode code 1034 = .ok (.iconst 3, 1) := by decide +kernel
theorem zd_1035 : decode code 1035 = .ok (.iadd, 1) := by decide +kernel
theorem zd_1036 : decode code 1036 = .ok (.iaload, 1) := by decide +kernel
theorem zd_1037 : decode code 1037 = .ok (.aload_n 0, 1) := by decide +kernel
theorem zd_1038 : decode code 1038 = .ok (.iload_n 3, 1) := by decide +kernel
theorem zd_1039 : decode code 1039 = .ok (.iconst 4, 1) := by decide +kernel
theorem zd_1040 : decode code 1040 = .ok (.iadd, 1) := by decide +kernel
theorem zd_1041 : decode code 1041 = .ok (.iaload, 1) := by decide +kernel
theorem zd_1042 : decode code 1042 = .ok (.invokevirtual 127, 3) := by decide +kernel
theorem zd_1045 : decode code 1045 = .ok (.aload_n 2, 1) := by decide +kernel
theorem zd_1046 : decode code 1046 = .ok (.aload_n 0, 1) := by decide +kernel
theorem zd_1047 : decode code 1047 = .ok (.iload_n 3, 1) := by decide +kernel
theorem zd_1048 : decode code 1048 = .ok (.iconst 1, 1) := by decide +kernel
theorem zd_1049 : decode code 1049 = .ok (.iadd, 1) := by decide +kernel
theorem zd_1050 : decode code 1050 = .ok (.iaload, 1) := by decide +kernel
theorem zd_1051 : decode code 1051 = .ok (.aload_n 0, 1) := by decide +kernel
theorem zd_1052 : decode code 1052 = .ok (.iload_n 3, 1) := by decide +kernel
theorem zd_1053 : decode code 1053 = .ok (.iconst 2, 1) := by decide +kernel
theorem zd_1054 : decode code 1054 = .ok (.iadd, 1) := by decide +kernel
theorem zd_1055 : decode code 1055 = .ok (.iaload, 1) := by decide +kernel
theorem zd_1056 : decode code 1056 = .ok (.aload_n 0, 1) := by decide +kernel
theorem zd_1057 : decode code 1057 = .ok (.iload_n 3, 1) := by decide +kernel
theorem zd_1058 : decode code 1058 = .ok (.iconst 3, 1) := by decide +kernel
theorem zd_1059 : decode code 1059 = .ok (.iadd, 1) := by decide +kernel
theorem zd_1060 : decode code 1060 = .ok (.iaload, 1) := by decide +kernel
theorem zd_1061 : decode code 1061 = .ok (.aload_n 0, 1) := by decide +kernel
theorem zd_1062 : decode code 1062 = .ok (.iload_n 3, 1) := by decide +kernel
theorem zd_1063 : decode code 1063 = .ok (.iconst 4, 1) := by decide +kernel
theorem zd_1064 : decode code 1064 = .ok (.iadd, 1) := by decide +kernel
theorem zd_1065 : decode code 1065 = .ok (.iaload, 1) := by decide +kernel
theorem zd_1066 : decode code 1066 = .ok (.invokevirtual 131, 3) := by decide +kernel
theorem zd_1069 : decode code 1069 = .ok (.if_icmp .eq 205, 3) := by decide +kernel
theorem zd_1072 : decode code 1072 = .ok (.iconst 0, 1) := by decide +kernel
theorem zd_1073 : decode code 1073 = .ok (.ireturn, 1) := by decide +kernel
theorem zd_1074 : decode code 1074 = .ok (.aload_n 1, 1) := by decide +kernel
theorem zd_1075 : decode code 1075 = .ok (.aload_n 0, 1) := by decide +kernel
theorem zd_1076 : decode code 1076 = .ok (.iload_n 3, 1) := by decide +kernel
theorem zd_1077 : decode code 1077 = .ok (.iconst 1, 1) := by decide +kernel
theorem zd_1078 : decode code 1078 = .ok (.iadd, 1) := by decide +kernel
theorem zd_1079 : decode code 1079 = .ok (.iaload, 1) := by decide +kernel
theorem zd_1080 : decode code 1080 = .ok (.aload_n 0, 1) := by decide +kernel
theorem zd_1081 : decode code 1081 = .ok (.iload_n 3, 1) := by decide +kernel
theorem zd_1082 : decode code 1082 = .ok (.iconst 2, 1) := by decide +kernel
theorem zd_1083 : decode code 1083 = .ok (.iadd, 1) := by decide +kernel
theorem zd_1084 : decode code 1084 = .ok (.iaload, 1) := by decide +kernel
theorem zd_1085 : decode code 1085 = .ok (.invokevirtual 132, 3) := by decide +kernel
theorem zd_1088 : decode code 1088 = .ok (.aload_n 2, 1) := by decide +kernel
theorem zd_1089 : decode code 1089 = .ok (.aload_n 0, 1) := by decide +kernel
theorem zd_1090 : decode code 1090 = .ok (.iload_n 3, 1) := by decide +kernel
theorem zd_1091 : decode code 1091 = .ok (.iconst 1, 1) := by decide +kernel
theorem zd_1092 : decode code 1092 = .ok (.iadd, 1) := by decide +kernel
theorem zd_1093 : decode code 1093 = .ok (.iaload, 1) := by decide +kernel
theorem zd_1094 : decode code 1094 = .ok (.aload_n 0, 1) := by decide +kernel
theorem zd_1095 : decode code 1095 = .ok (.iload_n 3, 1) := by decide +kernel
theorem zd_1096 : decode code 1096 = .ok (.iconst 2, 1) := by decide +kernel
theorem zd_1097 : decode code 1097 = .ok (.iadd, 1) := by decide +kernel
theorem zd_1098 : decode code 1098 = .ok (.iaload, 1) := by decide +kernel
theorem zd_1099 : decode code 1099 = .ok (.invokevirtual 135, 3) := by decide +kernel
theorem zd_1102 : decode code 1102 = .ok (.if_icmp .eq 172, 3) := by decide +kernel
theorem zd_1105 : decode code 1105 = .ok (.iconst 0, 1) := by decide +kernel
theorem zd_1106 : decode code 1106 = .ok (.ireturn, 1) := by decide +kernel
theorem zd_1107 : decode code 1107 = .ok (.aload_n 1, 1) := by decide +kernel
theorem zd_1108 : decode code 1108 = .ok (.aload_n 0, 1) := by decide +kernel
theorem zd_1109 : decode code 1109 = .ok (.iload_n 3, 1) := by decide +kernel
theorem zd_1110 : decode code 1110 = .ok (.iconst 1, 1) := by decide +kernel
theorem zd_1111 : decode code 1111 = .ok (.iadd, 1) := by decide +kernel
theorem zd_1112 : decode code 1112 = .ok (.iaload, 1) := by decide +kernel
theorem zd_1113 : decode code 1113 = .ok (.invokevirtual 136, 3) := by decide +kernel
theorem zd_1116 : decode code 1116 = .ok (.aload_n 2, 1) := by decide +kernel
theorem zd_1117 : decode code 1117 = .ok (.aload_n 0, 1) := by decide +kernel
theorem zd_1118 : decode code 1118 = .ok (.iload_n 3, 1) := by decide +kernel
theorem zd_1119 : decode code 1119 = .ok (.iconst 1, 1) := by decide +kernel
theorem zd_1120 : decode code 1120 = .ok (.iadd, 1) := by decide +kernel
theorem zd_1121 : decode code 1121 = .ok (.iaload, 1) := by decide +kernel
theorem zd_1122 : decode code 1122 = .ok (.invokevirtual 139, 3) := by decide +kernel
theorem zd_1125 : decode code 1125 = .ok (.if_icmp .eq 149, 3) := by decide +kernel
theorem zd_1128 : decode code 1128 = .ok (.iconst 0, 1) := by decide +kernel
theorem zd_1129 : decode code 1129 = .ok (.ireturn, 1) := by decide +kernel
theorem zd_1130 : decode code 1130 = .ok (.aload_n 1, 1) := by decide +kernel
theorem zd_1131 : decode code 1131 = .ok (.aload_n 0, 1) := by decide +kernel
theorem zd_1132 : decode code 1132 = .ok (.iload_n 3, 1) := by decide +kernel
theorem zd_1133 : decode code 1133 = .ok (.iconst 1, 1) := by decide +kernel
theorem zd_1134 : decode code 1134 = .ok (.iadd, 1) := by decide +kernel
theorem zd_1135 : decode code 1135 = .ok (.iaload, 1) := by decide +kernel
theorem zd_1136 : decode code 1136 = .ok (.aload_n 0, 1) := by decide +kernel
theorem zd_1137 : decode code 1137 = .ok (.iload_n 3, 1) := by decide +kernel
theorem zd_1138 : decode code 1138 = .ok (.iconst 2, 1) := by decide +kernel
theorem zd_1139 : decode code 1139 = .ok (.iadd, 1) := by decide +kernel
theorem zd_1140 : decode code 1140 = .ok (.iaload, 1) := by decide +kernel
theorem zd_1141 : decode code 1141 = .ok (.aload_n 0, 1) := by decide +kernel
theorem zd_1142 : decode code 1142 = .ok (.iload_n 3, 1) := by decide +kernel
theorem zd_1143 : decode code 1143 = .ok (.iconst 3, 1) := by decide +kernel
theorem zd_1144 : decode code 1144 = .ok (.iadd, 1) := by decide +kernel
theorem zd_1145 : decode code 1145 = .ok (.iaload, 1) := by decide +kernel
theorem zd_1146 : decode code 1146 = .ok (.aload_n 0, 1) := by decide +kernel
theorem zd_1147 : decode code 1147 = .ok (.iload_n 3, 1) := by decide +kernel
theorem zd_1148 : decode code 1148 = .ok (.iconst 4, 1) := by decide +kernel
theorem zd_1149 : decode code 1149 = .ok (.iadd, 1) := by decide +kernel
theorem zd_1150 : decode code 1150 = .ok (.iaload, 1) := by decide +kernel
theorem zd_1151 : decode code 1151 = .ok (.aload_n 0, 1) := by decide +kernel
theorem zd_1152 : decode code 1152 = .ok (.iload_n 3, 1) := by decide +kernel
theorem zd_1153 : decode code 1153 = .ok (.iconst 5, 1) := by decide +kernel
theorem zd_1154 : decode code 1154 = .ok (.iadd, 1) := by decide +kernel
theorem zd_1155 : decode code 1155 = .ok (.iaload, 1) := by decide +kernel
theorem zd_1156 : decode code 1156 = .ok (.aload_n 0, 1) := by decide +kernel
theorem zd_1157 : decode code 1157 = .ok (.iload_n 3, 1) := by decide +kernel
theorem zd_1158 : decode code 1158 = .ok (.bipush 6, 2) := by decide +kernel
theorem zd_1160 : decode code 1160 = .ok (.iadd, 1) := by decide +kernel
theorem zd_1161 : decode code 1161 = .ok (.iaload, 1) := by decide +kernel
theorem zd_1162 : decode code 1162 = .ok (.invokevirtual 140, 3) := by decide +kernel
theorem zd_1165 : decode code 1165 = .ok (.aload_n 2, 1) := by decide +kernel
theorem zd_1166 : decode code 1166 = .ok (.aload_n 0, 1) := by decide +kernel
theorem zd_1167 : decode code 1167 = .ok (.iload_n 3, 1) := by decide +kernel
theorem zd_1168 : decode code 1168 = .ok (.iconst 1, 1) := by decide +kernel
theorem zd_1169 : decode code 1169 = .ok (.iadd, 1) := by decide +kernel
theorem zd_1170 : decode code 1170 = .ok (.iaload, 1) := by decide +kernel
theorem zd_1171 : decode code 1171 = .ok (.aload_n 0, 1) := by decide +kernel
theorem zd_1172 : decode code 1172 = .ok (.iload_n 3, 1) := by decide +kernel
theorem zd_1173 : decode code 1173 = .ok (.iconst 2, 1) := by decide +kernel
theorem zd_1174 : decode code 1174 = .ok (.iadd, 1) := by decide +kernel
theorem zd_1175 : decode code 1175 = .ok (.iaload, 1) := by decide +kernel
theorem zd_1176 : decode code 1176 = .ok (.aload_n 0, 1) := by decide +kernel
theorem zd_1177 : decode code 1177 = .ok (.iload_n 3, 1) := by decide +kernel
theorem zd_1178 : decode code 1178 = .ok (.iconst 3, 1) := by decide +kernel
theorem zd_1179 : decode code 1179 = .ok (.iadd, 1) := by decide +kernel
theorem zd_1180 : decode code 1180 = .ok (.iaload, 1) := by decide +kernel
theorem zd_1181 : decode code 1181 = .ok (.aload_n 0, 1) := by decide +kernel
theorem zd_1182 : decode code 1182 = .ok (.iload_n 3, 1) := by decide +kernel
theorem zd_1183 : decode code 1183 = .ok (.iconst 4, 1) := by decide +kernel
theorem zd_1184 : decode code 1184 = .ok (.iadd, 1) := by decide +kernel
theorem zd_1185 : decode code 1185 = .ok (.iaload, 1) := by decide +kernel
theorem zd_1186 : decode code 1186 = .ok (.aload_n 0, 1) := by decide +kernel
theorem zd_1187 : decode code 1187 = .ok (.iload_n 3, 1) := by decide +kernel
theorem zd_1188 : decode code 1188 = .ok (.iconst 5, 1) := by decide +kernel
theorem zd_1189 : decode code 1189 = .ok (.iadd, 1) := by decide +kernel
theorem zd_1190 : decode code 1190 = .ok (.iaload, 1) := by decide +kernel
theorem zd_1191 : decode code 1191 = .ok (.aload_n 0, 1) := by decide +kernel
theorem zd_1192 : decode code 1192 = .ok (.iload_n 3, 1) := by decide +kernel
theorem zd_1193 : decode code 1193 = .ok (.bipush 6, 2) := by decide +kernel
theorem zd_1195 : decode code 1195 = .ok (.iadd, 1) := by decide +kernel
theorem zd_1196 : decode code 1196 = .ok (.iaload, 1) := by decide +kernel
theorem zd_1197 : decode code 1197 = .ok (.invokevirtual 144, 3) := by decide +kernel
theorem zd_1200 : decode code 1200 = .ok (.if_icmp .eq 74, 3) := by decide +kernel
theorem zd_1203 : decode code 1203 = .ok (.iconst 0, 1) := by decide +kernel
theorem zd_1204 : decode code 1204 = .ok (.ireturn, 1) := by decide +kernel
theorem zd_1205 : decode code 1205 = .ok (.aload_n 1, 1) := by decide +kernel
theorem zd_1206 : decode code 1206 = .ok (.aload_n 0, 1) := by decide +kernel
theorem zd_1207 : decode code 1207 = .ok (.iload_n 3, 1) := by decide +kernel
theorem zd_1208 : decode code 1208 = .ok (.iconst 1, 1) := by decide +kernel
theorem zd_1209 : decode code 1209 = .ok (.iadd, 1) := by decide +kernel
theorem zd_1210 : decode code 1210 = .ok (.iaload, 1) := by decide +kernel
theorem zd_1211 : decode code 1211 = .ok (.invokevirtual 145, 3) := by decide +kernel
theorem zd_1214 : decode code 1214 = .ok (.aload_n 2, 1) := by decide +kernel
theorem zd_1215 : decode code 1215 = .ok (.aload_n 0, 1) := by decide +kernel
theorem zd_1216 : decode code 1216 = .ok (.iload_n 3, 1) := by decide +kernel
theorem zd_1217 : decode code 1217 = .ok (.iconst 1, 1) := by decide +kernel
theorem zd_1218 : decode code 1218 = .ok (.iadd, 1) := by decide +kernel
theorem zd_1219 : decode code 1219 = .ok (.iaload, 1) := by decide +kernel
theorem zd_1220 : decode code 1220 = .ok (.invokevirtual 148, 3) := by decide +kernel
theorem zd_1223 : decode code 1223 = .ok (.if_icmp .eq 51, 3) := by decide +kernel
theorem zd_1226 : decode code 1226 = .ok (.iconst 0, 1) := by decide +kernel
theorem zd_1227 : decode code 1227 = .ok (.ireturn, 1) := by decide +kernel
theorem zd_1228 : decode code 1228 = .ok (.aload_n 1, 1) := by decide +kernel
theorem zd_1229 : decode code 1229 = .ok (.aload_n 0, 1) := by decide +kernel
theorem zd_1230 : decode code 1230 = .ok (.iload_n 3, 1) := by decide +kernel
theorem zd_1231 : decode code 1231 = .ok (.iconst 1, 1) := by decide +kernel
theorem zd_1232 : decode code 1232 = .ok (.iadd, 1) := by decide +kernel
theorem zd_1233 : decode code 1233 = .ok (.iaload, 1) := by decide +kernel
theorem zd_1234 : decode code 1234 = .ok (.invokevirtual 149, 3) := by decide +kernel
theorem zd_1237 : decode code 1237 = .ok (.aload_n 2, 1) := by decide +kernel
theorem zd_1238 : decode code 1238 = .ok (.aload_n 0, 1) := by decide +kernel
theorem zd_1239 : decode code 1239 = .ok (.iload_n 3, 1) := by decide +kernel
theorem zd_1240 : decode code 1240 = .ok (.iconst 1, 1) := by decide +kernel
theorem zd_1241 : decode code 1241 = .ok (.iadd, 1) := by decide +kernel
theorem zd_1242 : decode code 1242 = .ok (.iaload, 1) := by decide +kernel
theorem zd_1243 : decode code 1243 = .ok (.invokevirtual 152, 3) := by decide +kernel
theorem zd_1246 : decode code 1246 = .ok (.if_icmp .eq 28, 3) := by decide +kernel
theorem zd_1249 : decode code 1249 = .ok (.iconst 0, 1) := by decide +kernel
theorem zd_1250 : decode code 1250 = .ok (.ireturn, 1) := by decide +kernel
theorem zd_1251 : decode code 1251 = .ok (.aload_n 1, 1) := by decide +kernel
theorem zd_1252 : decode code 1252 = .ok (.aload_n 0, 1) := by decide +kernel
theorem zd_1253 : decode code 1253 = .ok (.iload_n 3, 1) := by decide +kernel
theorem zd_1254 : decode code 1254 = .ok (.iconst 1, 1) := by decide +kernel
theorem zd_1255 : decode code 1255 = .ok (.iadd, 1) := by decide +kernel
theorem zd_1256 : decode code 1256 = .ok (.iaload, 1) := by decide +kernel
theorem zd_1257 : decode code 1257 = .ok (.invokevirtual 153, 3) := by decide +kernel
theorem zd_1260 : decode code 1260 = .ok (.aload_n 2, 1) := by decide +kernel
theorem zd_1261 : decode code 1261 = .ok (.aload_n 0, 1) := by decide +kernel
theorem zd_1262 : decode code 1262 = .ok (.iload_n 3, 1) := by decide +kernel
theorem zd_1263 : decode code 1263 = .ok (.iconst 1, 1) := by decide +kernel
theorem zd_1264 : decode code 1264 = .ok (.iadd, 1) := by decide +kernel
theorem zd_1265 : decode code 1265 = .ok (.iaload, 1) := by decide +kernel
theorem zd_1266 : decode code 1266 = .ok (.invokevirtual 156, 3) := by decide +kernel
theorem zd_1269 : decode code 1269 = .ok (.if_icmp .eq 5, 3) := by decide +kernel
theorem zd_1272 : decode code 1272 = .ok (.iconst 0, 1) := by decide +kernel
theorem zd_1273 : decode code 1273 = .ok (.ireturn, 1) := by decide +kernel
theorem zd_1274 : decode code 1274 = .ok (.iinc 3 7, 3) := by decide +kernel
theorem zd_1277 : decode code 1277 = .ok (.goto (-1259), 3) := by decide +kernel
theorem zd_1280 : decode code 1280 = .ok (.iconst 1, 1) := by decide +kernel
theorem zd_1281 : decode code 1281 = .ok (.ireturn, 1) := by decide +kernel
