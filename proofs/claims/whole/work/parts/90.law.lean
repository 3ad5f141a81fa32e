/-! THE CLAIM OUT OF ONE WALK OF THE LAW'S BODY. Your part is whole_start (and what it stands on); all else here is the same for every law, but numbers. -/
def R_law : String := "ProtocolBenchLaw"
def lw_P (b : Addr) (xs : List Int32) (args : Array Value) (s : State) : Prop := args = #[.ref b] ∧ s.IntsAt b xs ∧ xs.length ≤ 2560 ∧ (Jvm.Cond.and given_1 narrow_1).before args s = true
def lw_Q (_ : Array Value) (s : State) (o : Outcome) (t : State) : Prop := o = .returned (some (.int 1)) ∧ Framed s o t [] 600000 7302250
def lw_Z (below : List Frame) (a : Array Value) (s : State) : State → Prop := fun t => ∃ o, t.status = .running ∧ Ended t below o ∧ lw_Q a s o t
/-- the law's own end, with 1 on the stack, nothing written that was there before, its room as the claim has it -/
theorem lw_ret {p : Program} {l : Launch} {e : Env} {s : State} {m : MethodId} {below : List Frame} {meth : Method} {c : Code} {b : Nat} (hx : p.tables.exec = Jvm.exec) (hb : c.code = code) (hr : meth.sig.returnType = ret) (hlocks : meth.locks = false) {pc : Nat} {H : Heap} {ls : Array Slot} (hdg : decode code pc = .ok (.ireturn, 1)) : W p l e room_1 s m #[Value.ref b] below meth c H [] 600000 7302250 (lw_Z below #[Value.ref b] s) (F0 m pc ls [.int 1]) := by
  intro T hT X
  obtain ⟨fs, hret, hrun, hended, hW, hframe⟩ := X.leave (v := some (.int 1)) (hlocks := hlocks) (fun h => by rw [hr] at h; cases h)
  have hmeth' : T.vm.method? m = some meth := X.method'
  refine ⟨T.setFrames fs, ?_, .returned (some (.int 1)), hrun, hended, rfl, ⟨_, rfl⟩, hW, hframe⟩
  jvm_step X.here [X.here.top, hx, hb, hdg, hmeth', hr, ret, narrow_b1]
  (try refine ⟨rfl, ?_⟩); (try refine ⟨rfl, ?_⟩)
  first | (intro acts; rw [hret _ acts rfl rfl rfl]) | rw [hret _ _ rfl rfl rfl]
  exact Steps.refl _
/-- what holds at the law's entry: the machine, the code, the tables' words (any of lw_tbl by 'hts w (by decide +kernel)'), the script of L ints xs at the cell b, what the Statement gives of the start (any of its parts by flat_of_before) -/
def lw_At (p : Program) (s : State) (m : MethodId) (meth : Method) (c : Code) (b L : Nat) (xs : Nat → Int32) : Prop :=
  p.tables.exec = Jvm.exec ∧ c.code = code ∧ meth.sig.returnType = ret ∧ c.maxLocals = 4 ∧ s.vm.findClass R_law = some m.cls ∧ (∀ w ∈ lw_tbl, w.before #[Value.ref b] s = true) ∧ va_X b L xs s s.heap ∧ b < s.heap.size ∧ meth.locks = false ∧ (Jvm.Cond.and given_1 narrow_1).before #[Value.ref b] s = true
/-! ===== the law: its words, its instructions ===== -/
theorem dL_0 : decode code 0 = .ok (.new 7, 3) := by decide +kernel
theorem dL_3 : decode code 3 = .ok (.dup, 1) := by decide +kernel
theorem dL_4 : decode code 4 = .ok (.invokespecial 9, 3) := by decide +kernel
theorem dL_7 : decode code 7 = .ok (.astore_n 1, 1) := by decide +kernel
theorem dL_8 : decode code 8 = .ok (.new 10, 3) := by decide +kernel
theorem dL_11 : decode code 11 = .ok (.dup, 1) := by decide +kernel
theorem dL_12 : decode code 12 = .ok (.invokespecial 12, 3) := by decide +kernel
theorem dL_15 : decode code 15 = .ok (.astore_n 2, 1) := by decide +kernel
theorem dL_16 : decode code 16 = .ok (.iconst 0, 1) := by decide +kernel
theorem dL_17 : decode code 17 = .ok (.istore_n 3, 1) := by decide +kernel
theorem dL_18 : decode code 18 = .ok (.iload_n 3, 1) := by decide +kernel
theorem dL_19 : decode code 19 = .ok (.aload_n 0, 1) := by decide +kernel
theorem dL_20 : decode code 20 = .ok (.arraylength, 1) := by decide +kernel
theorem dL_21 : decode code 21 = .ok (.iconst 5, 1) := by decide +kernel
theorem dL_22 : decode code 22 = .ok (.isub, 1) := by decide +kernel
theorem dL_23 : decode code 23 = .ok (.if_icmp .gt 1120, 3) := by decide +kernel
theorem dL_26 : decode code 26 = .ok (.aload_n 0, 1) := by decide +kernel
theorem dL_27 : decode code 27 = .ok (.iload_n 3, 1) := by decide +kernel
theorem dL_28 : decode code 28 = .ok (.iaload, 1) := by decide +kernel
theorem dL_29 : decode code 29 = .ok (.bipush 31, 2) := by decide +kernel
theorem dL_31 : decode code 31 = .ok (.iand, 1) := by decide +kernel
theorem dL_32 : decode code 32 = .ok (.tableswitch 1105 0 26 #[124, 167, 190, 243, 276, 351, 404, 457, 510, 549, 562, 595, 638, 691, 734, 757, 800, 823, 856, 869, 892, 915, 964, 1023, 1046, 1059, 1082], 124) := by decide +kernel
theorem dL_156 : decode code 156 = .ok (.aload_n 1, 1) := by decide +kernel
theorem dL_157 : decode code 157 = .ok (.aload_n 0, 1) := by decide +kernel
theorem dL_158 : decode code 158 = .ok (.iload_n 3, 1) := by decide +kernel
theorem dL_159 : decode code 159 = .ok (.iconst 1, 1) := by decide +kernel
theorem dL_160 : decode code 160 = .ok (.iadd, 1) := by decide +kernel
theorem dL_161 : decode code 161 = .ok (.iaload, 1) := by decide +kernel
theorem dL_162 : decode code 162 = .ok (.aload_n 0, 1) := by decide +kernel
theorem dL_163 : decode code 163 = .ok (.iload_n 3, 1) := by decide +kernel
theorem dL_164 : decode code 164 = .ok (.iconst 2, 1) := by decide +kernel
theorem dL_165 : decode code 165 = .ok (.iadd, 1) := by decide +kernel
theorem dL_166 : decode code 166 = .ok (.iaload, 1) := by decide +kernel
theorem dL_167 : decode code 167 = .ok (.aload_n 0, 1) := by decide +kernel
theorem dL_168 : decode code 168 = .ok (.iload_n 3, 1) := by decide +kernel
theorem dL_169 : decode code 169 = .ok (.iconst 3, 1) := by decide +kernel
theorem dL_170 : decode code 170 = .ok (.iadd, 1) := by decide +kernel
theorem dL_171 : decode code 171 = .ok (.iaload, 1) := by decide +kernel
theorem dL_172 : decode code 172 = .ok (.invokevirtual 13, 3) := by decide +kernel
theorem dL_175 : decode code 175 = .ok (.aload_n 2, 1) := by decide +kernel
theorem dL_176 : decode code 176 = .ok (.aload_n 0, 1) := by decide +kernel
theorem dL_177 : decode code 177 = .ok (.iload_n 3, 1) := by decide +kernel
theorem dL_178 : decode code 178 = .ok (.iconst 1, 1) := by decide +kernel
theorem dL_179 : decode code 179 = .ok (.iadd, 1) := by decide +kernel
theorem dL_180 : decode code 180 = .ok (.iaload, 1) := by decide +kernel
theorem dL_181 : decode code 181 = .ok (.aload_n 0, 1) := by decide +kernel
theorem dL_182 : decode code 182 = .ok (.iload_n 3, 1) := by decide +kernel
theorem dL_183 : decode code 183 = .ok (.iconst 2, 1) := by decide +kernel
theorem dL_184 : decode code 184 = .ok (.iadd, 1) := by decide +kernel
theorem dL_185 : decode code 185 = .ok (.iaload, 1) := by decide +kernel
theorem dL_186 : decode code 186 = .ok (.aload_n 0, 1) := by decide +kernel
theorem dL_187 : decode code 187 = .ok (.iload_n 3, 1) := by decide +kernel
theorem dL_188 : decode code 188 = .ok (.iconst 3, 1) := by decide +kernel
theorem dL_189 : decode code 189 = .ok (.iadd, 1) := by decide +kernel
theorem dL_190 : decode code 190 = .ok (.iaload, 1) := by decide +kernel
theorem dL_191 : decode code 191 = .ok (.invokevirtual 17, 3) := by decide +kernel
theorem dL_194 : decode code 194 = .ok (.if_icmp .eq 943, 3) := by decide +kernel
theorem dL_197 : decode code 197 = .ok (.iconst 0, 1) := by decide +kernel
theorem dL_198 : decode code 198 = .ok (.ireturn, 1) := by decide +kernel
theorem dL_199 : decode code 199 = .ok (.aload_n 1, 1) := by decide +kernel
theorem dL_200 : decode code 200 = .ok (.aload_n 0, 1) := by decide +kernel
theorem dL_201 : decode code 201 = .ok (.iload_n 3, 1) := by decide +kernel
theorem dL_202 : decode code 202 = .ok (.iconst 1, 1) := by decide +kernel
theorem dL_203 : decode code 203 = .ok (.iadd, 1) := by decide +kernel
theorem dL_204 : decode code 204 = .ok (.iaload, 1) := by decide +kernel
theorem dL_205 : decode code 205 = .ok (.invokevirtual 18, 3) := by decide +kernel
theorem dL_208 : decode code 208 = .ok (.aload_n 2, 1) := by decide +kernel
theorem dL_209 : decode code 209 = .ok (.aload_n 0, 1) := by decide +kernel
theorem dL_210 : decode code 210 = .ok (.iload_n 3, 1) := by decide +kernel
theorem dL_211 : decode code 211 = .ok (.iconst 1, 1) := by decide +kernel
theorem dL_212 : decode code 212 = .ok (.iadd, 1) := by decide +kernel
theorem dL_213 : decode code 213 = .ok (.iaload, 1) := by decide +kernel
theorem dL_214 : decode code 214 = .ok (.invokevirtual 22, 3) := by decide +kernel
theorem dL_217 : decode code 217 = .ok (.if_icmp .eq 920, 3) := by decide +kernel
theorem dL_220 : decode code 220 = .ok (.iconst 0, 1) := by decide +kernel
theorem dL_221 : decode code 221 = .ok (.ireturn, 1) := by decide +kernel
theorem dL_222 : decode code 222 = .ok (.aload_n 1, 1) := by decide +kernel
theorem dL_223 : decode code 223 = .ok (.aload_n 0, 1) := by decide +kernel
theorem dL_224 : decode code 224 = .ok (.iload_n 3, 1) := by decide +kernel
theorem dL_225 : decode code 225 = .ok (.iconst 1, 1) := by decide +kernel
theorem dL_226 : decode code 226 = .ok (.iadd, 1) := by decide +kernel
theorem dL_227 : decode code 227 = .ok (.iaload, 1) := by decide +kernel
theorem dL_228 : decode code 228 = .ok (.aload_n 0, 1) := by decide +kernel
theorem dL_229 : decode code 229 = .ok (.iload_n 3, 1) := by decide +kernel
theorem dL_230 : decode code 230 = .ok (.iconst 2, 1) := by decide +kernel
theorem dL_231 : decode code 231 = .ok (.iadd, 1) := by decide +kernel
theorem dL_232 : decode code 232 = .ok (.iaload, 1) := by decide +kernel
theorem dL_233 : decode code 233 = .ok (.aload_n 0, 1) := by decide +kernel
theorem dL_234 : decode code 234 = .ok (.iload_n 3, 1) := by decide +kernel
theorem dL_235 : decode code 235 = .ok (.iconst 3, 1) := by decide +kernel
theorem dL_236 : decode code 236 = .ok (.iadd, 1) := by decide +kernel
theorem dL_237 : decode code 237 = .ok (.iaload, 1) := by decide +kernel
theorem dL_238 : decode code 238 = .ok (.aload_n 0, 1) := by decide +kernel
theorem dL_239 : decode code 239 = .ok (.iload_n 3, 1) := by decide +kernel
theorem dL_240 : decode code 240 = .ok (.iconst 4, 1) := by decide +kernel
theorem dL_241 : decode code 241 = .ok (.iadd, 1) := by decide +kernel
theorem dL_242 : decode code 242 = .ok (.iaload, 1) := by decide +kernel
theorem dL_243 : decode code 243 = .ok (.invokevirtual 23, 3) := by decide +kernel
theorem dL_246 : decode code 246 = .ok (.aload_n 2, 1) := by decide +kernel
theorem dL_247 : decode code 247 = .ok (.aload_n 0, 1) := by decide +kernel
theorem dL_248 : decode code 248 = .ok (.iload_n 3, 1) := by decide +kernel
theorem dL_249 : decode code 249 = .ok (.iconst 1, 1) := by decide +kernel
theorem dL_250 : decode code 250 = .ok (.iadd, 1) := by decide +kernel
theorem dL_251 : decode code 251 = .ok (.iaload, 1) := by decide +kernel
theorem dL_252 : decode code 252 = .ok (.aload_n 0, 1) := by decide +kernel
theorem dL_253 : decode code 253 = .ok (.iload_n 3, 1) := by decide +kernel
theorem dL_254 : decode code 254 = .ok (.iconst 2, 1) := by decide +kernel
theorem dL_255 : decode code 255 = .ok (.iadd, 1) := by decide +kernel
theorem dL_256 : decode code 256 = .ok (.iaload, 1) := by decide +kernel
theorem dL_257 : decode code 257 = .ok (.aload_n 0, 1) := by decide +kernel
theorem dL_258 : decode code 258 = .ok (.iload_n 3, 1) := by decide +kernel
theorem dL_259 : decode code 259 = .ok (.iconst 3, 1) := by decide +kernel
theorem dL_260 : decode code 260 = .ok (.iadd, 1) := by decide +kernel
theorem dL_261 : decode code 261 = .ok (.iaload, 1) := by decide +kernel
theorem dL_262 : decode code 262 = .ok (.aload_n 0, 1) := by decide +kernel
theorem dL_263 : decode code 263 = .ok (.iload_n 3, 1) := by decide +kernel
theorem dL_264 : decode code 264 = .ok (.iconst 4, 1) := by decide +kernel
theorem dL_265 : decode code 265 = .ok (.iadd, 1) := by decide +kernel
theorem dL_266 : decode code 266 = .ok (.iaload, 1) := by decide +kernel
theorem dL_267 : decode code 267 = .ok (.invokevirtual 27, 3) := by decide +kernel
theorem dL_270 : decode code 270 = .ok (.if_icmp .eq 867, 3) := by decide +kernel
theorem dL_273 : decode code 273 = .ok (.iconst 0, 1) := by decide +kernel
theorem dL_274 : decode code 274 = .ok (.ireturn, 1) := by decide +kernel
theorem dL_275 : decode code 275 = .ok (.aload_n 1, 1) := by decide +kernel
theorem dL_276 : decode code 276 = .ok (.aload_n 0, 1) := by decide +kernel
theorem dL_277 : decode code 277 = .ok (.iload_n 3, 1) := by decide +kernel
theorem dL_278 : decode code 278 = .ok (.iconst 1, 1) := by decide +kernel
theorem dL_279 : decode code 279 = .ok (.iadd, 1) := by decide +kernel
theorem dL_280 : decode code 280 = .ok (.iaload, 1) := by decide +kernel
theorem dL_281 : decode code 281 = .ok (.aload_n 0, 1) := by decide +kernel
theorem dL_282 : decode code 282 = .ok (.iload_n 3, 1) := by decide +kernel
theorem dL_283 : decode code 283 = .ok (.iconst 2, 1) := by decide +kernel
theorem dL_284 : decode code 284 = .ok (.iadd, 1) := by decide +kernel
theorem dL_285 : decode code 285 = .ok (.iaload, 1) := by decide +kernel
theorem dL_286 : decode code 286 = .ok (.invokevirtual 28, 3) := by decide +kernel
theorem dL_289 : decode code 289 = .ok (.aload_n 2, 1) := by decide +kernel
theorem dL_290 : decode code 290 = .ok (.aload_n 0, 1) := by decide +kernel
theorem dL_291 : decode code 291 = .ok (.iload_n 3, 1) := by decide +kernel
theorem dL_292 : decode code 292 = .ok (.iconst 1, 1) := by decide +kernel
theorem dL_293 : decode code 293 = .ok (.iadd, 1) := by decide +kernel
theorem dL_294 : decode code 294 = .ok (.iaload, 1) := by decide +kernel
theorem dL_295 : decode code 295 = .ok (.aload_n 0, 1) := by decide +kernel
theorem dL_296 : decode code 296 = .ok (.iload_n 3, 1) := by decide +kernel
theorem dL_297 : decode code 297 = .ok (.iconst 2, 1) := by decide +kernel
theorem dL_298 : decode code 298 = .ok (.iadd, 1) := by decide +kernel
theorem dL_299 : decode code 299 = .ok (.iaload, 1) := by decide +kernel
theorem dL_300 : decode code 300 = .ok (.invokevirtual 32, 3) := by decide +kernel
theorem dL_303 : decode code 303 = .ok (.if_icmp .eq 834, 3) := by decide +kernel
theorem dL_306 : decode code 306 = .ok (.iconst 0, 1) := by decide +kernel
theorem dL_307 : decode code 307 = .ok (.ireturn, 1) := by decide +kernel
theorem dL_308 : decode code 308 = .ok (.aload_n 1, 1) := by decide +kernel
theorem dL_309 : decode code 309 = .ok (.aload_n 0, 1) := by decide +kernel
theorem dL_310 : decode code 310 = .ok (.iload_n 3, 1) := by decide +kernel
theorem dL_311 : decode code 311 = .ok (.iconst 1, 1) := by decide +kernel
theorem dL_312 : decode code 312 = .ok (.iadd, 1) := by decide +kernel
theorem dL_313 : decode code 313 = .ok (.iaload, 1) := by decide +kernel
theorem dL_314 : decode code 314 = .ok (.aload_n 0, 1) := by decide +kernel
theorem dL_315 : decode code 315 = .ok (.iload_n 3, 1) := by decide +kernel
theorem dL_316 : decode code 316 = .ok (.iconst 2, 1) := by decide +kernel
theorem dL_317 : decode code 317 = .ok (.iadd, 1) := by decide +kernel
theorem dL_318 : decode code 318 = .ok (.iaload, 1) := by decide +kernel
theorem dL_319 : decode code 319 = .ok (.ifCond .eq 7, 3) := by decide +kernel
theorem dL_322 : decode code 322 = .ok (.iconst 1, 1) := by decide +kernel
theorem dL_323 : decode code 323 = .ok (.goto 4, 3) := by decide +kernel
theorem dL_326 : decode code 326 = .ok (.iconst 0, 1) := by decide +kernel
theorem dL_327 : decode code 327 = .ok (.aload_n 0, 1) := by decide +kernel
theorem dL_328 : decode code 328 = .ok (.iload_n 3, 1) := by decide +kernel
theorem dL_329 : decode code 329 = .ok (.iconst 3, 1) := by decide +kernel
theorem dL_330 : decode code 330 = .ok (.iadd, 1) := by decide +kernel
theorem dL_331 : decode code 331 = .ok (.iaload, 1) := by decide +kernel
theorem dL_332 : decode code 332 = .ok (.ifCond .eq 7, 3) := by decide +kernel
theorem dL_335 : decode code 335 = .ok (.iconst 1, 1) := by decide +kernel
theorem dL_336 : decode code 336 = .ok (.goto 4, 3) := by decide +kernel
theorem dL_339 : decode code 339 = .ok (.iconst 0, 1) := by decide +kernel
theorem dL_340 : decode code 340 = .ok (.invokevirtual 33, 3) := by decide +kernel
theorem dL_343 : decode code 343 = .ok (.aload_n 2, 1) := by decide +kernel
theorem dL_344 : decode code 344 = .ok (.aload_n 0, 1) := by decide +kernel
theorem dL_345 : decode code 345 = .ok (.iload_n 3, 1) := by decide +kernel
theorem dL_346 : decode code 346 = .ok (.iconst 1, 1) := by decide +kernel
theorem dL_347 : decode code 347 = .ok (.iadd, 1) := by decide +kernel
theorem dL_348 : decode code 348 = .ok (.iaload, 1) := by decide +kernel
theorem dL_349 : decode code 349 = .ok (.aload_n 0, 1) := by decide +kernel
theorem dL_350 : decode code 350 = .ok (.iload_n 3, 1) := by decide +kernel
theorem dL_351 : decode code 351 = .ok (.iconst 2, 1) := by decide +kernel
theorem dL_352 : decode code 352 = .ok (.iadd, 1) := by decide +kernel
theorem dL_353 : decode code 353 = .ok (.iaload, 1) := by decide +kernel
theorem dL_354 : decode code 354 = .ok (.ifCond .eq 7, 3) := by decide +kernel
theorem dL_357 : decode code 357 = .ok (.iconst 1, 1) := by decide +kernel
theorem dL_358 : decode code 358 = .ok (.goto 4, 3) := by decide +kernel
theorem dL_361 : decode code 361 = .ok (.iconst 0, 1) := by decide +kernel
theorem dL_362 : decode code 362 = .ok (.aload_n 0, 1) := by decide +kernel
theorem dL_363 : decode code 363 = .ok (.iload_n 3, 1) := by decide +kernel
theorem dL_364 : decode code 364 = .ok (.iconst 3, 1) := by decide +kernel
theorem dL_365 : decode code 365 = .ok (.iadd, 1) := by decide +kernel
theorem dL_366 : decode code 366 = .ok (.iaload, 1) := by decide +kernel
theorem dL_367 : decode code 367 = .ok (.ifCond .eq 7, 3) := by decide +kernel
theorem dL_370 : decode code 370 = .ok (.iconst 1, 1) := by decide +kernel
theorem dL_371 : decode code 371 = .ok (.goto 4, 3) := by decide +kernel
theorem dL_374 : decode code 374 = .ok (.iconst 0, 1) := by decide +kernel
theorem dL_375 : decode code 375 = .ok (.invokevirtual 37, 3) := by decide +kernel
theorem dL_378 : decode code 378 = .ok (.if_icmp .eq 759, 3) := by decide +kernel
theorem dL_381 : decode code 381 = .ok (.iconst 0, 1) := by decide +kernel
theorem dL_382 : decode code 382 = .ok (.ireturn, 1) := by decide +kernel
theorem dL_383 : decode code 383 = .ok (.aload_n 1, 1) := by decide +kernel
theorem dL_384 : decode code 384 = .ok (.aload_n 0, 1) := by decide +kernel
theorem dL_385 : decode code 385 = .ok (.iload_n 3, 1) := by decide +kernel
theorem dL_386 : decode code 386 = .ok (.iconst 1, 1) := by decide +kernel
theorem dL_387 : decode code 387 = .ok (.iadd, 1) := by decide +kernel
theorem dL_388 : decode code 388 = .ok (.iaload, 1) := by decide +kernel
theorem dL_389 : decode code 389 = .ok (.aload_n 0, 1) := by decide +kernel
theorem dL_390 : decode code 390 = .ok (.iload_n 3, 1) := by decide +kernel
theorem dL_391 : decode code 391 = .ok (.iconst 2, 1) := by decide +kernel
theorem dL_392 : decode code 392 = .ok (.iadd, 1) := by decide +kernel
theorem dL_393 : decode code 393 = .ok (.iaload, 1) := by decide +kernel
theorem dL_394 : decode code 394 = .ok (.aload_n 0, 1) := by decide +kernel
theorem dL_395 : decode code 395 = .ok (.iload_n 3, 1) := by decide +kernel
theorem dL_396 : decode code 396 = .ok (.iconst 3, 1) := by decide +kernel
theorem dL_397 : decode code 397 = .ok (.iadd, 1) := by decide +kernel
theorem dL_398 : decode code 398 = .ok (.iaload, 1) := by decide +kernel
theorem dL_399 : decode code 399 = .ok (.aload_n 0, 1) := by decide +kernel
theorem dL_400 : decode code 400 = .ok (.iload_n 3, 1) := by decide +kernel
theorem dL_401 : decode code 401 = .ok (.iconst 4, 1) := by decide +kernel
theorem dL_402 : decode code 402 = .ok (.iadd, 1) := by decide +kernel
theorem dL_403 : decode code 403 = .ok (.iaload, 1) := by decide +kernel
theorem dL_404 : decode code 404 = .ok (.invokevirtual 38, 3) := by decide +kernel
theorem dL_407 : decode code 407 = .ok (.aload_n 2, 1) := by decide +kernel
theorem dL_408 : decode code 408 = .ok (.aload_n 0, 1) := by decide +kernel
theorem dL_409 : decode code 409 = .ok (.iload_n 3, 1) := by decide +kernel
theorem dL_410 : decode code 410 = .ok (.iconst 1, 1) := by decide +kernel
theorem dL_411 : decode code 411 = .ok (.iadd, 1) := by decide +kernel
theorem dL_412 : decode code 412 = .ok (.iaload, 1) := by decide +kernel
theorem dL_413 : decode code 413 = .ok (.aload_n 0, 1) := by decide +kernel
theorem dL_414 : decode code 414 = .ok (.iload_n 3, 1) := by decide +kernel
theorem dL_415 : decode code 415 = .ok (.iconst 2, 1) := by decide +kernel
theorem dL_416 : decode code 416 = .ok (.iadd, 1) := by decide +kernel
theorem dL_417 : decode code 417 = .ok (.iaload, 1) := by decide +kernel
theorem dL_418 : decode code 418 = .ok (.aload_n 0, 1) := by decide +kernel
theorem dL_419 : decode code 419 = .ok (.iload_n 3, 1) := by decide +kernel
theorem dL_420 : decode code 420 = .ok (.iconst 3, 1) := by decide +kernel
theorem dL_421 : decode code 421 = .ok (.iadd, 1) := by decide +kernel
theorem dL_422 : decode code 422 = .ok (.iaload, 1) := by decide +kernel
theorem dL_423 : decode code 423 = .ok (.aload_n 0, 1) := by decide +kernel
theorem dL_424 : decode code 424 = .ok (.iload_n 3, 1) := by decide +kernel
theorem dL_425 : decode code 425 = .ok (.iconst 4, 1) := by decide +kernel
theorem dL_426 : decode code 426 = .ok (.iadd, 1) := by decide +kernel
theorem dL_427 : decode code 427 = .ok (.iaload, 1) := by decide +kernel
theorem dL_428 : decode code 428 = .ok (.invokevirtual 41, 3) := by decide +kernel
theorem dL_431 : decode code 431 = .ok (.if_icmp .eq 706, 3) := by decide +kernel
theorem dL_434 : decode code 434 = .ok (.iconst 0, 1) := by decide +kernel
theorem dL_435 : decode code 435 = .ok (.ireturn, 1) := by decide +kernel
theorem dL_436 : decode code 436 = .ok (.aload_n 1, 1) := by decide +kernel
theorem dL_437 : decode code 437 = .ok (.aload_n 0, 1) := by decide +kernel
theorem dL_438 : decode code 438 = .ok (.iload_n 3, 1) := by decide +kernel
theorem dL_439 : decode code 439 = .ok (.iconst 1, 1) := by decide +kernel
theorem dL_440 : decode code 440 = .ok (.iadd, 1) := by decide +kernel
theorem dL_441 : decode code 441 = .ok (.iaload, 1) := by decide +kernel
theorem dL_442 : decode code 442 = .ok (.aload_n 0, 1) := by decide +kernel
theorem dL_443 : decode code 443 = .ok (.iload_n 3, 1) := by decide +kernel
theorem dL_444 : decode code 444 = .ok (.iconst 2, 1) := by decide +kernel
theorem dL_445 : decode code 445 = .ok (.iadd, 1) := by decide +kernel
theorem dL_446 : decode code 446 = .ok (.iaload, 1) := by decide +kernel
theorem dL_447 : decode code 447 = .ok (.aload_n 0, 1) := by decide +kernel
theorem dL_448 : decode code 448 = .ok (.iload_n 3, 1) := by decide +kernel
theorem dL_449 : decode code 449 = .ok (.iconst 3, 1) := by decide +kernel
theorem dL_450 : decode code 450 = .ok (.iadd, 1) := by decide +kernel
theorem dL_451 : decode code 451 = .ok (.iaload, 1) := by decide +kernel
theorem dL_452 : decode code 452 = .ok (.aload_n 0, 1) := by decide +kernel
theorem dL_453 : decode code 453 = .ok (.iload_n 3, 1) := by decide +kernel
theorem dL_454 : decode code 454 = .ok (.iconst 4, 1) := by decide +kernel
theorem dL_455 : decode code 455 = .ok (.iadd, 1) := by decide +kernel
theorem dL_456 : decode code 456 = .ok (.iaload, 1) := by decide +kernel
theorem dL_457 : decode code 457 = .ok (.invokevirtual 42, 3) := by decide +kernel
theorem dL_460 : decode code 460 = .ok (.aload_n 2, 1) := by decide +kernel
theorem dL_461 : decode code 461 = .ok (.aload_n 0, 1) := by decide +kernel
theorem dL_462 : decode code 462 = .ok (.iload_n 3, 1) := by decide +kernel
theorem dL_463 : decode code 463 = .ok (.iconst 1, 1) := by decide +kernel
theorem dL_464 : decode code 464 = .ok (.iadd, 1) := by decide +kernel
theorem dL_465 : decode code 465 = .ok (.iaload, 1) := by decide +kernel
theorem dL_466 : decode code 466 = .ok (.aload_n 0, 1) := by decide +kernel
theorem dL_467 : decode code 467 = .ok (.iload_n 3, 1) := by decide +kernel
theorem dL_468 : decode code 468 = .ok (.iconst 2, 1) := by decide +kernel
theorem dL_469 : decode code 469 = .ok (.iadd, 1) := by decide +kernel
theorem dL_470 : decode code 470 = .ok (.iaload, 1) := by decide +kernel
theorem dL_471 : decode code 471 = .ok (.aload_n 0, 1) := by decide +kernel
theorem dL_472 : decode code 472 = .ok (.iload_n 3, 1) := by decide +kernel
theorem dL_473 : decode code 473 = .ok (.iconst 3, 1) := by decide +kernel
theorem dL_474 : decode code 474 = .ok (.iadd, 1) := by decide +kernel
theorem dL_475 : decode code 475 = .ok (.iaload, 1) := by decide +kernel
theorem dL_476 : decode code 476 = .ok (.aload_n 0, 1) := by decide +kernel
theorem dL_477 : decode code 477 = .ok (.iload_n 3, 1) := by decide +kernel
theorem dL_478 : decode code 478 = .ok (.iconst 4, 1) := by decide +kernel
theorem dL_479 : decode code 479 = .ok (.iadd, 1) := by decide +kernel
theorem dL_480 : decode code 480 = .ok (.iaload, 1) := by decide +kernel
theorem dL_481 : decode code 481 = .ok (.invokevirtual 45, 3) := by decide +kernel
theorem dL_484 : decode code 484 = .ok (.if_icmp .eq 653, 3) := by decide +kernel
theorem dL_487 : decode code 487 = .ok (.iconst 0, 1) := by decide +kernel
theorem dL_488 : decode code 488 = .ok (.ireturn, 1) := by decide +kernel
theorem dL_489 : decode code 489 = .ok (.aload_n 1, 1) := by decide +kernel
theorem dL_490 : decode code 490 = .ok (.aload_n 0, 1) := by decide +kernel
theorem dL_491 : decode code 491 = .ok (.iload_n 3, 1) := by decide +kernel
theorem dL_492 : decode code 492 = .ok (.iconst 1, 1) := by decide +kernel
theorem dL_493 : decode code 493 = .ok (.iadd, 1) := by decide +kernel
theorem dL_494 : decode code 494 = .ok (.iaload, 1) := by decide +kernel
theorem dL_495 : decode code 495 = .ok (.aload_n 0, 1) := by decide +kernel
theorem dL_496 : decode code 496 = .ok (.iload_n 3, 1) := by decide +kernel
theorem dL_497 : decode code 497 = .ok (.iconst 2, 1) := by decide +kernel
theorem dL_498 : decode code 498 = .ok (.iadd, 1) := by decide +kernel
theorem dL_499 : decode code 499 = .ok (.iaload, 1) := by decide +kernel
theorem dL_500 : decode code 500 = .ok (.aload_n 0, 1) := by decide +kernel
theorem dL_501 : decode code 501 = .ok (.iload_n 3, 1) := by decide +kernel
theorem dL_502 : decode code 502 = .ok (.iconst 3, 1) := by decide +kernel
theorem dL_503 : decode code 503 = .ok (.iadd, 1) := by decide +kernel
theorem dL_504 : decode code 504 = .ok (.iaload, 1) := by decide +kernel
theorem dL_505 : decode code 505 = .ok (.aload_n 0, 1) := by decide +kernel
theorem dL_506 : decode code 506 = .ok (.iload_n 3, 1) := by decide +kernel
theorem dL_507 : decode code 507 = .ok (.iconst 4, 1) := by decide +kernel
theorem dL_508 : decode code 508 = .ok (.iadd, 1) := by decide +kernel
theorem dL_509 : decode code 509 = .ok (.iaload, 1) := by decide +kernel
theorem dL_510 : decode code 510 = .ok (.invokevirtual 46, 3) := by decide +kernel
theorem dL_513 : decode code 513 = .ok (.aload_n 2, 1) := by decide +kernel
theorem dL_514 : decode code 514 = .ok (.aload_n 0, 1) := by decide +kernel
theorem dL_515 : decode code 515 = .ok (.iload_n 3, 1) := by decide +kernel
theorem dL_516 : decode code 516 = .ok (.iconst 1, 1) := by decide +kernel
theorem dL_517 : decode code 517 = .ok (.iadd, 1) := by decide +kernel
theorem dL_518 : decode code 518 = .ok (.iaload, 1) := by decide +kernel
theorem dL_519 : decode code 519 = .ok (.aload_n 0, 1) := by decide +kernel
theorem dL_520 : decode code 520 = .ok (.iload_n 3, 1) := by decide +kernel
theorem dL_521 : decode code 521 = .ok (.iconst 2, 1) := by decide +kernel
theorem dL_522 : decode code 522 = .ok (.iadd, 1) := by decide +kernel
theorem dL_523 : decode code 523 = .ok (.iaload, 1) := by decide +kernel
theorem dL_524 : decode code 524 = .ok (.aload_n 0, 1) := by decide +kernel
theorem dL_525 : decode code 525 = .ok (.iload_n 3, 1) := by decide +kernel
theorem dL_526 : decode code 526 = .ok (.iconst 3, 1) := by decide +kernel
theorem dL_527 : decode code 527 = .ok (.iadd, 1) := by decide +kernel
theorem dL_528 : decode code 528 = .ok (.iaload, 1) := by decide +kernel
theorem dL_529 : decode code 529 = .ok (.aload_n 0, 1) := by decide +kernel
theorem dL_530 : decode code 530 = .ok (.iload_n 3, 1) := by decide +kernel
theorem dL_531 : decode code 531 = .ok (.iconst 4, 1) := by decide +kernel
theorem dL_532 : decode code 532 = .ok (.iadd, 1) := by decide +kernel
theorem dL_533 : decode code 533 = .ok (.iaload, 1) := by decide +kernel
theorem dL_534 : decode code 534 = .ok (.invokevirtual 49, 3) := by decide +kernel
theorem dL_537 : decode code 537 = .ok (.if_icmp .eq 600, 3) := by decide +kernel
theorem dL_540 : decode code 540 = .ok (.iconst 0, 1) := by decide +kernel
theorem dL_541 : decode code 541 = .ok (.ireturn, 1) := by decide +kernel
theorem dL_542 : decode code 542 = .ok (.aload_n 1, 1) := by decide +kernel
theorem dL_543 : decode code 543 = .ok (.aload_n 0, 1) := by decide +kernel
theorem dL_544 : decode code 544 = .ok (.iload_n 3, 1) := by decide +kernel
theorem dL_545 : decode code 545 = .ok (.iconst 1, 1) := by decide +kernel
theorem dL_546 : decode code 546 = .ok (.iadd, 1) := by decide +kernel
theorem dL_547 : decode code 547 = .ok (.iaload, 1) := by decide +kernel
theorem dL_548 : decode code 548 = .ok (.ifCond .eq 7, 3) := by decide +kernel
theorem dL_551 : decode code 551 = .ok (.iconst 1, 1) := by decide +kernel
theorem dL_552 : decode code 552 = .ok (.goto 4, 3) := by decide +kernel
theorem dL_555 : decode code 555 = .ok (.iconst 0, 1) := by decide +kernel
theorem dL_556 : decode code 556 = .ok (.invokevirtual 50, 3) := by decide +kernel
theorem dL_559 : decode code 559 = .ok (.aload_n 2, 1) := by decide +kernel
theorem dL_560 : decode code 560 = .ok (.aload_n 0, 1) := by decide +kernel
theorem dL_561 : decode code 561 = .ok (.iload_n 3, 1) := by decide +kernel
theorem dL_562 : decode code 562 = .ok (.iconst 1, 1) := by decide +kernel
theorem dL_563 : decode code 563 = .ok (.iadd, 1) := by decide +kernel
theorem dL_564 : decode code 564 = .ok (.iaload, 1) := by decide +kernel
theorem dL_565 : decode code 565 = .ok (.ifCond .eq 7, 3) := by decide +kernel
theorem dL_568 : decode code 568 = .ok (.iconst 1, 1) := by decide +kernel
theorem dL_569 : decode code 569 = .ok (.goto 4, 3) := by decide +kernel
theorem dL_572 : decode code 572 = .ok (.iconst 0, 1) := by decide +kernel
theorem dL_573 : decode code 573 = .ok (.invokevirtual 54, 3) := by decide +kernel
theorem dL_576 : decode code 576 = .ok (.if_icmp .eq 561, 3) := by decide +kernel
theorem dL_579 : decode code 579 = .ok (.iconst 0, 1) := by decide +kernel
theorem dL_580 : decode code 580 = .ok (.ireturn, 1) := by decide +kernel
theorem dL_581 : decode code 581 = .ok (.aload_n 1, 1) := by decide +kernel
theorem dL_582 : decode code 582 = .ok (.invokevirtual 55, 3) := by decide +kernel
theorem dL_585 : decode code 585 = .ok (.aload_n 2, 1) := by decide +kernel
theorem dL_586 : decode code 586 = .ok (.invokevirtual 59, 3) := by decide +kernel
theorem dL_589 : decode code 589 = .ok (.if_icmp .eq 548, 3) := by decide +kernel
theorem dL_592 : decode code 592 = .ok (.iconst 0, 1) := by decide +kernel
theorem dL_593 : decode code 593 = .ok (.ireturn, 1) := by decide +kernel
theorem dL_594 : decode code 594 = .ok (.aload_n 1, 1) := by decide +kernel
theorem dL_595 : decode code 595 = .ok (.aload_n 0, 1) := by decide +kernel
theorem dL_596 : decode code 596 = .ok (.iload_n 3, 1) := by decide +kernel
theorem dL_597 : decode code 597 = .ok (.iconst 1, 1) := by decide +kernel
theorem dL_598 : decode code 598 = .ok (.iadd, 1) := by decide +kernel
theorem dL_599 : decode code 599 = .ok (.iaload, 1) := by decide +kernel
theorem dL_600 : decode code 600 = .ok (.aload_n 0, 1) := by decide +kernel
theorem dL_601 : decode code 601 = .ok (.iload_n 3, 1) := by decide +kernel
theorem dL_602 : decode code 602 = .ok (.iconst 2, 1) := by decide +kernel
theorem dL_603 : decode code 603 = .ok (.iadd, 1) := by decide +kernel
theorem dL_604 : decode code 604 = .ok (.iaload, 1) := by decide +kernel
theorem dL_605 : decode code 605 = .ok (.invokevirtual 60, 3) := by decide +kernel
theorem dL_608 : decode code 608 = .ok (.aload_n 2, 1) := by decide +kernel
theorem dL_609 : decode code 609 = .ok (.aload_n 0, 1) := by decide +kernel
theorem dL_610 : decode code 610 = .ok (.iload_n 3, 1) := by decide +kernel
theorem dL_611 : decode code 611 = .ok (.iconst 1, 1) := by decide +kernel
theorem dL_612 : decode code 612 = .ok (.iadd, 1) := by decide +kernel
theorem dL_613 : decode code 613 = .ok (.iaload, 1) := by decide +kernel
theorem dL_614 : decode code 614 = .ok (.aload_n 0, 1) := by decide +kernel
theorem dL_615 : decode code 615 = .ok (.iload_n 3, 1) := by decide +kernel
theorem dL_616 : decode code 616 = .ok (.iconst 2, 1) := by decide +kernel
theorem dL_617 : decode code 617 = .ok (.iadd, 1) := by decide +kernel
theorem dL_618 : decode code 618 = .ok (.iaload, 1) := by decide +kernel
theorem dL_619 : decode code 619 = .ok (.invokevirtual 63, 3) := by decide +kernel
theorem dL_622 : decode code 622 = .ok (.if_icmp .eq 515, 3) := by decide +kernel
theorem dL_625 : decode code 625 = .ok (.iconst 0, 1) := by decide +kernel
theorem dL_626 : decode code 626 = .ok (.ireturn, 1) := by decide +kernel
theorem dL_627 : decode code 627 = .ok (.aload_n 1, 1) := by decide +kernel
theorem dL_628 : decode code 628 = .ok (.aload_n 0, 1) := by decide +kernel
theorem dL_629 : decode code 629 = .ok (.iload_n 3, 1) := by decide +kernel
theorem dL_630 : decode code 630 = .ok (.iconst 1, 1) := by decide +kernel
theorem dL_631 : decode code 631 = .ok (.iadd, 1) := by decide +kernel
theorem dL_632 : decode code 632 = .ok (.iaload, 1) := by decide +kernel
theorem dL_633 : decode code 633 = .ok (.aload_n 0, 1) := by decide +kernel
theorem dL_634 : decode code 634 = .ok (.iload_n 3, 1) := by decide +kernel
theorem dL_635 : decode code 635 = .ok (.iconst 2, 1) := by decide +kernel
theorem dL_636 : decode code 636 = .ok (.iadd, 1) := by decide +kernel
theorem dL_637 : decode code 637 = .ok (.iaload, 1) := by decide +kernel
theorem dL_638 : decode code 638 = .ok (.aload_n 0, 1) := by decide +kernel
theorem dL_639 : decode code 639 = .ok (.iload_n 3, 1) := by decide +kernel
theorem dL_640 : decode code 640 = .ok (.iconst 3, 1) := by decide +kernel
theorem dL_641 : decode code 641 = .ok (.iadd, 1) := by decide +kernel
theorem dL_642 : decode code 642 = .ok (.iaload, 1) := by decide +kernel
theorem dL_643 : decode code 643 = .ok (.invokevirtual 64, 3) := by decide +kernel
theorem dL_646 : decode code 646 = .ok (.aload_n 2, 1) := by decide +kernel
theorem dL_647 : decode code 647 = .ok (.aload_n 0, 1) := by decide +kernel
theorem dL_648 : decode code 648 = .ok (.iload_n 3, 1) := by decide +kernel
theorem dL_649 : decode code 649 = .ok (.iconst 1, 1) := by decide +kernel
theorem dL_650 : decode code 650 = .ok (.iadd, 1) := by decide +kernel
theorem dL_651 : decode code 651 = .ok (.iaload, 1) := by decide +kernel
theorem dL_652 : decode code 652 = .ok (.aload_n 0, 1) := by decide +kernel
theorem dL_653 : decode code 653 = .ok (.iload_n 3, 1) := by decide +kernel
theorem dL_654 : decode code 654 = .ok (.iconst 2, 1) := by decide +kernel
theorem dL_655 : decode code 655 = .ok (.iadd, 1) := by decide +kernel
theorem dL_656 : decode code 656 = .ok (.iaload, 1) := by decide +kernel
theorem dL_657 : decode code 657 = .ok (.aload_n 0, 1) := by decide +kernel
theorem dL_658 : decode code 658 = .ok (.iload_n 3, 1) := by decide +kernel
theorem dL_659 : decode code 659 = .ok (.iconst 3, 1) := by decide +kernel
theorem dL_660 : decode code 660 = .ok (.iadd, 1) := by decide +kernel
theorem dL_661 : decode code 661 = .ok (.iaload, 1) := by decide +kernel
theorem dL_662 : decode code 662 = .ok (.invokevirtual 67, 3) := by decide +kernel
theorem dL_665 : decode code 665 = .ok (.if_icmp .eq 472, 3) := by decide +kernel
theorem dL_668 : decode code 668 = .ok (.iconst 0, 1) := by decide +kernel
theorem dL_669 : decode code 669 = .ok (.ireturn, 1) := by decide +kernel
theorem dL_670 : decode code 670 = .ok (.aload_n 1, 1) := by decide +kernel
theorem dL_671 : decode code 671 = .ok (.aload_n 0, 1) := by decide +kernel
theorem dL_672 : decode code 672 = .ok (.iload_n 3, 1) := by decide +kernel
theorem dL_673 : decode code 673 = .ok (.iconst 1, 1) := by decide +kernel
theorem dL_674 : decode code 674 = .ok (.iadd, 1) := by decide +kernel
theorem dL_675 : decode code 675 = .ok (.iaload, 1) := by decide +kernel
theorem dL_676 : decode code 676 = .ok (.aload_n 0, 1) := by decide +kernel
theorem dL_677 : decode code 677 = .ok (.iload_n 3, 1) := by decide +kernel
theorem dL_678 : decode code 678 = .ok (.iconst 2, 1) := by decide +kernel
theorem dL_679 : decode code 679 = .ok (.iadd, 1) := by decide +kernel
theorem dL_680 : decode code 680 = .ok (.iaload, 1) := by decide +kernel
theorem dL_681 : decode code 681 = .ok (.aload_n 0, 1) := by decide +kernel
theorem dL_682 : decode code 682 = .ok (.iload_n 3, 1) := by decide +kernel
theorem dL_683 : decode code 683 = .ok (.iconst 3, 1) := by decide +kernel
theorem dL_684 : decode code 684 = .ok (.iadd, 1) := by decide +kernel
theorem dL_685 : decode code 685 = .ok (.iaload, 1) := by decide +kernel
theorem dL_686 : decode code 686 = .ok (.aload_n 0, 1) := by decide +kernel
theorem dL_687 : decode code 687 = .ok (.iload_n 3, 1) := by decide +kernel
theorem dL_688 : decode code 688 = .ok (.iconst 4, 1) := by decide +kernel
theorem dL_689 : decode code 689 = .ok (.iadd, 1) := by decide +kernel
theorem dL_690 : decode code 690 = .ok (.iaload, 1) := by decide +kernel
theorem dL_691 : decode code 691 = .ok (.invokevirtual 68, 3) := by decide +kernel
theorem dL_694 : decode code 694 = .ok (.aload_n 2, 1) := by decide +kernel
theorem dL_695 : decode code 695 = .ok (.aload_n 0, 1) := by decide +kernel
theorem dL_696 : decode code 696 = .ok (.iload_n 3, 1) := by decide +kernel
theorem dL_697 : decode code 697 = .ok (.iconst 1, 1) := by decide +kernel
theorem dL_698 : decode code 698 = .ok (.iadd, 1) := by decide +kernel
theorem dL_699 : decode code 699 = .ok (.iaload, 1) := by decide +kernel
theorem dL_700 : decode code 700 = .ok (.aload_n 0, 1) := by decide +kernel
theorem dL_701 : decode code 701 = .ok (.iload_n 3, 1) := by decide +kernel
theorem dL_702 : decode code 702 = .ok (.iconst 2, 1) := by decide +kernel
theorem dL_703 : decode code 703 = .ok (.iadd, 1) := by decide +kernel
theorem dL_704 : decode code 704 = .ok (.iaload, 1) := by decide +kernel
theorem dL_705 : decode code 705 = .ok (.aload_n 0, 1) := by decide +kernel
theorem dL_706 : decode code 706 = .ok (.iload_n 3, 1) := by decide +kernel
theorem dL_707 : decode code 707 = .ok (.iconst 3, 1) := by decide +kernel
theorem dL_708 : decode code 708 = .ok (.iadd, 1) := by decide +kernel
theorem dL_709 : decode code 709 = .ok (.iaload, 1) := by decide +kernel
theorem dL_710 : decode code 710 = .ok (.aload_n 0, 1) := by decide +kernel
theorem dL_711 : decode code 711 = .ok (.iload_n 3, 1) := by decide +kernel
theorem dL_712 : decode code 712 = .ok (.iconst 4, 1) := by decide +kernel
theorem dL_713 : decode code 713 = .ok (.iadd, 1) := by decide +kernel
theorem dL_714 : decode code 714 = .ok (.iaload, 1) := by decide +kernel
theorem dL_715 : decode code 715 = .ok (.invokevirtual 71, 3) := by decide +kernel
theorem dL_718 : decode code 718 = .ok (.if_icmp .eq 419, 3) := by decide +kernel
theorem dL_721 : decode code 721 = .ok (.iconst 0, 1) := by decide +kernel
theorem dL_722 : decode code 722 = .ok (.ireturn, 1) := by decide +kernel
theorem dL_723 : decode code 723 = .ok (.aload_n 1, 1) := by decide +kernel
theorem dL_724 : decode code 724 = .ok (.aload_n 0, 1) := by decide +kernel
theorem dL_725 : decode code 725 = .ok (.iload_n 3, 1) := by decide +kernel
theorem dL_726 : decode code 726 = .ok (.iconst 1, 1) := by decide +kernel
theorem dL_727 : decode code 727 = .ok (.iadd, 1) := by decide +kernel
theorem dL_728 : decode code 728 = .ok (.iaload, 1) := by decide +kernel
theorem dL_729 : decode code 729 = .ok (.aload_n 0, 1) := by decide +kernel
theorem dL_730 : decode code 730 = .ok (.iload_n 3, 1) := by decide +kernel
theorem dL_731 : decode code 731 = .ok (.iconst 2, 1) := by decide +kernel
theorem dL_732 : decode code 732 = .ok (.iadd, 1) := by decide +kernel
theorem dL_733 : decode code 733 = .ok (.iaload, 1) := by decide +kernel
theorem dL_734 : decode code 734 = .ok (.aload_n 0, 1) := by decide +kernel
theorem dL_735 : decode code 735 = .ok (.iload_n 3, 1) := by decide +kernel
theorem dL_736 : decode code 736 = .ok (.iconst 3, 1) := by decide +kernel
theorem dL_737 : decode code 737 = .ok (.iadd, 1) := by decide +kernel
theorem dL_738 : decode code 738 = .ok (.iaload, 1) := by decide +kernel
theorem dL_739 : decode code 739 = .ok (.invokevirtual 72, 3) := by decide +kernel
theorem dL_742 : decode code 742 = .ok (.aload_n 2, 1) := by decide +kernel
theorem dL_743 : decode code 743 = .ok (.aload_n 0, 1) := by decide +kernel
theorem dL_744 : decode code 744 = .ok (.iload_n 3, 1) := by decide +kernel
theorem dL_745 : decode code 745 = .ok (.iconst 1, 1) := by decide +kernel
theorem dL_746 : decode code 746 = .ok (.iadd, 1) := by decide +kernel
theorem dL_747 : decode code 747 = .ok (.iaload, 1) := by decide +kernel
theorem dL_748 : decode code 748 = .ok (.aload_n 0, 1) := by decide +kernel
theorem dL_749 : decode code 749 = .ok (.iload_n 3, 1) := by decide +kernel
theorem dL_750 : decode code 750 = .ok (.iconst 2, 1) := by decide +kernel
theorem dL_751 : decode code 751 = .ok (.iadd, 1) := by decide +kernel
theorem dL_752 : decode code 752 = .ok (.iaload, 1) := by decide +kernel
theorem dL_753 : decode code 753 = .ok (.aload_n 0, 1) := by decide +kernel
theorem dL_754 : decode code 754 = .ok (.iload_n 3, 1) := by decide +kernel
theorem dL_755 : decode code 755 = .ok (.iconst 3, 1) := by decide +kernel
theorem dL_756 : decode code 756 = .ok (.iadd, 1) := by decide +kernel
theorem dL_757 : decode code 757 = .ok (.iaload, 1) := by decide +kernel
theorem dL_758 : decode code 758 = .ok (.invokevirtual 75, 3) := by decide +kernel
theorem dL_761 : decode code 761 = .ok (.if_icmp .eq 376, 3) := by decide +kernel
theorem dL_764 : decode code 764 = .ok (.iconst 0, 1) := by decide +kernel
theorem dL_765 : decode code 765 = .ok (.ireturn, 1) := by decide +kernel
theorem dL_766 : decode code 766 = .ok (.aload_n 1, 1) := by decide +kernel
theorem dL_767 : decode code 767 = .ok (.aload_n 0, 1) := by decide +kernel
theorem dL_768 : decode code 768 = .ok (.iload_n 3, 1) := by decide +kernel
theorem dL_769 : decode code 769 = .ok (.iconst 1, 1) := by decide +kernel
theorem dL_770 : decode code 770 = .ok (.iadd, 1) := by decide +kernel
theorem dL_771 : decode code 771 = .ok (.iaload, 1) := by decide +kernel
theorem dL_772 : decode code 772 = .ok (.invokevirtual 76, 3) := by decide +kernel
theorem dL_775 : decode code 775 = .ok (.aload_n 2, 1) := by decide +kernel
theorem dL_776 : decode code 776 = .ok (.aload_n 0, 1) := by decide +kernel
theorem dL_777 : decode code 777 = .ok (.iload_n 3, 1) := by decide +kernel
theorem dL_778 : decode code 778 = .ok (.iconst 1, 1) := by decide +kernel
theorem dL_779 : decode code 779 = .ok (.iadd, 1) := by decide +kernel
theorem dL_780 : decode code 780 = .ok (.iaload, 1) := by decide +kernel
theorem dL_781 : decode code 781 = .ok (.invokevirtual 79, 3) := by decide +kernel
theorem dL_784 : decode code 784 = .ok (.if_icmp .eq 353, 3) := by decide +kernel
theorem dL_787 : decode code 787 = .ok (.iconst 0, 1) := by decide +kernel
theorem dL_788 : decode code 788 = .ok (.ireturn, 1) := by decide +kernel
theorem dL_789 : decode code 789 = .ok (.aload_n 1, 1) := by decide +kernel
theorem dL_790 : decode code 790 = .ok (.aload_n 0, 1) := by decide +kernel
theorem dL_791 : decode code 791 = .ok (.iload_n 3, 1) := by decide +kernel
theorem dL_792 : decode code 792 = .ok (.iconst 1, 1) := by decide +kernel
theorem dL_793 : decode code 793 = .ok (.iadd, 1) := by decide +kernel
theorem dL_794 : decode code 794 = .ok (.iaload, 1) := by decide +kernel
theorem dL_795 : decode code 795 = .ok (.aload_n 0, 1) := by decide +kernel
theorem dL_796 : decode code 796 = .ok (.iload_n 3, 1) := by decide +kernel
theorem dL_797 : decode code 797 = .ok (.iconst 2, 1) := by decide +kernel
theorem dL_798 : decode code 798 = .ok (.iadd, 1) := by decide +kernel
theorem dL_799 : decode code 799 = .ok (.iaload, 1) := by decide +kernel
theorem dL_800 : decode code 800 = .ok (.aload_n 0, 1) := by decide +kernel
theorem dL_801 : decode code 801 = .ok (.iload_n 3, 1) := by decide +kernel
theorem dL_802 : decode code 802 = .ok (.iconst 3, 1) := by decide +kernel
theorem dL_803 : decode code 803 = .ok (.iadd, 1) := by decide +kernel
theorem dL_804 : decode code 804 = .ok (.iaload, 1) := by decide +kernel
theorem dL_805 : decode code 805 = .ok (.invokevirtual 80, 3) := by decide +kernel
theorem dL_808 : decode code 808 = .ok (.aload_n 2, 1) := by decide +kernel
theorem dL_809 : decode code 809 = .ok (.aload_n 0, 1) := by decide +kernel
theorem dL_810 : decode code 810 = .ok (.iload_n 3, 1) := by decide +kernel
theorem dL_811 : decode code 811 = .ok (.iconst 1, 1) := by decide +kernel
theorem dL_812 : decode code 812 = .ok (.iadd, 1) := by decide +kernel
theorem dL_813 : decode code 813 = .ok (.iaload, 1) := by decide +kernel
theorem dL_814 : decode code 814 = .ok (.aload_n 0, 1) := by decide +kernel
theorem dL_815 : decode code 815 = .ok (.iload_n 3, 1) := by decide +kernel
theorem dL_816 : decode code 816 = .ok (.iconst 2, 1) := by decide +kernel
theorem dL_817 : decode code 817 = .ok (.iadd, 1) := by decide +kernel
theorem dL_818 : decode code 818 = .ok (.iaload, 1) := by decide +kernel
theorem dL_819 : decode code 819 = .ok (.aload_n 0, 1) := by decide +kernel
theorem dL_820 : decode code 820 = .ok (.iload_n 3, 1) := by decide +kernel
theorem dL_821 : decode code 821 = .ok (.iconst 3, 1) := by decide +kernel
theorem dL_822 : decode code 822 = .ok (.iadd, 1) := by decide +kernel
theorem dL_823 : decode code 823 = .ok (.iaload, 1) := by decide +kernel
theorem dL_824 : decode code 824 = .ok (.invokevirtual 83, 3) := by decide +kernel
theorem dL_827 : decode code 827 = .ok (.if_icmp .eq 310, 3) := by decide +kernel
theorem dL_830 : decode code 830 = .ok (.iconst 0, 1) := by decide +kernel
theorem dL_831 : decode code 831 = .ok (.ireturn, 1) := by decide +kernel
theorem dL_832 : decode code 832 = .ok (.aload_n 1, 1) := by decide +kernel
theorem dL_833 : decode code 833 = .ok (.aload_n 0, 1) := by decide +kernel
theorem dL_834 : decode code 834 = .ok (.iload_n 3, 1) := by decide +kernel
theorem dL_835 : decode code 835 = .ok (.iconst 1, 1) := by decide +kernel
theorem dL_836 : decode code 836 = .ok (.iadd, 1) := by decide +kernel
theorem dL_837 : decode code 837 = .ok (.iaload, 1) := by decide +kernel
theorem dL_838 : decode code 838 = .ok (.invokevirtual 84, 3) := by decide +kernel
theorem dL_841 : decode code 841 = .ok (.aload_n 2, 1) := by decide +kernel
theorem dL_842 : decode code 842 = .ok (.aload_n 0, 1) := by decide +kernel
theorem dL_843 : decode code 843 = .ok (.iload_n 3, 1) := by decide +kernel
theorem dL_844 : decode code 844 = .ok (.iconst 1, 1) := by decide +kernel
theorem dL_845 : decode code 845 = .ok (.iadd, 1) := by decide +kernel
theorem dL_846 : decode code 846 = .ok (.iaload, 1) := by decide +kernel
theorem dL_847 : decode code 847 = .ok (.invokevirtual 87, 3) := by decide +kernel
theorem dL_850 : decode code 850 = .ok (.if_icmp .eq 287, 3) := by decide +kernel
theorem dL_853 : decode code 853 = .ok (.iconst 0, 1) := by decide +kernel
theorem dL_854 : decode code 854 = .ok (.ireturn, 1) := by decide +kernel
theorem dL_855 : decode code 855 = .ok (.aload_n 1, 1) := by decide +kernel
theorem dL_856 : decode code 856 = .ok (.aload_n 0, 1) := by decide +kernel
theorem dL_857 : decode code 857 = .ok (.iload_n 3, 1) := by decide +kernel
theorem dL_858 : decode code 858 = .ok (.iconst 1, 1) := by decide +kernel
theorem dL_859 : decode code 859 = .ok (.iadd, 1) := by decide +kernel
theorem dL_860 : decode code 860 = .ok (.iaload, 1) := by decide +kernel
theorem dL_861 : decode code 861 = .ok (.aload_n 0, 1) := by decide +kernel
theorem dL_862 : decode code 862 = .ok (.iload_n 3, 1) := by decide +kernel
theorem dL_863 : decode code 863 = .ok (.iconst 2, 1) := by decide +kernel
theorem dL_864 : decode code 864 = .ok (.iadd, 1) := by decide +kernel
theorem dL_865 : decode code 865 = .ok (.iaload, 1) := by decide +kernel
theorem dL_866 : decode code 866 = .ok (.invokevirtual 88, 3) := by decide +kernel
theorem dL_869 : decode code 869 = .ok (.aload_n 2, 1) := by decide +kernel
theorem dL_870 : decode code 870 = .ok (.aload_n 0, 1) := by decide +kernel
theorem dL_871 : decode code 871 = .ok (.iload_n 3, 1) := by decide +kernel
theorem dL_872 : decode code 872 = .ok (.iconst 1, 1) := by decide +kernel
theorem dL_873 : decode code 873 = .ok (.iadd, 1) := by decide +kernel
theorem dL_874 : decode code 874 = .ok (.iaload, 1) := by decide +kernel
theorem dL_875 : decode code 875 = .ok (.aload_n 0, 1) := by decide +kernel
theorem dL_876 : decode code 876 = .ok (.iload_n 3, 1) := by decide +kernel
theorem dL_877 : decode code 877 = .ok (.iconst 2, 1) := by decide +kernel
theorem dL_878 : decode code 878 = .ok (.iadd, 1) := by decide +kernel
theorem dL_879 : decode code 879 = .ok (.iaload, 1) := by decide +kernel
theorem dL_880 : decode code 880 = .ok (.invokevirtual 91, 3) := by decide +kernel
theorem dL_883 : decode code 883 = .ok (.if_icmp .eq 254, 3) := by decide +kernel
theorem dL_886 : decode code 886 = .ok (.iconst 0, 1) := by decide +kernel
theorem dL_887 : decode code 887 = .ok (.ireturn, 1) := by decide +kernel
theorem dL_888 : decode code 888 = .ok (.aload_n 1, 1) := by decide +kernel
theorem dL_889 : decode code 889 = .ok (.invokevirtual 92, 3) := by decide +kernel
theorem dL_892 : decode code 892 = .ok (.aload_n 2, 1) := by decide +kernel
theorem dL_893 : decode code 893 = .ok (.invokevirtual 95, 3) := by decide +kernel
theorem dL_896 : decode code 896 = .ok (.if_icmp .eq 241, 3) := by decide +kernel
theorem dL_899 : decode code 899 = .ok (.iconst 0, 1) := by decide +kernel
theorem dL_900 : decode code 900 = .ok (.ireturn, 1) := by decide +kernel
theorem dL_901 : decode code 901 = .ok (.aload_n 1, 1) := by decide +kernel
theorem dL_902 : decode code 902 = .ok (.aload_n 0, 1) := by decide +kernel
theorem dL_903 : decode code 903 = .ok (.iload_n 3, 1) := by decide +kernel
theorem dL_904 : decode code 904 = .ok (.iconst 1, 1) := by decide +kernel
theorem dL_905 : decode code 905 = .ok (.iadd, 1) := by decide +kernel
theorem dL_906 : decode code 906 = .ok (.iaload, 1) := by decide +kernel
theorem dL_907 : decode code 907 = .ok (.invokevirtual 96, 3) := by decide +kernel
theorem dL_910 : decode code 910 = .ok (.aload_n 2, 1) := by decide +kernel
theorem dL_911 : decode code 911 = .ok (.aload_n 0, 1) := by decide +kernel
theorem dL_912 : decode code 912 = .ok (.iload_n 3, 1) := by decide +kernel
theorem dL_913 : decode code 913 = .ok (.iconst 1, 1) := by decide +kernel
theorem dL_914 : decode code 914 = .ok (.iadd, 1) := by decide +kernel
theorem dL_915 : decode code 915 = .ok (.iaload, 1) := by decide +kernel
theorem dL_916 : decode code 916 = .ok (.invokevirtual 99, 3) := by decide +kernel
theorem dL_919 : decode code 919 = .ok (.if_icmp .eq 218, 3) := by decide +kernel
theorem dL_922 : decode code 922 = .ok (.iconst 0, 1) := by decide +kernel
theorem dL_923 : decode code 923 = .ok (.ireturn, 1) := by decide +kernel
theorem dL_924 : decode code 924 = .ok (.aload_n 1, 1) := by decide +kernel
theorem dL_925 : decode code 925 = .ok (.aload_n 0, 1) := by decide +kernel
theorem dL_926 : decode code 926 = .ok (.iload_n 3, 1) := by decide +kernel
theorem dL_927 : decode code 927 = .ok (.iconst 1, 1) := by decide +kernel
theorem dL_928 : decode code 928 = .ok (.iadd, 1) := by decide +kernel
theorem dL_929 : decode code 929 = .ok (.iaload, 1) := by decide +kernel
theorem dL_930 : decode code 930 = .ok (.invokevirtual 100, 3) := by decide +kernel
theorem dL_933 : decode code 933 = .ok (.aload_n 2, 1) := by decide +kernel
theorem dL_934 : decode code 934 = .ok (.aload_n 0, 1) := by decide +kernel
theorem dL_935 : decode code 935 = .ok (.iload_n 3, 1) := by decide +kernel
theorem dL_936 : decode code 936 = .ok (.iconst 1, 1) := by decide +kernel
theorem dL_937 : decode code 937 = .ok (.iadd, 1) := by decide +kernel
theorem dL_938 : decode code 938 = .ok (.iaload, 1) := by decide +kernel
theorem dL_939 : decode code 939 = .ok (.invokevirtual 103, 3) := by decide +kernel
theorem dL_942 : decode code 942 = .ok (.if_icmp .eq 195, 3) := by decide +kernel
theorem dL_945 : decode code 945 = .ok (.iconst 0, 1) := by decide +kernel
theorem dL_946 : decode code 946 = .ok (.ireturn, 1) := by decide +kernel
theorem dL_947 : decode code 947 = .ok (.aload_n 1, 1) := by decide +kernel
theorem dL_948 : decode code 948 = .ok (.aload_n 0, 1) := by decide +kernel
theorem dL_949 : decode code 949 = .ok (.iload_n 3, 1) := by decide +kernel
theorem dL_950 : decode code 950 = .ok (.iconst 1, 1) := by decide +kernel
theorem dL_951 : decode code 951 = .ok (.iadd, 1) := by decide +kernel
theorem dL_952 : decode code 952 = .ok (.iaload, 1) := by decide +kernel
theorem dL_953 : decode code 953 = .ok (.aload_n 0, 1) := by decide +kernel
theorem dL_954 : decode code 954 = .ok (.iload_n 3, 1) := by decide +kernel
theorem dL_955 : decode code 955 = .ok (.iconst 2, 1) := by decide +kernel
theorem dL_956 : decode code 956 = .ok (.iadd, 1) := by decide +kernel
theorem dL_957 : decode code 957 = .ok (.iaload, 1) := by decide +kernel
theorem dL_958 : decode code 958 = .ok (.ifCond .eq 7, 3) := by decide +kernel
theorem dL_961 : decode code 961 = .ok (.iconst 1, 1) := by decide +kernel
theorem dL_962 : decode code 962 = .ok (.goto 4, 3) := by decide +kernel
theorem dL_965 : decode code 965 = .ok (.iconst 0, 1) := by decide +kernel
theorem dL_966 : decode code 966 = .ok (.invokevirtual 104, 3) := by decide +kernel
theorem dL_969 : decode code 969 = .ok (.aload_n 2, 1) := by decide +kernel
theorem dL_970 : decode code 970 = .ok (.aload_n 0, 1) := by decide +kernel
theorem dL_971 : decode code 971 = .ok (.iload_n 3, 1) := by decide +kernel
theorem dL_972 : decode code 972 = .ok (.iconst 1, 1) := by decide +kernel
theorem dL_973 : decode code 973 = .ok (.iadd, 1) := by decide +kernel
theorem dL_974 : decode code 974 = .ok (.iaload, 1) := by decide +kernel
theorem dL_975 : decode code 975 = .ok (.aload_n 0, 1) := by decide +kernel
theorem dL_976 : decode code 976 = .ok (.iload_n 3, 1) := by decide +kernel
theorem dL_977 : decode code 977 = .ok (.iconst 2, 1) := by decide +kernel
theorem dL_978 : decode code 978 = .ok (.iadd, 1) := by decide +kernel
theorem dL_979 : decode code 979 = .ok (.iaload, 1) := by decide +kernel
theorem dL_980 : decode code 980 = .ok (.ifCond .eq 7, 3) := by decide +kernel
theorem dL_983 : decode code 983 = .ok (.iconst 1, 1) := by decide +kernel
theorem dL_984 : decode code 984 = .ok (.goto 4, 3) := by decide +kernel
theorem dL_987 : decode code 987 = .ok (.iconst 0, 1) := by decide +kernel
theorem dL_988 : decode code 988 = .ok (.invokevirtual 108, 3) := by decide +kernel
theorem dL_991 : decode code 991 = .ok (.if_icmp .eq 146, 3) := by decide +kernel
theorem dL_994 : decode code 994 = .ok (.iconst 0, 1) := by decide +kernel
theorem dL_995 : decode code 995 = .ok (.ireturn, 1) := by decide +kernel
theorem dL_996 : decode code 996 = .ok (.aload_n 1, 1) := by decide +kernel
theorem dL_997 : decode code 997 = .ok (.aload_n 0, 1) := by decide +kernel
theorem dL_998 : decode code 998 = .ok (.iload_n 3, 1) := by decide +kernel
theorem dL_999 : decode code 999 = .ok (.iconst 1, 1) := by decide +kernel
theorem dL_1000 : decode code 1000 = .ok (.iadd, 1) := by decide +kernel
theorem dL_1001 : decode code 1001 = .ok (.iaload, 1) := by decide +kernel
theorem dL_1002 : decode code 1002 = .ok (.aload_n 0, 1) := by decide +kernel
theorem dL_1003 : decode code 1003 = .ok (.iload_n 3, 1) := by decide +kernel
theorem dL_1004 : decode code 1004 = .ok (.iconst 2, 1) := by decide +kernel
theorem dL_1005 : decode code 1005 = .ok (.iadd, 1) := by decide +kernel
theorem dL_1006 : decode code 1006 = .ok (.iaload, 1) := by decide +kernel
theorem dL_1007 : decode code 1007 = .ok (.aload_n 0, 1) := by decide +kernel
theorem dL_1008 : decode code 1008 = .ok (.iload_n 3, 1) := by decide +kernel
theorem dL_1009 : decode code 1009 = .ok (.iconst 3, 1) := by decide +kernel
theorem dL_1010 : decode code 1010 = .ok (.iadd, 1) := by decide +kernel
theorem dL_1011 : decode code 1011 = .ok (.iaload, 1) := by decide +kernel
theorem dL_1012 : decode code 1012 = .ok (.ifCond .eq 7, 3) := by decide +kernel
theorem dL_1015 : decode code 1015 = .ok (.iconst 1, 1) := by decide +kernel
theorem dL_1016 : decode code 1016 = .ok (.goto 4, 3) := by decide +kernel
theorem dL_1019 : decode code 1019 = .ok (.iconst 0, 1) := by decide +kernel
theorem dL_1020 : decode code 1020 = .ok (.invokevirtual 109, 3) := by decide +kernel
theorem dL_1023 : decode code 1023 = .ok (.aload_n 2, 1) := by decide +kernel
theorem dL_1024 : decode code 1024 = .ok (.aload_n 0, 1) := by decide +kernel
theorem dL_1025 : decode code 1025 = .ok (.iload_n 3, 1) := by decide +kernel
theorem dL_1026 : decode code 1026 = .ok (.iconst 1, 1) := by decide +kernel
theorem dL_1027 : decode code 1027 = .ok (.iadd, 1) := by decide +kernel
theorem dL_1028 : decode code 1028 = .ok (.iaload, 1) := by decide +kernel
theorem dL_1029 : decode code 1029 = .ok (.aload_n 0, 1) := by decide +kernel
theorem dL_1030 : decode code 1030 = .ok (.iload_n 3, 1) := by decide +kernel
theorem dL_1031 : decode code 1031 = .ok (.iconst 2, 1) := by decide +kernel
theorem dL_1032 : decode code 1032 = .ok (.iadd, 1) := by decide +kernel
theorem dL_1033 : decode code 1033 = .ok (.iaload, 1) := by decide +kernel
theorem dL_1034 : decode code 1034 = .ok (.aload_n 0, 1) := by decide +kernel
theorem dL_1035 : decode code 1035 = .ok (.iload_n 3, 1) := by decide +kernel
theorem dL_1036 : decode code 1036 = .ok (.iconst 3, 1) := by decide +kernel
theorem dL_1037 : decode code 1037 = .ok (.iadd, 1) := by decide +kernel
theorem dL_1038 : decode code 1038 = .ok (.iaload, 1) := by decide +kernel
theorem dL_1039 : decode code 1039 = .ok (.ifCond .eq 7, 3) := by decide +kernel
theorem dL_1042 : decode code 1042 = .ok (.iconst 1, 1) := by decide +kernel
theorem dL_1043 : decode code 1043 = .ok (.goto 4, 3) := by decide +kernel
theorem dL_1046 : decode code 1046 = .ok (.iconst 0, 1) := by decide +kernel
theorem dL_1047 : decode code 1047 = .ok (.invokevirtual 113, 3) := by decide +kernel
theorem dL_1050 : decode code 1050 = .ok (.if_icmp .eq 87, 3) := by decide +kernel
theorem dL_1053 : decode code 1053 = .ok (.iconst 0, 1) := by decide +kernel
theorem dL_1054 : decode code 1054 = .ok (.ireturn, 1) := by decide +kernel
theorem dL_1055 : decode code 1055 = .ok (.aload_n 1, 1) := by decide +kernel
theorem dL_1056 : decode code 1056 = .ok (.aload_n 0, 1) := by decide +kernel
theorem dL_1057 : decode code 1057 = .ok (.iload_n 3, 1) := by decide +kernel
theorem dL_1058 : decode code 1058 = .ok (.iconst 1, 1) := by decide +kernel
theorem dL_1059 : decode code 1059 = .ok (.iadd, 1) := by decide +kernel
theorem dL_1060 : decode code 1060 = .ok (.iaload, 1) := by decide +kernel
theorem dL_1061 : decode code 1061 = .ok (.invokevirtual 114, 3) := by decide +kernel
theorem dL_1064 : decode code 1064 = .ok (.aload_n 2, 1) := by decide +kernel
theorem dL_1065 : decode code 1065 = .ok (.aload_n 0, 1) := by decide +kernel
theorem dL_1066 : decode code 1066 = .ok (.iload_n 3, 1) := by decide +kernel
theorem dL_1067 : decode code 1067 = .ok (.iconst 1, 1) := by decide +kernel
theorem dL_1068 : decode code 1068 = .ok (.iadd, 1) := by decide +kernel
theorem dL_1069 : decode code 1069 = .ok (.iaload, 1) := by decide +kernel
theorem dL_1070 : decode code 1070 = .ok (.invokevirtual 117, 3) := by decide +kernel
theorem dL_1073 : decode code 1073 = .ok (.if_icmp .eq 64, 3) := by decide +kernel
theorem dL_1076 : decode code 1076 = .ok (.iconst 0, 1) := by decide +kernel
theorem dL_1077 : decode code 1077 = .ok (.ireturn, 1) := by decide +kernel
theorem dL_1078 : decode code 1078 = .ok (.aload_n 1, 1) := by decide +kernel
theorem dL_1079 : decode code 1079 = .ok (.invokevirtual 118, 3) := by decide +kernel
theorem dL_1082 : decode code 1082 = .ok (.aload_n 2, 1) := by decide +kernel
theorem dL_1083 : decode code 1083 = .ok (.invokevirtual 121, 3) := by decide +kernel
theorem dL_1086 : decode code 1086 = .ok (.if_icmp .eq 51, 3) := by decide +kernel
theorem dL_1089 : decode code 1089 = .ok (.iconst 0, 1) := by decide +kernel
theorem dL_1090 : decode code 1090 = .ok (.ireturn, 1) := by decide +kernel
theorem dL_1091 : decode code 1091 = .ok (.aload_n 1, 1) := by decide +kernel
theorem dL_1092 : decode code 1092 = .ok (.aload_n 0, 1) := by decide +kernel
theorem dL_1093 : decode code 1093 = .ok (.iload_n 3, 1) := by decide +kernel
theorem dL_1094 : decode code 1094 = .ok (.iconst 1, 1) := by decide +kernel
theorem dL_1095 : decode code 1095 = .ok (.iadd, 1) := by decide +kernel
theorem dL_1096 : decode code 1096 = .ok (.iaload, 1) := by decide +kernel
theorem dL_1097 : decode code 1097 = .ok (.invokevirtual 122, 3) := by decide +kernel
theorem dL_1100 : decode code 1100 = .ok (.aload_n 2, 1) := by decide +kernel
theorem dL_1101 : decode code 1101 = .ok (.aload_n 0, 1) := by decide +kernel
theorem dL_1102 : decode code 1102 = .ok (.iload_n 3, 1) := by decide +kernel
theorem dL_1103 : decode code 1103 = .ok (.iconst 1, 1) := by decide +kernel
theorem dL_1104 : decode code 1104 = .ok (.iadd, 1) := by decide +kernel
theorem dL_1105 : decode code 1105 = .ok (.iaload, 1) := by decide +kernel
theorem dL_1106 : decode code 1106 = .ok (.invokevirtual 125, 3) := by decide +kernel
theorem dL_1109 : decode code 1109 = .ok (.if_icmp .eq 28, 3) := by decide +kernel
theorem dL_1112 : decode code 1112 = .ok (.iconst 0, 1) := by decide +kernel
theorem dL_1113 : decode code 1113 = .ok (.ireturn, 1) := by decide +kernel
theorem dL_1114 : decode code 1114 = .ok (.aload_n 1, 1) := by decide +kernel
theorem dL_1115 : decode code 1115 = .ok (.aload_n 0, 1) := by decide +kernel
theorem dL_1116 : decode code 1116 = .ok (.iload_n 3, 1) := by decide +kernel
theorem dL_1117 : decode code 1117 = .ok (.iconst 1, 1) := by decide +kernel
theorem dL_1118 : decode code 1118 = .ok (.iadd, 1) := by decide +kernel
theorem dL_1119 : decode code 1119 = .ok (.iaload, 1) := by decide +kernel
theorem dL_1120 : decode code 1120 = .ok (.invokevirtual 126, 3) := by decide +kernel
theorem dL_1123 : decode code 1123 = .ok (.aload_n 2, 1) := by decide +kernel
theorem dL_1124 : decode code 1124 = .ok (.aload_n 0, 1) := by decide +kernel
theorem dL_1125 : decode code 1125 = .ok (.iload_n 3, 1) := by decide +kernel
theorem dL_1126 : decode code 1126 = .ok (.iconst 1, 1) := by decide +kernel
theorem dL_1127 : decode code 1127 = .ok (.iadd, 1) := by decide +kernel
theorem dL_1128 : decode code 1128 = .ok (.iaload, 1) := by decide +kernel
theorem dL_1129 : decode code 1129 = .ok (.invokevirtual 129, 3) := by decide +kernel
theorem dL_1132 : decode code 1132 = .ok (.if_icmp .eq 5, 3) := by decide +kernel
theorem dL_1135 : decode code 1135 = .ok (.iconst 0, 1) := by decide +kernel
theorem dL_1136 : decode code 1136 = .ok (.ireturn, 1) := by decide +kernel
theorem dL_1137 : decode code 1137 = .ok (.iinc 3 5, 3) := by decide +kernel
theorem dL_1140 : decode code 1140 = .ok (.goto (-1122), 3) := by decide +kernel
theorem dL_1143 : decode code 1143 = .ok (.iconst 1, 1) := by decide +kernel
theorem dL_1144 : decode code 1144 = .ok (.ireturn, 1) := by decide +kernel
set_option maxRecDepth 100000 in
theorem nL_7 : hp_Fn RL 7 11 6 [(3, 0, 0), (3, 0, 0), (3, 0, 0), (3, 0, 0), (3, 0, 0), (3, 0, 0)] := ⟨_, _, tyX11, vcl_11, in_11, tyX11_ok, hp_in (List.mem_append_right _ (List.mem_append_left _ (List.mem_of_getElem? (i := 17) (by decide +kernel)))) rfl, hp_in (List.mem_append_right _ (List.mem_append_left _ (List.mem_of_getElem? (i := 18) (by decide +kernel)))) rfl, hp_in (List.mem_append_right _ (List.mem_append_left _ (List.mem_of_getElem? (i := 1) (by decide +kernel)))) rfl, by decide +kernel⟩
set_option maxRecDepth 100000 in
theorem mL_9 : Cond.methodLink RL 9 yX11_init ∈ hp_tbl := hp_in (List.mem_append_right _ (List.mem_append_left _ (List.mem_of_getElem? (i := 19) (by decide +kernel)))) rfl
set_option maxRecDepth 100000 in
theorem nL_10 : hp_Fn RL 10 12 64 [(0, 0, 0), (3, 0, 0), (3, 0, 0), (3, 0, 0), (0, 0, 0), (3, 0, 0), (3, 0, 0), (3, 0, 0), (3, 0, 0), (3, 0, 0), (3, 0, 0), (0, 0, 0), (3, 0, 0), (3, 0, 0), (3, 0, 0), (0, 0, 0), (3, 0, 0), (3, 0, 0), (3, 0, 0), (3, 0, 0), (3, 0, 0), (0, 0, 0), (3, 0, 0), (3, 0, 0), (3, 0, 0), (3, 0, 0), (3, 0, 0), (3, 0, 0), (3, 0, 0), (3, 0, 0), (0, 0, 0), (0, 0, 0), (3, 0, 0), (0, 0, 0), (0, 0, 0), (0, 0, 0), (3, 0, 0), (3, 0, 0), (3, 0, 0), (3, 0, 0), (0, 0, 0), (3, 0, 0), (3, 0, 0), (3, 0, 0), (3, 0, 0), (3, 0, 0), (0, 0, 0), (0, 0, 0), (0, 0, 0), (0, 0, 0), (0, 0, 0), (3, 0, 0), (3, 0, 0), (3, 0, 0), (3, 0, 0), (3, 0, 0), (3, 0, 0), (3, 0, 0), (3, 0, 0), (3, 0, 0), (3, 0, 0), (3, 0, 0), (3, 0, 0), (3, 0, 0)] := ⟨_, _, tyX12, vcl_12, in_12, tyX12_ok, hp_in (List.mem_append_right _ (List.mem_append_right _ (List.mem_append_right _ (List.mem_append_right _ (List.mem_append_right _ (List.mem_append_left _ (List.mem_of_getElem? (i := 126) (by decide +kernel)))))))) rfl, hp_in (List.mem_append_right _ (List.mem_append_right _ (List.mem_append_right _ (List.mem_append_right _ (List.mem_append_right _ (List.mem_append_left _ (List.mem_of_getElem? (i := 127) (by decide +kernel)))))))) rfl, hp_in (List.mem_append_right _ (List.mem_append_left _ (List.mem_of_getElem? (i := 13) (by decide +kernel)))) rfl, by decide +kernel⟩
set_option maxRecDepth 100000 in
theorem mL_12 : Cond.methodLink RL 12 yX12_init ∈ hp_tbl := hp_in (List.mem_append_right _ (List.mem_append_right _ (List.mem_append_right _ (List.mem_append_right _ (List.mem_append_right _ (List.mem_append_left _ (List.mem_of_getElem? (i := 128) (by decide +kernel)))))))) rfl
set_option maxRecDepth 100000 in
theorem mL_13 : Cond.methodLink RL 13 yX11_shared ∈ hp_tbl := hp_in (List.mem_append_right _ (List.mem_append_right _ (List.mem_append_left _ (List.mem_of_getElem? (i := 239) (by decide +kernel))))) rfl
set_option maxRecDepth 100000 in
theorem mL_17 : Cond.methodLink RL 17 yX12_shared ∈ hp_tbl := hp_in (List.mem_append_right _ (List.mem_append_right _ (List.mem_append_right _ (List.mem_append_right _ (List.mem_append_right _ (List.mem_append_right _ (List.mem_append_left _ (List.mem_of_getElem? (i := 86) (by decide +kernel))))))))) rfl
set_option maxRecDepth 100000 in
theorem mL_18 : Cond.methodLink RL 18 yX11_role ∈ hp_tbl := hp_in (List.mem_append_right _ (List.mem_append_right _ (List.mem_append_right _ (List.mem_append_left _ (List.mem_of_getElem? (i := 26) (by decide +kernel)))))) rfl
set_option maxRecDepth 100000 in
theorem mL_22 : Cond.methodLink RL 22 yX12_role ∈ hp_tbl := hp_in (List.mem_append_right _ (List.mem_append_right _ (List.mem_append_right _ (List.mem_append_right _ (List.mem_append_right _ (List.mem_append_right _ (List.mem_append_left _ (List.mem_of_getElem? (i := 100) (by decide +kernel))))))))) rfl
set_option maxRecDepth 100000 in
theorem mL_23 : Cond.methodLink RL 23 yX11_own ∈ hp_tbl := hp_in (List.mem_append_right _ (List.mem_append_right _ (List.mem_append_right _ (List.mem_append_left _ (List.mem_of_getElem? (i := 34) (by decide +kernel)))))) rfl
set_option maxRecDepth 100000 in
theorem mL_27 : Cond.methodLink RL 27 yX12_own ∈ hp_tbl := hp_in (List.mem_append_right _ (List.mem_append_right _ (List.mem_append_right _ (List.mem_append_right _ (List.mem_append_right _ (List.mem_append_right _ (List.mem_append_left _ (List.mem_of_getElem? (i := 104) (by decide +kernel))))))))) rfl
set_option maxRecDepth 100000 in
theorem mL_28 : Cond.methodLink RL 28 yX11_end ∈ hp_tbl := hp_in (List.mem_append_right _ (List.mem_append_right _ (List.mem_append_right _ (List.mem_append_left _ (List.mem_of_getElem? (i := 42) (by decide +kernel)))))) rfl
set_option maxRecDepth 100000 in
theorem mL_32 : Cond.methodLink RL 32 yX12_end ∈ hp_tbl := hp_in (List.mem_append_right _ (List.mem_append_right _ (List.mem_append_right _ (List.mem_append_right _ (List.mem_append_right _ (List.mem_append_right _ (List.mem_append_left _ (List.mem_of_getElem? (i := 112) (by decide +kernel))))))))) rfl
set_option maxRecDepth 100000 in
theorem mL_33 : Cond.methodLink RL 33 yX11_channel ∈ hp_tbl := hp_in (List.mem_append_right _ (List.mem_append_right _ (List.mem_append_right _ (List.mem_append_left _ (List.mem_of_getElem? (i := 60) (by decide +kernel)))))) rfl
set_option maxRecDepth 100000 in
theorem mL_37 : Cond.methodLink RL 37 yX12_channel ∈ hp_tbl := hp_in (List.mem_append_right _ (List.mem_append_right _ (List.mem_append_right _ (List.mem_append_right _ (List.mem_append_right _ (List.mem_append_right _ (List.mem_append_left _ (List.mem_of_getElem? (i := 116) (by decide +kernel))))))))) rfl
set_option maxRecDepth 100000 in
theorem mL_38 : Cond.methodLink RL 38 yX11_expr ∈ hp_tbl := hp_in (List.mem_append_right _ (List.mem_append_right _ (List.mem_append_right _ (List.mem_append_left _ (List.mem_of_getElem? (i := 68) (by decide +kernel)))))) rfl
set_option maxRecDepth 100000 in
theorem mL_41 : Cond.methodLink RL 41 yX12_expr ∈ hp_tbl := hp_in (List.mem_append_right _ (List.mem_append_right _ (List.mem_append_right _ (List.mem_append_right _ (List.mem_append_right _ (List.mem_append_right _ (List.mem_append_left _ (List.mem_of_getElem? (i := 120) (by decide +kernel))))))))) rfl
set_option maxRecDepth 100000 in
theorem mL_42 : Cond.methodLink RL 42 yX11_step ∈ hp_tbl := hp_in (List.mem_append_right _ (List.mem_append_right _ (List.mem_append_right _ (List.mem_append_left _ (List.mem_of_getElem? (i := 106) (by decide +kernel)))))) rfl
set_option maxRecDepth 100000 in
theorem mL_45 : Cond.methodLink RL 45 yX12_step ∈ hp_tbl := hp_in (List.mem_append_right _ (List.mem_append_right _ (List.mem_append_right _ (List.mem_append_right _ (List.mem_append_right _ (List.mem_append_right _ (List.mem_append_left _ (List.mem_of_getElem? (i := 136) (by decide +kernel))))))))) rfl
set_option maxRecDepth 100000 in
theorem mL_46 : Cond.methodLink RL 46 yX11_act ∈ hp_tbl := hp_in (List.mem_append_right _ (List.mem_append_right _ (List.mem_append_right _ (List.mem_append_left _ (List.mem_of_getElem? (i := 115) (by decide +kernel)))))) rfl
set_option maxRecDepth 100000 in
theorem mL_49 : Cond.methodLink RL 49 yX12_act ∈ hp_tbl := hp_in (List.mem_append_right _ (List.mem_append_right _ (List.mem_append_right _ (List.mem_append_right _ (List.mem_append_right _ (List.mem_append_right _ (List.mem_append_left _ (List.mem_of_getElem? (i := 140) (by decide +kernel))))))))) rfl
set_option maxRecDepth 100000 in
theorem mL_50 : Cond.methodLink RL 50 yX11_alike ∈ hp_tbl := hp_in (List.mem_append_right _ (List.mem_append_right _ (List.mem_append_right _ (List.mem_append_left _ (List.mem_of_getElem? (i := 135) (by decide +kernel)))))) rfl
set_option maxRecDepth 100000 in
theorem mL_54 : Cond.methodLink RL 54 yX12_alike ∈ hp_tbl := hp_in (List.mem_append_right _ (List.mem_append_right _ (List.mem_append_right _ (List.mem_append_right _ (List.mem_append_right _ (List.mem_append_right _ (List.mem_append_left _ (List.mem_of_getElem? (i := 144) (by decide +kernel))))))))) rfl
set_option maxRecDepth 100000 in
theorem mL_55 : Cond.methodLink RL 55 yX11_search ∈ hp_tbl := hp_in (List.mem_append_right _ (List.mem_append_right _ (List.mem_append_right _ (List.mem_append_left _ (List.mem_of_getElem? (i := 139) (by decide +kernel)))))) rfl
set_option maxRecDepth 100000 in
theorem mL_59 : Cond.methodLink RL 59 yX12_search ∈ hp_tbl := hp_in (List.mem_append_right _ (List.mem_append_right _ (List.mem_append_right _ (List.mem_append_right _ (List.mem_append_right _ (List.mem_append_right _ (List.mem_append_left _ (List.mem_of_getElem? (i := 148) (by decide +kernel))))))))) rfl
set_option maxRecDepth 100000 in
theorem mL_60 : Cond.methodLink RL 60 yX11_tells ∈ hp_tbl := hp_in (List.mem_append_right _ (List.mem_append_right _ (List.mem_append_right _ (List.mem_append_right _ (List.mem_append_left _ (List.mem_of_getElem? (i := 113) (by decide +kernel))))))) rfl
set_option maxRecDepth 100000 in
theorem mL_63 : Cond.methodLink RL 63 yX12_tells ∈ hp_tbl := hp_in (List.mem_append_right _ (List.mem_append_right _ (List.mem_append_right _ (List.mem_append_right _ (List.mem_append_right _ (List.mem_append_right _ (List.mem_append_left _ (List.mem_of_getElem? (i := 238) (by decide +kernel))))))))) rfl
set_option maxRecDepth 100000 in
theorem mL_64 : Cond.methodLink RL 64 yX11_place ∈ hp_tbl := hp_in (List.mem_append_right _ (List.mem_append_right _ (List.mem_append_right _ (List.mem_append_right _ (List.mem_append_left _ (List.mem_of_getElem? (i := 159) (by decide +kernel))))))) rfl
set_option maxRecDepth 100000 in
theorem mL_67 : Cond.methodLink RL 67 yX12_place ∈ hp_tbl := hp_in (List.mem_append_right _ (List.mem_append_right _ (List.mem_append_right _ (List.mem_append_right _ (List.mem_append_right _ (List.mem_append_right _ (List.mem_append_right _ (List.mem_of_getElem? (i := 11) (by decide +kernel))))))))) rfl
set_option maxRecDepth 100000 in
theorem mL_68 : Cond.methodLink RL 68 yX11_owned ∈ hp_tbl := hp_in (List.mem_append_right _ (List.mem_append_right _ (List.mem_append_right _ (List.mem_append_right _ (List.mem_append_left _ (List.mem_of_getElem? (i := 167) (by decide +kernel))))))) rfl
set_option maxRecDepth 100000 in
theorem mL_71 : Cond.methodLink RL 71 yX12_owned ∈ hp_tbl := hp_in (List.mem_append_right _ (List.mem_append_right _ (List.mem_append_right _ (List.mem_append_right _ (List.mem_append_right _ (List.mem_append_right _ (List.mem_append_right _ (List.mem_of_getElem? (i := 19) (by decide +kernel))))))))) rfl
set_option maxRecDepth 100000 in
theorem mL_72 : Cond.methodLink RL 72 yX11_letter ∈ hp_tbl := hp_in (List.mem_append_right _ (List.mem_append_right _ (List.mem_append_right _ (List.mem_append_right _ (List.mem_append_left _ (List.mem_of_getElem? (i := 173) (by decide +kernel))))))) rfl
set_option maxRecDepth 100000 in
theorem mL_75 : Cond.methodLink RL 75 yX12_letter ∈ hp_tbl := hp_in (List.mem_append_right _ (List.mem_append_right _ (List.mem_append_right _ (List.mem_append_right _ (List.mem_append_right _ (List.mem_append_right _ (List.mem_append_right _ (List.mem_of_getElem? (i := 23) (by decide +kernel))))))))) rfl
set_option maxRecDepth 100000 in
theorem mL_76 : Cond.methodLink RL 76 yX11_moves ∈ hp_tbl := hp_in (List.mem_append_right _ (List.mem_append_right _ (List.mem_append_right _ (List.mem_append_right _ (List.mem_append_left _ (List.mem_of_getElem? (i := 180) (by decide +kernel))))))) rfl
set_option maxRecDepth 100000 in
theorem mL_79 : Cond.methodLink RL 79 yX12_moves ∈ hp_tbl := hp_in (List.mem_append_right _ (List.mem_append_right _ (List.mem_append_right _ (List.mem_append_right _ (List.mem_append_right _ (List.mem_append_right _ (List.mem_append_right _ (List.mem_of_getElem? (i := 27) (by decide +kernel))))))))) rfl
set_option maxRecDepth 100000 in
theorem mL_80 : Cond.methodLink RL 80 yX11_move ∈ hp_tbl := hp_in (List.mem_append_right _ (List.mem_append_right _ (List.mem_append_right _ (List.mem_append_right _ (List.mem_append_left _ (List.mem_of_getElem? (i := 188) (by decide +kernel))))))) rfl
set_option maxRecDepth 100000 in
theorem mL_83 : Cond.methodLink RL 83 yX12_move ∈ hp_tbl := hp_in (List.mem_append_right _ (List.mem_append_right _ (List.mem_append_right _ (List.mem_append_right _ (List.mem_append_right _ (List.mem_append_right _ (List.mem_append_right _ (List.mem_of_getElem? (i := 35) (by decide +kernel))))))))) rfl
set_option maxRecDepth 100000 in
theorem mL_84 : Cond.methodLink RL 84 yX11_depth ∈ hp_tbl := hp_in (List.mem_append_right _ (List.mem_append_right _ (List.mem_append_right _ (List.mem_append_right _ (List.mem_append_left _ (List.mem_of_getElem? (i := 204) (by decide +kernel))))))) rfl
set_option maxRecDepth 100000 in
theorem mL_87 : Cond.methodLink RL 87 yX12_depth ∈ hp_tbl := hp_in (List.mem_append_right _ (List.mem_append_right _ (List.mem_append_right _ (List.mem_append_right _ (List.mem_append_right _ (List.mem_append_right _ (List.mem_append_right _ (List.mem_of_getElem? (i := 39) (by decide +kernel))))))))) rfl
set_option maxRecDepth 100000 in
theorem mL_88 : Cond.methodLink RL 88 yX11_came ∈ hp_tbl := hp_in (List.mem_append_right _ (List.mem_append_right _ (List.mem_append_right _ (List.mem_append_right _ (List.mem_append_left _ (List.mem_of_getElem? (i := 208) (by decide +kernel))))))) rfl
set_option maxRecDepth 100000 in
theorem mL_91 : Cond.methodLink RL 91 yX12_came ∈ hp_tbl := hp_in (List.mem_append_right _ (List.mem_append_right _ (List.mem_append_right _ (List.mem_append_right _ (List.mem_append_right _ (List.mem_append_right _ (List.mem_append_right _ (List.mem_of_getElem? (i := 43) (by decide +kernel))))))))) rfl
set_option maxRecDepth 100000 in
theorem mL_92 : Cond.methodLink RL 92 yX11_stuck ∈ hp_tbl := hp_in (List.mem_append_right _ (List.mem_append_right _ (List.mem_append_right _ (List.mem_append_right _ (List.mem_append_left _ (List.mem_of_getElem? (i := 212) (by decide +kernel))))))) rfl
set_option maxRecDepth 100000 in
theorem mL_95 : Cond.methodLink RL 95 yX12_stuck ∈ hp_tbl := hp_in (List.mem_append_right _ (List.mem_append_right _ (List.mem_append_right _ (List.mem_append_right _ (List.mem_append_right _ (List.mem_append_right _ (List.mem_append_right _ (List.mem_of_getElem? (i := 47) (by decide +kernel))))))))) rfl
set_option maxRecDepth 100000 in
theorem mL_96 : Cond.methodLink RL 96 yX11_fault ∈ hp_tbl := hp_in (List.mem_append_right _ (List.mem_append_right _ (List.mem_append_right _ (List.mem_append_right _ (List.mem_append_left _ (List.mem_of_getElem? (i := 231) (by decide +kernel))))))) rfl
set_option maxRecDepth 100000 in
theorem mL_99 : Cond.methodLink RL 99 yX12_fault_ ∈ hp_tbl := hp_in (List.mem_append_right _ (List.mem_append_right _ (List.mem_append_right _ (List.mem_append_right _ (List.mem_append_right _ (List.mem_append_right _ (List.mem_append_right _ (List.mem_of_getElem? (i := 55) (by decide +kernel))))))))) rfl
set_option maxRecDepth 100000 in
theorem mL_100 : Cond.methodLink RL 100 yX11_always ∈ hp_tbl := hp_in (List.mem_append_right _ (List.mem_append_right _ (List.mem_append_right _ (List.mem_append_right _ (List.mem_append_left _ (List.mem_of_getElem? (i := 235) (by decide +kernel))))))) rfl
set_option maxRecDepth 100000 in
theorem mL_103 : Cond.methodLink RL 103 yX12_always ∈ hp_tbl := hp_in (List.mem_append_right _ (List.mem_append_right _ (List.mem_append_right _ (List.mem_append_right _ (List.mem_append_right _ (List.mem_append_right _ (List.mem_append_right _ (List.mem_of_getElem? (i := 59) (by decide +kernel))))))))) rfl
set_option maxRecDepth 100000 in
theorem mL_104 : Cond.methodLink RL 104 yX11_again ∈ hp_tbl := hp_in (List.mem_append_right _ (List.mem_append_right _ (List.mem_append_right _ (List.mem_append_right _ (List.mem_append_right _ (List.mem_append_left _ (List.mem_of_getElem? (i := 3) (by decide +kernel)))))))) rfl
set_option maxRecDepth 100000 in
theorem mL_108 : Cond.methodLink RL 108 yX12_again ∈ hp_tbl := hp_in (List.mem_append_right _ (List.mem_append_right _ (List.mem_append_right _ (List.mem_append_right _ (List.mem_append_right _ (List.mem_append_right _ (List.mem_append_right _ (List.mem_of_getElem? (i := 63) (by decide +kernel))))))))) rfl
set_option maxRecDepth 100000 in
theorem mL_109 : Cond.methodLink RL 109 yX11_fromTo ∈ hp_tbl := hp_in (List.mem_append_right _ (List.mem_append_right _ (List.mem_append_right _ (List.mem_append_right _ (List.mem_append_right _ (List.mem_append_left _ (List.mem_of_getElem? (i := 54) (by decide +kernel)))))))) rfl
set_option maxRecDepth 100000 in
theorem mL_113 : Cond.methodLink RL 113 yX12_fromTo ∈ hp_tbl := hp_in (List.mem_append_right _ (List.mem_append_right _ (List.mem_append_right _ (List.mem_append_right _ (List.mem_append_right _ (List.mem_append_right _ (List.mem_append_right _ (List.mem_of_getElem? (i := 95) (by decide +kernel))))))))) rfl
set_option maxRecDepth 100000 in
theorem mL_114 : Cond.methodLink RL 114 yX11_observe ∈ hp_tbl := hp_in (List.mem_append_right _ (List.mem_append_right _ (List.mem_append_right _ (List.mem_append_right _ (List.mem_append_right _ (List.mem_append_left _ (List.mem_of_getElem? (i := 63) (by decide +kernel)))))))) rfl
set_option maxRecDepth 100000 in
theorem mL_117 : Cond.methodLink RL 117 yX12_observe ∈ hp_tbl := hp_in (List.mem_append_right _ (List.mem_append_right _ (List.mem_append_right _ (List.mem_append_right _ (List.mem_append_right _ (List.mem_append_right _ (List.mem_append_right _ (List.mem_of_getElem? (i := 99) (by decide +kernel))))))))) rfl
set_option maxRecDepth 100000 in
theorem mL_118 : Cond.methodLink RL 118 yX11_classes ∈ hp_tbl := hp_in (List.mem_append_right _ (List.mem_append_right _ (List.mem_append_right _ (List.mem_append_right _ (List.mem_append_right _ (List.mem_append_left _ (List.mem_of_getElem? (i := 75) (by decide +kernel)))))))) rfl
set_option maxRecDepth 100000 in
theorem mL_121 : Cond.methodLink RL 121 yX12_classes ∈ hp_tbl := hp_in (List.mem_append_right _ (List.mem_append_right _ (List.mem_append_right _ (List.mem_append_right _ (List.mem_append_right _ (List.mem_append_right _ (List.mem_append_right _ (List.mem_of_getElem? (i := 103) (by decide +kernel))))))))) rfl
set_option maxRecDepth 100000 in
theorem mL_122 : Cond.methodLink RL 122 yX11_classOf ∈ hp_tbl := hp_in (List.mem_append_right _ (List.mem_append_right _ (List.mem_append_right _ (List.mem_append_right _ (List.mem_append_right _ (List.mem_append_left _ (List.mem_of_getElem? (i := 118) (by decide +kernel)))))))) rfl
set_option maxRecDepth 100000 in
theorem mL_125 : Cond.methodLink RL 125 yX12_classOf ∈ hp_tbl := hp_in (List.mem_append_right _ (List.mem_append_right _ (List.mem_append_right _ (List.mem_append_right _ (List.mem_append_right _ (List.mem_append_right _ (List.mem_append_right _ (List.mem_of_getElem? (i := 123) (by decide +kernel))))))))) rfl
set_option maxRecDepth 100000 in
theorem mL_126 : Cond.methodLink RL 126 yX11_count ∈ hp_tbl := hp_in (List.mem_append_right _ (List.mem_append_right _ (List.mem_append_right _ (List.mem_append_right _ (List.mem_append_right _ (List.mem_append_left _ (List.mem_of_getElem? (i := 122) (by decide +kernel)))))))) rfl
set_option maxRecDepth 100000 in
theorem mL_129 : Cond.methodLink RL 129 yX12_count ∈ hp_tbl := hp_in (List.mem_append_right _ (List.mem_append_right _ (List.mem_append_right _ (List.mem_append_right _ (List.mem_append_right _ (List.mem_append_right _ (List.mem_append_right _ (List.mem_of_getElem? (i := 127) (by decide +kernel))))))))) rfl
set_option maxRecDepth 100000 in
theorem Fi_X11_init : hp_Fi yX11_init cX11_init 1 0 := ⟨hp_in (List.mem_append_right _ (List.mem_append_left _ (List.mem_of_getElem? (i := 20) (by decide +kernel)))) rfl, hp_in (List.mem_append_right _ (List.mem_append_left _ (List.mem_of_getElem? (i := 1) (by decide +kernel)))) rfl, hp_in (List.mem_append_right _ (List.mem_append_left _ (List.mem_of_getElem? (i := 21) rfl))) rfl, ⟨by decide +kernel, by decide +kernel, by decide +kernel⟩, rfl⟩
set_option maxRecDepth 100000 in
theorem Fi_X12_init : hp_Fi yX12_init cX12_init 1 0 := ⟨hp_in (List.mem_append_right _ (List.mem_append_right _ (List.mem_append_right _ (List.mem_append_right _ (List.mem_append_right _ (List.mem_append_left _ (List.mem_of_getElem? (i := 129) (by decide +kernel)))))))) rfl, hp_in (List.mem_append_right _ (List.mem_append_left _ (List.mem_of_getElem? (i := 13) (by decide +kernel)))) rfl, hp_in (List.mem_append_right _ (List.mem_append_right _ (List.mem_append_right _ (List.mem_append_right _ (List.mem_append_right _ (List.mem_append_left _ (List.mem_of_getElem? (i := 130) rfl))))))) rfl, ⟨by decide +kernel, by decide +kernel, by decide +kernel⟩, rfl⟩
/-! ===== rows of the law: two worlds, side by side ===== -/
def lw_I (D : va_G) (cs : Nat → ClassId) (b0 : Nat) (hB hM : hp_H) : Heap → Prop := fun H => va_P D vwCl (hp_W SB cs (mk_ad b0) hB) H ∧ va_P D vwCl (hp_W SM cs (mk_ad (b0 + 72)) hM) H
def lw_AB (b0 : Nat) : Nat → Prop := fun q => b0 ≤ q ∧ q < b0 + 72
theorem lw_lB : SB.length = 72 := by decide +kernel
theorem lw_JB {b0 : Nat} : hp_J SB (mk_ad b0) (lw_AB b0) := ⟨(mk_J SB b0).1, fun i hi => ⟨Nat.le_add_right b0 i, Nat.add_lt_add_left (by rw [lw_lB] at hi; exact hi) b0⟩⟩
theorem lw_JM {b0 : Nat} : hp_J SM (mk_ad b0) (mk_A b0) := mk_J SM b0
abbrev lw_lv (s : State) (b i : Nat) : List (Nat × Value) := [(0, .ref b), (1, .ref (mk_ad s.heap.size 0)), (2, .ref (mk_ad (s.heap.size + 72) 0)), (3, .int (nI i))]
abbrev lw_G (p : Program) (l : Launch) (e : Env) (s : State) (m : MethodId) (b : Nat) (below : List Frame) (meth : Method) (c : Code) (cs : Nat → ClassId) (D : va_G) (hB hM : hp_H) (pc : Nat) (lv : List (Nat × Value)) (st : List Value) : Prop := gi_G p l e room_1 s m #[.ref b] below meth c (mk_A s.heap.size) 4 121 89404 (lw_Z below #[.ref b] s) (lw_I D cs s.heap.size hB hM) pc lv st
def lw_z (v : Int32) : Int32 := if v = 0 then 0 else 1
theorem lw_bz (v : Int32) : hp_bz (lw_z v) := by
  unfold lw_z
  split
  · exact Or.inl rfl
  · exact Or.inr rfl
section
variable {p : Program} {l : Launch} {e : Env} {s : State} {m : MethodId} {below : List Frame} {meth : Method} {c : Code} {cs : Nat → ClassId} {D : va_G} {b L : Nat} {xs : Nat → Int32} {i : Nat} {hB hM : hp_H}
variable {pc : Nat} {lv : List (Nat × Value)} {st : List Value} {R : Room} {cells slots nL : Nat} {Q : State → Prop} {I : Heap → Prop} {args : Array Value} {own : String} {ret1 : Option FieldType}
theorem lw_sld (E : hp_Env p R s m args meth c cs D own code nL ret1) (hX : va_X b L xs s s.heap) (hbl : b < s.heap.size) {i : Int32} (hin : vp_in i L) (hd : decode code pc = .ok (.iaload, 1)) (k : gi_G p l e R s m args below meth c (mk_A s.heap.size) nL cells slots Q I (pc + 1) lv (.int (xs i.toNatClampNeg) :: st)) : gi_G p l e R s m args below meth c (mk_A s.heap.size) nL cells slots Q I pc lv (.int i :: .ref b :: st) :=
  fun H locs ls hP hS hl => va_sld E.1 E.2.1 hX hbl (Nat.not_le.mpr hbl) hS hin hd (k H locs ls hP hS hl)
theorem lw_slen (E : hp_Env p R s m args meth c cs D own code nL ret1) (hX : va_X b L xs s s.heap) (hbl : b < s.heap.size) (hd : decode code pc = .ok (.arraylength, 1)) (k : gi_G p l e R s m args below meth c (mk_A s.heap.size) nL cells slots Q I (pc + 1) lv (.int (nI L) :: st)) : gi_G p l e R s m args below meth c (mk_A s.heap.size) nL cells slots Q I pc lv (.ref b :: st) :=
  fun H locs ls hP hS hl => va_slen E.1 E.2.1 hX hbl (Nat.not_le.mpr hbl) hS hd (k H locs ls hP hS hl)
theorem lw_arg (E : hp_Env p R s m args meth c cs D own code nL ret1) {j : Nat} {n : Int} (hX : va_X b L xs s s.heap) (hbl : b < s.heap.size) (hL : L ≤ 2560) (hj : i + j < L) (d1 : decode code pc = .ok (.aload_n 0, 1)) (d2 : decode code (pc + 1) = .ok (.iload_n 3, 1)) (d3 : decode code (pc + 1 + 1) = .ok (.iconst n, 1)) (d4 : decode code (pc + 1 + 1 + 1) = .ok (.iadd, 1)) (d5 : decode code (pc + 1 + 1 + 1 + 1) = .ok (.iaload, 1)) (hn : Int32.ofInt n = nI j) (k : gi_G p l e R s m args below meth c (mk_A s.heap.size) nL cells slots Q I (pc + 5) (lw_lv s b i) (.int (xs (i + j)) :: st)) : gi_G p l e R s m args below meth c (mk_A s.heap.size) nL cells slots Q I pc (lw_lv s b i) st := by
  refine gi_aload_n E 0 d1 rfl rfl ?_
  refine gi_iload_n E 3 d2 rfl rfl ?_
  refine gi_iconst E (nI j) d3 hn ?_
  refine gi_iadd E d4 ?_
  rw [nI_add]
  refine lw_sld E hX hbl (vp_in_nI hj (by omega)) d5 ?_
  rw [nI_clamp (by omega)]
  exact k
theorem lw_bool (E : hp_Env p R s m args meth c cs D own code nL ret1) {v : Int32} {o1 o2 : Int} {A : Nat → Prop} (d1 : decode code pc = .ok (.ifCond .eq o1, 3)) (d2 : decode code (pc + 3) = .ok (.iconst 1, 1)) (d3 : decode code (pc + 3 + 1) = .ok (.goto o2, 3)) (d4 : decode code (pc + 7) = .ok (.iconst 0, 1)) (h1 : (pc : Int) + o1 = ((pc + 7 : Nat) : Int)) (h2 : ((pc + 3 + 1 : Nat) : Int) + o2 = ((pc + 8 : Nat) : Int)) (k : gi_G p l e R s m args below meth c A nL cells slots Q I (pc + 8) lv (.int (lw_z v) :: st)) : gi_G p l e R s m args below meth c A nL cells slots Q I pc lv (.int v :: st) := by
  refine gi_if_eq E (pc + 7) d1 h1 (fun z => ?_) (fun z => ?_)
  · refine gi_iconst E 0 d4 (by decide) ?_
    rw [show lw_z v = 0 by unfold lw_z; rw [if_pos z]] at k
    exact k
  · refine gi_iconst E 1 d2 (by decide) ?_
    refine gi_goto E (pc + 8) d3 h2 ?_
    rw [show lw_z v = 1 by unfold lw_z; rw [if_neg z]] at k
    exact k
variable {y : MethodName} {c1 : ByteArray} {n1 n idx : Nat} {rm : Room} {As rest : List Value} {Qr : Int32 → hp_H → Prop}
theorem lw_keepM {H H1 : Heap} (hP : va_P D vwCl (hp_W SM cs (mk_ad (s.heap.size + 72)) hM) H) (hk : ∀ q : Nat, q < H.size → ¬ lw_AB s.heap.size q → H1[q]? = H[q]?) : va_P D vwCl (hp_W SM cs (mk_ad (s.heap.size + 72)) hM) H1 :=
  hP.kept (fun k q hq => hk q.1 ((hP k q hq).lt) (fun z => by
    obtain ⟨h1, h2⟩ := hp_W_of hq
    rw [h2] at z
    have := z.2
    unfold mk_ad at this
    omega))
theorem lw_keepB {H H1 : Heap} (hP : va_P D vwCl (hp_W SB cs (mk_ad s.heap.size) hB) H) (hk : ∀ q : Nat, q < H.size → ¬ mk_A (s.heap.size + 72) q → H1[q]? = H[q]?) : va_P D vwCl (hp_W SB cs (mk_ad s.heap.size) hB) H1 :=
  hP.kept (fun k q hq => hk q.1 ((hP k q hq).lt) (fun z => by
    obtain ⟨h1, h2⟩ := hp_W_of hq
    rw [h2] at z
    rw [lw_lB] at h1
    unfold mk_ad mk_A at z
    omega))
theorem lw_callB (E : hp_Env p room_1 s m #[.ref b] meth c cs D RL code 4 ret) (hC : hp_Mi l y c1 n1 (some .int) rm (.ref (mk_ad s.heap.size 0) :: As) SB cs (mk_ad s.heap.size) (lw_AB s.heap.size) D hB Qr) (F : hp_Fv RX11 y c1 n1 (some .int) n) (hm : Cond.methodLink RL idx y ∈ hp_tbl) (hrm : rm.cells = 0 ∧ rm.slots = 0) (hR : rm.frames + 1 ≤ 9 ∧ 8 + (n1 + 11) + rm.locals ≤ 352) (hn : As.length = n) (hst : st = As.reverse ++ .ref (mk_ad s.heap.size 0) :: rest) (hW : (rest.map fun v => v.category).sum ≤ 8) (hd : decode code pc = .ok (.invokevirtual idx, 3)) (k : ∀ (r : Int32) (hB : hp_H), Qr r hB → lw_G p l e s m b below meth c cs D hB hM (pc + 3) lv (.int r :: rest)) : lw_G p l e s m b below meth c cs D hB hM pc lv st :=
  fun H locs ls hP hS hl => va_calli (hp_runV E 0 (ci := 11) rfl vcl_11 hC F hm hrm hR (by decide) hn hst hW hd hP.1 hl) hS (fun _ _ q => q.1) (fun _ q => q.1) (fun r u t H1 locs1 ht _ hw hB1 _ hk hS1 => k r u hw H1 locs1 ls ⟨by rw [← ht]; exact hB1, lw_keepM hP.2 hk⟩ hS1 hl)
theorem lw_callM (E : hp_Env p room_1 s m #[.ref b] meth c cs D RL code 4 ret) (hC : hp_Mi l y c1 n1 (some .int) rm (.ref (mk_ad (s.heap.size + 72) 0) :: As) SM cs (mk_ad (s.heap.size + 72)) (mk_A (s.heap.size + 72)) D hM Qr) (F : hp_Fv RX12 y c1 n1 (some .int) n) (hm : Cond.methodLink RL idx y ∈ hp_tbl) (hrm : rm.cells = 0 ∧ rm.slots = 0) (hR : rm.frames + 1 ≤ 9 ∧ 8 + (n1 + 11) + rm.locals ≤ 352) (hn : As.length = n) (hst : st = As.reverse ++ .ref (mk_ad (s.heap.size + 72) 0) :: rest) (hW : (rest.map fun v => v.category).sum ≤ 8) (hd : decode code pc = .ok (.invokevirtual idx, 3)) (k : ∀ (r : Int32) (hM : hp_H), Qr r hM → lw_G p l e s m b below meth c cs D hB hM (pc + 3) lv (.int r :: rest)) : lw_G p l e s m b below meth c cs D hB hM pc lv st :=
  fun H locs ls hP hS hl => va_calli (hp_runV E 0 (ci := 12) rfl vcl_12 hC F hm hrm hR (by decide) hn hst hW hd hP.2 hl) hS (fun _ _ q => Nat.le_trans (Nat.le_add_right _ _) q) (fun _ q => Nat.le_trans (Nat.le_add_right _ _) q) (fun r u t H1 locs1 ht _ hw hB1 _ hk hS1 => k r u hw H1 locs1 ls ⟨lw_keepB hP.1 hk, by rw [← ht]; exact hB1⟩ hS1 hl)
end

