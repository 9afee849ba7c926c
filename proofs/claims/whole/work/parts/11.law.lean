/-! THE CLAIM OUT OF ONE WALK OF THE LAW'S BODY. Your part is whole_start (and what it stands on); all else here is the same for every law, but numbers. -/
def R_law : String := "LayerDrawingLaw"
def lw_P (b : Addr) (xs : List Int32) (args : Array Value) (s : State) : Prop := args = #[.ref b] ∧ s.IntsAt b xs ∧ xs.length ≤ 1536 ∧ (Jvm.Cond.and given_1 narrow_1).before args s = true
def lw_Q (_ : Array Value) (s : State) (o : Outcome) (t : State) : Prop := o = .returned (some (.int 1)) ∧ Framed s o t [] 600000 7302250
def lw_Z (below : List Frame) (a : Array Value) (s : State) : State → Prop := fun t => ∃ o, t.status = .running ∧ Ended t below o ∧ lw_Q a s o t
/-- the law's own end, with 1 on the stack, nothing written that was there before, its room as the claim has it -/
theorem lw_ret {p : Program} {l : Launch} {e : Env} {s : State} {m : MethodId} {below : List Frame} {meth : Method} {c : Code} {b : Nat} (hx : p.tables.exec = Jvm.exec) (hb : c.code = code) (hr : meth.sig.returnType = ret) (hlocks : meth.locks = false) {pc : Nat} {H : Heap} {ls : Array Slot} (hdg : decode code pc = .ok (.ireturn, 1)) : W p l e room_1 s m #[Value.ref b] below meth c H [] 600000 7302250 (lw_Z below #[Value.ref b] s) (F0 m pc ls [.int 1]) := by
  intro T hT X
  obtain ⟨fs, hret, hrun, hended, hW, hframe⟩ := X.leave (v := some (.int 1)) (hlocks := hlocks) (fun h => by rw [hr] at h; cases h)
  have hmeth' : T.vm.method? m = some meth := X.method'
  refine ⟨T.setFrames fs, ?_, .returned (some (.int 1)), hrun, hended, rfl, ⟨_, rfl⟩, hW, hframe⟩
  jvm_step X.here [X.here.top, hx, hb, hdg, hmeth', hr, ret, narrow_b1]
  (try refine ⟨rfl, ?_⟩); (try refine ⟨rfl, ?_⟩)
  first | (intro acts; rw [hret _ acts rfl rfl rfl]) | rw [hret _ _ rfl rfl rfl]
  exact Steps.refl _
/-- what holds at the law's entry: the machine, the code, the tables' words (any of lw_tbl by 'hts w (by decide +kernel)'), the script of L ints xs at the cell b, what the Statement gives of the start (any of its parts by flat_of_before) -/
def lw_At (p : Program) (s : State) (m : MethodId) (meth : Method) (c : Code) (b L : Nat) (xs : Nat → Int32) : Prop :=
  p.tables.exec = Jvm.exec ∧ c.code = code ∧ meth.sig.returnType = ret ∧ c.maxLocals = 4 ∧ s.vm.findClass R_law = some m.cls ∧ (∀ w ∈ lw_tbl, w.before #[Value.ref b] s = true) ∧ va_X b L xs s s.heap ∧ b < s.heap.size ∧ meth.locks = false ∧ (Jvm.Cond.and given_1 narrow_1).before #[Value.ref b] s = true
theorem dl_0 : decode code 0 = .ok (.new 7, 3) := by decide +kernel
theorem dl_3 : decode code 3 = .ok (.dup, 1) := by decide +kernel
theorem dl_4 : decode code 4 = .ok (.invokespecial 9, 3) := by decide +kernel
theorem dl_7 : decode code 7 = .ok (.astore_n 1, 1) := by decide +kernel
theorem dl_8 : decode code 8 = .ok (.new 10, 3) := by decide +kernel
theorem dl_11 : decode code 11 = .ok (.dup, 1) := by decide +kernel
theorem dl_12 : decode code 12 = .ok (.invokespecial 12, 3) := by decide +kernel
theorem dl_15 : decode code 15 = .ok (.astore_n 2, 1) := by decide +kernel
theorem dl_16 : decode code 16 = .ok (.iconst 0, 1) := by decide +kernel
theorem dl_17 : decode code 17 = .ok (.istore_n 3, 1) := by decide +kernel
theorem dl_18 : decode code 18 = .ok (.iload_n 3, 1) := by decide +kernel
theorem dl_19 : decode code 19 = .ok (.aload_n 0, 1) := by decide +kernel
theorem dl_20 : decode code 20 = .ok (.arraylength, 1) := by decide +kernel
theorem dl_21 : decode code 21 = .ok (.iconst 3, 1) := by decide +kernel
theorem dl_22 : decode code 22 = .ok (.isub, 1) := by decide +kernel
theorem dl_23 : decode code 23 = .ok (.if_icmp .gt 531, 3) := by decide +kernel
theorem dl_26 : decode code 26 = .ok (.aload_n 0, 1) := by decide +kernel
theorem dl_27 : decode code 27 = .ok (.iload_n 3, 1) := by decide +kernel
theorem dl_28 : decode code 28 = .ok (.iaload, 1) := by decide +kernel
theorem dl_29 : decode code 29 = .ok (.bipush 31, 2) := by decide +kernel
theorem dl_31 : decode code 31 = .ok (.iand, 1) := by decide +kernel
theorem dl_32 : decode code 32 = .ok (.tableswitch 516 0 19 #[96, 119, 152, 185, 208, 221, 234, 257, 280, 293, 306, 319, 342, 355, 378, 411, 424, 447, 480, 493], 96) := by decide +kernel
theorem dl_128 : decode code 128 = .ok (.aload_n 1, 1) := by decide +kernel
theorem dl_129 : decode code 129 = .ok (.aload_n 0, 1) := by decide +kernel
theorem dl_130 : decode code 130 = .ok (.iload_n 3, 1) := by decide +kernel
theorem dl_131 : decode code 131 = .ok (.iconst 1, 1) := by decide +kernel
theorem dl_132 : decode code 132 = .ok (.iadd, 1) := by decide +kernel
theorem dl_133 : decode code 133 = .ok (.iaload, 1) := by decide +kernel
theorem dl_134 : decode code 134 = .ok (.invokevirtual 13, 3) := by decide +kernel
theorem dl_137 : decode code 137 = .ok (.aload_n 2, 1) := by decide +kernel
theorem dl_138 : decode code 138 = .ok (.aload_n 0, 1) := by decide +kernel
theorem dl_139 : decode code 139 = .ok (.iload_n 3, 1) := by decide +kernel
theorem dl_140 : decode code 140 = .ok (.iconst 1, 1) := by decide +kernel
theorem dl_141 : decode code 141 = .ok (.iadd, 1) := by decide +kernel
theorem dl_142 : decode code 142 = .ok (.iaload, 1) := by decide +kernel
theorem dl_143 : decode code 143 = .ok (.invokevirtual 17, 3) := by decide +kernel
theorem dl_146 : decode code 146 = .ok (.if_icmp .eq 402, 3) := by decide +kernel
theorem dl_149 : decode code 149 = .ok (.iconst 0, 1) := by decide +kernel
theorem dl_150 : decode code 150 = .ok (.ireturn, 1) := by decide +kernel
theorem dl_151 : decode code 151 = .ok (.aload_n 1, 1) := by decide +kernel
theorem dl_152 : decode code 152 = .ok (.aload_n 0, 1) := by decide +kernel
theorem dl_153 : decode code 153 = .ok (.iload_n 3, 1) := by decide +kernel
theorem dl_154 : decode code 154 = .ok (.iconst 1, 1) := by decide +kernel
theorem dl_155 : decode code 155 = .ok (.iadd, 1) := by decide +kernel
theorem dl_156 : decode code 156 = .ok (.iaload, 1) := by decide +kernel
theorem dl_157 : decode code 157 = .ok (.aload_n 0, 1) := by decide +kernel
theorem dl_158 : decode code 158 = .ok (.iload_n 3, 1) := by decide +kernel
theorem dl_159 : decode code 159 = .ok (.iconst 2, 1) := by decide +kernel
theorem dl_160 : decode code 160 = .ok (.iadd, 1) := by decide +kernel
theorem dl_161 : decode code 161 = .ok (.iaload, 1) := by decide +kernel
theorem dl_162 : decode code 162 = .ok (.invokevirtual 18, 3) := by decide +kernel
theorem dl_165 : decode code 165 = .ok (.aload_n 2, 1) := by decide +kernel
theorem dl_166 : decode code 166 = .ok (.aload_n 0, 1) := by decide +kernel
theorem dl_167 : decode code 167 = .ok (.iload_n 3, 1) := by decide +kernel
theorem dl_168 : decode code 168 = .ok (.iconst 1, 1) := by decide +kernel
theorem dl_169 : decode code 169 = .ok (.iadd, 1) := by decide +kernel
theorem dl_170 : decode code 170 = .ok (.iaload, 1) := by decide +kernel
theorem dl_171 : decode code 171 = .ok (.aload_n 0, 1) := by decide +kernel
theorem dl_172 : decode code 172 = .ok (.iload_n 3, 1) := by decide +kernel
theorem dl_173 : decode code 173 = .ok (.iconst 2, 1) := by decide +kernel
theorem dl_174 : decode code 174 = .ok (.iadd, 1) := by decide +kernel
theorem dl_175 : decode code 175 = .ok (.iaload, 1) := by decide +kernel
theorem dl_176 : decode code 176 = .ok (.invokevirtual 22, 3) := by decide +kernel
theorem dl_179 : decode code 179 = .ok (.if_icmp .eq 369, 3) := by decide +kernel
theorem dl_182 : decode code 182 = .ok (.iconst 0, 1) := by decide +kernel
theorem dl_183 : decode code 183 = .ok (.ireturn, 1) := by decide +kernel
theorem dl_184 : decode code 184 = .ok (.aload_n 1, 1) := by decide +kernel
theorem dl_185 : decode code 185 = .ok (.aload_n 0, 1) := by decide +kernel
theorem dl_186 : decode code 186 = .ok (.iload_n 3, 1) := by decide +kernel
theorem dl_187 : decode code 187 = .ok (.iconst 1, 1) := by decide +kernel
theorem dl_188 : decode code 188 = .ok (.iadd, 1) := by decide +kernel
theorem dl_189 : decode code 189 = .ok (.iaload, 1) := by decide +kernel
theorem dl_190 : decode code 190 = .ok (.aload_n 0, 1) := by decide +kernel
theorem dl_191 : decode code 191 = .ok (.iload_n 3, 1) := by decide +kernel
theorem dl_192 : decode code 192 = .ok (.iconst 2, 1) := by decide +kernel
theorem dl_193 : decode code 193 = .ok (.iadd, 1) := by decide +kernel
theorem dl_194 : decode code 194 = .ok (.iaload, 1) := by decide +kernel
theorem dl_195 : decode code 195 = .ok (.invokevirtual 23, 3) := by decide +kernel
theorem dl_198 : decode code 198 = .ok (.aload_n 2, 1) := by decide +kernel
theorem dl_199 : decode code 199 = .ok (.aload_n 0, 1) := by decide +kernel
theorem dl_200 : decode code 200 = .ok (.iload_n 3, 1) := by decide +kernel
theorem dl_201 : decode code 201 = .ok (.iconst 1, 1) := by decide +kernel
theorem dl_202 : decode code 202 = .ok (.iadd, 1) := by decide +kernel
theorem dl_203 : decode code 203 = .ok (.iaload, 1) := by decide +kernel
theorem dl_204 : decode code 204 = .ok (.aload_n 0, 1) := by decide +kernel
theorem dl_205 : decode code 205 = .ok (.iload_n 3, 1) := by decide +kernel
theorem dl_206 : decode code 206 = .ok (.iconst 2, 1) := by decide +kernel
theorem dl_207 : decode code 207 = .ok (.iadd, 1) := by decide +kernel
theorem dl_208 : decode code 208 = .ok (.iaload, 1) := by decide +kernel
theorem dl_209 : decode code 209 = .ok (.invokevirtual 26, 3) := by decide +kernel
theorem dl_212 : decode code 212 = .ok (.if_icmp .eq 336, 3) := by decide +kernel
theorem dl_215 : decode code 215 = .ok (.iconst 0, 1) := by decide +kernel
theorem dl_216 : decode code 216 = .ok (.ireturn, 1) := by decide +kernel
theorem dl_217 : decode code 217 = .ok (.aload_n 1, 1) := by decide +kernel
theorem dl_218 : decode code 218 = .ok (.aload_n 0, 1) := by decide +kernel
theorem dl_219 : decode code 219 = .ok (.iload_n 3, 1) := by decide +kernel
theorem dl_220 : decode code 220 = .ok (.iconst 1, 1) := by decide +kernel
theorem dl_221 : decode code 221 = .ok (.iadd, 1) := by decide +kernel
theorem dl_222 : decode code 222 = .ok (.iaload, 1) := by decide +kernel
theorem dl_223 : decode code 223 = .ok (.invokevirtual 27, 3) := by decide +kernel
theorem dl_226 : decode code 226 = .ok (.aload_n 2, 1) := by decide +kernel
theorem dl_227 : decode code 227 = .ok (.aload_n 0, 1) := by decide +kernel
theorem dl_228 : decode code 228 = .ok (.iload_n 3, 1) := by decide +kernel
theorem dl_229 : decode code 229 = .ok (.iconst 1, 1) := by decide +kernel
theorem dl_230 : decode code 230 = .ok (.iadd, 1) := by decide +kernel
theorem dl_231 : decode code 231 = .ok (.iaload, 1) := by decide +kernel
theorem dl_232 : decode code 232 = .ok (.invokevirtual 30, 3) := by decide +kernel
theorem dl_235 : decode code 235 = .ok (.if_icmp .eq 313, 3) := by decide +kernel
theorem dl_238 : decode code 238 = .ok (.iconst 0, 1) := by decide +kernel
theorem dl_239 : decode code 239 = .ok (.ireturn, 1) := by decide +kernel
theorem dl_240 : decode code 240 = .ok (.aload_n 1, 1) := by decide +kernel
theorem dl_241 : decode code 241 = .ok (.invokevirtual 31, 3) := by decide +kernel
theorem dl_244 : decode code 244 = .ok (.aload_n 2, 1) := by decide +kernel
theorem dl_245 : decode code 245 = .ok (.invokevirtual 35, 3) := by decide +kernel
theorem dl_248 : decode code 248 = .ok (.if_icmp .eq 300, 3) := by decide +kernel
theorem dl_251 : decode code 251 = .ok (.iconst 0, 1) := by decide +kernel
theorem dl_252 : decode code 252 = .ok (.ireturn, 1) := by decide +kernel
theorem dl_253 : decode code 253 = .ok (.aload_n 1, 1) := by decide +kernel
theorem dl_254 : decode code 254 = .ok (.invokevirtual 36, 3) := by decide +kernel
theorem dl_257 : decode code 257 = .ok (.aload_n 2, 1) := by decide +kernel
theorem dl_258 : decode code 258 = .ok (.invokevirtual 39, 3) := by decide +kernel
theorem dl_261 : decode code 261 = .ok (.if_icmp .eq 287, 3) := by decide +kernel
theorem dl_264 : decode code 264 = .ok (.iconst 0, 1) := by decide +kernel
theorem dl_265 : decode code 265 = .ok (.ireturn, 1) := by decide +kernel
theorem dl_266 : decode code 266 = .ok (.aload_n 1, 1) := by decide +kernel
theorem dl_267 : decode code 267 = .ok (.aload_n 0, 1) := by decide +kernel
theorem dl_268 : decode code 268 = .ok (.iload_n 3, 1) := by decide +kernel
theorem dl_269 : decode code 269 = .ok (.iconst 1, 1) := by decide +kernel
theorem dl_270 : decode code 270 = .ok (.iadd, 1) := by decide +kernel
theorem dl_271 : decode code 271 = .ok (.iaload, 1) := by decide +kernel
theorem dl_272 : decode code 272 = .ok (.invokevirtual 40, 3) := by decide +kernel
theorem dl_275 : decode code 275 = .ok (.aload_n 2, 1) := by decide +kernel
theorem dl_276 : decode code 276 = .ok (.aload_n 0, 1) := by decide +kernel
theorem dl_277 : decode code 277 = .ok (.iload_n 3, 1) := by decide +kernel
theorem dl_278 : decode code 278 = .ok (.iconst 1, 1) := by decide +kernel
theorem dl_279 : decode code 279 = .ok (.iadd, 1) := by decide +kernel
theorem dl_280 : decode code 280 = .ok (.iaload, 1) := by decide +kernel
theorem dl_281 : decode code 281 = .ok (.invokevirtual 43, 3) := by decide +kernel
theorem dl_284 : decode code 284 = .ok (.if_icmp .eq 264, 3) := by decide +kernel
theorem dl_287 : decode code 287 = .ok (.iconst 0, 1) := by decide +kernel
theorem dl_288 : decode code 288 = .ok (.ireturn, 1) := by decide +kernel
theorem dl_289 : decode code 289 = .ok (.aload_n 1, 1) := by decide +kernel
theorem dl_290 : decode code 290 = .ok (.aload_n 0, 1) := by decide +kernel
theorem dl_291 : decode code 291 = .ok (.iload_n 3, 1) := by decide +kernel
theorem dl_292 : decode code 292 = .ok (.iconst 1, 1) := by decide +kernel
theorem dl_293 : decode code 293 = .ok (.iadd, 1) := by decide +kernel
theorem dl_294 : decode code 294 = .ok (.iaload, 1) := by decide +kernel
theorem dl_295 : decode code 295 = .ok (.invokevirtual 44, 3) := by decide +kernel
theorem dl_298 : decode code 298 = .ok (.aload_n 2, 1) := by decide +kernel
theorem dl_299 : decode code 299 = .ok (.aload_n 0, 1) := by decide +kernel
theorem dl_300 : decode code 300 = .ok (.iload_n 3, 1) := by decide +kernel
theorem dl_301 : decode code 301 = .ok (.iconst 1, 1) := by decide +kernel
theorem dl_302 : decode code 302 = .ok (.iadd, 1) := by decide +kernel
theorem dl_303 : decode code 303 = .ok (.iaload, 1) := by decide +kernel
theorem dl_304 : decode code 304 = .ok (.invokevirtual 47, 3) := by decide +kernel
theorem dl_307 : decode code 307 = .ok (.if_icmp .eq 241, 3) := by decide +kernel
theorem dl_310 : decode code 310 = .ok (.iconst 0, 1) := by decide +kernel
theorem dl_311 : decode code 311 = .ok (.ireturn, 1) := by decide +kernel
theorem dl_312 : decode code 312 = .ok (.aload_n 1, 1) := by decide +kernel
theorem dl_313 : decode code 313 = .ok (.invokevirtual 48, 3) := by decide +kernel
theorem dl_316 : decode code 316 = .ok (.aload_n 2, 1) := by decide +kernel
theorem dl_317 : decode code 317 = .ok (.invokevirtual 51, 3) := by decide +kernel
theorem dl_320 : decode code 320 = .ok (.if_icmp .eq 228, 3) := by decide +kernel
theorem dl_323 : decode code 323 = .ok (.iconst 0, 1) := by decide +kernel
theorem dl_324 : decode code 324 = .ok (.ireturn, 1) := by decide +kernel
theorem dl_325 : decode code 325 = .ok (.aload_n 1, 1) := by decide +kernel
theorem dl_326 : decode code 326 = .ok (.invokevirtual 52, 3) := by decide +kernel
theorem dl_329 : decode code 329 = .ok (.aload_n 2, 1) := by decide +kernel
theorem dl_330 : decode code 330 = .ok (.invokevirtual 55, 3) := by decide +kernel
theorem dl_333 : decode code 333 = .ok (.if_icmp .eq 215, 3) := by decide +kernel
theorem dl_336 : decode code 336 = .ok (.iconst 0, 1) := by decide +kernel
theorem dl_337 : decode code 337 = .ok (.ireturn, 1) := by decide +kernel
theorem dl_338 : decode code 338 = .ok (.aload_n 1, 1) := by decide +kernel
theorem dl_339 : decode code 339 = .ok (.invokevirtual 56, 3) := by decide +kernel
theorem dl_342 : decode code 342 = .ok (.aload_n 2, 1) := by decide +kernel
theorem dl_343 : decode code 343 = .ok (.invokevirtual 59, 3) := by decide +kernel
theorem dl_346 : decode code 346 = .ok (.if_icmp .eq 202, 3) := by decide +kernel
theorem dl_349 : decode code 349 = .ok (.iconst 0, 1) := by decide +kernel
theorem dl_350 : decode code 350 = .ok (.ireturn, 1) := by decide +kernel
theorem dl_351 : decode code 351 = .ok (.aload_n 1, 1) := by decide +kernel
theorem dl_352 : decode code 352 = .ok (.aload_n 0, 1) := by decide +kernel
theorem dl_353 : decode code 353 = .ok (.iload_n 3, 1) := by decide +kernel
theorem dl_354 : decode code 354 = .ok (.iconst 1, 1) := by decide +kernel
theorem dl_355 : decode code 355 = .ok (.iadd, 1) := by decide +kernel
theorem dl_356 : decode code 356 = .ok (.iaload, 1) := by decide +kernel
theorem dl_357 : decode code 357 = .ok (.invokevirtual 60, 3) := by decide +kernel
theorem dl_360 : decode code 360 = .ok (.aload_n 2, 1) := by decide +kernel
theorem dl_361 : decode code 361 = .ok (.aload_n 0, 1) := by decide +kernel
theorem dl_362 : decode code 362 = .ok (.iload_n 3, 1) := by decide +kernel
theorem dl_363 : decode code 363 = .ok (.iconst 1, 1) := by decide +kernel
theorem dl_364 : decode code 364 = .ok (.iadd, 1) := by decide +kernel
theorem dl_365 : decode code 365 = .ok (.iaload, 1) := by decide +kernel
theorem dl_366 : decode code 366 = .ok (.invokevirtual 63, 3) := by decide +kernel
theorem dl_369 : decode code 369 = .ok (.if_icmp .eq 179, 3) := by decide +kernel
theorem dl_372 : decode code 372 = .ok (.iconst 0, 1) := by decide +kernel
theorem dl_373 : decode code 373 = .ok (.ireturn, 1) := by decide +kernel
theorem dl_374 : decode code 374 = .ok (.aload_n 1, 1) := by decide +kernel
theorem dl_375 : decode code 375 = .ok (.invokevirtual 64, 3) := by decide +kernel
theorem dl_378 : decode code 378 = .ok (.aload_n 2, 1) := by decide +kernel
theorem dl_379 : decode code 379 = .ok (.invokevirtual 67, 3) := by decide +kernel
theorem dl_382 : decode code 382 = .ok (.if_icmp .eq 166, 3) := by decide +kernel
theorem dl_385 : decode code 385 = .ok (.iconst 0, 1) := by decide +kernel
theorem dl_386 : decode code 386 = .ok (.ireturn, 1) := by decide +kernel
theorem dl_387 : decode code 387 = .ok (.aload_n 1, 1) := by decide +kernel
theorem dl_388 : decode code 388 = .ok (.aload_n 0, 1) := by decide +kernel
theorem dl_389 : decode code 389 = .ok (.iload_n 3, 1) := by decide +kernel
theorem dl_390 : decode code 390 = .ok (.iconst 1, 1) := by decide +kernel
theorem dl_391 : decode code 391 = .ok (.iadd, 1) := by decide +kernel
theorem dl_392 : decode code 392 = .ok (.iaload, 1) := by decide +kernel
theorem dl_393 : decode code 393 = .ok (.invokevirtual 68, 3) := by decide +kernel
theorem dl_396 : decode code 396 = .ok (.aload_n 2, 1) := by decide +kernel
theorem dl_397 : decode code 397 = .ok (.aload_n 0, 1) := by decide +kernel
theorem dl_398 : decode code 398 = .ok (.iload_n 3, 1) := by decide +kernel
theorem dl_399 : decode code 399 = .ok (.iconst 1, 1) := by decide +kernel
theorem dl_400 : decode code 400 = .ok (.iadd, 1) := by decide +kernel
theorem dl_401 : decode code 401 = .ok (.iaload, 1) := by decide +kernel
theorem dl_402 : decode code 402 = .ok (.invokevirtual 71, 3) := by decide +kernel
theorem dl_405 : decode code 405 = .ok (.if_icmp .eq 143, 3) := by decide +kernel
theorem dl_408 : decode code 408 = .ok (.iconst 0, 1) := by decide +kernel
theorem dl_409 : decode code 409 = .ok (.ireturn, 1) := by decide +kernel
theorem dl_410 : decode code 410 = .ok (.aload_n 1, 1) := by decide +kernel
theorem dl_411 : decode code 411 = .ok (.aload_n 0, 1) := by decide +kernel
theorem dl_412 : decode code 412 = .ok (.iload_n 3, 1) := by decide +kernel
theorem dl_413 : decode code 413 = .ok (.iconst 1, 1) := by decide +kernel
theorem dl_414 : decode code 414 = .ok (.iadd, 1) := by decide +kernel
theorem dl_415 : decode code 415 = .ok (.iaload, 1) := by decide +kernel
theorem dl_416 : decode code 416 = .ok (.aload_n 0, 1) := by decide +kernel
theorem dl_417 : decode code 417 = .ok (.iload_n 3, 1) := by decide +kernel
theorem dl_418 : decode code 418 = .ok (.iconst 2, 1) := by decide +kernel
theorem dl_419 : decode code 419 = .ok (.iadd, 1) := by decide +kernel
theorem dl_420 : decode code 420 = .ok (.iaload, 1) := by decide +kernel
theorem dl_421 : decode code 421 = .ok (.invokevirtual 72, 3) := by decide +kernel
theorem dl_424 : decode code 424 = .ok (.aload_n 2, 1) := by decide +kernel
theorem dl_425 : decode code 425 = .ok (.aload_n 0, 1) := by decide +kernel
theorem dl_426 : decode code 426 = .ok (.iload_n 3, 1) := by decide +kernel
theorem dl_427 : decode code 427 = .ok (.iconst 1, 1) := by decide +kernel
theorem dl_428 : decode code 428 = .ok (.iadd, 1) := by decide +kernel
theorem dl_429 : decode code 429 = .ok (.iaload, 1) := by decide +kernel
theorem dl_430 : decode code 430 = .ok (.aload_n 0, 1) := by decide +kernel
theorem dl_431 : decode code 431 = .ok (.iload_n 3, 1) := by decide +kernel
theorem dl_432 : decode code 432 = .ok (.iconst 2, 1) := by decide +kernel
theorem dl_433 : decode code 433 = .ok (.iadd, 1) := by decide +kernel
theorem dl_434 : decode code 434 = .ok (.iaload, 1) := by decide +kernel
theorem dl_435 : decode code 435 = .ok (.invokevirtual 75, 3) := by decide +kernel
theorem dl_438 : decode code 438 = .ok (.if_icmp .eq 110, 3) := by decide +kernel
theorem dl_441 : decode code 441 = .ok (.iconst 0, 1) := by decide +kernel
theorem dl_442 : decode code 442 = .ok (.ireturn, 1) := by decide +kernel
theorem dl_443 : decode code 443 = .ok (.aload_n 1, 1) := by decide +kernel
theorem dl_444 : decode code 444 = .ok (.invokevirtual 76, 3) := by decide +kernel
theorem dl_447 : decode code 447 = .ok (.aload_n 2, 1) := by decide +kernel
theorem dl_448 : decode code 448 = .ok (.invokevirtual 79, 3) := by decide +kernel
theorem dl_451 : decode code 451 = .ok (.if_icmp .eq 97, 3) := by decide +kernel
theorem dl_454 : decode code 454 = .ok (.iconst 0, 1) := by decide +kernel
theorem dl_455 : decode code 455 = .ok (.ireturn, 1) := by decide +kernel
theorem dl_456 : decode code 456 = .ok (.aload_n 1, 1) := by decide +kernel
theorem dl_457 : decode code 457 = .ok (.aload_n 0, 1) := by decide +kernel
theorem dl_458 : decode code 458 = .ok (.iload_n 3, 1) := by decide +kernel
theorem dl_459 : decode code 459 = .ok (.iconst 1, 1) := by decide +kernel
theorem dl_460 : decode code 460 = .ok (.iadd, 1) := by decide +kernel
theorem dl_461 : decode code 461 = .ok (.iaload, 1) := by decide +kernel
theorem dl_462 : decode code 462 = .ok (.invokevirtual 80, 3) := by decide +kernel
theorem dl_465 : decode code 465 = .ok (.aload_n 2, 1) := by decide +kernel
theorem dl_466 : decode code 466 = .ok (.aload_n 0, 1) := by decide +kernel
theorem dl_467 : decode code 467 = .ok (.iload_n 3, 1) := by decide +kernel
theorem dl_468 : decode code 468 = .ok (.iconst 1, 1) := by decide +kernel
theorem dl_469 : decode code 469 = .ok (.iadd, 1) := by decide +kernel
theorem dl_470 : decode code 470 = .ok (.iaload, 1) := by decide +kernel
theorem dl_471 : decode code 471 = .ok (.invokevirtual 83, 3) := by decide +kernel
theorem dl_474 : decode code 474 = .ok (.if_icmp .eq 74, 3) := by decide +kernel
theorem dl_477 : decode code 477 = .ok (.iconst 0, 1) := by decide +kernel
theorem dl_478 : decode code 478 = .ok (.ireturn, 1) := by decide +kernel
theorem dl_479 : decode code 479 = .ok (.aload_n 1, 1) := by decide +kernel
theorem dl_480 : decode code 480 = .ok (.aload_n 0, 1) := by decide +kernel
theorem dl_481 : decode code 481 = .ok (.iload_n 3, 1) := by decide +kernel
theorem dl_482 : decode code 482 = .ok (.iconst 1, 1) := by decide +kernel
theorem dl_483 : decode code 483 = .ok (.iadd, 1) := by decide +kernel
theorem dl_484 : decode code 484 = .ok (.iaload, 1) := by decide +kernel
theorem dl_485 : decode code 485 = .ok (.aload_n 0, 1) := by decide +kernel
theorem dl_486 : decode code 486 = .ok (.iload_n 3, 1) := by decide +kernel
theorem dl_487 : decode code 487 = .ok (.iconst 2, 1) := by decide +kernel
theorem dl_488 : decode code 488 = .ok (.iadd, 1) := by decide +kernel
theorem dl_489 : decode code 489 = .ok (.iaload, 1) := by decide +kernel
theorem dl_490 : decode code 490 = .ok (.invokevirtual 84, 3) := by decide +kernel
theorem dl_493 : decode code 493 = .ok (.aload_n 2, 1) := by decide +kernel
theorem dl_494 : decode code 494 = .ok (.aload_n 0, 1) := by decide +kernel
theorem dl_495 : decode code 495 = .ok (.iload_n 3, 1) := by decide +kernel
theorem dl_496 : decode code 496 = .ok (.iconst 1, 1) := by decide +kernel
theorem dl_497 : decode code 497 = .ok (.iadd, 1) := by decide +kernel
theorem dl_498 : decode code 498 = .ok (.iaload, 1) := by decide +kernel
theorem dl_499 : decode code 499 = .ok (.aload_n 0, 1) := by decide +kernel
theorem dl_500 : decode code 500 = .ok (.iload_n 3, 1) := by decide +kernel
theorem dl_501 : decode code 501 = .ok (.iconst 2, 1) := by decide +kernel
theorem dl_502 : decode code 502 = .ok (.iadd, 1) := by decide +kernel
theorem dl_503 : decode code 503 = .ok (.iaload, 1) := by decide +kernel
theorem dl_504 : decode code 504 = .ok (.invokevirtual 87, 3) := by decide +kernel
theorem dl_507 : decode code 507 = .ok (.if_icmp .eq 41, 3) := by decide +kernel
theorem dl_510 : decode code 510 = .ok (.iconst 0, 1) := by decide +kernel
theorem dl_511 : decode code 511 = .ok (.ireturn, 1) := by decide +kernel
theorem dl_512 : decode code 512 = .ok (.aload_n 1, 1) := by decide +kernel
theorem dl_513 : decode code 513 = .ok (.invokevirtual 88, 3) := by decide +kernel
theorem dl_516 : decode code 516 = .ok (.aload_n 2, 1) := by decide +kernel
theorem dl_517 : decode code 517 = .ok (.invokevirtual 91, 3) := by decide +kernel
theorem dl_520 : decode code 520 = .ok (.if_icmp .eq 28, 3) := by decide +kernel
theorem dl_523 : decode code 523 = .ok (.iconst 0, 1) := by decide +kernel
theorem dl_524 : decode code 524 = .ok (.ireturn, 1) := by decide +kernel
theorem dl_525 : decode code 525 = .ok (.aload_n 1, 1) := by decide +kernel
theorem dl_526 : decode code 526 = .ok (.aload_n 0, 1) := by decide +kernel
theorem dl_527 : decode code 527 = .ok (.iload_n 3, 1) := by decide +kernel
theorem dl_528 : decode code 528 = .ok (.iconst 1, 1) := by decide +kernel
theorem dl_529 : decode code 529 = .ok (.iadd, 1) := by decide +kernel
theorem dl_530 : decode code 530 = .ok (.iaload, 1) := by decide +kernel
theorem dl_531 : decode code 531 = .ok (.invokevirtual 92, 3) := by decide +kernel
theorem dl_534 : decode code 534 = .ok (.aload_n 2, 1) := by decide +kernel
theorem dl_535 : decode code 535 = .ok (.aload_n 0, 1) := by decide +kernel
theorem dl_536 : decode code 536 = .ok (.iload_n 3, 1) := by decide +kernel
theorem dl_537 : decode code 537 = .ok (.iconst 1, 1) := by decide +kernel
theorem dl_538 : decode code 538 = .ok (.iadd, 1) := by decide +kernel
theorem dl_539 : decode code 539 = .ok (.iaload, 1) := by decide +kernel
theorem dl_540 : decode code 540 = .ok (.invokevirtual 95, 3) := by decide +kernel
theorem dl_543 : decode code 543 = .ok (.if_icmp .eq 5, 3) := by decide +kernel
theorem dl_546 : decode code 546 = .ok (.iconst 0, 1) := by decide +kernel
theorem dl_547 : decode code 547 = .ok (.ireturn, 1) := by decide +kernel
theorem dl_548 : decode code 548 = .ok (.iinc 3 3, 3) := by decide +kernel
theorem dl_551 : decode code 551 = .ok (.goto (-533), 3) := by decide +kernel
theorem dl_554 : decode code 554 = .ok (.iconst 1, 1) := by decide +kernel
theorem dl_555 : decode code 555 = .ok (.ireturn, 1) := by decide +kernel
def mj_gr (h : mj_H) (kd : Nat × Nat) : mj_H := (h.1 + 1, va_up h.2.1 h.1 kd, va_up h.2.2.1 h.1 (fun _ => 0), va_up h.2.2.2 h.1 (fun _ => none))
def lw_h0 : mj_H := (0, fun _ => (0, 0), fun _ _ => 0, fun _ _ => none)
/-- a call of the drawing and the same call of the model: the same answer, and the invariant again -/
def lw_op (Inv : mj_H → Prop) (y z : Nat) (w : List mj_V) : Prop := ∀ h, Inv h → (0 < h.1 ∧ h.2.1 0 = (0, 8)) ∧ mj_lv 6 y (.inr (.inl (some 0)) :: w) h (fun r h1 => ∃ x, r = some (.inl x) ∧ (93 < h1.1 ∧ h1.2.1 93 = (0, 9)) ∧ mj_lv 6 z (.inr (.inl (some 93)) :: w) h1 (fun r2 h2 => r2 = some (.inl x) ∧ Inv h2))
def lw_ini (Inv : mj_H → Prop) : Prop := mj_lv 6 m_Main_init [.inr (.inl (some 0))] (mj_gr lw_h0 (0, 8)) (fun r h1 => r = none ∧ h1.1 = 93 ∧ mj_lv 6 m_Mod_init [.inr (.inl (some 93))] (mj_gr h1 (0, 9)) (fun r2 h2 => r2 = none ∧ Inv h2))
def lw_all (Inv : mj_H → Prop) : Prop := lw_ini Inv ∧ (∀ x0, lw_op Inv m_Main_node m_Mod_node [.inl x0]) ∧ (∀ x0 x1, lw_op Inv m_Main_width m_Mod_width [.inl x0, .inl x1]) ∧ (∀ x0 x1, lw_op Inv m_Main_arc m_Mod_arc [.inl x0, .inl x1]) ∧ (∀ x0, lw_op Inv m_Main_drop m_Mod_drop [.inl x0]) ∧ (∀ (_ : Unit), lw_op Inv m_Main_clear m_Mod_clear []) ∧ (∀ (_ : Unit), lw_op Inv m_Main_turns m_Mod_turns []) ∧ (∀ x0, lw_op Inv m_Main_turned m_Mod_turned [.inl x0]) ∧ (∀ x0, lw_op Inv m_Main_layer m_Mod_layer [.inl x0]) ∧ (∀ (_ : Unit), lw_op Inv m_Main_layers m_Mod_layers []) ∧ (∀ (_ : Unit), lw_op Inv m_Main_length m_Mod_length []) ∧ (∀ (_ : Unit), lw_op Inv m_Main_bends m_Mod_bends []) ∧ (∀ x0, lw_op Inv m_Main_run m_Mod_run [.inl x0]) ∧ (∀ (_ : Unit), lw_op Inv m_Main_round m_Mod_round []) ∧ (∀ x0, lw_op Inv m_Main_count m_Mod_count [.inl x0]) ∧ (∀ x0 x1, lw_op Inv m_Main_item m_Mod_item [.inl x0, .inl x1]) ∧ (∀ (_ : Unit), lw_op Inv m_Main_fewest m_Mod_fewest []) ∧ (∀ x0, lw_op Inv m_Main_place m_Mod_place [.inl x0]) ∧ (∀ x0 x1, lw_op Inv m_Main_route m_Mod_route [.inl x0, .inl x1]) ∧ (∀ (_ : Unit), lw_op Inv m_Main_wide m_Mod_wide []) ∧ (∀ x0, lw_op Inv m_Main_tidy m_Mod_tidy [.inl x0])
section lw_rows
variable {p : Program} {l : Launch} {e : Env} {s : State} {m : MethodId} {below : List Frame} {meth : Method} {c : Code} {Q : State → Prop} {D : va_G} {cA : Nat → ClassId} {b L : Nat} {xs : Nat → Int32} {h : mj_H} {H : Heap} {locs : List Loc} {uc us pc : Nat} {ls : Array Slot} {rest : List Value}
def lw_Cx (D : va_G) (cA : Nat → ClassId) (p : Program) (s : State) (m : MethodId) (meth : Method) (c : Code) (b L : Nat) (xs : Nat → Int32) : Prop := lw_At p s m meth c b L xs ∧ va_K D pg_cl (mj_ty cA) s ∧ mj_Ex s
theorem lw_len (C : lw_Cx D cA p s m meth c b L xs) (hS : mj_S D cA s.heap.size s.heap h H locs) (hdg : decode code pc = .ok (.arraylength, 1)) (kk : W p l e room_1 s m #[Value.ref b] below meth c H locs uc us Q (F0 m (pc + 1) ls (.int (Int32.ofNat L) :: rest))) : W p l e room_1 s m #[Value.ref b] below meth c H locs uc us Q (F0 m pc ls (.ref b :: rest)) := by
  obtain ⟨⟨hx, hb, -, -, -, -, hX, hbl, -⟩, -⟩ := C
  obtain ⟨scr, h1, h2, h3, h4, h5⟩ := hX
  exact W.alen (n := Int32.ofNat L) hx hb (by rw [hS.2.1 b hbl]; exact h1) h2 (by rw [h4] <;> rfl) rfl rfl hdg kk
theorem lw_ld (C : lw_Cx D cA p s m meth c b L xs) (hS : mj_S D cA s.heap.size s.heap h H locs) {i : Int32} {j : Nat} (hi : i = nI j) (hj : j < L) (hL : L ≤ 1536) (hdg : decode code pc = .ok (.iaload, 1)) (kk : W p l e room_1 s m #[Value.ref b] below meth c H locs uc us Q (F0 m (pc + 1) ls (.int (xs j) :: rest))) : W p l e room_1 s m #[Value.ref b] below meth c H locs uc us Q (F0 m pc ls (.int i :: .ref b :: rest)) := by
  obtain ⟨⟨hx, hb, -, -, -, -, hX, hbl, -⟩, -⟩ := C
  obtain ⟨scr, h1, h2, h3, h4, h5⟩ := hX
  subst hi
  have hc : (nI j).toNatClampNeg = j := nI_clamp (by omega)
  exact W.iald (v := .int (xs j)) hx hb (by rw [hS.2.1 b hbl]; exact h1) h2 h3 (by rw [h4]; exact nI_in hj (by omega)) (by rw [hc]; exact h5 _ hj) rfl rfl hdg kk
theorem lw_cx (C : lw_Cx D cA p s m meth c b L xs) : mj_Cx D cA s.heap.size p room_1 s m #[Value.ref b] meth c code 10 1 4 600000 7302250 6 := by
  obtain ⟨⟨hx, hb, hr, hml, hown, hts, hX, hbl, hlocks, hgv⟩, hK, hE⟩ := C
  exact ⟨hx, hb, hml, hown, fun w h => hts w (List.mem_filter.mp h).1, hK, Nat.le_refl _, ⟨by decide, by decide, by decide, by decide⟩, hE, fun q => by cases q⟩
theorem lw_callV (C : lw_Cx D cA p s m meth c b L xs) (hS : mj_S D cA s.heap.size s.heap h H locs) (hl : ls.size = 4) {i z a : Nat} (w : List mj_V) {post : Option mj_V → mj_H → Prop} (hd : decode code pc = .ok (.invokevirtual i, 3)) (e1 : pg_mth 10 i = some z) (e2 : pg_kd z = 1) (e3 : w.length + 1 = pg_na z ∧ mj_ct w + 1 = pg_na z) (e4 : (rest.map fun v => v.category).sum ≤ 8) (e5 : pg_mc z = 0 ∧ pg_ms z = 0) (ha2 : a < h.1 ∧ h.2.1 a = (0, pg_own z)) (hu : uc ≤ 600000 ∧ us ≤ 7302250)
    (hcall : mj_lv 6 z (.inr (.inl (some a)) :: w) h post) (kk : ∀ (r : Option mj_V) (h2 : mj_H) (H1 : Heap) (locs1 : List Loc), post r h2 → mj_S D cA s.heap.size s.heap h2 H1 locs1 → W p l e room_1 s m #[Value.ref b] below meth c H1 locs1 uc us Q (F0 m (pc + 3) ls ((r.map (mj_v s.heap.size)).toList ++ rest))) : W p l e room_1 s m #[Value.ref b] below meth c H locs uc us Q (F0 m pc ls ((w.map (mj_v s.heap.size)).reverse ++ .ref (s.heap.size + a) :: rest)) := by
  have C2 := lw_cx C
  obtain ⟨hx, hb, hml, hown, hts, hK, hB, ⟨g1, g2, hmc, hms⟩, hE, -⟩ := C2
  have f0 := pg_use (pg_kM 10) e1
  simp only [Bool.and_eq_true, decide_eq_true_eq] at f0
  have hz : z < 142 := f0.1
  have f1 := f0.2
  rw [if_neg (by rw [e2]; decide)] at f1
  have hw : Cond.methodLink (pg_cn 10) i (pg_name z) ∈ lw_tbl := pg_is_mem f1
  have hM := mj_met l D cA s.heap.size 6 z (.inr (.inl (some a)) :: w) h post hz e3.1 (by show 1 + mj_ct w = _; omega) hcall
  have cb := mj_callB (d := 6) (R := room_1) (own := pg_cn 10) (index := i) hts hz ⟨g1, g2⟩ (hts _ (pg_tb_of hw rfl))
  rw [if_neg (by rw [e2]; decide)] at cb
  have hci : pg_own z < 10 := by
    rcases Nat.lt_or_ge (pg_own z) 10 with q | q
    · exact q
    · exfalso
      obtain ⟨r, hr, -⟩ := hS.obj ha2
      rw [List.getElem?_eq_none (by show 10 ≤ pg_own z; exact q)] at hr
      cases hr
  have hcn : pg_C (pg_own z) = pg_cn (pg_own z) := by
    have : ∀ z, z < 10 → pg_C z = pg_cn z := by decide +kernel
    exact this _ hci
  have hrec := va_recv hK (mj_one (hS.obj ha2)) (mj_clok _ hci).1 (q0 := 0) rfl
  rw [show (pg_C (pg_own z), pg_T (pg_own z), pg_nf (pg_own z)).1 = pg_cn (pg_own z) from hcn] at hrec
  have hk : pg_kd z ≠ 0 := by rw [e2]; decide
  have hk2 : pg_kd z ≠ 2 := by rw [e2]; decide
  refine mj_goW (va_runV (C := pg_cn (pg_own z)) (b := s.heap.size + a) (As := w.map (mj_v s.heap.size)) (rest := rest) (nL := 4) ⟨hx, hb, hml, hown, hts⟩ hM ⟨cb, hts _ ((mj_zok hz).2.2.2.1 hk), hts _ ((mj_zok hz).2.2.2.2 hk hk2)⟩ ⟨mj_blind, hrec, fun U hU hW => ⟨rfl, by rw [hU]; exact hS.1, va_K.moved hW.alike hK, hE.warm hW⟩⟩ rfl (by rw [List.length_map]; omega) hl rfl (lv_room e4) hd ⟨?_, ?_⟩) hS (fun r h2 H1 locs1 hp hS1 => ?_)
  · rw [e5.1]
    exact hu.1
  · rw [e5.2]
    exact hu.2
  · rw [e5.1, e5.2]
    exact kk r h2 H1 locs1 hp hS1
theorem lw_callI (C : lw_Cx D cA p s m meth c b L xs) (hS : mj_S D cA s.heap.size s.heap h H locs) (hl : ls.size = 4) {i z a : Nat} {post : Option mj_V → mj_H → Prop} (hd : decode code pc = .ok (.invokespecial i, 3)) (hz : z < 142) (hw : Cond.methodLink (pg_cn 10) i (pg_name z) ∈ lw_tbl) (e2 : pg_kd z = 2) (e4 : (rest.map fun v => v.category).sum ≤ 8) (hu : uc + pg_mc z ≤ 600000 ∧ us + pg_ms z ≤ 7302250)
    (hcall : mj_lv 6 z [.inr (.inl (some a))] h post) (kk : ∀ (r : Option mj_V) (h2 : mj_H) (H1 : Heap) (locs1 : List Loc), post r h2 → mj_S D cA s.heap.size s.heap h2 H1 locs1 → W p l e room_1 s m #[Value.ref b] below meth c H1 locs1 (uc + pg_mc z) (us + pg_ms z) Q (F0 m (pc + 3) ls ((r.map (mj_v s.heap.size)).toList ++ rest))) : W p l e room_1 s m #[Value.ref b] below meth c H locs uc us Q (F0 m pc ls (.ref (s.heap.size + a) :: rest)) := by
  have C2 := lw_cx C
  obtain ⟨hx, hb, hml, hown, hts, hK, hB, ⟨g1, g2, hmc, hms⟩, hE, -⟩ := C2
  have hp := (mj_pok hz).2.1 e2
  have hM := mj_met l D cA s.heap.size 6 z [.inr (.inl (some a))] h post hz hp.2.2.symm hp.2.2.symm hcall
  have cb := mj_callB (d := 6) (R := room_1) (own := pg_cn 10) (index := i) hts hz ⟨g1, g2⟩ (hts _ (pg_tb_of hw rfl))
  have hret : pg_ret z = none := by unfold pg_ret; rw [hp.1]; rfl
  rw [if_neg (by rw [e2]; decide), hret] at cb
  have hk : pg_kd z ≠ 0 := by rw [e2]; decide
  exact mj_goW (va_runI (b := s.heap.size + a) (As := []) (rest := rest) (nL := 4) ⟨hx, hb, hml, hown, hts⟩ hM ⟨cb, hp.2.1, hts _ ((mj_zok hz).2.2.2.1 hk)⟩ ⟨mj_blind, fun U hU hW => ⟨rfl, by rw [hU]; exact hS.1, va_K.moved hW.alike hK, hE.warm hW⟩⟩ rfl (by rw [hp.2.2]; rfl) hl rfl (lv_room e4) hd hu) hS kk
theorem lw_new (C : lw_Cx D cA p s m meth c b L xs) (hS : mj_S D cA s.heap.size s.heap h H locs) {i ci : Nat} (hd : decode code pc = .ok (.new i, 3)) (e1 : pg_new 10 i = some ci) (hu : uc + 1 ≤ 600000 ∧ us + pg_nf ci ≤ 7302250)
    (kk : ∀ (H1 : Heap), mj_S D cA s.heap.size s.heap (mj_gr h (0, ci)) H1 locs → W p l e room_1 s m #[Value.ref b] below meth c H1 locs (uc + 1) (us + pg_nf ci) Q (F0 m (pc + 3) ls (.ref (s.heap.size + h.1) :: rest))) : W p l e room_1 s m #[Value.ref b] below meth c H locs uc us Q (F0 m pc ls rest) := by
  have C2 := lw_cx C
  obtain ⟨hx, hb, hml, hown, hts, hK, hB, ⟨g1, g2, hmc, hms⟩, hE, -⟩ := C2
  have f0 := pg_use (pg_kN 10) e1
  simp only [Bool.and_eq_true, decide_eq_true_eq] at f0
  obtain ⟨g1, g2, g3, g4, g5⟩ := mj_clok ci f0.2
  have hKn := hK.1 ci _ g1
  refine W.newcK hx hb hown (hts _ (pg_tb_of (pg_is_mem f0.1) rfl)) (hts _ g3.1) (hts _ g3.2) rfl hd hu.1 hu.2 hKn.2.1 rfl fun H1 kC hkC e4 z1 o1 => ?_
  have hz := hS.1.1
  have K := kk H1 (hS.grow (h2 := mj_gr h (0, ci)) rfl z1 o1 ?_ (fun x hx => mj_E_grow hx))
  · rw [hz]
    exact K
  · rw [mj_E0 (h := mj_gr h (0, ci)) (va_up_self _ _ _)]
    rw [hz] at e4
    refine ⟨_, g1, (u_born (pg_ty ci) hts g2 hKn hkC e4 (fun k hk => (g4 k hk).1)).to (fun j hj => ?_)⟩
    show _ = (mj_fs s.heap.size _ ci h.1).getD j .null
    rw [List.getD_eq_getElem?_getD, mj_fs_get hj]
    dsimp only [mj_gr]
    rw [va_up_self, va_up_self]
    have h2 := mj_tyok f0.2 hj
    unfold pg_fr
    generalize pg_ty ci j = t at h2
    cases t <;> first | (simp [pg_okT] at h2; done) | rfl
end lw_rows
